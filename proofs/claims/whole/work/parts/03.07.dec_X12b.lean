theorem dX12_byLaw_50 : decode cX12_byLaw 50 = .ok (.getfield 56, 3) := by decide +kernel
theorem dX12_byLaw_53 : decode cX12_byLaw 53 = .ok (.iload 4, 2) := by decide +kernel
theorem dX12_byLaw_55 : decode cX12_byLaw 55 = .ok (.iaload, 1) := by decide +kernel
theorem dX12_byLaw_56 : decode cX12_byLaw 56 = .ok (.aload_n 0, 1) := by decide +kernel
theorem dX12_byLaw_57 : decode cX12_byLaw 57 = .ok (.getfield 59, 3) := by decide +kernel
theorem dX12_byLaw_60 : decode cX12_byLaw 60 = .ok (.iload 4, 2) := by decide +kernel
theorem dX12_byLaw_62 : decode cX12_byLaw 62 = .ok (.iaload, 1) := by decide +kernel
theorem dX12_byLaw_63 : decode cX12_byLaw 63 = .ok (.invokevirtual 248, 3) := by decide +kernel
theorem dX12_byLaw_66 : decode cX12_byLaw 66 = .ok (.istore 5, 2) := by decide +kernel
theorem dX12_byLaw_68 : decode cX12_byLaw 68 = .ok (.iload 5, 2) := by decide +kernel
theorem dX12_byLaw_70 : decode cX12_byLaw 70 = .ok (.ifCond .ge 7, 3) := by decide +kernel
theorem dX12_byLaw_73 : decode cX12_byLaw 73 = .ok (.iconst 0, 1) := by decide +kernel
theorem dX12_byLaw_74 : decode cX12_byLaw 74 = .ok (.goto 15, 3) := by decide +kernel
theorem dX12_byLaw_77 : decode cX12_byLaw 77 = .ok (.iload 5, 2) := by decide +kernel
theorem dX12_byLaw_79 : decode cX12_byLaw 79 = .ok (.iload_n 2, 1) := by decide +kernel
theorem dX12_byLaw_80 : decode cX12_byLaw 80 = .ok (.if_icmp .le 7, 3) := by decide +kernel
theorem dX12_byLaw_83 : decode cX12_byLaw 83 = .ok (.iload_n 2, 1) := by decide +kernel
theorem dX12_byLaw_84 : decode cX12_byLaw 84 = .ok (.goto 5, 3) := by decide +kernel
theorem dX12_byLaw_87 : decode cX12_byLaw 87 = .ok (.iload 5, 2) := by decide +kernel
theorem dX12_byLaw_89 : decode cX12_byLaw 89 = .ok (.ireturn, 1) := by decide +kernel
theorem dX12_byLaw_90 : decode cX12_byLaw 90 = .ok (.iinc 4 1, 3) := by decide +kernel
theorem dX12_byLaw_93 : decode cX12_byLaw 93 = .ok (.goto (-90), 3) := by decide +kernel
theorem dX12_byLaw_96 : decode cX12_byLaw 96 = .ok (.iload_n 3, 1) := by decide +kernel
theorem dX12_byLaw_97 : decode cX12_byLaw 97 = .ok (.ireturn, 1) := by decide +kernel
theorem dX12_holdsAny_0 : decode cX12_holdsAny 0 = .ok (.iconst 0, 1) := by decide +kernel
theorem dX12_holdsAny_1 : decode cX12_holdsAny 1 = .ok (.istore_n 2, 1) := by decide +kernel
theorem dX12_holdsAny_2 : decode cX12_holdsAny 2 = .ok (.iload_n 2, 1) := by decide +kernel
theorem dX12_holdsAny_3 : decode cX12_holdsAny 3 = .ok (.aload_n 0, 1) := by decide +kernel
theorem dX12_holdsAny_4 : decode cX12_holdsAny 4 = .ok (.getfield 242, 3) := by decide +kernel
theorem dX12_holdsAny_7 : decode cX12_holdsAny 7 = .ok (.if_icmp .ge 41, 3) := by decide +kernel
theorem dX12_holdsAny_10 : decode cX12_holdsAny 10 = .ok (.aload_n 0, 1) := by decide +kernel
theorem dX12_holdsAny_11 : decode cX12_holdsAny 11 = .ok (.getfield 53, 3) := by decide +kernel
theorem dX12_holdsAny_14 : decode cX12_holdsAny 14 = .ok (.iload_n 2, 1) := by decide +kernel
theorem dX12_holdsAny_15 : decode cX12_holdsAny 15 = .ok (.iaload, 1) := by decide +kernel
theorem dX12_holdsAny_16 : decode cX12_holdsAny 16 = .ok (.iload_n 1, 1) := by decide +kernel
theorem dX12_holdsAny_17 : decode cX12_holdsAny 17 = .ok (.if_icmp .ne 25, 3) := by decide +kernel
theorem dX12_holdsAny_20 : decode cX12_holdsAny 20 = .ok (.aload_n 0, 1) := by decide +kernel
theorem dX12_holdsAny_21 : decode cX12_holdsAny 21 = .ok (.aload_n 0, 1) := by decide +kernel
theorem dX12_holdsAny_22 : decode cX12_holdsAny 22 = .ok (.getfield 59, 3) := by decide +kernel
theorem dX12_holdsAny_25 : decode cX12_holdsAny 25 = .ok (.iload_n 2, 1) := by decide +kernel
theorem dX12_holdsAny_26 : decode cX12_holdsAny 26 = .ok (.iaload, 1) := by decide +kernel
theorem dX12_holdsAny_27 : decode cX12_holdsAny 27 = .ok (.aload_n 0, 1) := by decide +kernel
theorem dX12_holdsAny_28 : decode cX12_holdsAny 28 = .ok (.getfield 62, 3) := by decide +kernel
theorem dX12_holdsAny_31 : decode cX12_holdsAny 31 = .ok (.iload_n 2, 1) := by decide +kernel
theorem dX12_holdsAny_32 : decode cX12_holdsAny 32 = .ok (.iaload, 1) := by decide +kernel
theorem dX12_holdsAny_33 : decode cX12_holdsAny 33 = .ok (.invokevirtual 248, 3) := by decide +kernel
theorem dX12_holdsAny_36 : decode cX12_holdsAny 36 = .ok (.iconst 1, 1) := by decide +kernel
theorem dX12_holdsAny_37 : decode cX12_holdsAny 37 = .ok (.if_icmp .ne 5, 3) := by decide +kernel
theorem dX12_holdsAny_40 : decode cX12_holdsAny 40 = .ok (.iconst 1, 1) := by decide +kernel
theorem dX12_holdsAny_41 : decode cX12_holdsAny 41 = .ok (.ireturn, 1) := by decide +kernel
theorem dX12_holdsAny_42 : decode cX12_holdsAny 42 = .ok (.iinc 2 1, 3) := by decide +kernel
theorem dX12_holdsAny_45 : decode cX12_holdsAny 45 = .ok (.goto (-43), 3) := by decide +kernel
theorem dX12_holdsAny_48 : decode cX12_holdsAny 48 = .ok (.iconst 0, 1) := by decide +kernel
theorem dX12_holdsAny_49 : decode cX12_holdsAny 49 = .ok (.ireturn, 1) := by decide +kernel
theorem dX12_isLetter_0 : decode cX12_isLetter 0 = .ok (.aload_n 0, 1) := by decide +kernel
theorem dX12_isLetter_1 : decode cX12_isLetter 1 = .ok (.invokevirtual 156, 3) := by decide +kernel
theorem dX12_isLetter_4 : decode cX12_isLetter 4 = .ok (.bipush 97, 2) := by decide +kernel
theorem dX12_isLetter_6 : decode cX12_isLetter 6 = .ok (.isub, 1) := by decide +kernel
theorem dX12_isLetter_7 : decode cX12_isLetter 7 = .ok (.iconst 0, 1) := by decide +kernel
theorem dX12_isLetter_8 : decode cX12_isLetter 8 = .ok (.bipush 15, 2) := by decide +kernel
theorem dX12_isLetter_10 : decode cX12_isLetter 10 = .ok (.invokestatic 105, 3) := by decide +kernel
theorem dX12_isLetter_13 : decode cX12_isLetter 13 = .ok (.ireturn, 1) := by decide +kernel
theorem dX12_readsAmount_0 : decode cX12_readsAmount 0 = .ok (.aload_n 0, 1) := by decide +kernel
theorem dX12_readsAmount_1 : decode cX12_readsAmount 1 = .ok (.getfield 150, 3) := by decide +kernel
theorem dX12_readsAmount_4 : decode cX12_readsAmount 4 = .ok (.istore_n 1, 1) := by decide +kernel
theorem dX12_readsAmount_5 : decode cX12_readsAmount 5 = .ok (.aload_n 0, 1) := by decide +kernel
theorem dX12_readsAmount_6 : decode cX12_readsAmount 6 = .ok (.invokevirtual 169, 3) := by decide +kernel
theorem dX12_readsAmount_9 : decode cX12_readsAmount 9 = .ok (.ifCond .ne 13, 3) := by decide +kernel
theorem dX12_readsAmount_12 : decode cX12_readsAmount 12 = .ok (.aload_n 0, 1) := by decide +kernel
theorem dX12_readsAmount_13 : decode cX12_readsAmount 13 = .ok (.iconst 1, 1) := by decide +kernel
theorem dX12_readsAmount_14 : decode cX12_readsAmount 14 = .ok (.aload_n 0, 1) := by decide +kernel
theorem dX12_readsAmount_15 : decode cX12_readsAmount 15 = .ok (.getfield 150, 3) := by decide +kernel
theorem dX12_readsAmount_18 : decode cX12_readsAmount 18 = .ok (.invokevirtual 163, 3) := by decide +kernel
theorem dX12_readsAmount_21 : decode cX12_readsAmount 21 = .ok (.ireturn, 1) := by decide +kernel
theorem dX12_readsAmount_22 : decode cX12_readsAmount 22 = .ok (.aload_n 0, 1) := by decide +kernel
theorem dX12_readsAmount_23 : decode cX12_readsAmount 23 = .ok (.iconst 0, 1) := by decide +kernel
theorem dX12_readsAmount_24 : decode cX12_readsAmount 24 = .ok (.putfield 166, 3) := by decide +kernel
theorem dX12_readsAmount_27 : decode cX12_readsAmount 27 = .ok (.aload_n 0, 1) := by decide +kernel
theorem dX12_readsAmount_28 : decode cX12_readsAmount 28 = .ok (.invokevirtual 169, 3) := by decide +kernel
theorem dX12_readsAmount_31 : decode cX12_readsAmount 31 = .ok (.ifCond .eq 55, 3) := by decide +kernel
theorem dX12_readsAmount_34 : decode cX12_readsAmount 34 = .ok (.aload_n 0, 1) := by decide +kernel
theorem dX12_readsAmount_35 : decode cX12_readsAmount 35 = .ok (.getfield 150, 3) := by decide +kernel
theorem dX12_readsAmount_38 : decode cX12_readsAmount 38 = .ok (.iload_n 1, 1) := by decide +kernel
theorem dX12_readsAmount_39 : decode cX12_readsAmount 39 = .ok (.iconst 2, 1) := by decide +kernel
theorem dX12_readsAmount_40 : decode cX12_readsAmount 40 = .ok (.iadd, 1) := by decide +kernel
theorem dX12_readsAmount_41 : decode cX12_readsAmount 41 = .ok (.if_icmp .ne 13, 3) := by decide +kernel
theorem dX12_readsAmount_44 : decode cX12_readsAmount 44 = .ok (.aload_n 0, 1) := by decide +kernel
theorem dX12_readsAmount_45 : decode cX12_readsAmount 45 = .ok (.iconst 2, 1) := by decide +kernel
theorem dX12_readsAmount_46 : decode cX12_readsAmount 46 = .ok (.aload_n 0, 1) := by decide +kernel
theorem dX12_readsAmount_47 : decode cX12_readsAmount 47 = .ok (.getfield 150, 3) := by decide +kernel
theorem dX12_readsAmount_50 : decode cX12_readsAmount 50 = .ok (.invokevirtual 163, 3) := by decide +kernel
theorem dX12_readsAmount_53 : decode cX12_readsAmount 53 = .ok (.ireturn, 1) := by decide +kernel
theorem dX12_readsAmount_54 : decode cX12_readsAmount 54 = .ok (.aload_n 0, 1) := by decide +kernel
theorem dX12_readsAmount_55 : decode cX12_readsAmount 55 = .ok (.bipush 10, 2) := by decide +kernel
theorem dX12_readsAmount_57 : decode cX12_readsAmount 57 = .ok (.aload_n 0, 1) := by decide +kernel
theorem dX12_readsAmount_58 : decode cX12_readsAmount 58 = .ok (.getfield 166, 3) := by decide +kernel
theorem dX12_readsAmount_61 : decode cX12_readsAmount 61 = .ok (.imul, 1) := by decide +kernel
theorem dX12_readsAmount_62 : decode cX12_readsAmount 62 = .ok (.aload_n 0, 1) := by decide +kernel
theorem dX12_readsAmount_63 : decode cX12_readsAmount 63 = .ok (.invokevirtual 156, 3) := by decide +kernel
theorem dX12_readsAmount_66 : decode cX12_readsAmount 66 = .ok (.iadd, 1) := by decide +kernel
theorem dX12_readsAmount_67 : decode cX12_readsAmount 67 = .ok (.bipush 48, 2) := by decide +kernel
theorem dX12_readsAmount_69 : decode cX12_readsAmount 69 = .ok (.isub, 1) := by decide +kernel
theorem dX12_readsAmount_70 : decode cX12_readsAmount 70 = .ok (.putfield 166, 3) := by decide +kernel
theorem dX12_readsAmount_73 : decode cX12_readsAmount 73 = .ok (.aload_n 0, 1) := by decide +kernel
theorem dX12_readsAmount_74 : decode cX12_readsAmount 74 = .ok (.aload_n 0, 1) := by decide +kernel
theorem dX12_readsAmount_75 : decode cX12_readsAmount 75 = .ok (.getfield 150, 3) := by decide +kernel
theorem dX12_readsAmount_78 : decode cX12_readsAmount 78 = .ok (.iconst 1, 1) := by decide +kernel
theorem dX12_readsAmount_79 : decode cX12_readsAmount 79 = .ok (.iadd, 1) := by decide +kernel
theorem dX12_readsAmount_80 : decode cX12_readsAmount 80 = .ok (.putfield 150, 3) := by decide +kernel
theorem dX12_readsAmount_83 : decode cX12_readsAmount 83 = .ok (.goto (-56), 3) := by decide +kernel
theorem dX12_readsAmount_86 : decode cX12_readsAmount 86 = .ok (.iconst 1, 1) := by decide +kernel
theorem dX12_readsAmount_87 : decode cX12_readsAmount 87 = .ok (.ireturn, 1) := by decide +kernel
theorem dX12_parts_0 : decode cX12_parts 0 = .ok (.aload_n 0, 1) := by decide +kernel
theorem dX12_parts_1 : decode cX12_parts 1 = .ok (.getfield 19, 3) := by decide +kernel
theorem dX12_parts_4 : decode cX12_parts 4 = .ok (.aload_n 0, 1) := by decide +kernel
theorem dX12_parts_5 : decode cX12_parts 5 = .ok (.getfield 19, 3) := by decide +kernel
theorem dX12_parts_8 : decode cX12_parts 8 = .ok (.iload_n 1, 1) := by decide +kernel
theorem dX12_parts_9 : decode cX12_parts 9 = .ok (.iaload, 1) := by decide +kernel
theorem dX12_parts_10 : decode cX12_parts 10 = .ok (.aload_n 0, 1) := by decide +kernel
theorem dX12_parts_11 : decode cX12_parts 11 = .ok (.getfield 19, 3) := by decide +kernel
theorem dX12_parts_14 : decode cX12_parts 14 = .ok (.iload_n 1, 1) := by decide +kernel
theorem dX12_parts_15 : decode cX12_parts 15 = .ok (.iaload, 1) := by decide +kernel
theorem dX12_parts_16 : decode cX12_parts 16 = .ok (.iastore, 1) := by decide +kernel
theorem dX12_parts_17 : decode cX12_parts 17 = .ok (.aload_n 0, 1) := by decide +kernel
theorem dX12_parts_18 : decode cX12_parts 18 = .ok (.getfield 19, 3) := by decide +kernel
theorem dX12_parts_21 : decode cX12_parts 21 = .ok (.iload_n 1, 1) := by decide +kernel
theorem dX12_parts_22 : decode cX12_parts 22 = .ok (.iload_n 1, 1) := by decide +kernel
theorem dX12_parts_23 : decode cX12_parts 23 = .ok (.iastore, 1) := by decide +kernel
theorem dX12_parts_24 : decode cX12_parts 24 = .ok (.return_, 1) := by decide +kernel
theorem dX12_readsRhyme_0 : decode cX12_readsRhyme 0 = .ok (.aload_n 0, 1) := by decide +kernel
theorem dX12_readsRhyme_1 : decode cX12_readsRhyme 1 = .ok (.invokevirtual 251, 3) := by decide +kernel
theorem dX12_readsRhyme_4 : decode cX12_readsRhyme 4 = .ok (.ifCond .ne 13, 3) := by decide +kernel
theorem dX12_readsRhyme_7 : decode cX12_readsRhyme 7 = .ok (.aload_n 0, 1) := by decide +kernel
theorem dX12_readsRhyme_8 : decode cX12_readsRhyme 8 = .ok (.iconst 1, 1) := by decide +kernel
theorem dX12_readsRhyme_9 : decode cX12_readsRhyme 9 = .ok (.aload_n 0, 1) := by decide +kernel
theorem dX12_readsRhyme_10 : decode cX12_readsRhyme 10 = .ok (.getfield 150, 3) := by decide +kernel
theorem dX12_readsRhyme_13 : decode cX12_readsRhyme 13 = .ok (.invokevirtual 163, 3) := by decide +kernel
theorem dX12_readsRhyme_16 : decode cX12_readsRhyme 16 = .ok (.ireturn, 1) := by decide +kernel
theorem dX12_readsRhyme_17 : decode cX12_readsRhyme 17 = .ok (.aload_n 0, 1) := by decide +kernel
theorem dX12_readsRhyme_18 : decode cX12_readsRhyme 18 = .ok (.invokevirtual 156, 3) := by decide +kernel
theorem dX12_readsRhyme_21 : decode cX12_readsRhyme 21 = .ok (.bipush 97, 2) := by decide +kernel
theorem dX12_readsRhyme_23 : decode cX12_readsRhyme 23 = .ok (.isub, 1) := by decide +kernel
theorem dX12_readsRhyme_24 : decode cX12_readsRhyme 24 = .ok (.istore_n 2, 1) := by decide +kernel
theorem dX12_readsRhyme_25 : decode cX12_readsRhyme 25 = .ok (.aload_n 0, 1) := by decide +kernel
theorem dX12_readsRhyme_26 : decode cX12_readsRhyme 26 = .ok (.aload_n 0, 1) := by decide +kernel
theorem dX12_readsRhyme_27 : decode cX12_readsRhyme 27 = .ok (.getfield 150, 3) := by decide +kernel
theorem dX12_readsRhyme_30 : decode cX12_readsRhyme 30 = .ok (.iconst 1, 1) := by decide +kernel
theorem dX12_readsRhyme_31 : decode cX12_readsRhyme 31 = .ok (.iadd, 1) := by decide +kernel
theorem dX12_readsRhyme_32 : decode cX12_readsRhyme 32 = .ok (.putfield 150, 3) := by decide +kernel
theorem dX12_readsRhyme_35 : decode cX12_readsRhyme 35 = .ok (.aload_n 0, 1) := by decide +kernel
theorem dX12_readsRhyme_36 : decode cX12_readsRhyme 36 = .ok (.iload_n 1, 1) := by decide +kernel
theorem dX12_readsRhyme_37 : decode cX12_readsRhyme 37 = .ok (.invokevirtual 254, 3) := by decide +kernel
theorem dX12_readsRhyme_40 : decode cX12_readsRhyme 40 = .ok (.aload_n 0, 1) := by decide +kernel
theorem dX12_readsRhyme_41 : decode cX12_readsRhyme 41 = .ok (.iload_n 2, 1) := by decide +kernel
theorem dX12_readsRhyme_42 : decode cX12_readsRhyme 42 = .ok (.invokevirtual 254, 3) := by decide +kernel
theorem dX12_readsRhyme_45 : decode cX12_readsRhyme 45 = .ok (.aload_n 0, 1) := by decide +kernel
theorem dX12_readsRhyme_46 : decode cX12_readsRhyme 46 = .ok (.getfield 19, 3) := by decide +kernel
theorem dX12_readsRhyme_49 : decode cX12_readsRhyme 49 = .ok (.iload_n 1, 1) := by decide +kernel
theorem dX12_readsRhyme_50 : decode cX12_readsRhyme 50 = .ok (.iload_n 2, 1) := by decide +kernel
theorem dX12_readsRhyme_51 : decode cX12_readsRhyme 51 = .ok (.iastore, 1) := by decide +kernel
theorem dX12_readsRhyme_52 : decode cX12_readsRhyme 52 = .ok (.aload_n 0, 1) := by decide +kernel
theorem dX12_readsRhyme_53 : decode cX12_readsRhyme 53 = .ok (.getfield 19, 3) := by decide +kernel
theorem dX12_readsRhyme_56 : decode cX12_readsRhyme 56 = .ok (.iload_n 2, 1) := by decide +kernel
theorem dX12_readsRhyme_57 : decode cX12_readsRhyme 57 = .ok (.iload_n 1, 1) := by decide +kernel
theorem dX12_readsRhyme_58 : decode cX12_readsRhyme 58 = .ok (.iastore, 1) := by decide +kernel
theorem dX12_readsRhyme_59 : decode cX12_readsRhyme 59 = .ok (.iconst 1, 1) := by decide +kernel
theorem dX12_readsRhyme_60 : decode cX12_readsRhyme 60 = .ok (.ireturn, 1) := by decide +kernel
theorem dX12_readsWordLine_0 : decode cX12_readsWordLine 0 = .ok (.aload_n 0, 1) := by decide +kernel
theorem dX12_readsWordLine_1 : decode cX12_readsWordLine 1 = .ok (.invokevirtual 156, 3) := by decide +kernel
theorem dX12_readsWordLine_4 : decode cX12_readsWordLine 4 = .ok (.bipush 97, 2) := by decide +kernel
theorem dX12_readsWordLine_6 : decode cX12_readsWordLine 6 = .ok (.isub, 1) := by decide +kernel
theorem dX12_readsWordLine_7 : decode cX12_readsWordLine 7 = .ok (.istore_n 2, 1) := by decide +kernel
theorem dX12_readsWordLine_8 : decode cX12_readsWordLine 8 = .ok (.bipush 32, 2) := by decide +kernel
theorem dX12_readsWordLine_10 : decode cX12_readsWordLine 10 = .ok (.bipush 16, 2) := by decide +kernel
theorem dX12_readsWordLine_12 : decode cX12_readsWordLine 12 = .ok (.iload_n 1, 1) := by decide +kernel
theorem dX12_readsWordLine_13 : decode cX12_readsWordLine 13 = .ok (.imul, 1) := by decide +kernel
theorem dX12_readsWordLine_14 : decode cX12_readsWordLine 14 = .ok (.iadd, 1) := by decide +kernel
theorem dX12_readsWordLine_15 : decode cX12_readsWordLine 15 = .ok (.iload_n 2, 1) := by decide +kernel
theorem dX12_readsWordLine_16 : decode cX12_readsWordLine 16 = .ok (.iadd, 1) := by decide +kernel
theorem dX12_readsWordLine_17 : decode cX12_readsWordLine 17 = .ok (.istore_n 3, 1) := by decide +kernel
theorem dX12_readsWordLine_18 : decode cX12_readsWordLine 18 = .ok (.aload_n 0, 1) := by decide +kernel
theorem dX12_readsWordLine_19 : decode cX12_readsWordLine 19 = .ok (.aload_n 0, 1) := by decide +kernel
theorem dX12_readsWordLine_20 : decode cX12_readsWordLine 20 = .ok (.getfield 150, 3) := by decide +kernel
theorem dX12_readsWordLine_23 : decode cX12_readsWordLine 23 = .ok (.iconst 1, 1) := by decide +kernel
theorem dX12_readsWordLine_24 : decode cX12_readsWordLine 24 = .ok (.iadd, 1) := by decide +kernel
theorem dX12_readsWordLine_25 : decode cX12_readsWordLine 25 = .ok (.putfield 150, 3) := by decide +kernel
theorem dX12_readsWordLine_28 : decode cX12_readsWordLine 28 = .ok (.aload_n 0, 1) := by decide +kernel
theorem dX12_readsWordLine_29 : decode cX12_readsWordLine 29 = .ok (.invokevirtual 156, 3) := by decide +kernel
theorem dX12_readsWordLine_32 : decode cX12_readsWordLine 32 = .ok (.istore 4, 2) := by decide +kernel
theorem dX12_readsWordLine_34 : decode cX12_readsWordLine 34 = .ok (.iload 4, 2) := by decide +kernel
theorem dX12_readsWordLine_36 : decode cX12_readsWordLine 36 = .ok (.bipush 61, 2) := by decide +kernel
theorem dX12_readsWordLine_38 : decode cX12_readsWordLine 38 = .ok (.if_icmp .eq 34, 3) := by decide +kernel
theorem dX12_readsWordLine_41 : decode cX12_readsWordLine 41 = .ok (.iload 4, 2) := by decide +kernel
theorem dX12_readsWordLine_43 : decode cX12_readsWordLine 43 = .ok (.bipush 43, 2) := by decide +kernel
theorem dX12_readsWordLine_45 : decode cX12_readsWordLine 45 = .ok (.if_icmp .eq 27, 3) := by decide +kernel
theorem dX12_readsWordLine_48 : decode cX12_readsWordLine 48 = .ok (.iload 4, 2) := by decide +kernel
theorem dX12_readsWordLine_50 : decode cX12_readsWordLine 50 = .ok (.bipush 45, 2) := by decide +kernel
theorem dX12_readsWordLine_52 : decode cX12_readsWordLine 52 = .ok (.if_icmp .eq 20, 3) := by decide +kernel
theorem dX12_readsWordLine_55 : decode cX12_readsWordLine 55 = .ok (.iload 4, 2) := by decide +kernel
theorem dX12_readsWordLine_57 : decode cX12_readsWordLine 57 = .ok (.bipush 126, 2) := by decide +kernel
theorem dX12_readsWordLine_59 : decode cX12_readsWordLine 59 = .ok (.if_icmp .eq 13, 3) := by decide +kernel
theorem dX12_readsWordLine_62 : decode cX12_readsWordLine 62 = .ok (.aload_n 0, 1) := by decide +kernel
theorem dX12_readsWordLine_63 : decode cX12_readsWordLine 63 = .ok (.iconst 1, 1) := by decide +kernel
theorem dX12_readsWordLine_64 : decode cX12_readsWordLine 64 = .ok (.aload_n 0, 1) := by decide +kernel
theorem dX12_readsWordLine_65 : decode cX12_readsWordLine 65 = .ok (.getfield 150, 3) := by decide +kernel
theorem dX12_readsWordLine_68 : decode cX12_readsWordLine 68 = .ok (.invokevirtual 163, 3) := by decide +kernel
theorem dX12_readsWordLine_71 : decode cX12_readsWordLine 71 = .ok (.ireturn, 1) := by decide +kernel
theorem dX12_readsWordLine_72 : decode cX12_readsWordLine 72 = .ok (.aload_n 0, 1) := by decide +kernel
theorem dX12_readsWordLine_73 : decode cX12_readsWordLine 73 = .ok (.aload_n 0, 1) := by decide +kernel
theorem dX12_readsWordLine_74 : decode cX12_readsWordLine 74 = .ok (.getfield 150, 3) := by decide +kernel
theorem dX12_readsWordLine_77 : decode cX12_readsWordLine 77 = .ok (.iconst 1, 1) := by decide +kernel
theorem dX12_readsWordLine_78 : decode cX12_readsWordLine 78 = .ok (.iadd, 1) := by decide +kernel
theorem dX12_readsWordLine_79 : decode cX12_readsWordLine 79 = .ok (.putfield 150, 3) := by decide +kernel
theorem dX12_readsWordLine_82 : decode cX12_readsWordLine 82 = .ok (.iload 4, 2) := by decide +kernel
theorem dX12_readsWordLine_84 : decode cX12_readsWordLine 84 = .ok (.bipush 126, 2) := by decide +kernel
theorem dX12_readsWordLine_86 : decode cX12_readsWordLine 86 = .ok (.if_icmp .ne 9, 3) := by decide +kernel
theorem dX12_readsWordLine_89 : decode cX12_readsWordLine 89 = .ok (.aload_n 0, 1) := by decide +kernel
theorem dX12_readsWordLine_90 : decode cX12_readsWordLine 90 = .ok (.iload_n 2, 1) := by decide +kernel
theorem dX12_readsWordLine_91 : decode cX12_readsWordLine 91 = .ok (.invokevirtual 257, 3) := by decide +kernel
theorem dX12_readsWordLine_94 : decode cX12_readsWordLine 94 = .ok (.ireturn, 1) := by decide +kernel
theorem dX12_readsWordLine_95 : decode cX12_readsWordLine 95 = .ok (.aload_n 0, 1) := by decide +kernel
theorem dX12_readsWordLine_96 : decode cX12_readsWordLine 96 = .ok (.invokevirtual 260, 3) := by decide +kernel
theorem dX12_readsWordLine_99 : decode cX12_readsWordLine 99 = .ok (.ifCond .ne 5, 3) := by decide +kernel
theorem dX12_readsWordLine_102 : decode cX12_readsWordLine 102 = .ok (.iconst 0, 1) := by decide +kernel
theorem dX12_readsWordLine_103 : decode cX12_readsWordLine 103 = .ok (.ireturn, 1) := by decide +kernel
theorem dX12_readsWordLine_104 : decode cX12_readsWordLine 104 = .ok (.aload_n 0, 1) := by decide +kernel
theorem dX12_readsWordLine_105 : decode cX12_readsWordLine 105 = .ok (.getfield 7, 3) := by decide +kernel
theorem dX12_readsWordLine_108 : decode cX12_readsWordLine 108 = .ok (.iload_n 3, 1) := by decide +kernel
theorem dX12_readsWordLine_109 : decode cX12_readsWordLine 109 = .ok (.iload 4, 2) := by decide +kernel
theorem dX12_readsWordLine_111 : decode cX12_readsWordLine 111 = .ok (.bipush 61, 2) := by decide +kernel
theorem dX12_readsWordLine_113 : decode cX12_readsWordLine 113 = .ok (.if_icmp .ne 10, 3) := by decide +kernel
theorem dX12_readsWordLine_116 : decode cX12_readsWordLine 116 = .ok (.aload_n 0, 1) := by decide +kernel
theorem dX12_readsWordLine_117 : decode cX12_readsWordLine 117 = .ok (.getfield 166, 3) := by decide +kernel
theorem dX12_readsWordLine_120 : decode cX12_readsWordLine 120 = .ok (.goto 32, 3) := by decide +kernel
theorem dX12_readsWordLine_123 : decode cX12_readsWordLine 123 = .ok (.aload_n 0, 1) := by decide +kernel
theorem dX12_readsWordLine_124 : decode cX12_readsWordLine 124 = .ok (.getfield 7, 3) := by decide +kernel
theorem dX12_readsWordLine_127 : decode cX12_readsWordLine 127 = .ok (.iload_n 3, 1) := by decide +kernel
theorem dX12_readsWordLine_128 : decode cX12_readsWordLine 128 = .ok (.iaload, 1) := by decide +kernel
theorem dX12_readsWordLine_129 : decode cX12_readsWordLine 129 = .ok (.iload 4, 2) := by decide +kernel
theorem dX12_readsWordLine_131 : decode cX12_readsWordLine 131 = .ok (.bipush 43, 2) := by decide +kernel
theorem dX12_readsWordLine_133 : decode cX12_readsWordLine 133 = .ok (.if_icmp .ne 10, 3) := by decide +kernel
theorem dX12_readsWordLine_136 : decode cX12_readsWordLine 136 = .ok (.aload_n 0, 1) := by decide +kernel
theorem dX12_readsWordLine_137 : decode cX12_readsWordLine 137 = .ok (.getfield 166, 3) := by decide +kernel
theorem dX12_readsWordLine_140 : decode cX12_readsWordLine 140 = .ok (.goto 8, 3) := by decide +kernel
theorem dX12_readsWordLine_143 : decode cX12_readsWordLine 143 = .ok (.aload_n 0, 1) := by decide +kernel
theorem dX12_readsWordLine_144 : decode cX12_readsWordLine 144 = .ok (.getfield 166, 3) := by decide +kernel
theorem dX12_readsWordLine_147 : decode cX12_readsWordLine 147 = .ok (.ineg, 1) := by decide +kernel
theorem dX12_readsWordLine_148 : decode cX12_readsWordLine 148 = .ok (.iadd, 1) := by decide +kernel
theorem dX12_readsWordLine_149 : decode cX12_readsWordLine 149 = .ok (.invokestatic 116, 3) := by decide +kernel
theorem dX12_readsWordLine_152 : decode cX12_readsWordLine 152 = .ok (.iastore, 1) := by decide +kernel
theorem dX12_readsWordLine_153 : decode cX12_readsWordLine 153 = .ok (.iconst 1, 1) := by decide +kernel
theorem dX12_readsWordLine_154 : decode cX12_readsWordLine 154 = .ok (.ireturn, 1) := by decide +kernel
theorem dX12_readsKind_0 : decode cX12_readsKind 0 = .ok (.aload_n 0, 1) := by decide +kernel
theorem dX12_readsKind_1 : decode cX12_readsKind 1 = .ok (.invokevirtual 156, 3) := by decide +kernel
theorem dX12_readsKind_4 : decode cX12_readsKind 4 = .ok (.bipush 48, 2) := by decide +kernel
theorem dX12_readsKind_6 : decode cX12_readsKind 6 = .ok (.bipush 52, 2) := by decide +kernel
theorem dX12_readsKind_8 : decode cX12_readsKind 8 = .ok (.invokestatic 105, 3) := by decide +kernel
theorem dX12_readsKind_11 : decode cX12_readsKind 11 = .ok (.ifCond .ne 13, 3) := by decide +kernel
theorem dX12_readsKind_14 : decode cX12_readsKind 14 = .ok (.aload_n 0, 1) := by decide +kernel
theorem dX12_readsKind_15 : decode cX12_readsKind 15 = .ok (.iconst 1, 1) := by decide +kernel
theorem dX12_readsKind_16 : decode cX12_readsKind 16 = .ok (.aload_n 0, 1) := by decide +kernel
theorem dX12_readsKind_17 : decode cX12_readsKind 17 = .ok (.getfield 150, 3) := by decide +kernel
theorem dX12_readsKind_20 : decode cX12_readsKind 20 = .ok (.invokevirtual 163, 3) := by decide +kernel
theorem dX12_readsKind_23 : decode cX12_readsKind 23 = .ok (.ireturn, 1) := by decide +kernel
theorem dX12_readsKind_24 : decode cX12_readsKind 24 = .ok (.aload_n 0, 1) := by decide +kernel
theorem dX12_readsKind_25 : decode cX12_readsKind 25 = .ok (.getfield 7, 3) := by decide +kernel
theorem dX12_readsKind_28 : decode cX12_readsKind 28 = .ok (.bipush 8, 2) := by decide +kernel
theorem dX12_readsKind_30 : decode cX12_readsKind 30 = .ok (.iload_n 1, 1) := by decide +kernel
theorem dX12_readsKind_31 : decode cX12_readsKind 31 = .ok (.iadd, 1) := by decide +kernel
theorem dX12_readsKind_32 : decode cX12_readsKind 32 = .ok (.aload_n 0, 1) := by decide +kernel
theorem dX12_readsKind_33 : decode cX12_readsKind 33 = .ok (.invokevirtual 156, 3) := by decide +kernel
theorem dX12_readsKind_36 : decode cX12_readsKind 36 = .ok (.bipush 48, 2) := by decide +kernel
theorem dX12_readsKind_38 : decode cX12_readsKind 38 = .ok (.isub, 1) := by decide +kernel
theorem dX12_readsKind_39 : decode cX12_readsKind 39 = .ok (.iastore, 1) := by decide +kernel
theorem dX12_readsKind_40 : decode cX12_readsKind 40 = .ok (.aload_n 0, 1) := by decide +kernel
theorem dX12_readsKind_41 : decode cX12_readsKind 41 = .ok (.aload_n 0, 1) := by decide +kernel
theorem dX12_readsKind_42 : decode cX12_readsKind 42 = .ok (.getfield 150, 3) := by decide +kernel
theorem dX12_readsKind_45 : decode cX12_readsKind 45 = .ok (.iconst 1, 1) := by decide +kernel
theorem dX12_readsKind_46 : decode cX12_readsKind 46 = .ok (.iadd, 1) := by decide +kernel
theorem dX12_readsKind_47 : decode cX12_readsKind 47 = .ok (.putfield 150, 3) := by decide +kernel
theorem dX12_readsKind_50 : decode cX12_readsKind 50 = .ok (.iconst 1, 1) := by decide +kernel
theorem dX12_readsKind_51 : decode cX12_readsKind 51 = .ok (.ireturn, 1) := by decide +kernel
theorem dX12_readsLine_0 : decode cX12_readsLine 0 = .ok (.aload_n 0, 1) := by decide +kernel
theorem dX12_readsLine_1 : decode cX12_readsLine 1 = .ok (.invokevirtual 156, 3) := by decide +kernel
theorem dX12_readsLine_4 : decode cX12_readsLine 4 = .ok (.istore_n 2, 1) := by decide +kernel
theorem dX12_readsLine_5 : decode cX12_readsLine 5 = .ok (.aload_n 0, 1) := by decide +kernel
theorem dX12_readsLine_6 : decode cX12_readsLine 6 = .ok (.invokevirtual 251, 3) := by decide +kernel
theorem dX12_readsLine_9 : decode cX12_readsLine 9 = .ok (.ifCond .ne 25, 3) := by decide +kernel
theorem dX12_readsLine_12 : decode cX12_readsLine 12 = .ok (.iload_n 2, 1) := by decide +kernel
theorem dX12_readsLine_13 : decode cX12_readsLine 13 = .ok (.bipush 33, 2) := by decide +kernel
theorem dX12_readsLine_15 : decode cX12_readsLine 15 = .ok (.if_icmp .eq 19, 3) := by decide +kernel
theorem dX12_readsLine_18 : decode cX12_readsLine 18 = .ok (.iload_n 2, 1) := by decide +kernel
theorem dX12_readsLine_19 : decode cX12_readsLine 19 = .ok (.bipush 35, 2) := by decide +kernel
theorem dX12_readsLine_21 : decode cX12_readsLine 21 = .ok (.if_icmp .eq 13, 3) := by decide +kernel
theorem dX12_readsLine_24 : decode cX12_readsLine 24 = .ok (.aload_n 0, 1) := by decide +kernel
theorem dX12_readsLine_25 : decode cX12_readsLine 25 = .ok (.iconst 1, 1) := by decide +kernel
theorem dX12_readsLine_26 : decode cX12_readsLine 26 = .ok (.aload_n 0, 1) := by decide +kernel
theorem dX12_readsLine_27 : decode cX12_readsLine 27 = .ok (.getfield 150, 3) := by decide +kernel
theorem dX12_readsLine_30 : decode cX12_readsLine 30 = .ok (.invokevirtual 163, 3) := by decide +kernel
theorem dX12_readsLine_33 : decode cX12_readsLine 33 = .ok (.ireturn, 1) := by decide +kernel
theorem dX12_readsLine_34 : decode cX12_readsLine 34 = .ok (.aload_n 0, 1) := by decide +kernel
theorem dX12_readsLine_35 : decode cX12_readsLine 35 = .ok (.getfield 263, 3) := by decide +kernel
theorem dX12_readsLine_38 : decode cX12_readsLine 38 = .ok (.bipush 20, 2) := by decide +kernel
theorem dX12_readsLine_40 : decode cX12_readsLine 40 = .ok (.if_icmp .ne 13, 3) := by decide +kernel
theorem dX12_readsLine_43 : decode cX12_readsLine 43 = .ok (.aload_n 0, 1) := by decide +kernel
theorem dX12_readsLine_44 : decode cX12_readsLine 44 = .ok (.iconst 4, 1) := by decide +kernel
theorem dX12_readsLine_45 : decode cX12_readsLine 45 = .ok (.aload_n 0, 1) := by decide +kernel
theorem dX12_readsLine_46 : decode cX12_readsLine 46 = .ok (.getfield 150, 3) := by decide +kernel
theorem dX12_readsLine_49 : decode cX12_readsLine 49 = .ok (.invokevirtual 163, 3) := by decide +kernel
theorem dX12_readsLine_52 : decode cX12_readsLine 52 = .ok (.ireturn, 1) := by decide +kernel
theorem dX12_readsLine_53 : decode cX12_readsLine 53 = .ok (.aload_n 0, 1) := by decide +kernel
theorem dX12_readsLine_54 : decode cX12_readsLine 54 = .ok (.aload_n 0, 1) := by decide +kernel
theorem dX12_readsLine_55 : decode cX12_readsLine 55 = .ok (.getfield 263, 3) := by decide +kernel
theorem dX12_readsLine_58 : decode cX12_readsLine 58 = .ok (.iconst 1, 1) := by decide +kernel
theorem dX12_readsLine_59 : decode cX12_readsLine 59 = .ok (.iadd, 1) := by decide +kernel
theorem dX12_readsLine_60 : decode cX12_readsLine 60 = .ok (.putfield 263, 3) := by decide +kernel
theorem dX12_readsLine_63 : decode cX12_readsLine 63 = .ok (.aload_n 0, 1) := by decide +kernel
theorem dX12_readsLine_64 : decode cX12_readsLine 64 = .ok (.invokevirtual 251, 3) := by decide +kernel
theorem dX12_readsLine_67 : decode cX12_readsLine 67 = .ok (.ifCond .eq 9, 3) := by decide +kernel
theorem dX12_readsLine_70 : decode cX12_readsLine 70 = .ok (.aload_n 0, 1) := by decide +kernel
theorem dX12_readsLine_71 : decode cX12_readsLine 71 = .ok (.iload_n 1, 1) := by decide +kernel
theorem dX12_readsLine_72 : decode cX12_readsLine 72 = .ok (.invokevirtual 266, 3) := by decide +kernel
theorem dX12_readsLine_75 : decode cX12_readsLine 75 = .ok (.ireturn, 1) := by decide +kernel
theorem dX12_readsLine_76 : decode cX12_readsLine 76 = .ok (.aload_n 0, 1) := by decide +kernel
theorem dX12_readsLine_77 : decode cX12_readsLine 77 = .ok (.aload_n 0, 1) := by decide +kernel
theorem dX12_readsLine_78 : decode cX12_readsLine 78 = .ok (.getfield 150, 3) := by decide +kernel
theorem dX12_readsLine_81 : decode cX12_readsLine 81 = .ok (.iconst 1, 1) := by decide +kernel
theorem dX12_readsLine_82 : decode cX12_readsLine 82 = .ok (.iadd, 1) := by decide +kernel
theorem dX12_readsLine_83 : decode cX12_readsLine 83 = .ok (.putfield 150, 3) := by decide +kernel
theorem dX12_readsLine_86 : decode cX12_readsLine 86 = .ok (.iload_n 2, 1) := by decide +kernel
theorem dX12_readsLine_87 : decode cX12_readsLine 87 = .ok (.bipush 35, 2) := by decide +kernel
theorem dX12_readsLine_89 : decode cX12_readsLine 89 = .ok (.if_icmp .ne 9, 3) := by decide +kernel
theorem dX12_readsLine_92 : decode cX12_readsLine 92 = .ok (.aload_n 0, 1) := by decide +kernel
theorem dX12_readsLine_93 : decode cX12_readsLine 93 = .ok (.iload_n 1, 1) := by decide +kernel
theorem dX12_readsLine_94 : decode cX12_readsLine 94 = .ok (.invokevirtual 269, 3) := by decide +kernel
theorem dX12_readsLine_97 : decode cX12_readsLine 97 = .ok (.ireturn, 1) := by decide +kernel
theorem dX12_readsLine_98 : decode cX12_readsLine 98 = .ok (.aload_n 0, 1) := by decide +kernel
theorem dX12_readsLine_99 : decode cX12_readsLine 99 = .ok (.invokevirtual 260, 3) := by decide +kernel
theorem dX12_readsLine_102 : decode cX12_readsLine 102 = .ok (.ifCond .ne 5, 3) := by decide +kernel
theorem dX12_readsLine_105 : decode cX12_readsLine 105 = .ok (.iconst 0, 1) := by decide +kernel
theorem dX12_readsLine_106 : decode cX12_readsLine 106 = .ok (.ireturn, 1) := by decide +kernel
theorem dX12_readsLine_107 : decode cX12_readsLine 107 = .ok (.aload_n 0, 1) := by decide +kernel
theorem dX12_readsLine_108 : decode cX12_readsLine 108 = .ok (.getfield 7, 3) := by decide +kernel
theorem dX12_readsLine_111 : decode cX12_readsLine 111 = .ok (.bipush 16, 2) := by decide +kernel
theorem dX12_readsLine_113 : decode cX12_readsLine 113 = .ok (.iload_n 1, 1) := by decide +kernel
theorem dX12_readsLine_114 : decode cX12_readsLine 114 = .ok (.iadd, 1) := by decide +kernel
theorem dX12_readsLine_115 : decode cX12_readsLine 115 = .ok (.aload_n 0, 1) := by decide +kernel
theorem dX12_readsLine_116 : decode cX12_readsLine 116 = .ok (.getfield 166, 3) := by decide +kernel
theorem dX12_readsLine_119 : decode cX12_readsLine 119 = .ok (.iastore, 1) := by decide +kernel
theorem dX12_readsLine_120 : decode cX12_readsLine 120 = .ok (.iconst 1, 1) := by decide +kernel
theorem dX12_readsLine_121 : decode cX12_readsLine 121 = .ok (.ireturn, 1) := by decide +kernel
theorem dX12_grief_0 : decode cX12_grief 0 = .ok (.aload_n 0, 1) := by decide +kernel
theorem dX12_grief_1 : decode cX12_grief 1 = .ok (.iload_n 1, 1) := by decide +kernel
theorem dX12_grief_2 : decode cX12_grief 2 = .ok (.invokevirtual 109, 3) := by decide +kernel
theorem dX12_grief_5 : decode cX12_grief 5 = .ok (.ifCond .eq 21, 3) := by decide +kernel
theorem dX12_grief_8 : decode cX12_grief 8 = .ok (.iload_n 2, 1) := by decide +kernel
theorem dX12_grief_9 : decode cX12_grief 9 = .ok (.iconst 1, 1) := by decide +kernel
theorem dX12_grief_10 : decode cX12_grief 10 = .ok (.bipush 120, 2) := by decide +kernel
theorem dX12_grief_12 : decode cX12_grief 12 = .ok (.invokestatic 105, 3) := by decide +kernel
theorem dX12_grief_15 : decode cX12_grief 15 = .ok (.ifCond .eq 11, 3) := by decide +kernel
theorem dX12_grief_18 : decode cX12_grief 18 = .ok (.iload_n 2, 1) := by decide +kernel
theorem dX12_grief_19 : decode cX12_grief 19 = .ok (.aload_n 0, 1) := by decide +kernel
theorem dX12_grief_20 : decode cX12_grief 20 = .ok (.getfield 143, 3) := by decide +kernel
theorem dX12_grief_23 : decode cX12_grief 23 = .ok (.if_icmp .le 5, 3) := by decide +kernel
theorem dX12_grief_26 : decode cX12_grief 26 = .ok (.iconst (-1), 1) := by decide +kernel
theorem dX12_grief_27 : decode cX12_grief 27 = .ok (.ireturn, 1) := by decide +kernel
theorem dX12_grief_28 : decode cX12_grief 28 = .ok (.aload_n 0, 1) := by decide +kernel
theorem dX12_grief_29 : decode cX12_grief 29 = .ok (.iload_n 2, 1) := by decide +kernel
theorem dX12_grief_30 : decode cX12_grief 30 = .ok (.invokevirtual 233, 3) := by decide +kernel
theorem dX12_grief_33 : decode cX12_grief 33 = .ok (.aload_n 0, 1) := by decide +kernel
theorem dX12_grief_34 : decode cX12_grief 34 = .ok (.iconst 0, 1) := by decide +kernel
theorem dX12_grief_35 : decode cX12_grief 35 = .ok (.putfield 263, 3) := by decide +kernel
theorem dX12_grief_38 : decode cX12_grief 38 = .ok (.aload_n 0, 1) := by decide +kernel
theorem dX12_grief_39 : decode cX12_grief 39 = .ok (.getfield 7, 3) := by decide +kernel
theorem dX12_grief_42 : decode cX12_grief 42 = .ok (.aload_n 0, 1) := by decide +kernel
theorem dX12_grief_43 : decode cX12_grief 43 = .ok (.getfield 13, 3) := by decide +kernel
theorem dX12_grief_46 : decode cX12_grief 46 = .ok (.invokestatic 272, 3) := by decide +kernel
theorem dX12_grief_49 : decode cX12_grief 49 = .ok (.iconst 0, 1) := by decide +kernel
theorem dX12_grief_50 : decode cX12_grief 50 = .ok (.istore_n 3, 1) := by decide +kernel
theorem dX12_grief_51 : decode cX12_grief 51 = .ok (.iload_n 3, 1) := by decide +kernel
theorem dX12_grief_52 : decode cX12_grief 52 = .ok (.bipush 16, 2) := by decide +kernel
theorem dX12_grief_54 : decode cX12_grief 54 = .ok (.if_icmp .ge 21, 3) := by decide +kernel
theorem dX12_grief_57 : decode cX12_grief 57 = .ok (.aload_n 0, 1) := by decide +kernel
theorem dX12_grief_58 : decode cX12_grief 58 = .ok (.getfield 22, 3) := by decide +kernel
theorem dX12_grief_61 : decode cX12_grief 61 = .ok (.iload_n 3, 1) := by decide +kernel
theorem dX12_grief_62 : decode cX12_grief 62 = .ok (.aload_n 0, 1) := by decide +kernel
theorem dX12_grief_63 : decode cX12_grief 63 = .ok (.getfield 19, 3) := by decide +kernel
theorem dX12_grief_66 : decode cX12_grief 66 = .ok (.iload_n 3, 1) := by decide +kernel
theorem dX12_grief_67 : decode cX12_grief 67 = .ok (.iaload, 1) := by decide +kernel
theorem dX12_grief_68 : decode cX12_grief 68 = .ok (.iastore, 1) := by decide +kernel
theorem dX12_grief_69 : decode cX12_grief 69 = .ok (.iinc 3 1, 3) := by decide +kernel
theorem dX12_grief_72 : decode cX12_grief 72 = .ok (.goto (-21), 3) := by decide +kernel
theorem dX12_grief_75 : decode cX12_grief 75 = .ok (.aload_n 0, 1) := by decide +kernel
theorem dX12_grief_76 : decode cX12_grief 76 = .ok (.iload_n 1, 1) := by decide +kernel
theorem dX12_grief_77 : decode cX12_grief 77 = .ok (.invokevirtual 276, 3) := by decide +kernel
theorem dX12_grief_80 : decode cX12_grief 80 = .ok (.istore_n 3, 1) := by decide +kernel
theorem dX12_grief_81 : decode cX12_grief 81 = .ok (.iload_n 3, 1) := by decide +kernel
theorem dX12_grief_82 : decode cX12_grief 82 = .ok (.ifCond .eq 40, 3) := by decide +kernel
theorem dX12_grief_85 : decode cX12_grief 85 = .ok (.aload_n 0, 1) := by decide +kernel
theorem dX12_grief_86 : decode cX12_grief 86 = .ok (.getfield 150, 3) := by decide +kernel
theorem dX12_grief_89 : decode cX12_grief 89 = .ok (.aload_n 0, 1) := by decide +kernel
theorem dX12_grief_90 : decode cX12_grief 90 = .ok (.getfield 153, 3) := by decide +kernel
theorem dX12_grief_93 : decode cX12_grief 93 = .ok (.if_icmp .ge 29, 3) := by decide +kernel
theorem dX12_grief_96 : decode cX12_grief 96 = .ok (.aload_n 0, 1) := by decide +kernel
theorem dX12_grief_97 : decode cX12_grief 97 = .ok (.bipush 59, 2) := by decide +kernel
theorem dX12_grief_99 : decode cX12_grief 99 = .ok (.invokevirtual 239, 3) := by decide +kernel
theorem dX12_grief_102 : decode cX12_grief 102 = .ok (.ifCond .eq 15, 3) := by decide +kernel
theorem dX12_grief_105 : decode cX12_grief 105 = .ok (.aload_n 0, 1) := by decide +kernel
theorem dX12_grief_106 : decode cX12_grief 106 = .ok (.iload_n 1, 1) := by decide +kernel
theorem dX12_grief_107 : decode cX12_grief 107 = .ok (.invokevirtual 276, 3) := by decide +kernel
theorem dX12_grief_110 : decode cX12_grief 110 = .ok (.ifCond .eq 7, 3) := by decide +kernel
theorem dX12_grief_113 : decode cX12_grief 113 = .ok (.iconst 1, 1) := by decide +kernel
theorem dX12_grief_114 : decode cX12_grief 114 = .ok (.goto 4, 3) := by decide +kernel
theorem dX12_grief_117 : decode cX12_grief 117 = .ok (.iconst 0, 1) := by decide +kernel
theorem dX12_grief_118 : decode cX12_grief 118 = .ok (.istore_n 3, 1) := by decide +kernel
theorem dX12_grief_119 : decode cX12_grief 119 = .ok (.goto (-38), 3) := by decide +kernel
theorem dX12_grief_122 : decode cX12_grief 122 = .ok (.aload_n 0, 1) := by decide +kernel
theorem dX12_grief_123 : decode cX12_grief 123 = .ok (.iconst 0, 1) := by decide +kernel
theorem dX12_grief_124 : decode cX12_grief 124 = .ok (.putfield 143, 3) := by decide +kernel
theorem dX12_grief_127 : decode cX12_grief 127 = .ok (.iload_n 3, 1) := by decide +kernel
theorem dX12_grief_128 : decode cX12_grief 128 = .ok (.ifCond .eq 8, 3) := by decide +kernel
theorem dX12_grief_131 : decode cX12_grief 131 = .ok (.aload_n 0, 1) := by decide +kernel
theorem dX12_grief_132 : decode cX12_grief 132 = .ok (.getfield 263, 3) := by decide +kernel
theorem dX12_grief_135 : decode cX12_grief 135 = .ok (.ireturn, 1) := by decide +kernel
theorem dX12_grief_136 : decode cX12_grief 136 = .ok (.aload_n 0, 1) := by decide +kernel
theorem dX12_grief_137 : decode cX12_grief 137 = .ok (.getfield 13, 3) := by decide +kernel
theorem dX12_grief_140 : decode cX12_grief 140 = .ok (.aload_n 0, 1) := by decide +kernel
theorem dX12_grief_141 : decode cX12_grief 141 = .ok (.getfield 7, 3) := by decide +kernel
theorem dX12_grief_144 : decode cX12_grief 144 = .ok (.invokestatic 272, 3) := by decide +kernel
theorem dX12_grief_147 : decode cX12_grief 147 = .ok (.iconst 0, 1) := by decide +kernel
theorem dX12_grief_148 : decode cX12_grief 148 = .ok (.istore 4, 2) := by decide +kernel
theorem dX12_grief_150 : decode cX12_grief 150 = .ok (.iload 4, 2) := by decide +kernel
theorem dX12_grief_152 : decode cX12_grief 152 = .ok (.bipush 16, 2) := by decide +kernel
theorem dX12_grief_154 : decode cX12_grief 154 = .ok (.if_icmp .ge 23, 3) := by decide +kernel
theorem dX12_grief_157 : decode cX12_grief 157 = .ok (.aload_n 0, 1) := by decide +kernel
theorem dX12_grief_158 : decode cX12_grief 158 = .ok (.getfield 19, 3) := by decide +kernel
theorem dX12_grief_161 : decode cX12_grief 161 = .ok (.iload 4, 2) := by decide +kernel
theorem dX12_grief_163 : decode cX12_grief 163 = .ok (.aload_n 0, 1) := by decide +kernel
theorem dX12_grief_164 : decode cX12_grief 164 = .ok (.getfield 22, 3) := by decide +kernel
theorem dX12_grief_167 : decode cX12_grief 167 = .ok (.iload 4, 2) := by decide +kernel
theorem dX12_grief_169 : decode cX12_grief 169 = .ok (.iaload, 1) := by decide +kernel
theorem dX12_grief_170 : decode cX12_grief 170 = .ok (.iastore, 1) := by decide +kernel
theorem dX12_grief_171 : decode cX12_grief 171 = .ok (.iinc 4 1, 3) := by decide +kernel
theorem dX12_grief_174 : decode cX12_grief 174 = .ok (.goto (-24), 3) := by decide +kernel
theorem dX12_grief_177 : decode cX12_grief 177 = .ok (.aload_n 0, 1) := by decide +kernel
theorem dX12_grief_178 : decode cX12_grief 178 = .ok (.getfield 160, 3) := by decide +kernel
theorem dX12_grief_181 : decode cX12_grief 181 = .ok (.ireturn, 1) := by decide +kernel
theorem dX12_readsTimes_0 : decode cX12_readsTimes 0 = .ok (.aload_n 0, 1) := by decide +kernel
theorem dX12_readsTimes_1 : decode cX12_readsTimes 1 = .ok (.aload_n 0, 1) := by decide +kernel
theorem dX12_readsTimes_2 : decode cX12_readsTimes 2 = .ok (.getfield 150, 3) := by decide +kernel
theorem dX12_readsTimes_5 : decode cX12_readsTimes 5 = .ok (.putfield 279, 3) := by decide +kernel
theorem dX12_readsTimes_8 : decode cX12_readsTimes 8 = .ok (.aload_n 0, 1) := by decide +kernel
theorem dX12_readsTimes_9 : decode cX12_readsTimes 9 = .ok (.iconst 1, 1) := by decide +kernel
theorem dX12_readsTimes_10 : decode cX12_readsTimes 10 = .ok (.putfield 282, 3) := by decide +kernel
theorem dX12_readsTimes_13 : decode cX12_readsTimes 13 = .ok (.aload_n 0, 1) := by decide +kernel
theorem dX12_readsTimes_14 : decode cX12_readsTimes 14 = .ok (.invokevirtual 156, 3) := by decide +kernel
theorem dX12_readsTimes_17 : decode cX12_readsTimes 17 = .ok (.bipush 50, 2) := by decide +kernel
theorem dX12_readsTimes_19 : decode cX12_readsTimes 19 = .ok (.bipush 57, 2) := by decide +kernel
theorem dX12_readsTimes_21 : decode cX12_readsTimes 21 = .ok (.invokestatic 105, 3) := by decide +kernel
theorem dX12_readsTimes_24 : decode cX12_readsTimes 24 = .ok (.ifCond .ne 4, 3) := by decide +kernel
theorem dX12_readsTimes_27 : decode cX12_readsTimes 27 = .ok (.return_, 1) := by decide +kernel
theorem dX12_readsTimes_28 : decode cX12_readsTimes 28 = .ok (.aload_n 0, 1) := by decide +kernel
theorem dX12_readsTimes_29 : decode cX12_readsTimes 29 = .ok (.aload_n 0, 1) := by decide +kernel
theorem dX12_readsTimes_30 : decode cX12_readsTimes 30 = .ok (.invokevirtual 156, 3) := by decide +kernel
theorem dX12_readsTimes_33 : decode cX12_readsTimes 33 = .ok (.bipush 48, 2) := by decide +kernel
theorem dX12_readsTimes_35 : decode cX12_readsTimes 35 = .ok (.isub, 1) := by decide +kernel
theorem dX12_readsTimes_36 : decode cX12_readsTimes 36 = .ok (.putfield 282, 3) := by decide +kernel
theorem dX12_readsTimes_39 : decode cX12_readsTimes 39 = .ok (.aload_n 0, 1) := by decide +kernel
theorem dX12_readsTimes_40 : decode cX12_readsTimes 40 = .ok (.aload_n 0, 1) := by decide +kernel
theorem dX12_readsTimes_41 : decode cX12_readsTimes 41 = .ok (.getfield 150, 3) := by decide +kernel
theorem dX12_readsTimes_44 : decode cX12_readsTimes 44 = .ok (.iconst 1, 1) := by decide +kernel
theorem dX12_readsTimes_45 : decode cX12_readsTimes 45 = .ok (.iadd, 1) := by decide +kernel
theorem dX12_readsTimes_46 : decode cX12_readsTimes 46 = .ok (.putfield 150, 3) := by decide +kernel
theorem dX12_readsTimes_49 : decode cX12_readsTimes 49 = .ok (.return_, 1) := by decide +kernel
theorem dX12_repeats_0 : decode cX12_repeats 0 = .ok (.aload_n 0, 1) := by decide +kernel
theorem dX12_repeats_1 : decode cX12_repeats 1 = .ok (.getfield 285, 3) := by decide +kernel
theorem dX12_repeats_4 : decode cX12_repeats 4 = .ok (.iload_n 1, 1) := by decide +kernel
theorem dX12_repeats_5 : decode cX12_repeats 5 = .ok (.isub, 1) := by decide +kernel
theorem dX12_repeats_6 : decode cX12_repeats 6 = .ok (.istore 4, 2) := by decide +kernel
theorem dX12_repeats_8 : decode cX12_repeats 8 = .ok (.iload_n 1, 1) := by decide +kernel
theorem dX12_repeats_9 : decode cX12_repeats 9 = .ok (.iload 4, 2) := by decide +kernel
theorem dX12_repeats_11 : decode cX12_repeats 11 = .ok (.iload_n 2, 1) := by decide +kernel
theorem dX12_repeats_12 : decode cX12_repeats 12 = .ok (.imul, 1) := by decide +kernel
theorem dX12_repeats_13 : decode cX12_repeats 13 = .ok (.iadd, 1) := by decide +kernel
theorem dX12_repeats_14 : decode cX12_repeats 14 = .ok (.bipush 48, 2) := by decide +kernel
theorem dX12_repeats_16 : decode cX12_repeats 16 = .ok (.if_icmp .le 11, 3) := by decide +kernel
theorem dX12_repeats_19 : decode cX12_repeats 19 = .ok (.aload_n 0, 1) := by decide +kernel
theorem dX12_repeats_20 : decode cX12_repeats 20 = .ok (.bipush 6, 2) := by decide +kernel
theorem dX12_repeats_22 : decode cX12_repeats 22 = .ok (.iload_n 3, 1) := by decide +kernel
theorem dX12_repeats_23 : decode cX12_repeats 23 = .ok (.invokevirtual 163, 3) := by decide +kernel
theorem dX12_repeats_26 : decode cX12_repeats 26 = .ok (.ireturn, 1) := by decide +kernel
theorem dX12_repeats_27 : decode cX12_repeats 27 = .ok (.iload 4, 2) := by decide +kernel
theorem dX12_repeats_29 : decode cX12_repeats 29 = .ok (.istore 5, 2) := by decide +kernel
theorem dX12_repeats_31 : decode cX12_repeats 31 = .ok (.iload 5, 2) := by decide +kernel
theorem dX12_repeats_33 : decode cX12_repeats 33 = .ok (.iload 4, 2) := by decide +kernel
theorem dX12_repeats_35 : decode cX12_repeats 35 = .ok (.iload_n 2, 1) := by decide +kernel
theorem dX12_repeats_36 : decode cX12_repeats 36 = .ok (.imul, 1) := by decide +kernel
theorem dX12_repeats_37 : decode cX12_repeats 37 = .ok (.if_icmp .ge 30, 3) := by decide +kernel
theorem dX12_repeats_40 : decode cX12_repeats 40 = .ok (.aload_n 0, 1) := by decide +kernel
theorem dX12_repeats_41 : decode cX12_repeats 41 = .ok (.getfield 71, 3) := by decide +kernel
theorem dX12_repeats_44 : decode cX12_repeats 44 = .ok (.iload_n 1, 1) := by decide +kernel
theorem dX12_repeats_45 : decode cX12_repeats 45 = .ok (.iload 5, 2) := by decide +kernel
theorem dX12_repeats_47 : decode cX12_repeats 47 = .ok (.iadd, 1) := by decide +kernel
theorem dX12_repeats_48 : decode cX12_repeats 48 = .ok (.aload_n 0, 1) := by decide +kernel
theorem dX12_repeats_49 : decode cX12_repeats 49 = .ok (.getfield 71, 3) := by decide +kernel
theorem dX12_repeats_52 : decode cX12_repeats 52 = .ok (.iload_n 1, 1) := by decide +kernel
theorem dX12_repeats_53 : decode cX12_repeats 53 = .ok (.iload 5, 2) := by decide +kernel
theorem dX12_repeats_55 : decode cX12_repeats 55 = .ok (.iadd, 1) := by decide +kernel
theorem dX12_repeats_56 : decode cX12_repeats 56 = .ok (.iload 4, 2) := by decide +kernel
theorem dX12_repeats_58 : decode cX12_repeats 58 = .ok (.isub, 1) := by decide +kernel
theorem dX12_repeats_59 : decode cX12_repeats 59 = .ok (.iaload, 1) := by decide +kernel
theorem dX12_repeats_60 : decode cX12_repeats 60 = .ok (.iastore, 1) := by decide +kernel
theorem dX12_repeats_61 : decode cX12_repeats 61 = .ok (.iinc 5 1, 3) := by decide +kernel
theorem dX12_repeats_64 : decode cX12_repeats 64 = .ok (.goto (-33), 3) := by decide +kernel
theorem dX12_repeats_67 : decode cX12_repeats 67 = .ok (.aload_n 0, 1) := by decide +kernel
theorem dX12_repeats_68 : decode cX12_repeats 68 = .ok (.iload_n 1, 1) := by decide +kernel
theorem dX12_repeats_69 : decode cX12_repeats 69 = .ok (.iload 4, 2) := by decide +kernel
theorem dX12_repeats_71 : decode cX12_repeats 71 = .ok (.iload_n 2, 1) := by decide +kernel
theorem dX12_repeats_72 : decode cX12_repeats 72 = .ok (.imul, 1) := by decide +kernel
theorem dX12_repeats_73 : decode cX12_repeats 73 = .ok (.iadd, 1) := by decide +kernel
theorem dX12_repeats_74 : decode cX12_repeats 74 = .ok (.putfield 285, 3) := by decide +kernel
theorem dX12_repeats_77 : decode cX12_repeats 77 = .ok (.iconst 1, 1) := by decide +kernel
theorem dX12_repeats_78 : decode cX12_repeats 78 = .ok (.ireturn, 1) := by decide +kernel
theorem dX12_readsWord_0 : decode cX12_readsWord 0 = .ok (.aload_n 0, 1) := by decide +kernel
theorem dX12_readsWord_1 : decode cX12_readsWord 1 = .ok (.invokevirtual 288, 3) := by decide +kernel
theorem dX12_readsWord_4 : decode cX12_readsWord 4 = .ok (.aload_n 0, 1) := by decide +kernel
theorem dX12_readsWord_5 : decode cX12_readsWord 5 = .ok (.invokevirtual 156, 3) := by decide +kernel
theorem dX12_readsWord_8 : decode cX12_readsWord 8 = .ok (.bipush 40, 2) := by decide +kernel
theorem dX12_readsWord_10 : decode cX12_readsWord 10 = .ok (.if_icmp .ne 87, 3) := by decide +kernel
theorem dX12_readsWord_13 : decode cX12_readsWord 13 = .ok (.aload_n 0, 1) := by decide +kernel
theorem dX12_readsWord_14 : decode cX12_readsWord 14 = .ok (.getfield 291, 3) := by decide +kernel
theorem dX12_readsWord_17 : decode cX12_readsWord 17 = .ok (.iconst 2, 1) := by decide +kernel
theorem dX12_readsWord_18 : decode cX12_readsWord 18 = .ok (.if_icmp .ne 13, 3) := by decide +kernel
theorem dX12_readsWord_21 : decode cX12_readsWord 21 = .ok (.aload_n 0, 1) := by decide +kernel
theorem dX12_readsWord_22 : decode cX12_readsWord 22 = .ok (.iconst 5, 1) := by decide +kernel
theorem dX12_readsWord_23 : decode cX12_readsWord 23 = .ok (.aload_n 0, 1) := by decide +kernel
theorem dX12_readsWord_24 : decode cX12_readsWord 24 = .ok (.getfield 150, 3) := by decide +kernel
theorem dX12_readsWord_27 : decode cX12_readsWord 27 = .ok (.invokevirtual 163, 3) := by decide +kernel
theorem dX12_readsWord_30 : decode cX12_readsWord 30 = .ok (.ireturn, 1) := by decide +kernel
theorem dX12_readsWord_31 : decode cX12_readsWord 31 = .ok (.aload_n 0, 1) := by decide +kernel
theorem dX12_readsWord_32 : decode cX12_readsWord 32 = .ok (.getfield 74, 3) := by decide +kernel
theorem dX12_readsWord_35 : decode cX12_readsWord 35 = .ok (.aload_n 0, 1) := by decide +kernel
theorem dX12_readsWord_36 : decode cX12_readsWord 36 = .ok (.getfield 291, 3) := by decide +kernel
theorem dX12_readsWord_39 : decode cX12_readsWord 39 = .ok (.aload_n 0, 1) := by decide +kernel
theorem dX12_readsWord_40 : decode cX12_readsWord 40 = .ok (.getfield 279, 3) := by decide +kernel
theorem dX12_readsWord_43 : decode cX12_readsWord 43 = .ok (.iastore, 1) := by decide +kernel
theorem dX12_readsWord_44 : decode cX12_readsWord 44 = .ok (.aload_n 0, 1) := by decide +kernel
theorem dX12_readsWord_45 : decode cX12_readsWord 45 = .ok (.getfield 77, 3) := by decide +kernel
theorem dX12_readsWord_48 : decode cX12_readsWord 48 = .ok (.aload_n 0, 1) := by decide +kernel
theorem dX12_readsWord_49 : decode cX12_readsWord 49 = .ok (.getfield 291, 3) := by decide +kernel
theorem dX12_readsWord_52 : decode cX12_readsWord 52 = .ok (.aload_n 0, 1) := by decide +kernel
theorem dX12_readsWord_53 : decode cX12_readsWord 53 = .ok (.getfield 285, 3) := by decide +kernel
theorem dX12_readsWord_56 : decode cX12_readsWord 56 = .ok (.iastore, 1) := by decide +kernel
theorem dX12_readsWord_57 : decode cX12_readsWord 57 = .ok (.aload_n 0, 1) := by decide +kernel
theorem dX12_readsWord_58 : decode cX12_readsWord 58 = .ok (.getfield 80, 3) := by decide +kernel
theorem dX12_readsWord_61 : decode cX12_readsWord 61 = .ok (.aload_n 0, 1) := by decide +kernel
theorem dX12_readsWord_62 : decode cX12_readsWord 62 = .ok (.getfield 291, 3) := by decide +kernel
theorem dX12_readsWord_65 : decode cX12_readsWord 65 = .ok (.aload_n 0, 1) := by decide +kernel
theorem dX12_readsWord_66 : decode cX12_readsWord 66 = .ok (.getfield 282, 3) := by decide +kernel
theorem dX12_readsWord_69 : decode cX12_readsWord 69 = .ok (.iastore, 1) := by decide +kernel
theorem dX12_readsWord_70 : decode cX12_readsWord 70 = .ok (.aload_n 0, 1) := by decide +kernel
theorem dX12_readsWord_71 : decode cX12_readsWord 71 = .ok (.aload_n 0, 1) := by decide +kernel
theorem dX12_readsWord_72 : decode cX12_readsWord 72 = .ok (.getfield 291, 3) := by decide +kernel
theorem dX12_readsWord_75 : decode cX12_readsWord 75 = .ok (.iconst 1, 1) := by decide +kernel
theorem dX12_readsWord_76 : decode cX12_readsWord 76 = .ok (.iadd, 1) := by decide +kernel
theorem dX12_readsWord_77 : decode cX12_readsWord 77 = .ok (.putfield 291, 3) := by decide +kernel
theorem dX12_readsWord_80 : decode cX12_readsWord 80 = .ok (.aload_n 0, 1) := by decide +kernel
theorem dX12_readsWord_81 : decode cX12_readsWord 81 = .ok (.aload_n 0, 1) := by decide +kernel
theorem dX12_readsWord_82 : decode cX12_readsWord 82 = .ok (.getfield 150, 3) := by decide +kernel
theorem dX12_readsWord_85 : decode cX12_readsWord 85 = .ok (.iconst 1, 1) := by decide +kernel
theorem dX12_readsWord_86 : decode cX12_readsWord 86 = .ok (.iadd, 1) := by decide +kernel
theorem dX12_readsWord_87 : decode cX12_readsWord 87 = .ok (.putfield 150, 3) := by decide +kernel
theorem dX12_readsWord_90 : decode cX12_readsWord 90 = .ok (.aload_n 0, 1) := by decide +kernel
theorem dX12_readsWord_91 : decode cX12_readsWord 91 = .ok (.invokevirtual 288, 3) := by decide +kernel
theorem dX12_readsWord_94 : decode cX12_readsWord 94 = .ok (.goto (-90), 3) := by decide +kernel
theorem dX12_readsWord_97 : decode cX12_readsWord 97 = .ok (.aload_n 0, 1) := by decide +kernel
theorem dX12_readsWord_98 : decode cX12_readsWord 98 = .ok (.getfield 279, 3) := by decide +kernel
theorem dX12_readsWord_101 : decode cX12_readsWord 101 = .ok (.istore_n 1, 1) := by decide +kernel
theorem dX12_readsWord_102 : decode cX12_readsWord 102 = .ok (.aload_n 0, 1) := by decide +kernel
theorem dX12_readsWord_103 : decode cX12_readsWord 103 = .ok (.getfield 282, 3) := by decide +kernel
theorem dX12_readsWord_106 : decode cX12_readsWord 106 = .ok (.istore_n 2, 1) := by decide +kernel
theorem dX12_readsWord_107 : decode cX12_readsWord 107 = .ok (.aload_n 0, 1) := by decide +kernel
theorem dX12_readsWord_108 : decode cX12_readsWord 108 = .ok (.invokevirtual 251, 3) := by decide +kernel
theorem dX12_readsWord_111 : decode cX12_readsWord 111 = .ok (.ifCond .ne 13, 3) := by decide +kernel
theorem dX12_readsWord_114 : decode cX12_readsWord 114 = .ok (.aload_n 0, 1) := by decide +kernel
theorem dX12_readsWord_115 : decode cX12_readsWord 115 = .ok (.iconst 1, 1) := by decide +kernel
theorem dX12_readsWord_116 : decode cX12_readsWord 116 = .ok (.aload_n 0, 1) := by decide +kernel
theorem dX12_readsWord_117 : decode cX12_readsWord 117 = .ok (.getfield 150, 3) := by decide +kernel
theorem dX12_readsWord_120 : decode cX12_readsWord 120 = .ok (.invokevirtual 163, 3) := by decide +kernel
theorem dX12_readsWord_123 : decode cX12_readsWord 123 = .ok (.ireturn, 1) := by decide +kernel
theorem dX12_readsWord_124 : decode cX12_readsWord 124 = .ok (.aload_n 0, 1) := by decide +kernel
theorem dX12_readsWord_125 : decode cX12_readsWord 125 = .ok (.getfield 285, 3) := by decide +kernel
theorem dX12_readsWord_128 : decode cX12_readsWord 128 = .ok (.iload_n 2, 1) := by decide +kernel
theorem dX12_readsWord_129 : decode cX12_readsWord 129 = .ok (.iadd, 1) := by decide +kernel
theorem dX12_readsWord_130 : decode cX12_readsWord 130 = .ok (.bipush 48, 2) := by decide +kernel
theorem dX12_readsWord_132 : decode cX12_readsWord 132 = .ok (.if_icmp .le 11, 3) := by decide +kernel
theorem dX12_readsWord_135 : decode cX12_readsWord 135 = .ok (.aload_n 0, 1) := by decide +kernel
theorem dX12_readsWord_136 : decode cX12_readsWord 136 = .ok (.bipush 6, 2) := by decide +kernel
theorem dX12_readsWord_138 : decode cX12_readsWord 138 = .ok (.iload_n 1, 1) := by decide +kernel
theorem dX12_readsWord_139 : decode cX12_readsWord 139 = .ok (.invokevirtual 163, 3) := by decide +kernel
theorem dX12_readsWord_142 : decode cX12_readsWord 142 = .ok (.ireturn, 1) := by decide +kernel
theorem dX12_readsWord_143 : decode cX12_readsWord 143 = .ok (.aload_n 0, 1) := by decide +kernel
theorem dX12_readsWord_144 : decode cX12_readsWord 144 = .ok (.getfield 71, 3) := by decide +kernel
theorem dX12_readsWord_147 : decode cX12_readsWord 147 = .ok (.aload_n 0, 1) := by decide +kernel
theorem dX12_readsWord_148 : decode cX12_readsWord 148 = .ok (.getfield 285, 3) := by decide +kernel
theorem dX12_readsWord_151 : decode cX12_readsWord 151 = .ok (.aload_n 0, 1) := by decide +kernel
theorem dX12_readsWord_152 : decode cX12_readsWord 152 = .ok (.invokevirtual 156, 3) := by decide +kernel
theorem dX12_readsWord_155 : decode cX12_readsWord 155 = .ok (.bipush 97, 2) := by decide +kernel
theorem dX12_readsWord_157 : decode cX12_readsWord 157 = .ok (.isub, 1) := by decide +kernel
theorem dX12_readsWord_158 : decode cX12_readsWord 158 = .ok (.iastore, 1) := by decide +kernel
theorem dX12_readsWord_159 : decode cX12_readsWord 159 = .ok (.aload_n 0, 1) := by decide +kernel
theorem dX12_readsWord_160 : decode cX12_readsWord 160 = .ok (.aload_n 0, 1) := by decide +kernel
theorem dX12_readsWord_161 : decode cX12_readsWord 161 = .ok (.getfield 150, 3) := by decide +kernel
theorem dX12_readsWord_164 : decode cX12_readsWord 164 = .ok (.iconst 1, 1) := by decide +kernel
theorem dX12_readsWord_165 : decode cX12_readsWord 165 = .ok (.iadd, 1) := by decide +kernel
theorem dX12_readsWord_166 : decode cX12_readsWord 166 = .ok (.putfield 150, 3) := by decide +kernel
theorem dX12_readsWord_169 : decode cX12_readsWord 169 = .ok (.aload_n 0, 1) := by decide +kernel
theorem dX12_readsWord_170 : decode cX12_readsWord 170 = .ok (.aload_n 0, 1) := by decide +kernel
theorem dX12_readsWord_171 : decode cX12_readsWord 171 = .ok (.getfield 285, 3) := by decide +kernel
theorem dX12_readsWord_174 : decode cX12_readsWord 174 = .ok (.iconst 1, 1) := by decide +kernel
theorem dX12_readsWord_175 : decode cX12_readsWord 175 = .ok (.iadd, 1) := by decide +kernel
theorem dX12_readsWord_176 : decode cX12_readsWord 176 = .ok (.putfield 285, 3) := by decide +kernel
theorem dX12_readsWord_179 : decode cX12_readsWord 179 = .ok (.aload_n 0, 1) := by decide +kernel
theorem dX12_readsWord_180 : decode cX12_readsWord 180 = .ok (.aload_n 0, 1) := by decide +kernel
theorem dX12_readsWord_181 : decode cX12_readsWord 181 = .ok (.getfield 285, 3) := by decide +kernel
theorem dX12_readsWord_184 : decode cX12_readsWord 184 = .ok (.iconst 1, 1) := by decide +kernel
theorem dX12_readsWord_185 : decode cX12_readsWord 185 = .ok (.isub, 1) := by decide +kernel
theorem dX12_readsWord_186 : decode cX12_readsWord 186 = .ok (.iload_n 2, 1) := by decide +kernel
theorem dX12_readsWord_187 : decode cX12_readsWord 187 = .ok (.iload_n 1, 1) := by decide +kernel
theorem dX12_readsWord_188 : decode cX12_readsWord 188 = .ok (.invokevirtual 294, 3) := by decide +kernel
theorem dX12_readsWord_191 : decode cX12_readsWord 191 = .ok (.ifCond .ne 5, 3) := by decide +kernel
theorem dX12_readsWord_194 : decode cX12_readsWord 194 = .ok (.iconst 0, 1) := by decide +kernel
theorem dX12_readsWord_195 : decode cX12_readsWord 195 = .ok (.ireturn, 1) := by decide +kernel
theorem dX12_readsWord_196 : decode cX12_readsWord 196 = .ok (.aload_n 0, 1) := by decide +kernel
theorem dX12_readsWord_197 : decode cX12_readsWord 197 = .ok (.invokevirtual 156, 3) := by decide +kernel
theorem dX12_readsWord_200 : decode cX12_readsWord 200 = .ok (.bipush 41, 2) := by decide +kernel
theorem dX12_readsWord_202 : decode cX12_readsWord 202 = .ok (.if_icmp .ne 66, 3) := by decide +kernel
theorem dX12_readsWord_205 : decode cX12_readsWord 205 = .ok (.aload_n 0, 1) := by decide +kernel
theorem dX12_readsWord_206 : decode cX12_readsWord 206 = .ok (.getfield 291, 3) := by decide +kernel
theorem dX12_readsWord_209 : decode cX12_readsWord 209 = .ok (.ifCond .le 59, 3) := by decide +kernel
theorem dX12_readsWord_212 : decode cX12_readsWord 212 = .ok (.aload_n 0, 1) := by decide +kernel
theorem dX12_readsWord_213 : decode cX12_readsWord 213 = .ok (.aload_n 0, 1) := by decide +kernel
theorem dX12_readsWord_214 : decode cX12_readsWord 214 = .ok (.getfield 150, 3) := by decide +kernel
theorem dX12_readsWord_217 : decode cX12_readsWord 217 = .ok (.iconst 1, 1) := by decide +kernel
theorem dX12_readsWord_218 : decode cX12_readsWord 218 = .ok (.iadd, 1) := by decide +kernel
theorem dX12_readsWord_219 : decode cX12_readsWord 219 = .ok (.putfield 150, 3) := by decide +kernel
theorem dX12_readsWord_222 : decode cX12_readsWord 222 = .ok (.aload_n 0, 1) := by decide +kernel
theorem dX12_readsWord_223 : decode cX12_readsWord 223 = .ok (.aload_n 0, 1) := by decide +kernel
theorem dX12_readsWord_224 : decode cX12_readsWord 224 = .ok (.getfield 291, 3) := by decide +kernel
theorem dX12_readsWord_227 : decode cX12_readsWord 227 = .ok (.iconst 1, 1) := by decide +kernel
theorem dX12_readsWord_228 : decode cX12_readsWord 228 = .ok (.isub, 1) := by decide +kernel
theorem dX12_readsWord_229 : decode cX12_readsWord 229 = .ok (.putfield 291, 3) := by decide +kernel
theorem dX12_readsWord_232 : decode cX12_readsWord 232 = .ok (.aload_n 0, 1) := by decide +kernel
theorem dX12_readsWord_233 : decode cX12_readsWord 233 = .ok (.aload_n 0, 1) := by decide +kernel
theorem dX12_readsWord_234 : decode cX12_readsWord 234 = .ok (.getfield 77, 3) := by decide +kernel
theorem dX12_readsWord_237 : decode cX12_readsWord 237 = .ok (.aload_n 0, 1) := by decide +kernel
theorem dX12_readsWord_238 : decode cX12_readsWord 238 = .ok (.getfield 291, 3) := by decide +kernel
theorem dX12_readsWord_241 : decode cX12_readsWord 241 = .ok (.iaload, 1) := by decide +kernel
theorem dX12_readsWord_242 : decode cX12_readsWord 242 = .ok (.aload_n 0, 1) := by decide +kernel
theorem dX12_readsWord_243 : decode cX12_readsWord 243 = .ok (.getfield 80, 3) := by decide +kernel
theorem dX12_readsWord_246 : decode cX12_readsWord 246 = .ok (.aload_n 0, 1) := by decide +kernel
theorem dX12_readsWord_247 : decode cX12_readsWord 247 = .ok (.getfield 291, 3) := by decide +kernel
theorem dX12_readsWord_250 : decode cX12_readsWord 250 = .ok (.iaload, 1) := by decide +kernel
theorem dX12_readsWord_251 : decode cX12_readsWord 251 = .ok (.aload_n 0, 1) := by decide +kernel
theorem dX12_readsWord_252 : decode cX12_readsWord 252 = .ok (.getfield 74, 3) := by decide +kernel
theorem dX12_readsWord_255 : decode cX12_readsWord 255 = .ok (.aload_n 0, 1) := by decide +kernel
theorem dX12_readsWord_256 : decode cX12_readsWord 256 = .ok (.getfield 291, 3) := by decide +kernel
theorem dX12_readsWord_259 : decode cX12_readsWord 259 = .ok (.iaload, 1) := by decide +kernel
theorem dX12_readsWord_260 : decode cX12_readsWord 260 = .ok (.invokevirtual 294, 3) := by decide +kernel
theorem dX12_readsWord_263 : decode cX12_readsWord 263 = .ok (.ifCond .ne (-67), 3) := by decide +kernel
theorem dX12_readsWord_266 : decode cX12_readsWord 266 = .ok (.iconst 0, 1) := by decide +kernel
theorem dX12_readsWord_267 : decode cX12_readsWord 267 = .ok (.ireturn, 1) := by decide +kernel
theorem dX12_readsWord_268 : decode cX12_readsWord 268 = .ok (.iconst 1, 1) := by decide +kernel
theorem dX12_readsWord_269 : decode cX12_readsWord 269 = .ok (.ireturn, 1) := by decide +kernel
theorem dX12_letter_0 : decode cX12_letter 0 = .ok (.iload_n 1, 1) := by decide +kernel
theorem dX12_letter_1 : decode cX12_letter 1 = .ok (.iconst 1, 1) := by decide +kernel
theorem dX12_letter_2 : decode cX12_letter 2 = .ok (.bipush 60, 2) := by decide +kernel
theorem dX12_letter_4 : decode cX12_letter 4 = .ok (.invokestatic 105, 3) := by decide +kernel
theorem dX12_letter_7 : decode cX12_letter 7 = .ok (.ifCond .eq 11, 3) := by decide +kernel
theorem dX12_letter_10 : decode cX12_letter 10 = .ok (.iload_n 1, 1) := by decide +kernel
theorem dX12_letter_11 : decode cX12_letter 11 = .ok (.aload_n 0, 1) := by decide +kernel
theorem dX12_letter_12 : decode cX12_letter 12 = .ok (.getfield 143, 3) := by decide +kernel
theorem dX12_letter_15 : decode cX12_letter 15 = .ok (.if_icmp .le 5, 3) := by decide +kernel
theorem dX12_letter_18 : decode cX12_letter 18 = .ok (.iconst (-1), 1) := by decide +kernel
theorem dX12_letter_19 : decode cX12_letter 19 = .ok (.ireturn, 1) := by decide +kernel
theorem dX12_letter_20 : decode cX12_letter 20 = .ok (.aload_n 0, 1) := by decide +kernel
theorem dX12_letter_21 : decode cX12_letter 21 = .ok (.iload_n 1, 1) := by decide +kernel
theorem dX12_letter_22 : decode cX12_letter 22 = .ok (.invokevirtual 233, 3) := by decide +kernel
theorem dX12_letter_25 : decode cX12_letter 25 = .ok (.aload_n 0, 1) := by decide +kernel
theorem dX12_letter_26 : decode cX12_letter 26 = .ok (.iconst 0, 1) := by decide +kernel
theorem dX12_letter_27 : decode cX12_letter 27 = .ok (.putfield 285, 3) := by decide +kernel
theorem dX12_letter_30 : decode cX12_letter 30 = .ok (.aload_n 0, 1) := by decide +kernel
theorem dX12_letter_31 : decode cX12_letter 31 = .ok (.iconst 0, 1) := by decide +kernel
theorem dX12_letter_32 : decode cX12_letter 32 = .ok (.putfield 291, 3) := by decide +kernel
theorem dX12_letter_35 : decode cX12_letter 35 = .ok (.aload_n 0, 1) := by decide +kernel
theorem dX12_letter_36 : decode cX12_letter 36 = .ok (.invokevirtual 297, 3) := by decide +kernel
theorem dX12_letter_39 : decode cX12_letter 39 = .ok (.istore_n 2, 1) := by decide +kernel
theorem dX12_letter_40 : decode cX12_letter 40 = .ok (.iload_n 2, 1) := by decide +kernel
theorem dX12_letter_41 : decode cX12_letter 41 = .ok (.ifCond .eq 29, 3) := by decide +kernel
theorem dX12_letter_44 : decode cX12_letter 44 = .ok (.aload_n 0, 1) := by decide +kernel
theorem dX12_letter_45 : decode cX12_letter 45 = .ok (.getfield 150, 3) := by decide +kernel
theorem dX12_letter_48 : decode cX12_letter 48 = .ok (.aload_n 0, 1) := by decide +kernel
theorem dX12_letter_49 : decode cX12_letter 49 = .ok (.getfield 153, 3) := by decide +kernel
theorem dX12_letter_52 : decode cX12_letter 52 = .ok (.if_icmp .lt 10, 3) := by decide +kernel
theorem dX12_letter_55 : decode cX12_letter 55 = .ok (.aload_n 0, 1) := by decide +kernel
theorem dX12_letter_56 : decode cX12_letter 56 = .ok (.getfield 291, 3) := by decide +kernel
theorem dX12_letter_59 : decode cX12_letter 59 = .ok (.ifCond .le 11, 3) := by decide +kernel
theorem dX12_letter_62 : decode cX12_letter 62 = .ok (.aload_n 0, 1) := by decide +kernel
theorem dX12_letter_63 : decode cX12_letter 63 = .ok (.invokevirtual 297, 3) := by decide +kernel
theorem dX12_letter_66 : decode cX12_letter 66 = .ok (.istore_n 2, 1) := by decide +kernel
theorem dX12_letter_67 : decode cX12_letter 67 = .ok (.goto (-27), 3) := by decide +kernel
theorem dX12_letter_70 : decode cX12_letter 70 = .ok (.aload_n 0, 1) := by decide +kernel
theorem dX12_letter_71 : decode cX12_letter 71 = .ok (.iconst 0, 1) := by decide +kernel
theorem dX12_letter_72 : decode cX12_letter 72 = .ok (.putfield 143, 3) := by decide +kernel
theorem dX12_letter_75 : decode cX12_letter 75 = .ok (.iload_n 2, 1) := by decide +kernel
theorem dX12_letter_76 : decode cX12_letter 76 = .ok (.ifCond .ne 8, 3) := by decide +kernel
theorem dX12_letter_79 : decode cX12_letter 79 = .ok (.aload_n 0, 1) := by decide +kernel
theorem dX12_letter_80 : decode cX12_letter 80 = .ok (.getfield 160, 3) := by decide +kernel
theorem dX12_letter_83 : decode cX12_letter 83 = .ok (.ireturn, 1) := by decide +kernel
theorem dX12_letter_84 : decode cX12_letter 84 = .ok (.aload_n 0, 1) := by decide +kernel
theorem dX12_letter_85 : decode cX12_letter 85 = .ok (.aload_n 0, 1) := by decide +kernel
theorem dX12_letter_86 : decode cX12_letter 86 = .ok (.getfield 285, 3) := by decide +kernel
theorem dX12_letter_89 : decode cX12_letter 89 = .ok (.putfield 300, 3) := by decide +kernel
theorem dX12_letter_92 : decode cX12_letter 92 = .ok (.iconst 0, 1) := by decide +kernel
theorem dX12_letter_93 : decode cX12_letter 93 = .ok (.istore_n 3, 1) := by decide +kernel
theorem dX12_letter_94 : decode cX12_letter 94 = .ok (.iload_n 3, 1) := by decide +kernel
theorem dX12_letter_95 : decode cX12_letter 95 = .ok (.aload_n 0, 1) := by decide +kernel
theorem dX12_letter_96 : decode cX12_letter 96 = .ok (.getfield 285, 3) := by decide +kernel
theorem dX12_letter_99 : decode cX12_letter 99 = .ok (.if_icmp .ge 21, 3) := by decide +kernel
theorem dX12_letter_102 : decode cX12_letter 102 = .ok (.aload_n 0, 1) := by decide +kernel
theorem dX12_letter_103 : decode cX12_letter 103 = .ok (.getfield 25, 3) := by decide +kernel
theorem dX12_letter_106 : decode cX12_letter 106 = .ok (.iload_n 3, 1) := by decide +kernel
theorem dX12_letter_107 : decode cX12_letter 107 = .ok (.aload_n 0, 1) := by decide +kernel
theorem dX12_letter_108 : decode cX12_letter 108 = .ok (.getfield 71, 3) := by decide +kernel
theorem dX12_letter_111 : decode cX12_letter 111 = .ok (.iload_n 3, 1) := by decide +kernel
theorem dX12_letter_112 : decode cX12_letter 112 = .ok (.iaload, 1) := by decide +kernel
theorem dX12_letter_113 : decode cX12_letter 113 = .ok (.iastore, 1) := by decide +kernel
theorem dX12_letter_114 : decode cX12_letter 114 = .ok (.iinc 3 1, 3) := by decide +kernel
theorem dX12_letter_117 : decode cX12_letter 117 = .ok (.goto (-23), 3) := by decide +kernel
theorem dX12_letter_120 : decode cX12_letter 120 = .ok (.aload_n 0, 1) := by decide +kernel
theorem dX12_letter_121 : decode cX12_letter 121 = .ok (.getfield 285, 3) := by decide +kernel
theorem dX12_letter_124 : decode cX12_letter 124 = .ok (.ireturn, 1) := by decide +kernel
theorem dX12_feels_0 : decode cX12_feels 0 = .ok (.aload_n 0, 1) := by decide +kernel
theorem dX12_feels_1 : decode cX12_feels 1 = .ok (.getfield 68, 3) := by decide +kernel
theorem dX12_feels_4 : decode cX12_feels 4 = .ok (.iconst 0, 1) := by decide +kernel
theorem dX12_feels_5 : decode cX12_feels 5 = .ok (.iload_n 1, 1) := by decide +kernel
theorem dX12_feels_6 : decode cX12_feels 6 = .ok (.iastore, 1) := by decide +kernel
theorem dX12_feels_7 : decode cX12_feels 7 = .ok (.aload_n 0, 1) := by decide +kernel
theorem dX12_feels_8 : decode cX12_feels 8 = .ok (.getfield 68, 3) := by decide +kernel
theorem dX12_feels_11 : decode cX12_feels 11 = .ok (.iconst 1, 1) := by decide +kernel
theorem dX12_feels_12 : decode cX12_feels 12 = .ok (.aload_n 0, 1) := by decide +kernel
theorem dX12_feels_13 : decode cX12_feels 13 = .ok (.getfield 7, 3) := by decide +kernel
theorem dX12_feels_16 : decode cX12_feels 16 = .ok (.bipush 8, 2) := by decide +kernel
theorem dX12_feels_18 : decode cX12_feels 18 = .ok (.iload_n 1, 1) := by decide +kernel
theorem dX12_feels_19 : decode cX12_feels 19 = .ok (.iadd, 1) := by decide +kernel
theorem dX12_feels_20 : decode cX12_feels 20 = .ok (.iaload, 1) := by decide +kernel
theorem dX12_feels_21 : decode cX12_feels 21 = .ok (.iastore, 1) := by decide +kernel
theorem dX12_feels_22 : decode cX12_feels 22 = .ok (.aload_n 0, 1) := by decide +kernel
theorem dX12_feels_23 : decode cX12_feels 23 = .ok (.getfield 68, 3) := by decide +kernel
theorem dX12_feels_26 : decode cX12_feels 26 = .ok (.iconst 2, 1) := by decide +kernel
theorem dX12_feels_27 : decode cX12_feels 27 = .ok (.iload_n 2, 1) := by decide +kernel
theorem dX12_feels_28 : decode cX12_feels 28 = .ok (.iastore, 1) := by decide +kernel
theorem dX12_feels_29 : decode cX12_feels 29 = .ok (.aload_n 0, 1) := by decide +kernel
theorem dX12_feels_30 : decode cX12_feels 30 = .ok (.getfield 68, 3) := by decide +kernel
theorem dX12_feels_33 : decode cX12_feels 33 = .ok (.iconst 3, 1) := by decide +kernel
theorem dX12_feels_34 : decode cX12_feels 34 = .ok (.aload_n 0, 1) := by decide +kernel
theorem dX12_feels_35 : decode cX12_feels 35 = .ok (.iload_n 1, 1) := by decide +kernel
theorem dX12_feels_36 : decode cX12_feels 36 = .ok (.iload_n 2, 1) := by decide +kernel
theorem dX12_feels_37 : decode cX12_feels 37 = .ok (.invokevirtual 113, 3) := by decide +kernel
theorem dX12_feels_40 : decode cX12_feels 40 = .ok (.iastore, 1) := by decide +kernel
theorem dX12_feels_41 : decode cX12_feels 41 = .ok (.aload_n 0, 1) := by decide +kernel
theorem dX12_feels_42 : decode cX12_feels 42 = .ok (.getfield 68, 3) := by decide +kernel
theorem dX12_feels_45 : decode cX12_feels 45 = .ok (.iconst 4, 1) := by decide +kernel
theorem dX12_feels_46 : decode cX12_feels 46 = .ok (.aload_n 0, 1) := by decide +kernel
theorem dX12_feels_47 : decode cX12_feels 47 = .ok (.getfield 7, 3) := by decide +kernel
theorem dX12_feels_50 : decode cX12_feels 50 = .ok (.sipush 160, 3) := by decide +kernel
theorem dX12_feels_53 : decode cX12_feels 53 = .ok (.bipush 16, 2) := by decide +kernel
theorem dX12_feels_55 : decode cX12_feels 55 = .ok (.iload_n 1, 1) := by decide +kernel
theorem dX12_feels_56 : decode cX12_feels 56 = .ok (.imul, 1) := by decide +kernel
theorem dX12_feels_57 : decode cX12_feels 57 = .ok (.iadd, 1) := by decide +kernel
theorem dX12_feels_58 : decode cX12_feels 58 = .ok (.iload_n 2, 1) := by decide +kernel
theorem dX12_feels_59 : decode cX12_feels 59 = .ok (.iadd, 1) := by decide +kernel
theorem dX12_feels_60 : decode cX12_feels 60 = .ok (.iaload, 1) := by decide +kernel
theorem dX12_feels_61 : decode cX12_feels 61 = .ok (.iastore, 1) := by decide +kernel
theorem dX12_feels_62 : decode cX12_feels 62 = .ok (.aload_n 0, 1) := by decide +kernel
theorem dX12_feels_63 : decode cX12_feels 63 = .ok (.getfield 68, 3) := by decide +kernel
theorem dX12_feels_66 : decode cX12_feels 66 = .ok (.iconst 5, 1) := by decide +kernel
theorem dX12_feels_67 : decode cX12_feels 67 = .ok (.aload_n 0, 1) := by decide +kernel
theorem dX12_feels_68 : decode cX12_feels 68 = .ok (.getfield 7, 3) := by decide +kernel
theorem dX12_feels_71 : decode cX12_feels 71 = .ok (.bipush 16, 2) := by decide +kernel
theorem dX12_feels_73 : decode cX12_feels 73 = .ok (.iload_n 1, 1) := by decide +kernel
theorem dX12_feels_74 : decode cX12_feels 74 = .ok (.iadd, 1) := by decide +kernel
theorem dX12_feels_75 : decode cX12_feels 75 = .ok (.iaload, 1) := by decide +kernel
theorem dX12_feels_76 : decode cX12_feels 76 = .ok (.iastore, 1) := by decide +kernel
theorem dX12_feels_77 : decode cX12_feels 77 = .ok (.aload_n 0, 1) := by decide +kernel
theorem dX12_feels_78 : decode cX12_feels 78 = .ok (.getfield 68, 3) := by decide +kernel
theorem dX12_feels_81 : decode cX12_feels 81 = .ok (.bipush 6, 2) := by decide +kernel
theorem dX12_feels_83 : decode cX12_feels 83 = .ok (.aload_n 0, 1) := by decide +kernel
theorem dX12_feels_84 : decode cX12_feels 84 = .ok (.iload_n 1, 1) := by decide +kernel
theorem dX12_feels_85 : decode cX12_feels 85 = .ok (.iload_n 2, 1) := by decide +kernel
theorem dX12_feels_86 : decode cX12_feels 86 = .ok (.invokevirtual 124, 3) := by decide +kernel
theorem dX12_feels_89 : decode cX12_feels 89 = .ok (.iastore, 1) := by decide +kernel
theorem dX12_feels_90 : decode cX12_feels 90 = .ok (.aload_n 0, 1) := by decide +kernel
theorem dX12_feels_91 : decode cX12_feels 91 = .ok (.getfield 68, 3) := by decide +kernel
theorem dX12_feels_94 : decode cX12_feels 94 = .ok (.bipush 7, 2) := by decide +kernel
theorem dX12_feels_96 : decode cX12_feels 96 = .ok (.iload_n 3, 1) := by decide +kernel
theorem dX12_feels_97 : decode cX12_feels 97 = .ok (.iastore, 1) := by decide +kernel
theorem dX12_feels_98 : decode cX12_feels 98 = .ok (.aload_n 0, 1) := by decide +kernel
theorem dX12_feels_99 : decode cX12_feels 99 = .ok (.getfield 68, 3) := by decide +kernel
theorem dX12_feels_102 : decode cX12_feels 102 = .ok (.bipush 8, 2) := by decide +kernel
theorem dX12_feels_104 : decode cX12_feels 104 = .ok (.aload_n 0, 1) := by decide +kernel
theorem dX12_feels_105 : decode cX12_feels 105 = .ok (.getfield 7, 3) := by decide +kernel
theorem dX12_feels_108 : decode cX12_feels 108 = .ok (.sipush 291, 3) := by decide +kernel
theorem dX12_feels_111 : decode cX12_feels 111 = .ok (.iaload, 1) := by decide +kernel
theorem dX12_feels_112 : decode cX12_feels 112 = .ok (.bipush 100, 2) := by decide +kernel
theorem dX12_feels_114 : decode cX12_feels 114 = .ok (.irem, 1) := by decide +kernel
theorem dX12_feels_115 : decode cX12_feels 115 = .ok (.iastore, 1) := by decide +kernel
theorem dX12_feels_116 : decode cX12_feels 116 = .ok (.aload_n 0, 1) := by decide +kernel
theorem dX12_feels_117 : decode cX12_feels 117 = .ok (.getfield 68, 3) := by decide +kernel
theorem dX12_feels_120 : decode cX12_feels 120 = .ok (.bipush 9, 2) := by decide +kernel
theorem dX12_feels_122 : decode cX12_feels 122 = .ok (.iload 4, 2) := by decide +kernel
theorem dX12_feels_124 : decode cX12_feels 124 = .ok (.iastore, 1) := by decide +kernel
theorem dX12_feels_125 : decode cX12_feels 125 = .ok (.return_, 1) := by decide +kernel
theorem dX12_choosesFor_0 : decode cX12_choosesFor 0 = .ok (.aload_n 0, 1) := by decide +kernel
theorem dX12_choosesFor_1 : decode cX12_choosesFor 1 = .ok (.iconst (-1), 1) := by decide +kernel
theorem dX12_choosesFor_2 : decode cX12_choosesFor 2 = .ok (.putfield 303, 3) := by decide +kernel
theorem dX12_choosesFor_5 : decode cX12_choosesFor 5 = .ok (.aload_n 0, 1) := by decide +kernel
theorem dX12_choosesFor_6 : decode cX12_choosesFor 6 = .ok (.ldc_w 306, 3) := by decide +kernel
theorem dX12_choosesFor_9 : decode cX12_choosesFor 9 = .ok (.putfield 307, 3) := by decide +kernel
theorem dX12_choosesFor_12 : decode cX12_choosesFor 12 = .ok (.iconst 0, 1) := by decide +kernel
theorem dX12_choosesFor_13 : decode cX12_choosesFor 13 = .ok (.istore 4, 2) := by decide +kernel
theorem dX12_choosesFor_15 : decode cX12_choosesFor 15 = .ok (.iconst 0, 1) := by decide +kernel
theorem dX12_choosesFor_16 : decode cX12_choosesFor 16 = .ok (.istore 5, 2) := by decide +kernel
theorem dX12_choosesFor_18 : decode cX12_choosesFor 18 = .ok (.iload 5, 2) := by decide +kernel
theorem dX12_choosesFor_20 : decode cX12_choosesFor 20 = .ok (.bipush 8, 2) := by decide +kernel
theorem dX12_choosesFor_22 : decode cX12_choosesFor 22 = .ok (.if_icmp .ge 138, 3) := by decide +kernel
theorem dX12_choosesFor_25 : decode cX12_choosesFor 25 = .ok (.aload_n 0, 1) := by decide +kernel
theorem dX12_choosesFor_26 : decode cX12_choosesFor 26 = .ok (.iload 5, 2) := by decide +kernel
theorem dX12_choosesFor_28 : decode cX12_choosesFor 28 = .ok (.invokevirtual 109, 3) := by decide +kernel
theorem dX12_choosesFor_31 : decode cX12_choosesFor 31 = .ok (.ifCond .eq 123, 3) := by decide +kernel
theorem dX12_choosesFor_34 : decode cX12_choosesFor 34 = .ok (.aload_n 0, 1) := by decide +kernel
theorem dX12_choosesFor_35 : decode cX12_choosesFor 35 = .ok (.getfield 7, 3) := by decide +kernel
theorem dX12_choosesFor_38 : decode cX12_choosesFor 38 = .ok (.bipush 24, 2) := by decide +kernel
theorem dX12_choosesFor_40 : decode cX12_choosesFor 40 = .ok (.iload 5, 2) := by decide +kernel
theorem dX12_choosesFor_42 : decode cX12_choosesFor 42 = .ok (.iadd, 1) := by decide +kernel
theorem dX12_choosesFor_43 : decode cX12_choosesFor 43 = .ok (.iaload, 1) := by decide +kernel
theorem dX12_choosesFor_44 : decode cX12_choosesFor 44 = .ok (.ifCond .ne 6, 3) := by decide +kernel
theorem dX12_choosesFor_47 : decode cX12_choosesFor 47 = .ok (.goto 107, 3) := by decide +kernel
theorem dX12_choosesFor_50 : decode cX12_choosesFor 50 = .ok (.aload_n 0, 1) := by decide +kernel
theorem dX12_choosesFor_51 : decode cX12_choosesFor 51 = .ok (.iload 5, 2) := by decide +kernel
theorem dX12_choosesFor_53 : decode cX12_choosesFor 53 = .ok (.iload_n 1, 1) := by decide +kernel
theorem dX12_choosesFor_54 : decode cX12_choosesFor 54 = .ok (.iload_n 2, 1) := by decide +kernel
theorem dX12_choosesFor_55 : decode cX12_choosesFor 55 = .ok (.iload_n 3, 1) := by decide +kernel
theorem dX12_choosesFor_56 : decode cX12_choosesFor 56 = .ok (.invokevirtual 310, 3) := by decide +kernel
theorem dX12_choosesFor_59 : decode cX12_choosesFor 59 = .ok (.aload_n 0, 1) := by decide +kernel
theorem dX12_choosesFor_60 : decode cX12_choosesFor 60 = .ok (.bipush 120, 2) := by decide +kernel
theorem dX12_choosesFor_62 : decode cX12_choosesFor 62 = .ok (.invokevirtual 314, 3) := by decide +kernel
theorem dX12_choosesFor_65 : decode cX12_choosesFor 65 = .ok (.ifCond .eq 6, 3) := by decide +kernel
theorem dX12_choosesFor_68 : decode cX12_choosesFor 68 = .ok (.goto 86, 3) := by decide +kernel
theorem dX12_choosesFor_71 : decode cX12_choosesFor 71 = .ok (.aload_n 0, 1) := by decide +kernel
theorem dX12_choosesFor_72 : decode cX12_choosesFor 72 = .ok (.bipush 101, 2) := by decide +kernel
theorem dX12_choosesFor_74 : decode cX12_choosesFor 74 = .ok (.sipush 9999, 3) := by decide +kernel
theorem dX12_choosesFor_77 : decode cX12_choosesFor 77 = .ok (.iconst 1, 1) := by decide +kernel
theorem dX12_choosesFor_78 : decode cX12_choosesFor 78 = .ok (.invokevirtual 317, 3) := by decide +kernel
theorem dX12_choosesFor_81 : decode cX12_choosesFor 81 = .ok (.istore 6, 2) := by decide +kernel
theorem dX12_choosesFor_83 : decode cX12_choosesFor 83 = .ok (.bipush 99, 2) := by decide +kernel
theorem dX12_choosesFor_85 : decode cX12_choosesFor 85 = .ok (.aload_n 0, 1) := by decide +kernel
theorem dX12_choosesFor_86 : decode cX12_choosesFor 86 = .ok (.iload 5, 2) := by decide +kernel
theorem dX12_choosesFor_88 : decode cX12_choosesFor 88 = .ok (.iload_n 1, 1) := by decide +kernel
theorem dX12_choosesFor_89 : decode cX12_choosesFor 89 = .ok (.invokevirtual 124, 3) := by decide +kernel
theorem dX12_choosesFor_92 : decode cX12_choosesFor 92 = .ok (.aload_n 0, 1) := by decide +kernel
theorem dX12_choosesFor_93 : decode cX12_choosesFor 93 = .ok (.bipush 102, 2) := by decide +kernel
theorem dX12_choosesFor_95 : decode cX12_choosesFor 95 = .ok (.bipush 99, 2) := by decide +kernel
theorem dX12_choosesFor_97 : decode cX12_choosesFor 97 = .ok (.iconst 0, 1) := by decide +kernel
theorem dX12_choosesFor_98 : decode cX12_choosesFor 98 = .ok (.invokevirtual 317, 3) := by decide +kernel
theorem dX12_choosesFor_101 : decode cX12_choosesFor 101 = .ok (.iadd, 1) := by decide +kernel
theorem dX12_choosesFor_102 : decode cX12_choosesFor 102 = .ok (.invokestatic 98, 3) := by decide +kernel
theorem dX12_choosesFor_105 : decode cX12_choosesFor 105 = .ok (.istore 7, 2) := by decide +kernel
theorem dX12_choosesFor_107 : decode cX12_choosesFor 107 = .ok (.iload 6, 2) := by decide +kernel
theorem dX12_choosesFor_109 : decode cX12_choosesFor 109 = .ok (.ifCond .eq 45, 3) := by decide +kernel
theorem dX12_choosesFor_112 : decode cX12_choosesFor 112 = .ok (.iload 6, 2) := by decide +kernel
theorem dX12_choosesFor_114 : decode cX12_choosesFor 114 = .ok (.iload 4, 2) := by decide +kernel
theorem dX12_choosesFor_116 : decode cX12_choosesFor 116 = .ok (.if_icmp .lt 38, 3) := by decide +kernel
theorem dX12_choosesFor_119 : decode cX12_choosesFor 119 = .ok (.iload 6, 2) := by decide +kernel
theorem dX12_choosesFor_121 : decode cX12_choosesFor 121 = .ok (.iload 4, 2) := by decide +kernel
theorem dX12_choosesFor_123 : decode cX12_choosesFor 123 = .ok (.if_icmp .ne 15, 3) := by decide +kernel
theorem dX12_choosesFor_126 : decode cX12_choosesFor 126 = .ok (.iload 7, 2) := by decide +kernel
theorem dX12_choosesFor_128 : decode cX12_choosesFor 128 = .ok (.aload_n 0, 1) := by decide +kernel
theorem dX12_choosesFor_129 : decode cX12_choosesFor 129 = .ok (.getfield 307, 3) := by decide +kernel
theorem dX12_choosesFor_132 : decode cX12_choosesFor 132 = .ok (.if_icmp .lt 6, 3) := by decide +kernel
theorem dX12_choosesFor_135 : decode cX12_choosesFor 135 = .ok (.goto 19, 3) := by decide +kernel
theorem dX12_choosesFor_138 : decode cX12_choosesFor 138 = .ok (.iload 6, 2) := by decide +kernel
theorem dX12_choosesFor_140 : decode cX12_choosesFor 140 = .ok (.istore 4, 2) := by decide +kernel
theorem dX12_choosesFor_142 : decode cX12_choosesFor 142 = .ok (.aload_n 0, 1) := by decide +kernel
theorem dX12_choosesFor_143 : decode cX12_choosesFor 143 = .ok (.iload 5, 2) := by decide +kernel
theorem dX12_choosesFor_145 : decode cX12_choosesFor 145 = .ok (.putfield 303, 3) := by decide +kernel
theorem dX12_choosesFor_148 : decode cX12_choosesFor 148 = .ok (.aload_n 0, 1) := by decide +kernel
theorem dX12_choosesFor_149 : decode cX12_choosesFor 149 = .ok (.iload 7, 2) := by decide +kernel
theorem dX12_choosesFor_151 : decode cX12_choosesFor 151 = .ok (.putfield 307, 3) := by decide +kernel
theorem dX12_choosesFor_154 : decode cX12_choosesFor 154 = .ok (.iinc 5 1, 3) := by decide +kernel
theorem dX12_choosesFor_157 : decode cX12_choosesFor 157 = .ok (.goto (-139), 3) := by decide +kernel
theorem dX12_choosesFor_160 : decode cX12_choosesFor 160 = .ok (.return_, 1) := by decide +kernel
theorem dX12_isUsedTo_0 : decode cX12_isUsedTo 0 = .ok (.aload_n 0, 1) := by decide +kernel
theorem dX12_isUsedTo_1 : decode cX12_isUsedTo 1 = .ok (.getfield 7, 3) := by decide +kernel
theorem dX12_isUsedTo_4 : decode cX12_isUsedTo 4 = .ok (.bipush 32, 2) := by decide +kernel
theorem dX12_isUsedTo_6 : decode cX12_isUsedTo 6 = .ok (.bipush 16, 2) := by decide +kernel
theorem dX12_isUsedTo_8 : decode cX12_isUsedTo 8 = .ok (.iload_n 1, 1) := by decide +kernel
theorem dX12_isUsedTo_9 : decode cX12_isUsedTo 9 = .ok (.imul, 1) := by decide +kernel
theorem dX12_isUsedTo_10 : decode cX12_isUsedTo 10 = .ok (.iadd, 1) := by decide +kernel
theorem dX12_isUsedTo_11 : decode cX12_isUsedTo 11 = .ok (.iload_n 2, 1) := by decide +kernel
theorem dX12_isUsedTo_12 : decode cX12_isUsedTo 12 = .ok (.iadd, 1) := by decide +kernel
theorem dX12_isUsedTo_13 : decode cX12_isUsedTo 13 = .ok (.iconst 0, 1) := by decide +kernel
theorem dX12_isUsedTo_14 : decode cX12_isUsedTo 14 = .ok (.iastore, 1) := by decide +kernel
theorem dX12_isUsedTo_15 : decode cX12_isUsedTo 15 = .ok (.aload_n 0, 1) := by decide +kernel
theorem dX12_isUsedTo_16 : decode cX12_isUsedTo 16 = .ok (.getfield 7, 3) := by decide +kernel
theorem dX12_isUsedTo_19 : decode cX12_isUsedTo 19 = .ok (.sipush 160, 3) := by decide +kernel
theorem dX12_isUsedTo_22 : decode cX12_isUsedTo 22 = .ok (.bipush 16, 2) := by decide +kernel
theorem dX12_isUsedTo_24 : decode cX12_isUsedTo 24 = .ok (.iload_n 1, 1) := by decide +kernel
theorem dX12_isUsedTo_25 : decode cX12_isUsedTo 25 = .ok (.imul, 1) := by decide +kernel
theorem dX12_isUsedTo_26 : decode cX12_isUsedTo 26 = .ok (.iadd, 1) := by decide +kernel
theorem dX12_isUsedTo_27 : decode cX12_isUsedTo 27 = .ok (.iload_n 2, 1) := by decide +kernel
theorem dX12_isUsedTo_28 : decode cX12_isUsedTo 28 = .ok (.iadd, 1) := by decide +kernel
theorem dX12_isUsedTo_29 : decode cX12_isUsedTo 29 = .ok (.iconst 0, 1) := by decide +kernel
theorem dX12_isUsedTo_30 : decode cX12_isUsedTo 30 = .ok (.iastore, 1) := by decide +kernel
theorem dX12_isUsedTo_31 : decode cX12_isUsedTo 31 = .ok (.aload_n 0, 1) := by decide +kernel
theorem dX12_isUsedTo_32 : decode cX12_isUsedTo 32 = .ok (.getfield 19, 3) := by decide +kernel
theorem dX12_isUsedTo_35 : decode cX12_isUsedTo 35 = .ok (.iload_n 2, 1) := by decide +kernel
theorem dX12_isUsedTo_36 : decode cX12_isUsedTo 36 = .ok (.iaload, 1) := by decide +kernel
theorem dX12_isUsedTo_37 : decode cX12_isUsedTo 37 = .ok (.istore_n 3, 1) := by decide +kernel
theorem dX12_isUsedTo_38 : decode cX12_isUsedTo 38 = .ok (.iload_n 3, 1) := by decide +kernel
theorem dX12_isUsedTo_39 : decode cX12_isUsedTo 39 = .ok (.iload_n 2, 1) := by decide +kernel
theorem dX12_isUsedTo_40 : decode cX12_isUsedTo 40 = .ok (.if_icmp .eq 29, 3) := by decide +kernel
theorem dX12_isUsedTo_43 : decode cX12_isUsedTo 43 = .ok (.aload_n 0, 1) := by decide +kernel
theorem dX12_isUsedTo_44 : decode cX12_isUsedTo 44 = .ok (.getfield 7, 3) := by decide +kernel
theorem dX12_isUsedTo_47 : decode cX12_isUsedTo 47 = .ok (.bipush 32, 2) := by decide +kernel
theorem dX12_isUsedTo_49 : decode cX12_isUsedTo 49 = .ok (.bipush 16, 2) := by decide +kernel
theorem dX12_isUsedTo_51 : decode cX12_isUsedTo 51 = .ok (.iload_n 1, 1) := by decide +kernel
theorem dX12_isUsedTo_52 : decode cX12_isUsedTo 52 = .ok (.imul, 1) := by decide +kernel
theorem dX12_isUsedTo_53 : decode cX12_isUsedTo 53 = .ok (.iadd, 1) := by decide +kernel
theorem dX12_isUsedTo_54 : decode cX12_isUsedTo 54 = .ok (.iload_n 3, 1) := by decide +kernel
theorem dX12_isUsedTo_55 : decode cX12_isUsedTo 55 = .ok (.iadd, 1) := by decide +kernel
theorem dX12_isUsedTo_56 : decode cX12_isUsedTo 56 = .ok (.aload_n 0, 1) := by decide +kernel
theorem dX12_isUsedTo_57 : decode cX12_isUsedTo 57 = .ok (.iload_n 1, 1) := by decide +kernel
theorem dX12_isUsedTo_58 : decode cX12_isUsedTo 58 = .ok (.iload_n 3, 1) := by decide +kernel
theorem dX12_isUsedTo_59 : decode cX12_isUsedTo 59 = .ok (.invokevirtual 113, 3) := by decide +kernel
theorem dX12_isUsedTo_62 : decode cX12_isUsedTo 62 = .ok (.bipush 9, 2) := by decide +kernel
theorem dX12_isUsedTo_64 : decode cX12_isUsedTo 64 = .ok (.iadd, 1) := by decide +kernel
theorem dX12_isUsedTo_65 : decode cX12_isUsedTo 65 = .ok (.invokestatic 116, 3) := by decide +kernel
theorem dX12_isUsedTo_68 : decode cX12_isUsedTo 68 = .ok (.iastore, 1) := by decide +kernel
theorem dX12_isUsedTo_69 : decode cX12_isUsedTo 69 = .ok (.return_, 1) := by decide +kernel
theorem dX12_beadsUp_0 : decode cX12_beadsUp 0 = .ok (.aload_n 0, 1) := by decide +kernel
theorem dX12_beadsUp_1 : decode cX12_beadsUp 1 = .ok (.getfield 7, 3) := by decide +kernel
theorem dX12_beadsUp_4 : decode cX12_beadsUp 4 = .ok (.sipush 289, 3) := by decide +kernel
theorem dX12_beadsUp_7 : decode cX12_beadsUp 7 = .ok (.sipush 9999, 3) := by decide +kernel
theorem dX12_beadsUp_10 : decode cX12_beadsUp 10 = .ok (.aload_n 0, 1) := by decide +kernel
theorem dX12_beadsUp_11 : decode cX12_beadsUp 11 = .ok (.getfield 7, 3) := by decide +kernel
theorem dX12_beadsUp_14 : decode cX12_beadsUp 14 = .ok (.sipush 289, 3) := by decide +kernel
theorem dX12_beadsUp_17 : decode cX12_beadsUp 17 = .ok (.iaload, 1) := by decide +kernel
theorem dX12_beadsUp_18 : decode cX12_beadsUp 18 = .ok (.iconst 1, 1) := by decide +kernel
theorem dX12_beadsUp_19 : decode cX12_beadsUp 19 = .ok (.iadd, 1) := by decide +kernel
theorem dX12_beadsUp_20 : decode cX12_beadsUp 20 = .ok (.invokestatic 98, 3) := by decide +kernel
theorem dX12_beadsUp_23 : decode cX12_beadsUp 23 = .ok (.iastore, 1) := by decide +kernel
theorem dX12_beadsUp_24 : decode cX12_beadsUp 24 = .ok (.aload_n 0, 1) := by decide +kernel
theorem dX12_beadsUp_25 : decode cX12_beadsUp 25 = .ok (.aload_n 0, 1) := by decide +kernel
theorem dX12_beadsUp_26 : decode cX12_beadsUp 26 = .ok (.getfield 320, 3) := by decide +kernel
theorem dX12_beadsUp_29 : decode cX12_beadsUp 29 = .ok (.iconst 1, 1) := by decide +kernel
theorem dX12_beadsUp_30 : decode cX12_beadsUp 30 = .ok (.iadd, 1) := by decide +kernel
theorem dX12_beadsUp_31 : decode cX12_beadsUp 31 = .ok (.putfield 320, 3) := by decide +kernel
theorem dX12_beadsUp_34 : decode cX12_beadsUp 34 = .ok (.return_, 1) := by decide +kernel
theorem dX12_writes_0 : decode cX12_writes 0 = .ok (.aload_n 0, 1) := by decide +kernel
theorem dX12_writes_1 : decode cX12_writes 1 = .ok (.getfield 7, 3) := by decide +kernel
theorem dX12_writes_4 : decode cX12_writes 4 = .ok (.sipush 292, 3) := by decide +kernel
theorem dX12_writes_7 : decode cX12_writes 7 = .ok (.aload_n 0, 1) := by decide +kernel
theorem dX12_writes_8 : decode cX12_writes 8 = .ok (.getfield 7, 3) := by decide +kernel
theorem dX12_writes_11 : decode cX12_writes 11 = .ok (.sipush 292, 3) := by decide +kernel
theorem dX12_writes_14 : decode cX12_writes 14 = .ok (.iaload, 1) := by decide +kernel
theorem dX12_writes_15 : decode cX12_writes 15 = .ok (.invokestatic 137, 3) := by decide +kernel
theorem dX12_writes_18 : decode cX12_writes 18 = .ok (.iastore, 1) := by decide +kernel
theorem dX12_writes_19 : decode cX12_writes 19 = .ok (.aload_n 0, 1) := by decide +kernel
theorem dX12_writes_20 : decode cX12_writes 20 = .ok (.iload_n 1, 1) := by decide +kernel
theorem dX12_writes_21 : decode cX12_writes 21 = .ok (.iload_n 2, 1) := by decide +kernel
theorem dX12_writes_22 : decode cX12_writes 22 = .ok (.aload_n 0, 1) := by decide +kernel
theorem dX12_writes_23 : decode cX12_writes 23 = .ok (.getfield 7, 3) := by decide +kernel
theorem dX12_writes_26 : decode cX12_writes 26 = .ok (.sipush 292, 3) := by decide +kernel
theorem dX12_writes_29 : decode cX12_writes 29 = .ok (.iaload, 1) := by decide +kernel
theorem dX12_writes_30 : decode cX12_writes 30 = .ok (.bipush 10, 2) := by decide +kernel
theorem dX12_writes_32 : decode cX12_writes 32 = .ok (.irem, 1) := by decide +kernel
theorem dX12_writes_33 : decode cX12_writes 33 = .ok (.invokevirtual 323, 3) := by decide +kernel
theorem dX12_writes_36 : decode cX12_writes 36 = .ok (.aload_n 0, 1) := by decide +kernel
theorem dX12_writes_37 : decode cX12_writes 37 = .ok (.getfield 303, 3) := by decide +kernel
theorem dX12_writes_40 : decode cX12_writes 40 = .ok (.iconst (-1), 1) := by decide +kernel
theorem dX12_writes_41 : decode cX12_writes 41 = .ok (.if_icmp .ne 8, 3) := by decide +kernel
theorem dX12_writes_44 : decode cX12_writes 44 = .ok (.aload_n 0, 1) := by decide +kernel
theorem dX12_writes_45 : decode cX12_writes 45 = .ok (.invokevirtual 327, 3) := by decide +kernel
theorem dX12_writes_48 : decode cX12_writes 48 = .ok (.return_, 1) := by decide +kernel
theorem dX12_writes_49 : decode cX12_writes 49 = .ok (.bipush 16, 2) := by decide +kernel
theorem dX12_writes_51 : decode cX12_writes 51 = .ok (.aload_n 0, 1) := by decide +kernel
theorem dX12_writes_52 : decode cX12_writes 52 = .ok (.getfield 303, 3) := by decide +kernel
theorem dX12_writes_55 : decode cX12_writes 55 = .ok (.imul, 1) := by decide +kernel
theorem dX12_writes_56 : decode cX12_writes 56 = .ok (.iload_n 1, 1) := by decide +kernel
theorem dX12_writes_57 : decode cX12_writes 57 = .ok (.iadd, 1) := by decide +kernel
theorem dX12_writes_58 : decode cX12_writes 58 = .ok (.istore_n 3, 1) := by decide +kernel
theorem dX12_writes_59 : decode cX12_writes 59 = .ok (.aload_n 0, 1) := by decide +kernel
theorem dX12_writes_60 : decode cX12_writes 60 = .ok (.getfield 7, 3) := by decide +kernel
theorem dX12_writes_63 : decode cX12_writes 63 = .ok (.bipush 24, 2) := by decide +kernel
theorem dX12_writes_65 : decode cX12_writes 65 = .ok (.aload_n 0, 1) := by decide +kernel
theorem dX12_writes_66 : decode cX12_writes 66 = .ok (.getfield 303, 3) := by decide +kernel
theorem dX12_writes_69 : decode cX12_writes 69 = .ok (.iadd, 1) := by decide +kernel
theorem dX12_writes_70 : decode cX12_writes 70 = .ok (.aload_n 0, 1) := by decide +kernel
theorem dX12_writes_71 : decode cX12_writes 71 = .ok (.getfield 7, 3) := by decide +kernel
theorem dX12_writes_74 : decode cX12_writes 74 = .ok (.bipush 24, 2) := by decide +kernel
theorem dX12_writes_76 : decode cX12_writes 76 = .ok (.aload_n 0, 1) := by decide +kernel
theorem dX12_writes_77 : decode cX12_writes 77 = .ok (.getfield 303, 3) := by decide +kernel
theorem dX12_writes_80 : decode cX12_writes 80 = .ok (.iadd, 1) := by decide +kernel
theorem dX12_writes_81 : decode cX12_writes 81 = .ok (.iaload, 1) := by decide +kernel
theorem dX12_writes_82 : decode cX12_writes 82 = .ok (.iconst 1, 1) := by decide +kernel
theorem dX12_writes_83 : decode cX12_writes 83 = .ok (.isub, 1) := by decide +kernel
theorem dX12_writes_84 : decode cX12_writes 84 = .ok (.iastore, 1) := by decide +kernel
theorem dX12_writes_85 : decode cX12_writes 85 = .ok (.aload_n 0, 1) := by decide +kernel
theorem dX12_writes_86 : decode cX12_writes 86 = .ok (.getfield 7, 3) := by decide +kernel
theorem dX12_writes_89 : decode cX12_writes 89 = .ok (.sipush 160, 3) := by decide +kernel
theorem dX12_writes_92 : decode cX12_writes 92 = .ok (.iload_n 3, 1) := by decide +kernel
theorem dX12_writes_93 : decode cX12_writes 93 = .ok (.iadd, 1) := by decide +kernel
theorem dX12_writes_94 : decode cX12_writes 94 = .ok (.aload_n 0, 1) := by decide +kernel
theorem dX12_writes_95 : decode cX12_writes 95 = .ok (.getfield 7, 3) := by decide +kernel
theorem dX12_writes_98 : decode cX12_writes 98 = .ok (.sipush 160, 3) := by decide +kernel
theorem dX12_writes_101 : decode cX12_writes 101 = .ok (.iload_n 3, 1) := by decide +kernel
theorem dX12_writes_102 : decode cX12_writes 102 = .ok (.iadd, 1) := by decide +kernel
theorem dX12_writes_103 : decode cX12_writes 103 = .ok (.iaload, 1) := by decide +kernel
theorem dX12_writes_104 : decode cX12_writes 104 = .ok (.iconst 1, 1) := by decide +kernel
theorem dX12_writes_105 : decode cX12_writes 105 = .ok (.iadd, 1) := by decide +kernel
theorem dX12_writes_106 : decode cX12_writes 106 = .ok (.iastore, 1) := by decide +kernel
theorem dX12_writes_107 : decode cX12_writes 107 = .ok (.aload_n 0, 1) := by decide +kernel
theorem dX12_writes_108 : decode cX12_writes 108 = .ok (.getfield 307, 3) := by decide +kernel
theorem dX12_writes_111 : decode cX12_writes 111 = .ok (.aload_n 0, 1) := by decide +kernel
theorem dX12_writes_112 : decode cX12_writes 112 = .ok (.getfield 7, 3) := by decide +kernel
theorem dX12_writes_115 : decode cX12_writes 115 = .ok (.sipush 288, 3) := by decide +kernel
theorem dX12_writes_118 : decode cX12_writes 118 = .ok (.iaload, 1) := by decide +kernel
theorem dX12_writes_119 : decode cX12_writes 119 = .ok (.if_icmp .gt 40, 3) := by decide +kernel
theorem dX12_writes_122 : decode cX12_writes 122 = .ok (.aload_n 0, 1) := by decide +kernel
theorem dX12_writes_123 : decode cX12_writes 123 = .ok (.getfield 7, 3) := by decide +kernel
theorem dX12_writes_126 : decode cX12_writes 126 = .ok (.sipush 290, 3) := by decide +kernel
theorem dX12_writes_129 : decode cX12_writes 129 = .ok (.sipush 9999, 3) := by decide +kernel
theorem dX12_writes_132 : decode cX12_writes 132 = .ok (.aload_n 0, 1) := by decide +kernel
theorem dX12_writes_133 : decode cX12_writes 133 = .ok (.getfield 7, 3) := by decide +kernel
theorem dX12_writes_136 : decode cX12_writes 136 = .ok (.sipush 290, 3) := by decide +kernel
theorem dX12_writes_139 : decode cX12_writes 139 = .ok (.iaload, 1) := by decide +kernel
theorem dX12_writes_140 : decode cX12_writes 140 = .ok (.iconst 1, 1) := by decide +kernel
theorem dX12_writes_141 : decode cX12_writes 141 = .ok (.iadd, 1) := by decide +kernel
theorem dX12_writes_142 : decode cX12_writes 142 = .ok (.invokestatic 98, 3) := by decide +kernel
theorem dX12_writes_145 : decode cX12_writes 145 = .ok (.iastore, 1) := by decide +kernel
theorem dX12_writes_146 : decode cX12_writes 146 = .ok (.aload_n 0, 1) := by decide +kernel
theorem dX12_writes_147 : decode cX12_writes 147 = .ok (.aload_n 0, 1) := by decide +kernel
theorem dX12_writes_148 : decode cX12_writes 148 = .ok (.getfield 330, 3) := by decide +kernel
theorem dX12_writes_151 : decode cX12_writes 151 = .ok (.iconst 1, 1) := by decide +kernel
theorem dX12_writes_152 : decode cX12_writes 152 = .ok (.iadd, 1) := by decide +kernel
theorem dX12_writes_153 : decode cX12_writes 153 = .ok (.putfield 330, 3) := by decide +kernel
theorem dX12_writes_156 : decode cX12_writes 156 = .ok (.goto 7, 3) := by decide +kernel
theorem dX12_writes_159 : decode cX12_writes 159 = .ok (.aload_n 0, 1) := by decide +kernel
theorem dX12_writes_160 : decode cX12_writes 160 = .ok (.invokevirtual 327, 3) := by decide +kernel
theorem dX12_writes_163 : decode cX12_writes 163 = .ok (.aload_n 0, 1) := by decide +kernel
theorem dX12_writes_164 : decode cX12_writes 164 = .ok (.getfield 7, 3) := by decide +kernel
theorem dX12_writes_167 : decode cX12_writes 167 = .ok (.sipush 160, 3) := by decide +kernel
theorem dX12_writes_170 : decode cX12_writes 170 = .ok (.iload_n 3, 1) := by decide +kernel
theorem dX12_writes_171 : decode cX12_writes 171 = .ok (.iadd, 1) := by decide +kernel
theorem dX12_writes_172 : decode cX12_writes 172 = .ok (.iaload, 1) := by decide +kernel
theorem dX12_writes_173 : decode cX12_writes 173 = .ok (.bipush 9, 2) := by decide +kernel
theorem dX12_writes_175 : decode cX12_writes 175 = .ok (.if_icmp .ge 4, 3) := by decide +kernel
theorem dX12_writes_178 : decode cX12_writes 178 = .ok (.return_, 1) := by decide +kernel
theorem dX12_writes_179 : decode cX12_writes 179 = .ok (.aload_n 0, 1) := by decide +kernel
theorem dX12_writes_180 : decode cX12_writes 180 = .ok (.aload_n 0, 1) := by decide +kernel
theorem dX12_writes_181 : decode cX12_writes 181 = .ok (.getfield 303, 3) := by decide +kernel
theorem dX12_writes_184 : decode cX12_writes 184 = .ok (.iload_n 1, 1) := by decide +kernel
theorem dX12_writes_185 : decode cX12_writes 185 = .ok (.invokevirtual 333, 3) := by decide +kernel
theorem dX12_writes_188 : decode cX12_writes 188 = .ok (.aload_n 0, 1) := by decide +kernel
theorem dX12_writes_189 : decode cX12_writes 189 = .ok (.aload_n 0, 1) := by decide +kernel
theorem dX12_writes_190 : decode cX12_writes 190 = .ok (.getfield 336, 3) := by decide +kernel
theorem dX12_writes_193 : decode cX12_writes 193 = .ok (.iconst 1, 1) := by decide +kernel
theorem dX12_writes_194 : decode cX12_writes 194 = .ok (.iadd, 1) := by decide +kernel
theorem dX12_writes_195 : decode cX12_writes 195 = .ok (.putfield 336, 3) := by decide +kernel
theorem dX12_writes_198 : decode cX12_writes 198 = .ok (.return_, 1) := by decide +kernel
theorem dX12_dayGoes_0 : decode cX12_dayGoes 0 = .ok (.iconst 0, 1) := by decide +kernel
theorem dX12_dayGoes_1 : decode cX12_dayGoes 1 = .ok (.istore_n 1, 1) := by decide +kernel
theorem dX12_dayGoes_2 : decode cX12_dayGoes 2 = .ok (.iload_n 1, 1) := by decide +kernel
theorem dX12_dayGoes_3 : decode cX12_dayGoes 3 = .ok (.aload_n 0, 1) := by decide +kernel
theorem dX12_dayGoes_4 : decode cX12_dayGoes 4 = .ok (.getfield 300, 3) := by decide +kernel
theorem dX12_dayGoes_7 : decode cX12_dayGoes 7 = .ok (.if_icmp .ge 20, 3) := by decide +kernel
theorem dX12_dayGoes_10 : decode cX12_dayGoes 10 = .ok (.aload_n 0, 1) := by decide +kernel
theorem dX12_dayGoes_11 : decode cX12_dayGoes 11 = .ok (.aload_n 0, 1) := by decide +kernel
theorem dX12_dayGoes_12 : decode cX12_dayGoes 12 = .ok (.getfield 25, 3) := by decide +kernel
theorem dX12_dayGoes_15 : decode cX12_dayGoes 15 = .ok (.iload_n 1, 1) := by decide +kernel
theorem dX12_dayGoes_16 : decode cX12_dayGoes 16 = .ok (.iaload, 1) := by decide +kernel
theorem dX12_dayGoes_17 : decode cX12_dayGoes 17 = .ok (.iload_n 1, 1) := by decide +kernel
theorem dX12_dayGoes_18 : decode cX12_dayGoes 18 = .ok (.invokevirtual 339, 3) := by decide +kernel
theorem dX12_dayGoes_21 : decode cX12_dayGoes 21 = .ok (.iinc 1 1, 3) := by decide +kernel
theorem dX12_dayGoes_24 : decode cX12_dayGoes 24 = .ok (.goto (-22), 3) := by decide +kernel
theorem dX12_dayGoes_27 : decode cX12_dayGoes 27 = .ok (.aload_n 0, 1) := by decide +kernel
theorem dX12_dayGoes_28 : decode cX12_dayGoes 28 = .ok (.getfield 7, 3) := by decide +kernel
theorem dX12_dayGoes_31 : decode cX12_dayGoes 31 = .ok (.sipush 291, 3) := by decide +kernel
theorem dX12_dayGoes_34 : decode cX12_dayGoes 34 = .ok (.aload_n 0, 1) := by decide +kernel
theorem dX12_dayGoes_35 : decode cX12_dayGoes 35 = .ok (.getfield 7, 3) := by decide +kernel
theorem dX12_dayGoes_38 : decode cX12_dayGoes 38 = .ok (.sipush 291, 3) := by decide +kernel
theorem dX12_dayGoes_41 : decode cX12_dayGoes 41 = .ok (.iaload, 1) := by decide +kernel
theorem dX12_dayGoes_42 : decode cX12_dayGoes 42 = .ok (.iconst 1, 1) := by decide +kernel
theorem dX12_dayGoes_43 : decode cX12_dayGoes 43 = .ok (.iadd, 1) := by decide +kernel
theorem dX12_dayGoes_44 : decode cX12_dayGoes 44 = .ok (.iastore, 1) := by decide +kernel
theorem dX12_dayGoes_45 : decode cX12_dayGoes 45 = .ok (.return_, 1) := by decide +kernel
theorem dX12_daysGo_0 : decode cX12_daysGo 0 = .ok (.aload_n 0, 1) := by decide +kernel
theorem dX12_daysGo_1 : decode cX12_daysGo 1 = .ok (.iconst 0, 1) := by decide +kernel
theorem dX12_daysGo_2 : decode cX12_daysGo 2 = .ok (.putfield 330, 3) := by decide +kernel
theorem dX12_daysGo_5 : decode cX12_daysGo 5 = .ok (.aload_n 0, 1) := by decide +kernel
theorem dX12_daysGo_6 : decode cX12_daysGo 6 = .ok (.iconst 0, 1) := by decide +kernel
theorem dX12_daysGo_7 : decode cX12_daysGo 7 = .ok (.putfield 320, 3) := by decide +kernel
theorem dX12_daysGo_10 : decode cX12_daysGo 10 = .ok (.aload_n 0, 1) := by decide +kernel
theorem dX12_daysGo_11 : decode cX12_daysGo 11 = .ok (.iconst 0, 1) := by decide +kernel
theorem dX12_daysGo_12 : decode cX12_daysGo 12 = .ok (.putfield 336, 3) := by decide +kernel
theorem dX12_daysGo_15 : decode cX12_daysGo 15 = .ok (.iconst 0, 1) := by decide +kernel
theorem dX12_daysGo_16 : decode cX12_daysGo 16 = .ok (.istore_n 2, 1) := by decide +kernel
theorem dX12_daysGo_17 : decode cX12_daysGo 17 = .ok (.iload_n 2, 1) := by decide +kernel
theorem dX12_daysGo_18 : decode cX12_daysGo 18 = .ok (.iload_n 1, 1) := by decide +kernel
theorem dX12_daysGo_19 : decode cX12_daysGo 19 = .ok (.if_icmp .ge 27, 3) := by decide +kernel
theorem dX12_daysGo_22 : decode cX12_daysGo 22 = .ok (.aload_n 0, 1) := by decide +kernel
theorem dX12_daysGo_23 : decode cX12_daysGo 23 = .ok (.getfield 7, 3) := by decide +kernel
theorem dX12_daysGo_26 : decode cX12_daysGo 26 = .ok (.sipush 291, 3) := by decide +kernel
theorem dX12_daysGo_29 : decode cX12_daysGo 29 = .ok (.iaload, 1) := by decide +kernel
theorem dX12_daysGo_30 : decode cX12_daysGo 30 = .ok (.sipush 9999, 3) := by decide +kernel
theorem dX12_daysGo_33 : decode cX12_daysGo 33 = .ok (.if_icmp .ge 13, 3) := by decide +kernel
theorem dX12_daysGo_36 : decode cX12_daysGo 36 = .ok (.aload_n 0, 1) := by decide +kernel
theorem dX12_daysGo_37 : decode cX12_daysGo 37 = .ok (.invokevirtual 342, 3) := by decide +kernel
theorem dX12_daysGo_40 : decode cX12_daysGo 40 = .ok (.iinc 2 1, 3) := by decide +kernel
theorem dX12_daysGo_43 : decode cX12_daysGo 43 = .ok (.goto (-26), 3) := by decide +kernel
theorem dX12_daysGo_46 : decode cX12_daysGo 46 = .ok (.return_, 1) := by decide +kernel
theorem dX12_days_0 : decode cX12_days 0 = .ok (.iload_n 1, 1) := by decide +kernel
theorem dX12_days_1 : decode cX12_days 1 = .ok (.iconst 1, 1) := by decide +kernel
theorem dX12_days_2 : decode cX12_days 2 = .ok (.bipush 60, 2) := by decide +kernel
theorem dX12_days_4 : decode cX12_days 4 = .ok (.invokestatic 105, 3) := by decide +kernel
theorem dX12_days_7 : decode cX12_days 7 = .ok (.ifCond .ne 5, 3) := by decide +kernel
theorem dX12_days_10 : decode cX12_days 10 = .ok (.iconst (-1), 1) := by decide +kernel
theorem dX12_days_11 : decode cX12_days 11 = .ok (.ireturn, 1) := by decide +kernel
theorem dX12_days_12 : decode cX12_days 12 = .ok (.aload_n 0, 1) := by decide +kernel
theorem dX12_days_13 : decode cX12_days 13 = .ok (.iload_n 1, 1) := by decide +kernel
theorem dX12_days_14 : decode cX12_days 14 = .ok (.invokevirtual 345, 3) := by decide +kernel
theorem dX12_days_17 : decode cX12_days 17 = .ok (.aload_n 0, 1) := by decide +kernel
theorem dX12_days_18 : decode cX12_days 18 = .ok (.getfield 330, 3) := by decide +kernel
theorem dX12_days_21 : decode cX12_days 21 = .ok (.ireturn, 1) := by decide +kernel
theorem dX12_tried_0 : decode cX12_tried 0 = .ok (.iload_n 1, 1) := by decide +kernel
theorem dX12_tried_1 : decode cX12_tried 1 = .ok (.iconst 1, 1) := by decide +kernel
theorem dX12_tried_2 : decode cX12_tried 2 = .ok (.bipush 60, 2) := by decide +kernel
theorem dX12_tried_4 : decode cX12_tried 4 = .ok (.invokestatic 105, 3) := by decide +kernel
theorem dX12_tried_7 : decode cX12_tried 7 = .ok (.ifCond .eq 35, 3) := by decide +kernel
theorem dX12_tried_10 : decode cX12_tried 10 = .ok (.iload_n 2, 1) := by decide +kernel
theorem dX12_tried_11 : decode cX12_tried 11 = .ok (.iconst 0, 1) := by decide +kernel
theorem dX12_tried_12 : decode cX12_tried 12 = .ok (.iconst 2, 1) := by decide +kernel
theorem dX12_tried_13 : decode cX12_tried 13 = .ok (.invokestatic 105, 3) := by decide +kernel
theorem dX12_tried_16 : decode cX12_tried 16 = .ok (.ifCond .ne 28, 3) := by decide +kernel
theorem dX12_tried_19 : decode cX12_tried 19 = .ok (.aload_n 0, 1) := by decide +kernel
theorem dX12_tried_20 : decode cX12_tried 20 = .ok (.iload_n 2, 1) := by decide +kernel
theorem dX12_tried_21 : decode cX12_tried 21 = .ok (.bipush 100, 2) := by decide +kernel
theorem dX12_tried_23 : decode cX12_tried 23 = .ok (.isub, 1) := by decide +kernel
theorem dX12_tried_24 : decode cX12_tried 24 = .ok (.invokevirtual 109, 3) := by decide +kernel
theorem dX12_tried_27 : decode cX12_tried 27 = .ok (.ifCond .ne 17, 3) := by decide +kernel
theorem dX12_tried_30 : decode cX12_tried 30 = .ok (.aload_n 0, 1) := by decide +kernel
theorem dX12_tried_31 : decode cX12_tried 31 = .ok (.iload_n 2, 1) := by decide +kernel
theorem dX12_tried_32 : decode cX12_tried 32 = .ok (.sipush 200, 3) := by decide +kernel
theorem dX12_tried_35 : decode cX12_tried 35 = .ok (.isub, 1) := by decide +kernel
theorem dX12_tried_36 : decode cX12_tried 36 = .ok (.invokevirtual 109, 3) := by decide +kernel
theorem dX12_tried_39 : decode cX12_tried 39 = .ok (.ifCond .ne 5, 3) := by decide +kernel
theorem dX12_tried_42 : decode cX12_tried 42 = .ok (.iconst (-1), 1) := by decide +kernel
theorem dX12_tried_43 : decode cX12_tried 43 = .ok (.ireturn, 1) := by decide +kernel
theorem dX12_tried_44 : decode cX12_tried 44 = .ok (.aload_n 0, 1) := by decide +kernel
theorem dX12_tried_45 : decode cX12_tried 45 = .ok (.getfield 7, 3) := by decide +kernel
theorem dX12_tried_48 : decode cX12_tried 48 = .ok (.aload_n 0, 1) := by decide +kernel
theorem dX12_tried_49 : decode cX12_tried 49 = .ok (.getfield 13, 3) := by decide +kernel
theorem dX12_tried_52 : decode cX12_tried 52 = .ok (.invokestatic 272, 3) := by decide +kernel
theorem dX12_tried_55 : decode cX12_tried 55 = .ok (.aload_n 0, 1) := by decide +kernel
theorem dX12_tried_56 : decode cX12_tried 56 = .ok (.iload_n 1, 1) := by decide +kernel
theorem dX12_tried_57 : decode cX12_tried 57 = .ok (.invokevirtual 345, 3) := by decide +kernel
theorem dX12_tried_60 : decode cX12_tried 60 = .ok (.iload_n 2, 1) := by decide +kernel
theorem dX12_tried_61 : decode cX12_tried 61 = .ok (.tableswitch 51 0 2 #[27, 35, 43], 27) := by decide +kernel
theorem dX12_tried_88 : decode cX12_tried 88 = .ok (.aload_n 0, 1) := by decide +kernel
theorem dX12_tried_89 : decode cX12_tried 89 = .ok (.getfield 330, 3) := by decide +kernel
theorem dX12_tried_92 : decode cX12_tried 92 = .ok (.istore_n 3, 1) := by decide +kernel
theorem dX12_tried_93 : decode cX12_tried 93 = .ok (.goto 51, 3) := by decide +kernel
theorem dX12_tried_96 : decode cX12_tried 96 = .ok (.aload_n 0, 1) := by decide +kernel
theorem dX12_tried_97 : decode cX12_tried 97 = .ok (.getfield 320, 3) := by decide +kernel
theorem dX12_tried_100 : decode cX12_tried 100 = .ok (.istore_n 3, 1) := by decide +kernel
theorem dX12_tried_101 : decode cX12_tried 101 = .ok (.goto 43, 3) := by decide +kernel
theorem dX12_tried_104 : decode cX12_tried 104 = .ok (.aload_n 0, 1) := by decide +kernel
theorem dX12_tried_105 : decode cX12_tried 105 = .ok (.getfield 336, 3) := by decide +kernel
theorem dX12_tried_108 : decode cX12_tried 108 = .ok (.istore_n 3, 1) := by decide +kernel
theorem dX12_tried_109 : decode cX12_tried 109 = .ok (.goto 35, 3) := by decide +kernel
theorem dX12_tried_112 : decode cX12_tried 112 = .ok (.iload_n 2, 1) := by decide +kernel
theorem dX12_tried_113 : decode cX12_tried 113 = .ok (.sipush 200, 3) := by decide +kernel
theorem dX12_tried_116 : decode cX12_tried 116 = .ok (.if_icmp .ge 18, 3) := by decide +kernel
theorem dX12_tried_119 : decode cX12_tried 119 = .ok (.aload_n 0, 1) := by decide +kernel
theorem dX12_tried_120 : decode cX12_tried 120 = .ok (.getfield 7, 3) := by decide +kernel
theorem dX12_tried_123 : decode cX12_tried 123 = .ok (.bipush 24, 2) := by decide +kernel
theorem dX12_tried_125 : decode cX12_tried 125 = .ok (.iload_n 2, 1) := by decide +kernel
theorem dX12_tried_126 : decode cX12_tried 126 = .ok (.iadd, 1) := by decide +kernel
theorem dX12_tried_127 : decode cX12_tried 127 = .ok (.bipush 100, 2) := by decide +kernel
theorem dX12_tried_129 : decode cX12_tried 129 = .ok (.isub, 1) := by decide +kernel
theorem dX12_tried_130 : decode cX12_tried 130 = .ok (.iaload, 1) := by decide +kernel
theorem dX12_tried_131 : decode cX12_tried 131 = .ok (.goto 12, 3) := by decide +kernel
theorem dX12_tried_134 : decode cX12_tried 134 = .ok (.aload_n 0, 1) := by decide +kernel
theorem dX12_tried_135 : decode cX12_tried 135 = .ok (.iload_n 2, 1) := by decide +kernel
theorem dX12_tried_136 : decode cX12_tried 136 = .ok (.sipush 200, 3) := by decide +kernel
theorem dX12_tried_139 : decode cX12_tried 139 = .ok (.isub, 1) := by decide +kernel
theorem dX12_tried_140 : decode cX12_tried 140 = .ok (.invokevirtual 140, 3) := by decide +kernel
theorem dX12_tried_143 : decode cX12_tried 143 = .ok (.istore_n 3, 1) := by decide +kernel
theorem dX12_tried_144 : decode cX12_tried 144 = .ok (.aload_n 0, 1) := by decide +kernel
theorem dX12_tried_145 : decode cX12_tried 145 = .ok (.getfield 13, 3) := by decide +kernel
theorem dX12_tried_148 : decode cX12_tried 148 = .ok (.aload_n 0, 1) := by decide +kernel
theorem dX12_tried_149 : decode cX12_tried 149 = .ok (.getfield 7, 3) := by decide +kernel
theorem dX12_tried_152 : decode cX12_tried 152 = .ok (.invokestatic 272, 3) := by decide +kernel
theorem dX12_tried_155 : decode cX12_tried 155 = .ok (.iload_n 3, 1) := by decide +kernel
theorem dX12_tried_156 : decode cX12_tried 156 = .ok (.ireturn, 1) := by decide +kernel
theorem dX12_bottleIs_0 : decode cX12_bottleIs 0 = .ok (.aload_n 0, 1) := by decide +kernel
theorem dX12_bottleIs_1 : decode cX12_bottleIs 1 = .ok (.iload_n 1, 1) := by decide +kernel
theorem dX12_bottleIs_2 : decode cX12_bottleIs 2 = .ok (.invokevirtual 109, 3) := by decide +kernel
theorem dX12_bottleIs_5 : decode cX12_bottleIs 5 = .ok (.ifCond .ne 5, 3) := by decide +kernel
theorem dX12_bottleIs_8 : decode cX12_bottleIs 8 = .ok (.iconst (-1), 1) := by decide +kernel
theorem dX12_bottleIs_9 : decode cX12_bottleIs 9 = .ok (.ireturn, 1) := by decide +kernel
theorem dX12_bottleIs_10 : decode cX12_bottleIs 10 = .ok (.iload_n 2, 1) := by decide +kernel
theorem dX12_bottleIs_11 : decode cX12_bottleIs 11 = .ok (.tableswitch 75 0 4 #[33, 43, 53, 63, 69], 33) := by decide +kernel
theorem dX12_bottleIs_44 : decode cX12_bottleIs 44 = .ok (.aload_n 0, 1) := by decide +kernel
theorem dX12_bottleIs_45 : decode cX12_bottleIs 45 = .ok (.getfield 7, 3) := by decide +kernel
theorem dX12_bottleIs_48 : decode cX12_bottleIs 48 = .ok (.bipush 8, 2) := by decide +kernel
theorem dX12_bottleIs_50 : decode cX12_bottleIs 50 = .ok (.iload_n 1, 1) := by decide +kernel
theorem dX12_bottleIs_51 : decode cX12_bottleIs 51 = .ok (.iadd, 1) := by decide +kernel
theorem dX12_bottleIs_52 : decode cX12_bottleIs 52 = .ok (.iaload, 1) := by decide +kernel
theorem dX12_bottleIs_53 : decode cX12_bottleIs 53 = .ok (.ireturn, 1) := by decide +kernel
theorem dX12_bottleIs_54 : decode cX12_bottleIs 54 = .ok (.aload_n 0, 1) := by decide +kernel
theorem dX12_bottleIs_55 : decode cX12_bottleIs 55 = .ok (.getfield 7, 3) := by decide +kernel
theorem dX12_bottleIs_58 : decode cX12_bottleIs 58 = .ok (.bipush 16, 2) := by decide +kernel
theorem dX12_bottleIs_60 : decode cX12_bottleIs 60 = .ok (.iload_n 1, 1) := by decide +kernel
theorem dX12_bottleIs_61 : decode cX12_bottleIs 61 = .ok (.iadd, 1) := by decide +kernel
theorem dX12_bottleIs_62 : decode cX12_bottleIs 62 = .ok (.iaload, 1) := by decide +kernel
theorem dX12_bottleIs_63 : decode cX12_bottleIs 63 = .ok (.ireturn, 1) := by decide +kernel
theorem dX12_bottleIs_64 : decode cX12_bottleIs 64 = .ok (.aload_n 0, 1) := by decide +kernel
theorem dX12_bottleIs_65 : decode cX12_bottleIs 65 = .ok (.getfield 7, 3) := by decide +kernel
theorem dX12_bottleIs_68 : decode cX12_bottleIs 68 = .ok (.bipush 24, 2) := by decide +kernel
theorem dX12_bottleIs_70 : decode cX12_bottleIs 70 = .ok (.iload_n 1, 1) := by decide +kernel
theorem dX12_bottleIs_71 : decode cX12_bottleIs 71 = .ok (.iadd, 1) := by decide +kernel
theorem dX12_bottleIs_72 : decode cX12_bottleIs 72 = .ok (.iaload, 1) := by decide +kernel
theorem dX12_bottleIs_73 : decode cX12_bottleIs 73 = .ok (.ireturn, 1) := by decide +kernel
theorem dX12_bottleIs_74 : decode cX12_bottleIs 74 = .ok (.aload_n 0, 1) := by decide +kernel
theorem dX12_bottleIs_75 : decode cX12_bottleIs 75 = .ok (.iload_n 1, 1) := by decide +kernel
theorem dX12_bottleIs_76 : decode cX12_bottleIs 76 = .ok (.invokevirtual 348, 3) := by decide +kernel
theorem dX12_bottleIs_79 : decode cX12_bottleIs 79 = .ok (.ireturn, 1) := by decide +kernel
theorem dX12_bottleIs_80 : decode cX12_bottleIs 80 = .ok (.aload_n 0, 1) := by decide +kernel
theorem dX12_bottleIs_81 : decode cX12_bottleIs 81 = .ok (.iload_n 1, 1) := by decide +kernel
theorem dX12_bottleIs_82 : decode cX12_bottleIs 82 = .ok (.invokevirtual 140, 3) := by decide +kernel
theorem dX12_bottleIs_85 : decode cX12_bottleIs 85 = .ok (.ireturn, 1) := by decide +kernel
theorem dX12_bottleIs_86 : decode cX12_bottleIs 86 = .ok (.iconst (-1), 1) := by decide +kernel
theorem dX12_bottleIs_87 : decode cX12_bottleIs 87 = .ok (.ireturn, 1) := by decide +kernel
theorem dX12_fear_0 : decode cX12_fear 0 = .ok (.aload_n 0, 1) := by decide +kernel
theorem dX12_fear_1 : decode cX12_fear 1 = .ok (.iload_n 1, 1) := by decide +kernel
theorem dX12_fear_2 : decode cX12_fear 2 = .ok (.invokevirtual 109, 3) := by decide +kernel
theorem dX12_fear_5 : decode cX12_fear 5 = .ok (.ifCond .eq 19, 3) := by decide +kernel
theorem dX12_fear_8 : decode cX12_fear 8 = .ok (.iload_n 2, 1) := by decide +kernel
theorem dX12_fear_9 : decode cX12_fear 9 = .ok (.invokestatic 351, 3) := by decide +kernel
theorem dX12_fear_12 : decode cX12_fear 12 = .ok (.ifCond .eq 12, 3) := by decide +kernel
theorem dX12_fear_15 : decode cX12_fear 15 = .ok (.iload_n 3, 1) := by decide +kernel
theorem dX12_fear_16 : decode cX12_fear 16 = .ok (.iconst 0, 1) := by decide +kernel
theorem dX12_fear_17 : decode cX12_fear 17 = .ok (.iconst 2, 1) := by decide +kernel
theorem dX12_fear_18 : decode cX12_fear 18 = .ok (.invokestatic 105, 3) := by decide +kernel
theorem dX12_fear_21 : decode cX12_fear 21 = .ok (.ifCond .ne 5, 3) := by decide +kernel
theorem dX12_fear_24 : decode cX12_fear 24 = .ok (.iconst (-1), 1) := by decide +kernel
theorem dX12_fear_25 : decode cX12_fear 25 = .ok (.ireturn, 1) := by decide +kernel
theorem dX12_fear_26 : decode cX12_fear 26 = .ok (.iload_n 3, 1) := by decide +kernel
theorem dX12_fear_27 : decode cX12_fear 27 = .ok (.ifCond .ne 12, 3) := by decide +kernel
theorem dX12_fear_30 : decode cX12_fear 30 = .ok (.aload_n 0, 1) := by decide +kernel
theorem dX12_fear_31 : decode cX12_fear 31 = .ok (.iload_n 1, 1) := by decide +kernel
theorem dX12_fear_32 : decode cX12_fear 32 = .ok (.iload_n 2, 1) := by decide +kernel
theorem dX12_fear_33 : decode cX12_fear 33 = .ok (.invokevirtual 113, 3) := by decide +kernel
theorem dX12_fear_36 : decode cX12_fear 36 = .ok (.goto 32, 3) := by decide +kernel
theorem dX12_fear_39 : decode cX12_fear 39 = .ok (.iload_n 3, 1) := by decide +kernel
theorem dX12_fear_40 : decode cX12_fear 40 = .ok (.iconst 1, 1) := by decide +kernel
theorem dX12_fear_41 : decode cX12_fear 41 = .ok (.if_icmp .ne 21, 3) := by decide +kernel
theorem dX12_fear_44 : decode cX12_fear 44 = .ok (.aload_n 0, 1) := by decide +kernel
theorem dX12_fear_45 : decode cX12_fear 45 = .ok (.getfield 7, 3) := by decide +kernel
theorem dX12_fear_48 : decode cX12_fear 48 = .ok (.sipush 160, 3) := by decide +kernel
theorem dX12_fear_51 : decode cX12_fear 51 = .ok (.bipush 16, 2) := by decide +kernel
theorem dX12_fear_53 : decode cX12_fear 53 = .ok (.iload_n 1, 1) := by decide +kernel
theorem dX12_fear_54 : decode cX12_fear 54 = .ok (.imul, 1) := by decide +kernel
theorem dX12_fear_55 : decode cX12_fear 55 = .ok (.iadd, 1) := by decide +kernel
theorem dX12_fear_56 : decode cX12_fear 56 = .ok (.iload_n 2, 1) := by decide +kernel
theorem dX12_fear_57 : decode cX12_fear 57 = .ok (.iadd, 1) := by decide +kernel
theorem dX12_fear_58 : decode cX12_fear 58 = .ok (.iaload, 1) := by decide +kernel
theorem dX12_fear_59 : decode cX12_fear 59 = .ok (.goto 9, 3) := by decide +kernel
theorem dX12_fear_62 : decode cX12_fear 62 = .ok (.aload_n 0, 1) := by decide +kernel
theorem dX12_fear_63 : decode cX12_fear 63 = .ok (.iload_n 1, 1) := by decide +kernel
theorem dX12_fear_64 : decode cX12_fear 64 = .ok (.iload_n 2, 1) := by decide +kernel
theorem dX12_fear_65 : decode cX12_fear 65 = .ok (.invokevirtual 124, 3) := by decide +kernel
theorem dX12_fear_68 : decode cX12_fear 68 = .ok (.ireturn, 1) := by decide +kernel
theorem dX12_rhyme_0 : decode cX12_rhyme 0 = .ok (.iload_n 1, 1) := by decide +kernel
theorem dX12_rhyme_1 : decode cX12_rhyme 1 = .ok (.invokestatic 351, 3) := by decide +kernel
theorem dX12_rhyme_4 : decode cX12_rhyme 4 = .ok (.ifCond .eq 12, 3) := by decide +kernel
theorem dX12_rhyme_7 : decode cX12_rhyme 7 = .ok (.aload_n 0, 1) := by decide +kernel
theorem dX12_rhyme_8 : decode cX12_rhyme 8 = .ok (.getfield 19, 3) := by decide +kernel
theorem dX12_rhyme_11 : decode cX12_rhyme 11 = .ok (.iload_n 1, 1) := by decide +kernel
theorem dX12_rhyme_12 : decode cX12_rhyme 12 = .ok (.iaload, 1) := by decide +kernel
theorem dX12_rhyme_13 : decode cX12_rhyme 13 = .ok (.goto 4, 3) := by decide +kernel
theorem dX12_rhyme_16 : decode cX12_rhyme 16 = .ok (.iconst (-1), 1) := by decide +kernel
theorem dX12_rhyme_17 : decode cX12_rhyme 17 = .ok (.ireturn, 1) := by decide +kernel
theorem dX12_used_0 : decode cX12_used 0 = .ok (.aload_n 0, 1) := by decide +kernel
theorem dX12_used_1 : decode cX12_used 1 = .ok (.iload_n 1, 1) := by decide +kernel
theorem dX12_used_2 : decode cX12_used 2 = .ok (.invokevirtual 109, 3) := by decide +kernel
theorem dX12_used_5 : decode cX12_used 5 = .ok (.ifCond .eq 20, 3) := by decide +kernel
theorem dX12_used_8 : decode cX12_used 8 = .ok (.iload_n 2, 1) := by decide +kernel
theorem dX12_used_9 : decode cX12_used 9 = .ok (.invokestatic 351, 3) := by decide +kernel
theorem dX12_used_12 : decode cX12_used 12 = .ok (.ifCond .eq 13, 3) := by decide +kernel
theorem dX12_used_15 : decode cX12_used 15 = .ok (.iload_n 3, 1) := by decide +kernel
theorem dX12_used_16 : decode cX12_used 16 = .ok (.iconst 1, 1) := by decide +kernel
theorem dX12_used_17 : decode cX12_used 17 = .ok (.bipush 60, 2) := by decide +kernel
theorem dX12_used_19 : decode cX12_used 19 = .ok (.invokestatic 105, 3) := by decide +kernel
theorem dX12_used_22 : decode cX12_used 22 = .ok (.ifCond .ne 5, 3) := by decide +kernel
theorem dX12_used_25 : decode cX12_used 25 = .ok (.iconst (-1), 1) := by decide +kernel
theorem dX12_used_26 : decode cX12_used 26 = .ok (.ireturn, 1) := by decide +kernel
theorem dX12_used_27 : decode cX12_used 27 = .ok (.aload_n 0, 1) := by decide +kernel
theorem dX12_used_28 : decode cX12_used 28 = .ok (.getfield 7, 3) := by decide +kernel
theorem dX12_used_31 : decode cX12_used 31 = .ok (.aload_n 0, 1) := by decide +kernel
theorem dX12_used_32 : decode cX12_used 32 = .ok (.getfield 13, 3) := by decide +kernel
theorem dX12_used_35 : decode cX12_used 35 = .ok (.invokestatic 272, 3) := by decide +kernel
theorem dX12_used_38 : decode cX12_used 38 = .ok (.iconst 0, 1) := by decide +kernel
theorem dX12_used_39 : decode cX12_used 39 = .ok (.istore 4, 2) := by decide +kernel
theorem dX12_used_41 : decode cX12_used 41 = .ok (.aload_n 0, 1) := by decide +kernel
theorem dX12_used_42 : decode cX12_used 42 = .ok (.iload_n 1, 1) := by decide +kernel
theorem dX12_used_43 : decode cX12_used 43 = .ok (.iload_n 2, 1) := by decide +kernel
theorem dX12_used_44 : decode cX12_used 44 = .ok (.invokevirtual 127, 3) := by decide +kernel
theorem dX12_used_47 : decode cX12_used 47 = .ok (.ifCond .ne 36, 3) := by decide +kernel
theorem dX12_used_50 : decode cX12_used 50 = .ok (.iload 4, 2) := by decide +kernel
theorem dX12_used_52 : decode cX12_used 52 = .ok (.iload_n 3, 1) := by decide +kernel
theorem dX12_used_53 : decode cX12_used 53 = .ok (.if_icmp .ge 30, 3) := by decide +kernel
theorem dX12_used_56 : decode cX12_used 56 = .ok (.aload_n 0, 1) := by decide +kernel
theorem dX12_used_57 : decode cX12_used 57 = .ok (.getfield 7, 3) := by decide +kernel
theorem dX12_used_60 : decode cX12_used 60 = .ok (.sipush 291, 3) := by decide +kernel
theorem dX12_used_63 : decode cX12_used 63 = .ok (.iaload, 1) := by decide +kernel
theorem dX12_used_64 : decode cX12_used 64 = .ok (.sipush 9999, 3) := by decide +kernel
theorem dX12_used_67 : decode cX12_used 67 = .ok (.if_icmp .ge 16, 3) := by decide +kernel
theorem dX12_used_70 : decode cX12_used 70 = .ok (.aload_n 0, 1) := by decide +kernel
theorem dX12_used_71 : decode cX12_used 71 = .ok (.invokevirtual 342, 3) := by decide +kernel
theorem dX12_used_74 : decode cX12_used 74 = .ok (.iload 4, 2) := by decide +kernel
theorem dX12_used_76 : decode cX12_used 76 = .ok (.iconst 1, 1) := by decide +kernel
theorem dX12_used_77 : decode cX12_used 77 = .ok (.iadd, 1) := by decide +kernel
theorem dX12_used_78 : decode cX12_used 78 = .ok (.istore 4, 2) := by decide +kernel
theorem dX12_used_80 : decode cX12_used 80 = .ok (.goto (-39), 3) := by decide +kernel
theorem dX12_used_83 : decode cX12_used 83 = .ok (.aload_n 0, 1) := by decide +kernel
theorem dX12_used_84 : decode cX12_used 84 = .ok (.iload_n 1, 1) := by decide +kernel
theorem dX12_used_85 : decode cX12_used 85 = .ok (.iload_n 2, 1) := by decide +kernel
theorem dX12_used_86 : decode cX12_used 86 = .ok (.invokevirtual 127, 3) := by decide +kernel
theorem dX12_used_89 : decode cX12_used 89 = .ok (.istore 5, 2) := by decide +kernel
theorem dX12_used_91 : decode cX12_used 91 = .ok (.aload_n 0, 1) := by decide +kernel
theorem dX12_used_92 : decode cX12_used 92 = .ok (.getfield 13, 3) := by decide +kernel
theorem dX12_used_95 : decode cX12_used 95 = .ok (.aload_n 0, 1) := by decide +kernel
theorem dX12_used_96 : decode cX12_used 96 = .ok (.getfield 7, 3) := by decide +kernel
theorem dX12_used_99 : decode cX12_used 99 = .ok (.invokestatic 272, 3) := by decide +kernel
theorem dX12_used_102 : decode cX12_used 102 = .ok (.iload 5, 2) := by decide +kernel
theorem dX12_used_104 : decode cX12_used 104 = .ok (.ifCond .eq 8, 3) := by decide +kernel
theorem dX12_used_107 : decode cX12_used 107 = .ok (.iload 4, 2) := by decide +kernel
theorem dX12_used_109 : decode cX12_used 109 = .ok (.goto 5, 3) := by decide +kernel
theorem dX12_used_112 : decode cX12_used 112 = .ok (.bipush (-2), 2) := by decide +kernel
theorem dX12_used_114 : decode cX12_used 114 = .ok (.ireturn, 1) := by decide +kernel
theorem dX12_anyBears_0 : decode cX12_anyBears 0 = .ok (.iconst 0, 1) := by decide +kernel
theorem dX12_anyBears_1 : decode cX12_anyBears 1 = .ok (.istore_n 2, 1) := by decide +kernel
theorem dX12_anyBears_2 : decode cX12_anyBears 2 = .ok (.iload_n 2, 1) := by decide +kernel
theorem dX12_anyBears_3 : decode cX12_anyBears 3 = .ok (.bipush 8, 2) := by decide +kernel
theorem dX12_anyBears_5 : decode cX12_anyBears 5 = .ok (.if_icmp .ge 28, 3) := by decide +kernel
theorem dX12_anyBears_8 : decode cX12_anyBears 8 = .ok (.aload_n 0, 1) := by decide +kernel
theorem dX12_anyBears_9 : decode cX12_anyBears 9 = .ok (.iload_n 2, 1) := by decide +kernel
theorem dX12_anyBears_10 : decode cX12_anyBears 10 = .ok (.invokevirtual 109, 3) := by decide +kernel
theorem dX12_anyBears_13 : decode cX12_anyBears 13 = .ok (.ifCond .eq 14, 3) := by decide +kernel
theorem dX12_anyBears_16 : decode cX12_anyBears 16 = .ok (.aload_n 0, 1) := by decide +kernel
theorem dX12_anyBears_17 : decode cX12_anyBears 17 = .ok (.iload_n 2, 1) := by decide +kernel
theorem dX12_anyBears_18 : decode cX12_anyBears 18 = .ok (.iload_n 1, 1) := by decide +kernel
theorem dX12_anyBears_19 : decode cX12_anyBears 19 = .ok (.invokevirtual 127, 3) := by decide +kernel
theorem dX12_anyBears_22 : decode cX12_anyBears 22 = .ok (.ifCond .eq 5, 3) := by decide +kernel
theorem dX12_anyBears_25 : decode cX12_anyBears 25 = .ok (.iconst 1, 1) := by decide +kernel
theorem dX12_anyBears_26 : decode cX12_anyBears 26 = .ok (.ireturn, 1) := by decide +kernel
theorem dX12_anyBears_27 : decode cX12_anyBears 27 = .ok (.iinc 2 1, 3) := by decide +kernel
theorem dX12_anyBears_30 : decode cX12_anyBears 30 = .ok (.goto (-28), 3) := by decide +kernel
theorem dX12_anyBears_33 : decode cX12_anyBears 33 = .ok (.iconst 0, 1) := by decide +kernel
theorem dX12_anyBears_34 : decode cX12_anyBears 34 = .ok (.ireturn, 1) := by decide +kernel
theorem dX12_leastAt_0 : decode cX12_leastAt 0 = .ok (.ldc_w 306, 3) := by decide +kernel
theorem dX12_leastAt_3 : decode cX12_leastAt 3 = .ok (.istore_n 2, 1) := by decide +kernel
theorem dX12_leastAt_4 : decode cX12_leastAt 4 = .ok (.iconst 0, 1) := by decide +kernel
theorem dX12_leastAt_5 : decode cX12_leastAt 5 = .ok (.istore_n 3, 1) := by decide +kernel
theorem dX12_leastAt_6 : decode cX12_leastAt 6 = .ok (.iload_n 3, 1) := by decide +kernel
theorem dX12_leastAt_7 : decode cX12_leastAt 7 = .ok (.bipush 8, 2) := by decide +kernel
theorem dX12_leastAt_9 : decode cX12_leastAt 9 = .ok (.if_icmp .ge 25, 3) := by decide +kernel
theorem dX12_leastAt_12 : decode cX12_leastAt 12 = .ok (.iload_n 2, 1) := by decide +kernel
theorem dX12_leastAt_13 : decode cX12_leastAt 13 = .ok (.aload_n 0, 1) := by decide +kernel
theorem dX12_leastAt_14 : decode cX12_leastAt 14 = .ok (.getfield 83, 3) := by decide +kernel
theorem dX12_leastAt_17 : decode cX12_leastAt 17 = .ok (.bipush 8, 2) := by decide +kernel
theorem dX12_leastAt_19 : decode cX12_leastAt 19 = .ok (.iload_n 1, 1) := by decide +kernel
theorem dX12_leastAt_20 : decode cX12_leastAt 20 = .ok (.imul, 1) := by decide +kernel
theorem dX12_leastAt_21 : decode cX12_leastAt 21 = .ok (.iload_n 3, 1) := by decide +kernel
theorem dX12_leastAt_22 : decode cX12_leastAt 22 = .ok (.iadd, 1) := by decide +kernel
theorem dX12_leastAt_23 : decode cX12_leastAt 23 = .ok (.iaload, 1) := by decide +kernel
theorem dX12_leastAt_24 : decode cX12_leastAt 24 = .ok (.invokestatic 98, 3) := by decide +kernel
theorem dX12_leastAt_27 : decode cX12_leastAt 27 = .ok (.istore_n 2, 1) := by decide +kernel
theorem dX12_leastAt_28 : decode cX12_leastAt 28 = .ok (.iinc 3 1, 3) := by decide +kernel
theorem dX12_leastAt_31 : decode cX12_leastAt 31 = .ok (.goto (-25), 3) := by decide +kernel
theorem dX12_leastAt_34 : decode cX12_leastAt 34 = .ok (.iload_n 2, 1) := by decide +kernel
theorem dX12_leastAt_35 : decode cX12_leastAt 35 = .ok (.ireturn, 1) := by decide +kernel
theorem dX12_laysChanges_0 : decode cX12_laysChanges 0 = .ok (.aload_n 0, 1) := by decide +kernel
theorem dX12_laysChanges_1 : decode cX12_laysChanges 1 = .ok (.iconst 0, 1) := by decide +kernel
theorem dX12_laysChanges_2 : decode cX12_laysChanges 2 = .ok (.putfield 354, 3) := by decide +kernel
theorem dX12_laysChanges_5 : decode cX12_laysChanges 5 = .ok (.iconst 0, 1) := by decide +kernel
theorem dX12_laysChanges_6 : decode cX12_laysChanges 6 = .ok (.istore_n 1, 1) := by decide +kernel
theorem dX12_laysChanges_7 : decode cX12_laysChanges 7 = .ok (.iload_n 1, 1) := by decide +kernel
theorem dX12_laysChanges_8 : decode cX12_laysChanges 8 = .ok (.bipush 8, 2) := by decide +kernel
theorem dX12_laysChanges_10 : decode cX12_laysChanges 10 = .ok (.if_icmp .ge 24, 3) := by decide +kernel
theorem dX12_laysChanges_13 : decode cX12_laysChanges 13 = .ok (.aload_n 0, 1) := by decide +kernel
theorem dX12_laysChanges_14 : decode cX12_laysChanges 14 = .ok (.getfield 83, 3) := by decide +kernel
theorem dX12_laysChanges_17 : decode cX12_laysChanges 17 = .ok (.bipush 8, 2) := by decide +kernel
theorem dX12_laysChanges_19 : decode cX12_laysChanges 19 = .ok (.aload_n 0, 1) := by decide +kernel
theorem dX12_laysChanges_20 : decode cX12_laysChanges 20 = .ok (.getfield 300, 3) := by decide +kernel
theorem dX12_laysChanges_23 : decode cX12_laysChanges 23 = .ok (.imul, 1) := by decide +kernel
theorem dX12_laysChanges_24 : decode cX12_laysChanges 24 = .ok (.iload_n 1, 1) := by decide +kernel
theorem dX12_laysChanges_25 : decode cX12_laysChanges 25 = .ok (.iadd, 1) := by decide +kernel
theorem dX12_laysChanges_26 : decode cX12_laysChanges 26 = .ok (.iconst 0, 1) := by decide +kernel
theorem dX12_laysChanges_27 : decode cX12_laysChanges 27 = .ok (.iastore, 1) := by decide +kernel
theorem dX12_laysChanges_28 : decode cX12_laysChanges 28 = .ok (.iinc 1 1, 3) := by decide +kernel
theorem dX12_laysChanges_31 : decode cX12_laysChanges 31 = .ok (.goto (-24), 3) := by decide +kernel
theorem dX12_laysChanges_34 : decode cX12_laysChanges 34 = .ok (.aload_n 0, 1) := by decide +kernel
theorem dX12_laysChanges_35 : decode cX12_laysChanges 35 = .ok (.getfield 300, 3) := by decide +kernel
theorem dX12_laysChanges_38 : decode cX12_laysChanges 38 = .ok (.iconst 1, 1) := by decide +kernel
theorem dX12_laysChanges_39 : decode cX12_laysChanges 39 = .ok (.isub, 1) := by decide +kernel
theorem dX12_laysChanges_40 : decode cX12_laysChanges 40 = .ok (.istore_n 1, 1) := by decide +kernel
theorem dX12_laysChanges_41 : decode cX12_laysChanges 41 = .ok (.iload_n 1, 1) := by decide +kernel
theorem dX12_laysChanges_42 : decode cX12_laysChanges 42 = .ok (.ifCond .lt 149, 3) := by decide +kernel
theorem dX12_laysChanges_45 : decode cX12_laysChanges 45 = .ok (.aload_n 0, 1) := by decide +kernel
theorem dX12_laysChanges_46 : decode cX12_laysChanges 46 = .ok (.aload_n 0, 1) := by decide +kernel
theorem dX12_laysChanges_47 : decode cX12_laysChanges 47 = .ok (.getfield 25, 3) := by decide +kernel
theorem dX12_laysChanges_50 : decode cX12_laysChanges 50 = .ok (.iload_n 1, 1) := by decide +kernel
theorem dX12_laysChanges_51 : decode cX12_laysChanges 51 = .ok (.iaload, 1) := by decide +kernel
theorem dX12_laysChanges_52 : decode cX12_laysChanges 52 = .ok (.invokevirtual 357, 3) := by decide +kernel
theorem dX12_laysChanges_55 : decode cX12_laysChanges 55 = .ok (.istore_n 2, 1) := by decide +kernel
theorem dX12_laysChanges_56 : decode cX12_laysChanges 56 = .ok (.iload_n 2, 1) := by decide +kernel
theorem dX12_laysChanges_57 : decode cX12_laysChanges 57 = .ok (.ifCond .ne 13, 3) := by decide +kernel
theorem dX12_laysChanges_60 : decode cX12_laysChanges 60 = .ok (.aload_n 0, 1) := by decide +kernel
theorem dX12_laysChanges_61 : decode cX12_laysChanges 61 = .ok (.aload_n 0, 1) := by decide +kernel
theorem dX12_laysChanges_62 : decode cX12_laysChanges 62 = .ok (.getfield 354, 3) := by decide +kernel
theorem dX12_laysChanges_65 : decode cX12_laysChanges 65 = .ok (.iconst 1, 1) := by decide +kernel
theorem dX12_laysChanges_66 : decode cX12_laysChanges 66 = .ok (.iadd, 1) := by decide +kernel
theorem dX12_laysChanges_67 : decode cX12_laysChanges 67 = .ok (.putfield 354, 3) := by decide +kernel
theorem dX12_laysChanges_70 : decode cX12_laysChanges 70 = .ok (.aload_n 0, 1) := by decide +kernel
theorem dX12_laysChanges_71 : decode cX12_laysChanges 71 = .ok (.iload_n 1, 1) := by decide +kernel
theorem dX12_laysChanges_72 : decode cX12_laysChanges 72 = .ok (.iconst 1, 1) := by decide +kernel
theorem dX12_laysChanges_73 : decode cX12_laysChanges 73 = .ok (.iadd, 1) := by decide +kernel
theorem dX12_laysChanges_74 : decode cX12_laysChanges 74 = .ok (.invokevirtual 360, 3) := by decide +kernel
theorem dX12_laysChanges_77 : decode cX12_laysChanges 77 = .ok (.istore_n 3, 1) := by decide +kernel
theorem dX12_laysChanges_78 : decode cX12_laysChanges 78 = .ok (.iconst 0, 1) := by decide +kernel
theorem dX12_laysChanges_79 : decode cX12_laysChanges 79 = .ok (.istore 4, 2) := by decide +kernel
theorem dX12_laysChanges_81 : decode cX12_laysChanges 81 = .ok (.iload 4, 2) := by decide +kernel
theorem dX12_laysChanges_83 : decode cX12_laysChanges 83 = .ok (.bipush 8, 2) := by decide +kernel
theorem dX12_laysChanges_85 : decode cX12_laysChanges 85 = .ok (.if_icmp .ge 100, 3) := by decide +kernel
theorem dX12_laysChanges_88 : decode cX12_laysChanges 88 = .ok (.aload_n 0, 1) := by decide +kernel
theorem dX12_laysChanges_89 : decode cX12_laysChanges 89 = .ok (.getfield 83, 3) := by decide +kernel
theorem dX12_laysChanges_92 : decode cX12_laysChanges 92 = .ok (.bipush 8, 2) := by decide +kernel
theorem dX12_laysChanges_94 : decode cX12_laysChanges 94 = .ok (.iload_n 1, 1) := by decide +kernel
theorem dX12_laysChanges_95 : decode cX12_laysChanges 95 = .ok (.iconst 1, 1) := by decide +kernel
theorem dX12_laysChanges_96 : decode cX12_laysChanges 96 = .ok (.iadd, 1) := by decide +kernel
theorem dX12_laysChanges_97 : decode cX12_laysChanges 97 = .ok (.imul, 1) := by decide +kernel
theorem dX12_laysChanges_98 : decode cX12_laysChanges 98 = .ok (.iload 4, 2) := by decide +kernel
theorem dX12_laysChanges_100 : decode cX12_laysChanges 100 = .ok (.iadd, 1) := by decide +kernel
theorem dX12_laysChanges_101 : decode cX12_laysChanges 101 = .ok (.iaload, 1) := by decide +kernel
theorem dX12_laysChanges_102 : decode cX12_laysChanges 102 = .ok (.istore 5, 2) := by decide +kernel
theorem dX12_laysChanges_104 : decode cX12_laysChanges 104 = .ok (.iload_n 2, 1) := by decide +kernel
theorem dX12_laysChanges_105 : decode cX12_laysChanges 105 = .ok (.ifCond .eq 27, 3) := by decide +kernel
theorem dX12_laysChanges_108 : decode cX12_laysChanges 108 = .ok (.aload_n 0, 1) := by decide +kernel
theorem dX12_laysChanges_109 : decode cX12_laysChanges 109 = .ok (.iload 4, 2) := by decide +kernel
theorem dX12_laysChanges_111 : decode cX12_laysChanges 111 = .ok (.invokevirtual 109, 3) := by decide +kernel
theorem dX12_laysChanges_114 : decode cX12_laysChanges 114 = .ok (.ifCond .eq 22, 3) := by decide +kernel
theorem dX12_laysChanges_117 : decode cX12_laysChanges 117 = .ok (.aload_n 0, 1) := by decide +kernel
theorem dX12_laysChanges_118 : decode cX12_laysChanges 118 = .ok (.iload 4, 2) := by decide +kernel
theorem dX12_laysChanges_120 : decode cX12_laysChanges 120 = .ok (.aload_n 0, 1) := by decide +kernel
theorem dX12_laysChanges_121 : decode cX12_laysChanges 121 = .ok (.getfield 25, 3) := by decide +kernel
theorem dX12_laysChanges_124 : decode cX12_laysChanges 124 = .ok (.iload_n 1, 1) := by decide +kernel
theorem dX12_laysChanges_125 : decode cX12_laysChanges 125 = .ok (.iaload, 1) := by decide +kernel
theorem dX12_laysChanges_126 : decode cX12_laysChanges 126 = .ok (.invokevirtual 127, 3) := by decide +kernel
theorem dX12_laysChanges_129 : decode cX12_laysChanges 129 = .ok (.ifCond .eq 7, 3) := by decide +kernel
theorem dX12_laysChanges_132 : decode cX12_laysChanges 132 = .ok (.iconst 1, 1) := by decide +kernel
theorem dX12_laysChanges_133 : decode cX12_laysChanges 133 = .ok (.goto 4, 3) := by decide +kernel
theorem dX12_laysChanges_136 : decode cX12_laysChanges 136 = .ok (.iconst 0, 1) := by decide +kernel
theorem dX12_laysChanges_137 : decode cX12_laysChanges 137 = .ok (.istore 6, 2) := by decide +kernel
theorem dX12_laysChanges_139 : decode cX12_laysChanges 139 = .ok (.aload_n 0, 1) := by decide +kernel
theorem dX12_laysChanges_140 : decode cX12_laysChanges 140 = .ok (.getfield 83, 3) := by decide +kernel
theorem dX12_laysChanges_143 : decode cX12_laysChanges 143 = .ok (.bipush 8, 2) := by decide +kernel
theorem dX12_laysChanges_145 : decode cX12_laysChanges 145 = .ok (.iload_n 1, 1) := by decide +kernel
theorem dX12_laysChanges_146 : decode cX12_laysChanges 146 = .ok (.imul, 1) := by decide +kernel
theorem dX12_laysChanges_147 : decode cX12_laysChanges 147 = .ok (.iload 4, 2) := by decide +kernel
theorem dX12_laysChanges_149 : decode cX12_laysChanges 149 = .ok (.iadd, 1) := by decide +kernel
theorem dX12_laysChanges_150 : decode cX12_laysChanges 150 = .ok (.iload_n 2, 1) := by decide +kernel
theorem dX12_laysChanges_151 : decode cX12_laysChanges 151 = .ok (.ifCond .ne 8, 3) := by decide +kernel
theorem dX12_laysChanges_154 : decode cX12_laysChanges 154 = .ok (.iload 5, 2) := by decide +kernel
theorem dX12_laysChanges_156 : decode cX12_laysChanges 156 = .ok (.goto 22, 3) := by decide +kernel
theorem dX12_laysChanges_159 : decode cX12_laysChanges 159 = .ok (.iload 6, 2) := by decide +kernel
theorem dX12_laysChanges_161 : decode cX12_laysChanges 161 = .ok (.ifCond .eq 14, 3) := by decide +kernel
theorem dX12_laysChanges_164 : decode cX12_laysChanges 164 = .ok (.iload 5, 2) := by decide +kernel
theorem dX12_laysChanges_166 : decode cX12_laysChanges 166 = .ok (.iload_n 3, 1) := by decide +kernel
theorem dX12_laysChanges_167 : decode cX12_laysChanges 167 = .ok (.iconst 1, 1) := by decide +kernel
theorem dX12_laysChanges_168 : decode cX12_laysChanges 168 = .ok (.iadd, 1) := by decide +kernel
theorem dX12_laysChanges_169 : decode cX12_laysChanges 169 = .ok (.invokestatic 98, 3) := by decide +kernel
theorem dX12_laysChanges_172 : decode cX12_laysChanges 172 = .ok (.goto 6, 3) := by decide +kernel
theorem dX12_laysChanges_175 : decode cX12_laysChanges 175 = .ok (.ldc_w 306, 3) := by decide +kernel
theorem dX12_laysChanges_178 : decode cX12_laysChanges 178 = .ok (.iastore, 1) := by decide +kernel
theorem dX12_laysChanges_179 : decode cX12_laysChanges 179 = .ok (.iinc 4 1, 3) := by decide +kernel
theorem dX12_laysChanges_182 : decode cX12_laysChanges 182 = .ok (.goto (-101), 3) := by decide +kernel
theorem dX12_laysChanges_185 : decode cX12_laysChanges 185 = .ok (.iinc 1 (-1), 3) := by decide +kernel
theorem dX12_laysChanges_188 : decode cX12_laysChanges 188 = .ok (.goto (-147), 3) := by decide +kernel
theorem dX12_laysChanges_191 : decode cX12_laysChanges 191 = .ok (.return_, 1) := by decide +kernel
theorem dX12_laysRow_0 : decode cX12_laysRow 0 = .ok (.iconst (-1), 1) := by decide +kernel
theorem dX12_laysRow_1 : decode cX12_laysRow 1 = .ok (.istore_n 1, 1) := by decide +kernel
theorem dX12_laysRow_2 : decode cX12_laysRow 2 = .ok (.aload_n 0, 1) := by decide +kernel
theorem dX12_laysRow_3 : decode cX12_laysRow 3 = .ok (.iconst 0, 1) := by decide +kernel
theorem dX12_laysRow_4 : decode cX12_laysRow 4 = .ok (.putfield 363, 3) := by decide +kernel
theorem dX12_laysRow_7 : decode cX12_laysRow 7 = .ok (.iconst 0, 1) := by decide +kernel
theorem dX12_laysRow_8 : decode cX12_laysRow 8 = .ok (.istore_n 2, 1) := by decide +kernel
theorem dX12_laysRow_9 : decode cX12_laysRow 9 = .ok (.iload_n 2, 1) := by decide +kernel
theorem dX12_laysRow_10 : decode cX12_laysRow 10 = .ok (.aload_n 0, 1) := by decide +kernel
theorem dX12_laysRow_11 : decode cX12_laysRow 11 = .ok (.getfield 300, 3) := by decide +kernel
theorem dX12_laysRow_14 : decode cX12_laysRow 14 = .ok (.if_icmp .ge 133, 3) := by decide +kernel
theorem dX12_laysRow_17 : decode cX12_laysRow 17 = .ok (.aload_n 0, 1) := by decide +kernel
theorem dX12_laysRow_18 : decode cX12_laysRow 18 = .ok (.getfield 86, 3) := by decide +kernel
theorem dX12_laysRow_21 : decode cX12_laysRow 21 = .ok (.iload_n 2, 1) := by decide +kernel
theorem dX12_laysRow_22 : decode cX12_laysRow 22 = .ok (.bipush (-2), 2) := by decide +kernel
theorem dX12_laysRow_24 : decode cX12_laysRow 24 = .ok (.iastore, 1) := by decide +kernel
theorem dX12_laysRow_25 : decode cX12_laysRow 25 = .ok (.aload_n 0, 1) := by decide +kernel
theorem dX12_laysRow_26 : decode cX12_laysRow 26 = .ok (.aload_n 0, 1) := by decide +kernel
theorem dX12_laysRow_27 : decode cX12_laysRow 27 = .ok (.getfield 25, 3) := by decide +kernel
theorem dX12_laysRow_30 : decode cX12_laysRow 30 = .ok (.iload_n 2, 1) := by decide +kernel
theorem dX12_laysRow_31 : decode cX12_laysRow 31 = .ok (.iaload, 1) := by decide +kernel
theorem dX12_laysRow_32 : decode cX12_laysRow 32 = .ok (.invokevirtual 357, 3) := by decide +kernel
theorem dX12_laysRow_35 : decode cX12_laysRow 35 = .ok (.ifCond .ne 6, 3) := by decide +kernel
theorem dX12_laysRow_38 : decode cX12_laysRow 38 = .ok (.goto 103, 3) := by decide +kernel
theorem dX12_laysRow_41 : decode cX12_laysRow 41 = .ok (.iconst (-1), 1) := by decide +kernel
theorem dX12_laysRow_42 : decode cX12_laysRow 42 = .ok (.istore_n 3, 1) := by decide +kernel
theorem dX12_laysRow_43 : decode cX12_laysRow 43 = .ok (.ldc_w 306, 3) := by decide +kernel
theorem dX12_laysRow_46 : decode cX12_laysRow 46 = .ok (.istore 4, 2) := by decide +kernel
theorem dX12_laysRow_48 : decode cX12_laysRow 48 = .ok (.iconst 0, 1) := by decide +kernel
theorem dX12_laysRow_49 : decode cX12_laysRow 49 = .ok (.istore 5, 2) := by decide +kernel
theorem dX12_laysRow_51 : decode cX12_laysRow 51 = .ok (.iload 5, 2) := by decide +kernel
theorem dX12_laysRow_53 : decode cX12_laysRow 53 = .ok (.bipush 8, 2) := by decide +kernel
theorem dX12_laysRow_55 : decode cX12_laysRow 55 = .ok (.if_icmp .ge 57, 3) := by decide +kernel
theorem dX12_laysRow_58 : decode cX12_laysRow 58 = .ok (.aload_n 0, 1) := by decide +kernel
theorem dX12_laysRow_59 : decode cX12_laysRow 59 = .ok (.getfield 83, 3) := by decide +kernel
theorem dX12_laysRow_62 : decode cX12_laysRow 62 = .ok (.bipush 8, 2) := by decide +kernel
theorem dX12_laysRow_64 : decode cX12_laysRow 64 = .ok (.iload_n 2, 1) := by decide +kernel
theorem dX12_laysRow_65 : decode cX12_laysRow 65 = .ok (.imul, 1) := by decide +kernel
theorem dX12_laysRow_66 : decode cX12_laysRow 66 = .ok (.iload 5, 2) := by decide +kernel
theorem dX12_laysRow_68 : decode cX12_laysRow 68 = .ok (.iadd, 1) := by decide +kernel
theorem dX12_laysRow_69 : decode cX12_laysRow 69 = .ok (.iaload, 1) := by decide +kernel
theorem dX12_laysRow_70 : decode cX12_laysRow 70 = .ok (.iload_n 1, 1) := by decide +kernel
theorem dX12_laysRow_71 : decode cX12_laysRow 71 = .ok (.iconst (-1), 1) := by decide +kernel
theorem dX12_laysRow_72 : decode cX12_laysRow 72 = .ok (.if_icmp .eq 9, 3) := by decide +kernel
theorem dX12_laysRow_75 : decode cX12_laysRow 75 = .ok (.iload_n 1, 1) := by decide +kernel
theorem dX12_laysRow_76 : decode cX12_laysRow 76 = .ok (.iload 5, 2) := by decide +kernel
theorem dX12_laysRow_78 : decode cX12_laysRow 78 = .ok (.if_icmp .ne 7, 3) := by decide +kernel
theorem dX12_laysRow_81 : decode cX12_laysRow 81 = .ok (.iconst 0, 1) := by decide +kernel
theorem dX12_laysRow_82 : decode cX12_laysRow 82 = .ok (.goto 4, 3) := by decide +kernel
theorem dX12_laysRow_85 : decode cX12_laysRow 85 = .ok (.iconst 1, 1) := by decide +kernel
theorem dX12_laysRow_86 : decode cX12_laysRow 86 = .ok (.iadd, 1) := by decide +kernel
theorem dX12_laysRow_87 : decode cX12_laysRow 87 = .ok (.istore 6, 2) := by decide +kernel
theorem dX12_laysRow_89 : decode cX12_laysRow 89 = .ok (.iload 6, 2) := by decide +kernel
theorem dX12_laysRow_91 : decode cX12_laysRow 91 = .ok (.iload 4, 2) := by decide +kernel
theorem dX12_laysRow_93 : decode cX12_laysRow 93 = .ok (.if_icmp .lt 6, 3) := by decide +kernel
theorem dX12_laysRow_96 : decode cX12_laysRow 96 = .ok (.goto 10, 3) := by decide +kernel
theorem dX12_laysRow_99 : decode cX12_laysRow 99 = .ok (.iload 6, 2) := by decide +kernel
theorem dX12_laysRow_101 : decode cX12_laysRow 101 = .ok (.istore 4, 2) := by decide +kernel
theorem dX12_laysRow_103 : decode cX12_laysRow 103 = .ok (.iload 5, 2) := by decide +kernel
theorem dX12_laysRow_105 : decode cX12_laysRow 105 = .ok (.istore_n 3, 1) := by decide +kernel
theorem dX12_laysRow_106 : decode cX12_laysRow 106 = .ok (.iinc 5 1, 3) := by decide +kernel
theorem dX12_laysRow_109 : decode cX12_laysRow 109 = .ok (.goto (-58), 3) := by decide +kernel
theorem dX12_laysRow_112 : decode cX12_laysRow 112 = .ok (.iload_n 1, 1) := by decide +kernel
theorem dX12_laysRow_113 : decode cX12_laysRow 113 = .ok (.iconst (-1), 1) := by decide +kernel
theorem dX12_laysRow_114 : decode cX12_laysRow 114 = .ok (.if_icmp .eq 18, 3) := by decide +kernel
theorem dX12_laysRow_117 : decode cX12_laysRow 117 = .ok (.iload_n 3, 1) := by decide +kernel
theorem dX12_laysRow_118 : decode cX12_laysRow 118 = .ok (.iload_n 1, 1) := by decide +kernel
theorem dX12_laysRow_119 : decode cX12_laysRow 119 = .ok (.if_icmp .eq 13, 3) := by decide +kernel
theorem dX12_laysRow_122 : decode cX12_laysRow 122 = .ok (.aload_n 0, 1) := by decide +kernel
theorem dX12_laysRow_123 : decode cX12_laysRow 123 = .ok (.aload_n 0, 1) := by decide +kernel
theorem dX12_laysRow_124 : decode cX12_laysRow 124 = .ok (.getfield 363, 3) := by decide +kernel
theorem dX12_laysRow_127 : decode cX12_laysRow 127 = .ok (.iconst 1, 1) := by decide +kernel
theorem dX12_laysRow_128 : decode cX12_laysRow 128 = .ok (.iadd, 1) := by decide +kernel
theorem dX12_laysRow_129 : decode cX12_laysRow 129 = .ok (.putfield 363, 3) := by decide +kernel
theorem dX12_laysRow_132 : decode cX12_laysRow 132 = .ok (.aload_n 0, 1) := by decide +kernel
theorem dX12_laysRow_133 : decode cX12_laysRow 133 = .ok (.getfield 86, 3) := by decide +kernel
theorem dX12_laysRow_136 : decode cX12_laysRow 136 = .ok (.iload_n 2, 1) := by decide +kernel
theorem dX12_laysRow_137 : decode cX12_laysRow 137 = .ok (.iload_n 3, 1) := by decide +kernel
theorem dX12_laysRow_138 : decode cX12_laysRow 138 = .ok (.iastore, 1) := by decide +kernel
theorem dX12_laysRow_139 : decode cX12_laysRow 139 = .ok (.iload_n 3, 1) := by decide +kernel
theorem dX12_laysRow_140 : decode cX12_laysRow 140 = .ok (.istore_n 1, 1) := by decide +kernel
theorem dX12_laysRow_141 : decode cX12_laysRow 141 = .ok (.iinc 2 1, 3) := by decide +kernel
theorem dX12_laysRow_144 : decode cX12_laysRow 144 = .ok (.goto (-135), 3) := by decide +kernel
theorem dX12_laysRow_147 : decode cX12_laysRow 147 = .ok (.return_, 1) := by decide +kernel
theorem dX12_changes_0 : decode cX12_changes 0 = .ok (.iload_n 1, 1) := by decide +kernel
theorem dX12_changes_1 : decode cX12_changes 1 = .ok (.bipush 100, 2) := by decide +kernel
theorem dX12_changes_3 : decode cX12_changes 3 = .ok (.bipush 101, 2) := by decide +kernel
theorem dX12_changes_5 : decode cX12_changes 5 = .ok (.invokestatic 105, 3) := by decide +kernel
theorem dX12_changes_8 : decode cX12_changes 8 = .ok (.ifCond .ne 15, 3) := by decide +kernel
theorem dX12_changes_11 : decode cX12_changes 11 = .ok (.iload_n 1, 1) := by decide +kernel
theorem dX12_changes_12 : decode cX12_changes 12 = .ok (.iconst 0, 1) := by decide +kernel
theorem dX12_changes_13 : decode cX12_changes 13 = .ok (.bipush 47, 2) := by decide +kernel
theorem dX12_changes_15 : decode cX12_changes 15 = .ok (.invokestatic 105, 3) := by decide +kernel
theorem dX12_changes_18 : decode cX12_changes 18 = .ok (.ifCond .ne 5, 3) := by decide +kernel
theorem dX12_changes_21 : decode cX12_changes 21 = .ok (.iconst (-1), 1) := by decide +kernel
theorem dX12_changes_22 : decode cX12_changes 22 = .ok (.ireturn, 1) := by decide +kernel
theorem dX12_changes_23 : decode cX12_changes 23 = .ok (.iload_n 1, 1) := by decide +kernel
theorem dX12_changes_24 : decode cX12_changes 24 = .ok (.bipush 100, 2) := by decide +kernel
theorem dX12_changes_26 : decode cX12_changes 26 = .ok (.if_icmp .ge 14, 3) := by decide +kernel
theorem dX12_changes_29 : decode cX12_changes 29 = .ok (.iload_n 1, 1) := by decide +kernel
theorem dX12_changes_30 : decode cX12_changes 30 = .ok (.aload_n 0, 1) := by decide +kernel
theorem dX12_changes_31 : decode cX12_changes 31 = .ok (.getfield 300, 3) := by decide +kernel
theorem dX12_changes_34 : decode cX12_changes 34 = .ok (.if_icmp .lt 6, 3) := by decide +kernel
theorem dX12_changes_37 : decode cX12_changes 37 = .ok (.bipush (-4), 2) := by decide +kernel
theorem dX12_changes_39 : decode cX12_changes 39 = .ok (.ireturn, 1) := by decide +kernel
theorem dX12_changes_40 : decode cX12_changes 40 = .ok (.aload_n 0, 1) := by decide +kernel
theorem dX12_changes_41 : decode cX12_changes 41 = .ok (.invokevirtual 366, 3) := by decide +kernel
theorem dX12_changes_44 : decode cX12_changes 44 = .ok (.aload_n 0, 1) := by decide +kernel
theorem dX12_changes_45 : decode cX12_changes 45 = .ok (.invokevirtual 369, 3) := by decide +kernel
theorem dX12_changes_48 : decode cX12_changes 48 = .ok (.iload_n 1, 1) := by decide +kernel
theorem dX12_changes_49 : decode cX12_changes 49 = .ok (.bipush 100, 2) := by decide +kernel
theorem dX12_changes_51 : decode cX12_changes 51 = .ok (.if_icmp .ne 10, 3) := by decide +kernel
theorem dX12_changes_54 : decode cX12_changes 54 = .ok (.aload_n 0, 1) := by decide +kernel
theorem dX12_changes_55 : decode cX12_changes 55 = .ok (.getfield 363, 3) := by decide +kernel
theorem dX12_changes_58 : decode cX12_changes 58 = .ok (.goto 22, 3) := by decide +kernel
theorem dX12_changes_61 : decode cX12_changes 61 = .ok (.iload_n 1, 1) := by decide +kernel
theorem dX12_changes_62 : decode cX12_changes 62 = .ok (.bipush 101, 2) := by decide +kernel
theorem dX12_changes_64 : decode cX12_changes 64 = .ok (.if_icmp .ne 10, 3) := by decide +kernel
theorem dX12_changes_67 : decode cX12_changes 67 = .ok (.aload_n 0, 1) := by decide +kernel
theorem dX12_changes_68 : decode cX12_changes 68 = .ok (.getfield 354, 3) := by decide +kernel
theorem dX12_changes_71 : decode cX12_changes 71 = .ok (.goto 9, 3) := by decide +kernel
theorem dX12_changes_74 : decode cX12_changes 74 = .ok (.aload_n 0, 1) := by decide +kernel
theorem dX12_changes_75 : decode cX12_changes 75 = .ok (.getfield 86, 3) := by decide +kernel
theorem dX12_changes_78 : decode cX12_changes 78 = .ok (.iload_n 1, 1) := by decide +kernel
theorem dX12_changes_79 : decode cX12_changes 79 = .ok (.iaload, 1) := by decide +kernel
theorem dX12_changes_80 : decode cX12_changes 80 = .ok (.ireturn, 1) := by decide +kernel
theorem dX12_bearsAllBy_0 : decode cX12_bearsAllBy 0 = .ok (.iconst 0, 1) := by decide +kernel
theorem dX12_bearsAllBy_1 : decode cX12_bearsAllBy 1 = .ok (.istore_n 3, 1) := by decide +kernel
theorem dX12_bearsAllBy_2 : decode cX12_bearsAllBy 2 = .ok (.iload_n 3, 1) := by decide +kernel
theorem dX12_bearsAllBy_3 : decode cX12_bearsAllBy 3 = .ok (.aload_n 0, 1) := by decide +kernel
theorem dX12_bearsAllBy_4 : decode cX12_bearsAllBy 4 = .ok (.getfield 300, 3) := by decide +kernel
theorem dX12_bearsAllBy_7 : decode cX12_bearsAllBy 7 = .ok (.if_icmp .ge 34, 3) := by decide +kernel
theorem dX12_bearsAllBy_10 : decode cX12_bearsAllBy 10 = .ok (.aload_n 0, 1) := by decide +kernel
theorem dX12_bearsAllBy_11 : decode cX12_bearsAllBy 11 = .ok (.iload_n 1, 1) := by decide +kernel
theorem dX12_bearsAllBy_12 : decode cX12_bearsAllBy 12 = .ok (.aload_n 0, 1) := by decide +kernel
theorem dX12_bearsAllBy_13 : decode cX12_bearsAllBy 13 = .ok (.getfield 25, 3) := by decide +kernel
theorem dX12_bearsAllBy_16 : decode cX12_bearsAllBy 16 = .ok (.iload_n 3, 1) := by decide +kernel
theorem dX12_bearsAllBy_17 : decode cX12_bearsAllBy 17 = .ok (.iaload, 1) := by decide +kernel
theorem dX12_bearsAllBy_18 : decode cX12_bearsAllBy 18 = .ok (.iload_n 2, 1) := by decide +kernel
theorem dX12_bearsAllBy_19 : decode cX12_bearsAllBy 19 = .ok (.invokevirtual 120, 3) := by decide +kernel
theorem dX12_bearsAllBy_22 : decode cX12_bearsAllBy 22 = .ok (.aload_n 0, 1) := by decide +kernel
theorem dX12_bearsAllBy_23 : decode cX12_bearsAllBy 23 = .ok (.getfield 7, 3) := by decide +kernel
theorem dX12_bearsAllBy_26 : decode cX12_bearsAllBy 26 = .ok (.sipush 288, 3) := by decide +kernel
theorem dX12_bearsAllBy_29 : decode cX12_bearsAllBy 29 = .ok (.iaload, 1) := by decide +kernel
theorem dX12_bearsAllBy_30 : decode cX12_bearsAllBy 30 = .ok (.if_icmp .le 5, 3) := by decide +kernel
theorem dX12_bearsAllBy_33 : decode cX12_bearsAllBy 33 = .ok (.iconst 0, 1) := by decide +kernel
theorem dX12_bearsAllBy_34 : decode cX12_bearsAllBy 34 = .ok (.ireturn, 1) := by decide +kernel
theorem dX12_bearsAllBy_35 : decode cX12_bearsAllBy 35 = .ok (.iinc 3 1, 3) := by decide +kernel
theorem dX12_bearsAllBy_38 : decode cX12_bearsAllBy 38 = .ok (.goto (-36), 3) := by decide +kernel
theorem dX12_bearsAllBy_41 : decode cX12_bearsAllBy 41 = .ok (.iconst 1, 1) := by decide +kernel
theorem dX12_bearsAllBy_42 : decode cX12_bearsAllBy 42 = .ok (.ireturn, 1) := by decide +kernel
theorem dX12_leastSalt_0 : decode cX12_leastSalt 0 = .ok (.aload_n 0, 1) := by decide +kernel
theorem dX12_leastSalt_1 : decode cX12_leastSalt 1 = .ok (.iload_n 1, 1) := by decide +kernel
theorem dX12_leastSalt_2 : decode cX12_leastSalt 2 = .ok (.invokevirtual 109, 3) := by decide +kernel
theorem dX12_leastSalt_5 : decode cX12_leastSalt 5 = .ok (.ifCond .ne 5, 3) := by decide +kernel
theorem dX12_leastSalt_8 : decode cX12_leastSalt 8 = .ok (.iconst (-1), 1) := by decide +kernel
theorem dX12_leastSalt_9 : decode cX12_leastSalt 9 = .ok (.ireturn, 1) := by decide +kernel
theorem dX12_leastSalt_10 : decode cX12_leastSalt 10 = .ok (.iconst 0, 1) := by decide +kernel
theorem dX12_leastSalt_11 : decode cX12_leastSalt 11 = .ok (.istore_n 2, 1) := by decide +kernel
theorem dX12_leastSalt_12 : decode cX12_leastSalt 12 = .ok (.aload_n 0, 1) := by decide +kernel
theorem dX12_leastSalt_13 : decode cX12_leastSalt 13 = .ok (.getfield 7, 3) := by decide +kernel
theorem dX12_leastSalt_16 : decode cX12_leastSalt 16 = .ok (.bipush 16, 2) := by decide +kernel
theorem dX12_leastSalt_18 : decode cX12_leastSalt 18 = .ok (.iload_n 1, 1) := by decide +kernel
theorem dX12_leastSalt_19 : decode cX12_leastSalt 19 = .ok (.iadd, 1) := by decide +kernel
theorem dX12_leastSalt_20 : decode cX12_leastSalt 20 = .ok (.iaload, 1) := by decide +kernel
theorem dX12_leastSalt_21 : decode cX12_leastSalt 21 = .ok (.iload_n 2, 1) := by decide +kernel
theorem dX12_leastSalt_22 : decode cX12_leastSalt 22 = .ok (.iadd, 1) := by decide +kernel
theorem dX12_leastSalt_23 : decode cX12_leastSalt 23 = .ok (.bipush 99, 2) := by decide +kernel
theorem dX12_leastSalt_25 : decode cX12_leastSalt 25 = .ok (.if_icmp .gt 29, 3) := by decide +kernel
theorem dX12_leastSalt_28 : decode cX12_leastSalt 28 = .ok (.aload_n 0, 1) := by decide +kernel
theorem dX12_leastSalt_29 : decode cX12_leastSalt 29 = .ok (.iload_n 1, 1) := by decide +kernel
theorem dX12_leastSalt_30 : decode cX12_leastSalt 30 = .ok (.aload_n 0, 1) := by decide +kernel
theorem dX12_leastSalt_31 : decode cX12_leastSalt 31 = .ok (.getfield 7, 3) := by decide +kernel
theorem dX12_leastSalt_34 : decode cX12_leastSalt 34 = .ok (.bipush 16, 2) := by decide +kernel
theorem dX12_leastSalt_36 : decode cX12_leastSalt 36 = .ok (.iload_n 1, 1) := by decide +kernel
theorem dX12_leastSalt_37 : decode cX12_leastSalt 37 = .ok (.iadd, 1) := by decide +kernel
theorem dX12_leastSalt_38 : decode cX12_leastSalt 38 = .ok (.iaload, 1) := by decide +kernel
theorem dX12_leastSalt_39 : decode cX12_leastSalt 39 = .ok (.iload_n 2, 1) := by decide +kernel
theorem dX12_leastSalt_40 : decode cX12_leastSalt 40 = .ok (.iadd, 1) := by decide +kernel
theorem dX12_leastSalt_41 : decode cX12_leastSalt 41 = .ok (.invokevirtual 372, 3) := by decide +kernel
theorem dX12_leastSalt_44 : decode cX12_leastSalt 44 = .ok (.ifCond .ne 10, 3) := by decide +kernel
theorem dX12_leastSalt_47 : decode cX12_leastSalt 47 = .ok (.iload_n 2, 1) := by decide +kernel
theorem dX12_leastSalt_48 : decode cX12_leastSalt 48 = .ok (.iconst 1, 1) := by decide +kernel
theorem dX12_leastSalt_49 : decode cX12_leastSalt 49 = .ok (.iadd, 1) := by decide +kernel
theorem dX12_leastSalt_50 : decode cX12_leastSalt 50 = .ok (.istore_n 2, 1) := by decide +kernel
theorem dX12_leastSalt_51 : decode cX12_leastSalt 51 = .ok (.goto (-39), 3) := by decide +kernel
theorem dX12_leastSalt_54 : decode cX12_leastSalt 54 = .ok (.aload_n 0, 1) := by decide +kernel
