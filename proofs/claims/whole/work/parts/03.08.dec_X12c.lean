theorem dX12_leastSalt_55 : decode cX12_leastSalt 55 = .ok (.getfield 7, 3) := by decide +kernel
theorem dX12_leastSalt_58 : decode cX12_leastSalt 58 = .ok (.bipush 16, 2) := by decide +kernel
theorem dX12_leastSalt_60 : decode cX12_leastSalt 60 = .ok (.iload_n 1, 1) := by decide +kernel
theorem dX12_leastSalt_61 : decode cX12_leastSalt 61 = .ok (.iadd, 1) := by decide +kernel
theorem dX12_leastSalt_62 : decode cX12_leastSalt 62 = .ok (.iaload, 1) := by decide +kernel
theorem dX12_leastSalt_63 : decode cX12_leastSalt 63 = .ok (.iload_n 2, 1) := by decide +kernel
theorem dX12_leastSalt_64 : decode cX12_leastSalt 64 = .ok (.iadd, 1) := by decide +kernel
theorem dX12_leastSalt_65 : decode cX12_leastSalt 65 = .ok (.bipush 99, 2) := by decide +kernel
theorem dX12_leastSalt_67 : decode cX12_leastSalt 67 = .ok (.if_icmp .le 8, 3) := by decide +kernel
theorem dX12_leastSalt_70 : decode cX12_leastSalt 70 = .ok (.bipush 100, 2) := by decide +kernel
theorem dX12_leastSalt_72 : decode cX12_leastSalt 72 = .ok (.goto 4, 3) := by decide +kernel
theorem dX12_leastSalt_75 : decode cX12_leastSalt 75 = .ok (.iload_n 2, 1) := by decide +kernel
theorem dX12_leastSalt_76 : decode cX12_leastSalt 76 = .ok (.ireturn, 1) := by decide +kernel
theorem dX12_mixes_0 : decode cX12_mixes 0 = .ok (.iconst 0, 1) := by decide +kernel
theorem dX12_mixes_1 : decode cX12_mixes 1 = .ok (.istore 4, 2) := by decide +kernel
theorem dX12_mixes_3 : decode cX12_mixes 3 = .ok (.iload 4, 2) := by decide +kernel
theorem dX12_mixes_5 : decode cX12_mixes 5 = .ok (.aload_n 0, 1) := by decide +kernel
theorem dX12_mixes_6 : decode cX12_mixes 6 = .ok (.getfield 300, 3) := by decide +kernel
theorem dX12_mixes_9 : decode cX12_mixes 9 = .ok (.if_icmp .ge 56, 3) := by decide +kernel
theorem dX12_mixes_12 : decode cX12_mixes 12 = .ok (.aload_n 0, 1) := by decide +kernel
theorem dX12_mixes_13 : decode cX12_mixes 13 = .ok (.getfield 25, 3) := by decide +kernel
theorem dX12_mixes_16 : decode cX12_mixes 16 = .ok (.iload 4, 2) := by decide +kernel
theorem dX12_mixes_18 : decode cX12_mixes 18 = .ok (.iaload, 1) := by decide +kernel
theorem dX12_mixes_19 : decode cX12_mixes 19 = .ok (.istore 5, 2) := by decide +kernel
theorem dX12_mixes_21 : decode cX12_mixes 21 = .ok (.iload_n 3, 1) := by decide +kernel
theorem dX12_mixes_22 : decode cX12_mixes 22 = .ok (.aload_n 0, 1) := by decide +kernel
theorem dX12_mixes_23 : decode cX12_mixes 23 = .ok (.iload_n 1, 1) := by decide +kernel
theorem dX12_mixes_24 : decode cX12_mixes 24 = .ok (.iload 5, 2) := by decide +kernel
theorem dX12_mixes_26 : decode cX12_mixes 26 = .ok (.invokevirtual 124, 3) := by decide +kernel
theorem dX12_mixes_29 : decode cX12_mixes 29 = .ok (.imul, 1) := by decide +kernel
theorem dX12_mixes_30 : decode cX12_mixes 30 = .ok (.bipush 8, 2) := by decide +kernel
theorem dX12_mixes_32 : decode cX12_mixes 32 = .ok (.iload_n 3, 1) := by decide +kernel
theorem dX12_mixes_33 : decode cX12_mixes 33 = .ok (.isub, 1) := by decide +kernel
theorem dX12_mixes_34 : decode cX12_mixes 34 = .ok (.aload_n 0, 1) := by decide +kernel
theorem dX12_mixes_35 : decode cX12_mixes 35 = .ok (.iload_n 2, 1) := by decide +kernel
theorem dX12_mixes_36 : decode cX12_mixes 36 = .ok (.iload 5, 2) := by decide +kernel
theorem dX12_mixes_38 : decode cX12_mixes 38 = .ok (.invokevirtual 124, 3) := by decide +kernel
theorem dX12_mixes_41 : decode cX12_mixes 41 = .ok (.imul, 1) := by decide +kernel
theorem dX12_mixes_42 : decode cX12_mixes 42 = .ok (.iadd, 1) := by decide +kernel
theorem dX12_mixes_43 : decode cX12_mixes 43 = .ok (.bipush 8, 2) := by decide +kernel
theorem dX12_mixes_45 : decode cX12_mixes 45 = .ok (.idiv, 1) := by decide +kernel
theorem dX12_mixes_46 : decode cX12_mixes 46 = .ok (.aload_n 0, 1) := by decide +kernel
theorem dX12_mixes_47 : decode cX12_mixes 47 = .ok (.getfield 7, 3) := by decide +kernel
theorem dX12_mixes_50 : decode cX12_mixes 50 = .ok (.sipush 288, 3) := by decide +kernel
theorem dX12_mixes_53 : decode cX12_mixes 53 = .ok (.iaload, 1) := by decide +kernel
theorem dX12_mixes_54 : decode cX12_mixes 54 = .ok (.if_icmp .le 5, 3) := by decide +kernel
theorem dX12_mixes_57 : decode cX12_mixes 57 = .ok (.iconst 0, 1) := by decide +kernel
theorem dX12_mixes_58 : decode cX12_mixes 58 = .ok (.ireturn, 1) := by decide +kernel
theorem dX12_mixes_59 : decode cX12_mixes 59 = .ok (.iinc 4 1, 3) := by decide +kernel
theorem dX12_mixes_62 : decode cX12_mixes 62 = .ok (.goto (-59), 3) := by decide +kernel
theorem dX12_mixes_65 : decode cX12_mixes 65 = .ok (.iconst 1, 1) := by decide +kernel
theorem dX12_mixes_66 : decode cX12_mixes 66 = .ok (.ireturn, 1) := by decide +kernel
theorem dX12_mixture_0 : decode cX12_mixture 0 = .ok (.aload_n 0, 1) := by decide +kernel
theorem dX12_mixture_1 : decode cX12_mixture 1 = .ok (.iload_n 1, 1) := by decide +kernel
theorem dX12_mixture_2 : decode cX12_mixture 2 = .ok (.invokevirtual 109, 3) := by decide +kernel
theorem dX12_mixture_5 : decode cX12_mixture 5 = .ok (.ifCond .eq 25, 3) := by decide +kernel
theorem dX12_mixture_8 : decode cX12_mixture 8 = .ok (.aload_n 0, 1) := by decide +kernel
theorem dX12_mixture_9 : decode cX12_mixture 9 = .ok (.iload_n 2, 1) := by decide +kernel
theorem dX12_mixture_10 : decode cX12_mixture 10 = .ok (.invokevirtual 109, 3) := by decide +kernel
theorem dX12_mixture_13 : decode cX12_mixture 13 = .ok (.ifCond .eq 17, 3) := by decide +kernel
theorem dX12_mixture_16 : decode cX12_mixture 16 = .ok (.iload_n 1, 1) := by decide +kernel
theorem dX12_mixture_17 : decode cX12_mixture 17 = .ok (.iload_n 2, 1) := by decide +kernel
theorem dX12_mixture_18 : decode cX12_mixture 18 = .ok (.if_icmp .eq 12, 3) := by decide +kernel
theorem dX12_mixture_21 : decode cX12_mixture 21 = .ok (.iload_n 3, 1) := by decide +kernel
theorem dX12_mixture_22 : decode cX12_mixture 22 = .ok (.iconst 0, 1) := by decide +kernel
theorem dX12_mixture_23 : decode cX12_mixture 23 = .ok (.iconst 1, 1) := by decide +kernel
theorem dX12_mixture_24 : decode cX12_mixture 24 = .ok (.invokestatic 105, 3) := by decide +kernel
theorem dX12_mixture_27 : decode cX12_mixture 27 = .ok (.ifCond .ne 5, 3) := by decide +kernel
theorem dX12_mixture_30 : decode cX12_mixture 30 = .ok (.iconst (-1), 1) := by decide +kernel
theorem dX12_mixture_31 : decode cX12_mixture 31 = .ok (.ireturn, 1) := by decide +kernel
theorem dX12_mixture_32 : decode cX12_mixture 32 = .ok (.bipush (-2), 2) := by decide +kernel
theorem dX12_mixture_34 : decode cX12_mixture 34 = .ok (.istore 4, 2) := by decide +kernel
theorem dX12_mixture_36 : decode cX12_mixture 36 = .ok (.iconst 0, 1) := by decide +kernel
theorem dX12_mixture_37 : decode cX12_mixture 37 = .ok (.istore 5, 2) := by decide +kernel
theorem dX12_mixture_39 : decode cX12_mixture 39 = .ok (.bipush 8, 2) := by decide +kernel
theorem dX12_mixture_41 : decode cX12_mixture 41 = .ok (.istore 6, 2) := by decide +kernel
theorem dX12_mixture_43 : decode cX12_mixture 43 = .ok (.iload 6, 2) := by decide +kernel
theorem dX12_mixture_45 : decode cX12_mixture 45 = .ok (.ifCond .lt 33, 3) := by decide +kernel
theorem dX12_mixture_48 : decode cX12_mixture 48 = .ok (.aload_n 0, 1) := by decide +kernel
theorem dX12_mixture_49 : decode cX12_mixture 49 = .ok (.iload_n 1, 1) := by decide +kernel
theorem dX12_mixture_50 : decode cX12_mixture 50 = .ok (.iload_n 2, 1) := by decide +kernel
theorem dX12_mixture_51 : decode cX12_mixture 51 = .ok (.iload 6, 2) := by decide +kernel
theorem dX12_mixture_53 : decode cX12_mixture 53 = .ok (.invokevirtual 375, 3) := by decide +kernel
theorem dX12_mixture_56 : decode cX12_mixture 56 = .ok (.ifCond .ne 6, 3) := by decide +kernel
theorem dX12_mixture_59 : decode cX12_mixture 59 = .ok (.goto 13, 3) := by decide +kernel
theorem dX12_mixture_62 : decode cX12_mixture 62 = .ok (.iload 6, 2) := by decide +kernel
theorem dX12_mixture_64 : decode cX12_mixture 64 = .ok (.istore 4, 2) := by decide +kernel
theorem dX12_mixture_66 : decode cX12_mixture 66 = .ok (.iload 5, 2) := by decide +kernel
theorem dX12_mixture_68 : decode cX12_mixture 68 = .ok (.iconst 1, 1) := by decide +kernel
theorem dX12_mixture_69 : decode cX12_mixture 69 = .ok (.iadd, 1) := by decide +kernel
theorem dX12_mixture_70 : decode cX12_mixture 70 = .ok (.istore 5, 2) := by decide +kernel
theorem dX12_mixture_72 : decode cX12_mixture 72 = .ok (.iinc 6 (-1), 3) := by decide +kernel
theorem dX12_mixture_75 : decode cX12_mixture 75 = .ok (.goto (-32), 3) := by decide +kernel
theorem dX12_mixture_78 : decode cX12_mixture 78 = .ok (.iload_n 3, 1) := by decide +kernel
theorem dX12_mixture_79 : decode cX12_mixture 79 = .ok (.ifCond .ne 8, 3) := by decide +kernel
theorem dX12_mixture_82 : decode cX12_mixture 82 = .ok (.iload 4, 2) := by decide +kernel
theorem dX12_mixture_84 : decode cX12_mixture 84 = .ok (.goto 5, 3) := by decide +kernel
theorem dX12_mixture_87 : decode cX12_mixture 87 = .ok (.iload 5, 2) := by decide +kernel
theorem dX12_mixture_89 : decode cX12_mixture 89 = .ok (.ireturn, 1) := by decide +kernel
theorem dX12_whose_0 : decode cX12_whose 0 = .ok (.iload_n 1, 1) := by decide +kernel
theorem dX12_whose_1 : decode cX12_whose 1 = .ok (.iconst 1, 1) := by decide +kernel
theorem dX12_whose_2 : decode cX12_whose 2 = .ok (.bipush 12, 2) := by decide +kernel
theorem dX12_whose_4 : decode cX12_whose 4 = .ok (.invokestatic 105, 3) := by decide +kernel
theorem dX12_whose_7 : decode cX12_whose 7 = .ok (.ifCond .eq 13, 3) := by decide +kernel
theorem dX12_whose_10 : decode cX12_whose 10 = .ok (.iconst 2, 1) := by decide +kernel
theorem dX12_whose_11 : decode cX12_whose 11 = .ok (.iload_n 1, 1) := by decide +kernel
theorem dX12_whose_12 : decode cX12_whose 12 = .ok (.imul, 1) := by decide +kernel
theorem dX12_whose_13 : decode cX12_whose 13 = .ok (.aload_n 0, 1) := by decide +kernel
theorem dX12_whose_14 : decode cX12_whose 14 = .ok (.getfield 143, 3) := by decide +kernel
theorem dX12_whose_17 : decode cX12_whose 17 = .ok (.if_icmp .le 5, 3) := by decide +kernel
theorem dX12_whose_20 : decode cX12_whose 20 = .ok (.iconst (-1), 1) := by decide +kernel
theorem dX12_whose_21 : decode cX12_whose 21 = .ok (.ireturn, 1) := by decide +kernel
theorem dX12_whose_22 : decode cX12_whose 22 = .ok (.aload_n 0, 1) := by decide +kernel
theorem dX12_whose_23 : decode cX12_whose 23 = .ok (.iconst 0, 1) := by decide +kernel
theorem dX12_whose_24 : decode cX12_whose 24 = .ok (.putfield 143, 3) := by decide +kernel
theorem dX12_whose_27 : decode cX12_whose 27 = .ok (.iconst 0, 1) := by decide +kernel
theorem dX12_whose_28 : decode cX12_whose 28 = .ok (.istore_n 2, 1) := by decide +kernel
theorem dX12_whose_29 : decode cX12_whose 29 = .ok (.iload_n 2, 1) := by decide +kernel
theorem dX12_whose_30 : decode cX12_whose 30 = .ok (.iload_n 1, 1) := by decide +kernel
theorem dX12_whose_31 : decode cX12_whose 31 = .ok (.if_icmp .ge 38, 3) := by decide +kernel
theorem dX12_whose_34 : decode cX12_whose 34 = .ok (.aload_n 0, 1) := by decide +kernel
theorem dX12_whose_35 : decode cX12_whose 35 = .ok (.iconst 2, 1) := by decide +kernel
theorem dX12_whose_36 : decode cX12_whose 36 = .ok (.iload_n 2, 1) := by decide +kernel
theorem dX12_whose_37 : decode cX12_whose 37 = .ok (.imul, 1) := by decide +kernel
theorem dX12_whose_38 : decode cX12_whose 38 = .ok (.invokevirtual 378, 3) := by decide +kernel
theorem dX12_whose_41 : decode cX12_whose 41 = .ok (.invokestatic 351, 3) := by decide +kernel
theorem dX12_whose_44 : decode cX12_whose 44 = .ok (.ifCond .eq 16, 3) := by decide +kernel
theorem dX12_whose_47 : decode cX12_whose 47 = .ok (.aload_n 0, 1) := by decide +kernel
theorem dX12_whose_48 : decode cX12_whose 48 = .ok (.iconst 2, 1) := by decide +kernel
theorem dX12_whose_49 : decode cX12_whose 49 = .ok (.iload_n 2, 1) := by decide +kernel
theorem dX12_whose_50 : decode cX12_whose 50 = .ok (.imul, 1) := by decide +kernel
theorem dX12_whose_51 : decode cX12_whose 51 = .ok (.iconst 1, 1) := by decide +kernel
theorem dX12_whose_52 : decode cX12_whose 52 = .ok (.iadd, 1) := by decide +kernel
theorem dX12_whose_53 : decode cX12_whose 53 = .ok (.invokevirtual 378, 3) := by decide +kernel
theorem dX12_whose_56 : decode cX12_whose 56 = .ok (.iconst 1, 1) := by decide +kernel
theorem dX12_whose_57 : decode cX12_whose 57 = .ok (.if_icmp .le 6, 3) := by decide +kernel
theorem dX12_whose_60 : decode cX12_whose 60 = .ok (.bipush (-3), 2) := by decide +kernel
theorem dX12_whose_62 : decode cX12_whose 62 = .ok (.ireturn, 1) := by decide +kernel
theorem dX12_whose_63 : decode cX12_whose 63 = .ok (.iinc 2 1, 3) := by decide +kernel
theorem dX12_whose_66 : decode cX12_whose 66 = .ok (.goto (-37), 3) := by decide +kernel
theorem dX12_whose_69 : decode cX12_whose 69 = .ok (.iconst 0, 1) := by decide +kernel
theorem dX12_whose_70 : decode cX12_whose 70 = .ok (.istore_n 2, 1) := by decide +kernel
theorem dX12_whose_71 : decode cX12_whose 71 = .ok (.iconst 0, 1) := by decide +kernel
theorem dX12_whose_72 : decode cX12_whose 72 = .ok (.istore_n 3, 1) := by decide +kernel
theorem dX12_whose_73 : decode cX12_whose 73 = .ok (.iload_n 3, 1) := by decide +kernel
theorem dX12_whose_74 : decode cX12_whose 74 = .ok (.bipush 8, 2) := by decide +kernel
theorem dX12_whose_76 : decode cX12_whose 76 = .ok (.if_icmp .ge 89, 3) := by decide +kernel
theorem dX12_whose_79 : decode cX12_whose 79 = .ok (.aload_n 0, 1) := by decide +kernel
theorem dX12_whose_80 : decode cX12_whose 80 = .ok (.iload_n 3, 1) := by decide +kernel
theorem dX12_whose_81 : decode cX12_whose 81 = .ok (.invokevirtual 109, 3) := by decide +kernel
theorem dX12_whose_84 : decode cX12_whose 84 = .ok (.istore 4, 2) := by decide +kernel
theorem dX12_whose_86 : decode cX12_whose 86 = .ok (.iconst 0, 1) := by decide +kernel
theorem dX12_whose_87 : decode cX12_whose 87 = .ok (.istore 5, 2) := by decide +kernel
theorem dX12_whose_89 : decode cX12_whose 89 = .ok (.iload 5, 2) := by decide +kernel
theorem dX12_whose_91 : decode cX12_whose 91 = .ok (.iload_n 1, 1) := by decide +kernel
theorem dX12_whose_92 : decode cX12_whose 92 = .ok (.if_icmp .ge 56, 3) := by decide +kernel
theorem dX12_whose_95 : decode cX12_whose 95 = .ok (.iload 4, 2) := by decide +kernel
theorem dX12_whose_97 : decode cX12_whose 97 = .ok (.ifCond .eq 51, 3) := by decide +kernel
theorem dX12_whose_100 : decode cX12_whose 100 = .ok (.aload_n 0, 1) := by decide +kernel
theorem dX12_whose_101 : decode cX12_whose 101 = .ok (.iload_n 3, 1) := by decide +kernel
theorem dX12_whose_102 : decode cX12_whose 102 = .ok (.aload_n 0, 1) := by decide +kernel
theorem dX12_whose_103 : decode cX12_whose 103 = .ok (.iconst 2, 1) := by decide +kernel
theorem dX12_whose_104 : decode cX12_whose 104 = .ok (.iload 5, 2) := by decide +kernel
theorem dX12_whose_106 : decode cX12_whose 106 = .ok (.imul, 1) := by decide +kernel
theorem dX12_whose_107 : decode cX12_whose 107 = .ok (.invokevirtual 378, 3) := by decide +kernel
theorem dX12_whose_110 : decode cX12_whose 110 = .ok (.invokevirtual 127, 3) := by decide +kernel
theorem dX12_whose_113 : decode cX12_whose 113 = .ok (.aload_n 0, 1) := by decide +kernel
theorem dX12_whose_114 : decode cX12_whose 114 = .ok (.iconst 2, 1) := by decide +kernel
theorem dX12_whose_115 : decode cX12_whose 115 = .ok (.iload 5, 2) := by decide +kernel
theorem dX12_whose_117 : decode cX12_whose 117 = .ok (.imul, 1) := by decide +kernel
theorem dX12_whose_118 : decode cX12_whose 118 = .ok (.iconst 1, 1) := by decide +kernel
theorem dX12_whose_119 : decode cX12_whose 119 = .ok (.iadd, 1) := by decide +kernel
theorem dX12_whose_120 : decode cX12_whose 120 = .ok (.invokevirtual 378, 3) := by decide +kernel
theorem dX12_whose_123 : decode cX12_whose 123 = .ok (.iconst 1, 1) := by decide +kernel
theorem dX12_whose_124 : decode cX12_whose 124 = .ok (.if_icmp .ne 7, 3) := by decide +kernel
theorem dX12_whose_127 : decode cX12_whose 127 = .ok (.iconst 1, 1) := by decide +kernel
theorem dX12_whose_128 : decode cX12_whose 128 = .ok (.goto 4, 3) := by decide +kernel
theorem dX12_whose_131 : decode cX12_whose 131 = .ok (.iconst 0, 1) := by decide +kernel
theorem dX12_whose_132 : decode cX12_whose 132 = .ok (.if_icmp .ne 7, 3) := by decide +kernel
theorem dX12_whose_135 : decode cX12_whose 135 = .ok (.iconst 1, 1) := by decide +kernel
theorem dX12_whose_136 : decode cX12_whose 136 = .ok (.goto 4, 3) := by decide +kernel
theorem dX12_whose_139 : decode cX12_whose 139 = .ok (.iconst 0, 1) := by decide +kernel
theorem dX12_whose_140 : decode cX12_whose 140 = .ok (.istore 4, 2) := by decide +kernel
theorem dX12_whose_142 : decode cX12_whose 142 = .ok (.iinc 5 1, 3) := by decide +kernel
theorem dX12_whose_145 : decode cX12_whose 145 = .ok (.goto (-56), 3) := by decide +kernel
theorem dX12_whose_148 : decode cX12_whose 148 = .ok (.iload 4, 2) := by decide +kernel
theorem dX12_whose_150 : decode cX12_whose 150 = .ok (.ifCond .eq 9, 3) := by decide +kernel
theorem dX12_whose_153 : decode cX12_whose 153 = .ok (.iload_n 2, 1) := by decide +kernel
theorem dX12_whose_154 : decode cX12_whose 154 = .ok (.iconst 1, 1) := by decide +kernel
theorem dX12_whose_155 : decode cX12_whose 155 = .ok (.iload_n 3, 1) := by decide +kernel
theorem dX12_whose_156 : decode cX12_whose 156 = .ok (.ishl, 1) := by decide +kernel
theorem dX12_whose_157 : decode cX12_whose 157 = .ok (.ior, 1) := by decide +kernel
theorem dX12_whose_158 : decode cX12_whose 158 = .ok (.istore_n 2, 1) := by decide +kernel
theorem dX12_whose_159 : decode cX12_whose 159 = .ok (.iinc 3 1, 3) := by decide +kernel
theorem dX12_whose_162 : decode cX12_whose 162 = .ok (.goto (-89), 3) := by decide +kernel
theorem dX12_whose_165 : decode cX12_whose 165 = .ok (.iload_n 2, 1) := by decide +kernel
theorem dX12_whose_166 : decode cX12_whose 166 = .ok (.ireturn, 1) := by decide +kernel
theorem dX12_greaterBy_0 : decode cX12_greaterBy 0 = .ok (.iconst 0, 1) := by decide +kernel
theorem dX12_greaterBy_1 : decode cX12_greaterBy 1 = .ok (.istore_n 3, 1) := by decide +kernel
theorem dX12_greaterBy_2 : decode cX12_greaterBy 2 = .ok (.iconst 0, 1) := by decide +kernel
theorem dX12_greaterBy_3 : decode cX12_greaterBy 3 = .ok (.istore 4, 2) := by decide +kernel
theorem dX12_greaterBy_5 : decode cX12_greaterBy 5 = .ok (.iload 4, 2) := by decide +kernel
theorem dX12_greaterBy_7 : decode cX12_greaterBy 7 = .ok (.bipush 8, 2) := by decide +kernel
theorem dX12_greaterBy_9 : decode cX12_greaterBy 9 = .ok (.if_icmp .ge 32, 3) := by decide +kernel
theorem dX12_greaterBy_12 : decode cX12_greaterBy 12 = .ok (.iload_n 1, 1) := by decide +kernel
theorem dX12_greaterBy_13 : decode cX12_greaterBy 13 = .ok (.iload 4, 2) := by decide +kernel
theorem dX12_greaterBy_15 : decode cX12_greaterBy 15 = .ok (.invokestatic 381, 3) := by decide +kernel
theorem dX12_greaterBy_18 : decode cX12_greaterBy 18 = .ok (.ifCond .eq 17, 3) := by decide +kernel
theorem dX12_greaterBy_21 : decode cX12_greaterBy 21 = .ok (.aload_n 0, 1) := by decide +kernel
theorem dX12_greaterBy_22 : decode cX12_greaterBy 22 = .ok (.iload 4, 2) := by decide +kernel
theorem dX12_greaterBy_24 : decode cX12_greaterBy 24 = .ok (.iload_n 2, 1) := by decide +kernel
theorem dX12_greaterBy_25 : decode cX12_greaterBy 25 = .ok (.invokevirtual 127, 3) := by decide +kernel
theorem dX12_greaterBy_28 : decode cX12_greaterBy 28 = .ok (.ifCond .eq 7, 3) := by decide +kernel
theorem dX12_greaterBy_31 : decode cX12_greaterBy 31 = .ok (.iload_n 3, 1) := by decide +kernel
theorem dX12_greaterBy_32 : decode cX12_greaterBy 32 = .ok (.iconst 1, 1) := by decide +kernel
theorem dX12_greaterBy_33 : decode cX12_greaterBy 33 = .ok (.iadd, 1) := by decide +kernel
theorem dX12_greaterBy_34 : decode cX12_greaterBy 34 = .ok (.istore_n 3, 1) := by decide +kernel
theorem dX12_greaterBy_35 : decode cX12_greaterBy 35 = .ok (.iinc 4 1, 3) := by decide +kernel
theorem dX12_greaterBy_38 : decode cX12_greaterBy 38 = .ok (.goto (-33), 3) := by decide +kernel
theorem dX12_greaterBy_41 : decode cX12_greaterBy 41 = .ok (.iload_n 3, 1) := by decide +kernel
theorem dX12_greaterBy_42 : decode cX12_greaterBy 42 = .ok (.iload_n 1, 1) := by decide +kernel
theorem dX12_greaterBy_43 : decode cX12_greaterBy 43 = .ok (.invokestatic 384, 3) := by decide +kernel
theorem dX12_greaterBy_46 : decode cX12_greaterBy 46 = .ok (.iload_n 3, 1) := by decide +kernel
theorem dX12_greaterBy_47 : decode cX12_greaterBy 47 = .ok (.isub, 1) := by decide +kernel
theorem dX12_greaterBy_48 : decode cX12_greaterBy 48 = .ok (.invokestatic 102, 3) := by decide +kernel
theorem dX12_greaterBy_51 : decode cX12_greaterBy 51 = .ok (.ireturn, 1) := by decide +kernel
theorem dX12_next_0 : decode cX12_next 0 = .ok (.iload_n 1, 1) := by decide +kernel
theorem dX12_next_1 : decode cX12_next 1 = .ok (.iconst 1, 1) := by decide +kernel
theorem dX12_next_2 : decode cX12_next 2 = .ok (.sipush 255, 3) := by decide +kernel
theorem dX12_next_5 : decode cX12_next 5 = .ok (.invokestatic 105, 3) := by decide +kernel
theorem dX12_next_8 : decode cX12_next 8 = .ok (.ifCond .eq 23, 3) := by decide +kernel
theorem dX12_next_11 : decode cX12_next 11 = .ok (.iload_n 1, 1) := by decide +kernel
theorem dX12_next_12 : decode cX12_next 12 = .ok (.aload_n 0, 1) := by decide +kernel
theorem dX12_next_13 : decode cX12_next 13 = .ok (.invokevirtual 387, 3) := by decide +kernel
theorem dX12_next_16 : decode cX12_next 16 = .ok (.iconst (-1), 1) := by decide +kernel
theorem dX12_next_17 : decode cX12_next 17 = .ok (.ixor, 1) := by decide +kernel
theorem dX12_next_18 : decode cX12_next 18 = .ok (.iand, 1) := by decide +kernel
theorem dX12_next_19 : decode cX12_next 19 = .ok (.ifCond .ne 12, 3) := by decide +kernel
theorem dX12_next_22 : decode cX12_next 22 = .ok (.iload_n 2, 1) := by decide +kernel
theorem dX12_next_23 : decode cX12_next 23 = .ok (.iconst 0, 1) := by decide +kernel
theorem dX12_next_24 : decode cX12_next 24 = .ok (.iconst 1, 1) := by decide +kernel
theorem dX12_next_25 : decode cX12_next 25 = .ok (.invokestatic 105, 3) := by decide +kernel
theorem dX12_next_28 : decode cX12_next 28 = .ok (.ifCond .ne 5, 3) := by decide +kernel
theorem dX12_next_31 : decode cX12_next 31 = .ok (.iconst (-1), 1) := by decide +kernel
theorem dX12_next_32 : decode cX12_next 32 = .ok (.ireturn, 1) := by decide +kernel
theorem dX12_next_33 : decode cX12_next 33 = .ok (.iconst 0, 1) := by decide +kernel
theorem dX12_next_34 : decode cX12_next 34 = .ok (.istore_n 3, 1) := by decide +kernel
theorem dX12_next_35 : decode cX12_next 35 = .ok (.iconst 1, 1) := by decide +kernel
theorem dX12_next_36 : decode cX12_next 36 = .ok (.istore 4, 2) := by decide +kernel
theorem dX12_next_38 : decode cX12_next 38 = .ok (.iload 4, 2) := by decide +kernel
theorem dX12_next_40 : decode cX12_next 40 = .ok (.bipush 16, 2) := by decide +kernel
theorem dX12_next_42 : decode cX12_next 42 = .ok (.if_icmp .ge 28, 3) := by decide +kernel
theorem dX12_next_45 : decode cX12_next 45 = .ok (.aload_n 0, 1) := by decide +kernel
theorem dX12_next_46 : decode cX12_next 46 = .ok (.iload_n 1, 1) := by decide +kernel
theorem dX12_next_47 : decode cX12_next 47 = .ok (.iload 4, 2) := by decide +kernel
theorem dX12_next_49 : decode cX12_next 49 = .ok (.invokevirtual 390, 3) := by decide +kernel
theorem dX12_next_52 : decode cX12_next 52 = .ok (.aload_n 0, 1) := by decide +kernel
theorem dX12_next_53 : decode cX12_next 53 = .ok (.iload_n 1, 1) := by decide +kernel
theorem dX12_next_54 : decode cX12_next 54 = .ok (.iload_n 3, 1) := by decide +kernel
theorem dX12_next_55 : decode cX12_next 55 = .ok (.invokevirtual 390, 3) := by decide +kernel
theorem dX12_next_58 : decode cX12_next 58 = .ok (.if_icmp .ge 6, 3) := by decide +kernel
theorem dX12_next_61 : decode cX12_next 61 = .ok (.iload 4, 2) := by decide +kernel
theorem dX12_next_63 : decode cX12_next 63 = .ok (.istore_n 3, 1) := by decide +kernel
theorem dX12_next_64 : decode cX12_next 64 = .ok (.iinc 4 1, 3) := by decide +kernel
theorem dX12_next_67 : decode cX12_next 67 = .ok (.goto (-29), 3) := by decide +kernel
theorem dX12_next_70 : decode cX12_next 70 = .ok (.iload_n 2, 1) := by decide +kernel
theorem dX12_next_71 : decode cX12_next 71 = .ok (.ifCond .ne 7, 3) := by decide +kernel
theorem dX12_next_74 : decode cX12_next 74 = .ok (.iload_n 3, 1) := by decide +kernel
theorem dX12_next_75 : decode cX12_next 75 = .ok (.goto 9, 3) := by decide +kernel
theorem dX12_next_78 : decode cX12_next 78 = .ok (.aload_n 0, 1) := by decide +kernel
theorem dX12_next_79 : decode cX12_next 79 = .ok (.iload_n 1, 1) := by decide +kernel
theorem dX12_next_80 : decode cX12_next 80 = .ok (.iload_n 3, 1) := by decide +kernel
theorem dX12_next_81 : decode cX12_next 81 = .ok (.invokevirtual 390, 3) := by decide +kernel
theorem dX12_next_84 : decode cX12_next 84 = .ok (.ireturn, 1) := by decide +kernel
theorem dX12_guards_0 : decode cX12_guards 0 = .ok (.iconst 0, 1) := by decide +kernel
theorem dX12_guards_1 : decode cX12_guards 1 = .ok (.istore_n 2, 1) := by decide +kernel
theorem dX12_guards_2 : decode cX12_guards 2 = .ok (.iload_n 2, 1) := by decide +kernel
theorem dX12_guards_3 : decode cX12_guards 3 = .ok (.bipush 8, 2) := by decide +kernel
theorem dX12_guards_5 : decode cX12_guards 5 = .ok (.if_icmp .ge 58, 3) := by decide +kernel
theorem dX12_guards_8 : decode cX12_guards 8 = .ok (.iconst 0, 1) := by decide +kernel
theorem dX12_guards_9 : decode cX12_guards 9 = .ok (.istore_n 3, 1) := by decide +kernel
theorem dX12_guards_10 : decode cX12_guards 10 = .ok (.iload_n 3, 1) := by decide +kernel
theorem dX12_guards_11 : decode cX12_guards 11 = .ok (.iload_n 2, 1) := by decide +kernel
theorem dX12_guards_12 : decode cX12_guards 12 = .ok (.if_icmp .ge 45, 3) := by decide +kernel
theorem dX12_guards_15 : decode cX12_guards 15 = .ok (.aload_n 0, 1) := by decide +kernel
theorem dX12_guards_16 : decode cX12_guards 16 = .ok (.iload_n 2, 1) := by decide +kernel
theorem dX12_guards_17 : decode cX12_guards 17 = .ok (.invokevirtual 109, 3) := by decide +kernel
theorem dX12_guards_20 : decode cX12_guards 20 = .ok (.ifCond .eq 31, 3) := by decide +kernel
theorem dX12_guards_23 : decode cX12_guards 23 = .ok (.aload_n 0, 1) := by decide +kernel
theorem dX12_guards_24 : decode cX12_guards 24 = .ok (.iload_n 3, 1) := by decide +kernel
theorem dX12_guards_25 : decode cX12_guards 25 = .ok (.invokevirtual 109, 3) := by decide +kernel
theorem dX12_guards_28 : decode cX12_guards 28 = .ok (.ifCond .eq 23, 3) := by decide +kernel
theorem dX12_guards_31 : decode cX12_guards 31 = .ok (.aload_n 0, 1) := by decide +kernel
theorem dX12_guards_32 : decode cX12_guards 32 = .ok (.getfield 89, 3) := by decide +kernel
theorem dX12_guards_35 : decode cX12_guards 35 = .ok (.iload_n 2, 1) := by decide +kernel
theorem dX12_guards_36 : decode cX12_guards 36 = .ok (.iaload, 1) := by decide +kernel
theorem dX12_guards_37 : decode cX12_guards 37 = .ok (.aload_n 0, 1) := by decide +kernel
theorem dX12_guards_38 : decode cX12_guards 38 = .ok (.getfield 89, 3) := by decide +kernel
theorem dX12_guards_41 : decode cX12_guards 41 = .ok (.iload_n 3, 1) := by decide +kernel
theorem dX12_guards_42 : decode cX12_guards 42 = .ok (.iaload, 1) := by decide +kernel
theorem dX12_guards_43 : decode cX12_guards 43 = .ok (.ixor, 1) := by decide +kernel
theorem dX12_guards_44 : decode cX12_guards 44 = .ok (.iload_n 1, 1) := by decide +kernel
theorem dX12_guards_45 : decode cX12_guards 45 = .ok (.iand, 1) := by decide +kernel
theorem dX12_guards_46 : decode cX12_guards 46 = .ok (.ifCond .ne 5, 3) := by decide +kernel
theorem dX12_guards_49 : decode cX12_guards 49 = .ok (.iconst 0, 1) := by decide +kernel
theorem dX12_guards_50 : decode cX12_guards 50 = .ok (.ireturn, 1) := by decide +kernel
theorem dX12_guards_51 : decode cX12_guards 51 = .ok (.iinc 3 1, 3) := by decide +kernel
theorem dX12_guards_54 : decode cX12_guards 54 = .ok (.goto (-44), 3) := by decide +kernel
theorem dX12_guards_57 : decode cX12_guards 57 = .ok (.iinc 2 1, 3) := by decide +kernel
theorem dX12_guards_60 : decode cX12_guards 60 = .ok (.goto (-58), 3) := by decide +kernel
theorem dX12_guards_63 : decode cX12_guards 63 = .ok (.iconst 1, 1) := by decide +kernel
theorem dX12_guards_64 : decode cX12_guards 64 = .ok (.ireturn, 1) := by decide +kernel
theorem dX12_guard_0 : decode cX12_guard 0 = .ok (.iload_n 1, 1) := by decide +kernel
theorem dX12_guard_1 : decode cX12_guard 1 = .ok (.iconst 0, 1) := by decide +kernel
theorem dX12_guard_2 : decode cX12_guard 2 = .ok (.iconst 1, 1) := by decide +kernel
theorem dX12_guard_3 : decode cX12_guard 3 = .ok (.invokestatic 105, 3) := by decide +kernel
theorem dX12_guard_6 : decode cX12_guard 6 = .ok (.ifCond .ne 5, 3) := by decide +kernel
theorem dX12_guard_9 : decode cX12_guard 9 = .ok (.iconst (-1), 1) := by decide +kernel
theorem dX12_guard_10 : decode cX12_guard 10 = .ok (.ireturn, 1) := by decide +kernel
theorem dX12_guard_11 : decode cX12_guard 11 = .ok (.iconst 0, 1) := by decide +kernel
theorem dX12_guard_12 : decode cX12_guard 12 = .ok (.istore_n 2, 1) := by decide +kernel
theorem dX12_guard_13 : decode cX12_guard 13 = .ok (.iload_n 2, 1) := by decide +kernel
theorem dX12_guard_14 : decode cX12_guard 14 = .ok (.bipush 8, 2) := by decide +kernel
theorem dX12_guard_16 : decode cX12_guard 16 = .ok (.if_icmp .ge 32, 3) := by decide +kernel
theorem dX12_guard_19 : decode cX12_guard 19 = .ok (.aload_n 0, 1) := by decide +kernel
theorem dX12_guard_20 : decode cX12_guard 20 = .ok (.getfield 89, 3) := by decide +kernel
theorem dX12_guard_23 : decode cX12_guard 23 = .ok (.iload_n 2, 1) := by decide +kernel
theorem dX12_guard_24 : decode cX12_guard 24 = .ok (.aload_n 0, 1) := by decide +kernel
theorem dX12_guard_25 : decode cX12_guard 25 = .ok (.iload_n 2, 1) := by decide +kernel
theorem dX12_guard_26 : decode cX12_guard 26 = .ok (.invokevirtual 109, 3) := by decide +kernel
theorem dX12_guard_29 : decode cX12_guard 29 = .ok (.ifCond .eq 11, 3) := by decide +kernel
theorem dX12_guard_32 : decode cX12_guard 32 = .ok (.aload_n 0, 1) := by decide +kernel
theorem dX12_guard_33 : decode cX12_guard 33 = .ok (.iload_n 2, 1) := by decide +kernel
theorem dX12_guard_34 : decode cX12_guard 34 = .ok (.invokevirtual 348, 3) := by decide +kernel
theorem dX12_guard_37 : decode cX12_guard 37 = .ok (.goto 4, 3) := by decide +kernel
theorem dX12_guard_40 : decode cX12_guard 40 = .ok (.iconst 0, 1) := by decide +kernel
theorem dX12_guard_41 : decode cX12_guard 41 = .ok (.iastore, 1) := by decide +kernel
theorem dX12_guard_42 : decode cX12_guard 42 = .ok (.iinc 2 1, 3) := by decide +kernel
theorem dX12_guard_45 : decode cX12_guard 45 = .ok (.goto (-32), 3) := by decide +kernel
theorem dX12_guard_48 : decode cX12_guard 48 = .ok (.aload_n 0, 1) := by decide +kernel
theorem dX12_guard_49 : decode cX12_guard 49 = .ok (.ldc 136, 2) := by decide +kernel
theorem dX12_guard_51 : decode cX12_guard 51 = .ok (.invokevirtual 393, 3) := by decide +kernel
theorem dX12_guard_54 : decode cX12_guard 54 = .ok (.ifCond .ne 6, 3) := by decide +kernel
theorem dX12_guard_57 : decode cX12_guard 57 = .ok (.bipush (-2), 2) := by decide +kernel
theorem dX12_guard_59 : decode cX12_guard 59 = .ok (.ireturn, 1) := by decide +kernel
theorem dX12_guard_60 : decode cX12_guard 60 = .ok (.ldc 136, 2) := by decide +kernel
theorem dX12_guard_62 : decode cX12_guard 62 = .ok (.istore_n 2, 1) := by decide +kernel
theorem dX12_guard_63 : decode cX12_guard 63 = .ok (.ldc_w 396, 3) := by decide +kernel
theorem dX12_guard_66 : decode cX12_guard 66 = .ok (.istore_n 3, 1) := by decide +kernel
theorem dX12_guard_67 : decode cX12_guard 67 = .ok (.iload_n 3, 1) := by decide +kernel
theorem dX12_guard_68 : decode cX12_guard 68 = .ok (.ifCond .lt 30, 3) := by decide +kernel
theorem dX12_guard_71 : decode cX12_guard 71 = .ok (.iload_n 3, 1) := by decide +kernel
theorem dX12_guard_72 : decode cX12_guard 72 = .ok (.invokestatic 384, 3) := by decide +kernel
theorem dX12_guard_75 : decode cX12_guard 75 = .ok (.iload_n 2, 1) := by decide +kernel
theorem dX12_guard_76 : decode cX12_guard 76 = .ok (.invokestatic 384, 3) := by decide +kernel
theorem dX12_guard_79 : decode cX12_guard 79 = .ok (.if_icmp .gt 13, 3) := by decide +kernel
theorem dX12_guard_82 : decode cX12_guard 82 = .ok (.aload_n 0, 1) := by decide +kernel
theorem dX12_guard_83 : decode cX12_guard 83 = .ok (.iload_n 3, 1) := by decide +kernel
theorem dX12_guard_84 : decode cX12_guard 84 = .ok (.invokevirtual 393, 3) := by decide +kernel
theorem dX12_guard_87 : decode cX12_guard 87 = .ok (.ifCond .eq 5, 3) := by decide +kernel
theorem dX12_guard_90 : decode cX12_guard 90 = .ok (.iload_n 3, 1) := by decide +kernel
theorem dX12_guard_91 : decode cX12_guard 91 = .ok (.istore_n 2, 1) := by decide +kernel
theorem dX12_guard_92 : decode cX12_guard 92 = .ok (.iinc 3 (-1), 3) := by decide +kernel
theorem dX12_guard_95 : decode cX12_guard 95 = .ok (.goto (-28), 3) := by decide +kernel
theorem dX12_guard_98 : decode cX12_guard 98 = .ok (.iload_n 1, 1) := by decide +kernel
theorem dX12_guard_99 : decode cX12_guard 99 = .ok (.ifCond .ne 10, 3) := by decide +kernel
theorem dX12_guard_102 : decode cX12_guard 102 = .ok (.iload_n 2, 1) := by decide +kernel
theorem dX12_guard_103 : decode cX12_guard 103 = .ok (.invokestatic 384, 3) := by decide +kernel
theorem dX12_guard_106 : decode cX12_guard 106 = .ok (.goto 4, 3) := by decide +kernel
theorem dX12_guard_109 : decode cX12_guard 109 = .ok (.iload_n 2, 1) := by decide +kernel
theorem dX12_guard_110 : decode cX12_guard 110 = .ok (.ireturn, 1) := by decide +kernel
theorem dX12_areWords_0 : decode cX12_areWords 0 = .ok (.iconst 0, 1) := by decide +kernel
theorem dX12_areWords_1 : decode cX12_areWords 1 = .ok (.istore_n 2, 1) := by decide +kernel
theorem dX12_areWords_2 : decode cX12_areWords 2 = .ok (.iconst 0, 1) := by decide +kernel
theorem dX12_areWords_3 : decode cX12_areWords 3 = .ok (.istore_n 3, 1) := by decide +kernel
theorem dX12_areWords_4 : decode cX12_areWords 4 = .ok (.iload_n 3, 1) := by decide +kernel
theorem dX12_areWords_5 : decode cX12_areWords 5 = .ok (.iload_n 1, 1) := by decide +kernel
theorem dX12_areWords_6 : decode cX12_areWords 6 = .ok (.if_icmp .ge 42, 3) := by decide +kernel
theorem dX12_areWords_9 : decode cX12_areWords 9 = .ok (.aload_n 0, 1) := by decide +kernel
theorem dX12_areWords_10 : decode cX12_areWords 10 = .ok (.iload_n 3, 1) := by decide +kernel
theorem dX12_areWords_11 : decode cX12_areWords 11 = .ok (.invokevirtual 378, 3) := by decide +kernel
theorem dX12_areWords_14 : decode cX12_areWords 14 = .ok (.istore 4, 2) := by decide +kernel
theorem dX12_areWords_16 : decode cX12_areWords 16 = .ok (.iload 4, 2) := by decide +kernel
theorem dX12_areWords_18 : decode cX12_areWords 18 = .ok (.invokestatic 351, 3) := by decide +kernel
theorem dX12_areWords_21 : decode cX12_areWords 21 = .ok (.ifCond .eq 12, 3) := by decide +kernel
theorem dX12_areWords_24 : decode cX12_areWords 24 = .ok (.iload_n 2, 1) := by decide +kernel
theorem dX12_areWords_25 : decode cX12_areWords 25 = .ok (.iload 4, 2) := by decide +kernel
theorem dX12_areWords_27 : decode cX12_areWords 27 = .ok (.invokestatic 381, 3) := by decide +kernel
theorem dX12_areWords_30 : decode cX12_areWords 30 = .ok (.ifCond .eq 5, 3) := by decide +kernel
theorem dX12_areWords_33 : decode cX12_areWords 33 = .ok (.iconst 0, 1) := by decide +kernel
theorem dX12_areWords_34 : decode cX12_areWords 34 = .ok (.ireturn, 1) := by decide +kernel
theorem dX12_areWords_35 : decode cX12_areWords 35 = .ok (.iload_n 2, 1) := by decide +kernel
theorem dX12_areWords_36 : decode cX12_areWords 36 = .ok (.iconst 1, 1) := by decide +kernel
theorem dX12_areWords_37 : decode cX12_areWords 37 = .ok (.iload 4, 2) := by decide +kernel
theorem dX12_areWords_39 : decode cX12_areWords 39 = .ok (.ishl, 1) := by decide +kernel
theorem dX12_areWords_40 : decode cX12_areWords 40 = .ok (.ior, 1) := by decide +kernel
theorem dX12_areWords_41 : decode cX12_areWords 41 = .ok (.istore_n 2, 1) := by decide +kernel
theorem dX12_areWords_42 : decode cX12_areWords 42 = .ok (.iinc 3 1, 3) := by decide +kernel
theorem dX12_areWords_45 : decode cX12_areWords 45 = .ok (.goto (-41), 3) := by decide +kernel
theorem dX12_areWords_48 : decode cX12_areWords 48 = .ok (.iconst 1, 1) := by decide +kernel
theorem dX12_areWords_49 : decode cX12_areWords 49 = .ok (.ireturn, 1) := by decide +kernel
theorem dX12_sortsWords_0 : decode cX12_sortsWords 0 = .ok (.aload_n 0, 1) := by decide +kernel
theorem dX12_sortsWords_1 : decode cX12_sortsWords 1 = .ok (.iconst 0, 1) := by decide +kernel
theorem dX12_sortsWords_2 : decode cX12_sortsWords 2 = .ok (.putfield 397, 3) := by decide +kernel
theorem dX12_sortsWords_5 : decode cX12_sortsWords 5 = .ok (.iconst 0, 1) := by decide +kernel
theorem dX12_sortsWords_6 : decode cX12_sortsWords 6 = .ok (.istore_n 2, 1) := by decide +kernel
theorem dX12_sortsWords_7 : decode cX12_sortsWords 7 = .ok (.iload_n 2, 1) := by decide +kernel
theorem dX12_sortsWords_8 : decode cX12_sortsWords 8 = .ok (.bipush 16, 2) := by decide +kernel
theorem dX12_sortsWords_10 : decode cX12_sortsWords 10 = .ok (.if_icmp .ge 65, 3) := by decide +kernel
theorem dX12_sortsWords_13 : decode cX12_sortsWords 13 = .ok (.iconst 0, 1) := by decide +kernel
theorem dX12_sortsWords_14 : decode cX12_sortsWords 14 = .ok (.istore_n 3, 1) := by decide +kernel
theorem dX12_sortsWords_15 : decode cX12_sortsWords 15 = .ok (.iconst 0, 1) := by decide +kernel
theorem dX12_sortsWords_16 : decode cX12_sortsWords 16 = .ok (.istore 4, 2) := by decide +kernel
theorem dX12_sortsWords_18 : decode cX12_sortsWords 18 = .ok (.iload 4, 2) := by decide +kernel
theorem dX12_sortsWords_20 : decode cX12_sortsWords 20 = .ok (.iload_n 1, 1) := by decide +kernel
theorem dX12_sortsWords_21 : decode cX12_sortsWords 21 = .ok (.if_icmp .ge 21, 3) := by decide +kernel
theorem dX12_sortsWords_24 : decode cX12_sortsWords 24 = .ok (.aload_n 0, 1) := by decide +kernel
theorem dX12_sortsWords_25 : decode cX12_sortsWords 25 = .ok (.iload 4, 2) := by decide +kernel
theorem dX12_sortsWords_27 : decode cX12_sortsWords 27 = .ok (.invokevirtual 378, 3) := by decide +kernel
theorem dX12_sortsWords_30 : decode cX12_sortsWords 30 = .ok (.iload_n 2, 1) := by decide +kernel
theorem dX12_sortsWords_31 : decode cX12_sortsWords 31 = .ok (.if_icmp .ne 5, 3) := by decide +kernel
theorem dX12_sortsWords_34 : decode cX12_sortsWords 34 = .ok (.iconst 1, 1) := by decide +kernel
theorem dX12_sortsWords_35 : decode cX12_sortsWords 35 = .ok (.istore_n 3, 1) := by decide +kernel
theorem dX12_sortsWords_36 : decode cX12_sortsWords 36 = .ok (.iinc 4 1, 3) := by decide +kernel
theorem dX12_sortsWords_39 : decode cX12_sortsWords 39 = .ok (.goto (-21), 3) := by decide +kernel
theorem dX12_sortsWords_42 : decode cX12_sortsWords 42 = .ok (.iload_n 3, 1) := by decide +kernel
theorem dX12_sortsWords_43 : decode cX12_sortsWords 43 = .ok (.ifCond .ne 6, 3) := by decide +kernel
theorem dX12_sortsWords_46 : decode cX12_sortsWords 46 = .ok (.goto 23, 3) := by decide +kernel
theorem dX12_sortsWords_49 : decode cX12_sortsWords 49 = .ok (.aload_n 0, 1) := by decide +kernel
theorem dX12_sortsWords_50 : decode cX12_sortsWords 50 = .ok (.getfield 92, 3) := by decide +kernel
theorem dX12_sortsWords_53 : decode cX12_sortsWords 53 = .ok (.aload_n 0, 1) := by decide +kernel
theorem dX12_sortsWords_54 : decode cX12_sortsWords 54 = .ok (.getfield 397, 3) := by decide +kernel
theorem dX12_sortsWords_57 : decode cX12_sortsWords 57 = .ok (.iload_n 2, 1) := by decide +kernel
theorem dX12_sortsWords_58 : decode cX12_sortsWords 58 = .ok (.iastore, 1) := by decide +kernel
theorem dX12_sortsWords_59 : decode cX12_sortsWords 59 = .ok (.aload_n 0, 1) := by decide +kernel
theorem dX12_sortsWords_60 : decode cX12_sortsWords 60 = .ok (.aload_n 0, 1) := by decide +kernel
theorem dX12_sortsWords_61 : decode cX12_sortsWords 61 = .ok (.getfield 397, 3) := by decide +kernel
theorem dX12_sortsWords_64 : decode cX12_sortsWords 64 = .ok (.iconst 1, 1) := by decide +kernel
theorem dX12_sortsWords_65 : decode cX12_sortsWords 65 = .ok (.iadd, 1) := by decide +kernel
theorem dX12_sortsWords_66 : decode cX12_sortsWords 66 = .ok (.putfield 397, 3) := by decide +kernel
theorem dX12_sortsWords_69 : decode cX12_sortsWords 69 = .ok (.iinc 2 1, 3) := by decide +kernel
theorem dX12_sortsWords_72 : decode cX12_sortsWords 72 = .ok (.goto (-65), 3) := by decide +kernel
theorem dX12_sortsWords_75 : decode cX12_sortsWords 75 = .ok (.return_, 1) := by decide +kernel
theorem dX12_triesOf_0 : decode cX12_triesOf 0 = .ok (.iconst 0, 1) := by decide +kernel
theorem dX12_triesOf_1 : decode cX12_triesOf 1 = .ok (.istore_n 3, 1) := by decide +kernel
theorem dX12_triesOf_2 : decode cX12_triesOf 2 = .ok (.iconst 0, 1) := by decide +kernel
theorem dX12_triesOf_3 : decode cX12_triesOf 3 = .ok (.istore 4, 2) := by decide +kernel
theorem dX12_triesOf_5 : decode cX12_triesOf 5 = .ok (.iload 4, 2) := by decide +kernel
theorem dX12_triesOf_7 : decode cX12_triesOf 7 = .ok (.iload_n 2, 1) := by decide +kernel
theorem dX12_triesOf_8 : decode cX12_triesOf 8 = .ok (.if_icmp .ge 52, 3) := by decide +kernel
theorem dX12_triesOf_11 : decode cX12_triesOf 11 = .ok (.aload_n 0, 1) := by decide +kernel
theorem dX12_triesOf_12 : decode cX12_triesOf 12 = .ok (.getfield 92, 3) := by decide +kernel
theorem dX12_triesOf_15 : decode cX12_triesOf 15 = .ok (.aload_n 0, 1) := by decide +kernel
theorem dX12_triesOf_16 : decode cX12_triesOf 16 = .ok (.getfield 95, 3) := by decide +kernel
theorem dX12_triesOf_19 : decode cX12_triesOf 19 = .ok (.iload 4, 2) := by decide +kernel
theorem dX12_triesOf_21 : decode cX12_triesOf 21 = .ok (.iaload, 1) := by decide +kernel
theorem dX12_triesOf_22 : decode cX12_triesOf 22 = .ok (.iaload, 1) := by decide +kernel
theorem dX12_triesOf_23 : decode cX12_triesOf 23 = .ok (.istore 5, 2) := by decide +kernel
theorem dX12_triesOf_25 : decode cX12_triesOf 25 = .ok (.iload_n 3, 1) := by decide +kernel
theorem dX12_triesOf_26 : decode cX12_triesOf 26 = .ok (.bipush 9, 2) := by decide +kernel
theorem dX12_triesOf_28 : decode cX12_triesOf 28 = .ok (.iadd, 1) := by decide +kernel
theorem dX12_triesOf_29 : decode cX12_triesOf 29 = .ok (.aload_n 0, 1) := by decide +kernel
theorem dX12_triesOf_30 : decode cX12_triesOf 30 = .ok (.getfield 7, 3) := by decide +kernel
theorem dX12_triesOf_33 : decode cX12_triesOf 33 = .ok (.sipush 160, 3) := by decide +kernel
theorem dX12_triesOf_36 : decode cX12_triesOf 36 = .ok (.bipush 16, 2) := by decide +kernel
theorem dX12_triesOf_38 : decode cX12_triesOf 38 = .ok (.iload_n 1, 1) := by decide +kernel
theorem dX12_triesOf_39 : decode cX12_triesOf 39 = .ok (.imul, 1) := by decide +kernel
theorem dX12_triesOf_40 : decode cX12_triesOf 40 = .ok (.iadd, 1) := by decide +kernel
theorem dX12_triesOf_41 : decode cX12_triesOf 41 = .ok (.iload 5, 2) := by decide +kernel
theorem dX12_triesOf_43 : decode cX12_triesOf 43 = .ok (.iadd, 1) := by decide +kernel
theorem dX12_triesOf_44 : decode cX12_triesOf 44 = .ok (.iaload, 1) := by decide +kernel
theorem dX12_triesOf_45 : decode cX12_triesOf 45 = .ok (.isub, 1) := by decide +kernel
theorem dX12_triesOf_46 : decode cX12_triesOf 46 = .ok (.istore_n 3, 1) := by decide +kernel
theorem dX12_triesOf_47 : decode cX12_triesOf 47 = .ok (.aload_n 0, 1) := by decide +kernel
theorem dX12_triesOf_48 : decode cX12_triesOf 48 = .ok (.iload_n 1, 1) := by decide +kernel
theorem dX12_triesOf_49 : decode cX12_triesOf 49 = .ok (.iload 5, 2) := by decide +kernel
theorem dX12_triesOf_51 : decode cX12_triesOf 51 = .ok (.invokevirtual 333, 3) := by decide +kernel
theorem dX12_triesOf_54 : decode cX12_triesOf 54 = .ok (.iinc 4 1, 3) := by decide +kernel
theorem dX12_triesOf_57 : decode cX12_triesOf 57 = .ok (.goto (-52), 3) := by decide +kernel
theorem dX12_triesOf_60 : decode cX12_triesOf 60 = .ok (.iconst 1, 1) := by decide +kernel
theorem dX12_triesOf_61 : decode cX12_triesOf 61 = .ok (.istore 4, 2) := by decide +kernel
theorem dX12_triesOf_63 : decode cX12_triesOf 63 = .ok (.iconst 0, 1) := by decide +kernel
theorem dX12_triesOf_64 : decode cX12_triesOf 64 = .ok (.istore 5, 2) := by decide +kernel
theorem dX12_triesOf_66 : decode cX12_triesOf 66 = .ok (.iload 5, 2) := by decide +kernel
theorem dX12_triesOf_68 : decode cX12_triesOf 68 = .ok (.aload_n 0, 1) := by decide +kernel
theorem dX12_triesOf_69 : decode cX12_triesOf 69 = .ok (.getfield 397, 3) := by decide +kernel
theorem dX12_triesOf_72 : decode cX12_triesOf 72 = .ok (.if_icmp .ge 36, 3) := by decide +kernel
theorem dX12_triesOf_75 : decode cX12_triesOf 75 = .ok (.iload 4, 2) := by decide +kernel
theorem dX12_triesOf_77 : decode cX12_triesOf 77 = .ok (.ifCond .eq 22, 3) := by decide +kernel
theorem dX12_triesOf_80 : decode cX12_triesOf 80 = .ok (.aload_n 0, 1) := by decide +kernel
theorem dX12_triesOf_81 : decode cX12_triesOf 81 = .ok (.iload_n 1, 1) := by decide +kernel
theorem dX12_triesOf_82 : decode cX12_triesOf 82 = .ok (.aload_n 0, 1) := by decide +kernel
theorem dX12_triesOf_83 : decode cX12_triesOf 83 = .ok (.getfield 92, 3) := by decide +kernel
theorem dX12_triesOf_86 : decode cX12_triesOf 86 = .ok (.iload 5, 2) := by decide +kernel
theorem dX12_triesOf_88 : decode cX12_triesOf 88 = .ok (.iaload, 1) := by decide +kernel
theorem dX12_triesOf_89 : decode cX12_triesOf 89 = .ok (.invokevirtual 127, 3) := by decide +kernel
theorem dX12_triesOf_92 : decode cX12_triesOf 92 = .ok (.ifCond .eq 7, 3) := by decide +kernel
theorem dX12_triesOf_95 : decode cX12_triesOf 95 = .ok (.iconst 1, 1) := by decide +kernel
theorem dX12_triesOf_96 : decode cX12_triesOf 96 = .ok (.goto 4, 3) := by decide +kernel
theorem dX12_triesOf_99 : decode cX12_triesOf 99 = .ok (.iconst 0, 1) := by decide +kernel
theorem dX12_triesOf_100 : decode cX12_triesOf 100 = .ok (.istore 4, 2) := by decide +kernel
theorem dX12_triesOf_102 : decode cX12_triesOf 102 = .ok (.iinc 5 1, 3) := by decide +kernel
theorem dX12_triesOf_105 : decode cX12_triesOf 105 = .ok (.goto (-39), 3) := by decide +kernel
theorem dX12_triesOf_108 : decode cX12_triesOf 108 = .ok (.aload_n 0, 1) := by decide +kernel
theorem dX12_triesOf_109 : decode cX12_triesOf 109 = .ok (.getfield 13, 3) := by decide +kernel
theorem dX12_triesOf_112 : decode cX12_triesOf 112 = .ok (.aload_n 0, 1) := by decide +kernel
theorem dX12_triesOf_113 : decode cX12_triesOf 113 = .ok (.getfield 7, 3) := by decide +kernel
theorem dX12_triesOf_116 : decode cX12_triesOf 116 = .ok (.invokestatic 272, 3) := by decide +kernel
theorem dX12_triesOf_119 : decode cX12_triesOf 119 = .ok (.iload 4, 2) := by decide +kernel
theorem dX12_triesOf_121 : decode cX12_triesOf 121 = .ok (.ifCond .eq 7, 3) := by decide +kernel
theorem dX12_triesOf_124 : decode cX12_triesOf 124 = .ok (.iload_n 3, 1) := by decide +kernel
theorem dX12_triesOf_125 : decode cX12_triesOf 125 = .ok (.goto 6, 3) := by decide +kernel
theorem dX12_triesOf_128 : decode cX12_triesOf 128 = .ok (.ldc_w 306, 3) := by decide +kernel
theorem dX12_triesOf_131 : decode cX12_triesOf 131 = .ok (.ireturn, 1) := by decide +kernel
theorem dX12_isInRow_0 : decode cX12_isInRow 0 = .ok (.iconst 0, 1) := by decide +kernel
theorem dX12_isInRow_1 : decode cX12_isInRow 1 = .ok (.istore_n 3, 1) := by decide +kernel
theorem dX12_isInRow_2 : decode cX12_isInRow 2 = .ok (.iload_n 3, 1) := by decide +kernel
theorem dX12_isInRow_3 : decode cX12_isInRow 3 = .ok (.iload_n 1, 1) := by decide +kernel
theorem dX12_isInRow_4 : decode cX12_isInRow 4 = .ok (.if_icmp .ge 21, 3) := by decide +kernel
theorem dX12_isInRow_7 : decode cX12_isInRow 7 = .ok (.aload_n 0, 1) := by decide +kernel
theorem dX12_isInRow_8 : decode cX12_isInRow 8 = .ok (.getfield 95, 3) := by decide +kernel
theorem dX12_isInRow_11 : decode cX12_isInRow 11 = .ok (.iload_n 3, 1) := by decide +kernel
theorem dX12_isInRow_12 : decode cX12_isInRow 12 = .ok (.iaload, 1) := by decide +kernel
theorem dX12_isInRow_13 : decode cX12_isInRow 13 = .ok (.iload_n 2, 1) := by decide +kernel
theorem dX12_isInRow_14 : decode cX12_isInRow 14 = .ok (.if_icmp .ne 5, 3) := by decide +kernel
theorem dX12_isInRow_17 : decode cX12_isInRow 17 = .ok (.iconst 1, 1) := by decide +kernel
theorem dX12_isInRow_18 : decode cX12_isInRow 18 = .ok (.ireturn, 1) := by decide +kernel
theorem dX12_isInRow_19 : decode cX12_isInRow 19 = .ok (.iinc 3 1, 3) := by decide +kernel
theorem dX12_isInRow_22 : decode cX12_isInRow 22 = .ok (.goto (-20), 3) := by decide +kernel
theorem dX12_isInRow_25 : decode cX12_isInRow 25 = .ok (.iconst 0, 1) := by decide +kernel
theorem dX12_isInRow_26 : decode cX12_isInRow 26 = .ok (.ireturn, 1) := by decide +kernel
theorem dX12_trains_0 : decode cX12_trains 0 = .ok (.aload_n 0, 1) := by decide +kernel
theorem dX12_trains_1 : decode cX12_trains 1 = .ok (.getfield 7, 3) := by decide +kernel
theorem dX12_trains_4 : decode cX12_trains 4 = .ok (.aload_n 0, 1) := by decide +kernel
theorem dX12_trains_5 : decode cX12_trains 5 = .ok (.getfield 13, 3) := by decide +kernel
theorem dX12_trains_8 : decode cX12_trains 8 = .ok (.invokestatic 272, 3) := by decide +kernel
theorem dX12_trains_11 : decode cX12_trains 11 = .ok (.aload_n 0, 1) := by decide +kernel
theorem dX12_trains_12 : decode cX12_trains 12 = .ok (.aload_n 0, 1) := by decide +kernel
theorem dX12_trains_13 : decode cX12_trains 13 = .ok (.iload_n 1, 1) := by decide +kernel
theorem dX12_trains_14 : decode cX12_trains 14 = .ok (.iconst 0, 1) := by decide +kernel
theorem dX12_trains_15 : decode cX12_trains 15 = .ok (.invokevirtual 400, 3) := by decide +kernel
theorem dX12_trains_18 : decode cX12_trains 18 = .ok (.putfield 403, 3) := by decide +kernel
theorem dX12_trains_21 : decode cX12_trains 21 = .ok (.aload_n 0, 1) := by decide +kernel
theorem dX12_trains_22 : decode cX12_trains 22 = .ok (.bipush (-2), 2) := by decide +kernel
theorem dX12_trains_24 : decode cX12_trains 24 = .ok (.putfield 406, 3) := by decide +kernel
theorem dX12_trains_27 : decode cX12_trains 27 = .ok (.iconst 1, 1) := by decide +kernel
theorem dX12_trains_28 : decode cX12_trains 28 = .ok (.istore_n 2, 1) := by decide +kernel
theorem dX12_trains_29 : decode cX12_trains 29 = .ok (.aload_n 0, 1) := by decide +kernel
theorem dX12_trains_30 : decode cX12_trains 30 = .ok (.getfield 95, 3) := by decide +kernel
theorem dX12_trains_33 : decode cX12_trains 33 = .ok (.iconst 0, 1) := by decide +kernel
theorem dX12_trains_34 : decode cX12_trains 34 = .ok (.iconst (-1), 1) := by decide +kernel
theorem dX12_trains_35 : decode cX12_trains 35 = .ok (.iastore, 1) := by decide +kernel
theorem dX12_trains_36 : decode cX12_trains 36 = .ok (.iload_n 2, 1) := by decide +kernel
theorem dX12_trains_37 : decode cX12_trains 37 = .ok (.ifCond .le 127, 3) := by decide +kernel
theorem dX12_trains_40 : decode cX12_trains 40 = .ok (.aload_n 0, 1) := by decide +kernel
theorem dX12_trains_41 : decode cX12_trains 41 = .ok (.getfield 95, 3) := by decide +kernel
theorem dX12_trains_44 : decode cX12_trains 44 = .ok (.iload_n 2, 1) := by decide +kernel
theorem dX12_trains_45 : decode cX12_trains 45 = .ok (.iconst 1, 1) := by decide +kernel
theorem dX12_trains_46 : decode cX12_trains 46 = .ok (.isub, 1) := by decide +kernel
theorem dX12_trains_47 : decode cX12_trains 47 = .ok (.iaload, 1) := by decide +kernel
theorem dX12_trains_48 : decode cX12_trains 48 = .ok (.iconst 1, 1) := by decide +kernel
theorem dX12_trains_49 : decode cX12_trains 49 = .ok (.iadd, 1) := by decide +kernel
theorem dX12_trains_50 : decode cX12_trains 50 = .ok (.istore_n 3, 1) := by decide +kernel
theorem dX12_trains_51 : decode cX12_trains 51 = .ok (.iload_n 3, 1) := by decide +kernel
theorem dX12_trains_52 : decode cX12_trains 52 = .ok (.aload_n 0, 1) := by decide +kernel
theorem dX12_trains_53 : decode cX12_trains 53 = .ok (.getfield 397, 3) := by decide +kernel
theorem dX12_trains_56 : decode cX12_trains 56 = .ok (.if_icmp .ge 21, 3) := by decide +kernel
theorem dX12_trains_59 : decode cX12_trains 59 = .ok (.aload_n 0, 1) := by decide +kernel
theorem dX12_trains_60 : decode cX12_trains 60 = .ok (.iload_n 2, 1) := by decide +kernel
theorem dX12_trains_61 : decode cX12_trains 61 = .ok (.iconst 1, 1) := by decide +kernel
theorem dX12_trains_62 : decode cX12_trains 62 = .ok (.isub, 1) := by decide +kernel
theorem dX12_trains_63 : decode cX12_trains 63 = .ok (.iload_n 3, 1) := by decide +kernel
theorem dX12_trains_64 : decode cX12_trains 64 = .ok (.invokevirtual 409, 3) := by decide +kernel
theorem dX12_trains_67 : decode cX12_trains 67 = .ok (.ifCond .eq 10, 3) := by decide +kernel
theorem dX12_trains_70 : decode cX12_trains 70 = .ok (.iload_n 3, 1) := by decide +kernel
theorem dX12_trains_71 : decode cX12_trains 71 = .ok (.iconst 1, 1) := by decide +kernel
theorem dX12_trains_72 : decode cX12_trains 72 = .ok (.iadd, 1) := by decide +kernel
theorem dX12_trains_73 : decode cX12_trains 73 = .ok (.istore_n 3, 1) := by decide +kernel
theorem dX12_trains_74 : decode cX12_trains 74 = .ok (.goto (-23), 3) := by decide +kernel
theorem dX12_trains_77 : decode cX12_trains 77 = .ok (.iload_n 3, 1) := by decide +kernel
theorem dX12_trains_78 : decode cX12_trains 78 = .ok (.aload_n 0, 1) := by decide +kernel
theorem dX12_trains_79 : decode cX12_trains 79 = .ok (.getfield 397, 3) := by decide +kernel
theorem dX12_trains_82 : decode cX12_trains 82 = .ok (.if_icmp .lt 10, 3) := by decide +kernel
theorem dX12_trains_85 : decode cX12_trains 85 = .ok (.iload_n 2, 1) := by decide +kernel
theorem dX12_trains_86 : decode cX12_trains 86 = .ok (.iconst 1, 1) := by decide +kernel
theorem dX12_trains_87 : decode cX12_trains 87 = .ok (.isub, 1) := by decide +kernel
theorem dX12_trains_88 : decode cX12_trains 88 = .ok (.istore_n 2, 1) := by decide +kernel
theorem dX12_trains_89 : decode cX12_trains 89 = .ok (.goto (-53), 3) := by decide +kernel
theorem dX12_trains_92 : decode cX12_trains 92 = .ok (.aload_n 0, 1) := by decide +kernel
theorem dX12_trains_93 : decode cX12_trains 93 = .ok (.getfield 95, 3) := by decide +kernel
theorem dX12_trains_96 : decode cX12_trains 96 = .ok (.iload_n 2, 1) := by decide +kernel
theorem dX12_trains_97 : decode cX12_trains 97 = .ok (.iconst 1, 1) := by decide +kernel
theorem dX12_trains_98 : decode cX12_trains 98 = .ok (.isub, 1) := by decide +kernel
theorem dX12_trains_99 : decode cX12_trains 99 = .ok (.iload_n 3, 1) := by decide +kernel
theorem dX12_trains_100 : decode cX12_trains 100 = .ok (.iastore, 1) := by decide +kernel
theorem dX12_trains_101 : decode cX12_trains 101 = .ok (.aload_n 0, 1) := by decide +kernel
theorem dX12_trains_102 : decode cX12_trains 102 = .ok (.iload_n 1, 1) := by decide +kernel
theorem dX12_trains_103 : decode cX12_trains 103 = .ok (.iload_n 2, 1) := by decide +kernel
theorem dX12_trains_104 : decode cX12_trains 104 = .ok (.invokevirtual 400, 3) := by decide +kernel
theorem dX12_trains_107 : decode cX12_trains 107 = .ok (.istore 4, 2) := by decide +kernel
theorem dX12_trains_109 : decode cX12_trains 109 = .ok (.iload 4, 2) := by decide +kernel
theorem dX12_trains_111 : decode cX12_trains 111 = .ok (.aload_n 0, 1) := by decide +kernel
theorem dX12_trains_112 : decode cX12_trains 112 = .ok (.getfield 403, 3) := by decide +kernel
theorem dX12_trains_115 : decode cX12_trains 115 = .ok (.if_icmp .ge 24, 3) := by decide +kernel
theorem dX12_trains_118 : decode cX12_trains 118 = .ok (.aload_n 0, 1) := by decide +kernel
theorem dX12_trains_119 : decode cX12_trains 119 = .ok (.iload 4, 2) := by decide +kernel
theorem dX12_trains_121 : decode cX12_trains 121 = .ok (.putfield 403, 3) := by decide +kernel
theorem dX12_trains_124 : decode cX12_trains 124 = .ok (.aload_n 0, 1) := by decide +kernel
theorem dX12_trains_125 : decode cX12_trains 125 = .ok (.aload_n 0, 1) := by decide +kernel
theorem dX12_trains_126 : decode cX12_trains 126 = .ok (.getfield 92, 3) := by decide +kernel
theorem dX12_trains_129 : decode cX12_trains 129 = .ok (.aload_n 0, 1) := by decide +kernel
theorem dX12_trains_130 : decode cX12_trains 130 = .ok (.getfield 95, 3) := by decide +kernel
theorem dX12_trains_133 : decode cX12_trains 133 = .ok (.iconst 0, 1) := by decide +kernel
theorem dX12_trains_134 : decode cX12_trains 134 = .ok (.iaload, 1) := by decide +kernel
theorem dX12_trains_135 : decode cX12_trains 135 = .ok (.iaload, 1) := by decide +kernel
theorem dX12_trains_136 : decode cX12_trains 136 = .ok (.putfield 406, 3) := by decide +kernel
theorem dX12_trains_139 : decode cX12_trains 139 = .ok (.iload_n 2, 1) := by decide +kernel
theorem dX12_trains_140 : decode cX12_trains 140 = .ok (.aload_n 0, 1) := by decide +kernel
theorem dX12_trains_141 : decode cX12_trains 141 = .ok (.getfield 397, 3) := by decide +kernel
theorem dX12_trains_144 : decode cX12_trains 144 = .ok (.if_icmp .ne 6, 3) := by decide +kernel
theorem dX12_trains_147 : decode cX12_trains 147 = .ok (.goto (-111), 3) := by decide +kernel
theorem dX12_trains_150 : decode cX12_trains 150 = .ok (.aload_n 0, 1) := by decide +kernel
theorem dX12_trains_151 : decode cX12_trains 151 = .ok (.getfield 95, 3) := by decide +kernel
theorem dX12_trains_154 : decode cX12_trains 154 = .ok (.iload_n 2, 1) := by decide +kernel
theorem dX12_trains_155 : decode cX12_trains 155 = .ok (.iconst (-1), 1) := by decide +kernel
theorem dX12_trains_156 : decode cX12_trains 156 = .ok (.iastore, 1) := by decide +kernel
theorem dX12_trains_157 : decode cX12_trains 157 = .ok (.iload_n 2, 1) := by decide +kernel
theorem dX12_trains_158 : decode cX12_trains 158 = .ok (.iconst 1, 1) := by decide +kernel
theorem dX12_trains_159 : decode cX12_trains 159 = .ok (.iadd, 1) := by decide +kernel
theorem dX12_trains_160 : decode cX12_trains 160 = .ok (.istore_n 2, 1) := by decide +kernel
theorem dX12_trains_161 : decode cX12_trains 161 = .ok (.goto (-125), 3) := by decide +kernel
theorem dX12_trains_164 : decode cX12_trains 164 = .ok (.return_, 1) := by decide +kernel
theorem dX12_training_0 : decode cX12_training 0 = .ok (.aload_n 0, 1) := by decide +kernel
theorem dX12_training_1 : decode cX12_training 1 = .ok (.iload_n 1, 1) := by decide +kernel
theorem dX12_training_2 : decode cX12_training 2 = .ok (.invokevirtual 109, 3) := by decide +kernel
theorem dX12_training_5 : decode cX12_training 5 = .ok (.ifCond .eq 30, 3) := by decide +kernel
theorem dX12_training_8 : decode cX12_training 8 = .ok (.iload_n 2, 1) := by decide +kernel
theorem dX12_training_9 : decode cX12_training 9 = .ok (.iconst 1, 1) := by decide +kernel
theorem dX12_training_10 : decode cX12_training 10 = .ok (.bipush 6, 2) := by decide +kernel
theorem dX12_training_12 : decode cX12_training 12 = .ok (.invokestatic 105, 3) := by decide +kernel
theorem dX12_training_15 : decode cX12_training 15 = .ok (.ifCond .eq 20, 3) := by decide +kernel
theorem dX12_training_18 : decode cX12_training 18 = .ok (.iload_n 3, 1) := by decide +kernel
theorem dX12_training_19 : decode cX12_training 19 = .ok (.iconst 0, 1) := by decide +kernel
theorem dX12_training_20 : decode cX12_training 20 = .ok (.iconst 1, 1) := by decide +kernel
theorem dX12_training_21 : decode cX12_training 21 = .ok (.invokestatic 105, 3) := by decide +kernel
theorem dX12_training_24 : decode cX12_training 24 = .ok (.ifCond .eq 11, 3) := by decide +kernel
theorem dX12_training_27 : decode cX12_training 27 = .ok (.iload_n 2, 1) := by decide +kernel
theorem dX12_training_28 : decode cX12_training 28 = .ok (.aload_n 0, 1) := by decide +kernel
theorem dX12_training_29 : decode cX12_training 29 = .ok (.getfield 143, 3) := by decide +kernel
theorem dX12_training_32 : decode cX12_training 32 = .ok (.if_icmp .le 5, 3) := by decide +kernel
theorem dX12_training_35 : decode cX12_training 35 = .ok (.iconst (-1), 1) := by decide +kernel
theorem dX12_training_36 : decode cX12_training 36 = .ok (.ireturn, 1) := by decide +kernel
theorem dX12_training_37 : decode cX12_training 37 = .ok (.aload_n 0, 1) := by decide +kernel
theorem dX12_training_38 : decode cX12_training 38 = .ok (.iconst 0, 1) := by decide +kernel
theorem dX12_training_39 : decode cX12_training 39 = .ok (.putfield 143, 3) := by decide +kernel
theorem dX12_training_42 : decode cX12_training 42 = .ok (.aload_n 0, 1) := by decide +kernel
theorem dX12_training_43 : decode cX12_training 43 = .ok (.iload_n 2, 1) := by decide +kernel
theorem dX12_training_44 : decode cX12_training 44 = .ok (.invokevirtual 412, 3) := by decide +kernel
theorem dX12_training_47 : decode cX12_training 47 = .ok (.ifCond .ne 6, 3) := by decide +kernel
theorem dX12_training_50 : decode cX12_training 50 = .ok (.bipush (-3), 2) := by decide +kernel
theorem dX12_training_52 : decode cX12_training 52 = .ok (.ireturn, 1) := by decide +kernel
theorem dX12_training_53 : decode cX12_training 53 = .ok (.aload_n 0, 1) := by decide +kernel
theorem dX12_training_54 : decode cX12_training 54 = .ok (.iload_n 2, 1) := by decide +kernel
theorem dX12_training_55 : decode cX12_training 55 = .ok (.invokevirtual 415, 3) := by decide +kernel
theorem dX12_training_58 : decode cX12_training 58 = .ok (.aload_n 0, 1) := by decide +kernel
theorem dX12_training_59 : decode cX12_training 59 = .ok (.iload_n 1, 1) := by decide +kernel
theorem dX12_training_60 : decode cX12_training 60 = .ok (.invokevirtual 418, 3) := by decide +kernel
theorem dX12_training_63 : decode cX12_training 63 = .ok (.aload_n 0, 1) := by decide +kernel
theorem dX12_training_64 : decode cX12_training 64 = .ok (.getfield 403, 3) := by decide +kernel
theorem dX12_training_67 : decode cX12_training 67 = .ok (.ldc_w 306, 3) := by decide +kernel
theorem dX12_training_70 : decode cX12_training 70 = .ok (.if_icmp .ne 6, 3) := by decide +kernel
theorem dX12_training_73 : decode cX12_training 73 = .ok (.bipush (-4), 2) := by decide +kernel
theorem dX12_training_75 : decode cX12_training 75 = .ok (.ireturn, 1) := by decide +kernel
theorem dX12_training_76 : decode cX12_training 76 = .ok (.iload_n 3, 1) := by decide +kernel
theorem dX12_training_77 : decode cX12_training 77 = .ok (.ifCond .ne 10, 3) := by decide +kernel
theorem dX12_training_80 : decode cX12_training 80 = .ok (.aload_n 0, 1) := by decide +kernel
theorem dX12_training_81 : decode cX12_training 81 = .ok (.getfield 403, 3) := by decide +kernel
theorem dX12_training_84 : decode cX12_training 84 = .ok (.goto 7, 3) := by decide +kernel
theorem dX12_training_87 : decode cX12_training 87 = .ok (.aload_n 0, 1) := by decide +kernel
theorem dX12_training_88 : decode cX12_training 88 = .ok (.getfield 406, 3) := by decide +kernel
theorem dX12_training_91 : decode cX12_training 91 = .ok (.ireturn, 1) := by decide +kernel
theorem dX12_borne_0 : decode cX12_borne 0 = .ok (.iload_n 1, 1) := by decide +kernel
theorem dX12_borne_1 : decode cX12_borne 1 = .ok (.iconst 0, 1) := by decide +kernel
theorem dX12_borne_2 : decode cX12_borne 2 = .ok (.iconst 2, 1) := by decide +kernel
theorem dX12_borne_3 : decode cX12_borne 3 = .ok (.invokestatic 105, 3) := by decide +kernel
theorem dX12_borne_6 : decode cX12_borne 6 = .ok (.ifCond .ne 5, 3) := by decide +kernel
theorem dX12_borne_9 : decode cX12_borne 9 = .ok (.iconst (-1), 1) := by decide +kernel
theorem dX12_borne_10 : decode cX12_borne 10 = .ok (.ireturn, 1) := by decide +kernel
theorem dX12_borne_11 : decode cX12_borne 11 = .ok (.ldc 136, 2) := by decide +kernel
theorem dX12_borne_13 : decode cX12_borne 13 = .ok (.istore_n 2, 1) := by decide +kernel
theorem dX12_borne_14 : decode cX12_borne 14 = .ok (.ldc 136, 2) := by decide +kernel
theorem dX12_borne_16 : decode cX12_borne 16 = .ok (.istore_n 3, 1) := by decide +kernel
theorem dX12_borne_17 : decode cX12_borne 17 = .ok (.iconst 0, 1) := by decide +kernel
theorem dX12_borne_18 : decode cX12_borne 18 = .ok (.istore 4, 2) := by decide +kernel
theorem dX12_borne_20 : decode cX12_borne 20 = .ok (.iconst 0, 1) := by decide +kernel
theorem dX12_borne_21 : decode cX12_borne 21 = .ok (.istore 5, 2) := by decide +kernel
theorem dX12_borne_23 : decode cX12_borne 23 = .ok (.iload 5, 2) := by decide +kernel
theorem dX12_borne_25 : decode cX12_borne 25 = .ok (.bipush 8, 2) := by decide +kernel
theorem dX12_borne_27 : decode cX12_borne 27 = .ok (.if_icmp .ge 41, 3) := by decide +kernel
theorem dX12_borne_30 : decode cX12_borne 30 = .ok (.aload_n 0, 1) := by decide +kernel
theorem dX12_borne_31 : decode cX12_borne 31 = .ok (.iload 5, 2) := by decide +kernel
theorem dX12_borne_33 : decode cX12_borne 33 = .ok (.invokevirtual 109, 3) := by decide +kernel
theorem dX12_borne_36 : decode cX12_borne 36 = .ok (.ifCond .ne 6, 3) := by decide +kernel
theorem dX12_borne_39 : decode cX12_borne 39 = .ok (.goto 23, 3) := by decide +kernel
theorem dX12_borne_42 : decode cX12_borne 42 = .ok (.iload_n 2, 1) := by decide +kernel
theorem dX12_borne_43 : decode cX12_borne 43 = .ok (.aload_n 0, 1) := by decide +kernel
theorem dX12_borne_44 : decode cX12_borne 44 = .ok (.iload 5, 2) := by decide +kernel
theorem dX12_borne_46 : decode cX12_borne 46 = .ok (.invokevirtual 348, 3) := by decide +kernel
theorem dX12_borne_49 : decode cX12_borne 49 = .ok (.iand, 1) := by decide +kernel
theorem dX12_borne_50 : decode cX12_borne 50 = .ok (.istore_n 2, 1) := by decide +kernel
theorem dX12_borne_51 : decode cX12_borne 51 = .ok (.iload_n 3, 1) := by decide +kernel
theorem dX12_borne_52 : decode cX12_borne 52 = .ok (.aload_n 0, 1) := by decide +kernel
theorem dX12_borne_53 : decode cX12_borne 53 = .ok (.iload 5, 2) := by decide +kernel
theorem dX12_borne_55 : decode cX12_borne 55 = .ok (.invokevirtual 348, 3) := by decide +kernel
theorem dX12_borne_58 : decode cX12_borne 58 = .ok (.iconst (-1), 1) := by decide +kernel
theorem dX12_borne_59 : decode cX12_borne 59 = .ok (.ixor, 1) := by decide +kernel
theorem dX12_borne_60 : decode cX12_borne 60 = .ok (.iand, 1) := by decide +kernel
theorem dX12_borne_61 : decode cX12_borne 61 = .ok (.istore_n 3, 1) := by decide +kernel
theorem dX12_borne_62 : decode cX12_borne 62 = .ok (.iinc 5 1, 3) := by decide +kernel
theorem dX12_borne_65 : decode cX12_borne 65 = .ok (.goto (-42), 3) := by decide +kernel
theorem dX12_borne_68 : decode cX12_borne 68 = .ok (.iconst 0, 1) := by decide +kernel
theorem dX12_borne_69 : decode cX12_borne 69 = .ok (.istore 5, 2) := by decide +kernel
theorem dX12_borne_71 : decode cX12_borne 71 = .ok (.iload 5, 2) := by decide +kernel
theorem dX12_borne_73 : decode cX12_borne 73 = .ok (.bipush 16, 2) := by decide +kernel
theorem dX12_borne_75 : decode cX12_borne 75 = .ok (.if_icmp .ge 27, 3) := by decide +kernel
theorem dX12_borne_78 : decode cX12_borne 78 = .ok (.aload_n 0, 1) := by decide +kernel
theorem dX12_borne_79 : decode cX12_borne 79 = .ok (.getfield 19, 3) := by decide +kernel
theorem dX12_borne_82 : decode cX12_borne 82 = .ok (.iload 5, 2) := by decide +kernel
theorem dX12_borne_84 : decode cX12_borne 84 = .ok (.iaload, 1) := by decide +kernel
theorem dX12_borne_85 : decode cX12_borne 85 = .ok (.iload 5, 2) := by decide +kernel
theorem dX12_borne_87 : decode cX12_borne 87 = .ok (.if_icmp .le 9, 3) := by decide +kernel
theorem dX12_borne_90 : decode cX12_borne 90 = .ok (.iload 4, 2) := by decide +kernel
theorem dX12_borne_92 : decode cX12_borne 92 = .ok (.iconst 1, 1) := by decide +kernel
theorem dX12_borne_93 : decode cX12_borne 93 = .ok (.iadd, 1) := by decide +kernel
theorem dX12_borne_94 : decode cX12_borne 94 = .ok (.istore 4, 2) := by decide +kernel
theorem dX12_borne_96 : decode cX12_borne 96 = .ok (.iinc 5 1, 3) := by decide +kernel
theorem dX12_borne_99 : decode cX12_borne 99 = .ok (.goto (-28), 3) := by decide +kernel
theorem dX12_borne_102 : decode cX12_borne 102 = .ok (.iload_n 1, 1) := by decide +kernel
theorem dX12_borne_103 : decode cX12_borne 103 = .ok (.ifCond .ne 7, 3) := by decide +kernel
theorem dX12_borne_106 : decode cX12_borne 106 = .ok (.iload_n 2, 1) := by decide +kernel
theorem dX12_borne_107 : decode cX12_borne 107 = .ok (.goto 14, 3) := by decide +kernel
theorem dX12_borne_110 : decode cX12_borne 110 = .ok (.iload_n 1, 1) := by decide +kernel
theorem dX12_borne_111 : decode cX12_borne 111 = .ok (.iconst 1, 1) := by decide +kernel
theorem dX12_borne_112 : decode cX12_borne 112 = .ok (.if_icmp .ne 7, 3) := by decide +kernel
theorem dX12_borne_115 : decode cX12_borne 115 = .ok (.iload_n 3, 1) := by decide +kernel
theorem dX12_borne_116 : decode cX12_borne 116 = .ok (.goto 5, 3) := by decide +kernel
theorem dX12_borne_119 : decode cX12_borne 119 = .ok (.iload 4, 2) := by decide +kernel
theorem dX12_borne_121 : decode cX12_borne 121 = .ok (.ireturn, 1) := by decide +kernel
theorem dX12_one_0 : decode cX12_one 0 = .ok (.aload_n 0, 1) := by decide +kernel
theorem dX12_one_1 : decode cX12_one 1 = .ok (.iconst 2, 1) := by decide +kernel
theorem dX12_one_2 : decode cX12_one 2 = .ok (.iload_n 1, 1) := by decide +kernel
theorem dX12_one_3 : decode cX12_one 3 = .ok (.iload_n 2, 1) := by decide +kernel
theorem dX12_one_4 : decode cX12_one 4 = .ok (.imul, 1) := by decide +kernel
theorem dX12_one_5 : decode cX12_one 5 = .ok (.iload_n 3, 1) := by decide +kernel
theorem dX12_one_6 : decode cX12_one 6 = .ok (.iadd, 1) := by decide +kernel
theorem dX12_one_7 : decode cX12_one 7 = .ok (.imul, 1) := by decide +kernel
theorem dX12_one_8 : decode cX12_one 8 = .ok (.invokevirtual 378, 3) := by decide +kernel
theorem dX12_one_11 : decode cX12_one 11 = .ok (.ireturn, 1) := by decide +kernel
theorem dX12_other_0 : decode cX12_other 0 = .ok (.aload_n 0, 1) := by decide +kernel
theorem dX12_other_1 : decode cX12_other 1 = .ok (.iconst 2, 1) := by decide +kernel
theorem dX12_other_2 : decode cX12_other 2 = .ok (.iload_n 1, 1) := by decide +kernel
theorem dX12_other_3 : decode cX12_other 3 = .ok (.iload_n 2, 1) := by decide +kernel
theorem dX12_other_4 : decode cX12_other 4 = .ok (.imul, 1) := by decide +kernel
theorem dX12_other_5 : decode cX12_other 5 = .ok (.iload_n 3, 1) := by decide +kernel
theorem dX12_other_6 : decode cX12_other 6 = .ok (.iadd, 1) := by decide +kernel
theorem dX12_other_7 : decode cX12_other 7 = .ok (.imul, 1) := by decide +kernel
theorem dX12_other_8 : decode cX12_other 8 = .ok (.iconst 1, 1) := by decide +kernel
theorem dX12_other_9 : decode cX12_other 9 = .ok (.iadd, 1) := by decide +kernel
theorem dX12_other_10 : decode cX12_other 10 = .ok (.invokevirtual 378, 3) := by decide +kernel
theorem dX12_other_13 : decode cX12_other 13 = .ok (.ireturn, 1) := by decide +kernel
theorem dX12_rests_0 : decode cX12_rests 0 = .ok (.iconst 0, 1) := by decide +kernel
theorem dX12_rests_1 : decode cX12_rests 1 = .ok (.istore 5, 2) := by decide +kernel
theorem dX12_rests_3 : decode cX12_rests 3 = .ok (.iload 5, 2) := by decide +kernel
theorem dX12_rests_5 : decode cX12_rests 5 = .ok (.iload_n 1, 1) := by decide +kernel
theorem dX12_rests_6 : decode cX12_rests 6 = .ok (.if_icmp .ge 31, 3) := by decide +kernel
theorem dX12_rests_9 : decode cX12_rests 9 = .ok (.aload_n 0, 1) := by decide +kernel
theorem dX12_rests_10 : decode cX12_rests 10 = .ok (.iload_n 2, 1) := by decide +kernel
theorem dX12_rests_11 : decode cX12_rests 11 = .ok (.iload 5, 2) := by decide +kernel
theorem dX12_rests_13 : decode cX12_rests 13 = .ok (.iload 4, 2) := by decide +kernel
theorem dX12_rests_15 : decode cX12_rests 15 = .ok (.invokevirtual 421, 3) := by decide +kernel
theorem dX12_rests_18 : decode cX12_rests 18 = .ok (.aload_n 0, 1) := by decide +kernel
theorem dX12_rests_19 : decode cX12_rests 19 = .ok (.iload_n 2, 1) := by decide +kernel
theorem dX12_rests_20 : decode cX12_rests 20 = .ok (.iload_n 3, 1) := by decide +kernel
theorem dX12_rests_21 : decode cX12_rests 21 = .ok (.iload 4, 2) := by decide +kernel
theorem dX12_rests_23 : decode cX12_rests 23 = .ok (.invokevirtual 421, 3) := by decide +kernel
theorem dX12_rests_26 : decode cX12_rests 26 = .ok (.if_icmp .le 5, 3) := by decide +kernel
theorem dX12_rests_29 : decode cX12_rests 29 = .ok (.iconst 0, 1) := by decide +kernel
theorem dX12_rests_30 : decode cX12_rests 30 = .ok (.ireturn, 1) := by decide +kernel
theorem dX12_rests_31 : decode cX12_rests 31 = .ok (.iinc 5 1, 3) := by decide +kernel
theorem dX12_rests_34 : decode cX12_rests 34 = .ok (.goto (-31), 3) := by decide +kernel
theorem dX12_rests_37 : decode cX12_rests 37 = .ok (.iconst 0, 1) := by decide +kernel
theorem dX12_rests_38 : decode cX12_rests 38 = .ok (.istore 5, 2) := by decide +kernel
theorem dX12_rests_40 : decode cX12_rests 40 = .ok (.iload 5, 2) := by decide +kernel
theorem dX12_rests_42 : decode cX12_rests 42 = .ok (.iload_n 2, 1) := by decide +kernel
theorem dX12_rests_43 : decode cX12_rests 43 = .ok (.if_icmp .ge 30, 3) := by decide +kernel
theorem dX12_rests_46 : decode cX12_rests 46 = .ok (.aload_n 0, 1) := by decide +kernel
theorem dX12_rests_47 : decode cX12_rests 47 = .ok (.iload_n 2, 1) := by decide +kernel
theorem dX12_rests_48 : decode cX12_rests 48 = .ok (.iload_n 3, 1) := by decide +kernel
theorem dX12_rests_49 : decode cX12_rests 49 = .ok (.iload 5, 2) := by decide +kernel
theorem dX12_rests_51 : decode cX12_rests 51 = .ok (.invokevirtual 424, 3) := by decide +kernel
theorem dX12_rests_54 : decode cX12_rests 54 = .ok (.aload_n 0, 1) := by decide +kernel
theorem dX12_rests_55 : decode cX12_rests 55 = .ok (.iload_n 2, 1) := by decide +kernel
theorem dX12_rests_56 : decode cX12_rests 56 = .ok (.iload_n 3, 1) := by decide +kernel
theorem dX12_rests_57 : decode cX12_rests 57 = .ok (.iload 4, 2) := by decide +kernel
theorem dX12_rests_59 : decode cX12_rests 59 = .ok (.invokevirtual 424, 3) := by decide +kernel
theorem dX12_rests_62 : decode cX12_rests 62 = .ok (.if_icmp .le 5, 3) := by decide +kernel
theorem dX12_rests_65 : decode cX12_rests 65 = .ok (.iconst 0, 1) := by decide +kernel
theorem dX12_rests_66 : decode cX12_rests 66 = .ok (.ireturn, 1) := by decide +kernel
theorem dX12_rests_67 : decode cX12_rests 67 = .ok (.iinc 5 1, 3) := by decide +kernel
theorem dX12_rests_70 : decode cX12_rests 70 = .ok (.goto (-30), 3) := by decide +kernel
theorem dX12_rests_73 : decode cX12_rests 73 = .ok (.iconst 1, 1) := by decide +kernel
theorem dX12_rests_74 : decode cX12_rests 74 = .ok (.ireturn, 1) := by decide +kernel
theorem dX12_isBargain_0 : decode cX12_isBargain 0 = .ok (.iconst 0, 1) := by decide +kernel
theorem dX12_isBargain_1 : decode cX12_isBargain 1 = .ok (.istore 5, 2) := by decide +kernel
theorem dX12_isBargain_3 : decode cX12_isBargain 3 = .ok (.iload 5, 2) := by decide +kernel
theorem dX12_isBargain_5 : decode cX12_isBargain 5 = .ok (.iload_n 1, 1) := by decide +kernel
theorem dX12_isBargain_6 : decode cX12_isBargain 6 = .ok (.iload_n 2, 1) := by decide +kernel
theorem dX12_isBargain_7 : decode cX12_isBargain 7 = .ok (.imul, 1) := by decide +kernel
theorem dX12_isBargain_8 : decode cX12_isBargain 8 = .ok (.if_icmp .ge 77, 3) := by decide +kernel
theorem dX12_isBargain_11 : decode cX12_isBargain 11 = .ok (.aload_n 0, 1) := by decide +kernel
theorem dX12_isBargain_12 : decode cX12_isBargain 12 = .ok (.iload_n 2, 1) := by decide +kernel
theorem dX12_isBargain_13 : decode cX12_isBargain 13 = .ok (.iload 5, 2) := by decide +kernel
theorem dX12_isBargain_15 : decode cX12_isBargain 15 = .ok (.iload_n 2, 1) := by decide +kernel
theorem dX12_isBargain_16 : decode cX12_isBargain 16 = .ok (.idiv, 1) := by decide +kernel
theorem dX12_isBargain_17 : decode cX12_isBargain 17 = .ok (.iload 5, 2) := by decide +kernel
theorem dX12_isBargain_19 : decode cX12_isBargain 19 = .ok (.iload_n 2, 1) := by decide +kernel
theorem dX12_isBargain_20 : decode cX12_isBargain 20 = .ok (.irem, 1) := by decide +kernel
theorem dX12_isBargain_21 : decode cX12_isBargain 21 = .ok (.invokevirtual 421, 3) := by decide +kernel
theorem dX12_isBargain_24 : decode cX12_isBargain 24 = .ok (.aload_n 0, 1) := by decide +kernel
theorem dX12_isBargain_25 : decode cX12_isBargain 25 = .ok (.iload_n 2, 1) := by decide +kernel
theorem dX12_isBargain_26 : decode cX12_isBargain 26 = .ok (.iload_n 3, 1) := by decide +kernel
theorem dX12_isBargain_27 : decode cX12_isBargain 27 = .ok (.iload 4, 2) := by decide +kernel
theorem dX12_isBargain_29 : decode cX12_isBargain 29 = .ok (.invokevirtual 421, 3) := by decide +kernel
theorem dX12_isBargain_32 : decode cX12_isBargain 32 = .ok (.isub, 1) := by decide +kernel
theorem dX12_isBargain_33 : decode cX12_isBargain 33 = .ok (.istore 6, 2) := by decide +kernel
theorem dX12_isBargain_35 : decode cX12_isBargain 35 = .ok (.aload_n 0, 1) := by decide +kernel
theorem dX12_isBargain_36 : decode cX12_isBargain 36 = .ok (.iload_n 2, 1) := by decide +kernel
theorem dX12_isBargain_37 : decode cX12_isBargain 37 = .ok (.iload 5, 2) := by decide +kernel
theorem dX12_isBargain_39 : decode cX12_isBargain 39 = .ok (.iload_n 2, 1) := by decide +kernel
theorem dX12_isBargain_40 : decode cX12_isBargain 40 = .ok (.idiv, 1) := by decide +kernel
theorem dX12_isBargain_41 : decode cX12_isBargain 41 = .ok (.iload 5, 2) := by decide +kernel
theorem dX12_isBargain_43 : decode cX12_isBargain 43 = .ok (.iload_n 2, 1) := by decide +kernel
theorem dX12_isBargain_44 : decode cX12_isBargain 44 = .ok (.irem, 1) := by decide +kernel
theorem dX12_isBargain_45 : decode cX12_isBargain 45 = .ok (.invokevirtual 424, 3) := by decide +kernel
theorem dX12_isBargain_48 : decode cX12_isBargain 48 = .ok (.aload_n 0, 1) := by decide +kernel
theorem dX12_isBargain_49 : decode cX12_isBargain 49 = .ok (.iload_n 2, 1) := by decide +kernel
theorem dX12_isBargain_50 : decode cX12_isBargain 50 = .ok (.iload_n 3, 1) := by decide +kernel
theorem dX12_isBargain_51 : decode cX12_isBargain 51 = .ok (.iload 4, 2) := by decide +kernel
theorem dX12_isBargain_53 : decode cX12_isBargain 53 = .ok (.invokevirtual 424, 3) := by decide +kernel
theorem dX12_isBargain_56 : decode cX12_isBargain 56 = .ok (.isub, 1) := by decide +kernel
theorem dX12_isBargain_57 : decode cX12_isBargain 57 = .ok (.istore 7, 2) := by decide +kernel
theorem dX12_isBargain_59 : decode cX12_isBargain 59 = .ok (.iload 6, 2) := by decide +kernel
theorem dX12_isBargain_61 : decode cX12_isBargain 61 = .ok (.ifCond .lt 18, 3) := by decide +kernel
theorem dX12_isBargain_64 : decode cX12_isBargain 64 = .ok (.iload 7, 2) := by decide +kernel
theorem dX12_isBargain_66 : decode cX12_isBargain 66 = .ok (.ifCond .lt 13, 3) := by decide +kernel
theorem dX12_isBargain_69 : decode cX12_isBargain 69 = .ok (.iload 6, 2) := by decide +kernel
theorem dX12_isBargain_71 : decode cX12_isBargain 71 = .ok (.iload 7, 2) := by decide +kernel
theorem dX12_isBargain_73 : decode cX12_isBargain 73 = .ok (.iadd, 1) := by decide +kernel
theorem dX12_isBargain_74 : decode cX12_isBargain 74 = .ok (.ifCond .le 5, 3) := by decide +kernel
theorem dX12_isBargain_77 : decode cX12_isBargain 77 = .ok (.iconst 0, 1) := by decide +kernel
theorem dX12_isBargain_78 : decode cX12_isBargain 78 = .ok (.ireturn, 1) := by decide +kernel
theorem dX12_isBargain_79 : decode cX12_isBargain 79 = .ok (.iinc 5 1, 3) := by decide +kernel
theorem dX12_isBargain_82 : decode cX12_isBargain 82 = .ok (.goto (-79), 3) := by decide +kernel
theorem dX12_isBargain_85 : decode cX12_isBargain 85 = .ok (.iconst 1, 1) := by decide +kernel
theorem dX12_isBargain_86 : decode cX12_isBargain 86 = .ok (.ireturn, 1) := by decide +kernel
theorem dX12_treaty_0 : decode cX12_treaty 0 = .ok (.iload_n 1, 1) := by decide +kernel
theorem dX12_treaty_1 : decode cX12_treaty 1 = .ok (.iconst 1, 1) := by decide +kernel
theorem dX12_treaty_2 : decode cX12_treaty 2 = .ok (.bipush 6, 2) := by decide +kernel
theorem dX12_treaty_4 : decode cX12_treaty 4 = .ok (.invokestatic 105, 3) := by decide +kernel
theorem dX12_treaty_7 : decode cX12_treaty 7 = .ok (.ifCond .eq 34, 3) := by decide +kernel
theorem dX12_treaty_10 : decode cX12_treaty 10 = .ok (.iload_n 2, 1) := by decide +kernel
theorem dX12_treaty_11 : decode cX12_treaty 11 = .ok (.iconst 1, 1) := by decide +kernel
theorem dX12_treaty_12 : decode cX12_treaty 12 = .ok (.bipush 6, 2) := by decide +kernel
theorem dX12_treaty_14 : decode cX12_treaty 14 = .ok (.invokestatic 105, 3) := by decide +kernel
theorem dX12_treaty_17 : decode cX12_treaty 17 = .ok (.ifCond .eq 24, 3) := by decide +kernel
theorem dX12_treaty_20 : decode cX12_treaty 20 = .ok (.iload_n 3, 1) := by decide +kernel
theorem dX12_treaty_21 : decode cX12_treaty 21 = .ok (.iconst 0, 1) := by decide +kernel
theorem dX12_treaty_22 : decode cX12_treaty 22 = .ok (.iconst 2, 1) := by decide +kernel
theorem dX12_treaty_23 : decode cX12_treaty 23 = .ok (.invokestatic 105, 3) := by decide +kernel
theorem dX12_treaty_26 : decode cX12_treaty 26 = .ok (.ifCond .eq 15, 3) := by decide +kernel
theorem dX12_treaty_29 : decode cX12_treaty 29 = .ok (.iconst 2, 1) := by decide +kernel
theorem dX12_treaty_30 : decode cX12_treaty 30 = .ok (.iload_n 1, 1) := by decide +kernel
theorem dX12_treaty_31 : decode cX12_treaty 31 = .ok (.imul, 1) := by decide +kernel
theorem dX12_treaty_32 : decode cX12_treaty 32 = .ok (.iload_n 2, 1) := by decide +kernel
theorem dX12_treaty_33 : decode cX12_treaty 33 = .ok (.imul, 1) := by decide +kernel
theorem dX12_treaty_34 : decode cX12_treaty 34 = .ok (.aload_n 0, 1) := by decide +kernel
theorem dX12_treaty_35 : decode cX12_treaty 35 = .ok (.getfield 143, 3) := by decide +kernel
theorem dX12_treaty_38 : decode cX12_treaty 38 = .ok (.if_icmp .le 5, 3) := by decide +kernel
theorem dX12_treaty_41 : decode cX12_treaty 41 = .ok (.iconst (-1), 1) := by decide +kernel
theorem dX12_treaty_42 : decode cX12_treaty 42 = .ok (.ireturn, 1) := by decide +kernel
theorem dX12_treaty_43 : decode cX12_treaty 43 = .ok (.aload_n 0, 1) := by decide +kernel
theorem dX12_treaty_44 : decode cX12_treaty 44 = .ok (.iconst 0, 1) := by decide +kernel
theorem dX12_treaty_45 : decode cX12_treaty 45 = .ok (.putfield 143, 3) := by decide +kernel
theorem dX12_treaty_48 : decode cX12_treaty 48 = .ok (.iconst 0, 1) := by decide +kernel
theorem dX12_treaty_49 : decode cX12_treaty 49 = .ok (.istore 4, 2) := by decide +kernel
theorem dX12_treaty_51 : decode cX12_treaty 51 = .ok (.bipush (-2), 2) := by decide +kernel
theorem dX12_treaty_53 : decode cX12_treaty 53 = .ok (.istore 5, 2) := by decide +kernel
theorem dX12_treaty_55 : decode cX12_treaty 55 = .ok (.iconst 0, 1) := by decide +kernel
theorem dX12_treaty_56 : decode cX12_treaty 56 = .ok (.istore 6, 2) := by decide +kernel
theorem dX12_treaty_58 : decode cX12_treaty 58 = .ok (.iload_n 1, 1) := by decide +kernel
theorem dX12_treaty_59 : decode cX12_treaty 59 = .ok (.iload_n 2, 1) := by decide +kernel
theorem dX12_treaty_60 : decode cX12_treaty 60 = .ok (.imul, 1) := by decide +kernel
theorem dX12_treaty_61 : decode cX12_treaty 61 = .ok (.iconst 1, 1) := by decide +kernel
theorem dX12_treaty_62 : decode cX12_treaty 62 = .ok (.isub, 1) := by decide +kernel
theorem dX12_treaty_63 : decode cX12_treaty 63 = .ok (.istore 7, 2) := by decide +kernel
theorem dX12_treaty_65 : decode cX12_treaty 65 = .ok (.iload 7, 2) := by decide +kernel
theorem dX12_treaty_67 : decode cX12_treaty 67 = .ok (.ifCond .lt 72, 3) := by decide +kernel
theorem dX12_treaty_70 : decode cX12_treaty 70 = .ok (.aload_n 0, 1) := by decide +kernel
theorem dX12_treaty_71 : decode cX12_treaty 71 = .ok (.iload_n 1, 1) := by decide +kernel
theorem dX12_treaty_72 : decode cX12_treaty 72 = .ok (.iload_n 2, 1) := by decide +kernel
theorem dX12_treaty_73 : decode cX12_treaty 73 = .ok (.iload 7, 2) := by decide +kernel
theorem dX12_treaty_75 : decode cX12_treaty 75 = .ok (.iload_n 2, 1) := by decide +kernel
theorem dX12_treaty_76 : decode cX12_treaty 76 = .ok (.idiv, 1) := by decide +kernel
theorem dX12_treaty_77 : decode cX12_treaty 77 = .ok (.iload 7, 2) := by decide +kernel
theorem dX12_treaty_79 : decode cX12_treaty 79 = .ok (.iload_n 2, 1) := by decide +kernel
theorem dX12_treaty_80 : decode cX12_treaty 80 = .ok (.irem, 1) := by decide +kernel
theorem dX12_treaty_81 : decode cX12_treaty 81 = .ok (.invokevirtual 427, 3) := by decide +kernel
theorem dX12_treaty_84 : decode cX12_treaty 84 = .ok (.ifCond .eq 9, 3) := by decide +kernel
theorem dX12_treaty_87 : decode cX12_treaty 87 = .ok (.iload 6, 2) := by decide +kernel
theorem dX12_treaty_89 : decode cX12_treaty 89 = .ok (.iconst 1, 1) := by decide +kernel
theorem dX12_treaty_90 : decode cX12_treaty 90 = .ok (.iadd, 1) := by decide +kernel
theorem dX12_treaty_91 : decode cX12_treaty 91 = .ok (.istore 6, 2) := by decide +kernel
theorem dX12_treaty_93 : decode cX12_treaty 93 = .ok (.aload_n 0, 1) := by decide +kernel
theorem dX12_treaty_94 : decode cX12_treaty 94 = .ok (.iload_n 1, 1) := by decide +kernel
theorem dX12_treaty_95 : decode cX12_treaty 95 = .ok (.iload_n 2, 1) := by decide +kernel
theorem dX12_treaty_96 : decode cX12_treaty 96 = .ok (.iload 7, 2) := by decide +kernel
theorem dX12_treaty_98 : decode cX12_treaty 98 = .ok (.iload_n 2, 1) := by decide +kernel
theorem dX12_treaty_99 : decode cX12_treaty 99 = .ok (.idiv, 1) := by decide +kernel
theorem dX12_treaty_100 : decode cX12_treaty 100 = .ok (.iload 7, 2) := by decide +kernel
theorem dX12_treaty_102 : decode cX12_treaty 102 = .ok (.iload_n 2, 1) := by decide +kernel
theorem dX12_treaty_103 : decode cX12_treaty 103 = .ok (.irem, 1) := by decide +kernel
theorem dX12_treaty_104 : decode cX12_treaty 104 = .ok (.invokevirtual 431, 3) := by decide +kernel
theorem dX12_treaty_107 : decode cX12_treaty 107 = .ok (.ifCond .ne 6, 3) := by decide +kernel
theorem dX12_treaty_110 : decode cX12_treaty 110 = .ok (.goto 23, 3) := by decide +kernel
theorem dX12_treaty_113 : decode cX12_treaty 113 = .ok (.iload 4, 2) := by decide +kernel
theorem dX12_treaty_115 : decode cX12_treaty 115 = .ok (.iconst 1, 1) := by decide +kernel
theorem dX12_treaty_116 : decode cX12_treaty 116 = .ok (.iadd, 1) := by decide +kernel
theorem dX12_treaty_117 : decode cX12_treaty 117 = .ok (.istore 4, 2) := by decide +kernel
theorem dX12_treaty_119 : decode cX12_treaty 119 = .ok (.iload 7, 2) := by decide +kernel
theorem dX12_treaty_121 : decode cX12_treaty 121 = .ok (.iload_n 2, 1) := by decide +kernel
theorem dX12_treaty_122 : decode cX12_treaty 122 = .ok (.idiv, 1) := by decide +kernel
theorem dX12_treaty_123 : decode cX12_treaty 123 = .ok (.bipush 6, 2) := by decide +kernel
theorem dX12_treaty_125 : decode cX12_treaty 125 = .ok (.imul, 1) := by decide +kernel
theorem dX12_treaty_126 : decode cX12_treaty 126 = .ok (.iload 7, 2) := by decide +kernel
theorem dX12_treaty_128 : decode cX12_treaty 128 = .ok (.iload_n 2, 1) := by decide +kernel
theorem dX12_treaty_129 : decode cX12_treaty 129 = .ok (.irem, 1) := by decide +kernel
theorem dX12_treaty_130 : decode cX12_treaty 130 = .ok (.iadd, 1) := by decide +kernel
theorem dX12_treaty_131 : decode cX12_treaty 131 = .ok (.istore 5, 2) := by decide +kernel
theorem dX12_treaty_133 : decode cX12_treaty 133 = .ok (.iinc 7 (-1), 3) := by decide +kernel
theorem dX12_treaty_136 : decode cX12_treaty 136 = .ok (.goto (-71), 3) := by decide +kernel
theorem dX12_treaty_139 : decode cX12_treaty 139 = .ok (.iload_n 3, 1) := by decide +kernel
theorem dX12_treaty_140 : decode cX12_treaty 140 = .ok (.ifCond .ne 8, 3) := by decide +kernel
theorem dX12_treaty_143 : decode cX12_treaty 143 = .ok (.iload 4, 2) := by decide +kernel
theorem dX12_treaty_145 : decode cX12_treaty 145 = .ok (.goto 15, 3) := by decide +kernel
theorem dX12_treaty_148 : decode cX12_treaty 148 = .ok (.iload_n 3, 1) := by decide +kernel
theorem dX12_treaty_149 : decode cX12_treaty 149 = .ok (.iconst 1, 1) := by decide +kernel
theorem dX12_treaty_150 : decode cX12_treaty 150 = .ok (.if_icmp .ne 8, 3) := by decide +kernel
theorem dX12_treaty_153 : decode cX12_treaty 153 = .ok (.iload 5, 2) := by decide +kernel
theorem dX12_treaty_155 : decode cX12_treaty 155 = .ok (.goto 5, 3) := by decide +kernel
theorem dX12_treaty_158 : decode cX12_treaty 158 = .ok (.iload 6, 2) := by decide +kernel
theorem dX12_treaty_160 : decode cX12_treaty 160 = .ok (.ireturn, 1) := by decide +kernel
theorem dX12_gcd_0 : decode cX12_gcd 0 = .ok (.iload_n 0, 1) := by decide +kernel
theorem dX12_gcd_1 : decode cX12_gcd 1 = .ok (.istore_n 2, 1) := by decide +kernel
theorem dX12_gcd_2 : decode cX12_gcd 2 = .ok (.iload_n 1, 1) := by decide +kernel
theorem dX12_gcd_3 : decode cX12_gcd 3 = .ok (.istore_n 3, 1) := by decide +kernel
theorem dX12_gcd_4 : decode cX12_gcd 4 = .ok (.iload_n 3, 1) := by decide +kernel
theorem dX12_gcd_5 : decode cX12_gcd 5 = .ok (.ifCond .eq 16, 3) := by decide +kernel
theorem dX12_gcd_8 : decode cX12_gcd 8 = .ok (.iload_n 2, 1) := by decide +kernel
theorem dX12_gcd_9 : decode cX12_gcd 9 = .ok (.iload_n 3, 1) := by decide +kernel
theorem dX12_gcd_10 : decode cX12_gcd 10 = .ok (.irem, 1) := by decide +kernel
theorem dX12_gcd_11 : decode cX12_gcd 11 = .ok (.istore 4, 2) := by decide +kernel
theorem dX12_gcd_13 : decode cX12_gcd 13 = .ok (.iload_n 3, 1) := by decide +kernel
theorem dX12_gcd_14 : decode cX12_gcd 14 = .ok (.istore_n 2, 1) := by decide +kernel
theorem dX12_gcd_15 : decode cX12_gcd 15 = .ok (.iload 4, 2) := by decide +kernel
theorem dX12_gcd_17 : decode cX12_gcd 17 = .ok (.istore_n 3, 1) := by decide +kernel
theorem dX12_gcd_18 : decode cX12_gcd 18 = .ok (.goto (-14), 3) := by decide +kernel
theorem dX12_gcd_21 : decode cX12_gcd 21 = .ok (.iload_n 2, 1) := by decide +kernel
theorem dX12_gcd_22 : decode cX12_gcd 22 = .ok (.ireturn, 1) := by decide +kernel
theorem dX12_forgery_0 : decode cX12_forgery 0 = .ok (.iload_n 1, 1) := by decide +kernel
theorem dX12_forgery_1 : decode cX12_forgery 1 = .ok (.iconst 1, 1) := by decide +kernel
theorem dX12_forgery_2 : decode cX12_forgery 2 = .ok (.bipush 9, 2) := by decide +kernel
theorem dX12_forgery_4 : decode cX12_forgery 4 = .ok (.invokestatic 105, 3) := by decide +kernel
theorem dX12_forgery_7 : decode cX12_forgery 7 = .ok (.ifCond .eq 20, 3) := by decide +kernel
theorem dX12_forgery_10 : decode cX12_forgery 10 = .ok (.iload_n 2, 1) := by decide +kernel
theorem dX12_forgery_11 : decode cX12_forgery 11 = .ok (.iconst 0, 1) := by decide +kernel
theorem dX12_forgery_12 : decode cX12_forgery 12 = .ok (.iconst 3, 1) := by decide +kernel
theorem dX12_forgery_13 : decode cX12_forgery 13 = .ok (.invokestatic 105, 3) := by decide +kernel
theorem dX12_forgery_16 : decode cX12_forgery 16 = .ok (.ifCond .eq 11, 3) := by decide +kernel
theorem dX12_forgery_19 : decode cX12_forgery 19 = .ok (.iload_n 1, 1) := by decide +kernel
theorem dX12_forgery_20 : decode cX12_forgery 20 = .ok (.aload_n 0, 1) := by decide +kernel
theorem dX12_forgery_21 : decode cX12_forgery 21 = .ok (.getfield 143, 3) := by decide +kernel
theorem dX12_forgery_24 : decode cX12_forgery 24 = .ok (.if_icmp .le 5, 3) := by decide +kernel
theorem dX12_forgery_27 : decode cX12_forgery 27 = .ok (.iconst (-1), 1) := by decide +kernel
theorem dX12_forgery_28 : decode cX12_forgery 28 = .ok (.ireturn, 1) := by decide +kernel
theorem dX12_forgery_29 : decode cX12_forgery 29 = .ok (.aload_n 0, 1) := by decide +kernel
theorem dX12_forgery_30 : decode cX12_forgery 30 = .ok (.iconst 0, 1) := by decide +kernel
theorem dX12_forgery_31 : decode cX12_forgery 31 = .ok (.putfield 143, 3) := by decide +kernel
theorem dX12_forgery_34 : decode cX12_forgery 34 = .ok (.iconst 1, 1) := by decide +kernel
theorem dX12_forgery_35 : decode cX12_forgery 35 = .ok (.istore_n 3, 1) := by decide +kernel
theorem dX12_forgery_36 : decode cX12_forgery 36 = .ok (.iconst 1, 1) := by decide +kernel
theorem dX12_forgery_37 : decode cX12_forgery 37 = .ok (.istore 4, 2) := by decide +kernel
theorem dX12_forgery_39 : decode cX12_forgery 39 = .ok (.iconst 1, 1) := by decide +kernel
theorem dX12_forgery_40 : decode cX12_forgery 40 = .ok (.istore 5, 2) := by decide +kernel
theorem dX12_forgery_42 : decode cX12_forgery 42 = .ok (.iconst 0, 1) := by decide +kernel
theorem dX12_forgery_43 : decode cX12_forgery 43 = .ok (.istore 6, 2) := by decide +kernel
theorem dX12_forgery_45 : decode cX12_forgery 45 = .ok (.iload 6, 2) := by decide +kernel
theorem dX12_forgery_47 : decode cX12_forgery 47 = .ok (.iload_n 1, 1) := by decide +kernel
theorem dX12_forgery_48 : decode cX12_forgery 48 = .ok (.if_icmp .ge 53, 3) := by decide +kernel
theorem dX12_forgery_51 : decode cX12_forgery 51 = .ok (.aload_n 0, 1) := by decide +kernel
theorem dX12_forgery_52 : decode cX12_forgery 52 = .ok (.iload 6, 2) := by decide +kernel
theorem dX12_forgery_54 : decode cX12_forgery 54 = .ok (.invokevirtual 378, 3) := by decide +kernel
theorem dX12_forgery_57 : decode cX12_forgery 57 = .ok (.bipush 10, 2) := by decide +kernel
theorem dX12_forgery_59 : decode cX12_forgery 59 = .ok (.if_icmp .le 6, 3) := by decide +kernel
theorem dX12_forgery_62 : decode cX12_forgery 62 = .ok (.bipush (-3), 2) := by decide +kernel
theorem dX12_forgery_64 : decode cX12_forgery 64 = .ok (.ireturn, 1) := by decide +kernel
theorem dX12_forgery_65 : decode cX12_forgery 65 = .ok (.iload_n 3, 1) := by decide +kernel
theorem dX12_forgery_66 : decode cX12_forgery 66 = .ok (.bipush 10, 2) := by decide +kernel
theorem dX12_forgery_68 : decode cX12_forgery 68 = .ok (.imul, 1) := by decide +kernel
theorem dX12_forgery_69 : decode cX12_forgery 69 = .ok (.istore_n 3, 1) := by decide +kernel
theorem dX12_forgery_70 : decode cX12_forgery 70 = .ok (.iload 4, 2) := by decide +kernel
theorem dX12_forgery_72 : decode cX12_forgery 72 = .ok (.aload_n 0, 1) := by decide +kernel
theorem dX12_forgery_73 : decode cX12_forgery 73 = .ok (.iload 6, 2) := by decide +kernel
theorem dX12_forgery_75 : decode cX12_forgery 75 = .ok (.invokevirtual 378, 3) := by decide +kernel
theorem dX12_forgery_78 : decode cX12_forgery 78 = .ok (.imul, 1) := by decide +kernel
theorem dX12_forgery_79 : decode cX12_forgery 79 = .ok (.istore 4, 2) := by decide +kernel
theorem dX12_forgery_81 : decode cX12_forgery 81 = .ok (.iload 5, 2) := by decide +kernel
theorem dX12_forgery_83 : decode cX12_forgery 83 = .ok (.bipush 10, 2) := by decide +kernel
theorem dX12_forgery_85 : decode cX12_forgery 85 = .ok (.aload_n 0, 1) := by decide +kernel
theorem dX12_forgery_86 : decode cX12_forgery 86 = .ok (.iload 6, 2) := by decide +kernel
theorem dX12_forgery_88 : decode cX12_forgery 88 = .ok (.invokevirtual 378, 3) := by decide +kernel
theorem dX12_forgery_91 : decode cX12_forgery 91 = .ok (.isub, 1) := by decide +kernel
theorem dX12_forgery_92 : decode cX12_forgery 92 = .ok (.imul, 1) := by decide +kernel
theorem dX12_forgery_93 : decode cX12_forgery 93 = .ok (.istore 5, 2) := by decide +kernel
theorem dX12_forgery_95 : decode cX12_forgery 95 = .ok (.iinc 6 1, 3) := by decide +kernel
theorem dX12_forgery_98 : decode cX12_forgery 98 = .ok (.goto (-53), 3) := by decide +kernel
theorem dX12_forgery_101 : decode cX12_forgery 101 = .ok (.iload_n 2, 1) := by decide +kernel
theorem dX12_forgery_102 : decode cX12_forgery 102 = .ok (.iconst 2, 1) := by decide +kernel
theorem dX12_forgery_103 : decode cX12_forgery 103 = .ok (.if_icmp .ge 8, 3) := by decide +kernel
theorem dX12_forgery_106 : decode cX12_forgery 106 = .ok (.iload 4, 2) := by decide +kernel
theorem dX12_forgery_108 : decode cX12_forgery 108 = .ok (.goto 7, 3) := by decide +kernel
theorem dX12_forgery_111 : decode cX12_forgery 111 = .ok (.iload_n 3, 1) := by decide +kernel
theorem dX12_forgery_112 : decode cX12_forgery 112 = .ok (.iload 5, 2) := by decide +kernel
theorem dX12_forgery_114 : decode cX12_forgery 114 = .ok (.isub, 1) := by decide +kernel
theorem dX12_forgery_115 : decode cX12_forgery 115 = .ok (.istore 6, 2) := by decide +kernel
theorem dX12_forgery_117 : decode cX12_forgery 117 = .ok (.iload_n 3, 1) := by decide +kernel
theorem dX12_forgery_118 : decode cX12_forgery 118 = .ok (.iload 6, 2) := by decide +kernel
theorem dX12_forgery_120 : decode cX12_forgery 120 = .ok (.invokestatic 434, 3) := by decide +kernel
theorem dX12_forgery_123 : decode cX12_forgery 123 = .ok (.istore 7, 2) := by decide +kernel
theorem dX12_forgery_125 : decode cX12_forgery 125 = .ok (.iload_n 2, 1) := by decide +kernel
theorem dX12_forgery_126 : decode cX12_forgery 126 = .ok (.iconst 2, 1) := by decide +kernel
theorem dX12_forgery_127 : decode cX12_forgery 127 = .ok (.irem, 1) := by decide +kernel
theorem dX12_forgery_128 : decode cX12_forgery 128 = .ok (.ifCond .ne 11, 3) := by decide +kernel
theorem dX12_forgery_131 : decode cX12_forgery 131 = .ok (.iload 6, 2) := by decide +kernel
theorem dX12_forgery_133 : decode cX12_forgery 133 = .ok (.iload 7, 2) := by decide +kernel
theorem dX12_forgery_135 : decode cX12_forgery 135 = .ok (.idiv, 1) := by decide +kernel
theorem dX12_forgery_136 : decode cX12_forgery 136 = .ok (.goto 7, 3) := by decide +kernel
theorem dX12_forgery_139 : decode cX12_forgery 139 = .ok (.iload_n 3, 1) := by decide +kernel
theorem dX12_forgery_140 : decode cX12_forgery 140 = .ok (.iload 7, 2) := by decide +kernel
theorem dX12_forgery_142 : decode cX12_forgery 142 = .ok (.idiv, 1) := by decide +kernel
theorem dX12_forgery_143 : decode cX12_forgery 143 = .ok (.ireturn, 1) := by decide +kernel
theorem dX12_areEachOnce_0 : decode cX12_areEachOnce 0 = .ok (.iconst 0, 1) := by decide +kernel
theorem dX12_areEachOnce_1 : decode cX12_areEachOnce 1 = .ok (.istore_n 2, 1) := by decide +kernel
theorem dX12_areEachOnce_2 : decode cX12_areEachOnce 2 = .ok (.iconst 0, 1) := by decide +kernel
theorem dX12_areEachOnce_3 : decode cX12_areEachOnce 3 = .ok (.istore_n 3, 1) := by decide +kernel
theorem dX12_areEachOnce_4 : decode cX12_areEachOnce 4 = .ok (.iload_n 3, 1) := by decide +kernel
theorem dX12_areEachOnce_5 : decode cX12_areEachOnce 5 = .ok (.iload_n 1, 1) := by decide +kernel
theorem dX12_areEachOnce_6 : decode cX12_areEachOnce 6 = .ok (.if_icmp .ge 42, 3) := by decide +kernel
theorem dX12_areEachOnce_9 : decode cX12_areEachOnce 9 = .ok (.aload_n 0, 1) := by decide +kernel
theorem dX12_areEachOnce_10 : decode cX12_areEachOnce 10 = .ok (.iload_n 3, 1) := by decide +kernel
theorem dX12_areEachOnce_11 : decode cX12_areEachOnce 11 = .ok (.invokevirtual 378, 3) := by decide +kernel
theorem dX12_areEachOnce_14 : decode cX12_areEachOnce 14 = .ok (.iload_n 1, 1) := by decide +kernel
theorem dX12_areEachOnce_15 : decode cX12_areEachOnce 15 = .ok (.if_icmp .ge 15, 3) := by decide +kernel
theorem dX12_areEachOnce_18 : decode cX12_areEachOnce 18 = .ok (.iload_n 2, 1) := by decide +kernel
theorem dX12_areEachOnce_19 : decode cX12_areEachOnce 19 = .ok (.aload_n 0, 1) := by decide +kernel
theorem dX12_areEachOnce_20 : decode cX12_areEachOnce 20 = .ok (.iload_n 3, 1) := by decide +kernel
theorem dX12_areEachOnce_21 : decode cX12_areEachOnce 21 = .ok (.invokevirtual 378, 3) := by decide +kernel
theorem dX12_areEachOnce_24 : decode cX12_areEachOnce 24 = .ok (.invokestatic 381, 3) := by decide +kernel
theorem dX12_areEachOnce_27 : decode cX12_areEachOnce 27 = .ok (.ifCond .eq 5, 3) := by decide +kernel
theorem dX12_areEachOnce_30 : decode cX12_areEachOnce 30 = .ok (.iconst 0, 1) := by decide +kernel
theorem dX12_areEachOnce_31 : decode cX12_areEachOnce 31 = .ok (.ireturn, 1) := by decide +kernel
theorem dX12_areEachOnce_32 : decode cX12_areEachOnce 32 = .ok (.iload_n 2, 1) := by decide +kernel
theorem dX12_areEachOnce_33 : decode cX12_areEachOnce 33 = .ok (.iconst 1, 1) := by decide +kernel
theorem dX12_areEachOnce_34 : decode cX12_areEachOnce 34 = .ok (.aload_n 0, 1) := by decide +kernel
theorem dX12_areEachOnce_35 : decode cX12_areEachOnce 35 = .ok (.iload_n 3, 1) := by decide +kernel
theorem dX12_areEachOnce_36 : decode cX12_areEachOnce 36 = .ok (.invokevirtual 378, 3) := by decide +kernel
theorem dX12_areEachOnce_39 : decode cX12_areEachOnce 39 = .ok (.ishl, 1) := by decide +kernel
theorem dX12_areEachOnce_40 : decode cX12_areEachOnce 40 = .ok (.ior, 1) := by decide +kernel
theorem dX12_areEachOnce_41 : decode cX12_areEachOnce 41 = .ok (.istore_n 2, 1) := by decide +kernel
theorem dX12_areEachOnce_42 : decode cX12_areEachOnce 42 = .ok (.iinc 3 1, 3) := by decide +kernel
theorem dX12_areEachOnce_45 : decode cX12_areEachOnce 45 = .ok (.goto (-41), 3) := by decide +kernel
theorem dX12_areEachOnce_48 : decode cX12_areEachOnce 48 = .ok (.iconst 1, 1) := by decide +kernel
theorem dX12_areEachOnce_49 : decode cX12_areEachOnce 49 = .ok (.ireturn, 1) := by decide +kernel
theorem dX12_rings_0 : decode cX12_rings 0 = .ok (.iload_n 1, 1) := by decide +kernel
theorem dX12_rings_1 : decode cX12_rings 1 = .ok (.iconst 1, 1) := by decide +kernel
theorem dX12_rings_2 : decode cX12_rings 2 = .ok (.bipush 12, 2) := by decide +kernel
theorem dX12_rings_4 : decode cX12_rings 4 = .ok (.invokestatic 105, 3) := by decide +kernel
theorem dX12_rings_7 : decode cX12_rings 7 = .ok (.ifCond .eq 20, 3) := by decide +kernel
theorem dX12_rings_10 : decode cX12_rings 10 = .ok (.iload_n 2, 1) := by decide +kernel
theorem dX12_rings_11 : decode cX12_rings 11 = .ok (.iconst 0, 1) := by decide +kernel
theorem dX12_rings_12 : decode cX12_rings 12 = .ok (.iconst 1, 1) := by decide +kernel
theorem dX12_rings_13 : decode cX12_rings 13 = .ok (.invokestatic 105, 3) := by decide +kernel
theorem dX12_rings_16 : decode cX12_rings 16 = .ok (.ifCond .eq 11, 3) := by decide +kernel
theorem dX12_rings_19 : decode cX12_rings 19 = .ok (.iload_n 1, 1) := by decide +kernel
theorem dX12_rings_20 : decode cX12_rings 20 = .ok (.aload_n 0, 1) := by decide +kernel
theorem dX12_rings_21 : decode cX12_rings 21 = .ok (.getfield 143, 3) := by decide +kernel
theorem dX12_rings_24 : decode cX12_rings 24 = .ok (.if_icmp .le 5, 3) := by decide +kernel
theorem dX12_rings_27 : decode cX12_rings 27 = .ok (.iconst (-1), 1) := by decide +kernel
theorem dX12_rings_28 : decode cX12_rings 28 = .ok (.ireturn, 1) := by decide +kernel
theorem dX12_rings_29 : decode cX12_rings 29 = .ok (.aload_n 0, 1) := by decide +kernel
theorem dX12_rings_30 : decode cX12_rings 30 = .ok (.iconst 0, 1) := by decide +kernel
theorem dX12_rings_31 : decode cX12_rings 31 = .ok (.putfield 143, 3) := by decide +kernel
theorem dX12_rings_34 : decode cX12_rings 34 = .ok (.aload_n 0, 1) := by decide +kernel
theorem dX12_rings_35 : decode cX12_rings 35 = .ok (.iload_n 1, 1) := by decide +kernel
theorem dX12_rings_36 : decode cX12_rings 36 = .ok (.invokevirtual 437, 3) := by decide +kernel
theorem dX12_rings_39 : decode cX12_rings 39 = .ok (.ifCond .ne 6, 3) := by decide +kernel
theorem dX12_rings_42 : decode cX12_rings 42 = .ok (.bipush (-3), 2) := by decide +kernel
theorem dX12_rings_44 : decode cX12_rings 44 = .ok (.ireturn, 1) := by decide +kernel
theorem dX12_rings_45 : decode cX12_rings 45 = .ok (.iconst 0, 1) := by decide +kernel
theorem dX12_rings_46 : decode cX12_rings 46 = .ok (.istore_n 3, 1) := by decide +kernel
theorem dX12_rings_47 : decode cX12_rings 47 = .ok (.iconst 0, 1) := by decide +kernel
theorem dX12_rings_48 : decode cX12_rings 48 = .ok (.istore 4, 2) := by decide +kernel
theorem dX12_rings_50 : decode cX12_rings 50 = .ok (.iconst 1, 1) := by decide +kernel
theorem dX12_rings_51 : decode cX12_rings 51 = .ok (.istore 5, 2) := by decide +kernel
theorem dX12_rings_53 : decode cX12_rings 53 = .ok (.iconst 0, 1) := by decide +kernel
theorem dX12_rings_54 : decode cX12_rings 54 = .ok (.istore 6, 2) := by decide +kernel
theorem dX12_rings_56 : decode cX12_rings 56 = .ok (.iload 6, 2) := by decide +kernel
theorem dX12_rings_58 : decode cX12_rings 58 = .ok (.iload_n 1, 1) := by decide +kernel
theorem dX12_rings_59 : decode cX12_rings 59 = .ok (.if_icmp .ge 82, 3) := by decide +kernel
theorem dX12_rings_62 : decode cX12_rings 62 = .ok (.iload_n 3, 1) := by decide +kernel
theorem dX12_rings_63 : decode cX12_rings 63 = .ok (.iload 6, 2) := by decide +kernel
theorem dX12_rings_65 : decode cX12_rings 65 = .ok (.invokestatic 381, 3) := by decide +kernel
theorem dX12_rings_68 : decode cX12_rings 68 = .ok (.ifCond .eq 6, 3) := by decide +kernel
theorem dX12_rings_71 : decode cX12_rings 71 = .ok (.goto 64, 3) := by decide +kernel
theorem dX12_rings_74 : decode cX12_rings 74 = .ok (.iconst 0, 1) := by decide +kernel
theorem dX12_rings_75 : decode cX12_rings 75 = .ok (.istore 7, 2) := by decide +kernel
theorem dX12_rings_77 : decode cX12_rings 77 = .ok (.iload 6, 2) := by decide +kernel
theorem dX12_rings_79 : decode cX12_rings 79 = .ok (.istore 8, 2) := by decide +kernel
theorem dX12_rings_81 : decode cX12_rings 81 = .ok (.iload_n 3, 1) := by decide +kernel
theorem dX12_rings_82 : decode cX12_rings 82 = .ok (.iload 8, 2) := by decide +kernel
theorem dX12_rings_84 : decode cX12_rings 84 = .ok (.invokestatic 381, 3) := by decide +kernel
theorem dX12_rings_87 : decode cX12_rings 87 = .ok (.ifCond .ne 27, 3) := by decide +kernel
theorem dX12_rings_90 : decode cX12_rings 90 = .ok (.iload_n 3, 1) := by decide +kernel
theorem dX12_rings_91 : decode cX12_rings 91 = .ok (.iconst 1, 1) := by decide +kernel
theorem dX12_rings_92 : decode cX12_rings 92 = .ok (.iload 8, 2) := by decide +kernel
theorem dX12_rings_94 : decode cX12_rings 94 = .ok (.ishl, 1) := by decide +kernel
theorem dX12_rings_95 : decode cX12_rings 95 = .ok (.ior, 1) := by decide +kernel
theorem dX12_rings_96 : decode cX12_rings 96 = .ok (.istore_n 3, 1) := by decide +kernel
theorem dX12_rings_97 : decode cX12_rings 97 = .ok (.iload 7, 2) := by decide +kernel
theorem dX12_rings_99 : decode cX12_rings 99 = .ok (.iconst 1, 1) := by decide +kernel
theorem dX12_rings_100 : decode cX12_rings 100 = .ok (.iadd, 1) := by decide +kernel
theorem dX12_rings_101 : decode cX12_rings 101 = .ok (.istore 7, 2) := by decide +kernel
theorem dX12_rings_103 : decode cX12_rings 103 = .ok (.aload_n 0, 1) := by decide +kernel
theorem dX12_rings_104 : decode cX12_rings 104 = .ok (.iload 8, 2) := by decide +kernel
theorem dX12_rings_106 : decode cX12_rings 106 = .ok (.invokevirtual 378, 3) := by decide +kernel
theorem dX12_rings_109 : decode cX12_rings 109 = .ok (.istore 8, 2) := by decide +kernel
theorem dX12_rings_111 : decode cX12_rings 111 = .ok (.goto (-30), 3) := by decide +kernel
theorem dX12_rings_114 : decode cX12_rings 114 = .ok (.iload 4, 2) := by decide +kernel
theorem dX12_rings_116 : decode cX12_rings 116 = .ok (.iconst 1, 1) := by decide +kernel
theorem dX12_rings_117 : decode cX12_rings 117 = .ok (.iadd, 1) := by decide +kernel
theorem dX12_rings_118 : decode cX12_rings 118 = .ok (.istore 4, 2) := by decide +kernel
theorem dX12_rings_120 : decode cX12_rings 120 = .ok (.iload 5, 2) := by decide +kernel
theorem dX12_rings_122 : decode cX12_rings 122 = .ok (.iload 5, 2) := by decide +kernel
theorem dX12_rings_124 : decode cX12_rings 124 = .ok (.iload 7, 2) := by decide +kernel
theorem dX12_rings_126 : decode cX12_rings 126 = .ok (.invokestatic 434, 3) := by decide +kernel
theorem dX12_rings_129 : decode cX12_rings 129 = .ok (.idiv, 1) := by decide +kernel
theorem dX12_rings_130 : decode cX12_rings 130 = .ok (.iload 7, 2) := by decide +kernel
theorem dX12_rings_132 : decode cX12_rings 132 = .ok (.imul, 1) := by decide +kernel
theorem dX12_rings_133 : decode cX12_rings 133 = .ok (.istore 5, 2) := by decide +kernel
theorem dX12_rings_135 : decode cX12_rings 135 = .ok (.iinc 6 1, 3) := by decide +kernel
theorem dX12_rings_138 : decode cX12_rings 138 = .ok (.goto (-82), 3) := by decide +kernel
theorem dX12_rings_141 : decode cX12_rings 141 = .ok (.iload_n 2, 1) := by decide +kernel
theorem dX12_rings_142 : decode cX12_rings 142 = .ok (.ifCond .ne 8, 3) := by decide +kernel
theorem dX12_rings_145 : decode cX12_rings 145 = .ok (.iload 4, 2) := by decide +kernel
theorem dX12_rings_147 : decode cX12_rings 147 = .ok (.goto 5, 3) := by decide +kernel
theorem dX12_rings_150 : decode cX12_rings 150 = .ok (.iload 5, 2) := by decide +kernel
theorem dX12_rings_152 : decode cX12_rings 152 = .ok (.ireturn, 1) := by decide +kernel
theorem dX12_seed_0 : decode cX12_seed 0 = .ok (.iload_n 1, 1) := by decide +kernel
theorem dX12_seed_1 : decode cX12_seed 1 = .ok (.iconst 0, 1) := by decide +kernel
theorem dX12_seed_2 : decode cX12_seed 2 = .ok (.ldc 136, 2) := by decide +kernel
theorem dX12_seed_4 : decode cX12_seed 4 = .ok (.invokestatic 105, 3) := by decide +kernel
theorem dX12_seed_7 : decode cX12_seed 7 = .ok (.ifCond .ne 5, 3) := by decide +kernel
theorem dX12_seed_10 : decode cX12_seed 10 = .ok (.iconst 0, 1) := by decide +kernel
theorem dX12_seed_11 : decode cX12_seed 11 = .ok (.ireturn, 1) := by decide +kernel
theorem dX12_seed_12 : decode cX12_seed 12 = .ok (.aload_n 0, 1) := by decide +kernel
theorem dX12_seed_13 : decode cX12_seed 13 = .ok (.getfield 7, 3) := by decide +kernel
theorem dX12_seed_16 : decode cX12_seed 16 = .ok (.sipush 292, 3) := by decide +kernel
theorem dX12_seed_19 : decode cX12_seed 19 = .ok (.iload_n 1, 1) := by decide +kernel
theorem dX12_seed_20 : decode cX12_seed 20 = .ok (.iastore, 1) := by decide +kernel
theorem dX12_seed_21 : decode cX12_seed 21 = .ok (.iconst 1, 1) := by decide +kernel
theorem dX12_seed_22 : decode cX12_seed 22 = .ok (.ireturn, 1) := by decide +kernel
theorem dX12_keep_0 : decode cX12_keep 0 = .ok (.aload_n 0, 1) := by decide +kernel
theorem dX12_keep_1 : decode cX12_keep 1 = .ok (.iconst 1, 1) := by decide +kernel
theorem dX12_keep_2 : decode cX12_keep 2 = .ok (.putfield 440, 3) := by decide +kernel
theorem dX12_keep_5 : decode cX12_keep 5 = .ok (.aload_n 0, 1) := by decide +kernel
theorem dX12_keep_6 : decode cX12_keep 6 = .ok (.getfield 7, 3) := by decide +kernel
theorem dX12_keep_9 : decode cX12_keep 9 = .ok (.aload_n 0, 1) := by decide +kernel
theorem dX12_keep_10 : decode cX12_keep 10 = .ok (.getfield 16, 3) := by decide +kernel
theorem dX12_keep_13 : decode cX12_keep 13 = .ok (.invokestatic 272, 3) := by decide +kernel
theorem dX12_keep_16 : decode cX12_keep 16 = .ok (.aload_n 0, 1) := by decide +kernel
theorem dX12_keep_17 : decode cX12_keep 17 = .ok (.getfield 7, 3) := by decide +kernel
theorem dX12_keep_20 : decode cX12_keep 20 = .ok (.sipush 291, 3) := by decide +kernel
theorem dX12_keep_23 : decode cX12_keep 23 = .ok (.iaload, 1) := by decide +kernel
theorem dX12_keep_24 : decode cX12_keep 24 = .ok (.ireturn, 1) := by decide +kernel
theorem dX12_undo_0 : decode cX12_undo 0 = .ok (.aload_n 0, 1) := by decide +kernel
theorem dX12_undo_1 : decode cX12_undo 1 = .ok (.getfield 440, 3) := by decide +kernel
theorem dX12_undo_4 : decode cX12_undo 4 = .ok (.ifCond .ne 5, 3) := by decide +kernel
theorem dX12_undo_7 : decode cX12_undo 7 = .ok (.iconst 0, 1) := by decide +kernel
theorem dX12_undo_8 : decode cX12_undo 8 = .ok (.ireturn, 1) := by decide +kernel
theorem dX12_undo_9 : decode cX12_undo 9 = .ok (.aload_n 0, 1) := by decide +kernel
theorem dX12_undo_10 : decode cX12_undo 10 = .ok (.getfield 16, 3) := by decide +kernel
theorem dX12_undo_13 : decode cX12_undo 13 = .ok (.aload_n 0, 1) := by decide +kernel
theorem dX12_undo_14 : decode cX12_undo 14 = .ok (.getfield 7, 3) := by decide +kernel
theorem dX12_undo_17 : decode cX12_undo 17 = .ok (.invokestatic 272, 3) := by decide +kernel
theorem dX12_undo_20 : decode cX12_undo 20 = .ok (.iconst 1, 1) := by decide +kernel
theorem dX12_undo_21 : decode cX12_undo 21 = .ok (.ireturn, 1) := by decide +kernel
theorem dX12_check_0 : decode cX12_check 0 = .ok (.iload_n 1, 1) := by decide +kernel
theorem dX12_check_1 : decode cX12_check 1 = .ok (.iconst 0, 1) := by decide +kernel
theorem dX12_check_2 : decode cX12_check 2 = .ok (.bipush 8, 2) := by decide +kernel
theorem dX12_check_4 : decode cX12_check 4 = .ok (.invokestatic 105, 3) := by decide +kernel
theorem dX12_check_7 : decode cX12_check 7 = .ok (.ifCond .eq 11, 3) := by decide +kernel
theorem dX12_check_10 : decode cX12_check 10 = .ok (.iload_n 1, 1) := by decide +kernel
theorem dX12_check_11 : decode cX12_check 11 = .ok (.aload_n 0, 1) := by decide +kernel
theorem dX12_check_12 : decode cX12_check 12 = .ok (.getfield 143, 3) := by decide +kernel
theorem dX12_check_15 : decode cX12_check 15 = .ok (.if_icmp .le 6, 3) := by decide +kernel
theorem dX12_check_18 : decode cX12_check 18 = .ok (.bipush (-2), 2) := by decide +kernel
theorem dX12_check_20 : decode cX12_check 20 = .ok (.ireturn, 1) := by decide +kernel
theorem dX12_check_21 : decode cX12_check 21 = .ok (.aload_n 0, 1) := by decide +kernel
theorem dX12_check_22 : decode cX12_check 22 = .ok (.iconst 0, 1) := by decide +kernel
theorem dX12_check_23 : decode cX12_check 23 = .ok (.putfield 143, 3) := by decide +kernel
theorem dX12_check_26 : decode cX12_check 26 = .ok (.iconst 0, 1) := by decide +kernel
theorem dX12_check_27 : decode cX12_check 27 = .ok (.istore_n 2, 1) := by decide +kernel
theorem dX12_check_28 : decode cX12_check 28 = .ok (.iload_n 2, 1) := by decide +kernel
theorem dX12_check_29 : decode cX12_check 29 = .ok (.iload_n 1, 1) := by decide +kernel
theorem dX12_check_30 : decode cX12_check 30 = .ok (.if_icmp .ge 42, 3) := by decide +kernel
theorem dX12_check_33 : decode cX12_check 33 = .ok (.aload_n 0, 1) := by decide +kernel
theorem dX12_check_34 : decode cX12_check 34 = .ok (.iload_n 2, 1) := by decide +kernel
theorem dX12_check_35 : decode cX12_check 35 = .ok (.invokevirtual 378, 3) := by decide +kernel
theorem dX12_check_38 : decode cX12_check 38 = .ok (.aload_n 0, 1) := by decide +kernel
theorem dX12_check_39 : decode cX12_check 39 = .ok (.iload_n 2, 1) := by decide +kernel
theorem dX12_check_40 : decode cX12_check 40 = .ok (.invokevirtual 109, 3) := by decide +kernel
theorem dX12_check_43 : decode cX12_check 43 = .ok (.ifCond .eq 15, 3) := by decide +kernel
theorem dX12_check_46 : decode cX12_check 46 = .ok (.aload_n 0, 1) := by decide +kernel
theorem dX12_check_47 : decode cX12_check 47 = .ok (.getfield 7, 3) := by decide +kernel
theorem dX12_check_50 : decode cX12_check 50 = .ok (.bipush 16, 2) := by decide +kernel
theorem dX12_check_52 : decode cX12_check 52 = .ok (.iload_n 2, 1) := by decide +kernel
theorem dX12_check_53 : decode cX12_check 53 = .ok (.iadd, 1) := by decide +kernel
theorem dX12_check_54 : decode cX12_check 54 = .ok (.iaload, 1) := by decide +kernel
theorem dX12_check_55 : decode cX12_check 55 = .ok (.goto 6, 3) := by decide +kernel
theorem dX12_check_58 : decode cX12_check 58 = .ok (.sipush 255, 3) := by decide +kernel
theorem dX12_check_61 : decode cX12_check 61 = .ok (.if_icmp .eq 5, 3) := by decide +kernel
theorem dX12_check_64 : decode cX12_check 64 = .ok (.iload_n 2, 1) := by decide +kernel
theorem dX12_check_65 : decode cX12_check 65 = .ok (.ireturn, 1) := by decide +kernel
theorem dX12_check_66 : decode cX12_check 66 = .ok (.iinc 2 1, 3) := by decide +kernel
theorem dX12_check_69 : decode cX12_check 69 = .ok (.goto (-41), 3) := by decide +kernel
theorem dX12_check_72 : decode cX12_check 72 = .ok (.iconst (-1), 1) := by decide +kernel
theorem dX12_check_73 : decode cX12_check 73 = .ok (.ireturn, 1) := by decide +kernel
theorem dX12_count_0 : decode cX12_count 0 = .ok (.iload_n 1, 1) := by decide +kernel
theorem dX12_count_1 : decode cX12_count 1 = .ok (.tableswitch 116 0 8 #[51, 60, 65, 74, 83, 92, 97, 102, 111], 51) := by decide +kernel
theorem dX12_count_52 : decode cX12_count 52 = .ok (.aload_n 0, 1) := by decide +kernel
theorem dX12_count_53 : decode cX12_count 53 = .ok (.getfield 7, 3) := by decide +kernel
theorem dX12_count_56 : decode cX12_count 56 = .ok (.sipush 291, 3) := by decide +kernel
theorem dX12_count_59 : decode cX12_count 59 = .ok (.iaload, 1) := by decide +kernel
theorem dX12_count_60 : decode cX12_count 60 = .ok (.ireturn, 1) := by decide +kernel
theorem dX12_count_61 : decode cX12_count 61 = .ok (.aload_n 0, 1) := by decide +kernel
theorem dX12_count_62 : decode cX12_count 62 = .ok (.invokevirtual 387, 3) := by decide +kernel
theorem dX12_count_65 : decode cX12_count 65 = .ok (.ireturn, 1) := by decide +kernel
theorem dX12_count_66 : decode cX12_count 66 = .ok (.aload_n 0, 1) := by decide +kernel
theorem dX12_count_67 : decode cX12_count 67 = .ok (.getfield 7, 3) := by decide +kernel
theorem dX12_count_70 : decode cX12_count 70 = .ok (.sipush 288, 3) := by decide +kernel
theorem dX12_count_73 : decode cX12_count 73 = .ok (.iaload, 1) := by decide +kernel
theorem dX12_count_74 : decode cX12_count 74 = .ok (.ireturn, 1) := by decide +kernel
theorem dX12_count_75 : decode cX12_count 75 = .ok (.aload_n 0, 1) := by decide +kernel
theorem dX12_count_76 : decode cX12_count 76 = .ok (.getfield 7, 3) := by decide +kernel
theorem dX12_count_79 : decode cX12_count 79 = .ok (.sipush 289, 3) := by decide +kernel
theorem dX12_count_82 : decode cX12_count 82 = .ok (.iaload, 1) := by decide +kernel
theorem dX12_count_83 : decode cX12_count 83 = .ok (.ireturn, 1) := by decide +kernel
theorem dX12_count_84 : decode cX12_count 84 = .ok (.aload_n 0, 1) := by decide +kernel
theorem dX12_count_85 : decode cX12_count 85 = .ok (.getfield 7, 3) := by decide +kernel
theorem dX12_count_88 : decode cX12_count 88 = .ok (.sipush 290, 3) := by decide +kernel
theorem dX12_count_91 : decode cX12_count 91 = .ok (.iaload, 1) := by decide +kernel
theorem dX12_count_92 : decode cX12_count 92 = .ok (.ireturn, 1) := by decide +kernel
theorem dX12_count_93 : decode cX12_count 93 = .ok (.aload_n 0, 1) := by decide +kernel
theorem dX12_count_94 : decode cX12_count 94 = .ok (.getfield 242, 3) := by decide +kernel
theorem dX12_count_97 : decode cX12_count 97 = .ok (.ireturn, 1) := by decide +kernel
theorem dX12_count_98 : decode cX12_count 98 = .ok (.aload_n 0, 1) := by decide +kernel
theorem dX12_count_99 : decode cX12_count 99 = .ok (.getfield 143, 3) := by decide +kernel
theorem dX12_count_102 : decode cX12_count 102 = .ok (.ireturn, 1) := by decide +kernel
theorem dX12_count_103 : decode cX12_count 103 = .ok (.aload_n 0, 1) := by decide +kernel
theorem dX12_count_104 : decode cX12_count 104 = .ok (.getfield 7, 3) := by decide +kernel
theorem dX12_count_107 : decode cX12_count 107 = .ok (.sipush 292, 3) := by decide +kernel
theorem dX12_count_110 : decode cX12_count 110 = .ok (.iaload, 1) := by decide +kernel
theorem dX12_count_111 : decode cX12_count 111 = .ok (.ireturn, 1) := by decide +kernel
theorem dX12_count_112 : decode cX12_count 112 = .ok (.aload_n 0, 1) := by decide +kernel
theorem dX12_count_113 : decode cX12_count 113 = .ok (.getfield 300, 3) := by decide +kernel
theorem dX12_count_116 : decode cX12_count 116 = .ok (.ireturn, 1) := by decide +kernel
theorem dX12_count_117 : decode cX12_count 117 = .ok (.iconst (-1), 1) := by decide +kernel
theorem dX12_count_118 : decode cX12_count 118 = .ok (.ireturn, 1) := by decide +kernel
