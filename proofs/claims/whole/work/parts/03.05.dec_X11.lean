theorem dX11_init_0 : decode cX11_init 0 = .ok (.aload_n 0, 1) := by decide +kernel
theorem dX11_init_1 : decode cX11_init 1 = .ok (.invokespecial 1, 3) := by decide +kernel
theorem dX11_init_4 : decode cX11_init 4 = .ok (.aload_n 0, 1) := by decide +kernel
theorem dX11_init_5 : decode cX11_init 5 = .ok (.new 7, 3) := by decide +kernel
theorem dX11_init_8 : decode cX11_init 8 = .ok (.dup, 1) := by decide +kernel
theorem dX11_init_9 : decode cX11_init 9 = .ok (.invokespecial 9, 3) := by decide +kernel
theorem dX11_init_12 : decode cX11_init 12 = .ok (.putfield 10, 3) := by decide +kernel
theorem dX11_init_15 : decode cX11_init 15 = .ok (.aload_n 0, 1) := by decide +kernel
theorem dX11_init_16 : decode cX11_init 16 = .ok (.new 16, 3) := by decide +kernel
theorem dX11_init_19 : decode cX11_init 19 = .ok (.dup, 1) := by decide +kernel
theorem dX11_init_20 : decode cX11_init 20 = .ok (.invokespecial 18, 3) := by decide +kernel
theorem dX11_init_23 : decode cX11_init 23 = .ok (.putfield 19, 3) := by decide +kernel
theorem dX11_init_26 : decode cX11_init 26 = .ok (.aload_n 0, 1) := by decide +kernel
theorem dX11_init_27 : decode cX11_init 27 = .ok (.new 23, 3) := by decide +kernel
theorem dX11_init_30 : decode cX11_init 30 = .ok (.dup, 1) := by decide +kernel
theorem dX11_init_31 : decode cX11_init 31 = .ok (.aload_n 0, 1) := by decide +kernel
theorem dX11_init_32 : decode cX11_init 32 = .ok (.getfield 19, 3) := by decide +kernel
theorem dX11_init_35 : decode cX11_init 35 = .ok (.invokespecial 25, 3) := by decide +kernel
theorem dX11_init_38 : decode cX11_init 38 = .ok (.putfield 28, 3) := by decide +kernel
theorem dX11_init_41 : decode cX11_init 41 = .ok (.aload_n 0, 1) := by decide +kernel
theorem dX11_init_42 : decode cX11_init 42 = .ok (.new 23, 3) := by decide +kernel
theorem dX11_init_45 : decode cX11_init 45 = .ok (.dup, 1) := by decide +kernel
theorem dX11_init_46 : decode cX11_init 46 = .ok (.aload_n 0, 1) := by decide +kernel
theorem dX11_init_47 : decode cX11_init 47 = .ok (.getfield 19, 3) := by decide +kernel
theorem dX11_init_50 : decode cX11_init 50 = .ok (.invokespecial 25, 3) := by decide +kernel
theorem dX11_init_53 : decode cX11_init 53 = .ok (.putfield 32, 3) := by decide +kernel
theorem dX11_init_56 : decode cX11_init 56 = .ok (.aload_n 0, 1) := by decide +kernel
theorem dX11_init_57 : decode cX11_init 57 = .ok (.new 23, 3) := by decide +kernel
theorem dX11_init_60 : decode cX11_init 60 = .ok (.dup, 1) := by decide +kernel
theorem dX11_init_61 : decode cX11_init 61 = .ok (.aload_n 0, 1) := by decide +kernel
theorem dX11_init_62 : decode cX11_init 62 = .ok (.getfield 19, 3) := by decide +kernel
theorem dX11_init_65 : decode cX11_init 65 = .ok (.invokespecial 25, 3) := by decide +kernel
theorem dX11_init_68 : decode cX11_init 68 = .ok (.putfield 35, 3) := by decide +kernel
theorem dX11_init_71 : decode cX11_init 71 = .ok (.aload_n 0, 1) := by decide +kernel
theorem dX11_init_72 : decode cX11_init 72 = .ok (.new 38, 3) := by decide +kernel
theorem dX11_init_75 : decode cX11_init 75 = .ok (.dup, 1) := by decide +kernel
theorem dX11_init_76 : decode cX11_init 76 = .ok (.aload_n 0, 1) := by decide +kernel
theorem dX11_init_77 : decode cX11_init 77 = .ok (.getfield 10, 3) := by decide +kernel
theorem dX11_init_80 : decode cX11_init 80 = .ok (.invokespecial 40, 3) := by decide +kernel
theorem dX11_init_83 : decode cX11_init 83 = .ok (.putfield 43, 3) := by decide +kernel
theorem dX11_init_86 : decode cX11_init 86 = .ok (.aload_n 0, 1) := by decide +kernel
theorem dX11_init_87 : decode cX11_init 87 = .ok (.new 47, 3) := by decide +kernel
theorem dX11_init_90 : decode cX11_init 90 = .ok (.dup, 1) := by decide +kernel
theorem dX11_init_91 : decode cX11_init 91 = .ok (.aload_n 0, 1) := by decide +kernel
theorem dX11_init_92 : decode cX11_init 92 = .ok (.getfield 10, 3) := by decide +kernel
theorem dX11_init_95 : decode cX11_init 95 = .ok (.invokespecial 49, 3) := by decide +kernel
theorem dX11_init_98 : decode cX11_init 98 = .ok (.putfield 50, 3) := by decide +kernel
theorem dX11_init_101 : decode cX11_init 101 = .ok (.aload_n 0, 1) := by decide +kernel
theorem dX11_init_102 : decode cX11_init 102 = .ok (.new 54, 3) := by decide +kernel
theorem dX11_init_105 : decode cX11_init 105 = .ok (.dup, 1) := by decide +kernel
theorem dX11_init_106 : decode cX11_init 106 = .ok (.invokespecial 56, 3) := by decide +kernel
theorem dX11_init_109 : decode cX11_init 109 = .ok (.putfield 57, 3) := by decide +kernel
theorem dX11_init_112 : decode cX11_init 112 = .ok (.aload_n 0, 1) := by decide +kernel
theorem dX11_init_113 : decode cX11_init 113 = .ok (.new 61, 3) := by decide +kernel
theorem dX11_init_116 : decode cX11_init 116 = .ok (.dup, 1) := by decide +kernel
theorem dX11_init_117 : decode cX11_init 117 = .ok (.aload_n 0, 1) := by decide +kernel
theorem dX11_init_118 : decode cX11_init 118 = .ok (.getfield 10, 3) := by decide +kernel
theorem dX11_init_121 : decode cX11_init 121 = .ok (.invokespecial 63, 3) := by decide +kernel
theorem dX11_init_124 : decode cX11_init 124 = .ok (.putfield 64, 3) := by decide +kernel
theorem dX11_init_127 : decode cX11_init 127 = .ok (.aload_n 0, 1) := by decide +kernel
theorem dX11_init_128 : decode cX11_init 128 = .ok (.new 68, 3) := by decide +kernel
theorem dX11_init_131 : decode cX11_init 131 = .ok (.dup, 1) := by decide +kernel
theorem dX11_init_132 : decode cX11_init 132 = .ok (.aload_n 0, 1) := by decide +kernel
theorem dX11_init_133 : decode cX11_init 133 = .ok (.getfield 43, 3) := by decide +kernel
theorem dX11_init_136 : decode cX11_init 136 = .ok (.invokespecial 70, 3) := by decide +kernel
theorem dX11_init_139 : decode cX11_init 139 = .ok (.putfield 73, 3) := by decide +kernel
theorem dX11_init_142 : decode cX11_init 142 = .ok (.aload_n 0, 1) := by decide +kernel
theorem dX11_init_143 : decode cX11_init 143 = .ok (.new 77, 3) := by decide +kernel
theorem dX11_init_146 : decode cX11_init 146 = .ok (.dup, 1) := by decide +kernel
theorem dX11_init_147 : decode cX11_init 147 = .ok (.aload_n 0, 1) := by decide +kernel
theorem dX11_init_148 : decode cX11_init 148 = .ok (.getfield 43, 3) := by decide +kernel
theorem dX11_init_151 : decode cX11_init 151 = .ok (.invokespecial 79, 3) := by decide +kernel
theorem dX11_init_154 : decode cX11_init 154 = .ok (.putfield 80, 3) := by decide +kernel
theorem dX11_init_157 : decode cX11_init 157 = .ok (.aload_n 0, 1) := by decide +kernel
theorem dX11_init_158 : decode cX11_init 158 = .ok (.new 84, 3) := by decide +kernel
theorem dX11_init_161 : decode cX11_init 161 = .ok (.dup, 1) := by decide +kernel
theorem dX11_init_162 : decode cX11_init 162 = .ok (.aload_n 0, 1) := by decide +kernel
theorem dX11_init_163 : decode cX11_init 163 = .ok (.getfield 35, 3) := by decide +kernel
theorem dX11_init_166 : decode cX11_init 166 = .ok (.invokespecial 86, 3) := by decide +kernel
theorem dX11_init_169 : decode cX11_init 169 = .ok (.putfield 89, 3) := by decide +kernel
theorem dX11_init_172 : decode cX11_init 172 = .ok (.aload_n 0, 1) := by decide +kernel
theorem dX11_init_173 : decode cX11_init 173 = .ok (.new 93, 3) := by decide +kernel
theorem dX11_init_176 : decode cX11_init 176 = .ok (.dup, 1) := by decide +kernel
theorem dX11_init_177 : decode cX11_init 177 = .ok (.aload_n 0, 1) := by decide +kernel
theorem dX11_init_178 : decode cX11_init 178 = .ok (.getfield 10, 3) := by decide +kernel
theorem dX11_init_181 : decode cX11_init 181 = .ok (.invokespecial 95, 3) := by decide +kernel
theorem dX11_init_184 : decode cX11_init 184 = .ok (.putfield 96, 3) := by decide +kernel
theorem dX11_init_187 : decode cX11_init 187 = .ok (.aload_n 0, 1) := by decide +kernel
theorem dX11_init_188 : decode cX11_init 188 = .ok (.iconst 0, 1) := by decide +kernel
theorem dX11_init_189 : decode cX11_init 189 = .ok (.putfield 100, 3) := by decide +kernel
theorem dX11_init_192 : decode cX11_init 192 = .ok (.return_, 1) := by decide +kernel
theorem dX11_bottle_0 : decode cX11_bottle 0 = .ok (.iload_n 1, 1) := by decide +kernel
theorem dX11_bottle_1 : decode cX11_bottle 1 = .ok (.iconst 0, 1) := by decide +kernel
theorem dX11_bottle_2 : decode cX11_bottle 2 = .ok (.bipush 7, 2) := by decide +kernel
theorem dX11_bottle_4 : decode cX11_bottle 4 = .ok (.invokestatic 104, 3) := by decide +kernel
theorem dX11_bottle_7 : decode cX11_bottle 7 = .ok (.ifCond .eq 12, 3) := by decide +kernel
theorem dX11_bottle_10 : decode cX11_bottle 10 = .ok (.iload_n 2, 1) := by decide +kernel
theorem dX11_bottle_11 : decode cX11_bottle 11 = .ok (.iconst 0, 1) := by decide +kernel
theorem dX11_bottle_12 : decode cX11_bottle 12 = .ok (.iconst 4, 1) := by decide +kernel
theorem dX11_bottle_13 : decode cX11_bottle 13 = .ok (.invokestatic 104, 3) := by decide +kernel
theorem dX11_bottle_16 : decode cX11_bottle 16 = .ok (.ifCond .ne 5, 3) := by decide +kernel
theorem dX11_bottle_19 : decode cX11_bottle 19 = .ok (.iconst 0, 1) := by decide +kernel
theorem dX11_bottle_20 : decode cX11_bottle 20 = .ok (.ireturn, 1) := by decide +kernel
theorem dX11_bottle_21 : decode cX11_bottle 21 = .ok (.aload_n 0, 1) := by decide +kernel
theorem dX11_bottle_22 : decode cX11_bottle 22 = .ok (.getfield 28, 3) := by decide +kernel
theorem dX11_bottle_25 : decode cX11_bottle 25 = .ok (.iload_n 1, 1) := by decide +kernel
theorem dX11_bottle_26 : decode cX11_bottle 26 = .ok (.iload_n 2, 1) := by decide +kernel
theorem dX11_bottle_27 : decode cX11_bottle 27 = .ok (.invokevirtual 108, 3) := by decide +kernel
theorem dX11_bottle_30 : decode cX11_bottle 30 = .ok (.iconst 1, 1) := by decide +kernel
theorem dX11_bottle_31 : decode cX11_bottle 31 = .ok (.ireturn, 1) := by decide +kernel
theorem dX11_ink_0 : decode cX11_ink 0 = .ok (.aload_n 0, 1) := by decide +kernel
theorem dX11_ink_1 : decode cX11_ink 1 = .ok (.getfield 28, 3) := by decide +kernel
theorem dX11_ink_4 : decode cX11_ink 4 = .ok (.iload_n 1, 1) := by decide +kernel
theorem dX11_ink_5 : decode cX11_ink 5 = .ok (.invokevirtual 112, 3) := by decide +kernel
theorem dX11_ink_8 : decode cX11_ink 8 = .ok (.ifCond .eq 14, 3) := by decide +kernel
theorem dX11_ink_11 : decode cX11_ink 11 = .ok (.iload_n 2, 1) := by decide +kernel
theorem dX11_ink_12 : decode cX11_ink 12 = .ok (.iconst 0, 1) := by decide +kernel
theorem dX11_ink_13 : decode cX11_ink 13 = .ok (.sipush 999, 3) := by decide +kernel
theorem dX11_ink_16 : decode cX11_ink 16 = .ok (.invokestatic 104, 3) := by decide +kernel
theorem dX11_ink_19 : decode cX11_ink 19 = .ok (.ifCond .ne 5, 3) := by decide +kernel
theorem dX11_ink_22 : decode cX11_ink 22 = .ok (.iconst 0, 1) := by decide +kernel
theorem dX11_ink_23 : decode cX11_ink 23 = .ok (.ireturn, 1) := by decide +kernel
theorem dX11_ink_24 : decode cX11_ink 24 = .ok (.aload_n 0, 1) := by decide +kernel
theorem dX11_ink_25 : decode cX11_ink 25 = .ok (.getfield 28, 3) := by decide +kernel
theorem dX11_ink_28 : decode cX11_ink 28 = .ok (.iload_n 1, 1) := by decide +kernel
theorem dX11_ink_29 : decode cX11_ink 29 = .ok (.iload_n 2, 1) := by decide +kernel
theorem dX11_ink_30 : decode cX11_ink 30 = .ok (.invokevirtual 116, 3) := by decide +kernel
theorem dX11_ink_33 : decode cX11_ink 33 = .ok (.iconst 1, 1) := by decide +kernel
theorem dX11_ink_34 : decode cX11_ink 34 = .ok (.ireturn, 1) := by decide +kernel
theorem dX11_nerve_0 : decode cX11_nerve 0 = .ok (.iload_n 1, 1) := by decide +kernel
theorem dX11_nerve_1 : decode cX11_nerve 1 = .ok (.iconst 0, 1) := by decide +kernel
theorem dX11_nerve_2 : decode cX11_nerve 2 = .ok (.bipush 99, 2) := by decide +kernel
theorem dX11_nerve_4 : decode cX11_nerve 4 = .ok (.invokestatic 104, 3) := by decide +kernel
theorem dX11_nerve_7 : decode cX11_nerve 7 = .ok (.ifCond .ne 5, 3) := by decide +kernel
theorem dX11_nerve_10 : decode cX11_nerve 10 = .ok (.iconst 0, 1) := by decide +kernel
theorem dX11_nerve_11 : decode cX11_nerve 11 = .ok (.ireturn, 1) := by decide +kernel
theorem dX11_nerve_12 : decode cX11_nerve 12 = .ok (.aload_n 0, 1) := by decide +kernel
theorem dX11_nerve_13 : decode cX11_nerve 13 = .ok (.getfield 28, 3) := by decide +kernel
theorem dX11_nerve_16 : decode cX11_nerve 16 = .ok (.iload_n 1, 1) := by decide +kernel
theorem dX11_nerve_17 : decode cX11_nerve 17 = .ok (.putfield 119, 3) := by decide +kernel
theorem dX11_nerve_20 : decode cX11_nerve 20 = .ok (.iconst 1, 1) := by decide +kernel
theorem dX11_nerve_21 : decode cX11_nerve 21 = .ok (.ireturn, 1) := by decide +kernel
theorem dX11_pressed_0 : decode cX11_pressed 0 = .ok (.aload_n 0, 1) := by decide +kernel
theorem dX11_pressed_1 : decode cX11_pressed 1 = .ok (.getfield 28, 3) := by decide +kernel
theorem dX11_pressed_4 : decode cX11_pressed 4 = .ok (.iload_n 1, 1) := by decide +kernel
theorem dX11_pressed_5 : decode cX11_pressed 5 = .ok (.invokevirtual 112, 3) := by decide +kernel
theorem dX11_pressed_8 : decode cX11_pressed 8 = .ok (.ifCond .eq 13, 3) := by decide +kernel
theorem dX11_pressed_11 : decode cX11_pressed 11 = .ok (.iload_n 2, 1) := by decide +kernel
theorem dX11_pressed_12 : decode cX11_pressed 12 = .ok (.iconst 0, 1) := by decide +kernel
theorem dX11_pressed_13 : decode cX11_pressed 13 = .ok (.ldc 123, 2) := by decide +kernel
theorem dX11_pressed_15 : decode cX11_pressed 15 = .ok (.invokestatic 104, 3) := by decide +kernel
theorem dX11_pressed_18 : decode cX11_pressed 18 = .ok (.ifCond .ne 5, 3) := by decide +kernel
theorem dX11_pressed_21 : decode cX11_pressed 21 = .ok (.iconst (-1), 1) := by decide +kernel
theorem dX11_pressed_22 : decode cX11_pressed 22 = .ok (.ireturn, 1) := by decide +kernel
theorem dX11_pressed_23 : decode cX11_pressed 23 = .ok (.aload_n 0, 1) := by decide +kernel
theorem dX11_pressed_24 : decode cX11_pressed 24 = .ok (.getfield 28, 3) := by decide +kernel
theorem dX11_pressed_27 : decode cX11_pressed 27 = .ok (.iload_n 1, 1) := by decide +kernel
theorem dX11_pressed_28 : decode cX11_pressed 28 = .ok (.iload_n 2, 1) := by decide +kernel
theorem dX11_pressed_29 : decode cX11_pressed 29 = .ok (.invokevirtual 124, 3) := by decide +kernel
theorem dX11_pressed_32 : decode cX11_pressed 32 = .ok (.aload_n 0, 1) := by decide +kernel
theorem dX11_pressed_33 : decode cX11_pressed 33 = .ok (.getfield 28, 3) := by decide +kernel
theorem dX11_pressed_36 : decode cX11_pressed 36 = .ok (.iload_n 1, 1) := by decide +kernel
theorem dX11_pressed_37 : decode cX11_pressed 37 = .ok (.invokevirtual 127, 3) := by decide +kernel
theorem dX11_pressed_40 : decode cX11_pressed 40 = .ok (.ireturn, 1) := by decide +kernel
theorem dX11_feed_0 : decode cX11_feed 0 = .ok (.aload_n 0, 1) := by decide +kernel
theorem dX11_feed_1 : decode cX11_feed 1 = .ok (.getfield 10, 3) := by decide +kernel
theorem dX11_feed_4 : decode cX11_feed 4 = .ok (.bipush 20, 2) := by decide +kernel
theorem dX11_feed_6 : decode cX11_feed 6 = .ok (.invokevirtual 131, 3) := by decide +kernel
theorem dX11_feed_9 : decode cX11_feed 9 = .ok (.ifCond .ne 5, 3) := by decide +kernel
theorem dX11_feed_12 : decode cX11_feed 12 = .ok (.iconst (-1), 1) := by decide +kernel
theorem dX11_feed_13 : decode cX11_feed 13 = .ok (.ireturn, 1) := by decide +kernel
theorem dX11_feed_14 : decode cX11_feed 14 = .ok (.aload_n 0, 1) := by decide +kernel
theorem dX11_feed_15 : decode cX11_feed 15 = .ok (.getfield 10, 3) := by decide +kernel
theorem dX11_feed_18 : decode cX11_feed 18 = .ok (.iload_n 1, 1) := by decide +kernel
theorem dX11_feed_19 : decode cX11_feed 19 = .ok (.invokevirtual 134, 3) := by decide +kernel
theorem dX11_feed_22 : decode cX11_feed 22 = .ok (.aload_n 0, 1) := by decide +kernel
theorem dX11_feed_23 : decode cX11_feed 23 = .ok (.getfield 10, 3) := by decide +kernel
theorem dX11_feed_26 : decode cX11_feed 26 = .ok (.iload_n 2, 1) := by decide +kernel
theorem dX11_feed_27 : decode cX11_feed 27 = .ok (.invokevirtual 134, 3) := by decide +kernel
theorem dX11_feed_30 : decode cX11_feed 30 = .ok (.aload_n 0, 1) := by decide +kernel
theorem dX11_feed_31 : decode cX11_feed 31 = .ok (.getfield 10, 3) := by decide +kernel
theorem dX11_feed_34 : decode cX11_feed 34 = .ok (.iload_n 3, 1) := by decide +kernel
theorem dX11_feed_35 : decode cX11_feed 35 = .ok (.invokevirtual 134, 3) := by decide +kernel
theorem dX11_feed_38 : decode cX11_feed 38 = .ok (.aload_n 0, 1) := by decide +kernel
theorem dX11_feed_39 : decode cX11_feed 39 = .ok (.getfield 10, 3) := by decide +kernel
theorem dX11_feed_42 : decode cX11_feed 42 = .ok (.iload 4, 2) := by decide +kernel
theorem dX11_feed_44 : decode cX11_feed 44 = .ok (.invokevirtual 134, 3) := by decide +kernel
theorem dX11_feed_47 : decode cX11_feed 47 = .ok (.aload_n 0, 1) := by decide +kernel
theorem dX11_feed_48 : decode cX11_feed 48 = .ok (.getfield 10, 3) := by decide +kernel
theorem dX11_feed_51 : decode cX11_feed 51 = .ok (.iload 5, 2) := by decide +kernel
theorem dX11_feed_53 : decode cX11_feed 53 = .ok (.invokevirtual 134, 3) := by decide +kernel
theorem dX11_feed_56 : decode cX11_feed 56 = .ok (.aload_n 0, 1) := by decide +kernel
theorem dX11_feed_57 : decode cX11_feed 57 = .ok (.getfield 10, 3) := by decide +kernel
theorem dX11_feed_60 : decode cX11_feed 60 = .ok (.getfield 138, 3) := by decide +kernel
theorem dX11_feed_63 : decode cX11_feed 63 = .ok (.ireturn, 1) := by decide +kernel
theorem dX11_law_0 : decode cX11_law 0 = .ok (.iload_n 1, 1) := by decide +kernel
theorem dX11_law_1 : decode cX11_law 1 = .ok (.iconst 1, 1) := by decide +kernel
theorem dX11_law_2 : decode cX11_law 2 = .ok (.sipush 240, 3) := by decide +kernel
theorem dX11_law_5 : decode cX11_law 5 = .ok (.invokestatic 104, 3) := by decide +kernel
theorem dX11_law_8 : decode cX11_law 8 = .ok (.ifCond .eq 14, 3) := by decide +kernel
theorem dX11_law_11 : decode cX11_law 11 = .ok (.aload_n 0, 1) := by decide +kernel
theorem dX11_law_12 : decode cX11_law 12 = .ok (.getfield 10, 3) := by decide +kernel
theorem dX11_law_15 : decode cX11_law 15 = .ok (.iload_n 1, 1) := by decide +kernel
theorem dX11_law_16 : decode cX11_law 16 = .ok (.invokevirtual 141, 3) := by decide +kernel
theorem dX11_law_19 : decode cX11_law 19 = .ok (.ifCond .ne 5, 3) := by decide +kernel
theorem dX11_law_22 : decode cX11_law 22 = .ok (.iconst (-1), 1) := by decide +kernel
theorem dX11_law_23 : decode cX11_law 23 = .ok (.ireturn, 1) := by decide +kernel
theorem dX11_law_24 : decode cX11_law 24 = .ok (.aload_n 0, 1) := by decide +kernel
theorem dX11_law_25 : decode cX11_law 25 = .ok (.getfield 64, 3) := by decide +kernel
theorem dX11_law_28 : decode cX11_law 28 = .ok (.iload_n 1, 1) := by decide +kernel
theorem dX11_law_29 : decode cX11_law 29 = .ok (.invokevirtual 144, 3) := by decide +kernel
theorem dX11_law_32 : decode cX11_law 32 = .ok (.istore_n 2, 1) := by decide +kernel
theorem dX11_law_33 : decode cX11_law 33 = .ok (.aload_n 0, 1) := by decide +kernel
theorem dX11_law_34 : decode cX11_law 34 = .ok (.getfield 10, 3) := by decide +kernel
theorem dX11_law_37 : decode cX11_law 37 = .ok (.invokevirtual 147, 3) := by decide +kernel
theorem dX11_law_40 : decode cX11_law 40 = .ok (.iload_n 2, 1) := by decide +kernel
theorem dX11_law_41 : decode cX11_law 41 = .ok (.ifCond .le 17, 3) := by decide +kernel
theorem dX11_law_44 : decode cX11_law 44 = .ok (.aload_n 0, 1) := by decide +kernel
theorem dX11_law_45 : decode cX11_law 45 = .ok (.getfield 57, 3) := by decide +kernel
theorem dX11_law_48 : decode cX11_law 48 = .ok (.aload_n 0, 1) := by decide +kernel
theorem dX11_law_49 : decode cX11_law 49 = .ok (.getfield 64, 3) := by decide +kernel
theorem dX11_law_52 : decode cX11_law 52 = .ok (.getfield 150, 3) := by decide +kernel
theorem dX11_law_55 : decode cX11_law 55 = .ok (.invokevirtual 153, 3) := by decide +kernel
theorem dX11_law_58 : decode cX11_law 58 = .ok (.iload_n 2, 1) := by decide +kernel
theorem dX11_law_59 : decode cX11_law 59 = .ok (.ireturn, 1) := by decide +kernel
theorem dX11_grief_0 : decode cX11_grief 0 = .ok (.aload_n 0, 1) := by decide +kernel
theorem dX11_grief_1 : decode cX11_grief 1 = .ok (.getfield 28, 3) := by decide +kernel
theorem dX11_grief_4 : decode cX11_grief 4 = .ok (.iload_n 1, 1) := by decide +kernel
theorem dX11_grief_5 : decode cX11_grief 5 = .ok (.invokevirtual 112, 3) := by decide +kernel
theorem dX11_grief_8 : decode cX11_grief 8 = .ok (.ifCond .eq 24, 3) := by decide +kernel
theorem dX11_grief_11 : decode cX11_grief 11 = .ok (.iload_n 2, 1) := by decide +kernel
theorem dX11_grief_12 : decode cX11_grief 12 = .ok (.iconst 1, 1) := by decide +kernel
theorem dX11_grief_13 : decode cX11_grief 13 = .ok (.bipush 120, 2) := by decide +kernel
theorem dX11_grief_15 : decode cX11_grief 15 = .ok (.invokestatic 104, 3) := by decide +kernel
theorem dX11_grief_18 : decode cX11_grief 18 = .ok (.ifCond .eq 14, 3) := by decide +kernel
theorem dX11_grief_21 : decode cX11_grief 21 = .ok (.aload_n 0, 1) := by decide +kernel
theorem dX11_grief_22 : decode cX11_grief 22 = .ok (.getfield 10, 3) := by decide +kernel
theorem dX11_grief_25 : decode cX11_grief 25 = .ok (.iload_n 2, 1) := by decide +kernel
theorem dX11_grief_26 : decode cX11_grief 26 = .ok (.invokevirtual 141, 3) := by decide +kernel
theorem dX11_grief_29 : decode cX11_grief 29 = .ok (.ifCond .ne 5, 3) := by decide +kernel
theorem dX11_grief_32 : decode cX11_grief 32 = .ok (.iconst (-1), 1) := by decide +kernel
theorem dX11_grief_33 : decode cX11_grief 33 = .ok (.ireturn, 1) := by decide +kernel
theorem dX11_grief_34 : decode cX11_grief 34 = .ok (.aload_n 0, 1) := by decide +kernel
theorem dX11_grief_35 : decode cX11_grief 35 = .ok (.getfield 50, 3) := by decide +kernel
theorem dX11_grief_38 : decode cX11_grief 38 = .ok (.iload_n 2, 1) := by decide +kernel
theorem dX11_grief_39 : decode cX11_grief 39 = .ok (.invokevirtual 157, 3) := by decide +kernel
theorem dX11_grief_42 : decode cX11_grief 42 = .ok (.istore_n 3, 1) := by decide +kernel
theorem dX11_grief_43 : decode cX11_grief 43 = .ok (.aload_n 0, 1) := by decide +kernel
theorem dX11_grief_44 : decode cX11_grief 44 = .ok (.getfield 10, 3) := by decide +kernel
theorem dX11_grief_47 : decode cX11_grief 47 = .ok (.invokevirtual 147, 3) := by decide +kernel
theorem dX11_grief_50 : decode cX11_grief 50 = .ok (.iload_n 3, 1) := by decide +kernel
theorem dX11_grief_51 : decode cX11_grief 51 = .ok (.ifCond .le 19, 3) := by decide +kernel
theorem dX11_grief_54 : decode cX11_grief 54 = .ok (.aload_n 0, 1) := by decide +kernel
theorem dX11_grief_55 : decode cX11_grief 55 = .ok (.getfield 50, 3) := by decide +kernel
theorem dX11_grief_58 : decode cX11_grief 58 = .ok (.aload_n 0, 1) := by decide +kernel
theorem dX11_grief_59 : decode cX11_grief 59 = .ok (.getfield 28, 3) := by decide +kernel
theorem dX11_grief_62 : decode cX11_grief 62 = .ok (.iload_n 1, 1) := by decide +kernel
theorem dX11_grief_63 : decode cX11_grief 63 = .ok (.aload_n 0, 1) := by decide +kernel
theorem dX11_grief_64 : decode cX11_grief 64 = .ok (.getfield 19, 3) := by decide +kernel
theorem dX11_grief_67 : decode cX11_grief 67 = .ok (.invokevirtual 158, 3) := by decide +kernel
theorem dX11_grief_70 : decode cX11_grief 70 = .ok (.iload_n 3, 1) := by decide +kernel
theorem dX11_grief_71 : decode cX11_grief 71 = .ok (.ireturn, 1) := by decide +kernel
theorem dX11_letter_0 : decode cX11_letter 0 = .ok (.iload_n 1, 1) := by decide +kernel
theorem dX11_letter_1 : decode cX11_letter 1 = .ok (.iconst 1, 1) := by decide +kernel
theorem dX11_letter_2 : decode cX11_letter 2 = .ok (.bipush 60, 2) := by decide +kernel
theorem dX11_letter_4 : decode cX11_letter 4 = .ok (.invokestatic 104, 3) := by decide +kernel
theorem dX11_letter_7 : decode cX11_letter 7 = .ok (.ifCond .eq 14, 3) := by decide +kernel
theorem dX11_letter_10 : decode cX11_letter 10 = .ok (.aload_n 0, 1) := by decide +kernel
theorem dX11_letter_11 : decode cX11_letter 11 = .ok (.getfield 10, 3) := by decide +kernel
theorem dX11_letter_14 : decode cX11_letter 14 = .ok (.iload_n 1, 1) := by decide +kernel
theorem dX11_letter_15 : decode cX11_letter 15 = .ok (.invokevirtual 141, 3) := by decide +kernel
theorem dX11_letter_18 : decode cX11_letter 18 = .ok (.ifCond .ne 5, 3) := by decide +kernel
theorem dX11_letter_21 : decode cX11_letter 21 = .ok (.iconst (-1), 1) := by decide +kernel
theorem dX11_letter_22 : decode cX11_letter 22 = .ok (.ireturn, 1) := by decide +kernel
theorem dX11_letter_23 : decode cX11_letter 23 = .ok (.aload_n 0, 1) := by decide +kernel
theorem dX11_letter_24 : decode cX11_letter 24 = .ok (.getfield 43, 3) := by decide +kernel
theorem dX11_letter_27 : decode cX11_letter 27 = .ok (.iload_n 1, 1) := by decide +kernel
theorem dX11_letter_28 : decode cX11_letter 28 = .ok (.invokevirtual 162, 3) := by decide +kernel
theorem dX11_letter_31 : decode cX11_letter 31 = .ok (.istore_n 2, 1) := by decide +kernel
theorem dX11_letter_32 : decode cX11_letter 32 = .ok (.aload_n 0, 1) := by decide +kernel
theorem dX11_letter_33 : decode cX11_letter 33 = .ok (.getfield 10, 3) := by decide +kernel
theorem dX11_letter_36 : decode cX11_letter 36 = .ok (.invokevirtual 147, 3) := by decide +kernel
theorem dX11_letter_39 : decode cX11_letter 39 = .ok (.iload_n 2, 1) := by decide +kernel
theorem dX11_letter_40 : decode cX11_letter 40 = .ok (.ireturn, 1) := by decide +kernel
theorem dX11_days_0 : decode cX11_days 0 = .ok (.iload_n 1, 1) := by decide +kernel
theorem dX11_days_1 : decode cX11_days 1 = .ok (.iconst 1, 1) := by decide +kernel
theorem dX11_days_2 : decode cX11_days 2 = .ok (.bipush 60, 2) := by decide +kernel
theorem dX11_days_4 : decode cX11_days 4 = .ok (.invokestatic 104, 3) := by decide +kernel
theorem dX11_days_7 : decode cX11_days 7 = .ok (.ifCond .ne 5, 3) := by decide +kernel
theorem dX11_days_10 : decode cX11_days 10 = .ok (.iconst (-1), 1) := by decide +kernel
theorem dX11_days_11 : decode cX11_days 11 = .ok (.ireturn, 1) := by decide +kernel
theorem dX11_days_12 : decode cX11_days 12 = .ok (.aload_n 0, 1) := by decide +kernel
theorem dX11_days_13 : decode cX11_days 13 = .ok (.getfield 73, 3) := by decide +kernel
theorem dX11_days_16 : decode cX11_days 16 = .ok (.aload_n 0, 1) := by decide +kernel
theorem dX11_days_17 : decode cX11_days 17 = .ok (.getfield 28, 3) := by decide +kernel
theorem dX11_days_20 : decode cX11_days 20 = .ok (.aload_n 0, 1) := by decide +kernel
theorem dX11_days_21 : decode cX11_days 21 = .ok (.getfield 57, 3) := by decide +kernel
theorem dX11_days_24 : decode cX11_days 24 = .ok (.iload_n 1, 1) := by decide +kernel
theorem dX11_days_25 : decode cX11_days 25 = .ok (.invokevirtual 163, 3) := by decide +kernel
theorem dX11_days_28 : decode cX11_days 28 = .ok (.aload_n 0, 1) := by decide +kernel
theorem dX11_days_29 : decode cX11_days 29 = .ok (.getfield 73, 3) := by decide +kernel
theorem dX11_days_32 : decode cX11_days 32 = .ok (.getfield 167, 3) := by decide +kernel
theorem dX11_days_35 : decode cX11_days 35 = .ok (.ireturn, 1) := by decide +kernel
theorem dX11_tried_0 : decode cX11_tried 0 = .ok (.iload_n 2, 1) := by decide +kernel
theorem dX11_tried_1 : decode cX11_tried 1 = .ok (.sipush 200, 3) := by decide +kernel
theorem dX11_tried_4 : decode cX11_tried 4 = .ok (.if_icmp .lt 11, 3) := by decide +kernel
theorem dX11_tried_7 : decode cX11_tried 7 = .ok (.iload_n 2, 1) := by decide +kernel
theorem dX11_tried_8 : decode cX11_tried 8 = .ok (.sipush 200, 3) := by decide +kernel
theorem dX11_tried_11 : decode cX11_tried 11 = .ok (.isub, 1) := by decide +kernel
theorem dX11_tried_12 : decode cX11_tried 12 = .ok (.goto 7, 3) := by decide +kernel
theorem dX11_tried_15 : decode cX11_tried 15 = .ok (.iload_n 2, 1) := by decide +kernel
theorem dX11_tried_16 : decode cX11_tried 16 = .ok (.bipush 100, 2) := by decide +kernel
theorem dX11_tried_18 : decode cX11_tried 18 = .ok (.isub, 1) := by decide +kernel
theorem dX11_tried_19 : decode cX11_tried 19 = .ok (.istore_n 3, 1) := by decide +kernel
theorem dX11_tried_20 : decode cX11_tried 20 = .ok (.iload_n 2, 1) := by decide +kernel
theorem dX11_tried_21 : decode cX11_tried 21 = .ok (.iconst 0, 1) := by decide +kernel
theorem dX11_tried_22 : decode cX11_tried 22 = .ok (.iconst 2, 1) := by decide +kernel
theorem dX11_tried_23 : decode cX11_tried 23 = .ok (.invokestatic 104, 3) := by decide +kernel
theorem dX11_tried_26 : decode cX11_tried 26 = .ok (.ifCond .ne 20, 3) := by decide +kernel
theorem dX11_tried_29 : decode cX11_tried 29 = .ok (.iload_n 2, 1) := by decide +kernel
theorem dX11_tried_30 : decode cX11_tried 30 = .ok (.bipush 100, 2) := by decide +kernel
theorem dX11_tried_32 : decode cX11_tried 32 = .ok (.if_icmp .lt 18, 3) := by decide +kernel
theorem dX11_tried_35 : decode cX11_tried 35 = .ok (.aload_n 0, 1) := by decide +kernel
theorem dX11_tried_36 : decode cX11_tried 36 = .ok (.getfield 28, 3) := by decide +kernel
theorem dX11_tried_39 : decode cX11_tried 39 = .ok (.iload_n 3, 1) := by decide +kernel
theorem dX11_tried_40 : decode cX11_tried 40 = .ok (.invokevirtual 112, 3) := by decide +kernel
theorem dX11_tried_43 : decode cX11_tried 43 = .ok (.ifCond .eq 7, 3) := by decide +kernel
theorem dX11_tried_46 : decode cX11_tried 46 = .ok (.iconst 1, 1) := by decide +kernel
theorem dX11_tried_47 : decode cX11_tried 47 = .ok (.goto 4, 3) := by decide +kernel
theorem dX11_tried_50 : decode cX11_tried 50 = .ok (.iconst 0, 1) := by decide +kernel
theorem dX11_tried_51 : decode cX11_tried 51 = .ok (.istore 4, 2) := by decide +kernel
theorem dX11_tried_53 : decode cX11_tried 53 = .ok (.iload 4, 2) := by decide +kernel
theorem dX11_tried_55 : decode cX11_tried 55 = .ok (.ifCond .eq 13, 3) := by decide +kernel
theorem dX11_tried_58 : decode cX11_tried 58 = .ok (.iload_n 1, 1) := by decide +kernel
theorem dX11_tried_59 : decode cX11_tried 59 = .ok (.iconst 1, 1) := by decide +kernel
theorem dX11_tried_60 : decode cX11_tried 60 = .ok (.bipush 60, 2) := by decide +kernel
theorem dX11_tried_62 : decode cX11_tried 62 = .ok (.invokestatic 104, 3) := by decide +kernel
theorem dX11_tried_65 : decode cX11_tried 65 = .ok (.ifCond .ne 5, 3) := by decide +kernel
theorem dX11_tried_68 : decode cX11_tried 68 = .ok (.iconst (-1), 1) := by decide +kernel
theorem dX11_tried_69 : decode cX11_tried 69 = .ok (.ireturn, 1) := by decide +kernel
theorem dX11_tried_70 : decode cX11_tried 70 = .ok (.aload_n 0, 1) := by decide +kernel
theorem dX11_tried_71 : decode cX11_tried 71 = .ok (.getfield 35, 3) := by decide +kernel
theorem dX11_tried_74 : decode cX11_tried 74 = .ok (.aload_n 0, 1) := by decide +kernel
theorem dX11_tried_75 : decode cX11_tried 75 = .ok (.getfield 28, 3) := by decide +kernel
theorem dX11_tried_78 : decode cX11_tried 78 = .ok (.invokevirtual 170, 3) := by decide +kernel
theorem dX11_tried_81 : decode cX11_tried 81 = .ok (.aload_n 0, 1) := by decide +kernel
theorem dX11_tried_82 : decode cX11_tried 82 = .ok (.getfield 73, 3) := by decide +kernel
theorem dX11_tried_85 : decode cX11_tried 85 = .ok (.aload_n 0, 1) := by decide +kernel
theorem dX11_tried_86 : decode cX11_tried 86 = .ok (.getfield 35, 3) := by decide +kernel
theorem dX11_tried_89 : decode cX11_tried 89 = .ok (.aload_n 0, 1) := by decide +kernel
theorem dX11_tried_90 : decode cX11_tried 90 = .ok (.getfield 57, 3) := by decide +kernel
theorem dX11_tried_93 : decode cX11_tried 93 = .ok (.iload_n 1, 1) := by decide +kernel
theorem dX11_tried_94 : decode cX11_tried 94 = .ok (.invokevirtual 163, 3) := by decide +kernel
theorem dX11_tried_97 : decode cX11_tried 97 = .ok (.iload_n 2, 1) := by decide +kernel
theorem dX11_tried_98 : decode cX11_tried 98 = .ok (.tableswitch 50 0 2 #[26, 34, 42], 26) := by decide +kernel
theorem dX11_tried_124 : decode cX11_tried 124 = .ok (.aload_n 0, 1) := by decide +kernel
theorem dX11_tried_125 : decode cX11_tried 125 = .ok (.getfield 73, 3) := by decide +kernel
theorem dX11_tried_128 : decode cX11_tried 128 = .ok (.getfield 167, 3) := by decide +kernel
theorem dX11_tried_131 : decode cX11_tried 131 = .ok (.ireturn, 1) := by decide +kernel
theorem dX11_tried_132 : decode cX11_tried 132 = .ok (.aload_n 0, 1) := by decide +kernel
theorem dX11_tried_133 : decode cX11_tried 133 = .ok (.getfield 73, 3) := by decide +kernel
theorem dX11_tried_136 : decode cX11_tried 136 = .ok (.getfield 172, 3) := by decide +kernel
theorem dX11_tried_139 : decode cX11_tried 139 = .ok (.ireturn, 1) := by decide +kernel
theorem dX11_tried_140 : decode cX11_tried 140 = .ok (.aload_n 0, 1) := by decide +kernel
theorem dX11_tried_141 : decode cX11_tried 141 = .ok (.getfield 73, 3) := by decide +kernel
theorem dX11_tried_144 : decode cX11_tried 144 = .ok (.getfield 175, 3) := by decide +kernel
theorem dX11_tried_147 : decode cX11_tried 147 = .ok (.ireturn, 1) := by decide +kernel
theorem dX11_tried_148 : decode cX11_tried 148 = .ok (.iload_n 2, 1) := by decide +kernel
theorem dX11_tried_149 : decode cX11_tried 149 = .ok (.sipush 200, 3) := by decide +kernel
theorem dX11_tried_152 : decode cX11_tried 152 = .ok (.if_icmp .lt 14, 3) := by decide +kernel
theorem dX11_tried_155 : decode cX11_tried 155 = .ok (.aload_n 0, 1) := by decide +kernel
theorem dX11_tried_156 : decode cX11_tried 156 = .ok (.getfield 35, 3) := by decide +kernel
theorem dX11_tried_159 : decode cX11_tried 159 = .ok (.iload_n 3, 1) := by decide +kernel
theorem dX11_tried_160 : decode cX11_tried 160 = .ok (.invokevirtual 127, 3) := by decide +kernel
theorem dX11_tried_163 : decode cX11_tried 163 = .ok (.goto 11, 3) := by decide +kernel
theorem dX11_tried_166 : decode cX11_tried 166 = .ok (.aload_n 0, 1) := by decide +kernel
theorem dX11_tried_167 : decode cX11_tried 167 = .ok (.getfield 35, 3) := by decide +kernel
theorem dX11_tried_170 : decode cX11_tried 170 = .ok (.iload_n 3, 1) := by decide +kernel
theorem dX11_tried_171 : decode cX11_tried 171 = .ok (.invokevirtual 178, 3) := by decide +kernel
theorem dX11_tried_174 : decode cX11_tried 174 = .ok (.ireturn, 1) := by decide +kernel
theorem dX11_bottleIs_0 : decode cX11_bottleIs 0 = .ok (.aload_n 0, 1) := by decide +kernel
theorem dX11_bottleIs_1 : decode cX11_bottleIs 1 = .ok (.getfield 28, 3) := by decide +kernel
theorem dX11_bottleIs_4 : decode cX11_bottleIs 4 = .ok (.iload_n 1, 1) := by decide +kernel
theorem dX11_bottleIs_5 : decode cX11_bottleIs 5 = .ok (.invokevirtual 112, 3) := by decide +kernel
theorem dX11_bottleIs_8 : decode cX11_bottleIs 8 = .ok (.ifCond .ne 5, 3) := by decide +kernel
theorem dX11_bottleIs_11 : decode cX11_bottleIs 11 = .ok (.iconst (-1), 1) := by decide +kernel
theorem dX11_bottleIs_12 : decode cX11_bottleIs 12 = .ok (.ireturn, 1) := by decide +kernel
theorem dX11_bottleIs_13 : decode cX11_bottleIs 13 = .ok (.iload_n 2, 1) := by decide +kernel
theorem dX11_bottleIs_14 : decode cX11_bottleIs 14 = .ok (.tableswitch 79 0 4 #[34, 43, 52, 61, 70], 34) := by decide +kernel
theorem dX11_bottleIs_48 : decode cX11_bottleIs 48 = .ok (.aload_n 0, 1) := by decide +kernel
theorem dX11_bottleIs_49 : decode cX11_bottleIs 49 = .ok (.getfield 28, 3) := by decide +kernel
theorem dX11_bottleIs_52 : decode cX11_bottleIs 52 = .ok (.iload_n 1, 1) := by decide +kernel
theorem dX11_bottleIs_53 : decode cX11_bottleIs 53 = .ok (.invokevirtual 181, 3) := by decide +kernel
theorem dX11_bottleIs_56 : decode cX11_bottleIs 56 = .ok (.ireturn, 1) := by decide +kernel
theorem dX11_bottleIs_57 : decode cX11_bottleIs 57 = .ok (.aload_n 0, 1) := by decide +kernel
theorem dX11_bottleIs_58 : decode cX11_bottleIs 58 = .ok (.getfield 28, 3) := by decide +kernel
theorem dX11_bottleIs_61 : decode cX11_bottleIs 61 = .ok (.iload_n 1, 1) := by decide +kernel
theorem dX11_bottleIs_62 : decode cX11_bottleIs 62 = .ok (.invokevirtual 184, 3) := by decide +kernel
theorem dX11_bottleIs_65 : decode cX11_bottleIs 65 = .ok (.ireturn, 1) := by decide +kernel
theorem dX11_bottleIs_66 : decode cX11_bottleIs 66 = .ok (.aload_n 0, 1) := by decide +kernel
theorem dX11_bottleIs_67 : decode cX11_bottleIs 67 = .ok (.getfield 28, 3) := by decide +kernel
theorem dX11_bottleIs_70 : decode cX11_bottleIs 70 = .ok (.iload_n 1, 1) := by decide +kernel
theorem dX11_bottleIs_71 : decode cX11_bottleIs 71 = .ok (.invokevirtual 178, 3) := by decide +kernel
theorem dX11_bottleIs_74 : decode cX11_bottleIs 74 = .ok (.ireturn, 1) := by decide +kernel
theorem dX11_bottleIs_75 : decode cX11_bottleIs 75 = .ok (.aload_n 0, 1) := by decide +kernel
theorem dX11_bottleIs_76 : decode cX11_bottleIs 76 = .ok (.getfield 28, 3) := by decide +kernel
theorem dX11_bottleIs_79 : decode cX11_bottleIs 79 = .ok (.iload_n 1, 1) := by decide +kernel
theorem dX11_bottleIs_80 : decode cX11_bottleIs 80 = .ok (.invokevirtual 187, 3) := by decide +kernel
theorem dX11_bottleIs_83 : decode cX11_bottleIs 83 = .ok (.ireturn, 1) := by decide +kernel
theorem dX11_bottleIs_84 : decode cX11_bottleIs 84 = .ok (.aload_n 0, 1) := by decide +kernel
theorem dX11_bottleIs_85 : decode cX11_bottleIs 85 = .ok (.getfield 28, 3) := by decide +kernel
theorem dX11_bottleIs_88 : decode cX11_bottleIs 88 = .ok (.iload_n 1, 1) := by decide +kernel
theorem dX11_bottleIs_89 : decode cX11_bottleIs 89 = .ok (.invokevirtual 127, 3) := by decide +kernel
theorem dX11_bottleIs_92 : decode cX11_bottleIs 92 = .ok (.ireturn, 1) := by decide +kernel
theorem dX11_bottleIs_93 : decode cX11_bottleIs 93 = .ok (.iconst (-1), 1) := by decide +kernel
theorem dX11_bottleIs_94 : decode cX11_bottleIs 94 = .ok (.ireturn, 1) := by decide +kernel
theorem dX11_fear_0 : decode cX11_fear 0 = .ok (.aload_n 0, 1) := by decide +kernel
theorem dX11_fear_1 : decode cX11_fear 1 = .ok (.getfield 28, 3) := by decide +kernel
theorem dX11_fear_4 : decode cX11_fear 4 = .ok (.iload_n 1, 1) := by decide +kernel
theorem dX11_fear_5 : decode cX11_fear 5 = .ok (.invokevirtual 112, 3) := by decide +kernel
theorem dX11_fear_8 : decode cX11_fear 8 = .ok (.ifCond .eq 13, 3) := by decide +kernel
theorem dX11_fear_11 : decode cX11_fear 11 = .ok (.iload_n 2, 1) := by decide +kernel
theorem dX11_fear_12 : decode cX11_fear 12 = .ok (.iconst 0, 1) := by decide +kernel
theorem dX11_fear_13 : decode cX11_fear 13 = .ok (.bipush 15, 2) := by decide +kernel
theorem dX11_fear_15 : decode cX11_fear 15 = .ok (.invokestatic 104, 3) := by decide +kernel
theorem dX11_fear_18 : decode cX11_fear 18 = .ok (.ifCond .ne 5, 3) := by decide +kernel
theorem dX11_fear_21 : decode cX11_fear 21 = .ok (.iconst (-1), 1) := by decide +kernel
theorem dX11_fear_22 : decode cX11_fear 22 = .ok (.ireturn, 1) := by decide +kernel
theorem dX11_fear_23 : decode cX11_fear 23 = .ok (.iload_n 3, 1) := by decide +kernel
theorem dX11_fear_24 : decode cX11_fear 24 = .ok (.tableswitch 58 0 2 #[28, 38, 48], 28) := by decide +kernel
theorem dX11_fear_52 : decode cX11_fear 52 = .ok (.aload_n 0, 1) := by decide +kernel
theorem dX11_fear_53 : decode cX11_fear 53 = .ok (.getfield 28, 3) := by decide +kernel
theorem dX11_fear_56 : decode cX11_fear 56 = .ok (.iload_n 1, 1) := by decide +kernel
theorem dX11_fear_57 : decode cX11_fear 57 = .ok (.iload_n 2, 1) := by decide +kernel
theorem dX11_fear_58 : decode cX11_fear 58 = .ok (.invokevirtual 190, 3) := by decide +kernel
theorem dX11_fear_61 : decode cX11_fear 61 = .ok (.ireturn, 1) := by decide +kernel
theorem dX11_fear_62 : decode cX11_fear 62 = .ok (.aload_n 0, 1) := by decide +kernel
theorem dX11_fear_63 : decode cX11_fear 63 = .ok (.getfield 28, 3) := by decide +kernel
theorem dX11_fear_66 : decode cX11_fear 66 = .ok (.iload_n 1, 1) := by decide +kernel
theorem dX11_fear_67 : decode cX11_fear 67 = .ok (.iload_n 2, 1) := by decide +kernel
theorem dX11_fear_68 : decode cX11_fear 68 = .ok (.invokevirtual 194, 3) := by decide +kernel
theorem dX11_fear_71 : decode cX11_fear 71 = .ok (.ireturn, 1) := by decide +kernel
theorem dX11_fear_72 : decode cX11_fear 72 = .ok (.aload_n 0, 1) := by decide +kernel
theorem dX11_fear_73 : decode cX11_fear 73 = .ok (.getfield 28, 3) := by decide +kernel
theorem dX11_fear_76 : decode cX11_fear 76 = .ok (.iload_n 1, 1) := by decide +kernel
theorem dX11_fear_77 : decode cX11_fear 77 = .ok (.iload_n 2, 1) := by decide +kernel
theorem dX11_fear_78 : decode cX11_fear 78 = .ok (.invokevirtual 197, 3) := by decide +kernel
theorem dX11_fear_81 : decode cX11_fear 81 = .ok (.ireturn, 1) := by decide +kernel
theorem dX11_fear_82 : decode cX11_fear 82 = .ok (.iconst (-1), 1) := by decide +kernel
theorem dX11_fear_83 : decode cX11_fear 83 = .ok (.ireturn, 1) := by decide +kernel
theorem dX11_rhyme_0 : decode cX11_rhyme 0 = .ok (.iload_n 1, 1) := by decide +kernel
theorem dX11_rhyme_1 : decode cX11_rhyme 1 = .ok (.iconst 0, 1) := by decide +kernel
theorem dX11_rhyme_2 : decode cX11_rhyme 2 = .ok (.bipush 15, 2) := by decide +kernel
theorem dX11_rhyme_4 : decode cX11_rhyme 4 = .ok (.invokestatic 104, 3) := by decide +kernel
theorem dX11_rhyme_7 : decode cX11_rhyme 7 = .ok (.ifCond .eq 14, 3) := by decide +kernel
theorem dX11_rhyme_10 : decode cX11_rhyme 10 = .ok (.aload_n 0, 1) := by decide +kernel
theorem dX11_rhyme_11 : decode cX11_rhyme 11 = .ok (.getfield 19, 3) := by decide +kernel
theorem dX11_rhyme_14 : decode cX11_rhyme 14 = .ok (.iload_n 1, 1) := by decide +kernel
theorem dX11_rhyme_15 : decode cX11_rhyme 15 = .ok (.invokevirtual 200, 3) := by decide +kernel
theorem dX11_rhyme_18 : decode cX11_rhyme 18 = .ok (.goto 4, 3) := by decide +kernel
theorem dX11_rhyme_21 : decode cX11_rhyme 21 = .ok (.iconst (-1), 1) := by decide +kernel
theorem dX11_rhyme_22 : decode cX11_rhyme 22 = .ok (.ireturn, 1) := by decide +kernel
theorem dX11_used_0 : decode cX11_used 0 = .ok (.aload_n 0, 1) := by decide +kernel
theorem dX11_used_1 : decode cX11_used 1 = .ok (.getfield 28, 3) := by decide +kernel
theorem dX11_used_4 : decode cX11_used 4 = .ok (.iload_n 1, 1) := by decide +kernel
theorem dX11_used_5 : decode cX11_used 5 = .ok (.invokevirtual 112, 3) := by decide +kernel
theorem dX11_used_8 : decode cX11_used 8 = .ok (.ifCond .eq 23, 3) := by decide +kernel
theorem dX11_used_11 : decode cX11_used 11 = .ok (.iload_n 2, 1) := by decide +kernel
theorem dX11_used_12 : decode cX11_used 12 = .ok (.iconst 0, 1) := by decide +kernel
theorem dX11_used_13 : decode cX11_used 13 = .ok (.bipush 15, 2) := by decide +kernel
theorem dX11_used_15 : decode cX11_used 15 = .ok (.invokestatic 104, 3) := by decide +kernel
theorem dX11_used_18 : decode cX11_used 18 = .ok (.ifCond .eq 13, 3) := by decide +kernel
theorem dX11_used_21 : decode cX11_used 21 = .ok (.iload_n 3, 1) := by decide +kernel
theorem dX11_used_22 : decode cX11_used 22 = .ok (.iconst 1, 1) := by decide +kernel
theorem dX11_used_23 : decode cX11_used 23 = .ok (.bipush 60, 2) := by decide +kernel
theorem dX11_used_25 : decode cX11_used 25 = .ok (.invokestatic 104, 3) := by decide +kernel
theorem dX11_used_28 : decode cX11_used 28 = .ok (.ifCond .ne 5, 3) := by decide +kernel
theorem dX11_used_31 : decode cX11_used 31 = .ok (.iconst (-1), 1) := by decide +kernel
theorem dX11_used_32 : decode cX11_used 32 = .ok (.ireturn, 1) := by decide +kernel
theorem dX11_used_33 : decode cX11_used 33 = .ok (.aload_n 0, 1) := by decide +kernel
theorem dX11_used_34 : decode cX11_used 34 = .ok (.getfield 35, 3) := by decide +kernel
theorem dX11_used_37 : decode cX11_used 37 = .ok (.aload_n 0, 1) := by decide +kernel
theorem dX11_used_38 : decode cX11_used 38 = .ok (.getfield 28, 3) := by decide +kernel
theorem dX11_used_41 : decode cX11_used 41 = .ok (.invokevirtual 170, 3) := by decide +kernel
theorem dX11_used_44 : decode cX11_used 44 = .ok (.iconst 0, 1) := by decide +kernel
theorem dX11_used_45 : decode cX11_used 45 = .ok (.istore 4, 2) := by decide +kernel
theorem dX11_used_47 : decode cX11_used 47 = .ok (.iload 4, 2) := by decide +kernel
theorem dX11_used_49 : decode cX11_used 49 = .ok (.iload_n 3, 1) := by decide +kernel
theorem dX11_used_50 : decode cX11_used 50 = .ok (.if_icmp .gt 45, 3) := by decide +kernel
theorem dX11_used_53 : decode cX11_used 53 = .ok (.iload 4, 2) := by decide +kernel
theorem dX11_used_55 : decode cX11_used 55 = .ok (.ifCond .le 19, 3) := by decide +kernel
theorem dX11_used_58 : decode cX11_used 58 = .ok (.aload_n 0, 1) := by decide +kernel
theorem dX11_used_59 : decode cX11_used 59 = .ok (.getfield 73, 3) := by decide +kernel
theorem dX11_used_62 : decode cX11_used 62 = .ok (.aload_n 0, 1) := by decide +kernel
theorem dX11_used_63 : decode cX11_used 63 = .ok (.getfield 35, 3) := by decide +kernel
theorem dX11_used_66 : decode cX11_used 66 = .ok (.aload_n 0, 1) := by decide +kernel
theorem dX11_used_67 : decode cX11_used 67 = .ok (.getfield 57, 3) := by decide +kernel
theorem dX11_used_70 : decode cX11_used 70 = .ok (.iconst 1, 1) := by decide +kernel
theorem dX11_used_71 : decode cX11_used 71 = .ok (.invokevirtual 163, 3) := by decide +kernel
theorem dX11_used_74 : decode cX11_used 74 = .ok (.aload_n 0, 1) := by decide +kernel
theorem dX11_used_75 : decode cX11_used 75 = .ok (.getfield 35, 3) := by decide +kernel
theorem dX11_used_78 : decode cX11_used 78 = .ok (.iload_n 1, 1) := by decide +kernel
theorem dX11_used_79 : decode cX11_used 79 = .ok (.iload_n 2, 1) := by decide +kernel
theorem dX11_used_80 : decode cX11_used 80 = .ok (.invokevirtual 203, 3) := by decide +kernel
theorem dX11_used_83 : decode cX11_used 83 = .ok (.ifCond .eq 6, 3) := by decide +kernel
theorem dX11_used_86 : decode cX11_used 86 = .ok (.iload 4, 2) := by decide +kernel
theorem dX11_used_88 : decode cX11_used 88 = .ok (.ireturn, 1) := by decide +kernel
theorem dX11_used_89 : decode cX11_used 89 = .ok (.iinc 4 1, 3) := by decide +kernel
theorem dX11_used_92 : decode cX11_used 92 = .ok (.goto (-45), 3) := by decide +kernel
theorem dX11_used_95 : decode cX11_used 95 = .ok (.bipush (-2), 2) := by decide +kernel
theorem dX11_used_97 : decode cX11_used 97 = .ok (.ireturn, 1) := by decide +kernel
theorem dX11_changes_0 : decode cX11_changes 0 = .ok (.iload_n 1, 1) := by decide +kernel
theorem dX11_changes_1 : decode cX11_changes 1 = .ok (.iconst 0, 1) := by decide +kernel
theorem dX11_changes_2 : decode cX11_changes 2 = .ok (.bipush 47, 2) := by decide +kernel
theorem dX11_changes_4 : decode cX11_changes 4 = .ok (.invokestatic 104, 3) := by decide +kernel
theorem dX11_changes_7 : decode cX11_changes 7 = .ok (.ifCond .ne 16, 3) := by decide +kernel
theorem dX11_changes_10 : decode cX11_changes 10 = .ok (.iload_n 1, 1) := by decide +kernel
theorem dX11_changes_11 : decode cX11_changes 11 = .ok (.bipush 100, 2) := by decide +kernel
theorem dX11_changes_13 : decode cX11_changes 13 = .ok (.bipush 101, 2) := by decide +kernel
theorem dX11_changes_15 : decode cX11_changes 15 = .ok (.invokestatic 104, 3) := by decide +kernel
theorem dX11_changes_18 : decode cX11_changes 18 = .ok (.ifCond .ne 5, 3) := by decide +kernel
theorem dX11_changes_21 : decode cX11_changes 21 = .ok (.iconst (-1), 1) := by decide +kernel
theorem dX11_changes_22 : decode cX11_changes 22 = .ok (.ireturn, 1) := by decide +kernel
theorem dX11_changes_23 : decode cX11_changes 23 = .ok (.iload_n 1, 1) := by decide +kernel
theorem dX11_changes_24 : decode cX11_changes 24 = .ok (.bipush 100, 2) := by decide +kernel
theorem dX11_changes_26 : decode cX11_changes 26 = .ok (.if_icmp .ge 17, 3) := by decide +kernel
theorem dX11_changes_29 : decode cX11_changes 29 = .ok (.iload_n 1, 1) := by decide +kernel
theorem dX11_changes_30 : decode cX11_changes 30 = .ok (.aload_n 0, 1) := by decide +kernel
theorem dX11_changes_31 : decode cX11_changes 31 = .ok (.getfield 43, 3) := by decide +kernel
theorem dX11_changes_34 : decode cX11_changes 34 = .ok (.getfield 207, 3) := by decide +kernel
theorem dX11_changes_37 : decode cX11_changes 37 = .ok (.if_icmp .lt 6, 3) := by decide +kernel
theorem dX11_changes_40 : decode cX11_changes 40 = .ok (.bipush (-4), 2) := by decide +kernel
theorem dX11_changes_42 : decode cX11_changes 42 = .ok (.ireturn, 1) := by decide +kernel
theorem dX11_changes_43 : decode cX11_changes 43 = .ok (.aload_n 0, 1) := by decide +kernel
theorem dX11_changes_44 : decode cX11_changes 44 = .ok (.getfield 80, 3) := by decide +kernel
theorem dX11_changes_47 : decode cX11_changes 47 = .ok (.aload_n 0, 1) := by decide +kernel
theorem dX11_changes_48 : decode cX11_changes 48 = .ok (.getfield 28, 3) := by decide +kernel
theorem dX11_changes_51 : decode cX11_changes 51 = .ok (.invokevirtual 208, 3) := by decide +kernel
theorem dX11_changes_54 : decode cX11_changes 54 = .ok (.iload_n 1, 1) := by decide +kernel
theorem dX11_changes_55 : decode cX11_changes 55 = .ok (.bipush 100, 2) := by decide +kernel
theorem dX11_changes_57 : decode cX11_changes 57 = .ok (.if_icmp .ne 11, 3) := by decide +kernel
theorem dX11_changes_60 : decode cX11_changes 60 = .ok (.aload_n 0, 1) := by decide +kernel
theorem dX11_changes_61 : decode cX11_changes 61 = .ok (.getfield 80, 3) := by decide +kernel
theorem dX11_changes_64 : decode cX11_changes 64 = .ok (.getfield 211, 3) := by decide +kernel
theorem dX11_changes_67 : decode cX11_changes 67 = .ok (.ireturn, 1) := by decide +kernel
theorem dX11_changes_68 : decode cX11_changes 68 = .ok (.iload_n 1, 1) := by decide +kernel
theorem dX11_changes_69 : decode cX11_changes 69 = .ok (.bipush 101, 2) := by decide +kernel
theorem dX11_changes_71 : decode cX11_changes 71 = .ok (.if_icmp .ne 13, 3) := by decide +kernel
theorem dX11_changes_74 : decode cX11_changes 74 = .ok (.aload_n 0, 1) := by decide +kernel
theorem dX11_changes_75 : decode cX11_changes 75 = .ok (.getfield 80, 3) := by decide +kernel
theorem dX11_changes_78 : decode cX11_changes 78 = .ok (.getfield 214, 3) := by decide +kernel
theorem dX11_changes_81 : decode cX11_changes 81 = .ok (.goto 11, 3) := by decide +kernel
theorem dX11_changes_84 : decode cX11_changes 84 = .ok (.aload_n 0, 1) := by decide +kernel
theorem dX11_changes_85 : decode cX11_changes 85 = .ok (.getfield 80, 3) := by decide +kernel
theorem dX11_changes_88 : decode cX11_changes 88 = .ok (.iload_n 1, 1) := by decide +kernel
theorem dX11_changes_89 : decode cX11_changes 89 = .ok (.invokevirtual 215, 3) := by decide +kernel
theorem dX11_changes_92 : decode cX11_changes 92 = .ok (.ireturn, 1) := by decide +kernel
theorem dX11_leastSalt_0 : decode cX11_leastSalt 0 = .ok (.aload_n 0, 1) := by decide +kernel
theorem dX11_leastSalt_1 : decode cX11_leastSalt 1 = .ok (.getfield 28, 3) := by decide +kernel
theorem dX11_leastSalt_4 : decode cX11_leastSalt 4 = .ok (.iload_n 1, 1) := by decide +kernel
theorem dX11_leastSalt_5 : decode cX11_leastSalt 5 = .ok (.invokevirtual 112, 3) := by decide +kernel
theorem dX11_leastSalt_8 : decode cX11_leastSalt 8 = .ok (.ifCond .ne 5, 3) := by decide +kernel
theorem dX11_leastSalt_11 : decode cX11_leastSalt 11 = .ok (.iconst (-1), 1) := by decide +kernel
theorem dX11_leastSalt_12 : decode cX11_leastSalt 12 = .ok (.ireturn, 1) := by decide +kernel
theorem dX11_leastSalt_13 : decode cX11_leastSalt 13 = .ok (.aload_n 0, 1) := by decide +kernel
theorem dX11_leastSalt_14 : decode cX11_leastSalt 14 = .ok (.getfield 28, 3) := by decide +kernel
theorem dX11_leastSalt_17 : decode cX11_leastSalt 17 = .ok (.iload_n 1, 1) := by decide +kernel
theorem dX11_leastSalt_18 : decode cX11_leastSalt 18 = .ok (.invokevirtual 184, 3) := by decide +kernel
theorem dX11_leastSalt_21 : decode cX11_leastSalt 21 = .ok (.istore_n 2, 1) := by decide +kernel
theorem dX11_leastSalt_22 : decode cX11_leastSalt 22 = .ok (.aload_n 0, 1) := by decide +kernel
theorem dX11_leastSalt_23 : decode cX11_leastSalt 23 = .ok (.getfield 43, 3) := by decide +kernel
theorem dX11_leastSalt_26 : decode cX11_leastSalt 26 = .ok (.invokevirtual 218, 3) := by decide +kernel
theorem dX11_leastSalt_29 : decode cX11_leastSalt 29 = .ok (.istore_n 3, 1) := by decide +kernel
theorem dX11_leastSalt_30 : decode cX11_leastSalt 30 = .ok (.iconst 0, 1) := by decide +kernel
theorem dX11_leastSalt_31 : decode cX11_leastSalt 31 = .ok (.istore 4, 2) := by decide +kernel
theorem dX11_leastSalt_33 : decode cX11_leastSalt 33 = .ok (.iload_n 2, 1) := by decide +kernel
theorem dX11_leastSalt_34 : decode cX11_leastSalt 34 = .ok (.iload 4, 2) := by decide +kernel
theorem dX11_leastSalt_36 : decode cX11_leastSalt 36 = .ok (.iadd, 1) := by decide +kernel
theorem dX11_leastSalt_37 : decode cX11_leastSalt 37 = .ok (.bipush 99, 2) := by decide +kernel
theorem dX11_leastSalt_39 : decode cX11_leastSalt 39 = .ok (.if_icmp .gt 28, 3) := by decide +kernel
theorem dX11_leastSalt_42 : decode cX11_leastSalt 42 = .ok (.aload_n 0, 1) := by decide +kernel
theorem dX11_leastSalt_43 : decode cX11_leastSalt 43 = .ok (.getfield 28, 3) := by decide +kernel
theorem dX11_leastSalt_46 : decode cX11_leastSalt 46 = .ok (.iload_n 1, 1) := by decide +kernel
theorem dX11_leastSalt_47 : decode cX11_leastSalt 47 = .ok (.iload_n 3, 1) := by decide +kernel
theorem dX11_leastSalt_48 : decode cX11_leastSalt 48 = .ok (.iload_n 2, 1) := by decide +kernel
theorem dX11_leastSalt_49 : decode cX11_leastSalt 49 = .ok (.iload 4, 2) := by decide +kernel
theorem dX11_leastSalt_51 : decode cX11_leastSalt 51 = .ok (.iadd, 1) := by decide +kernel
theorem dX11_leastSalt_52 : decode cX11_leastSalt 52 = .ok (.invokevirtual 222, 3) := by decide +kernel
theorem dX11_leastSalt_55 : decode cX11_leastSalt 55 = .ok (.ifCond .eq 6, 3) := by decide +kernel
theorem dX11_leastSalt_58 : decode cX11_leastSalt 58 = .ok (.iload 4, 2) := by decide +kernel
theorem dX11_leastSalt_60 : decode cX11_leastSalt 60 = .ok (.ireturn, 1) := by decide +kernel
theorem dX11_leastSalt_61 : decode cX11_leastSalt 61 = .ok (.iinc 4 1, 3) := by decide +kernel
theorem dX11_leastSalt_64 : decode cX11_leastSalt 64 = .ok (.goto (-31), 3) := by decide +kernel
theorem dX11_leastSalt_67 : decode cX11_leastSalt 67 = .ok (.bipush 100, 2) := by decide +kernel
theorem dX11_leastSalt_69 : decode cX11_leastSalt 69 = .ok (.ireturn, 1) := by decide +kernel
theorem dX11_mixture_0 : decode cX11_mixture 0 = .ok (.aload_n 0, 1) := by decide +kernel
theorem dX11_mixture_1 : decode cX11_mixture 1 = .ok (.getfield 28, 3) := by decide +kernel
theorem dX11_mixture_4 : decode cX11_mixture 4 = .ok (.iload_n 1, 1) := by decide +kernel
theorem dX11_mixture_5 : decode cX11_mixture 5 = .ok (.invokevirtual 112, 3) := by decide +kernel
theorem dX11_mixture_8 : decode cX11_mixture 8 = .ok (.ifCond .eq 28, 3) := by decide +kernel
theorem dX11_mixture_11 : decode cX11_mixture 11 = .ok (.aload_n 0, 1) := by decide +kernel
theorem dX11_mixture_12 : decode cX11_mixture 12 = .ok (.getfield 28, 3) := by decide +kernel
theorem dX11_mixture_15 : decode cX11_mixture 15 = .ok (.iload_n 2, 1) := by decide +kernel
theorem dX11_mixture_16 : decode cX11_mixture 16 = .ok (.invokevirtual 112, 3) := by decide +kernel
theorem dX11_mixture_19 : decode cX11_mixture 19 = .ok (.ifCond .eq 17, 3) := by decide +kernel
theorem dX11_mixture_22 : decode cX11_mixture 22 = .ok (.iload_n 1, 1) := by decide +kernel
theorem dX11_mixture_23 : decode cX11_mixture 23 = .ok (.iload_n 2, 1) := by decide +kernel
theorem dX11_mixture_24 : decode cX11_mixture 24 = .ok (.if_icmp .eq 12, 3) := by decide +kernel
theorem dX11_mixture_27 : decode cX11_mixture 27 = .ok (.iload_n 3, 1) := by decide +kernel
theorem dX11_mixture_28 : decode cX11_mixture 28 = .ok (.iconst 0, 1) := by decide +kernel
theorem dX11_mixture_29 : decode cX11_mixture 29 = .ok (.iconst 1, 1) := by decide +kernel
theorem dX11_mixture_30 : decode cX11_mixture 30 = .ok (.invokestatic 104, 3) := by decide +kernel
theorem dX11_mixture_33 : decode cX11_mixture 33 = .ok (.ifCond .ne 5, 3) := by decide +kernel
theorem dX11_mixture_36 : decode cX11_mixture 36 = .ok (.iconst (-1), 1) := by decide +kernel
theorem dX11_mixture_37 : decode cX11_mixture 37 = .ok (.ireturn, 1) := by decide +kernel
theorem dX11_mixture_38 : decode cX11_mixture 38 = .ok (.aload_n 0, 1) := by decide +kernel
theorem dX11_mixture_39 : decode cX11_mixture 39 = .ok (.getfield 43, 3) := by decide +kernel
theorem dX11_mixture_42 : decode cX11_mixture 42 = .ok (.invokevirtual 218, 3) := by decide +kernel
theorem dX11_mixture_45 : decode cX11_mixture 45 = .ok (.istore 4, 2) := by decide +kernel
theorem dX11_mixture_47 : decode cX11_mixture 47 = .ok (.bipush (-2), 2) := by decide +kernel
theorem dX11_mixture_49 : decode cX11_mixture 49 = .ok (.istore 5, 2) := by decide +kernel
theorem dX11_mixture_51 : decode cX11_mixture 51 = .ok (.iconst 0, 1) := by decide +kernel
theorem dX11_mixture_52 : decode cX11_mixture 52 = .ok (.istore 6, 2) := by decide +kernel
theorem dX11_mixture_54 : decode cX11_mixture 54 = .ok (.bipush 8, 2) := by decide +kernel
theorem dX11_mixture_56 : decode cX11_mixture 56 = .ok (.istore 7, 2) := by decide +kernel
theorem dX11_mixture_58 : decode cX11_mixture 58 = .ok (.iload 7, 2) := by decide +kernel
theorem dX11_mixture_60 : decode cX11_mixture 60 = .ok (.ifCond .lt 32, 3) := by decide +kernel
theorem dX11_mixture_63 : decode cX11_mixture 63 = .ok (.aload_n 0, 1) := by decide +kernel
theorem dX11_mixture_64 : decode cX11_mixture 64 = .ok (.getfield 28, 3) := by decide +kernel
theorem dX11_mixture_67 : decode cX11_mixture 67 = .ok (.iload_n 1, 1) := by decide +kernel
theorem dX11_mixture_68 : decode cX11_mixture 68 = .ok (.iload_n 2, 1) := by decide +kernel
theorem dX11_mixture_69 : decode cX11_mixture 69 = .ok (.iload 7, 2) := by decide +kernel
theorem dX11_mixture_71 : decode cX11_mixture 71 = .ok (.iload 4, 2) := by decide +kernel
theorem dX11_mixture_73 : decode cX11_mixture 73 = .ok (.invokevirtual 225, 3) := by decide +kernel
theorem dX11_mixture_76 : decode cX11_mixture 76 = .ok (.ifCond .eq 10, 3) := by decide +kernel
theorem dX11_mixture_79 : decode cX11_mixture 79 = .ok (.iload 7, 2) := by decide +kernel
theorem dX11_mixture_81 : decode cX11_mixture 81 = .ok (.istore 5, 2) := by decide +kernel
theorem dX11_mixture_83 : decode cX11_mixture 83 = .ok (.iinc 6 1, 3) := by decide +kernel
theorem dX11_mixture_86 : decode cX11_mixture 86 = .ok (.iinc 7 (-1), 3) := by decide +kernel
theorem dX11_mixture_89 : decode cX11_mixture 89 = .ok (.goto (-31), 3) := by decide +kernel
theorem dX11_mixture_92 : decode cX11_mixture 92 = .ok (.iload_n 3, 1) := by decide +kernel
theorem dX11_mixture_93 : decode cX11_mixture 93 = .ok (.ifCond .ne 8, 3) := by decide +kernel
theorem dX11_mixture_96 : decode cX11_mixture 96 = .ok (.iload 5, 2) := by decide +kernel
theorem dX11_mixture_98 : decode cX11_mixture 98 = .ok (.goto 5, 3) := by decide +kernel
theorem dX11_mixture_101 : decode cX11_mixture 101 = .ok (.iload 6, 2) := by decide +kernel
theorem dX11_mixture_103 : decode cX11_mixture 103 = .ok (.ireturn, 1) := by decide +kernel
theorem dX11_whose_0 : decode cX11_whose 0 = .ok (.iload_n 1, 1) := by decide +kernel
theorem dX11_whose_1 : decode cX11_whose 1 = .ok (.iconst 1, 1) := by decide +kernel
theorem dX11_whose_2 : decode cX11_whose 2 = .ok (.bipush 12, 2) := by decide +kernel
theorem dX11_whose_4 : decode cX11_whose 4 = .ok (.invokestatic 104, 3) := by decide +kernel
theorem dX11_whose_7 : decode cX11_whose 7 = .ok (.ifCond .eq 16, 3) := by decide +kernel
theorem dX11_whose_10 : decode cX11_whose 10 = .ok (.aload_n 0, 1) := by decide +kernel
theorem dX11_whose_11 : decode cX11_whose 11 = .ok (.getfield 10, 3) := by decide +kernel
theorem dX11_whose_14 : decode cX11_whose 14 = .ok (.iconst 2, 1) := by decide +kernel
theorem dX11_whose_15 : decode cX11_whose 15 = .ok (.iload_n 1, 1) := by decide +kernel
theorem dX11_whose_16 : decode cX11_whose 16 = .ok (.imul, 1) := by decide +kernel
theorem dX11_whose_17 : decode cX11_whose 17 = .ok (.invokevirtual 141, 3) := by decide +kernel
theorem dX11_whose_20 : decode cX11_whose 20 = .ok (.ifCond .ne 5, 3) := by decide +kernel
theorem dX11_whose_23 : decode cX11_whose 23 = .ok (.iconst (-1), 1) := by decide +kernel
theorem dX11_whose_24 : decode cX11_whose 24 = .ok (.ireturn, 1) := by decide +kernel
theorem dX11_whose_25 : decode cX11_whose 25 = .ok (.aload_n 0, 1) := by decide +kernel
theorem dX11_whose_26 : decode cX11_whose 26 = .ok (.iload_n 1, 1) := by decide +kernel
theorem dX11_whose_27 : decode cX11_whose 27 = .ok (.invokevirtual 229, 3) := by decide +kernel
theorem dX11_whose_30 : decode cX11_whose 30 = .ok (.istore_n 2, 1) := by decide +kernel
theorem dX11_whose_31 : decode cX11_whose 31 = .ok (.aload_n 0, 1) := by decide +kernel
theorem dX11_whose_32 : decode cX11_whose 32 = .ok (.getfield 10, 3) := by decide +kernel
theorem dX11_whose_35 : decode cX11_whose 35 = .ok (.invokevirtual 147, 3) := by decide +kernel
theorem dX11_whose_38 : decode cX11_whose 38 = .ok (.iload_n 2, 1) := by decide +kernel
theorem dX11_whose_39 : decode cX11_whose 39 = .ok (.ireturn, 1) := by decide +kernel
theorem dX11_next_0 : decode cX11_next 0 = .ok (.iload_n 1, 1) := by decide +kernel
theorem dX11_next_1 : decode cX11_next 1 = .ok (.ifCond .eq 26, 3) := by decide +kernel
theorem dX11_next_4 : decode cX11_next 4 = .ok (.iload_n 1, 1) := by decide +kernel
theorem dX11_next_5 : decode cX11_next 5 = .ok (.aload_n 0, 1) := by decide +kernel
theorem dX11_next_6 : decode cX11_next 6 = .ok (.getfield 28, 3) := by decide +kernel
theorem dX11_next_9 : decode cX11_next 9 = .ok (.getfield 232, 3) := by decide +kernel
theorem dX11_next_12 : decode cX11_next 12 = .ok (.iconst (-1), 1) := by decide +kernel
theorem dX11_next_13 : decode cX11_next 13 = .ok (.ixor, 1) := by decide +kernel
theorem dX11_next_14 : decode cX11_next 14 = .ok (.iand, 1) := by decide +kernel
theorem dX11_next_15 : decode cX11_next 15 = .ok (.ifCond .ne 12, 3) := by decide +kernel
theorem dX11_next_18 : decode cX11_next 18 = .ok (.iload_n 2, 1) := by decide +kernel
theorem dX11_next_19 : decode cX11_next 19 = .ok (.iconst 0, 1) := by decide +kernel
theorem dX11_next_20 : decode cX11_next 20 = .ok (.iconst 1, 1) := by decide +kernel
theorem dX11_next_21 : decode cX11_next 21 = .ok (.invokestatic 104, 3) := by decide +kernel
theorem dX11_next_24 : decode cX11_next 24 = .ok (.ifCond .ne 5, 3) := by decide +kernel
theorem dX11_next_27 : decode cX11_next 27 = .ok (.iconst (-1), 1) := by decide +kernel
theorem dX11_next_28 : decode cX11_next 28 = .ok (.ireturn, 1) := by decide +kernel
theorem dX11_next_29 : decode cX11_next 29 = .ok (.iload_n 1, 1) := by decide +kernel
theorem dX11_next_30 : decode cX11_next 30 = .ok (.invokestatic 235, 3) := by decide +kernel
theorem dX11_next_33 : decode cX11_next 33 = .ok (.istore_n 3, 1) := by decide +kernel
theorem dX11_next_34 : decode cX11_next 34 = .ok (.iconst 0, 1) := by decide +kernel
theorem dX11_next_35 : decode cX11_next 35 = .ok (.istore 4, 2) := by decide +kernel
theorem dX11_next_37 : decode cX11_next 37 = .ok (.bipush 9, 2) := by decide +kernel
theorem dX11_next_39 : decode cX11_next 39 = .ok (.istore 5, 2) := by decide +kernel
theorem dX11_next_41 : decode cX11_next 41 = .ok (.iconst 0, 1) := by decide +kernel
theorem dX11_next_42 : decode cX11_next 42 = .ok (.istore 6, 2) := by decide +kernel
theorem dX11_next_44 : decode cX11_next 44 = .ok (.iload 6, 2) := by decide +kernel
theorem dX11_next_46 : decode cX11_next 46 = .ok (.bipush 16, 2) := by decide +kernel
theorem dX11_next_48 : decode cX11_next 48 = .ok (.if_icmp .ge 51, 3) := by decide +kernel
theorem dX11_next_51 : decode cX11_next 51 = .ok (.aload_n 0, 1) := by decide +kernel
theorem dX11_next_52 : decode cX11_next 52 = .ok (.getfield 28, 3) := by decide +kernel
theorem dX11_next_55 : decode cX11_next 55 = .ok (.iload 6, 2) := by decide +kernel
theorem dX11_next_57 : decode cX11_next 57 = .ok (.invokevirtual 240, 3) := by decide +kernel
theorem dX11_next_60 : decode cX11_next 60 = .ok (.iload_n 1, 1) := by decide +kernel
theorem dX11_next_61 : decode cX11_next 61 = .ok (.iand, 1) := by decide +kernel
theorem dX11_next_62 : decode cX11_next 62 = .ok (.invokestatic 235, 3) := by decide +kernel
theorem dX11_next_65 : decode cX11_next 65 = .ok (.istore 7, 2) := by decide +kernel
theorem dX11_next_67 : decode cX11_next 67 = .ok (.iload 7, 2) := by decide +kernel
theorem dX11_next_69 : decode cX11_next 69 = .ok (.iload_n 3, 1) := by decide +kernel
theorem dX11_next_70 : decode cX11_next 70 = .ok (.iload 7, 2) := by decide +kernel
theorem dX11_next_72 : decode cX11_next 72 = .ok (.isub, 1) := by decide +kernel
theorem dX11_next_73 : decode cX11_next 73 = .ok (.invokestatic 243, 3) := by decide +kernel
theorem dX11_next_76 : decode cX11_next 76 = .ok (.istore 8, 2) := by decide +kernel
theorem dX11_next_78 : decode cX11_next 78 = .ok (.iload 8, 2) := by decide +kernel
theorem dX11_next_80 : decode cX11_next 80 = .ok (.iload 5, 2) := by decide +kernel
theorem dX11_next_82 : decode cX11_next 82 = .ok (.if_icmp .ge 11, 3) := by decide +kernel
theorem dX11_next_85 : decode cX11_next 85 = .ok (.iload 8, 2) := by decide +kernel
theorem dX11_next_87 : decode cX11_next 87 = .ok (.istore 5, 2) := by decide +kernel
theorem dX11_next_89 : decode cX11_next 89 = .ok (.iload 6, 2) := by decide +kernel
theorem dX11_next_91 : decode cX11_next 91 = .ok (.istore 4, 2) := by decide +kernel
theorem dX11_next_93 : decode cX11_next 93 = .ok (.iinc 6 1, 3) := by decide +kernel
theorem dX11_next_96 : decode cX11_next 96 = .ok (.goto (-52), 3) := by decide +kernel
theorem dX11_next_99 : decode cX11_next 99 = .ok (.iload_n 2, 1) := by decide +kernel
theorem dX11_next_100 : decode cX11_next 100 = .ok (.ifCond .ne 8, 3) := by decide +kernel
theorem dX11_next_103 : decode cX11_next 103 = .ok (.iload 4, 2) := by decide +kernel
theorem dX11_next_105 : decode cX11_next 105 = .ok (.goto 5, 3) := by decide +kernel
theorem dX11_next_108 : decode cX11_next 108 = .ok (.iload 5, 2) := by decide +kernel
theorem dX11_next_110 : decode cX11_next 110 = .ok (.ireturn, 1) := by decide +kernel
theorem dX11_guard_0 : decode cX11_guard 0 = .ok (.iload_n 1, 1) := by decide +kernel
theorem dX11_guard_1 : decode cX11_guard 1 = .ok (.iconst 0, 1) := by decide +kernel
theorem dX11_guard_2 : decode cX11_guard 2 = .ok (.iconst 1, 1) := by decide +kernel
theorem dX11_guard_3 : decode cX11_guard 3 = .ok (.invokestatic 104, 3) := by decide +kernel
theorem dX11_guard_6 : decode cX11_guard 6 = .ok (.ifCond .ne 5, 3) := by decide +kernel
theorem dX11_guard_9 : decode cX11_guard 9 = .ok (.iconst (-1), 1) := by decide +kernel
theorem dX11_guard_10 : decode cX11_guard 10 = .ok (.ireturn, 1) := by decide +kernel
theorem dX11_guard_11 : decode cX11_guard 11 = .ok (.aload_n 0, 1) := by decide +kernel
theorem dX11_guard_12 : decode cX11_guard 12 = .ok (.getfield 96, 3) := by decide +kernel
theorem dX11_guard_15 : decode cX11_guard 15 = .ok (.aload_n 0, 1) := by decide +kernel
theorem dX11_guard_16 : decode cX11_guard 16 = .ok (.getfield 28, 3) := by decide +kernel
theorem dX11_guard_19 : decode cX11_guard 19 = .ok (.invokevirtual 248, 3) := by decide +kernel
theorem dX11_guard_22 : decode cX11_guard 22 = .ok (.istore_n 2, 1) := by decide +kernel
theorem dX11_guard_23 : decode cX11_guard 23 = .ok (.iload_n 1, 1) := by decide +kernel
theorem dX11_guard_24 : decode cX11_guard 24 = .ok (.ifCond .ne 14, 3) := by decide +kernel
theorem dX11_guard_27 : decode cX11_guard 27 = .ok (.iload_n 2, 1) := by decide +kernel
theorem dX11_guard_28 : decode cX11_guard 28 = .ok (.ifCond .lt 10, 3) := by decide +kernel
theorem dX11_guard_31 : decode cX11_guard 31 = .ok (.iload_n 2, 1) := by decide +kernel
theorem dX11_guard_32 : decode cX11_guard 32 = .ok (.invokestatic 235, 3) := by decide +kernel
theorem dX11_guard_35 : decode cX11_guard 35 = .ok (.goto 4, 3) := by decide +kernel
theorem dX11_guard_38 : decode cX11_guard 38 = .ok (.iload_n 2, 1) := by decide +kernel
theorem dX11_guard_39 : decode cX11_guard 39 = .ok (.ireturn, 1) := by decide +kernel
theorem dX11_training_0 : decode cX11_training 0 = .ok (.aload_n 0, 1) := by decide +kernel
theorem dX11_training_1 : decode cX11_training 1 = .ok (.getfield 28, 3) := by decide +kernel
theorem dX11_training_4 : decode cX11_training 4 = .ok (.iload_n 1, 1) := by decide +kernel
theorem dX11_training_5 : decode cX11_training 5 = .ok (.invokevirtual 112, 3) := by decide +kernel
theorem dX11_training_8 : decode cX11_training 8 = .ok (.ifCond .eq 33, 3) := by decide +kernel
theorem dX11_training_11 : decode cX11_training 11 = .ok (.iload_n 2, 1) := by decide +kernel
theorem dX11_training_12 : decode cX11_training 12 = .ok (.iconst 1, 1) := by decide +kernel
theorem dX11_training_13 : decode cX11_training 13 = .ok (.bipush 6, 2) := by decide +kernel
theorem dX11_training_15 : decode cX11_training 15 = .ok (.invokestatic 104, 3) := by decide +kernel
theorem dX11_training_18 : decode cX11_training 18 = .ok (.ifCond .eq 23, 3) := by decide +kernel
theorem dX11_training_21 : decode cX11_training 21 = .ok (.iload_n 3, 1) := by decide +kernel
theorem dX11_training_22 : decode cX11_training 22 = .ok (.iconst 0, 1) := by decide +kernel
theorem dX11_training_23 : decode cX11_training 23 = .ok (.iconst 1, 1) := by decide +kernel
theorem dX11_training_24 : decode cX11_training 24 = .ok (.invokestatic 104, 3) := by decide +kernel
theorem dX11_training_27 : decode cX11_training 27 = .ok (.ifCond .eq 14, 3) := by decide +kernel
theorem dX11_training_30 : decode cX11_training 30 = .ok (.aload_n 0, 1) := by decide +kernel
theorem dX11_training_31 : decode cX11_training 31 = .ok (.getfield 10, 3) := by decide +kernel
theorem dX11_training_34 : decode cX11_training 34 = .ok (.iload_n 2, 1) := by decide +kernel
theorem dX11_training_35 : decode cX11_training 35 = .ok (.invokevirtual 141, 3) := by decide +kernel
theorem dX11_training_38 : decode cX11_training 38 = .ok (.ifCond .ne 5, 3) := by decide +kernel
theorem dX11_training_41 : decode cX11_training 41 = .ok (.iconst (-1), 1) := by decide +kernel
theorem dX11_training_42 : decode cX11_training 42 = .ok (.ireturn, 1) := by decide +kernel
theorem dX11_training_43 : decode cX11_training 43 = .ok (.aload_n 0, 1) := by decide +kernel
theorem dX11_training_44 : decode cX11_training 44 = .ok (.iload_n 2, 1) := by decide +kernel
theorem dX11_training_45 : decode cX11_training 45 = .ok (.invokevirtual 252, 3) := by decide +kernel
theorem dX11_training_48 : decode cX11_training 48 = .ok (.istore 4, 2) := by decide +kernel
theorem dX11_training_50 : decode cX11_training 50 = .ok (.aload_n 0, 1) := by decide +kernel
theorem dX11_training_51 : decode cX11_training 51 = .ok (.getfield 10, 3) := by decide +kernel
theorem dX11_training_54 : decode cX11_training 54 = .ok (.invokevirtual 147, 3) := by decide +kernel
theorem dX11_training_57 : decode cX11_training 57 = .ok (.iload 4, 2) := by decide +kernel
theorem dX11_training_59 : decode cX11_training 59 = .ok (.ifCond .ge 6, 3) := by decide +kernel
theorem dX11_training_62 : decode cX11_training 62 = .ok (.iload 4, 2) := by decide +kernel
theorem dX11_training_64 : decode cX11_training 64 = .ok (.ireturn, 1) := by decide +kernel
theorem dX11_training_65 : decode cX11_training 65 = .ok (.aload_n 0, 1) := by decide +kernel
theorem dX11_training_66 : decode cX11_training 66 = .ok (.getfield 35, 3) := by decide +kernel
theorem dX11_training_69 : decode cX11_training 69 = .ok (.aload_n 0, 1) := by decide +kernel
theorem dX11_training_70 : decode cX11_training 70 = .ok (.getfield 28, 3) := by decide +kernel
theorem dX11_training_73 : decode cX11_training 73 = .ok (.invokevirtual 170, 3) := by decide +kernel
theorem dX11_training_76 : decode cX11_training 76 = .ok (.aload_n 0, 1) := by decide +kernel
theorem dX11_training_77 : decode cX11_training 77 = .ok (.getfield 89, 3) := by decide +kernel
theorem dX11_training_80 : decode cX11_training 80 = .ok (.iload_n 1, 1) := by decide +kernel
theorem dX11_training_81 : decode cX11_training 81 = .ok (.iload 4, 2) := by decide +kernel
theorem dX11_training_83 : decode cX11_training 83 = .ok (.invokevirtual 255, 3) := by decide +kernel
theorem dX11_training_86 : decode cX11_training 86 = .ok (.ifCond .ne 6, 3) := by decide +kernel
theorem dX11_training_89 : decode cX11_training 89 = .ok (.bipush (-4), 2) := by decide +kernel
theorem dX11_training_91 : decode cX11_training 91 = .ok (.ireturn, 1) := by decide +kernel
theorem dX11_training_92 : decode cX11_training 92 = .ok (.iload_n 3, 1) := by decide +kernel
theorem dX11_training_93 : decode cX11_training 93 = .ok (.ifCond .ne 13, 3) := by decide +kernel
theorem dX11_training_96 : decode cX11_training 96 = .ok (.aload_n 0, 1) := by decide +kernel
theorem dX11_training_97 : decode cX11_training 97 = .ok (.getfield 89, 3) := by decide +kernel
theorem dX11_training_100 : decode cX11_training 100 = .ok (.getfield 258, 3) := by decide +kernel
theorem dX11_training_103 : decode cX11_training 103 = .ok (.goto 10, 3) := by decide +kernel
theorem dX11_training_106 : decode cX11_training 106 = .ok (.aload_n 0, 1) := by decide +kernel
theorem dX11_training_107 : decode cX11_training 107 = .ok (.getfield 89, 3) := by decide +kernel
theorem dX11_training_110 : decode cX11_training 110 = .ok (.getfield 261, 3) := by decide +kernel
theorem dX11_training_113 : decode cX11_training 113 = .ok (.ireturn, 1) := by decide +kernel
theorem dX11_borne_0 : decode cX11_borne 0 = .ok (.iload_n 1, 1) := by decide +kernel
theorem dX11_borne_1 : decode cX11_borne 1 = .ok (.tableswitch 51 0 2 #[27, 35, 43], 27) := by decide +kernel
theorem dX11_borne_28 : decode cX11_borne 28 = .ok (.aload_n 0, 1) := by decide +kernel
theorem dX11_borne_29 : decode cX11_borne 29 = .ok (.getfield 28, 3) := by decide +kernel
theorem dX11_borne_32 : decode cX11_borne 32 = .ok (.invokevirtual 264, 3) := by decide +kernel
theorem dX11_borne_35 : decode cX11_borne 35 = .ok (.ireturn, 1) := by decide +kernel
theorem dX11_borne_36 : decode cX11_borne 36 = .ok (.aload_n 0, 1) := by decide +kernel
theorem dX11_borne_37 : decode cX11_borne 37 = .ok (.getfield 28, 3) := by decide +kernel
theorem dX11_borne_40 : decode cX11_borne 40 = .ok (.invokevirtual 267, 3) := by decide +kernel
theorem dX11_borne_43 : decode cX11_borne 43 = .ok (.ireturn, 1) := by decide +kernel
theorem dX11_borne_44 : decode cX11_borne 44 = .ok (.aload_n 0, 1) := by decide +kernel
theorem dX11_borne_45 : decode cX11_borne 45 = .ok (.getfield 19, 3) := by decide +kernel
theorem dX11_borne_48 : decode cX11_borne 48 = .ok (.invokevirtual 270, 3) := by decide +kernel
theorem dX11_borne_51 : decode cX11_borne 51 = .ok (.ireturn, 1) := by decide +kernel
theorem dX11_borne_52 : decode cX11_borne 52 = .ok (.iconst (-1), 1) := by decide +kernel
theorem dX11_borne_53 : decode cX11_borne 53 = .ok (.ireturn, 1) := by decide +kernel
theorem dX11_treaty_0 : decode cX11_treaty 0 = .ok (.iload_n 1, 1) := by decide +kernel
theorem dX11_treaty_1 : decode cX11_treaty 1 = .ok (.iconst 1, 1) := by decide +kernel
theorem dX11_treaty_2 : decode cX11_treaty 2 = .ok (.bipush 6, 2) := by decide +kernel
theorem dX11_treaty_4 : decode cX11_treaty 4 = .ok (.invokestatic 104, 3) := by decide +kernel
theorem dX11_treaty_7 : decode cX11_treaty 7 = .ok (.ifCond .eq 37, 3) := by decide +kernel
theorem dX11_treaty_10 : decode cX11_treaty 10 = .ok (.iload_n 2, 1) := by decide +kernel
theorem dX11_treaty_11 : decode cX11_treaty 11 = .ok (.iconst 1, 1) := by decide +kernel
theorem dX11_treaty_12 : decode cX11_treaty 12 = .ok (.bipush 6, 2) := by decide +kernel
theorem dX11_treaty_14 : decode cX11_treaty 14 = .ok (.invokestatic 104, 3) := by decide +kernel
theorem dX11_treaty_17 : decode cX11_treaty 17 = .ok (.ifCond .eq 27, 3) := by decide +kernel
theorem dX11_treaty_20 : decode cX11_treaty 20 = .ok (.iload_n 3, 1) := by decide +kernel
theorem dX11_treaty_21 : decode cX11_treaty 21 = .ok (.iconst 0, 1) := by decide +kernel
theorem dX11_treaty_22 : decode cX11_treaty 22 = .ok (.iconst 2, 1) := by decide +kernel
theorem dX11_treaty_23 : decode cX11_treaty 23 = .ok (.invokestatic 104, 3) := by decide +kernel
theorem dX11_treaty_26 : decode cX11_treaty 26 = .ok (.ifCond .eq 18, 3) := by decide +kernel
theorem dX11_treaty_29 : decode cX11_treaty 29 = .ok (.aload_n 0, 1) := by decide +kernel
theorem dX11_treaty_30 : decode cX11_treaty 30 = .ok (.getfield 10, 3) := by decide +kernel
theorem dX11_treaty_33 : decode cX11_treaty 33 = .ok (.iconst 2, 1) := by decide +kernel
theorem dX11_treaty_34 : decode cX11_treaty 34 = .ok (.iload_n 1, 1) := by decide +kernel
theorem dX11_treaty_35 : decode cX11_treaty 35 = .ok (.imul, 1) := by decide +kernel
theorem dX11_treaty_36 : decode cX11_treaty 36 = .ok (.iload_n 2, 1) := by decide +kernel
theorem dX11_treaty_37 : decode cX11_treaty 37 = .ok (.imul, 1) := by decide +kernel
theorem dX11_treaty_38 : decode cX11_treaty 38 = .ok (.invokevirtual 141, 3) := by decide +kernel
theorem dX11_treaty_41 : decode cX11_treaty 41 = .ok (.ifCond .ne 5, 3) := by decide +kernel
theorem dX11_treaty_44 : decode cX11_treaty 44 = .ok (.iconst (-1), 1) := by decide +kernel
theorem dX11_treaty_45 : decode cX11_treaty 45 = .ok (.ireturn, 1) := by decide +kernel
theorem dX11_treaty_46 : decode cX11_treaty 46 = .ok (.iconst (-1), 1) := by decide +kernel
theorem dX11_treaty_47 : decode cX11_treaty 47 = .ok (.istore 4, 2) := by decide +kernel
theorem dX11_treaty_49 : decode cX11_treaty 49 = .ok (.iload_n 3, 1) := by decide +kernel
theorem dX11_treaty_50 : decode cX11_treaty 50 = .ok (.iconst 2, 1) := by decide +kernel
theorem dX11_treaty_51 : decode cX11_treaty 51 = .ok (.if_icmp .ne 18, 3) := by decide +kernel
theorem dX11_treaty_54 : decode cX11_treaty 54 = .ok (.aload_n 0, 1) := by decide +kernel
theorem dX11_treaty_55 : decode cX11_treaty 55 = .ok (.getfield 96, 3) := by decide +kernel
theorem dX11_treaty_58 : decode cX11_treaty 58 = .ok (.iload_n 1, 1) := by decide +kernel
theorem dX11_treaty_59 : decode cX11_treaty 59 = .ok (.iload_n 2, 1) := by decide +kernel
theorem dX11_treaty_60 : decode cX11_treaty 60 = .ok (.imul, 1) := by decide +kernel
theorem dX11_treaty_61 : decode cX11_treaty 61 = .ok (.invokevirtual 273, 3) := by decide +kernel
theorem dX11_treaty_64 : decode cX11_treaty 64 = .ok (.istore 4, 2) := by decide +kernel
theorem dX11_treaty_66 : decode cX11_treaty 66 = .ok (.goto 30, 3) := by decide +kernel
theorem dX11_treaty_69 : decode cX11_treaty 69 = .ok (.iload_n 3, 1) := by decide +kernel
theorem dX11_treaty_70 : decode cX11_treaty 70 = .ok (.ifCond .ne 15, 3) := by decide +kernel
theorem dX11_treaty_73 : decode cX11_treaty 73 = .ok (.aload_n 0, 1) := by decide +kernel
theorem dX11_treaty_74 : decode cX11_treaty 74 = .ok (.getfield 96, 3) := by decide +kernel
theorem dX11_treaty_77 : decode cX11_treaty 77 = .ok (.iload_n 1, 1) := by decide +kernel
theorem dX11_treaty_78 : decode cX11_treaty 78 = .ok (.iload_n 2, 1) := by decide +kernel
theorem dX11_treaty_79 : decode cX11_treaty 79 = .ok (.invokevirtual 276, 3) := by decide +kernel
theorem dX11_treaty_82 : decode cX11_treaty 82 = .ok (.goto 12, 3) := by decide +kernel
theorem dX11_treaty_85 : decode cX11_treaty 85 = .ok (.aload_n 0, 1) := by decide +kernel
theorem dX11_treaty_86 : decode cX11_treaty 86 = .ok (.getfield 96, 3) := by decide +kernel
theorem dX11_treaty_89 : decode cX11_treaty 89 = .ok (.iload_n 1, 1) := by decide +kernel
theorem dX11_treaty_90 : decode cX11_treaty 90 = .ok (.iload_n 2, 1) := by decide +kernel
theorem dX11_treaty_91 : decode cX11_treaty 91 = .ok (.invokevirtual 279, 3) := by decide +kernel
theorem dX11_treaty_94 : decode cX11_treaty 94 = .ok (.istore 4, 2) := by decide +kernel
theorem dX11_treaty_96 : decode cX11_treaty 96 = .ok (.aload_n 0, 1) := by decide +kernel
theorem dX11_treaty_97 : decode cX11_treaty 97 = .ok (.getfield 10, 3) := by decide +kernel
theorem dX11_treaty_100 : decode cX11_treaty 100 = .ok (.invokevirtual 147, 3) := by decide +kernel
theorem dX11_treaty_103 : decode cX11_treaty 103 = .ok (.iload 4, 2) := by decide +kernel
theorem dX11_treaty_105 : decode cX11_treaty 105 = .ok (.ireturn, 1) := by decide +kernel
theorem dX11_forgery_0 : decode cX11_forgery 0 = .ok (.iload_n 1, 1) := by decide +kernel
theorem dX11_forgery_1 : decode cX11_forgery 1 = .ok (.iconst 1, 1) := by decide +kernel
theorem dX11_forgery_2 : decode cX11_forgery 2 = .ok (.bipush 9, 2) := by decide +kernel
theorem dX11_forgery_4 : decode cX11_forgery 4 = .ok (.invokestatic 104, 3) := by decide +kernel
theorem dX11_forgery_7 : decode cX11_forgery 7 = .ok (.ifCond .eq 23, 3) := by decide +kernel
theorem dX11_forgery_10 : decode cX11_forgery 10 = .ok (.iload_n 2, 1) := by decide +kernel
theorem dX11_forgery_11 : decode cX11_forgery 11 = .ok (.iconst 0, 1) := by decide +kernel
theorem dX11_forgery_12 : decode cX11_forgery 12 = .ok (.iconst 3, 1) := by decide +kernel
theorem dX11_forgery_13 : decode cX11_forgery 13 = .ok (.invokestatic 104, 3) := by decide +kernel
theorem dX11_forgery_16 : decode cX11_forgery 16 = .ok (.ifCond .eq 14, 3) := by decide +kernel
theorem dX11_forgery_19 : decode cX11_forgery 19 = .ok (.aload_n 0, 1) := by decide +kernel
theorem dX11_forgery_20 : decode cX11_forgery 20 = .ok (.getfield 10, 3) := by decide +kernel
theorem dX11_forgery_23 : decode cX11_forgery 23 = .ok (.iload_n 1, 1) := by decide +kernel
theorem dX11_forgery_24 : decode cX11_forgery 24 = .ok (.invokevirtual 141, 3) := by decide +kernel
theorem dX11_forgery_27 : decode cX11_forgery 27 = .ok (.ifCond .ne 5, 3) := by decide +kernel
theorem dX11_forgery_30 : decode cX11_forgery 30 = .ok (.iconst (-1), 1) := by decide +kernel
theorem dX11_forgery_31 : decode cX11_forgery 31 = .ok (.ireturn, 1) := by decide +kernel
theorem dX11_forgery_32 : decode cX11_forgery 32 = .ok (.aload_n 0, 1) := by decide +kernel
theorem dX11_forgery_33 : decode cX11_forgery 33 = .ok (.getfield 96, 3) := by decide +kernel
theorem dX11_forgery_36 : decode cX11_forgery 36 = .ok (.iload_n 1, 1) := by decide +kernel
theorem dX11_forgery_37 : decode cX11_forgery 37 = .ok (.iload_n 2, 1) := by decide +kernel
theorem dX11_forgery_38 : decode cX11_forgery 38 = .ok (.invokevirtual 282, 3) := by decide +kernel
theorem dX11_forgery_41 : decode cX11_forgery 41 = .ok (.istore_n 3, 1) := by decide +kernel
theorem dX11_forgery_42 : decode cX11_forgery 42 = .ok (.aload_n 0, 1) := by decide +kernel
theorem dX11_forgery_43 : decode cX11_forgery 43 = .ok (.getfield 10, 3) := by decide +kernel
theorem dX11_forgery_46 : decode cX11_forgery 46 = .ok (.invokevirtual 147, 3) := by decide +kernel
theorem dX11_forgery_49 : decode cX11_forgery 49 = .ok (.iload_n 3, 1) := by decide +kernel
theorem dX11_forgery_50 : decode cX11_forgery 50 = .ok (.ireturn, 1) := by decide +kernel
theorem dX11_rings_0 : decode cX11_rings 0 = .ok (.iload_n 1, 1) := by decide +kernel
theorem dX11_rings_1 : decode cX11_rings 1 = .ok (.iconst 1, 1) := by decide +kernel
theorem dX11_rings_2 : decode cX11_rings 2 = .ok (.bipush 12, 2) := by decide +kernel
theorem dX11_rings_4 : decode cX11_rings 4 = .ok (.invokestatic 104, 3) := by decide +kernel
theorem dX11_rings_7 : decode cX11_rings 7 = .ok (.ifCond .eq 23, 3) := by decide +kernel
theorem dX11_rings_10 : decode cX11_rings 10 = .ok (.iload_n 2, 1) := by decide +kernel
theorem dX11_rings_11 : decode cX11_rings 11 = .ok (.iconst 0, 1) := by decide +kernel
theorem dX11_rings_12 : decode cX11_rings 12 = .ok (.iconst 1, 1) := by decide +kernel
theorem dX11_rings_13 : decode cX11_rings 13 = .ok (.invokestatic 104, 3) := by decide +kernel
theorem dX11_rings_16 : decode cX11_rings 16 = .ok (.ifCond .eq 14, 3) := by decide +kernel
theorem dX11_rings_19 : decode cX11_rings 19 = .ok (.aload_n 0, 1) := by decide +kernel
theorem dX11_rings_20 : decode cX11_rings 20 = .ok (.getfield 10, 3) := by decide +kernel
theorem dX11_rings_23 : decode cX11_rings 23 = .ok (.iload_n 1, 1) := by decide +kernel
theorem dX11_rings_24 : decode cX11_rings 24 = .ok (.invokevirtual 141, 3) := by decide +kernel
theorem dX11_rings_27 : decode cX11_rings 27 = .ok (.ifCond .ne 5, 3) := by decide +kernel
theorem dX11_rings_30 : decode cX11_rings 30 = .ok (.iconst (-1), 1) := by decide +kernel
theorem dX11_rings_31 : decode cX11_rings 31 = .ok (.ireturn, 1) := by decide +kernel
theorem dX11_rings_32 : decode cX11_rings 32 = .ok (.aload_n 0, 1) := by decide +kernel
theorem dX11_rings_33 : decode cX11_rings 33 = .ok (.getfield 10, 3) := by decide +kernel
theorem dX11_rings_36 : decode cX11_rings 36 = .ok (.iload_n 1, 1) := by decide +kernel
theorem dX11_rings_37 : decode cX11_rings 37 = .ok (.invokevirtual 285, 3) := by decide +kernel
theorem dX11_rings_40 : decode cX11_rings 40 = .ok (.ifCond .eq 15, 3) := by decide +kernel
theorem dX11_rings_43 : decode cX11_rings 43 = .ok (.aload_n 0, 1) := by decide +kernel
theorem dX11_rings_44 : decode cX11_rings 44 = .ok (.getfield 96, 3) := by decide +kernel
theorem dX11_rings_47 : decode cX11_rings 47 = .ok (.iload_n 1, 1) := by decide +kernel
theorem dX11_rings_48 : decode cX11_rings 48 = .ok (.iload_n 2, 1) := by decide +kernel
theorem dX11_rings_49 : decode cX11_rings 49 = .ok (.invokevirtual 288, 3) := by decide +kernel
theorem dX11_rings_52 : decode cX11_rings 52 = .ok (.goto 5, 3) := by decide +kernel
theorem dX11_rings_55 : decode cX11_rings 55 = .ok (.bipush (-3), 2) := by decide +kernel
theorem dX11_rings_57 : decode cX11_rings 57 = .ok (.istore_n 3, 1) := by decide +kernel
theorem dX11_rings_58 : decode cX11_rings 58 = .ok (.aload_n 0, 1) := by decide +kernel
theorem dX11_rings_59 : decode cX11_rings 59 = .ok (.getfield 10, 3) := by decide +kernel
theorem dX11_rings_62 : decode cX11_rings 62 = .ok (.invokevirtual 147, 3) := by decide +kernel
theorem dX11_rings_65 : decode cX11_rings 65 = .ok (.iload_n 3, 1) := by decide +kernel
theorem dX11_rings_66 : decode cX11_rings 66 = .ok (.ireturn, 1) := by decide +kernel
theorem dX11_seed_0 : decode cX11_seed 0 = .ok (.iload_n 1, 1) := by decide +kernel
theorem dX11_seed_1 : decode cX11_seed 1 = .ok (.iconst 0, 1) := by decide +kernel
theorem dX11_seed_2 : decode cX11_seed 2 = .ok (.ldc 123, 2) := by decide +kernel
theorem dX11_seed_4 : decode cX11_seed 4 = .ok (.invokestatic 104, 3) := by decide +kernel
theorem dX11_seed_7 : decode cX11_seed 7 = .ok (.ifCond .ne 5, 3) := by decide +kernel
theorem dX11_seed_10 : decode cX11_seed 10 = .ok (.iconst 0, 1) := by decide +kernel
theorem dX11_seed_11 : decode cX11_seed 11 = .ok (.ireturn, 1) := by decide +kernel
theorem dX11_seed_12 : decode cX11_seed 12 = .ok (.aload_n 0, 1) := by decide +kernel
theorem dX11_seed_13 : decode cX11_seed 13 = .ok (.getfield 28, 3) := by decide +kernel
theorem dX11_seed_16 : decode cX11_seed 16 = .ok (.iload_n 1, 1) := by decide +kernel
theorem dX11_seed_17 : decode cX11_seed 17 = .ok (.putfield 291, 3) := by decide +kernel
theorem dX11_seed_20 : decode cX11_seed 20 = .ok (.iconst 1, 1) := by decide +kernel
theorem dX11_seed_21 : decode cX11_seed 21 = .ok (.ireturn, 1) := by decide +kernel
theorem dX11_keep_0 : decode cX11_keep 0 = .ok (.aload_n 0, 1) := by decide +kernel
theorem dX11_keep_1 : decode cX11_keep 1 = .ok (.getfield 32, 3) := by decide +kernel
theorem dX11_keep_4 : decode cX11_keep 4 = .ok (.aload_n 0, 1) := by decide +kernel
theorem dX11_keep_5 : decode cX11_keep 5 = .ok (.getfield 28, 3) := by decide +kernel
theorem dX11_keep_8 : decode cX11_keep 8 = .ok (.invokevirtual 170, 3) := by decide +kernel
theorem dX11_keep_11 : decode cX11_keep 11 = .ok (.aload_n 0, 1) := by decide +kernel
theorem dX11_keep_12 : decode cX11_keep 12 = .ok (.iconst 1, 1) := by decide +kernel
theorem dX11_keep_13 : decode cX11_keep 13 = .ok (.putfield 100, 3) := by decide +kernel
theorem dX11_keep_16 : decode cX11_keep 16 = .ok (.aload_n 0, 1) := by decide +kernel
theorem dX11_keep_17 : decode cX11_keep 17 = .ok (.getfield 28, 3) := by decide +kernel
theorem dX11_keep_20 : decode cX11_keep 20 = .ok (.getfield 294, 3) := by decide +kernel
theorem dX11_keep_23 : decode cX11_keep 23 = .ok (.ireturn, 1) := by decide +kernel
theorem dX11_undo_0 : decode cX11_undo 0 = .ok (.aload_n 0, 1) := by decide +kernel
theorem dX11_undo_1 : decode cX11_undo 1 = .ok (.getfield 100, 3) := by decide +kernel
theorem dX11_undo_4 : decode cX11_undo 4 = .ok (.ifCond .ne 5, 3) := by decide +kernel
theorem dX11_undo_7 : decode cX11_undo 7 = .ok (.iconst 0, 1) := by decide +kernel
theorem dX11_undo_8 : decode cX11_undo 8 = .ok (.ireturn, 1) := by decide +kernel
theorem dX11_undo_9 : decode cX11_undo 9 = .ok (.aload_n 0, 1) := by decide +kernel
theorem dX11_undo_10 : decode cX11_undo 10 = .ok (.getfield 28, 3) := by decide +kernel
theorem dX11_undo_13 : decode cX11_undo 13 = .ok (.aload_n 0, 1) := by decide +kernel
theorem dX11_undo_14 : decode cX11_undo 14 = .ok (.getfield 32, 3) := by decide +kernel
theorem dX11_undo_17 : decode cX11_undo 17 = .ok (.invokevirtual 170, 3) := by decide +kernel
theorem dX11_undo_20 : decode cX11_undo 20 = .ok (.iconst 1, 1) := by decide +kernel
theorem dX11_undo_21 : decode cX11_undo 21 = .ok (.ireturn, 1) := by decide +kernel
theorem dX11_check_0 : decode cX11_check 0 = .ok (.iload_n 1, 1) := by decide +kernel
theorem dX11_check_1 : decode cX11_check 1 = .ok (.iconst 0, 1) := by decide +kernel
theorem dX11_check_2 : decode cX11_check 2 = .ok (.bipush 8, 2) := by decide +kernel
theorem dX11_check_4 : decode cX11_check 4 = .ok (.invokestatic 104, 3) := by decide +kernel
theorem dX11_check_7 : decode cX11_check 7 = .ok (.ifCond .eq 14, 3) := by decide +kernel
theorem dX11_check_10 : decode cX11_check 10 = .ok (.aload_n 0, 1) := by decide +kernel
theorem dX11_check_11 : decode cX11_check 11 = .ok (.getfield 10, 3) := by decide +kernel
theorem dX11_check_14 : decode cX11_check 14 = .ok (.iload_n 1, 1) := by decide +kernel
theorem dX11_check_15 : decode cX11_check 15 = .ok (.invokevirtual 141, 3) := by decide +kernel
theorem dX11_check_18 : decode cX11_check 18 = .ok (.ifCond .ne 6, 3) := by decide +kernel
theorem dX11_check_21 : decode cX11_check 21 = .ok (.bipush (-2), 2) := by decide +kernel
theorem dX11_check_23 : decode cX11_check 23 = .ok (.ireturn, 1) := by decide +kernel
theorem dX11_check_24 : decode cX11_check 24 = .ok (.iconst (-1), 1) := by decide +kernel
theorem dX11_check_25 : decode cX11_check 25 = .ok (.istore_n 2, 1) := by decide +kernel
theorem dX11_check_26 : decode cX11_check 26 = .ok (.iload_n 1, 1) := by decide +kernel
theorem dX11_check_27 : decode cX11_check 27 = .ok (.iconst 1, 1) := by decide +kernel
theorem dX11_check_28 : decode cX11_check 28 = .ok (.isub, 1) := by decide +kernel
theorem dX11_check_29 : decode cX11_check 29 = .ok (.istore_n 3, 1) := by decide +kernel
theorem dX11_check_30 : decode cX11_check 30 = .ok (.iload_n 3, 1) := by decide +kernel
theorem dX11_check_31 : decode cX11_check 31 = .ok (.ifCond .lt 51, 3) := by decide +kernel
theorem dX11_check_34 : decode cX11_check 34 = .ok (.aload_n 0, 1) := by decide +kernel
theorem dX11_check_35 : decode cX11_check 35 = .ok (.getfield 28, 3) := by decide +kernel
theorem dX11_check_38 : decode cX11_check 38 = .ok (.iload_n 3, 1) := by decide +kernel
theorem dX11_check_39 : decode cX11_check 39 = .ok (.invokevirtual 112, 3) := by decide +kernel
theorem dX11_check_42 : decode cX11_check 42 = .ok (.ifCond .eq 14, 3) := by decide +kernel
theorem dX11_check_45 : decode cX11_check 45 = .ok (.aload_n 0, 1) := by decide +kernel
theorem dX11_check_46 : decode cX11_check 46 = .ok (.getfield 28, 3) := by decide +kernel
theorem dX11_check_49 : decode cX11_check 49 = .ok (.iload_n 3, 1) := by decide +kernel
theorem dX11_check_50 : decode cX11_check 50 = .ok (.invokevirtual 184, 3) := by decide +kernel
theorem dX11_check_53 : decode cX11_check 53 = .ok (.goto 6, 3) := by decide +kernel
theorem dX11_check_56 : decode cX11_check 56 = .ok (.sipush 255, 3) := by decide +kernel
theorem dX11_check_59 : decode cX11_check 59 = .ok (.istore 4, 2) := by decide +kernel
theorem dX11_check_61 : decode cX11_check 61 = .ok (.aload_n 0, 1) := by decide +kernel
theorem dX11_check_62 : decode cX11_check 62 = .ok (.getfield 10, 3) := by decide +kernel
theorem dX11_check_65 : decode cX11_check 65 = .ok (.iload_n 3, 1) := by decide +kernel
theorem dX11_check_66 : decode cX11_check 66 = .ok (.invokevirtual 297, 3) := by decide +kernel
theorem dX11_check_69 : decode cX11_check 69 = .ok (.iload 4, 2) := by decide +kernel
theorem dX11_check_71 : decode cX11_check 71 = .ok (.if_icmp .eq 5, 3) := by decide +kernel
theorem dX11_check_74 : decode cX11_check 74 = .ok (.iload_n 3, 1) := by decide +kernel
theorem dX11_check_75 : decode cX11_check 75 = .ok (.istore_n 2, 1) := by decide +kernel
theorem dX11_check_76 : decode cX11_check 76 = .ok (.iinc 3 (-1), 3) := by decide +kernel
theorem dX11_check_79 : decode cX11_check 79 = .ok (.goto (-49), 3) := by decide +kernel
theorem dX11_check_82 : decode cX11_check 82 = .ok (.aload_n 0, 1) := by decide +kernel
theorem dX11_check_83 : decode cX11_check 83 = .ok (.getfield 10, 3) := by decide +kernel
theorem dX11_check_86 : decode cX11_check 86 = .ok (.invokevirtual 147, 3) := by decide +kernel
theorem dX11_check_89 : decode cX11_check 89 = .ok (.iload_n 2, 1) := by decide +kernel
theorem dX11_check_90 : decode cX11_check 90 = .ok (.ireturn, 1) := by decide +kernel
theorem dX11_count_0 : decode cX11_count 0 = .ok (.iload_n 1, 1) := by decide +kernel
theorem dX11_count_1 : decode cX11_count 1 = .ok (.tableswitch 123 0 8 #[51, 59, 67, 75, 83, 91, 99, 107, 115], 51) := by decide +kernel
theorem dX11_count_52 : decode cX11_count 52 = .ok (.aload_n 0, 1) := by decide +kernel
theorem dX11_count_53 : decode cX11_count 53 = .ok (.getfield 28, 3) := by decide +kernel
theorem dX11_count_56 : decode cX11_count 56 = .ok (.getfield 294, 3) := by decide +kernel
theorem dX11_count_59 : decode cX11_count 59 = .ok (.ireturn, 1) := by decide +kernel
theorem dX11_count_60 : decode cX11_count 60 = .ok (.aload_n 0, 1) := by decide +kernel
theorem dX11_count_61 : decode cX11_count 61 = .ok (.getfield 28, 3) := by decide +kernel
theorem dX11_count_64 : decode cX11_count 64 = .ok (.getfield 232, 3) := by decide +kernel
theorem dX11_count_67 : decode cX11_count 67 = .ok (.ireturn, 1) := by decide +kernel
theorem dX11_count_68 : decode cX11_count 68 = .ok (.aload_n 0, 1) := by decide +kernel
theorem dX11_count_69 : decode cX11_count 69 = .ok (.getfield 28, 3) := by decide +kernel
theorem dX11_count_72 : decode cX11_count 72 = .ok (.getfield 119, 3) := by decide +kernel
theorem dX11_count_75 : decode cX11_count 75 = .ok (.ireturn, 1) := by decide +kernel
theorem dX11_count_76 : decode cX11_count 76 = .ok (.aload_n 0, 1) := by decide +kernel
theorem dX11_count_77 : decode cX11_count 77 = .ok (.getfield 28, 3) := by decide +kernel
theorem dX11_count_80 : decode cX11_count 80 = .ok (.getfield 300, 3) := by decide +kernel
theorem dX11_count_83 : decode cX11_count 83 = .ok (.ireturn, 1) := by decide +kernel
theorem dX11_count_84 : decode cX11_count 84 = .ok (.aload_n 0, 1) := by decide +kernel
theorem dX11_count_85 : decode cX11_count 85 = .ok (.getfield 28, 3) := by decide +kernel
theorem dX11_count_88 : decode cX11_count 88 = .ok (.getfield 301, 3) := by decide +kernel
theorem dX11_count_91 : decode cX11_count 91 = .ok (.ireturn, 1) := by decide +kernel
theorem dX11_count_92 : decode cX11_count 92 = .ok (.aload_n 0, 1) := by decide +kernel
theorem dX11_count_93 : decode cX11_count 93 = .ok (.getfield 57, 3) := by decide +kernel
theorem dX11_count_96 : decode cX11_count 96 = .ok (.getfield 302, 3) := by decide +kernel
theorem dX11_count_99 : decode cX11_count 99 = .ok (.ireturn, 1) := by decide +kernel
theorem dX11_count_100 : decode cX11_count 100 = .ok (.aload_n 0, 1) := by decide +kernel
theorem dX11_count_101 : decode cX11_count 101 = .ok (.getfield 10, 3) := by decide +kernel
theorem dX11_count_104 : decode cX11_count 104 = .ok (.getfield 138, 3) := by decide +kernel
theorem dX11_count_107 : decode cX11_count 107 = .ok (.ireturn, 1) := by decide +kernel
theorem dX11_count_108 : decode cX11_count 108 = .ok (.aload_n 0, 1) := by decide +kernel
theorem dX11_count_109 : decode cX11_count 109 = .ok (.getfield 28, 3) := by decide +kernel
theorem dX11_count_112 : decode cX11_count 112 = .ok (.getfield 291, 3) := by decide +kernel
theorem dX11_count_115 : decode cX11_count 115 = .ok (.ireturn, 1) := by decide +kernel
theorem dX11_count_116 : decode cX11_count 116 = .ok (.aload_n 0, 1) := by decide +kernel
theorem dX11_count_117 : decode cX11_count 117 = .ok (.getfield 43, 3) := by decide +kernel
theorem dX11_count_120 : decode cX11_count 120 = .ok (.getfield 207, 3) := by decide +kernel
theorem dX11_count_123 : decode cX11_count 123 = .ok (.ireturn, 1) := by decide +kernel
theorem dX11_count_124 : decode cX11_count 124 = .ok (.iconst (-1), 1) := by decide +kernel
theorem dX11_count_125 : decode cX11_count 125 = .ok (.ireturn, 1) := by decide +kernel
theorem dX11_within_0 : decode cX11_within 0 = .ok (.iload_n 0, 1) := by decide +kernel
theorem dX11_within_1 : decode cX11_within 1 = .ok (.iload_n 1, 1) := by decide +kernel
theorem dX11_within_2 : decode cX11_within 2 = .ok (.if_icmp .lt 12, 3) := by decide +kernel
theorem dX11_within_5 : decode cX11_within 5 = .ok (.iload_n 0, 1) := by decide +kernel
theorem dX11_within_6 : decode cX11_within 6 = .ok (.iload_n 2, 1) := by decide +kernel
theorem dX11_within_7 : decode cX11_within 7 = .ok (.if_icmp .gt 7, 3) := by decide +kernel
theorem dX11_within_10 : decode cX11_within 10 = .ok (.iconst 1, 1) := by decide +kernel
theorem dX11_within_11 : decode cX11_within 11 = .ok (.goto 4, 3) := by decide +kernel
theorem dX11_within_14 : decode cX11_within 14 = .ok (.iconst 0, 1) := by decide +kernel
theorem dX11_within_15 : decode cX11_within 15 = .ok (.ireturn, 1) := by decide +kernel
theorem dX11_bounded_0 : decode cX11_bounded 0 = .ok (.iconst 0, 1) := by decide +kernel
theorem dX11_bounded_1 : decode cX11_bounded 1 = .ok (.iload_n 0, 1) := by decide +kernel
theorem dX11_bounded_2 : decode cX11_bounded 2 = .ok (.iload_n 1, 1) := by decide +kernel
theorem dX11_bounded_3 : decode cX11_bounded 3 = .ok (.invokestatic 305, 3) := by decide +kernel
theorem dX11_bounded_6 : decode cX11_bounded 6 = .ok (.invokestatic 243, 3) := by decide +kernel
theorem dX11_bounded_9 : decode cX11_bounded 9 = .ok (.ireturn, 1) := by decide +kernel
theorem dX11_isWordSign_0 : decode cX11_isWordSign 0 = .ok (.iload_n 0, 1) := by decide +kernel
theorem dX11_isWordSign_1 : decode cX11_isWordSign 1 = .ok (.bipush 97, 2) := by decide +kernel
theorem dX11_isWordSign_3 : decode cX11_isWordSign 3 = .ok (.if_icmp .lt 13, 3) := by decide +kernel
theorem dX11_isWordSign_6 : decode cX11_isWordSign 6 = .ok (.iload_n 0, 1) := by decide +kernel
theorem dX11_isWordSign_7 : decode cX11_isWordSign 7 = .ok (.bipush 112, 2) := by decide +kernel
theorem dX11_isWordSign_9 : decode cX11_isWordSign 9 = .ok (.if_icmp .gt 7, 3) := by decide +kernel
theorem dX11_isWordSign_12 : decode cX11_isWordSign 12 = .ok (.iconst 1, 1) := by decide +kernel
theorem dX11_isWordSign_13 : decode cX11_isWordSign 13 = .ok (.goto 4, 3) := by decide +kernel
theorem dX11_isWordSign_16 : decode cX11_isWordSign 16 = .ok (.iconst 0, 1) := by decide +kernel
theorem dX11_isWordSign_17 : decode cX11_isWordSign 17 = .ok (.ireturn, 1) := by decide +kernel
theorem dX11_isDigit_0 : decode cX11_isDigit 0 = .ok (.iload_n 0, 1) := by decide +kernel
theorem dX11_isDigit_1 : decode cX11_isDigit 1 = .ok (.bipush 48, 2) := by decide +kernel
theorem dX11_isDigit_3 : decode cX11_isDigit 3 = .ok (.if_icmp .lt 13, 3) := by decide +kernel
theorem dX11_isDigit_6 : decode cX11_isDigit 6 = .ok (.iload_n 0, 1) := by decide +kernel
theorem dX11_isDigit_7 : decode cX11_isDigit 7 = .ok (.bipush 57, 2) := by decide +kernel
theorem dX11_isDigit_9 : decode cX11_isDigit 9 = .ok (.if_icmp .gt 7, 3) := by decide +kernel
theorem dX11_isDigit_12 : decode cX11_isDigit 12 = .ok (.iconst 1, 1) := by decide +kernel
theorem dX11_isDigit_13 : decode cX11_isDigit 13 = .ok (.goto 4, 3) := by decide +kernel
theorem dX11_isDigit_16 : decode cX11_isDigit 16 = .ok (.iconst 0, 1) := by decide +kernel
theorem dX11_isDigit_17 : decode cX11_isDigit 17 = .ok (.ireturn, 1) := by decide +kernel
theorem dX11_writersBy_0 : decode cX11_writersBy 0 = .ok (.aload_n 0, 1) := by decide +kernel
theorem dX11_writersBy_1 : decode cX11_writersBy 1 = .ok (.getfield 28, 3) := by decide +kernel
theorem dX11_writersBy_4 : decode cX11_writersBy 4 = .ok (.getfield 232, 3) := by decide +kernel
theorem dX11_writersBy_7 : decode cX11_writersBy 7 = .ok (.istore_n 2, 1) := by decide +kernel
theorem dX11_writersBy_8 : decode cX11_writersBy 8 = .ok (.iconst 0, 1) := by decide +kernel
theorem dX11_writersBy_9 : decode cX11_writersBy 9 = .ok (.istore_n 3, 1) := by decide +kernel
theorem dX11_writersBy_10 : decode cX11_writersBy 10 = .ok (.iload_n 3, 1) := by decide +kernel
theorem dX11_writersBy_11 : decode cX11_writersBy 11 = .ok (.iload_n 1, 1) := by decide +kernel
theorem dX11_writersBy_12 : decode cX11_writersBy 12 = .ok (.if_icmp .ge 80, 3) := by decide +kernel
theorem dX11_writersBy_15 : decode cX11_writersBy 15 = .ok (.aload_n 0, 1) := by decide +kernel
theorem dX11_writersBy_16 : decode cX11_writersBy 16 = .ok (.getfield 10, 3) := by decide +kernel
theorem dX11_writersBy_19 : decode cX11_writersBy 19 = .ok (.iconst 2, 1) := by decide +kernel
theorem dX11_writersBy_20 : decode cX11_writersBy 20 = .ok (.iload_n 3, 1) := by decide +kernel
theorem dX11_writersBy_21 : decode cX11_writersBy 21 = .ok (.imul, 1) := by decide +kernel
theorem dX11_writersBy_22 : decode cX11_writersBy 22 = .ok (.invokevirtual 297, 3) := by decide +kernel
theorem dX11_writersBy_25 : decode cX11_writersBy 25 = .ok (.istore 4, 2) := by decide +kernel
theorem dX11_writersBy_27 : decode cX11_writersBy 27 = .ok (.aload_n 0, 1) := by decide +kernel
theorem dX11_writersBy_28 : decode cX11_writersBy 28 = .ok (.getfield 10, 3) := by decide +kernel
theorem dX11_writersBy_31 : decode cX11_writersBy 31 = .ok (.iconst 2, 1) := by decide +kernel
theorem dX11_writersBy_32 : decode cX11_writersBy 32 = .ok (.iload_n 3, 1) := by decide +kernel
theorem dX11_writersBy_33 : decode cX11_writersBy 33 = .ok (.imul, 1) := by decide +kernel
theorem dX11_writersBy_34 : decode cX11_writersBy 34 = .ok (.iconst 1, 1) := by decide +kernel
theorem dX11_writersBy_35 : decode cX11_writersBy 35 = .ok (.iadd, 1) := by decide +kernel
theorem dX11_writersBy_36 : decode cX11_writersBy 36 = .ok (.invokevirtual 297, 3) := by decide +kernel
theorem dX11_writersBy_39 : decode cX11_writersBy 39 = .ok (.istore 5, 2) := by decide +kernel
theorem dX11_writersBy_41 : decode cX11_writersBy 41 = .ok (.iload 4, 2) := by decide +kernel
theorem dX11_writersBy_43 : decode cX11_writersBy 43 = .ok (.bipush 16, 2) := by decide +kernel
theorem dX11_writersBy_45 : decode cX11_writersBy 45 = .ok (.if_icmp .ge 9, 3) := by decide +kernel
theorem dX11_writersBy_48 : decode cX11_writersBy 48 = .ok (.iload 5, 2) := by decide +kernel
theorem dX11_writersBy_50 : decode cX11_writersBy 50 = .ok (.iconst 1, 1) := by decide +kernel
theorem dX11_writersBy_51 : decode cX11_writersBy 51 = .ok (.if_icmp .le 6, 3) := by decide +kernel
theorem dX11_writersBy_54 : decode cX11_writersBy 54 = .ok (.bipush (-3), 2) := by decide +kernel
theorem dX11_writersBy_56 : decode cX11_writersBy 56 = .ok (.ireturn, 1) := by decide +kernel
theorem dX11_writersBy_57 : decode cX11_writersBy 57 = .ok (.aload_n 0, 1) := by decide +kernel
theorem dX11_writersBy_58 : decode cX11_writersBy 58 = .ok (.getfield 28, 3) := by decide +kernel
theorem dX11_writersBy_61 : decode cX11_writersBy 61 = .ok (.iload 4, 2) := by decide +kernel
theorem dX11_writersBy_63 : decode cX11_writersBy 63 = .ok (.invokevirtual 240, 3) := by decide +kernel
theorem dX11_writersBy_66 : decode cX11_writersBy 66 = .ok (.istore 6, 2) := by decide +kernel
theorem dX11_writersBy_68 : decode cX11_writersBy 68 = .ok (.iload_n 2, 1) := by decide +kernel
theorem dX11_writersBy_69 : decode cX11_writersBy 69 = .ok (.iload 5, 2) := by decide +kernel
theorem dX11_writersBy_71 : decode cX11_writersBy 71 = .ok (.iconst 1, 1) := by decide +kernel
theorem dX11_writersBy_72 : decode cX11_writersBy 72 = .ok (.if_icmp .ne 8, 3) := by decide +kernel
theorem dX11_writersBy_75 : decode cX11_writersBy 75 = .ok (.iload 6, 2) := by decide +kernel
theorem dX11_writersBy_77 : decode cX11_writersBy 77 = .ok (.goto 7, 3) := by decide +kernel
theorem dX11_writersBy_80 : decode cX11_writersBy 80 = .ok (.iload 6, 2) := by decide +kernel
theorem dX11_writersBy_82 : decode cX11_writersBy 82 = .ok (.iconst (-1), 1) := by decide +kernel
theorem dX11_writersBy_83 : decode cX11_writersBy 83 = .ok (.ixor, 1) := by decide +kernel
theorem dX11_writersBy_84 : decode cX11_writersBy 84 = .ok (.iand, 1) := by decide +kernel
theorem dX11_writersBy_85 : decode cX11_writersBy 85 = .ok (.istore_n 2, 1) := by decide +kernel
theorem dX11_writersBy_86 : decode cX11_writersBy 86 = .ok (.iinc 3 1, 3) := by decide +kernel
theorem dX11_writersBy_89 : decode cX11_writersBy 89 = .ok (.goto (-79), 3) := by decide +kernel
theorem dX11_writersBy_92 : decode cX11_writersBy 92 = .ok (.iload_n 2, 1) := by decide +kernel
theorem dX11_writersBy_93 : decode cX11_writersBy 93 = .ok (.ireturn, 1) := by decide +kernel
theorem dX11_unlikeWords_0 : decode cX11_unlikeWords 0 = .ok (.iconst 0, 1) := by decide +kernel
theorem dX11_unlikeWords_1 : decode cX11_unlikeWords 1 = .ok (.istore_n 2, 1) := by decide +kernel
theorem dX11_unlikeWords_2 : decode cX11_unlikeWords 2 = .ok (.iconst 0, 1) := by decide +kernel
theorem dX11_unlikeWords_3 : decode cX11_unlikeWords 3 = .ok (.istore_n 3, 1) := by decide +kernel
theorem dX11_unlikeWords_4 : decode cX11_unlikeWords 4 = .ok (.iload_n 3, 1) := by decide +kernel
theorem dX11_unlikeWords_5 : decode cX11_unlikeWords 5 = .ok (.iload_n 1, 1) := by decide +kernel
theorem dX11_unlikeWords_6 : decode cX11_unlikeWords 6 = .ok (.if_icmp .ge 45, 3) := by decide +kernel
theorem dX11_unlikeWords_9 : decode cX11_unlikeWords 9 = .ok (.aload_n 0, 1) := by decide +kernel
theorem dX11_unlikeWords_10 : decode cX11_unlikeWords 10 = .ok (.getfield 10, 3) := by decide +kernel
theorem dX11_unlikeWords_13 : decode cX11_unlikeWords 13 = .ok (.iload_n 3, 1) := by decide +kernel
theorem dX11_unlikeWords_14 : decode cX11_unlikeWords 14 = .ok (.invokevirtual 297, 3) := by decide +kernel
theorem dX11_unlikeWords_17 : decode cX11_unlikeWords 17 = .ok (.istore 4, 2) := by decide +kernel
theorem dX11_unlikeWords_19 : decode cX11_unlikeWords 19 = .ok (.iload 4, 2) := by decide +kernel
theorem dX11_unlikeWords_21 : decode cX11_unlikeWords 21 = .ok (.bipush 16, 2) := by decide +kernel
theorem dX11_unlikeWords_23 : decode cX11_unlikeWords 23 = .ok (.if_icmp .ge 12, 3) := by decide +kernel
theorem dX11_unlikeWords_26 : decode cX11_unlikeWords 26 = .ok (.iload_n 2, 1) := by decide +kernel
theorem dX11_unlikeWords_27 : decode cX11_unlikeWords 27 = .ok (.iload 4, 2) := by decide +kernel
theorem dX11_unlikeWords_29 : decode cX11_unlikeWords 29 = .ok (.ishr, 1) := by decide +kernel
theorem dX11_unlikeWords_30 : decode cX11_unlikeWords 30 = .ok (.iconst 1, 1) := by decide +kernel
theorem dX11_unlikeWords_31 : decode cX11_unlikeWords 31 = .ok (.iand, 1) := by decide +kernel
theorem dX11_unlikeWords_32 : decode cX11_unlikeWords 32 = .ok (.ifCond .eq 6, 3) := by decide +kernel
theorem dX11_unlikeWords_35 : decode cX11_unlikeWords 35 = .ok (.bipush (-3), 2) := by decide +kernel
theorem dX11_unlikeWords_37 : decode cX11_unlikeWords 37 = .ok (.ireturn, 1) := by decide +kernel
theorem dX11_unlikeWords_38 : decode cX11_unlikeWords 38 = .ok (.iload_n 2, 1) := by decide +kernel
theorem dX11_unlikeWords_39 : decode cX11_unlikeWords 39 = .ok (.iconst 1, 1) := by decide +kernel
theorem dX11_unlikeWords_40 : decode cX11_unlikeWords 40 = .ok (.iload 4, 2) := by decide +kernel
theorem dX11_unlikeWords_42 : decode cX11_unlikeWords 42 = .ok (.ishl, 1) := by decide +kernel
theorem dX11_unlikeWords_43 : decode cX11_unlikeWords 43 = .ok (.ior, 1) := by decide +kernel
theorem dX11_unlikeWords_44 : decode cX11_unlikeWords 44 = .ok (.istore_n 2, 1) := by decide +kernel
theorem dX11_unlikeWords_45 : decode cX11_unlikeWords 45 = .ok (.iinc 3 1, 3) := by decide +kernel
theorem dX11_unlikeWords_48 : decode cX11_unlikeWords 48 = .ok (.goto (-44), 3) := by decide +kernel
theorem dX11_unlikeWords_51 : decode cX11_unlikeWords 51 = .ok (.iload_n 2, 1) := by decide +kernel
theorem dX11_unlikeWords_52 : decode cX11_unlikeWords 52 = .ok (.ireturn, 1) := by decide +kernel
