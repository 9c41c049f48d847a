theorem dJ0_length_8abf5_0 : decode cJ0_length_8abf5 0 = .ok (.aload_n 0, 1) := by decide +kernel
theorem dJ0_length_8abf5_1 : decode cJ0_length_8abf5 1 = .ok (.getfield 9, 3) := by decide +kernel
theorem dJ0_length_8abf5_4 : decode cJ0_length_8abf5 4 = .ok (.arraylength, 1) := by decide +kernel
theorem dJ0_length_8abf5_5 : decode cJ0_length_8abf5 5 = .ok (.aload_n 0, 1) := by decide +kernel
theorem dJ0_length_8abf5_6 : decode cJ0_length_8abf5 6 = .ok (.invokevirtual 335, 3) := by decide +kernel
theorem dJ0_length_8abf5_9 : decode cJ0_length_8abf5 9 = .ok (.ishr, 1) := by decide +kernel
theorem dJ0_length_8abf5_10 : decode cJ0_length_8abf5 10 = .ok (.ireturn, 1) := by decide +kernel
theorem dJ0_indexOf_0f7a4_0 : decode cJ0_indexOf_0f7a4 0 = .ok (.aload_n 0, 1) := by decide +kernel
theorem dJ0_indexOf_0f7a4_1 : decode cJ0_indexOf_0f7a4 1 = .ok (.iload_n 1, 1) := by decide +kernel
theorem dJ0_indexOf_0f7a4_2 : decode cJ0_indexOf_0f7a4 2 = .ok (.iconst 0, 1) := by decide +kernel
theorem dJ0_indexOf_0f7a4_3 : decode cJ0_indexOf_0f7a4 3 = .ok (.invokevirtual 633, 3) := by decide +kernel
theorem dJ0_indexOf_0f7a4_6 : decode cJ0_indexOf_0f7a4 6 = .ok (.ireturn, 1) := by decide +kernel
theorem dJ0_indexOf_7cf53_0 : decode cJ0_indexOf_7cf53 0 = .ok (.aload_n 0, 1) := by decide +kernel
theorem dJ0_indexOf_7cf53_1 : decode cJ0_indexOf_7cf53 1 = .ok (.invokevirtual 492, 3) := by decide +kernel
theorem dJ0_indexOf_7cf53_4 : decode cJ0_indexOf_7cf53 4 = .ok (.ifCond .eq 19, 3) := by decide +kernel
theorem dJ0_indexOf_7cf53_7 : decode cJ0_indexOf_7cf53 7 = .ok (.aload_n 0, 1) := by decide +kernel
theorem dJ0_indexOf_7cf53_8 : decode cJ0_indexOf_7cf53 8 = .ok (.getfield 9, 3) := by decide +kernel
theorem dJ0_indexOf_7cf53_11 : decode cJ0_indexOf_7cf53 11 = .ok (.iload_n 1, 1) := by decide +kernel
theorem dJ0_indexOf_7cf53_12 : decode cJ0_indexOf_7cf53 12 = .ok (.iload_n 2, 1) := by decide +kernel
theorem dJ0_indexOf_7cf53_13 : decode cJ0_indexOf_7cf53 13 = .ok (.aload_n 0, 1) := by decide +kernel
theorem dJ0_indexOf_7cf53_14 : decode cJ0_indexOf_7cf53 14 = .ok (.invokevirtual 505, 3) := by decide +kernel
theorem dJ0_indexOf_7cf53_17 : decode cJ0_indexOf_7cf53 17 = .ok (.invokestatic 637, 3) := by decide +kernel
theorem dJ0_indexOf_7cf53_20 : decode cJ0_indexOf_7cf53 20 = .ok (.goto 16, 3) := by decide +kernel
theorem dJ0_indexOf_7cf53_23 : decode cJ0_indexOf_7cf53 23 = .ok (.aload_n 0, 1) := by decide +kernel
theorem dJ0_indexOf_7cf53_24 : decode cJ0_indexOf_7cf53 24 = .ok (.getfield 9, 3) := by decide +kernel
theorem dJ0_indexOf_7cf53_27 : decode cJ0_indexOf_7cf53 27 = .ok (.iload_n 1, 1) := by decide +kernel
theorem dJ0_indexOf_7cf53_28 : decode cJ0_indexOf_7cf53 28 = .ok (.iload_n 2, 1) := by decide +kernel
theorem dJ0_indexOf_7cf53_29 : decode cJ0_indexOf_7cf53 29 = .ok (.aload_n 0, 1) := by decide +kernel
theorem dJ0_indexOf_7cf53_30 : decode cJ0_indexOf_7cf53 30 = .ok (.invokevirtual 505, 3) := by decide +kernel
theorem dJ0_indexOf_7cf53_33 : decode cJ0_indexOf_7cf53 33 = .ok (.invokestatic 640, 3) := by decide +kernel
theorem dJ0_indexOf_7cf53_36 : decode cJ0_indexOf_7cf53 36 = .ok (.ireturn, 1) := by decide +kernel
theorem dJ0_coder_7d493_0 : decode cJ0_coder_7d493 0 = .ok (.getstatic 38, 3) := by decide +kernel
theorem dJ0_coder_7d493_3 : decode cJ0_coder_7d493 3 = .ok (.ifCond .eq 10, 3) := by decide +kernel
theorem dJ0_coder_7d493_6 : decode cJ0_coder_7d493 6 = .ok (.aload_n 0, 1) := by decide +kernel
theorem dJ0_coder_7d493_7 : decode cJ0_coder_7d493 7 = .ok (.getfield 15, 3) := by decide +kernel
theorem dJ0_coder_7d493_10 : decode cJ0_coder_7d493 10 = .ok (.goto 4, 3) := by decide +kernel
theorem dJ0_coder_7d493_13 : decode cJ0_coder_7d493 13 = .ok (.iconst 1, 1) := by decide +kernel
theorem dJ0_coder_7d493_14 : decode cJ0_coder_7d493 14 = .ok (.ireturn, 1) := by decide +kernel
theorem dJ0_isLatin1_aae02_0 : decode cJ0_isLatin1_aae02 0 = .ok (.getstatic 38, 3) := by decide +kernel
theorem dJ0_isLatin1_aae02_3 : decode cJ0_isLatin1_aae02 3 = .ok (.ifCond .eq 14, 3) := by decide +kernel
theorem dJ0_isLatin1_aae02_6 : decode cJ0_isLatin1_aae02 6 = .ok (.aload_n 0, 1) := by decide +kernel
theorem dJ0_isLatin1_aae02_7 : decode cJ0_isLatin1_aae02 7 = .ok (.getfield 15, 3) := by decide +kernel
theorem dJ0_isLatin1_aae02_10 : decode cJ0_isLatin1_aae02 10 = .ok (.ifCond .ne 7, 3) := by decide +kernel
theorem dJ0_isLatin1_aae02_13 : decode cJ0_isLatin1_aae02 13 = .ok (.iconst 1, 1) := by decide +kernel
theorem dJ0_isLatin1_aae02_14 : decode cJ0_isLatin1_aae02 14 = .ok (.goto 4, 3) := by decide +kernel
theorem dJ0_isLatin1_aae02_17 : decode cJ0_isLatin1_aae02 17 = .ok (.iconst 0, 1) := by decide +kernel
theorem dJ0_isLatin1_aae02_18 : decode cJ0_isLatin1_aae02 18 = .ok (.ireturn, 1) := by decide +kernel
theorem dJ0_checkBoundsBeginEnd_23922_0 : decode cJ0_checkBoundsBeginEnd_23922 0 = .ok (.iload_n 0, 1) := by decide +kernel
theorem dJ0_checkBoundsBeginEnd_23922_1 : decode cJ0_checkBoundsBeginEnd_23922 1 = .ok (.iload_n 1, 1) := by decide +kernel
theorem dJ0_checkBoundsBeginEnd_23922_2 : decode cJ0_checkBoundsBeginEnd_23922 2 = .ok (.iload_n 2, 1) := by decide +kernel
theorem dJ0_checkBoundsBeginEnd_23922_3 : decode cJ0_checkBoundsBeginEnd_23922 3 = .ok (.getstatic 1053, 3) := by decide +kernel
theorem dJ0_checkBoundsBeginEnd_23922_6 : decode cJ0_checkBoundsBeginEnd_23922 6 = .ok (.invokestatic 1062, 3) := by decide +kernel
theorem dJ0_checkBoundsBeginEnd_23922_9 : decode cJ0_checkBoundsBeginEnd_23922 9 = .ok (.pop, 1) := by decide +kernel
theorem dJ0_checkBoundsBeginEnd_23922_10 : decode cJ0_checkBoundsBeginEnd_23922 10 = .ok (.return_, 1) := by decide +kernel
theorem dJ1_canEncode_9a6ad_0 : decode cJ1_canEncode_9a6ad 0 = .ok (.iload_n 0, 1) := by decide +kernel
theorem dJ1_canEncode_9a6ad_1 : decode cJ1_canEncode_9a6ad 1 = .ok (.ifCond .lt 14, 3) := by decide +kernel
theorem dJ1_canEncode_9a6ad_4 : decode cJ1_canEncode_9a6ad 4 = .ok (.iload_n 0, 1) := by decide +kernel
theorem dJ1_canEncode_9a6ad_5 : decode cJ1_canEncode_9a6ad 5 = .ok (.sipush 255, 3) := by decide +kernel
theorem dJ1_canEncode_9a6ad_8 : decode cJ1_canEncode_9a6ad 8 = .ok (.if_icmp .gt 7, 3) := by decide +kernel
theorem dJ1_canEncode_9a6ad_11 : decode cJ1_canEncode_9a6ad 11 = .ok (.iconst 1, 1) := by decide +kernel
theorem dJ1_canEncode_9a6ad_12 : decode cJ1_canEncode_9a6ad 12 = .ok (.goto 4, 3) := by decide +kernel
theorem dJ1_canEncode_9a6ad_15 : decode cJ1_canEncode_9a6ad 15 = .ok (.iconst 0, 1) := by decide +kernel
theorem dJ1_canEncode_9a6ad_16 : decode cJ1_canEncode_9a6ad 16 = .ok (.ireturn, 1) := by decide +kernel
theorem dJ1_indexOf_4cfef_0 : decode cJ1_indexOf_4cfef 0 = .ok (.iload_n 1, 1) := by decide +kernel
theorem dJ1_indexOf_4cfef_1 : decode cJ1_indexOf_4cfef 1 = .ok (.invokestatic 88, 3) := by decide +kernel
theorem dJ1_indexOf_4cfef_4 : decode cJ1_indexOf_4cfef 4 = .ok (.ifCond .ne 5, 3) := by decide +kernel
theorem dJ1_indexOf_4cfef_7 : decode cJ1_indexOf_4cfef 7 = .ok (.iconst (-1), 1) := by decide +kernel
theorem dJ1_indexOf_4cfef_8 : decode cJ1_indexOf_4cfef 8 = .ok (.ireturn, 1) := by decide +kernel
theorem dJ1_indexOf_4cfef_9 : decode cJ1_indexOf_4cfef 9 = .ok (.iload_n 2, 1) := by decide +kernel
theorem dJ1_indexOf_4cfef_10 : decode cJ1_indexOf_4cfef 10 = .ok (.iconst 0, 1) := by decide +kernel
theorem dJ1_indexOf_4cfef_11 : decode cJ1_indexOf_4cfef 11 = .ok (.invokestatic 92, 3) := by decide +kernel
theorem dJ1_indexOf_4cfef_14 : decode cJ1_indexOf_4cfef 14 = .ok (.istore_n 2, 1) := by decide +kernel
theorem dJ1_indexOf_4cfef_15 : decode cJ1_indexOf_4cfef 15 = .ok (.iload_n 3, 1) := by decide +kernel
theorem dJ1_indexOf_4cfef_16 : decode cJ1_indexOf_4cfef 16 = .ok (.aload_n 0, 1) := by decide +kernel
theorem dJ1_indexOf_4cfef_17 : decode cJ1_indexOf_4cfef 17 = .ok (.arraylength, 1) := by decide +kernel
theorem dJ1_indexOf_4cfef_18 : decode cJ1_indexOf_4cfef 18 = .ok (.invokestatic 38, 3) := by decide +kernel
theorem dJ1_indexOf_4cfef_21 : decode cJ1_indexOf_4cfef 21 = .ok (.istore_n 3, 1) := by decide +kernel
theorem dJ1_indexOf_4cfef_22 : decode cJ1_indexOf_4cfef 22 = .ok (.iload_n 2, 1) := by decide +kernel
theorem dJ1_indexOf_4cfef_23 : decode cJ1_indexOf_4cfef 23 = .ok (.iload_n 3, 1) := by decide +kernel
theorem dJ1_indexOf_4cfef_24 : decode cJ1_indexOf_4cfef 24 = .ok (.if_icmp .lt 5, 3) := by decide +kernel
theorem dJ1_indexOf_4cfef_27 : decode cJ1_indexOf_4cfef 27 = .ok (.iconst (-1), 1) := by decide +kernel
theorem dJ1_indexOf_4cfef_28 : decode cJ1_indexOf_4cfef 28 = .ok (.ireturn, 1) := by decide +kernel
theorem dJ1_indexOf_4cfef_29 : decode cJ1_indexOf_4cfef 29 = .ok (.aload_n 0, 1) := by decide +kernel
theorem dJ1_indexOf_4cfef_30 : decode cJ1_indexOf_4cfef 30 = .ok (.iload_n 1, 1) := by decide +kernel
theorem dJ1_indexOf_4cfef_31 : decode cJ1_indexOf_4cfef 31 = .ok (.iload_n 2, 1) := by decide +kernel
theorem dJ1_indexOf_4cfef_32 : decode cJ1_indexOf_4cfef 32 = .ok (.iload_n 3, 1) := by decide +kernel
theorem dJ1_indexOf_4cfef_33 : decode cJ1_indexOf_4cfef 33 = .ok (.invokestatic 95, 3) := by decide +kernel
theorem dJ1_indexOf_4cfef_36 : decode cJ1_indexOf_4cfef 36 = .ok (.ireturn, 1) := by decide +kernel
theorem dJ1_indexOfChar_4cfef_0 : decode cJ1_indexOfChar_4cfef 0 = .ok (.iload_n 1, 1) := by decide +kernel
theorem dJ1_indexOfChar_4cfef_1 : decode cJ1_indexOfChar_4cfef 1 = .ok (.i2b, 1) := by decide +kernel
theorem dJ1_indexOfChar_4cfef_2 : decode cJ1_indexOfChar_4cfef 2 = .ok (.istore 4, 2) := by decide +kernel
theorem dJ1_indexOfChar_4cfef_4 : decode cJ1_indexOfChar_4cfef 4 = .ok (.iload_n 2, 1) := by decide +kernel
theorem dJ1_indexOfChar_4cfef_5 : decode cJ1_indexOfChar_4cfef 5 = .ok (.istore 5, 2) := by decide +kernel
theorem dJ1_indexOfChar_4cfef_7 : decode cJ1_indexOfChar_4cfef 7 = .ok (.iload 5, 2) := by decide +kernel
theorem dJ1_indexOfChar_4cfef_9 : decode cJ1_indexOfChar_4cfef 9 = .ok (.iload_n 3, 1) := by decide +kernel
theorem dJ1_indexOfChar_4cfef_10 : decode cJ1_indexOfChar_4cfef 10 = .ok (.if_icmp .ge 21, 3) := by decide +kernel
theorem dJ1_indexOfChar_4cfef_13 : decode cJ1_indexOfChar_4cfef 13 = .ok (.aload_n 0, 1) := by decide +kernel
theorem dJ1_indexOfChar_4cfef_14 : decode cJ1_indexOfChar_4cfef 14 = .ok (.iload 5, 2) := by decide +kernel
theorem dJ1_indexOfChar_4cfef_16 : decode cJ1_indexOfChar_4cfef 16 = .ok (.baload, 1) := by decide +kernel
theorem dJ1_indexOfChar_4cfef_17 : decode cJ1_indexOfChar_4cfef 17 = .ok (.iload 4, 2) := by decide +kernel
theorem dJ1_indexOfChar_4cfef_19 : decode cJ1_indexOfChar_4cfef 19 = .ok (.if_icmp .ne 6, 3) := by decide +kernel
theorem dJ1_indexOfChar_4cfef_22 : decode cJ1_indexOfChar_4cfef 22 = .ok (.iload 5, 2) := by decide +kernel
theorem dJ1_indexOfChar_4cfef_24 : decode cJ1_indexOfChar_4cfef 24 = .ok (.ireturn, 1) := by decide +kernel
theorem dJ1_indexOfChar_4cfef_25 : decode cJ1_indexOfChar_4cfef 25 = .ok (.iinc 5 1, 3) := by decide +kernel
theorem dJ1_indexOfChar_4cfef_28 : decode cJ1_indexOfChar_4cfef 28 = .ok (.goto (-21), 3) := by decide +kernel
theorem dJ1_indexOfChar_4cfef_31 : decode cJ1_indexOfChar_4cfef 31 = .ok (.iconst (-1), 1) := by decide +kernel
theorem dJ1_indexOfChar_4cfef_32 : decode cJ1_indexOfChar_4cfef 32 = .ok (.ireturn, 1) := by decide +kernel
theorem dJ2_getChar_3b067_0 : decode cJ2_getChar_3b067 0 = .ok (.getstatic 44, 3) := by decide +kernel
theorem dJ2_getChar_3b067_3 : decode cJ2_getChar_3b067 3 = .ok (.ifCond .ne 25, 3) := by decide +kernel
theorem dJ2_getChar_3b067_6 : decode cJ2_getChar_3b067 6 = .ok (.iload_n 1, 1) := by decide +kernel
theorem dJ2_getChar_3b067_7 : decode cJ2_getChar_3b067 7 = .ok (.ifCond .lt 11, 3) := by decide +kernel
theorem dJ2_getChar_3b067_10 : decode cJ2_getChar_3b067 10 = .ok (.iload_n 1, 1) := by decide +kernel
theorem dJ2_getChar_3b067_11 : decode cJ2_getChar_3b067 11 = .ok (.aload_n 0, 1) := by decide +kernel
theorem dJ2_getChar_3b067_12 : decode cJ2_getChar_3b067 12 = .ok (.invokestatic 48, 3) := by decide +kernel
theorem dJ2_getChar_3b067_15 : decode cJ2_getChar_3b067 15 = .ok (.if_icmp .lt 13, 3) := by decide +kernel
theorem dJ2_getChar_3b067_18 : decode cJ2_getChar_3b067 18 = .ok (.new 52, 3) := by decide +kernel
theorem dJ2_getChar_3b067_21 : decode cJ2_getChar_3b067 21 = .ok (.dup, 1) := by decide +kernel
theorem dJ2_getChar_3b067_22 : decode cJ2_getChar_3b067 22 = .ok (.ldc 54, 2) := by decide +kernel
theorem dJ2_getChar_3b067_24 : decode cJ2_getChar_3b067 24 = .ok (.invokespecial 56, 3) := by decide +kernel
theorem dJ2_getChar_3b067_27 : decode cJ2_getChar_3b067 27 = .ok (.athrow, 1) := by decide +kernel
theorem dJ2_getChar_3b067_28 : decode cJ2_getChar_3b067 28 = .ok (.iload_n 1, 1) := by decide +kernel
theorem dJ2_getChar_3b067_29 : decode cJ2_getChar_3b067 29 = .ok (.iconst 1, 1) := by decide +kernel
theorem dJ2_getChar_3b067_30 : decode cJ2_getChar_3b067 30 = .ok (.ishl, 1) := by decide +kernel
theorem dJ2_getChar_3b067_31 : decode cJ2_getChar_3b067 31 = .ok (.istore_n 1, 1) := by decide +kernel
theorem dJ2_getChar_3b067_32 : decode cJ2_getChar_3b067 32 = .ok (.aload_n 0, 1) := by decide +kernel
theorem dJ2_getChar_3b067_33 : decode cJ2_getChar_3b067 33 = .ok (.iload_n 1, 1) := by decide +kernel
theorem dJ2_getChar_3b067_34 : decode cJ2_getChar_3b067 34 = .ok (.iinc 1 1, 3) := by decide +kernel
theorem dJ2_getChar_3b067_37 : decode cJ2_getChar_3b067 37 = .ok (.baload, 1) := by decide +kernel
theorem dJ2_getChar_3b067_38 : decode cJ2_getChar_3b067 38 = .ok (.sipush 255, 3) := by decide +kernel
theorem dJ2_getChar_3b067_41 : decode cJ2_getChar_3b067 41 = .ok (.iand, 1) := by decide +kernel
theorem dJ2_getChar_3b067_42 : decode cJ2_getChar_3b067 42 = .ok (.getstatic 59, 3) := by decide +kernel
theorem dJ2_getChar_3b067_45 : decode cJ2_getChar_3b067 45 = .ok (.ishl, 1) := by decide +kernel
theorem dJ2_getChar_3b067_46 : decode cJ2_getChar_3b067 46 = .ok (.aload_n 0, 1) := by decide +kernel
theorem dJ2_getChar_3b067_47 : decode cJ2_getChar_3b067 47 = .ok (.iload_n 1, 1) := by decide +kernel
theorem dJ2_getChar_3b067_48 : decode cJ2_getChar_3b067 48 = .ok (.baload, 1) := by decide +kernel
theorem dJ2_getChar_3b067_49 : decode cJ2_getChar_3b067 49 = .ok (.sipush 255, 3) := by decide +kernel
theorem dJ2_getChar_3b067_52 : decode cJ2_getChar_3b067 52 = .ok (.iand, 1) := by decide +kernel
theorem dJ2_getChar_3b067_53 : decode cJ2_getChar_3b067 53 = .ok (.getstatic 63, 3) := by decide +kernel
theorem dJ2_getChar_3b067_56 : decode cJ2_getChar_3b067 56 = .ok (.ishl, 1) := by decide +kernel
theorem dJ2_getChar_3b067_57 : decode cJ2_getChar_3b067 57 = .ok (.ior, 1) := by decide +kernel
theorem dJ2_getChar_3b067_58 : decode cJ2_getChar_3b067 58 = .ok (.i2c, 1) := by decide +kernel
theorem dJ2_getChar_3b067_59 : decode cJ2_getChar_3b067 59 = .ok (.ireturn, 1) := by decide +kernel
theorem dJ2_length_9d52b_0 : decode cJ2_length_9d52b 0 = .ok (.aload_n 0, 1) := by decide +kernel
theorem dJ2_length_9d52b_1 : decode cJ2_length_9d52b 1 = .ok (.arraylength, 1) := by decide +kernel
theorem dJ2_length_9d52b_2 : decode cJ2_length_9d52b 2 = .ok (.iconst 1, 1) := by decide +kernel
theorem dJ2_length_9d52b_3 : decode cJ2_length_9d52b 3 = .ok (.ishr, 1) := by decide +kernel
theorem dJ2_length_9d52b_4 : decode cJ2_length_9d52b 4 = .ok (.ireturn, 1) := by decide +kernel
theorem dJ2_indexOf_4cfef_0 : decode cJ2_indexOf_4cfef 0 = .ok (.iload_n 2, 1) := by decide +kernel
theorem dJ2_indexOf_4cfef_1 : decode cJ2_indexOf_4cfef 1 = .ok (.iconst 0, 1) := by decide +kernel
theorem dJ2_indexOf_4cfef_2 : decode cJ2_indexOf_4cfef 2 = .ok (.invokestatic 224, 3) := by decide +kernel
theorem dJ2_indexOf_4cfef_5 : decode cJ2_indexOf_4cfef 5 = .ok (.istore_n 2, 1) := by decide +kernel
theorem dJ2_indexOf_4cfef_6 : decode cJ2_indexOf_4cfef 6 = .ok (.iload_n 3, 1) := by decide +kernel
theorem dJ2_indexOf_4cfef_7 : decode cJ2_indexOf_4cfef 7 = .ok (.aload_n 0, 1) := by decide +kernel
theorem dJ2_indexOf_4cfef_8 : decode cJ2_indexOf_4cfef 8 = .ok (.arraylength, 1) := by decide +kernel
theorem dJ2_indexOf_4cfef_9 : decode cJ2_indexOf_4cfef 9 = .ok (.iconst 1, 1) := by decide +kernel
theorem dJ2_indexOf_4cfef_10 : decode cJ2_indexOf_4cfef 10 = .ok (.ishr, 1) := by decide +kernel
theorem dJ2_indexOf_4cfef_11 : decode cJ2_indexOf_4cfef 11 = .ok (.invokestatic 183, 3) := by decide +kernel
theorem dJ2_indexOf_4cfef_14 : decode cJ2_indexOf_4cfef 14 = .ok (.istore_n 3, 1) := by decide +kernel
theorem dJ2_indexOf_4cfef_15 : decode cJ2_indexOf_4cfef 15 = .ok (.iload_n 2, 1) := by decide +kernel
theorem dJ2_indexOf_4cfef_16 : decode cJ2_indexOf_4cfef 16 = .ok (.iload_n 3, 1) := by decide +kernel
theorem dJ2_indexOf_4cfef_17 : decode cJ2_indexOf_4cfef 17 = .ok (.if_icmp .lt 5, 3) := by decide +kernel
theorem dJ2_indexOf_4cfef_20 : decode cJ2_indexOf_4cfef 20 = .ok (.iconst (-1), 1) := by decide +kernel
theorem dJ2_indexOf_4cfef_21 : decode cJ2_indexOf_4cfef 21 = .ok (.ireturn, 1) := by decide +kernel
theorem dJ2_indexOf_4cfef_22 : decode cJ2_indexOf_4cfef 22 = .ok (.iload_n 1, 1) := by decide +kernel
theorem dJ2_indexOf_4cfef_23 : decode cJ2_indexOf_4cfef 23 = .ok (.ldc 227, 2) := by decide +kernel
theorem dJ2_indexOf_4cfef_25 : decode cJ2_indexOf_4cfef 25 = .ok (.if_icmp .ge 11, 3) := by decide +kernel
theorem dJ2_indexOf_4cfef_28 : decode cJ2_indexOf_4cfef 28 = .ok (.aload_n 0, 1) := by decide +kernel
theorem dJ2_indexOf_4cfef_29 : decode cJ2_indexOf_4cfef 29 = .ok (.iload_n 1, 1) := by decide +kernel
theorem dJ2_indexOf_4cfef_30 : decode cJ2_indexOf_4cfef 30 = .ok (.iload_n 2, 1) := by decide +kernel
theorem dJ2_indexOf_4cfef_31 : decode cJ2_indexOf_4cfef 31 = .ok (.iload_n 3, 1) := by decide +kernel
theorem dJ2_indexOf_4cfef_32 : decode cJ2_indexOf_4cfef 32 = .ok (.invokestatic 228, 3) := by decide +kernel
theorem dJ2_indexOf_4cfef_35 : decode cJ2_indexOf_4cfef 35 = .ok (.ireturn, 1) := by decide +kernel
theorem dJ2_indexOf_4cfef_36 : decode cJ2_indexOf_4cfef 36 = .ok (.aload_n 0, 1) := by decide +kernel
theorem dJ2_indexOf_4cfef_37 : decode cJ2_indexOf_4cfef 37 = .ok (.iload_n 1, 1) := by decide +kernel
theorem dJ2_indexOf_4cfef_38 : decode cJ2_indexOf_4cfef 38 = .ok (.iload_n 2, 1) := by decide +kernel
theorem dJ2_indexOf_4cfef_39 : decode cJ2_indexOf_4cfef 39 = .ok (.iload_n 3, 1) := by decide +kernel
theorem dJ2_indexOf_4cfef_40 : decode cJ2_indexOf_4cfef 40 = .ok (.invokestatic 232, 3) := by decide +kernel
theorem dJ2_indexOf_4cfef_43 : decode cJ2_indexOf_4cfef 43 = .ok (.ireturn, 1) := by decide +kernel
theorem dJ2_indexOfChar_4cfef_0 : decode cJ2_indexOfChar_4cfef 0 = .ok (.iload_n 2, 1) := by decide +kernel
theorem dJ2_indexOfChar_4cfef_1 : decode cJ2_indexOfChar_4cfef 1 = .ok (.iload_n 3, 1) := by decide +kernel
theorem dJ2_indexOfChar_4cfef_2 : decode cJ2_indexOfChar_4cfef 2 = .ok (.aload_n 0, 1) := by decide +kernel
theorem dJ2_indexOfChar_4cfef_3 : decode cJ2_indexOfChar_4cfef 3 = .ok (.invokestatic 96, 3) := by decide +kernel
theorem dJ2_indexOfChar_4cfef_6 : decode cJ2_indexOfChar_4cfef 6 = .ok (.aload_n 0, 1) := by decide +kernel
theorem dJ2_indexOfChar_4cfef_7 : decode cJ2_indexOfChar_4cfef 7 = .ok (.iload_n 1, 1) := by decide +kernel
theorem dJ2_indexOfChar_4cfef_8 : decode cJ2_indexOfChar_4cfef 8 = .ok (.iload_n 2, 1) := by decide +kernel
theorem dJ2_indexOfChar_4cfef_9 : decode cJ2_indexOfChar_4cfef 9 = .ok (.iload_n 3, 1) := by decide +kernel
theorem dJ2_indexOfChar_4cfef_10 : decode cJ2_indexOfChar_4cfef 10 = .ok (.invokestatic 244, 3) := by decide +kernel
theorem dJ2_indexOfChar_4cfef_13 : decode cJ2_indexOfChar_4cfef 13 = .ok (.ireturn, 1) := by decide +kernel
theorem dJ2_indexOfCharUnsafe_4cfef_0 : decode cJ2_indexOfCharUnsafe_4cfef 0 = .ok (.iload_n 2, 1) := by decide +kernel
theorem dJ2_indexOfCharUnsafe_4cfef_1 : decode cJ2_indexOfCharUnsafe_4cfef 1 = .ok (.istore 4, 2) := by decide +kernel
theorem dJ2_indexOfCharUnsafe_4cfef_3 : decode cJ2_indexOfCharUnsafe_4cfef 3 = .ok (.iload 4, 2) := by decide +kernel
theorem dJ2_indexOfCharUnsafe_4cfef_5 : decode cJ2_indexOfCharUnsafe_4cfef 5 = .ok (.iload_n 3, 1) := by decide +kernel
theorem dJ2_indexOfCharUnsafe_4cfef_6 : decode cJ2_indexOfCharUnsafe_4cfef 6 = .ok (.if_icmp .ge 22, 3) := by decide +kernel
theorem dJ2_indexOfCharUnsafe_4cfef_9 : decode cJ2_indexOfCharUnsafe_4cfef 9 = .ok (.aload_n 0, 1) := by decide +kernel
theorem dJ2_indexOfCharUnsafe_4cfef_10 : decode cJ2_indexOfCharUnsafe_4cfef 10 = .ok (.iload 4, 2) := by decide +kernel
theorem dJ2_indexOfCharUnsafe_4cfef_12 : decode cJ2_indexOfCharUnsafe_4cfef 12 = .ok (.invokestatic 71, 3) := by decide +kernel
theorem dJ2_indexOfCharUnsafe_4cfef_15 : decode cJ2_indexOfCharUnsafe_4cfef 15 = .ok (.iload_n 1, 1) := by decide +kernel
theorem dJ2_indexOfCharUnsafe_4cfef_16 : decode cJ2_indexOfCharUnsafe_4cfef 16 = .ok (.if_icmp .ne 6, 3) := by decide +kernel
theorem dJ2_indexOfCharUnsafe_4cfef_19 : decode cJ2_indexOfCharUnsafe_4cfef 19 = .ok (.iload 4, 2) := by decide +kernel
theorem dJ2_indexOfCharUnsafe_4cfef_21 : decode cJ2_indexOfCharUnsafe_4cfef 21 = .ok (.ireturn, 1) := by decide +kernel
theorem dJ2_indexOfCharUnsafe_4cfef_22 : decode cJ2_indexOfCharUnsafe_4cfef 22 = .ok (.iinc 4 1, 3) := by decide +kernel
theorem dJ2_indexOfCharUnsafe_4cfef_25 : decode cJ2_indexOfCharUnsafe_4cfef 25 = .ok (.goto (-22), 3) := by decide +kernel
theorem dJ2_indexOfCharUnsafe_4cfef_28 : decode cJ2_indexOfCharUnsafe_4cfef 28 = .ok (.iconst (-1), 1) := by decide +kernel
theorem dJ2_indexOfCharUnsafe_4cfef_29 : decode cJ2_indexOfCharUnsafe_4cfef 29 = .ok (.ireturn, 1) := by decide +kernel
theorem dJ2_indexOfSupplementary_4cfef_0 : decode cJ2_indexOfSupplementary_4cfef 0 = .ok (.iload_n 1, 1) := by decide +kernel
theorem dJ2_indexOfSupplementary_4cfef_1 : decode cJ2_indexOfSupplementary_4cfef 1 = .ok (.invokestatic 164, 3) := by decide +kernel
theorem dJ2_indexOfSupplementary_4cfef_4 : decode cJ2_indexOfSupplementary_4cfef 4 = .ok (.ifCond .eq 65, 3) := by decide +kernel
theorem dJ2_indexOfSupplementary_4cfef_7 : decode cJ2_indexOfSupplementary_4cfef 7 = .ok (.iload_n 1, 1) := by decide +kernel
theorem dJ2_indexOfSupplementary_4cfef_8 : decode cJ2_indexOfSupplementary_4cfef 8 = .ok (.invokestatic 157, 3) := by decide +kernel
theorem dJ2_indexOfSupplementary_4cfef_11 : decode cJ2_indexOfSupplementary_4cfef 11 = .ok (.istore 4, 2) := by decide +kernel
theorem dJ2_indexOfSupplementary_4cfef_13 : decode cJ2_indexOfSupplementary_4cfef 13 = .ok (.iload_n 1, 1) := by decide +kernel
theorem dJ2_indexOfSupplementary_4cfef_14 : decode cJ2_indexOfSupplementary_4cfef 14 = .ok (.invokestatic 161, 3) := by decide +kernel
theorem dJ2_indexOfSupplementary_4cfef_17 : decode cJ2_indexOfSupplementary_4cfef 17 = .ok (.istore 5, 2) := by decide +kernel
theorem dJ2_indexOfSupplementary_4cfef_19 : decode cJ2_indexOfSupplementary_4cfef 19 = .ok (.iload_n 2, 1) := by decide +kernel
theorem dJ2_indexOfSupplementary_4cfef_20 : decode cJ2_indexOfSupplementary_4cfef 20 = .ok (.iload_n 3, 1) := by decide +kernel
theorem dJ2_indexOfSupplementary_4cfef_21 : decode cJ2_indexOfSupplementary_4cfef 21 = .ok (.aload_n 0, 1) := by decide +kernel
theorem dJ2_indexOfSupplementary_4cfef_22 : decode cJ2_indexOfSupplementary_4cfef 22 = .ok (.invokestatic 96, 3) := by decide +kernel
theorem dJ2_indexOfSupplementary_4cfef_25 : decode cJ2_indexOfSupplementary_4cfef 25 = .ok (.iload_n 2, 1) := by decide +kernel
theorem dJ2_indexOfSupplementary_4cfef_26 : decode cJ2_indexOfSupplementary_4cfef 26 = .ok (.istore 6, 2) := by decide +kernel
theorem dJ2_indexOfSupplementary_4cfef_28 : decode cJ2_indexOfSupplementary_4cfef 28 = .ok (.iload 6, 2) := by decide +kernel
theorem dJ2_indexOfSupplementary_4cfef_30 : decode cJ2_indexOfSupplementary_4cfef 30 = .ok (.iload_n 3, 1) := by decide +kernel
theorem dJ2_indexOfSupplementary_4cfef_31 : decode cJ2_indexOfSupplementary_4cfef 31 = .ok (.iconst 1, 1) := by decide +kernel
theorem dJ2_indexOfSupplementary_4cfef_32 : decode cJ2_indexOfSupplementary_4cfef 32 = .ok (.isub, 1) := by decide +kernel
theorem dJ2_indexOfSupplementary_4cfef_33 : decode cJ2_indexOfSupplementary_4cfef 33 = .ok (.if_icmp .ge 36, 3) := by decide +kernel
theorem dJ2_indexOfSupplementary_4cfef_36 : decode cJ2_indexOfSupplementary_4cfef 36 = .ok (.aload_n 0, 1) := by decide +kernel
theorem dJ2_indexOfSupplementary_4cfef_37 : decode cJ2_indexOfSupplementary_4cfef 37 = .ok (.iload 6, 2) := by decide +kernel
theorem dJ2_indexOfSupplementary_4cfef_39 : decode cJ2_indexOfSupplementary_4cfef 39 = .ok (.invokestatic 71, 3) := by decide +kernel
theorem dJ2_indexOfSupplementary_4cfef_42 : decode cJ2_indexOfSupplementary_4cfef 42 = .ok (.iload 4, 2) := by decide +kernel
theorem dJ2_indexOfSupplementary_4cfef_44 : decode cJ2_indexOfSupplementary_4cfef 44 = .ok (.if_icmp .ne 19, 3) := by decide +kernel
theorem dJ2_indexOfSupplementary_4cfef_47 : decode cJ2_indexOfSupplementary_4cfef 47 = .ok (.aload_n 0, 1) := by decide +kernel
theorem dJ2_indexOfSupplementary_4cfef_48 : decode cJ2_indexOfSupplementary_4cfef 48 = .ok (.iload 6, 2) := by decide +kernel
theorem dJ2_indexOfSupplementary_4cfef_50 : decode cJ2_indexOfSupplementary_4cfef 50 = .ok (.iconst 1, 1) := by decide +kernel
theorem dJ2_indexOfSupplementary_4cfef_51 : decode cJ2_indexOfSupplementary_4cfef 51 = .ok (.iadd, 1) := by decide +kernel
theorem dJ2_indexOfSupplementary_4cfef_52 : decode cJ2_indexOfSupplementary_4cfef 52 = .ok (.invokestatic 71, 3) := by decide +kernel
theorem dJ2_indexOfSupplementary_4cfef_55 : decode cJ2_indexOfSupplementary_4cfef 55 = .ok (.iload 5, 2) := by decide +kernel
theorem dJ2_indexOfSupplementary_4cfef_57 : decode cJ2_indexOfSupplementary_4cfef 57 = .ok (.if_icmp .ne 6, 3) := by decide +kernel
theorem dJ2_indexOfSupplementary_4cfef_60 : decode cJ2_indexOfSupplementary_4cfef 60 = .ok (.iload 6, 2) := by decide +kernel
theorem dJ2_indexOfSupplementary_4cfef_62 : decode cJ2_indexOfSupplementary_4cfef 62 = .ok (.ireturn, 1) := by decide +kernel
theorem dJ2_indexOfSupplementary_4cfef_63 : decode cJ2_indexOfSupplementary_4cfef 63 = .ok (.iinc 6 1, 3) := by decide +kernel
theorem dJ2_indexOfSupplementary_4cfef_66 : decode cJ2_indexOfSupplementary_4cfef 66 = .ok (.goto (-38), 3) := by decide +kernel
theorem dJ2_indexOfSupplementary_4cfef_69 : decode cJ2_indexOfSupplementary_4cfef 69 = .ok (.iconst (-1), 1) := by decide +kernel
theorem dJ2_indexOfSupplementary_4cfef_70 : decode cJ2_indexOfSupplementary_4cfef 70 = .ok (.ireturn, 1) := by decide +kernel
theorem dJ2_checkBoundsBeginEnd_d044e_0 : decode cJ2_checkBoundsBeginEnd_d044e 0 = .ok (.iload_n 0, 1) := by decide +kernel
theorem dJ2_checkBoundsBeginEnd_d044e_1 : decode cJ2_checkBoundsBeginEnd_d044e 1 = .ok (.iload_n 1, 1) := by decide +kernel
theorem dJ2_checkBoundsBeginEnd_d044e_2 : decode cJ2_checkBoundsBeginEnd_d044e 2 = .ok (.aload_n 2, 1) := by decide +kernel
theorem dJ2_checkBoundsBeginEnd_d044e_3 : decode cJ2_checkBoundsBeginEnd_d044e 3 = .ok (.invokestatic 48, 3) := by decide +kernel
theorem dJ2_checkBoundsBeginEnd_d044e_6 : decode cJ2_checkBoundsBeginEnd_d044e 6 = .ok (.invokestatic 241, 3) := by decide +kernel
theorem dJ2_checkBoundsBeginEnd_d044e_9 : decode cJ2_checkBoundsBeginEnd_d044e 9 = .ok (.return_, 1) := by decide +kernel
theorem dJ3_checkFromToIndex_8c36e_0 : decode cJ3_checkFromToIndex_8c36e 0 = .ok (.iload_n 0, 1) := by decide +kernel
theorem dJ3_checkFromToIndex_8c36e_1 : decode cJ3_checkFromToIndex_8c36e 1 = .ok (.ifCond .lt 13, 3) := by decide +kernel
theorem dJ3_checkFromToIndex_8c36e_4 : decode cJ3_checkFromToIndex_8c36e 4 = .ok (.iload_n 0, 1) := by decide +kernel
theorem dJ3_checkFromToIndex_8c36e_5 : decode cJ3_checkFromToIndex_8c36e 5 = .ok (.iload_n 1, 1) := by decide +kernel
theorem dJ3_checkFromToIndex_8c36e_6 : decode cJ3_checkFromToIndex_8c36e 6 = .ok (.if_icmp .gt 8, 3) := by decide +kernel
theorem dJ3_checkFromToIndex_8c36e_9 : decode cJ3_checkFromToIndex_8c36e 9 = .ok (.iload_n 1, 1) := by decide +kernel
theorem dJ3_checkFromToIndex_8c36e_10 : decode cJ3_checkFromToIndex_8c36e 10 = .ok (.iload_n 2, 1) := by decide +kernel
theorem dJ3_checkFromToIndex_8c36e_11 : decode cJ3_checkFromToIndex_8c36e 11 = .ok (.if_icmp .le 11, 3) := by decide +kernel
theorem dJ3_checkFromToIndex_8c36e_14 : decode cJ3_checkFromToIndex_8c36e 14 = .ok (.aload_n 3, 1) := by decide +kernel
theorem dJ3_checkFromToIndex_8c36e_15 : decode cJ3_checkFromToIndex_8c36e 15 = .ok (.iload_n 0, 1) := by decide +kernel
theorem dJ3_checkFromToIndex_8c36e_16 : decode cJ3_checkFromToIndex_8c36e 16 = .ok (.iload_n 1, 1) := by decide +kernel
theorem dJ3_checkFromToIndex_8c36e_17 : decode cJ3_checkFromToIndex_8c36e 17 = .ok (.iload_n 2, 1) := by decide +kernel
theorem dJ3_checkFromToIndex_8c36e_18 : decode cJ3_checkFromToIndex_8c36e 18 = .ok (.invokestatic 99, 3) := by decide +kernel
theorem dJ3_checkFromToIndex_8c36e_21 : decode cJ3_checkFromToIndex_8c36e 21 = .ok (.athrow, 1) := by decide +kernel
theorem dJ3_checkFromToIndex_8c36e_22 : decode cJ3_checkFromToIndex_8c36e 22 = .ok (.iload_n 0, 1) := by decide +kernel
theorem dJ3_checkFromToIndex_8c36e_23 : decode cJ3_checkFromToIndex_8c36e 23 = .ok (.ireturn, 1) := by decide +kernel
theorem dJ6_bitCount_0f7a4_0 : decode cJ6_bitCount_0f7a4 0 = .ok (.iload_n 0, 1) := by decide +kernel
theorem dJ6_bitCount_0f7a4_1 : decode cJ6_bitCount_0f7a4 1 = .ok (.iload_n 0, 1) := by decide +kernel
theorem dJ6_bitCount_0f7a4_2 : decode cJ6_bitCount_0f7a4 2 = .ok (.iconst 1, 1) := by decide +kernel
theorem dJ6_bitCount_0f7a4_3 : decode cJ6_bitCount_0f7a4 3 = .ok (.iushr, 1) := by decide +kernel
theorem dJ6_bitCount_0f7a4_4 : decode cJ6_bitCount_0f7a4 4 = .ok (.ldc_w 265, 3) := by decide +kernel
theorem dJ6_bitCount_0f7a4_7 : decode cJ6_bitCount_0f7a4 7 = .ok (.iand, 1) := by decide +kernel
theorem dJ6_bitCount_0f7a4_8 : decode cJ6_bitCount_0f7a4 8 = .ok (.isub, 1) := by decide +kernel
theorem dJ6_bitCount_0f7a4_9 : decode cJ6_bitCount_0f7a4 9 = .ok (.istore_n 0, 1) := by decide +kernel
theorem dJ6_bitCount_0f7a4_10 : decode cJ6_bitCount_0f7a4 10 = .ok (.iload_n 0, 1) := by decide +kernel
theorem dJ6_bitCount_0f7a4_11 : decode cJ6_bitCount_0f7a4 11 = .ok (.ldc_w 266, 3) := by decide +kernel
theorem dJ6_bitCount_0f7a4_14 : decode cJ6_bitCount_0f7a4 14 = .ok (.iand, 1) := by decide +kernel
theorem dJ6_bitCount_0f7a4_15 : decode cJ6_bitCount_0f7a4 15 = .ok (.iload_n 0, 1) := by decide +kernel
theorem dJ6_bitCount_0f7a4_16 : decode cJ6_bitCount_0f7a4 16 = .ok (.iconst 2, 1) := by decide +kernel
theorem dJ6_bitCount_0f7a4_17 : decode cJ6_bitCount_0f7a4 17 = .ok (.iushr, 1) := by decide +kernel
theorem dJ6_bitCount_0f7a4_18 : decode cJ6_bitCount_0f7a4 18 = .ok (.ldc_w 266, 3) := by decide +kernel
theorem dJ6_bitCount_0f7a4_21 : decode cJ6_bitCount_0f7a4 21 = .ok (.iand, 1) := by decide +kernel
theorem dJ6_bitCount_0f7a4_22 : decode cJ6_bitCount_0f7a4 22 = .ok (.iadd, 1) := by decide +kernel
theorem dJ6_bitCount_0f7a4_23 : decode cJ6_bitCount_0f7a4 23 = .ok (.istore_n 0, 1) := by decide +kernel
theorem dJ6_bitCount_0f7a4_24 : decode cJ6_bitCount_0f7a4 24 = .ok (.iload_n 0, 1) := by decide +kernel
theorem dJ6_bitCount_0f7a4_25 : decode cJ6_bitCount_0f7a4 25 = .ok (.iload_n 0, 1) := by decide +kernel
theorem dJ6_bitCount_0f7a4_26 : decode cJ6_bitCount_0f7a4 26 = .ok (.iconst 4, 1) := by decide +kernel
theorem dJ6_bitCount_0f7a4_27 : decode cJ6_bitCount_0f7a4 27 = .ok (.iushr, 1) := by decide +kernel
theorem dJ6_bitCount_0f7a4_28 : decode cJ6_bitCount_0f7a4 28 = .ok (.iadd, 1) := by decide +kernel
theorem dJ6_bitCount_0f7a4_29 : decode cJ6_bitCount_0f7a4 29 = .ok (.ldc_w 267, 3) := by decide +kernel
theorem dJ6_bitCount_0f7a4_32 : decode cJ6_bitCount_0f7a4 32 = .ok (.iand, 1) := by decide +kernel
theorem dJ6_bitCount_0f7a4_33 : decode cJ6_bitCount_0f7a4 33 = .ok (.istore_n 0, 1) := by decide +kernel
theorem dJ6_bitCount_0f7a4_34 : decode cJ6_bitCount_0f7a4 34 = .ok (.iload_n 0, 1) := by decide +kernel
theorem dJ6_bitCount_0f7a4_35 : decode cJ6_bitCount_0f7a4 35 = .ok (.iload_n 0, 1) := by decide +kernel
theorem dJ6_bitCount_0f7a4_36 : decode cJ6_bitCount_0f7a4 36 = .ok (.bipush 8, 2) := by decide +kernel
theorem dJ6_bitCount_0f7a4_38 : decode cJ6_bitCount_0f7a4 38 = .ok (.iushr, 1) := by decide +kernel
theorem dJ6_bitCount_0f7a4_39 : decode cJ6_bitCount_0f7a4 39 = .ok (.iadd, 1) := by decide +kernel
theorem dJ6_bitCount_0f7a4_40 : decode cJ6_bitCount_0f7a4 40 = .ok (.istore_n 0, 1) := by decide +kernel
theorem dJ6_bitCount_0f7a4_41 : decode cJ6_bitCount_0f7a4 41 = .ok (.iload_n 0, 1) := by decide +kernel
theorem dJ6_bitCount_0f7a4_42 : decode cJ6_bitCount_0f7a4 42 = .ok (.iload_n 0, 1) := by decide +kernel
theorem dJ6_bitCount_0f7a4_43 : decode cJ6_bitCount_0f7a4 43 = .ok (.bipush 16, 2) := by decide +kernel
theorem dJ6_bitCount_0f7a4_45 : decode cJ6_bitCount_0f7a4 45 = .ok (.iushr, 1) := by decide +kernel
theorem dJ6_bitCount_0f7a4_46 : decode cJ6_bitCount_0f7a4 46 = .ok (.iadd, 1) := by decide +kernel
theorem dJ6_bitCount_0f7a4_47 : decode cJ6_bitCount_0f7a4 47 = .ok (.istore_n 0, 1) := by decide +kernel
theorem dJ6_bitCount_0f7a4_48 : decode cJ6_bitCount_0f7a4 48 = .ok (.iload_n 0, 1) := by decide +kernel
theorem dJ6_bitCount_0f7a4_49 : decode cJ6_bitCount_0f7a4 49 = .ok (.bipush 63, 2) := by decide +kernel
theorem dJ6_bitCount_0f7a4_51 : decode cJ6_bitCount_0f7a4 51 = .ok (.iand, 1) := by decide +kernel
theorem dJ6_bitCount_0f7a4_52 : decode cJ6_bitCount_0f7a4 52 = .ok (.ireturn, 1) := by decide +kernel
theorem dJ9_max_7cf53_0 : decode cJ9_max_7cf53 0 = .ok (.iload_n 0, 1) := by decide +kernel
theorem dJ9_max_7cf53_1 : decode cJ9_max_7cf53 1 = .ok (.iload_n 1, 1) := by decide +kernel
theorem dJ9_max_7cf53_2 : decode cJ9_max_7cf53 2 = .ok (.if_icmp .lt 7, 3) := by decide +kernel
theorem dJ9_max_7cf53_5 : decode cJ9_max_7cf53 5 = .ok (.iload_n 0, 1) := by decide +kernel
theorem dJ9_max_7cf53_6 : decode cJ9_max_7cf53 6 = .ok (.goto 4, 3) := by decide +kernel
theorem dJ9_max_7cf53_9 : decode cJ9_max_7cf53 9 = .ok (.iload_n 1, 1) := by decide +kernel
theorem dJ9_max_7cf53_10 : decode cJ9_max_7cf53 10 = .ok (.ireturn, 1) := by decide +kernel
theorem dJ9_min_7cf53_0 : decode cJ9_min_7cf53 0 = .ok (.iload_n 0, 1) := by decide +kernel
theorem dJ9_min_7cf53_1 : decode cJ9_min_7cf53 1 = .ok (.iload_n 1, 1) := by decide +kernel
theorem dJ9_min_7cf53_2 : decode cJ9_min_7cf53 2 = .ok (.if_icmp .gt 7, 3) := by decide +kernel
theorem dJ9_min_7cf53_5 : decode cJ9_min_7cf53 5 = .ok (.iload_n 0, 1) := by decide +kernel
theorem dJ9_min_7cf53_6 : decode cJ9_min_7cf53 6 = .ok (.goto 4, 3) := by decide +kernel
theorem dJ9_min_7cf53_9 : decode cJ9_min_7cf53 9 = .ok (.iload_n 1, 1) := by decide +kernel
theorem dJ9_min_7cf53_10 : decode cJ9_min_7cf53 10 = .ok (.ireturn, 1) := by decide +kernel
theorem dJ11_isValidCodePoint_9a6ad_0 : decode cJ11_isValidCodePoint_9a6ad 0 = .ok (.iload_n 0, 1) := by decide +kernel
theorem dJ11_isValidCodePoint_9a6ad_1 : decode cJ11_isValidCodePoint_9a6ad 1 = .ok (.bipush 16, 2) := by decide +kernel
theorem dJ11_isValidCodePoint_9a6ad_3 : decode cJ11_isValidCodePoint_9a6ad 3 = .ok (.iushr, 1) := by decide +kernel
theorem dJ11_isValidCodePoint_9a6ad_4 : decode cJ11_isValidCodePoint_9a6ad 4 = .ok (.istore_n 1, 1) := by decide +kernel
theorem dJ11_isValidCodePoint_9a6ad_5 : decode cJ11_isValidCodePoint_9a6ad 5 = .ok (.iload_n 1, 1) := by decide +kernel
theorem dJ11_isValidCodePoint_9a6ad_6 : decode cJ11_isValidCodePoint_9a6ad 6 = .ok (.bipush 17, 2) := by decide +kernel
theorem dJ11_isValidCodePoint_9a6ad_8 : decode cJ11_isValidCodePoint_9a6ad 8 = .ok (.if_icmp .ge 7, 3) := by decide +kernel
theorem dJ11_isValidCodePoint_9a6ad_11 : decode cJ11_isValidCodePoint_9a6ad 11 = .ok (.iconst 1, 1) := by decide +kernel
theorem dJ11_isValidCodePoint_9a6ad_12 : decode cJ11_isValidCodePoint_9a6ad 12 = .ok (.goto 4, 3) := by decide +kernel
theorem dJ11_isValidCodePoint_9a6ad_15 : decode cJ11_isValidCodePoint_9a6ad 15 = .ok (.iconst 0, 1) := by decide +kernel
theorem dJ11_isValidCodePoint_9a6ad_16 : decode cJ11_isValidCodePoint_9a6ad 16 = .ok (.ireturn, 1) := by decide +kernel
theorem dJ11_highSurrogate_5068e_0 : decode cJ11_highSurrogate_5068e 0 = .ok (.iload_n 0, 1) := by decide +kernel
theorem dJ11_highSurrogate_5068e_1 : decode cJ11_highSurrogate_5068e 1 = .ok (.bipush 10, 2) := by decide +kernel
theorem dJ11_highSurrogate_5068e_3 : decode cJ11_highSurrogate_5068e 3 = .ok (.iushr, 1) := by decide +kernel
theorem dJ11_highSurrogate_5068e_4 : decode cJ11_highSurrogate_5068e 4 = .ok (.ldc 110, 2) := by decide +kernel
theorem dJ11_highSurrogate_5068e_6 : decode cJ11_highSurrogate_5068e 6 = .ok (.iadd, 1) := by decide +kernel
theorem dJ11_highSurrogate_5068e_7 : decode cJ11_highSurrogate_5068e 7 = .ok (.i2c, 1) := by decide +kernel
theorem dJ11_highSurrogate_5068e_8 : decode cJ11_highSurrogate_5068e 8 = .ok (.ireturn, 1) := by decide +kernel
theorem dJ11_lowSurrogate_5068e_0 : decode cJ11_lowSurrogate_5068e 0 = .ok (.iload_n 0, 1) := by decide +kernel
theorem dJ11_lowSurrogate_5068e_1 : decode cJ11_lowSurrogate_5068e 1 = .ok (.sipush 1023, 3) := by decide +kernel
theorem dJ11_lowSurrogate_5068e_4 : decode cJ11_lowSurrogate_5068e 4 = .ok (.iand, 1) := by decide +kernel
theorem dJ11_lowSurrogate_5068e_5 : decode cJ11_lowSurrogate_5068e 5 = .ok (.ldc 76, 2) := by decide +kernel
theorem dJ11_lowSurrogate_5068e_7 : decode cJ11_lowSurrogate_5068e 7 = .ok (.iadd, 1) := by decide +kernel
theorem dJ11_lowSurrogate_5068e_8 : decode cJ11_lowSurrogate_5068e 8 = .ok (.i2c, 1) := by decide +kernel
theorem dJ11_lowSurrogate_5068e_9 : decode cJ11_lowSurrogate_5068e 9 = .ok (.ireturn, 1) := by decide +kernel
theorem dX0_init_0 : decode cX0_init 0 = .ok (.aload_n 0, 1) := by decide +kernel
theorem dX0_init_1 : decode cX0_init 1 = .ok (.invokespecial 3, 3) := by decide +kernel
theorem dX0_init_4 : decode cX0_init 4 = .ok (.aload_n 0, 1) := by decide +kernel
theorem dX0_init_5 : decode cX0_init 5 = .ok (.bipush 20, 2) := by decide +kernel
theorem dX0_init_7 : decode cX0_init 7 = .ok (.newarray .int, 2) := by decide +kernel
theorem dX0_init_9 : decode cX0_init 9 = .ok (.putfield 11, 3) := by decide +kernel
theorem dX0_init_12 : decode cX0_init 12 = .ok (.aload_n 0, 1) := by decide +kernel
theorem dX0_init_13 : decode cX0_init 13 = .ok (.bipush 20, 2) := by decide +kernel
theorem dX0_init_15 : decode cX0_init 15 = .ok (.newarray .int, 2) := by decide +kernel
theorem dX0_init_17 : decode cX0_init 17 = .ok (.putfield 15, 3) := by decide +kernel
theorem dX0_init_20 : decode cX0_init 20 = .ok (.aload_n 0, 1) := by decide +kernel
theorem dX0_init_21 : decode cX0_init 21 = .ok (.bipush 20, 2) := by decide +kernel
theorem dX0_init_23 : decode cX0_init 23 = .ok (.newarray .int, 2) := by decide +kernel
theorem dX0_init_25 : decode cX0_init 25 = .ok (.putfield 18, 3) := by decide +kernel
theorem dX0_init_28 : decode cX0_init 28 = .ok (.aload_n 0, 1) := by decide +kernel
theorem dX0_init_29 : decode cX0_init 29 = .ok (.aload_n 1, 1) := by decide +kernel
theorem dX0_init_30 : decode cX0_init 30 = .ok (.putfield 21, 3) := by decide +kernel
theorem dX0_init_33 : decode cX0_init 33 = .ok (.return_, 1) := by decide +kernel
theorem dX0_read_0 : decode cX0_read 0 = .ok (.aload_n 0, 1) := by decide +kernel
theorem dX0_read_1 : decode cX0_read 1 = .ok (.iconst 0, 1) := by decide +kernel
theorem dX0_read_2 : decode cX0_read 2 = .ok (.putfield 25, 3) := by decide +kernel
theorem dX0_read_5 : decode cX0_read 5 = .ok (.aload_n 0, 1) := by decide +kernel
theorem dX0_read_6 : decode cX0_read 6 = .ok (.getfield 21, 3) := by decide +kernel
theorem dX0_read_9 : decode cX0_read 9 = .ok (.iload_n 1, 1) := by decide +kernel
theorem dX0_read_10 : decode cX0_read 10 = .ok (.invokevirtual 29, 3) := by decide +kernel
theorem dX0_read_13 : decode cX0_read 13 = .ok (.iconst 0, 1) := by decide +kernel
theorem dX0_read_14 : decode cX0_read 14 = .ok (.istore_n 2, 1) := by decide +kernel
theorem dX0_read_15 : decode cX0_read 15 = .ok (.iload_n 2, 1) := by decide +kernel
theorem dX0_read_16 : decode cX0_read 16 = .ok (.bipush 20, 2) := by decide +kernel
theorem dX0_read_18 : decode cX0_read 18 = .ok (.if_icmp .gt 57, 3) := by decide +kernel
theorem dX0_read_21 : decode cX0_read 21 = .ok (.aload_n 0, 1) := by decide +kernel
theorem dX0_read_22 : decode cX0_read 22 = .ok (.getfield 21, 3) := by decide +kernel
theorem dX0_read_25 : decode cX0_read 25 = .ok (.invokevirtual 35, 3) := by decide +kernel
theorem dX0_read_28 : decode cX0_read 28 = .ok (.ifCond .ne 47, 3) := by decide +kernel
theorem dX0_read_31 : decode cX0_read 31 = .ok (.aload_n 0, 1) := by decide +kernel
theorem dX0_read_32 : decode cX0_read 32 = .ok (.invokevirtual 39, 3) := by decide +kernel
theorem dX0_read_35 : decode cX0_read 35 = .ok (.aload_n 0, 1) := by decide +kernel
theorem dX0_read_36 : decode cX0_read 36 = .ok (.getfield 21, 3) := by decide +kernel
theorem dX0_read_39 : decode cX0_read 39 = .ok (.invokevirtual 35, 3) := by decide +kernel
theorem dX0_read_42 : decode cX0_read 42 = .ok (.ifCond .ne 18, 3) := by decide +kernel
theorem dX0_read_45 : decode cX0_read 45 = .ok (.aload_n 0, 1) := by decide +kernel
theorem dX0_read_46 : decode cX0_read 46 = .ok (.getfield 21, 3) := by decide +kernel
theorem dX0_read_49 : decode cX0_read 49 = .ok (.invokevirtual 42, 3) := by decide +kernel
theorem dX0_read_52 : decode cX0_read 52 = .ok (.ifCond .eq 8, 3) := by decide +kernel
theorem dX0_read_55 : decode cX0_read 55 = .ok (.aload_n 0, 1) := by decide +kernel
theorem dX0_read_56 : decode cX0_read 56 = .ok (.getfield 25, 3) := by decide +kernel
theorem dX0_read_59 : decode cX0_read 59 = .ok (.ireturn, 1) := by decide +kernel
theorem dX0_read_60 : decode cX0_read 60 = .ok (.aload_n 0, 1) := by decide +kernel
theorem dX0_read_61 : decode cX0_read 61 = .ok (.getfield 21, 3) := by decide +kernel
theorem dX0_read_64 : decode cX0_read 64 = .ok (.bipush 59, 2) := by decide +kernel
theorem dX0_read_66 : decode cX0_read 66 = .ok (.invokevirtual 45, 3) := by decide +kernel
theorem dX0_read_69 : decode cX0_read 69 = .ok (.iinc 2 1, 3) := by decide +kernel
theorem dX0_read_72 : decode cX0_read 72 = .ok (.goto (-57), 3) := by decide +kernel
theorem dX0_read_75 : decode cX0_read 75 = .ok (.aload_n 0, 1) := by decide +kernel
theorem dX0_read_76 : decode cX0_read 76 = .ok (.getfield 21, 3) := by decide +kernel
theorem dX0_read_79 : decode cX0_read 79 = .ok (.getfield 48, 3) := by decide +kernel
theorem dX0_read_82 : decode cX0_read 82 = .ok (.ireturn, 1) := by decide +kernel
theorem dX0_befall_0 : decode cX0_befall 0 = .ok (.iconst 0, 1) := by decide +kernel
theorem dX0_befall_1 : decode cX0_befall 1 = .ok (.istore 4, 2) := by decide +kernel
theorem dX0_befall_3 : decode cX0_befall 3 = .ok (.iload 4, 2) := by decide +kernel
theorem dX0_befall_5 : decode cX0_befall 5 = .ok (.aload_n 0, 1) := by decide +kernel
theorem dX0_befall_6 : decode cX0_befall 6 = .ok (.getfield 25, 3) := by decide +kernel
theorem dX0_befall_9 : decode cX0_befall 9 = .ok (.if_icmp .ge 173, 3) := by decide +kernel
theorem dX0_befall_12 : decode cX0_befall 12 = .ok (.iload 4, 2) := by decide +kernel
theorem dX0_befall_14 : decode cX0_befall 14 = .ok (.bipush 20, 2) := by decide +kernel
theorem dX0_befall_16 : decode cX0_befall 16 = .ok (.if_icmp .ge 166, 3) := by decide +kernel
theorem dX0_befall_19 : decode cX0_befall 19 = .ok (.aload_n 0, 1) := by decide +kernel
theorem dX0_befall_20 : decode cX0_befall 20 = .ok (.getfield 15, 3) := by decide +kernel
theorem dX0_befall_23 : decode cX0_befall 23 = .ok (.iload 4, 2) := by decide +kernel
theorem dX0_befall_25 : decode cX0_befall 25 = .ok (.iaload, 1) := by decide +kernel
theorem dX0_befall_26 : decode cX0_befall 26 = .ok (.istore 5, 2) := by decide +kernel
theorem dX0_befall_28 : decode cX0_befall 28 = .ok (.aload_n 0, 1) := by decide +kernel
theorem dX0_befall_29 : decode cX0_befall 29 = .ok (.getfield 18, 3) := by decide +kernel
theorem dX0_befall_32 : decode cX0_befall 32 = .ok (.iload 4, 2) := by decide +kernel
theorem dX0_befall_34 : decode cX0_befall 34 = .ok (.iaload, 1) := by decide +kernel
theorem dX0_befall_35 : decode cX0_befall 35 = .ok (.istore 6, 2) := by decide +kernel
theorem dX0_befall_37 : decode cX0_befall 37 = .ok (.aload_n 0, 1) := by decide +kernel
theorem dX0_befall_38 : decode cX0_befall 38 = .ok (.getfield 11, 3) := by decide +kernel
theorem dX0_befall_41 : decode cX0_befall 41 = .ok (.iload 4, 2) := by decide +kernel
theorem dX0_befall_43 : decode cX0_befall 43 = .ok (.iaload, 1) := by decide +kernel
theorem dX0_befall_44 : decode cX0_befall 44 = .ok (.lookupswitch 125 #[(33, 115), (43, 64), (45, 84), (61, 52), (126, 104)], 52) := by decide +kernel
theorem dX0_befall_96 : decode cX0_befall 96 = .ok (.aload_n 1, 1) := by decide +kernel
theorem dX0_befall_97 : decode cX0_befall 97 = .ok (.iload_n 2, 1) := by decide +kernel
theorem dX0_befall_98 : decode cX0_befall 98 = .ok (.iload 5, 2) := by decide +kernel
theorem dX0_befall_100 : decode cX0_befall 100 = .ok (.iload 6, 2) := by decide +kernel
theorem dX0_befall_102 : decode cX0_befall 102 = .ok (.invokevirtual 51, 3) := by decide +kernel
theorem dX0_befall_105 : decode cX0_befall 105 = .ok (.goto 71, 3) := by decide +kernel
theorem dX0_befall_108 : decode cX0_befall 108 = .ok (.aload_n 1, 1) := by decide +kernel
theorem dX0_befall_109 : decode cX0_befall 109 = .ok (.iload_n 2, 1) := by decide +kernel
theorem dX0_befall_110 : decode cX0_befall 110 = .ok (.iload 5, 2) := by decide +kernel
theorem dX0_befall_112 : decode cX0_befall 112 = .ok (.aload_n 1, 1) := by decide +kernel
theorem dX0_befall_113 : decode cX0_befall 113 = .ok (.iload_n 2, 1) := by decide +kernel
theorem dX0_befall_114 : decode cX0_befall 114 = .ok (.iload 5, 2) := by decide +kernel
theorem dX0_befall_116 : decode cX0_befall 116 = .ok (.invokevirtual 57, 3) := by decide +kernel
theorem dX0_befall_119 : decode cX0_befall 119 = .ok (.iload 6, 2) := by decide +kernel
theorem dX0_befall_121 : decode cX0_befall 121 = .ok (.iadd, 1) := by decide +kernel
theorem dX0_befall_122 : decode cX0_befall 122 = .ok (.invokevirtual 51, 3) := by decide +kernel
theorem dX0_befall_125 : decode cX0_befall 125 = .ok (.goto 51, 3) := by decide +kernel
theorem dX0_befall_128 : decode cX0_befall 128 = .ok (.aload_n 1, 1) := by decide +kernel
theorem dX0_befall_129 : decode cX0_befall 129 = .ok (.iload_n 2, 1) := by decide +kernel
theorem dX0_befall_130 : decode cX0_befall 130 = .ok (.iload 5, 2) := by decide +kernel
theorem dX0_befall_132 : decode cX0_befall 132 = .ok (.aload_n 1, 1) := by decide +kernel
theorem dX0_befall_133 : decode cX0_befall 133 = .ok (.iload_n 2, 1) := by decide +kernel
theorem dX0_befall_134 : decode cX0_befall 134 = .ok (.iload 5, 2) := by decide +kernel
theorem dX0_befall_136 : decode cX0_befall 136 = .ok (.invokevirtual 57, 3) := by decide +kernel
theorem dX0_befall_139 : decode cX0_befall 139 = .ok (.iload 6, 2) := by decide +kernel
theorem dX0_befall_141 : decode cX0_befall 141 = .ok (.isub, 1) := by decide +kernel
theorem dX0_befall_142 : decode cX0_befall 142 = .ok (.invokevirtual 51, 3) := by decide +kernel
theorem dX0_befall_145 : decode cX0_befall 145 = .ok (.goto 31, 3) := by decide +kernel
theorem dX0_befall_148 : decode cX0_befall 148 = .ok (.aload_n 3, 1) := by decide +kernel
theorem dX0_befall_149 : decode cX0_befall 149 = .ok (.iload 5, 2) := by decide +kernel
theorem dX0_befall_151 : decode cX0_befall 151 = .ok (.iload 6, 2) := by decide +kernel
theorem dX0_befall_153 : decode cX0_befall 153 = .ok (.invokevirtual 61, 3) := by decide +kernel
theorem dX0_befall_156 : decode cX0_befall 156 = .ok (.goto 20, 3) := by decide +kernel
theorem dX0_befall_159 : decode cX0_befall 159 = .ok (.aload_n 1, 1) := by decide +kernel
theorem dX0_befall_160 : decode cX0_befall 160 = .ok (.iload_n 2, 1) := by decide +kernel
theorem dX0_befall_161 : decode cX0_befall 161 = .ok (.iload 6, 2) := by decide +kernel
theorem dX0_befall_163 : decode cX0_befall 163 = .ok (.invokevirtual 67, 3) := by decide +kernel
theorem dX0_befall_166 : decode cX0_befall 166 = .ok (.goto 10, 3) := by decide +kernel
theorem dX0_befall_169 : decode cX0_befall 169 = .ok (.aload_n 1, 1) := by decide +kernel
theorem dX0_befall_170 : decode cX0_befall 170 = .ok (.iload_n 2, 1) := by decide +kernel
theorem dX0_befall_171 : decode cX0_befall 171 = .ok (.iload 6, 2) := by decide +kernel
theorem dX0_befall_173 : decode cX0_befall 173 = .ok (.invokevirtual 70, 3) := by decide +kernel
theorem dX0_befall_176 : decode cX0_befall 176 = .ok (.iinc 4 1, 3) := by decide +kernel
theorem dX0_befall_179 : decode cX0_befall 179 = .ok (.goto (-176), 3) := by decide +kernel
theorem dX0_befall_182 : decode cX0_befall 182 = .ok (.return_, 1) := by decide +kernel
theorem dX0_readLine_0 : decode cX0_readLine 0 = .ok (.aload_n 0, 1) := by decide +kernel
theorem dX0_readLine_1 : decode cX0_readLine 1 = .ok (.getfield 21, 3) := by decide +kernel
theorem dX0_readLine_4 : decode cX0_readLine 4 = .ok (.invokevirtual 73, 3) := by decide +kernel
theorem dX0_readLine_7 : decode cX0_readLine 7 = .ok (.istore_n 1, 1) := by decide +kernel
theorem dX0_readLine_8 : decode cX0_readLine 8 = .ok (.iload_n 1, 1) := by decide +kernel
theorem dX0_readLine_9 : decode cX0_readLine 9 = .ok (.invokestatic 77, 3) := by decide +kernel
theorem dX0_readLine_12 : decode cX0_readLine 12 = .ok (.ifCond .ne 26, 3) := by decide +kernel
theorem dX0_readLine_15 : decode cX0_readLine 15 = .ok (.iload_n 1, 1) := by decide +kernel
theorem dX0_readLine_16 : decode cX0_readLine 16 = .ok (.bipush 33, 2) := by decide +kernel
theorem dX0_readLine_18 : decode cX0_readLine 18 = .ok (.if_icmp .eq 20, 3) := by decide +kernel
theorem dX0_readLine_21 : decode cX0_readLine 21 = .ok (.iload_n 1, 1) := by decide +kernel
theorem dX0_readLine_22 : decode cX0_readLine 22 = .ok (.bipush 35, 2) := by decide +kernel
theorem dX0_readLine_24 : decode cX0_readLine 24 = .ok (.if_icmp .eq 14, 3) := by decide +kernel
theorem dX0_readLine_27 : decode cX0_readLine 27 = .ok (.aload_n 0, 1) := by decide +kernel
theorem dX0_readLine_28 : decode cX0_readLine 28 = .ok (.getfield 21, 3) := by decide +kernel
theorem dX0_readLine_31 : decode cX0_readLine 31 = .ok (.iconst 1, 1) := by decide +kernel
theorem dX0_readLine_32 : decode cX0_readLine 32 = .ok (.invokevirtual 81, 3) := by decide +kernel
theorem dX0_readLine_35 : decode cX0_readLine 35 = .ok (.goto 110, 3) := by decide +kernel
theorem dX0_readLine_38 : decode cX0_readLine 38 = .ok (.aload_n 0, 1) := by decide +kernel
theorem dX0_readLine_39 : decode cX0_readLine 39 = .ok (.getfield 25, 3) := by decide +kernel
theorem dX0_readLine_42 : decode cX0_readLine 42 = .ok (.bipush 20, 2) := by decide +kernel
theorem dX0_readLine_44 : decode cX0_readLine 44 = .ok (.if_icmp .lt 14, 3) := by decide +kernel
theorem dX0_readLine_47 : decode cX0_readLine 47 = .ok (.aload_n 0, 1) := by decide +kernel
theorem dX0_readLine_48 : decode cX0_readLine 48 = .ok (.getfield 21, 3) := by decide +kernel
theorem dX0_readLine_51 : decode cX0_readLine 51 = .ok (.iconst 4, 1) := by decide +kernel
theorem dX0_readLine_52 : decode cX0_readLine 52 = .ok (.invokevirtual 81, 3) := by decide +kernel
theorem dX0_readLine_55 : decode cX0_readLine 55 = .ok (.goto 90, 3) := by decide +kernel
theorem dX0_readLine_58 : decode cX0_readLine 58 = .ok (.aload_n 0, 1) := by decide +kernel
theorem dX0_readLine_59 : decode cX0_readLine 59 = .ok (.getfield 21, 3) := by decide +kernel
theorem dX0_readLine_62 : decode cX0_readLine 62 = .ok (.invokevirtual 84, 3) := by decide +kernel
theorem dX0_readLine_65 : decode cX0_readLine 65 = .ok (.aload_n 0, 1) := by decide +kernel
theorem dX0_readLine_66 : decode cX0_readLine 66 = .ok (.getfield 15, 3) := by decide +kernel
theorem dX0_readLine_69 : decode cX0_readLine 69 = .ok (.aload_n 0, 1) := by decide +kernel
theorem dX0_readLine_70 : decode cX0_readLine 70 = .ok (.getfield 25, 3) := by decide +kernel
theorem dX0_readLine_73 : decode cX0_readLine 73 = .ok (.iload_n 1, 1) := by decide +kernel
theorem dX0_readLine_74 : decode cX0_readLine 74 = .ok (.invokestatic 77, 3) := by decide +kernel
theorem dX0_readLine_77 : decode cX0_readLine 77 = .ok (.ifCond .eq 10, 3) := by decide +kernel
theorem dX0_readLine_80 : decode cX0_readLine 80 = .ok (.iload_n 1, 1) := by decide +kernel
theorem dX0_readLine_81 : decode cX0_readLine 81 = .ok (.bipush 97, 2) := by decide +kernel
theorem dX0_readLine_83 : decode cX0_readLine 83 = .ok (.isub, 1) := by decide +kernel
theorem dX0_readLine_84 : decode cX0_readLine 84 = .ok (.goto 4, 3) := by decide +kernel
theorem dX0_readLine_87 : decode cX0_readLine 87 = .ok (.iconst 0, 1) := by decide +kernel
theorem dX0_readLine_88 : decode cX0_readLine 88 = .ok (.iastore, 1) := by decide +kernel
theorem dX0_readLine_89 : decode cX0_readLine 89 = .ok (.aload_n 0, 1) := by decide +kernel
theorem dX0_readLine_90 : decode cX0_readLine 90 = .ok (.getfield 11, 3) := by decide +kernel
theorem dX0_readLine_93 : decode cX0_readLine 93 = .ok (.aload_n 0, 1) := by decide +kernel
theorem dX0_readLine_94 : decode cX0_readLine 94 = .ok (.getfield 25, 3) := by decide +kernel
theorem dX0_readLine_97 : decode cX0_readLine 97 = .ok (.iload_n 1, 1) := by decide +kernel
theorem dX0_readLine_98 : decode cX0_readLine 98 = .ok (.invokestatic 77, 3) := by decide +kernel
theorem dX0_readLine_101 : decode cX0_readLine 101 = .ok (.ifCond .eq 10, 3) := by decide +kernel
theorem dX0_readLine_104 : decode cX0_readLine 104 = .ok (.aload_n 0, 1) := by decide +kernel
theorem dX0_readLine_105 : decode cX0_readLine 105 = .ok (.invokevirtual 87, 3) := by decide +kernel
theorem dX0_readLine_108 : decode cX0_readLine 108 = .ok (.goto 4, 3) := by decide +kernel
theorem dX0_readLine_111 : decode cX0_readLine 111 = .ok (.iload_n 1, 1) := by decide +kernel
theorem dX0_readLine_112 : decode cX0_readLine 112 = .ok (.iastore, 1) := by decide +kernel
theorem dX0_readLine_113 : decode cX0_readLine 113 = .ok (.aload_n 0, 1) := by decide +kernel
theorem dX0_readLine_114 : decode cX0_readLine 114 = .ok (.getfield 18, 3) := by decide +kernel
theorem dX0_readLine_117 : decode cX0_readLine 117 = .ok (.aload_n 0, 1) := by decide +kernel
theorem dX0_readLine_118 : decode cX0_readLine 118 = .ok (.getfield 25, 3) := by decide +kernel
theorem dX0_readLine_121 : decode cX0_readLine 121 = .ok (.aload_n 0, 1) := by decide +kernel
theorem dX0_readLine_122 : decode cX0_readLine 122 = .ok (.aload_n 0, 1) := by decide +kernel
theorem dX0_readLine_123 : decode cX0_readLine 123 = .ok (.getfield 11, 3) := by decide +kernel
theorem dX0_readLine_126 : decode cX0_readLine 126 = .ok (.aload_n 0, 1) := by decide +kernel
theorem dX0_readLine_127 : decode cX0_readLine 127 = .ok (.getfield 25, 3) := by decide +kernel
theorem dX0_readLine_130 : decode cX0_readLine 130 = .ok (.iaload, 1) := by decide +kernel
theorem dX0_readLine_131 : decode cX0_readLine 131 = .ok (.invokevirtual 90, 3) := by decide +kernel
theorem dX0_readLine_134 : decode cX0_readLine 134 = .ok (.iastore, 1) := by decide +kernel
theorem dX0_readLine_135 : decode cX0_readLine 135 = .ok (.aload_n 0, 1) := by decide +kernel
theorem dX0_readLine_136 : decode cX0_readLine 136 = .ok (.dup, 1) := by decide +kernel
theorem dX0_readLine_137 : decode cX0_readLine 137 = .ok (.getfield 25, 3) := by decide +kernel
theorem dX0_readLine_140 : decode cX0_readLine 140 = .ok (.iconst 1, 1) := by decide +kernel
theorem dX0_readLine_141 : decode cX0_readLine 141 = .ok (.iadd, 1) := by decide +kernel
theorem dX0_readLine_142 : decode cX0_readLine 142 = .ok (.putfield 25, 3) := by decide +kernel
theorem dX0_readLine_145 : decode cX0_readLine 145 = .ok (.return_, 1) := by decide +kernel
theorem dX0_readDeed_0 : decode cX0_readDeed 0 = .ok (.aload_n 0, 1) := by decide +kernel
theorem dX0_readDeed_1 : decode cX0_readDeed 1 = .ok (.getfield 21, 3) := by decide +kernel
theorem dX0_readDeed_4 : decode cX0_readDeed 4 = .ok (.invokevirtual 73, 3) := by decide +kernel
theorem dX0_readDeed_7 : decode cX0_readDeed 7 = .ok (.istore_n 1, 1) := by decide +kernel
theorem dX0_readDeed_8 : decode cX0_readDeed 8 = .ok (.iload_n 1, 1) := by decide +kernel
theorem dX0_readDeed_9 : decode cX0_readDeed 9 = .ok (.bipush 61, 2) := by decide +kernel
theorem dX0_readDeed_11 : decode cX0_readDeed 11 = .ok (.if_icmp .eq 21, 3) := by decide +kernel
theorem dX0_readDeed_14 : decode cX0_readDeed 14 = .ok (.iload_n 1, 1) := by decide +kernel
theorem dX0_readDeed_15 : decode cX0_readDeed 15 = .ok (.bipush 43, 2) := by decide +kernel
theorem dX0_readDeed_17 : decode cX0_readDeed 17 = .ok (.if_icmp .eq 15, 3) := by decide +kernel
theorem dX0_readDeed_20 : decode cX0_readDeed 20 = .ok (.iload_n 1, 1) := by decide +kernel
theorem dX0_readDeed_21 : decode cX0_readDeed 21 = .ok (.bipush 45, 2) := by decide +kernel
theorem dX0_readDeed_23 : decode cX0_readDeed 23 = .ok (.if_icmp .eq 9, 3) := by decide +kernel
theorem dX0_readDeed_26 : decode cX0_readDeed 26 = .ok (.iload_n 1, 1) := by decide +kernel
theorem dX0_readDeed_27 : decode cX0_readDeed 27 = .ok (.bipush 126, 2) := by decide +kernel
theorem dX0_readDeed_29 : decode cX0_readDeed 29 = .ok (.if_icmp .ne 13, 3) := by decide +kernel
theorem dX0_readDeed_32 : decode cX0_readDeed 32 = .ok (.aload_n 0, 1) := by decide +kernel
theorem dX0_readDeed_33 : decode cX0_readDeed 33 = .ok (.getfield 21, 3) := by decide +kernel
theorem dX0_readDeed_36 : decode cX0_readDeed 36 = .ok (.invokevirtual 84, 3) := by decide +kernel
theorem dX0_readDeed_39 : decode cX0_readDeed 39 = .ok (.goto 11, 3) := by decide +kernel
theorem dX0_readDeed_42 : decode cX0_readDeed 42 = .ok (.aload_n 0, 1) := by decide +kernel
theorem dX0_readDeed_43 : decode cX0_readDeed 43 = .ok (.getfield 21, 3) := by decide +kernel
theorem dX0_readDeed_46 : decode cX0_readDeed 46 = .ok (.iconst 1, 1) := by decide +kernel
theorem dX0_readDeed_47 : decode cX0_readDeed 47 = .ok (.invokevirtual 81, 3) := by decide +kernel
theorem dX0_readDeed_50 : decode cX0_readDeed 50 = .ok (.iload_n 1, 1) := by decide +kernel
theorem dX0_readDeed_51 : decode cX0_readDeed 51 = .ok (.ireturn, 1) := by decide +kernel
theorem dX0_readValue_0 : decode cX0_readValue 0 = .ok (.iload_n 1, 1) := by decide +kernel
theorem dX0_readValue_1 : decode cX0_readValue 1 = .ok (.bipush 126, 2) := by decide +kernel
theorem dX0_readValue_3 : decode cX0_readValue 3 = .ok (.if_icmp .ne 12, 3) := by decide +kernel
theorem dX0_readValue_6 : decode cX0_readValue 6 = .ok (.aload_n 0, 1) := by decide +kernel
theorem dX0_readValue_7 : decode cX0_readValue 7 = .ok (.bipush 97, 2) := by decide +kernel
theorem dX0_readValue_9 : decode cX0_readValue 9 = .ok (.bipush 112, 2) := by decide +kernel
theorem dX0_readValue_11 : decode cX0_readValue 11 = .ok (.invokevirtual 94, 3) := by decide +kernel
theorem dX0_readValue_14 : decode cX0_readValue 14 = .ok (.ireturn, 1) := by decide +kernel
theorem dX0_readValue_15 : decode cX0_readValue 15 = .ok (.iload_n 1, 1) := by decide +kernel
theorem dX0_readValue_16 : decode cX0_readValue 16 = .ok (.bipush 35, 2) := by decide +kernel
theorem dX0_readValue_18 : decode cX0_readValue 18 = .ok (.if_icmp .ne 14, 3) := by decide +kernel
theorem dX0_readValue_21 : decode cX0_readValue 21 = .ok (.aload_n 0, 1) := by decide +kernel
theorem dX0_readValue_22 : decode cX0_readValue 22 = .ok (.bipush 48, 2) := by decide +kernel
theorem dX0_readValue_24 : decode cX0_readValue 24 = .ok (.bipush 52, 2) := by decide +kernel
theorem dX0_readValue_26 : decode cX0_readValue 26 = .ok (.invokevirtual 94, 3) := by decide +kernel
theorem dX0_readValue_29 : decode cX0_readValue 29 = .ok (.goto 11, 3) := by decide +kernel
theorem dX0_readValue_32 : decode cX0_readValue 32 = .ok (.aload_n 0, 1) := by decide +kernel
theorem dX0_readValue_33 : decode cX0_readValue 33 = .ok (.getfield 21, 3) := by decide +kernel
theorem dX0_readValue_36 : decode cX0_readValue 36 = .ok (.iconst 2, 1) := by decide +kernel
theorem dX0_readValue_37 : decode cX0_readValue 37 = .ok (.invokevirtual 97, 3) := by decide +kernel
theorem dX0_readValue_40 : decode cX0_readValue 40 = .ok (.ireturn, 1) := by decide +kernel
theorem dX0_readOneOf_0 : decode cX0_readOneOf 0 = .ok (.aload_n 0, 1) := by decide +kernel
theorem dX0_readOneOf_1 : decode cX0_readOneOf 1 = .ok (.getfield 21, 3) := by decide +kernel
theorem dX0_readOneOf_4 : decode cX0_readOneOf 4 = .ok (.invokevirtual 73, 3) := by decide +kernel
theorem dX0_readOneOf_7 : decode cX0_readOneOf 7 = .ok (.istore_n 3, 1) := by decide +kernel
theorem dX0_readOneOf_8 : decode cX0_readOneOf 8 = .ok (.iload_n 3, 1) := by decide +kernel
theorem dX0_readOneOf_9 : decode cX0_readOneOf 9 = .ok (.iload_n 1, 1) := by decide +kernel
theorem dX0_readOneOf_10 : decode cX0_readOneOf 10 = .ok (.iload_n 2, 1) := by decide +kernel
theorem dX0_readOneOf_11 : decode cX0_readOneOf 11 = .ok (.invokestatic 100, 3) := by decide +kernel
theorem dX0_readOneOf_14 : decode cX0_readOneOf 14 = .ok (.ifCond .ne 13, 3) := by decide +kernel
theorem dX0_readOneOf_17 : decode cX0_readOneOf 17 = .ok (.aload_n 0, 1) := by decide +kernel
theorem dX0_readOneOf_18 : decode cX0_readOneOf 18 = .ok (.getfield 21, 3) := by decide +kernel
theorem dX0_readOneOf_21 : decode cX0_readOneOf 21 = .ok (.iconst 1, 1) := by decide +kernel
theorem dX0_readOneOf_22 : decode cX0_readOneOf 22 = .ok (.invokevirtual 81, 3) := by decide +kernel
theorem dX0_readOneOf_25 : decode cX0_readOneOf 25 = .ok (.iconst 0, 1) := by decide +kernel
theorem dX0_readOneOf_26 : decode cX0_readOneOf 26 = .ok (.ireturn, 1) := by decide +kernel
theorem dX0_readOneOf_27 : decode cX0_readOneOf 27 = .ok (.aload_n 0, 1) := by decide +kernel
theorem dX0_readOneOf_28 : decode cX0_readOneOf 28 = .ok (.getfield 21, 3) := by decide +kernel
theorem dX0_readOneOf_31 : decode cX0_readOneOf 31 = .ok (.invokevirtual 84, 3) := by decide +kernel
theorem dX0_readOneOf_34 : decode cX0_readOneOf 34 = .ok (.iload_n 3, 1) := by decide +kernel
theorem dX0_readOneOf_35 : decode cX0_readOneOf 35 = .ok (.iload_n 1, 1) := by decide +kernel
theorem dX0_readOneOf_36 : decode cX0_readOneOf 36 = .ok (.isub, 1) := by decide +kernel
theorem dX0_readOneOf_37 : decode cX0_readOneOf 37 = .ok (.ireturn, 1) := by decide +kernel
theorem dX2_init_0 : decode cX2_init 0 = .ok (.aload_n 0, 1) := by decide +kernel
theorem dX2_init_1 : decode cX2_init 1 = .ok (.invokespecial 3, 3) := by decide +kernel
theorem dX2_init_4 : decode cX2_init 4 = .ok (.aload_n 0, 1) := by decide +kernel
theorem dX2_init_5 : decode cX2_init 5 = .ok (.aload_n 1, 1) := by decide +kernel
theorem dX2_init_6 : decode cX2_init 6 = .ok (.putfield 9, 3) := by decide +kernel
theorem dX2_init_9 : decode cX2_init 9 = .ok (.aload_n 0, 1) := by decide +kernel
theorem dX2_init_10 : decode cX2_init 10 = .ok (.new 15, 3) := by decide +kernel
theorem dX2_init_13 : decode cX2_init 13 = .ok (.dup, 1) := by decide +kernel
theorem dX2_init_14 : decode cX2_init 14 = .ok (.invokespecial 17, 3) := by decide +kernel
theorem dX2_init_17 : decode cX2_init 17 = .ok (.putfield 18, 3) := by decide +kernel
theorem dX2_init_20 : decode cX2_init 20 = .ok (.return_, 1) := by decide +kernel
theorem dX2_read_0 : decode cX2_read 0 = .ok (.aload_n 0, 1) := by decide +kernel
theorem dX2_read_1 : decode cX2_read 1 = .ok (.getfield 18, 3) := by decide +kernel
theorem dX2_read_4 : decode cX2_read 4 = .ok (.invokevirtual 22, 3) := by decide +kernel
theorem dX2_read_7 : decode cX2_read 7 = .ok (.aload_n 0, 1) := by decide +kernel
theorem dX2_read_8 : decode cX2_read 8 = .ok (.getfield 9, 3) := by decide +kernel
theorem dX2_read_11 : decode cX2_read 11 = .ok (.iload_n 1, 1) := by decide +kernel
theorem dX2_read_12 : decode cX2_read 12 = .ok (.invokevirtual 25, 3) := by decide +kernel
theorem dX2_read_15 : decode cX2_read 15 = .ok (.iconst 0, 1) := by decide +kernel
theorem dX2_read_16 : decode cX2_read 16 = .ok (.istore_n 2, 1) := by decide +kernel
theorem dX2_read_17 : decode cX2_read 17 = .ok (.iload_n 2, 1) := by decide +kernel
theorem dX2_read_18 : decode cX2_read 18 = .ok (.bipush 16, 2) := by decide +kernel
theorem dX2_read_20 : decode cX2_read 20 = .ok (.if_icmp .gt 60, 3) := by decide +kernel
theorem dX2_read_23 : decode cX2_read 23 = .ok (.aload_n 0, 1) := by decide +kernel
theorem dX2_read_24 : decode cX2_read 24 = .ok (.getfield 9, 3) := by decide +kernel
theorem dX2_read_27 : decode cX2_read 27 = .ok (.invokevirtual 31, 3) := by decide +kernel
theorem dX2_read_30 : decode cX2_read 30 = .ok (.ifCond .ne 50, 3) := by decide +kernel
theorem dX2_read_33 : decode cX2_read 33 = .ok (.aload_n 0, 1) := by decide +kernel
theorem dX2_read_34 : decode cX2_read 34 = .ok (.invokevirtual 35, 3) := by decide +kernel
theorem dX2_read_37 : decode cX2_read 37 = .ok (.aload_n 0, 1) := by decide +kernel
theorem dX2_read_38 : decode cX2_read 38 = .ok (.getfield 9, 3) := by decide +kernel
theorem dX2_read_41 : decode cX2_read 41 = .ok (.invokevirtual 31, 3) := by decide +kernel
theorem dX2_read_44 : decode cX2_read 44 = .ok (.ifCond .ne 21, 3) := by decide +kernel
theorem dX2_read_47 : decode cX2_read 47 = .ok (.aload_n 0, 1) := by decide +kernel
theorem dX2_read_48 : decode cX2_read 48 = .ok (.getfield 9, 3) := by decide +kernel
theorem dX2_read_51 : decode cX2_read 51 = .ok (.invokevirtual 38, 3) := by decide +kernel
theorem dX2_read_54 : decode cX2_read 54 = .ok (.ifCond .eq 11, 3) := by decide +kernel
theorem dX2_read_57 : decode cX2_read 57 = .ok (.aload_n 0, 1) := by decide +kernel
theorem dX2_read_58 : decode cX2_read 58 = .ok (.getfield 18, 3) := by decide +kernel
theorem dX2_read_61 : decode cX2_read 61 = .ok (.getfield 41, 3) := by decide +kernel
theorem dX2_read_64 : decode cX2_read 64 = .ok (.ireturn, 1) := by decide +kernel
theorem dX2_read_65 : decode cX2_read 65 = .ok (.aload_n 0, 1) := by decide +kernel
theorem dX2_read_66 : decode cX2_read 66 = .ok (.getfield 9, 3) := by decide +kernel
theorem dX2_read_69 : decode cX2_read 69 = .ok (.bipush 59, 2) := by decide +kernel
theorem dX2_read_71 : decode cX2_read 71 = .ok (.invokevirtual 45, 3) := by decide +kernel
theorem dX2_read_74 : decode cX2_read 74 = .ok (.iinc 2 1, 3) := by decide +kernel
theorem dX2_read_77 : decode cX2_read 77 = .ok (.goto (-60), 3) := by decide +kernel
theorem dX2_read_80 : decode cX2_read 80 = .ok (.aload_n 0, 1) := by decide +kernel
theorem dX2_read_81 : decode cX2_read 81 = .ok (.getfield 9, 3) := by decide +kernel
theorem dX2_read_84 : decode cX2_read 84 = .ok (.getfield 48, 3) := by decide +kernel
theorem dX2_read_87 : decode cX2_read 87 = .ok (.ireturn, 1) := by decide +kernel
theorem dX2_readRule_0 : decode cX2_readRule 0 = .ok (.aload_n 0, 1) := by decide +kernel
theorem dX2_readRule_1 : decode cX2_readRule 1 = .ok (.getfield 9, 3) := by decide +kernel
theorem dX2_readRule_4 : decode cX2_readRule 4 = .ok (.invokevirtual 51, 3) := by decide +kernel
theorem dX2_readRule_7 : decode cX2_readRule 7 = .ok (.istore_n 1, 1) := by decide +kernel
theorem dX2_readRule_8 : decode cX2_readRule 8 = .ok (.iload_n 1, 1) := by decide +kernel
theorem dX2_readRule_9 : decode cX2_readRule 9 = .ok (.bipush 102, 2) := by decide +kernel
theorem dX2_readRule_11 : decode cX2_readRule 11 = .ok (.if_icmp .eq 24, 3) := by decide +kernel
theorem dX2_readRule_14 : decode cX2_readRule 14 = .ok (.iload_n 1, 1) := by decide +kernel
theorem dX2_readRule_15 : decode cX2_readRule 15 = .ok (.bipush 101, 2) := by decide +kernel
theorem dX2_readRule_17 : decode cX2_readRule 17 = .ok (.if_icmp .eq 18, 3) := by decide +kernel
theorem dX2_readRule_20 : decode cX2_readRule 20 = .ok (.iload_n 1, 1) := by decide +kernel
theorem dX2_readRule_21 : decode cX2_readRule 21 = .ok (.bipush 120, 2) := by decide +kernel
theorem dX2_readRule_23 : decode cX2_readRule 23 = .ok (.if_icmp .eq 12, 3) := by decide +kernel
theorem dX2_readRule_26 : decode cX2_readRule 26 = .ok (.aload_n 0, 1) := by decide +kernel
theorem dX2_readRule_27 : decode cX2_readRule 27 = .ok (.getfield 9, 3) := by decide +kernel
theorem dX2_readRule_30 : decode cX2_readRule 30 = .ok (.iconst 1, 1) := by decide +kernel
theorem dX2_readRule_31 : decode cX2_readRule 31 = .ok (.invokevirtual 55, 3) := by decide +kernel
theorem dX2_readRule_34 : decode cX2_readRule 34 = .ok (.return_, 1) := by decide +kernel
theorem dX2_readRule_35 : decode cX2_readRule 35 = .ok (.aload_n 0, 1) := by decide +kernel
theorem dX2_readRule_36 : decode cX2_readRule 36 = .ok (.getfield 18, 3) := by decide +kernel
theorem dX2_readRule_39 : decode cX2_readRule 39 = .ok (.getfield 41, 3) := by decide +kernel
theorem dX2_readRule_42 : decode cX2_readRule 42 = .ok (.bipush 16, 2) := by decide +kernel
theorem dX2_readRule_44 : decode cX2_readRule 44 = .ok (.if_icmp .lt 12, 3) := by decide +kernel
theorem dX2_readRule_47 : decode cX2_readRule 47 = .ok (.aload_n 0, 1) := by decide +kernel
theorem dX2_readRule_48 : decode cX2_readRule 48 = .ok (.getfield 9, 3) := by decide +kernel
theorem dX2_readRule_51 : decode cX2_readRule 51 = .ok (.iconst 4, 1) := by decide +kernel
theorem dX2_readRule_52 : decode cX2_readRule 52 = .ok (.invokevirtual 55, 3) := by decide +kernel
theorem dX2_readRule_55 : decode cX2_readRule 55 = .ok (.return_, 1) := by decide +kernel
theorem dX2_readRule_56 : decode cX2_readRule 56 = .ok (.aload_n 0, 1) := by decide +kernel
theorem dX2_readRule_57 : decode cX2_readRule 57 = .ok (.getfield 9, 3) := by decide +kernel
theorem dX2_readRule_60 : decode cX2_readRule 60 = .ok (.invokevirtual 58, 3) := by decide +kernel
theorem dX2_readRule_63 : decode cX2_readRule 63 = .ok (.aload_n 0, 1) := by decide +kernel
theorem dX2_readRule_64 : decode cX2_readRule 64 = .ok (.getfield 18, 3) := by decide +kernel
theorem dX2_readRule_67 : decode cX2_readRule 67 = .ok (.getfield 61, 3) := by decide +kernel
theorem dX2_readRule_70 : decode cX2_readRule 70 = .ok (.istore_n 2, 1) := by decide +kernel
theorem dX2_readRule_71 : decode cX2_readRule 71 = .ok (.iload_n 1, 1) := by decide +kernel
theorem dX2_readRule_72 : decode cX2_readRule 72 = .ok (.bipush 120, 2) := by decide +kernel
theorem dX2_readRule_74 : decode cX2_readRule 74 = .ok (.if_icmp .eq 8, 3) := by decide +kernel
theorem dX2_readRule_77 : decode cX2_readRule 77 = .ok (.aload_n 0, 1) := by decide +kernel
theorem dX2_readRule_78 : decode cX2_readRule 78 = .ok (.iconst 0, 1) := by decide +kernel
theorem dX2_readRule_79 : decode cX2_readRule 79 = .ok (.invokevirtual 64, 3) := by decide +kernel
theorem dX2_readRule_82 : decode cX2_readRule 82 = .ok (.aload_n 0, 1) := by decide +kernel
theorem dX2_readRule_83 : decode cX2_readRule 83 = .ok (.getfield 18, 3) := by decide +kernel
theorem dX2_readRule_86 : decode cX2_readRule 86 = .ok (.getfield 61, 3) := by decide +kernel
theorem dX2_readRule_89 : decode cX2_readRule 89 = .ok (.istore_n 3, 1) := by decide +kernel
theorem dX2_readRule_90 : decode cX2_readRule 90 = .ok (.aload_n 0, 1) := by decide +kernel
theorem dX2_readRule_91 : decode cX2_readRule 91 = .ok (.getfield 9, 3) := by decide +kernel
theorem dX2_readRule_94 : decode cX2_readRule 94 = .ok (.bipush 40, 2) := by decide +kernel
theorem dX2_readRule_96 : decode cX2_readRule 96 = .ok (.invokevirtual 45, 3) := by decide +kernel
theorem dX2_readRule_99 : decode cX2_readRule 99 = .ok (.aload_n 0, 1) := by decide +kernel
theorem dX2_readRule_100 : decode cX2_readRule 100 = .ok (.iconst 1, 1) := by decide +kernel
theorem dX2_readRule_101 : decode cX2_readRule 101 = .ok (.invokevirtual 67, 3) := by decide +kernel
theorem dX2_readRule_104 : decode cX2_readRule 104 = .ok (.aload_n 0, 1) := by decide +kernel
theorem dX2_readRule_105 : decode cX2_readRule 105 = .ok (.getfield 9, 3) := by decide +kernel
theorem dX2_readRule_108 : decode cX2_readRule 108 = .ok (.bipush 41, 2) := by decide +kernel
theorem dX2_readRule_110 : decode cX2_readRule 110 = .ok (.invokevirtual 45, 3) := by decide +kernel
theorem dX2_readRule_113 : decode cX2_readRule 113 = .ok (.aload_n 0, 1) := by decide +kernel
theorem dX2_readRule_114 : decode cX2_readRule 114 = .ok (.getfield 18, 3) := by decide +kernel
theorem dX2_readRule_117 : decode cX2_readRule 117 = .ok (.iload_n 1, 1) := by decide +kernel
theorem dX2_readRule_118 : decode cX2_readRule 118 = .ok (.iload_n 2, 1) := by decide +kernel
theorem dX2_readRule_119 : decode cX2_readRule 119 = .ok (.iload_n 3, 1) := by decide +kernel
theorem dX2_readRule_120 : decode cX2_readRule 120 = .ok (.invokevirtual 70, 3) := by decide +kernel
theorem dX2_readRule_123 : decode cX2_readRule 123 = .ok (.return_, 1) := by decide +kernel
theorem dX2_readAny_0 : decode cX2_readAny 0 = .ok (.iconst (-1), 1) := by decide +kernel
theorem dX2_readAny_1 : decode cX2_readAny 1 = .ok (.istore_n 2, 1) := by decide +kernel
theorem dX2_readAny_2 : decode cX2_readAny 2 = .ok (.aload_n 0, 1) := by decide +kernel
theorem dX2_readAny_3 : decode cX2_readAny 3 = .ok (.iload_n 1, 1) := by decide +kernel
theorem dX2_readAny_4 : decode cX2_readAny 4 = .ok (.invokevirtual 74, 3) := by decide +kernel
theorem dX2_readAny_7 : decode cX2_readAny 7 = .ok (.iconst 0, 1) := by decide +kernel
theorem dX2_readAny_8 : decode cX2_readAny 8 = .ok (.istore_n 3, 1) := by decide +kernel
theorem dX2_readAny_9 : decode cX2_readAny 9 = .ok (.iload_n 3, 1) := by decide +kernel
theorem dX2_readAny_10 : decode cX2_readAny 10 = .ok (.sipush 240, 3) := by decide +kernel
theorem dX2_readAny_13 : decode cX2_readAny 13 = .ok (.if_icmp .ge 58, 3) := by decide +kernel
theorem dX2_readAny_16 : decode cX2_readAny 16 = .ok (.aload_n 0, 1) := by decide +kernel
theorem dX2_readAny_17 : decode cX2_readAny 17 = .ok (.getfield 9, 3) := by decide +kernel
theorem dX2_readAny_20 : decode cX2_readAny 20 = .ok (.invokevirtual 51, 3) := by decide +kernel
theorem dX2_readAny_23 : decode cX2_readAny 23 = .ok (.bipush 124, 2) := by decide +kernel
theorem dX2_readAny_25 : decode cX2_readAny 25 = .ok (.if_icmp .ne 46, 3) := by decide +kernel
theorem dX2_readAny_28 : decode cX2_readAny 28 = .ok (.aload_n 0, 1) := by decide +kernel
theorem dX2_readAny_29 : decode cX2_readAny 29 = .ok (.getfield 9, 3) := by decide +kernel
theorem dX2_readAny_32 : decode cX2_readAny 32 = .ok (.invokevirtual 58, 3) := by decide +kernel
theorem dX2_readAny_35 : decode cX2_readAny 35 = .ok (.aload_n 0, 1) := by decide +kernel
theorem dX2_readAny_36 : decode cX2_readAny 36 = .ok (.getfield 18, 3) := by decide +kernel
theorem dX2_readAny_39 : decode cX2_readAny 39 = .ok (.iload_n 2, 1) := by decide +kernel
theorem dX2_readAny_40 : decode cX2_readAny 40 = .ok (.aload_n 0, 1) := by decide +kernel
theorem dX2_readAny_41 : decode cX2_readAny 41 = .ok (.getfield 18, 3) := by decide +kernel
theorem dX2_readAny_44 : decode cX2_readAny 44 = .ok (.getfield 61, 3) := by decide +kernel
theorem dX2_readAny_47 : decode cX2_readAny 47 = .ok (.invokevirtual 77, 3) := by decide +kernel
theorem dX2_readAny_50 : decode cX2_readAny 50 = .ok (.aload_n 0, 1) := by decide +kernel
theorem dX2_readAny_51 : decode cX2_readAny 51 = .ok (.getfield 18, 3) := by decide +kernel
theorem dX2_readAny_54 : decode cX2_readAny 54 = .ok (.iconst 3, 1) := by decide +kernel
theorem dX2_readAny_55 : decode cX2_readAny 55 = .ok (.iconst 0, 1) := by decide +kernel
theorem dX2_readAny_56 : decode cX2_readAny 56 = .ok (.invokevirtual 81, 3) := by decide +kernel
theorem dX2_readAny_59 : decode cX2_readAny 59 = .ok (.istore_n 2, 1) := by decide +kernel
theorem dX2_readAny_60 : decode cX2_readAny 60 = .ok (.aload_n 0, 1) := by decide +kernel
theorem dX2_readAny_61 : decode cX2_readAny 61 = .ok (.iload_n 1, 1) := by decide +kernel
theorem dX2_readAny_62 : decode cX2_readAny 62 = .ok (.invokevirtual 74, 3) := by decide +kernel
theorem dX2_readAny_65 : decode cX2_readAny 65 = .ok (.iinc 3 1, 3) := by decide +kernel
theorem dX2_readAny_68 : decode cX2_readAny 68 = .ok (.goto (-59), 3) := by decide +kernel
theorem dX2_readAny_71 : decode cX2_readAny 71 = .ok (.aload_n 0, 1) := by decide +kernel
theorem dX2_readAny_72 : decode cX2_readAny 72 = .ok (.getfield 18, 3) := by decide +kernel
theorem dX2_readAny_75 : decode cX2_readAny 75 = .ok (.iload_n 2, 1) := by decide +kernel
theorem dX2_readAny_76 : decode cX2_readAny 76 = .ok (.aload_n 0, 1) := by decide +kernel
theorem dX2_readAny_77 : decode cX2_readAny 77 = .ok (.getfield 18, 3) := by decide +kernel
theorem dX2_readAny_80 : decode cX2_readAny 80 = .ok (.getfield 61, 3) := by decide +kernel
theorem dX2_readAny_83 : decode cX2_readAny 83 = .ok (.invokevirtual 77, 3) := by decide +kernel
theorem dX2_readAny_86 : decode cX2_readAny 86 = .ok (.return_, 1) := by decide +kernel
theorem dX2_readAll_0 : decode cX2_readAll 0 = .ok (.iconst (-1), 1) := by decide +kernel
theorem dX2_readAll_1 : decode cX2_readAll 1 = .ok (.istore_n 2, 1) := by decide +kernel
theorem dX2_readAll_2 : decode cX2_readAll 2 = .ok (.aload_n 0, 1) := by decide +kernel
theorem dX2_readAll_3 : decode cX2_readAll 3 = .ok (.iload_n 1, 1) := by decide +kernel
theorem dX2_readAll_4 : decode cX2_readAll 4 = .ok (.invokevirtual 85, 3) := by decide +kernel
theorem dX2_readAll_7 : decode cX2_readAll 7 = .ok (.iconst 0, 1) := by decide +kernel
theorem dX2_readAll_8 : decode cX2_readAll 8 = .ok (.istore_n 3, 1) := by decide +kernel
theorem dX2_readAll_9 : decode cX2_readAll 9 = .ok (.iload_n 3, 1) := by decide +kernel
theorem dX2_readAll_10 : decode cX2_readAll 10 = .ok (.sipush 240, 3) := by decide +kernel
theorem dX2_readAll_13 : decode cX2_readAll 13 = .ok (.if_icmp .ge 58, 3) := by decide +kernel
theorem dX2_readAll_16 : decode cX2_readAll 16 = .ok (.aload_n 0, 1) := by decide +kernel
theorem dX2_readAll_17 : decode cX2_readAll 17 = .ok (.getfield 9, 3) := by decide +kernel
theorem dX2_readAll_20 : decode cX2_readAll 20 = .ok (.invokevirtual 51, 3) := by decide +kernel
theorem dX2_readAll_23 : decode cX2_readAll 23 = .ok (.bipush 38, 2) := by decide +kernel
theorem dX2_readAll_25 : decode cX2_readAll 25 = .ok (.if_icmp .ne 46, 3) := by decide +kernel
theorem dX2_readAll_28 : decode cX2_readAll 28 = .ok (.aload_n 0, 1) := by decide +kernel
theorem dX2_readAll_29 : decode cX2_readAll 29 = .ok (.getfield 9, 3) := by decide +kernel
theorem dX2_readAll_32 : decode cX2_readAll 32 = .ok (.invokevirtual 58, 3) := by decide +kernel
theorem dX2_readAll_35 : decode cX2_readAll 35 = .ok (.aload_n 0, 1) := by decide +kernel
theorem dX2_readAll_36 : decode cX2_readAll 36 = .ok (.getfield 18, 3) := by decide +kernel
theorem dX2_readAll_39 : decode cX2_readAll 39 = .ok (.iload_n 2, 1) := by decide +kernel
theorem dX2_readAll_40 : decode cX2_readAll 40 = .ok (.aload_n 0, 1) := by decide +kernel
theorem dX2_readAll_41 : decode cX2_readAll 41 = .ok (.getfield 18, 3) := by decide +kernel
theorem dX2_readAll_44 : decode cX2_readAll 44 = .ok (.getfield 61, 3) := by decide +kernel
theorem dX2_readAll_47 : decode cX2_readAll 47 = .ok (.invokevirtual 77, 3) := by decide +kernel
theorem dX2_readAll_50 : decode cX2_readAll 50 = .ok (.aload_n 0, 1) := by decide +kernel
theorem dX2_readAll_51 : decode cX2_readAll 51 = .ok (.getfield 18, 3) := by decide +kernel
theorem dX2_readAll_54 : decode cX2_readAll 54 = .ok (.iconst 4, 1) := by decide +kernel
theorem dX2_readAll_55 : decode cX2_readAll 55 = .ok (.iconst 0, 1) := by decide +kernel
theorem dX2_readAll_56 : decode cX2_readAll 56 = .ok (.invokevirtual 81, 3) := by decide +kernel
theorem dX2_readAll_59 : decode cX2_readAll 59 = .ok (.istore_n 2, 1) := by decide +kernel
theorem dX2_readAll_60 : decode cX2_readAll 60 = .ok (.aload_n 0, 1) := by decide +kernel
theorem dX2_readAll_61 : decode cX2_readAll 61 = .ok (.iload_n 1, 1) := by decide +kernel
theorem dX2_readAll_62 : decode cX2_readAll 62 = .ok (.invokevirtual 85, 3) := by decide +kernel
theorem dX2_readAll_65 : decode cX2_readAll 65 = .ok (.iinc 3 1, 3) := by decide +kernel
theorem dX2_readAll_68 : decode cX2_readAll 68 = .ok (.goto (-59), 3) := by decide +kernel
theorem dX2_readAll_71 : decode cX2_readAll 71 = .ok (.aload_n 0, 1) := by decide +kernel
theorem dX2_readAll_72 : decode cX2_readAll 72 = .ok (.getfield 18, 3) := by decide +kernel
theorem dX2_readAll_75 : decode cX2_readAll 75 = .ok (.iload_n 2, 1) := by decide +kernel
theorem dX2_readAll_76 : decode cX2_readAll 76 = .ok (.aload_n 0, 1) := by decide +kernel
theorem dX2_readAll_77 : decode cX2_readAll 77 = .ok (.getfield 18, 3) := by decide +kernel
theorem dX2_readAll_80 : decode cX2_readAll 80 = .ok (.getfield 61, 3) := by decide +kernel
theorem dX2_readAll_83 : decode cX2_readAll 83 = .ok (.invokevirtual 77, 3) := by decide +kernel
theorem dX2_readAll_86 : decode cX2_readAll 86 = .ok (.return_, 1) := by decide +kernel
theorem dX2_readTest_0 : decode cX2_readTest 0 = .ok (.aload_n 0, 1) := by decide +kernel
theorem dX2_readTest_1 : decode cX2_readTest 1 = .ok (.getfield 9, 3) := by decide +kernel
theorem dX2_readTest_4 : decode cX2_readTest 4 = .ok (.invokevirtual 51, 3) := by decide +kernel
theorem dX2_readTest_7 : decode cX2_readTest 7 = .ok (.istore_n 2, 1) := by decide +kernel
theorem dX2_readTest_8 : decode cX2_readTest 8 = .ok (.iload_n 2, 1) := by decide +kernel
theorem dX2_readTest_9 : decode cX2_readTest 9 = .ok (.bipush 33, 2) := by decide +kernel
theorem dX2_readTest_11 : decode cX2_readTest 11 = .ok (.if_icmp .ne 31, 3) := by decide +kernel
theorem dX2_readTest_14 : decode cX2_readTest 14 = .ok (.aload_n 0, 1) := by decide +kernel
theorem dX2_readTest_15 : decode cX2_readTest 15 = .ok (.iload_n 1, 1) := by decide +kernel
theorem dX2_readTest_16 : decode cX2_readTest 16 = .ok (.invokevirtual 88, 3) := by decide +kernel
theorem dX2_readTest_19 : decode cX2_readTest 19 = .ok (.ifCond .eq 81, 3) := by decide +kernel
theorem dX2_readTest_22 : decode cX2_readTest 22 = .ok (.aload_n 0, 1) := by decide +kernel
theorem dX2_readTest_23 : decode cX2_readTest 23 = .ok (.iload_n 1, 1) := by decide +kernel
theorem dX2_readTest_24 : decode cX2_readTest 24 = .ok (.iconst 1, 1) := by decide +kernel
theorem dX2_readTest_25 : decode cX2_readTest 25 = .ok (.iadd, 1) := by decide +kernel
theorem dX2_readTest_26 : decode cX2_readTest 26 = .ok (.invokevirtual 85, 3) := by decide +kernel
theorem dX2_readTest_29 : decode cX2_readTest 29 = .ok (.aload_n 0, 1) := by decide +kernel
theorem dX2_readTest_30 : decode cX2_readTest 30 = .ok (.getfield 18, 3) := by decide +kernel
theorem dX2_readTest_33 : decode cX2_readTest 33 = .ok (.iconst 2, 1) := by decide +kernel
theorem dX2_readTest_34 : decode cX2_readTest 34 = .ok (.iconst 0, 1) := by decide +kernel
theorem dX2_readTest_35 : decode cX2_readTest 35 = .ok (.invokevirtual 81, 3) := by decide +kernel
theorem dX2_readTest_38 : decode cX2_readTest 38 = .ok (.pop, 1) := by decide +kernel
theorem dX2_readTest_39 : decode cX2_readTest 39 = .ok (.goto 61, 3) := by decide +kernel
theorem dX2_readTest_42 : decode cX2_readTest 42 = .ok (.iload_n 2, 1) := by decide +kernel
theorem dX2_readTest_43 : decode cX2_readTest 43 = .ok (.bipush 40, 2) := by decide +kernel
theorem dX2_readTest_45 : decode cX2_readTest 45 = .ok (.if_icmp .ne 30, 3) := by decide +kernel
theorem dX2_readTest_48 : decode cX2_readTest 48 = .ok (.aload_n 0, 1) := by decide +kernel
theorem dX2_readTest_49 : decode cX2_readTest 49 = .ok (.iload_n 1, 1) := by decide +kernel
theorem dX2_readTest_50 : decode cX2_readTest 50 = .ok (.invokevirtual 88, 3) := by decide +kernel
theorem dX2_readTest_53 : decode cX2_readTest 53 = .ok (.ifCond .eq 47, 3) := by decide +kernel
theorem dX2_readTest_56 : decode cX2_readTest 56 = .ok (.aload_n 0, 1) := by decide +kernel
theorem dX2_readTest_57 : decode cX2_readTest 57 = .ok (.iload_n 1, 1) := by decide +kernel
theorem dX2_readTest_58 : decode cX2_readTest 58 = .ok (.iconst 1, 1) := by decide +kernel
theorem dX2_readTest_59 : decode cX2_readTest 59 = .ok (.iadd, 1) := by decide +kernel
theorem dX2_readTest_60 : decode cX2_readTest 60 = .ok (.invokevirtual 67, 3) := by decide +kernel
theorem dX2_readTest_63 : decode cX2_readTest 63 = .ok (.aload_n 0, 1) := by decide +kernel
theorem dX2_readTest_64 : decode cX2_readTest 64 = .ok (.getfield 9, 3) := by decide +kernel
theorem dX2_readTest_67 : decode cX2_readTest 67 = .ok (.bipush 41, 2) := by decide +kernel
theorem dX2_readTest_69 : decode cX2_readTest 69 = .ok (.invokevirtual 45, 3) := by decide +kernel
theorem dX2_readTest_72 : decode cX2_readTest 72 = .ok (.goto 28, 3) := by decide +kernel
theorem dX2_readTest_75 : decode cX2_readTest 75 = .ok (.aload_n 0, 1) := by decide +kernel
theorem dX2_readTest_76 : decode cX2_readTest 76 = .ok (.iload_n 1, 1) := by decide +kernel
theorem dX2_readTest_77 : decode cX2_readTest 77 = .ok (.invokevirtual 64, 3) := by decide +kernel
theorem dX2_readTest_80 : decode cX2_readTest 80 = .ok (.aload_n 0, 1) := by decide +kernel
theorem dX2_readTest_81 : decode cX2_readTest 81 = .ok (.invokevirtual 92, 3) := by decide +kernel
theorem dX2_readTest_84 : decode cX2_readTest 84 = .ok (.istore_n 3, 1) := by decide +kernel
theorem dX2_readTest_85 : decode cX2_readTest 85 = .ok (.aload_n 0, 1) := by decide +kernel
theorem dX2_readTest_86 : decode cX2_readTest 86 = .ok (.iload_n 1, 1) := by decide +kernel
theorem dX2_readTest_87 : decode cX2_readTest 87 = .ok (.invokevirtual 64, 3) := by decide +kernel
theorem dX2_readTest_90 : decode cX2_readTest 90 = .ok (.aload_n 0, 1) := by decide +kernel
theorem dX2_readTest_91 : decode cX2_readTest 91 = .ok (.getfield 18, 3) := by decide +kernel
theorem dX2_readTest_94 : decode cX2_readTest 94 = .ok (.iload_n 3, 1) := by decide +kernel
theorem dX2_readTest_95 : decode cX2_readTest 95 = .ok (.iconst 0, 1) := by decide +kernel
theorem dX2_readTest_96 : decode cX2_readTest 96 = .ok (.invokevirtual 81, 3) := by decide +kernel
theorem dX2_readTest_99 : decode cX2_readTest 99 = .ok (.pop, 1) := by decide +kernel
theorem dX2_readTest_100 : decode cX2_readTest 100 = .ok (.return_, 1) := by decide +kernel
theorem dX2_readComparison_0 : decode cX2_readComparison 0 = .ok (.aload_n 0, 1) := by decide +kernel
theorem dX2_readComparison_1 : decode cX2_readComparison 1 = .ok (.getfield 9, 3) := by decide +kernel
theorem dX2_readComparison_4 : decode cX2_readComparison 4 = .ok (.invokevirtual 51, 3) := by decide +kernel
theorem dX2_readComparison_7 : decode cX2_readComparison 7 = .ok (.istore_n 1, 1) := by decide +kernel
theorem dX2_readComparison_8 : decode cX2_readComparison 8 = .ok (.iload_n 1, 1) := by decide +kernel
theorem dX2_readComparison_9 : decode cX2_readComparison 9 = .ok (.bipush 60, 2) := by decide +kernel
theorem dX2_readComparison_11 : decode cX2_readComparison 11 = .ok (.if_icmp .eq 26, 3) := by decide +kernel
theorem dX2_readComparison_14 : decode cX2_readComparison 14 = .ok (.iload_n 1, 1) := by decide +kernel
theorem dX2_readComparison_15 : decode cX2_readComparison 15 = .ok (.bipush 62, 2) := by decide +kernel
theorem dX2_readComparison_17 : decode cX2_readComparison 17 = .ok (.if_icmp .eq 20, 3) := by decide +kernel
theorem dX2_readComparison_20 : decode cX2_readComparison 20 = .ok (.iload_n 1, 1) := by decide +kernel
theorem dX2_readComparison_21 : decode cX2_readComparison 21 = .ok (.bipush 61, 2) := by decide +kernel
theorem dX2_readComparison_23 : decode cX2_readComparison 23 = .ok (.if_icmp .eq 14, 3) := by decide +kernel
theorem dX2_readComparison_26 : decode cX2_readComparison 26 = .ok (.aload_n 0, 1) := by decide +kernel
theorem dX2_readComparison_27 : decode cX2_readComparison 27 = .ok (.getfield 9, 3) := by decide +kernel
theorem dX2_readComparison_30 : decode cX2_readComparison 30 = .ok (.iconst 1, 1) := by decide +kernel
theorem dX2_readComparison_31 : decode cX2_readComparison 31 = .ok (.invokevirtual 55, 3) := by decide +kernel
theorem dX2_readComparison_34 : decode cX2_readComparison 34 = .ok (.bipush 12, 2) := by decide +kernel
theorem dX2_readComparison_36 : decode cX2_readComparison 36 = .ok (.ireturn, 1) := by decide +kernel
theorem dX2_readComparison_37 : decode cX2_readComparison 37 = .ok (.aload_n 0, 1) := by decide +kernel
theorem dX2_readComparison_38 : decode cX2_readComparison 38 = .ok (.getfield 9, 3) := by decide +kernel
theorem dX2_readComparison_41 : decode cX2_readComparison 41 = .ok (.invokevirtual 58, 3) := by decide +kernel
theorem dX2_readComparison_44 : decode cX2_readComparison 44 = .ok (.iload_n 1, 1) := by decide +kernel
theorem dX2_readComparison_45 : decode cX2_readComparison 45 = .ok (.bipush 61, 2) := by decide +kernel
theorem dX2_readComparison_47 : decode cX2_readComparison 47 = .ok (.if_icmp .ne 6, 3) := by decide +kernel
theorem dX2_readComparison_50 : decode cX2_readComparison 50 = .ok (.bipush 12, 2) := by decide +kernel
theorem dX2_readComparison_52 : decode cX2_readComparison 52 = .ok (.ireturn, 1) := by decide +kernel
theorem dX2_readComparison_53 : decode cX2_readComparison 53 = .ok (.iload_n 1, 1) := by decide +kernel
theorem dX2_readComparison_54 : decode cX2_readComparison 54 = .ok (.bipush 60, 2) := by decide +kernel
theorem dX2_readComparison_56 : decode cX2_readComparison 56 = .ok (.if_icmp .ne 8, 3) := by decide +kernel
theorem dX2_readComparison_59 : decode cX2_readComparison 59 = .ok (.bipush 10, 2) := by decide +kernel
theorem dX2_readComparison_61 : decode cX2_readComparison 61 = .ok (.goto 5, 3) := by decide +kernel
theorem dX2_readComparison_64 : decode cX2_readComparison 64 = .ok (.bipush 11, 2) := by decide +kernel
theorem dX2_readComparison_66 : decode cX2_readComparison 66 = .ok (.ireturn, 1) := by decide +kernel
theorem dX2_readSum_0 : decode cX2_readSum 0 = .ok (.aload_n 0, 1) := by decide +kernel
theorem dX2_readSum_1 : decode cX2_readSum 1 = .ok (.iload_n 1, 1) := by decide +kernel
theorem dX2_readSum_2 : decode cX2_readSum 2 = .ok (.invokevirtual 95, 3) := by decide +kernel
theorem dX2_readSum_5 : decode cX2_readSum 5 = .ok (.iconst 0, 1) := by decide +kernel
theorem dX2_readSum_6 : decode cX2_readSum 6 = .ok (.istore_n 2, 1) := by decide +kernel
theorem dX2_readSum_7 : decode cX2_readSum 7 = .ok (.iload_n 2, 1) := by decide +kernel
theorem dX2_readSum_8 : decode cX2_readSum 8 = .ok (.sipush 240, 3) := by decide +kernel
theorem dX2_readSum_11 : decode cX2_readSum 11 = .ok (.if_icmp .ge 63, 3) := by decide +kernel
theorem dX2_readSum_14 : decode cX2_readSum 14 = .ok (.aload_n 0, 1) := by decide +kernel
theorem dX2_readSum_15 : decode cX2_readSum 15 = .ok (.getfield 9, 3) := by decide +kernel
theorem dX2_readSum_18 : decode cX2_readSum 18 = .ok (.invokevirtual 51, 3) := by decide +kernel
theorem dX2_readSum_21 : decode cX2_readSum 21 = .ok (.istore_n 3, 1) := by decide +kernel
theorem dX2_readSum_22 : decode cX2_readSum 22 = .ok (.iload_n 3, 1) := by decide +kernel
theorem dX2_readSum_23 : decode cX2_readSum 23 = .ok (.bipush 43, 2) := by decide +kernel
theorem dX2_readSum_25 : decode cX2_readSum 25 = .ok (.if_icmp .eq 10, 3) := by decide +kernel
theorem dX2_readSum_28 : decode cX2_readSum 28 = .ok (.iload_n 3, 1) := by decide +kernel
theorem dX2_readSum_29 : decode cX2_readSum 29 = .ok (.bipush 45, 2) := by decide +kernel
theorem dX2_readSum_31 : decode cX2_readSum 31 = .ok (.if_icmp .eq 4, 3) := by decide +kernel
theorem dX2_readSum_34 : decode cX2_readSum 34 = .ok (.return_, 1) := by decide +kernel
theorem dX2_readSum_35 : decode cX2_readSum 35 = .ok (.aload_n 0, 1) := by decide +kernel
theorem dX2_readSum_36 : decode cX2_readSum 36 = .ok (.getfield 9, 3) := by decide +kernel
theorem dX2_readSum_39 : decode cX2_readSum 39 = .ok (.invokevirtual 58, 3) := by decide +kernel
theorem dX2_readSum_42 : decode cX2_readSum 42 = .ok (.aload_n 0, 1) := by decide +kernel
theorem dX2_readSum_43 : decode cX2_readSum 43 = .ok (.iload_n 1, 1) := by decide +kernel
theorem dX2_readSum_44 : decode cX2_readSum 44 = .ok (.invokevirtual 95, 3) := by decide +kernel
theorem dX2_readSum_47 : decode cX2_readSum 47 = .ok (.aload_n 0, 1) := by decide +kernel
theorem dX2_readSum_48 : decode cX2_readSum 48 = .ok (.getfield 18, 3) := by decide +kernel
theorem dX2_readSum_51 : decode cX2_readSum 51 = .ok (.iload_n 3, 1) := by decide +kernel
theorem dX2_readSum_52 : decode cX2_readSum 52 = .ok (.bipush 43, 2) := by decide +kernel
theorem dX2_readSum_54 : decode cX2_readSum 54 = .ok (.if_icmp .ne 7, 3) := by decide +kernel
theorem dX2_readSum_57 : decode cX2_readSum 57 = .ok (.iconst 5, 1) := by decide +kernel
theorem dX2_readSum_58 : decode cX2_readSum 58 = .ok (.goto 5, 3) := by decide +kernel
theorem dX2_readSum_61 : decode cX2_readSum 61 = .ok (.bipush 6, 2) := by decide +kernel
theorem dX2_readSum_63 : decode cX2_readSum 63 = .ok (.iconst 0, 1) := by decide +kernel
theorem dX2_readSum_64 : decode cX2_readSum 64 = .ok (.invokevirtual 81, 3) := by decide +kernel
theorem dX2_readSum_67 : decode cX2_readSum 67 = .ok (.pop, 1) := by decide +kernel
theorem dX2_readSum_68 : decode cX2_readSum 68 = .ok (.iinc 2 1, 3) := by decide +kernel
theorem dX2_readSum_71 : decode cX2_readSum 71 = .ok (.goto (-64), 3) := by decide +kernel
theorem dX2_readSum_74 : decode cX2_readSum 74 = .ok (.return_, 1) := by decide +kernel
theorem dX2_readTerm_0 : decode cX2_readTerm 0 = .ok (.aload_n 0, 1) := by decide +kernel
theorem dX2_readTerm_1 : decode cX2_readTerm 1 = .ok (.iload_n 1, 1) := by decide +kernel
theorem dX2_readTerm_2 : decode cX2_readTerm 2 = .ok (.invokevirtual 98, 3) := by decide +kernel
theorem dX2_readTerm_5 : decode cX2_readTerm 5 = .ok (.iconst 0, 1) := by decide +kernel
theorem dX2_readTerm_6 : decode cX2_readTerm 6 = .ok (.istore_n 2, 1) := by decide +kernel
theorem dX2_readTerm_7 : decode cX2_readTerm 7 = .ok (.iload_n 2, 1) := by decide +kernel
theorem dX2_readTerm_8 : decode cX2_readTerm 8 = .ok (.sipush 240, 3) := by decide +kernel
theorem dX2_readTerm_11 : decode cX2_readTerm 11 = .ok (.if_icmp .ge 90, 3) := by decide +kernel
theorem dX2_readTerm_14 : decode cX2_readTerm 14 = .ok (.aload_n 0, 1) := by decide +kernel
theorem dX2_readTerm_15 : decode cX2_readTerm 15 = .ok (.getfield 9, 3) := by decide +kernel
theorem dX2_readTerm_18 : decode cX2_readTerm 18 = .ok (.invokevirtual 51, 3) := by decide +kernel
theorem dX2_readTerm_21 : decode cX2_readTerm 21 = .ok (.istore_n 3, 1) := by decide +kernel
theorem dX2_readTerm_22 : decode cX2_readTerm 22 = .ok (.iload_n 3, 1) := by decide +kernel
theorem dX2_readTerm_23 : decode cX2_readTerm 23 = .ok (.bipush 42, 2) := by decide +kernel
theorem dX2_readTerm_25 : decode cX2_readTerm 25 = .ok (.if_icmp .eq 16, 3) := by decide +kernel
theorem dX2_readTerm_28 : decode cX2_readTerm 28 = .ok (.iload_n 3, 1) := by decide +kernel
theorem dX2_readTerm_29 : decode cX2_readTerm 29 = .ok (.bipush 47, 2) := by decide +kernel
theorem dX2_readTerm_31 : decode cX2_readTerm 31 = .ok (.if_icmp .eq 10, 3) := by decide +kernel
theorem dX2_readTerm_34 : decode cX2_readTerm 34 = .ok (.iload_n 3, 1) := by decide +kernel
theorem dX2_readTerm_35 : decode cX2_readTerm 35 = .ok (.bipush 37, 2) := by decide +kernel
theorem dX2_readTerm_37 : decode cX2_readTerm 37 = .ok (.if_icmp .eq 4, 3) := by decide +kernel
theorem dX2_readTerm_40 : decode cX2_readTerm 40 = .ok (.return_, 1) := by decide +kernel
theorem dX2_readTerm_41 : decode cX2_readTerm 41 = .ok (.aload_n 0, 1) := by decide +kernel
theorem dX2_readTerm_42 : decode cX2_readTerm 42 = .ok (.getfield 9, 3) := by decide +kernel
theorem dX2_readTerm_45 : decode cX2_readTerm 45 = .ok (.invokevirtual 58, 3) := by decide +kernel
theorem dX2_readTerm_48 : decode cX2_readTerm 48 = .ok (.aload_n 0, 1) := by decide +kernel
theorem dX2_readTerm_49 : decode cX2_readTerm 49 = .ok (.iload_n 1, 1) := by decide +kernel
theorem dX2_readTerm_50 : decode cX2_readTerm 50 = .ok (.invokevirtual 98, 3) := by decide +kernel
theorem dX2_readTerm_53 : decode cX2_readTerm 53 = .ok (.iload_n 3, 1) := by decide +kernel
theorem dX2_readTerm_54 : decode cX2_readTerm 54 = .ok (.bipush 42, 2) := by decide +kernel
theorem dX2_readTerm_56 : decode cX2_readTerm 56 = .ok (.if_icmp .ne 17, 3) := by decide +kernel
theorem dX2_readTerm_59 : decode cX2_readTerm 59 = .ok (.aload_n 0, 1) := by decide +kernel
theorem dX2_readTerm_60 : decode cX2_readTerm 60 = .ok (.getfield 18, 3) := by decide +kernel
theorem dX2_readTerm_63 : decode cX2_readTerm 63 = .ok (.bipush 7, 2) := by decide +kernel
theorem dX2_readTerm_65 : decode cX2_readTerm 65 = .ok (.iconst 0, 1) := by decide +kernel
theorem dX2_readTerm_66 : decode cX2_readTerm 66 = .ok (.invokevirtual 81, 3) := by decide +kernel
theorem dX2_readTerm_69 : decode cX2_readTerm 69 = .ok (.pop, 1) := by decide +kernel
theorem dX2_readTerm_70 : decode cX2_readTerm 70 = .ok (.goto 25, 3) := by decide +kernel
theorem dX2_readTerm_73 : decode cX2_readTerm 73 = .ok (.aload_n 0, 1) := by decide +kernel
theorem dX2_readTerm_74 : decode cX2_readTerm 74 = .ok (.getfield 18, 3) := by decide +kernel
theorem dX2_readTerm_77 : decode cX2_readTerm 77 = .ok (.iload_n 3, 1) := by decide +kernel
theorem dX2_readTerm_78 : decode cX2_readTerm 78 = .ok (.bipush 47, 2) := by decide +kernel
theorem dX2_readTerm_80 : decode cX2_readTerm 80 = .ok (.if_icmp .ne 8, 3) := by decide +kernel
theorem dX2_readTerm_83 : decode cX2_readTerm 83 = .ok (.bipush 8, 2) := by decide +kernel
theorem dX2_readTerm_85 : decode cX2_readTerm 85 = .ok (.goto 5, 3) := by decide +kernel
theorem dX2_readTerm_88 : decode cX2_readTerm 88 = .ok (.bipush 9, 2) := by decide +kernel
theorem dX2_readTerm_90 : decode cX2_readTerm 90 = .ok (.iconst 0, 1) := by decide +kernel
theorem dX2_readTerm_91 : decode cX2_readTerm 91 = .ok (.invokevirtual 81, 3) := by decide +kernel
theorem dX2_readTerm_94 : decode cX2_readTerm 94 = .ok (.pop, 1) := by decide +kernel
theorem dX2_readTerm_95 : decode cX2_readTerm 95 = .ok (.iinc 2 1, 3) := by decide +kernel
theorem dX2_readTerm_98 : decode cX2_readTerm 98 = .ok (.goto (-91), 3) := by decide +kernel
theorem dX2_readTerm_101 : decode cX2_readTerm 101 = .ok (.return_, 1) := by decide +kernel
theorem dX2_readFactor_0 : decode cX2_readFactor 0 = .ok (.aload_n 0, 1) := by decide +kernel
theorem dX2_readFactor_1 : decode cX2_readFactor 1 = .ok (.getfield 9, 3) := by decide +kernel
theorem dX2_readFactor_4 : decode cX2_readFactor 4 = .ok (.invokevirtual 51, 3) := by decide +kernel
theorem dX2_readFactor_7 : decode cX2_readFactor 7 = .ok (.istore_n 2, 1) := by decide +kernel
theorem dX2_readFactor_8 : decode cX2_readFactor 8 = .ok (.iload_n 2, 1) := by decide +kernel
theorem dX2_readFactor_9 : decode cX2_readFactor 9 = .ok (.ifCond .ge 7, 3) := by decide +kernel
theorem dX2_readFactor_12 : decode cX2_readFactor 12 = .ok (.iconst (-1), 1) := by decide +kernel
theorem dX2_readFactor_13 : decode cX2_readFactor 13 = .ok (.goto 10, 3) := by decide +kernel
theorem dX2_readFactor_16 : decode cX2_readFactor 16 = .ok (.ldc 101, 2) := by decide +kernel
theorem dX2_readFactor_18 : decode cX2_readFactor 18 = .ok (.iload_n 2, 1) := by decide +kernel
theorem dX2_readFactor_19 : decode cX2_readFactor 19 = .ok (.i2c, 1) := by decide +kernel
theorem dX2_readFactor_20 : decode cX2_readFactor 20 = .ok (.invokevirtual 103, 3) := by decide +kernel
theorem dX2_readFactor_23 : decode cX2_readFactor 23 = .ok (.istore_n 3, 1) := by decide +kernel
theorem dX2_readFactor_24 : decode cX2_readFactor 24 = .ok (.iload_n 2, 1) := by decide +kernel
theorem dX2_readFactor_25 : decode cX2_readFactor 25 = .ok (.bipush 91, 2) := by decide +kernel
theorem dX2_readFactor_27 : decode cX2_readFactor 27 = .ok (.if_icmp .ne 30, 3) := by decide +kernel
theorem dX2_readFactor_30 : decode cX2_readFactor 30 = .ok (.aload_n 0, 1) := by decide +kernel
theorem dX2_readFactor_31 : decode cX2_readFactor 31 = .ok (.iload_n 1, 1) := by decide +kernel
theorem dX2_readFactor_32 : decode cX2_readFactor 32 = .ok (.invokevirtual 88, 3) := by decide +kernel
theorem dX2_readFactor_35 : decode cX2_readFactor 35 = .ok (.ifCond .eq 81, 3) := by decide +kernel
theorem dX2_readFactor_38 : decode cX2_readFactor 38 = .ok (.aload_n 0, 1) := by decide +kernel
theorem dX2_readFactor_39 : decode cX2_readFactor 39 = .ok (.iload_n 1, 1) := by decide +kernel
theorem dX2_readFactor_40 : decode cX2_readFactor 40 = .ok (.iconst 1, 1) := by decide +kernel
theorem dX2_readFactor_41 : decode cX2_readFactor 41 = .ok (.iadd, 1) := by decide +kernel
theorem dX2_readFactor_42 : decode cX2_readFactor 42 = .ok (.invokevirtual 64, 3) := by decide +kernel
theorem dX2_readFactor_45 : decode cX2_readFactor 45 = .ok (.aload_n 0, 1) := by decide +kernel
theorem dX2_readFactor_46 : decode cX2_readFactor 46 = .ok (.getfield 9, 3) := by decide +kernel
theorem dX2_readFactor_49 : decode cX2_readFactor 49 = .ok (.bipush 93, 2) := by decide +kernel
theorem dX2_readFactor_51 : decode cX2_readFactor 51 = .ok (.invokevirtual 45, 3) := by decide +kernel
theorem dX2_readFactor_54 : decode cX2_readFactor 54 = .ok (.goto 62, 3) := by decide +kernel
theorem dX2_readFactor_57 : decode cX2_readFactor 57 = .ok (.iload_n 2, 1) := by decide +kernel
theorem dX2_readFactor_58 : decode cX2_readFactor 58 = .ok (.invokestatic 109, 3) := by decide +kernel
theorem dX2_readFactor_61 : decode cX2_readFactor 61 = .ok (.ifCond .eq 23, 3) := by decide +kernel
theorem dX2_readFactor_64 : decode cX2_readFactor 64 = .ok (.aload_n 0, 1) := by decide +kernel
theorem dX2_readFactor_65 : decode cX2_readFactor 65 = .ok (.getfield 18, 3) := by decide +kernel
theorem dX2_readFactor_68 : decode cX2_readFactor 68 = .ok (.iconst 0, 1) := by decide +kernel
theorem dX2_readFactor_69 : decode cX2_readFactor 69 = .ok (.aload_n 0, 1) := by decide +kernel
theorem dX2_readFactor_70 : decode cX2_readFactor 70 = .ok (.getfield 9, 3) := by decide +kernel
theorem dX2_readFactor_73 : decode cX2_readFactor 73 = .ok (.iconst 5, 1) := by decide +kernel
theorem dX2_readFactor_74 : decode cX2_readFactor 74 = .ok (.invokevirtual 112, 3) := by decide +kernel
theorem dX2_readFactor_77 : decode cX2_readFactor 77 = .ok (.invokevirtual 81, 3) := by decide +kernel
theorem dX2_readFactor_80 : decode cX2_readFactor 80 = .ok (.pop, 1) := by decide +kernel
theorem dX2_readFactor_81 : decode cX2_readFactor 81 = .ok (.goto 35, 3) := by decide +kernel
theorem dX2_readFactor_84 : decode cX2_readFactor 84 = .ok (.iload_n 3, 1) := by decide +kernel
theorem dX2_readFactor_85 : decode cX2_readFactor 85 = .ok (.ifCond .lt 23, 3) := by decide +kernel
theorem dX2_readFactor_88 : decode cX2_readFactor 88 = .ok (.aload_n 0, 1) := by decide +kernel
theorem dX2_readFactor_89 : decode cX2_readFactor 89 = .ok (.getfield 9, 3) := by decide +kernel
theorem dX2_readFactor_92 : decode cX2_readFactor 92 = .ok (.invokevirtual 58, 3) := by decide +kernel
theorem dX2_readFactor_95 : decode cX2_readFactor 95 = .ok (.aload_n 0, 1) := by decide +kernel
theorem dX2_readFactor_96 : decode cX2_readFactor 96 = .ok (.getfield 18, 3) := by decide +kernel
theorem dX2_readFactor_99 : decode cX2_readFactor 99 = .ok (.iconst 1, 1) := by decide +kernel
theorem dX2_readFactor_100 : decode cX2_readFactor 100 = .ok (.iload_n 3, 1) := by decide +kernel
theorem dX2_readFactor_101 : decode cX2_readFactor 101 = .ok (.invokevirtual 81, 3) := by decide +kernel
theorem dX2_readFactor_104 : decode cX2_readFactor 104 = .ok (.pop, 1) := by decide +kernel
theorem dX2_readFactor_105 : decode cX2_readFactor 105 = .ok (.goto 11, 3) := by decide +kernel
theorem dX2_readFactor_108 : decode cX2_readFactor 108 = .ok (.aload_n 0, 1) := by decide +kernel
theorem dX2_readFactor_109 : decode cX2_readFactor 109 = .ok (.getfield 9, 3) := by decide +kernel
theorem dX2_readFactor_112 : decode cX2_readFactor 112 = .ok (.iconst 1, 1) := by decide +kernel
theorem dX2_readFactor_113 : decode cX2_readFactor 113 = .ok (.invokevirtual 55, 3) := by decide +kernel
theorem dX2_readFactor_116 : decode cX2_readFactor 116 = .ok (.return_, 1) := by decide +kernel
theorem dX2_canOpen_0 : decode cX2_canOpen 0 = .ok (.iload_n 1, 1) := by decide +kernel
theorem dX2_canOpen_1 : decode cX2_canOpen 1 = .ok (.bipush 6, 2) := by decide +kernel
theorem dX2_canOpen_3 : decode cX2_canOpen 3 = .ok (.if_icmp .lt 13, 3) := by decide +kernel
theorem dX2_canOpen_6 : decode cX2_canOpen 6 = .ok (.aload_n 0, 1) := by decide +kernel
theorem dX2_canOpen_7 : decode cX2_canOpen 7 = .ok (.getfield 9, 3) := by decide +kernel
theorem dX2_canOpen_10 : decode cX2_canOpen 10 = .ok (.iconst 5, 1) := by decide +kernel
theorem dX2_canOpen_11 : decode cX2_canOpen 11 = .ok (.invokevirtual 55, 3) := by decide +kernel
theorem dX2_canOpen_14 : decode cX2_canOpen 14 = .ok (.iconst 0, 1) := by decide +kernel
theorem dX2_canOpen_15 : decode cX2_canOpen 15 = .ok (.ireturn, 1) := by decide +kernel
theorem dX2_canOpen_16 : decode cX2_canOpen 16 = .ok (.aload_n 0, 1) := by decide +kernel
theorem dX2_canOpen_17 : decode cX2_canOpen 17 = .ok (.getfield 9, 3) := by decide +kernel
theorem dX2_canOpen_20 : decode cX2_canOpen 20 = .ok (.invokevirtual 58, 3) := by decide +kernel
theorem dX2_canOpen_23 : decode cX2_canOpen 23 = .ok (.iconst 1, 1) := by decide +kernel
theorem dX2_canOpen_24 : decode cX2_canOpen 24 = .ok (.ireturn, 1) := by decide +kernel
theorem dX3_init_0 : decode cX3_init 0 = .ok (.aload_n 0, 1) := by decide +kernel
theorem dX3_init_1 : decode cX3_init 1 = .ok (.invokespecial 3, 3) := by decide +kernel
theorem dX3_init_4 : decode cX3_init 4 = .ok (.aload_n 0, 1) := by decide +kernel
theorem dX3_init_5 : decode cX3_init 5 = .ok (.bipush 48, 2) := by decide +kernel
theorem dX3_init_7 : decode cX3_init 7 = .ok (.newarray .int, 2) := by decide +kernel
theorem dX3_init_9 : decode cX3_init 9 = .ok (.putfield 11, 3) := by decide +kernel
theorem dX3_init_12 : decode cX3_init 12 = .ok (.aload_n 0, 1) := by decide +kernel
theorem dX3_init_13 : decode cX3_init 13 = .ok (.bipush 49, 2) := by decide +kernel
theorem dX3_init_15 : decode cX3_init 15 = .ok (.newarray .int, 2) := by decide +kernel
theorem dX3_init_17 : decode cX3_init 17 = .ok (.putfield 15, 3) := by decide +kernel
theorem dX3_init_20 : decode cX3_init 20 = .ok (.aload_n 0, 1) := by decide +kernel
theorem dX3_init_21 : decode cX3_init 21 = .ok (.aload_n 1, 1) := by decide +kernel
theorem dX3_init_22 : decode cX3_init 22 = .ok (.putfield 18, 3) := by decide +kernel
theorem dX3_init_25 : decode cX3_init 25 = .ok (.return_, 1) := by decide +kernel
theorem dX3_wordAt_0 : decode cX3_wordAt 0 = .ok (.iload_n 1, 1) := by decide +kernel
theorem dX3_wordAt_1 : decode cX3_wordAt 1 = .ok (.ifCond .lt 18, 3) := by decide +kernel
theorem dX3_wordAt_4 : decode cX3_wordAt 4 = .ok (.iload_n 1, 1) := by decide +kernel
theorem dX3_wordAt_5 : decode cX3_wordAt 5 = .ok (.bipush 48, 2) := by decide +kernel
theorem dX3_wordAt_7 : decode cX3_wordAt 7 = .ok (.if_icmp .ge 12, 3) := by decide +kernel
theorem dX3_wordAt_10 : decode cX3_wordAt 10 = .ok (.aload_n 0, 1) := by decide +kernel
theorem dX3_wordAt_11 : decode cX3_wordAt 11 = .ok (.getfield 11, 3) := by decide +kernel
theorem dX3_wordAt_14 : decode cX3_wordAt 14 = .ok (.iload_n 1, 1) := by decide +kernel
theorem dX3_wordAt_15 : decode cX3_wordAt 15 = .ok (.iaload, 1) := by decide +kernel
theorem dX3_wordAt_16 : decode cX3_wordAt 16 = .ok (.goto 4, 3) := by decide +kernel
theorem dX3_wordAt_19 : decode cX3_wordAt 19 = .ok (.iconst 0, 1) := by decide +kernel
theorem dX3_wordAt_20 : decode cX3_wordAt 20 = .ok (.ireturn, 1) := by decide +kernel
theorem dX3_bits_0 : decode cX3_bits 0 = .ok (.iconst 0, 1) := by decide +kernel
theorem dX3_bits_1 : decode cX3_bits 1 = .ok (.istore_n 1, 1) := by decide +kernel
theorem dX3_bits_2 : decode cX3_bits 2 = .ok (.iconst 0, 1) := by decide +kernel
theorem dX3_bits_3 : decode cX3_bits 3 = .ok (.istore_n 2, 1) := by decide +kernel
theorem dX3_bits_4 : decode cX3_bits 4 = .ok (.iload_n 2, 1) := by decide +kernel
theorem dX3_bits_5 : decode cX3_bits 5 = .ok (.aload_n 0, 1) := by decide +kernel
theorem dX3_bits_6 : decode cX3_bits 6 = .ok (.getfield 22, 3) := by decide +kernel
theorem dX3_bits_9 : decode cX3_bits 9 = .ok (.if_icmp .ge 19, 3) := by decide +kernel
theorem dX3_bits_12 : decode cX3_bits 12 = .ok (.iload_n 1, 1) := by decide +kernel
theorem dX3_bits_13 : decode cX3_bits 13 = .ok (.iconst 1, 1) := by decide +kernel
theorem dX3_bits_14 : decode cX3_bits 14 = .ok (.aload_n 0, 1) := by decide +kernel
theorem dX3_bits_15 : decode cX3_bits 15 = .ok (.iload_n 2, 1) := by decide +kernel
theorem dX3_bits_16 : decode cX3_bits 16 = .ok (.invokevirtual 26, 3) := by decide +kernel
theorem dX3_bits_19 : decode cX3_bits 19 = .ok (.ishl, 1) := by decide +kernel
theorem dX3_bits_20 : decode cX3_bits 20 = .ok (.ior, 1) := by decide +kernel
theorem dX3_bits_21 : decode cX3_bits 21 = .ok (.istore_n 1, 1) := by decide +kernel
theorem dX3_bits_22 : decode cX3_bits 22 = .ok (.iinc 2 1, 3) := by decide +kernel
theorem dX3_bits_25 : decode cX3_bits 25 = .ok (.goto (-21), 3) := by decide +kernel
theorem dX3_bits_28 : decode cX3_bits 28 = .ok (.iload_n 1, 1) := by decide +kernel
theorem dX3_bits_29 : decode cX3_bits 29 = .ok (.ireturn, 1) := by decide +kernel
theorem dX3_read_0 : decode cX3_read 0 = .ok (.aload_n 0, 1) := by decide +kernel
theorem dX3_read_1 : decode cX3_read 1 = .ok (.iconst 0, 1) := by decide +kernel
theorem dX3_read_2 : decode cX3_read 2 = .ok (.putfield 30, 3) := by decide +kernel
theorem dX3_read_5 : decode cX3_read 5 = .ok (.aload_n 0, 1) := by decide +kernel
theorem dX3_read_6 : decode cX3_read 6 = .ok (.getfield 18, 3) := by decide +kernel
theorem dX3_read_9 : decode cX3_read 9 = .ok (.iload_n 1, 1) := by decide +kernel
theorem dX3_read_10 : decode cX3_read 10 = .ok (.invokevirtual 33, 3) := by decide +kernel
theorem dX3_read_13 : decode cX3_read 13 = .ok (.aload_n 0, 1) := by decide +kernel
theorem dX3_read_14 : decode cX3_read 14 = .ok (.iconst 0, 1) := by decide +kernel
theorem dX3_read_15 : decode cX3_read 15 = .ok (.invokevirtual 39, 3) := by decide +kernel
theorem dX3_read_18 : decode cX3_read 18 = .ok (.aload_n 0, 1) := by decide +kernel
theorem dX3_read_19 : decode cX3_read 19 = .ok (.getfield 18, 3) := by decide +kernel
theorem dX3_read_22 : decode cX3_read 22 = .ok (.invokevirtual 42, 3) := by decide +kernel
theorem dX3_read_25 : decode cX3_read 25 = .ok (.ifCond .ne 11, 3) := by decide +kernel
theorem dX3_read_28 : decode cX3_read 28 = .ok (.aload_n 0, 1) := by decide +kernel
theorem dX3_read_29 : decode cX3_read 29 = .ok (.getfield 18, 3) := by decide +kernel
theorem dX3_read_32 : decode cX3_read 32 = .ok (.iconst 1, 1) := by decide +kernel
theorem dX3_read_33 : decode cX3_read 33 = .ok (.invokevirtual 46, 3) := by decide +kernel
theorem dX3_read_36 : decode cX3_read 36 = .ok (.aload_n 0, 1) := by decide +kernel
theorem dX3_read_37 : decode cX3_read 37 = .ok (.getfield 18, 3) := by decide +kernel
theorem dX3_read_40 : decode cX3_read 40 = .ok (.invokevirtual 49, 3) := by decide +kernel
theorem dX3_read_43 : decode cX3_read 43 = .ok (.ifCond .eq 11, 3) := by decide +kernel
theorem dX3_read_46 : decode cX3_read 46 = .ok (.aload_n 0, 1) := by decide +kernel
theorem dX3_read_47 : decode cX3_read 47 = .ok (.getfield 18, 3) := by decide +kernel
theorem dX3_read_50 : decode cX3_read 50 = .ok (.getfield 52, 3) := by decide +kernel
theorem dX3_read_53 : decode cX3_read 53 = .ok (.ireturn, 1) := by decide +kernel
theorem dX3_read_54 : decode cX3_read 54 = .ok (.aload_n 0, 1) := by decide +kernel
theorem dX3_read_55 : decode cX3_read 55 = .ok (.aload_n 0, 1) := by decide +kernel
theorem dX3_read_56 : decode cX3_read 56 = .ok (.getfield 30, 3) := by decide +kernel
theorem dX3_read_59 : decode cX3_read 59 = .ok (.bipush 48, 2) := by decide +kernel
theorem dX3_read_61 : decode cX3_read 61 = .ok (.invokestatic 55, 3) := by decide +kernel
theorem dX3_read_64 : decode cX3_read 64 = .ok (.putfield 22, 3) := by decide +kernel
theorem dX3_read_67 : decode cX3_read 67 = .ok (.aload_n 0, 1) := by decide +kernel
theorem dX3_read_68 : decode cX3_read 68 = .ok (.getfield 15, 3) := by decide +kernel
theorem dX3_read_71 : decode cX3_read 71 = .ok (.iconst 0, 1) := by decide +kernel
theorem dX3_read_72 : decode cX3_read 72 = .ok (.aload_n 0, 1) := by decide +kernel
theorem dX3_read_73 : decode cX3_read 73 = .ok (.getfield 11, 3) := by decide +kernel
theorem dX3_read_76 : decode cX3_read 76 = .ok (.iconst 0, 1) := by decide +kernel
theorem dX3_read_77 : decode cX3_read 77 = .ok (.aload_n 0, 1) := by decide +kernel
theorem dX3_read_78 : decode cX3_read 78 = .ok (.getfield 22, 3) := by decide +kernel
theorem dX3_read_81 : decode cX3_read 81 = .ok (.invokestatic 61, 3) := by decide +kernel
theorem dX3_read_84 : decode cX3_read 84 = .ok (.aload_n 0, 1) := by decide +kernel
theorem dX3_read_85 : decode cX3_read 85 = .ok (.getfield 22, 3) := by decide +kernel
theorem dX3_read_88 : decode cX3_read 88 = .ok (.ireturn, 1) := by decide +kernel
theorem dX3_readWords_0 : decode cX3_readWords 0 = .ok (.iconst 0, 1) := by decide +kernel
theorem dX3_readWords_1 : decode cX3_readWords 1 = .ok (.istore_n 2, 1) := by decide +kernel
theorem dX3_readWords_2 : decode cX3_readWords 2 = .ok (.iload_n 2, 1) := by decide +kernel
theorem dX3_readWords_3 : decode cX3_readWords 3 = .ok (.bipush 60, 2) := by decide +kernel
theorem dX3_readWords_5 : decode cX3_readWords 5 = .ok (.if_icmp .ge 47, 3) := by decide +kernel
theorem dX3_readWords_8 : decode cX3_readWords 8 = .ok (.aload_n 0, 1) := by decide +kernel
theorem dX3_readWords_9 : decode cX3_readWords 9 = .ok (.iload_n 1, 1) := by decide +kernel
theorem dX3_readWords_10 : decode cX3_readWords 10 = .ok (.invokevirtual 67, 3) := by decide +kernel
theorem dX3_readWords_13 : decode cX3_readWords 13 = .ok (.aload_n 0, 1) := by decide +kernel
theorem dX3_readWords_14 : decode cX3_readWords 14 = .ok (.getfield 18, 3) := by decide +kernel
theorem dX3_readWords_17 : decode cX3_readWords 17 = .ok (.invokevirtual 42, 3) := by decide +kernel
theorem dX3_readWords_20 : decode cX3_readWords 20 = .ok (.ifCond .ne 25, 3) := by decide +kernel
theorem dX3_readWords_23 : decode cX3_readWords 23 = .ok (.aload_n 0, 1) := by decide +kernel
theorem dX3_readWords_24 : decode cX3_readWords 24 = .ok (.getfield 18, 3) := by decide +kernel
theorem dX3_readWords_27 : decode cX3_readWords 27 = .ok (.invokevirtual 49, 3) := by decide +kernel
theorem dX3_readWords_30 : decode cX3_readWords 30 = .ok (.ifCond .ne 15, 3) := by decide +kernel
theorem dX3_readWords_33 : decode cX3_readWords 33 = .ok (.aload_n 0, 1) := by decide +kernel
theorem dX3_readWords_34 : decode cX3_readWords 34 = .ok (.getfield 18, 3) := by decide +kernel
theorem dX3_readWords_37 : decode cX3_readWords 37 = .ok (.invokevirtual 70, 3) := by decide +kernel
theorem dX3_readWords_40 : decode cX3_readWords 40 = .ok (.bipush 41, 2) := by decide +kernel
theorem dX3_readWords_42 : decode cX3_readWords 42 = .ok (.if_icmp .ne 4, 3) := by decide +kernel
theorem dX3_readWords_45 : decode cX3_readWords 45 = .ok (.return_, 1) := by decide +kernel
theorem dX3_readWords_46 : decode cX3_readWords 46 = .ok (.iinc 2 1, 3) := by decide +kernel
theorem dX3_readWords_49 : decode cX3_readWords 49 = .ok (.goto (-47), 3) := by decide +kernel
theorem dX3_readWords_52 : decode cX3_readWords 52 = .ok (.return_, 1) := by decide +kernel
theorem dX3_readItem_0 : decode cX3_readItem 0 = .ok (.aload_n 0, 1) := by decide +kernel
theorem dX3_readItem_1 : decode cX3_readItem 1 = .ok (.getfield 18, 3) := by decide +kernel
theorem dX3_readItem_4 : decode cX3_readItem 4 = .ok (.getfield 74, 3) := by decide +kernel
theorem dX3_readItem_7 : decode cX3_readItem 7 = .ok (.istore_n 2, 1) := by decide +kernel
theorem dX3_readItem_8 : decode cX3_readItem 8 = .ok (.aload_n 0, 1) := by decide +kernel
theorem dX3_readItem_9 : decode cX3_readItem 9 = .ok (.getfield 30, 3) := by decide +kernel
theorem dX3_readItem_12 : decode cX3_readItem 12 = .ok (.istore_n 3, 1) := by decide +kernel
theorem dX3_readItem_13 : decode cX3_readItem 13 = .ok (.iconst 1, 1) := by decide +kernel
theorem dX3_readItem_14 : decode cX3_readItem 14 = .ok (.istore 4, 2) := by decide +kernel
theorem dX3_readItem_16 : decode cX3_readItem 16 = .ok (.aload_n 0, 1) := by decide +kernel
theorem dX3_readItem_17 : decode cX3_readItem 17 = .ok (.getfield 18, 3) := by decide +kernel
theorem dX3_readItem_20 : decode cX3_readItem 20 = .ok (.invokevirtual 70, 3) := by decide +kernel
theorem dX3_readItem_23 : decode cX3_readItem 23 = .ok (.bipush 50, 2) := by decide +kernel
theorem dX3_readItem_25 : decode cX3_readItem 25 = .ok (.bipush 57, 2) := by decide +kernel
theorem dX3_readItem_27 : decode cX3_readItem 27 = .ok (.invokestatic 77, 3) := by decide +kernel
theorem dX3_readItem_30 : decode cX3_readItem 30 = .ok (.ifCond .eq 22, 3) := by decide +kernel
theorem dX3_readItem_33 : decode cX3_readItem 33 = .ok (.aload_n 0, 1) := by decide +kernel
theorem dX3_readItem_34 : decode cX3_readItem 34 = .ok (.getfield 18, 3) := by decide +kernel
theorem dX3_readItem_37 : decode cX3_readItem 37 = .ok (.invokevirtual 70, 3) := by decide +kernel
theorem dX3_readItem_40 : decode cX3_readItem 40 = .ok (.bipush 48, 2) := by decide +kernel
theorem dX3_readItem_42 : decode cX3_readItem 42 = .ok (.isub, 1) := by decide +kernel
theorem dX3_readItem_43 : decode cX3_readItem 43 = .ok (.istore 4, 2) := by decide +kernel
theorem dX3_readItem_45 : decode cX3_readItem 45 = .ok (.aload_n 0, 1) := by decide +kernel
theorem dX3_readItem_46 : decode cX3_readItem 46 = .ok (.getfield 18, 3) := by decide +kernel
theorem dX3_readItem_49 : decode cX3_readItem 49 = .ok (.invokevirtual 81, 3) := by decide +kernel
theorem dX3_readItem_52 : decode cX3_readItem 52 = .ok (.aload_n 0, 1) := by decide +kernel
theorem dX3_readItem_53 : decode cX3_readItem 53 = .ok (.getfield 18, 3) := by decide +kernel
theorem dX3_readItem_56 : decode cX3_readItem 56 = .ok (.invokevirtual 70, 3) := by decide +kernel
theorem dX3_readItem_59 : decode cX3_readItem 59 = .ok (.istore 5, 2) := by decide +kernel
theorem dX3_readItem_61 : decode cX3_readItem 61 = .ok (.iload 5, 2) := by decide +kernel
theorem dX3_readItem_63 : decode cX3_readItem 63 = .ok (.invokestatic 84, 3) := by decide +kernel
theorem dX3_readItem_66 : decode cX3_readItem 66 = .ok (.ifCond .eq 22, 3) := by decide +kernel
theorem dX3_readItem_69 : decode cX3_readItem 69 = .ok (.aload_n 0, 1) := by decide +kernel
theorem dX3_readItem_70 : decode cX3_readItem 70 = .ok (.iload 5, 2) := by decide +kernel
theorem dX3_readItem_72 : decode cX3_readItem 72 = .ok (.bipush 97, 2) := by decide +kernel
theorem dX3_readItem_74 : decode cX3_readItem 74 = .ok (.isub, 1) := by decide +kernel
theorem dX3_readItem_75 : decode cX3_readItem 75 = .ok (.invokevirtual 88, 3) := by decide +kernel
theorem dX3_readItem_78 : decode cX3_readItem 78 = .ok (.aload_n 0, 1) := by decide +kernel
theorem dX3_readItem_79 : decode cX3_readItem 79 = .ok (.getfield 18, 3) := by decide +kernel
theorem dX3_readItem_82 : decode cX3_readItem 82 = .ok (.invokevirtual 81, 3) := by decide +kernel
theorem dX3_readItem_85 : decode cX3_readItem 85 = .ok (.goto 60, 3) := by decide +kernel
theorem dX3_readItem_88 : decode cX3_readItem 88 = .ok (.iload 5, 2) := by decide +kernel
theorem dX3_readItem_90 : decode cX3_readItem 90 = .ok (.bipush 40, 2) := by decide +kernel
theorem dX3_readItem_92 : decode cX3_readItem 92 = .ok (.if_icmp .eq 14, 3) := by decide +kernel
theorem dX3_readItem_95 : decode cX3_readItem 95 = .ok (.aload_n 0, 1) := by decide +kernel
theorem dX3_readItem_96 : decode cX3_readItem 96 = .ok (.getfield 18, 3) := by decide +kernel
theorem dX3_readItem_99 : decode cX3_readItem 99 = .ok (.iconst 1, 1) := by decide +kernel
theorem dX3_readItem_100 : decode cX3_readItem 100 = .ok (.invokevirtual 46, 3) := by decide +kernel
theorem dX3_readItem_103 : decode cX3_readItem 103 = .ok (.goto 42, 3) := by decide +kernel
theorem dX3_readItem_106 : decode cX3_readItem 106 = .ok (.iload_n 1, 1) := by decide +kernel
theorem dX3_readItem_107 : decode cX3_readItem 107 = .ok (.iconst 2, 1) := by decide +kernel
theorem dX3_readItem_108 : decode cX3_readItem 108 = .ok (.if_icmp .lt 14, 3) := by decide +kernel
theorem dX3_readItem_111 : decode cX3_readItem 111 = .ok (.aload_n 0, 1) := by decide +kernel
theorem dX3_readItem_112 : decode cX3_readItem 112 = .ok (.getfield 18, 3) := by decide +kernel
theorem dX3_readItem_115 : decode cX3_readItem 115 = .ok (.iconst 5, 1) := by decide +kernel
theorem dX3_readItem_116 : decode cX3_readItem 116 = .ok (.invokevirtual 46, 3) := by decide +kernel
theorem dX3_readItem_119 : decode cX3_readItem 119 = .ok (.goto 26, 3) := by decide +kernel
theorem dX3_readItem_122 : decode cX3_readItem 122 = .ok (.aload_n 0, 1) := by decide +kernel
theorem dX3_readItem_123 : decode cX3_readItem 123 = .ok (.getfield 18, 3) := by decide +kernel
theorem dX3_readItem_126 : decode cX3_readItem 126 = .ok (.invokevirtual 81, 3) := by decide +kernel
theorem dX3_readItem_129 : decode cX3_readItem 129 = .ok (.aload_n 0, 1) := by decide +kernel
theorem dX3_readItem_130 : decode cX3_readItem 130 = .ok (.iload_n 1, 1) := by decide +kernel
theorem dX3_readItem_131 : decode cX3_readItem 131 = .ok (.iconst 1, 1) := by decide +kernel
theorem dX3_readItem_132 : decode cX3_readItem 132 = .ok (.iadd, 1) := by decide +kernel
theorem dX3_readItem_133 : decode cX3_readItem 133 = .ok (.invokevirtual 39, 3) := by decide +kernel
theorem dX3_readItem_136 : decode cX3_readItem 136 = .ok (.aload_n 0, 1) := by decide +kernel
theorem dX3_readItem_137 : decode cX3_readItem 137 = .ok (.getfield 18, 3) := by decide +kernel
theorem dX3_readItem_140 : decode cX3_readItem 140 = .ok (.bipush 41, 2) := by decide +kernel
theorem dX3_readItem_142 : decode cX3_readItem 142 = .ok (.invokevirtual 91, 3) := by decide +kernel
theorem dX3_readItem_145 : decode cX3_readItem 145 = .ok (.aload_n 0, 1) := by decide +kernel
theorem dX3_readItem_146 : decode cX3_readItem 146 = .ok (.getfield 18, 3) := by decide +kernel
theorem dX3_readItem_149 : decode cX3_readItem 149 = .ok (.invokevirtual 49, 3) := by decide +kernel
theorem dX3_readItem_152 : decode cX3_readItem 152 = .ok (.ifCond .ne 11, 3) := by decide +kernel
theorem dX3_readItem_155 : decode cX3_readItem 155 = .ok (.aload_n 0, 1) := by decide +kernel
theorem dX3_readItem_156 : decode cX3_readItem 156 = .ok (.iload_n 3, 1) := by decide +kernel
theorem dX3_readItem_157 : decode cX3_readItem 157 = .ok (.iload 4, 2) := by decide +kernel
theorem dX3_readItem_159 : decode cX3_readItem 159 = .ok (.iload_n 2, 1) := by decide +kernel
theorem dX3_readItem_160 : decode cX3_readItem 160 = .ok (.invokevirtual 94, 3) := by decide +kernel
theorem dX3_readItem_163 : decode cX3_readItem 163 = .ok (.return_, 1) := by decide +kernel
theorem dX3_repeat_0 : decode cX3_repeat 0 = .ok (.aload_n 0, 1) := by decide +kernel
theorem dX3_repeat_1 : decode cX3_repeat 1 = .ok (.getfield 30, 3) := by decide +kernel
theorem dX3_repeat_4 : decode cX3_repeat 4 = .ok (.iload_n 1, 1) := by decide +kernel
theorem dX3_repeat_5 : decode cX3_repeat 5 = .ok (.isub, 1) := by decide +kernel
theorem dX3_repeat_6 : decode cX3_repeat 6 = .ok (.istore 4, 2) := by decide +kernel
theorem dX3_repeat_8 : decode cX3_repeat 8 = .ok (.iload_n 1, 1) := by decide +kernel
theorem dX3_repeat_9 : decode cX3_repeat 9 = .ok (.iload 4, 2) := by decide +kernel
theorem dX3_repeat_11 : decode cX3_repeat 11 = .ok (.iload_n 2, 1) := by decide +kernel
theorem dX3_repeat_12 : decode cX3_repeat 12 = .ok (.imul, 1) := by decide +kernel
theorem dX3_repeat_13 : decode cX3_repeat 13 = .ok (.iadd, 1) := by decide +kernel
theorem dX3_repeat_14 : decode cX3_repeat 14 = .ok (.bipush 48, 2) := by decide +kernel
theorem dX3_repeat_16 : decode cX3_repeat 16 = .ok (.if_icmp .le 14, 3) := by decide +kernel
theorem dX3_repeat_19 : decode cX3_repeat 19 = .ok (.aload_n 0, 1) := by decide +kernel
theorem dX3_repeat_20 : decode cX3_repeat 20 = .ok (.getfield 18, 3) := by decide +kernel
theorem dX3_repeat_23 : decode cX3_repeat 23 = .ok (.bipush 6, 2) := by decide +kernel
theorem dX3_repeat_25 : decode cX3_repeat 25 = .ok (.iload_n 3, 1) := by decide +kernel
theorem dX3_repeat_26 : decode cX3_repeat 26 = .ok (.invokevirtual 98, 3) := by decide +kernel
theorem dX3_repeat_29 : decode cX3_repeat 29 = .ok (.return_, 1) := by decide +kernel
theorem dX3_repeat_30 : decode cX3_repeat 30 = .ok (.iload 4, 2) := by decide +kernel
theorem dX3_repeat_32 : decode cX3_repeat 32 = .ok (.iload_n 2, 1) := by decide +kernel
theorem dX3_repeat_33 : decode cX3_repeat 33 = .ok (.iconst 1, 1) := by decide +kernel
theorem dX3_repeat_34 : decode cX3_repeat 34 = .ok (.isub, 1) := by decide +kernel
theorem dX3_repeat_35 : decode cX3_repeat 35 = .ok (.imul, 1) := by decide +kernel
theorem dX3_repeat_36 : decode cX3_repeat 36 = .ok (.istore 5, 2) := by decide +kernel
theorem dX3_repeat_38 : decode cX3_repeat 38 = .ok (.iconst 0, 1) := by decide +kernel
theorem dX3_repeat_39 : decode cX3_repeat 39 = .ok (.istore 6, 2) := by decide +kernel
theorem dX3_repeat_41 : decode cX3_repeat 41 = .ok (.iload 6, 2) := by decide +kernel
theorem dX3_repeat_43 : decode cX3_repeat 43 = .ok (.iload 5, 2) := by decide +kernel
theorem dX3_repeat_45 : decode cX3_repeat 45 = .ok (.if_icmp .ge 24, 3) := by decide +kernel
theorem dX3_repeat_48 : decode cX3_repeat 48 = .ok (.aload_n 0, 1) := by decide +kernel
theorem dX3_repeat_49 : decode cX3_repeat 49 = .ok (.aload_n 0, 1) := by decide +kernel
theorem dX3_repeat_50 : decode cX3_repeat 50 = .ok (.aload_n 0, 1) := by decide +kernel
theorem dX3_repeat_51 : decode cX3_repeat 51 = .ok (.getfield 30, 3) := by decide +kernel
theorem dX3_repeat_54 : decode cX3_repeat 54 = .ok (.iload 4, 2) := by decide +kernel
theorem dX3_repeat_56 : decode cX3_repeat 56 = .ok (.isub, 1) := by decide +kernel
theorem dX3_repeat_57 : decode cX3_repeat 57 = .ok (.invokevirtual 102, 3) := by decide +kernel
theorem dX3_repeat_60 : decode cX3_repeat 60 = .ok (.invokevirtual 88, 3) := by decide +kernel
theorem dX3_repeat_63 : decode cX3_repeat 63 = .ok (.iinc 6 1, 3) := by decide +kernel
theorem dX3_repeat_66 : decode cX3_repeat 66 = .ok (.goto (-25), 3) := by decide +kernel
theorem dX3_repeat_69 : decode cX3_repeat 69 = .ok (.return_, 1) := by decide +kernel
theorem dX3_put_0 : decode cX3_put 0 = .ok (.aload_n 0, 1) := by decide +kernel
theorem dX3_put_1 : decode cX3_put 1 = .ok (.getfield 30, 3) := by decide +kernel
theorem dX3_put_4 : decode cX3_put 4 = .ok (.ifCond .lt 32, 3) := by decide +kernel
theorem dX3_put_7 : decode cX3_put 7 = .ok (.aload_n 0, 1) := by decide +kernel
theorem dX3_put_8 : decode cX3_put 8 = .ok (.getfield 30, 3) := by decide +kernel
theorem dX3_put_11 : decode cX3_put 11 = .ok (.bipush 48, 2) := by decide +kernel
theorem dX3_put_13 : decode cX3_put 13 = .ok (.if_icmp .gt 23, 3) := by decide +kernel
theorem dX3_put_16 : decode cX3_put 16 = .ok (.aload_n 0, 1) := by decide +kernel
theorem dX3_put_17 : decode cX3_put 17 = .ok (.getfield 15, 3) := by decide +kernel
theorem dX3_put_20 : decode cX3_put 20 = .ok (.aload_n 0, 1) := by decide +kernel
theorem dX3_put_21 : decode cX3_put 21 = .ok (.getfield 30, 3) := by decide +kernel
theorem dX3_put_24 : decode cX3_put 24 = .ok (.iload_n 1, 1) := by decide +kernel
theorem dX3_put_25 : decode cX3_put 25 = .ok (.iastore, 1) := by decide +kernel
theorem dX3_put_26 : decode cX3_put 26 = .ok (.aload_n 0, 1) := by decide +kernel
theorem dX3_put_27 : decode cX3_put 27 = .ok (.dup, 1) := by decide +kernel
theorem dX3_put_28 : decode cX3_put 28 = .ok (.getfield 30, 3) := by decide +kernel
theorem dX3_put_31 : decode cX3_put 31 = .ok (.iconst 1, 1) := by decide +kernel
theorem dX3_put_32 : decode cX3_put 32 = .ok (.iadd, 1) := by decide +kernel
theorem dX3_put_33 : decode cX3_put 33 = .ok (.putfield 30, 3) := by decide +kernel
theorem dX3_put_36 : decode cX3_put 36 = .ok (.return_, 1) := by decide +kernel
theorem dX3_draftedAt_0 : decode cX3_draftedAt 0 = .ok (.iload_n 1, 1) := by decide +kernel
theorem dX3_draftedAt_1 : decode cX3_draftedAt 1 = .ok (.ifCond .lt 18, 3) := by decide +kernel
theorem dX3_draftedAt_4 : decode cX3_draftedAt 4 = .ok (.iload_n 1, 1) := by decide +kernel
theorem dX3_draftedAt_5 : decode cX3_draftedAt 5 = .ok (.bipush 48, 2) := by decide +kernel
theorem dX3_draftedAt_7 : decode cX3_draftedAt 7 = .ok (.if_icmp .gt 12, 3) := by decide +kernel
theorem dX3_draftedAt_10 : decode cX3_draftedAt 10 = .ok (.aload_n 0, 1) := by decide +kernel
theorem dX3_draftedAt_11 : decode cX3_draftedAt 11 = .ok (.getfield 15, 3) := by decide +kernel
theorem dX3_draftedAt_14 : decode cX3_draftedAt 14 = .ok (.iload_n 1, 1) := by decide +kernel
theorem dX3_draftedAt_15 : decode cX3_draftedAt 15 = .ok (.iaload, 1) := by decide +kernel
theorem dX3_draftedAt_16 : decode cX3_draftedAt 16 = .ok (.goto 4, 3) := by decide +kernel
theorem dX3_draftedAt_19 : decode cX3_draftedAt 19 = .ok (.iconst 0, 1) := by decide +kernel
theorem dX3_draftedAt_20 : decode cX3_draftedAt 20 = .ok (.ireturn, 1) := by decide +kernel
