theorem dJ0_length_8abf5_0 : decode cJ0_length_8abf5 0 = .ok (.aload_n 0, 1) := by decide +kernel
theorem dJ0_length_8abf5_1 : decode cJ0_length_8abf5 1 = .ok (.getfield 9, 3) := by decide +kernel
theorem dJ0_length_8abf5_4 : decode cJ0_length_8abf5 4 = .ok (.arraylength, 1) := by decide +kernel
theorem dJ0_length_8abf5_5 : decode cJ0_length_8abf5 5 = .ok (.aload_n 0, 1) := by decide +kernel
theorem dJ0_length_8abf5_6 : decode cJ0_length_8abf5 6 = .ok (.invokevirtual 335, 3) := by decide +kernel
theorem dJ0_length_8abf5_9 : decode cJ0_length_8abf5 9 = .ok (.ishr, 1) := by decide +kernel
theorem dJ0_length_8abf5_10 : decode cJ0_length_8abf5 10 = .ok (.ireturn, 1) := by decide +kernel
theorem dJ0_charAt_5068e_0 : decode cJ0_charAt_5068e 0 = .ok (.aload_n 0, 1) := by decide +kernel
theorem dJ0_charAt_5068e_1 : decode cJ0_charAt_5068e 1 = .ok (.invokevirtual 492, 3) := by decide +kernel
theorem dJ0_charAt_5068e_4 : decode cJ0_charAt_5068e 4 = .ok (.ifCond .eq 12, 3) := by decide +kernel
theorem dJ0_charAt_5068e_7 : decode cJ0_charAt_5068e 7 = .ok (.aload_n 0, 1) := by decide +kernel
theorem dJ0_charAt_5068e_8 : decode cJ0_charAt_5068e 8 = .ok (.getfield 9, 3) := by decide +kernel
theorem dJ0_charAt_5068e_11 : decode cJ0_charAt_5068e 11 = .ok (.iload_n 1, 1) := by decide +kernel
theorem dJ0_charAt_5068e_12 : decode cJ0_charAt_5068e 12 = .ok (.invokestatic 495, 3) := by decide +kernel
theorem dJ0_charAt_5068e_15 : decode cJ0_charAt_5068e 15 = .ok (.ireturn, 1) := by decide +kernel
theorem dJ0_charAt_5068e_16 : decode cJ0_charAt_5068e 16 = .ok (.aload_n 0, 1) := by decide +kernel
theorem dJ0_charAt_5068e_17 : decode cJ0_charAt_5068e 17 = .ok (.getfield 9, 3) := by decide +kernel
theorem dJ0_charAt_5068e_20 : decode cJ0_charAt_5068e 20 = .ok (.iload_n 1, 1) := by decide +kernel
theorem dJ0_charAt_5068e_21 : decode cJ0_charAt_5068e 21 = .ok (.invokestatic 498, 3) := by decide +kernel
theorem dJ0_charAt_5068e_24 : decode cJ0_charAt_5068e 24 = .ok (.ireturn, 1) := by decide +kernel
theorem dJ0_coder_7d493_0 : decode cJ0_coder_7d493 0 = .ok (.getstatic 38, 3) := by decide +kernel
theorem dJ0_coder_7d493_3 : decode cJ0_coder_7d493 3 = .ok (.ifCond .eq 10, 3) := by decide +kernel
theorem dJ0_coder_7d493_6 : decode cJ0_coder_7d493 6 = .ok (.aload_n 0, 1) := by decide +kernel
theorem dJ0_coder_7d493_7 : decode cJ0_coder_7d493 7 = .ok (.getfield 15, 3) := by decide +kernel
theorem dJ0_coder_7d493_10 : decode cJ0_coder_7d493 10 = .ok (.goto 4, 3) := by decide +kernel
theorem dJ0_coder_7d493_13 : decode cJ0_coder_7d493 13 = .ok (.iconst 1, 1) := by decide +kernel
theorem dJ0_coder_7d493_14 : decode cJ0_coder_7d493 14 = .ok (.ireturn, 1) := by decide +kernel
theorem dJ0_isLatin1_aae02_0 : decode cJ0_isLatin1_aae02 0 = .ok (.getstatic 38, 3) := by decide +kernel
theorem dJ0_isLatin1_aae02_3 : decode cJ0_isLatin1_aae02 3 = .ok (.ifCond .eq 14, 3) := by decide +kernel
theorem dJ0_isLatin1_aae02_6 : decode cJ0_isLatin1_aae02 6 = .ok (.aload_n 0, 1) := by decide +kernel
theorem dJ0_isLatin1_aae02_7 : decode cJ0_isLatin1_aae02 7 = .ok (.getfield 15, 3) := by decide +kernel
theorem dJ0_isLatin1_aae02_10 : decode cJ0_isLatin1_aae02 10 = .ok (.ifCond .ne 7, 3) := by decide +kernel
theorem dJ0_isLatin1_aae02_13 : decode cJ0_isLatin1_aae02 13 = .ok (.iconst 1, 1) := by decide +kernel
theorem dJ0_isLatin1_aae02_14 : decode cJ0_isLatin1_aae02 14 = .ok (.goto 4, 3) := by decide +kernel
theorem dJ0_isLatin1_aae02_17 : decode cJ0_isLatin1_aae02 17 = .ok (.iconst 0, 1) := by decide +kernel
theorem dJ0_isLatin1_aae02_18 : decode cJ0_isLatin1_aae02 18 = .ok (.ireturn, 1) := by decide +kernel
theorem dJ0_checkIndex_df160_0 : decode cJ0_checkIndex_df160 0 = .ok (.iload_n 0, 1) := by decide +kernel
theorem dJ0_checkIndex_df160_1 : decode cJ0_checkIndex_df160 1 = .ok (.iload_n 1, 1) := by decide +kernel
theorem dJ0_checkIndex_df160_2 : decode cJ0_checkIndex_df160 2 = .ok (.getstatic 1053, 3) := by decide +kernel
theorem dJ0_checkIndex_df160_5 : decode cJ0_checkIndex_df160 5 = .ok (.invokestatic 1059, 3) := by decide +kernel
theorem dJ0_checkIndex_df160_8 : decode cJ0_checkIndex_df160 8 = .ok (.pop, 1) := by decide +kernel
theorem dJ0_checkIndex_df160_9 : decode cJ0_checkIndex_df160 9 = .ok (.return_, 1) := by decide +kernel
theorem dJ1_charAt_3b067_0 : decode cJ1_charAt_3b067 0 = .ok (.iload_n 1, 1) := by decide +kernel
theorem dJ1_charAt_3b067_1 : decode cJ1_charAt_3b067 1 = .ok (.aload_n 0, 1) := by decide +kernel
theorem dJ1_charAt_3b067_2 : decode cJ1_charAt_3b067 2 = .ok (.arraylength, 1) := by decide +kernel
theorem dJ1_charAt_3b067_3 : decode cJ1_charAt_3b067 3 = .ok (.invokestatic 9, 3) := by decide +kernel
theorem dJ1_charAt_3b067_6 : decode cJ1_charAt_3b067 6 = .ok (.aload_n 0, 1) := by decide +kernel
theorem dJ1_charAt_3b067_7 : decode cJ1_charAt_3b067 7 = .ok (.iload_n 1, 1) := by decide +kernel
theorem dJ1_charAt_3b067_8 : decode cJ1_charAt_3b067 8 = .ok (.baload, 1) := by decide +kernel
theorem dJ1_charAt_3b067_9 : decode cJ1_charAt_3b067 9 = .ok (.sipush 255, 3) := by decide +kernel
theorem dJ1_charAt_3b067_12 : decode cJ1_charAt_3b067 12 = .ok (.iand, 1) := by decide +kernel
theorem dJ1_charAt_3b067_13 : decode cJ1_charAt_3b067 13 = .ok (.i2c, 1) := by decide +kernel
theorem dJ1_charAt_3b067_14 : decode cJ1_charAt_3b067 14 = .ok (.ireturn, 1) := by decide +kernel
theorem dJ2_getChar_3b067_0 : decode cJ2_getChar_3b067 0 = .ok (.getstatic 44, 3) := by decide +kernel
theorem dJ2_getChar_3b067_3 : decode cJ2_getChar_3b067 3 = .ok (.ifCond .ne 25, 3) := by decide +kernel
theorem dJ2_getChar_3b067_6 : decode cJ2_getChar_3b067 6 = .ok (.iload_n 1, 1) := by decide +kernel
theorem dJ2_getChar_3b067_7 : decode cJ2_getChar_3b067 7 = .ok (.ifCond .lt 11, 3) := by decide +kernel
theorem dJ2_getChar_3b067_10 : decode cJ2_getChar_3b067 10 = .ok (.iload_n 1, 1) := by decide +kernel
theorem dJ2_getChar_3b067_11 : decode cJ2_getChar_3b067 11 = .ok (.aload_n 0, 1) := by decide +kernel
theorem dJ2_getChar_3b067_12 : decode cJ2_getChar_3b067 12 = .ok (.invokestatic 48, 3) := by decide +kernel
theorem dJ2_getChar_3b067_15 : decode cJ2_getChar_3b067 15 = .ok (.if_icmp .lt 13, 3) := by decide +kernel
theorem dJ2_getChar_3b067_18 : decode cJ2_getChar_3b067 18 = .ok (.new 52, 3) := by decide +kernel
theorem dJ2_getChar_3b067_21 : decode cJ2_getChar_3b067 21 = .ok (.dup, 1) := by decide +kernel
theorem dJ2_getChar_3b067_22 : decode cJ2_getChar_3b067 22 = .ok (.ldc 54, 2) := by decide +kernel
theorem dJ2_getChar_3b067_24 : decode cJ2_getChar_3b067 24 = .ok (.invokespecial 56, 3) := by decide +kernel
theorem dJ2_getChar_3b067_27 : decode cJ2_getChar_3b067 27 = .ok (.athrow, 1) := by decide +kernel
theorem dJ2_getChar_3b067_28 : decode cJ2_getChar_3b067 28 = .ok (.iload_n 1, 1) := by decide +kernel
theorem dJ2_getChar_3b067_29 : decode cJ2_getChar_3b067 29 = .ok (.iconst 1, 1) := by decide +kernel
theorem dJ2_getChar_3b067_30 : decode cJ2_getChar_3b067 30 = .ok (.ishl, 1) := by decide +kernel
theorem dJ2_getChar_3b067_31 : decode cJ2_getChar_3b067 31 = .ok (.istore_n 1, 1) := by decide +kernel
theorem dJ2_getChar_3b067_32 : decode cJ2_getChar_3b067 32 = .ok (.aload_n 0, 1) := by decide +kernel
theorem dJ2_getChar_3b067_33 : decode cJ2_getChar_3b067 33 = .ok (.iload_n 1, 1) := by decide +kernel
theorem dJ2_getChar_3b067_34 : decode cJ2_getChar_3b067 34 = .ok (.iinc 1 1, 3) := by decide +kernel
theorem dJ2_getChar_3b067_37 : decode cJ2_getChar_3b067 37 = .ok (.baload, 1) := by decide +kernel
theorem dJ2_getChar_3b067_38 : decode cJ2_getChar_3b067 38 = .ok (.sipush 255, 3) := by decide +kernel
theorem dJ2_getChar_3b067_41 : decode cJ2_getChar_3b067 41 = .ok (.iand, 1) := by decide +kernel
theorem dJ2_getChar_3b067_42 : decode cJ2_getChar_3b067 42 = .ok (.getstatic 59, 3) := by decide +kernel
theorem dJ2_getChar_3b067_45 : decode cJ2_getChar_3b067 45 = .ok (.ishl, 1) := by decide +kernel
theorem dJ2_getChar_3b067_46 : decode cJ2_getChar_3b067 46 = .ok (.aload_n 0, 1) := by decide +kernel
theorem dJ2_getChar_3b067_47 : decode cJ2_getChar_3b067 47 = .ok (.iload_n 1, 1) := by decide +kernel
theorem dJ2_getChar_3b067_48 : decode cJ2_getChar_3b067 48 = .ok (.baload, 1) := by decide +kernel
theorem dJ2_getChar_3b067_49 : decode cJ2_getChar_3b067 49 = .ok (.sipush 255, 3) := by decide +kernel
theorem dJ2_getChar_3b067_52 : decode cJ2_getChar_3b067 52 = .ok (.iand, 1) := by decide +kernel
theorem dJ2_getChar_3b067_53 : decode cJ2_getChar_3b067 53 = .ok (.getstatic 63, 3) := by decide +kernel
theorem dJ2_getChar_3b067_56 : decode cJ2_getChar_3b067 56 = .ok (.ishl, 1) := by decide +kernel
theorem dJ2_getChar_3b067_57 : decode cJ2_getChar_3b067 57 = .ok (.ior, 1) := by decide +kernel
theorem dJ2_getChar_3b067_58 : decode cJ2_getChar_3b067 58 = .ok (.i2c, 1) := by decide +kernel
theorem dJ2_getChar_3b067_59 : decode cJ2_getChar_3b067 59 = .ok (.ireturn, 1) := by decide +kernel
theorem dJ2_length_9d52b_0 : decode cJ2_length_9d52b 0 = .ok (.aload_n 0, 1) := by decide +kernel
theorem dJ2_length_9d52b_1 : decode cJ2_length_9d52b 1 = .ok (.arraylength, 1) := by decide +kernel
theorem dJ2_length_9d52b_2 : decode cJ2_length_9d52b 2 = .ok (.iconst 1, 1) := by decide +kernel
theorem dJ2_length_9d52b_3 : decode cJ2_length_9d52b 3 = .ok (.ishr, 1) := by decide +kernel
theorem dJ2_length_9d52b_4 : decode cJ2_length_9d52b 4 = .ok (.ireturn, 1) := by decide +kernel
theorem dJ2_charAt_3b067_0 : decode cJ2_charAt_3b067 0 = .ok (.iload_n 1, 1) := by decide +kernel
theorem dJ2_charAt_3b067_1 : decode cJ2_charAt_3b067 1 = .ok (.aload_n 0, 1) := by decide +kernel
theorem dJ2_charAt_3b067_2 : decode cJ2_charAt_3b067 2 = .ok (.invokestatic 67, 3) := by decide +kernel
theorem dJ2_charAt_3b067_5 : decode cJ2_charAt_3b067 5 = .ok (.aload_n 0, 1) := by decide +kernel
theorem dJ2_charAt_3b067_6 : decode cJ2_charAt_3b067 6 = .ok (.iload_n 1, 1) := by decide +kernel
theorem dJ2_charAt_3b067_7 : decode cJ2_charAt_3b067 7 = .ok (.invokestatic 71, 3) := by decide +kernel
theorem dJ2_charAt_3b067_10 : decode cJ2_charAt_3b067 10 = .ok (.ireturn, 1) := by decide +kernel
theorem dJ2_checkIndex_2214a_0 : decode cJ2_checkIndex_2214a 0 = .ok (.iload_n 0, 1) := by decide +kernel
theorem dJ2_checkIndex_2214a_1 : decode cJ2_checkIndex_2214a 1 = .ok (.aload_n 1, 1) := by decide +kernel
theorem dJ2_checkIndex_2214a_2 : decode cJ2_checkIndex_2214a 2 = .ok (.invokestatic 48, 3) := by decide +kernel
theorem dJ2_checkIndex_2214a_5 : decode cJ2_checkIndex_2214a 5 = .ok (.invokestatic 414, 3) := by decide +kernel
theorem dJ2_checkIndex_2214a_8 : decode cJ2_checkIndex_2214a 8 = .ok (.return_, 1) := by decide +kernel
theorem dJ3_checkIndex_8e157_0 : decode cJ3_checkIndex_8e157 0 = .ok (.iload_n 0, 1) := by decide +kernel
theorem dJ3_checkIndex_8e157_1 : decode cJ3_checkIndex_8e157 1 = .ok (.ifCond .lt 8, 3) := by decide +kernel
theorem dJ3_checkIndex_8e157_4 : decode cJ3_checkIndex_8e157 4 = .ok (.iload_n 0, 1) := by decide +kernel
theorem dJ3_checkIndex_8e157_5 : decode cJ3_checkIndex_8e157 5 = .ok (.iload_n 1, 1) := by decide +kernel
theorem dJ3_checkIndex_8e157_6 : decode cJ3_checkIndex_8e157 6 = .ok (.if_icmp .lt 10, 3) := by decide +kernel
theorem dJ3_checkIndex_8e157_9 : decode cJ3_checkIndex_8e157 9 = .ok (.aload_n 2, 1) := by decide +kernel
theorem dJ3_checkIndex_8e157_10 : decode cJ3_checkIndex_8e157 10 = .ok (.iload_n 0, 1) := by decide +kernel
theorem dJ3_checkIndex_8e157_11 : decode cJ3_checkIndex_8e157 11 = .ok (.iload_n 1, 1) := by decide +kernel
theorem dJ3_checkIndex_8e157_12 : decode cJ3_checkIndex_8e157 12 = .ok (.invokestatic 95, 3) := by decide +kernel
theorem dJ3_checkIndex_8e157_15 : decode cJ3_checkIndex_8e157 15 = .ok (.athrow, 1) := by decide +kernel
theorem dJ3_checkIndex_8e157_16 : decode cJ3_checkIndex_8e157 16 = .ok (.iload_n 0, 1) := by decide +kernel
theorem dJ3_checkIndex_8e157_17 : decode cJ3_checkIndex_8e157 17 = .ok (.ireturn, 1) := by decide +kernel
theorem dJ9_max_7cf53_0 : decode cJ9_max_7cf53 0 = .ok (.iload_n 0, 1) := by decide +kernel
theorem dJ9_max_7cf53_1 : decode cJ9_max_7cf53 1 = .ok (.iload_n 1, 1) := by decide +kernel
theorem dJ9_max_7cf53_2 : decode cJ9_max_7cf53 2 = .ok (.if_icmp .lt 7, 3) := by decide +kernel
theorem dJ9_max_7cf53_5 : decode cJ9_max_7cf53 5 = .ok (.iload_n 0, 1) := by decide +kernel
theorem dJ9_max_7cf53_6 : decode cJ9_max_7cf53 6 = .ok (.goto 4, 3) := by decide +kernel
theorem dJ9_max_7cf53_9 : decode cJ9_max_7cf53 9 = .ok (.iload_n 1, 1) := by decide +kernel
theorem dJ9_max_7cf53_10 : decode cJ9_max_7cf53 10 = .ok (.ireturn, 1) := by decide +kernel
theorem dJ9_min_7cf53_0 : decode cJ9_min_7cf53 0 = .ok (.iload_n 0, 1) := by decide +kernel
theorem dJ9_min_7cf53_1 : decode cJ9_min_7cf53 1 = .ok (.iload_n 1, 1) := by decide +kernel
theorem dJ9_min_7cf53_2 : decode cJ9_min_7cf53 2 = .ok (.if_icmp .gt 7, 3) := by decide +kernel
theorem dJ9_min_7cf53_5 : decode cJ9_min_7cf53 5 = .ok (.iload_n 0, 1) := by decide +kernel
theorem dJ9_min_7cf53_6 : decode cJ9_min_7cf53 6 = .ok (.goto 4, 3) := by decide +kernel
theorem dJ9_min_7cf53_9 : decode cJ9_min_7cf53 9 = .ok (.iload_n 1, 1) := by decide +kernel
theorem dJ9_min_7cf53_10 : decode cJ9_min_7cf53 10 = .ok (.ireturn, 1) := by decide +kernel
theorem dX0_init_0 : decode cX0_init 0 = .ok (.aload_n 0, 1) := by decide +kernel
theorem dX0_init_1 : decode cX0_init 1 = .ok (.invokespecial 3, 3) := by decide +kernel
theorem dX0_init_4 : decode cX0_init 4 = .ok (.aload_n 0, 1) := by decide +kernel
theorem dX0_init_5 : decode cX0_init 5 = .ok (.bipush 24, 2) := by decide +kernel
theorem dX0_init_7 : decode cX0_init 7 = .ok (.newarray .long, 2) := by decide +kernel
theorem dX0_init_9 : decode cX0_init 9 = .ok (.putfield 9, 3) := by decide +kernel
theorem dX0_init_12 : decode cX0_init 12 = .ok (.aload_n 0, 1) := by decide +kernel
theorem dX0_init_13 : decode cX0_init 13 = .ok (.bipush 24, 2) := by decide +kernel
theorem dX0_init_15 : decode cX0_init 15 = .ok (.newarray .int, 2) := by decide +kernel
theorem dX0_init_17 : decode cX0_init 17 = .ok (.putfield 15, 3) := by decide +kernel
theorem dX0_init_20 : decode cX0_init 20 = .ok (.aload_n 0, 1) := by decide +kernel
theorem dX0_init_21 : decode cX0_init 21 = .ok (.bipush 24, 2) := by decide +kernel
theorem dX0_init_23 : decode cX0_init 23 = .ok (.newarray .int, 2) := by decide +kernel
theorem dX0_init_25 : decode cX0_init 25 = .ok (.putfield 19, 3) := by decide +kernel
theorem dX0_init_28 : decode cX0_init 28 = .ok (.aload_n 0, 1) := by decide +kernel
theorem dX0_init_29 : decode cX0_init 29 = .ok (.bipush 24, 2) := by decide +kernel
theorem dX0_init_31 : decode cX0_init 31 = .ok (.newarray .int, 2) := by decide +kernel
theorem dX0_init_33 : decode cX0_init 33 = .ok (.putfield 22, 3) := by decide +kernel
theorem dX0_init_36 : decode cX0_init 36 = .ok (.aload_n 0, 1) := by decide +kernel
theorem dX0_init_37 : decode cX0_init 37 = .ok (.bipush 24, 2) := by decide +kernel
theorem dX0_init_39 : decode cX0_init 39 = .ok (.newarray .int, 2) := by decide +kernel
theorem dX0_init_41 : decode cX0_init 41 = .ok (.putfield 25, 3) := by decide +kernel
theorem dX0_init_44 : decode cX0_init 44 = .ok (.aload_n 0, 1) := by decide +kernel
theorem dX0_init_45 : decode cX0_init 45 = .ok (.bipush 24, 2) := by decide +kernel
theorem dX0_init_47 : decode cX0_init 47 = .ok (.newarray .int, 2) := by decide +kernel
theorem dX0_init_49 : decode cX0_init 49 = .ok (.putfield 28, 3) := by decide +kernel
theorem dX0_init_52 : decode cX0_init 52 = .ok (.aload_n 0, 1) := by decide +kernel
theorem dX0_init_53 : decode cX0_init 53 = .ok (.bipush 24, 2) := by decide +kernel
theorem dX0_init_55 : decode cX0_init 55 = .ok (.newarray .int, 2) := by decide +kernel
theorem dX0_init_57 : decode cX0_init 57 = .ok (.putfield 31, 3) := by decide +kernel
theorem dX0_init_60 : decode cX0_init 60 = .ok (.aload_n 0, 1) := by decide +kernel
theorem dX0_init_61 : decode cX0_init 61 = .ok (.bipush 24, 2) := by decide +kernel
theorem dX0_init_63 : decode cX0_init 63 = .ok (.bipush 24, 2) := by decide +kernel
theorem dX0_init_65 : decode cX0_init 65 = .ok (.multianewarray 34 2, 4) := by decide +kernel
theorem dX0_init_69 : decode cX0_init 69 = .ok (.putfield 36, 3) := by decide +kernel
theorem dX0_init_72 : decode cX0_init 72 = .ok (.aload_n 0, 1) := by decide +kernel
theorem dX0_init_73 : decode cX0_init 73 = .ok (.bipush 24, 2) := by decide +kernel
theorem dX0_init_75 : decode cX0_init 75 = .ok (.bipush 24, 2) := by decide +kernel
theorem dX0_init_77 : decode cX0_init 77 = .ok (.multianewarray 34 2, 4) := by decide +kernel
theorem dX0_init_81 : decode cX0_init 81 = .ok (.putfield 39, 3) := by decide +kernel
theorem dX0_init_84 : decode cX0_init 84 = .ok (.return_, 1) := by decide +kernel
theorem dX0_clear_0 : decode cX0_clear 0 = .ok (.aload_n 0, 1) := by decide +kernel
theorem dX0_clear_1 : decode cX0_clear 1 = .ok (.iconst 0, 1) := by decide +kernel
theorem dX0_clear_2 : decode cX0_clear 2 = .ok (.putfield 42, 3) := by decide +kernel
theorem dX0_clear_5 : decode cX0_clear 5 = .ok (.aload_n 0, 1) := by decide +kernel
theorem dX0_clear_6 : decode cX0_clear 6 = .ok (.iconst 0, 1) := by decide +kernel
theorem dX0_clear_7 : decode cX0_clear 7 = .ok (.putfield 46, 3) := by decide +kernel
theorem dX0_clear_10 : decode cX0_clear 10 = .ok (.aload_n 0, 1) := by decide +kernel
theorem dX0_clear_11 : decode cX0_clear 11 = .ok (.iconst 0, 1) := by decide +kernel
theorem dX0_clear_12 : decode cX0_clear 12 = .ok (.putfield 50, 3) := by decide +kernel
theorem dX0_clear_15 : decode cX0_clear 15 = .ok (.aload_n 0, 1) := by decide +kernel
theorem dX0_clear_16 : decode cX0_clear 16 = .ok (.iconst 0, 1) := by decide +kernel
theorem dX0_clear_17 : decode cX0_clear 17 = .ok (.putfield 53, 3) := by decide +kernel
theorem dX0_clear_20 : decode cX0_clear 20 = .ok (.aload_n 0, 1) := by decide +kernel
theorem dX0_clear_21 : decode cX0_clear 21 = .ok (.iconst 0, 1) := by decide +kernel
theorem dX0_clear_22 : decode cX0_clear 22 = .ok (.putfield 56, 3) := by decide +kernel
theorem dX0_clear_25 : decode cX0_clear 25 = .ok (.aload_n 0, 1) := by decide +kernel
theorem dX0_clear_26 : decode cX0_clear 26 = .ok (.iconst 0, 1) := by decide +kernel
theorem dX0_clear_27 : decode cX0_clear 27 = .ok (.putfield 59, 3) := by decide +kernel
theorem dX0_clear_30 : decode cX0_clear 30 = .ok (.aload_n 0, 1) := by decide +kernel
theorem dX0_clear_31 : decode cX0_clear 31 = .ok (.iconst 0, 1) := by decide +kernel
theorem dX0_clear_32 : decode cX0_clear 32 = .ok (.putfield 62, 3) := by decide +kernel
theorem dX0_clear_35 : decode cX0_clear 35 = .ok (.iconst 0, 1) := by decide +kernel
theorem dX0_clear_36 : decode cX0_clear 36 = .ok (.istore_n 1, 1) := by decide +kernel
theorem dX0_clear_37 : decode cX0_clear 37 = .ok (.iload_n 1, 1) := by decide +kernel
theorem dX0_clear_38 : decode cX0_clear 38 = .ok (.bipush 24, 2) := by decide +kernel
theorem dX0_clear_40 : decode cX0_clear 40 = .ok (.if_icmp .ge 44, 3) := by decide +kernel
theorem dX0_clear_43 : decode cX0_clear 43 = .ok (.aload_n 0, 1) := by decide +kernel
theorem dX0_clear_44 : decode cX0_clear 44 = .ok (.getfield 19, 3) := by decide +kernel
theorem dX0_clear_47 : decode cX0_clear 47 = .ok (.iload_n 1, 1) := by decide +kernel
theorem dX0_clear_48 : decode cX0_clear 48 = .ok (.iconst 0, 1) := by decide +kernel
theorem dX0_clear_49 : decode cX0_clear 49 = .ok (.iastore, 1) := by decide +kernel
theorem dX0_clear_50 : decode cX0_clear 50 = .ok (.aload_n 0, 1) := by decide +kernel
theorem dX0_clear_51 : decode cX0_clear 51 = .ok (.getfield 22, 3) := by decide +kernel
theorem dX0_clear_54 : decode cX0_clear 54 = .ok (.iload_n 1, 1) := by decide +kernel
theorem dX0_clear_55 : decode cX0_clear 55 = .ok (.iconst 0, 1) := by decide +kernel
theorem dX0_clear_56 : decode cX0_clear 56 = .ok (.iastore, 1) := by decide +kernel
theorem dX0_clear_57 : decode cX0_clear 57 = .ok (.aload_n 0, 1) := by decide +kernel
theorem dX0_clear_58 : decode cX0_clear 58 = .ok (.getfield 25, 3) := by decide +kernel
theorem dX0_clear_61 : decode cX0_clear 61 = .ok (.iload_n 1, 1) := by decide +kernel
theorem dX0_clear_62 : decode cX0_clear 62 = .ok (.iconst 0, 1) := by decide +kernel
theorem dX0_clear_63 : decode cX0_clear 63 = .ok (.iastore, 1) := by decide +kernel
theorem dX0_clear_64 : decode cX0_clear 64 = .ok (.aload_n 0, 1) := by decide +kernel
theorem dX0_clear_65 : decode cX0_clear 65 = .ok (.getfield 28, 3) := by decide +kernel
theorem dX0_clear_68 : decode cX0_clear 68 = .ok (.iload_n 1, 1) := by decide +kernel
theorem dX0_clear_69 : decode cX0_clear 69 = .ok (.iconst 0, 1) := by decide +kernel
theorem dX0_clear_70 : decode cX0_clear 70 = .ok (.iastore, 1) := by decide +kernel
theorem dX0_clear_71 : decode cX0_clear 71 = .ok (.aload_n 0, 1) := by decide +kernel
theorem dX0_clear_72 : decode cX0_clear 72 = .ok (.getfield 31, 3) := by decide +kernel
theorem dX0_clear_75 : decode cX0_clear 75 = .ok (.iload_n 1, 1) := by decide +kernel
theorem dX0_clear_76 : decode cX0_clear 76 = .ok (.iconst 0, 1) := by decide +kernel
theorem dX0_clear_77 : decode cX0_clear 77 = .ok (.iastore, 1) := by decide +kernel
theorem dX0_clear_78 : decode cX0_clear 78 = .ok (.iinc 1 1, 3) := by decide +kernel
theorem dX0_clear_81 : decode cX0_clear 81 = .ok (.goto (-44), 3) := by decide +kernel
theorem dX0_clear_84 : decode cX0_clear 84 = .ok (.return_, 1) := by decide +kernel
theorem dX0_size_0 : decode cX0_size 0 = .ok (.aload_n 0, 1) := by decide +kernel
theorem dX0_size_1 : decode cX0_size 1 = .ok (.getfield 42, 3) := by decide +kernel
theorem dX0_size_4 : decode cX0_size 4 = .ok (.ireturn, 1) := by decide +kernel
theorem dX0_isCrowded_0 : decode cX0_isCrowded 0 = .ok (.aload_n 0, 1) := by decide +kernel
theorem dX0_isCrowded_1 : decode cX0_isCrowded 1 = .ok (.getfield 46, 3) := by decide +kernel
theorem dX0_isCrowded_4 : decode cX0_isCrowded 4 = .ok (.ireturn, 1) := by decide +kernel
theorem dX0_has_0 : decode cX0_has 0 = .ok (.iload_n 1, 1) := by decide +kernel
theorem dX0_has_1 : decode cX0_has 1 = .ok (.ifCond .lt 21, 3) := by decide +kernel
theorem dX0_has_4 : decode cX0_has 4 = .ok (.iload_n 1, 1) := by decide +kernel
theorem dX0_has_5 : decode cX0_has 5 = .ok (.aload_n 0, 1) := by decide +kernel
theorem dX0_has_6 : decode cX0_has 6 = .ok (.getfield 42, 3) := by decide +kernel
theorem dX0_has_9 : decode cX0_has 9 = .ok (.if_icmp .ge 13, 3) := by decide +kernel
theorem dX0_has_12 : decode cX0_has 12 = .ok (.iload_n 1, 1) := by decide +kernel
theorem dX0_has_13 : decode cX0_has 13 = .ok (.bipush 24, 2) := by decide +kernel
theorem dX0_has_15 : decode cX0_has 15 = .ok (.if_icmp .ge 7, 3) := by decide +kernel
theorem dX0_has_18 : decode cX0_has 18 = .ok (.iconst 1, 1) := by decide +kernel
theorem dX0_has_19 : decode cX0_has 19 = .ok (.goto 4, 3) := by decide +kernel
theorem dX0_has_22 : decode cX0_has 22 = .ok (.iconst 0, 1) := by decide +kernel
theorem dX0_has_23 : decode cX0_has 23 = .ok (.ireturn, 1) := by decide +kernel
theorem dX0_find_0 : decode cX0_find 0 = .ok (.iconst 0, 1) := by decide +kernel
theorem dX0_find_1 : decode cX0_find 1 = .ok (.istore 4, 2) := by decide +kernel
theorem dX0_find_3 : decode cX0_find 3 = .ok (.iload 4, 2) := by decide +kernel
theorem dX0_find_5 : decode cX0_find 5 = .ok (.aload_n 0, 1) := by decide +kernel
theorem dX0_find_6 : decode cX0_find 6 = .ok (.getfield 42, 3) := by decide +kernel
theorem dX0_find_9 : decode cX0_find 9 = .ok (.if_icmp .ge 42, 3) := by decide +kernel
theorem dX0_find_12 : decode cX0_find 12 = .ok (.iload 4, 2) := by decide +kernel
theorem dX0_find_14 : decode cX0_find 14 = .ok (.bipush 24, 2) := by decide +kernel
theorem dX0_find_16 : decode cX0_find 16 = .ok (.if_icmp .ge 35, 3) := by decide +kernel
theorem dX0_find_19 : decode cX0_find 19 = .ok (.aload_n 0, 1) := by decide +kernel
theorem dX0_find_20 : decode cX0_find 20 = .ok (.getfield 9, 3) := by decide +kernel
theorem dX0_find_23 : decode cX0_find 23 = .ok (.iload 4, 2) := by decide +kernel
theorem dX0_find_25 : decode cX0_find 25 = .ok (.laload, 1) := by decide +kernel
theorem dX0_find_26 : decode cX0_find 26 = .ok (.lload_n 1, 1) := by decide +kernel
theorem dX0_find_27 : decode cX0_find 27 = .ok (.lcmp, 1) := by decide +kernel
theorem dX0_find_28 : decode cX0_find 28 = .ok (.ifCond .ne 17, 3) := by decide +kernel
theorem dX0_find_31 : decode cX0_find 31 = .ok (.aload_n 0, 1) := by decide +kernel
theorem dX0_find_32 : decode cX0_find 32 = .ok (.getfield 15, 3) := by decide +kernel
theorem dX0_find_35 : decode cX0_find 35 = .ok (.iload 4, 2) := by decide +kernel
theorem dX0_find_37 : decode cX0_find 37 = .ok (.iaload, 1) := by decide +kernel
theorem dX0_find_38 : decode cX0_find 38 = .ok (.iload_n 3, 1) := by decide +kernel
theorem dX0_find_39 : decode cX0_find 39 = .ok (.if_icmp .ne 6, 3) := by decide +kernel
theorem dX0_find_42 : decode cX0_find 42 = .ok (.iload 4, 2) := by decide +kernel
theorem dX0_find_44 : decode cX0_find 44 = .ok (.ireturn, 1) := by decide +kernel
theorem dX0_find_45 : decode cX0_find 45 = .ok (.iinc 4 1, 3) := by decide +kernel
theorem dX0_find_48 : decode cX0_find 48 = .ok (.goto (-45), 3) := by decide +kernel
theorem dX0_find_51 : decode cX0_find 51 = .ok (.iconst (-1), 1) := by decide +kernel
theorem dX0_find_52 : decode cX0_find 52 = .ok (.ireturn, 1) := by decide +kernel
theorem dX0_nodeFor_0 : decode cX0_nodeFor 0 = .ok (.aload_n 0, 1) := by decide +kernel
theorem dX0_nodeFor_1 : decode cX0_nodeFor 1 = .ok (.lload_n 1, 1) := by decide +kernel
theorem dX0_nodeFor_2 : decode cX0_nodeFor 2 = .ok (.iload_n 3, 1) := by decide +kernel
theorem dX0_nodeFor_3 : decode cX0_nodeFor 3 = .ok (.invokevirtual 65, 3) := by decide +kernel
theorem dX0_nodeFor_6 : decode cX0_nodeFor 6 = .ok (.istore 5, 2) := by decide +kernel
theorem dX0_nodeFor_8 : decode cX0_nodeFor 8 = .ok (.iload 5, 2) := by decide +kernel
theorem dX0_nodeFor_10 : decode cX0_nodeFor 10 = .ok (.iconst (-1), 1) := by decide +kernel
theorem dX0_nodeFor_11 : decode cX0_nodeFor 11 = .ok (.if_icmp .eq 6, 3) := by decide +kernel
theorem dX0_nodeFor_14 : decode cX0_nodeFor 14 = .ok (.iload 5, 2) := by decide +kernel
theorem dX0_nodeFor_16 : decode cX0_nodeFor 16 = .ok (.ireturn, 1) := by decide +kernel
theorem dX0_nodeFor_17 : decode cX0_nodeFor 17 = .ok (.iload 4, 2) := by decide +kernel
theorem dX0_nodeFor_19 : decode cX0_nodeFor 19 = .ok (.ifCond .eq 7, 3) := by decide +kernel
theorem dX0_nodeFor_22 : decode cX0_nodeFor 22 = .ok (.iconst (-1), 1) := by decide +kernel
theorem dX0_nodeFor_23 : decode cX0_nodeFor 23 = .ok (.goto 9, 3) := by decide +kernel
theorem dX0_nodeFor_26 : decode cX0_nodeFor 26 = .ok (.aload_n 0, 1) := by decide +kernel
theorem dX0_nodeFor_27 : decode cX0_nodeFor 27 = .ok (.lload_n 1, 1) := by decide +kernel
theorem dX0_nodeFor_28 : decode cX0_nodeFor 28 = .ok (.iconst (-1), 1) := by decide +kernel
theorem dX0_nodeFor_29 : decode cX0_nodeFor 29 = .ok (.invokevirtual 65, 3) := by decide +kernel
theorem dX0_nodeFor_32 : decode cX0_nodeFor 32 = .ok (.istore 6, 2) := by decide +kernel
theorem dX0_nodeFor_34 : decode cX0_nodeFor 34 = .ok (.iload 6, 2) := by decide +kernel
theorem dX0_nodeFor_36 : decode cX0_nodeFor 36 = .ok (.iconst (-1), 1) := by decide +kernel
theorem dX0_nodeFor_37 : decode cX0_nodeFor 37 = .ok (.if_icmp .eq 6, 3) := by decide +kernel
theorem dX0_nodeFor_40 : decode cX0_nodeFor 40 = .ok (.iload 6, 2) := by decide +kernel
theorem dX0_nodeFor_42 : decode cX0_nodeFor 42 = .ok (.ireturn, 1) := by decide +kernel
theorem dX0_nodeFor_43 : decode cX0_nodeFor 43 = .ok (.aload_n 0, 1) := by decide +kernel
theorem dX0_nodeFor_44 : decode cX0_nodeFor 44 = .ok (.getfield 42, 3) := by decide +kernel
theorem dX0_nodeFor_47 : decode cX0_nodeFor 47 = .ok (.ifCond .lt 12, 3) := by decide +kernel
theorem dX0_nodeFor_50 : decode cX0_nodeFor 50 = .ok (.aload_n 0, 1) := by decide +kernel
theorem dX0_nodeFor_51 : decode cX0_nodeFor 51 = .ok (.getfield 42, 3) := by decide +kernel
theorem dX0_nodeFor_54 : decode cX0_nodeFor 54 = .ok (.bipush 24, 2) := by decide +kernel
theorem dX0_nodeFor_56 : decode cX0_nodeFor 56 = .ok (.if_icmp .lt 10, 3) := by decide +kernel
theorem dX0_nodeFor_59 : decode cX0_nodeFor 59 = .ok (.aload_n 0, 1) := by decide +kernel
theorem dX0_nodeFor_60 : decode cX0_nodeFor 60 = .ok (.iconst 1, 1) := by decide +kernel
theorem dX0_nodeFor_61 : decode cX0_nodeFor 61 = .ok (.putfield 46, 3) := by decide +kernel
theorem dX0_nodeFor_64 : decode cX0_nodeFor 64 = .ok (.iconst (-1), 1) := by decide +kernel
theorem dX0_nodeFor_65 : decode cX0_nodeFor 65 = .ok (.ireturn, 1) := by decide +kernel
theorem dX0_nodeFor_66 : decode cX0_nodeFor 66 = .ok (.aload_n 0, 1) := by decide +kernel
theorem dX0_nodeFor_67 : decode cX0_nodeFor 67 = .ok (.getfield 9, 3) := by decide +kernel
theorem dX0_nodeFor_70 : decode cX0_nodeFor 70 = .ok (.aload_n 0, 1) := by decide +kernel
theorem dX0_nodeFor_71 : decode cX0_nodeFor 71 = .ok (.getfield 42, 3) := by decide +kernel
theorem dX0_nodeFor_74 : decode cX0_nodeFor 74 = .ok (.lload_n 1, 1) := by decide +kernel
theorem dX0_nodeFor_75 : decode cX0_nodeFor 75 = .ok (.lastore, 1) := by decide +kernel
theorem dX0_nodeFor_76 : decode cX0_nodeFor 76 = .ok (.aload_n 0, 1) := by decide +kernel
theorem dX0_nodeFor_77 : decode cX0_nodeFor 77 = .ok (.getfield 15, 3) := by decide +kernel
theorem dX0_nodeFor_80 : decode cX0_nodeFor 80 = .ok (.aload_n 0, 1) := by decide +kernel
theorem dX0_nodeFor_81 : decode cX0_nodeFor 81 = .ok (.getfield 42, 3) := by decide +kernel
theorem dX0_nodeFor_84 : decode cX0_nodeFor 84 = .ok (.iload 4, 2) := by decide +kernel
theorem dX0_nodeFor_86 : decode cX0_nodeFor 86 = .ok (.ifCond .eq 7, 3) := by decide +kernel
theorem dX0_nodeFor_89 : decode cX0_nodeFor 89 = .ok (.iload_n 3, 1) := by decide +kernel
theorem dX0_nodeFor_90 : decode cX0_nodeFor 90 = .ok (.goto 4, 3) := by decide +kernel
theorem dX0_nodeFor_93 : decode cX0_nodeFor 93 = .ok (.iconst (-1), 1) := by decide +kernel
theorem dX0_nodeFor_94 : decode cX0_nodeFor 94 = .ok (.iastore, 1) := by decide +kernel
theorem dX0_nodeFor_95 : decode cX0_nodeFor 95 = .ok (.lload_n 1, 1) := by decide +kernel
theorem dX0_nodeFor_96 : decode cX0_nodeFor 96 = .ok (.iconst 0, 1) := by decide +kernel
theorem dX0_nodeFor_97 : decode cX0_nodeFor 97 = .ok (.invokestatic 69, 3) := by decide +kernel
theorem dX0_nodeFor_100 : decode cX0_nodeFor 100 = .ok (.bipush 46, 2) := by decide +kernel
theorem dX0_nodeFor_102 : decode cX0_nodeFor 102 = .ok (.if_icmp .ne 19, 3) := by decide +kernel
theorem dX0_nodeFor_105 : decode cX0_nodeFor 105 = .ok (.aload_n 0, 1) := by decide +kernel
theorem dX0_nodeFor_106 : decode cX0_nodeFor 106 = .ok (.dup, 1) := by decide +kernel
theorem dX0_nodeFor_107 : decode cX0_nodeFor 107 = .ok (.getfield 50, 3) := by decide +kernel
theorem dX0_nodeFor_110 : decode cX0_nodeFor 110 = .ok (.aload_n 0, 1) := by decide +kernel
theorem dX0_nodeFor_111 : decode cX0_nodeFor 111 = .ok (.getfield 42, 3) := by decide +kernel
theorem dX0_nodeFor_114 : decode cX0_nodeFor 114 = .ok (.invokestatic 72, 3) := by decide +kernel
theorem dX0_nodeFor_117 : decode cX0_nodeFor 117 = .ok (.ior, 1) := by decide +kernel
theorem dX0_nodeFor_118 : decode cX0_nodeFor 118 = .ok (.putfield 50, 3) := by decide +kernel
theorem dX0_nodeFor_121 : decode cX0_nodeFor 121 = .ok (.aload_n 0, 1) := by decide +kernel
theorem dX0_nodeFor_122 : decode cX0_nodeFor 122 = .ok (.dup, 1) := by decide +kernel
theorem dX0_nodeFor_123 : decode cX0_nodeFor 123 = .ok (.getfield 42, 3) := by decide +kernel
theorem dX0_nodeFor_126 : decode cX0_nodeFor 126 = .ok (.iconst 1, 1) := by decide +kernel
theorem dX0_nodeFor_127 : decode cX0_nodeFor 127 = .ok (.iadd, 1) := by decide +kernel
theorem dX0_nodeFor_128 : decode cX0_nodeFor 128 = .ok (.putfield 42, 3) := by decide +kernel
theorem dX0_nodeFor_131 : decode cX0_nodeFor 131 = .ok (.aload_n 0, 1) := by decide +kernel
theorem dX0_nodeFor_132 : decode cX0_nodeFor 132 = .ok (.getfield 42, 3) := by decide +kernel
theorem dX0_nodeFor_135 : decode cX0_nodeFor 135 = .ok (.iconst 1, 1) := by decide +kernel
theorem dX0_nodeFor_136 : decode cX0_nodeFor 136 = .ok (.isub, 1) := by decide +kernel
theorem dX0_nodeFor_137 : decode cX0_nodeFor 137 = .ok (.ireturn, 1) := by decide +kernel
theorem dX0_addLink_0 : decode cX0_addLink 0 = .ok (.aload_n 0, 1) := by decide +kernel
theorem dX0_addLink_1 : decode cX0_addLink 1 = .ok (.iload_n 1, 1) := by decide +kernel
theorem dX0_addLink_2 : decode cX0_addLink 2 = .ok (.invokevirtual 76, 3) := by decide +kernel
theorem dX0_addLink_5 : decode cX0_addLink 5 = .ok (.ifCond .eq 16, 3) := by decide +kernel
theorem dX0_addLink_8 : decode cX0_addLink 8 = .ok (.aload_n 0, 1) := by decide +kernel
theorem dX0_addLink_9 : decode cX0_addLink 9 = .ok (.iload_n 2, 1) := by decide +kernel
theorem dX0_addLink_10 : decode cX0_addLink 10 = .ok (.invokevirtual 76, 3) := by decide +kernel
theorem dX0_addLink_13 : decode cX0_addLink 13 = .ok (.ifCond .eq 8, 3) := by decide +kernel
theorem dX0_addLink_16 : decode cX0_addLink 16 = .ok (.iload_n 1, 1) := by decide +kernel
theorem dX0_addLink_17 : decode cX0_addLink 17 = .ok (.iload_n 2, 1) := by decide +kernel
theorem dX0_addLink_18 : decode cX0_addLink 18 = .ok (.if_icmp .ne 4, 3) := by decide +kernel
theorem dX0_addLink_21 : decode cX0_addLink 21 = .ok (.return_, 1) := by decide +kernel
theorem dX0_addLink_22 : decode cX0_addLink 22 = .ok (.aload_n 0, 1) := by decide +kernel
theorem dX0_addLink_23 : decode cX0_addLink 23 = .ok (.getfield 22, 3) := by decide +kernel
theorem dX0_addLink_26 : decode cX0_addLink 26 = .ok (.iload_n 1, 1) := by decide +kernel
theorem dX0_addLink_27 : decode cX0_addLink 27 = .ok (.iaload, 1) := by decide +kernel
theorem dX0_addLink_28 : decode cX0_addLink 28 = .ok (.iload_n 2, 1) := by decide +kernel
theorem dX0_addLink_29 : decode cX0_addLink 29 = .ok (.invokestatic 80, 3) := by decide +kernel
theorem dX0_addLink_32 : decode cX0_addLink 32 = .ok (.istore 5, 2) := by decide +kernel
theorem dX0_addLink_34 : decode cX0_addLink 34 = .ok (.iload 5, 2) := by decide +kernel
theorem dX0_addLink_36 : decode cX0_addLink 36 = .ok (.ifCond .eq 16, 3) := by decide +kernel
theorem dX0_addLink_39 : decode cX0_addLink 39 = .ok (.aload_n 0, 1) := by decide +kernel
theorem dX0_addLink_40 : decode cX0_addLink 40 = .ok (.getfield 36, 3) := by decide +kernel
theorem dX0_addLink_43 : decode cX0_addLink 43 = .ok (.iload_n 1, 1) := by decide +kernel
theorem dX0_addLink_44 : decode cX0_addLink 44 = .ok (.aaload, 1) := by decide +kernel
theorem dX0_addLink_45 : decode cX0_addLink 45 = .ok (.iload_n 2, 1) := by decide +kernel
theorem dX0_addLink_46 : decode cX0_addLink 46 = .ok (.iaload, 1) := by decide +kernel
theorem dX0_addLink_47 : decode cX0_addLink 47 = .ok (.iload_n 3, 1) := by decide +kernel
theorem dX0_addLink_48 : decode cX0_addLink 48 = .ok (.if_icmp .ge 4, 3) := by decide +kernel
theorem dX0_addLink_51 : decode cX0_addLink 51 = .ok (.return_, 1) := by decide +kernel
theorem dX0_addLink_52 : decode cX0_addLink 52 = .ok (.iload 5, 2) := by decide +kernel
theorem dX0_addLink_54 : decode cX0_addLink 54 = .ok (.ifCond .eq 15, 3) := by decide +kernel
theorem dX0_addLink_57 : decode cX0_addLink 57 = .ok (.aload_n 0, 1) := by decide +kernel
theorem dX0_addLink_58 : decode cX0_addLink 58 = .ok (.getfield 36, 3) := by decide +kernel
theorem dX0_addLink_61 : decode cX0_addLink 61 = .ok (.iload_n 1, 1) := by decide +kernel
theorem dX0_addLink_62 : decode cX0_addLink 62 = .ok (.aaload, 1) := by decide +kernel
theorem dX0_addLink_63 : decode cX0_addLink 63 = .ok (.iload_n 2, 1) := by decide +kernel
theorem dX0_addLink_64 : decode cX0_addLink 64 = .ok (.iaload, 1) := by decide +kernel
theorem dX0_addLink_65 : decode cX0_addLink 65 = .ok (.iload_n 3, 1) := by decide +kernel
theorem dX0_addLink_66 : decode cX0_addLink 66 = .ok (.if_icmp .le 38, 3) := by decide +kernel
theorem dX0_addLink_69 : decode cX0_addLink 69 = .ok (.aload_n 0, 1) := by decide +kernel
theorem dX0_addLink_70 : decode cX0_addLink 70 = .ok (.getfield 22, 3) := by decide +kernel
theorem dX0_addLink_73 : decode cX0_addLink 73 = .ok (.iload_n 1, 1) := by decide +kernel
theorem dX0_addLink_74 : decode cX0_addLink 74 = .ok (.dup2, 1) := by decide +kernel
theorem dX0_addLink_75 : decode cX0_addLink 75 = .ok (.iaload, 1) := by decide +kernel
theorem dX0_addLink_76 : decode cX0_addLink 76 = .ok (.iload_n 2, 1) := by decide +kernel
theorem dX0_addLink_77 : decode cX0_addLink 77 = .ok (.invokestatic 72, 3) := by decide +kernel
theorem dX0_addLink_80 : decode cX0_addLink 80 = .ok (.ior, 1) := by decide +kernel
theorem dX0_addLink_81 : decode cX0_addLink 81 = .ok (.iastore, 1) := by decide +kernel
theorem dX0_addLink_82 : decode cX0_addLink 82 = .ok (.aload_n 0, 1) := by decide +kernel
theorem dX0_addLink_83 : decode cX0_addLink 83 = .ok (.getfield 36, 3) := by decide +kernel
theorem dX0_addLink_86 : decode cX0_addLink 86 = .ok (.iload_n 1, 1) := by decide +kernel
theorem dX0_addLink_87 : decode cX0_addLink 87 = .ok (.aaload, 1) := by decide +kernel
theorem dX0_addLink_88 : decode cX0_addLink 88 = .ok (.iload_n 2, 1) := by decide +kernel
theorem dX0_addLink_89 : decode cX0_addLink 89 = .ok (.iload_n 3, 1) := by decide +kernel
theorem dX0_addLink_90 : decode cX0_addLink 90 = .ok (.iastore, 1) := by decide +kernel
theorem dX0_addLink_91 : decode cX0_addLink 91 = .ok (.aload_n 0, 1) := by decide +kernel
theorem dX0_addLink_92 : decode cX0_addLink 92 = .ok (.getfield 25, 3) := by decide +kernel
theorem dX0_addLink_95 : decode cX0_addLink 95 = .ok (.iload_n 1, 1) := by decide +kernel
theorem dX0_addLink_96 : decode cX0_addLink 96 = .ok (.dup2, 1) := by decide +kernel
theorem dX0_addLink_97 : decode cX0_addLink 97 = .ok (.iaload, 1) := by decide +kernel
theorem dX0_addLink_98 : decode cX0_addLink 98 = .ok (.iload_n 2, 1) := by decide +kernel
theorem dX0_addLink_99 : decode cX0_addLink 99 = .ok (.invokestatic 72, 3) := by decide +kernel
theorem dX0_addLink_102 : decode cX0_addLink 102 = .ok (.ior, 1) := by decide +kernel
theorem dX0_addLink_103 : decode cX0_addLink 103 = .ok (.iastore, 1) := by decide +kernel
theorem dX0_addLink_104 : decode cX0_addLink 104 = .ok (.iload 4, 2) := by decide +kernel
theorem dX0_addLink_106 : decode cX0_addLink 106 = .ok (.ifCond .ne 18, 3) := by decide +kernel
theorem dX0_addLink_109 : decode cX0_addLink 109 = .ok (.aload_n 0, 1) := by decide +kernel
theorem dX0_addLink_110 : decode cX0_addLink 110 = .ok (.getfield 25, 3) := by decide +kernel
theorem dX0_addLink_113 : decode cX0_addLink 113 = .ok (.iload_n 1, 1) := by decide +kernel
theorem dX0_addLink_114 : decode cX0_addLink 114 = .ok (.dup2, 1) := by decide +kernel
theorem dX0_addLink_115 : decode cX0_addLink 115 = .ok (.iaload, 1) := by decide +kernel
theorem dX0_addLink_116 : decode cX0_addLink 116 = .ok (.iload_n 2, 1) := by decide +kernel
theorem dX0_addLink_117 : decode cX0_addLink 117 = .ok (.invokestatic 72, 3) := by decide +kernel
theorem dX0_addLink_120 : decode cX0_addLink 120 = .ok (.iconst (-1), 1) := by decide +kernel
theorem dX0_addLink_121 : decode cX0_addLink 121 = .ok (.ixor, 1) := by decide +kernel
theorem dX0_addLink_122 : decode cX0_addLink 122 = .ok (.iand, 1) := by decide +kernel
theorem dX0_addLink_123 : decode cX0_addLink 123 = .ok (.iastore, 1) := by decide +kernel
theorem dX0_addLink_124 : decode cX0_addLink 124 = .ok (.return_, 1) := by decide +kernel
theorem dX0_addAlias_0 : decode cX0_addAlias 0 = .ok (.aload_n 0, 1) := by decide +kernel
theorem dX0_addAlias_1 : decode cX0_addAlias 1 = .ok (.iload_n 1, 1) := by decide +kernel
theorem dX0_addAlias_2 : decode cX0_addAlias 2 = .ok (.invokevirtual 76, 3) := by decide +kernel
theorem dX0_addAlias_5 : decode cX0_addAlias 5 = .ok (.ifCond .eq 42, 3) := by decide +kernel
theorem dX0_addAlias_8 : decode cX0_addAlias 8 = .ok (.aload_n 0, 1) := by decide +kernel
theorem dX0_addAlias_9 : decode cX0_addAlias 9 = .ok (.iload_n 2, 1) := by decide +kernel
theorem dX0_addAlias_10 : decode cX0_addAlias 10 = .ok (.invokevirtual 76, 3) := by decide +kernel
theorem dX0_addAlias_13 : decode cX0_addAlias 13 = .ok (.ifCond .eq 34, 3) := by decide +kernel
theorem dX0_addAlias_16 : decode cX0_addAlias 16 = .ok (.iload_n 1, 1) := by decide +kernel
theorem dX0_addAlias_17 : decode cX0_addAlias 17 = .ok (.iload_n 2, 1) := by decide +kernel
theorem dX0_addAlias_18 : decode cX0_addAlias 18 = .ok (.if_icmp .eq 29, 3) := by decide +kernel
theorem dX0_addAlias_21 : decode cX0_addAlias 21 = .ok (.aload_n 0, 1) := by decide +kernel
theorem dX0_addAlias_22 : decode cX0_addAlias 22 = .ok (.getfield 19, 3) := by decide +kernel
theorem dX0_addAlias_25 : decode cX0_addAlias 25 = .ok (.iload_n 1, 1) := by decide +kernel
theorem dX0_addAlias_26 : decode cX0_addAlias 26 = .ok (.dup2, 1) := by decide +kernel
theorem dX0_addAlias_27 : decode cX0_addAlias 27 = .ok (.iaload, 1) := by decide +kernel
theorem dX0_addAlias_28 : decode cX0_addAlias 28 = .ok (.iload_n 2, 1) := by decide +kernel
theorem dX0_addAlias_29 : decode cX0_addAlias 29 = .ok (.invokestatic 72, 3) := by decide +kernel
theorem dX0_addAlias_32 : decode cX0_addAlias 32 = .ok (.ior, 1) := by decide +kernel
theorem dX0_addAlias_33 : decode cX0_addAlias 33 = .ok (.iastore, 1) := by decide +kernel
theorem dX0_addAlias_34 : decode cX0_addAlias 34 = .ok (.aload_n 0, 1) := by decide +kernel
theorem dX0_addAlias_35 : decode cX0_addAlias 35 = .ok (.getfield 19, 3) := by decide +kernel
theorem dX0_addAlias_38 : decode cX0_addAlias 38 = .ok (.iload_n 2, 1) := by decide +kernel
theorem dX0_addAlias_39 : decode cX0_addAlias 39 = .ok (.dup2, 1) := by decide +kernel
theorem dX0_addAlias_40 : decode cX0_addAlias 40 = .ok (.iaload, 1) := by decide +kernel
theorem dX0_addAlias_41 : decode cX0_addAlias 41 = .ok (.iload_n 1, 1) := by decide +kernel
theorem dX0_addAlias_42 : decode cX0_addAlias 42 = .ok (.invokestatic 72, 3) := by decide +kernel
theorem dX0_addAlias_45 : decode cX0_addAlias 45 = .ok (.ior, 1) := by decide +kernel
theorem dX0_addAlias_46 : decode cX0_addAlias 46 = .ok (.iastore, 1) := by decide +kernel
theorem dX0_addAlias_47 : decode cX0_addAlias 47 = .ok (.return_, 1) := by decide +kernel
theorem dX0_addMembers_0 : decode cX0_addMembers 0 = .ok (.aload_n 0, 1) := by decide +kernel
theorem dX0_addMembers_1 : decode cX0_addMembers 1 = .ok (.iload_n 1, 1) := by decide +kernel
theorem dX0_addMembers_2 : decode cX0_addMembers 2 = .ok (.invokevirtual 76, 3) := by decide +kernel
theorem dX0_addMembers_5 : decode cX0_addMembers 5 = .ok (.ifCond .ne 4, 3) := by decide +kernel
theorem dX0_addMembers_8 : decode cX0_addMembers 8 = .ok (.return_, 1) := by decide +kernel
theorem dX0_addMembers_9 : decode cX0_addMembers 9 = .ok (.aload_n 0, 1) := by decide +kernel
theorem dX0_addMembers_10 : decode cX0_addMembers 10 = .ok (.dup, 1) := by decide +kernel
theorem dX0_addMembers_11 : decode cX0_addMembers 11 = .ok (.getfield 53, 3) := by decide +kernel
theorem dX0_addMembers_14 : decode cX0_addMembers 14 = .ok (.iload_n 1, 1) := by decide +kernel
theorem dX0_addMembers_15 : decode cX0_addMembers 15 = .ok (.invokestatic 72, 3) := by decide +kernel
theorem dX0_addMembers_18 : decode cX0_addMembers 18 = .ok (.ior, 1) := by decide +kernel
theorem dX0_addMembers_19 : decode cX0_addMembers 19 = .ok (.putfield 53, 3) := by decide +kernel
theorem dX0_addMembers_22 : decode cX0_addMembers 22 = .ok (.iload 4, 2) := by decide +kernel
theorem dX0_addMembers_24 : decode cX0_addMembers 24 = .ok (.ifCond .ne 16, 3) := by decide +kernel
theorem dX0_addMembers_27 : decode cX0_addMembers 27 = .ok (.aload_n 0, 1) := by decide +kernel
theorem dX0_addMembers_28 : decode cX0_addMembers 28 = .ok (.dup, 1) := by decide +kernel
theorem dX0_addMembers_29 : decode cX0_addMembers 29 = .ok (.getfield 56, 3) := by decide +kernel
theorem dX0_addMembers_32 : decode cX0_addMembers 32 = .ok (.iload_n 1, 1) := by decide +kernel
theorem dX0_addMembers_33 : decode cX0_addMembers 33 = .ok (.invokestatic 72, 3) := by decide +kernel
theorem dX0_addMembers_36 : decode cX0_addMembers 36 = .ok (.ior, 1) := by decide +kernel
theorem dX0_addMembers_37 : decode cX0_addMembers 37 = .ok (.putfield 56, 3) := by decide +kernel
theorem dX0_addMembers_40 : decode cX0_addMembers 40 = .ok (.iconst 0, 1) := by decide +kernel
theorem dX0_addMembers_41 : decode cX0_addMembers 41 = .ok (.istore 5, 2) := by decide +kernel
theorem dX0_addMembers_43 : decode cX0_addMembers 43 = .ok (.iload 5, 2) := by decide +kernel
theorem dX0_addMembers_45 : decode cX0_addMembers 45 = .ok (.aload_n 0, 1) := by decide +kernel
theorem dX0_addMembers_46 : decode cX0_addMembers 46 = .ok (.getfield 42, 3) := by decide +kernel
theorem dX0_addMembers_49 : decode cX0_addMembers 49 = .ok (.if_icmp .ge 89, 3) := by decide +kernel
theorem dX0_addMembers_52 : decode cX0_addMembers 52 = .ok (.iload 5, 2) := by decide +kernel
theorem dX0_addMembers_54 : decode cX0_addMembers 54 = .ok (.bipush 24, 2) := by decide +kernel
theorem dX0_addMembers_56 : decode cX0_addMembers 56 = .ok (.if_icmp .ge 82, 3) := by decide +kernel
theorem dX0_addMembers_59 : decode cX0_addMembers 59 = .ok (.iload 5, 2) := by decide +kernel
theorem dX0_addMembers_61 : decode cX0_addMembers 61 = .ok (.iload_n 1, 1) := by decide +kernel
theorem dX0_addMembers_62 : decode cX0_addMembers 62 = .ok (.if_icmp .eq 70, 3) := by decide +kernel
theorem dX0_addMembers_65 : decode cX0_addMembers 65 = .ok (.iload_n 2, 1) := by decide +kernel
theorem dX0_addMembers_66 : decode cX0_addMembers 66 = .ok (.iload 5, 2) := by decide +kernel
theorem dX0_addMembers_68 : decode cX0_addMembers 68 = .ok (.invokestatic 80, 3) := by decide +kernel
theorem dX0_addMembers_71 : decode cX0_addMembers 71 = .ok (.ifCond .eq 61, 3) := by decide +kernel
theorem dX0_addMembers_74 : decode cX0_addMembers 74 = .ok (.aload_n 0, 1) := by decide +kernel
theorem dX0_addMembers_75 : decode cX0_addMembers 75 = .ok (.getfield 31, 3) := by decide +kernel
theorem dX0_addMembers_78 : decode cX0_addMembers 78 = .ok (.iload_n 1, 1) := by decide +kernel
theorem dX0_addMembers_79 : decode cX0_addMembers 79 = .ok (.iaload, 1) := by decide +kernel
theorem dX0_addMembers_80 : decode cX0_addMembers 80 = .ok (.iload 5, 2) := by decide +kernel
theorem dX0_addMembers_82 : decode cX0_addMembers 82 = .ok (.invokestatic 80, 3) := by decide +kernel
theorem dX0_addMembers_85 : decode cX0_addMembers 85 = .ok (.istore 6, 2) := by decide +kernel
theorem dX0_addMembers_87 : decode cX0_addMembers 87 = .ok (.aload_n 0, 1) := by decide +kernel
theorem dX0_addMembers_88 : decode cX0_addMembers 88 = .ok (.getfield 39, 3) := by decide +kernel
theorem dX0_addMembers_91 : decode cX0_addMembers 91 = .ok (.iload_n 1, 1) := by decide +kernel
theorem dX0_addMembers_92 : decode cX0_addMembers 92 = .ok (.aaload, 1) := by decide +kernel
theorem dX0_addMembers_93 : decode cX0_addMembers 93 = .ok (.iload 5, 2) := by decide +kernel
theorem dX0_addMembers_95 : decode cX0_addMembers 95 = .ok (.iload 6, 2) := by decide +kernel
theorem dX0_addMembers_97 : decode cX0_addMembers 97 = .ok (.ifCond .eq 19, 3) := by decide +kernel
theorem dX0_addMembers_100 : decode cX0_addMembers 100 = .ok (.aload_n 0, 1) := by decide +kernel
theorem dX0_addMembers_101 : decode cX0_addMembers 101 = .ok (.getfield 39, 3) := by decide +kernel
theorem dX0_addMembers_104 : decode cX0_addMembers 104 = .ok (.iload_n 1, 1) := by decide +kernel
theorem dX0_addMembers_105 : decode cX0_addMembers 105 = .ok (.aaload, 1) := by decide +kernel
theorem dX0_addMembers_106 : decode cX0_addMembers 106 = .ok (.iload 5, 2) := by decide +kernel
theorem dX0_addMembers_108 : decode cX0_addMembers 108 = .ok (.iaload, 1) := by decide +kernel
theorem dX0_addMembers_109 : decode cX0_addMembers 109 = .ok (.iload_n 3, 1) := by decide +kernel
theorem dX0_addMembers_110 : decode cX0_addMembers 110 = .ok (.invokestatic 84, 3) := by decide +kernel
theorem dX0_addMembers_113 : decode cX0_addMembers 113 = .ok (.goto 4, 3) := by decide +kernel
theorem dX0_addMembers_116 : decode cX0_addMembers 116 = .ok (.iload_n 3, 1) := by decide +kernel
theorem dX0_addMembers_117 : decode cX0_addMembers 117 = .ok (.iastore, 1) := by decide +kernel
theorem dX0_addMembers_118 : decode cX0_addMembers 118 = .ok (.aload_n 0, 1) := by decide +kernel
theorem dX0_addMembers_119 : decode cX0_addMembers 119 = .ok (.getfield 31, 3) := by decide +kernel
theorem dX0_addMembers_122 : decode cX0_addMembers 122 = .ok (.iload_n 1, 1) := by decide +kernel
theorem dX0_addMembers_123 : decode cX0_addMembers 123 = .ok (.dup2, 1) := by decide +kernel
theorem dX0_addMembers_124 : decode cX0_addMembers 124 = .ok (.iaload, 1) := by decide +kernel
theorem dX0_addMembers_125 : decode cX0_addMembers 125 = .ok (.iload 5, 2) := by decide +kernel
theorem dX0_addMembers_127 : decode cX0_addMembers 127 = .ok (.invokestatic 72, 3) := by decide +kernel
theorem dX0_addMembers_130 : decode cX0_addMembers 130 = .ok (.ior, 1) := by decide +kernel
theorem dX0_addMembers_131 : decode cX0_addMembers 131 = .ok (.iastore, 1) := by decide +kernel
theorem dX0_addMembers_132 : decode cX0_addMembers 132 = .ok (.iinc 5 1, 3) := by decide +kernel
theorem dX0_addMembers_135 : decode cX0_addMembers 135 = .ok (.goto (-92), 3) := by decide +kernel
theorem dX0_addMembers_138 : decode cX0_addMembers 138 = .ok (.return_, 1) := by decide +kernel
theorem dX0_gate_0 : decode cX0_gate 0 = .ok (.aload_n 0, 1) := by decide +kernel
theorem dX0_gate_1 : decode cX0_gate 1 = .ok (.dup, 1) := by decide +kernel
theorem dX0_gate_2 : decode cX0_gate 2 = .ok (.getfield 59, 3) := by decide +kernel
theorem dX0_gate_5 : decode cX0_gate 5 = .ok (.iload_n 1, 1) := by decide +kernel
theorem dX0_gate_6 : decode cX0_gate 6 = .ok (.invokestatic 72, 3) := by decide +kernel
theorem dX0_gate_9 : decode cX0_gate 9 = .ok (.ior, 1) := by decide +kernel
theorem dX0_gate_10 : decode cX0_gate 10 = .ok (.putfield 59, 3) := by decide +kernel
theorem dX0_gate_13 : decode cX0_gate 13 = .ok (.return_, 1) := by decide +kernel
theorem dX0_kill_0 : decode cX0_kill 0 = .ok (.aload_n 0, 1) := by decide +kernel
theorem dX0_kill_1 : decode cX0_kill 1 = .ok (.dup, 1) := by decide +kernel
theorem dX0_kill_2 : decode cX0_kill 2 = .ok (.getfield 62, 3) := by decide +kernel
theorem dX0_kill_5 : decode cX0_kill 5 = .ok (.iload_n 1, 1) := by decide +kernel
theorem dX0_kill_6 : decode cX0_kill 6 = .ok (.invokestatic 72, 3) := by decide +kernel
theorem dX0_kill_9 : decode cX0_kill 9 = .ok (.ior, 1) := by decide +kernel
theorem dX0_kill_10 : decode cX0_kill 10 = .ok (.putfield 62, 3) := by decide +kernel
theorem dX0_kill_13 : decode cX0_kill 13 = .ok (.return_, 1) := by decide +kernel
theorem dX0_killLink_0 : decode cX0_killLink 0 = .ok (.aload_n 0, 1) := by decide +kernel
theorem dX0_killLink_1 : decode cX0_killLink 1 = .ok (.iload_n 1, 1) := by decide +kernel
theorem dX0_killLink_2 : decode cX0_killLink 2 = .ok (.invokevirtual 76, 3) := by decide +kernel
theorem dX0_killLink_5 : decode cX0_killLink 5 = .ok (.ifCond .eq 16, 3) := by decide +kernel
theorem dX0_killLink_8 : decode cX0_killLink 8 = .ok (.aload_n 0, 1) := by decide +kernel
theorem dX0_killLink_9 : decode cX0_killLink 9 = .ok (.getfield 28, 3) := by decide +kernel
theorem dX0_killLink_12 : decode cX0_killLink 12 = .ok (.iload_n 1, 1) := by decide +kernel
theorem dX0_killLink_13 : decode cX0_killLink 13 = .ok (.dup2, 1) := by decide +kernel
theorem dX0_killLink_14 : decode cX0_killLink 14 = .ok (.iaload, 1) := by decide +kernel
theorem dX0_killLink_15 : decode cX0_killLink 15 = .ok (.iload_n 2, 1) := by decide +kernel
theorem dX0_killLink_16 : decode cX0_killLink 16 = .ok (.invokestatic 72, 3) := by decide +kernel
theorem dX0_killLink_19 : decode cX0_killLink 19 = .ok (.ior, 1) := by decide +kernel
theorem dX0_killLink_20 : decode cX0_killLink 20 = .ok (.iastore, 1) := by decide +kernel
theorem dX0_killLink_21 : decode cX0_killLink 21 = .ok (.return_, 1) := by decide +kernel
theorem dX0_nameOf_0 : decode cX0_nameOf 0 = .ok (.aload_n 0, 1) := by decide +kernel
theorem dX0_nameOf_1 : decode cX0_nameOf 1 = .ok (.iload_n 1, 1) := by decide +kernel
theorem dX0_nameOf_2 : decode cX0_nameOf 2 = .ok (.invokevirtual 76, 3) := by decide +kernel
theorem dX0_nameOf_5 : decode cX0_nameOf 5 = .ok (.ifCond .eq 12, 3) := by decide +kernel
theorem dX0_nameOf_8 : decode cX0_nameOf 8 = .ok (.aload_n 0, 1) := by decide +kernel
theorem dX0_nameOf_9 : decode cX0_nameOf 9 = .ok (.getfield 9, 3) := by decide +kernel
theorem dX0_nameOf_12 : decode cX0_nameOf 12 = .ok (.iload_n 1, 1) := by decide +kernel
theorem dX0_nameOf_13 : decode cX0_nameOf 13 = .ok (.laload, 1) := by decide +kernel
theorem dX0_nameOf_14 : decode cX0_nameOf 14 = .ok (.goto 4, 3) := by decide +kernel
theorem dX0_nameOf_17 : decode cX0_nameOf 17 = .ok (.lconst 0, 1) := by decide +kernel
theorem dX0_nameOf_18 : decode cX0_nameOf 18 = .ok (.lreturn, 1) := by decide +kernel
theorem dX0_isOwned_0 : decode cX0_isOwned 0 = .ok (.aload_n 0, 1) := by decide +kernel
theorem dX0_isOwned_1 : decode cX0_isOwned 1 = .ok (.iload_n 1, 1) := by decide +kernel
theorem dX0_isOwned_2 : decode cX0_isOwned 2 = .ok (.invokevirtual 76, 3) := by decide +kernel
theorem dX0_isOwned_5 : decode cX0_isOwned 5 = .ok (.ifCond .eq 17, 3) := by decide +kernel
theorem dX0_isOwned_8 : decode cX0_isOwned 8 = .ok (.aload_n 0, 1) := by decide +kernel
theorem dX0_isOwned_9 : decode cX0_isOwned 9 = .ok (.getfield 15, 3) := by decide +kernel
theorem dX0_isOwned_12 : decode cX0_isOwned 12 = .ok (.iload_n 1, 1) := by decide +kernel
theorem dX0_isOwned_13 : decode cX0_isOwned 13 = .ok (.iaload, 1) := by decide +kernel
theorem dX0_isOwned_14 : decode cX0_isOwned 14 = .ok (.iconst (-1), 1) := by decide +kernel
theorem dX0_isOwned_15 : decode cX0_isOwned 15 = .ok (.if_icmp .eq 7, 3) := by decide +kernel
theorem dX0_isOwned_18 : decode cX0_isOwned 18 = .ok (.iconst 1, 1) := by decide +kernel
theorem dX0_isOwned_19 : decode cX0_isOwned 19 = .ok (.goto 4, 3) := by decide +kernel
theorem dX0_isOwned_22 : decode cX0_isOwned 22 = .ok (.iconst 0, 1) := by decide +kernel
theorem dX0_isOwned_23 : decode cX0_isOwned 23 = .ok (.ireturn, 1) := by decide +kernel
theorem dX0_isDomain_0 : decode cX0_isDomain 0 = .ok (.aload_n 0, 1) := by decide +kernel
theorem dX0_isDomain_1 : decode cX0_isDomain 1 = .ok (.getfield 50, 3) := by decide +kernel
theorem dX0_isDomain_4 : decode cX0_isDomain 4 = .ok (.iload_n 1, 1) := by decide +kernel
theorem dX0_isDomain_5 : decode cX0_isDomain 5 = .ok (.invokestatic 80, 3) := by decide +kernel
theorem dX0_isDomain_8 : decode cX0_isDomain 8 = .ok (.ireturn, 1) := by decide +kernel
theorem dX0_kindOf_0 : decode cX0_kindOf 0 = .ok (.aload_n 0, 1) := by decide +kernel
theorem dX0_kindOf_1 : decode cX0_kindOf 1 = .ok (.getfield 50, 3) := by decide +kernel
theorem dX0_kindOf_4 : decode cX0_kindOf 4 = .ok (.iload_n 1, 1) := by decide +kernel
theorem dX0_kindOf_5 : decode cX0_kindOf 5 = .ok (.invokestatic 80, 3) := by decide +kernel
theorem dX0_kindOf_8 : decode cX0_kindOf 8 = .ok (.ifCond .eq 5, 3) := by decide +kernel
theorem dX0_kindOf_11 : decode cX0_kindOf 11 = .ok (.iconst 2, 1) := by decide +kernel
theorem dX0_kindOf_12 : decode cX0_kindOf 12 = .ok (.ireturn, 1) := by decide +kernel
theorem dX0_kindOf_13 : decode cX0_kindOf 13 = .ok (.aload_n 0, 1) := by decide +kernel
theorem dX0_kindOf_14 : decode cX0_kindOf 14 = .ok (.getfield 53, 3) := by decide +kernel
theorem dX0_kindOf_17 : decode cX0_kindOf 17 = .ok (.iload_n 1, 1) := by decide +kernel
theorem dX0_kindOf_18 : decode cX0_kindOf 18 = .ok (.invokestatic 80, 3) := by decide +kernel
theorem dX0_kindOf_21 : decode cX0_kindOf 21 = .ok (.ifCond .eq 7, 3) := by decide +kernel
theorem dX0_kindOf_24 : decode cX0_kindOf 24 = .ok (.iconst 1, 1) := by decide +kernel
theorem dX0_kindOf_25 : decode cX0_kindOf 25 = .ok (.goto 4, 3) := by decide +kernel
theorem dX0_kindOf_28 : decode cX0_kindOf 28 = .ok (.iconst 0, 1) := by decide +kernel
theorem dX0_kindOf_29 : decode cX0_kindOf 29 = .ok (.ireturn, 1) := by decide +kernel
theorem dX0_isAlias_0 : decode cX0_isAlias 0 = .ok (.aload_n 0, 1) := by decide +kernel
theorem dX0_isAlias_1 : decode cX0_isAlias 1 = .ok (.iload_n 1, 1) := by decide +kernel
theorem dX0_isAlias_2 : decode cX0_isAlias 2 = .ok (.invokevirtual 76, 3) := by decide +kernel
theorem dX0_isAlias_5 : decode cX0_isAlias 5 = .ok (.ifCond .eq 20, 3) := by decide +kernel
theorem dX0_isAlias_8 : decode cX0_isAlias 8 = .ok (.aload_n 0, 1) := by decide +kernel
theorem dX0_isAlias_9 : decode cX0_isAlias 9 = .ok (.getfield 19, 3) := by decide +kernel
theorem dX0_isAlias_12 : decode cX0_isAlias 12 = .ok (.iload_n 1, 1) := by decide +kernel
theorem dX0_isAlias_13 : decode cX0_isAlias 13 = .ok (.iaload, 1) := by decide +kernel
theorem dX0_isAlias_14 : decode cX0_isAlias 14 = .ok (.iload_n 2, 1) := by decide +kernel
theorem dX0_isAlias_15 : decode cX0_isAlias 15 = .ok (.invokestatic 80, 3) := by decide +kernel
theorem dX0_isAlias_18 : decode cX0_isAlias 18 = .ok (.ifCond .eq 7, 3) := by decide +kernel
theorem dX0_isAlias_21 : decode cX0_isAlias 21 = .ok (.iconst 1, 1) := by decide +kernel
theorem dX0_isAlias_22 : decode cX0_isAlias 22 = .ok (.goto 4, 3) := by decide +kernel
theorem dX0_isAlias_25 : decode cX0_isAlias 25 = .ok (.iconst 0, 1) := by decide +kernel
theorem dX0_isAlias_26 : decode cX0_isAlias 26 = .ok (.ireturn, 1) := by decide +kernel
theorem dX0_priceOfLink_0 : decode cX0_priceOfLink 0 = .ok (.aload_n 0, 1) := by decide +kernel
theorem dX0_priceOfLink_1 : decode cX0_priceOfLink 1 = .ok (.iload_n 1, 1) := by decide +kernel
theorem dX0_priceOfLink_2 : decode cX0_priceOfLink 2 = .ok (.invokevirtual 76, 3) := by decide +kernel
theorem dX0_priceOfLink_5 : decode cX0_priceOfLink 5 = .ok (.ifCond .eq 35, 3) := by decide +kernel
theorem dX0_priceOfLink_8 : decode cX0_priceOfLink 8 = .ok (.aload_n 0, 1) := by decide +kernel
theorem dX0_priceOfLink_9 : decode cX0_priceOfLink 9 = .ok (.iload_n 2, 1) := by decide +kernel
theorem dX0_priceOfLink_10 : decode cX0_priceOfLink 10 = .ok (.invokevirtual 76, 3) := by decide +kernel
theorem dX0_priceOfLink_13 : decode cX0_priceOfLink 13 = .ok (.ifCond .eq 27, 3) := by decide +kernel
theorem dX0_priceOfLink_16 : decode cX0_priceOfLink 16 = .ok (.aload_n 0, 1) := by decide +kernel
theorem dX0_priceOfLink_17 : decode cX0_priceOfLink 17 = .ok (.getfield 22, 3) := by decide +kernel
theorem dX0_priceOfLink_20 : decode cX0_priceOfLink 20 = .ok (.iload_n 1, 1) := by decide +kernel
theorem dX0_priceOfLink_21 : decode cX0_priceOfLink 21 = .ok (.iaload, 1) := by decide +kernel
theorem dX0_priceOfLink_22 : decode cX0_priceOfLink 22 = .ok (.iload_n 2, 1) := by decide +kernel
theorem dX0_priceOfLink_23 : decode cX0_priceOfLink 23 = .ok (.invokestatic 80, 3) := by decide +kernel
theorem dX0_priceOfLink_26 : decode cX0_priceOfLink 26 = .ok (.ifCond .eq 14, 3) := by decide +kernel
theorem dX0_priceOfLink_29 : decode cX0_priceOfLink 29 = .ok (.aload_n 0, 1) := by decide +kernel
theorem dX0_priceOfLink_30 : decode cX0_priceOfLink 30 = .ok (.getfield 36, 3) := by decide +kernel
theorem dX0_priceOfLink_33 : decode cX0_priceOfLink 33 = .ok (.iload_n 1, 1) := by decide +kernel
theorem dX0_priceOfLink_34 : decode cX0_priceOfLink 34 = .ok (.aaload, 1) := by decide +kernel
theorem dX0_priceOfLink_35 : decode cX0_priceOfLink 35 = .ok (.iload_n 2, 1) := by decide +kernel
theorem dX0_priceOfLink_36 : decode cX0_priceOfLink 36 = .ok (.iaload, 1) := by decide +kernel
theorem dX0_priceOfLink_37 : decode cX0_priceOfLink 37 = .ok (.goto 4, 3) := by decide +kernel
theorem dX0_priceOfLink_40 : decode cX0_priceOfLink 40 = .ok (.iconst (-1), 1) := by decide +kernel
theorem dX0_priceOfLink_41 : decode cX0_priceOfLink 41 = .ok (.ireturn, 1) := by decide +kernel
theorem dX0_priceOfMember_0 : decode cX0_priceOfMember 0 = .ok (.aload_n 0, 1) := by decide +kernel
theorem dX0_priceOfMember_1 : decode cX0_priceOfMember 1 = .ok (.iload_n 1, 1) := by decide +kernel
theorem dX0_priceOfMember_2 : decode cX0_priceOfMember 2 = .ok (.invokevirtual 76, 3) := by decide +kernel
theorem dX0_priceOfMember_5 : decode cX0_priceOfMember 5 = .ok (.ifCond .eq 35, 3) := by decide +kernel
theorem dX0_priceOfMember_8 : decode cX0_priceOfMember 8 = .ok (.aload_n 0, 1) := by decide +kernel
theorem dX0_priceOfMember_9 : decode cX0_priceOfMember 9 = .ok (.iload_n 2, 1) := by decide +kernel
theorem dX0_priceOfMember_10 : decode cX0_priceOfMember 10 = .ok (.invokevirtual 76, 3) := by decide +kernel
theorem dX0_priceOfMember_13 : decode cX0_priceOfMember 13 = .ok (.ifCond .eq 27, 3) := by decide +kernel
theorem dX0_priceOfMember_16 : decode cX0_priceOfMember 16 = .ok (.aload_n 0, 1) := by decide +kernel
theorem dX0_priceOfMember_17 : decode cX0_priceOfMember 17 = .ok (.getfield 31, 3) := by decide +kernel
theorem dX0_priceOfMember_20 : decode cX0_priceOfMember 20 = .ok (.iload_n 2, 1) := by decide +kernel
theorem dX0_priceOfMember_21 : decode cX0_priceOfMember 21 = .ok (.iaload, 1) := by decide +kernel
theorem dX0_priceOfMember_22 : decode cX0_priceOfMember 22 = .ok (.iload_n 1, 1) := by decide +kernel
theorem dX0_priceOfMember_23 : decode cX0_priceOfMember 23 = .ok (.invokestatic 80, 3) := by decide +kernel
theorem dX0_priceOfMember_26 : decode cX0_priceOfMember 26 = .ok (.ifCond .eq 14, 3) := by decide +kernel
theorem dX0_priceOfMember_29 : decode cX0_priceOfMember 29 = .ok (.aload_n 0, 1) := by decide +kernel
theorem dX0_priceOfMember_30 : decode cX0_priceOfMember 30 = .ok (.getfield 39, 3) := by decide +kernel
theorem dX0_priceOfMember_33 : decode cX0_priceOfMember 33 = .ok (.iload_n 2, 1) := by decide +kernel
theorem dX0_priceOfMember_34 : decode cX0_priceOfMember 34 = .ok (.aaload, 1) := by decide +kernel
theorem dX0_priceOfMember_35 : decode cX0_priceOfMember 35 = .ok (.iload_n 1, 1) := by decide +kernel
theorem dX0_priceOfMember_36 : decode cX0_priceOfMember 36 = .ok (.iaload, 1) := by decide +kernel
theorem dX0_priceOfMember_37 : decode cX0_priceOfMember 37 = .ok (.goto 4, 3) := by decide +kernel
theorem dX0_priceOfMember_40 : decode cX0_priceOfMember 40 = .ok (.iconst (-1), 1) := by decide +kernel
theorem dX0_priceOfMember_41 : decode cX0_priceOfMember 41 = .ok (.ireturn, 1) := by decide +kernel
theorem dX0_isRightLink_0 : decode cX0_isRightLink 0 = .ok (.aload_n 0, 1) := by decide +kernel
theorem dX0_isRightLink_1 : decode cX0_isRightLink 1 = .ok (.iload_n 1, 1) := by decide +kernel
theorem dX0_isRightLink_2 : decode cX0_isRightLink 2 = .ok (.invokevirtual 76, 3) := by decide +kernel
theorem dX0_isRightLink_5 : decode cX0_isRightLink 5 = .ok (.ifCond .eq 20, 3) := by decide +kernel
theorem dX0_isRightLink_8 : decode cX0_isRightLink 8 = .ok (.aload_n 0, 1) := by decide +kernel
theorem dX0_isRightLink_9 : decode cX0_isRightLink 9 = .ok (.getfield 25, 3) := by decide +kernel
theorem dX0_isRightLink_12 : decode cX0_isRightLink 12 = .ok (.iload_n 1, 1) := by decide +kernel
theorem dX0_isRightLink_13 : decode cX0_isRightLink 13 = .ok (.iaload, 1) := by decide +kernel
theorem dX0_isRightLink_14 : decode cX0_isRightLink 14 = .ok (.iload_n 2, 1) := by decide +kernel
theorem dX0_isRightLink_15 : decode cX0_isRightLink 15 = .ok (.invokestatic 80, 3) := by decide +kernel
theorem dX0_isRightLink_18 : decode cX0_isRightLink 18 = .ok (.ifCond .eq 7, 3) := by decide +kernel
theorem dX0_isRightLink_21 : decode cX0_isRightLink 21 = .ok (.iconst 1, 1) := by decide +kernel
theorem dX0_isRightLink_22 : decode cX0_isRightLink 22 = .ok (.goto 4, 3) := by decide +kernel
theorem dX0_isRightLink_25 : decode cX0_isRightLink 25 = .ok (.iconst 0, 1) := by decide +kernel
theorem dX0_isRightLink_26 : decode cX0_isRightLink 26 = .ok (.ireturn, 1) := by decide +kernel
theorem dX0_isRightNet_0 : decode cX0_isRightNet 0 = .ok (.aload_n 0, 1) := by decide +kernel
theorem dX0_isRightNet_1 : decode cX0_isRightNet 1 = .ok (.getfield 53, 3) := by decide +kernel
theorem dX0_isRightNet_4 : decode cX0_isRightNet 4 = .ok (.iload_n 1, 1) := by decide +kernel
theorem dX0_isRightNet_5 : decode cX0_isRightNet 5 = .ok (.invokestatic 80, 3) := by decide +kernel
theorem dX0_isRightNet_8 : decode cX0_isRightNet 8 = .ok (.ifCond .eq 18, 3) := by decide +kernel
theorem dX0_isRightNet_11 : decode cX0_isRightNet 11 = .ok (.aload_n 0, 1) := by decide +kernel
theorem dX0_isRightNet_12 : decode cX0_isRightNet 12 = .ok (.getfield 56, 3) := by decide +kernel
theorem dX0_isRightNet_15 : decode cX0_isRightNet 15 = .ok (.iload_n 1, 1) := by decide +kernel
theorem dX0_isRightNet_16 : decode cX0_isRightNet 16 = .ok (.invokestatic 80, 3) := by decide +kernel
theorem dX0_isRightNet_19 : decode cX0_isRightNet 19 = .ok (.ifCond .ne 7, 3) := by decide +kernel
theorem dX0_isRightNet_22 : decode cX0_isRightNet 22 = .ok (.iconst 1, 1) := by decide +kernel
theorem dX0_isRightNet_23 : decode cX0_isRightNet 23 = .ok (.goto 4, 3) := by decide +kernel
theorem dX0_isRightNet_26 : decode cX0_isRightNet 26 = .ok (.iconst 0, 1) := by decide +kernel
theorem dX0_isRightNet_27 : decode cX0_isRightNet 27 = .ok (.ireturn, 1) := by decide +kernel
theorem dX0_isGate_0 : decode cX0_isGate 0 = .ok (.aload_n 0, 1) := by decide +kernel
theorem dX0_isGate_1 : decode cX0_isGate 1 = .ok (.getfield 59, 3) := by decide +kernel
theorem dX0_isGate_4 : decode cX0_isGate 4 = .ok (.iload_n 1, 1) := by decide +kernel
theorem dX0_isGate_5 : decode cX0_isGate 5 = .ok (.invokestatic 80, 3) := by decide +kernel
theorem dX0_isGate_8 : decode cX0_isGate 8 = .ok (.ifCond .ne 14, 3) := by decide +kernel
theorem dX0_isGate_11 : decode cX0_isGate 11 = .ok (.aload_n 0, 1) := by decide +kernel
theorem dX0_isGate_12 : decode cX0_isGate 12 = .ok (.getfield 50, 3) := by decide +kernel
theorem dX0_isGate_15 : decode cX0_isGate 15 = .ok (.iload_n 1, 1) := by decide +kernel
theorem dX0_isGate_16 : decode cX0_isGate 16 = .ok (.invokestatic 80, 3) := by decide +kernel
theorem dX0_isGate_19 : decode cX0_isGate 19 = .ok (.ifCond .eq 7, 3) := by decide +kernel
theorem dX0_isGate_22 : decode cX0_isGate 22 = .ok (.iconst 1, 1) := by decide +kernel
theorem dX0_isGate_23 : decode cX0_isGate 23 = .ok (.goto 4, 3) := by decide +kernel
theorem dX0_isGate_26 : decode cX0_isGate 26 = .ok (.iconst 0, 1) := by decide +kernel
theorem dX0_isGate_27 : decode cX0_isGate 27 = .ok (.ireturn, 1) := by decide +kernel
theorem dX0_deathsOn_0 : decode cX0_deathsOn 0 = .ok (.aload_n 0, 1) := by decide +kernel
theorem dX0_deathsOn_1 : decode cX0_deathsOn 1 = .ok (.getfield 62, 3) := by decide +kernel
theorem dX0_deathsOn_4 : decode cX0_deathsOn 4 = .ok (.iload_n 1, 1) := by decide +kernel
theorem dX0_deathsOn_5 : decode cX0_deathsOn 5 = .ok (.invokestatic 80, 3) := by decide +kernel
theorem dX0_deathsOn_8 : decode cX0_deathsOn 8 = .ok (.ifCond .eq 7, 3) := by decide +kernel
theorem dX0_deathsOn_11 : decode cX0_deathsOn 11 = .ok (.iconst 1, 1) := by decide +kernel
theorem dX0_deathsOn_12 : decode cX0_deathsOn 12 = .ok (.goto 4, 3) := by decide +kernel
theorem dX0_deathsOn_15 : decode cX0_deathsOn 15 = .ok (.iconst 0, 1) := by decide +kernel
theorem dX0_deathsOn_16 : decode cX0_deathsOn 16 = .ok (.istore_n 3, 1) := by decide +kernel
theorem dX0_deathsOn_17 : decode cX0_deathsOn 17 = .ok (.aload_n 0, 1) := by decide +kernel
theorem dX0_deathsOn_18 : decode cX0_deathsOn 18 = .ok (.iload_n 1, 1) := by decide +kernel
theorem dX0_deathsOn_19 : decode cX0_deathsOn 19 = .ok (.invokevirtual 76, 3) := by decide +kernel
theorem dX0_deathsOn_22 : decode cX0_deathsOn 22 = .ok (.ifCond .eq 22, 3) := by decide +kernel
theorem dX0_deathsOn_25 : decode cX0_deathsOn 25 = .ok (.aload_n 0, 1) := by decide +kernel
theorem dX0_deathsOn_26 : decode cX0_deathsOn 26 = .ok (.getfield 28, 3) := by decide +kernel
theorem dX0_deathsOn_29 : decode cX0_deathsOn 29 = .ok (.iload_n 1, 1) := by decide +kernel
theorem dX0_deathsOn_30 : decode cX0_deathsOn 30 = .ok (.iaload, 1) := by decide +kernel
theorem dX0_deathsOn_31 : decode cX0_deathsOn 31 = .ok (.iload_n 2, 1) := by decide +kernel
theorem dX0_deathsOn_32 : decode cX0_deathsOn 32 = .ok (.invokestatic 80, 3) := by decide +kernel
theorem dX0_deathsOn_35 : decode cX0_deathsOn 35 = .ok (.ifCond .eq 9, 3) := by decide +kernel
theorem dX0_deathsOn_38 : decode cX0_deathsOn 38 = .ok (.iload_n 3, 1) := by decide +kernel
theorem dX0_deathsOn_39 : decode cX0_deathsOn 39 = .ok (.iconst 1, 1) := by decide +kernel
theorem dX0_deathsOn_40 : decode cX0_deathsOn 40 = .ok (.iadd, 1) := by decide +kernel
theorem dX0_deathsOn_41 : decode cX0_deathsOn 41 = .ok (.goto 4, 3) := by decide +kernel
theorem dX0_deathsOn_44 : decode cX0_deathsOn 44 = .ok (.iload_n 3, 1) := by decide +kernel
theorem dX0_deathsOn_45 : decode cX0_deathsOn 45 = .ok (.ireturn, 1) := by decide +kernel
theorem dX0_linksOf_0 : decode cX0_linksOf 0 = .ok (.aload_n 0, 1) := by decide +kernel
theorem dX0_linksOf_1 : decode cX0_linksOf 1 = .ok (.iload_n 1, 1) := by decide +kernel
theorem dX0_linksOf_2 : decode cX0_linksOf 2 = .ok (.invokevirtual 76, 3) := by decide +kernel
theorem dX0_linksOf_5 : decode cX0_linksOf 5 = .ok (.ifCond .eq 12, 3) := by decide +kernel
theorem dX0_linksOf_8 : decode cX0_linksOf 8 = .ok (.aload_n 0, 1) := by decide +kernel
theorem dX0_linksOf_9 : decode cX0_linksOf 9 = .ok (.getfield 22, 3) := by decide +kernel
theorem dX0_linksOf_12 : decode cX0_linksOf 12 = .ok (.iload_n 1, 1) := by decide +kernel
theorem dX0_linksOf_13 : decode cX0_linksOf 13 = .ok (.iaload, 1) := by decide +kernel
theorem dX0_linksOf_14 : decode cX0_linksOf 14 = .ok (.goto 4, 3) := by decide +kernel
theorem dX0_linksOf_17 : decode cX0_linksOf 17 = .ok (.iconst 0, 1) := by decide +kernel
theorem dX0_linksOf_18 : decode cX0_linksOf 18 = .ok (.ireturn, 1) := by decide +kernel
theorem dX0_nextTo_0 : decode cX0_nextTo 0 = .ok (.aload_n 0, 1) := by decide +kernel
theorem dX0_nextTo_1 : decode cX0_nextTo 1 = .ok (.iload_n 1, 1) := by decide +kernel
theorem dX0_nextTo_2 : decode cX0_nextTo 2 = .ok (.invokevirtual 76, 3) := by decide +kernel
theorem dX0_nextTo_5 : decode cX0_nextTo 5 = .ok (.ifCond .ne 5, 3) := by decide +kernel
theorem dX0_nextTo_8 : decode cX0_nextTo 8 = .ok (.iconst 0, 1) := by decide +kernel
theorem dX0_nextTo_9 : decode cX0_nextTo 9 = .ok (.ireturn, 1) := by decide +kernel
theorem dX0_nextTo_10 : decode cX0_nextTo 10 = .ok (.aload_n 0, 1) := by decide +kernel
theorem dX0_nextTo_11 : decode cX0_nextTo 11 = .ok (.getfield 19, 3) := by decide +kernel
theorem dX0_nextTo_14 : decode cX0_nextTo 14 = .ok (.iload_n 1, 1) := by decide +kernel
theorem dX0_nextTo_15 : decode cX0_nextTo 15 = .ok (.iaload, 1) := by decide +kernel
theorem dX0_nextTo_16 : decode cX0_nextTo 16 = .ok (.aload_n 0, 1) := by decide +kernel
theorem dX0_nextTo_17 : decode cX0_nextTo 17 = .ok (.getfield 22, 3) := by decide +kernel
theorem dX0_nextTo_20 : decode cX0_nextTo 20 = .ok (.iload_n 1, 1) := by decide +kernel
theorem dX0_nextTo_21 : decode cX0_nextTo 21 = .ok (.iaload, 1) := by decide +kernel
theorem dX0_nextTo_22 : decode cX0_nextTo 22 = .ok (.ior, 1) := by decide +kernel
theorem dX0_nextTo_23 : decode cX0_nextTo 23 = .ok (.aload_n 0, 1) := by decide +kernel
theorem dX0_nextTo_24 : decode cX0_nextTo 24 = .ok (.getfield 31, 3) := by decide +kernel
theorem dX0_nextTo_27 : decode cX0_nextTo 27 = .ok (.iload_n 1, 1) := by decide +kernel
theorem dX0_nextTo_28 : decode cX0_nextTo 28 = .ok (.iaload, 1) := by decide +kernel
theorem dX0_nextTo_29 : decode cX0_nextTo 29 = .ok (.ior, 1) := by decide +kernel
theorem dX0_nextTo_30 : decode cX0_nextTo 30 = .ok (.istore_n 2, 1) := by decide +kernel
theorem dX0_nextTo_31 : decode cX0_nextTo 31 = .ok (.iconst 0, 1) := by decide +kernel
theorem dX0_nextTo_32 : decode cX0_nextTo 32 = .ok (.istore_n 3, 1) := by decide +kernel
theorem dX0_nextTo_33 : decode cX0_nextTo 33 = .ok (.iload_n 3, 1) := by decide +kernel
theorem dX0_nextTo_34 : decode cX0_nextTo 34 = .ok (.aload_n 0, 1) := by decide +kernel
theorem dX0_nextTo_35 : decode cX0_nextTo 35 = .ok (.getfield 42, 3) := by decide +kernel
theorem dX0_nextTo_38 : decode cX0_nextTo 38 = .ok (.if_icmp .ge 35, 3) := by decide +kernel
theorem dX0_nextTo_41 : decode cX0_nextTo 41 = .ok (.iload_n 3, 1) := by decide +kernel
theorem dX0_nextTo_42 : decode cX0_nextTo 42 = .ok (.bipush 24, 2) := by decide +kernel
theorem dX0_nextTo_44 : decode cX0_nextTo 44 = .ok (.if_icmp .ge 29, 3) := by decide +kernel
theorem dX0_nextTo_47 : decode cX0_nextTo 47 = .ok (.aload_n 0, 1) := by decide +kernel
theorem dX0_nextTo_48 : decode cX0_nextTo 48 = .ok (.getfield 31, 3) := by decide +kernel
theorem dX0_nextTo_51 : decode cX0_nextTo 51 = .ok (.iload_n 3, 1) := by decide +kernel
theorem dX0_nextTo_52 : decode cX0_nextTo 52 = .ok (.iaload, 1) := by decide +kernel
theorem dX0_nextTo_53 : decode cX0_nextTo 53 = .ok (.iload_n 1, 1) := by decide +kernel
theorem dX0_nextTo_54 : decode cX0_nextTo 54 = .ok (.invokestatic 80, 3) := by decide +kernel
theorem dX0_nextTo_57 : decode cX0_nextTo 57 = .ok (.ifCond .eq 10, 3) := by decide +kernel
theorem dX0_nextTo_60 : decode cX0_nextTo 60 = .ok (.iload_n 2, 1) := by decide +kernel
theorem dX0_nextTo_61 : decode cX0_nextTo 61 = .ok (.iload_n 3, 1) := by decide +kernel
theorem dX0_nextTo_62 : decode cX0_nextTo 62 = .ok (.invokestatic 72, 3) := by decide +kernel
theorem dX0_nextTo_65 : decode cX0_nextTo 65 = .ok (.ior, 1) := by decide +kernel
theorem dX0_nextTo_66 : decode cX0_nextTo 66 = .ok (.istore_n 2, 1) := by decide +kernel
theorem dX0_nextTo_67 : decode cX0_nextTo 67 = .ok (.iinc 3 1, 3) := by decide +kernel
theorem dX0_nextTo_70 : decode cX0_nextTo 70 = .ok (.goto (-37), 3) := by decide +kernel
theorem dX0_nextTo_73 : decode cX0_nextTo 73 = .ok (.iload_n 2, 1) := by decide +kernel
theorem dX0_nextTo_74 : decode cX0_nextTo 74 = .ok (.ireturn, 1) := by decide +kernel
theorem dX1_init_0 : decode cX1_init 0 = .ok (.aload_n 0, 1) := by decide +kernel
theorem dX1_init_1 : decode cX1_init 1 = .ok (.invokespecial 1, 3) := by decide +kernel
theorem dX1_init_4 : decode cX1_init 4 = .ok (.return_, 1) := by decide +kernel
theorem dX1_clear_0 : decode cX1_clear 0 = .ok (.aload_n 0, 1) := by decide +kernel
theorem dX1_clear_1 : decode cX1_clear 1 = .ok (.iconst 0, 1) := by decide +kernel
theorem dX1_clear_2 : decode cX1_clear 2 = .ok (.putfield 7, 3) := by decide +kernel
theorem dX1_clear_5 : decode cX1_clear 5 = .ok (.aload_n 0, 1) := by decide +kernel
theorem dX1_clear_6 : decode cX1_clear 6 = .ok (.iconst 0, 1) := by decide +kernel
theorem dX1_clear_7 : decode cX1_clear 7 = .ok (.putfield 13, 3) := by decide +kernel
theorem dX1_clear_10 : decode cX1_clear 10 = .ok (.return_, 1) := by decide +kernel
theorem dX1_tell_0 : decode cX1_tell 0 = .ok (.aload_n 0, 1) := by decide +kernel
theorem dX1_tell_1 : decode cX1_tell 1 = .ok (.iload_n 1, 1) := by decide +kernel
theorem dX1_tell_2 : decode cX1_tell 2 = .ok (.putfield 7, 3) := by decide +kernel
theorem dX1_tell_5 : decode cX1_tell 5 = .ok (.aload_n 0, 1) := by decide +kernel
theorem dX1_tell_6 : decode cX1_tell 6 = .ok (.iload_n 2, 1) := by decide +kernel
theorem dX1_tell_7 : decode cX1_tell 7 = .ok (.putfield 13, 3) := by decide +kernel
theorem dX1_tell_10 : decode cX1_tell 10 = .ok (.iconst 0, 1) := by decide +kernel
theorem dX1_tell_11 : decode cX1_tell 11 = .ok (.ireturn, 1) := by decide +kernel
theorem dX1_code_0 : decode cX1_code 0 = .ok (.aload_n 0, 1) := by decide +kernel
theorem dX1_code_1 : decode cX1_code 1 = .ok (.getfield 7, 3) := by decide +kernel
theorem dX1_code_4 : decode cX1_code 4 = .ok (.ireturn, 1) := by decide +kernel
theorem dX1_where_0 : decode cX1_where 0 = .ok (.aload_n 0, 1) := by decide +kernel
theorem dX1_where_1 : decode cX1_where 1 = .ok (.getfield 13, 3) := by decide +kernel
theorem dX1_where_4 : decode cX1_where 4 = .ok (.ireturn, 1) := by decide +kernel
theorem dX10_init_0 : decode cX10_init 0 = .ok (.aload_n 0, 1) := by decide +kernel
theorem dX10_init_1 : decode cX10_init 1 = .ok (.invokespecial 3, 3) := by decide +kernel
theorem dX10_init_4 : decode cX10_init 4 = .ok (.aload_n 0, 1) := by decide +kernel
theorem dX10_init_5 : decode cX10_init 5 = .ok (.new 9, 3) := by decide +kernel
theorem dX10_init_8 : decode cX10_init 8 = .ok (.dup, 1) := by decide +kernel
theorem dX10_init_9 : decode cX10_init 9 = .ok (.sipush 600, 3) := by decide +kernel
theorem dX10_init_12 : decode cX10_init 12 = .ok (.invokespecial 11, 3) := by decide +kernel
theorem dX10_init_15 : decode cX10_init 15 = .ok (.putfield 14, 3) := by decide +kernel
theorem dX10_init_18 : decode cX10_init 18 = .ok (.aload_n 0, 1) := by decide +kernel
theorem dX10_init_19 : decode cX10_init 19 = .ok (.new 9, 3) := by decide +kernel
theorem dX10_init_22 : decode cX10_init 22 = .ok (.dup, 1) := by decide +kernel
theorem dX10_init_23 : decode cX10_init 23 = .ok (.sipush 1200, 3) := by decide +kernel
theorem dX10_init_26 : decode cX10_init 26 = .ok (.invokespecial 11, 3) := by decide +kernel
theorem dX10_init_29 : decode cX10_init 29 = .ok (.putfield 18, 3) := by decide +kernel
theorem dX10_init_32 : decode cX10_init 32 = .ok (.aload_n 0, 1) := by decide +kernel
theorem dX10_init_33 : decode cX10_init 33 = .ok (.iconst 4, 1) := by decide +kernel
theorem dX10_init_34 : decode cX10_init 34 = .ok (.anewarray 9, 3) := by decide +kernel
theorem dX10_init_37 : decode cX10_init 37 = .ok (.putfield 21, 3) := by decide +kernel
theorem dX10_init_40 : decode cX10_init 40 = .ok (.iconst 0, 1) := by decide +kernel
theorem dX10_init_41 : decode cX10_init 41 = .ok (.istore_n 1, 1) := by decide +kernel
theorem dX10_init_42 : decode cX10_init 42 = .ok (.iload_n 1, 1) := by decide +kernel
theorem dX10_init_43 : decode cX10_init 43 = .ok (.iconst 4, 1) := by decide +kernel
theorem dX10_init_44 : decode cX10_init 44 = .ok (.if_icmp .ge 25, 3) := by decide +kernel
theorem dX10_init_47 : decode cX10_init 47 = .ok (.aload_n 0, 1) := by decide +kernel
theorem dX10_init_48 : decode cX10_init 48 = .ok (.getfield 21, 3) := by decide +kernel
theorem dX10_init_51 : decode cX10_init 51 = .ok (.iload_n 1, 1) := by decide +kernel
theorem dX10_init_52 : decode cX10_init 52 = .ok (.new 9, 3) := by decide +kernel
theorem dX10_init_55 : decode cX10_init 55 = .ok (.dup, 1) := by decide +kernel
theorem dX10_init_56 : decode cX10_init 56 = .ok (.sipush 600, 3) := by decide +kernel
theorem dX10_init_59 : decode cX10_init 59 = .ok (.invokespecial 11, 3) := by decide +kernel
theorem dX10_init_62 : decode cX10_init 62 = .ok (.aastore, 1) := by decide +kernel
theorem dX10_init_63 : decode cX10_init 63 = .ok (.iinc 1 1, 3) := by decide +kernel
theorem dX10_init_66 : decode cX10_init 66 = .ok (.goto (-24), 3) := by decide +kernel
theorem dX10_init_69 : decode cX10_init 69 = .ok (.aload_n 0, 1) := by decide +kernel
theorem dX10_init_70 : decode cX10_init 70 = .ok (.iconst 4, 1) := by decide +kernel
theorem dX10_init_71 : decode cX10_init 71 = .ok (.newarray .int, 2) := by decide +kernel
theorem dX10_init_73 : decode cX10_init 73 = .ok (.putfield 25, 3) := by decide +kernel
theorem dX10_init_76 : decode cX10_init 76 = .ok (.aload_n 0, 1) := by decide +kernel
theorem dX10_init_77 : decode cX10_init 77 = .ok (.new 29, 3) := by decide +kernel
theorem dX10_init_80 : decode cX10_init 80 = .ok (.dup, 1) := by decide +kernel
theorem dX10_init_81 : decode cX10_init 81 = .ok (.invokespecial 31, 3) := by decide +kernel
theorem dX10_init_84 : decode cX10_init 84 = .ok (.putfield 32, 3) := by decide +kernel
theorem dX10_init_87 : decode cX10_init 87 = .ok (.aload_n 0, 1) := by decide +kernel
theorem dX10_init_88 : decode cX10_init 88 = .ok (.new 36, 3) := by decide +kernel
theorem dX10_init_91 : decode cX10_init 91 = .ok (.dup, 1) := by decide +kernel
theorem dX10_init_92 : decode cX10_init 92 = .ok (.invokespecial 38, 3) := by decide +kernel
theorem dX10_init_95 : decode cX10_init 95 = .ok (.putfield 39, 3) := by decide +kernel
theorem dX10_init_98 : decode cX10_init 98 = .ok (.aload_n 0, 1) := by decide +kernel
theorem dX10_init_99 : decode cX10_init 99 = .ok (.new 43, 3) := by decide +kernel
theorem dX10_init_102 : decode cX10_init 102 = .ok (.dup, 1) := by decide +kernel
theorem dX10_init_103 : decode cX10_init 103 = .ok (.aload_n 0, 1) := by decide +kernel
theorem dX10_init_104 : decode cX10_init 104 = .ok (.getfield 39, 3) := by decide +kernel
theorem dX10_init_107 : decode cX10_init 107 = .ok (.invokespecial 45, 3) := by decide +kernel
theorem dX10_init_110 : decode cX10_init 110 = .ok (.putfield 48, 3) := by decide +kernel
theorem dX10_init_113 : decode cX10_init 113 = .ok (.aload_n 0, 1) := by decide +kernel
theorem dX10_init_114 : decode cX10_init 114 = .ok (.new 52, 3) := by decide +kernel
theorem dX10_init_117 : decode cX10_init 117 = .ok (.dup, 1) := by decide +kernel
theorem dX10_init_118 : decode cX10_init 118 = .ok (.invokespecial 54, 3) := by decide +kernel
theorem dX10_init_121 : decode cX10_init 121 = .ok (.putfield 55, 3) := by decide +kernel
theorem dX10_init_124 : decode cX10_init 124 = .ok (.aload_n 0, 1) := by decide +kernel
theorem dX10_init_125 : decode cX10_init 125 = .ok (.new 59, 3) := by decide +kernel
theorem dX10_init_128 : decode cX10_init 128 = .ok (.dup, 1) := by decide +kernel
theorem dX10_init_129 : decode cX10_init 129 = .ok (.aload_n 0, 1) := by decide +kernel
theorem dX10_init_130 : decode cX10_init 130 = .ok (.getfield 39, 3) := by decide +kernel
theorem dX10_init_133 : decode cX10_init 133 = .ok (.aload_n 0, 1) := by decide +kernel
theorem dX10_init_134 : decode cX10_init 134 = .ok (.getfield 48, 3) := by decide +kernel
theorem dX10_init_137 : decode cX10_init 137 = .ok (.aload_n 0, 1) := by decide +kernel
theorem dX10_init_138 : decode cX10_init 138 = .ok (.getfield 55, 3) := by decide +kernel
theorem dX10_init_141 : decode cX10_init 141 = .ok (.aload_n 0, 1) := by decide +kernel
theorem dX10_init_142 : decode cX10_init 142 = .ok (.getfield 32, 3) := by decide +kernel
theorem dX10_init_145 : decode cX10_init 145 = .ok (.invokespecial 61, 3) := by decide +kernel
theorem dX10_init_148 : decode cX10_init 148 = .ok (.putfield 64, 3) := by decide +kernel
theorem dX10_init_151 : decode cX10_init 151 = .ok (.aload_n 0, 1) := by decide +kernel
theorem dX10_init_152 : decode cX10_init 152 = .ok (.new 68, 3) := by decide +kernel
theorem dX10_init_155 : decode cX10_init 155 = .ok (.dup, 1) := by decide +kernel
theorem dX10_init_156 : decode cX10_init 156 = .ok (.aload_n 0, 1) := by decide +kernel
theorem dX10_init_157 : decode cX10_init 157 = .ok (.getfield 55, 3) := by decide +kernel
theorem dX10_init_160 : decode cX10_init 160 = .ok (.invokespecial 70, 3) := by decide +kernel
theorem dX10_init_163 : decode cX10_init 163 = .ok (.putfield 73, 3) := by decide +kernel
theorem dX10_init_166 : decode cX10_init 166 = .ok (.aload_n 0, 1) := by decide +kernel
theorem dX10_init_167 : decode cX10_init 167 = .ok (.new 77, 3) := by decide +kernel
theorem dX10_init_170 : decode cX10_init 170 = .ok (.dup, 1) := by decide +kernel
theorem dX10_init_171 : decode cX10_init 171 = .ok (.aload_n 0, 1) := by decide +kernel
theorem dX10_init_172 : decode cX10_init 172 = .ok (.getfield 55, 3) := by decide +kernel
theorem dX10_init_175 : decode cX10_init 175 = .ok (.aload_n 0, 1) := by decide +kernel
theorem dX10_init_176 : decode cX10_init 176 = .ok (.getfield 73, 3) := by decide +kernel
theorem dX10_init_179 : decode cX10_init 179 = .ok (.invokespecial 79, 3) := by decide +kernel
theorem dX10_init_182 : decode cX10_init 182 = .ok (.putfield 82, 3) := by decide +kernel
theorem dX10_init_185 : decode cX10_init 185 = .ok (.aload_n 0, 1) := by decide +kernel
theorem dX10_init_186 : decode cX10_init 186 = .ok (.new 86, 3) := by decide +kernel
theorem dX10_init_189 : decode cX10_init 189 = .ok (.dup, 1) := by decide +kernel
theorem dX10_init_190 : decode cX10_init 190 = .ok (.aload_n 0, 1) := by decide +kernel
theorem dX10_init_191 : decode cX10_init 191 = .ok (.getfield 55, 3) := by decide +kernel
theorem dX10_init_194 : decode cX10_init 194 = .ok (.aload_n 0, 1) := by decide +kernel
theorem dX10_init_195 : decode cX10_init 195 = .ok (.getfield 73, 3) := by decide +kernel
theorem dX10_init_198 : decode cX10_init 198 = .ok (.aload_n 0, 1) := by decide +kernel
theorem dX10_init_199 : decode cX10_init 199 = .ok (.getfield 82, 3) := by decide +kernel
theorem dX10_init_202 : decode cX10_init 202 = .ok (.aload_n 0, 1) := by decide +kernel
theorem dX10_init_203 : decode cX10_init 203 = .ok (.getfield 18, 3) := by decide +kernel
theorem dX10_init_206 : decode cX10_init 206 = .ok (.invokespecial 88, 3) := by decide +kernel
theorem dX10_init_209 : decode cX10_init 209 = .ok (.putfield 91, 3) := by decide +kernel
theorem dX10_init_212 : decode cX10_init 212 = .ok (.return_, 1) := by decide +kernel
theorem dX10_feed_0 : decode cX10_feed 0 = .ok (.iload_n 3, 1) := by decide +kernel
theorem dX10_feed_1 : decode cX10_feed 1 = .ok (.iconst 1, 1) := by decide +kernel
theorem dX10_feed_2 : decode cX10_feed 2 = .ok (.if_icmp .lt 9, 3) := by decide +kernel
theorem dX10_feed_5 : decode cX10_feed 5 = .ok (.iload_n 3, 1) := by decide +kernel
theorem dX10_feed_6 : decode cX10_feed 6 = .ok (.bipush 8, 2) := by decide +kernel
theorem dX10_feed_8 : decode cX10_feed 8 = .ok (.if_icmp .le 13, 3) := by decide +kernel
theorem dX10_feed_11 : decode cX10_feed 11 = .ok (.new 95, 3) := by decide +kernel
theorem dX10_feed_14 : decode cX10_feed 14 = .ok (.dup, 1) := by decide +kernel
theorem dX10_feed_15 : decode cX10_feed 15 = .ok (.ldc 97, 2) := by decide +kernel
theorem dX10_feed_17 : decode cX10_feed 17 = .ok (.invokespecial 99, 3) := by decide +kernel
theorem dX10_feed_20 : decode cX10_feed 20 = .ok (.athrow, 1) := by decide +kernel
theorem dX10_feed_21 : decode cX10_feed 21 = .ok (.aload_n 0, 1) := by decide +kernel
theorem dX10_feed_22 : decode cX10_feed 22 = .ok (.getfield 14, 3) := by decide +kernel
theorem dX10_feed_25 : decode cX10_feed 25 = .ok (.invokevirtual 102, 3) := by decide +kernel
theorem dX10_feed_28 : decode cX10_feed 28 = .ok (.iload_n 3, 1) := by decide +kernel
theorem dX10_feed_29 : decode cX10_feed 29 = .ok (.iadd, 1) := by decide +kernel
theorem dX10_feed_30 : decode cX10_feed 30 = .ok (.sipush 600, 3) := by decide +kernel
theorem dX10_feed_33 : decode cX10_feed 33 = .ok (.if_icmp .le 13, 3) := by decide +kernel
theorem dX10_feed_36 : decode cX10_feed 36 = .ok (.new 106, 3) := by decide +kernel
theorem dX10_feed_39 : decode cX10_feed 39 = .ok (.dup, 1) := by decide +kernel
theorem dX10_feed_40 : decode cX10_feed 40 = .ok (.ldc 108, 2) := by decide +kernel
theorem dX10_feed_42 : decode cX10_feed 42 = .ok (.invokespecial 110, 3) := by decide +kernel
theorem dX10_feed_45 : decode cX10_feed 45 = .ok (.athrow, 1) := by decide +kernel
theorem dX10_feed_46 : decode cX10_feed 46 = .ok (.iconst 0, 1) := by decide +kernel
theorem dX10_feed_47 : decode cX10_feed 47 = .ok (.istore 4, 2) := by decide +kernel
theorem dX10_feed_49 : decode cX10_feed 49 = .ok (.iload 4, 2) := by decide +kernel
theorem dX10_feed_51 : decode cX10_feed 51 = .ok (.iload_n 3, 1) := by decide +kernel
theorem dX10_feed_52 : decode cX10_feed 52 = .ok (.if_icmp .ge 24, 3) := by decide +kernel
theorem dX10_feed_55 : decode cX10_feed 55 = .ok (.aload_n 0, 1) := by decide +kernel
theorem dX10_feed_56 : decode cX10_feed 56 = .ok (.getfield 14, 3) := by decide +kernel
theorem dX10_feed_59 : decode cX10_feed 59 = .ok (.lload_n 1, 1) := by decide +kernel
theorem dX10_feed_60 : decode cX10_feed 60 = .ok (.bipush 8, 2) := by decide +kernel
theorem dX10_feed_62 : decode cX10_feed 62 = .ok (.iload 4, 2) := by decide +kernel
theorem dX10_feed_64 : decode cX10_feed 64 = .ok (.imul, 1) := by decide +kernel
theorem dX10_feed_65 : decode cX10_feed 65 = .ok (.lushr, 1) := by decide +kernel
theorem dX10_feed_66 : decode cX10_feed 66 = .ok (.l2i, 1) := by decide +kernel
theorem dX10_feed_67 : decode cX10_feed 67 = .ok (.invokevirtual 111, 3) := by decide +kernel
theorem dX10_feed_70 : decode cX10_feed 70 = .ok (.iinc 4 1, 3) := by decide +kernel
theorem dX10_feed_73 : decode cX10_feed 73 = .ok (.goto (-24), 3) := by decide +kernel
theorem dX10_feed_76 : decode cX10_feed 76 = .ok (.aload_n 0, 1) := by decide +kernel
theorem dX10_feed_77 : decode cX10_feed 77 = .ok (.getfield 14, 3) := by decide +kernel
theorem dX10_feed_80 : decode cX10_feed 80 = .ok (.invokevirtual 102, 3) := by decide +kernel
theorem dX10_feed_83 : decode cX10_feed 83 = .ok (.ireturn, 1) := by decide +kernel
theorem dX10_load_0 : decode cX10_load 0 = .ok (.iload_n 1, 1) := by decide +kernel
theorem dX10_load_1 : decode cX10_load 1 = .ok (.invokestatic 114, 3) := by decide +kernel
theorem dX10_load_4 : decode cX10_load 4 = .ok (.ifCond .ne 20, 3) := by decide +kernel
theorem dX10_load_7 : decode cX10_load 7 = .ok (.aload_n 0, 1) := by decide +kernel
theorem dX10_load_8 : decode cX10_load 8 = .ok (.getfield 14, 3) := by decide +kernel
theorem dX10_load_11 : decode cX10_load 11 = .ok (.invokevirtual 118, 3) := by decide +kernel
theorem dX10_load_14 : decode cX10_load 14 = .ok (.new 121, 3) := by decide +kernel
theorem dX10_load_17 : decode cX10_load 17 = .ok (.dup, 1) := by decide +kernel
theorem dX10_load_18 : decode cX10_load 18 = .ok (.ldc 123, 2) := by decide +kernel
theorem dX10_load_20 : decode cX10_load 20 = .ok (.invokespecial 125, 3) := by decide +kernel
theorem dX10_load_23 : decode cX10_load 23 = .ok (.athrow, 1) := by decide +kernel
theorem dX10_load_24 : decode cX10_load 24 = .ok (.aload_n 0, 1) := by decide +kernel
theorem dX10_load_25 : decode cX10_load 25 = .ok (.getfield 32, 3) := by decide +kernel
theorem dX10_load_28 : decode cX10_load 28 = .ok (.invokevirtual 126, 3) := by decide +kernel
theorem dX10_load_31 : decode cX10_load 31 = .ok (.aload_n 0, 1) := by decide +kernel
theorem dX10_load_32 : decode cX10_load 32 = .ok (.iload_n 1, 1) := by decide +kernel
theorem dX10_load_33 : decode cX10_load 33 = .ok (.invokevirtual 127, 3) := by decide +kernel
theorem dX10_load_36 : decode cX10_load 36 = .ok (.istore_n 2, 1) := by decide +kernel
theorem dX10_load_37 : decode cX10_load 37 = .ok (.iload_n 2, 1) := by decide +kernel
theorem dX10_load_38 : decode cX10_load 38 = .ok (.ifCond .eq 19, 3) := by decide +kernel
theorem dX10_load_41 : decode cX10_load 41 = .ok (.aload_n 0, 1) := by decide +kernel
theorem dX10_load_42 : decode cX10_load 42 = .ok (.getfield 21, 3) := by decide +kernel
theorem dX10_load_45 : decode cX10_load 45 = .ok (.iload_n 1, 1) := by decide +kernel
theorem dX10_load_46 : decode cX10_load 46 = .ok (.aaload, 1) := by decide +kernel
theorem dX10_load_47 : decode cX10_load 47 = .ok (.aload_n 0, 1) := by decide +kernel
theorem dX10_load_48 : decode cX10_load 48 = .ok (.getfield 14, 3) := by decide +kernel
theorem dX10_load_51 : decode cX10_load 51 = .ok (.invokevirtual 130, 3) := by decide +kernel
theorem dX10_load_54 : decode cX10_load 54 = .ok (.goto 9, 3) := by decide +kernel
theorem dX10_load_57 : decode cX10_load 57 = .ok (.aload_n 0, 1) := by decide +kernel
theorem dX10_load_58 : decode cX10_load 58 = .ok (.iconst (-1), 1) := by decide +kernel
theorem dX10_load_59 : decode cX10_load 59 = .ok (.invokevirtual 127, 3) := by decide +kernel
theorem dX10_load_62 : decode cX10_load 62 = .ok (.pop, 1) := by decide +kernel
theorem dX10_load_63 : decode cX10_load 63 = .ok (.aload_n 0, 1) := by decide +kernel
theorem dX10_load_64 : decode cX10_load 64 = .ok (.getfield 14, 3) := by decide +kernel
theorem dX10_load_67 : decode cX10_load 67 = .ok (.invokevirtual 118, 3) := by decide +kernel
theorem dX10_load_70 : decode cX10_load 70 = .ok (.iload_n 2, 1) := by decide +kernel
theorem dX10_load_71 : decode cX10_load 71 = .ok (.ifCond .ne 13, 3) := by decide +kernel
theorem dX10_load_74 : decode cX10_load 74 = .ok (.new 106, 3) := by decide +kernel
theorem dX10_load_77 : decode cX10_load 77 = .ok (.dup, 1) := by decide +kernel
theorem dX10_load_78 : decode cX10_load 78 = .ok (.ldc 134, 2) := by decide +kernel
theorem dX10_load_80 : decode cX10_load 80 = .ok (.invokespecial 110, 3) := by decide +kernel
theorem dX10_load_83 : decode cX10_load 83 = .ok (.athrow, 1) := by decide +kernel
theorem dX10_load_84 : decode cX10_load 84 = .ok (.aload_n 0, 1) := by decide +kernel
theorem dX10_load_85 : decode cX10_load 85 = .ok (.getfield 25, 3) := by decide +kernel
theorem dX10_load_88 : decode cX10_load 88 = .ok (.iload_n 1, 1) := by decide +kernel
theorem dX10_load_89 : decode cX10_load 89 = .ok (.iaload, 1) := by decide +kernel
theorem dX10_load_90 : decode cX10_load 90 = .ok (.ireturn, 1) := by decide +kernel
theorem dX10_drop_0 : decode cX10_drop 0 = .ok (.iload_n 1, 1) := by decide +kernel
theorem dX10_drop_1 : decode cX10_drop 1 = .ok (.invokestatic 114, 3) := by decide +kernel
theorem dX10_drop_4 : decode cX10_drop 4 = .ok (.ifCond .ne 13, 3) := by decide +kernel
theorem dX10_drop_7 : decode cX10_drop 7 = .ok (.new 121, 3) := by decide +kernel
theorem dX10_drop_10 : decode cX10_drop 10 = .ok (.dup, 1) := by decide +kernel
theorem dX10_drop_11 : decode cX10_drop 11 = .ok (.ldc 123, 2) := by decide +kernel
theorem dX10_drop_13 : decode cX10_drop 13 = .ok (.invokespecial 125, 3) := by decide +kernel
theorem dX10_drop_16 : decode cX10_drop 16 = .ok (.athrow, 1) := by decide +kernel
theorem dX10_drop_17 : decode cX10_drop 17 = .ok (.aload_n 0, 1) := by decide +kernel
theorem dX10_drop_18 : decode cX10_drop 18 = .ok (.getfield 25, 3) := by decide +kernel
theorem dX10_drop_21 : decode cX10_drop 21 = .ok (.iload_n 1, 1) := by decide +kernel
theorem dX10_drop_22 : decode cX10_drop 22 = .ok (.iaload, 1) := by decide +kernel
theorem dX10_drop_23 : decode cX10_drop 23 = .ok (.istore_n 2, 1) := by decide +kernel
theorem dX10_drop_24 : decode cX10_drop 24 = .ok (.aload_n 0, 1) := by decide +kernel
theorem dX10_drop_25 : decode cX10_drop 25 = .ok (.getfield 21, 3) := by decide +kernel
theorem dX10_drop_28 : decode cX10_drop 28 = .ok (.iload_n 1, 1) := by decide +kernel
theorem dX10_drop_29 : decode cX10_drop 29 = .ok (.aaload, 1) := by decide +kernel
theorem dX10_drop_30 : decode cX10_drop 30 = .ok (.invokevirtual 118, 3) := by decide +kernel
theorem dX10_drop_33 : decode cX10_drop 33 = .ok (.aload_n 0, 1) := by decide +kernel
theorem dX10_drop_34 : decode cX10_drop 34 = .ok (.iconst (-1), 1) := by decide +kernel
theorem dX10_drop_35 : decode cX10_drop 35 = .ok (.invokevirtual 127, 3) := by decide +kernel
theorem dX10_drop_38 : decode cX10_drop 38 = .ok (.pop, 1) := by decide +kernel
theorem dX10_drop_39 : decode cX10_drop 39 = .ok (.iload_n 2, 1) := by decide +kernel
theorem dX10_drop_40 : decode cX10_drop 40 = .ok (.ireturn, 1) := by decide +kernel
theorem dX10_value_0 : decode cX10_value 0 = .ok (.aload_n 0, 1) := by decide +kernel
theorem dX10_value_1 : decode cX10_value 1 = .ok (.getfield 32, 3) := by decide +kernel
theorem dX10_value_4 : decode cX10_value 4 = .ok (.invokevirtual 126, 3) := by decide +kernel
theorem dX10_value_7 : decode cX10_value 7 = .ok (.aload_n 0, 1) := by decide +kernel
theorem dX10_value_8 : decode cX10_value 8 = .ok (.getfield 39, 3) := by decide +kernel
theorem dX10_value_11 : decode cX10_value 11 = .ok (.aload_n 0, 1) := by decide +kernel
theorem dX10_value_12 : decode cX10_value 12 = .ok (.getfield 14, 3) := by decide +kernel
theorem dX10_value_15 : decode cX10_value 15 = .ok (.invokevirtual 136, 3) := by decide +kernel
theorem dX10_value_18 : decode cX10_value 18 = .ok (.aload_n 0, 1) := by decide +kernel
theorem dX10_value_19 : decode cX10_value 19 = .ok (.getfield 14, 3) := by decide +kernel
theorem dX10_value_22 : decode cX10_value 22 = .ok (.invokevirtual 118, 3) := by decide +kernel
theorem dX10_value_25 : decode cX10_value 25 = .ok (.aload_n 0, 1) := by decide +kernel
theorem dX10_value_26 : decode cX10_value 26 = .ok (.getfield 48, 3) := by decide +kernel
theorem dX10_value_29 : decode cX10_value 29 = .ok (.iconst 0, 1) := by decide +kernel
theorem dX10_value_30 : decode cX10_value 30 = .ok (.invokevirtual 139, 3) := by decide +kernel
theorem dX10_value_33 : decode cX10_value 33 = .ok (.ifCond .ne 35, 3) := by decide +kernel
theorem dX10_value_36 : decode cX10_value 36 = .ok (.aload_n 0, 1) := by decide +kernel
theorem dX10_value_37 : decode cX10_value 37 = .ok (.getfield 32, 3) := by decide +kernel
theorem dX10_value_40 : decode cX10_value 40 = .ok (.aload_n 0, 1) := by decide +kernel
theorem dX10_value_41 : decode cX10_value 41 = .ok (.getfield 48, 3) := by decide +kernel
theorem dX10_value_44 : decode cX10_value 44 = .ok (.invokevirtual 142, 3) := by decide +kernel
theorem dX10_value_47 : decode cX10_value 47 = .ok (.aload_n 0, 1) := by decide +kernel
theorem dX10_value_48 : decode cX10_value 48 = .ok (.getfield 39, 3) := by decide +kernel
theorem dX10_value_51 : decode cX10_value 51 = .ok (.aload_n 0, 1) := by decide +kernel
theorem dX10_value_52 : decode cX10_value 52 = .ok (.getfield 48, 3) := by decide +kernel
theorem dX10_value_55 : decode cX10_value 55 = .ok (.invokevirtual 145, 3) := by decide +kernel
theorem dX10_value_58 : decode cX10_value 58 = .ok (.invokevirtual 148, 3) := by decide +kernel
theorem dX10_value_61 : decode cX10_value 61 = .ok (.invokevirtual 152, 3) := by decide +kernel
theorem dX10_value_64 : decode cX10_value 64 = .ok (.pop, 1) := by decide +kernel
theorem dX10_value_65 : decode cX10_value 65 = .ok (.goto 43, 3) := by decide +kernel
theorem dX10_value_68 : decode cX10_value 68 = .ok (.aload_n 0, 1) := by decide +kernel
theorem dX10_value_69 : decode cX10_value 69 = .ok (.getfield 39, 3) := by decide +kernel
theorem dX10_value_72 : decode cX10_value 72 = .ok (.aload_n 0, 1) := by decide +kernel
theorem dX10_value_73 : decode cX10_value 73 = .ok (.getfield 48, 3) := by decide +kernel
theorem dX10_value_76 : decode cX10_value 76 = .ok (.invokevirtual 156, 3) := by decide +kernel
theorem dX10_value_79 : decode cX10_value 79 = .ok (.invokevirtual 159, 3) := by decide +kernel
theorem dX10_value_82 : decode cX10_value 82 = .ok (.ifCond .eq 26, 3) := by decide +kernel
theorem dX10_value_85 : decode cX10_value 85 = .ok (.aload_n 0, 1) := by decide +kernel
theorem dX10_value_86 : decode cX10_value 86 = .ok (.getfield 32, 3) := by decide +kernel
theorem dX10_value_89 : decode cX10_value 89 = .ok (.iconst 1, 1) := by decide +kernel
theorem dX10_value_90 : decode cX10_value 90 = .ok (.aload_n 0, 1) := by decide +kernel
theorem dX10_value_91 : decode cX10_value 91 = .ok (.getfield 39, 3) := by decide +kernel
theorem dX10_value_94 : decode cX10_value 94 = .ok (.aload_n 0, 1) := by decide +kernel
theorem dX10_value_95 : decode cX10_value 95 = .ok (.getfield 48, 3) := by decide +kernel
theorem dX10_value_98 : decode cX10_value 98 = .ok (.invokevirtual 156, 3) := by decide +kernel
theorem dX10_value_101 : decode cX10_value 101 = .ok (.invokevirtual 148, 3) := by decide +kernel
theorem dX10_value_104 : decode cX10_value 104 = .ok (.invokevirtual 152, 3) := by decide +kernel
theorem dX10_value_107 : decode cX10_value 107 = .ok (.pop, 1) := by decide +kernel
theorem dX10_value_108 : decode cX10_value 108 = .ok (.aload_n 0, 1) := by decide +kernel
theorem dX10_value_109 : decode cX10_value 109 = .ok (.getfield 32, 3) := by decide +kernel
theorem dX10_value_112 : decode cX10_value 112 = .ok (.invokevirtual 162, 3) := by decide +kernel
theorem dX10_value_115 : decode cX10_value 115 = .ok (.ifCond .eq 13, 3) := by decide +kernel
theorem dX10_value_118 : decode cX10_value 118 = .ok (.new 106, 3) := by decide +kernel
theorem dX10_value_121 : decode cX10_value 121 = .ok (.dup, 1) := by decide +kernel
theorem dX10_value_122 : decode cX10_value 122 = .ok (.ldc 165, 2) := by decide +kernel
theorem dX10_value_124 : decode cX10_value 124 = .ok (.invokespecial 110, 3) := by decide +kernel
theorem dX10_value_127 : decode cX10_value 127 = .ok (.athrow, 1) := by decide +kernel
theorem dX10_value_128 : decode cX10_value 128 = .ok (.aload_n 0, 1) := by decide +kernel
theorem dX10_value_129 : decode cX10_value 129 = .ok (.getfield 48, 3) := by decide +kernel
theorem dX10_value_132 : decode cX10_value 132 = .ok (.invokevirtual 167, 3) := by decide +kernel
theorem dX10_value_135 : decode cX10_value 135 = .ok (.ireturn, 1) := by decide +kernel
theorem dX10_fault_0 : decode cX10_fault 0 = .ok (.iload_n 1, 1) := by decide +kernel
theorem dX10_fault_1 : decode cX10_fault 1 = .ok (.ifCond .eq 13, 3) := by decide +kernel
theorem dX10_fault_4 : decode cX10_fault 4 = .ok (.aload_n 0, 1) := by decide +kernel
theorem dX10_fault_5 : decode cX10_fault 5 = .ok (.getfield 32, 3) := by decide +kernel
theorem dX10_fault_8 : decode cX10_fault 8 = .ok (.invokevirtual 170, 3) := by decide +kernel
theorem dX10_fault_11 : decode cX10_fault 11 = .ok (.goto 10, 3) := by decide +kernel
theorem dX10_fault_14 : decode cX10_fault 14 = .ok (.aload_n 0, 1) := by decide +kernel
theorem dX10_fault_15 : decode cX10_fault 15 = .ok (.getfield 32, 3) := by decide +kernel
theorem dX10_fault_18 : decode cX10_fault 18 = .ok (.invokevirtual 162, 3) := by decide +kernel
theorem dX10_fault_21 : decode cX10_fault 21 = .ok (.ireturn, 1) := by decide +kernel
theorem dX10_setHome_0 : decode cX10_setHome 0 = .ok (.aload_n 0, 1) := by decide +kernel
theorem dX10_setHome_1 : decode cX10_setHome 1 = .ok (.getfield 14, 3) := by decide +kernel
theorem dX10_setHome_4 : decode cX10_setHome 4 = .ok (.invokevirtual 173, 3) := by decide +kernel
theorem dX10_setHome_7 : decode cX10_setHome 7 = .ok (.lstore_n 1, 1) := by decide +kernel
theorem dX10_setHome_8 : decode cX10_setHome 8 = .ok (.aload_n 0, 1) := by decide +kernel
theorem dX10_setHome_9 : decode cX10_setHome 9 = .ok (.getfield 14, 3) := by decide +kernel
theorem dX10_setHome_12 : decode cX10_setHome 12 = .ok (.invokevirtual 118, 3) := by decide +kernel
theorem dX10_setHome_15 : decode cX10_setHome 15 = .ok (.lload_n 1, 1) := by decide +kernel
theorem dX10_setHome_16 : decode cX10_setHome 16 = .ok (.lconst 0, 1) := by decide +kernel
theorem dX10_setHome_17 : decode cX10_setHome 17 = .ok (.lcmp, 1) := by decide +kernel
theorem dX10_setHome_18 : decode cX10_setHome 18 = .ok (.ifCond .ne 13, 3) := by decide +kernel
theorem dX10_setHome_21 : decode cX10_setHome 21 = .ok (.new 95, 3) := by decide +kernel
theorem dX10_setHome_24 : decode cX10_setHome 24 = .ok (.dup, 1) := by decide +kernel
theorem dX10_setHome_25 : decode cX10_setHome 25 = .ok (.ldc 177, 2) := by decide +kernel
theorem dX10_setHome_27 : decode cX10_setHome 27 = .ok (.invokespecial 99, 3) := by decide +kernel
theorem dX10_setHome_30 : decode cX10_setHome 30 = .ok (.athrow, 1) := by decide +kernel
theorem dX10_setHome_31 : decode cX10_setHome 31 = .ok (.aload_n 0, 1) := by decide +kernel
theorem dX10_setHome_32 : decode cX10_setHome 32 = .ok (.getfield 82, 3) := by decide +kernel
theorem dX10_setHome_35 : decode cX10_setHome 35 = .ok (.lload_n 1, 1) := by decide +kernel
theorem dX10_setHome_36 : decode cX10_setHome 36 = .ok (.invokevirtual 179, 3) := by decide +kernel
theorem dX10_setHome_39 : decode cX10_setHome 39 = .ok (.aload_n 0, 1) := by decide +kernel
theorem dX10_setHome_40 : decode cX10_setHome 40 = .ok (.getfield 82, 3) := by decide +kernel
theorem dX10_setHome_43 : decode cX10_setHome 43 = .ok (.invokevirtual 182, 3) := by decide +kernel
theorem dX10_setHome_46 : decode cX10_setHome 46 = .ok (.ireturn, 1) := by decide +kernel
theorem dX10_home_0 : decode cX10_home 0 = .ok (.aload_n 0, 1) := by decide +kernel
theorem dX10_home_1 : decode cX10_home 1 = .ok (.getfield 82, 3) := by decide +kernel
theorem dX10_home_4 : decode cX10_home 4 = .ok (.invokevirtual 182, 3) := by decide +kernel
theorem dX10_home_7 : decode cX10_home 7 = .ok (.ireturn, 1) := by decide +kernel
theorem dX10_lookUp_0 : decode cX10_lookUp 0 = .ok (.aload_n 0, 1) := by decide +kernel
theorem dX10_lookUp_1 : decode cX10_lookUp 1 = .ok (.getfield 14, 3) := by decide +kernel
theorem dX10_lookUp_4 : decode cX10_lookUp 4 = .ok (.invokevirtual 173, 3) := by decide +kernel
theorem dX10_lookUp_7 : decode cX10_lookUp 7 = .ok (.lstore_n 1, 1) := by decide +kernel
theorem dX10_lookUp_8 : decode cX10_lookUp 8 = .ok (.aload_n 0, 1) := by decide +kernel
theorem dX10_lookUp_9 : decode cX10_lookUp 9 = .ok (.getfield 14, 3) := by decide +kernel
theorem dX10_lookUp_12 : decode cX10_lookUp 12 = .ok (.invokevirtual 118, 3) := by decide +kernel
theorem dX10_lookUp_15 : decode cX10_lookUp 15 = .ok (.aload_n 0, 1) := by decide +kernel
theorem dX10_lookUp_16 : decode cX10_lookUp 16 = .ok (.getfield 55, 3) := by decide +kernel
theorem dX10_lookUp_19 : decode cX10_lookUp 19 = .ok (.lload_n 1, 1) := by decide +kernel
theorem dX10_lookUp_20 : decode cX10_lookUp 20 = .ok (.iconst (-1), 1) := by decide +kernel
theorem dX10_lookUp_21 : decode cX10_lookUp 21 = .ok (.invokevirtual 185, 3) := by decide +kernel
theorem dX10_lookUp_24 : decode cX10_lookUp 24 = .ok (.ireturn, 1) := by decide +kernel
theorem dX10_nodes_0 : decode cX10_nodes 0 = .ok (.aload_n 0, 1) := by decide +kernel
theorem dX10_nodes_1 : decode cX10_nodes 1 = .ok (.getfield 55, 3) := by decide +kernel
theorem dX10_nodes_4 : decode cX10_nodes 4 = .ok (.invokevirtual 189, 3) := by decide +kernel
theorem dX10_nodes_7 : decode cX10_nodes 7 = .ok (.ireturn, 1) := by decide +kernel
theorem dX10_name_0 : decode cX10_name 0 = .ok (.aload_n 0, 1) := by decide +kernel
theorem dX10_name_1 : decode cX10_name 1 = .ok (.iload_n 1, 1) := by decide +kernel
theorem dX10_name_2 : decode cX10_name 2 = .ok (.invokevirtual 192, 3) := by decide +kernel
theorem dX10_name_5 : decode cX10_name 5 = .ok (.aload_n 0, 1) := by decide +kernel
theorem dX10_name_6 : decode cX10_name 6 = .ok (.getfield 18, 3) := by decide +kernel
theorem dX10_name_9 : decode cX10_name 9 = .ok (.invokevirtual 118, 3) := by decide +kernel
theorem dX10_name_12 : decode cX10_name 12 = .ok (.aload_n 0, 1) := by decide +kernel
theorem dX10_name_13 : decode cX10_name 13 = .ok (.getfield 18, 3) := by decide +kernel
theorem dX10_name_16 : decode cX10_name 16 = .ok (.aload_n 0, 1) := by decide +kernel
theorem dX10_name_17 : decode cX10_name 17 = .ok (.getfield 55, 3) := by decide +kernel
theorem dX10_name_20 : decode cX10_name 20 = .ok (.iload_n 1, 1) := by decide +kernel
theorem dX10_name_21 : decode cX10_name 21 = .ok (.invokevirtual 195, 3) := by decide +kernel
theorem dX10_name_24 : decode cX10_name 24 = .ok (.invokevirtual 199, 3) := by decide +kernel
theorem dX10_name_27 : decode cX10_name 27 = .ok (.aload_n 0, 1) := by decide +kernel
theorem dX10_name_28 : decode cX10_name 28 = .ok (.getfield 18, 3) := by decide +kernel
theorem dX10_name_31 : decode cX10_name 31 = .ok (.invokevirtual 102, 3) := by decide +kernel
theorem dX10_name_34 : decode cX10_name 34 = .ok (.ireturn, 1) := by decide +kernel
theorem dX10_kind_0 : decode cX10_kind 0 = .ok (.aload_n 0, 1) := by decide +kernel
theorem dX10_kind_1 : decode cX10_kind 1 = .ok (.iload_n 1, 1) := by decide +kernel
theorem dX10_kind_2 : decode cX10_kind 2 = .ok (.invokevirtual 192, 3) := by decide +kernel
theorem dX10_kind_5 : decode cX10_kind 5 = .ok (.aload_n 0, 1) := by decide +kernel
theorem dX10_kind_6 : decode cX10_kind 6 = .ok (.getfield 55, 3) := by decide +kernel
theorem dX10_kind_9 : decode cX10_kind 9 = .ok (.iload_n 1, 1) := by decide +kernel
theorem dX10_kind_10 : decode cX10_kind 10 = .ok (.invokevirtual 202, 3) := by decide +kernel
theorem dX10_kind_13 : decode cX10_kind 13 = .ok (.ireturn, 1) := by decide +kernel
theorem dX10_isPrivate_0 : decode cX10_isPrivate 0 = .ok (.aload_n 0, 1) := by decide +kernel
theorem dX10_isPrivate_1 : decode cX10_isPrivate 1 = .ok (.iload_n 1, 1) := by decide +kernel
theorem dX10_isPrivate_2 : decode cX10_isPrivate 2 = .ok (.invokevirtual 192, 3) := by decide +kernel
theorem dX10_isPrivate_5 : decode cX10_isPrivate 5 = .ok (.aload_n 0, 1) := by decide +kernel
theorem dX10_isPrivate_6 : decode cX10_isPrivate 6 = .ok (.getfield 55, 3) := by decide +kernel
theorem dX10_isPrivate_9 : decode cX10_isPrivate 9 = .ok (.iload_n 1, 1) := by decide +kernel
theorem dX10_isPrivate_10 : decode cX10_isPrivate 10 = .ok (.invokevirtual 205, 3) := by decide +kernel
theorem dX10_isPrivate_13 : decode cX10_isPrivate 13 = .ok (.ireturn, 1) := by decide +kernel
theorem dX10_linkCost_0 : decode cX10_linkCost 0 = .ok (.aload_n 0, 1) := by decide +kernel
theorem dX10_linkCost_1 : decode cX10_linkCost 1 = .ok (.iload_n 1, 1) := by decide +kernel
theorem dX10_linkCost_2 : decode cX10_linkCost 2 = .ok (.invokevirtual 192, 3) := by decide +kernel
theorem dX10_linkCost_5 : decode cX10_linkCost 5 = .ok (.aload_n 0, 1) := by decide +kernel
theorem dX10_linkCost_6 : decode cX10_linkCost 6 = .ok (.iload_n 2, 1) := by decide +kernel
theorem dX10_linkCost_7 : decode cX10_linkCost 7 = .ok (.invokevirtual 192, 3) := by decide +kernel
theorem dX10_linkCost_10 : decode cX10_linkCost 10 = .ok (.aload_n 0, 1) := by decide +kernel
theorem dX10_linkCost_11 : decode cX10_linkCost 11 = .ok (.getfield 55, 3) := by decide +kernel
theorem dX10_linkCost_14 : decode cX10_linkCost 14 = .ok (.iload_n 1, 1) := by decide +kernel
theorem dX10_linkCost_15 : decode cX10_linkCost 15 = .ok (.iload_n 2, 1) := by decide +kernel
theorem dX10_linkCost_16 : decode cX10_linkCost 16 = .ok (.invokevirtual 208, 3) := by decide +kernel
theorem dX10_linkCost_19 : decode cX10_linkCost 19 = .ok (.ireturn, 1) := by decide +kernel
theorem dX10_memberCost_0 : decode cX10_memberCost 0 = .ok (.aload_n 0, 1) := by decide +kernel
theorem dX10_memberCost_1 : decode cX10_memberCost 1 = .ok (.iload_n 1, 1) := by decide +kernel
theorem dX10_memberCost_2 : decode cX10_memberCost 2 = .ok (.invokevirtual 192, 3) := by decide +kernel
theorem dX10_memberCost_5 : decode cX10_memberCost 5 = .ok (.aload_n 0, 1) := by decide +kernel
theorem dX10_memberCost_6 : decode cX10_memberCost 6 = .ok (.iload_n 2, 1) := by decide +kernel
theorem dX10_memberCost_7 : decode cX10_memberCost 7 = .ok (.invokevirtual 192, 3) := by decide +kernel
theorem dX10_memberCost_10 : decode cX10_memberCost 10 = .ok (.aload_n 0, 1) := by decide +kernel
theorem dX10_memberCost_11 : decode cX10_memberCost 11 = .ok (.getfield 55, 3) := by decide +kernel
theorem dX10_memberCost_14 : decode cX10_memberCost 14 = .ok (.iload_n 1, 1) := by decide +kernel
theorem dX10_memberCost_15 : decode cX10_memberCost 15 = .ok (.iload_n 2, 1) := by decide +kernel
theorem dX10_memberCost_16 : decode cX10_memberCost 16 = .ok (.invokevirtual 212, 3) := by decide +kernel
theorem dX10_memberCost_19 : decode cX10_memberCost 19 = .ok (.ireturn, 1) := by decide +kernel
theorem dX10_cost_0 : decode cX10_cost 0 = .ok (.aload_n 0, 1) := by decide +kernel
theorem dX10_cost_1 : decode cX10_cost 1 = .ok (.iload_n 1, 1) := by decide +kernel
theorem dX10_cost_2 : decode cX10_cost 2 = .ok (.invokevirtual 192, 3) := by decide +kernel
theorem dX10_cost_5 : decode cX10_cost 5 = .ok (.aload_n 0, 1) := by decide +kernel
theorem dX10_cost_6 : decode cX10_cost 6 = .ok (.getfield 82, 3) := by decide +kernel
theorem dX10_cost_9 : decode cX10_cost 9 = .ok (.invokevirtual 215, 3) := by decide +kernel
theorem dX10_cost_12 : decode cX10_cost 12 = .ok (.aload_n 0, 1) := by decide +kernel
theorem dX10_cost_13 : decode cX10_cost 13 = .ok (.getfield 82, 3) := by decide +kernel
theorem dX10_cost_16 : decode cX10_cost 16 = .ok (.aload_n 0, 1) := by decide +kernel
theorem dX10_cost_17 : decode cX10_cost 17 = .ok (.getfield 82, 3) := by decide +kernel
theorem dX10_cost_20 : decode cX10_cost 20 = .ok (.iload_n 1, 1) := by decide +kernel
theorem dX10_cost_21 : decode cX10_cost 21 = .ok (.invokevirtual 217, 3) := by decide +kernel
theorem dX10_cost_24 : decode cX10_cost 24 = .ok (.invokevirtual 220, 3) := by decide +kernel
theorem dX10_cost_27 : decode cX10_cost 27 = .ok (.ireturn, 1) := by decide +kernel
theorem dX10_costByRounds_0 : decode cX10_costByRounds 0 = .ok (.aload_n 0, 1) := by decide +kernel
theorem dX10_costByRounds_1 : decode cX10_costByRounds 1 = .ok (.iload_n 1, 1) := by decide +kernel
theorem dX10_costByRounds_2 : decode cX10_costByRounds 2 = .ok (.invokevirtual 192, 3) := by decide +kernel
theorem dX10_costByRounds_5 : decode cX10_costByRounds 5 = .ok (.aload_n 0, 1) := by decide +kernel
theorem dX10_costByRounds_6 : decode cX10_costByRounds 6 = .ok (.getfield 82, 3) := by decide +kernel
theorem dX10_costByRounds_9 : decode cX10_costByRounds 9 = .ok (.invokevirtual 215, 3) := by decide +kernel
theorem dX10_costByRounds_12 : decode cX10_costByRounds 12 = .ok (.aload_n 0, 1) := by decide +kernel
theorem dX10_costByRounds_13 : decode cX10_costByRounds 13 = .ok (.getfield 82, 3) := by decide +kernel
theorem dX10_costByRounds_16 : decode cX10_costByRounds 16 = .ok (.invokevirtual 223, 3) := by decide +kernel
theorem dX10_costByRounds_19 : decode cX10_costByRounds 19 = .ok (.aload_n 0, 1) := by decide +kernel
theorem dX10_costByRounds_20 : decode cX10_costByRounds 20 = .ok (.getfield 82, 3) := by decide +kernel
theorem dX10_costByRounds_23 : decode cX10_costByRounds 23 = .ok (.iload_n 1, 1) := by decide +kernel
theorem dX10_costByRounds_24 : decode cX10_costByRounds 24 = .ok (.invokevirtual 226, 3) := by decide +kernel
theorem dX10_costByRounds_27 : decode cX10_costByRounds 27 = .ok (.ireturn, 1) := by decide +kernel
theorem dX10_steps_0 : decode cX10_steps 0 = .ok (.aload_n 0, 1) := by decide +kernel
theorem dX10_steps_1 : decode cX10_steps 1 = .ok (.iload_n 1, 1) := by decide +kernel
theorem dX10_steps_2 : decode cX10_steps 2 = .ok (.invokevirtual 192, 3) := by decide +kernel
theorem dX10_steps_5 : decode cX10_steps 5 = .ok (.aload_n 0, 1) := by decide +kernel
theorem dX10_steps_6 : decode cX10_steps 6 = .ok (.getfield 82, 3) := by decide +kernel
theorem dX10_steps_9 : decode cX10_steps 9 = .ok (.invokevirtual 215, 3) := by decide +kernel
theorem dX10_steps_12 : decode cX10_steps 12 = .ok (.aload_n 0, 1) := by decide +kernel
theorem dX10_steps_13 : decode cX10_steps 13 = .ok (.getfield 82, 3) := by decide +kernel
theorem dX10_steps_16 : decode cX10_steps 16 = .ok (.aload_n 0, 1) := by decide +kernel
theorem dX10_steps_17 : decode cX10_steps 17 = .ok (.getfield 82, 3) := by decide +kernel
theorem dX10_steps_20 : decode cX10_steps 20 = .ok (.iload_n 1, 1) := by decide +kernel
theorem dX10_steps_21 : decode cX10_steps 21 = .ok (.invokevirtual 217, 3) := by decide +kernel
theorem dX10_steps_24 : decode cX10_steps 24 = .ok (.invokevirtual 229, 3) := by decide +kernel
theorem dX10_steps_27 : decode cX10_steps 27 = .ok (.ireturn, 1) := by decide +kernel
theorem dX10_state_0 : decode cX10_state 0 = .ok (.aload_n 0, 1) := by decide +kernel
theorem dX10_state_1 : decode cX10_state 1 = .ok (.iload_n 1, 1) := by decide +kernel
theorem dX10_state_2 : decode cX10_state 2 = .ok (.invokevirtual 192, 3) := by decide +kernel
theorem dX10_state_5 : decode cX10_state 5 = .ok (.aload_n 0, 1) := by decide +kernel
theorem dX10_state_6 : decode cX10_state 6 = .ok (.getfield 82, 3) := by decide +kernel
theorem dX10_state_9 : decode cX10_state 9 = .ok (.invokevirtual 215, 3) := by decide +kernel
theorem dX10_state_12 : decode cX10_state 12 = .ok (.aload_n 0, 1) := by decide +kernel
theorem dX10_state_13 : decode cX10_state 13 = .ok (.getfield 82, 3) := by decide +kernel
theorem dX10_state_16 : decode cX10_state 16 = .ok (.iload_n 1, 1) := by decide +kernel
theorem dX10_state_17 : decode cX10_state 17 = .ok (.invokevirtual 217, 3) := by decide +kernel
theorem dX10_state_20 : decode cX10_state 20 = .ok (.istore_n 2, 1) := by decide +kernel
theorem dX10_state_21 : decode cX10_state 21 = .ok (.iload_n 2, 1) := by decide +kernel
theorem dX10_state_22 : decode cX10_state 22 = .ok (.iconst (-1), 1) := by decide +kernel
theorem dX10_state_23 : decode cX10_state 23 = .ok (.if_icmp .ne 7, 3) := by decide +kernel
theorem dX10_state_26 : decode cX10_state 26 = .ok (.iconst (-1), 1) := by decide +kernel
theorem dX10_state_27 : decode cX10_state 27 = .ok (.goto 6, 3) := by decide +kernel
theorem dX10_state_30 : decode cX10_state 30 = .ok (.iload_n 2, 1) := by decide +kernel
theorem dX10_state_31 : decode cX10_state 31 = .ok (.iconst 4, 1) := by decide +kernel
theorem dX10_state_32 : decode cX10_state 32 = .ok (.irem, 1) := by decide +kernel
theorem dX10_state_33 : decode cX10_state 33 = .ok (.ireturn, 1) := by decide +kernel
theorem dX10_nodeAt_0 : decode cX10_nodeAt 0 = .ok (.aload_n 0, 1) := by decide +kernel
theorem dX10_nodeAt_1 : decode cX10_nodeAt 1 = .ok (.iload_n 1, 1) := by decide +kernel
theorem dX10_nodeAt_2 : decode cX10_nodeAt 2 = .ok (.iload_n 2, 1) := by decide +kernel
theorem dX10_nodeAt_3 : decode cX10_nodeAt 3 = .ok (.invokevirtual 232, 3) := by decide +kernel
theorem dX10_nodeAt_6 : decode cX10_nodeAt 6 = .ok (.aload_n 0, 1) := by decide +kernel
theorem dX10_nodeAt_7 : decode cX10_nodeAt 7 = .ok (.getfield 82, 3) := by decide +kernel
theorem dX10_nodeAt_10 : decode cX10_nodeAt 10 = .ok (.iload_n 2, 1) := by decide +kernel
theorem dX10_nodeAt_11 : decode cX10_nodeAt 11 = .ok (.invokevirtual 236, 3) := by decide +kernel
theorem dX10_nodeAt_14 : decode cX10_nodeAt 14 = .ok (.iconst 4, 1) := by decide +kernel
theorem dX10_nodeAt_15 : decode cX10_nodeAt 15 = .ok (.idiv, 1) := by decide +kernel
theorem dX10_nodeAt_16 : decode cX10_nodeAt 16 = .ok (.ireturn, 1) := by decide +kernel
theorem dX10_costAt_0 : decode cX10_costAt 0 = .ok (.aload_n 0, 1) := by decide +kernel
theorem dX10_costAt_1 : decode cX10_costAt 1 = .ok (.iload_n 1, 1) := by decide +kernel
theorem dX10_costAt_2 : decode cX10_costAt 2 = .ok (.iload_n 2, 1) := by decide +kernel
theorem dX10_costAt_3 : decode cX10_costAt 3 = .ok (.invokevirtual 232, 3) := by decide +kernel
theorem dX10_costAt_6 : decode cX10_costAt 6 = .ok (.aload_n 0, 1) := by decide +kernel
theorem dX10_costAt_7 : decode cX10_costAt 7 = .ok (.getfield 82, 3) := by decide +kernel
theorem dX10_costAt_10 : decode cX10_costAt 10 = .ok (.aload_n 0, 1) := by decide +kernel
theorem dX10_costAt_11 : decode cX10_costAt 11 = .ok (.getfield 82, 3) := by decide +kernel
theorem dX10_costAt_14 : decode cX10_costAt 14 = .ok (.iload_n 2, 1) := by decide +kernel
theorem dX10_costAt_15 : decode cX10_costAt 15 = .ok (.invokevirtual 236, 3) := by decide +kernel
theorem dX10_costAt_18 : decode cX10_costAt 18 = .ok (.invokevirtual 220, 3) := by decide +kernel
theorem dX10_costAt_21 : decode cX10_costAt 21 = .ok (.ireturn, 1) := by decide +kernel
theorem dX10_stepAt_0 : decode cX10_stepAt 0 = .ok (.aload_n 0, 1) := by decide +kernel
theorem dX10_stepAt_1 : decode cX10_stepAt 1 = .ok (.iload_n 1, 1) := by decide +kernel
theorem dX10_stepAt_2 : decode cX10_stepAt 2 = .ok (.iload_n 2, 1) := by decide +kernel
theorem dX10_stepAt_3 : decode cX10_stepAt 3 = .ok (.invokevirtual 232, 3) := by decide +kernel
theorem dX10_stepAt_6 : decode cX10_stepAt 6 = .ok (.aload_n 0, 1) := by decide +kernel
theorem dX10_stepAt_7 : decode cX10_stepAt 7 = .ok (.getfield 82, 3) := by decide +kernel
theorem dX10_stepAt_10 : decode cX10_stepAt 10 = .ok (.aload_n 0, 1) := by decide +kernel
theorem dX10_stepAt_11 : decode cX10_stepAt 11 = .ok (.getfield 82, 3) := by decide +kernel
theorem dX10_stepAt_14 : decode cX10_stepAt 14 = .ok (.iload_n 2, 1) := by decide +kernel
theorem dX10_stepAt_15 : decode cX10_stepAt 15 = .ok (.invokevirtual 236, 3) := by decide +kernel
theorem dX10_stepAt_18 : decode cX10_stepAt 18 = .ok (.invokevirtual 239, 3) := by decide +kernel
theorem dX10_stepAt_21 : decode cX10_stepAt 21 = .ok (.ireturn, 1) := by decide +kernel
theorem dX10_isBack_0 : decode cX10_isBack 0 = .ok (.aload_n 0, 1) := by decide +kernel
theorem dX10_isBack_1 : decode cX10_isBack 1 = .ok (.iload_n 1, 1) := by decide +kernel
theorem dX10_isBack_2 : decode cX10_isBack 2 = .ok (.invokevirtual 192, 3) := by decide +kernel
theorem dX10_isBack_5 : decode cX10_isBack 5 = .ok (.aload_n 0, 1) := by decide +kernel
theorem dX10_isBack_6 : decode cX10_isBack 6 = .ok (.iload_n 2, 1) := by decide +kernel
theorem dX10_isBack_7 : decode cX10_isBack 7 = .ok (.invokevirtual 192, 3) := by decide +kernel
theorem dX10_isBack_10 : decode cX10_isBack 10 = .ok (.aload_n 0, 1) := by decide +kernel
theorem dX10_isBack_11 : decode cX10_isBack 11 = .ok (.getfield 82, 3) := by decide +kernel
theorem dX10_isBack_14 : decode cX10_isBack 14 = .ok (.invokevirtual 215, 3) := by decide +kernel
theorem dX10_isBack_17 : decode cX10_isBack 17 = .ok (.aload_n 0, 1) := by decide +kernel
theorem dX10_isBack_18 : decode cX10_isBack 18 = .ok (.getfield 73, 3) := by decide +kernel
theorem dX10_isBack_21 : decode cX10_isBack 21 = .ok (.iload_n 1, 1) := by decide +kernel
theorem dX10_isBack_22 : decode cX10_isBack 22 = .ok (.iload_n 2, 1) := by decide +kernel
theorem dX10_isBack_23 : decode cX10_isBack 23 = .ok (.invokevirtual 242, 3) := by decide +kernel
theorem dX10_isBack_26 : decode cX10_isBack 26 = .ok (.ireturn, 1) := by decide +kernel
theorem dX10_print_0 : decode cX10_print 0 = .ok (.aload_n 0, 1) := by decide +kernel
theorem dX10_print_1 : decode cX10_print 1 = .ok (.iload_n 1, 1) := by decide +kernel
theorem dX10_print_2 : decode cX10_print 2 = .ok (.invokevirtual 192, 3) := by decide +kernel
theorem dX10_print_5 : decode cX10_print 5 = .ok (.aload_n 0, 1) := by decide +kernel
theorem dX10_print_6 : decode cX10_print 6 = .ok (.getfield 82, 3) := by decide +kernel
theorem dX10_print_9 : decode cX10_print 9 = .ok (.invokevirtual 215, 3) := by decide +kernel
theorem dX10_print_12 : decode cX10_print 12 = .ok (.aload_n 0, 1) := by decide +kernel
theorem dX10_print_13 : decode cX10_print 13 = .ok (.getfield 91, 3) := by decide +kernel
theorem dX10_print_16 : decode cX10_print 16 = .ok (.iload_n 1, 1) := by decide +kernel
theorem dX10_print_17 : decode cX10_print 17 = .ok (.invokevirtual 245, 3) := by decide +kernel
theorem dX10_print_20 : decode cX10_print 20 = .ok (.aload_n 0, 1) := by decide +kernel
theorem dX10_print_21 : decode cX10_print 21 = .ok (.getfield 18, 3) := by decide +kernel
theorem dX10_print_24 : decode cX10_print 24 = .ok (.invokevirtual 102, 3) := by decide +kernel
theorem dX10_print_27 : decode cX10_print 27 = .ok (.ireturn, 1) := by decide +kernel
theorem dX10_rewrite_0 : decode cX10_rewrite 0 = .ok (.aload_n 0, 1) := by decide +kernel
theorem dX10_rewrite_1 : decode cX10_rewrite 1 = .ok (.getfield 82, 3) := by decide +kernel
theorem dX10_rewrite_4 : decode cX10_rewrite 4 = .ok (.invokevirtual 215, 3) := by decide +kernel
theorem dX10_rewrite_7 : decode cX10_rewrite 7 = .ok (.aload_n 0, 1) := by decide +kernel
theorem dX10_rewrite_8 : decode cX10_rewrite 8 = .ok (.getfield 91, 3) := by decide +kernel
theorem dX10_rewrite_11 : decode cX10_rewrite 11 = .ok (.aload_n 0, 1) := by decide +kernel
theorem dX10_rewrite_12 : decode cX10_rewrite 12 = .ok (.getfield 14, 3) := by decide +kernel
theorem dX10_rewrite_15 : decode cX10_rewrite 15 = .ok (.invokevirtual 248, 3) := by decide +kernel
theorem dX10_rewrite_18 : decode cX10_rewrite 18 = .ok (.aload_n 0, 1) := by decide +kernel
theorem dX10_rewrite_19 : decode cX10_rewrite 19 = .ok (.getfield 14, 3) := by decide +kernel
theorem dX10_rewrite_22 : decode cX10_rewrite 22 = .ok (.invokevirtual 118, 3) := by decide +kernel
theorem dX10_rewrite_25 : decode cX10_rewrite 25 = .ok (.aload_n 0, 1) := by decide +kernel
theorem dX10_rewrite_26 : decode cX10_rewrite 26 = .ok (.getfield 18, 3) := by decide +kernel
theorem dX10_rewrite_29 : decode cX10_rewrite 29 = .ok (.invokevirtual 102, 3) := by decide +kernel
theorem dX10_rewrite_32 : decode cX10_rewrite 32 = .ok (.ireturn, 1) := by decide +kernel
theorem dX10_word_0 : decode cX10_word 0 = .ok (.iload_n 1, 1) := by decide +kernel
theorem dX10_word_1 : decode cX10_word 1 = .ok (.ifCond .lt 10, 3) := by decide +kernel
theorem dX10_word_4 : decode cX10_word 4 = .ok (.iload_n 1, 1) := by decide +kernel
theorem dX10_word_5 : decode cX10_word 5 = .ok (.sipush 1200, 3) := by decide +kernel
theorem dX10_word_8 : decode cX10_word 8 = .ok (.if_icmp .lt 5, 3) := by decide +kernel
theorem dX10_word_11 : decode cX10_word 11 = .ok (.lconst 0, 1) := by decide +kernel
theorem dX10_word_12 : decode cX10_word 12 = .ok (.lreturn, 1) := by decide +kernel
theorem dX10_word_13 : decode cX10_word 13 = .ok (.lconst 0, 1) := by decide +kernel
theorem dX10_word_14 : decode cX10_word 14 = .ok (.lstore_n 2, 1) := by decide +kernel
theorem dX10_word_15 : decode cX10_word 15 = .ok (.iconst 0, 1) := by decide +kernel
theorem dX10_word_16 : decode cX10_word 16 = .ok (.istore 4, 2) := by decide +kernel
theorem dX10_word_18 : decode cX10_word 18 = .ok (.iload 4, 2) := by decide +kernel
theorem dX10_word_20 : decode cX10_word 20 = .ok (.bipush 8, 2) := by decide +kernel
theorem dX10_word_22 : decode cX10_word 22 = .ok (.if_icmp .ge 43, 3) := by decide +kernel
theorem dX10_word_25 : decode cX10_word 25 = .ok (.aload_n 0, 1) := by decide +kernel
theorem dX10_word_26 : decode cX10_word 26 = .ok (.getfield 18, 3) := by decide +kernel
theorem dX10_word_29 : decode cX10_word 29 = .ok (.bipush 8, 2) := by decide +kernel
theorem dX10_word_31 : decode cX10_word 31 = .ok (.iload_n 1, 1) := by decide +kernel
theorem dX10_word_32 : decode cX10_word 32 = .ok (.imul, 1) := by decide +kernel
theorem dX10_word_33 : decode cX10_word 33 = .ok (.iload 4, 2) := by decide +kernel
theorem dX10_word_35 : decode cX10_word 35 = .ok (.iadd, 1) := by decide +kernel
theorem dX10_word_36 : decode cX10_word 36 = .ok (.invokevirtual 251, 3) := by decide +kernel
theorem dX10_word_39 : decode cX10_word 39 = .ok (.istore 5, 2) := by decide +kernel
theorem dX10_word_41 : decode cX10_word 41 = .ok (.iload 5, 2) := by decide +kernel
theorem dX10_word_43 : decode cX10_word 43 = .ok (.iconst (-1), 1) := by decide +kernel
theorem dX10_word_44 : decode cX10_word 44 = .ok (.if_icmp .eq 15, 3) := by decide +kernel
theorem dX10_word_47 : decode cX10_word 47 = .ok (.lload_n 2, 1) := by decide +kernel
theorem dX10_word_48 : decode cX10_word 48 = .ok (.iload 5, 2) := by decide +kernel
theorem dX10_word_50 : decode cX10_word 50 = .ok (.i2l, 1) := by decide +kernel
theorem dX10_word_51 : decode cX10_word 51 = .ok (.bipush 8, 2) := by decide +kernel
theorem dX10_word_53 : decode cX10_word 53 = .ok (.iload 4, 2) := by decide +kernel
theorem dX10_word_55 : decode cX10_word 55 = .ok (.imul, 1) := by decide +kernel
theorem dX10_word_56 : decode cX10_word 56 = .ok (.lshl, 1) := by decide +kernel
theorem dX10_word_57 : decode cX10_word 57 = .ok (.lor, 1) := by decide +kernel
theorem dX10_word_58 : decode cX10_word 58 = .ok (.lstore_n 2, 1) := by decide +kernel
theorem dX10_word_59 : decode cX10_word 59 = .ok (.iinc 4 1, 3) := by decide +kernel
theorem dX10_word_62 : decode cX10_word 62 = .ok (.goto (-44), 3) := by decide +kernel
theorem dX10_word_65 : decode cX10_word 65 = .ok (.lload_n 2, 1) := by decide +kernel
theorem dX10_word_66 : decode cX10_word 66 = .ok (.lreturn, 1) := by decide +kernel
theorem dX10_isFile_0 : decode cX10_isFile 0 = .ok (.iload_n 0, 1) := by decide +kernel
theorem dX10_isFile_1 : decode cX10_isFile 1 = .ok (.ifCond .lt 12, 3) := by decide +kernel
theorem dX10_isFile_4 : decode cX10_isFile 4 = .ok (.iload_n 0, 1) := by decide +kernel
theorem dX10_isFile_5 : decode cX10_isFile 5 = .ok (.iconst 4, 1) := by decide +kernel
theorem dX10_isFile_6 : decode cX10_isFile 6 = .ok (.if_icmp .ge 7, 3) := by decide +kernel
theorem dX10_isFile_9 : decode cX10_isFile 9 = .ok (.iconst 1, 1) := by decide +kernel
theorem dX10_isFile_10 : decode cX10_isFile 10 = .ok (.goto 4, 3) := by decide +kernel
theorem dX10_isFile_13 : decode cX10_isFile 13 = .ok (.iconst 0, 1) := by decide +kernel
theorem dX10_isFile_14 : decode cX10_isFile 14 = .ok (.ireturn, 1) := by decide +kernel
theorem dX10_needNode_0 : decode cX10_needNode 0 = .ok (.aload_n 0, 1) := by decide +kernel
theorem dX10_needNode_1 : decode cX10_needNode 1 = .ok (.getfield 55, 3) := by decide +kernel
theorem dX10_needNode_4 : decode cX10_needNode 4 = .ok (.iload_n 1, 1) := by decide +kernel
theorem dX10_needNode_5 : decode cX10_needNode 5 = .ok (.invokevirtual 254, 3) := by decide +kernel
theorem dX10_needNode_8 : decode cX10_needNode 8 = .ok (.ifCond .ne 14, 3) := by decide +kernel
theorem dX10_needNode_11 : decode cX10_needNode 11 = .ok (.new 121, 3) := by decide +kernel
theorem dX10_needNode_14 : decode cX10_needNode 14 = .ok (.dup, 1) := by decide +kernel
theorem dX10_needNode_15 : decode cX10_needNode 15 = .ok (.ldc_w 257, 3) := by decide +kernel
theorem dX10_needNode_18 : decode cX10_needNode 18 = .ok (.invokespecial 125, 3) := by decide +kernel
theorem dX10_needNode_21 : decode cX10_needNode 21 = .ok (.athrow, 1) := by decide +kernel
theorem dX10_needNode_22 : decode cX10_needNode 22 = .ok (.return_, 1) := by decide +kernel
theorem dX10_needPlace_0 : decode cX10_needPlace 0 = .ok (.aload_n 0, 1) := by decide +kernel
theorem dX10_needPlace_1 : decode cX10_needPlace 1 = .ok (.iload_n 1, 1) := by decide +kernel
theorem dX10_needPlace_2 : decode cX10_needPlace 2 = .ok (.invokevirtual 192, 3) := by decide +kernel
theorem dX10_needPlace_5 : decode cX10_needPlace 5 = .ok (.aload_n 0, 1) := by decide +kernel
theorem dX10_needPlace_6 : decode cX10_needPlace 6 = .ok (.getfield 82, 3) := by decide +kernel
theorem dX10_needPlace_9 : decode cX10_needPlace 9 = .ok (.invokevirtual 215, 3) := by decide +kernel
theorem dX10_needPlace_12 : decode cX10_needPlace 12 = .ok (.iload_n 2, 1) := by decide +kernel
theorem dX10_needPlace_13 : decode cX10_needPlace 13 = .ok (.ifCond .lt 15, 3) := by decide +kernel
theorem dX10_needPlace_16 : decode cX10_needPlace 16 = .ok (.iload_n 2, 1) := by decide +kernel
theorem dX10_needPlace_17 : decode cX10_needPlace 17 = .ok (.aload_n 0, 1) := by decide +kernel
theorem dX10_needPlace_18 : decode cX10_needPlace 18 = .ok (.getfield 82, 3) := by decide +kernel
theorem dX10_needPlace_21 : decode cX10_needPlace 21 = .ok (.iload_n 1, 1) := by decide +kernel
theorem dX10_needPlace_22 : decode cX10_needPlace 22 = .ok (.invokevirtual 259, 3) := by decide +kernel
theorem dX10_needPlace_25 : decode cX10_needPlace 25 = .ok (.if_icmp .le 14, 3) := by decide +kernel
theorem dX10_needPlace_28 : decode cX10_needPlace 28 = .ok (.new 121, 3) := by decide +kernel
theorem dX10_needPlace_31 : decode cX10_needPlace 31 = .ok (.dup, 1) := by decide +kernel
theorem dX10_needPlace_32 : decode cX10_needPlace 32 = .ok (.ldc_w 262, 3) := by decide +kernel
theorem dX10_needPlace_35 : decode cX10_needPlace 35 = .ok (.invokespecial 125, 3) := by decide +kernel
theorem dX10_needPlace_38 : decode cX10_needPlace 38 = .ok (.athrow, 1) := by decide +kernel
theorem dX10_needPlace_39 : decode cX10_needPlace 39 = .ok (.return_, 1) := by decide +kernel
theorem dX10_drawMap_0 : decode cX10_drawMap 0 = .ok (.aload_n 0, 1) := by decide +kernel
theorem dX10_drawMap_1 : decode cX10_drawMap 1 = .ok (.getfield 82, 3) := by decide +kernel
theorem dX10_drawMap_4 : decode cX10_drawMap 4 = .ok (.invokevirtual 264, 3) := by decide +kernel
theorem dX10_drawMap_7 : decode cX10_drawMap 7 = .ok (.aload_n 0, 1) := by decide +kernel
theorem dX10_drawMap_8 : decode cX10_drawMap 8 = .ok (.getfield 55, 3) := by decide +kernel
theorem dX10_drawMap_11 : decode cX10_drawMap 11 = .ok (.invokevirtual 267, 3) := by decide +kernel
theorem dX10_drawMap_14 : decode cX10_drawMap 14 = .ok (.iconst 0, 1) := by decide +kernel
theorem dX10_drawMap_15 : decode cX10_drawMap 15 = .ok (.istore_n 2, 1) := by decide +kernel
theorem dX10_drawMap_16 : decode cX10_drawMap 16 = .ok (.iload_n 2, 1) := by decide +kernel
theorem dX10_drawMap_17 : decode cX10_drawMap 17 = .ok (.iconst 4, 1) := by decide +kernel
theorem dX10_drawMap_18 : decode cX10_drawMap 18 = .ok (.if_icmp .ge 53, 3) := by decide +kernel
theorem dX10_drawMap_21 : decode cX10_drawMap 21 = .ok (.aload_n 0, 1) := by decide +kernel
theorem dX10_drawMap_22 : decode cX10_drawMap 22 = .ok (.getfield 64, 3) := by decide +kernel
theorem dX10_drawMap_25 : decode cX10_drawMap 25 = .ok (.iload_n 2, 1) := by decide +kernel
theorem dX10_drawMap_26 : decode cX10_drawMap 26 = .ok (.iload_n 1, 1) := by decide +kernel
theorem dX10_drawMap_27 : decode cX10_drawMap 27 = .ok (.if_icmp .ne 10, 3) := by decide +kernel
theorem dX10_drawMap_30 : decode cX10_drawMap 30 = .ok (.aload_n 0, 1) := by decide +kernel
theorem dX10_drawMap_31 : decode cX10_drawMap 31 = .ok (.getfield 14, 3) := by decide +kernel
theorem dX10_drawMap_34 : decode cX10_drawMap 34 = .ok (.goto 9, 3) := by decide +kernel
theorem dX10_drawMap_37 : decode cX10_drawMap 37 = .ok (.aload_n 0, 1) := by decide +kernel
theorem dX10_drawMap_38 : decode cX10_drawMap 38 = .ok (.getfield 21, 3) := by decide +kernel
theorem dX10_drawMap_41 : decode cX10_drawMap 41 = .ok (.iload_n 2, 1) := by decide +kernel
theorem dX10_drawMap_42 : decode cX10_drawMap 42 = .ok (.aaload, 1) := by decide +kernel
theorem dX10_drawMap_43 : decode cX10_drawMap 43 = .ok (.iload_n 2, 1) := by decide +kernel
theorem dX10_drawMap_44 : decode cX10_drawMap 44 = .ok (.invokevirtual 268, 3) := by decide +kernel
theorem dX10_drawMap_47 : decode cX10_drawMap 47 = .ok (.ifCond .ne 5, 3) := by decide +kernel
theorem dX10_drawMap_50 : decode cX10_drawMap 50 = .ok (.iconst 0, 1) := by decide +kernel
theorem dX10_drawMap_51 : decode cX10_drawMap 51 = .ok (.ireturn, 1) := by decide +kernel
theorem dX10_drawMap_52 : decode cX10_drawMap 52 = .ok (.aload_n 0, 1) := by decide +kernel
theorem dX10_drawMap_53 : decode cX10_drawMap 53 = .ok (.getfield 25, 3) := by decide +kernel
theorem dX10_drawMap_56 : decode cX10_drawMap 56 = .ok (.iload_n 2, 1) := by decide +kernel
theorem dX10_drawMap_57 : decode cX10_drawMap 57 = .ok (.aload_n 0, 1) := by decide +kernel
theorem dX10_drawMap_58 : decode cX10_drawMap 58 = .ok (.getfield 64, 3) := by decide +kernel
theorem dX10_drawMap_61 : decode cX10_drawMap 61 = .ok (.invokevirtual 272, 3) := by decide +kernel
theorem dX10_drawMap_64 : decode cX10_drawMap 64 = .ok (.iastore, 1) := by decide +kernel
theorem dX10_drawMap_65 : decode cX10_drawMap 65 = .ok (.iinc 2 1, 3) := by decide +kernel
theorem dX10_drawMap_68 : decode cX10_drawMap 68 = .ok (.goto (-52), 3) := by decide +kernel
theorem dX10_drawMap_71 : decode cX10_drawMap 71 = .ok (.aload_n 0, 1) := by decide +kernel
theorem dX10_drawMap_72 : decode cX10_drawMap 72 = .ok (.getfield 55, 3) := by decide +kernel
theorem dX10_drawMap_75 : decode cX10_drawMap 75 = .ok (.invokevirtual 275, 3) := by decide +kernel
theorem dX10_drawMap_78 : decode cX10_drawMap 78 = .ok (.ifCond .eq 22, 3) := by decide +kernel
theorem dX10_drawMap_81 : decode cX10_drawMap 81 = .ok (.aload_n 0, 1) := by decide +kernel
theorem dX10_drawMap_82 : decode cX10_drawMap 82 = .ok (.getfield 32, 3) := by decide +kernel
theorem dX10_drawMap_85 : decode cX10_drawMap 85 = .ok (.bipush 6, 2) := by decide +kernel
theorem dX10_drawMap_87 : decode cX10_drawMap 87 = .ok (.aload_n 0, 1) := by decide +kernel
theorem dX10_drawMap_88 : decode cX10_drawMap 88 = .ok (.getfield 14, 3) := by decide +kernel
theorem dX10_drawMap_91 : decode cX10_drawMap 91 = .ok (.invokevirtual 102, 3) := by decide +kernel
theorem dX10_drawMap_94 : decode cX10_drawMap 94 = .ok (.invokevirtual 152, 3) := by decide +kernel
theorem dX10_drawMap_97 : decode cX10_drawMap 97 = .ok (.ifCond .eq 7, 3) := by decide +kernel
theorem dX10_drawMap_100 : decode cX10_drawMap 100 = .ok (.iconst 1, 1) := by decide +kernel
theorem dX10_drawMap_101 : decode cX10_drawMap 101 = .ok (.goto 4, 3) := by decide +kernel
theorem dX10_drawMap_104 : decode cX10_drawMap 104 = .ok (.iconst 0, 1) := by decide +kernel
theorem dX10_drawMap_105 : decode cX10_drawMap 105 = .ok (.ireturn, 1) := by decide +kernel
theorem dX10_setOf_0 : decode cX10_setOf 0 = .ok (.iload_n 0, 1) := by decide +kernel
theorem dX10_setOf_1 : decode cX10_setOf 1 = .ok (.ifCond .lt 9, 3) := by decide +kernel
theorem dX10_setOf_4 : decode cX10_setOf 4 = .ok (.iload_n 0, 1) := by decide +kernel
theorem dX10_setOf_5 : decode cX10_setOf 5 = .ok (.bipush 24, 2) := by decide +kernel
theorem dX10_setOf_7 : decode cX10_setOf 7 = .ok (.if_icmp .lt 7, 3) := by decide +kernel
theorem dX10_setOf_10 : decode cX10_setOf 10 = .ok (.iconst 0, 1) := by decide +kernel
theorem dX10_setOf_11 : decode cX10_setOf 11 = .ok (.goto 6, 3) := by decide +kernel
theorem dX10_setOf_14 : decode cX10_setOf 14 = .ok (.iconst 1, 1) := by decide +kernel
theorem dX10_setOf_15 : decode cX10_setOf 15 = .ok (.iload_n 0, 1) := by decide +kernel
theorem dX10_setOf_16 : decode cX10_setOf 16 = .ok (.ishl, 1) := by decide +kernel
theorem dX10_setOf_17 : decode cX10_setOf 17 = .ok (.ireturn, 1) := by decide +kernel
theorem dX10_holds_0 : decode cX10_holds 0 = .ok (.iload_n 1, 1) := by decide +kernel
theorem dX10_holds_1 : decode cX10_holds 1 = .ok (.ifCond .lt 21, 3) := by decide +kernel
theorem dX10_holds_4 : decode cX10_holds 4 = .ok (.iload_n 1, 1) := by decide +kernel
theorem dX10_holds_5 : decode cX10_holds 5 = .ok (.bipush 24, 2) := by decide +kernel
theorem dX10_holds_7 : decode cX10_holds 7 = .ok (.if_icmp .ge 15, 3) := by decide +kernel
theorem dX10_holds_10 : decode cX10_holds 10 = .ok (.iload_n 0, 1) := by decide +kernel
theorem dX10_holds_11 : decode cX10_holds 11 = .ok (.iload_n 1, 1) := by decide +kernel
theorem dX10_holds_12 : decode cX10_holds 12 = .ok (.ishr, 1) := by decide +kernel
theorem dX10_holds_13 : decode cX10_holds 13 = .ok (.iconst 1, 1) := by decide +kernel
theorem dX10_holds_14 : decode cX10_holds 14 = .ok (.iand, 1) := by decide +kernel
theorem dX10_holds_15 : decode cX10_holds 15 = .ok (.ifCond .eq 7, 3) := by decide +kernel
theorem dX10_holds_18 : decode cX10_holds 18 = .ok (.iconst 1, 1) := by decide +kernel
theorem dX10_holds_19 : decode cX10_holds 19 = .ok (.goto 4, 3) := by decide +kernel
theorem dX10_holds_22 : decode cX10_holds 22 = .ok (.iconst 0, 1) := by decide +kernel
theorem dX10_holds_23 : decode cX10_holds 23 = .ok (.ireturn, 1) := by decide +kernel
theorem dX10_isNameStart_0 : decode cX10_isNameStart 0 = .ok (.iload_n 0, 1) := by decide +kernel
theorem dX10_isNameStart_1 : decode cX10_isNameStart 1 = .ok (.bipush 97, 2) := by decide +kernel
theorem dX10_isNameStart_3 : decode cX10_isNameStart 3 = .ok (.if_icmp .lt 9, 3) := by decide +kernel
theorem dX10_isNameStart_6 : decode cX10_isNameStart 6 = .ok (.iload_n 0, 1) := by decide +kernel
theorem dX10_isNameStart_7 : decode cX10_isNameStart 7 = .ok (.bipush 122, 2) := by decide +kernel
theorem dX10_isNameStart_9 : decode cX10_isNameStart 9 = .ok (.if_icmp .le 9, 3) := by decide +kernel
theorem dX10_isNameStart_12 : decode cX10_isNameStart 12 = .ok (.iload_n 0, 1) := by decide +kernel
theorem dX10_isNameStart_13 : decode cX10_isNameStart 13 = .ok (.bipush 46, 2) := by decide +kernel
theorem dX10_isNameStart_15 : decode cX10_isNameStart 15 = .ok (.if_icmp .ne 7, 3) := by decide +kernel
theorem dX10_isNameStart_18 : decode cX10_isNameStart 18 = .ok (.iconst 1, 1) := by decide +kernel
theorem dX10_isNameStart_19 : decode cX10_isNameStart 19 = .ok (.goto 4, 3) := by decide +kernel
theorem dX10_isNameStart_22 : decode cX10_isNameStart 22 = .ok (.iconst 0, 1) := by decide +kernel
theorem dX10_isNameStart_23 : decode cX10_isNameStart 23 = .ok (.ireturn, 1) := by decide +kernel
theorem dX10_isDigit_0 : decode cX10_isDigit 0 = .ok (.iload_n 0, 1) := by decide +kernel
theorem dX10_isDigit_1 : decode cX10_isDigit 1 = .ok (.bipush 48, 2) := by decide +kernel
theorem dX10_isDigit_3 : decode cX10_isDigit 3 = .ok (.if_icmp .lt 13, 3) := by decide +kernel
theorem dX10_isDigit_6 : decode cX10_isDigit 6 = .ok (.iload_n 0, 1) := by decide +kernel
theorem dX10_isDigit_7 : decode cX10_isDigit 7 = .ok (.bipush 57, 2) := by decide +kernel
theorem dX10_isDigit_9 : decode cX10_isDigit 9 = .ok (.if_icmp .gt 7, 3) := by decide +kernel
theorem dX10_isDigit_12 : decode cX10_isDigit 12 = .ok (.iconst 1, 1) := by decide +kernel
theorem dX10_isDigit_13 : decode cX10_isDigit 13 = .ok (.goto 4, 3) := by decide +kernel
theorem dX10_isDigit_16 : decode cX10_isDigit 16 = .ok (.iconst 0, 1) := by decide +kernel
theorem dX10_isDigit_17 : decode cX10_isDigit 17 = .ok (.ireturn, 1) := by decide +kernel
theorem dX10_isNamePart_0 : decode cX10_isNamePart 0 = .ok (.iload_n 0, 1) := by decide +kernel
theorem dX10_isNamePart_1 : decode cX10_isNamePart 1 = .ok (.invokestatic 279, 3) := by decide +kernel
theorem dX10_isNamePart_4 : decode cX10_isNamePart 4 = .ok (.ifCond .ne 16, 3) := by decide +kernel
theorem dX10_isNamePart_7 : decode cX10_isNamePart 7 = .ok (.iload_n 0, 1) := by decide +kernel
theorem dX10_isNamePart_8 : decode cX10_isNamePart 8 = .ok (.invokestatic 282, 3) := by decide +kernel
theorem dX10_isNamePart_11 : decode cX10_isNamePart 11 = .ok (.ifCond .ne 9, 3) := by decide +kernel
theorem dX10_isNamePart_14 : decode cX10_isNamePart 14 = .ok (.iload_n 0, 1) := by decide +kernel
theorem dX10_isNamePart_15 : decode cX10_isNamePart 15 = .ok (.bipush 45, 2) := by decide +kernel
theorem dX10_isNamePart_17 : decode cX10_isNamePart 17 = .ok (.if_icmp .ne 7, 3) := by decide +kernel
theorem dX10_isNamePart_20 : decode cX10_isNamePart 20 = .ok (.iconst 1, 1) := by decide +kernel
theorem dX10_isNamePart_21 : decode cX10_isNamePart 21 = .ok (.goto 4, 3) := by decide +kernel
theorem dX10_isNamePart_24 : decode cX10_isNamePart 24 = .ok (.iconst 0, 1) := by decide +kernel
theorem dX10_isNamePart_25 : decode cX10_isNamePart 25 = .ok (.ireturn, 1) := by decide +kernel
theorem dX10_isWordPart_0 : decode cX10_isWordPart 0 = .ok (.iload_n 0, 1) := by decide +kernel
theorem dX10_isWordPart_1 : decode cX10_isWordPart 1 = .ok (.bipush 65, 2) := by decide +kernel
theorem dX10_isWordPart_3 : decode cX10_isWordPart 3 = .ok (.if_icmp .lt 13, 3) := by decide +kernel
theorem dX10_isWordPart_6 : decode cX10_isWordPart 6 = .ok (.iload_n 0, 1) := by decide +kernel
theorem dX10_isWordPart_7 : decode cX10_isWordPart 7 = .ok (.bipush 90, 2) := by decide +kernel
theorem dX10_isWordPart_9 : decode cX10_isWordPart 9 = .ok (.if_icmp .gt 7, 3) := by decide +kernel
theorem dX10_isWordPart_12 : decode cX10_isWordPart 12 = .ok (.iconst 1, 1) := by decide +kernel
theorem dX10_isWordPart_13 : decode cX10_isWordPart 13 = .ok (.goto 4, 3) := by decide +kernel
theorem dX10_isWordPart_16 : decode cX10_isWordPart 16 = .ok (.iconst 0, 1) := by decide +kernel
theorem dX10_isWordPart_17 : decode cX10_isWordPart 17 = .ok (.ireturn, 1) := by decide +kernel
theorem dX10_nameByte_0 : decode cX10_nameByte 0 = .ok (.iload_n 2, 1) := by decide +kernel
theorem dX10_nameByte_1 : decode cX10_nameByte 1 = .ok (.ifCond .lt 9, 3) := by decide +kernel
theorem dX10_nameByte_4 : decode cX10_nameByte 4 = .ok (.iload_n 2, 1) := by decide +kernel
theorem dX10_nameByte_5 : decode cX10_nameByte 5 = .ok (.bipush 8, 2) := by decide +kernel
theorem dX10_nameByte_7 : decode cX10_nameByte 7 = .ok (.if_icmp .lt 7, 3) := by decide +kernel
theorem dX10_nameByte_10 : decode cX10_nameByte 10 = .ok (.iconst 0, 1) := by decide +kernel
theorem dX10_nameByte_11 : decode cX10_nameByte 11 = .ok (.goto 14, 3) := by decide +kernel
theorem dX10_nameByte_14 : decode cX10_nameByte 14 = .ok (.lload_n 0, 1) := by decide +kernel
theorem dX10_nameByte_15 : decode cX10_nameByte 15 = .ok (.bipush 8, 2) := by decide +kernel
theorem dX10_nameByte_17 : decode cX10_nameByte 17 = .ok (.iload_n 2, 1) := by decide +kernel
theorem dX10_nameByte_18 : decode cX10_nameByte 18 = .ok (.imul, 1) := by decide +kernel
theorem dX10_nameByte_19 : decode cX10_nameByte 19 = .ok (.lushr, 1) := by decide +kernel
theorem dX10_nameByte_20 : decode cX10_nameByte 20 = .ok (.l2i, 1) := by decide +kernel
theorem dX10_nameByte_21 : decode cX10_nameByte 21 = .ok (.sipush 255, 3) := by decide +kernel
theorem dX10_nameByte_24 : decode cX10_nameByte 24 = .ok (.iand, 1) := by decide +kernel
theorem dX10_nameByte_25 : decode cX10_nameByte 25 = .ok (.ireturn, 1) := by decide +kernel
theorem dX2_init_0 : decode cX2_init 0 = .ok (.aload_n 0, 1) := by decide +kernel
theorem dX2_init_1 : decode cX2_init 1 = .ok (.invokespecial 3, 3) := by decide +kernel
theorem dX2_init_4 : decode cX2_init 4 = .ok (.aload_n 0, 1) := by decide +kernel
theorem dX2_init_5 : decode cX2_init 5 = .ok (.aload_n 1, 1) := by decide +kernel
theorem dX2_init_6 : decode cX2_init 6 = .ok (.putfield 9, 3) := by decide +kernel
theorem dX2_init_9 : decode cX2_init 9 = .ok (.aload_n 0, 1) := by decide +kernel
theorem dX2_init_10 : decode cX2_init 10 = .ok (.aload_n 2, 1) := by decide +kernel
theorem dX2_init_11 : decode cX2_init 11 = .ok (.putfield 15, 3) := by decide +kernel
theorem dX2_init_14 : decode cX2_init 14 = .ok (.aload_n 0, 1) := by decide +kernel
theorem dX2_init_15 : decode cX2_init 15 = .ok (.aload_n 3, 1) := by decide +kernel
theorem dX2_init_16 : decode cX2_init 16 = .ok (.putfield 19, 3) := by decide +kernel
theorem dX2_init_19 : decode cX2_init 19 = .ok (.aload_n 0, 1) := by decide +kernel
theorem dX2_init_20 : decode cX2_init 20 = .ok (.aload 4, 2) := by decide +kernel
theorem dX2_init_22 : decode cX2_init 22 = .ok (.putfield 23, 3) := by decide +kernel
theorem dX2_init_25 : decode cX2_init 25 = .ok (.return_, 1) := by decide +kernel
theorem dX2_writeRouteOf_0 : decode cX2_writeRouteOf 0 = .ok (.aload_n 0, 1) := by decide +kernel
theorem dX2_writeRouteOf_1 : decode cX2_writeRouteOf 1 = .ok (.getfield 23, 3) := by decide +kernel
theorem dX2_writeRouteOf_4 : decode cX2_writeRouteOf 4 = .ok (.invokevirtual 27, 3) := by decide +kernel
theorem dX2_writeRouteOf_7 : decode cX2_writeRouteOf 7 = .ok (.aload_n 0, 1) := by decide +kernel
theorem dX2_writeRouteOf_8 : decode cX2_writeRouteOf 8 = .ok (.getfield 19, 3) := by decide +kernel
theorem dX2_writeRouteOf_11 : decode cX2_writeRouteOf 11 = .ok (.iload_n 1, 1) := by decide +kernel
theorem dX2_writeRouteOf_12 : decode cX2_writeRouteOf 12 = .ok (.invokevirtual 32, 3) := by decide +kernel
theorem dX2_writeRouteOf_15 : decode cX2_writeRouteOf 15 = .ok (.istore_n 2, 1) := by decide +kernel
theorem dX2_writeRouteOf_16 : decode cX2_writeRouteOf 16 = .ok (.iload_n 2, 1) := by decide +kernel
theorem dX2_writeRouteOf_17 : decode cX2_writeRouteOf 17 = .ok (.iconst (-1), 1) := by decide +kernel
theorem dX2_writeRouteOf_18 : decode cX2_writeRouteOf 18 = .ok (.if_icmp .ne 4, 3) := by decide +kernel
theorem dX2_writeRouteOf_21 : decode cX2_writeRouteOf 21 = .ok (.return_, 1) := by decide +kernel
theorem dX2_writeRouteOf_22 : decode cX2_writeRouteOf 22 = .ok (.aload_n 0, 1) := by decide +kernel
theorem dX2_writeRouteOf_23 : decode cX2_writeRouteOf 23 = .ok (.iload_n 2, 1) := by decide +kernel
theorem dX2_writeRouteOf_24 : decode cX2_writeRouteOf 24 = .ok (.invokevirtual 38, 3) := by decide +kernel
theorem dX2_writeRouteOf_27 : decode cX2_writeRouteOf 27 = .ok (.aload_n 0, 1) := by decide +kernel
theorem dX2_writeRouteOf_28 : decode cX2_writeRouteOf 28 = .ok (.getfield 23, 3) := by decide +kernel
theorem dX2_writeRouteOf_31 : decode cX2_writeRouteOf 31 = .ok (.bipush 37, 2) := by decide +kernel
theorem dX2_writeRouteOf_33 : decode cX2_writeRouteOf 33 = .ok (.invokevirtual 42, 3) := by decide +kernel
theorem dX2_writeRouteOf_36 : decode cX2_writeRouteOf 36 = .ok (.aload_n 0, 1) := by decide +kernel
theorem dX2_writeRouteOf_37 : decode cX2_writeRouteOf 37 = .ok (.iload_n 2, 1) := by decide +kernel
theorem dX2_writeRouteOf_38 : decode cX2_writeRouteOf 38 = .ok (.invokevirtual 45, 3) := by decide +kernel
theorem dX2_writeRouteOf_41 : decode cX2_writeRouteOf 41 = .ok (.return_, 1) := by decide +kernel
theorem dX2_writeAddress_0 : decode cX2_writeAddress 0 = .ok (.aload_n 0, 1) := by decide +kernel
theorem dX2_writeAddress_1 : decode cX2_writeAddress 1 = .ok (.getfield 23, 3) := by decide +kernel
theorem dX2_writeAddress_4 : decode cX2_writeAddress 4 = .ok (.invokevirtual 27, 3) := by decide +kernel
theorem dX2_writeAddress_7 : decode cX2_writeAddress 7 = .ok (.aload_n 1, 1) := by decide +kernel
theorem dX2_writeAddress_8 : decode cX2_writeAddress 8 = .ok (.invokevirtual 48, 3) := by decide +kernel
theorem dX2_writeAddress_11 : decode cX2_writeAddress 11 = .ok (.iconst 1, 1) := by decide +kernel
theorem dX2_writeAddress_12 : decode cX2_writeAddress 12 = .ok (.isub, 1) := by decide +kernel
theorem dX2_writeAddress_13 : decode cX2_writeAddress 13 = .ok (.istore_n 2, 1) := by decide +kernel
theorem dX2_writeAddress_14 : decode cX2_writeAddress 14 = .ok (.iload_n 2, 1) := by decide +kernel
theorem dX2_writeAddress_15 : decode cX2_writeAddress 15 = .ok (.ifCond .lt 50, 3) := by decide +kernel
theorem dX2_writeAddress_18 : decode cX2_writeAddress 18 = .ok (.aload_n 1, 1) := by decide +kernel
theorem dX2_writeAddress_19 : decode cX2_writeAddress 19 = .ok (.iload_n 2, 1) := by decide +kernel
theorem dX2_writeAddress_20 : decode cX2_writeAddress 20 = .ok (.invokevirtual 52, 3) := by decide +kernel
theorem dX2_writeAddress_23 : decode cX2_writeAddress 23 = .ok (.bipush 33, 2) := by decide +kernel
theorem dX2_writeAddress_25 : decode cX2_writeAddress 25 = .ok (.if_icmp .ne 34, 3) := by decide +kernel
theorem dX2_writeAddress_28 : decode cX2_writeAddress 28 = .ok (.aload_n 1, 1) := by decide +kernel
theorem dX2_writeAddress_29 : decode cX2_writeAddress 29 = .ok (.iload_n 2, 1) := by decide +kernel
theorem dX2_writeAddress_30 : decode cX2_writeAddress 30 = .ok (.invokestatic 55, 3) := by decide +kernel
theorem dX2_writeAddress_33 : decode cX2_writeAddress 33 = .ok (.istore_n 3, 1) := by decide +kernel
theorem dX2_writeAddress_34 : decode cX2_writeAddress 34 = .ok (.aload_n 0, 1) := by decide +kernel
theorem dX2_writeAddress_35 : decode cX2_writeAddress 35 = .ok (.aload_n 1, 1) := by decide +kernel
theorem dX2_writeAddress_36 : decode cX2_writeAddress 36 = .ok (.iload_n 3, 1) := by decide +kernel
theorem dX2_writeAddress_37 : decode cX2_writeAddress 37 = .ok (.iload_n 2, 1) := by decide +kernel
theorem dX2_writeAddress_38 : decode cX2_writeAddress 38 = .ok (.invokevirtual 59, 3) := by decide +kernel
theorem dX2_writeAddress_41 : decode cX2_writeAddress 41 = .ok (.istore 4, 2) := by decide +kernel
theorem dX2_writeAddress_43 : decode cX2_writeAddress 43 = .ok (.iload 4, 2) := by decide +kernel
theorem dX2_writeAddress_45 : decode cX2_writeAddress 45 = .ok (.iconst (-1), 1) := by decide +kernel
theorem dX2_writeAddress_46 : decode cX2_writeAddress 46 = .ok (.if_icmp .eq 13, 3) := by decide +kernel
theorem dX2_writeAddress_49 : decode cX2_writeAddress 49 = .ok (.aload_n 0, 1) := by decide +kernel
theorem dX2_writeAddress_50 : decode cX2_writeAddress 50 = .ok (.iload 4, 2) := by decide +kernel
theorem dX2_writeAddress_52 : decode cX2_writeAddress 52 = .ok (.aload_n 1, 1) := by decide +kernel
theorem dX2_writeAddress_53 : decode cX2_writeAddress 53 = .ok (.iload_n 3, 1) := by decide +kernel
theorem dX2_writeAddress_54 : decode cX2_writeAddress 54 = .ok (.iload_n 2, 1) := by decide +kernel
theorem dX2_writeAddress_55 : decode cX2_writeAddress 55 = .ok (.invokevirtual 63, 3) := by decide +kernel
theorem dX2_writeAddress_58 : decode cX2_writeAddress 58 = .ok (.return_, 1) := by decide +kernel
theorem dX2_writeAddress_59 : decode cX2_writeAddress 59 = .ok (.iinc 2 (-1), 3) := by decide +kernel
theorem dX2_writeAddress_62 : decode cX2_writeAddress 62 = .ok (.goto (-48), 3) := by decide +kernel
theorem dX2_writeAddress_65 : decode cX2_writeAddress 65 = .ok (.aload_n 0, 1) := by decide +kernel
theorem dX2_writeAddress_66 : decode cX2_writeAddress 66 = .ok (.getfield 23, 3) := by decide +kernel
theorem dX2_writeAddress_69 : decode cX2_writeAddress 69 = .ok (.aload_n 1, 1) := by decide +kernel
theorem dX2_writeAddress_70 : decode cX2_writeAddress 70 = .ok (.iconst 0, 1) := by decide +kernel
theorem dX2_writeAddress_71 : decode cX2_writeAddress 71 = .ok (.aload_n 1, 1) := by decide +kernel
theorem dX2_writeAddress_72 : decode cX2_writeAddress 72 = .ok (.invokevirtual 48, 3) := by decide +kernel
theorem dX2_writeAddress_75 : decode cX2_writeAddress 75 = .ok (.invokevirtual 67, 3) := by decide +kernel
theorem dX2_writeAddress_78 : decode cX2_writeAddress 78 = .ok (.return_, 1) := by decide +kernel
theorem dX2_writeAlong_0 : decode cX2_writeAlong 0 = .ok (.iload 4, 2) := by decide +kernel
theorem dX2_writeAlong_2 : decode cX2_writeAlong 2 = .ok (.iload_n 3, 1) := by decide +kernel
theorem dX2_writeAlong_3 : decode cX2_writeAlong 3 = .ok (.isub, 1) := by decide +kernel
theorem dX2_writeAlong_4 : decode cX2_writeAlong 4 = .ok (.aload_n 0, 1) := by decide +kernel
theorem dX2_writeAlong_5 : decode cX2_writeAlong 5 = .ok (.iload_n 1, 1) := by decide +kernel
theorem dX2_writeAlong_6 : decode cX2_writeAlong 6 = .ok (.invokevirtual 71, 3) := by decide +kernel
theorem dX2_writeAlong_9 : decode cX2_writeAlong 9 = .ok (.if_icmp .le 7, 3) := by decide +kernel
theorem dX2_writeAlong_12 : decode cX2_writeAlong 12 = .ok (.iconst 1, 1) := by decide +kernel
theorem dX2_writeAlong_13 : decode cX2_writeAlong 13 = .ok (.goto 4, 3) := by decide +kernel
theorem dX2_writeAlong_16 : decode cX2_writeAlong 16 = .ok (.iconst 0, 1) := by decide +kernel
theorem dX2_writeAlong_17 : decode cX2_writeAlong 17 = .ok (.istore 5, 2) := by decide +kernel
theorem dX2_writeAlong_19 : decode cX2_writeAlong 19 = .ok (.aload_n 0, 1) := by decide +kernel
theorem dX2_writeAlong_20 : decode cX2_writeAlong 20 = .ok (.getfield 19, 3) := by decide +kernel
theorem dX2_writeAlong_23 : decode cX2_writeAlong 23 = .ok (.iload_n 1, 1) := by decide +kernel
theorem dX2_writeAlong_24 : decode cX2_writeAlong 24 = .ok (.invokevirtual 32, 3) := by decide +kernel
theorem dX2_writeAlong_27 : decode cX2_writeAlong 27 = .ok (.istore 6, 2) := by decide +kernel
theorem dX2_writeAlong_29 : decode cX2_writeAlong 29 = .ok (.aload_n 0, 1) := by decide +kernel
theorem dX2_writeAlong_30 : decode cX2_writeAlong 30 = .ok (.iload 6, 2) := by decide +kernel
theorem dX2_writeAlong_32 : decode cX2_writeAlong 32 = .ok (.invokevirtual 38, 3) := by decide +kernel
theorem dX2_writeAlong_35 : decode cX2_writeAlong 35 = .ok (.iload 5, 2) := by decide +kernel
theorem dX2_writeAlong_37 : decode cX2_writeAlong 37 = .ok (.ifCond .eq 23, 3) := by decide +kernel
theorem dX2_writeAlong_40 : decode cX2_writeAlong 40 = .ok (.aload_n 0, 1) := by decide +kernel
theorem dX2_writeAlong_41 : decode cX2_writeAlong 41 = .ok (.getfield 23, 3) := by decide +kernel
theorem dX2_writeAlong_44 : decode cX2_writeAlong 44 = .ok (.aload_n 2, 1) := by decide +kernel
theorem dX2_writeAlong_45 : decode cX2_writeAlong 45 = .ok (.iload_n 3, 1) := by decide +kernel
theorem dX2_writeAlong_46 : decode cX2_writeAlong 46 = .ok (.iload 4, 2) := by decide +kernel
theorem dX2_writeAlong_48 : decode cX2_writeAlong 48 = .ok (.invokevirtual 67, 3) := by decide +kernel
theorem dX2_writeAlong_51 : decode cX2_writeAlong 51 = .ok (.aload_n 0, 1) := by decide +kernel
theorem dX2_writeAlong_52 : decode cX2_writeAlong 52 = .ok (.getfield 23, 3) := by decide +kernel
theorem dX2_writeAlong_55 : decode cX2_writeAlong 55 = .ok (.bipush 33, 2) := by decide +kernel
theorem dX2_writeAlong_57 : decode cX2_writeAlong 57 = .ok (.invokevirtual 42, 3) := by decide +kernel
theorem dX2_writeAlong_60 : decode cX2_writeAlong 60 = .ok (.aload_n 0, 1) := by decide +kernel
theorem dX2_writeAlong_61 : decode cX2_writeAlong 61 = .ok (.getfield 23, 3) := by decide +kernel
theorem dX2_writeAlong_64 : decode cX2_writeAlong 64 = .ok (.aload_n 2, 1) := by decide +kernel
theorem dX2_writeAlong_65 : decode cX2_writeAlong 65 = .ok (.iload 4, 2) := by decide +kernel
theorem dX2_writeAlong_67 : decode cX2_writeAlong 67 = .ok (.iconst 1, 1) := by decide +kernel
theorem dX2_writeAlong_68 : decode cX2_writeAlong 68 = .ok (.iadd, 1) := by decide +kernel
theorem dX2_writeAlong_69 : decode cX2_writeAlong 69 = .ok (.aload_n 2, 1) := by decide +kernel
theorem dX2_writeAlong_70 : decode cX2_writeAlong 70 = .ok (.invokevirtual 48, 3) := by decide +kernel
theorem dX2_writeAlong_73 : decode cX2_writeAlong 73 = .ok (.invokevirtual 67, 3) := by decide +kernel
theorem dX2_writeAlong_76 : decode cX2_writeAlong 76 = .ok (.aload_n 0, 1) := by decide +kernel
theorem dX2_writeAlong_77 : decode cX2_writeAlong 77 = .ok (.iload 6, 2) := by decide +kernel
theorem dX2_writeAlong_79 : decode cX2_writeAlong 79 = .ok (.invokevirtual 45, 3) := by decide +kernel
theorem dX2_writeAlong_82 : decode cX2_writeAlong 82 = .ok (.return_, 1) := by decide +kernel
theorem dX2_beginOfPart_0 : decode cX2_beginOfPart 0 = .ok (.iload_n 1, 1) := by decide +kernel
theorem dX2_beginOfPart_1 : decode cX2_beginOfPart 1 = .ok (.istore_n 2, 1) := by decide +kernel
theorem dX2_beginOfPart_2 : decode cX2_beginOfPart 2 = .ok (.iload_n 2, 1) := by decide +kernel
theorem dX2_beginOfPart_3 : decode cX2_beginOfPart 3 = .ok (.ifCond .le 21, 3) := by decide +kernel
theorem dX2_beginOfPart_6 : decode cX2_beginOfPart 6 = .ok (.aload_n 0, 1) := by decide +kernel
theorem dX2_beginOfPart_7 : decode cX2_beginOfPart 7 = .ok (.iload_n 2, 1) := by decide +kernel
theorem dX2_beginOfPart_8 : decode cX2_beginOfPart 8 = .ok (.iconst 1, 1) := by decide +kernel
theorem dX2_beginOfPart_9 : decode cX2_beginOfPart 9 = .ok (.isub, 1) := by decide +kernel
theorem dX2_beginOfPart_10 : decode cX2_beginOfPart 10 = .ok (.invokevirtual 52, 3) := by decide +kernel
theorem dX2_beginOfPart_13 : decode cX2_beginOfPart 13 = .ok (.bipush 33, 2) := by decide +kernel
theorem dX2_beginOfPart_15 : decode cX2_beginOfPart 15 = .ok (.if_icmp .eq 9, 3) := by decide +kernel
theorem dX2_beginOfPart_18 : decode cX2_beginOfPart 18 = .ok (.iinc 2 (-1), 3) := by decide +kernel
theorem dX2_beginOfPart_21 : decode cX2_beginOfPart 21 = .ok (.goto (-19), 3) := by decide +kernel
theorem dX2_beginOfPart_24 : decode cX2_beginOfPart 24 = .ok (.iload_n 2, 1) := by decide +kernel
theorem dX2_beginOfPart_25 : decode cX2_beginOfPart 25 = .ok (.ireturn, 1) := by decide +kernel
theorem dX2_nodeOfPart_0 : decode cX2_nodeOfPart 0 = .ok (.iconst (-1), 1) := by decide +kernel
theorem dX2_nodeOfPart_1 : decode cX2_nodeOfPart 1 = .ok (.istore 4, 2) := by decide +kernel
theorem dX2_nodeOfPart_3 : decode cX2_nodeOfPart 3 = .ok (.iconst 0, 1) := by decide +kernel
theorem dX2_nodeOfPart_4 : decode cX2_nodeOfPart 4 = .ok (.istore 5, 2) := by decide +kernel
theorem dX2_nodeOfPart_6 : decode cX2_nodeOfPart 6 = .ok (.iload 5, 2) := by decide +kernel
theorem dX2_nodeOfPart_8 : decode cX2_nodeOfPart 8 = .ok (.aload_n 0, 1) := by decide +kernel
theorem dX2_nodeOfPart_9 : decode cX2_nodeOfPart 9 = .ok (.getfield 9, 3) := by decide +kernel
theorem dX2_nodeOfPart_12 : decode cX2_nodeOfPart 12 = .ok (.invokevirtual 74, 3) := by decide +kernel
theorem dX2_nodeOfPart_15 : decode cX2_nodeOfPart 15 = .ok (.if_icmp .ge 85, 3) := by decide +kernel
theorem dX2_nodeOfPart_18 : decode cX2_nodeOfPart 18 = .ok (.aload_n 0, 1) := by decide +kernel
theorem dX2_nodeOfPart_19 : decode cX2_nodeOfPart 19 = .ok (.aload_n 1, 1) := by decide +kernel
theorem dX2_nodeOfPart_20 : decode cX2_nodeOfPart 20 = .ok (.iload_n 2, 1) := by decide +kernel
theorem dX2_nodeOfPart_21 : decode cX2_nodeOfPart 21 = .ok (.iload_n 3, 1) := by decide +kernel
theorem dX2_nodeOfPart_22 : decode cX2_nodeOfPart 22 = .ok (.iload 5, 2) := by decide +kernel
theorem dX2_nodeOfPart_24 : decode cX2_nodeOfPart 24 = .ok (.invokevirtual 79, 3) := by decide +kernel
theorem dX2_nodeOfPart_27 : decode cX2_nodeOfPart 27 = .ok (.ifCond .eq 67, 3) := by decide +kernel
theorem dX2_nodeOfPart_30 : decode cX2_nodeOfPart 30 = .ok (.aload_n 0, 1) := by decide +kernel
theorem dX2_nodeOfPart_31 : decode cX2_nodeOfPart 31 = .ok (.iload 5, 2) := by decide +kernel
theorem dX2_nodeOfPart_33 : decode cX2_nodeOfPart 33 = .ok (.invokevirtual 83, 3) := by decide +kernel
theorem dX2_nodeOfPart_36 : decode cX2_nodeOfPart 36 = .ok (.ifCond .ne 6, 3) := by decide +kernel
theorem dX2_nodeOfPart_39 : decode cX2_nodeOfPart 39 = .ok (.goto 55, 3) := by decide +kernel
theorem dX2_nodeOfPart_42 : decode cX2_nodeOfPart 42 = .ok (.aload_n 0, 1) := by decide +kernel
theorem dX2_nodeOfPart_43 : decode cX2_nodeOfPart 43 = .ok (.iload 5, 2) := by decide +kernel
theorem dX2_nodeOfPart_45 : decode cX2_nodeOfPart 45 = .ok (.invokevirtual 71, 3) := by decide +kernel
theorem dX2_nodeOfPart_48 : decode cX2_nodeOfPart 48 = .ok (.istore 6, 2) := by decide +kernel
theorem dX2_nodeOfPart_50 : decode cX2_nodeOfPart 50 = .ok (.iload 6, 2) := by decide +kernel
theorem dX2_nodeOfPart_52 : decode cX2_nodeOfPart 52 = .ok (.iload_n 3, 1) := by decide +kernel
theorem dX2_nodeOfPart_53 : decode cX2_nodeOfPart 53 = .ok (.iload_n 2, 1) := by decide +kernel
theorem dX2_nodeOfPart_54 : decode cX2_nodeOfPart 54 = .ok (.isub, 1) := by decide +kernel
theorem dX2_nodeOfPart_55 : decode cX2_nodeOfPart 55 = .ok (.if_icmp .ne 6, 3) := by decide +kernel
theorem dX2_nodeOfPart_58 : decode cX2_nodeOfPart 58 = .ok (.iload 5, 2) := by decide +kernel
theorem dX2_nodeOfPart_60 : decode cX2_nodeOfPart 60 = .ok (.ireturn, 1) := by decide +kernel
theorem dX2_nodeOfPart_61 : decode cX2_nodeOfPart 61 = .ok (.aload_n 0, 1) := by decide +kernel
theorem dX2_nodeOfPart_62 : decode cX2_nodeOfPart 62 = .ok (.getfield 9, 3) := by decide +kernel
theorem dX2_nodeOfPart_65 : decode cX2_nodeOfPart 65 = .ok (.iload 5, 2) := by decide +kernel
theorem dX2_nodeOfPart_67 : decode cX2_nodeOfPart 67 = .ok (.invokevirtual 87, 3) := by decide +kernel
theorem dX2_nodeOfPart_70 : decode cX2_nodeOfPart 70 = .ok (.ifCond .eq 24, 3) := by decide +kernel
theorem dX2_nodeOfPart_73 : decode cX2_nodeOfPart 73 = .ok (.iload 4, 2) := by decide +kernel
theorem dX2_nodeOfPart_75 : decode cX2_nodeOfPart 75 = .ok (.iconst (-1), 1) := by decide +kernel
theorem dX2_nodeOfPart_76 : decode cX2_nodeOfPart 76 = .ok (.if_icmp .eq 14, 3) := by decide +kernel
theorem dX2_nodeOfPart_79 : decode cX2_nodeOfPart 79 = .ok (.iload 6, 2) := by decide +kernel
theorem dX2_nodeOfPart_81 : decode cX2_nodeOfPart 81 = .ok (.aload_n 0, 1) := by decide +kernel
theorem dX2_nodeOfPart_82 : decode cX2_nodeOfPart 82 = .ok (.iload 4, 2) := by decide +kernel
theorem dX2_nodeOfPart_84 : decode cX2_nodeOfPart 84 = .ok (.invokevirtual 71, 3) := by decide +kernel
theorem dX2_nodeOfPart_87 : decode cX2_nodeOfPart 87 = .ok (.if_icmp .le 7, 3) := by decide +kernel
theorem dX2_nodeOfPart_90 : decode cX2_nodeOfPart 90 = .ok (.iload 5, 2) := by decide +kernel
theorem dX2_nodeOfPart_92 : decode cX2_nodeOfPart 92 = .ok (.istore 4, 2) := by decide +kernel
theorem dX2_nodeOfPart_94 : decode cX2_nodeOfPart 94 = .ok (.iinc 5 1, 3) := by decide +kernel
theorem dX2_nodeOfPart_97 : decode cX2_nodeOfPart 97 = .ok (.goto (-91), 3) := by decide +kernel
theorem dX2_nodeOfPart_100 : decode cX2_nodeOfPart 100 = .ok (.iload 4, 2) := by decide +kernel
theorem dX2_nodeOfPart_102 : decode cX2_nodeOfPart 102 = .ok (.ireturn, 1) := by decide +kernel
theorem dX2_isRouted_0 : decode cX2_isRouted 0 = .ok (.aload_n 0, 1) := by decide +kernel
theorem dX2_isRouted_1 : decode cX2_isRouted 1 = .ok (.getfield 9, 3) := by decide +kernel
theorem dX2_isRouted_4 : decode cX2_isRouted 4 = .ok (.iload_n 1, 1) := by decide +kernel
theorem dX2_isRouted_5 : decode cX2_isRouted 5 = .ok (.invokevirtual 90, 3) := by decide +kernel
theorem dX2_isRouted_8 : decode cX2_isRouted 8 = .ok (.ifCond .ne 19, 3) := by decide +kernel
theorem dX2_isRouted_11 : decode cX2_isRouted 11 = .ok (.aload_n 0, 1) := by decide +kernel
theorem dX2_isRouted_12 : decode cX2_isRouted 12 = .ok (.getfield 19, 3) := by decide +kernel
theorem dX2_isRouted_15 : decode cX2_isRouted 15 = .ok (.iload_n 1, 1) := by decide +kernel
theorem dX2_isRouted_16 : decode cX2_isRouted 16 = .ok (.invokevirtual 93, 3) := by decide +kernel
theorem dX2_isRouted_19 : decode cX2_isRouted 19 = .ok (.iconst (-1), 1) := by decide +kernel
theorem dX2_isRouted_20 : decode cX2_isRouted 20 = .ok (.if_icmp .eq 7, 3) := by decide +kernel
theorem dX2_isRouted_23 : decode cX2_isRouted 23 = .ok (.iconst 1, 1) := by decide +kernel
theorem dX2_isRouted_24 : decode cX2_isRouted 24 = .ok (.goto 4, 3) := by decide +kernel
theorem dX2_isRouted_27 : decode cX2_isRouted 27 = .ok (.iconst 0, 1) := by decide +kernel
theorem dX2_isRouted_28 : decode cX2_isRouted 28 = .ok (.ireturn, 1) := by decide +kernel
theorem dX2_endsWithName_0 : decode cX2_endsWithName 0 = .ok (.aload_n 0, 1) := by decide +kernel
theorem dX2_endsWithName_1 : decode cX2_endsWithName 1 = .ok (.iload 4, 2) := by decide +kernel
theorem dX2_endsWithName_3 : decode cX2_endsWithName 3 = .ok (.invokevirtual 71, 3) := by decide +kernel
theorem dX2_endsWithName_6 : decode cX2_endsWithName 6 = .ok (.istore 5, 2) := by decide +kernel
theorem dX2_endsWithName_8 : decode cX2_endsWithName 8 = .ok (.iload 5, 2) := by decide +kernel
theorem dX2_endsWithName_10 : decode cX2_endsWithName 10 = .ok (.iload_n 3, 1) := by decide +kernel
theorem dX2_endsWithName_11 : decode cX2_endsWithName 11 = .ok (.iload_n 2, 1) := by decide +kernel
theorem dX2_endsWithName_12 : decode cX2_endsWithName 12 = .ok (.isub, 1) := by decide +kernel
theorem dX2_endsWithName_13 : decode cX2_endsWithName 13 = .ok (.if_icmp .le 5, 3) := by decide +kernel
theorem dX2_endsWithName_16 : decode cX2_endsWithName 16 = .ok (.iconst 0, 1) := by decide +kernel
theorem dX2_endsWithName_17 : decode cX2_endsWithName 17 = .ok (.ireturn, 1) := by decide +kernel
theorem dX2_endsWithName_18 : decode cX2_endsWithName 18 = .ok (.iconst 0, 1) := by decide +kernel
theorem dX2_endsWithName_19 : decode cX2_endsWithName 19 = .ok (.istore 6, 2) := by decide +kernel
theorem dX2_endsWithName_21 : decode cX2_endsWithName 21 = .ok (.iload 6, 2) := by decide +kernel
theorem dX2_endsWithName_23 : decode cX2_endsWithName 23 = .ok (.iload 5, 2) := by decide +kernel
theorem dX2_endsWithName_25 : decode cX2_endsWithName 25 = .ok (.if_icmp .ge 39, 3) := by decide +kernel
theorem dX2_endsWithName_28 : decode cX2_endsWithName 28 = .ok (.aload_n 1, 1) := by decide +kernel
theorem dX2_endsWithName_29 : decode cX2_endsWithName 29 = .ok (.iload_n 3, 1) := by decide +kernel
theorem dX2_endsWithName_30 : decode cX2_endsWithName 30 = .ok (.iload 5, 2) := by decide +kernel
theorem dX2_endsWithName_32 : decode cX2_endsWithName 32 = .ok (.isub, 1) := by decide +kernel
theorem dX2_endsWithName_33 : decode cX2_endsWithName 33 = .ok (.iload 6, 2) := by decide +kernel
theorem dX2_endsWithName_35 : decode cX2_endsWithName 35 = .ok (.iadd, 1) := by decide +kernel
theorem dX2_endsWithName_36 : decode cX2_endsWithName 36 = .ok (.invokevirtual 52, 3) := by decide +kernel
theorem dX2_endsWithName_39 : decode cX2_endsWithName 39 = .ok (.aload_n 0, 1) := by decide +kernel
theorem dX2_endsWithName_40 : decode cX2_endsWithName 40 = .ok (.getfield 9, 3) := by decide +kernel
theorem dX2_endsWithName_43 : decode cX2_endsWithName 43 = .ok (.iload 4, 2) := by decide +kernel
theorem dX2_endsWithName_45 : decode cX2_endsWithName 45 = .ok (.invokevirtual 96, 3) := by decide +kernel
theorem dX2_endsWithName_48 : decode cX2_endsWithName 48 = .ok (.iload 6, 2) := by decide +kernel
theorem dX2_endsWithName_50 : decode cX2_endsWithName 50 = .ok (.invokestatic 100, 3) := by decide +kernel
theorem dX2_endsWithName_53 : decode cX2_endsWithName 53 = .ok (.if_icmp .eq 5, 3) := by decide +kernel
theorem dX2_endsWithName_56 : decode cX2_endsWithName 56 = .ok (.iconst 0, 1) := by decide +kernel
theorem dX2_endsWithName_57 : decode cX2_endsWithName 57 = .ok (.ireturn, 1) := by decide +kernel
theorem dX2_endsWithName_58 : decode cX2_endsWithName 58 = .ok (.iinc 6 1, 3) := by decide +kernel
theorem dX2_endsWithName_61 : decode cX2_endsWithName 61 = .ok (.goto (-40), 3) := by decide +kernel
theorem dX2_endsWithName_64 : decode cX2_endsWithName 64 = .ok (.iconst 1, 1) := by decide +kernel
theorem dX2_endsWithName_65 : decode cX2_endsWithName 65 = .ok (.ireturn, 1) := by decide +kernel
theorem dX2_lengthOfName_0 : decode cX2_lengthOfName 0 = .ok (.iconst 0, 1) := by decide +kernel
theorem dX2_lengthOfName_1 : decode cX2_lengthOfName 1 = .ok (.istore_n 2, 1) := by decide +kernel
theorem dX2_lengthOfName_2 : decode cX2_lengthOfName 2 = .ok (.iload_n 2, 1) := by decide +kernel
theorem dX2_lengthOfName_3 : decode cX2_lengthOfName 3 = .ok (.bipush 8, 2) := by decide +kernel
theorem dX2_lengthOfName_5 : decode cX2_lengthOfName 5 = .ok (.if_icmp .ge 24, 3) := by decide +kernel
theorem dX2_lengthOfName_8 : decode cX2_lengthOfName 8 = .ok (.aload_n 0, 1) := by decide +kernel
theorem dX2_lengthOfName_9 : decode cX2_lengthOfName 9 = .ok (.getfield 9, 3) := by decide +kernel
theorem dX2_lengthOfName_12 : decode cX2_lengthOfName 12 = .ok (.iload_n 1, 1) := by decide +kernel
theorem dX2_lengthOfName_13 : decode cX2_lengthOfName 13 = .ok (.invokevirtual 96, 3) := by decide +kernel
theorem dX2_lengthOfName_16 : decode cX2_lengthOfName 16 = .ok (.iload_n 2, 1) := by decide +kernel
theorem dX2_lengthOfName_17 : decode cX2_lengthOfName 17 = .ok (.invokestatic 100, 3) := by decide +kernel
theorem dX2_lengthOfName_20 : decode cX2_lengthOfName 20 = .ok (.ifCond .eq 9, 3) := by decide +kernel
theorem dX2_lengthOfName_23 : decode cX2_lengthOfName 23 = .ok (.iinc 2 1, 3) := by decide +kernel
theorem dX2_lengthOfName_26 : decode cX2_lengthOfName 26 = .ok (.goto (-24), 3) := by decide +kernel
theorem dX2_lengthOfName_29 : decode cX2_lengthOfName 29 = .ok (.iload_n 2, 1) := by decide +kernel
theorem dX2_lengthOfName_30 : decode cX2_lengthOfName 30 = .ok (.ireturn, 1) := by decide +kernel
theorem dX2_writeLeft_0 : decode cX2_writeLeft 0 = .ok (.iconst 1, 1) := by decide +kernel
theorem dX2_writeLeft_1 : decode cX2_writeLeft 1 = .ok (.istore_n 2, 1) := by decide +kernel
theorem dX2_writeLeft_2 : decode cX2_writeLeft 2 = .ok (.iload_n 2, 1) := by decide +kernel
theorem dX2_writeLeft_3 : decode cX2_writeLeft 3 = .ok (.iload_n 1, 1) := by decide +kernel
theorem dX2_writeLeft_4 : decode cX2_writeLeft 4 = .ok (.if_icmp .gt 32, 3) := by decide +kernel
theorem dX2_writeLeft_7 : decode cX2_writeLeft 7 = .ok (.aload_n 0, 1) := by decide +kernel
theorem dX2_writeLeft_8 : decode cX2_writeLeft 8 = .ok (.iload_n 2, 1) := by decide +kernel
theorem dX2_writeLeft_9 : decode cX2_writeLeft 9 = .ok (.invokevirtual 104, 3) := by decide +kernel
theorem dX2_writeLeft_12 : decode cX2_writeLeft 12 = .ok (.iconst 1, 1) := by decide +kernel
theorem dX2_writeLeft_13 : decode cX2_writeLeft 13 = .ok (.if_icmp .ne 17, 3) := by decide +kernel
theorem dX2_writeLeft_16 : decode cX2_writeLeft 16 = .ok (.aload_n 0, 1) := by decide +kernel
theorem dX2_writeLeft_17 : decode cX2_writeLeft 17 = .ok (.iload_n 2, 1) := by decide +kernel
theorem dX2_writeLeft_18 : decode cX2_writeLeft 18 = .ok (.invokevirtual 107, 3) := by decide +kernel
theorem dX2_writeLeft_21 : decode cX2_writeLeft 21 = .ok (.aload_n 0, 1) := by decide +kernel
theorem dX2_writeLeft_22 : decode cX2_writeLeft 22 = .ok (.getfield 23, 3) := by decide +kernel
theorem dX2_writeLeft_25 : decode cX2_writeLeft 25 = .ok (.bipush 33, 2) := by decide +kernel
theorem dX2_writeLeft_27 : decode cX2_writeLeft 27 = .ok (.invokevirtual 42, 3) := by decide +kernel
theorem dX2_writeLeft_30 : decode cX2_writeLeft 30 = .ok (.iinc 2 1, 3) := by decide +kernel
theorem dX2_writeLeft_33 : decode cX2_writeLeft 33 = .ok (.goto (-31), 3) := by decide +kernel
theorem dX2_writeLeft_36 : decode cX2_writeLeft 36 = .ok (.return_, 1) := by decide +kernel
theorem dX2_writeRight_0 : decode cX2_writeRight 0 = .ok (.iload_n 1, 1) := by decide +kernel
theorem dX2_writeRight_1 : decode cX2_writeRight 1 = .ok (.istore_n 2, 1) := by decide +kernel
theorem dX2_writeRight_2 : decode cX2_writeRight 2 = .ok (.iload_n 2, 1) := by decide +kernel
theorem dX2_writeRight_3 : decode cX2_writeRight 3 = .ok (.iconst 1, 1) := by decide +kernel
theorem dX2_writeRight_4 : decode cX2_writeRight 4 = .ok (.if_icmp .lt 32, 3) := by decide +kernel
theorem dX2_writeRight_7 : decode cX2_writeRight 7 = .ok (.aload_n 0, 1) := by decide +kernel
theorem dX2_writeRight_8 : decode cX2_writeRight 8 = .ok (.iload_n 2, 1) := by decide +kernel
theorem dX2_writeRight_9 : decode cX2_writeRight 9 = .ok (.invokevirtual 104, 3) := by decide +kernel
theorem dX2_writeRight_12 : decode cX2_writeRight 12 = .ok (.iconst 2, 1) := by decide +kernel
theorem dX2_writeRight_13 : decode cX2_writeRight 13 = .ok (.if_icmp .ne 17, 3) := by decide +kernel
theorem dX2_writeRight_16 : decode cX2_writeRight 16 = .ok (.aload_n 0, 1) := by decide +kernel
theorem dX2_writeRight_17 : decode cX2_writeRight 17 = .ok (.getfield 23, 3) := by decide +kernel
theorem dX2_writeRight_20 : decode cX2_writeRight 20 = .ok (.bipush 64, 2) := by decide +kernel
theorem dX2_writeRight_22 : decode cX2_writeRight 22 = .ok (.invokevirtual 42, 3) := by decide +kernel
theorem dX2_writeRight_25 : decode cX2_writeRight 25 = .ok (.aload_n 0, 1) := by decide +kernel
theorem dX2_writeRight_26 : decode cX2_writeRight 26 = .ok (.iload_n 2, 1) := by decide +kernel
theorem dX2_writeRight_27 : decode cX2_writeRight 27 = .ok (.invokevirtual 107, 3) := by decide +kernel
theorem dX2_writeRight_30 : decode cX2_writeRight 30 = .ok (.iinc 2 (-1), 3) := by decide +kernel
theorem dX2_writeRight_33 : decode cX2_writeRight 33 = .ok (.goto (-31), 3) := by decide +kernel
theorem dX2_writeRight_36 : decode cX2_writeRight 36 = .ok (.return_, 1) := by decide +kernel
theorem dX2_printedMark_0 : decode cX2_printedMark 0 = .ok (.aload_n 0, 1) := by decide +kernel
theorem dX2_printedMark_1 : decode cX2_printedMark 1 = .ok (.iload_n 1, 1) := by decide +kernel
theorem dX2_printedMark_2 : decode cX2_printedMark 2 = .ok (.invokevirtual 110, 3) := by decide +kernel
theorem dX2_printedMark_5 : decode cX2_printedMark 5 = .ok (.istore_n 2, 1) := by decide +kernel
theorem dX2_printedMark_6 : decode cX2_printedMark 6 = .ok (.aload_n 0, 1) := by decide +kernel
theorem dX2_printedMark_7 : decode cX2_printedMark 7 = .ok (.getfield 19, 3) := by decide +kernel
theorem dX2_printedMark_10 : decode cX2_printedMark 10 = .ok (.aload_n 0, 1) := by decide +kernel
theorem dX2_printedMark_11 : decode cX2_printedMark 11 = .ok (.getfield 19, 3) := by decide +kernel
theorem dX2_printedMark_14 : decode cX2_printedMark 14 = .ok (.iload_n 1, 1) := by decide +kernel
theorem dX2_printedMark_15 : decode cX2_printedMark 15 = .ok (.invokevirtual 113, 3) := by decide +kernel
theorem dX2_printedMark_18 : decode cX2_printedMark 18 = .ok (.invokevirtual 116, 3) := by decide +kernel
theorem dX2_printedMark_21 : decode cX2_printedMark 21 = .ok (.istore_n 3, 1) := by decide +kernel
theorem dX2_printedMark_22 : decode cX2_printedMark 22 = .ok (.aload_n 0, 1) := by decide +kernel
theorem dX2_printedMark_23 : decode cX2_printedMark 23 = .ok (.getfield 9, 3) := by decide +kernel
theorem dX2_printedMark_26 : decode cX2_printedMark 26 = .ok (.iload_n 2, 1) := by decide +kernel
theorem dX2_printedMark_27 : decode cX2_printedMark 27 = .ok (.invokevirtual 119, 3) := by decide +kernel
theorem dX2_printedMark_30 : decode cX2_printedMark 30 = .ok (.ifCond .ne 22, 3) := by decide +kernel
theorem dX2_printedMark_33 : decode cX2_printedMark 33 = .ok (.aload_n 0, 1) := by decide +kernel
theorem dX2_printedMark_34 : decode cX2_printedMark 34 = .ok (.getfield 15, 3) := by decide +kernel
theorem dX2_printedMark_37 : decode cX2_printedMark 37 = .ok (.aload_n 0, 1) := by decide +kernel
theorem dX2_printedMark_38 : decode cX2_printedMark 38 = .ok (.iload_n 1, 1) := by decide +kernel
theorem dX2_printedMark_39 : decode cX2_printedMark 39 = .ok (.iconst 1, 1) := by decide +kernel
theorem dX2_printedMark_40 : decode cX2_printedMark 40 = .ok (.isub, 1) := by decide +kernel
theorem dX2_printedMark_41 : decode cX2_printedMark 41 = .ok (.invokevirtual 110, 3) := by decide +kernel
theorem dX2_printedMark_44 : decode cX2_printedMark 44 = .ok (.iload_n 3, 1) := by decide +kernel
theorem dX2_printedMark_45 : decode cX2_printedMark 45 = .ok (.iload_n 2, 1) := by decide +kernel
theorem dX2_printedMark_46 : decode cX2_printedMark 46 = .ok (.invokevirtual 122, 3) := by decide +kernel
theorem dX2_printedMark_49 : decode cX2_printedMark 49 = .ok (.goto 4, 3) := by decide +kernel
theorem dX2_printedMark_52 : decode cX2_printedMark 52 = .ok (.iconst 0, 1) := by decide +kernel
theorem dX2_printedMark_53 : decode cX2_printedMark 53 = .ok (.ireturn, 1) := by decide +kernel
theorem dX2_writeNameOnWay_0 : decode cX2_writeNameOnWay 0 = .ok (.aload_n 0, 1) := by decide +kernel
theorem dX2_writeNameOnWay_1 : decode cX2_writeNameOnWay 1 = .ok (.getfield 23, 3) := by decide +kernel
theorem dX2_writeNameOnWay_4 : decode cX2_writeNameOnWay 4 = .ok (.aload_n 0, 1) := by decide +kernel
theorem dX2_writeNameOnWay_5 : decode cX2_writeNameOnWay 5 = .ok (.getfield 9, 3) := by decide +kernel
theorem dX2_writeNameOnWay_8 : decode cX2_writeNameOnWay 8 = .ok (.aload_n 0, 1) := by decide +kernel
theorem dX2_writeNameOnWay_9 : decode cX2_writeNameOnWay 9 = .ok (.iload_n 1, 1) := by decide +kernel
theorem dX2_writeNameOnWay_10 : decode cX2_writeNameOnWay 10 = .ok (.invokevirtual 110, 3) := by decide +kernel
theorem dX2_writeNameOnWay_13 : decode cX2_writeNameOnWay 13 = .ok (.invokevirtual 96, 3) := by decide +kernel
theorem dX2_writeNameOnWay_16 : decode cX2_writeNameOnWay 16 = .ok (.invokevirtual 128, 3) := by decide +kernel
theorem dX2_writeNameOnWay_19 : decode cX2_writeNameOnWay 19 = .ok (.iload_n 1, 1) := by decide +kernel
theorem dX2_writeNameOnWay_20 : decode cX2_writeNameOnWay 20 = .ok (.istore_n 2, 1) := by decide +kernel
theorem dX2_writeNameOnWay_21 : decode cX2_writeNameOnWay 21 = .ok (.iload_n 2, 1) := by decide +kernel
theorem dX2_writeNameOnWay_22 : decode cX2_writeNameOnWay 22 = .ok (.iconst 1, 1) := by decide +kernel
theorem dX2_writeNameOnWay_23 : decode cX2_writeNameOnWay 23 = .ok (.if_icmp .lt 38, 3) := by decide +kernel
theorem dX2_writeNameOnWay_26 : decode cX2_writeNameOnWay 26 = .ok (.aload_n 0, 1) := by decide +kernel
theorem dX2_writeNameOnWay_27 : decode cX2_writeNameOnWay 27 = .ok (.iload_n 2, 1) := by decide +kernel
theorem dX2_writeNameOnWay_28 : decode cX2_writeNameOnWay 28 = .ok (.invokevirtual 132, 3) := by decide +kernel
theorem dX2_writeNameOnWay_31 : decode cX2_writeNameOnWay 31 = .ok (.ifCond .eq 30, 3) := by decide +kernel
theorem dX2_writeNameOnWay_34 : decode cX2_writeNameOnWay 34 = .ok (.aload_n 0, 1) := by decide +kernel
theorem dX2_writeNameOnWay_35 : decode cX2_writeNameOnWay 35 = .ok (.getfield 23, 3) := by decide +kernel
theorem dX2_writeNameOnWay_38 : decode cX2_writeNameOnWay 38 = .ok (.aload_n 0, 1) := by decide +kernel
theorem dX2_writeNameOnWay_39 : decode cX2_writeNameOnWay 39 = .ok (.getfield 9, 3) := by decide +kernel
theorem dX2_writeNameOnWay_42 : decode cX2_writeNameOnWay 42 = .ok (.aload_n 0, 1) := by decide +kernel
theorem dX2_writeNameOnWay_43 : decode cX2_writeNameOnWay 43 = .ok (.iload_n 2, 1) := by decide +kernel
theorem dX2_writeNameOnWay_44 : decode cX2_writeNameOnWay 44 = .ok (.iconst 1, 1) := by decide +kernel
theorem dX2_writeNameOnWay_45 : decode cX2_writeNameOnWay 45 = .ok (.isub, 1) := by decide +kernel
theorem dX2_writeNameOnWay_46 : decode cX2_writeNameOnWay 46 = .ok (.invokevirtual 110, 3) := by decide +kernel
theorem dX2_writeNameOnWay_49 : decode cX2_writeNameOnWay 49 = .ok (.invokevirtual 96, 3) := by decide +kernel
theorem dX2_writeNameOnWay_52 : decode cX2_writeNameOnWay 52 = .ok (.invokevirtual 128, 3) := by decide +kernel
theorem dX2_writeNameOnWay_55 : decode cX2_writeNameOnWay 55 = .ok (.iinc 2 (-1), 3) := by decide +kernel
theorem dX2_writeNameOnWay_58 : decode cX2_writeNameOnWay 58 = .ok (.goto (-37), 3) := by decide +kernel
theorem dX2_writeNameOnWay_61 : decode cX2_writeNameOnWay 61 = .ok (.return_, 1) := by decide +kernel
theorem dX2_comesFromDomain_0 : decode cX2_comesFromDomain 0 = .ok (.aload_n 0, 1) := by decide +kernel
theorem dX2_comesFromDomain_1 : decode cX2_comesFromDomain 1 = .ok (.getfield 19, 3) := by decide +kernel
theorem dX2_comesFromDomain_4 : decode cX2_comesFromDomain 4 = .ok (.aload_n 0, 1) := by decide +kernel
theorem dX2_comesFromDomain_5 : decode cX2_comesFromDomain 5 = .ok (.getfield 19, 3) := by decide +kernel
theorem dX2_comesFromDomain_8 : decode cX2_comesFromDomain 8 = .ok (.iload_n 1, 1) := by decide +kernel
theorem dX2_comesFromDomain_9 : decode cX2_comesFromDomain 9 = .ok (.invokevirtual 113, 3) := by decide +kernel
theorem dX2_comesFromDomain_12 : decode cX2_comesFromDomain 12 = .ok (.invokevirtual 116, 3) := by decide +kernel
theorem dX2_comesFromDomain_15 : decode cX2_comesFromDomain 15 = .ok (.istore_n 2, 1) := by decide +kernel
theorem dX2_comesFromDomain_16 : decode cX2_comesFromDomain 16 = .ok (.iload_n 2, 1) := by decide +kernel
theorem dX2_comesFromDomain_17 : decode cX2_comesFromDomain 17 = .ok (.iconst 2, 1) := by decide +kernel
theorem dX2_comesFromDomain_18 : decode cX2_comesFromDomain 18 = .ok (.if_icmp .eq 13, 3) := by decide +kernel
theorem dX2_comesFromDomain_21 : decode cX2_comesFromDomain 21 = .ok (.iload_n 2, 1) := by decide +kernel
theorem dX2_comesFromDomain_22 : decode cX2_comesFromDomain 22 = .ok (.iconst 5, 1) := by decide +kernel
theorem dX2_comesFromDomain_23 : decode cX2_comesFromDomain 23 = .ok (.if_icmp .eq 8, 3) := by decide +kernel
theorem dX2_comesFromDomain_26 : decode cX2_comesFromDomain 26 = .ok (.iload_n 2, 1) := by decide +kernel
theorem dX2_comesFromDomain_27 : decode cX2_comesFromDomain 27 = .ok (.iconst 4, 1) := by decide +kernel
theorem dX2_comesFromDomain_28 : decode cX2_comesFromDomain 28 = .ok (.if_icmp .ne 24, 3) := by decide +kernel
theorem dX2_comesFromDomain_31 : decode cX2_comesFromDomain 31 = .ok (.aload_n 0, 1) := by decide +kernel
theorem dX2_comesFromDomain_32 : decode cX2_comesFromDomain 32 = .ok (.getfield 9, 3) := by decide +kernel
theorem dX2_comesFromDomain_35 : decode cX2_comesFromDomain 35 = .ok (.aload_n 0, 1) := by decide +kernel
theorem dX2_comesFromDomain_36 : decode cX2_comesFromDomain 36 = .ok (.iload_n 1, 1) := by decide +kernel
theorem dX2_comesFromDomain_37 : decode cX2_comesFromDomain 37 = .ok (.iconst 1, 1) := by decide +kernel
theorem dX2_comesFromDomain_38 : decode cX2_comesFromDomain 38 = .ok (.isub, 1) := by decide +kernel
theorem dX2_comesFromDomain_39 : decode cX2_comesFromDomain 39 = .ok (.invokevirtual 110, 3) := by decide +kernel
theorem dX2_comesFromDomain_42 : decode cX2_comesFromDomain 42 = .ok (.invokevirtual 87, 3) := by decide +kernel
theorem dX2_comesFromDomain_45 : decode cX2_comesFromDomain 45 = .ok (.ifCond .eq 7, 3) := by decide +kernel
theorem dX2_comesFromDomain_48 : decode cX2_comesFromDomain 48 = .ok (.iconst 1, 1) := by decide +kernel
theorem dX2_comesFromDomain_49 : decode cX2_comesFromDomain 49 = .ok (.goto 4, 3) := by decide +kernel
theorem dX2_comesFromDomain_52 : decode cX2_comesFromDomain 52 = .ok (.iconst 0, 1) := by decide +kernel
theorem dX2_comesFromDomain_53 : decode cX2_comesFromDomain 53 = .ok (.ireturn, 1) := by decide +kernel
theorem dX2_nodeOn_0 : decode cX2_nodeOn 0 = .ok (.aload_n 0, 1) := by decide +kernel
theorem dX2_nodeOn_1 : decode cX2_nodeOn 1 = .ok (.getfield 19, 3) := by decide +kernel
theorem dX2_nodeOn_4 : decode cX2_nodeOn 4 = .ok (.iload_n 1, 1) := by decide +kernel
theorem dX2_nodeOn_5 : decode cX2_nodeOn 5 = .ok (.invokevirtual 113, 3) := by decide +kernel
theorem dX2_nodeOn_8 : decode cX2_nodeOn 8 = .ok (.iconst 4, 1) := by decide +kernel
theorem dX2_nodeOn_9 : decode cX2_nodeOn 9 = .ok (.idiv, 1) := by decide +kernel
theorem dX2_nodeOn_10 : decode cX2_nodeOn 10 = .ok (.ireturn, 1) := by decide +kernel
theorem dX4_init_0 : decode cX4_init 0 = .ok (.aload_n 0, 1) := by decide +kernel
theorem dX4_init_1 : decode cX4_init 1 = .ok (.invokespecial 3, 3) := by decide +kernel
theorem dX4_init_4 : decode cX4_init 4 = .ok (.aload_n 0, 1) := by decide +kernel
theorem dX4_init_5 : decode cX4_init 5 = .ok (.aload_n 1, 1) := by decide +kernel
theorem dX4_init_6 : decode cX4_init 6 = .ok (.putfield 9, 3) := by decide +kernel
theorem dX4_init_9 : decode cX4_init 9 = .ok (.aload_n 0, 1) := by decide +kernel
theorem dX4_init_10 : decode cX4_init 10 = .ok (.aload_n 2, 1) := by decide +kernel
theorem dX4_init_11 : decode cX4_init 11 = .ok (.putfield 15, 3) := by decide +kernel
theorem dX4_init_14 : decode cX4_init 14 = .ok (.aload_n 0, 1) := by decide +kernel
theorem dX4_init_15 : decode cX4_init 15 = .ok (.aload_n 3, 1) := by decide +kernel
theorem dX4_init_16 : decode cX4_init 16 = .ok (.putfield 19, 3) := by decide +kernel
theorem dX4_init_19 : decode cX4_init 19 = .ok (.aload_n 0, 1) := by decide +kernel
theorem dX4_init_20 : decode cX4_init 20 = .ok (.aload 4, 2) := by decide +kernel
theorem dX4_init_22 : decode cX4_init 22 = .ok (.putfield 23, 3) := by decide +kernel
theorem dX4_init_25 : decode cX4_init 25 = .ok (.return_, 1) := by decide +kernel
theorem dX4_statements_0 : decode cX4_statements 0 = .ok (.aload_n 0, 1) := by decide +kernel
theorem dX4_statements_1 : decode cX4_statements 1 = .ok (.getfield 27, 3) := by decide +kernel
theorem dX4_statements_4 : decode cX4_statements 4 = .ok (.ireturn, 1) := by decide +kernel
theorem dX4_read_0 : decode cX4_read 0 = .ok (.aload_n 0, 1) := by decide +kernel
theorem dX4_read_1 : decode cX4_read 1 = .ok (.getfield 9, 3) := by decide +kernel
theorem dX4_read_4 : decode cX4_read 4 = .ok (.aload_n 1, 1) := by decide +kernel
theorem dX4_read_5 : decode cX4_read 5 = .ok (.invokevirtual 31, 3) := by decide +kernel
theorem dX4_read_8 : decode cX4_read 8 = .ok (.aload_n 0, 1) := by decide +kernel
theorem dX4_read_9 : decode cX4_read 9 = .ok (.iload_n 2, 1) := by decide +kernel
theorem dX4_read_10 : decode cX4_read 10 = .ok (.putfield 37, 3) := by decide +kernel
theorem dX4_read_13 : decode cX4_read 13 = .ok (.aload_n 0, 1) := by decide +kernel
theorem dX4_read_14 : decode cX4_read 14 = .ok (.iconst 0, 1) := by decide +kernel
theorem dX4_read_15 : decode cX4_read 15 = .ok (.putfield 40, 3) := by decide +kernel
theorem dX4_read_18 : decode cX4_read 18 = .ok (.aload_n 0, 1) := by decide +kernel
theorem dX4_read_19 : decode cX4_read 19 = .ok (.iconst 0, 1) := by decide +kernel
theorem dX4_read_20 : decode cX4_read 20 = .ok (.putfield 27, 3) := by decide +kernel
theorem dX4_read_23 : decode cX4_read 23 = .ok (.iconst 0, 1) := by decide +kernel
theorem dX4_read_24 : decode cX4_read 24 = .ok (.istore_n 3, 1) := by decide +kernel
theorem dX4_read_25 : decode cX4_read 25 = .ok (.iload_n 3, 1) := by decide +kernel
theorem dX4_read_26 : decode cX4_read 26 = .ok (.sipush 600, 3) := by decide +kernel
theorem dX4_read_29 : decode cX4_read 29 = .ok (.if_icmp .gt 211, 3) := by decide +kernel
theorem dX4_read_32 : decode cX4_read 32 = .ok (.aload_n 0, 1) := by decide +kernel
theorem dX4_read_33 : decode cX4_read 33 = .ok (.getfield 9, 3) := by decide +kernel
theorem dX4_read_36 : decode cX4_read 36 = .ok (.aload_n 0, 1) := by decide +kernel
theorem dX4_read_37 : decode cX4_read 37 = .ok (.getfield 40, 3) := by decide +kernel
theorem dX4_read_40 : decode cX4_read 40 = .ok (.invokevirtual 43, 3) := by decide +kernel
theorem dX4_read_43 : decode cX4_read 43 = .ok (.ifCond .eq 197, 3) := by decide +kernel
theorem dX4_read_46 : decode cX4_read 46 = .ok (.aload_n 0, 1) := by decide +kernel
theorem dX4_read_47 : decode cX4_read 47 = .ok (.bipush 59, 2) := by decide +kernel
theorem dX4_read_49 : decode cX4_read 49 = .ok (.invokevirtual 47, 3) := by decide +kernel
theorem dX4_read_52 : decode cX4_read 52 = .ok (.ifCond .eq 6, 3) := by decide +kernel
theorem dX4_read_55 : decode cX4_read 55 = .ok (.goto 179, 3) := by decide +kernel
theorem dX4_read_58 : decode cX4_read 58 = .ok (.aload_n 0, 1) := by decide +kernel
theorem dX4_read_59 : decode cX4_read 59 = .ok (.getfield 27, 3) := by decide +kernel
theorem dX4_read_62 : decode cX4_read 62 = .ok (.bipush 40, 2) := by decide +kernel
theorem dX4_read_64 : decode cX4_read 64 = .ok (.if_icmp .lt 23, 3) := by decide +kernel
theorem dX4_read_67 : decode cX4_read 67 = .ok (.aload_n 0, 1) := by decide +kernel
theorem dX4_read_68 : decode cX4_read 68 = .ok (.getfield 23, 3) := by decide +kernel
theorem dX4_read_71 : decode cX4_read 71 = .ok (.iconst 5, 1) := by decide +kernel
theorem dX4_read_72 : decode cX4_read 72 = .ok (.aload_n 0, 1) := by decide +kernel
theorem dX4_read_73 : decode cX4_read 73 = .ok (.getfield 9, 3) := by decide +kernel
theorem dX4_read_76 : decode cX4_read 76 = .ok (.aload_n 0, 1) := by decide +kernel
theorem dX4_read_77 : decode cX4_read 77 = .ok (.getfield 40, 3) := by decide +kernel
theorem dX4_read_80 : decode cX4_read 80 = .ok (.invokevirtual 51, 3) := by decide +kernel
theorem dX4_read_83 : decode cX4_read 83 = .ok (.invokevirtual 54, 3) := by decide +kernel
theorem dX4_read_86 : decode cX4_read 86 = .ok (.ireturn, 1) := by decide +kernel
theorem dX4_read_87 : decode cX4_read 87 = .ok (.aload_n 0, 1) := by decide +kernel
theorem dX4_read_88 : decode cX4_read 88 = .ok (.invokevirtual 60, 3) := by decide +kernel
theorem dX4_read_91 : decode cX4_read 91 = .ok (.istore 4, 2) := by decide +kernel
theorem dX4_read_93 : decode cX4_read 93 = .ok (.iload 4, 2) := by decide +kernel
theorem dX4_read_95 : decode cX4_read 95 = .ok (.ifCond .eq 14, 3) := by decide +kernel
theorem dX4_read_98 : decode cX4_read 98 = .ok (.aload_n 0, 1) := by decide +kernel
theorem dX4_read_99 : decode cX4_read 99 = .ok (.iload 4, 2) := by decide +kernel
theorem dX4_read_101 : decode cX4_read 101 = .ok (.invokevirtual 64, 3) := by decide +kernel
theorem dX4_read_104 : decode cX4_read 104 = .ok (.istore 5, 2) := by decide +kernel
theorem dX4_read_106 : decode cX4_read 106 = .ok (.goto 76, 3) := by decide +kernel
theorem dX4_read_109 : decode cX4_read 109 = .ok (.aload_n 0, 1) := by decide +kernel
theorem dX4_read_110 : decode cX4_read 110 = .ok (.iconst 0, 1) := by decide +kernel
theorem dX4_read_111 : decode cX4_read 111 = .ok (.invokevirtual 67, 3) := by decide +kernel
theorem dX4_read_114 : decode cX4_read 114 = .ok (.ifCond .ne 9, 3) := by decide +kernel
theorem dX4_read_117 : decode cX4_read 117 = .ok (.iconst 0, 1) := by decide +kernel
theorem dX4_read_118 : decode cX4_read 118 = .ok (.istore 5, 2) := by decide +kernel
theorem dX4_read_120 : decode cX4_read 120 = .ok (.goto 62, 3) := by decide +kernel
theorem dX4_read_123 : decode cX4_read 123 = .ok (.aload_n 0, 1) := by decide +kernel
theorem dX4_read_124 : decode cX4_read 124 = .ok (.bipush 61, 2) := by decide +kernel
theorem dX4_read_126 : decode cX4_read 126 = .ok (.invokevirtual 47, 3) := by decide +kernel
theorem dX4_read_129 : decode cX4_read 129 = .ok (.ifCond .ne 16, 3) := by decide +kernel
theorem dX4_read_132 : decode cX4_read 132 = .ok (.aload_n 0, 1) := by decide +kernel
theorem dX4_read_133 : decode cX4_read 133 = .ok (.aload_n 0, 1) := by decide +kernel
theorem dX4_read_134 : decode cX4_read 134 = .ok (.getfield 71, 3) := by decide +kernel
theorem dX4_read_137 : decode cX4_read 137 = .ok (.invokevirtual 74, 3) := by decide +kernel
theorem dX4_read_140 : decode cX4_read 140 = .ok (.istore 5, 2) := by decide +kernel
theorem dX4_read_142 : decode cX4_read 142 = .ok (.goto 40, 3) := by decide +kernel
theorem dX4_read_145 : decode cX4_read 145 = .ok (.aload_n 0, 1) := by decide +kernel
theorem dX4_read_146 : decode cX4_read 146 = .ok (.getfield 9, 3) := by decide +kernel
theorem dX4_read_149 : decode cX4_read 149 = .ok (.aload_n 0, 1) := by decide +kernel
theorem dX4_read_150 : decode cX4_read 150 = .ok (.getfield 40, 3) := by decide +kernel
theorem dX4_read_153 : decode cX4_read 153 = .ok (.invokevirtual 43, 3) := by decide +kernel
theorem dX4_read_156 : decode cX4_read 156 = .ok (.bipush 97, 2) := by decide +kernel
theorem dX4_read_158 : decode cX4_read 158 = .ok (.if_icmp .ne 14, 3) := by decide +kernel
theorem dX4_read_161 : decode cX4_read 161 = .ok (.aload_n 0, 1) := by decide +kernel
theorem dX4_read_162 : decode cX4_read 162 = .ok (.aload_n 0, 1) := by decide +kernel
theorem dX4_read_163 : decode cX4_read 163 = .ok (.getfield 71, 3) := by decide +kernel
theorem dX4_read_166 : decode cX4_read 166 = .ok (.invokevirtual 77, 3) := by decide +kernel
theorem dX4_read_169 : decode cX4_read 169 = .ok (.goto 11, 3) := by decide +kernel
theorem dX4_read_172 : decode cX4_read 172 = .ok (.aload_n 0, 1) := by decide +kernel
theorem dX4_read_173 : decode cX4_read 173 = .ok (.aload_n 0, 1) := by decide +kernel
theorem dX4_read_174 : decode cX4_read 174 = .ok (.getfield 71, 3) := by decide +kernel
theorem dX4_read_177 : decode cX4_read 177 = .ok (.invokevirtual 80, 3) := by decide +kernel
theorem dX4_read_180 : decode cX4_read 180 = .ok (.istore 5, 2) := by decide +kernel
theorem dX4_read_182 : decode cX4_read 182 = .ok (.iload 5, 2) := by decide +kernel
theorem dX4_read_184 : decode cX4_read 184 = .ok (.ifCond .ne 5, 3) := by decide +kernel
theorem dX4_read_187 : decode cX4_read 187 = .ok (.iconst 0, 1) := by decide +kernel
theorem dX4_read_188 : decode cX4_read 188 = .ok (.ireturn, 1) := by decide +kernel
theorem dX4_read_189 : decode cX4_read 189 = .ok (.aload_n 0, 1) := by decide +kernel
theorem dX4_read_190 : decode cX4_read 190 = .ok (.dup, 1) := by decide +kernel
theorem dX4_read_191 : decode cX4_read 191 = .ok (.getfield 27, 3) := by decide +kernel
theorem dX4_read_194 : decode cX4_read 194 = .ok (.iconst 1, 1) := by decide +kernel
theorem dX4_read_195 : decode cX4_read 195 = .ok (.iadd, 1) := by decide +kernel
theorem dX4_read_196 : decode cX4_read 196 = .ok (.putfield 27, 3) := by decide +kernel
theorem dX4_read_199 : decode cX4_read 199 = .ok (.aload_n 0, 1) := by decide +kernel
theorem dX4_read_200 : decode cX4_read 200 = .ok (.getfield 9, 3) := by decide +kernel
theorem dX4_read_203 : decode cX4_read 203 = .ok (.aload_n 0, 1) := by decide +kernel
theorem dX4_read_204 : decode cX4_read 204 = .ok (.getfield 40, 3) := by decide +kernel
theorem dX4_read_207 : decode cX4_read 207 = .ok (.invokevirtual 43, 3) := by decide +kernel
theorem dX4_read_210 : decode cX4_read 210 = .ok (.bipush 59, 2) := by decide +kernel
theorem dX4_read_212 : decode cX4_read 212 = .ok (.if_icmp .eq 22, 3) := by decide +kernel
theorem dX4_read_215 : decode cX4_read 215 = .ok (.aload_n 0, 1) := by decide +kernel
theorem dX4_read_216 : decode cX4_read 216 = .ok (.getfield 9, 3) := by decide +kernel
theorem dX4_read_219 : decode cX4_read 219 = .ok (.aload_n 0, 1) := by decide +kernel
theorem dX4_read_220 : decode cX4_read 220 = .ok (.getfield 40, 3) := by decide +kernel
theorem dX4_read_223 : decode cX4_read 223 = .ok (.invokevirtual 43, 3) := by decide +kernel
theorem dX4_read_226 : decode cX4_read 226 = .ok (.ifCond .eq 8, 3) := by decide +kernel
theorem dX4_read_229 : decode cX4_read 229 = .ok (.aload_n 0, 1) := by decide +kernel
theorem dX4_read_230 : decode cX4_read 230 = .ok (.invokevirtual 83, 3) := by decide +kernel
theorem dX4_read_233 : decode cX4_read 233 = .ok (.ireturn, 1) := by decide +kernel
theorem dX4_read_234 : decode cX4_read 234 = .ok (.iinc 3 1, 3) := by decide +kernel
theorem dX4_read_237 : decode cX4_read 237 = .ok (.goto (-212), 3) := by decide +kernel
theorem dX4_read_240 : decode cX4_read 240 = .ok (.iconst 1, 1) := by decide +kernel
theorem dX4_read_241 : decode cX4_read 241 = .ok (.ireturn, 1) := by decide +kernel
theorem dX4_listAhead_0 : decode cX4_listAhead 0 = .ok (.aload_n 0, 1) := by decide +kernel
theorem dX4_listAhead_1 : decode cX4_listAhead 1 = .ok (.getfield 9, 3) := by decide +kernel
theorem dX4_listAhead_4 : decode cX4_listAhead 4 = .ok (.aload_n 0, 1) := by decide +kernel
theorem dX4_listAhead_5 : decode cX4_listAhead 5 = .ok (.getfield 40, 3) := by decide +kernel
theorem dX4_listAhead_8 : decode cX4_listAhead 8 = .ok (.iconst 1, 1) := by decide +kernel
theorem dX4_listAhead_9 : decode cX4_listAhead 9 = .ok (.iadd, 1) := by decide +kernel
theorem dX4_listAhead_10 : decode cX4_listAhead 10 = .ok (.invokevirtual 43, 3) := by decide +kernel
theorem dX4_listAhead_13 : decode cX4_listAhead 13 = .ok (.bipush 123, 2) := by decide +kernel
theorem dX4_listAhead_15 : decode cX4_listAhead 15 = .ok (.if_icmp .eq 5, 3) := by decide +kernel
theorem dX4_listAhead_18 : decode cX4_listAhead 18 = .ok (.iconst 0, 1) := by decide +kernel
theorem dX4_listAhead_19 : decode cX4_listAhead 19 = .ok (.ireturn, 1) := by decide +kernel
theorem dX4_listAhead_20 : decode cX4_listAhead 20 = .ok (.aload_n 0, 1) := by decide +kernel
theorem dX4_listAhead_21 : decode cX4_listAhead 21 = .ok (.getfield 9, 3) := by decide +kernel
theorem dX4_listAhead_24 : decode cX4_listAhead 24 = .ok (.aload_n 0, 1) := by decide +kernel
theorem dX4_listAhead_25 : decode cX4_listAhead 25 = .ok (.getfield 40, 3) := by decide +kernel
theorem dX4_listAhead_28 : decode cX4_listAhead 28 = .ok (.ldc 87, 2) := by decide +kernel
theorem dX4_listAhead_30 : decode cX4_listAhead 30 = .ok (.invokevirtual 89, 3) := by decide +kernel
theorem dX4_listAhead_33 : decode cX4_listAhead 33 = .ok (.ifCond .eq 5, 3) := by decide +kernel
theorem dX4_listAhead_36 : decode cX4_listAhead 36 = .ok (.iconst 1, 1) := by decide +kernel
theorem dX4_listAhead_37 : decode cX4_listAhead 37 = .ok (.ireturn, 1) := by decide +kernel
theorem dX4_listAhead_38 : decode cX4_listAhead 38 = .ok (.aload_n 0, 1) := by decide +kernel
theorem dX4_listAhead_39 : decode cX4_listAhead 39 = .ok (.getfield 9, 3) := by decide +kernel
theorem dX4_listAhead_42 : decode cX4_listAhead 42 = .ok (.aload_n 0, 1) := by decide +kernel
theorem dX4_listAhead_43 : decode cX4_listAhead 43 = .ok (.getfield 40, 3) := by decide +kernel
theorem dX4_listAhead_46 : decode cX4_listAhead 46 = .ok (.ldc 93, 2) := by decide +kernel
theorem dX4_listAhead_48 : decode cX4_listAhead 48 = .ok (.invokevirtual 89, 3) := by decide +kernel
theorem dX4_listAhead_51 : decode cX4_listAhead 51 = .ok (.ifCond .eq 5, 3) := by decide +kernel
theorem dX4_listAhead_54 : decode cX4_listAhead 54 = .ok (.iconst 2, 1) := by decide +kernel
theorem dX4_listAhead_55 : decode cX4_listAhead 55 = .ok (.ireturn, 1) := by decide +kernel
theorem dX4_listAhead_56 : decode cX4_listAhead 56 = .ok (.aload_n 0, 1) := by decide +kernel
theorem dX4_listAhead_57 : decode cX4_listAhead 57 = .ok (.getfield 9, 3) := by decide +kernel
theorem dX4_listAhead_60 : decode cX4_listAhead 60 = .ok (.aload_n 0, 1) := by decide +kernel
theorem dX4_listAhead_61 : decode cX4_listAhead 61 = .ok (.getfield 40, 3) := by decide +kernel
theorem dX4_listAhead_64 : decode cX4_listAhead 64 = .ok (.ldc 95, 2) := by decide +kernel
theorem dX4_listAhead_66 : decode cX4_listAhead 66 = .ok (.invokevirtual 89, 3) := by decide +kernel
theorem dX4_listAhead_69 : decode cX4_listAhead 69 = .ok (.ifCond .eq 7, 3) := by decide +kernel
theorem dX4_listAhead_72 : decode cX4_listAhead 72 = .ok (.iconst 3, 1) := by decide +kernel
theorem dX4_listAhead_73 : decode cX4_listAhead 73 = .ok (.goto 4, 3) := by decide +kernel
theorem dX4_listAhead_76 : decode cX4_listAhead 76 = .ok (.iconst 0, 1) := by decide +kernel
theorem dX4_listAhead_77 : decode cX4_listAhead 77 = .ok (.ireturn, 1) := by decide +kernel
theorem dX4_readLinks_0 : decode cX4_readLinks 0 = .ok (.iconst 0, 1) := by decide +kernel
theorem dX4_readLinks_1 : decode cX4_readLinks 1 = .ok (.istore_n 2, 1) := by decide +kernel
theorem dX4_readLinks_2 : decode cX4_readLinks 2 = .ok (.iload_n 2, 1) := by decide +kernel
theorem dX4_readLinks_3 : decode cX4_readLinks 3 = .ok (.sipush 600, 3) := by decide +kernel
theorem dX4_readLinks_6 : decode cX4_readLinks 6 = .ok (.if_icmp .gt 67, 3) := by decide +kernel
theorem dX4_readLinks_9 : decode cX4_readLinks 9 = .ok (.aload_n 0, 1) := by decide +kernel
theorem dX4_readLinks_10 : decode cX4_readLinks 10 = .ok (.bipush 64, 2) := by decide +kernel
theorem dX4_readLinks_12 : decode cX4_readLinks 12 = .ok (.invokevirtual 47, 3) := by decide +kernel
theorem dX4_readLinks_15 : decode cX4_readLinks 15 = .ok (.istore_n 3, 1) := by decide +kernel
theorem dX4_readLinks_16 : decode cX4_readLinks 16 = .ok (.aload_n 0, 1) := by decide +kernel
theorem dX4_readLinks_17 : decode cX4_readLinks 17 = .ok (.iconst 0, 1) := by decide +kernel
theorem dX4_readLinks_18 : decode cX4_readLinks 18 = .ok (.invokevirtual 67, 3) := by decide +kernel
theorem dX4_readLinks_21 : decode cX4_readLinks 21 = .ok (.ifCond .ne 5, 3) := by decide +kernel
theorem dX4_readLinks_24 : decode cX4_readLinks 24 = .ok (.iconst 0, 1) := by decide +kernel
theorem dX4_readLinks_25 : decode cX4_readLinks 25 = .ok (.ireturn, 1) := by decide +kernel
theorem dX4_readLinks_26 : decode cX4_readLinks 26 = .ok (.aload_n 0, 1) := by decide +kernel
theorem dX4_readLinks_27 : decode cX4_readLinks 27 = .ok (.getfield 71, 3) := by decide +kernel
theorem dX4_readLinks_30 : decode cX4_readLinks 30 = .ok (.istore 4, 2) := by decide +kernel
theorem dX4_readLinks_32 : decode cX4_readLinks 32 = .ok (.aload_n 0, 1) := by decide +kernel
theorem dX4_readLinks_33 : decode cX4_readLinks 33 = .ok (.invokevirtual 97, 3) := by decide +kernel
theorem dX4_readLinks_36 : decode cX4_readLinks 36 = .ok (.ifCond .ne 5, 3) := by decide +kernel
theorem dX4_readLinks_39 : decode cX4_readLinks 39 = .ok (.iconst 0, 1) := by decide +kernel
theorem dX4_readLinks_40 : decode cX4_readLinks 40 = .ok (.ireturn, 1) := by decide +kernel
theorem dX4_readLinks_41 : decode cX4_readLinks 41 = .ok (.aload_n 0, 1) := by decide +kernel
theorem dX4_readLinks_42 : decode cX4_readLinks 42 = .ok (.getfield 19, 3) := by decide +kernel
theorem dX4_readLinks_45 : decode cX4_readLinks 45 = .ok (.iload_n 1, 1) := by decide +kernel
theorem dX4_readLinks_46 : decode cX4_readLinks 46 = .ok (.iload 4, 2) := by decide +kernel
theorem dX4_readLinks_48 : decode cX4_readLinks 48 = .ok (.aload_n 0, 1) := by decide +kernel
theorem dX4_readLinks_49 : decode cX4_readLinks 49 = .ok (.getfield 100, 3) := by decide +kernel
theorem dX4_readLinks_52 : decode cX4_readLinks 52 = .ok (.iload_n 3, 1) := by decide +kernel
theorem dX4_readLinks_53 : decode cX4_readLinks 53 = .ok (.invokevirtual 103, 3) := by decide +kernel
theorem dX4_readLinks_56 : decode cX4_readLinks 56 = .ok (.aload_n 0, 1) := by decide +kernel
theorem dX4_readLinks_57 : decode cX4_readLinks 57 = .ok (.bipush 44, 2) := by decide +kernel
theorem dX4_readLinks_59 : decode cX4_readLinks 59 = .ok (.invokevirtual 47, 3) := by decide +kernel
theorem dX4_readLinks_62 : decode cX4_readLinks 62 = .ok (.ifCond .ne 5, 3) := by decide +kernel
theorem dX4_readLinks_65 : decode cX4_readLinks 65 = .ok (.iconst 1, 1) := by decide +kernel
theorem dX4_readLinks_66 : decode cX4_readLinks 66 = .ok (.ireturn, 1) := by decide +kernel
theorem dX4_readLinks_67 : decode cX4_readLinks 67 = .ok (.iinc 2 1, 3) := by decide +kernel
theorem dX4_readLinks_70 : decode cX4_readLinks 70 = .ok (.goto (-68), 3) := by decide +kernel
theorem dX4_readLinks_73 : decode cX4_readLinks 73 = .ok (.aload_n 0, 1) := by decide +kernel
theorem dX4_readLinks_74 : decode cX4_readLinks 74 = .ok (.invokevirtual 83, 3) := by decide +kernel
theorem dX4_readLinks_77 : decode cX4_readLinks 77 = .ok (.ireturn, 1) := by decide +kernel
theorem dX4_readAliases_0 : decode cX4_readAliases 0 = .ok (.iconst 0, 1) := by decide +kernel
theorem dX4_readAliases_1 : decode cX4_readAliases 1 = .ok (.istore_n 2, 1) := by decide +kernel
theorem dX4_readAliases_2 : decode cX4_readAliases 2 = .ok (.iload_n 2, 1) := by decide +kernel
theorem dX4_readAliases_3 : decode cX4_readAliases 3 = .ok (.sipush 600, 3) := by decide +kernel
theorem dX4_readAliases_6 : decode cX4_readAliases 6 = .ok (.if_icmp .gt 42, 3) := by decide +kernel
theorem dX4_readAliases_9 : decode cX4_readAliases 9 = .ok (.aload_n 0, 1) := by decide +kernel
theorem dX4_readAliases_10 : decode cX4_readAliases 10 = .ok (.iconst 0, 1) := by decide +kernel
theorem dX4_readAliases_11 : decode cX4_readAliases 11 = .ok (.invokevirtual 67, 3) := by decide +kernel
theorem dX4_readAliases_14 : decode cX4_readAliases 14 = .ok (.ifCond .ne 5, 3) := by decide +kernel
theorem dX4_readAliases_17 : decode cX4_readAliases 17 = .ok (.iconst 0, 1) := by decide +kernel
theorem dX4_readAliases_18 : decode cX4_readAliases 18 = .ok (.ireturn, 1) := by decide +kernel
theorem dX4_readAliases_19 : decode cX4_readAliases 19 = .ok (.aload_n 0, 1) := by decide +kernel
theorem dX4_readAliases_20 : decode cX4_readAliases 20 = .ok (.getfield 19, 3) := by decide +kernel
theorem dX4_readAliases_23 : decode cX4_readAliases 23 = .ok (.iload_n 1, 1) := by decide +kernel
theorem dX4_readAliases_24 : decode cX4_readAliases 24 = .ok (.aload_n 0, 1) := by decide +kernel
theorem dX4_readAliases_25 : decode cX4_readAliases 25 = .ok (.getfield 71, 3) := by decide +kernel
theorem dX4_readAliases_28 : decode cX4_readAliases 28 = .ok (.invokevirtual 109, 3) := by decide +kernel
theorem dX4_readAliases_31 : decode cX4_readAliases 31 = .ok (.aload_n 0, 1) := by decide +kernel
theorem dX4_readAliases_32 : decode cX4_readAliases 32 = .ok (.bipush 44, 2) := by decide +kernel
theorem dX4_readAliases_34 : decode cX4_readAliases 34 = .ok (.invokevirtual 47, 3) := by decide +kernel
theorem dX4_readAliases_37 : decode cX4_readAliases 37 = .ok (.ifCond .ne 5, 3) := by decide +kernel
theorem dX4_readAliases_40 : decode cX4_readAliases 40 = .ok (.iconst 1, 1) := by decide +kernel
theorem dX4_readAliases_41 : decode cX4_readAliases 41 = .ok (.ireturn, 1) := by decide +kernel
theorem dX4_readAliases_42 : decode cX4_readAliases 42 = .ok (.iinc 2 1, 3) := by decide +kernel
theorem dX4_readAliases_45 : decode cX4_readAliases 45 = .ok (.goto (-43), 3) := by decide +kernel
theorem dX4_readAliases_48 : decode cX4_readAliases 48 = .ok (.aload_n 0, 1) := by decide +kernel
theorem dX4_readAliases_49 : decode cX4_readAliases 49 = .ok (.invokevirtual 83, 3) := by decide +kernel
theorem dX4_readAliases_52 : decode cX4_readAliases 52 = .ok (.ireturn, 1) := by decide +kernel
theorem dX4_readMembers_0 : decode cX4_readMembers 0 = .ok (.aload_n 0, 1) := by decide +kernel
theorem dX4_readMembers_1 : decode cX4_readMembers 1 = .ok (.bipush 64, 2) := by decide +kernel
theorem dX4_readMembers_3 : decode cX4_readMembers 3 = .ok (.invokevirtual 47, 3) := by decide +kernel
theorem dX4_readMembers_6 : decode cX4_readMembers 6 = .ok (.istore_n 2, 1) := by decide +kernel
theorem dX4_readMembers_7 : decode cX4_readMembers 7 = .ok (.aload_n 0, 1) := by decide +kernel
theorem dX4_readMembers_8 : decode cX4_readMembers 8 = .ok (.bipush 123, 2) := by decide +kernel
theorem dX4_readMembers_10 : decode cX4_readMembers 10 = .ok (.invokevirtual 47, 3) := by decide +kernel
theorem dX4_readMembers_13 : decode cX4_readMembers 13 = .ok (.ifCond .ne 8, 3) := by decide +kernel
theorem dX4_readMembers_16 : decode cX4_readMembers 16 = .ok (.aload_n 0, 1) := by decide +kernel
theorem dX4_readMembers_17 : decode cX4_readMembers 17 = .ok (.invokevirtual 83, 3) := by decide +kernel
theorem dX4_readMembers_20 : decode cX4_readMembers 20 = .ok (.ireturn, 1) := by decide +kernel
theorem dX4_readMembers_21 : decode cX4_readMembers 21 = .ok (.iconst 0, 1) := by decide +kernel
theorem dX4_readMembers_22 : decode cX4_readMembers 22 = .ok (.istore_n 3, 1) := by decide +kernel
theorem dX4_readMembers_23 : decode cX4_readMembers 23 = .ok (.iconst 0, 1) := by decide +kernel
theorem dX4_readMembers_24 : decode cX4_readMembers 24 = .ok (.istore 4, 2) := by decide +kernel
theorem dX4_readMembers_26 : decode cX4_readMembers 26 = .ok (.iload 4, 2) := by decide +kernel
theorem dX4_readMembers_28 : decode cX4_readMembers 28 = .ok (.sipush 600, 3) := by decide +kernel
theorem dX4_readMembers_31 : decode cX4_readMembers 31 = .ok (.if_icmp .gt 43, 3) := by decide +kernel
theorem dX4_readMembers_34 : decode cX4_readMembers 34 = .ok (.iload 4, 2) := by decide +kernel
theorem dX4_readMembers_36 : decode cX4_readMembers 36 = .ok (.ifCond .eq 12, 3) := by decide +kernel
theorem dX4_readMembers_39 : decode cX4_readMembers 39 = .ok (.aload_n 0, 1) := by decide +kernel
theorem dX4_readMembers_40 : decode cX4_readMembers 40 = .ok (.bipush 44, 2) := by decide +kernel
theorem dX4_readMembers_42 : decode cX4_readMembers 42 = .ok (.invokevirtual 47, 3) := by decide +kernel
theorem dX4_readMembers_45 : decode cX4_readMembers 45 = .ok (.ifCond .eq 29, 3) := by decide +kernel
theorem dX4_readMembers_48 : decode cX4_readMembers 48 = .ok (.aload_n 0, 1) := by decide +kernel
theorem dX4_readMembers_49 : decode cX4_readMembers 49 = .ok (.iconst 0, 1) := by decide +kernel
theorem dX4_readMembers_50 : decode cX4_readMembers 50 = .ok (.invokevirtual 67, 3) := by decide +kernel
theorem dX4_readMembers_53 : decode cX4_readMembers 53 = .ok (.ifCond .ne 5, 3) := by decide +kernel
theorem dX4_readMembers_56 : decode cX4_readMembers 56 = .ok (.iconst 0, 1) := by decide +kernel
theorem dX4_readMembers_57 : decode cX4_readMembers 57 = .ok (.ireturn, 1) := by decide +kernel
theorem dX4_readMembers_58 : decode cX4_readMembers 58 = .ok (.iload_n 3, 1) := by decide +kernel
theorem dX4_readMembers_59 : decode cX4_readMembers 59 = .ok (.aload_n 0, 1) := by decide +kernel
theorem dX4_readMembers_60 : decode cX4_readMembers 60 = .ok (.getfield 71, 3) := by decide +kernel
theorem dX4_readMembers_63 : decode cX4_readMembers 63 = .ok (.invokestatic 113, 3) := by decide +kernel
theorem dX4_readMembers_66 : decode cX4_readMembers 66 = .ok (.ior, 1) := by decide +kernel
theorem dX4_readMembers_67 : decode cX4_readMembers 67 = .ok (.istore_n 3, 1) := by decide +kernel
theorem dX4_readMembers_68 : decode cX4_readMembers 68 = .ok (.iinc 4 1, 3) := by decide +kernel
theorem dX4_readMembers_71 : decode cX4_readMembers 71 = .ok (.goto (-45), 3) := by decide +kernel
theorem dX4_readMembers_74 : decode cX4_readMembers 74 = .ok (.aload_n 0, 1) := by decide +kernel
theorem dX4_readMembers_75 : decode cX4_readMembers 75 = .ok (.bipush 125, 2) := by decide +kernel
theorem dX4_readMembers_77 : decode cX4_readMembers 77 = .ok (.invokevirtual 47, 3) := by decide +kernel
theorem dX4_readMembers_80 : decode cX4_readMembers 80 = .ok (.ifCond .ne 8, 3) := by decide +kernel
theorem dX4_readMembers_83 : decode cX4_readMembers 83 = .ok (.aload_n 0, 1) := by decide +kernel
theorem dX4_readMembers_84 : decode cX4_readMembers 84 = .ok (.invokevirtual 83, 3) := by decide +kernel
theorem dX4_readMembers_87 : decode cX4_readMembers 87 = .ok (.ireturn, 1) := by decide +kernel
theorem dX4_readMembers_88 : decode cX4_readMembers 88 = .ok (.aload_n 0, 1) := by decide +kernel
theorem dX4_readMembers_89 : decode cX4_readMembers 89 = .ok (.invokevirtual 97, 3) := by decide +kernel
theorem dX4_readMembers_92 : decode cX4_readMembers 92 = .ok (.ifCond .ne 5, 3) := by decide +kernel
theorem dX4_readMembers_95 : decode cX4_readMembers 95 = .ok (.iconst 0, 1) := by decide +kernel
theorem dX4_readMembers_96 : decode cX4_readMembers 96 = .ok (.ireturn, 1) := by decide +kernel
theorem dX4_readMembers_97 : decode cX4_readMembers 97 = .ok (.aload_n 0, 1) := by decide +kernel
theorem dX4_readMembers_98 : decode cX4_readMembers 98 = .ok (.getfield 19, 3) := by decide +kernel
theorem dX4_readMembers_101 : decode cX4_readMembers 101 = .ok (.iload_n 1, 1) := by decide +kernel
theorem dX4_readMembers_102 : decode cX4_readMembers 102 = .ok (.iload_n 3, 1) := by decide +kernel
theorem dX4_readMembers_103 : decode cX4_readMembers 103 = .ok (.aload_n 0, 1) := by decide +kernel
theorem dX4_readMembers_104 : decode cX4_readMembers 104 = .ok (.getfield 100, 3) := by decide +kernel
theorem dX4_readMembers_107 : decode cX4_readMembers 107 = .ok (.iload_n 2, 1) := by decide +kernel
theorem dX4_readMembers_108 : decode cX4_readMembers 108 = .ok (.invokevirtual 116, 3) := by decide +kernel
theorem dX4_readMembers_111 : decode cX4_readMembers 111 = .ok (.iconst 1, 1) := by decide +kernel
theorem dX4_readMembers_112 : decode cX4_readMembers 112 = .ok (.ireturn, 1) := by decide +kernel
theorem dX4_readList_0 : decode cX4_readList 0 = .ok (.aload_n 0, 1) := by decide +kernel
theorem dX4_readList_1 : decode cX4_readList 1 = .ok (.dup, 1) := by decide +kernel
theorem dX4_readList_2 : decode cX4_readList 2 = .ok (.getfield 40, 3) := by decide +kernel
theorem dX4_readList_5 : decode cX4_readList 5 = .ok (.iconst 2, 1) := by decide +kernel
theorem dX4_readList_6 : decode cX4_readList 6 = .ok (.iadd, 1) := by decide +kernel
theorem dX4_readList_7 : decode cX4_readList 7 = .ok (.putfield 40, 3) := by decide +kernel
theorem dX4_readList_10 : decode cX4_readList 10 = .ok (.iconst 0, 1) := by decide +kernel
theorem dX4_readList_11 : decode cX4_readList 11 = .ok (.istore_n 2, 1) := by decide +kernel
theorem dX4_readList_12 : decode cX4_readList 12 = .ok (.iload_n 2, 1) := by decide +kernel
theorem dX4_readList_13 : decode cX4_readList 13 = .ok (.sipush 600, 3) := by decide +kernel
theorem dX4_readList_16 : decode cX4_readList 16 = .ok (.if_icmp .gt 114, 3) := by decide +kernel
theorem dX4_readList_19 : decode cX4_readList 19 = .ok (.iload_n 2, 1) := by decide +kernel
theorem dX4_readList_20 : decode cX4_readList 20 = .ok (.ifCond .eq 12, 3) := by decide +kernel
theorem dX4_readList_23 : decode cX4_readList 23 = .ok (.aload_n 0, 1) := by decide +kernel
theorem dX4_readList_24 : decode cX4_readList 24 = .ok (.bipush 44, 2) := by decide +kernel
theorem dX4_readList_26 : decode cX4_readList 26 = .ok (.invokevirtual 47, 3) := by decide +kernel
theorem dX4_readList_29 : decode cX4_readList 29 = .ok (.ifCond .eq 101, 3) := by decide +kernel
theorem dX4_readList_32 : decode cX4_readList 32 = .ok (.aload_n 0, 1) := by decide +kernel
theorem dX4_readList_33 : decode cX4_readList 33 = .ok (.iload_n 1, 1) := by decide +kernel
theorem dX4_readList_34 : decode cX4_readList 34 = .ok (.iconst 2, 1) := by decide +kernel
theorem dX4_readList_35 : decode cX4_readList 35 = .ok (.if_icmp .ne 7, 3) := by decide +kernel
theorem dX4_readList_38 : decode cX4_readList 38 = .ok (.iconst 1, 1) := by decide +kernel
theorem dX4_readList_39 : decode cX4_readList 39 = .ok (.goto 4, 3) := by decide +kernel
theorem dX4_readList_42 : decode cX4_readList 42 = .ok (.iconst 0, 1) := by decide +kernel
theorem dX4_readList_43 : decode cX4_readList 43 = .ok (.invokevirtual 67, 3) := by decide +kernel
theorem dX4_readList_46 : decode cX4_readList 46 = .ok (.ifCond .ne 5, 3) := by decide +kernel
theorem dX4_readList_49 : decode cX4_readList 49 = .ok (.iconst 0, 1) := by decide +kernel
theorem dX4_readList_50 : decode cX4_readList 50 = .ok (.ireturn, 1) := by decide +kernel
theorem dX4_readList_51 : decode cX4_readList 51 = .ok (.aload_n 0, 1) := by decide +kernel
theorem dX4_readList_52 : decode cX4_readList 52 = .ok (.getfield 71, 3) := by decide +kernel
theorem dX4_readList_55 : decode cX4_readList 55 = .ok (.istore_n 3, 1) := by decide +kernel
theorem dX4_readList_56 : decode cX4_readList 56 = .ok (.iload_n 1, 1) := by decide +kernel
theorem dX4_readList_57 : decode cX4_readList 57 = .ok (.iconst 3, 1) := by decide +kernel
theorem dX4_readList_58 : decode cX4_readList 58 = .ok (.if_icmp .ne 14, 3) := by decide +kernel
theorem dX4_readList_61 : decode cX4_readList 61 = .ok (.aload_n 0, 1) := by decide +kernel
theorem dX4_readList_62 : decode cX4_readList 62 = .ok (.getfield 19, 3) := by decide +kernel
theorem dX4_readList_65 : decode cX4_readList 65 = .ok (.iload_n 3, 1) := by decide +kernel
theorem dX4_readList_66 : decode cX4_readList 66 = .ok (.invokevirtual 119, 3) := by decide +kernel
theorem dX4_readList_69 : decode cX4_readList 69 = .ok (.goto 55, 3) := by decide +kernel
theorem dX4_readList_72 : decode cX4_readList 72 = .ok (.iload_n 1, 1) := by decide +kernel
theorem dX4_readList_73 : decode cX4_readList 73 = .ok (.iconst 1, 1) := by decide +kernel
theorem dX4_readList_74 : decode cX4_readList 74 = .ok (.if_icmp .ne 23, 3) := by decide +kernel
theorem dX4_readList_77 : decode cX4_readList 77 = .ok (.aload_n 0, 1) := by decide +kernel
theorem dX4_readList_78 : decode cX4_readList 78 = .ok (.bipush 33, 2) := by decide +kernel
theorem dX4_readList_80 : decode cX4_readList 80 = .ok (.invokevirtual 47, 3) := by decide +kernel
theorem dX4_readList_83 : decode cX4_readList 83 = .ok (.ifCond .ne 14, 3) := by decide +kernel
theorem dX4_readList_86 : decode cX4_readList 86 = .ok (.aload_n 0, 1) := by decide +kernel
theorem dX4_readList_87 : decode cX4_readList 87 = .ok (.getfield 19, 3) := by decide +kernel
theorem dX4_readList_90 : decode cX4_readList 90 = .ok (.iload_n 3, 1) := by decide +kernel
theorem dX4_readList_91 : decode cX4_readList 91 = .ok (.invokevirtual 123, 3) := by decide +kernel
theorem dX4_readList_94 : decode cX4_readList 94 = .ok (.goto 30, 3) := by decide +kernel
theorem dX4_readList_97 : decode cX4_readList 97 = .ok (.iload_n 1, 1) := by decide +kernel
theorem dX4_readList_98 : decode cX4_readList 98 = .ok (.iconst 1, 1) := by decide +kernel
theorem dX4_readList_99 : decode cX4_readList 99 = .ok (.if_icmp .ne 25, 3) := by decide +kernel
theorem dX4_readList_102 : decode cX4_readList 102 = .ok (.aload_n 0, 1) := by decide +kernel
theorem dX4_readList_103 : decode cX4_readList 103 = .ok (.iconst 0, 1) := by decide +kernel
theorem dX4_readList_104 : decode cX4_readList 104 = .ok (.invokevirtual 67, 3) := by decide +kernel
theorem dX4_readList_107 : decode cX4_readList 107 = .ok (.ifCond .ne 5, 3) := by decide +kernel
theorem dX4_readList_110 : decode cX4_readList 110 = .ok (.iconst 0, 1) := by decide +kernel
theorem dX4_readList_111 : decode cX4_readList 111 = .ok (.ireturn, 1) := by decide +kernel
theorem dX4_readList_112 : decode cX4_readList 112 = .ok (.aload_n 0, 1) := by decide +kernel
theorem dX4_readList_113 : decode cX4_readList 113 = .ok (.getfield 19, 3) := by decide +kernel
theorem dX4_readList_116 : decode cX4_readList 116 = .ok (.iload_n 3, 1) := by decide +kernel
theorem dX4_readList_117 : decode cX4_readList 117 = .ok (.aload_n 0, 1) := by decide +kernel
theorem dX4_readList_118 : decode cX4_readList 118 = .ok (.getfield 71, 3) := by decide +kernel
theorem dX4_readList_121 : decode cX4_readList 121 = .ok (.invokevirtual 126, 3) := by decide +kernel
theorem dX4_readList_124 : decode cX4_readList 124 = .ok (.iinc 2 1, 3) := by decide +kernel
theorem dX4_readList_127 : decode cX4_readList 127 = .ok (.goto (-115), 3) := by decide +kernel
theorem dX4_readList_130 : decode cX4_readList 130 = .ok (.aload_n 0, 1) := by decide +kernel
theorem dX4_readList_131 : decode cX4_readList 131 = .ok (.bipush 125, 2) := by decide +kernel
theorem dX4_readList_133 : decode cX4_readList 133 = .ok (.invokevirtual 47, 3) := by decide +kernel
theorem dX4_readList_136 : decode cX4_readList 136 = .ok (.ifCond .ne 10, 3) := by decide +kernel
theorem dX4_readList_139 : decode cX4_readList 139 = .ok (.aload_n 0, 1) := by decide +kernel
theorem dX4_readList_140 : decode cX4_readList 140 = .ok (.invokevirtual 83, 3) := by decide +kernel
theorem dX4_readList_143 : decode cX4_readList 143 = .ok (.ifCond .eq 7, 3) := by decide +kernel
theorem dX4_readList_146 : decode cX4_readList 146 = .ok (.iconst 1, 1) := by decide +kernel
theorem dX4_readList_147 : decode cX4_readList 147 = .ok (.goto 4, 3) := by decide +kernel
theorem dX4_readList_150 : decode cX4_readList 150 = .ok (.iconst 0, 1) := by decide +kernel
theorem dX4_readList_151 : decode cX4_readList 151 = .ok (.ireturn, 1) := by decide +kernel
theorem dX4_take_0 : decode cX4_take 0 = .ok (.aload_n 0, 1) := by decide +kernel
theorem dX4_take_1 : decode cX4_take 1 = .ok (.getfield 9, 3) := by decide +kernel
theorem dX4_take_4 : decode cX4_take 4 = .ok (.aload_n 0, 1) := by decide +kernel
theorem dX4_take_5 : decode cX4_take 5 = .ok (.getfield 40, 3) := by decide +kernel
theorem dX4_take_8 : decode cX4_take 8 = .ok (.invokevirtual 43, 3) := by decide +kernel
theorem dX4_take_11 : decode cX4_take 11 = .ok (.iload_n 1, 1) := by decide +kernel
theorem dX4_take_12 : decode cX4_take 12 = .ok (.if_icmp .eq 5, 3) := by decide +kernel
theorem dX4_take_15 : decode cX4_take 15 = .ok (.iconst 0, 1) := by decide +kernel
theorem dX4_take_16 : decode cX4_take 16 = .ok (.ireturn, 1) := by decide +kernel
theorem dX4_take_17 : decode cX4_take 17 = .ok (.aload_n 0, 1) := by decide +kernel
theorem dX4_take_18 : decode cX4_take 18 = .ok (.dup, 1) := by decide +kernel
theorem dX4_take_19 : decode cX4_take 19 = .ok (.getfield 40, 3) := by decide +kernel
theorem dX4_take_22 : decode cX4_take 22 = .ok (.iconst 1, 1) := by decide +kernel
theorem dX4_take_23 : decode cX4_take 23 = .ok (.iadd, 1) := by decide +kernel
theorem dX4_take_24 : decode cX4_take 24 = .ok (.putfield 40, 3) := by decide +kernel
theorem dX4_take_27 : decode cX4_take 27 = .ok (.iconst 1, 1) := by decide +kernel
theorem dX4_take_28 : decode cX4_take 28 = .ok (.ireturn, 1) := by decide +kernel
theorem dX4_takeName_0 : decode cX4_takeName 0 = .ok (.aload_n 0, 1) := by decide +kernel
theorem dX4_takeName_1 : decode cX4_takeName 1 = .ok (.getfield 9, 3) := by decide +kernel
theorem dX4_takeName_4 : decode cX4_takeName 4 = .ok (.aload_n 0, 1) := by decide +kernel
theorem dX4_takeName_5 : decode cX4_takeName 5 = .ok (.getfield 40, 3) := by decide +kernel
theorem dX4_takeName_8 : decode cX4_takeName 8 = .ok (.invokevirtual 43, 3) := by decide +kernel
theorem dX4_takeName_11 : decode cX4_takeName 11 = .ok (.bipush 97, 2) := by decide +kernel
theorem dX4_takeName_13 : decode cX4_takeName 13 = .ok (.if_icmp .eq 8, 3) := by decide +kernel
theorem dX4_takeName_16 : decode cX4_takeName 16 = .ok (.aload_n 0, 1) := by decide +kernel
theorem dX4_takeName_17 : decode cX4_takeName 17 = .ok (.invokevirtual 83, 3) := by decide +kernel
theorem dX4_takeName_20 : decode cX4_takeName 20 = .ok (.ireturn, 1) := by decide +kernel
theorem dX4_takeName_21 : decode cX4_takeName 21 = .ok (.aload_n 0, 1) := by decide +kernel
theorem dX4_takeName_22 : decode cX4_takeName 22 = .ok (.getfield 9, 3) := by decide +kernel
theorem dX4_takeName_25 : decode cX4_takeName 25 = .ok (.aload_n 0, 1) := by decide +kernel
theorem dX4_takeName_26 : decode cX4_takeName 26 = .ok (.getfield 40, 3) := by decide +kernel
theorem dX4_takeName_29 : decode cX4_takeName 29 = .ok (.invokevirtual 129, 3) := by decide +kernel
theorem dX4_takeName_32 : decode cX4_takeName 32 = .ok (.bipush 8, 2) := by decide +kernel
theorem dX4_takeName_34 : decode cX4_takeName 34 = .ok (.if_icmp .le 23, 3) := by decide +kernel
theorem dX4_takeName_37 : decode cX4_takeName 37 = .ok (.aload_n 0, 1) := by decide +kernel
theorem dX4_takeName_38 : decode cX4_takeName 38 = .ok (.getfield 23, 3) := by decide +kernel
theorem dX4_takeName_41 : decode cX4_takeName 41 = .ok (.iconst 2, 1) := by decide +kernel
theorem dX4_takeName_42 : decode cX4_takeName 42 = .ok (.aload_n 0, 1) := by decide +kernel
theorem dX4_takeName_43 : decode cX4_takeName 43 = .ok (.getfield 9, 3) := by decide +kernel
theorem dX4_takeName_46 : decode cX4_takeName 46 = .ok (.aload_n 0, 1) := by decide +kernel
theorem dX4_takeName_47 : decode cX4_takeName 47 = .ok (.getfield 40, 3) := by decide +kernel
theorem dX4_takeName_50 : decode cX4_takeName 50 = .ok (.invokevirtual 51, 3) := by decide +kernel
theorem dX4_takeName_53 : decode cX4_takeName 53 = .ok (.invokevirtual 54, 3) := by decide +kernel
theorem dX4_takeName_56 : decode cX4_takeName 56 = .ok (.ireturn, 1) := by decide +kernel
theorem dX4_takeName_57 : decode cX4_takeName 57 = .ok (.aload_n 0, 1) := by decide +kernel
theorem dX4_takeName_58 : decode cX4_takeName 58 = .ok (.aload_n 0, 1) := by decide +kernel
theorem dX4_takeName_59 : decode cX4_takeName 59 = .ok (.getfield 19, 3) := by decide +kernel
theorem dX4_takeName_62 : decode cX4_takeName 62 = .ok (.aload_n 0, 1) := by decide +kernel
theorem dX4_takeName_63 : decode cX4_takeName 63 = .ok (.getfield 9, 3) := by decide +kernel
theorem dX4_takeName_66 : decode cX4_takeName 66 = .ok (.aload_n 0, 1) := by decide +kernel
theorem dX4_takeName_67 : decode cX4_takeName 67 = .ok (.getfield 40, 3) := by decide +kernel
theorem dX4_takeName_70 : decode cX4_takeName 70 = .ok (.invokevirtual 132, 3) := by decide +kernel
theorem dX4_takeName_73 : decode cX4_takeName 73 = .ok (.aload_n 0, 1) := by decide +kernel
theorem dX4_takeName_74 : decode cX4_takeName 74 = .ok (.getfield 37, 3) := by decide +kernel
theorem dX4_takeName_77 : decode cX4_takeName 77 = .ok (.iload_n 1, 1) := by decide +kernel
theorem dX4_takeName_78 : decode cX4_takeName 78 = .ok (.invokevirtual 136, 3) := by decide +kernel
theorem dX4_takeName_81 : decode cX4_takeName 81 = .ok (.putfield 71, 3) := by decide +kernel
theorem dX4_takeName_84 : decode cX4_takeName 84 = .ok (.aload_n 0, 1) := by decide +kernel
theorem dX4_takeName_85 : decode cX4_takeName 85 = .ok (.dup, 1) := by decide +kernel
theorem dX4_takeName_86 : decode cX4_takeName 86 = .ok (.getfield 40, 3) := by decide +kernel
theorem dX4_takeName_89 : decode cX4_takeName 89 = .ok (.iconst 1, 1) := by decide +kernel
theorem dX4_takeName_90 : decode cX4_takeName 90 = .ok (.iadd, 1) := by decide +kernel
theorem dX4_takeName_91 : decode cX4_takeName 91 = .ok (.putfield 40, 3) := by decide +kernel
theorem dX4_takeName_94 : decode cX4_takeName 94 = .ok (.iconst 1, 1) := by decide +kernel
theorem dX4_takeName_95 : decode cX4_takeName 95 = .ok (.ireturn, 1) := by decide +kernel
theorem dX4_takePrice_0 : decode cX4_takePrice 0 = .ok (.aload_n 0, 1) := by decide +kernel
theorem dX4_takePrice_1 : decode cX4_takePrice 1 = .ok (.sipush 4000, 3) := by decide +kernel
theorem dX4_takePrice_4 : decode cX4_takePrice 4 = .ok (.putfield 100, 3) := by decide +kernel
theorem dX4_takePrice_7 : decode cX4_takePrice 7 = .ok (.aload_n 0, 1) := by decide +kernel
theorem dX4_takePrice_8 : decode cX4_takePrice 8 = .ok (.bipush 40, 2) := by decide +kernel
theorem dX4_takePrice_10 : decode cX4_takePrice 10 = .ok (.invokevirtual 47, 3) := by decide +kernel
theorem dX4_takePrice_13 : decode cX4_takePrice 13 = .ok (.ifCond .ne 5, 3) := by decide +kernel
theorem dX4_takePrice_16 : decode cX4_takePrice 16 = .ok (.iconst 1, 1) := by decide +kernel
theorem dX4_takePrice_17 : decode cX4_takePrice 17 = .ok (.ireturn, 1) := by decide +kernel
theorem dX4_takePrice_18 : decode cX4_takePrice 18 = .ok (.aload_n 0, 1) := by decide +kernel
theorem dX4_takePrice_19 : decode cX4_takePrice 19 = .ok (.getfield 15, 3) := by decide +kernel
theorem dX4_takePrice_22 : decode cX4_takePrice 22 = .ok (.aload_n 0, 1) := by decide +kernel
theorem dX4_takePrice_23 : decode cX4_takePrice 23 = .ok (.getfield 40, 3) := by decide +kernel
theorem dX4_takePrice_26 : decode cX4_takePrice 26 = .ok (.invokevirtual 140, 3) := by decide +kernel
theorem dX4_takePrice_29 : decode cX4_takePrice 29 = .ok (.ifCond .ne 32, 3) := by decide +kernel
theorem dX4_takePrice_32 : decode cX4_takePrice 32 = .ok (.aload_n 0, 1) := by decide +kernel
theorem dX4_takePrice_33 : decode cX4_takePrice 33 = .ok (.getfield 23, 3) := by decide +kernel
theorem dX4_takePrice_36 : decode cX4_takePrice 36 = .ok (.aload_n 0, 1) := by decide +kernel
theorem dX4_takePrice_37 : decode cX4_takePrice 37 = .ok (.getfield 15, 3) := by decide +kernel
theorem dX4_takePrice_40 : decode cX4_takePrice 40 = .ok (.invokevirtual 145, 3) := by decide +kernel
theorem dX4_takePrice_43 : decode cX4_takePrice 43 = .ok (.aload_n 0, 1) := by decide +kernel
theorem dX4_takePrice_44 : decode cX4_takePrice 44 = .ok (.getfield 9, 3) := by decide +kernel
theorem dX4_takePrice_47 : decode cX4_takePrice 47 = .ok (.aload_n 0, 1) := by decide +kernel
theorem dX4_takePrice_48 : decode cX4_takePrice 48 = .ok (.getfield 15, 3) := by decide +kernel
theorem dX4_takePrice_51 : decode cX4_takePrice 51 = .ok (.invokevirtual 148, 3) := by decide +kernel
theorem dX4_takePrice_54 : decode cX4_takePrice 54 = .ok (.invokevirtual 51, 3) := by decide +kernel
theorem dX4_takePrice_57 : decode cX4_takePrice 57 = .ok (.invokevirtual 54, 3) := by decide +kernel
theorem dX4_takePrice_60 : decode cX4_takePrice 60 = .ok (.ireturn, 1) := by decide +kernel
theorem dX4_takePrice_61 : decode cX4_takePrice 61 = .ok (.aload_n 0, 1) := by decide +kernel
theorem dX4_takePrice_62 : decode cX4_takePrice 62 = .ok (.aload_n 0, 1) := by decide +kernel
theorem dX4_takePrice_63 : decode cX4_takePrice 63 = .ok (.getfield 15, 3) := by decide +kernel
theorem dX4_takePrice_66 : decode cX4_takePrice 66 = .ok (.invokevirtual 151, 3) := by decide +kernel
theorem dX4_takePrice_69 : decode cX4_takePrice 69 = .ok (.putfield 40, 3) := by decide +kernel
theorem dX4_takePrice_72 : decode cX4_takePrice 72 = .ok (.aload_n 0, 1) := by decide +kernel
theorem dX4_takePrice_73 : decode cX4_takePrice 73 = .ok (.aload_n 0, 1) := by decide +kernel
theorem dX4_takePrice_74 : decode cX4_takePrice 74 = .ok (.getfield 15, 3) := by decide +kernel
theorem dX4_takePrice_77 : decode cX4_takePrice 77 = .ok (.invokevirtual 154, 3) := by decide +kernel
theorem dX4_takePrice_80 : decode cX4_takePrice 80 = .ok (.iconst 0, 1) := by decide +kernel
theorem dX4_takePrice_81 : decode cX4_takePrice 81 = .ok (.invokestatic 157, 3) := by decide +kernel
theorem dX4_takePrice_84 : decode cX4_takePrice 84 = .ok (.putfield 100, 3) := by decide +kernel
theorem dX4_takePrice_87 : decode cX4_takePrice 87 = .ok (.aload_n 0, 1) := by decide +kernel
theorem dX4_takePrice_88 : decode cX4_takePrice 88 = .ok (.bipush 41, 2) := by decide +kernel
theorem dX4_takePrice_90 : decode cX4_takePrice 90 = .ok (.invokevirtual 47, 3) := by decide +kernel
theorem dX4_takePrice_93 : decode cX4_takePrice 93 = .ok (.ifCond .ne 10, 3) := by decide +kernel
theorem dX4_takePrice_96 : decode cX4_takePrice 96 = .ok (.aload_n 0, 1) := by decide +kernel
theorem dX4_takePrice_97 : decode cX4_takePrice 97 = .ok (.invokevirtual 83, 3) := by decide +kernel
theorem dX4_takePrice_100 : decode cX4_takePrice 100 = .ok (.ifCond .eq 7, 3) := by decide +kernel
theorem dX4_takePrice_103 : decode cX4_takePrice 103 = .ok (.iconst 1, 1) := by decide +kernel
theorem dX4_takePrice_104 : decode cX4_takePrice 104 = .ok (.goto 4, 3) := by decide +kernel
theorem dX4_takePrice_107 : decode cX4_takePrice 107 = .ok (.iconst 0, 1) := by decide +kernel
theorem dX4_takePrice_108 : decode cX4_takePrice 108 = .ok (.ireturn, 1) := by decide +kernel
theorem dX4_misplaced_0 : decode cX4_misplaced 0 = .ok (.aload_n 0, 1) := by decide +kernel
theorem dX4_misplaced_1 : decode cX4_misplaced 1 = .ok (.getfield 23, 3) := by decide +kernel
theorem dX4_misplaced_4 : decode cX4_misplaced 4 = .ok (.iconst 1, 1) := by decide +kernel
theorem dX4_misplaced_5 : decode cX4_misplaced 5 = .ok (.aload_n 0, 1) := by decide +kernel
theorem dX4_misplaced_6 : decode cX4_misplaced 6 = .ok (.getfield 9, 3) := by decide +kernel
theorem dX4_misplaced_9 : decode cX4_misplaced 9 = .ok (.aload_n 0, 1) := by decide +kernel
theorem dX4_misplaced_10 : decode cX4_misplaced 10 = .ok (.getfield 40, 3) := by decide +kernel
theorem dX4_misplaced_13 : decode cX4_misplaced 13 = .ok (.invokevirtual 51, 3) := by decide +kernel
theorem dX4_misplaced_16 : decode cX4_misplaced 16 = .ok (.invokevirtual 54, 3) := by decide +kernel
theorem dX4_misplaced_19 : decode cX4_misplaced 19 = .ok (.ireturn, 1) := by decide +kernel
theorem dX5_init_0 : decode cX5_init 0 = .ok (.aload_n 0, 1) := by decide +kernel
theorem dX5_init_1 : decode cX5_init 1 = .ok (.invokespecial 3, 3) := by decide +kernel
theorem dX5_init_4 : decode cX5_init 4 = .ok (.aload_n 0, 1) := by decide +kernel
theorem dX5_init_5 : decode cX5_init 5 = .ok (.bipush 24, 2) := by decide +kernel
theorem dX5_init_7 : decode cX5_init 7 = .ok (.newarray .int, 2) := by decide +kernel
theorem dX5_init_9 : decode cX5_init 9 = .ok (.putfield 9, 3) := by decide +kernel
theorem dX5_init_12 : decode cX5_init 12 = .ok (.aload_n 0, 1) := by decide +kernel
theorem dX5_init_13 : decode cX5_init 13 = .ok (.aload_n 1, 1) := by decide +kernel
theorem dX5_init_14 : decode cX5_init 14 = .ok (.putfield 15, 3) := by decide +kernel
theorem dX5_init_17 : decode cX5_init 17 = .ok (.return_, 1) := by decide +kernel
theorem dX5_hasBack_0 : decode cX5_hasBack 0 = .ok (.aload_n 0, 1) := by decide +kernel
theorem dX5_hasBack_1 : decode cX5_hasBack 1 = .ok (.getfield 15, 3) := by decide +kernel
theorem dX5_hasBack_4 : decode cX5_hasBack 4 = .ok (.iload_n 1, 1) := by decide +kernel
theorem dX5_hasBack_5 : decode cX5_hasBack 5 = .ok (.invokevirtual 19, 3) := by decide +kernel
theorem dX5_hasBack_8 : decode cX5_hasBack 8 = .ok (.ifCond .eq 20, 3) := by decide +kernel
theorem dX5_hasBack_11 : decode cX5_hasBack 11 = .ok (.aload_n 0, 1) := by decide +kernel
theorem dX5_hasBack_12 : decode cX5_hasBack 12 = .ok (.getfield 9, 3) := by decide +kernel
theorem dX5_hasBack_15 : decode cX5_hasBack 15 = .ok (.iload_n 1, 1) := by decide +kernel
theorem dX5_hasBack_16 : decode cX5_hasBack 16 = .ok (.iaload, 1) := by decide +kernel
theorem dX5_hasBack_17 : decode cX5_hasBack 17 = .ok (.iload_n 2, 1) := by decide +kernel
theorem dX5_hasBack_18 : decode cX5_hasBack 18 = .ok (.invokestatic 25, 3) := by decide +kernel
theorem dX5_hasBack_21 : decode cX5_hasBack 21 = .ok (.ifCond .eq 7, 3) := by decide +kernel
theorem dX5_hasBack_24 : decode cX5_hasBack 24 = .ok (.iconst 1, 1) := by decide +kernel
theorem dX5_hasBack_25 : decode cX5_hasBack 25 = .ok (.goto 4, 3) := by decide +kernel
theorem dX5_hasBack_28 : decode cX5_hasBack 28 = .ok (.iconst 0, 1) := by decide +kernel
theorem dX5_hasBack_29 : decode cX5_hasBack 29 = .ok (.ireturn, 1) := by decide +kernel
theorem dX5_targetsOf_0 : decode cX5_targetsOf 0 = .ok (.aload_n 0, 1) := by decide +kernel
theorem dX5_targetsOf_1 : decode cX5_targetsOf 1 = .ok (.getfield 15, 3) := by decide +kernel
theorem dX5_targetsOf_4 : decode cX5_targetsOf 4 = .ok (.iload_n 1, 1) := by decide +kernel
theorem dX5_targetsOf_5 : decode cX5_targetsOf 5 = .ok (.invokevirtual 19, 3) := by decide +kernel
theorem dX5_targetsOf_8 : decode cX5_targetsOf 8 = .ok (.ifCond .eq 21, 3) := by decide +kernel
theorem dX5_targetsOf_11 : decode cX5_targetsOf 11 = .ok (.aload_n 0, 1) := by decide +kernel
theorem dX5_targetsOf_12 : decode cX5_targetsOf 12 = .ok (.getfield 15, 3) := by decide +kernel
theorem dX5_targetsOf_15 : decode cX5_targetsOf 15 = .ok (.iload_n 1, 1) := by decide +kernel
theorem dX5_targetsOf_16 : decode cX5_targetsOf 16 = .ok (.invokevirtual 29, 3) := by decide +kernel
theorem dX5_targetsOf_19 : decode cX5_targetsOf 19 = .ok (.aload_n 0, 1) := by decide +kernel
theorem dX5_targetsOf_20 : decode cX5_targetsOf 20 = .ok (.getfield 9, 3) := by decide +kernel
theorem dX5_targetsOf_23 : decode cX5_targetsOf 23 = .ok (.iload_n 1, 1) := by decide +kernel
theorem dX5_targetsOf_24 : decode cX5_targetsOf 24 = .ok (.iaload, 1) := by decide +kernel
theorem dX5_targetsOf_25 : decode cX5_targetsOf 25 = .ok (.ior, 1) := by decide +kernel
theorem dX5_targetsOf_26 : decode cX5_targetsOf 26 = .ok (.goto 4, 3) := by decide +kernel
theorem dX5_targetsOf_29 : decode cX5_targetsOf 29 = .ok (.iconst 0, 1) := by decide +kernel
theorem dX5_targetsOf_30 : decode cX5_targetsOf 30 = .ok (.ireturn, 1) := by decide +kernel
theorem dX5_costOf_0 : decode cX5_costOf 0 = .ok (.aload_n 0, 1) := by decide +kernel
theorem dX5_costOf_1 : decode cX5_costOf 1 = .ok (.iload_n 1, 1) := by decide +kernel
theorem dX5_costOf_2 : decode cX5_costOf 2 = .ok (.iload_n 3, 1) := by decide +kernel
theorem dX5_costOf_3 : decode cX5_costOf 3 = .ok (.iload 4, 2) := by decide +kernel
theorem dX5_costOf_5 : decode cX5_costOf 5 = .ok (.invokevirtual 33, 3) := by decide +kernel
theorem dX5_costOf_8 : decode cX5_costOf 8 = .ok (.istore 5, 2) := by decide +kernel
theorem dX5_costOf_10 : decode cX5_costOf 10 = .ok (.iload_n 2, 1) := by decide +kernel
theorem dX5_costOf_11 : decode cX5_costOf 11 = .ok (.iconst 1, 1) := by decide +kernel
theorem dX5_costOf_12 : decode cX5_costOf 12 = .ok (.iand, 1) := by decide +kernel
theorem dX5_costOf_13 : decode cX5_costOf 13 = .ok (.ifCond .eq 24, 3) := by decide +kernel
theorem dX5_costOf_16 : decode cX5_costOf 16 = .ok (.aload_n 0, 1) := by decide +kernel
theorem dX5_costOf_17 : decode cX5_costOf 17 = .ok (.iload_n 1, 1) := by decide +kernel
theorem dX5_costOf_18 : decode cX5_costOf 18 = .ok (.iload_n 3, 1) := by decide +kernel
theorem dX5_costOf_19 : decode cX5_costOf 19 = .ok (.iload 4, 2) := by decide +kernel
theorem dX5_costOf_21 : decode cX5_costOf 21 = .ok (.invokevirtual 37, 3) := by decide +kernel
theorem dX5_costOf_24 : decode cX5_costOf 24 = .ok (.iconst 1, 1) := by decide +kernel
theorem dX5_costOf_25 : decode cX5_costOf 25 = .ok (.if_icmp .ne 12, 3) := by decide +kernel
theorem dX5_costOf_28 : decode cX5_costOf 28 = .ok (.iload 5, 2) := by decide +kernel
theorem dX5_costOf_30 : decode cX5_costOf 30 = .ok (.ldc 40, 2) := by decide +kernel
theorem dX5_costOf_32 : decode cX5_costOf 32 = .ok (.invokestatic 41, 3) := by decide +kernel
theorem dX5_costOf_35 : decode cX5_costOf 35 = .ok (.istore 5, 2) := by decide +kernel
theorem dX5_costOf_37 : decode cX5_costOf 37 = .ok (.iload_n 2, 1) := by decide +kernel
theorem dX5_costOf_38 : decode cX5_costOf 38 = .ok (.iconst 2, 1) := by decide +kernel
theorem dX5_costOf_39 : decode cX5_costOf 39 = .ok (.iand, 1) := by decide +kernel
theorem dX5_costOf_40 : decode cX5_costOf 40 = .ok (.ifCond .eq 27, 3) := by decide +kernel
theorem dX5_costOf_43 : decode cX5_costOf 43 = .ok (.iload_n 3, 1) := by decide +kernel
theorem dX5_costOf_44 : decode cX5_costOf 44 = .ok (.iconst 2, 1) := by decide +kernel
theorem dX5_costOf_45 : decode cX5_costOf 45 = .ok (.if_icmp .eq 13, 3) := by decide +kernel
theorem dX5_costOf_48 : decode cX5_costOf 48 = .ok (.iload_n 3, 1) := by decide +kernel
theorem dX5_costOf_49 : decode cX5_costOf 49 = .ok (.iconst 5, 1) := by decide +kernel
theorem dX5_costOf_50 : decode cX5_costOf 50 = .ok (.if_icmp .eq 8, 3) := by decide +kernel
theorem dX5_costOf_53 : decode cX5_costOf 53 = .ok (.iload_n 3, 1) := by decide +kernel
theorem dX5_costOf_54 : decode cX5_costOf 54 = .ok (.iconst 3, 1) := by decide +kernel
theorem dX5_costOf_55 : decode cX5_costOf 55 = .ok (.if_icmp .ne 12, 3) := by decide +kernel
theorem dX5_costOf_58 : decode cX5_costOf 58 = .ok (.iload 5, 2) := by decide +kernel
theorem dX5_costOf_60 : decode cX5_costOf 60 = .ok (.ldc 45, 2) := by decide +kernel
theorem dX5_costOf_62 : decode cX5_costOf 62 = .ok (.invokestatic 41, 3) := by decide +kernel
theorem dX5_costOf_65 : decode cX5_costOf 65 = .ok (.istore 5, 2) := by decide +kernel
theorem dX5_costOf_67 : decode cX5_costOf 67 = .ok (.iload 5, 2) := by decide +kernel
theorem dX5_costOf_69 : decode cX5_costOf 69 = .ok (.ireturn, 1) := by decide +kernel
theorem dX5_stateBehind_0 : decode cX5_stateBehind 0 = .ok (.iload_n 2, 1) := by decide +kernel
theorem dX5_stateBehind_1 : decode cX5_stateBehind 1 = .ok (.istore 5, 2) := by decide +kernel
theorem dX5_stateBehind_3 : decode cX5_stateBehind 3 = .ok (.aload_n 0, 1) := by decide +kernel
theorem dX5_stateBehind_4 : decode cX5_stateBehind 4 = .ok (.iload_n 1, 1) := by decide +kernel
theorem dX5_stateBehind_5 : decode cX5_stateBehind 5 = .ok (.iload_n 3, 1) := by decide +kernel
theorem dX5_stateBehind_6 : decode cX5_stateBehind 6 = .ok (.iload 4, 2) := by decide +kernel
theorem dX5_stateBehind_8 : decode cX5_stateBehind 8 = .ok (.invokevirtual 37, 3) := by decide +kernel
theorem dX5_stateBehind_11 : decode cX5_stateBehind 11 = .ok (.iconst 2, 1) := by decide +kernel
theorem dX5_stateBehind_12 : decode cX5_stateBehind 12 = .ok (.if_icmp .ne 9, 3) := by decide +kernel
theorem dX5_stateBehind_15 : decode cX5_stateBehind 15 = .ok (.iload 5, 2) := by decide +kernel
theorem dX5_stateBehind_17 : decode cX5_stateBehind 17 = .ok (.iconst 1, 1) := by decide +kernel
theorem dX5_stateBehind_18 : decode cX5_stateBehind 18 = .ok (.ior, 1) := by decide +kernel
theorem dX5_stateBehind_19 : decode cX5_stateBehind 19 = .ok (.istore 5, 2) := by decide +kernel
theorem dX5_stateBehind_21 : decode cX5_stateBehind 21 = .ok (.iload_n 3, 1) := by decide +kernel
theorem dX5_stateBehind_22 : decode cX5_stateBehind 22 = .ok (.iconst 2, 1) := by decide +kernel
theorem dX5_stateBehind_23 : decode cX5_stateBehind 23 = .ok (.if_icmp .eq 8, 3) := by decide +kernel
theorem dX5_stateBehind_26 : decode cX5_stateBehind 26 = .ok (.iload_n 3, 1) := by decide +kernel
theorem dX5_stateBehind_27 : decode cX5_stateBehind 27 = .ok (.iconst 4, 1) := by decide +kernel
theorem dX5_stateBehind_28 : decode cX5_stateBehind 28 = .ok (.if_icmp .ne 32, 3) := by decide +kernel
theorem dX5_stateBehind_31 : decode cX5_stateBehind 31 = .ok (.aload_n 0, 1) := by decide +kernel
theorem dX5_stateBehind_32 : decode cX5_stateBehind 32 = .ok (.getfield 15, 3) := by decide +kernel
theorem dX5_stateBehind_35 : decode cX5_stateBehind 35 = .ok (.iload_n 1, 1) := by decide +kernel
theorem dX5_stateBehind_36 : decode cX5_stateBehind 36 = .ok (.invokevirtual 46, 3) := by decide +kernel
theorem dX5_stateBehind_39 : decode cX5_stateBehind 39 = .ok (.ifCond .eq 21, 3) := by decide +kernel
theorem dX5_stateBehind_42 : decode cX5_stateBehind 42 = .ok (.aload_n 0, 1) := by decide +kernel
theorem dX5_stateBehind_43 : decode cX5_stateBehind 43 = .ok (.getfield 15, 3) := by decide +kernel
theorem dX5_stateBehind_46 : decode cX5_stateBehind 46 = .ok (.iload 4, 2) := by decide +kernel
theorem dX5_stateBehind_48 : decode cX5_stateBehind 48 = .ok (.invokevirtual 46, 3) := by decide +kernel
theorem dX5_stateBehind_51 : decode cX5_stateBehind 51 = .ok (.ifCond .ne 9, 3) := by decide +kernel
theorem dX5_stateBehind_54 : decode cX5_stateBehind 54 = .ok (.iload 5, 2) := by decide +kernel
theorem dX5_stateBehind_56 : decode cX5_stateBehind 56 = .ok (.iconst 2, 1) := by decide +kernel
theorem dX5_stateBehind_57 : decode cX5_stateBehind 57 = .ok (.ior, 1) := by decide +kernel
theorem dX5_stateBehind_58 : decode cX5_stateBehind 58 = .ok (.istore 5, 2) := by decide +kernel
theorem dX5_stateBehind_60 : decode cX5_stateBehind 60 = .ok (.iload 5, 2) := by decide +kernel
theorem dX5_stateBehind_62 : decode cX5_stateBehind 62 = .ok (.ireturn, 1) := by decide +kernel
theorem dX5_markOf_0 : decode cX5_markOf 0 = .ok (.iload_n 2, 1) := by decide +kernel
theorem dX5_markOf_1 : decode cX5_markOf 1 = .ok (.iconst 2, 1) := by decide +kernel
theorem dX5_markOf_2 : decode cX5_markOf 2 = .ok (.if_icmp .ne 21, 3) := by decide +kernel
theorem dX5_markOf_5 : decode cX5_markOf 5 = .ok (.aload_n 0, 1) := by decide +kernel
theorem dX5_markOf_6 : decode cX5_markOf 6 = .ok (.getfield 15, 3) := by decide +kernel
theorem dX5_markOf_9 : decode cX5_markOf 9 = .ok (.iload_n 1, 1) := by decide +kernel
theorem dX5_markOf_10 : decode cX5_markOf 10 = .ok (.iload_n 3, 1) := by decide +kernel
theorem dX5_markOf_11 : decode cX5_markOf 11 = .ok (.invokevirtual 49, 3) := by decide +kernel
theorem dX5_markOf_14 : decode cX5_markOf 14 = .ok (.ifCond .eq 7, 3) := by decide +kernel
theorem dX5_markOf_17 : decode cX5_markOf 17 = .ok (.iconst 2, 1) := by decide +kernel
theorem dX5_markOf_18 : decode cX5_markOf 18 = .ok (.goto 4, 3) := by decide +kernel
theorem dX5_markOf_21 : decode cX5_markOf 21 = .ok (.iconst 1, 1) := by decide +kernel
theorem dX5_markOf_22 : decode cX5_markOf 22 = .ok (.ireturn, 1) := by decide +kernel
theorem dX5_markOf_23 : decode cX5_markOf 23 = .ok (.iload_n 2, 1) := by decide +kernel
theorem dX5_markOf_24 : decode cX5_markOf 24 = .ok (.iconst 4, 1) := by decide +kernel
theorem dX5_markOf_25 : decode cX5_markOf 25 = .ok (.if_icmp .ne 20, 3) := by decide +kernel
theorem dX5_markOf_28 : decode cX5_markOf 28 = .ok (.aload_n 0, 1) := by decide +kernel
theorem dX5_markOf_29 : decode cX5_markOf 29 = .ok (.getfield 15, 3) := by decide +kernel
theorem dX5_markOf_32 : decode cX5_markOf 32 = .ok (.iload_n 1, 1) := by decide +kernel
theorem dX5_markOf_33 : decode cX5_markOf 33 = .ok (.invokevirtual 52, 3) := by decide +kernel
theorem dX5_markOf_36 : decode cX5_markOf 36 = .ok (.ifCond .eq 7, 3) := by decide +kernel
theorem dX5_markOf_39 : decode cX5_markOf 39 = .ok (.iconst 2, 1) := by decide +kernel
theorem dX5_markOf_40 : decode cX5_markOf 40 = .ok (.goto 4, 3) := by decide +kernel
theorem dX5_markOf_43 : decode cX5_markOf 43 = .ok (.iconst 1, 1) := by decide +kernel
theorem dX5_markOf_44 : decode cX5_markOf 44 = .ok (.ireturn, 1) := by decide +kernel
theorem dX5_markOf_45 : decode cX5_markOf 45 = .ok (.iload_n 2, 1) := by decide +kernel
theorem dX5_markOf_46 : decode cX5_markOf 46 = .ok (.iconst 5, 1) := by decide +kernel
theorem dX5_markOf_47 : decode cX5_markOf 47 = .ok (.if_icmp .ne 7, 3) := by decide +kernel
theorem dX5_markOf_50 : decode cX5_markOf 50 = .ok (.iconst 1, 1) := by decide +kernel
theorem dX5_markOf_51 : decode cX5_markOf 51 = .ok (.goto 4, 3) := by decide +kernel
theorem dX5_markOf_54 : decode cX5_markOf 54 = .ok (.iconst 0, 1) := by decide +kernel
theorem dX5_markOf_55 : decode cX5_markOf 55 = .ok (.ireturn, 1) := by decide +kernel
theorem dX5_plainCost_0 : decode cX5_plainCost 0 = .ok (.iload_n 2, 1) := by decide +kernel
theorem dX5_plainCost_1 : decode cX5_plainCost 1 = .ok (.tableswitch 155 1 5 #[35, 53, 78, 108, 127], 35) := by decide +kernel
theorem dX5_plainCost_36 : decode cX5_plainCost 36 = .ok (.aload_n 0, 1) := by decide +kernel
theorem dX5_plainCost_37 : decode cX5_plainCost 37 = .ok (.getfield 15, 3) := by decide +kernel
theorem dX5_plainCost_40 : decode cX5_plainCost 40 = .ok (.iload_n 1, 1) := by decide +kernel
theorem dX5_plainCost_41 : decode cX5_plainCost 41 = .ok (.iload_n 3, 1) := by decide +kernel
theorem dX5_plainCost_42 : decode cX5_plainCost 42 = .ok (.invokevirtual 55, 3) := by decide +kernel
theorem dX5_plainCost_45 : decode cX5_plainCost 45 = .ok (.ifCond .eq 7, 3) := by decide +kernel
theorem dX5_plainCost_48 : decode cX5_plainCost 48 = .ok (.iconst 0, 1) := by decide +kernel
theorem dX5_plainCost_49 : decode cX5_plainCost 49 = .ok (.goto 4, 3) := by decide +kernel
theorem dX5_plainCost_52 : decode cX5_plainCost 52 = .ok (.iconst (-1), 1) := by decide +kernel
theorem dX5_plainCost_53 : decode cX5_plainCost 53 = .ok (.ireturn, 1) := by decide +kernel
theorem dX5_plainCost_54 : decode cX5_plainCost 54 = .ok (.aload_n 0, 1) := by decide +kernel
theorem dX5_plainCost_55 : decode cX5_plainCost 55 = .ok (.getfield 15, 3) := by decide +kernel
theorem dX5_plainCost_58 : decode cX5_plainCost 58 = .ok (.iload_n 1, 1) := by decide +kernel
theorem dX5_plainCost_59 : decode cX5_plainCost 59 = .ok (.iload_n 3, 1) := by decide +kernel
theorem dX5_plainCost_60 : decode cX5_plainCost 60 = .ok (.invokevirtual 58, 3) := by decide +kernel
theorem dX5_plainCost_63 : decode cX5_plainCost 63 = .ok (.ldc 61, 2) := by decide +kernel
theorem dX5_plainCost_65 : decode cX5_plainCost 65 = .ok (.aload_n 0, 1) := by decide +kernel
theorem dX5_plainCost_66 : decode cX5_plainCost 66 = .ok (.getfield 15, 3) := by decide +kernel
theorem dX5_plainCost_69 : decode cX5_plainCost 69 = .ok (.iload_n 1, 1) := by decide +kernel
theorem dX5_plainCost_70 : decode cX5_plainCost 70 = .ok (.iload_n 3, 1) := by decide +kernel
theorem dX5_plainCost_71 : decode cX5_plainCost 71 = .ok (.invokevirtual 62, 3) := by decide +kernel
theorem dX5_plainCost_74 : decode cX5_plainCost 74 = .ok (.imul, 1) := by decide +kernel
theorem dX5_plainCost_75 : decode cX5_plainCost 75 = .ok (.invokestatic 41, 3) := by decide +kernel
theorem dX5_plainCost_78 : decode cX5_plainCost 78 = .ok (.ireturn, 1) := by decide +kernel
theorem dX5_plainCost_79 : decode cX5_plainCost 79 = .ok (.aload_n 0, 1) := by decide +kernel
theorem dX5_plainCost_80 : decode cX5_plainCost 80 = .ok (.getfield 15, 3) := by decide +kernel
theorem dX5_plainCost_83 : decode cX5_plainCost 83 = .ok (.iload_n 1, 1) := by decide +kernel
theorem dX5_plainCost_84 : decode cX5_plainCost 84 = .ok (.iload_n 3, 1) := by decide +kernel
theorem dX5_plainCost_85 : decode cX5_plainCost 85 = .ok (.invokevirtual 65, 3) := by decide +kernel
theorem dX5_plainCost_88 : decode cX5_plainCost 88 = .ok (.aload_n 0, 1) := by decide +kernel
theorem dX5_plainCost_89 : decode cX5_plainCost 89 = .ok (.getfield 15, 3) := by decide +kernel
theorem dX5_plainCost_92 : decode cX5_plainCost 92 = .ok (.iload_n 3, 1) := by decide +kernel
theorem dX5_plainCost_93 : decode cX5_plainCost 93 = .ok (.invokevirtual 68, 3) := by decide +kernel
theorem dX5_plainCost_96 : decode cX5_plainCost 96 = .ok (.ifCond .eq 8, 3) := by decide +kernel
theorem dX5_plainCost_99 : decode cX5_plainCost 99 = .ok (.ldc 71, 2) := by decide +kernel
theorem dX5_plainCost_101 : decode cX5_plainCost 101 = .ok (.goto 4, 3) := by decide +kernel
theorem dX5_plainCost_104 : decode cX5_plainCost 104 = .ok (.iconst 0, 1) := by decide +kernel
theorem dX5_plainCost_105 : decode cX5_plainCost 105 = .ok (.invokestatic 41, 3) := by decide +kernel
theorem dX5_plainCost_108 : decode cX5_plainCost 108 = .ok (.ireturn, 1) := by decide +kernel
theorem dX5_plainCost_109 : decode cX5_plainCost 109 = .ok (.aload_n 0, 1) := by decide +kernel
theorem dX5_plainCost_110 : decode cX5_plainCost 110 = .ok (.getfield 15, 3) := by decide +kernel
theorem dX5_plainCost_113 : decode cX5_plainCost 113 = .ok (.iload_n 3, 1) := by decide +kernel
theorem dX5_plainCost_114 : decode cX5_plainCost 114 = .ok (.iload_n 1, 1) := by decide +kernel
theorem dX5_plainCost_115 : decode cX5_plainCost 115 = .ok (.invokevirtual 65, 3) := by decide +kernel
theorem dX5_plainCost_118 : decode cX5_plainCost 118 = .ok (.iconst (-1), 1) := by decide +kernel
theorem dX5_plainCost_119 : decode cX5_plainCost 119 = .ok (.if_icmp .ne 7, 3) := by decide +kernel
theorem dX5_plainCost_122 : decode cX5_plainCost 122 = .ok (.iconst (-1), 1) := by decide +kernel
theorem dX5_plainCost_123 : decode cX5_plainCost 123 = .ok (.goto 4, 3) := by decide +kernel
theorem dX5_plainCost_126 : decode cX5_plainCost 126 = .ok (.iconst 0, 1) := by decide +kernel
theorem dX5_plainCost_127 : decode cX5_plainCost 127 = .ok (.ireturn, 1) := by decide +kernel
theorem dX5_plainCost_128 : decode cX5_plainCost 128 = .ok (.aload_n 0, 1) := by decide +kernel
theorem dX5_plainCost_129 : decode cX5_plainCost 129 = .ok (.iload_n 1, 1) := by decide +kernel
theorem dX5_plainCost_130 : decode cX5_plainCost 130 = .ok (.iload_n 3, 1) := by decide +kernel
theorem dX5_plainCost_131 : decode cX5_plainCost 131 = .ok (.invokevirtual 72, 3) := by decide +kernel
theorem dX5_plainCost_134 : decode cX5_plainCost 134 = .ok (.ifCond .eq 20, 3) := by decide +kernel
theorem dX5_plainCost_137 : decode cX5_plainCost 137 = .ok (.aload_n 0, 1) := by decide +kernel
theorem dX5_plainCost_138 : decode cX5_plainCost 138 = .ok (.getfield 15, 3) := by decide +kernel
theorem dX5_plainCost_141 : decode cX5_plainCost 141 = .ok (.iload_n 3, 1) := by decide +kernel
theorem dX5_plainCost_142 : decode cX5_plainCost 142 = .ok (.iload_n 1, 1) := by decide +kernel
theorem dX5_plainCost_143 : decode cX5_plainCost 143 = .ok (.invokevirtual 58, 3) := by decide +kernel
theorem dX5_plainCost_146 : decode cX5_plainCost 146 = .ok (.ldc 75, 2) := by decide +kernel
theorem dX5_plainCost_148 : decode cX5_plainCost 148 = .ok (.invokestatic 41, 3) := by decide +kernel
theorem dX5_plainCost_151 : decode cX5_plainCost 151 = .ok (.goto 4, 3) := by decide +kernel
theorem dX5_plainCost_154 : decode cX5_plainCost 154 = .ok (.iconst (-1), 1) := by decide +kernel
theorem dX5_plainCost_155 : decode cX5_plainCost 155 = .ok (.ireturn, 1) := by decide +kernel
theorem dX5_plainCost_156 : decode cX5_plainCost 156 = .ok (.iconst (-1), 1) := by decide +kernel
theorem dX5_plainCost_157 : decode cX5_plainCost 157 = .ok (.ireturn, 1) := by decide +kernel
theorem dX5_plus_0 : decode cX5_plus 0 = .ok (.iload_n 0, 1) := by decide +kernel
theorem dX5_plus_1 : decode cX5_plus 1 = .ok (.iconst (-1), 1) := by decide +kernel
theorem dX5_plus_2 : decode cX5_plus 2 = .ok (.if_icmp .ne 7, 3) := by decide +kernel
theorem dX5_plus_5 : decode cX5_plus 5 = .ok (.iconst (-1), 1) := by decide +kernel
theorem dX5_plus_6 : decode cX5_plus 6 = .ok (.goto 6, 3) := by decide +kernel
theorem dX5_plus_9 : decode cX5_plus 9 = .ok (.iload_n 0, 1) := by decide +kernel
theorem dX5_plus_10 : decode cX5_plus 10 = .ok (.iload_n 1, 1) := by decide +kernel
theorem dX5_plus_11 : decode cX5_plus 11 = .ok (.iadd, 1) := by decide +kernel
theorem dX5_plus_12 : decode cX5_plus 12 = .ok (.ireturn, 1) := by decide +kernel
theorem dX5_findLinksBack_0 : decode cX5_findLinksBack 0 = .ok (.iconst 0, 1) := by decide +kernel
theorem dX5_findLinksBack_1 : decode cX5_findLinksBack 1 = .ok (.istore_n 2, 1) := by decide +kernel
theorem dX5_findLinksBack_2 : decode cX5_findLinksBack 2 = .ok (.iload_n 2, 1) := by decide +kernel
theorem dX5_findLinksBack_3 : decode cX5_findLinksBack 3 = .ok (.bipush 24, 2) := by decide +kernel
theorem dX5_findLinksBack_5 : decode cX5_findLinksBack 5 = .ok (.if_icmp .ge 16, 3) := by decide +kernel
theorem dX5_findLinksBack_8 : decode cX5_findLinksBack 8 = .ok (.aload_n 0, 1) := by decide +kernel
theorem dX5_findLinksBack_9 : decode cX5_findLinksBack 9 = .ok (.getfield 9, 3) := by decide +kernel
theorem dX5_findLinksBack_12 : decode cX5_findLinksBack 12 = .ok (.iload_n 2, 1) := by decide +kernel
theorem dX5_findLinksBack_13 : decode cX5_findLinksBack 13 = .ok (.iconst 0, 1) := by decide +kernel
theorem dX5_findLinksBack_14 : decode cX5_findLinksBack 14 = .ok (.iastore, 1) := by decide +kernel
theorem dX5_findLinksBack_15 : decode cX5_findLinksBack 15 = .ok (.iinc 2 1, 3) := by decide +kernel
theorem dX5_findLinksBack_18 : decode cX5_findLinksBack 18 = .ok (.goto (-16), 3) := by decide +kernel
theorem dX5_findLinksBack_21 : decode cX5_findLinksBack 21 = .ok (.iload_n 1, 1) := by decide +kernel
theorem dX5_findLinksBack_22 : decode cX5_findLinksBack 22 = .ok (.invokestatic 76, 3) := by decide +kernel
theorem dX5_findLinksBack_25 : decode cX5_findLinksBack 25 = .ok (.istore_n 2, 1) := by decide +kernel
theorem dX5_findLinksBack_26 : decode cX5_findLinksBack 26 = .ok (.iconst 0, 1) := by decide +kernel
theorem dX5_findLinksBack_27 : decode cX5_findLinksBack 27 = .ok (.istore_n 3, 1) := by decide +kernel
theorem dX5_findLinksBack_28 : decode cX5_findLinksBack 28 = .ok (.iload_n 3, 1) := by decide +kernel
theorem dX5_findLinksBack_29 : decode cX5_findLinksBack 29 = .ok (.bipush 24, 2) := by decide +kernel
theorem dX5_findLinksBack_31 : decode cX5_findLinksBack 31 = .ok (.if_icmp .gt 61, 3) := by decide +kernel
theorem dX5_findLinksBack_34 : decode cX5_findLinksBack 34 = .ok (.aload_n 0, 1) := by decide +kernel
theorem dX5_findLinksBack_35 : decode cX5_findLinksBack 35 = .ok (.iload_n 2, 1) := by decide +kernel
theorem dX5_findLinksBack_36 : decode cX5_findLinksBack 36 = .ok (.invokevirtual 79, 3) := by decide +kernel
theorem dX5_findLinksBack_39 : decode cX5_findLinksBack 39 = .ok (.istore_n 2, 1) := by decide +kernel
theorem dX5_findLinksBack_40 : decode cX5_findLinksBack 40 = .ok (.iconst 0, 1) := by decide +kernel
theorem dX5_findLinksBack_41 : decode cX5_findLinksBack 41 = .ok (.istore 4, 2) := by decide +kernel
theorem dX5_findLinksBack_43 : decode cX5_findLinksBack 43 = .ok (.iconst 0, 1) := by decide +kernel
theorem dX5_findLinksBack_44 : decode cX5_findLinksBack 44 = .ok (.istore 5, 2) := by decide +kernel
theorem dX5_findLinksBack_46 : decode cX5_findLinksBack 46 = .ok (.iload 5, 2) := by decide +kernel
theorem dX5_findLinksBack_48 : decode cX5_findLinksBack 48 = .ok (.bipush 24, 2) := by decide +kernel
theorem dX5_findLinksBack_50 : decode cX5_findLinksBack 50 = .ok (.if_icmp .ge 30, 3) := by decide +kernel
theorem dX5_findLinksBack_53 : decode cX5_findLinksBack 53 = .ok (.iload_n 2, 1) := by decide +kernel
theorem dX5_findLinksBack_54 : decode cX5_findLinksBack 54 = .ok (.iload 5, 2) := by decide +kernel
theorem dX5_findLinksBack_56 : decode cX5_findLinksBack 56 = .ok (.invokestatic 25, 3) := by decide +kernel
theorem dX5_findLinksBack_59 : decode cX5_findLinksBack 59 = .ok (.ifCond .ne 15, 3) := by decide +kernel
theorem dX5_findLinksBack_62 : decode cX5_findLinksBack 62 = .ok (.iload 4, 2) := by decide +kernel
theorem dX5_findLinksBack_64 : decode cX5_findLinksBack 64 = .ok (.aload_n 0, 1) := by decide +kernel
theorem dX5_findLinksBack_65 : decode cX5_findLinksBack 65 = .ok (.iload 5, 2) := by decide +kernel
theorem dX5_findLinksBack_67 : decode cX5_findLinksBack 67 = .ok (.iload_n 2, 1) := by decide +kernel
theorem dX5_findLinksBack_68 : decode cX5_findLinksBack 68 = .ok (.invokevirtual 82, 3) := by decide +kernel
theorem dX5_findLinksBack_71 : decode cX5_findLinksBack 71 = .ok (.ior, 1) := by decide +kernel
theorem dX5_findLinksBack_72 : decode cX5_findLinksBack 72 = .ok (.istore 4, 2) := by decide +kernel
theorem dX5_findLinksBack_74 : decode cX5_findLinksBack 74 = .ok (.iinc 5 1, 3) := by decide +kernel
theorem dX5_findLinksBack_77 : decode cX5_findLinksBack 77 = .ok (.goto (-31), 3) := by decide +kernel
theorem dX5_findLinksBack_80 : decode cX5_findLinksBack 80 = .ok (.iload 4, 2) := by decide +kernel
theorem dX5_findLinksBack_82 : decode cX5_findLinksBack 82 = .ok (.ifCond .ne 4, 3) := by decide +kernel
theorem dX5_findLinksBack_85 : decode cX5_findLinksBack 85 = .ok (.return_, 1) := by decide +kernel
theorem dX5_findLinksBack_86 : decode cX5_findLinksBack 86 = .ok (.iinc 3 1, 3) := by decide +kernel
theorem dX5_findLinksBack_89 : decode cX5_findLinksBack 89 = .ok (.goto (-61), 3) := by decide +kernel
theorem dX5_findLinksBack_92 : decode cX5_findLinksBack 92 = .ok (.return_, 1) := by decide +kernel
theorem dX5_spread_0 : decode cX5_spread 0 = .ok (.iload_n 1, 1) := by decide +kernel
theorem dX5_spread_1 : decode cX5_spread 1 = .ok (.istore_n 2, 1) := by decide +kernel
theorem dX5_spread_2 : decode cX5_spread 2 = .ok (.iconst 0, 1) := by decide +kernel
theorem dX5_spread_3 : decode cX5_spread 3 = .ok (.istore_n 3, 1) := by decide +kernel
theorem dX5_spread_4 : decode cX5_spread 4 = .ok (.iload_n 3, 1) := by decide +kernel
theorem dX5_spread_5 : decode cX5_spread 5 = .ok (.bipush 24, 2) := by decide +kernel
theorem dX5_spread_7 : decode cX5_spread 7 = .ok (.if_icmp .gt 54, 3) := by decide +kernel
theorem dX5_spread_10 : decode cX5_spread 10 = .ok (.iload_n 2, 1) := by decide +kernel
theorem dX5_spread_11 : decode cX5_spread 11 = .ok (.istore 4, 2) := by decide +kernel
theorem dX5_spread_13 : decode cX5_spread 13 = .ok (.iconst 0, 1) := by decide +kernel
theorem dX5_spread_14 : decode cX5_spread 14 = .ok (.istore 5, 2) := by decide +kernel
theorem dX5_spread_16 : decode cX5_spread 16 = .ok (.iload 5, 2) := by decide +kernel
theorem dX5_spread_18 : decode cX5_spread 18 = .ok (.bipush 24, 2) := by decide +kernel
theorem dX5_spread_20 : decode cX5_spread 20 = .ok (.if_icmp .ge 27, 3) := by decide +kernel
theorem dX5_spread_23 : decode cX5_spread 23 = .ok (.iload_n 2, 1) := by decide +kernel
theorem dX5_spread_24 : decode cX5_spread 24 = .ok (.iload 5, 2) := by decide +kernel
theorem dX5_spread_26 : decode cX5_spread 26 = .ok (.invokestatic 25, 3) := by decide +kernel
theorem dX5_spread_29 : decode cX5_spread 29 = .ok (.ifCond .eq 12, 3) := by decide +kernel
theorem dX5_spread_32 : decode cX5_spread 32 = .ok (.iload_n 2, 1) := by decide +kernel
theorem dX5_spread_33 : decode cX5_spread 33 = .ok (.aload_n 0, 1) := by decide +kernel
theorem dX5_spread_34 : decode cX5_spread 34 = .ok (.iload 5, 2) := by decide +kernel
theorem dX5_spread_36 : decode cX5_spread 36 = .ok (.invokevirtual 85, 3) := by decide +kernel
theorem dX5_spread_39 : decode cX5_spread 39 = .ok (.ior, 1) := by decide +kernel
theorem dX5_spread_40 : decode cX5_spread 40 = .ok (.istore_n 2, 1) := by decide +kernel
theorem dX5_spread_41 : decode cX5_spread 41 = .ok (.iinc 5 1, 3) := by decide +kernel
theorem dX5_spread_44 : decode cX5_spread 44 = .ok (.goto (-28), 3) := by decide +kernel
theorem dX5_spread_47 : decode cX5_spread 47 = .ok (.iload_n 2, 1) := by decide +kernel
theorem dX5_spread_48 : decode cX5_spread 48 = .ok (.iload 4, 2) := by decide +kernel
theorem dX5_spread_50 : decode cX5_spread 50 = .ok (.if_icmp .ne 5, 3) := by decide +kernel
theorem dX5_spread_53 : decode cX5_spread 53 = .ok (.iload_n 2, 1) := by decide +kernel
theorem dX5_spread_54 : decode cX5_spread 54 = .ok (.ireturn, 1) := by decide +kernel
theorem dX5_spread_55 : decode cX5_spread 55 = .ok (.iinc 3 1, 3) := by decide +kernel
theorem dX5_spread_58 : decode cX5_spread 58 = .ok (.goto (-54), 3) := by decide +kernel
theorem dX5_spread_61 : decode cX5_spread 61 = .ok (.iload_n 2, 1) := by decide +kernel
theorem dX5_spread_62 : decode cX5_spread 62 = .ok (.ireturn, 1) := by decide +kernel
theorem dX5_turnLinks_0 : decode cX5_turnLinks 0 = .ok (.aload_n 0, 1) := by decide +kernel
theorem dX5_turnLinks_1 : decode cX5_turnLinks 1 = .ok (.getfield 15, 3) := by decide +kernel
theorem dX5_turnLinks_4 : decode cX5_turnLinks 4 = .ok (.iload_n 1, 1) := by decide +kernel
theorem dX5_turnLinks_5 : decode cX5_turnLinks 5 = .ok (.invokevirtual 88, 3) := by decide +kernel
theorem dX5_turnLinks_8 : decode cX5_turnLinks 8 = .ok (.iload_n 2, 1) := by decide +kernel
theorem dX5_turnLinks_9 : decode cX5_turnLinks 9 = .ok (.iand, 1) := by decide +kernel
theorem dX5_turnLinks_10 : decode cX5_turnLinks 10 = .ok (.istore_n 3, 1) := by decide +kernel
theorem dX5_turnLinks_11 : decode cX5_turnLinks 11 = .ok (.iconst 0, 1) := by decide +kernel
theorem dX5_turnLinks_12 : decode cX5_turnLinks 12 = .ok (.istore 4, 2) := by decide +kernel
theorem dX5_turnLinks_14 : decode cX5_turnLinks 14 = .ok (.iload 4, 2) := by decide +kernel
theorem dX5_turnLinks_16 : decode cX5_turnLinks 16 = .ok (.bipush 24, 2) := by decide +kernel
theorem dX5_turnLinks_18 : decode cX5_turnLinks 18 = .ok (.if_icmp .ge 32, 3) := by decide +kernel
theorem dX5_turnLinks_21 : decode cX5_turnLinks 21 = .ok (.iload_n 3, 1) := by decide +kernel
theorem dX5_turnLinks_22 : decode cX5_turnLinks 22 = .ok (.iload 4, 2) := by decide +kernel
theorem dX5_turnLinks_24 : decode cX5_turnLinks 24 = .ok (.invokestatic 25, 3) := by decide +kernel
theorem dX5_turnLinks_27 : decode cX5_turnLinks 27 = .ok (.ifCond .eq 17, 3) := by decide +kernel
theorem dX5_turnLinks_30 : decode cX5_turnLinks 30 = .ok (.aload_n 0, 1) := by decide +kernel
theorem dX5_turnLinks_31 : decode cX5_turnLinks 31 = .ok (.getfield 9, 3) := by decide +kernel
theorem dX5_turnLinks_34 : decode cX5_turnLinks 34 = .ok (.iload 4, 2) := by decide +kernel
theorem dX5_turnLinks_36 : decode cX5_turnLinks 36 = .ok (.dup2, 1) := by decide +kernel
theorem dX5_turnLinks_37 : decode cX5_turnLinks 37 = .ok (.iaload, 1) := by decide +kernel
theorem dX5_turnLinks_38 : decode cX5_turnLinks 38 = .ok (.iload_n 1, 1) := by decide +kernel
theorem dX5_turnLinks_39 : decode cX5_turnLinks 39 = .ok (.invokestatic 76, 3) := by decide +kernel
theorem dX5_turnLinks_42 : decode cX5_turnLinks 42 = .ok (.ior, 1) := by decide +kernel
theorem dX5_turnLinks_43 : decode cX5_turnLinks 43 = .ok (.iastore, 1) := by decide +kernel
theorem dX5_turnLinks_44 : decode cX5_turnLinks 44 = .ok (.iinc 4 1, 3) := by decide +kernel
theorem dX5_turnLinks_47 : decode cX5_turnLinks 47 = .ok (.goto (-33), 3) := by decide +kernel
theorem dX5_turnLinks_50 : decode cX5_turnLinks 50 = .ok (.iload_n 3, 1) := by decide +kernel
theorem dX5_turnLinks_51 : decode cX5_turnLinks 51 = .ok (.ifCond .eq 7, 3) := by decide +kernel
theorem dX5_turnLinks_54 : decode cX5_turnLinks 54 = .ok (.iconst 1, 1) := by decide +kernel
theorem dX5_turnLinks_55 : decode cX5_turnLinks 55 = .ok (.goto 4, 3) := by decide +kernel
theorem dX5_turnLinks_58 : decode cX5_turnLinks 58 = .ok (.iconst 0, 1) := by decide +kernel
theorem dX5_turnLinks_59 : decode cX5_turnLinks 59 = .ok (.ireturn, 1) := by decide +kernel
theorem dX6_init_0 : decode cX6_init 0 = .ok (.aload_n 0, 1) := by decide +kernel
theorem dX6_init_1 : decode cX6_init 1 = .ok (.invokespecial 3, 3) := by decide +kernel
theorem dX6_init_4 : decode cX6_init 4 = .ok (.aload_n 0, 1) := by decide +kernel
theorem dX6_init_5 : decode cX6_init 5 = .ok (.sipush 600, 3) := by decide +kernel
theorem dX6_init_8 : decode cX6_init 8 = .ok (.newarray .int, 2) := by decide +kernel
theorem dX6_init_10 : decode cX6_init 10 = .ok (.putfield 9, 3) := by decide +kernel
theorem dX6_init_13 : decode cX6_init 13 = .ok (.aload_n 0, 1) := by decide +kernel
theorem dX6_init_14 : decode cX6_init 14 = .ok (.sipush 600, 3) := by decide +kernel
theorem dX6_init_17 : decode cX6_init 17 = .ok (.newarray .int, 2) := by decide +kernel
theorem dX6_init_19 : decode cX6_init 19 = .ok (.putfield 15, 3) := by decide +kernel
theorem dX6_init_22 : decode cX6_init 22 = .ok (.aload_n 0, 1) := by decide +kernel
theorem dX6_init_23 : decode cX6_init 23 = .ok (.sipush 600, 3) := by decide +kernel
theorem dX6_init_26 : decode cX6_init 26 = .ok (.newarray .int, 2) := by decide +kernel
theorem dX6_init_28 : decode cX6_init 28 = .ok (.putfield 18, 3) := by decide +kernel
theorem dX6_init_31 : decode cX6_init 31 = .ok (.aload_n 0, 1) := by decide +kernel
theorem dX6_init_32 : decode cX6_init 32 = .ok (.sipush 600, 3) := by decide +kernel
theorem dX6_init_35 : decode cX6_init 35 = .ok (.newarray .int, 2) := by decide +kernel
theorem dX6_init_37 : decode cX6_init 37 = .ok (.putfield 21, 3) := by decide +kernel
theorem dX6_init_40 : decode cX6_init 40 = .ok (.aload_n 0, 1) := by decide +kernel
theorem dX6_init_41 : decode cX6_init 41 = .ok (.aload_n 1, 1) := by decide +kernel
theorem dX6_init_42 : decode cX6_init 42 = .ok (.putfield 24, 3) := by decide +kernel
theorem dX6_init_45 : decode cX6_init 45 = .ok (.return_, 1) := by decide +kernel
theorem dX6_result_0 : decode cX6_result 0 = .ok (.aload_n 0, 1) := by decide +kernel
theorem dX6_result_1 : decode cX6_result 1 = .ok (.getfield 28, 3) := by decide +kernel
theorem dX6_result_4 : decode cX6_result 4 = .ok (.ireturn, 1) := by decide +kernel
theorem dX6_next_0 : decode cX6_next 0 = .ok (.aload_n 0, 1) := by decide +kernel
theorem dX6_next_1 : decode cX6_next 1 = .ok (.getfield 32, 3) := by decide +kernel
theorem dX6_next_4 : decode cX6_next 4 = .ok (.ireturn, 1) := by decide +kernel
theorem dX6_faultCode_0 : decode cX6_faultCode 0 = .ok (.aload_n 0, 1) := by decide +kernel
theorem dX6_faultCode_1 : decode cX6_faultCode 1 = .ok (.getfield 35, 3) := by decide +kernel
theorem dX6_faultCode_4 : decode cX6_faultCode 4 = .ok (.ireturn, 1) := by decide +kernel
theorem dX6_faultToken_0 : decode cX6_faultToken 0 = .ok (.aload_n 0, 1) := by decide +kernel
theorem dX6_faultToken_1 : decode cX6_faultToken 1 = .ok (.getfield 38, 3) := by decide +kernel
theorem dX6_faultToken_4 : decode cX6_faultToken 4 = .ok (.ireturn, 1) := by decide +kernel
theorem dX6_workOut_0 : decode cX6_workOut 0 = .ok (.aload_n 0, 1) := by decide +kernel
theorem dX6_workOut_1 : decode cX6_workOut 1 = .ok (.iload_n 1, 1) := by decide +kernel
theorem dX6_workOut_2 : decode cX6_workOut 2 = .ok (.putfield 32, 3) := by decide +kernel
theorem dX6_workOut_5 : decode cX6_workOut 5 = .ok (.aload_n 0, 1) := by decide +kernel
theorem dX6_workOut_6 : decode cX6_workOut 6 = .ok (.iconst 0, 1) := by decide +kernel
theorem dX6_workOut_7 : decode cX6_workOut 7 = .ok (.putfield 41, 3) := by decide +kernel
theorem dX6_workOut_10 : decode cX6_workOut 10 = .ok (.aload_n 0, 1) := by decide +kernel
theorem dX6_workOut_11 : decode cX6_workOut 11 = .ok (.invokevirtual 44, 3) := by decide +kernel
theorem dX6_workOut_14 : decode cX6_workOut 14 = .ok (.iconst 0, 1) := by decide +kernel
theorem dX6_workOut_15 : decode cX6_workOut 15 = .ok (.istore_n 2, 1) := by decide +kernel
theorem dX6_workOut_16 : decode cX6_workOut 16 = .ok (.iconst 0, 1) := by decide +kernel
theorem dX6_workOut_17 : decode cX6_workOut 17 = .ok (.istore_n 3, 1) := by decide +kernel
theorem dX6_workOut_18 : decode cX6_workOut 18 = .ok (.iload_n 3, 1) := by decide +kernel
theorem dX6_workOut_19 : decode cX6_workOut 19 = .ok (.sipush 600, 3) := by decide +kernel
theorem dX6_workOut_22 : decode cX6_workOut 22 = .ok (.if_icmp .gt 169, 3) := by decide +kernel
theorem dX6_workOut_25 : decode cX6_workOut 25 = .ok (.aload_n 0, 1) := by decide +kernel
theorem dX6_workOut_26 : decode cX6_workOut 26 = .ok (.getfield 24, 3) := by decide +kernel
theorem dX6_workOut_29 : decode cX6_workOut 29 = .ok (.aload_n 0, 1) := by decide +kernel
theorem dX6_workOut_30 : decode cX6_workOut 30 = .ok (.getfield 32, 3) := by decide +kernel
theorem dX6_workOut_33 : decode cX6_workOut 33 = .ok (.invokevirtual 47, 3) := by decide +kernel
theorem dX6_workOut_36 : decode cX6_workOut 36 = .ok (.istore 4, 2) := by decide +kernel
theorem dX6_workOut_38 : decode cX6_workOut 38 = .ok (.iload_n 2, 1) := by decide +kernel
theorem dX6_workOut_39 : decode cX6_workOut 39 = .ok (.ifCond .ne 19, 3) := by decide +kernel
theorem dX6_workOut_42 : decode cX6_workOut 42 = .ok (.iload 4, 2) := by decide +kernel
theorem dX6_workOut_44 : decode cX6_workOut 44 = .ok (.bipush 40, 2) := by decide +kernel
theorem dX6_workOut_46 : decode cX6_workOut 46 = .ok (.if_icmp .ne 12, 3) := by decide +kernel
theorem dX6_workOut_49 : decode cX6_workOut 49 = .ok (.aload_n 0, 1) := by decide +kernel
theorem dX6_workOut_50 : decode cX6_workOut 50 = .ok (.invokevirtual 53, 3) := by decide +kernel
theorem dX6_workOut_53 : decode cX6_workOut 53 = .ok (.ifCond .ne 122, 3) := by decide +kernel
theorem dX6_workOut_56 : decode cX6_workOut 56 = .ok (.iconst 0, 1) := by decide +kernel
theorem dX6_workOut_57 : decode cX6_workOut 57 = .ok (.ireturn, 1) := by decide +kernel
theorem dX6_workOut_58 : decode cX6_workOut 58 = .ok (.iload_n 2, 1) := by decide +kernel
theorem dX6_workOut_59 : decode cX6_workOut 59 = .ok (.ifCond .ne 26, 3) := by decide +kernel
theorem dX6_workOut_62 : decode cX6_workOut 62 = .ok (.aload_n 0, 1) := by decide +kernel
theorem dX6_workOut_63 : decode cX6_workOut 63 = .ok (.iload 4, 2) := by decide +kernel
theorem dX6_workOut_65 : decode cX6_workOut 65 = .ok (.invokevirtual 57, 3) := by decide +kernel
theorem dX6_workOut_68 : decode cX6_workOut 68 = .ok (.ifCond .eq 10, 3) := by decide +kernel
theorem dX6_workOut_71 : decode cX6_workOut 71 = .ok (.aload_n 0, 1) := by decide +kernel
theorem dX6_workOut_72 : decode cX6_workOut 72 = .ok (.invokevirtual 61, 3) := by decide +kernel
theorem dX6_workOut_75 : decode cX6_workOut 75 = .ok (.ifCond .ne 5, 3) := by decide +kernel
theorem dX6_workOut_78 : decode cX6_workOut 78 = .ok (.iconst 0, 1) := by decide +kernel
theorem dX6_workOut_79 : decode cX6_workOut 79 = .ok (.ireturn, 1) := by decide +kernel
theorem dX6_workOut_80 : decode cX6_workOut 80 = .ok (.iconst 1, 1) := by decide +kernel
theorem dX6_workOut_81 : decode cX6_workOut 81 = .ok (.istore_n 2, 1) := by decide +kernel
theorem dX6_workOut_82 : decode cX6_workOut 82 = .ok (.goto 93, 3) := by decide +kernel
theorem dX6_workOut_85 : decode cX6_workOut 85 = .ok (.iload 4, 2) := by decide +kernel
theorem dX6_workOut_87 : decode cX6_workOut 87 = .ok (.bipush 42, 2) := by decide +kernel
theorem dX6_workOut_89 : decode cX6_workOut 89 = .ok (.if_icmp .eq 10, 3) := by decide +kernel
theorem dX6_workOut_92 : decode cX6_workOut 92 = .ok (.iload 4, 2) := by decide +kernel
theorem dX6_workOut_94 : decode cX6_workOut 94 = .ok (.bipush 47, 2) := by decide +kernel
theorem dX6_workOut_96 : decode cX6_workOut 96 = .ok (.if_icmp .ne 16, 3) := by decide +kernel
theorem dX6_workOut_99 : decode cX6_workOut 99 = .ok (.aload_n 0, 1) := by decide +kernel
theorem dX6_workOut_100 : decode cX6_workOut 100 = .ok (.aload_n 0, 1) := by decide +kernel
theorem dX6_workOut_101 : decode cX6_workOut 101 = .ok (.getfield 32, 3) := by decide +kernel
theorem dX6_workOut_104 : decode cX6_workOut 104 = .ok (.putfield 64, 3) := by decide +kernel
theorem dX6_workOut_107 : decode cX6_workOut 107 = .ok (.iconst 0, 1) := by decide +kernel
theorem dX6_workOut_108 : decode cX6_workOut 108 = .ok (.istore_n 2, 1) := by decide +kernel
theorem dX6_workOut_109 : decode cX6_workOut 109 = .ok (.goto 66, 3) := by decide +kernel
theorem dX6_workOut_112 : decode cX6_workOut 112 = .ok (.aload_n 0, 1) := by decide +kernel
theorem dX6_workOut_113 : decode cX6_workOut 113 = .ok (.invokevirtual 67, 3) := by decide +kernel
theorem dX6_workOut_116 : decode cX6_workOut 116 = .ok (.ifCond .ne 5, 3) := by decide +kernel
theorem dX6_workOut_119 : decode cX6_workOut 119 = .ok (.iconst 0, 1) := by decide +kernel
theorem dX6_workOut_120 : decode cX6_workOut 120 = .ok (.ireturn, 1) := by decide +kernel
theorem dX6_workOut_121 : decode cX6_workOut 121 = .ok (.iload 4, 2) := by decide +kernel
theorem dX6_workOut_123 : decode cX6_workOut 123 = .ok (.bipush 43, 2) := by decide +kernel
theorem dX6_workOut_125 : decode cX6_workOut 125 = .ok (.if_icmp .eq 10, 3) := by decide +kernel
theorem dX6_workOut_128 : decode cX6_workOut 128 = .ok (.iload 4, 2) := by decide +kernel
theorem dX6_workOut_130 : decode cX6_workOut 130 = .ok (.bipush 45, 2) := by decide +kernel
theorem dX6_workOut_132 : decode cX6_workOut 132 = .ok (.if_icmp .ne 16, 3) := by decide +kernel
theorem dX6_workOut_135 : decode cX6_workOut 135 = .ok (.aload_n 0, 1) := by decide +kernel
theorem dX6_workOut_136 : decode cX6_workOut 136 = .ok (.aload_n 0, 1) := by decide +kernel
theorem dX6_workOut_137 : decode cX6_workOut 137 = .ok (.getfield 32, 3) := by decide +kernel
theorem dX6_workOut_140 : decode cX6_workOut 140 = .ok (.putfield 70, 3) := by decide +kernel
theorem dX6_workOut_143 : decode cX6_workOut 143 = .ok (.iconst 0, 1) := by decide +kernel
theorem dX6_workOut_144 : decode cX6_workOut 144 = .ok (.istore_n 2, 1) := by decide +kernel
theorem dX6_workOut_145 : decode cX6_workOut 145 = .ok (.goto 30, 3) := by decide +kernel
theorem dX6_workOut_148 : decode cX6_workOut 148 = .ok (.aload_n 0, 1) := by decide +kernel
theorem dX6_workOut_149 : decode cX6_workOut 149 = .ok (.getfield 41, 3) := by decide +kernel
theorem dX6_workOut_152 : decode cX6_workOut 152 = .ok (.ifCond .ne 5, 3) := by decide +kernel
theorem dX6_workOut_155 : decode cX6_workOut 155 = .ok (.iconst 1, 1) := by decide +kernel
theorem dX6_workOut_156 : decode cX6_workOut 156 = .ok (.ireturn, 1) := by decide +kernel
theorem dX6_workOut_157 : decode cX6_workOut 157 = .ok (.aload_n 0, 1) := by decide +kernel
theorem dX6_workOut_158 : decode cX6_workOut 158 = .ok (.iload 4, 2) := by decide +kernel
theorem dX6_workOut_160 : decode cX6_workOut 160 = .ok (.invokevirtual 73, 3) := by decide +kernel
theorem dX6_workOut_163 : decode cX6_workOut 163 = .ok (.ifCond .eq 10, 3) := by decide +kernel
theorem dX6_workOut_166 : decode cX6_workOut 166 = .ok (.aload_n 0, 1) := by decide +kernel
theorem dX6_workOut_167 : decode cX6_workOut 167 = .ok (.invokevirtual 61, 3) := by decide +kernel
theorem dX6_workOut_170 : decode cX6_workOut 170 = .ok (.ifCond .ne 5, 3) := by decide +kernel
theorem dX6_workOut_173 : decode cX6_workOut 173 = .ok (.iconst 0, 1) := by decide +kernel
theorem dX6_workOut_174 : decode cX6_workOut 174 = .ok (.ireturn, 1) := by decide +kernel
theorem dX6_workOut_175 : decode cX6_workOut 175 = .ok (.aload_n 0, 1) := by decide +kernel
theorem dX6_workOut_176 : decode cX6_workOut 176 = .ok (.dup, 1) := by decide +kernel
theorem dX6_workOut_177 : decode cX6_workOut 177 = .ok (.getfield 32, 3) := by decide +kernel
theorem dX6_workOut_180 : decode cX6_workOut 180 = .ok (.iconst 1, 1) := by decide +kernel
theorem dX6_workOut_181 : decode cX6_workOut 181 = .ok (.iadd, 1) := by decide +kernel
theorem dX6_workOut_182 : decode cX6_workOut 182 = .ok (.putfield 32, 3) := by decide +kernel
theorem dX6_workOut_185 : decode cX6_workOut 185 = .ok (.iinc 3 1, 3) := by decide +kernel
theorem dX6_workOut_188 : decode cX6_workOut 188 = .ok (.goto (-170), 3) := by decide +kernel
theorem dX6_workOut_191 : decode cX6_workOut 191 = .ok (.aload_n 0, 1) := by decide +kernel
theorem dX6_workOut_192 : decode cX6_workOut 192 = .ok (.iconst 1, 1) := by decide +kernel
theorem dX6_workOut_193 : decode cX6_workOut 193 = .ok (.aload_n 0, 1) := by decide +kernel
theorem dX6_workOut_194 : decode cX6_workOut 194 = .ok (.getfield 32, 3) := by decide +kernel
theorem dX6_workOut_197 : decode cX6_workOut 197 = .ok (.invokevirtual 76, 3) := by decide +kernel
theorem dX6_workOut_200 : decode cX6_workOut 200 = .ok (.ireturn, 1) := by decide +kernel
theorem dX6_beginSum_0 : decode cX6_beginSum 0 = .ok (.aload_n 0, 1) := by decide +kernel
theorem dX6_beginSum_1 : decode cX6_beginSum 1 = .ok (.iconst (-1), 1) := by decide +kernel
theorem dX6_beginSum_2 : decode cX6_beginSum 2 = .ok (.putfield 70, 3) := by decide +kernel
theorem dX6_beginSum_5 : decode cX6_beginSum 5 = .ok (.aload_n 0, 1) := by decide +kernel
theorem dX6_beginSum_6 : decode cX6_beginSum 6 = .ok (.iconst (-1), 1) := by decide +kernel
theorem dX6_beginSum_7 : decode cX6_beginSum 7 = .ok (.putfield 64, 3) := by decide +kernel
theorem dX6_beginSum_10 : decode cX6_beginSum 10 = .ok (.return_, 1) := by decide +kernel
theorem dX6_open_0 : decode cX6_open 0 = .ok (.aload_n 0, 1) := by decide +kernel
theorem dX6_open_1 : decode cX6_open 1 = .ok (.getfield 41, 3) := by decide +kernel
theorem dX6_open_4 : decode cX6_open 4 = .ok (.ifCond .lt 13, 3) := by decide +kernel
theorem dX6_open_7 : decode cX6_open 7 = .ok (.aload_n 0, 1) := by decide +kernel
theorem dX6_open_8 : decode cX6_open 8 = .ok (.getfield 41, 3) := by decide +kernel
theorem dX6_open_11 : decode cX6_open 11 = .ok (.sipush 600, 3) := by decide +kernel
theorem dX6_open_14 : decode cX6_open 14 = .ok (.if_icmp .lt 13, 3) := by decide +kernel
theorem dX6_open_17 : decode cX6_open 17 = .ok (.aload_n 0, 1) := by decide +kernel
theorem dX6_open_18 : decode cX6_open 18 = .ok (.iconst 1, 1) := by decide +kernel
theorem dX6_open_19 : decode cX6_open 19 = .ok (.aload_n 0, 1) := by decide +kernel
theorem dX6_open_20 : decode cX6_open 20 = .ok (.getfield 32, 3) := by decide +kernel
theorem dX6_open_23 : decode cX6_open 23 = .ok (.invokevirtual 76, 3) := by decide +kernel
theorem dX6_open_26 : decode cX6_open 26 = .ok (.ireturn, 1) := by decide +kernel
theorem dX6_open_27 : decode cX6_open 27 = .ok (.aload_n 0, 1) := by decide +kernel
theorem dX6_open_28 : decode cX6_open 28 = .ok (.getfield 9, 3) := by decide +kernel
theorem dX6_open_31 : decode cX6_open 31 = .ok (.aload_n 0, 1) := by decide +kernel
theorem dX6_open_32 : decode cX6_open 32 = .ok (.getfield 41, 3) := by decide +kernel
theorem dX6_open_35 : decode cX6_open 35 = .ok (.aload_n 0, 1) := by decide +kernel
theorem dX6_open_36 : decode cX6_open 36 = .ok (.getfield 28, 3) := by decide +kernel
theorem dX6_open_39 : decode cX6_open 39 = .ok (.iastore, 1) := by decide +kernel
theorem dX6_open_40 : decode cX6_open 40 = .ok (.aload_n 0, 1) := by decide +kernel
theorem dX6_open_41 : decode cX6_open 41 = .ok (.getfield 15, 3) := by decide +kernel
theorem dX6_open_44 : decode cX6_open 44 = .ok (.aload_n 0, 1) := by decide +kernel
theorem dX6_open_45 : decode cX6_open 45 = .ok (.getfield 41, 3) := by decide +kernel
theorem dX6_open_48 : decode cX6_open 48 = .ok (.aload_n 0, 1) := by decide +kernel
theorem dX6_open_49 : decode cX6_open 49 = .ok (.getfield 70, 3) := by decide +kernel
theorem dX6_open_52 : decode cX6_open 52 = .ok (.iastore, 1) := by decide +kernel
theorem dX6_open_53 : decode cX6_open 53 = .ok (.aload_n 0, 1) := by decide +kernel
theorem dX6_open_54 : decode cX6_open 54 = .ok (.getfield 18, 3) := by decide +kernel
theorem dX6_open_57 : decode cX6_open 57 = .ok (.aload_n 0, 1) := by decide +kernel
theorem dX6_open_58 : decode cX6_open 58 = .ok (.getfield 41, 3) := by decide +kernel
theorem dX6_open_61 : decode cX6_open 61 = .ok (.aload_n 0, 1) := by decide +kernel
theorem dX6_open_62 : decode cX6_open 62 = .ok (.getfield 80, 3) := by decide +kernel
theorem dX6_open_65 : decode cX6_open 65 = .ok (.iastore, 1) := by decide +kernel
theorem dX6_open_66 : decode cX6_open 66 = .ok (.aload_n 0, 1) := by decide +kernel
theorem dX6_open_67 : decode cX6_open 67 = .ok (.getfield 21, 3) := by decide +kernel
theorem dX6_open_70 : decode cX6_open 70 = .ok (.aload_n 0, 1) := by decide +kernel
theorem dX6_open_71 : decode cX6_open 71 = .ok (.getfield 41, 3) := by decide +kernel
theorem dX6_open_74 : decode cX6_open 74 = .ok (.aload_n 0, 1) := by decide +kernel
theorem dX6_open_75 : decode cX6_open 75 = .ok (.getfield 64, 3) := by decide +kernel
theorem dX6_open_78 : decode cX6_open 78 = .ok (.iastore, 1) := by decide +kernel
theorem dX6_open_79 : decode cX6_open 79 = .ok (.aload_n 0, 1) := by decide +kernel
theorem dX6_open_80 : decode cX6_open 80 = .ok (.dup, 1) := by decide +kernel
theorem dX6_open_81 : decode cX6_open 81 = .ok (.getfield 41, 3) := by decide +kernel
theorem dX6_open_84 : decode cX6_open 84 = .ok (.iconst 1, 1) := by decide +kernel
theorem dX6_open_85 : decode cX6_open 85 = .ok (.iadd, 1) := by decide +kernel
theorem dX6_open_86 : decode cX6_open 86 = .ok (.putfield 41, 3) := by decide +kernel
theorem dX6_open_89 : decode cX6_open 89 = .ok (.aload_n 0, 1) := by decide +kernel
theorem dX6_open_90 : decode cX6_open 90 = .ok (.invokevirtual 44, 3) := by decide +kernel
theorem dX6_open_93 : decode cX6_open 93 = .ok (.iconst 1, 1) := by decide +kernel
theorem dX6_open_94 : decode cX6_open 94 = .ok (.ireturn, 1) := by decide +kernel
theorem dX6_close_0 : decode cX6_close 0 = .ok (.iload_n 1, 1) := by decide +kernel
theorem dX6_close_1 : decode cX6_close 1 = .ok (.bipush 41, 2) := by decide +kernel
theorem dX6_close_3 : decode cX6_close 3 = .ok (.if_icmp .ne 21, 3) := by decide +kernel
theorem dX6_close_6 : decode cX6_close 6 = .ok (.aload_n 0, 1) := by decide +kernel
theorem dX6_close_7 : decode cX6_close 7 = .ok (.getfield 41, 3) := by decide +kernel
theorem dX6_close_10 : decode cX6_close 10 = .ok (.iconst 1, 1) := by decide +kernel
theorem dX6_close_11 : decode cX6_close 11 = .ok (.if_icmp .lt 13, 3) := by decide +kernel
theorem dX6_close_14 : decode cX6_close 14 = .ok (.aload_n 0, 1) := by decide +kernel
theorem dX6_close_15 : decode cX6_close 15 = .ok (.getfield 41, 3) := by decide +kernel
theorem dX6_close_18 : decode cX6_close 18 = .ok (.sipush 600, 3) := by decide +kernel
theorem dX6_close_21 : decode cX6_close 21 = .ok (.if_icmp .le 13, 3) := by decide +kernel
theorem dX6_close_24 : decode cX6_close 24 = .ok (.aload_n 0, 1) := by decide +kernel
theorem dX6_close_25 : decode cX6_close 25 = .ok (.iconst 1, 1) := by decide +kernel
theorem dX6_close_26 : decode cX6_close 26 = .ok (.aload_n 0, 1) := by decide +kernel
theorem dX6_close_27 : decode cX6_close 27 = .ok (.getfield 32, 3) := by decide +kernel
theorem dX6_close_30 : decode cX6_close 30 = .ok (.invokevirtual 76, 3) := by decide +kernel
theorem dX6_close_33 : decode cX6_close 33 = .ok (.ireturn, 1) := by decide +kernel
theorem dX6_close_34 : decode cX6_close 34 = .ok (.aload_n 0, 1) := by decide +kernel
theorem dX6_close_35 : decode cX6_close 35 = .ok (.getfield 28, 3) := by decide +kernel
theorem dX6_close_38 : decode cX6_close 38 = .ok (.istore_n 2, 1) := by decide +kernel
theorem dX6_close_39 : decode cX6_close 39 = .ok (.aload_n 0, 1) := by decide +kernel
theorem dX6_close_40 : decode cX6_close 40 = .ok (.dup, 1) := by decide +kernel
theorem dX6_close_41 : decode cX6_close 41 = .ok (.getfield 41, 3) := by decide +kernel
theorem dX6_close_44 : decode cX6_close 44 = .ok (.iconst 1, 1) := by decide +kernel
theorem dX6_close_45 : decode cX6_close 45 = .ok (.isub, 1) := by decide +kernel
theorem dX6_close_46 : decode cX6_close 46 = .ok (.putfield 41, 3) := by decide +kernel
theorem dX6_close_49 : decode cX6_close 49 = .ok (.aload_n 0, 1) := by decide +kernel
theorem dX6_close_50 : decode cX6_close 50 = .ok (.aload_n 0, 1) := by decide +kernel
theorem dX6_close_51 : decode cX6_close 51 = .ok (.getfield 9, 3) := by decide +kernel
theorem dX6_close_54 : decode cX6_close 54 = .ok (.aload_n 0, 1) := by decide +kernel
theorem dX6_close_55 : decode cX6_close 55 = .ok (.getfield 41, 3) := by decide +kernel
theorem dX6_close_58 : decode cX6_close 58 = .ok (.iaload, 1) := by decide +kernel
theorem dX6_close_59 : decode cX6_close 59 = .ok (.putfield 28, 3) := by decide +kernel
theorem dX6_close_62 : decode cX6_close 62 = .ok (.aload_n 0, 1) := by decide +kernel
theorem dX6_close_63 : decode cX6_close 63 = .ok (.aload_n 0, 1) := by decide +kernel
theorem dX6_close_64 : decode cX6_close 64 = .ok (.getfield 15, 3) := by decide +kernel
theorem dX6_close_67 : decode cX6_close 67 = .ok (.aload_n 0, 1) := by decide +kernel
theorem dX6_close_68 : decode cX6_close 68 = .ok (.getfield 41, 3) := by decide +kernel
theorem dX6_close_71 : decode cX6_close 71 = .ok (.iaload, 1) := by decide +kernel
theorem dX6_close_72 : decode cX6_close 72 = .ok (.putfield 70, 3) := by decide +kernel
theorem dX6_close_75 : decode cX6_close 75 = .ok (.aload_n 0, 1) := by decide +kernel
theorem dX6_close_76 : decode cX6_close 76 = .ok (.aload_n 0, 1) := by decide +kernel
theorem dX6_close_77 : decode cX6_close 77 = .ok (.getfield 18, 3) := by decide +kernel
theorem dX6_close_80 : decode cX6_close 80 = .ok (.aload_n 0, 1) := by decide +kernel
theorem dX6_close_81 : decode cX6_close 81 = .ok (.getfield 41, 3) := by decide +kernel
theorem dX6_close_84 : decode cX6_close 84 = .ok (.iaload, 1) := by decide +kernel
theorem dX6_close_85 : decode cX6_close 85 = .ok (.putfield 80, 3) := by decide +kernel
theorem dX6_close_88 : decode cX6_close 88 = .ok (.aload_n 0, 1) := by decide +kernel
theorem dX6_close_89 : decode cX6_close 89 = .ok (.aload_n 0, 1) := by decide +kernel
theorem dX6_close_90 : decode cX6_close 90 = .ok (.getfield 21, 3) := by decide +kernel
theorem dX6_close_93 : decode cX6_close 93 = .ok (.aload_n 0, 1) := by decide +kernel
theorem dX6_close_94 : decode cX6_close 94 = .ok (.getfield 41, 3) := by decide +kernel
theorem dX6_close_97 : decode cX6_close 97 = .ok (.iaload, 1) := by decide +kernel
theorem dX6_close_98 : decode cX6_close 98 = .ok (.putfield 64, 3) := by decide +kernel
theorem dX6_close_101 : decode cX6_close 101 = .ok (.aload_n 0, 1) := by decide +kernel
theorem dX6_close_102 : decode cX6_close 102 = .ok (.iload_n 2, 1) := by decide +kernel
theorem dX6_close_103 : decode cX6_close 103 = .ok (.putfield 83, 3) := by decide +kernel
theorem dX6_close_106 : decode cX6_close 106 = .ok (.iconst 1, 1) := by decide +kernel
theorem dX6_close_107 : decode cX6_close 107 = .ok (.ireturn, 1) := by decide +kernel
theorem dX6_readFactor_0 : decode cX6_readFactor 0 = .ok (.iload_n 1, 1) := by decide +kernel
theorem dX6_readFactor_1 : decode cX6_readFactor 1 = .ok (.bipush 48, 2) := by decide +kernel
theorem dX6_readFactor_3 : decode cX6_readFactor 3 = .ok (.if_icmp .eq 19, 3) := by decide +kernel
theorem dX6_readFactor_6 : decode cX6_readFactor 6 = .ok (.iload_n 1, 1) := by decide +kernel
theorem dX6_readFactor_7 : decode cX6_readFactor 7 = .ok (.bipush 65, 2) := by decide +kernel
theorem dX6_readFactor_9 : decode cX6_readFactor 9 = .ok (.if_icmp .eq 13, 3) := by decide +kernel
theorem dX6_readFactor_12 : decode cX6_readFactor 12 = .ok (.aload_n 0, 1) := by decide +kernel
theorem dX6_readFactor_13 : decode cX6_readFactor 13 = .ok (.iconst 1, 1) := by decide +kernel
theorem dX6_readFactor_14 : decode cX6_readFactor 14 = .ok (.aload_n 0, 1) := by decide +kernel
theorem dX6_readFactor_15 : decode cX6_readFactor 15 = .ok (.getfield 32, 3) := by decide +kernel
theorem dX6_readFactor_18 : decode cX6_readFactor 18 = .ok (.invokevirtual 76, 3) := by decide +kernel
theorem dX6_readFactor_21 : decode cX6_readFactor 21 = .ok (.ireturn, 1) := by decide +kernel
theorem dX6_readFactor_22 : decode cX6_readFactor 22 = .ok (.aload_n 0, 1) := by decide +kernel
theorem dX6_readFactor_23 : decode cX6_readFactor 23 = .ok (.aload_n 0, 1) := by decide +kernel
theorem dX6_readFactor_24 : decode cX6_readFactor 24 = .ok (.getfield 24, 3) := by decide +kernel
theorem dX6_readFactor_27 : decode cX6_readFactor 27 = .ok (.aload_n 0, 1) := by decide +kernel
theorem dX6_readFactor_28 : decode cX6_readFactor 28 = .ok (.getfield 32, 3) := by decide +kernel
theorem dX6_readFactor_31 : decode cX6_readFactor 31 = .ok (.invokevirtual 86, 3) := by decide +kernel
theorem dX6_readFactor_34 : decode cX6_readFactor 34 = .ok (.putfield 83, 3) := by decide +kernel
theorem dX6_readFactor_37 : decode cX6_readFactor 37 = .ok (.aload_n 0, 1) := by decide +kernel
theorem dX6_readFactor_38 : decode cX6_readFactor 38 = .ok (.getfield 83, 3) := by decide +kernel
theorem dX6_readFactor_41 : decode cX6_readFactor 41 = .ok (.ldc 89, 2) := by decide +kernel
theorem dX6_readFactor_43 : decode cX6_readFactor 43 = .ok (.if_icmp .ne 25, 3) := by decide +kernel
theorem dX6_readFactor_46 : decode cX6_readFactor 46 = .ok (.aload_n 0, 1) := by decide +kernel
theorem dX6_readFactor_47 : decode cX6_readFactor 47 = .ok (.iload_n 1, 1) := by decide +kernel
theorem dX6_readFactor_48 : decode cX6_readFactor 48 = .ok (.bipush 65, 2) := by decide +kernel
theorem dX6_readFactor_50 : decode cX6_readFactor 50 = .ok (.if_icmp .ne 7, 3) := by decide +kernel
theorem dX6_readFactor_53 : decode cX6_readFactor 53 = .ok (.iconst 3, 1) := by decide +kernel
theorem dX6_readFactor_54 : decode cX6_readFactor 54 = .ok (.goto 4, 3) := by decide +kernel
theorem dX6_readFactor_57 : decode cX6_readFactor 57 = .ok (.iconst 4, 1) := by decide +kernel
theorem dX6_readFactor_58 : decode cX6_readFactor 58 = .ok (.aload_n 0, 1) := by decide +kernel
theorem dX6_readFactor_59 : decode cX6_readFactor 59 = .ok (.getfield 32, 3) := by decide +kernel
theorem dX6_readFactor_62 : decode cX6_readFactor 62 = .ok (.invokevirtual 76, 3) := by decide +kernel
theorem dX6_readFactor_65 : decode cX6_readFactor 65 = .ok (.ifCond .eq 7, 3) := by decide +kernel
theorem dX6_readFactor_68 : decode cX6_readFactor 68 = .ok (.iconst 1, 1) := by decide +kernel
theorem dX6_readFactor_69 : decode cX6_readFactor 69 = .ok (.goto 4, 3) := by decide +kernel
theorem dX6_readFactor_72 : decode cX6_readFactor 72 = .ok (.iconst 0, 1) := by decide +kernel
theorem dX6_readFactor_73 : decode cX6_readFactor 73 = .ok (.ireturn, 1) := by decide +kernel
theorem dX6_endFactor_0 : decode cX6_endFactor 0 = .ok (.aload_n 0, 1) := by decide +kernel
theorem dX6_endFactor_1 : decode cX6_endFactor 1 = .ok (.getfield 64, 3) := by decide +kernel
theorem dX6_endFactor_4 : decode cX6_endFactor 4 = .ok (.istore_n 1, 1) := by decide +kernel
theorem dX6_endFactor_5 : decode cX6_endFactor 5 = .ok (.iload_n 1, 1) := by decide +kernel
theorem dX6_endFactor_6 : decode cX6_endFactor 6 = .ok (.iconst (-1), 1) := by decide +kernel
theorem dX6_endFactor_7 : decode cX6_endFactor 7 = .ok (.if_icmp .ne 11, 3) := by decide +kernel
theorem dX6_endFactor_10 : decode cX6_endFactor 10 = .ok (.aload_n 0, 1) := by decide +kernel
theorem dX6_endFactor_11 : decode cX6_endFactor 11 = .ok (.getfield 83, 3) := by decide +kernel
theorem dX6_endFactor_14 : decode cX6_endFactor 14 = .ok (.i2l, 1) := by decide +kernel
theorem dX6_endFactor_15 : decode cX6_endFactor 15 = .ok (.goto 24, 3) := by decide +kernel
theorem dX6_endFactor_18 : decode cX6_endFactor 18 = .ok (.aload_n 0, 1) := by decide +kernel
theorem dX6_endFactor_19 : decode cX6_endFactor 19 = .ok (.getfield 80, 3) := by decide +kernel
theorem dX6_endFactor_22 : decode cX6_endFactor 22 = .ok (.i2l, 1) := by decide +kernel
theorem dX6_endFactor_23 : decode cX6_endFactor 23 = .ok (.aload_n 0, 1) := by decide +kernel
theorem dX6_endFactor_24 : decode cX6_endFactor 24 = .ok (.getfield 24, 3) := by decide +kernel
theorem dX6_endFactor_27 : decode cX6_endFactor 27 = .ok (.iload_n 1, 1) := by decide +kernel
theorem dX6_endFactor_28 : decode cX6_endFactor 28 = .ok (.invokevirtual 47, 3) := by decide +kernel
theorem dX6_endFactor_31 : decode cX6_endFactor 31 = .ok (.aload_n 0, 1) := by decide +kernel
theorem dX6_endFactor_32 : decode cX6_endFactor 32 = .ok (.getfield 83, 3) := by decide +kernel
theorem dX6_endFactor_35 : decode cX6_endFactor 35 = .ok (.i2l, 1) := by decide +kernel
theorem dX6_endFactor_36 : decode cX6_endFactor 36 = .ok (.invokestatic 90, 3) := by decide +kernel
theorem dX6_endFactor_39 : decode cX6_endFactor 39 = .ok (.lstore_n 2, 1) := by decide +kernel
theorem dX6_endFactor_40 : decode cX6_endFactor 40 = .ok (.aload_n 0, 1) := by decide +kernel
theorem dX6_endFactor_41 : decode cX6_endFactor 41 = .ok (.lload_n 2, 1) := by decide +kernel
theorem dX6_endFactor_42 : decode cX6_endFactor 42 = .ok (.l2i, 1) := by decide +kernel
theorem dX6_endFactor_43 : decode cX6_endFactor 43 = .ok (.putfield 80, 3) := by decide +kernel
theorem dX6_endFactor_46 : decode cX6_endFactor 46 = .ok (.aload_n 0, 1) := by decide +kernel
theorem dX6_endFactor_47 : decode cX6_endFactor 47 = .ok (.iconst (-1), 1) := by decide +kernel
theorem dX6_endFactor_48 : decode cX6_endFactor 48 = .ok (.putfield 64, 3) := by decide +kernel
theorem dX6_endFactor_51 : decode cX6_endFactor 51 = .ok (.lload_n 2, 1) := by decide +kernel
theorem dX6_endFactor_52 : decode cX6_endFactor 52 = .ok (.invokestatic 94, 3) := by decide +kernel
theorem dX6_endFactor_55 : decode cX6_endFactor 55 = .ok (.ifCond .ne 12, 3) := by decide +kernel
theorem dX6_endFactor_58 : decode cX6_endFactor 58 = .ok (.aload_n 0, 1) := by decide +kernel
theorem dX6_endFactor_59 : decode cX6_endFactor 59 = .ok (.iconst 4, 1) := by decide +kernel
theorem dX6_endFactor_60 : decode cX6_endFactor 60 = .ok (.iload_n 1, 1) := by decide +kernel
theorem dX6_endFactor_61 : decode cX6_endFactor 61 = .ok (.invokevirtual 76, 3) := by decide +kernel
theorem dX6_endFactor_64 : decode cX6_endFactor 64 = .ok (.ifCond .eq 7, 3) := by decide +kernel
theorem dX6_endFactor_67 : decode cX6_endFactor 67 = .ok (.iconst 1, 1) := by decide +kernel
theorem dX6_endFactor_68 : decode cX6_endFactor 68 = .ok (.goto 4, 3) := by decide +kernel
theorem dX6_endFactor_71 : decode cX6_endFactor 71 = .ok (.iconst 0, 1) := by decide +kernel
theorem dX6_endFactor_72 : decode cX6_endFactor 72 = .ok (.ireturn, 1) := by decide +kernel
theorem dX6_endProduct_0 : decode cX6_endProduct 0 = .ok (.aload_n 0, 1) := by decide +kernel
theorem dX6_endProduct_1 : decode cX6_endProduct 1 = .ok (.getfield 70, 3) := by decide +kernel
theorem dX6_endProduct_4 : decode cX6_endProduct 4 = .ok (.istore_n 1, 1) := by decide +kernel
theorem dX6_endProduct_5 : decode cX6_endProduct 5 = .ok (.iload_n 1, 1) := by decide +kernel
theorem dX6_endProduct_6 : decode cX6_endProduct 6 = .ok (.iconst (-1), 1) := by decide +kernel
theorem dX6_endProduct_7 : decode cX6_endProduct 7 = .ok (.if_icmp .ne 11, 3) := by decide +kernel
theorem dX6_endProduct_10 : decode cX6_endProduct 10 = .ok (.aload_n 0, 1) := by decide +kernel
theorem dX6_endProduct_11 : decode cX6_endProduct 11 = .ok (.getfield 80, 3) := by decide +kernel
theorem dX6_endProduct_14 : decode cX6_endProduct 14 = .ok (.i2l, 1) := by decide +kernel
theorem dX6_endProduct_15 : decode cX6_endProduct 15 = .ok (.goto 24, 3) := by decide +kernel
theorem dX6_endProduct_18 : decode cX6_endProduct 18 = .ok (.aload_n 0, 1) := by decide +kernel
theorem dX6_endProduct_19 : decode cX6_endProduct 19 = .ok (.getfield 28, 3) := by decide +kernel
theorem dX6_endProduct_22 : decode cX6_endProduct 22 = .ok (.i2l, 1) := by decide +kernel
theorem dX6_endProduct_23 : decode cX6_endProduct 23 = .ok (.aload_n 0, 1) := by decide +kernel
theorem dX6_endProduct_24 : decode cX6_endProduct 24 = .ok (.getfield 24, 3) := by decide +kernel
theorem dX6_endProduct_27 : decode cX6_endProduct 27 = .ok (.iload_n 1, 1) := by decide +kernel
theorem dX6_endProduct_28 : decode cX6_endProduct 28 = .ok (.invokevirtual 47, 3) := by decide +kernel
theorem dX6_endProduct_31 : decode cX6_endProduct 31 = .ok (.aload_n 0, 1) := by decide +kernel
theorem dX6_endProduct_32 : decode cX6_endProduct 32 = .ok (.getfield 80, 3) := by decide +kernel
theorem dX6_endProduct_35 : decode cX6_endProduct 35 = .ok (.i2l, 1) := by decide +kernel
theorem dX6_endProduct_36 : decode cX6_endProduct 36 = .ok (.invokestatic 90, 3) := by decide +kernel
theorem dX6_endProduct_39 : decode cX6_endProduct 39 = .ok (.lstore_n 2, 1) := by decide +kernel
theorem dX6_endProduct_40 : decode cX6_endProduct 40 = .ok (.aload_n 0, 1) := by decide +kernel
theorem dX6_endProduct_41 : decode cX6_endProduct 41 = .ok (.lload_n 2, 1) := by decide +kernel
theorem dX6_endProduct_42 : decode cX6_endProduct 42 = .ok (.l2i, 1) := by decide +kernel
theorem dX6_endProduct_43 : decode cX6_endProduct 43 = .ok (.putfield 28, 3) := by decide +kernel
theorem dX6_endProduct_46 : decode cX6_endProduct 46 = .ok (.aload_n 0, 1) := by decide +kernel
theorem dX6_endProduct_47 : decode cX6_endProduct 47 = .ok (.iconst (-1), 1) := by decide +kernel
theorem dX6_endProduct_48 : decode cX6_endProduct 48 = .ok (.putfield 70, 3) := by decide +kernel
theorem dX6_endProduct_51 : decode cX6_endProduct 51 = .ok (.lload_n 2, 1) := by decide +kernel
theorem dX6_endProduct_52 : decode cX6_endProduct 52 = .ok (.invokestatic 94, 3) := by decide +kernel
theorem dX6_endProduct_55 : decode cX6_endProduct 55 = .ok (.ifCond .ne 12, 3) := by decide +kernel
theorem dX6_endProduct_58 : decode cX6_endProduct 58 = .ok (.aload_n 0, 1) := by decide +kernel
theorem dX6_endProduct_59 : decode cX6_endProduct 59 = .ok (.iconst 4, 1) := by decide +kernel
theorem dX6_endProduct_60 : decode cX6_endProduct 60 = .ok (.iload_n 1, 1) := by decide +kernel
theorem dX6_endProduct_61 : decode cX6_endProduct 61 = .ok (.invokevirtual 76, 3) := by decide +kernel
theorem dX6_endProduct_64 : decode cX6_endProduct 64 = .ok (.ifCond .eq 7, 3) := by decide +kernel
theorem dX6_endProduct_67 : decode cX6_endProduct 67 = .ok (.iconst 1, 1) := by decide +kernel
theorem dX6_endProduct_68 : decode cX6_endProduct 68 = .ok (.goto 4, 3) := by decide +kernel
theorem dX6_endProduct_71 : decode cX6_endProduct 71 = .ok (.iconst 0, 1) := by decide +kernel
theorem dX6_endProduct_72 : decode cX6_endProduct 72 = .ok (.ireturn, 1) := by decide +kernel
theorem dX6_fail_0 : decode cX6_fail 0 = .ok (.aload_n 0, 1) := by decide +kernel
theorem dX6_fail_1 : decode cX6_fail 1 = .ok (.iload_n 1, 1) := by decide +kernel
theorem dX6_fail_2 : decode cX6_fail 2 = .ok (.putfield 35, 3) := by decide +kernel
theorem dX6_fail_5 : decode cX6_fail 5 = .ok (.aload_n 0, 1) := by decide +kernel
theorem dX6_fail_6 : decode cX6_fail 6 = .ok (.iload_n 2, 1) := by decide +kernel
theorem dX6_fail_7 : decode cX6_fail 7 = .ok (.putfield 38, 3) := by decide +kernel
theorem dX6_fail_10 : decode cX6_fail 10 = .ok (.iconst 0, 1) := by decide +kernel
theorem dX6_fail_11 : decode cX6_fail 11 = .ok (.ireturn, 1) := by decide +kernel
theorem dX6_combine_0 : decode cX6_combine 0 = .ok (.iload_n 2, 1) := by decide +kernel
theorem dX6_combine_1 : decode cX6_combine 1 = .ok (.bipush 43, 2) := by decide +kernel
theorem dX6_combine_3 : decode cX6_combine 3 = .ok (.if_icmp .ne 7, 3) := by decide +kernel
theorem dX6_combine_6 : decode cX6_combine 6 = .ok (.lload_n 0, 1) := by decide +kernel
theorem dX6_combine_7 : decode cX6_combine 7 = .ok (.lload_n 3, 1) := by decide +kernel
theorem dX6_combine_8 : decode cX6_combine 8 = .ok (.ladd, 1) := by decide +kernel
theorem dX6_combine_9 : decode cX6_combine 9 = .ok (.lreturn, 1) := by decide +kernel
theorem dX6_combine_10 : decode cX6_combine 10 = .ok (.iload_n 2, 1) := by decide +kernel
theorem dX6_combine_11 : decode cX6_combine 11 = .ok (.bipush 45, 2) := by decide +kernel
theorem dX6_combine_13 : decode cX6_combine 13 = .ok (.if_icmp .ne 7, 3) := by decide +kernel
theorem dX6_combine_16 : decode cX6_combine 16 = .ok (.lload_n 0, 1) := by decide +kernel
theorem dX6_combine_17 : decode cX6_combine 17 = .ok (.lload_n 3, 1) := by decide +kernel
theorem dX6_combine_18 : decode cX6_combine 18 = .ok (.lsub, 1) := by decide +kernel
theorem dX6_combine_19 : decode cX6_combine 19 = .ok (.lreturn, 1) := by decide +kernel
theorem dX6_combine_20 : decode cX6_combine 20 = .ok (.iload_n 2, 1) := by decide +kernel
theorem dX6_combine_21 : decode cX6_combine 21 = .ok (.bipush 42, 2) := by decide +kernel
theorem dX6_combine_23 : decode cX6_combine 23 = .ok (.if_icmp .ne 7, 3) := by decide +kernel
theorem dX6_combine_26 : decode cX6_combine 26 = .ok (.lload_n 0, 1) := by decide +kernel
theorem dX6_combine_27 : decode cX6_combine 27 = .ok (.lload_n 3, 1) := by decide +kernel
theorem dX6_combine_28 : decode cX6_combine 28 = .ok (.lmul, 1) := by decide +kernel
theorem dX6_combine_29 : decode cX6_combine 29 = .ok (.lreturn, 1) := by decide +kernel
theorem dX6_combine_30 : decode cX6_combine 30 = .ok (.lload_n 3, 1) := by decide +kernel
theorem dX6_combine_31 : decode cX6_combine 31 = .ok (.lconst 0, 1) := by decide +kernel
theorem dX6_combine_32 : decode cX6_combine 32 = .ok (.lcmp, 1) := by decide +kernel
theorem dX6_combine_33 : decode cX6_combine 33 = .ok (.ifCond .ne 9, 3) := by decide +kernel
theorem dX6_combine_36 : decode cX6_combine 36 = .ok (.ldc2_w 98, 3) := by decide +kernel
theorem dX6_combine_39 : decode cX6_combine 39 = .ok (.goto 6, 3) := by decide +kernel
theorem dX6_combine_42 : decode cX6_combine 42 = .ok (.lload_n 0, 1) := by decide +kernel
theorem dX6_combine_43 : decode cX6_combine 43 = .ok (.lload_n 3, 1) := by decide +kernel
theorem dX6_combine_44 : decode cX6_combine 44 = .ok (.ldiv, 1) := by decide +kernel
theorem dX6_combine_45 : decode cX6_combine 45 = .ok (.lreturn, 1) := by decide +kernel
theorem dX6_isWithinLimit_0 : decode cX6_isWithinLimit 0 = .ok (.lload_n 0, 1) := by decide +kernel
theorem dX6_isWithinLimit_1 : decode cX6_isWithinLimit 1 = .ok (.ldc2_w 100, 3) := by decide +kernel
theorem dX6_isWithinLimit_4 : decode cX6_isWithinLimit 4 = .ok (.lcmp, 1) := by decide +kernel
theorem dX6_isWithinLimit_5 : decode cX6_isWithinLimit 5 = .ok (.ifCond .lt 15, 3) := by decide +kernel
theorem dX6_isWithinLimit_8 : decode cX6_isWithinLimit 8 = .ok (.lload_n 0, 1) := by decide +kernel
theorem dX6_isWithinLimit_9 : decode cX6_isWithinLimit 9 = .ok (.ldc2_w 102, 3) := by decide +kernel
theorem dX6_isWithinLimit_12 : decode cX6_isWithinLimit 12 = .ok (.lcmp, 1) := by decide +kernel
theorem dX6_isWithinLimit_13 : decode cX6_isWithinLimit 13 = .ok (.ifCond .gt 7, 3) := by decide +kernel
theorem dX6_isWithinLimit_16 : decode cX6_isWithinLimit 16 = .ok (.iconst 1, 1) := by decide +kernel
theorem dX6_isWithinLimit_17 : decode cX6_isWithinLimit 17 = .ok (.goto 4, 3) := by decide +kernel
theorem dX6_isWithinLimit_20 : decode cX6_isWithinLimit 20 = .ok (.iconst 0, 1) := by decide +kernel
theorem dX6_isWithinLimit_21 : decode cX6_isWithinLimit 21 = .ok (.ireturn, 1) := by decide +kernel
theorem dX7_init_0 : decode cX7_init 0 = .ok (.aload_n 0, 1) := by decide +kernel
theorem dX7_init_1 : decode cX7_init 1 = .ok (.invokespecial 3, 3) := by decide +kernel
theorem dX7_init_4 : decode cX7_init 4 = .ok (.aload_n 0, 1) := by decide +kernel
theorem dX7_init_5 : decode cX7_init 5 = .ok (.iload_n 1, 1) := by decide +kernel
theorem dX7_init_6 : decode cX7_init 6 = .ok (.iconst 0, 1) := by decide +kernel
theorem dX7_init_7 : decode cX7_init 7 = .ok (.invokestatic 9, 3) := by decide +kernel
theorem dX7_init_10 : decode cX7_init 10 = .ok (.newarray .byte, 2) := by decide +kernel
theorem dX7_init_12 : decode cX7_init 12 = .ok (.putfield 15, 3) := by decide +kernel
theorem dX7_init_15 : decode cX7_init 15 = .ok (.return_, 1) := by decide +kernel
theorem dX7_clear_0 : decode cX7_clear 0 = .ok (.aload_n 0, 1) := by decide +kernel
theorem dX7_clear_1 : decode cX7_clear 1 = .ok (.iconst 0, 1) := by decide +kernel
theorem dX7_clear_2 : decode cX7_clear 2 = .ok (.putfield 21, 3) := by decide +kernel
theorem dX7_clear_5 : decode cX7_clear 5 = .ok (.return_, 1) := by decide +kernel
theorem dX7_length_0 : decode cX7_length 0 = .ok (.aload_n 0, 1) := by decide +kernel
theorem dX7_length_1 : decode cX7_length 1 = .ok (.getfield 21, 3) := by decide +kernel
theorem dX7_length_4 : decode cX7_length 4 = .ok (.ireturn, 1) := by decide +kernel
theorem dX7_byteAt_0 : decode cX7_byteAt 0 = .ok (.iload_n 1, 1) := by decide +kernel
theorem dX7_byteAt_1 : decode cX7_byteAt 1 = .ok (.ifCond .lt 33, 3) := by decide +kernel
theorem dX7_byteAt_4 : decode cX7_byteAt 4 = .ok (.iload_n 1, 1) := by decide +kernel
theorem dX7_byteAt_5 : decode cX7_byteAt 5 = .ok (.aload_n 0, 1) := by decide +kernel
theorem dX7_byteAt_6 : decode cX7_byteAt 6 = .ok (.getfield 21, 3) := by decide +kernel
theorem dX7_byteAt_9 : decode cX7_byteAt 9 = .ok (.if_icmp .ge 25, 3) := by decide +kernel
theorem dX7_byteAt_12 : decode cX7_byteAt 12 = .ok (.iload_n 1, 1) := by decide +kernel
theorem dX7_byteAt_13 : decode cX7_byteAt 13 = .ok (.aload_n 0, 1) := by decide +kernel
theorem dX7_byteAt_14 : decode cX7_byteAt 14 = .ok (.getfield 15, 3) := by decide +kernel
theorem dX7_byteAt_17 : decode cX7_byteAt 17 = .ok (.arraylength, 1) := by decide +kernel
theorem dX7_byteAt_18 : decode cX7_byteAt 18 = .ok (.if_icmp .ge 16, 3) := by decide +kernel
theorem dX7_byteAt_21 : decode cX7_byteAt 21 = .ok (.aload_n 0, 1) := by decide +kernel
theorem dX7_byteAt_22 : decode cX7_byteAt 22 = .ok (.getfield 15, 3) := by decide +kernel
theorem dX7_byteAt_25 : decode cX7_byteAt 25 = .ok (.iload_n 1, 1) := by decide +kernel
theorem dX7_byteAt_26 : decode cX7_byteAt 26 = .ok (.baload, 1) := by decide +kernel
theorem dX7_byteAt_27 : decode cX7_byteAt 27 = .ok (.sipush 255, 3) := by decide +kernel
theorem dX7_byteAt_30 : decode cX7_byteAt 30 = .ok (.iand, 1) := by decide +kernel
theorem dX7_byteAt_31 : decode cX7_byteAt 31 = .ok (.goto 4, 3) := by decide +kernel
theorem dX7_byteAt_34 : decode cX7_byteAt 34 = .ok (.iconst (-1), 1) := by decide +kernel
theorem dX7_byteAt_35 : decode cX7_byteAt 35 = .ok (.ireturn, 1) := by decide +kernel
theorem dX7_append_0 : decode cX7_append 0 = .ok (.aload_n 0, 1) := by decide +kernel
theorem dX7_append_1 : decode cX7_append 1 = .ok (.getfield 21, 3) := by decide +kernel
theorem dX7_append_4 : decode cX7_append 4 = .ok (.ifCond .lt 36, 3) := by decide +kernel
theorem dX7_append_7 : decode cX7_append 7 = .ok (.aload_n 0, 1) := by decide +kernel
theorem dX7_append_8 : decode cX7_append 8 = .ok (.getfield 21, 3) := by decide +kernel
theorem dX7_append_11 : decode cX7_append 11 = .ok (.aload_n 0, 1) := by decide +kernel
theorem dX7_append_12 : decode cX7_append 12 = .ok (.getfield 15, 3) := by decide +kernel
theorem dX7_append_15 : decode cX7_append 15 = .ok (.arraylength, 1) := by decide +kernel
theorem dX7_append_16 : decode cX7_append 16 = .ok (.if_icmp .ge 24, 3) := by decide +kernel
theorem dX7_append_19 : decode cX7_append 19 = .ok (.aload_n 0, 1) := by decide +kernel
theorem dX7_append_20 : decode cX7_append 20 = .ok (.getfield 15, 3) := by decide +kernel
theorem dX7_append_23 : decode cX7_append 23 = .ok (.aload_n 0, 1) := by decide +kernel
theorem dX7_append_24 : decode cX7_append 24 = .ok (.getfield 21, 3) := by decide +kernel
theorem dX7_append_27 : decode cX7_append 27 = .ok (.iload_n 1, 1) := by decide +kernel
theorem dX7_append_28 : decode cX7_append 28 = .ok (.i2b, 1) := by decide +kernel
theorem dX7_append_29 : decode cX7_append 29 = .ok (.bastore, 1) := by decide +kernel
theorem dX7_append_30 : decode cX7_append 30 = .ok (.aload_n 0, 1) := by decide +kernel
theorem dX7_append_31 : decode cX7_append 31 = .ok (.dup, 1) := by decide +kernel
theorem dX7_append_32 : decode cX7_append 32 = .ok (.getfield 21, 3) := by decide +kernel
theorem dX7_append_35 : decode cX7_append 35 = .ok (.iconst 1, 1) := by decide +kernel
theorem dX7_append_36 : decode cX7_append 36 = .ok (.iadd, 1) := by decide +kernel
theorem dX7_append_37 : decode cX7_append 37 = .ok (.putfield 21, 3) := by decide +kernel
theorem dX7_append_40 : decode cX7_append 40 = .ok (.return_, 1) := by decide +kernel
theorem dX7_appendName_0 : decode cX7_appendName 0 = .ok (.iconst 0, 1) := by decide +kernel
theorem dX7_appendName_1 : decode cX7_appendName 1 = .ok (.istore_n 3, 1) := by decide +kernel
theorem dX7_appendName_2 : decode cX7_appendName 2 = .ok (.iload_n 3, 1) := by decide +kernel
theorem dX7_appendName_3 : decode cX7_appendName 3 = .ok (.bipush 8, 2) := by decide +kernel
theorem dX7_appendName_5 : decode cX7_appendName 5 = .ok (.if_icmp .ge 26, 3) := by decide +kernel
theorem dX7_appendName_8 : decode cX7_appendName 8 = .ok (.lload_n 1, 1) := by decide +kernel
theorem dX7_appendName_9 : decode cX7_appendName 9 = .ok (.iload_n 3, 1) := by decide +kernel
theorem dX7_appendName_10 : decode cX7_appendName 10 = .ok (.invokestatic 25, 3) := by decide +kernel
theorem dX7_appendName_13 : decode cX7_appendName 13 = .ok (.ifCond .eq 18, 3) := by decide +kernel
theorem dX7_appendName_16 : decode cX7_appendName 16 = .ok (.aload_n 0, 1) := by decide +kernel
theorem dX7_appendName_17 : decode cX7_appendName 17 = .ok (.lload_n 1, 1) := by decide +kernel
theorem dX7_appendName_18 : decode cX7_appendName 18 = .ok (.iload_n 3, 1) := by decide +kernel
theorem dX7_appendName_19 : decode cX7_appendName 19 = .ok (.invokestatic 25, 3) := by decide +kernel
theorem dX7_appendName_22 : decode cX7_appendName 22 = .ok (.invokevirtual 29, 3) := by decide +kernel
theorem dX7_appendName_25 : decode cX7_appendName 25 = .ok (.iinc 3 1, 3) := by decide +kernel
theorem dX7_appendName_28 : decode cX7_appendName 28 = .ok (.goto (-26), 3) := by decide +kernel
theorem dX7_appendName_31 : decode cX7_appendName 31 = .ok (.return_, 1) := by decide +kernel
theorem dX7_appendPart_0 : decode cX7_appendPart 0 = .ok (.iload_n 2, 1) := by decide +kernel
theorem dX7_appendPart_1 : decode cX7_appendPart 1 = .ok (.iconst 0, 1) := by decide +kernel
theorem dX7_appendPart_2 : decode cX7_appendPart 2 = .ok (.invokestatic 9, 3) := by decide +kernel
theorem dX7_appendPart_5 : decode cX7_appendPart 5 = .ok (.istore 4, 2) := by decide +kernel
theorem dX7_appendPart_7 : decode cX7_appendPart 7 = .ok (.iload 4, 2) := by decide +kernel
theorem dX7_appendPart_9 : decode cX7_appendPart 9 = .ok (.iload_n 3, 1) := by decide +kernel
theorem dX7_appendPart_10 : decode cX7_appendPart 10 = .ok (.if_icmp .ge 28, 3) := by decide +kernel
theorem dX7_appendPart_13 : decode cX7_appendPart 13 = .ok (.iload 4, 2) := by decide +kernel
theorem dX7_appendPart_15 : decode cX7_appendPart 15 = .ok (.aload_n 1, 1) := by decide +kernel
theorem dX7_appendPart_16 : decode cX7_appendPart 16 = .ok (.getfield 21, 3) := by decide +kernel
theorem dX7_appendPart_19 : decode cX7_appendPart 19 = .ok (.if_icmp .ge 19, 3) := by decide +kernel
theorem dX7_appendPart_22 : decode cX7_appendPart 22 = .ok (.aload_n 0, 1) := by decide +kernel
theorem dX7_appendPart_23 : decode cX7_appendPart 23 = .ok (.aload_n 1, 1) := by decide +kernel
theorem dX7_appendPart_24 : decode cX7_appendPart 24 = .ok (.iload 4, 2) := by decide +kernel
theorem dX7_appendPart_26 : decode cX7_appendPart 26 = .ok (.invokevirtual 33, 3) := by decide +kernel
theorem dX7_appendPart_29 : decode cX7_appendPart 29 = .ok (.invokevirtual 29, 3) := by decide +kernel
theorem dX7_appendPart_32 : decode cX7_appendPart 32 = .ok (.iinc 4 1, 3) := by decide +kernel
theorem dX7_appendPart_35 : decode cX7_appendPart 35 = .ok (.goto (-28), 3) := by decide +kernel
theorem dX7_appendPart_38 : decode cX7_appendPart 38 = .ok (.return_, 1) := by decide +kernel
theorem dX7_become_0 : decode cX7_become 0 = .ok (.aload_n 0, 1) := by decide +kernel
theorem dX7_become_1 : decode cX7_become 1 = .ok (.invokevirtual 37, 3) := by decide +kernel
theorem dX7_become_4 : decode cX7_become 4 = .ok (.aload_n 0, 1) := by decide +kernel
theorem dX7_become_5 : decode cX7_become 5 = .ok (.aload_n 1, 1) := by decide +kernel
theorem dX7_become_6 : decode cX7_become 6 = .ok (.iconst 0, 1) := by decide +kernel
theorem dX7_become_7 : decode cX7_become 7 = .ok (.aload_n 1, 1) := by decide +kernel
theorem dX7_become_8 : decode cX7_become 8 = .ok (.getfield 21, 3) := by decide +kernel
theorem dX7_become_11 : decode cX7_become 11 = .ok (.invokevirtual 40, 3) := by decide +kernel
theorem dX7_become_14 : decode cX7_become 14 = .ok (.return_, 1) := by decide +kernel
theorem dX7_packed_0 : decode cX7_packed 0 = .ok (.lconst 0, 1) := by decide +kernel
theorem dX7_packed_1 : decode cX7_packed 1 = .ok (.lstore_n 3, 1) := by decide +kernel
theorem dX7_packed_2 : decode cX7_packed 2 = .ok (.iconst 0, 1) := by decide +kernel
theorem dX7_packed_3 : decode cX7_packed 3 = .ok (.istore 5, 2) := by decide +kernel
theorem dX7_packed_5 : decode cX7_packed 5 = .ok (.iload 5, 2) := by decide +kernel
theorem dX7_packed_7 : decode cX7_packed 7 = .ok (.bipush 8, 2) := by decide +kernel
theorem dX7_packed_9 : decode cX7_packed 9 = .ok (.if_icmp .ge 39, 3) := by decide +kernel
theorem dX7_packed_12 : decode cX7_packed 12 = .ok (.iload_n 1, 1) := by decide +kernel
theorem dX7_packed_13 : decode cX7_packed 13 = .ok (.iload 5, 2) := by decide +kernel
theorem dX7_packed_15 : decode cX7_packed 15 = .ok (.iadd, 1) := by decide +kernel
theorem dX7_packed_16 : decode cX7_packed 16 = .ok (.iload_n 2, 1) := by decide +kernel
theorem dX7_packed_17 : decode cX7_packed 17 = .ok (.if_icmp .ge 31, 3) := by decide +kernel
theorem dX7_packed_20 : decode cX7_packed 20 = .ok (.lload_n 3, 1) := by decide +kernel
theorem dX7_packed_21 : decode cX7_packed 21 = .ok (.aload_n 0, 1) := by decide +kernel
theorem dX7_packed_22 : decode cX7_packed 22 = .ok (.iload_n 1, 1) := by decide +kernel
theorem dX7_packed_23 : decode cX7_packed 23 = .ok (.iload 5, 2) := by decide +kernel
theorem dX7_packed_25 : decode cX7_packed 25 = .ok (.iadd, 1) := by decide +kernel
theorem dX7_packed_26 : decode cX7_packed 26 = .ok (.invokevirtual 33, 3) := by decide +kernel
theorem dX7_packed_29 : decode cX7_packed 29 = .ok (.i2l, 1) := by decide +kernel
theorem dX7_packed_30 : decode cX7_packed 30 = .ok (.ldc2_w 44, 3) := by decide +kernel
theorem dX7_packed_33 : decode cX7_packed 33 = .ok (.land, 1) := by decide +kernel
theorem dX7_packed_34 : decode cX7_packed 34 = .ok (.bipush 8, 2) := by decide +kernel
theorem dX7_packed_36 : decode cX7_packed 36 = .ok (.iload 5, 2) := by decide +kernel
theorem dX7_packed_38 : decode cX7_packed 38 = .ok (.imul, 1) := by decide +kernel
theorem dX7_packed_39 : decode cX7_packed 39 = .ok (.lshl, 1) := by decide +kernel
theorem dX7_packed_40 : decode cX7_packed 40 = .ok (.lor, 1) := by decide +kernel
theorem dX7_packed_41 : decode cX7_packed 41 = .ok (.lstore_n 3, 1) := by decide +kernel
theorem dX7_packed_42 : decode cX7_packed 42 = .ok (.iinc 5 1, 3) := by decide +kernel
theorem dX7_packed_45 : decode cX7_packed 45 = .ok (.goto (-40), 3) := by decide +kernel
theorem dX7_packed_48 : decode cX7_packed 48 = .ok (.lload_n 3, 1) := by decide +kernel
theorem dX7_packed_49 : decode cX7_packed 49 = .ok (.lreturn, 1) := by decide +kernel
theorem dX7_spells_0 : decode cX7_spells 0 = .ok (.iload_n 2, 1) := by decide +kernel
theorem dX7_spells_1 : decode cX7_spells 1 = .ok (.iload_n 1, 1) := by decide +kernel
theorem dX7_spells_2 : decode cX7_spells 2 = .ok (.isub, 1) := by decide +kernel
theorem dX7_spells_3 : decode cX7_spells 3 = .ok (.aload_n 3, 1) := by decide +kernel
theorem dX7_spells_4 : decode cX7_spells 4 = .ok (.invokevirtual 46, 3) := by decide +kernel
theorem dX7_spells_7 : decode cX7_spells 7 = .ok (.if_icmp .eq 5, 3) := by decide +kernel
theorem dX7_spells_10 : decode cX7_spells 10 = .ok (.iconst 0, 1) := by decide +kernel
theorem dX7_spells_11 : decode cX7_spells 11 = .ok (.ireturn, 1) := by decide +kernel
theorem dX7_spells_12 : decode cX7_spells 12 = .ok (.iconst 0, 1) := by decide +kernel
theorem dX7_spells_13 : decode cX7_spells 13 = .ok (.istore 4, 2) := by decide +kernel
theorem dX7_spells_15 : decode cX7_spells 15 = .ok (.iload 4, 2) := by decide +kernel
theorem dX7_spells_17 : decode cX7_spells 17 = .ok (.aload_n 3, 1) := by decide +kernel
theorem dX7_spells_18 : decode cX7_spells 18 = .ok (.invokevirtual 46, 3) := by decide +kernel
theorem dX7_spells_21 : decode cX7_spells 21 = .ok (.if_icmp .ge 28, 3) := by decide +kernel
theorem dX7_spells_24 : decode cX7_spells 24 = .ok (.aload_n 0, 1) := by decide +kernel
theorem dX7_spells_25 : decode cX7_spells 25 = .ok (.iload_n 1, 1) := by decide +kernel
theorem dX7_spells_26 : decode cX7_spells 26 = .ok (.iload 4, 2) := by decide +kernel
theorem dX7_spells_28 : decode cX7_spells 28 = .ok (.iadd, 1) := by decide +kernel
theorem dX7_spells_29 : decode cX7_spells 29 = .ok (.invokevirtual 33, 3) := by decide +kernel
theorem dX7_spells_32 : decode cX7_spells 32 = .ok (.aload_n 3, 1) := by decide +kernel
theorem dX7_spells_33 : decode cX7_spells 33 = .ok (.iload 4, 2) := by decide +kernel
theorem dX7_spells_35 : decode cX7_spells 35 = .ok (.invokevirtual 51, 3) := by decide +kernel
theorem dX7_spells_38 : decode cX7_spells 38 = .ok (.if_icmp .eq 5, 3) := by decide +kernel
theorem dX7_spells_41 : decode cX7_spells 41 = .ok (.iconst 0, 1) := by decide +kernel
theorem dX7_spells_42 : decode cX7_spells 42 = .ok (.ireturn, 1) := by decide +kernel
theorem dX7_spells_43 : decode cX7_spells 43 = .ok (.iinc 4 1, 3) := by decide +kernel
theorem dX7_spells_46 : decode cX7_spells 46 = .ok (.goto (-31), 3) := by decide +kernel
theorem dX7_spells_49 : decode cX7_spells 49 = .ok (.iconst 1, 1) := by decide +kernel
theorem dX7_spells_50 : decode cX7_spells 50 = .ok (.ireturn, 1) := by decide +kernel
theorem dX7_asName_0 : decode cX7_asName 0 = .ok (.aload_n 0, 1) := by decide +kernel
theorem dX7_asName_1 : decode cX7_asName 1 = .ok (.getfield 21, 3) := by decide +kernel
theorem dX7_asName_4 : decode cX7_asName 4 = .ok (.bipush 8, 2) := by decide +kernel
theorem dX7_asName_6 : decode cX7_asName 6 = .ok (.if_icmp .gt 14, 3) := by decide +kernel
theorem dX7_asName_9 : decode cX7_asName 9 = .ok (.aload_n 0, 1) := by decide +kernel
theorem dX7_asName_10 : decode cX7_asName 10 = .ok (.iconst 0, 1) := by decide +kernel
theorem dX7_asName_11 : decode cX7_asName 11 = .ok (.invokevirtual 33, 3) := by decide +kernel
theorem dX7_asName_14 : decode cX7_asName 14 = .ok (.invokestatic 55, 3) := by decide +kernel
theorem dX7_asName_17 : decode cX7_asName 17 = .ok (.ifCond .ne 5, 3) := by decide +kernel
theorem dX7_asName_20 : decode cX7_asName 20 = .ok (.lconst 0, 1) := by decide +kernel
theorem dX7_asName_21 : decode cX7_asName 21 = .ok (.lreturn, 1) := by decide +kernel
theorem dX7_asName_22 : decode cX7_asName 22 = .ok (.iconst 1, 1) := by decide +kernel
theorem dX7_asName_23 : decode cX7_asName 23 = .ok (.istore_n 1, 1) := by decide +kernel
theorem dX7_asName_24 : decode cX7_asName 24 = .ok (.iload_n 1, 1) := by decide +kernel
theorem dX7_asName_25 : decode cX7_asName 25 = .ok (.aload_n 0, 1) := by decide +kernel
theorem dX7_asName_26 : decode cX7_asName 26 = .ok (.getfield 21, 3) := by decide +kernel
theorem dX7_asName_29 : decode cX7_asName 29 = .ok (.if_icmp .ge 22, 3) := by decide +kernel
theorem dX7_asName_32 : decode cX7_asName 32 = .ok (.aload_n 0, 1) := by decide +kernel
theorem dX7_asName_33 : decode cX7_asName 33 = .ok (.iload_n 1, 1) := by decide +kernel
theorem dX7_asName_34 : decode cX7_asName 34 = .ok (.invokevirtual 33, 3) := by decide +kernel
theorem dX7_asName_37 : decode cX7_asName 37 = .ok (.invokestatic 59, 3) := by decide +kernel
theorem dX7_asName_40 : decode cX7_asName 40 = .ok (.ifCond .ne 5, 3) := by decide +kernel
theorem dX7_asName_43 : decode cX7_asName 43 = .ok (.lconst 0, 1) := by decide +kernel
theorem dX7_asName_44 : decode cX7_asName 44 = .ok (.lreturn, 1) := by decide +kernel
theorem dX7_asName_45 : decode cX7_asName 45 = .ok (.iinc 1 1, 3) := by decide +kernel
theorem dX7_asName_48 : decode cX7_asName 48 = .ok (.goto (-24), 3) := by decide +kernel
theorem dX7_asName_51 : decode cX7_asName 51 = .ok (.aload_n 0, 1) := by decide +kernel
theorem dX7_asName_52 : decode cX7_asName 52 = .ok (.iconst 0, 1) := by decide +kernel
theorem dX7_asName_53 : decode cX7_asName 53 = .ok (.aload_n 0, 1) := by decide +kernel
theorem dX7_asName_54 : decode cX7_asName 54 = .ok (.getfield 21, 3) := by decide +kernel
theorem dX7_asName_57 : decode cX7_asName 57 = .ok (.invokevirtual 62, 3) := by decide +kernel
theorem dX7_asName_60 : decode cX7_asName 60 = .ok (.lreturn, 1) := by decide +kernel
theorem dX8_init_0 : decode cX8_init 0 = .ok (.aload_n 0, 1) := by decide +kernel
theorem dX8_init_1 : decode cX8_init 1 = .ok (.invokespecial 3, 3) := by decide +kernel
theorem dX8_init_4 : decode cX8_init 4 = .ok (.aload_n 0, 1) := by decide +kernel
theorem dX8_init_5 : decode cX8_init 5 = .ok (.new 9, 3) := by decide +kernel
theorem dX8_init_8 : decode cX8_init 8 = .ok (.dup, 1) := by decide +kernel
theorem dX8_init_9 : decode cX8_init 9 = .ok (.sipush 600, 3) := by decide +kernel
theorem dX8_init_12 : decode cX8_init 12 = .ok (.invokespecial 11, 3) := by decide +kernel
theorem dX8_init_15 : decode cX8_init 15 = .ok (.putfield 14, 3) := by decide +kernel
theorem dX8_init_18 : decode cX8_init 18 = .ok (.aload_n 0, 1) := by decide +kernel
theorem dX8_init_19 : decode cX8_init 19 = .ok (.sipush 601, 3) := by decide +kernel
theorem dX8_init_22 : decode cX8_init 22 = .ok (.newarray .int, 2) := by decide +kernel
theorem dX8_init_24 : decode cX8_init 24 = .ok (.putfield 20, 3) := by decide +kernel
theorem dX8_init_27 : decode cX8_init 27 = .ok (.aload_n 0, 1) := by decide +kernel
theorem dX8_init_28 : decode cX8_init 28 = .ok (.sipush 601, 3) := by decide +kernel
theorem dX8_init_31 : decode cX8_init 31 = .ok (.newarray .int, 2) := by decide +kernel
theorem dX8_init_33 : decode cX8_init 33 = .ok (.putfield 24, 3) := by decide +kernel
theorem dX8_init_36 : decode cX8_init 36 = .ok (.aload_n 0, 1) := by decide +kernel
theorem dX8_init_37 : decode cX8_init 37 = .ok (.sipush 601, 3) := by decide +kernel
theorem dX8_init_40 : decode cX8_init 40 = .ok (.newarray .int, 2) := by decide +kernel
theorem dX8_init_42 : decode cX8_init 42 = .ok (.putfield 27, 3) := by decide +kernel
theorem dX8_init_45 : decode cX8_init 45 = .ok (.aload_n 0, 1) := by decide +kernel
theorem dX8_init_46 : decode cX8_init 46 = .ok (.sipush 601, 3) := by decide +kernel
theorem dX8_init_49 : decode cX8_init 49 = .ok (.newarray .long, 2) := by decide +kernel
theorem dX8_init_51 : decode cX8_init 51 = .ok (.putfield 30, 3) := by decide +kernel
theorem dX8_init_54 : decode cX8_init 54 = .ok (.return_, 1) := by decide +kernel
theorem dX8_scan_0 : decode cX8_scan 0 = .ok (.aload_n 0, 1) := by decide +kernel
theorem dX8_scan_1 : decode cX8_scan 1 = .ok (.getfield 14, 3) := by decide +kernel
theorem dX8_scan_4 : decode cX8_scan 4 = .ok (.aload_n 1, 1) := by decide +kernel
theorem dX8_scan_5 : decode cX8_scan 5 = .ok (.invokevirtual 34, 3) := by decide +kernel
theorem dX8_scan_8 : decode cX8_scan 8 = .ok (.aload_n 0, 1) := by decide +kernel
theorem dX8_scan_9 : decode cX8_scan 9 = .ok (.iconst 0, 1) := by decide +kernel
theorem dX8_scan_10 : decode cX8_scan 10 = .ok (.putfield 38, 3) := by decide +kernel
theorem dX8_scan_13 : decode cX8_scan 13 = .ok (.iconst 0, 1) := by decide +kernel
theorem dX8_scan_14 : decode cX8_scan 14 = .ok (.istore_n 2, 1) := by decide +kernel
theorem dX8_scan_15 : decode cX8_scan 15 = .ok (.iconst 0, 1) := by decide +kernel
theorem dX8_scan_16 : decode cX8_scan 16 = .ok (.istore_n 3, 1) := by decide +kernel
theorem dX8_scan_17 : decode cX8_scan 17 = .ok (.iload_n 3, 1) := by decide +kernel
theorem dX8_scan_18 : decode cX8_scan 18 = .ok (.sipush 600, 3) := by decide +kernel
theorem dX8_scan_21 : decode cX8_scan 21 = .ok (.if_icmp .ge 103, 3) := by decide +kernel
theorem dX8_scan_24 : decode cX8_scan 24 = .ok (.iload_n 2, 1) := by decide +kernel
theorem dX8_scan_25 : decode cX8_scan 25 = .ok (.aload_n 0, 1) := by decide +kernel
theorem dX8_scan_26 : decode cX8_scan 26 = .ok (.getfield 14, 3) := by decide +kernel
theorem dX8_scan_29 : decode cX8_scan 29 = .ok (.invokevirtual 42, 3) := by decide +kernel
theorem dX8_scan_32 : decode cX8_scan 32 = .ok (.if_icmp .ge 92, 3) := by decide +kernel
theorem dX8_scan_35 : decode cX8_scan 35 = .ok (.aload_n 0, 1) := by decide +kernel
theorem dX8_scan_36 : decode cX8_scan 36 = .ok (.getfield 14, 3) := by decide +kernel
theorem dX8_scan_39 : decode cX8_scan 39 = .ok (.iload_n 2, 1) := by decide +kernel
theorem dX8_scan_40 : decode cX8_scan 40 = .ok (.invokevirtual 46, 3) := by decide +kernel
theorem dX8_scan_43 : decode cX8_scan 43 = .ok (.istore 4, 2) := by decide +kernel
theorem dX8_scan_45 : decode cX8_scan 45 = .ok (.iload 4, 2) := by decide +kernel
theorem dX8_scan_47 : decode cX8_scan 47 = .ok (.bipush 32, 2) := by decide +kernel
theorem dX8_scan_49 : decode cX8_scan 49 = .ok (.if_icmp .eq 10, 3) := by decide +kernel
theorem dX8_scan_52 : decode cX8_scan 52 = .ok (.iload 4, 2) := by decide +kernel
theorem dX8_scan_54 : decode cX8_scan 54 = .ok (.bipush 9, 2) := by decide +kernel
theorem dX8_scan_56 : decode cX8_scan 56 = .ok (.if_icmp .ne 9, 3) := by decide +kernel
theorem dX8_scan_59 : decode cX8_scan 59 = .ok (.iinc 2 1, 3) := by decide +kernel
theorem dX8_scan_62 : decode cX8_scan 62 = .ok (.goto 56, 3) := by decide +kernel
theorem dX8_scan_65 : decode cX8_scan 65 = .ok (.iload 4, 2) := by decide +kernel
theorem dX8_scan_67 : decode cX8_scan 67 = .ok (.bipush 35, 2) := by decide +kernel
theorem dX8_scan_69 : decode cX8_scan 69 = .ok (.if_icmp .ne 12, 3) := by decide +kernel
theorem dX8_scan_72 : decode cX8_scan 72 = .ok (.aload_n 0, 1) := by decide +kernel
theorem dX8_scan_73 : decode cX8_scan 73 = .ok (.iload_n 2, 1) := by decide +kernel
theorem dX8_scan_74 : decode cX8_scan 74 = .ok (.invokevirtual 50, 3) := by decide +kernel
theorem dX8_scan_77 : decode cX8_scan 77 = .ok (.istore_n 2, 1) := by decide +kernel
theorem dX8_scan_78 : decode cX8_scan 78 = .ok (.goto 40, 3) := by decide +kernel
theorem dX8_scan_81 : decode cX8_scan 81 = .ok (.iload 4, 2) := by decide +kernel
theorem dX8_scan_83 : decode cX8_scan 83 = .ok (.invokestatic 53, 3) := by decide +kernel
theorem dX8_scan_86 : decode cX8_scan 86 = .ok (.istore 5, 2) := by decide +kernel
theorem dX8_scan_88 : decode cX8_scan 88 = .ok (.aload_n 0, 1) := by decide +kernel
theorem dX8_scan_89 : decode cX8_scan 89 = .ok (.iload 5, 2) := by decide +kernel
theorem dX8_scan_91 : decode cX8_scan 91 = .ok (.iload_n 2, 1) := by decide +kernel
theorem dX8_scan_92 : decode cX8_scan 92 = .ok (.invokevirtual 56, 3) := by decide +kernel
theorem dX8_scan_95 : decode cX8_scan 95 = .ok (.istore 6, 2) := by decide +kernel
theorem dX8_scan_97 : decode cX8_scan 97 = .ok (.aload_n 0, 1) := by decide +kernel
theorem dX8_scan_98 : decode cX8_scan 98 = .ok (.iload 5, 2) := by decide +kernel
theorem dX8_scan_100 : decode cX8_scan 100 = .ok (.iload_n 2, 1) := by decide +kernel
theorem dX8_scan_101 : decode cX8_scan 101 = .ok (.iload 6, 2) := by decide +kernel
theorem dX8_scan_103 : decode cX8_scan 103 = .ok (.aload_n 0, 1) := by decide +kernel
theorem dX8_scan_104 : decode cX8_scan 104 = .ok (.iload 5, 2) := by decide +kernel
theorem dX8_scan_106 : decode cX8_scan 106 = .ok (.iload_n 2, 1) := by decide +kernel
theorem dX8_scan_107 : decode cX8_scan 107 = .ok (.iload 6, 2) := by decide +kernel
theorem dX8_scan_109 : decode cX8_scan 109 = .ok (.invokevirtual 60, 3) := by decide +kernel
theorem dX8_scan_112 : decode cX8_scan 112 = .ok (.invokevirtual 64, 3) := by decide +kernel
theorem dX8_scan_115 : decode cX8_scan 115 = .ok (.iload 6, 2) := by decide +kernel
theorem dX8_scan_117 : decode cX8_scan 117 = .ok (.istore_n 2, 1) := by decide +kernel
theorem dX8_scan_118 : decode cX8_scan 118 = .ok (.iinc 3 1, 3) := by decide +kernel
theorem dX8_scan_121 : decode cX8_scan 121 = .ok (.goto (-104), 3) := by decide +kernel
theorem dX8_scan_124 : decode cX8_scan 124 = .ok (.aload_n 0, 1) := by decide +kernel
theorem dX8_scan_125 : decode cX8_scan 125 = .ok (.iconst 0, 1) := by decide +kernel
theorem dX8_scan_126 : decode cX8_scan 126 = .ok (.aload_n 0, 1) := by decide +kernel
theorem dX8_scan_127 : decode cX8_scan 127 = .ok (.getfield 14, 3) := by decide +kernel
theorem dX8_scan_130 : decode cX8_scan 130 = .ok (.invokevirtual 42, 3) := by decide +kernel
theorem dX8_scan_133 : decode cX8_scan 133 = .ok (.aload_n 0, 1) := by decide +kernel
theorem dX8_scan_134 : decode cX8_scan 134 = .ok (.getfield 14, 3) := by decide +kernel
theorem dX8_scan_137 : decode cX8_scan 137 = .ok (.invokevirtual 42, 3) := by decide +kernel
theorem dX8_scan_140 : decode cX8_scan 140 = .ok (.lconst 0, 1) := by decide +kernel
theorem dX8_scan_141 : decode cX8_scan 141 = .ok (.invokevirtual 64, 3) := by decide +kernel
theorem dX8_scan_144 : decode cX8_scan 144 = .ok (.return_, 1) := by decide +kernel
theorem dX8_sortAt_0 : decode cX8_sortAt 0 = .ok (.iload_n 1, 1) := by decide +kernel
theorem dX8_sortAt_1 : decode cX8_sortAt 1 = .ok (.ifCond .lt 29, 3) := by decide +kernel
theorem dX8_sortAt_4 : decode cX8_sortAt 4 = .ok (.iload_n 1, 1) := by decide +kernel
theorem dX8_sortAt_5 : decode cX8_sortAt 5 = .ok (.aload_n 0, 1) := by decide +kernel
theorem dX8_sortAt_6 : decode cX8_sortAt 6 = .ok (.getfield 38, 3) := by decide +kernel
theorem dX8_sortAt_9 : decode cX8_sortAt 9 = .ok (.if_icmp .ge 21, 3) := by decide +kernel
theorem dX8_sortAt_12 : decode cX8_sortAt 12 = .ok (.iload_n 1, 1) := by decide +kernel
theorem dX8_sortAt_13 : decode cX8_sortAt 13 = .ok (.aload_n 0, 1) := by decide +kernel
theorem dX8_sortAt_14 : decode cX8_sortAt 14 = .ok (.getfield 20, 3) := by decide +kernel
theorem dX8_sortAt_17 : decode cX8_sortAt 17 = .ok (.arraylength, 1) := by decide +kernel
theorem dX8_sortAt_18 : decode cX8_sortAt 18 = .ok (.if_icmp .ge 12, 3) := by decide +kernel
theorem dX8_sortAt_21 : decode cX8_sortAt 21 = .ok (.aload_n 0, 1) := by decide +kernel
theorem dX8_sortAt_22 : decode cX8_sortAt 22 = .ok (.getfield 20, 3) := by decide +kernel
theorem dX8_sortAt_25 : decode cX8_sortAt 25 = .ok (.iload_n 1, 1) := by decide +kernel
theorem dX8_sortAt_26 : decode cX8_sortAt 26 = .ok (.iaload, 1) := by decide +kernel
theorem dX8_sortAt_27 : decode cX8_sortAt 27 = .ok (.goto 4, 3) := by decide +kernel
theorem dX8_sortAt_30 : decode cX8_sortAt 30 = .ok (.iconst 0, 1) := by decide +kernel
theorem dX8_sortAt_31 : decode cX8_sortAt 31 = .ok (.ireturn, 1) := by decide +kernel
theorem dX8_beginAt_0 : decode cX8_beginAt 0 = .ok (.iload_n 1, 1) := by decide +kernel
theorem dX8_beginAt_1 : decode cX8_beginAt 1 = .ok (.ifCond .lt 29, 3) := by decide +kernel
theorem dX8_beginAt_4 : decode cX8_beginAt 4 = .ok (.iload_n 1, 1) := by decide +kernel
theorem dX8_beginAt_5 : decode cX8_beginAt 5 = .ok (.aload_n 0, 1) := by decide +kernel
theorem dX8_beginAt_6 : decode cX8_beginAt 6 = .ok (.getfield 38, 3) := by decide +kernel
theorem dX8_beginAt_9 : decode cX8_beginAt 9 = .ok (.if_icmp .ge 21, 3) := by decide +kernel
theorem dX8_beginAt_12 : decode cX8_beginAt 12 = .ok (.iload_n 1, 1) := by decide +kernel
theorem dX8_beginAt_13 : decode cX8_beginAt 13 = .ok (.aload_n 0, 1) := by decide +kernel
theorem dX8_beginAt_14 : decode cX8_beginAt 14 = .ok (.getfield 24, 3) := by decide +kernel
theorem dX8_beginAt_17 : decode cX8_beginAt 17 = .ok (.arraylength, 1) := by decide +kernel
theorem dX8_beginAt_18 : decode cX8_beginAt 18 = .ok (.if_icmp .ge 12, 3) := by decide +kernel
theorem dX8_beginAt_21 : decode cX8_beginAt 21 = .ok (.aload_n 0, 1) := by decide +kernel
theorem dX8_beginAt_22 : decode cX8_beginAt 22 = .ok (.getfield 24, 3) := by decide +kernel
theorem dX8_beginAt_25 : decode cX8_beginAt 25 = .ok (.iload_n 1, 1) := by decide +kernel
theorem dX8_beginAt_26 : decode cX8_beginAt 26 = .ok (.iaload, 1) := by decide +kernel
theorem dX8_beginAt_27 : decode cX8_beginAt 27 = .ok (.goto 10, 3) := by decide +kernel
theorem dX8_beginAt_30 : decode cX8_beginAt 30 = .ok (.aload_n 0, 1) := by decide +kernel
theorem dX8_beginAt_31 : decode cX8_beginAt 31 = .ok (.getfield 14, 3) := by decide +kernel
theorem dX8_beginAt_34 : decode cX8_beginAt 34 = .ok (.invokevirtual 42, 3) := by decide +kernel
theorem dX8_beginAt_37 : decode cX8_beginAt 37 = .ok (.ireturn, 1) := by decide +kernel
theorem dX8_lengthAt_0 : decode cX8_lengthAt 0 = .ok (.iload_n 1, 1) := by decide +kernel
theorem dX8_lengthAt_1 : decode cX8_lengthAt 1 = .ok (.ifCond .lt 45, 3) := by decide +kernel
theorem dX8_lengthAt_4 : decode cX8_lengthAt 4 = .ok (.iload_n 1, 1) := by decide +kernel
theorem dX8_lengthAt_5 : decode cX8_lengthAt 5 = .ok (.aload_n 0, 1) := by decide +kernel
theorem dX8_lengthAt_6 : decode cX8_lengthAt 6 = .ok (.getfield 38, 3) := by decide +kernel
theorem dX8_lengthAt_9 : decode cX8_lengthAt 9 = .ok (.if_icmp .ge 37, 3) := by decide +kernel
theorem dX8_lengthAt_12 : decode cX8_lengthAt 12 = .ok (.iload_n 1, 1) := by decide +kernel
theorem dX8_lengthAt_13 : decode cX8_lengthAt 13 = .ok (.aload_n 0, 1) := by decide +kernel
theorem dX8_lengthAt_14 : decode cX8_lengthAt 14 = .ok (.getfield 24, 3) := by decide +kernel
theorem dX8_lengthAt_17 : decode cX8_lengthAt 17 = .ok (.arraylength, 1) := by decide +kernel
theorem dX8_lengthAt_18 : decode cX8_lengthAt 18 = .ok (.if_icmp .ge 28, 3) := by decide +kernel
theorem dX8_lengthAt_21 : decode cX8_lengthAt 21 = .ok (.iload_n 1, 1) := by decide +kernel
theorem dX8_lengthAt_22 : decode cX8_lengthAt 22 = .ok (.aload_n 0, 1) := by decide +kernel
theorem dX8_lengthAt_23 : decode cX8_lengthAt 23 = .ok (.getfield 27, 3) := by decide +kernel
theorem dX8_lengthAt_26 : decode cX8_lengthAt 26 = .ok (.arraylength, 1) := by decide +kernel
theorem dX8_lengthAt_27 : decode cX8_lengthAt 27 = .ok (.if_icmp .ge 19, 3) := by decide +kernel
theorem dX8_lengthAt_30 : decode cX8_lengthAt 30 = .ok (.aload_n 0, 1) := by decide +kernel
theorem dX8_lengthAt_31 : decode cX8_lengthAt 31 = .ok (.getfield 27, 3) := by decide +kernel
theorem dX8_lengthAt_34 : decode cX8_lengthAt 34 = .ok (.iload_n 1, 1) := by decide +kernel
theorem dX8_lengthAt_35 : decode cX8_lengthAt 35 = .ok (.iaload, 1) := by decide +kernel
theorem dX8_lengthAt_36 : decode cX8_lengthAt 36 = .ok (.aload_n 0, 1) := by decide +kernel
theorem dX8_lengthAt_37 : decode cX8_lengthAt 37 = .ok (.getfield 24, 3) := by decide +kernel
theorem dX8_lengthAt_40 : decode cX8_lengthAt 40 = .ok (.iload_n 1, 1) := by decide +kernel
theorem dX8_lengthAt_41 : decode cX8_lengthAt 41 = .ok (.iaload, 1) := by decide +kernel
theorem dX8_lengthAt_42 : decode cX8_lengthAt 42 = .ok (.isub, 1) := by decide +kernel
theorem dX8_lengthAt_43 : decode cX8_lengthAt 43 = .ok (.goto 4, 3) := by decide +kernel
theorem dX8_lengthAt_46 : decode cX8_lengthAt 46 = .ok (.iconst 0, 1) := by decide +kernel
theorem dX8_lengthAt_47 : decode cX8_lengthAt 47 = .ok (.ireturn, 1) := by decide +kernel
theorem dX8_nameAt_0 : decode cX8_nameAt 0 = .ok (.iload_n 1, 1) := by decide +kernel
theorem dX8_nameAt_1 : decode cX8_nameAt 1 = .ok (.ifCond .lt 29, 3) := by decide +kernel
theorem dX8_nameAt_4 : decode cX8_nameAt 4 = .ok (.iload_n 1, 1) := by decide +kernel
theorem dX8_nameAt_5 : decode cX8_nameAt 5 = .ok (.aload_n 0, 1) := by decide +kernel
theorem dX8_nameAt_6 : decode cX8_nameAt 6 = .ok (.getfield 38, 3) := by decide +kernel
theorem dX8_nameAt_9 : decode cX8_nameAt 9 = .ok (.if_icmp .ge 21, 3) := by decide +kernel
theorem dX8_nameAt_12 : decode cX8_nameAt 12 = .ok (.iload_n 1, 1) := by decide +kernel
theorem dX8_nameAt_13 : decode cX8_nameAt 13 = .ok (.aload_n 0, 1) := by decide +kernel
theorem dX8_nameAt_14 : decode cX8_nameAt 14 = .ok (.getfield 30, 3) := by decide +kernel
theorem dX8_nameAt_17 : decode cX8_nameAt 17 = .ok (.arraylength, 1) := by decide +kernel
theorem dX8_nameAt_18 : decode cX8_nameAt 18 = .ok (.if_icmp .ge 12, 3) := by decide +kernel
theorem dX8_nameAt_21 : decode cX8_nameAt 21 = .ok (.aload_n 0, 1) := by decide +kernel
theorem dX8_nameAt_22 : decode cX8_nameAt 22 = .ok (.getfield 30, 3) := by decide +kernel
theorem dX8_nameAt_25 : decode cX8_nameAt 25 = .ok (.iload_n 1, 1) := by decide +kernel
theorem dX8_nameAt_26 : decode cX8_nameAt 26 = .ok (.laload, 1) := by decide +kernel
theorem dX8_nameAt_27 : decode cX8_nameAt 27 = .ok (.goto 4, 3) := by decide +kernel
theorem dX8_nameAt_30 : decode cX8_nameAt 30 = .ok (.lconst 0, 1) := by decide +kernel
theorem dX8_nameAt_31 : decode cX8_nameAt 31 = .ok (.lreturn, 1) := by decide +kernel
theorem dX8_worthAt_0 : decode cX8_worthAt 0 = .ok (.iload_n 1, 1) := by decide +kernel
theorem dX8_worthAt_1 : decode cX8_worthAt 1 = .ok (.ifCond .lt 30, 3) := by decide +kernel
theorem dX8_worthAt_4 : decode cX8_worthAt 4 = .ok (.iload_n 1, 1) := by decide +kernel
theorem dX8_worthAt_5 : decode cX8_worthAt 5 = .ok (.aload_n 0, 1) := by decide +kernel
theorem dX8_worthAt_6 : decode cX8_worthAt 6 = .ok (.getfield 38, 3) := by decide +kernel
theorem dX8_worthAt_9 : decode cX8_worthAt 9 = .ok (.if_icmp .ge 22, 3) := by decide +kernel
theorem dX8_worthAt_12 : decode cX8_worthAt 12 = .ok (.iload_n 1, 1) := by decide +kernel
theorem dX8_worthAt_13 : decode cX8_worthAt 13 = .ok (.aload_n 0, 1) := by decide +kernel
theorem dX8_worthAt_14 : decode cX8_worthAt 14 = .ok (.getfield 30, 3) := by decide +kernel
theorem dX8_worthAt_17 : decode cX8_worthAt 17 = .ok (.arraylength, 1) := by decide +kernel
theorem dX8_worthAt_18 : decode cX8_worthAt 18 = .ok (.if_icmp .ge 13, 3) := by decide +kernel
theorem dX8_worthAt_21 : decode cX8_worthAt 21 = .ok (.aload_n 0, 1) := by decide +kernel
theorem dX8_worthAt_22 : decode cX8_worthAt 22 = .ok (.getfield 30, 3) := by decide +kernel
theorem dX8_worthAt_25 : decode cX8_worthAt 25 = .ok (.iload_n 1, 1) := by decide +kernel
theorem dX8_worthAt_26 : decode cX8_worthAt 26 = .ok (.laload, 1) := by decide +kernel
theorem dX8_worthAt_27 : decode cX8_worthAt 27 = .ok (.l2i, 1) := by decide +kernel
theorem dX8_worthAt_28 : decode cX8_worthAt 28 = .ok (.goto 5, 3) := by decide +kernel
theorem dX8_worthAt_31 : decode cX8_worthAt 31 = .ok (.ldc 68, 2) := by decide +kernel
theorem dX8_worthAt_33 : decode cX8_worthAt 33 = .ok (.ireturn, 1) := by decide +kernel
theorem dX8_isAt_0 : decode cX8_isAt 0 = .ok (.aload_n 0, 1) := by decide +kernel
theorem dX8_isAt_1 : decode cX8_isAt 1 = .ok (.iload_n 1, 1) := by decide +kernel
theorem dX8_isAt_2 : decode cX8_isAt 2 = .ok (.invokevirtual 69, 3) := by decide +kernel
theorem dX8_isAt_5 : decode cX8_isAt 5 = .ok (.istore_n 3, 1) := by decide +kernel
theorem dX8_isAt_6 : decode cX8_isAt 6 = .ok (.aload_n 0, 1) := by decide +kernel
theorem dX8_isAt_7 : decode cX8_isAt 7 = .ok (.getfield 14, 3) := by decide +kernel
theorem dX8_isAt_10 : decode cX8_isAt 10 = .ok (.iload_n 3, 1) := by decide +kernel
theorem dX8_isAt_11 : decode cX8_isAt 11 = .ok (.iload_n 3, 1) := by decide +kernel
theorem dX8_isAt_12 : decode cX8_isAt 12 = .ok (.aload_n 0, 1) := by decide +kernel
theorem dX8_isAt_13 : decode cX8_isAt 13 = .ok (.iload_n 1, 1) := by decide +kernel
theorem dX8_isAt_14 : decode cX8_isAt 14 = .ok (.invokevirtual 72, 3) := by decide +kernel
theorem dX8_isAt_17 : decode cX8_isAt 17 = .ok (.iadd, 1) := by decide +kernel
theorem dX8_isAt_18 : decode cX8_isAt 18 = .ok (.aload_n 2, 1) := by decide +kernel
theorem dX8_isAt_19 : decode cX8_isAt 19 = .ok (.invokevirtual 75, 3) := by decide +kernel
theorem dX8_isAt_22 : decode cX8_isAt 22 = .ok (.ireturn, 1) := by decide +kernel
theorem dX8_add_0 : decode cX8_add 0 = .ok (.aload_n 0, 1) := by decide +kernel
theorem dX8_add_1 : decode cX8_add 1 = .ok (.getfield 38, 3) := by decide +kernel
theorem dX8_add_4 : decode cX8_add 4 = .ok (.ifCond .lt 102, 3) := by decide +kernel
theorem dX8_add_7 : decode cX8_add 7 = .ok (.aload_n 0, 1) := by decide +kernel
theorem dX8_add_8 : decode cX8_add 8 = .ok (.getfield 38, 3) := by decide +kernel
theorem dX8_add_11 : decode cX8_add 11 = .ok (.aload_n 0, 1) := by decide +kernel
theorem dX8_add_12 : decode cX8_add 12 = .ok (.getfield 20, 3) := by decide +kernel
theorem dX8_add_15 : decode cX8_add 15 = .ok (.arraylength, 1) := by decide +kernel
theorem dX8_add_16 : decode cX8_add 16 = .ok (.if_icmp .ge 90, 3) := by decide +kernel
theorem dX8_add_19 : decode cX8_add 19 = .ok (.aload_n 0, 1) := by decide +kernel
theorem dX8_add_20 : decode cX8_add 20 = .ok (.getfield 38, 3) := by decide +kernel
theorem dX8_add_23 : decode cX8_add 23 = .ok (.aload_n 0, 1) := by decide +kernel
theorem dX8_add_24 : decode cX8_add 24 = .ok (.getfield 24, 3) := by decide +kernel
theorem dX8_add_27 : decode cX8_add 27 = .ok (.arraylength, 1) := by decide +kernel
theorem dX8_add_28 : decode cX8_add 28 = .ok (.if_icmp .ge 78, 3) := by decide +kernel
theorem dX8_add_31 : decode cX8_add 31 = .ok (.aload_n 0, 1) := by decide +kernel
theorem dX8_add_32 : decode cX8_add 32 = .ok (.getfield 38, 3) := by decide +kernel
theorem dX8_add_35 : decode cX8_add 35 = .ok (.aload_n 0, 1) := by decide +kernel
theorem dX8_add_36 : decode cX8_add 36 = .ok (.getfield 27, 3) := by decide +kernel
theorem dX8_add_39 : decode cX8_add 39 = .ok (.arraylength, 1) := by decide +kernel
theorem dX8_add_40 : decode cX8_add 40 = .ok (.if_icmp .ge 66, 3) := by decide +kernel
theorem dX8_add_43 : decode cX8_add 43 = .ok (.aload_n 0, 1) := by decide +kernel
theorem dX8_add_44 : decode cX8_add 44 = .ok (.getfield 38, 3) := by decide +kernel
theorem dX8_add_47 : decode cX8_add 47 = .ok (.aload_n 0, 1) := by decide +kernel
theorem dX8_add_48 : decode cX8_add 48 = .ok (.getfield 30, 3) := by decide +kernel
theorem dX8_add_51 : decode cX8_add 51 = .ok (.arraylength, 1) := by decide +kernel
theorem dX8_add_52 : decode cX8_add 52 = .ok (.if_icmp .ge 54, 3) := by decide +kernel
theorem dX8_add_55 : decode cX8_add 55 = .ok (.aload_n 0, 1) := by decide +kernel
theorem dX8_add_56 : decode cX8_add 56 = .ok (.getfield 20, 3) := by decide +kernel
theorem dX8_add_59 : decode cX8_add 59 = .ok (.aload_n 0, 1) := by decide +kernel
theorem dX8_add_60 : decode cX8_add 60 = .ok (.getfield 38, 3) := by decide +kernel
theorem dX8_add_63 : decode cX8_add 63 = .ok (.iload_n 1, 1) := by decide +kernel
theorem dX8_add_64 : decode cX8_add 64 = .ok (.iastore, 1) := by decide +kernel
theorem dX8_add_65 : decode cX8_add 65 = .ok (.aload_n 0, 1) := by decide +kernel
theorem dX8_add_66 : decode cX8_add 66 = .ok (.getfield 24, 3) := by decide +kernel
theorem dX8_add_69 : decode cX8_add 69 = .ok (.aload_n 0, 1) := by decide +kernel
theorem dX8_add_70 : decode cX8_add 70 = .ok (.getfield 38, 3) := by decide +kernel
theorem dX8_add_73 : decode cX8_add 73 = .ok (.iload_n 2, 1) := by decide +kernel
theorem dX8_add_74 : decode cX8_add 74 = .ok (.iastore, 1) := by decide +kernel
theorem dX8_add_75 : decode cX8_add 75 = .ok (.aload_n 0, 1) := by decide +kernel
theorem dX8_add_76 : decode cX8_add 76 = .ok (.getfield 27, 3) := by decide +kernel
theorem dX8_add_79 : decode cX8_add 79 = .ok (.aload_n 0, 1) := by decide +kernel
theorem dX8_add_80 : decode cX8_add 80 = .ok (.getfield 38, 3) := by decide +kernel
theorem dX8_add_83 : decode cX8_add 83 = .ok (.iload_n 3, 1) := by decide +kernel
theorem dX8_add_84 : decode cX8_add 84 = .ok (.iastore, 1) := by decide +kernel
theorem dX8_add_85 : decode cX8_add 85 = .ok (.aload_n 0, 1) := by decide +kernel
theorem dX8_add_86 : decode cX8_add 86 = .ok (.getfield 30, 3) := by decide +kernel
theorem dX8_add_89 : decode cX8_add 89 = .ok (.aload_n 0, 1) := by decide +kernel
theorem dX8_add_90 : decode cX8_add 90 = .ok (.getfield 38, 3) := by decide +kernel
theorem dX8_add_93 : decode cX8_add 93 = .ok (.lload 4, 2) := by decide +kernel
theorem dX8_add_95 : decode cX8_add 95 = .ok (.lastore, 1) := by decide +kernel
theorem dX8_add_96 : decode cX8_add 96 = .ok (.aload_n 0, 1) := by decide +kernel
theorem dX8_add_97 : decode cX8_add 97 = .ok (.dup, 1) := by decide +kernel
theorem dX8_add_98 : decode cX8_add 98 = .ok (.getfield 38, 3) := by decide +kernel
theorem dX8_add_101 : decode cX8_add 101 = .ok (.iconst 1, 1) := by decide +kernel
theorem dX8_add_102 : decode cX8_add 102 = .ok (.iadd, 1) := by decide +kernel
theorem dX8_add_103 : decode cX8_add 103 = .ok (.putfield 38, 3) := by decide +kernel
theorem dX8_add_106 : decode cX8_add 106 = .ok (.return_, 1) := by decide +kernel
theorem dX8_meaningOf_0 : decode cX8_meaningOf 0 = .ok (.iload_n 1, 1) := by decide +kernel
theorem dX8_meaningOf_1 : decode cX8_meaningOf 1 = .ok (.bipush 97, 2) := by decide +kernel
theorem dX8_meaningOf_3 : decode cX8_meaningOf 3 = .ok (.if_icmp .ne 13, 3) := by decide +kernel
theorem dX8_meaningOf_6 : decode cX8_meaningOf 6 = .ok (.aload_n 0, 1) := by decide +kernel
theorem dX8_meaningOf_7 : decode cX8_meaningOf 7 = .ok (.getfield 14, 3) := by decide +kernel
theorem dX8_meaningOf_10 : decode cX8_meaningOf 10 = .ok (.iload_n 2, 1) := by decide +kernel
theorem dX8_meaningOf_11 : decode cX8_meaningOf 11 = .ok (.iload_n 3, 1) := by decide +kernel
theorem dX8_meaningOf_12 : decode cX8_meaningOf 12 = .ok (.invokevirtual 79, 3) := by decide +kernel
theorem dX8_meaningOf_15 : decode cX8_meaningOf 15 = .ok (.lreturn, 1) := by decide +kernel
theorem dX8_meaningOf_16 : decode cX8_meaningOf 16 = .ok (.iload_n 1, 1) := by decide +kernel
theorem dX8_meaningOf_17 : decode cX8_meaningOf 17 = .ok (.bipush 48, 2) := by decide +kernel
theorem dX8_meaningOf_19 : decode cX8_meaningOf 19 = .ok (.if_icmp .ne 11, 3) := by decide +kernel
theorem dX8_meaningOf_22 : decode cX8_meaningOf 22 = .ok (.aload_n 0, 1) := by decide +kernel
theorem dX8_meaningOf_23 : decode cX8_meaningOf 23 = .ok (.iload_n 2, 1) := by decide +kernel
theorem dX8_meaningOf_24 : decode cX8_meaningOf 24 = .ok (.iload_n 3, 1) := by decide +kernel
theorem dX8_meaningOf_25 : decode cX8_meaningOf 25 = .ok (.invokevirtual 83, 3) := by decide +kernel
theorem dX8_meaningOf_28 : decode cX8_meaningOf 28 = .ok (.i2l, 1) := by decide +kernel
theorem dX8_meaningOf_29 : decode cX8_meaningOf 29 = .ok (.lreturn, 1) := by decide +kernel
theorem dX8_meaningOf_30 : decode cX8_meaningOf 30 = .ok (.iload_n 1, 1) := by decide +kernel
theorem dX8_meaningOf_31 : decode cX8_meaningOf 31 = .ok (.bipush 65, 2) := by decide +kernel
theorem dX8_meaningOf_33 : decode cX8_meaningOf 33 = .ok (.if_icmp .ne 13, 3) := by decide +kernel
theorem dX8_meaningOf_36 : decode cX8_meaningOf 36 = .ok (.aload_n 0, 1) := by decide +kernel
theorem dX8_meaningOf_37 : decode cX8_meaningOf 37 = .ok (.iload_n 2, 1) := by decide +kernel
theorem dX8_meaningOf_38 : decode cX8_meaningOf 38 = .ok (.iload_n 3, 1) := by decide +kernel
theorem dX8_meaningOf_39 : decode cX8_meaningOf 39 = .ok (.invokevirtual 86, 3) := by decide +kernel
theorem dX8_meaningOf_42 : decode cX8_meaningOf 42 = .ok (.i2l, 1) := by decide +kernel
theorem dX8_meaningOf_43 : decode cX8_meaningOf 43 = .ok (.goto 4, 3) := by decide +kernel
theorem dX8_meaningOf_46 : decode cX8_meaningOf 46 = .ok (.lconst 0, 1) := by decide +kernel
theorem dX8_meaningOf_47 : decode cX8_meaningOf 47 = .ok (.lreturn, 1) := by decide +kernel
theorem dX8_numberOf_0 : decode cX8_numberOf 0 = .ok (.iconst 0, 1) := by decide +kernel
theorem dX8_numberOf_1 : decode cX8_numberOf 1 = .ok (.istore_n 3, 1) := by decide +kernel
theorem dX8_numberOf_2 : decode cX8_numberOf 2 = .ok (.iload_n 1, 1) := by decide +kernel
theorem dX8_numberOf_3 : decode cX8_numberOf 3 = .ok (.istore 4, 2) := by decide +kernel
theorem dX8_numberOf_5 : decode cX8_numberOf 5 = .ok (.iload 4, 2) := by decide +kernel
theorem dX8_numberOf_7 : decode cX8_numberOf 7 = .ok (.iload_n 2, 1) := by decide +kernel
theorem dX8_numberOf_8 : decode cX8_numberOf 8 = .ok (.if_icmp .ge 32, 3) := by decide +kernel
theorem dX8_numberOf_11 : decode cX8_numberOf 11 = .ok (.bipush 10, 2) := by decide +kernel
theorem dX8_numberOf_13 : decode cX8_numberOf 13 = .ok (.iload_n 3, 1) := by decide +kernel
theorem dX8_numberOf_14 : decode cX8_numberOf 14 = .ok (.imul, 1) := by decide +kernel
theorem dX8_numberOf_15 : decode cX8_numberOf 15 = .ok (.aload_n 0, 1) := by decide +kernel
theorem dX8_numberOf_16 : decode cX8_numberOf 16 = .ok (.getfield 14, 3) := by decide +kernel
theorem dX8_numberOf_19 : decode cX8_numberOf 19 = .ok (.iload 4, 2) := by decide +kernel
theorem dX8_numberOf_21 : decode cX8_numberOf 21 = .ok (.invokevirtual 46, 3) := by decide +kernel
theorem dX8_numberOf_24 : decode cX8_numberOf 24 = .ok (.iadd, 1) := by decide +kernel
theorem dX8_numberOf_25 : decode cX8_numberOf 25 = .ok (.bipush 48, 2) := by decide +kernel
theorem dX8_numberOf_27 : decode cX8_numberOf 27 = .ok (.isub, 1) := by decide +kernel
theorem dX8_numberOf_28 : decode cX8_numberOf 28 = .ok (.ldc 68, 2) := by decide +kernel
theorem dX8_numberOf_30 : decode cX8_numberOf 30 = .ok (.invokestatic 89, 3) := by decide +kernel
theorem dX8_numberOf_33 : decode cX8_numberOf 33 = .ok (.istore_n 3, 1) := by decide +kernel
theorem dX8_numberOf_34 : decode cX8_numberOf 34 = .ok (.iinc 4 1, 3) := by decide +kernel
theorem dX8_numberOf_37 : decode cX8_numberOf 37 = .ok (.goto (-32), 3) := by decide +kernel
theorem dX8_numberOf_40 : decode cX8_numberOf 40 = .ok (.iload_n 3, 1) := by decide +kernel
theorem dX8_numberOf_41 : decode cX8_numberOf 41 = .ok (.ireturn, 1) := by decide +kernel
theorem dX8_worthOfWord_0 : decode cX8_worthOfWord 0 = .ok (.getstatic 94, 3) := by decide +kernel
theorem dX8_worthOfWord_3 : decode cX8_worthOfWord 3 = .ok (.astore_n 3, 1) := by decide +kernel
theorem dX8_worthOfWord_4 : decode cX8_worthOfWord 4 = .ok (.aload_n 3, 1) := by decide +kernel
theorem dX8_worthOfWord_5 : decode cX8_worthOfWord 5 = .ok (.arraylength, 1) := by decide +kernel
theorem dX8_worthOfWord_6 : decode cX8_worthOfWord 6 = .ok (.istore 4, 2) := by decide +kernel
theorem dX8_worthOfWord_8 : decode cX8_worthOfWord 8 = .ok (.iconst 0, 1) := by decide +kernel
theorem dX8_worthOfWord_9 : decode cX8_worthOfWord 9 = .ok (.istore 5, 2) := by decide +kernel
theorem dX8_worthOfWord_11 : decode cX8_worthOfWord 11 = .ok (.iload 5, 2) := by decide +kernel
theorem dX8_worthOfWord_13 : decode cX8_worthOfWord 13 = .ok (.iload 4, 2) := by decide +kernel
theorem dX8_worthOfWord_15 : decode cX8_worthOfWord 15 = .ok (.if_icmp .ge 38, 3) := by decide +kernel
theorem dX8_worthOfWord_18 : decode cX8_worthOfWord 18 = .ok (.aload_n 3, 1) := by decide +kernel
theorem dX8_worthOfWord_19 : decode cX8_worthOfWord 19 = .ok (.iload 5, 2) := by decide +kernel
theorem dX8_worthOfWord_21 : decode cX8_worthOfWord 21 = .ok (.aaload, 1) := by decide +kernel
theorem dX8_worthOfWord_22 : decode cX8_worthOfWord 22 = .ok (.astore 6, 2) := by decide +kernel
theorem dX8_worthOfWord_24 : decode cX8_worthOfWord 24 = .ok (.aload_n 0, 1) := by decide +kernel
theorem dX8_worthOfWord_25 : decode cX8_worthOfWord 25 = .ok (.getfield 14, 3) := by decide +kernel
theorem dX8_worthOfWord_28 : decode cX8_worthOfWord 28 = .ok (.iload_n 1, 1) := by decide +kernel
theorem dX8_worthOfWord_29 : decode cX8_worthOfWord 29 = .ok (.iload_n 2, 1) := by decide +kernel
theorem dX8_worthOfWord_30 : decode cX8_worthOfWord 30 = .ok (.aload 6, 2) := by decide +kernel
theorem dX8_worthOfWord_32 : decode cX8_worthOfWord 32 = .ok (.getfield 98, 3) := by decide +kernel
theorem dX8_worthOfWord_35 : decode cX8_worthOfWord 35 = .ok (.invokevirtual 75, 3) := by decide +kernel
theorem dX8_worthOfWord_38 : decode cX8_worthOfWord 38 = .ok (.ifCond .eq 9, 3) := by decide +kernel
theorem dX8_worthOfWord_41 : decode cX8_worthOfWord 41 = .ok (.aload 6, 2) := by decide +kernel
theorem dX8_worthOfWord_43 : decode cX8_worthOfWord 43 = .ok (.getfield 104, 3) := by decide +kernel
theorem dX8_worthOfWord_46 : decode cX8_worthOfWord 46 = .ok (.ireturn, 1) := by decide +kernel
theorem dX8_worthOfWord_47 : decode cX8_worthOfWord 47 = .ok (.iinc 5 1, 3) := by decide +kernel
theorem dX8_worthOfWord_50 : decode cX8_worthOfWord 50 = .ok (.goto (-39), 3) := by decide +kernel
theorem dX8_worthOfWord_53 : decode cX8_worthOfWord 53 = .ok (.ldc 68, 2) := by decide +kernel
theorem dX8_worthOfWord_55 : decode cX8_worthOfWord 55 = .ok (.ireturn, 1) := by decide +kernel
theorem dX8_endOfRemark_0 : decode cX8_endOfRemark 0 = .ok (.iload_n 1, 1) := by decide +kernel
theorem dX8_endOfRemark_1 : decode cX8_endOfRemark 1 = .ok (.istore_n 2, 1) := by decide +kernel
theorem dX8_endOfRemark_2 : decode cX8_endOfRemark 2 = .ok (.iload_n 2, 1) := by decide +kernel
theorem dX8_endOfRemark_3 : decode cX8_endOfRemark 3 = .ok (.aload_n 0, 1) := by decide +kernel
theorem dX8_endOfRemark_4 : decode cX8_endOfRemark 4 = .ok (.getfield 14, 3) := by decide +kernel
theorem dX8_endOfRemark_7 : decode cX8_endOfRemark 7 = .ok (.invokevirtual 42, 3) := by decide +kernel
theorem dX8_endOfRemark_10 : decode cX8_endOfRemark 10 = .ok (.if_icmp .ge 22, 3) := by decide +kernel
theorem dX8_endOfRemark_13 : decode cX8_endOfRemark 13 = .ok (.aload_n 0, 1) := by decide +kernel
theorem dX8_endOfRemark_14 : decode cX8_endOfRemark 14 = .ok (.getfield 14, 3) := by decide +kernel
theorem dX8_endOfRemark_17 : decode cX8_endOfRemark 17 = .ok (.iload_n 2, 1) := by decide +kernel
theorem dX8_endOfRemark_18 : decode cX8_endOfRemark 18 = .ok (.invokevirtual 46, 3) := by decide +kernel
theorem dX8_endOfRemark_21 : decode cX8_endOfRemark 21 = .ok (.bipush 10, 2) := by decide +kernel
theorem dX8_endOfRemark_23 : decode cX8_endOfRemark 23 = .ok (.if_icmp .eq 9, 3) := by decide +kernel
theorem dX8_endOfRemark_26 : decode cX8_endOfRemark 26 = .ok (.iinc 2 1, 3) := by decide +kernel
theorem dX8_endOfRemark_29 : decode cX8_endOfRemark 29 = .ok (.goto (-27), 3) := by decide +kernel
theorem dX8_endOfRemark_32 : decode cX8_endOfRemark 32 = .ok (.iload_n 2, 1) := by decide +kernel
theorem dX8_endOfRemark_33 : decode cX8_endOfRemark 33 = .ok (.ireturn, 1) := by decide +kernel
theorem dX8_endOfToken_0 : decode cX8_endOfToken 0 = .ok (.iload_n 2, 1) := by decide +kernel
theorem dX8_endOfToken_1 : decode cX8_endOfToken 1 = .ok (.iconst 1, 1) := by decide +kernel
theorem dX8_endOfToken_2 : decode cX8_endOfToken 2 = .ok (.iadd, 1) := by decide +kernel
theorem dX8_endOfToken_3 : decode cX8_endOfToken 3 = .ok (.istore_n 3, 1) := by decide +kernel
theorem dX8_endOfToken_4 : decode cX8_endOfToken 4 = .ok (.iload_n 3, 1) := by decide +kernel
theorem dX8_endOfToken_5 : decode cX8_endOfToken 5 = .ok (.aload_n 0, 1) := by decide +kernel
theorem dX8_endOfToken_6 : decode cX8_endOfToken 6 = .ok (.getfield 14, 3) := by decide +kernel
theorem dX8_endOfToken_9 : decode cX8_endOfToken 9 = .ok (.invokevirtual 42, 3) := by decide +kernel
theorem dX8_endOfToken_12 : decode cX8_endOfToken 12 = .ok (.if_icmp .ge 24, 3) := by decide +kernel
theorem dX8_endOfToken_15 : decode cX8_endOfToken 15 = .ok (.iload_n 1, 1) := by decide +kernel
theorem dX8_endOfToken_16 : decode cX8_endOfToken 16 = .ok (.aload_n 0, 1) := by decide +kernel
theorem dX8_endOfToken_17 : decode cX8_endOfToken 17 = .ok (.getfield 14, 3) := by decide +kernel
theorem dX8_endOfToken_20 : decode cX8_endOfToken 20 = .ok (.iload_n 3, 1) := by decide +kernel
theorem dX8_endOfToken_21 : decode cX8_endOfToken 21 = .ok (.invokevirtual 46, 3) := by decide +kernel
theorem dX8_endOfToken_24 : decode cX8_endOfToken 24 = .ok (.invokestatic 107, 3) := by decide +kernel
theorem dX8_endOfToken_27 : decode cX8_endOfToken 27 = .ok (.ifCond .eq 9, 3) := by decide +kernel
theorem dX8_endOfToken_30 : decode cX8_endOfToken 30 = .ok (.iinc 3 1, 3) := by decide +kernel
theorem dX8_endOfToken_33 : decode cX8_endOfToken 33 = .ok (.goto (-29), 3) := by decide +kernel
theorem dX8_endOfToken_36 : decode cX8_endOfToken 36 = .ok (.iload_n 3, 1) := by decide +kernel
theorem dX8_endOfToken_37 : decode cX8_endOfToken 37 = .ok (.ireturn, 1) := by decide +kernel
theorem dX8_goesOn_0 : decode cX8_goesOn 0 = .ok (.iload_n 0, 1) := by decide +kernel
theorem dX8_goesOn_1 : decode cX8_goesOn 1 = .ok (.bipush 97, 2) := by decide +kernel
theorem dX8_goesOn_3 : decode cX8_goesOn 3 = .ok (.if_icmp .ne 10, 3) := by decide +kernel
theorem dX8_goesOn_6 : decode cX8_goesOn 6 = .ok (.iload_n 1, 1) := by decide +kernel
theorem dX8_goesOn_7 : decode cX8_goesOn 7 = .ok (.invokestatic 111, 3) := by decide +kernel
theorem dX8_goesOn_10 : decode cX8_goesOn 10 = .ok (.ifCond .ne 29, 3) := by decide +kernel
theorem dX8_goesOn_13 : decode cX8_goesOn 13 = .ok (.iload_n 0, 1) := by decide +kernel
theorem dX8_goesOn_14 : decode cX8_goesOn 14 = .ok (.bipush 65, 2) := by decide +kernel
theorem dX8_goesOn_16 : decode cX8_goesOn 16 = .ok (.if_icmp .ne 10, 3) := by decide +kernel
theorem dX8_goesOn_19 : decode cX8_goesOn 19 = .ok (.iload_n 1, 1) := by decide +kernel
theorem dX8_goesOn_20 : decode cX8_goesOn 20 = .ok (.invokestatic 115, 3) := by decide +kernel
theorem dX8_goesOn_23 : decode cX8_goesOn 23 = .ok (.ifCond .ne 16, 3) := by decide +kernel
theorem dX8_goesOn_26 : decode cX8_goesOn 26 = .ok (.iload_n 0, 1) := by decide +kernel
theorem dX8_goesOn_27 : decode cX8_goesOn 27 = .ok (.bipush 48, 2) := by decide +kernel
theorem dX8_goesOn_29 : decode cX8_goesOn 29 = .ok (.if_icmp .ne 14, 3) := by decide +kernel
theorem dX8_goesOn_32 : decode cX8_goesOn 32 = .ok (.iload_n 1, 1) := by decide +kernel
theorem dX8_goesOn_33 : decode cX8_goesOn 33 = .ok (.invokestatic 118, 3) := by decide +kernel
theorem dX8_goesOn_36 : decode cX8_goesOn 36 = .ok (.ifCond .eq 7, 3) := by decide +kernel
theorem dX8_goesOn_39 : decode cX8_goesOn 39 = .ok (.iconst 1, 1) := by decide +kernel
theorem dX8_goesOn_40 : decode cX8_goesOn 40 = .ok (.goto 4, 3) := by decide +kernel
theorem dX8_goesOn_43 : decode cX8_goesOn 43 = .ok (.iconst 0, 1) := by decide +kernel
theorem dX8_goesOn_44 : decode cX8_goesOn 44 = .ok (.ireturn, 1) := by decide +kernel
theorem dX8_sortOf_0 : decode cX8_sortOf 0 = .ok (.iload_n 0, 1) := by decide +kernel
theorem dX8_sortOf_1 : decode cX8_sortOf 1 = .ok (.invokestatic 121, 3) := by decide +kernel
theorem dX8_sortOf_4 : decode cX8_sortOf 4 = .ok (.ifCond .eq 6, 3) := by decide +kernel
theorem dX8_sortOf_7 : decode cX8_sortOf 7 = .ok (.bipush 97, 2) := by decide +kernel
theorem dX8_sortOf_9 : decode cX8_sortOf 9 = .ok (.ireturn, 1) := by decide +kernel
theorem dX8_sortOf_10 : decode cX8_sortOf 10 = .ok (.iload_n 0, 1) := by decide +kernel
theorem dX8_sortOf_11 : decode cX8_sortOf 11 = .ok (.invokestatic 115, 3) := by decide +kernel
theorem dX8_sortOf_14 : decode cX8_sortOf 14 = .ok (.ifCond .eq 6, 3) := by decide +kernel
theorem dX8_sortOf_17 : decode cX8_sortOf 17 = .ok (.bipush 65, 2) := by decide +kernel
theorem dX8_sortOf_19 : decode cX8_sortOf 19 = .ok (.ireturn, 1) := by decide +kernel
theorem dX8_sortOf_20 : decode cX8_sortOf 20 = .ok (.iload_n 0, 1) := by decide +kernel
theorem dX8_sortOf_21 : decode cX8_sortOf 21 = .ok (.invokestatic 118, 3) := by decide +kernel
theorem dX8_sortOf_24 : decode cX8_sortOf 24 = .ok (.ifCond .eq 6, 3) := by decide +kernel
theorem dX8_sortOf_27 : decode cX8_sortOf 27 = .ok (.bipush 48, 2) := by decide +kernel
theorem dX8_sortOf_29 : decode cX8_sortOf 29 = .ok (.ireturn, 1) := by decide +kernel
theorem dX8_sortOf_30 : decode cX8_sortOf 30 = .ok (.iload_n 0, 1) := by decide +kernel
theorem dX8_sortOf_31 : decode cX8_sortOf 31 = .ok (.bipush 10, 2) := by decide +kernel
theorem dX8_sortOf_33 : decode cX8_sortOf 33 = .ok (.if_icmp .ne 6, 3) := by decide +kernel
theorem dX8_sortOf_36 : decode cX8_sortOf 36 = .ok (.bipush 59, 2) := by decide +kernel
theorem dX8_sortOf_38 : decode cX8_sortOf 38 = .ok (.ireturn, 1) := by decide +kernel
theorem dX8_sortOf_39 : decode cX8_sortOf 39 = .ok (.iload_n 0, 1) := by decide +kernel
theorem dX8_sortOf_40 : decode cX8_sortOf 40 = .ok (.invokestatic 124, 3) := by decide +kernel
theorem dX8_sortOf_43 : decode cX8_sortOf 43 = .ok (.ifCond .eq 7, 3) := by decide +kernel
theorem dX8_sortOf_46 : decode cX8_sortOf 46 = .ok (.iload_n 0, 1) := by decide +kernel
theorem dX8_sortOf_47 : decode cX8_sortOf 47 = .ok (.goto 5, 3) := by decide +kernel
theorem dX8_sortOf_50 : decode cX8_sortOf 50 = .ok (.bipush 63, 2) := by decide +kernel
theorem dX8_sortOf_52 : decode cX8_sortOf 52 = .ok (.ireturn, 1) := by decide +kernel
theorem dX8_isSign_0 : decode cX8_isSign 0 = .ok (.iload_n 0, 1) := by decide +kernel
theorem dX8_isSign_1 : decode cX8_isSign 1 = .ok (.lookupswitch 117 #[(33, 115), (40, 115), (41, 115), (42, 115), (43, 115), (44, 115), (45, 115), (47, 115), (59, 115), (61, 115), (64, 115), (123, 115), (125, 115)], 115) := by decide +kernel
theorem dX8_isSign_116 : decode cX8_isSign 116 = .ok (.iconst 1, 1) := by decide +kernel
theorem dX8_isSign_117 : decode cX8_isSign 117 = .ok (.ireturn, 1) := by decide +kernel
theorem dX8_isSign_118 : decode cX8_isSign 118 = .ok (.iconst 0, 1) := by decide +kernel
theorem dX8_isSign_119 : decode cX8_isSign 119 = .ok (.ireturn, 1) := by decide +kernel
theorem dX9_init_0 : decode cX9_init 0 = .ok (.aload_n 0, 1) := by decide +kernel
theorem dX9_init_1 : decode cX9_init 1 = .ok (.invokespecial 3, 3) := by decide +kernel
theorem dX9_init_4 : decode cX9_init 4 = .ok (.aload_n 0, 1) := by decide +kernel
theorem dX9_init_5 : decode cX9_init 5 = .ok (.bipush 96, 2) := by decide +kernel
theorem dX9_init_7 : decode cX9_init 7 = .ok (.newarray .int, 2) := by decide +kernel
theorem dX9_init_9 : decode cX9_init 9 = .ok (.putfield 9, 3) := by decide +kernel
theorem dX9_init_12 : decode cX9_init 12 = .ok (.aload_n 0, 1) := by decide +kernel
theorem dX9_init_13 : decode cX9_init 13 = .ok (.bipush 96, 2) := by decide +kernel
theorem dX9_init_15 : decode cX9_init 15 = .ok (.newarray .int, 2) := by decide +kernel
theorem dX9_init_17 : decode cX9_init 17 = .ok (.putfield 15, 3) := by decide +kernel
theorem dX9_init_20 : decode cX9_init 20 = .ok (.aload_n 0, 1) := by decide +kernel
theorem dX9_init_21 : decode cX9_init 21 = .ok (.bipush 96, 2) := by decide +kernel
theorem dX9_init_23 : decode cX9_init 23 = .ok (.newarray .int, 2) := by decide +kernel
theorem dX9_init_25 : decode cX9_init 25 = .ok (.putfield 18, 3) := by decide +kernel
theorem dX9_init_28 : decode cX9_init 28 = .ok (.aload_n 0, 1) := by decide +kernel
theorem dX9_init_29 : decode cX9_init 29 = .ok (.bipush 96, 2) := by decide +kernel
theorem dX9_init_31 : decode cX9_init 31 = .ok (.newarray .int, 2) := by decide +kernel
theorem dX9_init_33 : decode cX9_init 33 = .ok (.putfield 21, 3) := by decide +kernel
theorem dX9_init_36 : decode cX9_init 36 = .ok (.aload_n 0, 1) := by decide +kernel
theorem dX9_init_37 : decode cX9_init 37 = .ok (.bipush 96, 2) := by decide +kernel
theorem dX9_init_39 : decode cX9_init 39 = .ok (.newarray .boolean, 2) := by decide +kernel
theorem dX9_init_41 : decode cX9_init 41 = .ok (.putfield 24, 3) := by decide +kernel
theorem dX9_init_44 : decode cX9_init 44 = .ok (.aload_n 0, 1) := by decide +kernel
theorem dX9_init_45 : decode cX9_init 45 = .ok (.bipush 96, 2) := by decide +kernel
theorem dX9_init_47 : decode cX9_init 47 = .ok (.newarray .int, 2) := by decide +kernel
theorem dX9_init_49 : decode cX9_init 49 = .ok (.putfield 28, 3) := by decide +kernel
theorem dX9_init_52 : decode cX9_init 52 = .ok (.aload_n 0, 1) := by decide +kernel
theorem dX9_init_53 : decode cX9_init 53 = .ok (.bipush 96, 2) := by decide +kernel
theorem dX9_init_55 : decode cX9_init 55 = .ok (.newarray .int, 2) := by decide +kernel
theorem dX9_init_57 : decode cX9_init 57 = .ok (.putfield 31, 3) := by decide +kernel
theorem dX9_init_60 : decode cX9_init 60 = .ok (.aload_n 0, 1) := by decide +kernel
theorem dX9_init_61 : decode cX9_init 61 = .ok (.aload_n 1, 1) := by decide +kernel
theorem dX9_init_62 : decode cX9_init 62 = .ok (.putfield 34, 3) := by decide +kernel
theorem dX9_init_65 : decode cX9_init 65 = .ok (.aload_n 0, 1) := by decide +kernel
theorem dX9_init_66 : decode cX9_init 66 = .ok (.aload_n 2, 1) := by decide +kernel
theorem dX9_init_67 : decode cX9_init 67 = .ok (.putfield 38, 3) := by decide +kernel
theorem dX9_init_70 : decode cX9_init 70 = .ok (.return_, 1) := by decide +kernel
theorem dX9_beginAt_0 : decode cX9_beginAt 0 = .ok (.aload_n 0, 1) := by decide +kernel
theorem dX9_beginAt_1 : decode cX9_beginAt 1 = .ok (.lload_n 1, 1) := by decide +kernel
theorem dX9_beginAt_2 : decode cX9_beginAt 2 = .ok (.putfield 42, 3) := by decide +kernel
theorem dX9_beginAt_5 : decode cX9_beginAt 5 = .ok (.aload_n 0, 1) := by decide +kernel
theorem dX9_beginAt_6 : decode cX9_beginAt 6 = .ok (.invokevirtual 46, 3) := by decide +kernel
theorem dX9_beginAt_9 : decode cX9_beginAt 9 = .ok (.return_, 1) := by decide +kernel
theorem dX9_forget_0 : decode cX9_forget 0 = .ok (.aload_n 0, 1) := by decide +kernel
theorem dX9_forget_1 : decode cX9_forget 1 = .ok (.iconst 0, 1) := by decide +kernel
theorem dX9_forget_2 : decode cX9_forget 2 = .ok (.putfield 49, 3) := by decide +kernel
theorem dX9_forget_5 : decode cX9_forget 5 = .ok (.aload_n 0, 1) := by decide +kernel
theorem dX9_forget_6 : decode cX9_forget 6 = .ok (.iconst 0, 1) := by decide +kernel
theorem dX9_forget_7 : decode cX9_forget 7 = .ok (.putfield 53, 3) := by decide +kernel
theorem dX9_forget_10 : decode cX9_forget 10 = .ok (.return_, 1) := by decide +kernel
theorem dX9_homeNode_0 : decode cX9_homeNode 0 = .ok (.aload_n 0, 1) := by decide +kernel
theorem dX9_homeNode_1 : decode cX9_homeNode 1 = .ok (.getfield 34, 3) := by decide +kernel
theorem dX9_homeNode_4 : decode cX9_homeNode 4 = .ok (.aload_n 0, 1) := by decide +kernel
theorem dX9_homeNode_5 : decode cX9_homeNode 5 = .ok (.getfield 42, 3) := by decide +kernel
theorem dX9_homeNode_8 : decode cX9_homeNode 8 = .ok (.iconst (-1), 1) := by decide +kernel
theorem dX9_homeNode_9 : decode cX9_homeNode 9 = .ok (.invokevirtual 56, 3) := by decide +kernel
theorem dX9_homeNode_12 : decode cX9_homeNode 12 = .ok (.ireturn, 1) := by decide +kernel
theorem dX9_costOfKey_0 : decode cX9_costOfKey 0 = .ok (.iload_n 1, 1) := by decide +kernel
theorem dX9_costOfKey_1 : decode cX9_costOfKey 1 = .ok (.ifCond .lt 18, 3) := by decide +kernel
theorem dX9_costOfKey_4 : decode cX9_costOfKey 4 = .ok (.iload_n 1, 1) := by decide +kernel
theorem dX9_costOfKey_5 : decode cX9_costOfKey 5 = .ok (.bipush 96, 2) := by decide +kernel
theorem dX9_costOfKey_7 : decode cX9_costOfKey 7 = .ok (.if_icmp .ge 12, 3) := by decide +kernel
theorem dX9_costOfKey_10 : decode cX9_costOfKey 10 = .ok (.aload_n 0, 1) := by decide +kernel
theorem dX9_costOfKey_11 : decode cX9_costOfKey 11 = .ok (.getfield 9, 3) := by decide +kernel
theorem dX9_costOfKey_14 : decode cX9_costOfKey 14 = .ok (.iload_n 1, 1) := by decide +kernel
theorem dX9_costOfKey_15 : decode cX9_costOfKey 15 = .ok (.iaload, 1) := by decide +kernel
theorem dX9_costOfKey_16 : decode cX9_costOfKey 16 = .ok (.goto 4, 3) := by decide +kernel
theorem dX9_costOfKey_19 : decode cX9_costOfKey 19 = .ok (.iconst (-1), 1) := by decide +kernel
theorem dX9_costOfKey_20 : decode cX9_costOfKey 20 = .ok (.ireturn, 1) := by decide +kernel
theorem dX9_lengthOfKey_0 : decode cX9_lengthOfKey 0 = .ok (.iload_n 1, 1) := by decide +kernel
theorem dX9_lengthOfKey_1 : decode cX9_lengthOfKey 1 = .ok (.ifCond .lt 18, 3) := by decide +kernel
theorem dX9_lengthOfKey_4 : decode cX9_lengthOfKey 4 = .ok (.iload_n 1, 1) := by decide +kernel
theorem dX9_lengthOfKey_5 : decode cX9_lengthOfKey 5 = .ok (.bipush 96, 2) := by decide +kernel
theorem dX9_lengthOfKey_7 : decode cX9_lengthOfKey 7 = .ok (.if_icmp .ge 12, 3) := by decide +kernel
theorem dX9_lengthOfKey_10 : decode cX9_lengthOfKey 10 = .ok (.aload_n 0, 1) := by decide +kernel
theorem dX9_lengthOfKey_11 : decode cX9_lengthOfKey 11 = .ok (.getfield 15, 3) := by decide +kernel
theorem dX9_lengthOfKey_14 : decode cX9_lengthOfKey 14 = .ok (.iload_n 1, 1) := by decide +kernel
theorem dX9_lengthOfKey_15 : decode cX9_lengthOfKey 15 = .ok (.iaload, 1) := by decide +kernel
theorem dX9_lengthOfKey_16 : decode cX9_lengthOfKey 16 = .ok (.goto 4, 3) := by decide +kernel
theorem dX9_lengthOfKey_19 : decode cX9_lengthOfKey 19 = .ok (.iconst (-1), 1) := by decide +kernel
theorem dX9_lengthOfKey_20 : decode cX9_lengthOfKey 20 = .ok (.ireturn, 1) := by decide +kernel
theorem dX9_kindOfKey_0 : decode cX9_kindOfKey 0 = .ok (.iload_n 1, 1) := by decide +kernel
theorem dX9_kindOfKey_1 : decode cX9_kindOfKey 1 = .ok (.ifCond .lt 18, 3) := by decide +kernel
theorem dX9_kindOfKey_4 : decode cX9_kindOfKey 4 = .ok (.iload_n 1, 1) := by decide +kernel
theorem dX9_kindOfKey_5 : decode cX9_kindOfKey 5 = .ok (.bipush 96, 2) := by decide +kernel
theorem dX9_kindOfKey_7 : decode cX9_kindOfKey 7 = .ok (.if_icmp .ge 12, 3) := by decide +kernel
theorem dX9_kindOfKey_10 : decode cX9_kindOfKey 10 = .ok (.aload_n 0, 1) := by decide +kernel
theorem dX9_kindOfKey_11 : decode cX9_kindOfKey 11 = .ok (.getfield 21, 3) := by decide +kernel
theorem dX9_kindOfKey_14 : decode cX9_kindOfKey 14 = .ok (.iload_n 1, 1) := by decide +kernel
theorem dX9_kindOfKey_15 : decode cX9_kindOfKey 15 = .ok (.iaload, 1) := by decide +kernel
theorem dX9_kindOfKey_16 : decode cX9_kindOfKey 16 = .ok (.goto 4, 3) := by decide +kernel
theorem dX9_kindOfKey_19 : decode cX9_kindOfKey 19 = .ok (.iconst (-1), 1) := by decide +kernel
theorem dX9_kindOfKey_20 : decode cX9_kindOfKey 20 = .ok (.ireturn, 1) := by decide +kernel
theorem dX9_keyOn_0 : decode cX9_keyOn 0 = .ok (.iload_n 1, 1) := by decide +kernel
theorem dX9_keyOn_1 : decode cX9_keyOn 1 = .ok (.ifCond .lt 18, 3) := by decide +kernel
theorem dX9_keyOn_4 : decode cX9_keyOn 4 = .ok (.iload_n 1, 1) := by decide +kernel
theorem dX9_keyOn_5 : decode cX9_keyOn 5 = .ok (.bipush 96, 2) := by decide +kernel
theorem dX9_keyOn_7 : decode cX9_keyOn 7 = .ok (.if_icmp .ge 12, 3) := by decide +kernel
theorem dX9_keyOn_10 : decode cX9_keyOn 10 = .ok (.aload_n 0, 1) := by decide +kernel
theorem dX9_keyOn_11 : decode cX9_keyOn 11 = .ok (.getfield 31, 3) := by decide +kernel
theorem dX9_keyOn_14 : decode cX9_keyOn 14 = .ok (.iload_n 1, 1) := by decide +kernel
theorem dX9_keyOn_15 : decode cX9_keyOn 15 = .ok (.iaload, 1) := by decide +kernel
theorem dX9_keyOn_16 : decode cX9_keyOn 16 = .ok (.goto 4, 3) := by decide +kernel
theorem dX9_keyOn_19 : decode cX9_keyOn 19 = .ok (.iconst (-1), 1) := by decide +kernel
theorem dX9_keyOn_20 : decode cX9_keyOn 20 = .ok (.ireturn, 1) := by decide +kernel
theorem dX9_routeKey_0 : decode cX9_routeKey 0 = .ok (.iload_n 1, 1) := by decide +kernel
theorem dX9_routeKey_1 : decode cX9_routeKey 1 = .ok (.ifCond .lt 9, 3) := by decide +kernel
theorem dX9_routeKey_4 : decode cX9_routeKey 4 = .ok (.iload_n 1, 1) := by decide +kernel
theorem dX9_routeKey_5 : decode cX9_routeKey 5 = .ok (.bipush 24, 2) := by decide +kernel
theorem dX9_routeKey_7 : decode cX9_routeKey 7 = .ok (.if_icmp .lt 5, 3) := by decide +kernel
theorem dX9_routeKey_10 : decode cX9_routeKey 10 = .ok (.iconst (-1), 1) := by decide +kernel
theorem dX9_routeKey_11 : decode cX9_routeKey 11 = .ok (.ireturn, 1) := by decide +kernel
theorem dX9_routeKey_12 : decode cX9_routeKey 12 = .ok (.iconst (-1), 1) := by decide +kernel
theorem dX9_routeKey_13 : decode cX9_routeKey 13 = .ok (.istore_n 2, 1) := by decide +kernel
theorem dX9_routeKey_14 : decode cX9_routeKey 14 = .ok (.iload_n 1, 1) := by decide +kernel
theorem dX9_routeKey_15 : decode cX9_routeKey 15 = .ok (.iconst 4, 1) := by decide +kernel
theorem dX9_routeKey_16 : decode cX9_routeKey 16 = .ok (.imul, 1) := by decide +kernel
theorem dX9_routeKey_17 : decode cX9_routeKey 17 = .ok (.istore_n 3, 1) := by decide +kernel
theorem dX9_routeKey_18 : decode cX9_routeKey 18 = .ok (.iload_n 3, 1) := by decide +kernel
theorem dX9_routeKey_19 : decode cX9_routeKey 19 = .ok (.iload_n 1, 1) := by decide +kernel
theorem dX9_routeKey_20 : decode cX9_routeKey 20 = .ok (.iconst 1, 1) := by decide +kernel
theorem dX9_routeKey_21 : decode cX9_routeKey 21 = .ok (.iadd, 1) := by decide +kernel
theorem dX9_routeKey_22 : decode cX9_routeKey 22 = .ok (.iconst 4, 1) := by decide +kernel
theorem dX9_routeKey_23 : decode cX9_routeKey 23 = .ok (.imul, 1) := by decide +kernel
theorem dX9_routeKey_24 : decode cX9_routeKey 24 = .ok (.if_icmp .ge 35, 3) := by decide +kernel
theorem dX9_routeKey_27 : decode cX9_routeKey 27 = .ok (.aload_n 0, 1) := by decide +kernel
theorem dX9_routeKey_28 : decode cX9_routeKey 28 = .ok (.getfield 9, 3) := by decide +kernel
theorem dX9_routeKey_31 : decode cX9_routeKey 31 = .ok (.iload_n 3, 1) := by decide +kernel
theorem dX9_routeKey_32 : decode cX9_routeKey 32 = .ok (.iaload, 1) := by decide +kernel
theorem dX9_routeKey_33 : decode cX9_routeKey 33 = .ok (.iconst (-1), 1) := by decide +kernel
theorem dX9_routeKey_34 : decode cX9_routeKey 34 = .ok (.if_icmp .eq 19, 3) := by decide +kernel
theorem dX9_routeKey_37 : decode cX9_routeKey 37 = .ok (.iload_n 2, 1) := by decide +kernel
theorem dX9_routeKey_38 : decode cX9_routeKey 38 = .ok (.iconst (-1), 1) := by decide +kernel
theorem dX9_routeKey_39 : decode cX9_routeKey 39 = .ok (.if_icmp .eq 12, 3) := by decide +kernel
theorem dX9_routeKey_42 : decode cX9_routeKey 42 = .ok (.aload_n 0, 1) := by decide +kernel
theorem dX9_routeKey_43 : decode cX9_routeKey 43 = .ok (.iload_n 3, 1) := by decide +kernel
theorem dX9_routeKey_44 : decode cX9_routeKey 44 = .ok (.iload_n 2, 1) := by decide +kernel
theorem dX9_routeKey_45 : decode cX9_routeKey 45 = .ok (.invokevirtual 62, 3) := by decide +kernel
theorem dX9_routeKey_48 : decode cX9_routeKey 48 = .ok (.ifCond .eq 5, 3) := by decide +kernel
theorem dX9_routeKey_51 : decode cX9_routeKey 51 = .ok (.iload_n 3, 1) := by decide +kernel
theorem dX9_routeKey_52 : decode cX9_routeKey 52 = .ok (.istore_n 2, 1) := by decide +kernel
theorem dX9_routeKey_53 : decode cX9_routeKey 53 = .ok (.iinc 3 1, 3) := by decide +kernel
theorem dX9_routeKey_56 : decode cX9_routeKey 56 = .ok (.goto (-38), 3) := by decide +kernel
theorem dX9_routeKey_59 : decode cX9_routeKey 59 = .ok (.iload_n 2, 1) := by decide +kernel
theorem dX9_routeKey_60 : decode cX9_routeKey 60 = .ok (.ireturn, 1) := by decide +kernel
theorem dX9_layOut_0 : decode cX9_layOut 0 = .ok (.aload_n 0, 1) := by decide +kernel
theorem dX9_layOut_1 : decode cX9_layOut 1 = .ok (.iload_n 1, 1) := by decide +kernel
theorem dX9_layOut_2 : decode cX9_layOut 2 = .ok (.invokevirtual 66, 3) := by decide +kernel
theorem dX9_layOut_5 : decode cX9_layOut 5 = .ok (.istore_n 2, 1) := by decide +kernel
theorem dX9_layOut_6 : decode cX9_layOut 6 = .ok (.aload_n 0, 1) := by decide +kernel
theorem dX9_layOut_7 : decode cX9_layOut 7 = .ok (.iload_n 2, 1) := by decide +kernel
theorem dX9_layOut_8 : decode cX9_layOut 8 = .ok (.invokevirtual 70, 3) := by decide +kernel
theorem dX9_layOut_11 : decode cX9_layOut 11 = .ok (.istore_n 3, 1) := by decide +kernel
theorem dX9_layOut_12 : decode cX9_layOut 12 = .ok (.iload_n 3, 1) := by decide +kernel
theorem dX9_layOut_13 : decode cX9_layOut 13 = .ok (.istore 4, 2) := by decide +kernel
theorem dX9_layOut_15 : decode cX9_layOut 15 = .ok (.iload 4, 2) := by decide +kernel
theorem dX9_layOut_17 : decode cX9_layOut 17 = .ok (.ifCond .lt 41, 3) := by decide +kernel
theorem dX9_layOut_20 : decode cX9_layOut 20 = .ok (.iload 4, 2) := by decide +kernel
theorem dX9_layOut_22 : decode cX9_layOut 22 = .ok (.bipush 96, 2) := by decide +kernel
theorem dX9_layOut_24 : decode cX9_layOut 24 = .ok (.if_icmp .ge 34, 3) := by decide +kernel
theorem dX9_layOut_27 : decode cX9_layOut 27 = .ok (.iload_n 2, 1) := by decide +kernel
theorem dX9_layOut_28 : decode cX9_layOut 28 = .ok (.ifCond .lt 30, 3) := by decide +kernel
theorem dX9_layOut_31 : decode cX9_layOut 31 = .ok (.iload_n 2, 1) := by decide +kernel
theorem dX9_layOut_32 : decode cX9_layOut 32 = .ok (.bipush 96, 2) := by decide +kernel
theorem dX9_layOut_34 : decode cX9_layOut 34 = .ok (.if_icmp .ge 24, 3) := by decide +kernel
theorem dX9_layOut_37 : decode cX9_layOut 37 = .ok (.aload_n 0, 1) := by decide +kernel
theorem dX9_layOut_38 : decode cX9_layOut 38 = .ok (.getfield 31, 3) := by decide +kernel
theorem dX9_layOut_41 : decode cX9_layOut 41 = .ok (.iload 4, 2) := by decide +kernel
theorem dX9_layOut_43 : decode cX9_layOut 43 = .ok (.iload_n 2, 1) := by decide +kernel
theorem dX9_layOut_44 : decode cX9_layOut 44 = .ok (.iastore, 1) := by decide +kernel
theorem dX9_layOut_45 : decode cX9_layOut 45 = .ok (.aload_n 0, 1) := by decide +kernel
theorem dX9_layOut_46 : decode cX9_layOut 46 = .ok (.getfield 18, 3) := by decide +kernel
theorem dX9_layOut_49 : decode cX9_layOut 49 = .ok (.iload_n 2, 1) := by decide +kernel
theorem dX9_layOut_50 : decode cX9_layOut 50 = .ok (.iaload, 1) := by decide +kernel
theorem dX9_layOut_51 : decode cX9_layOut 51 = .ok (.istore_n 2, 1) := by decide +kernel
theorem dX9_layOut_52 : decode cX9_layOut 52 = .ok (.iinc 4 (-1), 3) := by decide +kernel
theorem dX9_layOut_55 : decode cX9_layOut 55 = .ok (.goto (-40), 3) := by decide +kernel
theorem dX9_layOut_58 : decode cX9_layOut 58 = .ok (.iload_n 3, 1) := by decide +kernel
theorem dX9_layOut_59 : decode cX9_layOut 59 = .ok (.ireturn, 1) := by decide +kernel
theorem dX9_leastByRounds_0 : decode cX9_leastByRounds 0 = .ok (.iload_n 1, 1) := by decide +kernel
theorem dX9_leastByRounds_1 : decode cX9_leastByRounds 1 = .ok (.ifCond .lt 9, 3) := by decide +kernel
theorem dX9_leastByRounds_4 : decode cX9_leastByRounds 4 = .ok (.iload_n 1, 1) := by decide +kernel
theorem dX9_leastByRounds_5 : decode cX9_leastByRounds 5 = .ok (.bipush 24, 2) := by decide +kernel
theorem dX9_leastByRounds_7 : decode cX9_leastByRounds 7 = .ok (.if_icmp .lt 5, 3) := by decide +kernel
theorem dX9_leastByRounds_10 : decode cX9_leastByRounds 10 = .ok (.iconst (-1), 1) := by decide +kernel
theorem dX9_leastByRounds_11 : decode cX9_leastByRounds 11 = .ok (.ireturn, 1) := by decide +kernel
theorem dX9_leastByRounds_12 : decode cX9_leastByRounds 12 = .ok (.iconst (-1), 1) := by decide +kernel
theorem dX9_leastByRounds_13 : decode cX9_leastByRounds 13 = .ok (.istore_n 2, 1) := by decide +kernel
theorem dX9_leastByRounds_14 : decode cX9_leastByRounds 14 = .ok (.iload_n 1, 1) := by decide +kernel
theorem dX9_leastByRounds_15 : decode cX9_leastByRounds 15 = .ok (.iconst 4, 1) := by decide +kernel
theorem dX9_leastByRounds_16 : decode cX9_leastByRounds 16 = .ok (.imul, 1) := by decide +kernel
theorem dX9_leastByRounds_17 : decode cX9_leastByRounds 17 = .ok (.istore_n 3, 1) := by decide +kernel
theorem dX9_leastByRounds_18 : decode cX9_leastByRounds 18 = .ok (.iload_n 3, 1) := by decide +kernel
theorem dX9_leastByRounds_19 : decode cX9_leastByRounds 19 = .ok (.iload_n 1, 1) := by decide +kernel
theorem dX9_leastByRounds_20 : decode cX9_leastByRounds 20 = .ok (.iconst 1, 1) := by decide +kernel
theorem dX9_leastByRounds_21 : decode cX9_leastByRounds 21 = .ok (.iadd, 1) := by decide +kernel
theorem dX9_leastByRounds_22 : decode cX9_leastByRounds 22 = .ok (.iconst 4, 1) := by decide +kernel
theorem dX9_leastByRounds_23 : decode cX9_leastByRounds 23 = .ok (.imul, 1) := by decide +kernel
theorem dX9_leastByRounds_24 : decode cX9_leastByRounds 24 = .ok (.if_icmp .ge 41, 3) := by decide +kernel
theorem dX9_leastByRounds_27 : decode cX9_leastByRounds 27 = .ok (.aload_n 0, 1) := by decide +kernel
theorem dX9_leastByRounds_28 : decode cX9_leastByRounds 28 = .ok (.getfield 28, 3) := by decide +kernel
theorem dX9_leastByRounds_31 : decode cX9_leastByRounds 31 = .ok (.iload_n 3, 1) := by decide +kernel
theorem dX9_leastByRounds_32 : decode cX9_leastByRounds 32 = .ok (.iaload, 1) := by decide +kernel
theorem dX9_leastByRounds_33 : decode cX9_leastByRounds 33 = .ok (.iconst (-1), 1) := by decide +kernel
theorem dX9_leastByRounds_34 : decode cX9_leastByRounds 34 = .ok (.if_icmp .eq 25, 3) := by decide +kernel
theorem dX9_leastByRounds_37 : decode cX9_leastByRounds 37 = .ok (.iload_n 2, 1) := by decide +kernel
theorem dX9_leastByRounds_38 : decode cX9_leastByRounds 38 = .ok (.iconst (-1), 1) := by decide +kernel
theorem dX9_leastByRounds_39 : decode cX9_leastByRounds 39 = .ok (.if_icmp .eq 13, 3) := by decide +kernel
theorem dX9_leastByRounds_42 : decode cX9_leastByRounds 42 = .ok (.aload_n 0, 1) := by decide +kernel
theorem dX9_leastByRounds_43 : decode cX9_leastByRounds 43 = .ok (.getfield 28, 3) := by decide +kernel
theorem dX9_leastByRounds_46 : decode cX9_leastByRounds 46 = .ok (.iload_n 3, 1) := by decide +kernel
theorem dX9_leastByRounds_47 : decode cX9_leastByRounds 47 = .ok (.iaload, 1) := by decide +kernel
theorem dX9_leastByRounds_48 : decode cX9_leastByRounds 48 = .ok (.iload_n 2, 1) := by decide +kernel
theorem dX9_leastByRounds_49 : decode cX9_leastByRounds 49 = .ok (.if_icmp .ge 10, 3) := by decide +kernel
theorem dX9_leastByRounds_52 : decode cX9_leastByRounds 52 = .ok (.aload_n 0, 1) := by decide +kernel
theorem dX9_leastByRounds_53 : decode cX9_leastByRounds 53 = .ok (.getfield 28, 3) := by decide +kernel
theorem dX9_leastByRounds_56 : decode cX9_leastByRounds 56 = .ok (.iload_n 3, 1) := by decide +kernel
theorem dX9_leastByRounds_57 : decode cX9_leastByRounds 57 = .ok (.iaload, 1) := by decide +kernel
theorem dX9_leastByRounds_58 : decode cX9_leastByRounds 58 = .ok (.istore_n 2, 1) := by decide +kernel
theorem dX9_leastByRounds_59 : decode cX9_leastByRounds 59 = .ok (.iinc 3 1, 3) := by decide +kernel
theorem dX9_leastByRounds_62 : decode cX9_leastByRounds 62 = .ok (.goto (-44), 3) := by decide +kernel
theorem dX9_leastByRounds_65 : decode cX9_leastByRounds 65 = .ok (.iload_n 2, 1) := by decide +kernel
theorem dX9_leastByRounds_66 : decode cX9_leastByRounds 66 = .ok (.ireturn, 1) := by decide +kernel
theorem dX9_find_0 : decode cX9_find 0 = .ok (.aload_n 0, 1) := by decide +kernel
theorem dX9_find_1 : decode cX9_find 1 = .ok (.getfield 49, 3) := by decide +kernel
theorem dX9_find_4 : decode cX9_find 4 = .ok (.ifCond .eq 4, 3) := by decide +kernel
theorem dX9_find_7 : decode cX9_find 7 = .ok (.return_, 1) := by decide +kernel
theorem dX9_find_8 : decode cX9_find 8 = .ok (.aload_n 0, 1) := by decide +kernel
theorem dX9_find_9 : decode cX9_find 9 = .ok (.iconst 1, 1) := by decide +kernel
theorem dX9_find_10 : decode cX9_find 10 = .ok (.putfield 49, 3) := by decide +kernel
theorem dX9_find_13 : decode cX9_find 13 = .ok (.iconst 0, 1) := by decide +kernel
theorem dX9_find_14 : decode cX9_find 14 = .ok (.istore_n 1, 1) := by decide +kernel
theorem dX9_find_15 : decode cX9_find 15 = .ok (.iload_n 1, 1) := by decide +kernel
theorem dX9_find_16 : decode cX9_find 16 = .ok (.bipush 96, 2) := by decide +kernel
theorem dX9_find_18 : decode cX9_find 18 = .ok (.if_icmp .ge 30, 3) := by decide +kernel
theorem dX9_find_21 : decode cX9_find 21 = .ok (.aload_n 0, 1) := by decide +kernel
theorem dX9_find_22 : decode cX9_find 22 = .ok (.getfield 9, 3) := by decide +kernel
theorem dX9_find_25 : decode cX9_find 25 = .ok (.iload_n 1, 1) := by decide +kernel
theorem dX9_find_26 : decode cX9_find 26 = .ok (.iconst (-1), 1) := by decide +kernel
theorem dX9_find_27 : decode cX9_find 27 = .ok (.iastore, 1) := by decide +kernel
theorem dX9_find_28 : decode cX9_find 28 = .ok (.aload_n 0, 1) := by decide +kernel
theorem dX9_find_29 : decode cX9_find 29 = .ok (.getfield 15, 3) := by decide +kernel
theorem dX9_find_32 : decode cX9_find 32 = .ok (.iload_n 1, 1) := by decide +kernel
theorem dX9_find_33 : decode cX9_find 33 = .ok (.iconst (-1), 1) := by decide +kernel
theorem dX9_find_34 : decode cX9_find 34 = .ok (.iastore, 1) := by decide +kernel
theorem dX9_find_35 : decode cX9_find 35 = .ok (.aload_n 0, 1) := by decide +kernel
theorem dX9_find_36 : decode cX9_find 36 = .ok (.getfield 24, 3) := by decide +kernel
theorem dX9_find_39 : decode cX9_find 39 = .ok (.iload_n 1, 1) := by decide +kernel
theorem dX9_find_40 : decode cX9_find 40 = .ok (.iconst 0, 1) := by decide +kernel
theorem dX9_find_41 : decode cX9_find 41 = .ok (.bastore, 1) := by decide +kernel
theorem dX9_find_42 : decode cX9_find 42 = .ok (.iinc 1 1, 3) := by decide +kernel
theorem dX9_find_45 : decode cX9_find 45 = .ok (.goto (-30), 3) := by decide +kernel
theorem dX9_find_48 : decode cX9_find 48 = .ok (.aload_n 0, 1) := by decide +kernel
theorem dX9_find_49 : decode cX9_find 49 = .ok (.invokevirtual 73, 3) := by decide +kernel
theorem dX9_find_52 : decode cX9_find 52 = .ok (.istore_n 1, 1) := by decide +kernel
theorem dX9_find_53 : decode cX9_find 53 = .ok (.aload_n 0, 1) := by decide +kernel
theorem dX9_find_54 : decode cX9_find 54 = .ok (.getfield 38, 3) := by decide +kernel
theorem dX9_find_57 : decode cX9_find 57 = .ok (.iload_n 1, 1) := by decide +kernel
theorem dX9_find_58 : decode cX9_find 58 = .ok (.invokevirtual 77, 3) := by decide +kernel
theorem dX9_find_61 : decode cX9_find 61 = .ok (.iload_n 1, 1) := by decide +kernel
theorem dX9_find_62 : decode cX9_find 62 = .ok (.ifCond .lt 9, 3) := by decide +kernel
theorem dX9_find_65 : decode cX9_find 65 = .ok (.iload_n 1, 1) := by decide +kernel
theorem dX9_find_66 : decode cX9_find 66 = .ok (.bipush 24, 2) := by decide +kernel
theorem dX9_find_68 : decode cX9_find 68 = .ok (.if_icmp .lt 4, 3) := by decide +kernel
theorem dX9_find_71 : decode cX9_find 71 = .ok (.return_, 1) := by decide +kernel
theorem dX9_find_72 : decode cX9_find 72 = .ok (.iload_n 1, 1) := by decide +kernel
theorem dX9_find_73 : decode cX9_find 73 = .ok (.iconst 4, 1) := by decide +kernel
theorem dX9_find_74 : decode cX9_find 74 = .ok (.imul, 1) := by decide +kernel
theorem dX9_find_75 : decode cX9_find 75 = .ok (.istore_n 2, 1) := by decide +kernel
theorem dX9_find_76 : decode cX9_find 76 = .ok (.aload_n 0, 1) := by decide +kernel
theorem dX9_find_77 : decode cX9_find 77 = .ok (.getfield 9, 3) := by decide +kernel
theorem dX9_find_80 : decode cX9_find 80 = .ok (.iload_n 2, 1) := by decide +kernel
theorem dX9_find_81 : decode cX9_find 81 = .ok (.iconst 0, 1) := by decide +kernel
theorem dX9_find_82 : decode cX9_find 82 = .ok (.iastore, 1) := by decide +kernel
theorem dX9_find_83 : decode cX9_find 83 = .ok (.aload_n 0, 1) := by decide +kernel
theorem dX9_find_84 : decode cX9_find 84 = .ok (.getfield 15, 3) := by decide +kernel
theorem dX9_find_87 : decode cX9_find 87 = .ok (.iload_n 2, 1) := by decide +kernel
theorem dX9_find_88 : decode cX9_find 88 = .ok (.iconst 0, 1) := by decide +kernel
theorem dX9_find_89 : decode cX9_find 89 = .ok (.iastore, 1) := by decide +kernel
theorem dX9_find_90 : decode cX9_find 90 = .ok (.aload_n 0, 1) := by decide +kernel
theorem dX9_find_91 : decode cX9_find 91 = .ok (.getfield 18, 3) := by decide +kernel
theorem dX9_find_94 : decode cX9_find 94 = .ok (.iload_n 2, 1) := by decide +kernel
theorem dX9_find_95 : decode cX9_find 95 = .ok (.iconst (-1), 1) := by decide +kernel
theorem dX9_find_96 : decode cX9_find 96 = .ok (.iastore, 1) := by decide +kernel
theorem dX9_find_97 : decode cX9_find 97 = .ok (.aload_n 0, 1) := by decide +kernel
theorem dX9_find_98 : decode cX9_find 98 = .ok (.getfield 21, 3) := by decide +kernel
theorem dX9_find_101 : decode cX9_find 101 = .ok (.iload_n 2, 1) := by decide +kernel
theorem dX9_find_102 : decode cX9_find 102 = .ok (.iconst 0, 1) := by decide +kernel
theorem dX9_find_103 : decode cX9_find 103 = .ok (.iastore, 1) := by decide +kernel
theorem dX9_find_104 : decode cX9_find 104 = .ok (.iconst 0, 1) := by decide +kernel
theorem dX9_find_105 : decode cX9_find 105 = .ok (.istore_n 3, 1) := by decide +kernel
theorem dX9_find_106 : decode cX9_find 106 = .ok (.iload_n 3, 1) := by decide +kernel
theorem dX9_find_107 : decode cX9_find 107 = .ok (.bipush 96, 2) := by decide +kernel
theorem dX9_find_109 : decode cX9_find 109 = .ok (.if_icmp .ge 42, 3) := by decide +kernel
theorem dX9_find_112 : decode cX9_find 112 = .ok (.aload_n 0, 1) := by decide +kernel
theorem dX9_find_113 : decode cX9_find 113 = .ok (.invokevirtual 83, 3) := by decide +kernel
theorem dX9_find_116 : decode cX9_find 116 = .ok (.istore 4, 2) := by decide +kernel
theorem dX9_find_118 : decode cX9_find 118 = .ok (.iload 4, 2) := by decide +kernel
theorem dX9_find_120 : decode cX9_find 120 = .ok (.ifCond .lt 10, 3) := by decide +kernel
theorem dX9_find_123 : decode cX9_find 123 = .ok (.iload 4, 2) := by decide +kernel
theorem dX9_find_125 : decode cX9_find 125 = .ok (.bipush 96, 2) := by decide +kernel
theorem dX9_find_127 : decode cX9_find 127 = .ok (.if_icmp .lt 4, 3) := by decide +kernel
theorem dX9_find_130 : decode cX9_find 130 = .ok (.return_, 1) := by decide +kernel
theorem dX9_find_131 : decode cX9_find 131 = .ok (.aload_n 0, 1) := by decide +kernel
theorem dX9_find_132 : decode cX9_find 132 = .ok (.getfield 24, 3) := by decide +kernel
theorem dX9_find_135 : decode cX9_find 135 = .ok (.iload 4, 2) := by decide +kernel
theorem dX9_find_137 : decode cX9_find 137 = .ok (.iconst 1, 1) := by decide +kernel
theorem dX9_find_138 : decode cX9_find 138 = .ok (.bastore, 1) := by decide +kernel
theorem dX9_find_139 : decode cX9_find 139 = .ok (.aload_n 0, 1) := by decide +kernel
theorem dX9_find_140 : decode cX9_find 140 = .ok (.iload 4, 2) := by decide +kernel
theorem dX9_find_142 : decode cX9_find 142 = .ok (.invokevirtual 86, 3) := by decide +kernel
theorem dX9_find_145 : decode cX9_find 145 = .ok (.iinc 3 1, 3) := by decide +kernel
theorem dX9_find_148 : decode cX9_find 148 = .ok (.goto (-42), 3) := by decide +kernel
theorem dX9_find_151 : decode cX9_find 151 = .ok (.return_, 1) := by decide +kernel
theorem dX9_nearestUnsettled_0 : decode cX9_nearestUnsettled 0 = .ok (.iconst (-1), 1) := by decide +kernel
theorem dX9_nearestUnsettled_1 : decode cX9_nearestUnsettled 1 = .ok (.istore_n 1, 1) := by decide +kernel
theorem dX9_nearestUnsettled_2 : decode cX9_nearestUnsettled 2 = .ok (.iconst 0, 1) := by decide +kernel
theorem dX9_nearestUnsettled_3 : decode cX9_nearestUnsettled 3 = .ok (.istore_n 2, 1) := by decide +kernel
theorem dX9_nearestUnsettled_4 : decode cX9_nearestUnsettled 4 = .ok (.iload_n 2, 1) := by decide +kernel
theorem dX9_nearestUnsettled_5 : decode cX9_nearestUnsettled 5 = .ok (.bipush 96, 2) := by decide +kernel
theorem dX9_nearestUnsettled_7 : decode cX9_nearestUnsettled 7 = .ok (.if_icmp .ge 44, 3) := by decide +kernel
theorem dX9_nearestUnsettled_10 : decode cX9_nearestUnsettled 10 = .ok (.aload_n 0, 1) := by decide +kernel
theorem dX9_nearestUnsettled_11 : decode cX9_nearestUnsettled 11 = .ok (.getfield 24, 3) := by decide +kernel
theorem dX9_nearestUnsettled_14 : decode cX9_nearestUnsettled 14 = .ok (.iload_n 2, 1) := by decide +kernel
theorem dX9_nearestUnsettled_15 : decode cX9_nearestUnsettled 15 = .ok (.baload, 1) := by decide +kernel
theorem dX9_nearestUnsettled_16 : decode cX9_nearestUnsettled 16 = .ok (.ifCond .ne 29, 3) := by decide +kernel
theorem dX9_nearestUnsettled_19 : decode cX9_nearestUnsettled 19 = .ok (.aload_n 0, 1) := by decide +kernel
theorem dX9_nearestUnsettled_20 : decode cX9_nearestUnsettled 20 = .ok (.getfield 9, 3) := by decide +kernel
theorem dX9_nearestUnsettled_23 : decode cX9_nearestUnsettled 23 = .ok (.iload_n 2, 1) := by decide +kernel
theorem dX9_nearestUnsettled_24 : decode cX9_nearestUnsettled 24 = .ok (.iaload, 1) := by decide +kernel
theorem dX9_nearestUnsettled_25 : decode cX9_nearestUnsettled 25 = .ok (.iconst (-1), 1) := by decide +kernel
theorem dX9_nearestUnsettled_26 : decode cX9_nearestUnsettled 26 = .ok (.if_icmp .eq 19, 3) := by decide +kernel
theorem dX9_nearestUnsettled_29 : decode cX9_nearestUnsettled 29 = .ok (.iload_n 1, 1) := by decide +kernel
theorem dX9_nearestUnsettled_30 : decode cX9_nearestUnsettled 30 = .ok (.iconst (-1), 1) := by decide +kernel
theorem dX9_nearestUnsettled_31 : decode cX9_nearestUnsettled 31 = .ok (.if_icmp .eq 12, 3) := by decide +kernel
theorem dX9_nearestUnsettled_34 : decode cX9_nearestUnsettled 34 = .ok (.aload_n 0, 1) := by decide +kernel
theorem dX9_nearestUnsettled_35 : decode cX9_nearestUnsettled 35 = .ok (.iload_n 2, 1) := by decide +kernel
theorem dX9_nearestUnsettled_36 : decode cX9_nearestUnsettled 36 = .ok (.iload_n 1, 1) := by decide +kernel
theorem dX9_nearestUnsettled_37 : decode cX9_nearestUnsettled 37 = .ok (.invokevirtual 62, 3) := by decide +kernel
theorem dX9_nearestUnsettled_40 : decode cX9_nearestUnsettled 40 = .ok (.ifCond .eq 5, 3) := by decide +kernel
theorem dX9_nearestUnsettled_43 : decode cX9_nearestUnsettled 43 = .ok (.iload_n 2, 1) := by decide +kernel
theorem dX9_nearestUnsettled_44 : decode cX9_nearestUnsettled 44 = .ok (.istore_n 1, 1) := by decide +kernel
theorem dX9_nearestUnsettled_45 : decode cX9_nearestUnsettled 45 = .ok (.iinc 2 1, 3) := by decide +kernel
theorem dX9_nearestUnsettled_48 : decode cX9_nearestUnsettled 48 = .ok (.goto (-44), 3) := by decide +kernel
theorem dX9_nearestUnsettled_51 : decode cX9_nearestUnsettled 51 = .ok (.iload_n 1, 1) := by decide +kernel
theorem dX9_nearestUnsettled_52 : decode cX9_nearestUnsettled 52 = .ok (.ireturn, 1) := by decide +kernel
theorem dX9_isShorter_0 : decode cX9_isShorter 0 = .ok (.aload_n 0, 1) := by decide +kernel
theorem dX9_isShorter_1 : decode cX9_isShorter 1 = .ok (.getfield 9, 3) := by decide +kernel
theorem dX9_isShorter_4 : decode cX9_isShorter 4 = .ok (.iload_n 1, 1) := by decide +kernel
theorem dX9_isShorter_5 : decode cX9_isShorter 5 = .ok (.iaload, 1) := by decide +kernel
theorem dX9_isShorter_6 : decode cX9_isShorter 6 = .ok (.aload_n 0, 1) := by decide +kernel
theorem dX9_isShorter_7 : decode cX9_isShorter 7 = .ok (.getfield 9, 3) := by decide +kernel
theorem dX9_isShorter_10 : decode cX9_isShorter 10 = .ok (.iload_n 2, 1) := by decide +kernel
theorem dX9_isShorter_11 : decode cX9_isShorter 11 = .ok (.iaload, 1) := by decide +kernel
theorem dX9_isShorter_12 : decode cX9_isShorter 12 = .ok (.if_icmp .eq 26, 3) := by decide +kernel
theorem dX9_isShorter_15 : decode cX9_isShorter 15 = .ok (.aload_n 0, 1) := by decide +kernel
theorem dX9_isShorter_16 : decode cX9_isShorter 16 = .ok (.getfield 9, 3) := by decide +kernel
theorem dX9_isShorter_19 : decode cX9_isShorter 19 = .ok (.iload_n 1, 1) := by decide +kernel
theorem dX9_isShorter_20 : decode cX9_isShorter 20 = .ok (.iaload, 1) := by decide +kernel
theorem dX9_isShorter_21 : decode cX9_isShorter 21 = .ok (.aload_n 0, 1) := by decide +kernel
theorem dX9_isShorter_22 : decode cX9_isShorter 22 = .ok (.getfield 9, 3) := by decide +kernel
theorem dX9_isShorter_25 : decode cX9_isShorter 25 = .ok (.iload_n 2, 1) := by decide +kernel
theorem dX9_isShorter_26 : decode cX9_isShorter 26 = .ok (.iaload, 1) := by decide +kernel
theorem dX9_isShorter_27 : decode cX9_isShorter 27 = .ok (.if_icmp .ge 7, 3) := by decide +kernel
theorem dX9_isShorter_30 : decode cX9_isShorter 30 = .ok (.iconst 1, 1) := by decide +kernel
theorem dX9_isShorter_31 : decode cX9_isShorter 31 = .ok (.goto 27, 3) := by decide +kernel
theorem dX9_isShorter_34 : decode cX9_isShorter 34 = .ok (.iconst 0, 1) := by decide +kernel
theorem dX9_isShorter_35 : decode cX9_isShorter 35 = .ok (.goto 23, 3) := by decide +kernel
theorem dX9_isShorter_38 : decode cX9_isShorter 38 = .ok (.aload_n 0, 1) := by decide +kernel
theorem dX9_isShorter_39 : decode cX9_isShorter 39 = .ok (.getfield 15, 3) := by decide +kernel
theorem dX9_isShorter_42 : decode cX9_isShorter 42 = .ok (.iload_n 1, 1) := by decide +kernel
theorem dX9_isShorter_43 : decode cX9_isShorter 43 = .ok (.iaload, 1) := by decide +kernel
theorem dX9_isShorter_44 : decode cX9_isShorter 44 = .ok (.aload_n 0, 1) := by decide +kernel
theorem dX9_isShorter_45 : decode cX9_isShorter 45 = .ok (.getfield 15, 3) := by decide +kernel
theorem dX9_isShorter_48 : decode cX9_isShorter 48 = .ok (.iload_n 2, 1) := by decide +kernel
theorem dX9_isShorter_49 : decode cX9_isShorter 49 = .ok (.iaload, 1) := by decide +kernel
theorem dX9_isShorter_50 : decode cX9_isShorter 50 = .ok (.if_icmp .ge 7, 3) := by decide +kernel
theorem dX9_isShorter_53 : decode cX9_isShorter 53 = .ok (.iconst 1, 1) := by decide +kernel
theorem dX9_isShorter_54 : decode cX9_isShorter 54 = .ok (.goto 4, 3) := by decide +kernel
theorem dX9_isShorter_57 : decode cX9_isShorter 57 = .ok (.iconst 0, 1) := by decide +kernel
theorem dX9_isShorter_58 : decode cX9_isShorter 58 = .ok (.ireturn, 1) := by decide +kernel
theorem dX9_goOnFrom_0 : decode cX9_goOnFrom 0 = .ok (.iload_n 1, 1) := by decide +kernel
theorem dX9_goOnFrom_1 : decode cX9_goOnFrom 1 = .ok (.iconst 4, 1) := by decide +kernel
theorem dX9_goOnFrom_2 : decode cX9_goOnFrom 2 = .ok (.idiv, 1) := by decide +kernel
theorem dX9_goOnFrom_3 : decode cX9_goOnFrom 3 = .ok (.istore_n 2, 1) := by decide +kernel
theorem dX9_goOnFrom_4 : decode cX9_goOnFrom 4 = .ok (.iload_n 1, 1) := by decide +kernel
theorem dX9_goOnFrom_5 : decode cX9_goOnFrom 5 = .ok (.iconst 4, 1) := by decide +kernel
theorem dX9_goOnFrom_6 : decode cX9_goOnFrom 6 = .ok (.irem, 1) := by decide +kernel
theorem dX9_goOnFrom_7 : decode cX9_goOnFrom 7 = .ok (.istore_n 3, 1) := by decide +kernel
theorem dX9_goOnFrom_8 : decode cX9_goOnFrom 8 = .ok (.aload_n 0, 1) := by decide +kernel
theorem dX9_goOnFrom_9 : decode cX9_goOnFrom 9 = .ok (.getfield 38, 3) := by decide +kernel
theorem dX9_goOnFrom_12 : decode cX9_goOnFrom 12 = .ok (.iload_n 2, 1) := by decide +kernel
theorem dX9_goOnFrom_13 : decode cX9_goOnFrom 13 = .ok (.invokevirtual 89, 3) := by decide +kernel
theorem dX9_goOnFrom_16 : decode cX9_goOnFrom 16 = .ok (.istore 4, 2) := by decide +kernel
theorem dX9_goOnFrom_18 : decode cX9_goOnFrom 18 = .ok (.iconst 0, 1) := by decide +kernel
theorem dX9_goOnFrom_19 : decode cX9_goOnFrom 19 = .ok (.istore 5, 2) := by decide +kernel
theorem dX9_goOnFrom_21 : decode cX9_goOnFrom 21 = .ok (.iload 5, 2) := by decide +kernel
theorem dX9_goOnFrom_23 : decode cX9_goOnFrom 23 = .ok (.bipush 24, 2) := by decide +kernel
theorem dX9_goOnFrom_25 : decode cX9_goOnFrom 25 = .ok (.if_icmp .ge 82, 3) := by decide +kernel
theorem dX9_goOnFrom_28 : decode cX9_goOnFrom 28 = .ok (.iconst 1, 1) := by decide +kernel
theorem dX9_goOnFrom_29 : decode cX9_goOnFrom 29 = .ok (.istore 6, 2) := by decide +kernel
theorem dX9_goOnFrom_31 : decode cX9_goOnFrom 31 = .ok (.iload 6, 2) := by decide +kernel
theorem dX9_goOnFrom_33 : decode cX9_goOnFrom 33 = .ok (.iconst 5, 1) := by decide +kernel
theorem dX9_goOnFrom_34 : decode cX9_goOnFrom 34 = .ok (.if_icmp .gt 67, 3) := by decide +kernel
theorem dX9_goOnFrom_37 : decode cX9_goOnFrom 37 = .ok (.iload 4, 2) := by decide +kernel
theorem dX9_goOnFrom_39 : decode cX9_goOnFrom 39 = .ok (.iload 5, 2) := by decide +kernel
theorem dX9_goOnFrom_41 : decode cX9_goOnFrom 41 = .ok (.invokestatic 92, 3) := by decide +kernel
theorem dX9_goOnFrom_44 : decode cX9_goOnFrom 44 = .ok (.ifCond .eq 57, 3) := by decide +kernel
theorem dX9_goOnFrom_47 : decode cX9_goOnFrom 47 = .ok (.aload_n 0, 1) := by decide +kernel
theorem dX9_goOnFrom_48 : decode cX9_goOnFrom 48 = .ok (.getfield 38, 3) := by decide +kernel
theorem dX9_goOnFrom_51 : decode cX9_goOnFrom 51 = .ok (.iload_n 2, 1) := by decide +kernel
theorem dX9_goOnFrom_52 : decode cX9_goOnFrom 52 = .ok (.iload_n 3, 1) := by decide +kernel
theorem dX9_goOnFrom_53 : decode cX9_goOnFrom 53 = .ok (.iload 6, 2) := by decide +kernel
theorem dX9_goOnFrom_55 : decode cX9_goOnFrom 55 = .ok (.iload 5, 2) := by decide +kernel
theorem dX9_goOnFrom_57 : decode cX9_goOnFrom 57 = .ok (.invokevirtual 95, 3) := by decide +kernel
theorem dX9_goOnFrom_60 : decode cX9_goOnFrom 60 = .ok (.istore 7, 2) := by decide +kernel
theorem dX9_goOnFrom_62 : decode cX9_goOnFrom 62 = .ok (.iload 7, 2) := by decide +kernel
theorem dX9_goOnFrom_64 : decode cX9_goOnFrom 64 = .ok (.iconst (-1), 1) := by decide +kernel
theorem dX9_goOnFrom_65 : decode cX9_goOnFrom 65 = .ok (.if_icmp .eq 30, 3) := by decide +kernel
theorem dX9_goOnFrom_68 : decode cX9_goOnFrom 68 = .ok (.aload_n 0, 1) := by decide +kernel
theorem dX9_goOnFrom_69 : decode cX9_goOnFrom 69 = .ok (.iload 5, 2) := by decide +kernel
theorem dX9_goOnFrom_71 : decode cX9_goOnFrom 71 = .ok (.iconst 4, 1) := by decide +kernel
theorem dX9_goOnFrom_72 : decode cX9_goOnFrom 72 = .ok (.imul, 1) := by decide +kernel
theorem dX9_goOnFrom_73 : decode cX9_goOnFrom 73 = .ok (.aload_n 0, 1) := by decide +kernel
theorem dX9_goOnFrom_74 : decode cX9_goOnFrom 74 = .ok (.getfield 38, 3) := by decide +kernel
theorem dX9_goOnFrom_77 : decode cX9_goOnFrom 77 = .ok (.iload_n 2, 1) := by decide +kernel
theorem dX9_goOnFrom_78 : decode cX9_goOnFrom 78 = .ok (.iload_n 3, 1) := by decide +kernel
theorem dX9_goOnFrom_79 : decode cX9_goOnFrom 79 = .ok (.iload 6, 2) := by decide +kernel
theorem dX9_goOnFrom_81 : decode cX9_goOnFrom 81 = .ok (.iload 5, 2) := by decide +kernel
theorem dX9_goOnFrom_83 : decode cX9_goOnFrom 83 = .ok (.invokevirtual 99, 3) := by decide +kernel
theorem dX9_goOnFrom_86 : decode cX9_goOnFrom 86 = .ok (.iadd, 1) := by decide +kernel
theorem dX9_goOnFrom_87 : decode cX9_goOnFrom 87 = .ok (.iload 7, 2) := by decide +kernel
theorem dX9_goOnFrom_89 : decode cX9_goOnFrom 89 = .ok (.iload_n 1, 1) := by decide +kernel
theorem dX9_goOnFrom_90 : decode cX9_goOnFrom 90 = .ok (.iload 6, 2) := by decide +kernel
theorem dX9_goOnFrom_92 : decode cX9_goOnFrom 92 = .ok (.invokevirtual 102, 3) := by decide +kernel
theorem dX9_goOnFrom_95 : decode cX9_goOnFrom 95 = .ok (.iinc 6 1, 3) := by decide +kernel
theorem dX9_goOnFrom_98 : decode cX9_goOnFrom 98 = .ok (.goto (-67), 3) := by decide +kernel
theorem dX9_goOnFrom_101 : decode cX9_goOnFrom 101 = .ok (.iinc 5 1, 3) := by decide +kernel
theorem dX9_goOnFrom_104 : decode cX9_goOnFrom 104 = .ok (.goto (-83), 3) := by decide +kernel
theorem dX9_goOnFrom_107 : decode cX9_goOnFrom 107 = .ok (.return_, 1) := by decide +kernel
theorem dX9_offer_0 : decode cX9_offer 0 = .ok (.iload_n 1, 1) := by decide +kernel
theorem dX9_offer_1 : decode cX9_offer 1 = .ok (.ifCond .lt 28, 3) := by decide +kernel
theorem dX9_offer_4 : decode cX9_offer 4 = .ok (.iload_n 1, 1) := by decide +kernel
theorem dX9_offer_5 : decode cX9_offer 5 = .ok (.bipush 96, 2) := by decide +kernel
theorem dX9_offer_7 : decode cX9_offer 7 = .ok (.if_icmp .ge 22, 3) := by decide +kernel
theorem dX9_offer_10 : decode cX9_offer 10 = .ok (.iload_n 3, 1) := by decide +kernel
theorem dX9_offer_11 : decode cX9_offer 11 = .ok (.ifCond .lt 18, 3) := by decide +kernel
theorem dX9_offer_14 : decode cX9_offer 14 = .ok (.iload_n 3, 1) := by decide +kernel
theorem dX9_offer_15 : decode cX9_offer 15 = .ok (.bipush 96, 2) := by decide +kernel
theorem dX9_offer_17 : decode cX9_offer 17 = .ok (.if_icmp .ge 12, 3) := by decide +kernel
theorem dX9_offer_20 : decode cX9_offer 20 = .ok (.aload_n 0, 1) := by decide +kernel
theorem dX9_offer_21 : decode cX9_offer 21 = .ok (.getfield 24, 3) := by decide +kernel
theorem dX9_offer_24 : decode cX9_offer 24 = .ok (.iload_n 1, 1) := by decide +kernel
theorem dX9_offer_25 : decode cX9_offer 25 = .ok (.baload, 1) := by decide +kernel
theorem dX9_offer_26 : decode cX9_offer 26 = .ok (.ifCond .eq 4, 3) := by decide +kernel
theorem dX9_offer_29 : decode cX9_offer 29 = .ok (.return_, 1) := by decide +kernel
theorem dX9_offer_30 : decode cX9_offer 30 = .ok (.aload_n 0, 1) := by decide +kernel
theorem dX9_offer_31 : decode cX9_offer 31 = .ok (.getfield 9, 3) := by decide +kernel
theorem dX9_offer_34 : decode cX9_offer 34 = .ok (.iload_n 3, 1) := by decide +kernel
theorem dX9_offer_35 : decode cX9_offer 35 = .ok (.iaload, 1) := by decide +kernel
theorem dX9_offer_36 : decode cX9_offer 36 = .ok (.iload_n 2, 1) := by decide +kernel
theorem dX9_offer_37 : decode cX9_offer 37 = .ok (.iadd, 1) := by decide +kernel
theorem dX9_offer_38 : decode cX9_offer 38 = .ok (.istore 5, 2) := by decide +kernel
theorem dX9_offer_40 : decode cX9_offer 40 = .ok (.aload_n 0, 1) := by decide +kernel
theorem dX9_offer_41 : decode cX9_offer 41 = .ok (.getfield 15, 3) := by decide +kernel
theorem dX9_offer_44 : decode cX9_offer 44 = .ok (.iload_n 3, 1) := by decide +kernel
theorem dX9_offer_45 : decode cX9_offer 45 = .ok (.iaload, 1) := by decide +kernel
theorem dX9_offer_46 : decode cX9_offer 46 = .ok (.iconst 1, 1) := by decide +kernel
theorem dX9_offer_47 : decode cX9_offer 47 = .ok (.iadd, 1) := by decide +kernel
theorem dX9_offer_48 : decode cX9_offer 48 = .ok (.istore 6, 2) := by decide +kernel
theorem dX9_offer_50 : decode cX9_offer 50 = .ok (.aload_n 0, 1) := by decide +kernel
theorem dX9_offer_51 : decode cX9_offer 51 = .ok (.getfield 9, 3) := by decide +kernel
theorem dX9_offer_54 : decode cX9_offer 54 = .ok (.iload_n 1, 1) := by decide +kernel
theorem dX9_offer_55 : decode cX9_offer 55 = .ok (.iaload, 1) := by decide +kernel
theorem dX9_offer_56 : decode cX9_offer 56 = .ok (.iconst (-1), 1) := by decide +kernel
theorem dX9_offer_57 : decode cX9_offer 57 = .ok (.if_icmp .ne 9, 3) := by decide +kernel
theorem dX9_offer_60 : decode cX9_offer 60 = .ok (.iconst 1, 1) := by decide +kernel
theorem dX9_offer_61 : decode cX9_offer 61 = .ok (.istore 7, 2) := by decide +kernel
theorem dX9_offer_63 : decode cX9_offer 63 = .ok (.goto 115, 3) := by decide +kernel
theorem dX9_offer_66 : decode cX9_offer 66 = .ok (.iload 5, 2) := by decide +kernel
theorem dX9_offer_68 : decode cX9_offer 68 = .ok (.aload_n 0, 1) := by decide +kernel
theorem dX9_offer_69 : decode cX9_offer 69 = .ok (.getfield 9, 3) := by decide +kernel
theorem dX9_offer_72 : decode cX9_offer 72 = .ok (.iload_n 1, 1) := by decide +kernel
theorem dX9_offer_73 : decode cX9_offer 73 = .ok (.iaload, 1) := by decide +kernel
theorem dX9_offer_74 : decode cX9_offer 74 = .ok (.if_icmp .eq 24, 3) := by decide +kernel
theorem dX9_offer_77 : decode cX9_offer 77 = .ok (.iload 5, 2) := by decide +kernel
theorem dX9_offer_79 : decode cX9_offer 79 = .ok (.aload_n 0, 1) := by decide +kernel
theorem dX9_offer_80 : decode cX9_offer 80 = .ok (.getfield 9, 3) := by decide +kernel
theorem dX9_offer_83 : decode cX9_offer 83 = .ok (.iload_n 1, 1) := by decide +kernel
theorem dX9_offer_84 : decode cX9_offer 84 = .ok (.iaload, 1) := by decide +kernel
theorem dX9_offer_85 : decode cX9_offer 85 = .ok (.if_icmp .ge 7, 3) := by decide +kernel
theorem dX9_offer_88 : decode cX9_offer 88 = .ok (.iconst 1, 1) := by decide +kernel
theorem dX9_offer_89 : decode cX9_offer 89 = .ok (.goto 4, 3) := by decide +kernel
theorem dX9_offer_92 : decode cX9_offer 92 = .ok (.iconst 0, 1) := by decide +kernel
theorem dX9_offer_93 : decode cX9_offer 93 = .ok (.istore 7, 2) := by decide +kernel
theorem dX9_offer_95 : decode cX9_offer 95 = .ok (.goto 83, 3) := by decide +kernel
theorem dX9_offer_98 : decode cX9_offer 98 = .ok (.iload 6, 2) := by decide +kernel
theorem dX9_offer_100 : decode cX9_offer 100 = .ok (.aload_n 0, 1) := by decide +kernel
theorem dX9_offer_101 : decode cX9_offer 101 = .ok (.getfield 15, 3) := by decide +kernel
theorem dX9_offer_104 : decode cX9_offer 104 = .ok (.iload_n 1, 1) := by decide +kernel
theorem dX9_offer_105 : decode cX9_offer 105 = .ok (.iaload, 1) := by decide +kernel
theorem dX9_offer_106 : decode cX9_offer 106 = .ok (.if_icmp .eq 24, 3) := by decide +kernel
theorem dX9_offer_109 : decode cX9_offer 109 = .ok (.iload 6, 2) := by decide +kernel
theorem dX9_offer_111 : decode cX9_offer 111 = .ok (.aload_n 0, 1) := by decide +kernel
theorem dX9_offer_112 : decode cX9_offer 112 = .ok (.getfield 15, 3) := by decide +kernel
theorem dX9_offer_115 : decode cX9_offer 115 = .ok (.iload_n 1, 1) := by decide +kernel
theorem dX9_offer_116 : decode cX9_offer 116 = .ok (.iaload, 1) := by decide +kernel
theorem dX9_offer_117 : decode cX9_offer 117 = .ok (.if_icmp .ge 7, 3) := by decide +kernel
theorem dX9_offer_120 : decode cX9_offer 120 = .ok (.iconst 1, 1) := by decide +kernel
theorem dX9_offer_121 : decode cX9_offer 121 = .ok (.goto 4, 3) := by decide +kernel
theorem dX9_offer_124 : decode cX9_offer 124 = .ok (.iconst 0, 1) := by decide +kernel
theorem dX9_offer_125 : decode cX9_offer 125 = .ok (.istore 7, 2) := by decide +kernel
theorem dX9_offer_127 : decode cX9_offer 127 = .ok (.goto 51, 3) := by decide +kernel
theorem dX9_offer_130 : decode cX9_offer 130 = .ok (.iload_n 3, 1) := by decide +kernel
theorem dX9_offer_131 : decode cX9_offer 131 = .ok (.aload_n 0, 1) := by decide +kernel
theorem dX9_offer_132 : decode cX9_offer 132 = .ok (.getfield 18, 3) := by decide +kernel
theorem dX9_offer_135 : decode cX9_offer 135 = .ok (.iload_n 1, 1) := by decide +kernel
theorem dX9_offer_136 : decode cX9_offer 136 = .ok (.iaload, 1) := by decide +kernel
theorem dX9_offer_137 : decode cX9_offer 137 = .ok (.if_icmp .eq 23, 3) := by decide +kernel
theorem dX9_offer_140 : decode cX9_offer 140 = .ok (.iload_n 3, 1) := by decide +kernel
theorem dX9_offer_141 : decode cX9_offer 141 = .ok (.aload_n 0, 1) := by decide +kernel
theorem dX9_offer_142 : decode cX9_offer 142 = .ok (.getfield 18, 3) := by decide +kernel
theorem dX9_offer_145 : decode cX9_offer 145 = .ok (.iload_n 1, 1) := by decide +kernel
theorem dX9_offer_146 : decode cX9_offer 146 = .ok (.iaload, 1) := by decide +kernel
theorem dX9_offer_147 : decode cX9_offer 147 = .ok (.if_icmp .ge 7, 3) := by decide +kernel
theorem dX9_offer_150 : decode cX9_offer 150 = .ok (.iconst 1, 1) := by decide +kernel
theorem dX9_offer_151 : decode cX9_offer 151 = .ok (.goto 4, 3) := by decide +kernel
theorem dX9_offer_154 : decode cX9_offer 154 = .ok (.iconst 0, 1) := by decide +kernel
theorem dX9_offer_155 : decode cX9_offer 155 = .ok (.istore 7, 2) := by decide +kernel
theorem dX9_offer_157 : decode cX9_offer 157 = .ok (.goto 21, 3) := by decide +kernel
theorem dX9_offer_160 : decode cX9_offer 160 = .ok (.iload 4, 2) := by decide +kernel
theorem dX9_offer_162 : decode cX9_offer 162 = .ok (.aload_n 0, 1) := by decide +kernel
theorem dX9_offer_163 : decode cX9_offer 163 = .ok (.getfield 21, 3) := by decide +kernel
theorem dX9_offer_166 : decode cX9_offer 166 = .ok (.iload_n 1, 1) := by decide +kernel
theorem dX9_offer_167 : decode cX9_offer 167 = .ok (.iaload, 1) := by decide +kernel
theorem dX9_offer_168 : decode cX9_offer 168 = .ok (.if_icmp .ge 7, 3) := by decide +kernel
theorem dX9_offer_171 : decode cX9_offer 171 = .ok (.iconst 1, 1) := by decide +kernel
theorem dX9_offer_172 : decode cX9_offer 172 = .ok (.goto 4, 3) := by decide +kernel
theorem dX9_offer_175 : decode cX9_offer 175 = .ok (.iconst 0, 1) := by decide +kernel
theorem dX9_offer_176 : decode cX9_offer 176 = .ok (.istore 7, 2) := by decide +kernel
theorem dX9_offer_178 : decode cX9_offer 178 = .ok (.iload 7, 2) := by decide +kernel
theorem dX9_offer_180 : decode cX9_offer 180 = .ok (.ifCond .eq 34, 3) := by decide +kernel
theorem dX9_offer_183 : decode cX9_offer 183 = .ok (.aload_n 0, 1) := by decide +kernel
theorem dX9_offer_184 : decode cX9_offer 184 = .ok (.getfield 9, 3) := by decide +kernel
theorem dX9_offer_187 : decode cX9_offer 187 = .ok (.iload_n 1, 1) := by decide +kernel
theorem dX9_offer_188 : decode cX9_offer 188 = .ok (.iload 5, 2) := by decide +kernel
theorem dX9_offer_190 : decode cX9_offer 190 = .ok (.iastore, 1) := by decide +kernel
theorem dX9_offer_191 : decode cX9_offer 191 = .ok (.aload_n 0, 1) := by decide +kernel
theorem dX9_offer_192 : decode cX9_offer 192 = .ok (.getfield 15, 3) := by decide +kernel
theorem dX9_offer_195 : decode cX9_offer 195 = .ok (.iload_n 1, 1) := by decide +kernel
theorem dX9_offer_196 : decode cX9_offer 196 = .ok (.iload 6, 2) := by decide +kernel
theorem dX9_offer_198 : decode cX9_offer 198 = .ok (.iastore, 1) := by decide +kernel
theorem dX9_offer_199 : decode cX9_offer 199 = .ok (.aload_n 0, 1) := by decide +kernel
theorem dX9_offer_200 : decode cX9_offer 200 = .ok (.getfield 18, 3) := by decide +kernel
theorem dX9_offer_203 : decode cX9_offer 203 = .ok (.iload_n 1, 1) := by decide +kernel
theorem dX9_offer_204 : decode cX9_offer 204 = .ok (.iload_n 3, 1) := by decide +kernel
theorem dX9_offer_205 : decode cX9_offer 205 = .ok (.iastore, 1) := by decide +kernel
theorem dX9_offer_206 : decode cX9_offer 206 = .ok (.aload_n 0, 1) := by decide +kernel
theorem dX9_offer_207 : decode cX9_offer 207 = .ok (.getfield 21, 3) := by decide +kernel
theorem dX9_offer_210 : decode cX9_offer 210 = .ok (.iload_n 1, 1) := by decide +kernel
theorem dX9_offer_211 : decode cX9_offer 211 = .ok (.iload 4, 2) := by decide +kernel
theorem dX9_offer_213 : decode cX9_offer 213 = .ok (.iastore, 1) := by decide +kernel
theorem dX9_offer_214 : decode cX9_offer 214 = .ok (.return_, 1) := by decide +kernel
theorem dX9_findByRounds_0 : decode cX9_findByRounds 0 = .ok (.aload_n 0, 1) := by decide +kernel
theorem dX9_findByRounds_1 : decode cX9_findByRounds 1 = .ok (.getfield 53, 3) := by decide +kernel
theorem dX9_findByRounds_4 : decode cX9_findByRounds 4 = .ok (.ifCond .eq 4, 3) := by decide +kernel
theorem dX9_findByRounds_7 : decode cX9_findByRounds 7 = .ok (.return_, 1) := by decide +kernel
theorem dX9_findByRounds_8 : decode cX9_findByRounds 8 = .ok (.aload_n 0, 1) := by decide +kernel
theorem dX9_findByRounds_9 : decode cX9_findByRounds 9 = .ok (.iconst 1, 1) := by decide +kernel
theorem dX9_findByRounds_10 : decode cX9_findByRounds 10 = .ok (.putfield 53, 3) := by decide +kernel
theorem dX9_findByRounds_13 : decode cX9_findByRounds 13 = .ok (.iconst 0, 1) := by decide +kernel
theorem dX9_findByRounds_14 : decode cX9_findByRounds 14 = .ok (.istore_n 1, 1) := by decide +kernel
theorem dX9_findByRounds_15 : decode cX9_findByRounds 15 = .ok (.iload_n 1, 1) := by decide +kernel
theorem dX9_findByRounds_16 : decode cX9_findByRounds 16 = .ok (.bipush 96, 2) := by decide +kernel
theorem dX9_findByRounds_18 : decode cX9_findByRounds 18 = .ok (.if_icmp .ge 16, 3) := by decide +kernel
theorem dX9_findByRounds_21 : decode cX9_findByRounds 21 = .ok (.aload_n 0, 1) := by decide +kernel
theorem dX9_findByRounds_22 : decode cX9_findByRounds 22 = .ok (.getfield 28, 3) := by decide +kernel
theorem dX9_findByRounds_25 : decode cX9_findByRounds 25 = .ok (.iload_n 1, 1) := by decide +kernel
theorem dX9_findByRounds_26 : decode cX9_findByRounds 26 = .ok (.iconst (-1), 1) := by decide +kernel
theorem dX9_findByRounds_27 : decode cX9_findByRounds 27 = .ok (.iastore, 1) := by decide +kernel
theorem dX9_findByRounds_28 : decode cX9_findByRounds 28 = .ok (.iinc 1 1, 3) := by decide +kernel
theorem dX9_findByRounds_31 : decode cX9_findByRounds 31 = .ok (.goto (-16), 3) := by decide +kernel
theorem dX9_findByRounds_34 : decode cX9_findByRounds 34 = .ok (.aload_n 0, 1) := by decide +kernel
theorem dX9_findByRounds_35 : decode cX9_findByRounds 35 = .ok (.invokevirtual 73, 3) := by decide +kernel
theorem dX9_findByRounds_38 : decode cX9_findByRounds 38 = .ok (.istore_n 1, 1) := by decide +kernel
theorem dX9_findByRounds_39 : decode cX9_findByRounds 39 = .ok (.iload_n 1, 1) := by decide +kernel
theorem dX9_findByRounds_40 : decode cX9_findByRounds 40 = .ok (.ifCond .lt 9, 3) := by decide +kernel
theorem dX9_findByRounds_43 : decode cX9_findByRounds 43 = .ok (.iload_n 1, 1) := by decide +kernel
theorem dX9_findByRounds_44 : decode cX9_findByRounds 44 = .ok (.bipush 24, 2) := by decide +kernel
theorem dX9_findByRounds_46 : decode cX9_findByRounds 46 = .ok (.if_icmp .lt 4, 3) := by decide +kernel
theorem dX9_findByRounds_49 : decode cX9_findByRounds 49 = .ok (.return_, 1) := by decide +kernel
theorem dX9_findByRounds_50 : decode cX9_findByRounds 50 = .ok (.aload_n 0, 1) := by decide +kernel
theorem dX9_findByRounds_51 : decode cX9_findByRounds 51 = .ok (.getfield 28, 3) := by decide +kernel
theorem dX9_findByRounds_54 : decode cX9_findByRounds 54 = .ok (.iload_n 1, 1) := by decide +kernel
theorem dX9_findByRounds_55 : decode cX9_findByRounds 55 = .ok (.iconst 4, 1) := by decide +kernel
theorem dX9_findByRounds_56 : decode cX9_findByRounds 56 = .ok (.imul, 1) := by decide +kernel
theorem dX9_findByRounds_57 : decode cX9_findByRounds 57 = .ok (.iconst 0, 1) := by decide +kernel
theorem dX9_findByRounds_58 : decode cX9_findByRounds 58 = .ok (.iastore, 1) := by decide +kernel
theorem dX9_findByRounds_59 : decode cX9_findByRounds 59 = .ok (.iconst 1, 1) := by decide +kernel
theorem dX9_findByRounds_60 : decode cX9_findByRounds 60 = .ok (.istore_n 2, 1) := by decide +kernel
theorem dX9_findByRounds_61 : decode cX9_findByRounds 61 = .ok (.iconst 0, 1) := by decide +kernel
theorem dX9_findByRounds_62 : decode cX9_findByRounds 62 = .ok (.istore_n 3, 1) := by decide +kernel
theorem dX9_findByRounds_63 : decode cX9_findByRounds 63 = .ok (.iload_n 3, 1) := by decide +kernel
theorem dX9_findByRounds_64 : decode cX9_findByRounds 64 = .ok (.bipush 96, 2) := by decide +kernel
theorem dX9_findByRounds_66 : decode cX9_findByRounds 66 = .ok (.if_icmp .gt 58, 3) := by decide +kernel
theorem dX9_findByRounds_69 : decode cX9_findByRounds 69 = .ok (.iload_n 2, 1) := by decide +kernel
theorem dX9_findByRounds_70 : decode cX9_findByRounds 70 = .ok (.ifCond .eq 54, 3) := by decide +kernel
theorem dX9_findByRounds_73 : decode cX9_findByRounds 73 = .ok (.iconst 0, 1) := by decide +kernel
theorem dX9_findByRounds_74 : decode cX9_findByRounds 74 = .ok (.istore_n 2, 1) := by decide +kernel
theorem dX9_findByRounds_75 : decode cX9_findByRounds 75 = .ok (.iconst 0, 1) := by decide +kernel
theorem dX9_findByRounds_76 : decode cX9_findByRounds 76 = .ok (.istore 4, 2) := by decide +kernel
theorem dX9_findByRounds_78 : decode cX9_findByRounds 78 = .ok (.iload 4, 2) := by decide +kernel
theorem dX9_findByRounds_80 : decode cX9_findByRounds 80 = .ok (.bipush 96, 2) := by decide +kernel
theorem dX9_findByRounds_82 : decode cX9_findByRounds 82 = .ok (.if_icmp .ge 36, 3) := by decide +kernel
theorem dX9_findByRounds_85 : decode cX9_findByRounds 85 = .ok (.aload_n 0, 1) := by decide +kernel
theorem dX9_findByRounds_86 : decode cX9_findByRounds 86 = .ok (.getfield 28, 3) := by decide +kernel
theorem dX9_findByRounds_89 : decode cX9_findByRounds 89 = .ok (.iload 4, 2) := by decide +kernel
theorem dX9_findByRounds_91 : decode cX9_findByRounds 91 = .ok (.iaload, 1) := by decide +kernel
theorem dX9_findByRounds_92 : decode cX9_findByRounds 92 = .ok (.iconst (-1), 1) := by decide +kernel
theorem dX9_findByRounds_93 : decode cX9_findByRounds 93 = .ok (.if_icmp .eq 19, 3) := by decide +kernel
theorem dX9_findByRounds_96 : decode cX9_findByRounds 96 = .ok (.iload_n 2, 1) := by decide +kernel
theorem dX9_findByRounds_97 : decode cX9_findByRounds 97 = .ok (.aload_n 0, 1) := by decide +kernel
theorem dX9_findByRounds_98 : decode cX9_findByRounds 98 = .ok (.iload 4, 2) := by decide +kernel
theorem dX9_findByRounds_100 : decode cX9_findByRounds 100 = .ok (.aload_n 0, 1) := by decide +kernel
theorem dX9_findByRounds_101 : decode cX9_findByRounds 101 = .ok (.getfield 28, 3) := by decide +kernel
theorem dX9_findByRounds_104 : decode cX9_findByRounds 104 = .ok (.iload 4, 2) := by decide +kernel
theorem dX9_findByRounds_106 : decode cX9_findByRounds 106 = .ok (.iaload, 1) := by decide +kernel
theorem dX9_findByRounds_107 : decode cX9_findByRounds 107 = .ok (.invokevirtual 106, 3) := by decide +kernel
theorem dX9_findByRounds_110 : decode cX9_findByRounds 110 = .ok (.ior, 1) := by decide +kernel
theorem dX9_findByRounds_111 : decode cX9_findByRounds 111 = .ok (.istore_n 2, 1) := by decide +kernel
theorem dX9_findByRounds_112 : decode cX9_findByRounds 112 = .ok (.iinc 4 1, 3) := by decide +kernel
theorem dX9_findByRounds_115 : decode cX9_findByRounds 115 = .ok (.goto (-37), 3) := by decide +kernel
theorem dX9_findByRounds_118 : decode cX9_findByRounds 118 = .ok (.iinc 3 1, 3) := by decide +kernel
theorem dX9_findByRounds_121 : decode cX9_findByRounds 121 = .ok (.goto (-58), 3) := by decide +kernel
theorem dX9_findByRounds_124 : decode cX9_findByRounds 124 = .ok (.return_, 1) := by decide +kernel
theorem dX9_lessenFrom_0 : decode cX9_lessenFrom 0 = .ok (.iload_n 1, 1) := by decide +kernel
theorem dX9_lessenFrom_1 : decode cX9_lessenFrom 1 = .ok (.iconst 4, 1) := by decide +kernel
theorem dX9_lessenFrom_2 : decode cX9_lessenFrom 2 = .ok (.idiv, 1) := by decide +kernel
theorem dX9_lessenFrom_3 : decode cX9_lessenFrom 3 = .ok (.istore_n 3, 1) := by decide +kernel
theorem dX9_lessenFrom_4 : decode cX9_lessenFrom 4 = .ok (.iload_n 1, 1) := by decide +kernel
theorem dX9_lessenFrom_5 : decode cX9_lessenFrom 5 = .ok (.iconst 4, 1) := by decide +kernel
theorem dX9_lessenFrom_6 : decode cX9_lessenFrom 6 = .ok (.irem, 1) := by decide +kernel
theorem dX9_lessenFrom_7 : decode cX9_lessenFrom 7 = .ok (.istore 4, 2) := by decide +kernel
theorem dX9_lessenFrom_9 : decode cX9_lessenFrom 9 = .ok (.aload_n 0, 1) := by decide +kernel
theorem dX9_lessenFrom_10 : decode cX9_lessenFrom 10 = .ok (.getfield 38, 3) := by decide +kernel
theorem dX9_lessenFrom_13 : decode cX9_lessenFrom 13 = .ok (.iload_n 3, 1) := by decide +kernel
theorem dX9_lessenFrom_14 : decode cX9_lessenFrom 14 = .ok (.invokevirtual 89, 3) := by decide +kernel
theorem dX9_lessenFrom_17 : decode cX9_lessenFrom 17 = .ok (.istore 5, 2) := by decide +kernel
theorem dX9_lessenFrom_19 : decode cX9_lessenFrom 19 = .ok (.iconst 0, 1) := by decide +kernel
theorem dX9_lessenFrom_20 : decode cX9_lessenFrom 20 = .ok (.istore 6, 2) := by decide +kernel
theorem dX9_lessenFrom_22 : decode cX9_lessenFrom 22 = .ok (.iconst 0, 1) := by decide +kernel
theorem dX9_lessenFrom_23 : decode cX9_lessenFrom 23 = .ok (.istore 7, 2) := by decide +kernel
theorem dX9_lessenFrom_25 : decode cX9_lessenFrom 25 = .ok (.iload 7, 2) := by decide +kernel
theorem dX9_lessenFrom_27 : decode cX9_lessenFrom 27 = .ok (.bipush 24, 2) := by decide +kernel
theorem dX9_lessenFrom_29 : decode cX9_lessenFrom 29 = .ok (.if_icmp .ge 88, 3) := by decide +kernel
theorem dX9_lessenFrom_32 : decode cX9_lessenFrom 32 = .ok (.iconst 1, 1) := by decide +kernel
theorem dX9_lessenFrom_33 : decode cX9_lessenFrom 33 = .ok (.istore 8, 2) := by decide +kernel
theorem dX9_lessenFrom_35 : decode cX9_lessenFrom 35 = .ok (.iload 8, 2) := by decide +kernel
theorem dX9_lessenFrom_37 : decode cX9_lessenFrom 37 = .ok (.iconst 5, 1) := by decide +kernel
theorem dX9_lessenFrom_38 : decode cX9_lessenFrom 38 = .ok (.if_icmp .gt 73, 3) := by decide +kernel
theorem dX9_lessenFrom_41 : decode cX9_lessenFrom 41 = .ok (.iload 5, 2) := by decide +kernel
theorem dX9_lessenFrom_43 : decode cX9_lessenFrom 43 = .ok (.iload 7, 2) := by decide +kernel
theorem dX9_lessenFrom_45 : decode cX9_lessenFrom 45 = .ok (.invokestatic 92, 3) := by decide +kernel
theorem dX9_lessenFrom_48 : decode cX9_lessenFrom 48 = .ok (.ifCond .eq 63, 3) := by decide +kernel
theorem dX9_lessenFrom_51 : decode cX9_lessenFrom 51 = .ok (.aload_n 0, 1) := by decide +kernel
theorem dX9_lessenFrom_52 : decode cX9_lessenFrom 52 = .ok (.getfield 38, 3) := by decide +kernel
theorem dX9_lessenFrom_55 : decode cX9_lessenFrom 55 = .ok (.iload_n 3, 1) := by decide +kernel
theorem dX9_lessenFrom_56 : decode cX9_lessenFrom 56 = .ok (.iload 4, 2) := by decide +kernel
theorem dX9_lessenFrom_58 : decode cX9_lessenFrom 58 = .ok (.iload 8, 2) := by decide +kernel
theorem dX9_lessenFrom_60 : decode cX9_lessenFrom 60 = .ok (.iload 7, 2) := by decide +kernel
theorem dX9_lessenFrom_62 : decode cX9_lessenFrom 62 = .ok (.invokevirtual 95, 3) := by decide +kernel
theorem dX9_lessenFrom_65 : decode cX9_lessenFrom 65 = .ok (.istore 9, 2) := by decide +kernel
theorem dX9_lessenFrom_67 : decode cX9_lessenFrom 67 = .ok (.iload 9, 2) := by decide +kernel
theorem dX9_lessenFrom_69 : decode cX9_lessenFrom 69 = .ok (.iconst (-1), 1) := by decide +kernel
theorem dX9_lessenFrom_70 : decode cX9_lessenFrom 70 = .ok (.if_icmp .eq 35, 3) := by decide +kernel
theorem dX9_lessenFrom_73 : decode cX9_lessenFrom 73 = .ok (.iload 6, 2) := by decide +kernel
theorem dX9_lessenFrom_75 : decode cX9_lessenFrom 75 = .ok (.aload_n 0, 1) := by decide +kernel
theorem dX9_lessenFrom_76 : decode cX9_lessenFrom 76 = .ok (.iload 7, 2) := by decide +kernel
theorem dX9_lessenFrom_78 : decode cX9_lessenFrom 78 = .ok (.iconst 4, 1) := by decide +kernel
theorem dX9_lessenFrom_79 : decode cX9_lessenFrom 79 = .ok (.imul, 1) := by decide +kernel
theorem dX9_lessenFrom_80 : decode cX9_lessenFrom 80 = .ok (.aload_n 0, 1) := by decide +kernel
theorem dX9_lessenFrom_81 : decode cX9_lessenFrom 81 = .ok (.getfield 38, 3) := by decide +kernel
theorem dX9_lessenFrom_84 : decode cX9_lessenFrom 84 = .ok (.iload_n 3, 1) := by decide +kernel
theorem dX9_lessenFrom_85 : decode cX9_lessenFrom 85 = .ok (.iload 4, 2) := by decide +kernel
theorem dX9_lessenFrom_87 : decode cX9_lessenFrom 87 = .ok (.iload 8, 2) := by decide +kernel
theorem dX9_lessenFrom_89 : decode cX9_lessenFrom 89 = .ok (.iload 7, 2) := by decide +kernel
theorem dX9_lessenFrom_91 : decode cX9_lessenFrom 91 = .ok (.invokevirtual 99, 3) := by decide +kernel
theorem dX9_lessenFrom_94 : decode cX9_lessenFrom 94 = .ok (.iadd, 1) := by decide +kernel
theorem dX9_lessenFrom_95 : decode cX9_lessenFrom 95 = .ok (.iload_n 2, 1) := by decide +kernel
theorem dX9_lessenFrom_96 : decode cX9_lessenFrom 96 = .ok (.iload 9, 2) := by decide +kernel
theorem dX9_lessenFrom_98 : decode cX9_lessenFrom 98 = .ok (.iadd, 1) := by decide +kernel
theorem dX9_lessenFrom_99 : decode cX9_lessenFrom 99 = .ok (.invokevirtual 109, 3) := by decide +kernel
theorem dX9_lessenFrom_102 : decode cX9_lessenFrom 102 = .ok (.ior, 1) := by decide +kernel
theorem dX9_lessenFrom_103 : decode cX9_lessenFrom 103 = .ok (.istore 6, 2) := by decide +kernel
theorem dX9_lessenFrom_105 : decode cX9_lessenFrom 105 = .ok (.iinc 8 1, 3) := by decide +kernel
theorem dX9_lessenFrom_108 : decode cX9_lessenFrom 108 = .ok (.goto (-73), 3) := by decide +kernel
theorem dX9_lessenFrom_111 : decode cX9_lessenFrom 111 = .ok (.iinc 7 1, 3) := by decide +kernel
theorem dX9_lessenFrom_114 : decode cX9_lessenFrom 114 = .ok (.goto (-89), 3) := by decide +kernel
theorem dX9_lessenFrom_117 : decode cX9_lessenFrom 117 = .ok (.iload 6, 2) := by decide +kernel
theorem dX9_lessenFrom_119 : decode cX9_lessenFrom 119 = .ok (.ireturn, 1) := by decide +kernel
theorem dX9_lessen_0 : decode cX9_lessen 0 = .ok (.iload_n 1, 1) := by decide +kernel
theorem dX9_lessen_1 : decode cX9_lessen 1 = .ok (.ifCond .lt 29, 3) := by decide +kernel
theorem dX9_lessen_4 : decode cX9_lessen 4 = .ok (.iload_n 1, 1) := by decide +kernel
theorem dX9_lessen_5 : decode cX9_lessen 5 = .ok (.bipush 96, 2) := by decide +kernel
theorem dX9_lessen_7 : decode cX9_lessen 7 = .ok (.if_icmp .ge 23, 3) := by decide +kernel
theorem dX9_lessen_10 : decode cX9_lessen 10 = .ok (.aload_n 0, 1) := by decide +kernel
theorem dX9_lessen_11 : decode cX9_lessen 11 = .ok (.getfield 28, 3) := by decide +kernel
theorem dX9_lessen_14 : decode cX9_lessen 14 = .ok (.iload_n 1, 1) := by decide +kernel
theorem dX9_lessen_15 : decode cX9_lessen 15 = .ok (.iaload, 1) := by decide +kernel
theorem dX9_lessen_16 : decode cX9_lessen 16 = .ok (.iconst (-1), 1) := by decide +kernel
theorem dX9_lessen_17 : decode cX9_lessen 17 = .ok (.if_icmp .eq 15, 3) := by decide +kernel
theorem dX9_lessen_20 : decode cX9_lessen 20 = .ok (.aload_n 0, 1) := by decide +kernel
theorem dX9_lessen_21 : decode cX9_lessen 21 = .ok (.getfield 28, 3) := by decide +kernel
theorem dX9_lessen_24 : decode cX9_lessen 24 = .ok (.iload_n 1, 1) := by decide +kernel
theorem dX9_lessen_25 : decode cX9_lessen 25 = .ok (.iaload, 1) := by decide +kernel
theorem dX9_lessen_26 : decode cX9_lessen 26 = .ok (.iload_n 2, 1) := by decide +kernel
theorem dX9_lessen_27 : decode cX9_lessen 27 = .ok (.if_icmp .gt 5, 3) := by decide +kernel
theorem dX9_lessen_30 : decode cX9_lessen 30 = .ok (.iconst 0, 1) := by decide +kernel
theorem dX9_lessen_31 : decode cX9_lessen 31 = .ok (.ireturn, 1) := by decide +kernel
theorem dX9_lessen_32 : decode cX9_lessen 32 = .ok (.aload_n 0, 1) := by decide +kernel
theorem dX9_lessen_33 : decode cX9_lessen 33 = .ok (.getfield 28, 3) := by decide +kernel
theorem dX9_lessen_36 : decode cX9_lessen 36 = .ok (.iload_n 1, 1) := by decide +kernel
theorem dX9_lessen_37 : decode cX9_lessen 37 = .ok (.iload_n 2, 1) := by decide +kernel
theorem dX9_lessen_38 : decode cX9_lessen 38 = .ok (.iastore, 1) := by decide +kernel
theorem dX9_lessen_39 : decode cX9_lessen 39 = .ok (.iconst 1, 1) := by decide +kernel
theorem dX9_lessen_40 : decode cX9_lessen 40 = .ok (.ireturn, 1) := by decide +kernel
