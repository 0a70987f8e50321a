theorem dJ4_toString_0e30d_5 : decode cJ4_toString_0e30d 5 = .ok (.invokespecial 137, 3) := by decide +kernel
theorem dJ4_toString_0e30d_8 : decode cJ4_toString_0e30d 8 = .ok (.areturn, 1) := by decide +kernel
theorem dJ4_setLength_d00df_0 : decode cJ4_setLength_d00df 0 = .ok (.aload_n 0, 1) := by decide +kernel
theorem dJ4_setLength_d00df_1 : decode cJ4_setLength_d00df 1 = .ok (.iload_n 1, 1) := by decide +kernel
theorem dJ4_setLength_d00df_2 : decode cJ4_setLength_d00df 2 = .ok (.invokespecial 333, 3) := by decide +kernel
theorem dJ4_setLength_d00df_5 : decode cJ4_setLength_d00df 5 = .ok (.return_, 1) := by decide +kernel
theorem dJ4_length_8abf5_0 : decode cJ4_length_8abf5 0 = .ok (.aload_n 0, 1) := by decide +kernel
theorem dJ4_length_8abf5_1 : decode cJ4_length_8abf5 1 = .ok (.invokespecial 343, 3) := by decide +kernel
theorem dJ4_length_8abf5_4 : decode cJ4_length_8abf5 4 = .ok (.ireturn, 1) := by decide +kernel
theorem dJx7c733_init_d00df_0 : decode cJx7c733_init_d00df 0 = .ok (.aload_n 0, 1) := by decide +kernel
theorem dJx7c733_init_d00df_1 : decode cJx7c733_init_d00df 1 = .ok (.new 10, 3) := by decide +kernel
theorem dJx7c733_init_d00df_4 : decode cJx7c733_init_d00df 4 = .ok (.dup, 1) := by decide +kernel
theorem dJx7c733_init_d00df_5 : decode cJx7c733_init_d00df 5 = .ok (.invokespecial 12, 3) := by decide +kernel
theorem dJx7c733_init_d00df_8 : decode cJx7c733_init_d00df 8 = .ok (.ldc 13, 2) := by decide +kernel
theorem dJx7c733_init_d00df_10 : decode cJx7c733_init_d00df 10 = .ok (.invokevirtual 15, 3) := by decide +kernel
theorem dJx7c733_init_d00df_13 : decode cJx7c733_init_d00df 13 = .ok (.iload_n 1, 1) := by decide +kernel
theorem dJx7c733_init_d00df_14 : decode cJx7c733_init_d00df 14 = .ok (.invokevirtual 19, 3) := by decide +kernel
theorem dJx7c733_init_d00df_17 : decode cJx7c733_init_d00df 17 = .ok (.invokevirtual 22, 3) := by decide +kernel
theorem dJx7c733_init_d00df_20 : decode cJx7c733_init_d00df 20 = .ok (.invokespecial 7, 3) := by decide +kernel
theorem dJx7c733_init_d00df_23 : decode cJx7c733_init_d00df 23 = .ok (.return_, 1) := by decide +kernel
theorem dJ1_charAt_3b067_0 : decode cJ1_charAt_3b067 0 = .ok (.iload_n 1, 1) := by decide +kernel
theorem dJ1_charAt_3b067_1 : decode cJ1_charAt_3b067 1 = .ok (.aload_n 0, 1) := by decide +kernel
theorem dJ1_charAt_3b067_2 : decode cJ1_charAt_3b067 2 = .ok (.arraylength, 1) := by decide +kernel
theorem dJ1_charAt_3b067_3 : decode cJ1_charAt_3b067 3 = .ok (.invokestatic 9, 3) := by decide +kernel
theorem dJ1_charAt_3b067_6 : decode cJ1_charAt_3b067 6 = .ok (.aload_n 0, 1) := by decide +kernel
theorem dJ1_charAt_3b067_7 : decode cJ1_charAt_3b067 7 = .ok (.iload_n 1, 1) := by decide +kernel
theorem dJ1_charAt_3b067_8 : decode cJ1_charAt_3b067 8 = .ok (.baload, 1) := by decide +kernel
theorem dJ1_charAt_3b067_9 : decode cJ1_charAt_3b067 9 = .ok (.sipush 255, 3) := by decide +kernel
theorem dJ1_charAt_3b067_12 : decode cJ1_charAt_3b067 12 = .ok (.iand, 1) := by decide +kernel
theorem dJ1_charAt_3b067_13 : decode cJ1_charAt_3b067 13 = .ok (.i2c, 1) := by decide +kernel
theorem dJ1_charAt_3b067_14 : decode cJ1_charAt_3b067 14 = .ok (.ireturn, 1) := by decide +kernel
theorem dJ1_canEncode_fc78d_0 : decode cJ1_canEncode_fc78d 0 = .ok (.iload_n 0, 1) := by decide +kernel
theorem dJ1_canEncode_fc78d_1 : decode cJ1_canEncode_fc78d 1 = .ok (.sipush 255, 3) := by decide +kernel
theorem dJ1_canEncode_fc78d_4 : decode cJ1_canEncode_fc78d 4 = .ok (.if_icmp .gt 7, 3) := by decide +kernel
theorem dJ1_canEncode_fc78d_7 : decode cJ1_canEncode_fc78d 7 = .ok (.iconst 1, 1) := by decide +kernel
theorem dJ1_canEncode_fc78d_8 : decode cJ1_canEncode_fc78d 8 = .ok (.goto 4, 3) := by decide +kernel
theorem dJ1_canEncode_fc78d_11 : decode cJ1_canEncode_fc78d 11 = .ok (.iconst 0, 1) := by decide +kernel
theorem dJ1_canEncode_fc78d_12 : decode cJ1_canEncode_fc78d 12 = .ok (.ireturn, 1) := by decide +kernel
theorem dJ1_fillNull_b72d1_0 : decode cJ1_fillNull_b72d1 0 = .ok (.aload_n 0, 1) := by decide +kernel
theorem dJ1_fillNull_b72d1_1 : decode cJ1_fillNull_b72d1 1 = .ok (.iload_n 1, 1) := by decide +kernel
theorem dJ1_fillNull_b72d1_2 : decode cJ1_fillNull_b72d1 2 = .ok (.iload_n 2, 1) := by decide +kernel
theorem dJ1_fillNull_b72d1_3 : decode cJ1_fillNull_b72d1 3 = .ok (.iconst 0, 1) := by decide +kernel
theorem dJ1_fillNull_b72d1_4 : decode cJ1_fillNull_b72d1 4 = .ok (.invokestatic 236, 3) := by decide +kernel
theorem dJ1_fillNull_b72d1_7 : decode cJ1_fillNull_b72d1 7 = .ok (.return_, 1) := by decide +kernel
theorem dJ1_inflate_0e8fd_0 : decode cJ1_inflate_0e8fd 0 = .ok (.aload_n 0, 1) := by decide +kernel
theorem dJ1_inflate_0e8fd_1 : decode cJ1_inflate_0e8fd 1 = .ok (.iload_n 1, 1) := by decide +kernel
theorem dJ1_inflate_0e8fd_2 : decode cJ1_inflate_0e8fd 2 = .ok (.aload_n 2, 1) := by decide +kernel
theorem dJ1_inflate_0e8fd_3 : decode cJ1_inflate_0e8fd 3 = .ok (.iload_n 3, 1) := by decide +kernel
theorem dJ1_inflate_0e8fd_4 : decode cJ1_inflate_0e8fd 4 = .ok (.iload 4, 2) := by decide +kernel
theorem dJ1_inflate_0e8fd_6 : decode cJ1_inflate_0e8fd 6 = .ok (.invokestatic 240, 3) := by decide +kernel
theorem dJ1_inflate_0e8fd_9 : decode cJ1_inflate_0e8fd 9 = .ok (.return_, 1) := by decide +kernel
theorem dJ7_rangeCheck_23922_0 : decode cJ7_rangeCheck_23922 0 = .ok (.iload_n 1, 1) := by decide +kernel
theorem dJ7_rangeCheck_23922_1 : decode cJ7_rangeCheck_23922 1 = .ok (.iload_n 2, 1) := by decide +kernel
theorem dJ7_rangeCheck_23922_2 : decode cJ7_rangeCheck_23922 2 = .ok (.if_icmp .le 44, 3) := by decide +kernel
theorem dJ7_rangeCheck_23922_5 : decode cJ7_rangeCheck_23922 5 = .ok (.new 43, 3) := by decide +kernel
theorem dJ7_rangeCheck_23922_8 : decode cJ7_rangeCheck_23922 8 = .ok (.dup, 1) := by decide +kernel
theorem dJ7_rangeCheck_23922_9 : decode cJ7_rangeCheck_23922 9 = .ok (.new 45, 3) := by decide +kernel
theorem dJ7_rangeCheck_23922_12 : decode cJ7_rangeCheck_23922 12 = .ok (.dup, 1) := by decide +kernel
theorem dJ7_rangeCheck_23922_13 : decode cJ7_rangeCheck_23922 13 = .ok (.invokespecial 47, 3) := by decide +kernel
theorem dJ7_rangeCheck_23922_16 : decode cJ7_rangeCheck_23922 16 = .ok (.ldc 48, 2) := by decide +kernel
theorem dJ7_rangeCheck_23922_18 : decode cJ7_rangeCheck_23922 18 = .ok (.invokevirtual 50, 3) := by decide +kernel
theorem dJ7_rangeCheck_23922_21 : decode cJ7_rangeCheck_23922 21 = .ok (.iload_n 1, 1) := by decide +kernel
theorem dJ7_rangeCheck_23922_22 : decode cJ7_rangeCheck_23922 22 = .ok (.invokevirtual 54, 3) := by decide +kernel
theorem dJ7_rangeCheck_23922_25 : decode cJ7_rangeCheck_23922 25 = .ok (.ldc 57, 2) := by decide +kernel
theorem dJ7_rangeCheck_23922_27 : decode cJ7_rangeCheck_23922 27 = .ok (.invokevirtual 50, 3) := by decide +kernel
theorem dJ7_rangeCheck_23922_30 : decode cJ7_rangeCheck_23922 30 = .ok (.iload_n 2, 1) := by decide +kernel
theorem dJ7_rangeCheck_23922_31 : decode cJ7_rangeCheck_23922 31 = .ok (.invokevirtual 54, 3) := by decide +kernel
theorem dJ7_rangeCheck_23922_34 : decode cJ7_rangeCheck_23922 34 = .ok (.ldc 59, 2) := by decide +kernel
theorem dJ7_rangeCheck_23922_36 : decode cJ7_rangeCheck_23922 36 = .ok (.invokevirtual 50, 3) := by decide +kernel
theorem dJ7_rangeCheck_23922_39 : decode cJ7_rangeCheck_23922 39 = .ok (.invokevirtual 61, 3) := by decide +kernel
theorem dJ7_rangeCheck_23922_42 : decode cJ7_rangeCheck_23922 42 = .ok (.invokespecial 65, 3) := by decide +kernel
theorem dJ7_rangeCheck_23922_45 : decode cJ7_rangeCheck_23922 45 = .ok (.athrow, 1) := by decide +kernel
theorem dJ7_rangeCheck_23922_46 : decode cJ7_rangeCheck_23922 46 = .ok (.iload_n 1, 1) := by decide +kernel
theorem dJ7_rangeCheck_23922_47 : decode cJ7_rangeCheck_23922 47 = .ok (.ifCond .ge 12, 3) := by decide +kernel
theorem dJ7_rangeCheck_23922_50 : decode cJ7_rangeCheck_23922 50 = .ok (.new 68, 3) := by decide +kernel
theorem dJ7_rangeCheck_23922_53 : decode cJ7_rangeCheck_23922 53 = .ok (.dup, 1) := by decide +kernel
theorem dJ7_rangeCheck_23922_54 : decode cJ7_rangeCheck_23922 54 = .ok (.iload_n 1, 1) := by decide +kernel
theorem dJ7_rangeCheck_23922_55 : decode cJ7_rangeCheck_23922 55 = .ok (.invokespecial 70, 3) := by decide +kernel
theorem dJ7_rangeCheck_23922_58 : decode cJ7_rangeCheck_23922 58 = .ok (.athrow, 1) := by decide +kernel
theorem dJ7_rangeCheck_23922_59 : decode cJ7_rangeCheck_23922 59 = .ok (.iload_n 2, 1) := by decide +kernel
theorem dJ7_rangeCheck_23922_60 : decode cJ7_rangeCheck_23922 60 = .ok (.iload_n 0, 1) := by decide +kernel
theorem dJ7_rangeCheck_23922_61 : decode cJ7_rangeCheck_23922 61 = .ok (.if_icmp .le 12, 3) := by decide +kernel
theorem dJ7_rangeCheck_23922_64 : decode cJ7_rangeCheck_23922 64 = .ok (.new 68, 3) := by decide +kernel
theorem dJ7_rangeCheck_23922_67 : decode cJ7_rangeCheck_23922 67 = .ok (.dup, 1) := by decide +kernel
theorem dJ7_rangeCheck_23922_68 : decode cJ7_rangeCheck_23922 68 = .ok (.iload_n 2, 1) := by decide +kernel
theorem dJ7_rangeCheck_23922_69 : decode cJ7_rangeCheck_23922 69 = .ok (.invokespecial 70, 3) := by decide +kernel
theorem dJ7_rangeCheck_23922_72 : decode cJ7_rangeCheck_23922 72 = .ok (.athrow, 1) := by decide +kernel
theorem dJ7_rangeCheck_23922_73 : decode cJ7_rangeCheck_23922 73 = .ok (.return_, 1) := by decide +kernel
theorem dJ7_fill_eb02e_0 : decode cJ7_fill_eb02e 0 = .ok (.aload_n 0, 1) := by decide +kernel
theorem dJ7_fill_eb02e_1 : decode cJ7_fill_eb02e 1 = .ok (.arraylength, 1) := by decide +kernel
theorem dJ7_fill_eb02e_2 : decode cJ7_fill_eb02e 2 = .ok (.iload_n 1, 1) := by decide +kernel
theorem dJ7_fill_eb02e_3 : decode cJ7_fill_eb02e 3 = .ok (.iload_n 2, 1) := by decide +kernel
theorem dJ7_fill_eb02e_4 : decode cJ7_fill_eb02e 4 = .ok (.invokestatic 13, 3) := by decide +kernel
theorem dJ7_fill_eb02e_7 : decode cJ7_fill_eb02e 7 = .ok (.iload_n 1, 1) := by decide +kernel
theorem dJ7_fill_eb02e_8 : decode cJ7_fill_eb02e 8 = .ok (.istore 4, 2) := by decide +kernel
theorem dJ7_fill_eb02e_10 : decode cJ7_fill_eb02e 10 = .ok (.iload 4, 2) := by decide +kernel
theorem dJ7_fill_eb02e_12 : decode cJ7_fill_eb02e 12 = .ok (.iload_n 2, 1) := by decide +kernel
theorem dJ7_fill_eb02e_13 : decode cJ7_fill_eb02e 13 = .ok (.if_icmp .ge 14, 3) := by decide +kernel
theorem dJ7_fill_eb02e_16 : decode cJ7_fill_eb02e 16 = .ok (.aload_n 0, 1) := by decide +kernel
theorem dJ7_fill_eb02e_17 : decode cJ7_fill_eb02e 17 = .ok (.iload 4, 2) := by decide +kernel
theorem dJ7_fill_eb02e_19 : decode cJ7_fill_eb02e 19 = .ok (.iload_n 3, 1) := by decide +kernel
theorem dJ7_fill_eb02e_20 : decode cJ7_fill_eb02e 20 = .ok (.bastore, 1) := by decide +kernel
theorem dJ7_fill_eb02e_21 : decode cJ7_fill_eb02e 21 = .ok (.iinc 4 1, 3) := by decide +kernel
theorem dJ7_fill_eb02e_24 : decode cJ7_fill_eb02e 24 = .ok (.goto (-14), 3) := by decide +kernel
theorem dJ7_fill_eb02e_27 : decode cJ7_fill_eb02e 27 = .ok (.return_, 1) := by decide +kernel
theorem dJ7_copyOf_9075b_0 : decode cJ7_copyOf_9075b 0 = .ok (.iload_n 1, 1) := by decide +kernel
theorem dJ7_copyOf_9075b_1 : decode cJ7_copyOf_9075b 1 = .ok (.aload_n 0, 1) := by decide +kernel
theorem dJ7_copyOf_9075b_2 : decode cJ7_copyOf_9075b 2 = .ok (.arraylength, 1) := by decide +kernel
theorem dJ7_copyOf_9075b_3 : decode cJ7_copyOf_9075b 3 = .ok (.if_icmp .ne 11, 3) := by decide +kernel
theorem dJ7_copyOf_9075b_6 : decode cJ7_copyOf_9075b 6 = .ok (.aload_n 0, 1) := by decide +kernel
theorem dJ7_copyOf_9075b_7 : decode cJ7_copyOf_9075b 7 = .ok (.invokevirtual 310, 3) := by decide +kernel
theorem dJ7_copyOf_9075b_10 : decode cJ7_copyOf_9075b 10 = .ok (.checkcast 311, 3) := by decide +kernel
theorem dJ7_copyOf_9075b_13 : decode cJ7_copyOf_9075b 13 = .ok (.areturn, 1) := by decide +kernel
theorem dJ7_copyOf_9075b_14 : decode cJ7_copyOf_9075b 14 = .ok (.iload_n 1, 1) := by decide +kernel
theorem dJ7_copyOf_9075b_15 : decode cJ7_copyOf_9075b 15 = .ok (.newarray .byte, 2) := by decide +kernel
theorem dJ7_copyOf_9075b_17 : decode cJ7_copyOf_9075b 17 = .ok (.astore_n 2, 1) := by decide +kernel
theorem dJ7_copyOf_9075b_18 : decode cJ7_copyOf_9075b 18 = .ok (.aload_n 0, 1) := by decide +kernel
theorem dJ7_copyOf_9075b_19 : decode cJ7_copyOf_9075b 19 = .ok (.iconst 0, 1) := by decide +kernel
theorem dJ7_copyOf_9075b_20 : decode cJ7_copyOf_9075b 20 = .ok (.aload_n 2, 1) := by decide +kernel
theorem dJ7_copyOf_9075b_21 : decode cJ7_copyOf_9075b 21 = .ok (.iconst 0, 1) := by decide +kernel
theorem dJ7_copyOf_9075b_22 : decode cJ7_copyOf_9075b 22 = .ok (.aload_n 0, 1) := by decide +kernel
theorem dJ7_copyOf_9075b_23 : decode cJ7_copyOf_9075b 23 = .ok (.arraylength, 1) := by decide +kernel
theorem dJ7_copyOf_9075b_24 : decode cJ7_copyOf_9075b 24 = .ok (.iload_n 1, 1) := by decide +kernel
theorem dJ7_copyOf_9075b_25 : decode cJ7_copyOf_9075b 25 = .ok (.invokestatic 304, 3) := by decide +kernel
theorem dJ7_copyOf_9075b_28 : decode cJ7_copyOf_9075b 28 = .ok (.invokestatic 150, 3) := by decide +kernel
theorem dJ7_copyOf_9075b_31 : decode cJ7_copyOf_9075b 31 = .ok (.aload_n 2, 1) := by decide +kernel
theorem dJ7_copyOf_9075b_32 : decode cJ7_copyOf_9075b 32 = .ok (.areturn, 1) := by decide +kernel
theorem dJ7_checkLength_df160_0 : decode cJ7_checkLength_df160 0 = .ok (.iload_n 1, 1) := by decide +kernel
theorem dJ7_checkLength_df160_1 : decode cJ7_checkLength_df160 1 = .ok (.iload_n 0, 1) := by decide +kernel
theorem dJ7_checkLength_df160_2 : decode cJ7_checkLength_df160 2 = .ok (.if_icmp .ge 35, 3) := by decide +kernel
theorem dJ7_checkLength_df160_5 : decode cJ7_checkLength_df160 5 = .ok (.new 43, 3) := by decide +kernel
theorem dJ7_checkLength_df160_8 : decode cJ7_checkLength_df160 8 = .ok (.dup, 1) := by decide +kernel
theorem dJ7_checkLength_df160_9 : decode cJ7_checkLength_df160 9 = .ok (.new 45, 3) := by decide +kernel
theorem dJ7_checkLength_df160_12 : decode cJ7_checkLength_df160 12 = .ok (.dup, 1) := by decide +kernel
theorem dJ7_checkLength_df160_13 : decode cJ7_checkLength_df160 13 = .ok (.invokespecial 47, 3) := by decide +kernel
theorem dJ7_checkLength_df160_16 : decode cJ7_checkLength_df160 16 = .ok (.iload_n 0, 1) := by decide +kernel
theorem dJ7_checkLength_df160_17 : decode cJ7_checkLength_df160 17 = .ok (.invokevirtual 54, 3) := by decide +kernel
theorem dJ7_checkLength_df160_20 : decode cJ7_checkLength_df160 20 = .ok (.ldc_w 337, 3) := by decide +kernel
theorem dJ7_checkLength_df160_23 : decode cJ7_checkLength_df160 23 = .ok (.invokevirtual 50, 3) := by decide +kernel
theorem dJ7_checkLength_df160_26 : decode cJ7_checkLength_df160 26 = .ok (.iload_n 1, 1) := by decide +kernel
theorem dJ7_checkLength_df160_27 : decode cJ7_checkLength_df160 27 = .ok (.invokevirtual 54, 3) := by decide +kernel
theorem dJ7_checkLength_df160_30 : decode cJ7_checkLength_df160 30 = .ok (.invokevirtual 61, 3) := by decide +kernel
theorem dJ7_checkLength_df160_33 : decode cJ7_checkLength_df160 33 = .ok (.invokespecial 65, 3) := by decide +kernel
theorem dJ7_checkLength_df160_36 : decode cJ7_checkLength_df160 36 = .ok (.athrow, 1) := by decide +kernel
theorem dJ7_checkLength_df160_37 : decode cJ7_checkLength_df160 37 = .ok (.return_, 1) := by decide +kernel
theorem dJ7_copyOfRange_39247_0 : decode cJ7_copyOfRange_39247 0 = .ok (.iload_n 1, 1) := by decide +kernel
theorem dJ7_copyOfRange_39247_1 : decode cJ7_copyOfRange_39247 1 = .ok (.ifCond .ne 9, 3) := by decide +kernel
theorem dJ7_copyOfRange_39247_4 : decode cJ7_copyOfRange_39247 4 = .ok (.iload_n 2, 1) := by decide +kernel
theorem dJ7_copyOfRange_39247_5 : decode cJ7_copyOfRange_39247 5 = .ok (.aload_n 0, 1) := by decide +kernel
theorem dJ7_copyOfRange_39247_6 : decode cJ7_copyOfRange_39247 6 = .ok (.arraylength, 1) := by decide +kernel
theorem dJ7_copyOfRange_39247_7 : decode cJ7_copyOfRange_39247 7 = .ok (.if_icmp .eq 10, 3) := by decide +kernel
theorem dJ7_copyOfRange_39247_10 : decode cJ7_copyOfRange_39247 10 = .ok (.aload_n 0, 1) := by decide +kernel
theorem dJ7_copyOfRange_39247_11 : decode cJ7_copyOfRange_39247 11 = .ok (.iload_n 1, 1) := by decide +kernel
theorem dJ7_copyOfRange_39247_12 : decode cJ7_copyOfRange_39247 12 = .ok (.iload_n 2, 1) := by decide +kernel
theorem dJ7_copyOfRange_39247_13 : decode cJ7_copyOfRange_39247 13 = .ok (.invokestatic 339, 3) := by decide +kernel
theorem dJ7_copyOfRange_39247_16 : decode cJ7_copyOfRange_39247 16 = .ok (.areturn, 1) := by decide +kernel
theorem dJ7_copyOfRange_39247_17 : decode cJ7_copyOfRange_39247 17 = .ok (.aload_n 0, 1) := by decide +kernel
theorem dJ7_copyOfRange_39247_18 : decode cJ7_copyOfRange_39247 18 = .ok (.invokevirtual 310, 3) := by decide +kernel
theorem dJ7_copyOfRange_39247_21 : decode cJ7_copyOfRange_39247 21 = .ok (.checkcast 311, 3) := by decide +kernel
theorem dJ7_copyOfRange_39247_24 : decode cJ7_copyOfRange_39247 24 = .ok (.areturn, 1) := by decide +kernel
theorem dJ7_copyOfRangeByte_39247_0 : decode cJ7_copyOfRangeByte_39247 0 = .ok (.iload_n 1, 1) := by decide +kernel
theorem dJ7_copyOfRangeByte_39247_1 : decode cJ7_copyOfRangeByte_39247 1 = .ok (.iload_n 2, 1) := by decide +kernel
theorem dJ7_copyOfRangeByte_39247_2 : decode cJ7_copyOfRangeByte_39247 2 = .ok (.invokestatic 343, 3) := by decide +kernel
theorem dJ7_copyOfRangeByte_39247_5 : decode cJ7_copyOfRangeByte_39247 5 = .ok (.iload_n 2, 1) := by decide +kernel
theorem dJ7_copyOfRangeByte_39247_6 : decode cJ7_copyOfRangeByte_39247 6 = .ok (.iload_n 1, 1) := by decide +kernel
theorem dJ7_copyOfRangeByte_39247_7 : decode cJ7_copyOfRangeByte_39247 7 = .ok (.isub, 1) := by decide +kernel
theorem dJ7_copyOfRangeByte_39247_8 : decode cJ7_copyOfRangeByte_39247 8 = .ok (.istore_n 3, 1) := by decide +kernel
theorem dJ7_copyOfRangeByte_39247_9 : decode cJ7_copyOfRangeByte_39247 9 = .ok (.iload_n 3, 1) := by decide +kernel
theorem dJ7_copyOfRangeByte_39247_10 : decode cJ7_copyOfRangeByte_39247 10 = .ok (.newarray .byte, 2) := by decide +kernel
theorem dJ7_copyOfRangeByte_39247_12 : decode cJ7_copyOfRangeByte_39247 12 = .ok (.astore 4, 2) := by decide +kernel
theorem dJ7_copyOfRangeByte_39247_14 : decode cJ7_copyOfRangeByte_39247 14 = .ok (.aload_n 0, 1) := by decide +kernel
theorem dJ7_copyOfRangeByte_39247_15 : decode cJ7_copyOfRangeByte_39247 15 = .ok (.iload_n 1, 1) := by decide +kernel
theorem dJ7_copyOfRangeByte_39247_16 : decode cJ7_copyOfRangeByte_39247 16 = .ok (.aload 4, 2) := by decide +kernel
theorem dJ7_copyOfRangeByte_39247_18 : decode cJ7_copyOfRangeByte_39247 18 = .ok (.iconst 0, 1) := by decide +kernel
theorem dJ7_copyOfRangeByte_39247_19 : decode cJ7_copyOfRangeByte_39247 19 = .ok (.aload_n 0, 1) := by decide +kernel
theorem dJ7_copyOfRangeByte_39247_20 : decode cJ7_copyOfRangeByte_39247 20 = .ok (.arraylength, 1) := by decide +kernel
theorem dJ7_copyOfRangeByte_39247_21 : decode cJ7_copyOfRangeByte_39247 21 = .ok (.iload_n 1, 1) := by decide +kernel
theorem dJ7_copyOfRangeByte_39247_22 : decode cJ7_copyOfRangeByte_39247 22 = .ok (.isub, 1) := by decide +kernel
theorem dJ7_copyOfRangeByte_39247_23 : decode cJ7_copyOfRangeByte_39247 23 = .ok (.iload_n 3, 1) := by decide +kernel
theorem dJ7_copyOfRangeByte_39247_24 : decode cJ7_copyOfRangeByte_39247 24 = .ok (.invokestatic 304, 3) := by decide +kernel
theorem dJ7_copyOfRangeByte_39247_27 : decode cJ7_copyOfRangeByte_39247 27 = .ok (.invokestatic 150, 3) := by decide +kernel
theorem dJ7_copyOfRangeByte_39247_30 : decode cJ7_copyOfRangeByte_39247 30 = .ok (.aload 4, 2) := by decide +kernel
theorem dJ7_copyOfRangeByte_39247_32 : decode cJ7_copyOfRangeByte_39247 32 = .ok (.areturn, 1) := by decide +kernel
theorem dJ8_newLength_cabcc_0 : decode cJ8_newLength_cabcc 0 = .ok (.iload_n 0, 1) := by decide +kernel
theorem dJ8_newLength_cabcc_1 : decode cJ8_newLength_cabcc 1 = .ok (.iload_n 1, 1) := by decide +kernel
theorem dJ8_newLength_cabcc_2 : decode cJ8_newLength_cabcc 2 = .ok (.iload_n 2, 1) := by decide +kernel
theorem dJ8_newLength_cabcc_3 : decode cJ8_newLength_cabcc 3 = .ok (.invokestatic 194, 3) := by decide +kernel
theorem dJ8_newLength_cabcc_6 : decode cJ8_newLength_cabcc 6 = .ok (.iadd, 1) := by decide +kernel
theorem dJ8_newLength_cabcc_7 : decode cJ8_newLength_cabcc 7 = .ok (.istore_n 3, 1) := by decide +kernel
theorem dJ8_newLength_cabcc_8 : decode cJ8_newLength_cabcc 8 = .ok (.iconst 0, 1) := by decide +kernel
theorem dJ8_newLength_cabcc_9 : decode cJ8_newLength_cabcc 9 = .ok (.iload_n 3, 1) := by decide +kernel
theorem dJ8_newLength_cabcc_10 : decode cJ8_newLength_cabcc 10 = .ok (.if_icmp .ge 11, 3) := by decide +kernel
theorem dJ8_newLength_cabcc_13 : decode cJ8_newLength_cabcc 13 = .ok (.iload_n 3, 1) := by decide +kernel
theorem dJ8_newLength_cabcc_14 : decode cJ8_newLength_cabcc 14 = .ok (.ldc 200, 2) := by decide +kernel
theorem dJ8_newLength_cabcc_16 : decode cJ8_newLength_cabcc 16 = .ok (.if_icmp .gt 5, 3) := by decide +kernel
theorem dJ8_newLength_cabcc_19 : decode cJ8_newLength_cabcc 19 = .ok (.iload_n 3, 1) := by decide +kernel
theorem dJ8_newLength_cabcc_20 : decode cJ8_newLength_cabcc 20 = .ok (.ireturn, 1) := by decide +kernel
theorem dJ8_newLength_cabcc_21 : decode cJ8_newLength_cabcc 21 = .ok (.iload_n 0, 1) := by decide +kernel
theorem dJ8_newLength_cabcc_22 : decode cJ8_newLength_cabcc 22 = .ok (.iload_n 1, 1) := by decide +kernel
theorem dJ8_newLength_cabcc_23 : decode cJ8_newLength_cabcc 23 = .ok (.invokestatic 201, 3) := by decide +kernel
theorem dJ8_newLength_cabcc_26 : decode cJ8_newLength_cabcc 26 = .ok (.ireturn, 1) := by decide +kernel
theorem dJ8_hugeLength_7cf53_0 : decode cJ8_hugeLength_7cf53 0 = .ok (.iload_n 0, 1) := by decide +kernel
theorem dJ8_hugeLength_7cf53_1 : decode cJ8_hugeLength_7cf53 1 = .ok (.iload_n 1, 1) := by decide +kernel
theorem dJ8_hugeLength_7cf53_2 : decode cJ8_hugeLength_7cf53 2 = .ok (.iadd, 1) := by decide +kernel
theorem dJ8_hugeLength_7cf53_3 : decode cJ8_hugeLength_7cf53 3 = .ok (.istore_n 2, 1) := by decide +kernel
theorem dJ8_hugeLength_7cf53_4 : decode cJ8_hugeLength_7cf53 4 = .ok (.iload_n 2, 1) := by decide +kernel
theorem dJ8_hugeLength_7cf53_5 : decode cJ8_hugeLength_7cf53 5 = .ok (.ifCond .ge 44, 3) := by decide +kernel
theorem dJ8_hugeLength_7cf53_8 : decode cJ8_hugeLength_7cf53 8 = .ok (.new 204, 3) := by decide +kernel
theorem dJ8_hugeLength_7cf53_11 : decode cJ8_hugeLength_7cf53 11 = .ok (.dup, 1) := by decide +kernel
theorem dJ8_hugeLength_7cf53_12 : decode cJ8_hugeLength_7cf53 12 = .ok (.new 89, 3) := by decide +kernel
theorem dJ8_hugeLength_7cf53_15 : decode cJ8_hugeLength_7cf53 15 = .ok (.dup, 1) := by decide +kernel
theorem dJ8_hugeLength_7cf53_16 : decode cJ8_hugeLength_7cf53 16 = .ok (.invokespecial 91, 3) := by decide +kernel
theorem dJ8_hugeLength_7cf53_19 : decode cJ8_hugeLength_7cf53 19 = .ok (.ldc 206, 2) := by decide +kernel
theorem dJ8_hugeLength_7cf53_21 : decode cJ8_hugeLength_7cf53 21 = .ok (.invokevirtual 94, 3) := by decide +kernel
theorem dJ8_hugeLength_7cf53_24 : decode cJ8_hugeLength_7cf53 24 = .ok (.iload_n 0, 1) := by decide +kernel
theorem dJ8_hugeLength_7cf53_25 : decode cJ8_hugeLength_7cf53 25 = .ok (.invokevirtual 98, 3) := by decide +kernel
theorem dJ8_hugeLength_7cf53_28 : decode cJ8_hugeLength_7cf53 28 = .ok (.ldc 208, 2) := by decide +kernel
theorem dJ8_hugeLength_7cf53_30 : decode cJ8_hugeLength_7cf53 30 = .ok (.invokevirtual 94, 3) := by decide +kernel
theorem dJ8_hugeLength_7cf53_33 : decode cJ8_hugeLength_7cf53 33 = .ok (.iload_n 1, 1) := by decide +kernel
theorem dJ8_hugeLength_7cf53_34 : decode cJ8_hugeLength_7cf53 34 = .ok (.invokevirtual 98, 3) := by decide +kernel
theorem dJ8_hugeLength_7cf53_37 : decode cJ8_hugeLength_7cf53 37 = .ok (.ldc 210, 2) := by decide +kernel
theorem dJ8_hugeLength_7cf53_39 : decode cJ8_hugeLength_7cf53 39 = .ok (.invokevirtual 94, 3) := by decide +kernel
theorem dJ8_hugeLength_7cf53_42 : decode cJ8_hugeLength_7cf53 42 = .ok (.invokevirtual 101, 3) := by decide +kernel
theorem dJ8_hugeLength_7cf53_45 : decode cJ8_hugeLength_7cf53 45 = .ok (.invokespecial 212, 3) := by decide +kernel
theorem dJ8_hugeLength_7cf53_48 : decode cJ8_hugeLength_7cf53 48 = .ok (.athrow, 1) := by decide +kernel
theorem dJ8_hugeLength_7cf53_49 : decode cJ8_hugeLength_7cf53 49 = .ok (.iload_n 2, 1) := by decide +kernel
theorem dJ8_hugeLength_7cf53_50 : decode cJ8_hugeLength_7cf53 50 = .ok (.ldc 200, 2) := by decide +kernel
theorem dJ8_hugeLength_7cf53_52 : decode cJ8_hugeLength_7cf53 52 = .ok (.if_icmp .gt 6, 3) := by decide +kernel
theorem dJ8_hugeLength_7cf53_55 : decode cJ8_hugeLength_7cf53 55 = .ok (.ldc 200, 2) := by decide +kernel
theorem dJ8_hugeLength_7cf53_57 : decode cJ8_hugeLength_7cf53 57 = .ok (.ireturn, 1) := by decide +kernel
theorem dJ8_hugeLength_7cf53_58 : decode cJ8_hugeLength_7cf53 58 = .ok (.iload_n 2, 1) := by decide +kernel
theorem dJ8_hugeLength_7cf53_59 : decode cJ8_hugeLength_7cf53 59 = .ok (.ireturn, 1) := by decide +kernel
theorem dJ3_checkIndex_8e157_0 : decode cJ3_checkIndex_8e157 0 = .ok (.iload_n 0, 1) := by decide +kernel
theorem dJ3_checkIndex_8e157_1 : decode cJ3_checkIndex_8e157 1 = .ok (.ifCond .lt 8, 3) := by decide +kernel
theorem dJ3_checkIndex_8e157_4 : decode cJ3_checkIndex_8e157 4 = .ok (.iload_n 0, 1) := by decide +kernel
theorem dJ3_checkIndex_8e157_5 : decode cJ3_checkIndex_8e157 5 = .ok (.iload_n 1, 1) := by decide +kernel
theorem dJ3_checkIndex_8e157_6 : decode cJ3_checkIndex_8e157 6 = .ok (.if_icmp .lt 10, 3) := by decide +kernel
theorem dJ3_checkIndex_8e157_9 : decode cJ3_checkIndex_8e157 9 = .ok (.aload_n 2, 1) := by decide +kernel
theorem dJ3_checkIndex_8e157_10 : decode cJ3_checkIndex_8e157 10 = .ok (.iload_n 0, 1) := by decide +kernel
theorem dJ3_checkIndex_8e157_11 : decode cJ3_checkIndex_8e157 11 = .ok (.iload_n 1, 1) := by decide +kernel
theorem dJ3_checkIndex_8e157_12 : decode cJ3_checkIndex_8e157 12 = .ok (.invokestatic 95, 3) := by decide +kernel
theorem dJ3_checkIndex_8e157_15 : decode cJ3_checkIndex_8e157 15 = .ok (.athrow, 1) := by decide +kernel
theorem dJ3_checkIndex_8e157_16 : decode cJ3_checkIndex_8e157 16 = .ok (.iload_n 0, 1) := by decide +kernel
theorem dJ3_checkIndex_8e157_17 : decode cJ3_checkIndex_8e157 17 = .ok (.ireturn, 1) := by decide +kernel
theorem dJ3_checkFromToIndex_8c36e_0 : decode cJ3_checkFromToIndex_8c36e 0 = .ok (.iload_n 0, 1) := by decide +kernel
theorem dJ3_checkFromToIndex_8c36e_1 : decode cJ3_checkFromToIndex_8c36e 1 = .ok (.ifCond .lt 13, 3) := by decide +kernel
theorem dJ3_checkFromToIndex_8c36e_4 : decode cJ3_checkFromToIndex_8c36e 4 = .ok (.iload_n 0, 1) := by decide +kernel
theorem dJ3_checkFromToIndex_8c36e_5 : decode cJ3_checkFromToIndex_8c36e 5 = .ok (.iload_n 1, 1) := by decide +kernel
theorem dJ3_checkFromToIndex_8c36e_6 : decode cJ3_checkFromToIndex_8c36e 6 = .ok (.if_icmp .gt 8, 3) := by decide +kernel
theorem dJ3_checkFromToIndex_8c36e_9 : decode cJ3_checkFromToIndex_8c36e 9 = .ok (.iload_n 1, 1) := by decide +kernel
theorem dJ3_checkFromToIndex_8c36e_10 : decode cJ3_checkFromToIndex_8c36e 10 = .ok (.iload_n 2, 1) := by decide +kernel
theorem dJ3_checkFromToIndex_8c36e_11 : decode cJ3_checkFromToIndex_8c36e 11 = .ok (.if_icmp .le 11, 3) := by decide +kernel
theorem dJ3_checkFromToIndex_8c36e_14 : decode cJ3_checkFromToIndex_8c36e 14 = .ok (.aload_n 3, 1) := by decide +kernel
theorem dJ3_checkFromToIndex_8c36e_15 : decode cJ3_checkFromToIndex_8c36e 15 = .ok (.iload_n 0, 1) := by decide +kernel
theorem dJ3_checkFromToIndex_8c36e_16 : decode cJ3_checkFromToIndex_8c36e 16 = .ok (.iload_n 1, 1) := by decide +kernel
theorem dJ3_checkFromToIndex_8c36e_17 : decode cJ3_checkFromToIndex_8c36e 17 = .ok (.iload_n 2, 1) := by decide +kernel
theorem dJ3_checkFromToIndex_8c36e_18 : decode cJ3_checkFromToIndex_8c36e 18 = .ok (.invokestatic 99, 3) := by decide +kernel
theorem dJ3_checkFromToIndex_8c36e_21 : decode cJ3_checkFromToIndex_8c36e 21 = .ok (.athrow, 1) := by decide +kernel
theorem dJ3_checkFromToIndex_8c36e_22 : decode cJ3_checkFromToIndex_8c36e 22 = .ok (.iload_n 0, 1) := by decide +kernel
theorem dJ3_checkFromToIndex_8c36e_23 : decode cJ3_checkFromToIndex_8c36e 23 = .ok (.ireturn, 1) := by decide +kernel
theorem dJ3_checkFromIndexSize_8c36e_0 : decode cJ3_checkFromIndexSize_8c36e 0 = .ok (.iload_n 2, 1) := by decide +kernel
theorem dJ3_checkFromIndexSize_8c36e_1 : decode cJ3_checkFromIndexSize_8c36e 1 = .ok (.iload_n 0, 1) := by decide +kernel
theorem dJ3_checkFromIndexSize_8c36e_2 : decode cJ3_checkFromIndexSize_8c36e 2 = .ok (.ior, 1) := by decide +kernel
theorem dJ3_checkFromIndexSize_8c36e_3 : decode cJ3_checkFromIndexSize_8c36e 3 = .ok (.iload_n 1, 1) := by decide +kernel
theorem dJ3_checkFromIndexSize_8c36e_4 : decode cJ3_checkFromIndexSize_8c36e 4 = .ok (.ior, 1) := by decide +kernel
theorem dJ3_checkFromIndexSize_8c36e_5 : decode cJ3_checkFromIndexSize_8c36e 5 = .ok (.ifCond .lt 10, 3) := by decide +kernel
theorem dJ3_checkFromIndexSize_8c36e_8 : decode cJ3_checkFromIndexSize_8c36e 8 = .ok (.iload_n 1, 1) := by decide +kernel
theorem dJ3_checkFromIndexSize_8c36e_9 : decode cJ3_checkFromIndexSize_8c36e 9 = .ok (.iload_n 2, 1) := by decide +kernel
theorem dJ3_checkFromIndexSize_8c36e_10 : decode cJ3_checkFromIndexSize_8c36e 10 = .ok (.iload_n 0, 1) := by decide +kernel
theorem dJ3_checkFromIndexSize_8c36e_11 : decode cJ3_checkFromIndexSize_8c36e 11 = .ok (.isub, 1) := by decide +kernel
theorem dJ3_checkFromIndexSize_8c36e_12 : decode cJ3_checkFromIndexSize_8c36e 12 = .ok (.if_icmp .le 11, 3) := by decide +kernel
theorem dJ3_checkFromIndexSize_8c36e_15 : decode cJ3_checkFromIndexSize_8c36e 15 = .ok (.aload_n 3, 1) := by decide +kernel
theorem dJ3_checkFromIndexSize_8c36e_16 : decode cJ3_checkFromIndexSize_8c36e 16 = .ok (.iload_n 0, 1) := by decide +kernel
theorem dJ3_checkFromIndexSize_8c36e_17 : decode cJ3_checkFromIndexSize_8c36e 17 = .ok (.iload_n 1, 1) := by decide +kernel
theorem dJ3_checkFromIndexSize_8c36e_18 : decode cJ3_checkFromIndexSize_8c36e 18 = .ok (.iload_n 2, 1) := by decide +kernel
theorem dJ3_checkFromIndexSize_8c36e_19 : decode cJ3_checkFromIndexSize_8c36e 19 = .ok (.invokestatic 103, 3) := by decide +kernel
theorem dJ3_checkFromIndexSize_8c36e_22 : decode cJ3_checkFromIndexSize_8c36e 22 = .ok (.athrow, 1) := by decide +kernel
theorem dJ3_checkFromIndexSize_8c36e_23 : decode cJ3_checkFromIndexSize_8c36e 23 = .ok (.iload_n 0, 1) := by decide +kernel
theorem dJ3_checkFromIndexSize_8c36e_24 : decode cJ3_checkFromIndexSize_8c36e 24 = .ok (.ireturn, 1) := by decide +kernel
theorem dL_cell_0 : decode cL_cell 0 = .ok (.aload_n 0, 1) := by decide +kernel
theorem dL_cell_1 : decode cL_cell 1 = .ok (.arraylength, 1) := by decide +kernel
theorem dL_cell_2 : decode cL_cell 2 = .ok (.ifCond .ne 11, 3) := by decide +kernel
theorem dL_cell_5 : decode cL_cell 5 = .ok (.sipush 577, 3) := by decide +kernel
theorem dL_cell_8 : decode cL_cell 8 = .ok (.iload_n 1, 1) := by decide +kernel
theorem dL_cell_9 : decode cL_cell 9 = .ok (.imul, 1) := by decide +kernel
theorem dL_cell_10 : decode cL_cell 10 = .ok (.goto 12, 3) := by decide +kernel
theorem dL_cell_13 : decode cL_cell 13 = .ok (.aload_n 0, 1) := by decide +kernel
theorem dL_cell_14 : decode cL_cell 14 = .ok (.iload_n 1, 1) := by decide +kernel
theorem dL_cell_15 : decode cL_cell 15 = .ok (.ldc 7, 2) := by decide +kernel
theorem dL_cell_17 : decode cL_cell 17 = .ok (.iand, 1) := by decide +kernel
theorem dL_cell_18 : decode cL_cell 18 = .ok (.aload_n 0, 1) := by decide +kernel
theorem dL_cell_19 : decode cL_cell 19 = .ok (.arraylength, 1) := by decide +kernel
theorem dL_cell_20 : decode cL_cell 20 = .ok (.irem, 1) := by decide +kernel
theorem dL_cell_21 : decode cL_cell 21 = .ok (.iaload, 1) := by decide +kernel
theorem dL_cell_22 : decode cL_cell 22 = .ok (.ireturn, 1) := by decide +kernel
theorem dL_addPhase_0 : decode cL_addPhase 0 = .ok (.ldc 10, 2) := by decide +kernel
theorem dL_addPhase_2 : decode cL_addPhase 2 = .ok (.istore 4, 2) := by decide +kernel
theorem dL_addPhase_4 : decode cL_addPhase 4 = .ok (.aload_n 0, 1) := by decide +kernel
theorem dL_addPhase_5 : decode cL_addPhase 5 = .ok (.iload_n 1, 1) := by decide +kernel
theorem dL_addPhase_6 : decode cL_addPhase 6 = .ok (.iload_n 2, 1) := by decide +kernel
theorem dL_addPhase_7 : decode cL_addPhase 7 = .ok (.iload_n 3, 1) := by decide +kernel
theorem dL_addPhase_8 : decode cL_addPhase 8 = .ok (.invokevirtual 11, 3) := by decide +kernel
theorem dL_addPhase_11 : decode cL_addPhase 11 = .ok (.istore 4, 2) := by decide +kernel
theorem dL_addPhase_13 : decode cL_addPhase 13 = .ok (.goto 13, 3) := by decide +kernel
theorem dL_addPhase_16 : decode cL_addPhase 16 = .ok (.astore 5, 2) := by decide +kernel
theorem dL_addPhase_18 : decode cL_addPhase 18 = .ok (.ldc 10, 2) := by decide +kernel
theorem dL_addPhase_20 : decode cL_addPhase 20 = .ok (.ireturn, 1) := by decide +kernel
theorem dL_addPhase_21 : decode cL_addPhase 21 = .ok (.astore 5, 2) := by decide +kernel
theorem dL_addPhase_23 : decode cL_addPhase 23 = .ok (.ldc 10, 2) := by decide +kernel
theorem dL_addPhase_25 : decode cL_addPhase 25 = .ok (.ireturn, 1) := by decide +kernel
theorem dL_addPhase_26 : decode cL_addPhase 26 = .ok (.iload 4, 2) := by decide +kernel
theorem dL_addPhase_28 : decode cL_addPhase 28 = .ok (.ireturn, 1) := by decide +kernel
theorem dL_removePhase_0 : decode cL_removePhase 0 = .ok (.ldc 10, 2) := by decide +kernel
theorem dL_removePhase_2 : decode cL_removePhase 2 = .ok (.istore_n 2, 1) := by decide +kernel
theorem dL_removePhase_3 : decode cL_removePhase 3 = .ok (.aload_n 0, 1) := by decide +kernel
theorem dL_removePhase_4 : decode cL_removePhase 4 = .ok (.iload_n 1, 1) := by decide +kernel
theorem dL_removePhase_5 : decode cL_removePhase 5 = .ok (.invokevirtual 21, 3) := by decide +kernel
theorem dL_removePhase_8 : decode cL_removePhase 8 = .ok (.istore_n 2, 1) := by decide +kernel
theorem dL_removePhase_9 : decode cL_removePhase 9 = .ok (.goto 11, 3) := by decide +kernel
theorem dL_removePhase_12 : decode cL_removePhase 12 = .ok (.astore_n 3, 1) := by decide +kernel
theorem dL_removePhase_13 : decode cL_removePhase 13 = .ok (.ldc 10, 2) := by decide +kernel
theorem dL_removePhase_15 : decode cL_removePhase 15 = .ok (.ireturn, 1) := by decide +kernel
theorem dL_removePhase_16 : decode cL_removePhase 16 = .ok (.astore_n 3, 1) := by decide +kernel
theorem dL_removePhase_17 : decode cL_removePhase 17 = .ok (.ldc 10, 2) := by decide +kernel
theorem dL_removePhase_19 : decode cL_removePhase 19 = .ok (.ireturn, 1) := by decide +kernel
theorem dL_removePhase_20 : decode cL_removePhase 20 = .ok (.iload_n 2, 1) := by decide +kernel
theorem dL_removePhase_21 : decode cL_removePhase 21 = .ok (.ireturn, 1) := by decide +kernel
theorem dL_start_0 : decode cL_start 0 = .ok (.ldc 10, 2) := by decide +kernel
theorem dL_start_2 : decode cL_start 2 = .ok (.istore_n 1, 1) := by decide +kernel
theorem dL_start_3 : decode cL_start 3 = .ok (.aload_n 0, 1) := by decide +kernel
theorem dL_start_4 : decode cL_start 4 = .ok (.invokevirtual 27, 3) := by decide +kernel
theorem dL_start_7 : decode cL_start 7 = .ok (.istore_n 1, 1) := by decide +kernel
theorem dL_start_8 : decode cL_start 8 = .ok (.goto 7, 3) := by decide +kernel
theorem dL_start_11 : decode cL_start 11 = .ok (.astore_n 2, 1) := by decide +kernel
theorem dL_start_12 : decode cL_start 12 = .ok (.ldc 10, 2) := by decide +kernel
theorem dL_start_14 : decode cL_start 14 = .ok (.ireturn, 1) := by decide +kernel
theorem dL_start_15 : decode cL_start 15 = .ok (.iload_n 1, 1) := by decide +kernel
theorem dL_start_16 : decode cL_start 16 = .ok (.ireturn, 1) := by decide +kernel
theorem dL_stop_0 : decode cL_stop 0 = .ok (.ldc 10, 2) := by decide +kernel
theorem dL_stop_2 : decode cL_stop 2 = .ok (.istore_n 1, 1) := by decide +kernel
theorem dL_stop_3 : decode cL_stop 3 = .ok (.aload_n 0, 1) := by decide +kernel
theorem dL_stop_4 : decode cL_stop 4 = .ok (.invokevirtual 31, 3) := by decide +kernel
theorem dL_stop_7 : decode cL_stop 7 = .ok (.istore_n 1, 1) := by decide +kernel
theorem dL_stop_8 : decode cL_stop 8 = .ok (.goto 7, 3) := by decide +kernel
theorem dL_stop_11 : decode cL_stop 11 = .ok (.astore_n 2, 1) := by decide +kernel
theorem dL_stop_12 : decode cL_stop 12 = .ok (.ldc 10, 2) := by decide +kernel
theorem dL_stop_14 : decode cL_stop 14 = .ok (.ireturn, 1) := by decide +kernel
theorem dL_stop_15 : decode cL_stop 15 = .ok (.iload_n 1, 1) := by decide +kernel
theorem dL_stop_16 : decode cL_stop 16 = .ok (.ireturn, 1) := by decide +kernel
theorem dL_run_0 : decode cL_run 0 = .ok (.ldc 10, 2) := by decide +kernel
theorem dL_run_2 : decode cL_run 2 = .ok (.istore_n 2, 1) := by decide +kernel
theorem dL_run_3 : decode cL_run 3 = .ok (.aload_n 0, 1) := by decide +kernel
theorem dL_run_4 : decode cL_run 4 = .ok (.iload_n 1, 1) := by decide +kernel
theorem dL_run_5 : decode cL_run 5 = .ok (.invokevirtual 34, 3) := by decide +kernel
theorem dL_run_8 : decode cL_run 8 = .ok (.istore_n 2, 1) := by decide +kernel
theorem dL_run_9 : decode cL_run 9 = .ok (.goto 7, 3) := by decide +kernel
theorem dL_run_12 : decode cL_run 12 = .ok (.astore_n 3, 1) := by decide +kernel
theorem dL_run_13 : decode cL_run 13 = .ok (.ldc 10, 2) := by decide +kernel
theorem dL_run_15 : decode cL_run 15 = .ok (.ireturn, 1) := by decide +kernel
theorem dL_run_16 : decode cL_run 16 = .ok (.iload_n 2, 1) := by decide +kernel
theorem dL_run_17 : decode cL_run 17 = .ok (.ireturn, 1) := by decide +kernel
theorem dL_load_0 : decode cL_load 0 = .ok (.ldc 10, 2) := by decide +kernel
theorem dL_load_2 : decode cL_load 2 = .ok (.istore_n 2, 1) := by decide +kernel
theorem dL_load_3 : decode cL_load 3 = .ok (.aload_n 0, 1) := by decide +kernel
theorem dL_load_4 : decode cL_load 4 = .ok (.iload_n 1, 1) := by decide +kernel
theorem dL_load_5 : decode cL_load 5 = .ok (.invokevirtual 37, 3) := by decide +kernel
theorem dL_load_8 : decode cL_load 8 = .ok (.istore_n 2, 1) := by decide +kernel
theorem dL_load_9 : decode cL_load 9 = .ok (.goto 11, 3) := by decide +kernel
theorem dL_load_12 : decode cL_load 12 = .ok (.astore_n 3, 1) := by decide +kernel
theorem dL_load_13 : decode cL_load 13 = .ok (.ldc 10, 2) := by decide +kernel
theorem dL_load_15 : decode cL_load 15 = .ok (.ireturn, 1) := by decide +kernel
theorem dL_load_16 : decode cL_load 16 = .ok (.astore_n 3, 1) := by decide +kernel
theorem dL_load_17 : decode cL_load 17 = .ok (.ldc 10, 2) := by decide +kernel
theorem dL_load_19 : decode cL_load 19 = .ok (.ireturn, 1) := by decide +kernel
theorem dL_load_20 : decode cL_load 20 = .ok (.iload_n 2, 1) := by decide +kernel
theorem dL_load_21 : decode cL_load 21 = .ok (.ireturn, 1) := by decide +kernel
theorem dL_press_0 : decode cL_press 0 = .ok (.ldc 10, 2) := by decide +kernel
theorem dL_press_2 : decode cL_press 2 = .ok (.istore_n 2, 1) := by decide +kernel
theorem dL_press_3 : decode cL_press 3 = .ok (.aload_n 0, 1) := by decide +kernel
theorem dL_press_4 : decode cL_press 4 = .ok (.iload_n 1, 1) := by decide +kernel
theorem dL_press_5 : decode cL_press 5 = .ok (.invokevirtual 40, 3) := by decide +kernel
theorem dL_press_8 : decode cL_press 8 = .ok (.istore_n 2, 1) := by decide +kernel
theorem dL_press_9 : decode cL_press 9 = .ok (.goto 11, 3) := by decide +kernel
theorem dL_press_12 : decode cL_press 12 = .ok (.astore_n 3, 1) := by decide +kernel
theorem dL_press_13 : decode cL_press 13 = .ok (.ldc 10, 2) := by decide +kernel
theorem dL_press_15 : decode cL_press 15 = .ok (.ireturn, 1) := by decide +kernel
theorem dL_press_16 : decode cL_press 16 = .ok (.astore_n 3, 1) := by decide +kernel
theorem dL_press_17 : decode cL_press 17 = .ok (.ldc 10, 2) := by decide +kernel
theorem dL_press_19 : decode cL_press 19 = .ok (.ireturn, 1) := by decide +kernel
theorem dL_press_20 : decode cL_press 20 = .ok (.iload_n 2, 1) := by decide +kernel
theorem dL_press_21 : decode cL_press 21 = .ok (.ireturn, 1) := by decide +kernel
theorem dL_gradePat_0 : decode cL_gradePat 0 = .ok (.ldc 10, 2) := by decide +kernel
theorem dL_gradePat_2 : decode cL_gradePat 2 = .ok (.istore_n 2, 1) := by decide +kernel
theorem dL_gradePat_3 : decode cL_gradePat 3 = .ok (.aload_n 0, 1) := by decide +kernel
theorem dL_gradePat_4 : decode cL_gradePat 4 = .ok (.iload_n 1, 1) := by decide +kernel
theorem dL_gradePat_5 : decode cL_gradePat 5 = .ok (.invokevirtual 43, 3) := by decide +kernel
theorem dL_gradePat_8 : decode cL_gradePat 8 = .ok (.istore_n 2, 1) := by decide +kernel
theorem dL_gradePat_9 : decode cL_gradePat 9 = .ok (.goto 11, 3) := by decide +kernel
theorem dL_gradePat_12 : decode cL_gradePat 12 = .ok (.astore_n 3, 1) := by decide +kernel
theorem dL_gradePat_13 : decode cL_gradePat 13 = .ok (.ldc 10, 2) := by decide +kernel
theorem dL_gradePat_15 : decode cL_gradePat 15 = .ok (.ireturn, 1) := by decide +kernel
theorem dL_gradePat_16 : decode cL_gradePat 16 = .ok (.astore_n 3, 1) := by decide +kernel
theorem dL_gradePat_17 : decode cL_gradePat 17 = .ok (.ldc 10, 2) := by decide +kernel
theorem dL_gradePat_19 : decode cL_gradePat 19 = .ok (.ireturn, 1) := by decide +kernel
theorem dL_gradePat_20 : decode cL_gradePat 20 = .ok (.iload_n 2, 1) := by decide +kernel
theorem dL_gradePat_21 : decode cL_gradePat 21 = .ok (.ireturn, 1) := by decide +kernel
theorem dL_crush_0 : decode cL_crush 0 = .ok (.ldc 10, 2) := by decide +kernel
theorem dL_crush_2 : decode cL_crush 2 = .ok (.istore_n 2, 1) := by decide +kernel
theorem dL_crush_3 : decode cL_crush 3 = .ok (.aload_n 0, 1) := by decide +kernel
theorem dL_crush_4 : decode cL_crush 4 = .ok (.iload_n 1, 1) := by decide +kernel
theorem dL_crush_5 : decode cL_crush 5 = .ok (.invokevirtual 47, 3) := by decide +kernel
theorem dL_crush_8 : decode cL_crush 8 = .ok (.istore_n 2, 1) := by decide +kernel
theorem dL_crush_9 : decode cL_crush 9 = .ok (.goto 11, 3) := by decide +kernel
theorem dL_crush_12 : decode cL_crush 12 = .ok (.astore_n 3, 1) := by decide +kernel
theorem dL_crush_13 : decode cL_crush 13 = .ok (.ldc 10, 2) := by decide +kernel
theorem dL_crush_15 : decode cL_crush 15 = .ok (.ireturn, 1) := by decide +kernel
theorem dL_crush_16 : decode cL_crush 16 = .ok (.astore_n 3, 1) := by decide +kernel
theorem dL_crush_17 : decode cL_crush 17 = .ok (.ldc 10, 2) := by decide +kernel
theorem dL_crush_19 : decode cL_crush 19 = .ok (.ireturn, 1) := by decide +kernel
theorem dL_crush_20 : decode cL_crush 20 = .ok (.iload_n 2, 1) := by decide +kernel
theorem dL_crush_21 : decode cL_crush 21 = .ok (.ireturn, 1) := by decide +kernel
theorem dL_presentPhase_0 : decode cL_presentPhase 0 = .ok (.sipush (-1000), 3) := by decide +kernel
theorem dL_presentPhase_3 : decode cL_presentPhase 3 = .ok (.istore_n 1, 1) := by decide +kernel
theorem dL_presentPhase_4 : decode cL_presentPhase 4 = .ok (.aload_n 0, 1) := by decide +kernel
theorem dL_presentPhase_5 : decode cL_presentPhase 5 = .ok (.invokevirtual 50, 3) := by decide +kernel
theorem dL_presentPhase_8 : decode cL_presentPhase 8 = .ok (.istore_n 1, 1) := by decide +kernel
theorem dL_presentPhase_9 : decode cL_presentPhase 9 = .ok (.goto 8, 3) := by decide +kernel
theorem dL_presentPhase_12 : decode cL_presentPhase 12 = .ok (.astore_n 2, 1) := by decide +kernel
theorem dL_presentPhase_13 : decode cL_presentPhase 13 = .ok (.sipush (-1000), 3) := by decide +kernel
theorem dL_presentPhase_16 : decode cL_presentPhase 16 = .ok (.ireturn, 1) := by decide +kernel
theorem dL_presentPhase_17 : decode cL_presentPhase 17 = .ok (.iload_n 1, 1) := by decide +kernel
theorem dL_presentPhase_18 : decode cL_presentPhase 18 = .ok (.ireturn, 1) := by decide +kernel
theorem dL_patByFirmness_0 : decode cL_patByFirmness 0 = .ok (.sipush (-1000), 3) := by decide +kernel
theorem dL_patByFirmness_3 : decode cL_patByFirmness 3 = .ok (.istore_n 2, 1) := by decide +kernel
theorem dL_patByFirmness_4 : decode cL_patByFirmness 4 = .ok (.aload_n 0, 1) := by decide +kernel
theorem dL_patByFirmness_5 : decode cL_patByFirmness 5 = .ok (.iload_n 1, 1) := by decide +kernel
theorem dL_patByFirmness_6 : decode cL_patByFirmness 6 = .ok (.invokevirtual 55, 3) := by decide +kernel
theorem dL_patByFirmness_9 : decode cL_patByFirmness 9 = .ok (.istore_n 2, 1) := by decide +kernel
theorem dL_patByFirmness_10 : decode cL_patByFirmness 10 = .ok (.goto 8, 3) := by decide +kernel
theorem dL_patByFirmness_13 : decode cL_patByFirmness 13 = .ok (.astore_n 3, 1) := by decide +kernel
theorem dL_patByFirmness_14 : decode cL_patByFirmness 14 = .ok (.sipush (-1000), 3) := by decide +kernel
theorem dL_patByFirmness_17 : decode cL_patByFirmness 17 = .ok (.ireturn, 1) := by decide +kernel
theorem dL_patByFirmness_18 : decode cL_patByFirmness 18 = .ok (.iload_n 2, 1) := by decide +kernel
theorem dL_patByFirmness_19 : decode cL_patByFirmness 19 = .ok (.ireturn, 1) := by decide +kernel
theorem dL_nextCool_0 : decode cL_nextCool 0 = .ok (.sipush (-1000), 3) := by decide +kernel
theorem dL_nextCool_3 : decode cL_nextCool 3 = .ok (.istore_n 2, 1) := by decide +kernel
theorem dL_nextCool_4 : decode cL_nextCool 4 = .ok (.aload_n 0, 1) := by decide +kernel
theorem dL_nextCool_5 : decode cL_nextCool 5 = .ok (.iload_n 1, 1) := by decide +kernel
theorem dL_nextCool_6 : decode cL_nextCool 6 = .ok (.invokevirtual 58, 3) := by decide +kernel
theorem dL_nextCool_9 : decode cL_nextCool 9 = .ok (.istore_n 2, 1) := by decide +kernel
theorem dL_nextCool_10 : decode cL_nextCool 10 = .ok (.goto 13, 3) := by decide +kernel
theorem dL_nextCool_13 : decode cL_nextCool 13 = .ok (.astore_n 3, 1) := by decide +kernel
theorem dL_nextCool_14 : decode cL_nextCool 14 = .ok (.sipush (-1000), 3) := by decide +kernel
theorem dL_nextCool_17 : decode cL_nextCool 17 = .ok (.ireturn, 1) := by decide +kernel
theorem dL_nextCool_18 : decode cL_nextCool 18 = .ok (.astore_n 3, 1) := by decide +kernel
theorem dL_nextCool_19 : decode cL_nextCool 19 = .ok (.sipush (-1000), 3) := by decide +kernel
theorem dL_nextCool_22 : decode cL_nextCool 22 = .ok (.ireturn, 1) := by decide +kernel
theorem dL_nextCool_23 : decode cL_nextCool 23 = .ok (.iload_n 2, 1) := by decide +kernel
theorem dL_nextCool_24 : decode cL_nextCool 24 = .ok (.ireturn, 1) := by decide +kernel
theorem dL_meanFirmness_0 : decode cL_meanFirmness 0 = .ok (.ldc2_w 61, 3) := by decide +kernel
theorem dL_meanFirmness_3 : decode cL_meanFirmness 3 = .ok (.dstore_n 1, 1) := by decide +kernel
theorem dL_meanFirmness_4 : decode cL_meanFirmness 4 = .ok (.aload_n 0, 1) := by decide +kernel
theorem dL_meanFirmness_5 : decode cL_meanFirmness 5 = .ok (.invokevirtual 63, 3) := by decide +kernel
theorem dL_meanFirmness_8 : decode cL_meanFirmness 8 = .ok (.dstore_n 1, 1) := by decide +kernel
theorem dL_meanFirmness_9 : decode cL_meanFirmness 9 = .ok (.goto 8, 3) := by decide +kernel
theorem dL_meanFirmness_12 : decode cL_meanFirmness 12 = .ok (.astore_n 3, 1) := by decide +kernel
theorem dL_meanFirmness_13 : decode cL_meanFirmness 13 = .ok (.ldc2_w 61, 3) := by decide +kernel
theorem dL_meanFirmness_16 : decode cL_meanFirmness 16 = .ok (.dreturn, 1) := by decide +kernel
theorem dL_meanFirmness_17 : decode cL_meanFirmness 17 = .ok (.dload_n 1, 1) := by decide +kernel
theorem dL_meanFirmness_18 : decode cL_meanFirmness 18 = .ok (.dreturn, 1) := by decide +kernel
theorem dL_coolShare_0 : decode cL_coolShare 0 = .ok (.ldc 69, 2) := by decide +kernel
theorem dL_coolShare_2 : decode cL_coolShare 2 = .ok (.fstore_n 1, 1) := by decide +kernel
theorem dL_coolShare_3 : decode cL_coolShare 3 = .ok (.aload_n 0, 1) := by decide +kernel
theorem dL_coolShare_4 : decode cL_coolShare 4 = .ok (.invokevirtual 70, 3) := by decide +kernel
theorem dL_coolShare_7 : decode cL_coolShare 7 = .ok (.fstore_n 1, 1) := by decide +kernel
theorem dL_coolShare_8 : decode cL_coolShare 8 = .ok (.goto 7, 3) := by decide +kernel
theorem dL_coolShare_11 : decode cL_coolShare 11 = .ok (.astore_n 2, 1) := by decide +kernel
theorem dL_coolShare_12 : decode cL_coolShare 12 = .ok (.ldc 69, 2) := by decide +kernel
theorem dL_coolShare_14 : decode cL_coolShare 14 = .ok (.freturn, 1) := by decide +kernel
theorem dL_coolShare_15 : decode cL_coolShare 15 = .ok (.fload_n 1, 1) := by decide +kernel
theorem dL_coolShare_16 : decode cL_coolShare 16 = .ok (.freturn, 1) := by decide +kernel
theorem dL_execute_0 : decode cL_execute 0 = .ok (.ldc 10, 2) := by decide +kernel
theorem dL_execute_2 : decode cL_execute 2 = .ok (.istore_n 1, 1) := by decide +kernel
theorem dL_execute_3 : decode cL_execute 3 = .ok (.aload_n 0, 1) := by decide +kernel
theorem dL_execute_4 : decode cL_execute 4 = .ok (.invokevirtual 74, 3) := by decide +kernel
theorem dL_execute_7 : decode cL_execute 7 = .ok (.istore_n 1, 1) := by decide +kernel
theorem dL_execute_8 : decode cL_execute 8 = .ok (.goto 11, 3) := by decide +kernel
theorem dL_execute_11 : decode cL_execute 11 = .ok (.astore_n 2, 1) := by decide +kernel
theorem dL_execute_12 : decode cL_execute 12 = .ok (.ldc 10, 2) := by decide +kernel
theorem dL_execute_14 : decode cL_execute 14 = .ok (.ireturn, 1) := by decide +kernel
theorem dL_execute_15 : decode cL_execute 15 = .ok (.astore_n 2, 1) := by decide +kernel
theorem dL_execute_16 : decode cL_execute 16 = .ok (.ldc 10, 2) := by decide +kernel
theorem dL_execute_18 : decode cL_execute 18 = .ok (.ireturn, 1) := by decide +kernel
theorem dL_execute_19 : decode cL_execute 19 = .ok (.iload_n 1, 1) := by decide +kernel
theorem dL_execute_20 : decode cL_execute 20 = .ok (.ireturn, 1) := by decide +kernel
theorem dL_denial_0 : decode cL_denial 0 = .ok (.sipush (-1000), 3) := by decide +kernel
theorem dL_denial_3 : decode cL_denial 3 = .ok (.istore_n 1, 1) := by decide +kernel
theorem dL_denial_4 : decode cL_denial 4 = .ok (.aload_n 0, 1) := by decide +kernel
theorem dL_denial_5 : decode cL_denial 5 = .ok (.invokevirtual 77, 3) := by decide +kernel
theorem dL_denial_8 : decode cL_denial 8 = .ok (.istore_n 1, 1) := by decide +kernel
theorem dL_denial_9 : decode cL_denial 9 = .ok (.goto 8, 3) := by decide +kernel
theorem dL_denial_12 : decode cL_denial 12 = .ok (.astore_n 2, 1) := by decide +kernel
theorem dL_denial_13 : decode cL_denial 13 = .ok (.sipush (-1000), 3) := by decide +kernel
theorem dL_denial_16 : decode cL_denial 16 = .ok (.ireturn, 1) := by decide +kernel
theorem dL_denial_17 : decode cL_denial 17 = .ok (.iload_n 1, 1) := by decide +kernel
theorem dL_denial_18 : decode cL_denial 18 = .ok (.ireturn, 1) := by decide +kernel
theorem dL_denialCause_0 : decode cL_denialCause 0 = .ok (.sipush (-1000), 3) := by decide +kernel
theorem dL_denialCause_3 : decode cL_denialCause 3 = .ok (.istore_n 1, 1) := by decide +kernel
theorem dL_denialCause_4 : decode cL_denialCause 4 = .ok (.aload_n 0, 1) := by decide +kernel
theorem dL_denialCause_5 : decode cL_denialCause 5 = .ok (.invokevirtual 80, 3) := by decide +kernel
theorem dL_denialCause_8 : decode cL_denialCause 8 = .ok (.istore_n 1, 1) := by decide +kernel
theorem dL_denialCause_9 : decode cL_denialCause 9 = .ok (.goto 8, 3) := by decide +kernel
theorem dL_denialCause_12 : decode cL_denialCause 12 = .ok (.astore_n 2, 1) := by decide +kernel
theorem dL_denialCause_13 : decode cL_denialCause 13 = .ok (.sipush (-1000), 3) := by decide +kernel
theorem dL_denialCause_16 : decode cL_denialCause 16 = .ok (.ireturn, 1) := by decide +kernel
theorem dL_denialCause_17 : decode cL_denialCause 17 = .ok (.iload_n 1, 1) := by decide +kernel
theorem dL_denialCause_18 : decode cL_denialCause 18 = .ok (.ireturn, 1) := by decide +kernel
theorem dL_undo_0 : decode cL_undo 0 = .ok (.ldc 10, 2) := by decide +kernel
theorem dL_undo_2 : decode cL_undo 2 = .ok (.istore_n 1, 1) := by decide +kernel
theorem dL_undo_3 : decode cL_undo 3 = .ok (.aload_n 0, 1) := by decide +kernel
theorem dL_undo_4 : decode cL_undo 4 = .ok (.invokevirtual 83, 3) := by decide +kernel
theorem dL_undo_7 : decode cL_undo 7 = .ok (.istore_n 1, 1) := by decide +kernel
theorem dL_undo_8 : decode cL_undo 8 = .ok (.goto 7, 3) := by decide +kernel
theorem dL_undo_11 : decode cL_undo 11 = .ok (.astore_n 2, 1) := by decide +kernel
theorem dL_undo_12 : decode cL_undo 12 = .ok (.ldc 10, 2) := by decide +kernel
theorem dL_undo_14 : decode cL_undo 14 = .ok (.ireturn, 1) := by decide +kernel
theorem dL_undo_15 : decode cL_undo 15 = .ok (.iload_n 1, 1) := by decide +kernel
theorem dL_undo_16 : decode cL_undo 16 = .ok (.ireturn, 1) := by decide +kernel
theorem dL_restore_0 : decode cL_restore 0 = .ok (.ldc 10, 2) := by decide +kernel
theorem dL_restore_2 : decode cL_restore 2 = .ok (.istore_n 1, 1) := by decide +kernel
theorem dL_restore_3 : decode cL_restore 3 = .ok (.aload_n 0, 1) := by decide +kernel
theorem dL_restore_4 : decode cL_restore 4 = .ok (.invokevirtual 88, 3) := by decide +kernel
theorem dL_restore_7 : decode cL_restore 7 = .ok (.istore_n 1, 1) := by decide +kernel
theorem dL_restore_8 : decode cL_restore 8 = .ok (.goto 7, 3) := by decide +kernel
theorem dL_restore_11 : decode cL_restore 11 = .ok (.astore_n 2, 1) := by decide +kernel
theorem dL_restore_12 : decode cL_restore 12 = .ok (.ldc 10, 2) := by decide +kernel
theorem dL_restore_14 : decode cL_restore 14 = .ok (.ireturn, 1) := by decide +kernel
theorem dL_restore_15 : decode cL_restore 15 = .ok (.iload_n 1, 1) := by decide +kernel
theorem dL_restore_16 : decode cL_restore 16 = .ok (.ireturn, 1) := by decide +kernel
theorem dL_put_0 : decode cL_put 0 = .ok (.aload_n 0, 1) := by decide +kernel
theorem dL_put_1 : decode cL_put 1 = .ok (.iload_n 1, 1) := by decide +kernel
theorem dL_put_2 : decode cL_put 2 = .ok (.invokevirtual 91, 3) := by decide +kernel
theorem dL_put_5 : decode cL_put 5 = .ok (.pop, 1) := by decide +kernel
theorem dL_put_6 : decode cL_put 6 = .ok (.goto 6, 3) := by decide +kernel
theorem dL_put_9 : decode cL_put 9 = .ok (.astore_n 2, 1) := by decide +kernel
theorem dL_put_10 : decode cL_put 10 = .ok (.iconst 0, 1) := by decide +kernel
theorem dL_put_11 : decode cL_put 11 = .ok (.ireturn, 1) := by decide +kernel
theorem dL_put_12 : decode cL_put 12 = .ok (.iconst 1, 1) := by decide +kernel
theorem dL_put_13 : decode cL_put 13 = .ok (.ireturn, 1) := by decide +kernel
theorem dL_write_0 : decode cL_write 0 = .ok (.iconst 0, 1) := by decide +kernel
theorem dL_write_1 : decode cL_write 1 = .ok (.istore_n 2, 1) := by decide +kernel
theorem dL_write_2 : decode cL_write 2 = .ok (.iload_n 2, 1) := by decide +kernel
theorem dL_write_3 : decode cL_write 3 = .ok (.aload_n 1, 1) := by decide +kernel
theorem dL_write_4 : decode cL_write 4 = .ok (.invokevirtual 95, 3) := by decide +kernel
theorem dL_write_7 : decode cL_write 7 = .ok (.if_icmp .ge 19, 3) := by decide +kernel
theorem dL_write_10 : decode cL_write 10 = .ok (.aload_n 0, 1) := by decide +kernel
theorem dL_write_11 : decode cL_write 11 = .ok (.aload_n 1, 1) := by decide +kernel
theorem dL_write_12 : decode cL_write 12 = .ok (.iload_n 2, 1) := by decide +kernel
theorem dL_write_13 : decode cL_write 13 = .ok (.invokevirtual 100, 3) := by decide +kernel
theorem dL_write_16 : decode cL_write 16 = .ok (.invokestatic 103, 3) := by decide +kernel
theorem dL_write_19 : decode cL_write 19 = .ok (.pop, 1) := by decide +kernel
theorem dL_write_20 : decode cL_write 20 = .ok (.iinc 2 1, 3) := by decide +kernel
theorem dL_write_23 : decode cL_write 23 = .ok (.goto (-21), 3) := by decide +kernel
theorem dL_write_26 : decode cL_write 26 = .ok (.aload_n 0, 1) := by decide +kernel
theorem dL_write_27 : decode cL_write 27 = .ok (.areturn, 1) := by decide +kernel
theorem dL_act_0 : decode cL_act 0 = .ok (.iload_n 1, 1) := by decide +kernel
theorem dL_act_1 : decode cL_act 1 = .ok (.iconst 4, 1) := by decide +kernel
theorem dL_act_2 : decode cL_act 2 = .ok (.ishr, 1) := by decide +kernel
theorem dL_act_3 : decode cL_act 3 = .ok (.ldc 7, 2) := by decide +kernel
theorem dL_act_5 : decode cL_act 5 = .ok (.iand, 1) := by decide +kernel
theorem dL_act_6 : decode cL_act 6 = .ok (.istore_n 2, 1) := by decide +kernel
theorem dL_act_7 : decode cL_act 7 = .ok (.iload_n 2, 1) := by decide +kernel
theorem dL_act_8 : decode cL_act 8 = .ok (.iconst 5, 1) := by decide +kernel
theorem dL_act_9 : decode cL_act 9 = .ok (.irem, 1) := by decide +kernel
theorem dL_act_10 : decode cL_act 10 = .ok (.istore_n 3, 1) := by decide +kernel
theorem dL_act_11 : decode cL_act 11 = .ok (.iload_n 1, 1) := by decide +kernel
theorem dL_act_12 : decode cL_act 12 = .ok (.bipush 15, 2) := by decide +kernel
theorem dL_act_14 : decode cL_act 14 = .ok (.iand, 1) := by decide +kernel
theorem dL_act_15 : decode cL_act 15 = .ok (.tableswitch 194 0 14 #[73, 73, 99, 121, 121, 130, 130, 135, 135, 146, 146, 155, 176, 176, 176], 73) := by decide +kernel
theorem dL_act_88 : decode cL_act 88 = .ok (.aload_n 0, 1) := by decide +kernel
theorem dL_act_89 : decode cL_act 89 = .ok (.ldc 107, 2) := by decide +kernel
theorem dL_act_91 : decode cL_act 91 = .ok (.iload_n 2, 1) := by decide +kernel
theorem dL_act_92 : decode cL_act 92 = .ok (.iconst 5, 1) := by decide +kernel
theorem dL_act_93 : decode cL_act 93 = .ok (.irem, 1) := by decide +kernel
theorem dL_act_94 : decode cL_act 94 = .ok (.invokevirtual 100, 3) := by decide +kernel
theorem dL_act_97 : decode cL_act 97 = .ok (.iload_n 2, 1) := by decide +kernel
theorem dL_act_98 : decode cL_act 98 = .ok (.iconst 3, 1) := by decide +kernel
theorem dL_act_99 : decode cL_act 99 = .ok (.ishr, 1) := by decide +kernel
theorem dL_act_100 : decode cL_act 100 = .ok (.bipush 32, 2) := by decide +kernel
theorem dL_act_102 : decode cL_act 102 = .ok (.irem, 1) := by decide +kernel
theorem dL_act_103 : decode cL_act 103 = .ok (.iload_n 2, 1) := by decide +kernel
theorem dL_act_104 : decode cL_act 104 = .ok (.bipush 6, 2) := by decide +kernel
theorem dL_act_106 : decode cL_act 106 = .ok (.ishr, 1) := by decide +kernel
theorem dL_act_107 : decode cL_act 107 = .ok (.bipush 7, 2) := by decide +kernel
theorem dL_act_109 : decode cL_act 109 = .ok (.irem, 1) := by decide +kernel
theorem dL_act_110 : decode cL_act 110 = .ok (.invokestatic 109, 3) := by decide +kernel
theorem dL_act_113 : decode cL_act 113 = .ok (.ireturn, 1) := by decide +kernel
theorem dL_act_114 : decode cL_act 114 = .ok (.iload_n 2, 1) := by decide +kernel
theorem dL_act_115 : decode cL_act 115 = .ok (.bipush 64, 2) := by decide +kernel
theorem dL_act_117 : decode cL_act 117 = .ok (.iand, 1) := by decide +kernel
theorem dL_act_118 : decode cL_act 118 = .ok (.ifCond .ne 13, 3) := by decide +kernel
theorem dL_act_121 : decode cL_act 121 = .ok (.aload_n 0, 1) := by decide +kernel
theorem dL_act_122 : decode cL_act 122 = .ok (.iload_n 2, 1) := by decide +kernel
theorem dL_act_123 : decode cL_act 123 = .ok (.iconst 5, 1) := by decide +kernel
theorem dL_act_124 : decode cL_act 124 = .ok (.irem, 1) := by decide +kernel
theorem dL_act_125 : decode cL_act 125 = .ok (.invokestatic 112, 3) := by decide +kernel
theorem dL_act_128 : decode cL_act 128 = .ok (.goto 7, 3) := by decide +kernel
theorem dL_act_131 : decode cL_act 131 = .ok (.aload_n 0, 1) := by decide +kernel
theorem dL_act_132 : decode cL_act 132 = .ok (.invokestatic 115, 3) := by decide +kernel
theorem dL_act_135 : decode cL_act 135 = .ok (.ireturn, 1) := by decide +kernel
theorem dL_act_136 : decode cL_act 136 = .ok (.aload_n 0, 1) := by decide +kernel
theorem dL_act_137 : decode cL_act 137 = .ok (.iload_n 2, 1) := by decide +kernel
theorem dL_act_138 : decode cL_act 138 = .ok (.bipush 45, 2) := by decide +kernel
theorem dL_act_140 : decode cL_act 140 = .ok (.irem, 1) := by decide +kernel
theorem dL_act_141 : decode cL_act 141 = .ok (.invokestatic 118, 3) := by decide +kernel
theorem dL_act_144 : decode cL_act 144 = .ok (.ireturn, 1) := by decide +kernel
theorem dL_act_145 : decode cL_act 145 = .ok (.aload_n 0, 1) := by decide +kernel
theorem dL_act_146 : decode cL_act 146 = .ok (.invokestatic 120, 3) := by decide +kernel
theorem dL_act_149 : decode cL_act 149 = .ok (.ireturn, 1) := by decide +kernel
theorem dL_act_150 : decode cL_act 150 = .ok (.aload_n 0, 1) := by decide +kernel
theorem dL_act_151 : decode cL_act 151 = .ok (.iload_n 2, 1) := by decide +kernel
theorem dL_act_152 : decode cL_act 152 = .ok (.iconst 2, 1) := by decide +kernel
theorem dL_act_153 : decode cL_act 153 = .ok (.ishr, 1) := by decide +kernel
theorem dL_act_154 : decode cL_act 154 = .ok (.bipush 30, 2) := by decide +kernel
theorem dL_act_156 : decode cL_act 156 = .ok (.irem, 1) := by decide +kernel
theorem dL_act_157 : decode cL_act 157 = .ok (.invokestatic 122, 3) := by decide +kernel
theorem dL_act_160 : decode cL_act 160 = .ok (.ireturn, 1) := by decide +kernel
theorem dL_act_161 : decode cL_act 161 = .ok (.aload_n 0, 1) := by decide +kernel
theorem dL_act_162 : decode cL_act 162 = .ok (.iload_n 2, 1) := by decide +kernel
theorem dL_act_163 : decode cL_act 163 = .ok (.bipush 22, 2) := by decide +kernel
theorem dL_act_165 : decode cL_act 165 = .ok (.irem, 1) := by decide +kernel
theorem dL_act_166 : decode cL_act 166 = .ok (.invokestatic 124, 3) := by decide +kernel
theorem dL_act_169 : decode cL_act 169 = .ok (.ireturn, 1) := by decide +kernel
theorem dL_act_170 : decode cL_act 170 = .ok (.iload_n 2, 1) := by decide +kernel
theorem dL_act_171 : decode cL_act 171 = .ok (.bipush 32, 2) := by decide +kernel
theorem dL_act_173 : decode cL_act 173 = .ok (.iand, 1) := by decide +kernel
theorem dL_act_174 : decode cL_act 174 = .ok (.ifCond .ne 11, 3) := by decide +kernel
theorem dL_act_177 : decode cL_act 177 = .ok (.aload_n 0, 1) := by decide +kernel
theorem dL_act_178 : decode cL_act 178 = .ok (.iload_n 3, 1) := by decide +kernel
theorem dL_act_179 : decode cL_act 179 = .ok (.invokestatic 126, 3) := by decide +kernel
theorem dL_act_182 : decode cL_act 182 = .ok (.goto 8, 3) := by decide +kernel
theorem dL_act_185 : decode cL_act 185 = .ok (.aload_n 0, 1) := by decide +kernel
theorem dL_act_186 : decode cL_act 186 = .ok (.iload_n 3, 1) := by decide +kernel
theorem dL_act_187 : decode cL_act 187 = .ok (.invokestatic 128, 3) := by decide +kernel
theorem dL_act_190 : decode cL_act 190 = .ok (.ireturn, 1) := by decide +kernel
theorem dL_act_191 : decode cL_act 191 = .ok (.aload_n 0, 1) := by decide +kernel
theorem dL_act_192 : decode cL_act 192 = .ok (.getstatic 130, 3) := by decide +kernel
theorem dL_act_195 : decode cL_act 195 = .ok (.iload_n 2, 1) := by decide +kernel
theorem dL_act_196 : decode cL_act 196 = .ok (.getstatic 130, 3) := by decide +kernel
theorem dL_act_199 : decode cL_act 199 = .ok (.arraylength, 1) := by decide +kernel
theorem dL_act_200 : decode cL_act 200 = .ok (.irem, 1) := by decide +kernel
theorem dL_act_201 : decode cL_act 201 = .ok (.aaload, 1) := by decide +kernel
theorem dL_act_202 : decode cL_act 202 = .ok (.invokestatic 134, 3) := by decide +kernel
theorem dL_act_205 : decode cL_act 205 = .ok (.invokestatic 138, 3) := by decide +kernel
theorem dL_act_208 : decode cL_act 208 = .ok (.ireturn, 1) := by decide +kernel
theorem dL_act_209 : decode cL_act 209 = .ok (.iload_n 2, 1) := by decide +kernel
theorem dL_act_210 : decode cL_act 210 = .ok (.iconst 3, 1) := by decide +kernel
theorem dL_act_211 : decode cL_act 211 = .ok (.iand, 1) := by decide +kernel
theorem dL_act_212 : decode cL_act 212 = .ok (.ifCond .ne 10, 3) := by decide +kernel
theorem dL_act_215 : decode cL_act 215 = .ok (.aload_n 0, 1) := by decide +kernel
theorem dL_act_216 : decode cL_act 216 = .ok (.invokevirtual 140, 3) := by decide +kernel
theorem dL_act_219 : decode cL_act 219 = .ok (.goto 21, 3) := by decide +kernel
theorem dL_act_222 : decode cL_act 222 = .ok (.iload_n 2, 1) := by decide +kernel
theorem dL_act_223 : decode cL_act 223 = .ok (.iconst 3, 1) := by decide +kernel
theorem dL_act_224 : decode cL_act 224 = .ok (.iand, 1) := by decide +kernel
theorem dL_act_225 : decode cL_act 225 = .ok (.iconst 1, 1) := by decide +kernel
theorem dL_act_226 : decode cL_act 226 = .ok (.if_icmp .ne 10, 3) := by decide +kernel
theorem dL_act_229 : decode cL_act 229 = .ok (.aload_n 0, 1) := by decide +kernel
theorem dL_act_230 : decode cL_act 230 = .ok (.invokestatic 143, 3) := by decide +kernel
theorem dL_act_233 : decode cL_act 233 = .ok (.goto 7, 3) := by decide +kernel
theorem dL_act_236 : decode cL_act 236 = .ok (.aload_n 0, 1) := by decide +kernel
theorem dL_act_237 : decode cL_act 237 = .ok (.invokestatic 146, 3) := by decide +kernel
theorem dL_act_240 : decode cL_act 240 = .ok (.ireturn, 1) := by decide +kernel
theorem dL_digest_0 : decode cL_digest 0 = .ok (.ldc2_w 148, 3) := by decide +kernel
theorem dL_digest_3 : decode cL_digest 3 = .ok (.aload_n 0, 1) := by decide +kernel
theorem dL_digest_4 : decode cL_digest 4 = .ok (.invokevirtual 150, 3) := by decide +kernel
theorem dL_digest_7 : decode cL_digest 7 = .ok (.i2l, 1) := by decide +kernel
theorem dL_digest_8 : decode cL_digest 8 = .ok (.lmul, 1) := by decide +kernel
theorem dL_digest_9 : decode cL_digest 9 = .ok (.ldc2_w 153, 3) := by decide +kernel
theorem dL_digest_12 : decode cL_digest 12 = .ok (.aload_n 0, 1) := by decide +kernel
theorem dL_digest_13 : decode cL_digest 13 = .ok (.invokevirtual 155, 3) := by decide +kernel
theorem dL_digest_16 : decode cL_digest 16 = .ok (.i2l, 1) := by decide +kernel
theorem dL_digest_17 : decode cL_digest 17 = .ok (.lmul, 1) := by decide +kernel
theorem dL_digest_18 : decode cL_digest 18 = .ok (.ladd, 1) := by decide +kernel
theorem dL_digest_19 : decode cL_digest 19 = .ok (.ldc2_w 158, 3) := by decide +kernel
theorem dL_digest_22 : decode cL_digest 22 = .ok (.aload_n 0, 1) := by decide +kernel
theorem dL_digest_23 : decode cL_digest 23 = .ok (.invokevirtual 160, 3) := by decide +kernel
theorem dL_digest_26 : decode cL_digest 26 = .ok (.i2l, 1) := by decide +kernel
theorem dL_digest_27 : decode cL_digest 27 = .ok (.lmul, 1) := by decide +kernel
theorem dL_digest_28 : decode cL_digest 28 = .ok (.ladd, 1) := by decide +kernel
theorem dL_digest_29 : decode cL_digest 29 = .ok (.ldc2_w 163, 3) := by decide +kernel
theorem dL_digest_32 : decode cL_digest 32 = .ok (.aload_n 0, 1) := by decide +kernel
theorem dL_digest_33 : decode cL_digest 33 = .ok (.invokevirtual 165, 3) := by decide +kernel
theorem dL_digest_36 : decode cL_digest 36 = .ok (.i2l, 1) := by decide +kernel
theorem dL_digest_37 : decode cL_digest 37 = .ok (.lmul, 1) := by decide +kernel
theorem dL_digest_38 : decode cL_digest 38 = .ok (.ladd, 1) := by decide +kernel
theorem dL_digest_39 : decode cL_digest 39 = .ok (.ldc2_w 168, 3) := by decide +kernel
theorem dL_digest_42 : decode cL_digest 42 = .ok (.aload_n 0, 1) := by decide +kernel
theorem dL_digest_43 : decode cL_digest 43 = .ok (.invokevirtual 170, 3) := by decide +kernel
theorem dL_digest_46 : decode cL_digest 46 = .ok (.i2l, 1) := by decide +kernel
theorem dL_digest_47 : decode cL_digest 47 = .ok (.lmul, 1) := by decide +kernel
theorem dL_digest_48 : decode cL_digest 48 = .ok (.ladd, 1) := by decide +kernel
theorem dL_digest_49 : decode cL_digest 49 = .ok (.ldc2_w 173, 3) := by decide +kernel
theorem dL_digest_52 : decode cL_digest 52 = .ok (.aload_n 0, 1) := by decide +kernel
theorem dL_digest_53 : decode cL_digest 53 = .ok (.invokevirtual 175, 3) := by decide +kernel
theorem dL_digest_56 : decode cL_digest 56 = .ok (.i2l, 1) := by decide +kernel
theorem dL_digest_57 : decode cL_digest 57 = .ok (.lmul, 1) := by decide +kernel
theorem dL_digest_58 : decode cL_digest 58 = .ok (.ladd, 1) := by decide +kernel
theorem dL_digest_59 : decode cL_digest 59 = .ok (.ldc2_w 178, 3) := by decide +kernel
theorem dL_digest_62 : decode cL_digest 62 = .ok (.aload_n 0, 1) := by decide +kernel
theorem dL_digest_63 : decode cL_digest 63 = .ok (.invokevirtual 180, 3) := by decide +kernel
theorem dL_digest_66 : decode cL_digest 66 = .ok (.i2l, 1) := by decide +kernel
theorem dL_digest_67 : decode cL_digest 67 = .ok (.lmul, 1) := by decide +kernel
theorem dL_digest_68 : decode cL_digest 68 = .ok (.ladd, 1) := by decide +kernel
theorem dL_digest_69 : decode cL_digest 69 = .ok (.ldc2_w 183, 3) := by decide +kernel
theorem dL_digest_72 : decode cL_digest 72 = .ok (.aload_n 0, 1) := by decide +kernel
theorem dL_digest_73 : decode cL_digest 73 = .ok (.invokevirtual 185, 3) := by decide +kernel
theorem dL_digest_76 : decode cL_digest 76 = .ok (.i2l, 1) := by decide +kernel
theorem dL_digest_77 : decode cL_digest 77 = .ok (.lmul, 1) := by decide +kernel
theorem dL_digest_78 : decode cL_digest 78 = .ok (.ladd, 1) := by decide +kernel
theorem dL_digest_79 : decode cL_digest 79 = .ok (.lstore_n 1, 1) := by decide +kernel
theorem dL_digest_80 : decode cL_digest 80 = .ok (.bipush 97, 2) := by decide +kernel
theorem dL_digest_82 : decode cL_digest 82 = .ok (.istore_n 3, 1) := by decide +kernel
theorem dL_digest_83 : decode cL_digest 83 = .ok (.iload_n 3, 1) := by decide +kernel
theorem dL_digest_84 : decode cL_digest 84 = .ok (.bipush 101, 2) := by decide +kernel
theorem dL_digest_86 : decode cL_digest 86 = .ok (.if_icmp .gt 24, 3) := by decide +kernel
theorem dL_digest_89 : decode cL_digest 89 = .ok (.ldc2_w 183, 3) := by decide +kernel
theorem dL_digest_92 : decode cL_digest 92 = .ok (.lload_n 1, 1) := by decide +kernel
theorem dL_digest_93 : decode cL_digest 93 = .ok (.lmul, 1) := by decide +kernel
theorem dL_digest_94 : decode cL_digest 94 = .ok (.aload_n 0, 1) := by decide +kernel
theorem dL_digest_95 : decode cL_digest 95 = .ok (.iload_n 3, 1) := by decide +kernel
theorem dL_digest_96 : decode cL_digest 96 = .ok (.invokevirtual 188, 3) := by decide +kernel
theorem dL_digest_99 : decode cL_digest 99 = .ok (.i2l, 1) := by decide +kernel
theorem dL_digest_100 : decode cL_digest 100 = .ok (.ladd, 1) := by decide +kernel
theorem dL_digest_101 : decode cL_digest 101 = .ok (.lstore_n 1, 1) := by decide +kernel
theorem dL_digest_102 : decode cL_digest 102 = .ok (.iload_n 3, 1) := by decide +kernel
theorem dL_digest_103 : decode cL_digest 103 = .ok (.iconst 1, 1) := by decide +kernel
theorem dL_digest_104 : decode cL_digest 104 = .ok (.iadd, 1) := by decide +kernel
theorem dL_digest_105 : decode cL_digest 105 = .ok (.i2c, 1) := by decide +kernel
theorem dL_digest_106 : decode cL_digest 106 = .ok (.istore_n 3, 1) := by decide +kernel
theorem dL_digest_107 : decode cL_digest 107 = .ok (.goto (-24), 3) := by decide +kernel
theorem dL_digest_110 : decode cL_digest 110 = .ok (.ldc2_w 183, 3) := by decide +kernel
theorem dL_digest_113 : decode cL_digest 113 = .ok (.ldc2_w 183, 3) := by decide +kernel
theorem dL_digest_116 : decode cL_digest 116 = .ok (.ldc2_w 183, 3) := by decide +kernel
theorem dL_digest_119 : decode cL_digest 119 = .ok (.lload_n 1, 1) := by decide +kernel
theorem dL_digest_120 : decode cL_digest 120 = .ok (.lmul, 1) := by decide +kernel
theorem dL_digest_121 : decode cL_digest 121 = .ok (.aload_n 0, 1) := by decide +kernel
theorem dL_digest_122 : decode cL_digest 122 = .ok (.invokevirtual 191, 3) := by decide +kernel
theorem dL_digest_125 : decode cL_digest 125 = .ok (.i2l, 1) := by decide +kernel
theorem dL_digest_126 : decode cL_digest 126 = .ok (.ladd, 1) := by decide +kernel
theorem dL_digest_127 : decode cL_digest 127 = .ok (.lmul, 1) := by decide +kernel
theorem dL_digest_128 : decode cL_digest 128 = .ok (.aload_n 0, 1) := by decide +kernel
theorem dL_digest_129 : decode cL_digest 129 = .ok (.invokestatic 194, 3) := by decide +kernel
theorem dL_digest_132 : decode cL_digest 132 = .ok (.i2l, 1) := by decide +kernel
theorem dL_digest_133 : decode cL_digest 133 = .ok (.ladd, 1) := by decide +kernel
theorem dL_digest_134 : decode cL_digest 134 = .ok (.lmul, 1) := by decide +kernel
theorem dL_digest_135 : decode cL_digest 135 = .ok (.aload_n 0, 1) := by decide +kernel
theorem dL_digest_136 : decode cL_digest 136 = .ok (.invokevirtual 196, 3) := by decide +kernel
theorem dL_digest_139 : decode cL_digest 139 = .ok (.i2l, 1) := by decide +kernel
theorem dL_digest_140 : decode cL_digest 140 = .ok (.ladd, 1) := by decide +kernel
theorem dL_digest_141 : decode cL_digest 141 = .ok (.lstore_n 1, 1) := by decide +kernel
theorem dL_digest_142 : decode cL_digest 142 = .ok (.iconst 0, 1) := by decide +kernel
theorem dL_digest_143 : decode cL_digest 143 = .ok (.istore_n 3, 1) := by decide +kernel
theorem dL_digest_144 : decode cL_digest 144 = .ok (.iload_n 3, 1) := by decide +kernel
theorem dL_digest_145 : decode cL_digest 145 = .ok (.aload_n 0, 1) := by decide +kernel
theorem dL_digest_146 : decode cL_digest 146 = .ok (.invokevirtual 191, 3) := by decide +kernel
theorem dL_digest_149 : decode cL_digest 149 = .ok (.if_icmp .ge 33, 3) := by decide +kernel
theorem dL_digest_152 : decode cL_digest 152 = .ok (.ldc2_w 183, 3) := by decide +kernel
theorem dL_digest_155 : decode cL_digest 155 = .ok (.ldc2_w 183, 3) := by decide +kernel
theorem dL_digest_158 : decode cL_digest 158 = .ok (.lload_n 1, 1) := by decide +kernel
theorem dL_digest_159 : decode cL_digest 159 = .ok (.lmul, 1) := by decide +kernel
theorem dL_digest_160 : decode cL_digest 160 = .ok (.aload_n 0, 1) := by decide +kernel
theorem dL_digest_161 : decode cL_digest 161 = .ok (.iload_n 3, 1) := by decide +kernel
theorem dL_digest_162 : decode cL_digest 162 = .ok (.invokevirtual 199, 3) := by decide +kernel
theorem dL_digest_165 : decode cL_digest 165 = .ok (.i2l, 1) := by decide +kernel
theorem dL_digest_166 : decode cL_digest 166 = .ok (.ladd, 1) := by decide +kernel
theorem dL_digest_167 : decode cL_digest 167 = .ok (.lmul, 1) := by decide +kernel
theorem dL_digest_168 : decode cL_digest 168 = .ok (.aload_n 0, 1) := by decide +kernel
theorem dL_digest_169 : decode cL_digest 169 = .ok (.iload_n 3, 1) := by decide +kernel
theorem dL_digest_170 : decode cL_digest 170 = .ok (.invokevirtual 202, 3) := by decide +kernel
theorem dL_digest_173 : decode cL_digest 173 = .ok (.i2l, 1) := by decide +kernel
theorem dL_digest_174 : decode cL_digest 174 = .ok (.ladd, 1) := by decide +kernel
theorem dL_digest_175 : decode cL_digest 175 = .ok (.lstore_n 1, 1) := by decide +kernel
theorem dL_digest_176 : decode cL_digest 176 = .ok (.iinc 3 1, 3) := by decide +kernel
theorem dL_digest_179 : decode cL_digest 179 = .ok (.goto (-35), 3) := by decide +kernel
theorem dL_digest_182 : decode cL_digest 182 = .ok (.iconst 0, 1) := by decide +kernel
theorem dL_digest_183 : decode cL_digest 183 = .ok (.istore_n 3, 1) := by decide +kernel
theorem dL_digest_184 : decode cL_digest 184 = .ok (.iload_n 3, 1) := by decide +kernel
theorem dL_digest_185 : decode cL_digest 185 = .ok (.aload_n 0, 1) := by decide +kernel
theorem dL_digest_186 : decode cL_digest 186 = .ok (.invokevirtual 205, 3) := by decide +kernel
theorem dL_digest_189 : decode cL_digest 189 = .ok (.if_icmp .ge 55, 3) := by decide +kernel
theorem dL_digest_192 : decode cL_digest 192 = .ok (.ldc2_w 183, 3) := by decide +kernel
theorem dL_digest_195 : decode cL_digest 195 = .ok (.ldc2_w 183, 3) := by decide +kernel
theorem dL_digest_198 : decode cL_digest 198 = .ok (.ldc2_w 183, 3) := by decide +kernel
theorem dL_digest_201 : decode cL_digest 201 = .ok (.ldc2_w 183, 3) := by decide +kernel
theorem dL_digest_204 : decode cL_digest 204 = .ok (.lload_n 1, 1) := by decide +kernel
theorem dL_digest_205 : decode cL_digest 205 = .ok (.lmul, 1) := by decide +kernel
theorem dL_digest_206 : decode cL_digest 206 = .ok (.aload_n 0, 1) := by decide +kernel
theorem dL_digest_207 : decode cL_digest 207 = .ok (.iload_n 3, 1) := by decide +kernel
theorem dL_digest_208 : decode cL_digest 208 = .ok (.invokevirtual 208, 3) := by decide +kernel
theorem dL_digest_211 : decode cL_digest 211 = .ok (.i2l, 1) := by decide +kernel
theorem dL_digest_212 : decode cL_digest 212 = .ok (.ladd, 1) := by decide +kernel
theorem dL_digest_213 : decode cL_digest 213 = .ok (.lmul, 1) := by decide +kernel
theorem dL_digest_214 : decode cL_digest 214 = .ok (.aload_n 0, 1) := by decide +kernel
theorem dL_digest_215 : decode cL_digest 215 = .ok (.iload_n 3, 1) := by decide +kernel
theorem dL_digest_216 : decode cL_digest 216 = .ok (.invokevirtual 211, 3) := by decide +kernel
theorem dL_digest_219 : decode cL_digest 219 = .ok (.i2l, 1) := by decide +kernel
theorem dL_digest_220 : decode cL_digest 220 = .ok (.ladd, 1) := by decide +kernel
theorem dL_digest_221 : decode cL_digest 221 = .ok (.lmul, 1) := by decide +kernel
theorem dL_digest_222 : decode cL_digest 222 = .ok (.aload_n 0, 1) := by decide +kernel
theorem dL_digest_223 : decode cL_digest 223 = .ok (.iload_n 3, 1) := by decide +kernel
theorem dL_digest_224 : decode cL_digest 224 = .ok (.invokevirtual 214, 3) := by decide +kernel
theorem dL_digest_227 : decode cL_digest 227 = .ok (.i2l, 1) := by decide +kernel
theorem dL_digest_228 : decode cL_digest 228 = .ok (.ladd, 1) := by decide +kernel
theorem dL_digest_229 : decode cL_digest 229 = .ok (.lmul, 1) := by decide +kernel
theorem dL_digest_230 : decode cL_digest 230 = .ok (.aload_n 0, 1) := by decide +kernel
theorem dL_digest_231 : decode cL_digest 231 = .ok (.iload_n 3, 1) := by decide +kernel
theorem dL_digest_232 : decode cL_digest 232 = .ok (.invokevirtual 217, 3) := by decide +kernel
theorem dL_digest_235 : decode cL_digest 235 = .ok (.i2l, 1) := by decide +kernel
theorem dL_digest_236 : decode cL_digest 236 = .ok (.ladd, 1) := by decide +kernel
theorem dL_digest_237 : decode cL_digest 237 = .ok (.lstore_n 1, 1) := by decide +kernel
theorem dL_digest_238 : decode cL_digest 238 = .ok (.iinc 3 1, 3) := by decide +kernel
theorem dL_digest_241 : decode cL_digest 241 = .ok (.goto (-57), 3) := by decide +kernel
theorem dL_digest_244 : decode cL_digest 244 = .ok (.lload_n 1, 1) := by decide +kernel
theorem dL_digest_245 : decode cL_digest 245 = .ok (.lreturn, 1) := by decide +kernel
theorem dL_isCycle_0 : decode cL_isCycle 0 = .ok (.aload_n 0, 1) := by decide +kernel
theorem dL_isCycle_1 : decode cL_isCycle 1 = .ok (.invokestatic 194, 3) := by decide +kernel
theorem dL_isCycle_4 : decode cL_isCycle 4 = .ok (.istore_n 1, 1) := by decide +kernel
theorem dL_isCycle_5 : decode cL_isCycle 5 = .ok (.aload_n 0, 1) := by decide +kernel
theorem dL_isCycle_6 : decode cL_isCycle 6 = .ok (.invokevirtual 191, 3) := by decide +kernel
theorem dL_isCycle_9 : decode cL_isCycle 9 = .ok (.ifCond .ne 7, 3) := by decide +kernel
theorem dL_isCycle_12 : decode cL_isCycle 12 = .ok (.iconst 0, 1) := by decide +kernel
theorem dL_isCycle_13 : decode cL_isCycle 13 = .ok (.goto 9, 3) := by decide +kernel
theorem dL_isCycle_16 : decode cL_isCycle 16 = .ok (.aload_n 0, 1) := by decide +kernel
theorem dL_isCycle_17 : decode cL_isCycle 17 = .ok (.invokevirtual 191, 3) := by decide +kernel
theorem dL_isCycle_20 : decode cL_isCycle 20 = .ok (.iconst 1, 1) := by decide +kernel
theorem dL_isCycle_21 : decode cL_isCycle 21 = .ok (.isub, 1) := by decide +kernel
theorem dL_isCycle_22 : decode cL_isCycle 22 = .ok (.istore_n 2, 1) := by decide +kernel
theorem dL_isCycle_23 : decode cL_isCycle 23 = .ok (.aload_n 0, 1) := by decide +kernel
theorem dL_isCycle_24 : decode cL_isCycle 24 = .ok (.invokevirtual 196, 3) := by decide +kernel
theorem dL_isCycle_27 : decode cL_isCycle 27 = .ok (.istore_n 3, 1) := by decide +kernel
theorem dL_isCycle_28 : decode cL_isCycle 28 = .ok (.iconst 0, 1) := by decide +kernel
theorem dL_isCycle_29 : decode cL_isCycle 29 = .ok (.istore 4, 2) := by decide +kernel
theorem dL_isCycle_31 : decode cL_isCycle 31 = .ok (.iconst 0, 1) := by decide +kernel
theorem dL_isCycle_32 : decode cL_isCycle 32 = .ok (.istore 5, 2) := by decide +kernel
theorem dL_isCycle_34 : decode cL_isCycle 34 = .ok (.iload 5, 2) := by decide +kernel
theorem dL_isCycle_36 : decode cL_isCycle 36 = .ok (.aload_n 0, 1) := by decide +kernel
theorem dL_isCycle_37 : decode cL_isCycle 37 = .ok (.invokevirtual 191, 3) := by decide +kernel
theorem dL_isCycle_40 : decode cL_isCycle 40 = .ok (.if_icmp .ge 49, 3) := by decide +kernel
theorem dL_isCycle_43 : decode cL_isCycle 43 = .ok (.iload_n 2, 1) := by decide +kernel
theorem dL_isCycle_44 : decode cL_isCycle 44 = .ok (.aload_n 0, 1) := by decide +kernel
theorem dL_isCycle_45 : decode cL_isCycle 45 = .ok (.iload 5, 2) := by decide +kernel
theorem dL_isCycle_47 : decode cL_isCycle 47 = .ok (.invokevirtual 202, 3) := by decide +kernel
theorem dL_isCycle_50 : decode cL_isCycle 50 = .ok (.bipush 9, 2) := by decide +kernel
theorem dL_isCycle_52 : decode cL_isCycle 52 = .ok (.if_icmp .le 7, 3) := by decide +kernel
theorem dL_isCycle_55 : decode cL_isCycle 55 = .ok (.iconst 5, 1) := by decide +kernel
theorem dL_isCycle_56 : decode cL_isCycle 56 = .ok (.goto 4, 3) := by decide +kernel
theorem dL_isCycle_59 : decode cL_isCycle 59 = .ok (.iconst 4, 1) := by decide +kernel
theorem dL_isCycle_60 : decode cL_isCycle 60 = .ok (.iadd, 1) := by decide +kernel
theorem dL_isCycle_61 : decode cL_isCycle 61 = .ok (.istore_n 2, 1) := by decide +kernel
theorem dL_isCycle_62 : decode cL_isCycle 62 = .ok (.iload 4, 2) := by decide +kernel
theorem dL_isCycle_64 : decode cL_isCycle 64 = .ok (.iload 5, 2) := by decide +kernel
theorem dL_isCycle_66 : decode cL_isCycle 66 = .ok (.iload_n 1, 1) := by decide +kernel
theorem dL_isCycle_67 : decode cL_isCycle 67 = .ok (.if_icmp .le 12, 3) := by decide +kernel
theorem dL_isCycle_70 : decode cL_isCycle 70 = .ok (.aload_n 0, 1) := by decide +kernel
theorem dL_isCycle_71 : decode cL_isCycle 71 = .ok (.iload 5, 2) := by decide +kernel
theorem dL_isCycle_73 : decode cL_isCycle 73 = .ok (.invokevirtual 202, 3) := by decide +kernel
theorem dL_isCycle_76 : decode cL_isCycle 76 = .ok (.goto 4, 3) := by decide +kernel
theorem dL_isCycle_79 : decode cL_isCycle 79 = .ok (.iconst 0, 1) := by decide +kernel
theorem dL_isCycle_80 : decode cL_isCycle 80 = .ok (.iadd, 1) := by decide +kernel
theorem dL_isCycle_81 : decode cL_isCycle 81 = .ok (.istore 4, 2) := by decide +kernel
theorem dL_isCycle_83 : decode cL_isCycle 83 = .ok (.iinc 5 1, 3) := by decide +kernel
theorem dL_isCycle_86 : decode cL_isCycle 86 = .ok (.goto (-52), 3) := by decide +kernel
theorem dL_isCycle_89 : decode cL_isCycle 89 = .ok (.aload_n 0, 1) := by decide +kernel
theorem dL_isCycle_90 : decode cL_isCycle 90 = .ok (.invokevirtual 220, 3) := by decide +kernel
theorem dL_isCycle_93 : decode cL_isCycle 93 = .ok (.iload_n 1, 1) := by decide +kernel
theorem dL_isCycle_94 : decode cL_isCycle 94 = .ok (.sipush (-1000), 3) := by decide +kernel
theorem dL_isCycle_97 : decode cL_isCycle 97 = .ok (.if_icmp .eq 7, 3) := by decide +kernel
theorem dL_isCycle_100 : decode cL_isCycle 100 = .ok (.iconst 1, 1) := by decide +kernel
theorem dL_isCycle_101 : decode cL_isCycle 101 = .ok (.goto 4, 3) := by decide +kernel
theorem dL_isCycle_104 : decode cL_isCycle 104 = .ok (.iconst 0, 1) := by decide +kernel
theorem dL_isCycle_105 : decode cL_isCycle 105 = .ok (.if_icmp .ne 45, 3) := by decide +kernel
theorem dL_isCycle_108 : decode cL_isCycle 108 = .ok (.aload_n 0, 1) := by decide +kernel
theorem dL_isCycle_109 : decode cL_isCycle 109 = .ok (.invokevirtual 224, 3) := by decide +kernel
theorem dL_isCycle_112 : decode cL_isCycle 112 = .ok (.iload_n 3, 1) := by decide +kernel
theorem dL_isCycle_113 : decode cL_isCycle 113 = .ok (.if_icmp .ne 37, 3) := by decide +kernel
theorem dL_isCycle_116 : decode cL_isCycle 116 = .ok (.aload_n 0, 1) := by decide +kernel
theorem dL_isCycle_117 : decode cL_isCycle 117 = .ok (.invokevirtual 227, 3) := by decide +kernel
theorem dL_isCycle_120 : decode cL_isCycle 120 = .ok (.iload_n 2, 1) := by decide +kernel
theorem dL_isCycle_121 : decode cL_isCycle 121 = .ok (.aload_n 0, 1) := by decide +kernel
theorem dL_isCycle_122 : decode cL_isCycle 122 = .ok (.invokevirtual 220, 3) := by decide +kernel
theorem dL_isCycle_125 : decode cL_isCycle 125 = .ok (.ifCond .eq 7, 3) := by decide +kernel
theorem dL_isCycle_128 : decode cL_isCycle 128 = .ok (.iconst 1, 1) := by decide +kernel
theorem dL_isCycle_129 : decode cL_isCycle 129 = .ok (.goto 4, 3) := by decide +kernel
theorem dL_isCycle_132 : decode cL_isCycle 132 = .ok (.iconst 0, 1) := by decide +kernel
theorem dL_isCycle_133 : decode cL_isCycle 133 = .ok (.iadd, 1) := by decide +kernel
theorem dL_isCycle_134 : decode cL_isCycle 134 = .ok (.if_icmp .ne 16, 3) := by decide +kernel
theorem dL_isCycle_137 : decode cL_isCycle 137 = .ok (.aload_n 0, 1) := by decide +kernel
theorem dL_isCycle_138 : decode cL_isCycle 138 = .ok (.invokevirtual 191, 3) := by decide +kernel
theorem dL_isCycle_141 : decode cL_isCycle 141 = .ok (.bipush 8, 2) := by decide +kernel
theorem dL_isCycle_143 : decode cL_isCycle 143 = .ok (.if_icmp .gt 7, 3) := by decide +kernel
theorem dL_isCycle_146 : decode cL_isCycle 146 = .ok (.iconst 1, 1) := by decide +kernel
theorem dL_isCycle_147 : decode cL_isCycle 147 = .ok (.goto 4, 3) := by decide +kernel
theorem dL_isCycle_150 : decode cL_isCycle 150 = .ok (.iconst 0, 1) := by decide +kernel
theorem dL_isCycle_151 : decode cL_isCycle 151 = .ok (.istore 5, 2) := by decide +kernel
theorem dL_isCycle_153 : decode cL_isCycle 153 = .ok (.iload 5, 2) := by decide +kernel
theorem dL_isCycle_155 : decode cL_isCycle 155 = .ok (.ifCond .eq 74, 3) := by decide +kernel
theorem dL_isCycle_158 : decode cL_isCycle 158 = .ok (.aload_n 0, 1) := by decide +kernel
theorem dL_isCycle_159 : decode cL_isCycle 159 = .ok (.invokevirtual 220, 3) := by decide +kernel
theorem dL_isCycle_162 : decode cL_isCycle 162 = .ok (.ifCond .eq 24, 3) := by decide +kernel
theorem dL_isCycle_165 : decode cL_isCycle 165 = .ok (.iload_n 3, 1) := by decide +kernel
theorem dL_isCycle_166 : decode cL_isCycle 166 = .ok (.iload 4, 2) := by decide +kernel
theorem dL_isCycle_168 : decode cL_isCycle 168 = .ok (.if_icmp .le 61, 3) := by decide +kernel
theorem dL_isCycle_171 : decode cL_isCycle 171 = .ok (.iload_n 3, 1) := by decide +kernel
theorem dL_isCycle_172 : decode cL_isCycle 172 = .ok (.iload 4, 2) := by decide +kernel
theorem dL_isCycle_174 : decode cL_isCycle 174 = .ok (.aload_n 0, 1) := by decide +kernel
theorem dL_isCycle_175 : decode cL_isCycle 175 = .ok (.iload_n 1, 1) := by decide +kernel
theorem dL_isCycle_176 : decode cL_isCycle 176 = .ok (.invokevirtual 202, 3) := by decide +kernel
theorem dL_isCycle_179 : decode cL_isCycle 179 = .ok (.iadd, 1) := by decide +kernel
theorem dL_isCycle_180 : decode cL_isCycle 180 = .ok (.if_icmp .gt 49, 3) := by decide +kernel
theorem dL_isCycle_183 : decode cL_isCycle 183 = .ok (.goto 7, 3) := by decide +kernel
theorem dL_isCycle_186 : decode cL_isCycle 186 = .ok (.iload_n 3, 1) := by decide +kernel
theorem dL_isCycle_187 : decode cL_isCycle 187 = .ok (.ifCond .ne 42, 3) := by decide +kernel
theorem dL_isCycle_190 : decode cL_isCycle 190 = .ok (.aload_n 0, 1) := by decide +kernel
theorem dL_isCycle_191 : decode cL_isCycle 191 = .ok (.invokevirtual 160, 3) := by decide +kernel
theorem dL_isCycle_194 : decode cL_isCycle 194 = .ok (.ifCond .lt 35, 3) := by decide +kernel
theorem dL_isCycle_197 : decode cL_isCycle 197 = .ok (.aload_n 0, 1) := by decide +kernel
theorem dL_isCycle_198 : decode cL_isCycle 198 = .ok (.invokevirtual 160, 3) := by decide +kernel
theorem dL_isCycle_201 : decode cL_isCycle 201 = .ok (.sipush 200, 3) := by decide +kernel
theorem dL_isCycle_204 : decode cL_isCycle 204 = .ok (.if_icmp .gt 25, 3) := by decide +kernel
theorem dL_isCycle_207 : decode cL_isCycle 207 = .ok (.aload_n 0, 1) := by decide +kernel
theorem dL_isCycle_208 : decode cL_isCycle 208 = .ok (.invokevirtual 165, 3) := by decide +kernel
theorem dL_isCycle_211 : decode cL_isCycle 211 = .ok (.bipush 100, 2) := by decide +kernel
theorem dL_isCycle_213 : decode cL_isCycle 213 = .ok (.if_icmp .gt 16, 3) := by decide +kernel
theorem dL_isCycle_216 : decode cL_isCycle 216 = .ok (.aload_n 0, 1) := by decide +kernel
theorem dL_isCycle_217 : decode cL_isCycle 217 = .ok (.invokevirtual 170, 3) := by decide +kernel
theorem dL_isCycle_220 : decode cL_isCycle 220 = .ok (.bipush 99, 2) := by decide +kernel
theorem dL_isCycle_222 : decode cL_isCycle 222 = .ok (.if_icmp .gt 7, 3) := by decide +kernel
theorem dL_isCycle_225 : decode cL_isCycle 225 = .ok (.iconst 1, 1) := by decide +kernel
theorem dL_isCycle_226 : decode cL_isCycle 226 = .ok (.goto 4, 3) := by decide +kernel
theorem dL_isCycle_229 : decode cL_isCycle 229 = .ok (.iconst 0, 1) := by decide +kernel
theorem dL_isCycle_230 : decode cL_isCycle 230 = .ok (.ireturn, 1) := by decide +kernel
theorem dL_arePats_0 : decode cL_arePats 0 = .ok (.aload_n 0, 1) := by decide +kernel
theorem dL_arePats_1 : decode cL_arePats 1 = .ok (.invokevirtual 205, 3) := by decide +kernel
theorem dL_arePats_4 : decode cL_arePats 4 = .ok (.istore_n 1, 1) := by decide +kernel
theorem dL_arePats_5 : decode cL_arePats 5 = .ok (.aload_n 0, 1) := by decide +kernel
theorem dL_arePats_6 : decode cL_arePats 6 = .ok (.invokevirtual 155, 3) := by decide +kernel
theorem dL_arePats_9 : decode cL_arePats 9 = .ok (.aload_n 0, 1) := by decide +kernel
theorem dL_arePats_10 : decode cL_arePats 10 = .ok (.invokevirtual 185, 3) := by decide +kernel
theorem dL_arePats_13 : decode cL_arePats 13 = .ok (.iadd, 1) := by decide +kernel
theorem dL_arePats_14 : decode cL_arePats 14 = .ok (.istore_n 2, 1) := by decide +kernel
theorem dL_arePats_15 : decode cL_arePats 15 = .ok (.iconst 0, 1) := by decide +kernel
theorem dL_arePats_16 : decode cL_arePats 16 = .ok (.istore_n 3, 1) := by decide +kernel
theorem dL_arePats_17 : decode cL_arePats 17 = .ok (.iconst 0, 1) := by decide +kernel
theorem dL_arePats_18 : decode cL_arePats 18 = .ok (.istore 4, 2) := by decide +kernel
theorem dL_arePats_20 : decode cL_arePats 20 = .ok (.sipush (-1000), 3) := by decide +kernel
theorem dL_arePats_23 : decode cL_arePats 23 = .ok (.istore 5, 2) := by decide +kernel
theorem dL_arePats_25 : decode cL_arePats 25 = .ok (.iload_n 1, 1) := by decide +kernel
theorem dL_arePats_26 : decode cL_arePats 26 = .ok (.bipush 12, 2) := by decide +kernel
theorem dL_arePats_28 : decode cL_arePats 28 = .ok (.if_icmp .gt 29, 3) := by decide +kernel
theorem dL_arePats_31 : decode cL_arePats 31 = .ok (.aload_n 0, 1) := by decide +kernel
theorem dL_arePats_32 : decode cL_arePats 32 = .ok (.iload_n 1, 1) := by decide +kernel
theorem dL_arePats_33 : decode cL_arePats 33 = .ok (.invokestatic 230, 3) := by decide +kernel
theorem dL_arePats_36 : decode cL_arePats 36 = .ok (.sipush (-1000), 3) := by decide +kernel
theorem dL_arePats_39 : decode cL_arePats 39 = .ok (.if_icmp .ne 18, 3) := by decide +kernel
theorem dL_arePats_42 : decode cL_arePats 42 = .ok (.aload_n 0, 1) := by decide +kernel
theorem dL_arePats_43 : decode cL_arePats 43 = .ok (.iload_n 1, 1) := by decide +kernel
theorem dL_arePats_44 : decode cL_arePats 44 = .ok (.invokestatic 232, 3) := by decide +kernel
theorem dL_arePats_47 : decode cL_arePats 47 = .ok (.sipush (-1000), 3) := by decide +kernel
theorem dL_arePats_50 : decode cL_arePats 50 = .ok (.if_icmp .ne 7, 3) := by decide +kernel
theorem dL_arePats_53 : decode cL_arePats 53 = .ok (.iconst 1, 1) := by decide +kernel
theorem dL_arePats_54 : decode cL_arePats 54 = .ok (.goto 4, 3) := by decide +kernel
theorem dL_arePats_57 : decode cL_arePats 57 = .ok (.iconst 0, 1) := by decide +kernel
theorem dL_arePats_58 : decode cL_arePats 58 = .ok (.istore 6, 2) := by decide +kernel
theorem dL_arePats_60 : decode cL_arePats 60 = .ok (.iload_n 1, 1) := by decide +kernel
theorem dL_arePats_61 : decode cL_arePats 61 = .ok (.iconst 1, 1) := by decide +kernel
theorem dL_arePats_62 : decode cL_arePats 62 = .ok (.isub, 1) := by decide +kernel
theorem dL_arePats_63 : decode cL_arePats 63 = .ok (.istore 7, 2) := by decide +kernel
theorem dL_arePats_65 : decode cL_arePats 65 = .ok (.iload 6, 2) := by decide +kernel
theorem dL_arePats_67 : decode cL_arePats 67 = .ok (.ifCond .eq 190, 3) := by decide +kernel
theorem dL_arePats_70 : decode cL_arePats 70 = .ok (.iload 7, 2) := by decide +kernel
theorem dL_arePats_72 : decode cL_arePats 72 = .ok (.ifCond .lt 185, 3) := by decide +kernel
theorem dL_arePats_75 : decode cL_arePats 75 = .ok (.aload_n 0, 1) := by decide +kernel
theorem dL_arePats_76 : decode cL_arePats 76 = .ok (.iload 7, 2) := by decide +kernel
theorem dL_arePats_78 : decode cL_arePats 78 = .ok (.invokevirtual 211, 3) := by decide +kernel
theorem dL_arePats_81 : decode cL_arePats 81 = .ok (.bipush 30, 2) := by decide +kernel
theorem dL_arePats_83 : decode cL_arePats 83 = .ok (.if_icmp .gt 7, 3) := by decide +kernel
theorem dL_arePats_86 : decode cL_arePats 86 = .ok (.iconst 1, 1) := by decide +kernel
theorem dL_arePats_87 : decode cL_arePats 87 = .ok (.goto 4, 3) := by decide +kernel
theorem dL_arePats_90 : decode cL_arePats 90 = .ok (.iconst 0, 1) := by decide +kernel
theorem dL_arePats_91 : decode cL_arePats 91 = .ok (.istore 8, 2) := by decide +kernel
theorem dL_arePats_93 : decode cL_arePats 93 = .ok (.iload 8, 2) := by decide +kernel
theorem dL_arePats_95 : decode cL_arePats 95 = .ok (.ifCond .eq 7, 3) := by decide +kernel
theorem dL_arePats_98 : decode cL_arePats 98 = .ok (.iconst 0, 1) := by decide +kernel
theorem dL_arePats_99 : decode cL_arePats 99 = .ok (.goto 14, 3) := by decide +kernel
theorem dL_arePats_102 : decode cL_arePats 102 = .ok (.aload_n 0, 1) := by decide +kernel
theorem dL_arePats_103 : decode cL_arePats 103 = .ok (.iload 7, 2) := by decide +kernel
theorem dL_arePats_105 : decode cL_arePats 105 = .ok (.invokevirtual 211, 3) := by decide +kernel
theorem dL_arePats_108 : decode cL_arePats 108 = .ok (.bipush 26, 2) := by decide +kernel
theorem dL_arePats_110 : decode cL_arePats 110 = .ok (.isub, 1) := by decide +kernel
theorem dL_arePats_111 : decode cL_arePats 111 = .ok (.iconst 5, 1) := by decide +kernel
theorem dL_arePats_112 : decode cL_arePats 112 = .ok (.idiv, 1) := by decide +kernel
theorem dL_arePats_113 : decode cL_arePats 113 = .ok (.istore 9, 2) := by decide +kernel
theorem dL_arePats_115 : decode cL_arePats 115 = .ok (.iload_n 3, 1) := by decide +kernel
theorem dL_arePats_116 : decode cL_arePats 116 = .ok (.iload 8, 2) := by decide +kernel
theorem dL_arePats_118 : decode cL_arePats 118 = .ok (.ifCond .eq 7, 3) := by decide +kernel
theorem dL_arePats_121 : decode cL_arePats 121 = .ok (.iconst 1, 1) := by decide +kernel
theorem dL_arePats_122 : decode cL_arePats 122 = .ok (.goto 4, 3) := by decide +kernel
theorem dL_arePats_125 : decode cL_arePats 125 = .ok (.iconst 0, 1) := by decide +kernel
theorem dL_arePats_126 : decode cL_arePats 126 = .ok (.iadd, 1) := by decide +kernel
theorem dL_arePats_127 : decode cL_arePats 127 = .ok (.istore_n 3, 1) := by decide +kernel
theorem dL_arePats_128 : decode cL_arePats 128 = .ok (.iload 4, 2) := by decide +kernel
theorem dL_arePats_130 : decode cL_arePats 130 = .ok (.aload_n 0, 1) := by decide +kernel
theorem dL_arePats_131 : decode cL_arePats 131 = .ok (.iload 7, 2) := by decide +kernel
theorem dL_arePats_133 : decode cL_arePats 133 = .ok (.invokevirtual 217, 3) := by decide +kernel
theorem dL_arePats_136 : decode cL_arePats 136 = .ok (.iadd, 1) := by decide +kernel
theorem dL_arePats_137 : decode cL_arePats 137 = .ok (.istore 4, 2) := by decide +kernel
theorem dL_arePats_139 : decode cL_arePats 139 = .ok (.iload_n 2, 1) := by decide +kernel
theorem dL_arePats_140 : decode cL_arePats 140 = .ok (.aload_n 0, 1) := by decide +kernel
theorem dL_arePats_141 : decode cL_arePats 141 = .ok (.iload 7, 2) := by decide +kernel
theorem dL_arePats_143 : decode cL_arePats 143 = .ok (.invokevirtual 208, 3) := by decide +kernel
theorem dL_arePats_146 : decode cL_arePats 146 = .ok (.iadd, 1) := by decide +kernel
theorem dL_arePats_147 : decode cL_arePats 147 = .ok (.istore_n 2, 1) := by decide +kernel
theorem dL_arePats_148 : decode cL_arePats 148 = .ok (.iload 8, 2) := by decide +kernel
theorem dL_arePats_150 : decode cL_arePats 150 = .ok (.ifCond .eq 8, 3) := by decide +kernel
theorem dL_arePats_153 : decode cL_arePats 153 = .ok (.iload 7, 2) := by decide +kernel
theorem dL_arePats_155 : decode cL_arePats 155 = .ok (.goto 5, 3) := by decide +kernel
theorem dL_arePats_158 : decode cL_arePats 158 = .ok (.iload 5, 2) := by decide +kernel
theorem dL_arePats_160 : decode cL_arePats 160 = .ok (.istore 5, 2) := by decide +kernel
theorem dL_arePats_162 : decode cL_arePats 162 = .ok (.aload_n 0, 1) := by decide +kernel
theorem dL_arePats_163 : decode cL_arePats 163 = .ok (.iload 7, 2) := by decide +kernel
theorem dL_arePats_165 : decode cL_arePats 165 = .ok (.invokevirtual 234, 3) := by decide +kernel
theorem dL_arePats_168 : decode cL_arePats 168 = .ok (.iload 8, 2) := by decide +kernel
theorem dL_arePats_170 : decode cL_arePats 170 = .ok (.if_icmp .ne 78, 3) := by decide +kernel
theorem dL_arePats_173 : decode cL_arePats 173 = .ok (.aload_n 0, 1) := by decide +kernel
theorem dL_arePats_174 : decode cL_arePats 174 = .ok (.iload 7, 2) := by decide +kernel
theorem dL_arePats_176 : decode cL_arePats 176 = .ok (.invokevirtual 238, 3) := by decide +kernel
theorem dL_arePats_179 : decode cL_arePats 179 = .ok (.iload 9, 2) := by decide +kernel
theorem dL_arePats_181 : decode cL_arePats 181 = .ok (.if_icmp .ne 67, 3) := by decide +kernel
theorem dL_arePats_184 : decode cL_arePats 184 = .ok (.aload_n 0, 1) := by decide +kernel
theorem dL_arePats_185 : decode cL_arePats 185 = .ok (.iload 7, 2) := by decide +kernel
theorem dL_arePats_187 : decode cL_arePats 187 = .ok (.invokevirtual 241, 3) := by decide +kernel
theorem dL_arePats_190 : decode cL_arePats 190 = .ok (.iload 9, 2) := by decide +kernel
theorem dL_arePats_192 : decode cL_arePats 192 = .ok (.if_icmp .ne 56, 3) := by decide +kernel
theorem dL_arePats_195 : decode cL_arePats 195 = .ok (.aload_n 0, 1) := by decide +kernel
theorem dL_arePats_196 : decode cL_arePats 196 = .ok (.iload 7, 2) := by decide +kernel
theorem dL_arePats_198 : decode cL_arePats 198 = .ok (.invokestatic 232, 3) := by decide +kernel
theorem dL_arePats_201 : decode cL_arePats 201 = .ok (.iload 5, 2) := by decide +kernel
theorem dL_arePats_203 : decode cL_arePats 203 = .ok (.if_icmp .ne 45, 3) := by decide +kernel
theorem dL_arePats_206 : decode cL_arePats 206 = .ok (.aload_n 0, 1) := by decide +kernel
theorem dL_arePats_207 : decode cL_arePats 207 = .ok (.iload 7, 2) := by decide +kernel
theorem dL_arePats_209 : decode cL_arePats 209 = .ok (.invokevirtual 217, 3) := by decide +kernel
theorem dL_arePats_212 : decode cL_arePats 212 = .ok (.bipush 100, 2) := by decide +kernel
theorem dL_arePats_214 : decode cL_arePats 214 = .ok (.bipush 15, 2) := by decide +kernel
theorem dL_arePats_216 : decode cL_arePats 216 = .ok (.aload_n 0, 1) := by decide +kernel
theorem dL_arePats_217 : decode cL_arePats 217 = .ok (.iload 7, 2) := by decide +kernel
theorem dL_arePats_219 : decode cL_arePats 219 = .ok (.invokevirtual 214, 3) := by decide +kernel
theorem dL_arePats_222 : decode cL_arePats 222 = .ok (.imul, 1) := by decide +kernel
theorem dL_arePats_223 : decode cL_arePats 223 = .ok (.isub, 1) := by decide +kernel
theorem dL_arePats_224 : decode cL_arePats 224 = .ok (.if_icmp .gt 24, 3) := by decide +kernel
theorem dL_arePats_227 : decode cL_arePats 227 = .ok (.aload_n 0, 1) := by decide +kernel
theorem dL_arePats_228 : decode cL_arePats 228 = .ok (.iload 7, 2) := by decide +kernel
theorem dL_arePats_230 : decode cL_arePats 230 = .ok (.invokevirtual 244, 3) := by decide +kernel
theorem dL_arePats_233 : decode cL_arePats 233 = .ok (.iconst 5, 1) := by decide +kernel
theorem dL_arePats_234 : decode cL_arePats 234 = .ok (.aload_n 0, 1) := by decide +kernel
theorem dL_arePats_235 : decode cL_arePats 235 = .ok (.iload 7, 2) := by decide +kernel
theorem dL_arePats_237 : decode cL_arePats 237 = .ok (.invokevirtual 214, 3) := by decide +kernel
theorem dL_arePats_240 : decode cL_arePats 240 = .ok (.iadd, 1) := by decide +kernel
theorem dL_arePats_241 : decode cL_arePats 241 = .ok (.if_icmp .lt 7, 3) := by decide +kernel
theorem dL_arePats_244 : decode cL_arePats 244 = .ok (.iconst 1, 1) := by decide +kernel
theorem dL_arePats_245 : decode cL_arePats 245 = .ok (.goto 4, 3) := by decide +kernel
theorem dL_arePats_248 : decode cL_arePats 248 = .ok (.iconst 0, 1) := by decide +kernel
theorem dL_arePats_249 : decode cL_arePats 249 = .ok (.istore 6, 2) := by decide +kernel
theorem dL_arePats_251 : decode cL_arePats 251 = .ok (.iinc 7 (-1), 3) := by decide +kernel
theorem dL_arePats_254 : decode cL_arePats 254 = .ok (.goto (-189), 3) := by decide +kernel
theorem dL_arePats_257 : decode cL_arePats 257 = .ok (.iconst 1, 1) := by decide +kernel
theorem dL_arePats_258 : decode cL_arePats 258 = .ok (.istore 7, 2) := by decide +kernel
theorem dL_arePats_260 : decode cL_arePats 260 = .ok (.iload 6, 2) := by decide +kernel
theorem dL_arePats_262 : decode cL_arePats 262 = .ok (.ifCond .eq 97, 3) := by decide +kernel
theorem dL_arePats_265 : decode cL_arePats 265 = .ok (.iload 7, 2) := by decide +kernel
theorem dL_arePats_267 : decode cL_arePats 267 = .ok (.iload_n 1, 1) := by decide +kernel
theorem dL_arePats_268 : decode cL_arePats 268 = .ok (.if_icmp .ge 91, 3) := by decide +kernel
theorem dL_arePats_271 : decode cL_arePats 271 = .ok (.aload_n 0, 1) := by decide +kernel
theorem dL_arePats_272 : decode cL_arePats 272 = .ok (.iload 7, 2) := by decide +kernel
theorem dL_arePats_274 : decode cL_arePats 274 = .ok (.iconst 1, 1) := by decide +kernel
theorem dL_arePats_275 : decode cL_arePats 275 = .ok (.isub, 1) := by decide +kernel
theorem dL_arePats_276 : decode cL_arePats 276 = .ok (.invokestatic 230, 3) := by decide +kernel
theorem dL_arePats_279 : decode cL_arePats 279 = .ok (.istore 8, 2) := by decide +kernel
theorem dL_arePats_281 : decode cL_arePats 281 = .ok (.aload_n 0, 1) := by decide +kernel
theorem dL_arePats_282 : decode cL_arePats 282 = .ok (.iload 7, 2) := by decide +kernel
theorem dL_arePats_284 : decode cL_arePats 284 = .ok (.invokestatic 230, 3) := by decide +kernel
theorem dL_arePats_287 : decode cL_arePats 287 = .ok (.istore 9, 2) := by decide +kernel
theorem dL_arePats_289 : decode cL_arePats 289 = .ok (.aload_n 0, 1) := by decide +kernel
theorem dL_arePats_290 : decode cL_arePats 290 = .ok (.iload 8, 2) := by decide +kernel
theorem dL_arePats_292 : decode cL_arePats 292 = .ok (.invokevirtual 217, 3) := by decide +kernel
theorem dL_arePats_295 : decode cL_arePats 295 = .ok (.aload_n 0, 1) := by decide +kernel
theorem dL_arePats_296 : decode cL_arePats 296 = .ok (.iload 9, 2) := by decide +kernel
theorem dL_arePats_298 : decode cL_arePats 298 = .ok (.invokevirtual 217, 3) := by decide +kernel
theorem dL_arePats_301 : decode cL_arePats 301 = .ok (.isub, 1) := by decide +kernel
theorem dL_arePats_302 : decode cL_arePats 302 = .ok (.istore 10, 2) := by decide +kernel
theorem dL_arePats_304 : decode cL_arePats 304 = .ok (.aload_n 0, 1) := by decide +kernel
theorem dL_arePats_305 : decode cL_arePats 305 = .ok (.iload 8, 2) := by decide +kernel
theorem dL_arePats_307 : decode cL_arePats 307 = .ok (.invokevirtual 208, 3) := by decide +kernel
theorem dL_arePats_310 : decode cL_arePats 310 = .ok (.aload_n 0, 1) := by decide +kernel
theorem dL_arePats_311 : decode cL_arePats 311 = .ok (.iload 9, 2) := by decide +kernel
theorem dL_arePats_313 : decode cL_arePats 313 = .ok (.invokevirtual 208, 3) := by decide +kernel
theorem dL_arePats_316 : decode cL_arePats 316 = .ok (.isub, 1) := by decide +kernel
theorem dL_arePats_317 : decode cL_arePats 317 = .ok (.istore 11, 2) := by decide +kernel
theorem dL_arePats_319 : decode cL_arePats 319 = .ok (.iload 10, 2) := by decide +kernel
theorem dL_arePats_321 : decode cL_arePats 321 = .ok (.ifCond .gt 25, 3) := by decide +kernel
theorem dL_arePats_324 : decode cL_arePats 324 = .ok (.iload 10, 2) := by decide +kernel
theorem dL_arePats_326 : decode cL_arePats 326 = .ok (.ifCond .ne 24, 3) := by decide +kernel
theorem dL_arePats_329 : decode cL_arePats 329 = .ok (.iload 11, 2) := by decide +kernel
theorem dL_arePats_331 : decode cL_arePats 331 = .ok (.ifCond .gt 15, 3) := by decide +kernel
theorem dL_arePats_334 : decode cL_arePats 334 = .ok (.iload 11, 2) := by decide +kernel
theorem dL_arePats_336 : decode cL_arePats 336 = .ok (.ifCond .ne 14, 3) := by decide +kernel
theorem dL_arePats_339 : decode cL_arePats 339 = .ok (.iload 8, 2) := by decide +kernel
theorem dL_arePats_341 : decode cL_arePats 341 = .ok (.iload 9, 2) := by decide +kernel
theorem dL_arePats_343 : decode cL_arePats 343 = .ok (.if_icmp .ge 7, 3) := by decide +kernel
theorem dL_arePats_346 : decode cL_arePats 346 = .ok (.iconst 1, 1) := by decide +kernel
theorem dL_arePats_347 : decode cL_arePats 347 = .ok (.goto 4, 3) := by decide +kernel
theorem dL_arePats_350 : decode cL_arePats 350 = .ok (.iconst 0, 1) := by decide +kernel
theorem dL_arePats_351 : decode cL_arePats 351 = .ok (.istore 6, 2) := by decide +kernel
theorem dL_arePats_353 : decode cL_arePats 353 = .ok (.iinc 7 1, 3) := by decide +kernel
theorem dL_arePats_356 : decode cL_arePats 356 = .ok (.goto (-96), 3) := by decide +kernel
theorem dL_arePats_359 : decode cL_arePats 359 = .ok (.iload 6, 2) := by decide +kernel
theorem dL_arePats_361 : decode cL_arePats 361 = .ok (.ifCond .eq 61, 3) := by decide +kernel
theorem dL_arePats_364 : decode cL_arePats 364 = .ok (.iload_n 2, 1) := by decide +kernel
theorem dL_arePats_365 : decode cL_arePats 365 = .ok (.aload_n 0, 1) := by decide +kernel
theorem dL_arePats_366 : decode cL_arePats 366 = .ok (.invokevirtual 180, 3) := by decide +kernel
theorem dL_arePats_369 : decode cL_arePats 369 = .ok (.if_icmp .ne 53, 3) := by decide +kernel
theorem dL_arePats_372 : decode cL_arePats 372 = .ok (.aload_n 0, 1) := by decide +kernel
theorem dL_arePats_373 : decode cL_arePats 373 = .ok (.invokestatic 247, 3) := by decide +kernel
theorem dL_arePats_376 : decode cL_arePats 376 = .ok (.iload_n 1, 1) := by decide +kernel
theorem dL_arePats_377 : decode cL_arePats 377 = .ok (.ifCond .ne 9, 3) := by decide +kernel
theorem dL_arePats_380 : decode cL_arePats 380 = .ok (.ldc2_w 61, 3) := by decide +kernel
theorem dL_arePats_383 : decode cL_arePats 383 = .ok (.goto 9, 3) := by decide +kernel
theorem dL_arePats_386 : decode cL_arePats 386 = .ok (.iload 4, 2) := by decide +kernel
theorem dL_arePats_388 : decode cL_arePats 388 = .ok (.i2d, 1) := by decide +kernel
theorem dL_arePats_389 : decode cL_arePats 389 = .ok (.iload_n 1, 1) := by decide +kernel
theorem dL_arePats_390 : decode cL_arePats 390 = .ok (.i2d, 1) := by decide +kernel
theorem dL_arePats_391 : decode cL_arePats 391 = .ok (.ddiv, 1) := by decide +kernel
theorem dL_arePats_392 : decode cL_arePats 392 = .ok (.dcmp .l, 1) := by decide +kernel
theorem dL_arePats_393 : decode cL_arePats 393 = .ok (.ifCond .ne 29, 3) := by decide +kernel
theorem dL_arePats_396 : decode cL_arePats 396 = .ok (.aload_n 0, 1) := by decide +kernel
theorem dL_arePats_397 : decode cL_arePats 397 = .ok (.invokestatic 250, 3) := by decide +kernel
theorem dL_arePats_400 : decode cL_arePats 400 = .ok (.iload_n 1, 1) := by decide +kernel
theorem dL_arePats_401 : decode cL_arePats 401 = .ok (.ifCond .ne 8, 3) := by decide +kernel
theorem dL_arePats_404 : decode cL_arePats 404 = .ok (.ldc 69, 2) := by decide +kernel
theorem dL_arePats_406 : decode cL_arePats 406 = .ok (.goto 8, 3) := by decide +kernel
theorem dL_arePats_409 : decode cL_arePats 409 = .ok (.iload_n 3, 1) := by decide +kernel
theorem dL_arePats_410 : decode cL_arePats 410 = .ok (.i2f, 1) := by decide +kernel
theorem dL_arePats_411 : decode cL_arePats 411 = .ok (.iload_n 1, 1) := by decide +kernel
theorem dL_arePats_412 : decode cL_arePats 412 = .ok (.i2f, 1) := by decide +kernel
theorem dL_arePats_413 : decode cL_arePats 413 = .ok (.fdiv, 1) := by decide +kernel
theorem dL_arePats_414 : decode cL_arePats 414 = .ok (.fcmp .l, 1) := by decide +kernel
theorem dL_arePats_415 : decode cL_arePats 415 = .ok (.ifCond .ne 7, 3) := by decide +kernel
theorem dL_arePats_418 : decode cL_arePats 418 = .ok (.iconst 1, 1) := by decide +kernel
theorem dL_arePats_419 : decode cL_arePats 419 = .ok (.goto 4, 3) := by decide +kernel
theorem dL_arePats_422 : decode cL_arePats 422 = .ok (.iconst 0, 1) := by decide +kernel
theorem dL_arePats_423 : decode cL_arePats 423 = .ok (.ireturn, 1) := by decide +kernel
theorem dL_isForetold_0 : decode cL_isForetold 0 = .ok (.aload_n 0, 1) := by decide +kernel
theorem dL_isForetold_1 : decode cL_isForetold 1 = .ok (.invokestatic 253, 3) := by decide +kernel
theorem dL_isForetold_4 : decode cL_isForetold 4 = .ok (.lstore_n 2, 1) := by decide +kernel
theorem dL_isForetold_5 : decode cL_isForetold 5 = .ok (.aload_n 0, 1) := by decide +kernel
theorem dL_isForetold_6 : decode cL_isForetold 6 = .ok (.iload_n 1, 1) := by decide +kernel
theorem dL_isForetold_7 : decode cL_isForetold 7 = .ok (.invokevirtual 257, 3) := by decide +kernel
theorem dL_isForetold_10 : decode cL_isForetold 10 = .ok (.istore 4, 2) := by decide +kernel
theorem dL_isForetold_12 : decode cL_isForetold 12 = .ok (.aload_n 0, 1) := by decide +kernel
theorem dL_isForetold_13 : decode cL_isForetold 13 = .ok (.iload_n 1, 1) := by decide +kernel
theorem dL_isForetold_14 : decode cL_isForetold 14 = .ok (.invokevirtual 260, 3) := by decide +kernel
theorem dL_isForetold_17 : decode cL_isForetold 17 = .ok (.istore 5, 2) := by decide +kernel
theorem dL_isForetold_19 : decode cL_isForetold 19 = .ok (.aload_n 0, 1) := by decide +kernel
theorem dL_isForetold_20 : decode cL_isForetold 20 = .ok (.invokevirtual 196, 3) := by decide +kernel
theorem dL_isForetold_23 : decode cL_isForetold 23 = .ok (.istore 6, 2) := by decide +kernel
theorem dL_isForetold_25 : decode cL_isForetold 25 = .ok (.aload_n 0, 1) := by decide +kernel
theorem dL_isForetold_26 : decode cL_isForetold 26 = .ok (.invokevirtual 175, 3) := by decide +kernel
theorem dL_isForetold_29 : decode cL_isForetold 29 = .ok (.istore 7, 2) := by decide +kernel
theorem dL_isForetold_31 : decode cL_isForetold 31 = .ok (.aload_n 0, 1) := by decide +kernel
theorem dL_isForetold_32 : decode cL_isForetold 32 = .ok (.invokevirtual 263, 3) := by decide +kernel
theorem dL_isForetold_35 : decode cL_isForetold 35 = .ok (.istore 8, 2) := by decide +kernel
theorem dL_isForetold_37 : decode cL_isForetold 37 = .ok (.aload_n 0, 1) := by decide +kernel
theorem dL_isForetold_38 : decode cL_isForetold 38 = .ok (.iconst 0, 1) := by decide +kernel
theorem dL_isForetold_39 : decode cL_isForetold 39 = .ok (.invokevirtual 257, 3) := by decide +kernel
theorem dL_isForetold_42 : decode cL_isForetold 42 = .ok (.aload_n 0, 1) := by decide +kernel
theorem dL_isForetold_43 : decode cL_isForetold 43 = .ok (.invokevirtual 160, 3) := by decide +kernel
theorem dL_isForetold_46 : decode cL_isForetold 46 = .ok (.if_icmp .ne 40, 3) := by decide +kernel
theorem dL_isForetold_49 : decode cL_isForetold 49 = .ok (.iload 8, 2) := by decide +kernel
theorem dL_isForetold_51 : decode cL_isForetold 51 = .ok (.aload_n 0, 1) := by decide +kernel
theorem dL_isForetold_52 : decode cL_isForetold 52 = .ok (.invokevirtual 160, 3) := by decide +kernel
theorem dL_isForetold_55 : decode cL_isForetold 55 = .ok (.if_icmp .lt 31, 3) := by decide +kernel
theorem dL_isForetold_58 : decode cL_isForetold 58 = .ok (.iload 8, 2) := by decide +kernel
theorem dL_isForetold_60 : decode cL_isForetold 60 = .ok (.aload_n 0, 1) := by decide +kernel
theorem dL_isForetold_61 : decode cL_isForetold 61 = .ok (.iload 6, 2) := by decide +kernel
theorem dL_isForetold_63 : decode cL_isForetold 63 = .ok (.iload_n 1, 1) := by decide +kernel
theorem dL_isForetold_64 : decode cL_isForetold 64 = .ok (.invokestatic 266, 3) := by decide +kernel
theorem dL_isForetold_67 : decode cL_isForetold 67 = .ok (.invokevirtual 257, 3) := by decide +kernel
theorem dL_isForetold_70 : decode cL_isForetold 70 = .ok (.if_icmp .lt 16, 3) := by decide +kernel
theorem dL_isForetold_73 : decode cL_isForetold 73 = .ok (.aload_n 0, 1) := by decide +kernel
theorem dL_isForetold_74 : decode cL_isForetold 74 = .ok (.invokestatic 253, 3) := by decide +kernel
theorem dL_isForetold_77 : decode cL_isForetold 77 = .ok (.lload_n 2, 1) := by decide +kernel
theorem dL_isForetold_78 : decode cL_isForetold 78 = .ok (.lcmp, 1) := by decide +kernel
theorem dL_isForetold_79 : decode cL_isForetold 79 = .ok (.ifCond .ne 7, 3) := by decide +kernel
theorem dL_isForetold_82 : decode cL_isForetold 82 = .ok (.iconst 1, 1) := by decide +kernel
theorem dL_isForetold_83 : decode cL_isForetold 83 = .ok (.goto 4, 3) := by decide +kernel
theorem dL_isForetold_86 : decode cL_isForetold 86 = .ok (.iconst 0, 1) := by decide +kernel
theorem dL_isForetold_87 : decode cL_isForetold 87 = .ok (.istore 9, 2) := by decide +kernel
theorem dL_isForetold_89 : decode cL_isForetold 89 = .ok (.aload_n 0, 1) := by decide +kernel
theorem dL_isForetold_90 : decode cL_isForetold 90 = .ok (.iload_n 1, 1) := by decide +kernel
theorem dL_isForetold_91 : decode cL_isForetold 91 = .ok (.invokestatic 122, 3) := by decide +kernel
theorem dL_isForetold_94 : decode cL_isForetold 94 = .ok (.istore 10, 2) := by decide +kernel
theorem dL_isForetold_96 : decode cL_isForetold 96 = .ok (.iload 9, 2) := by decide +kernel
theorem dL_isForetold_98 : decode cL_isForetold 98 = .ok (.ifCond .eq 88, 3) := by decide +kernel
theorem dL_isForetold_101 : decode cL_isForetold 101 = .ok (.iload 10, 2) := by decide +kernel
theorem dL_isForetold_103 : decode cL_isForetold 103 = .ok (.iload 6, 2) := by decide +kernel
theorem dL_isForetold_105 : decode cL_isForetold 105 = .ok (.iload_n 1, 1) := by decide +kernel
theorem dL_isForetold_106 : decode cL_isForetold 106 = .ok (.invokestatic 266, 3) := by decide +kernel
theorem dL_isForetold_109 : decode cL_isForetold 109 = .ok (.if_icmp .ne 77, 3) := by decide +kernel
theorem dL_isForetold_112 : decode cL_isForetold 112 = .ok (.aload_n 0, 1) := by decide +kernel
theorem dL_isForetold_113 : decode cL_isForetold 113 = .ok (.invokevirtual 160, 3) := by decide +kernel
theorem dL_isForetold_116 : decode cL_isForetold 116 = .ok (.iload 4, 2) := by decide +kernel
theorem dL_isForetold_118 : decode cL_isForetold 118 = .ok (.if_icmp .ne 68, 3) := by decide +kernel
theorem dL_isForetold_121 : decode cL_isForetold 121 = .ok (.aload_n 0, 1) := by decide +kernel
theorem dL_isForetold_122 : decode cL_isForetold 122 = .ok (.invokevirtual 165, 3) := by decide +kernel
theorem dL_isForetold_125 : decode cL_isForetold 125 = .ok (.iload 5, 2) := by decide +kernel
theorem dL_isForetold_127 : decode cL_isForetold 127 = .ok (.if_icmp .ne 59, 3) := by decide +kernel
theorem dL_isForetold_130 : decode cL_isForetold 130 = .ok (.aload_n 0, 1) := by decide +kernel
theorem dL_isForetold_131 : decode cL_isForetold 131 = .ok (.invokevirtual 196, 3) := by decide +kernel
theorem dL_isForetold_134 : decode cL_isForetold 134 = .ok (.iload 6, 2) := by decide +kernel
theorem dL_isForetold_136 : decode cL_isForetold 136 = .ok (.iload 10, 2) := by decide +kernel
theorem dL_isForetold_138 : decode cL_isForetold 138 = .ok (.isub, 1) := by decide +kernel
theorem dL_isForetold_139 : decode cL_isForetold 139 = .ok (.if_icmp .ne 47, 3) := by decide +kernel
theorem dL_isForetold_142 : decode cL_isForetold 142 = .ok (.aload_n 0, 1) := by decide +kernel
theorem dL_isForetold_143 : decode cL_isForetold 143 = .ok (.invokevirtual 175, 3) := by decide +kernel
theorem dL_isForetold_146 : decode cL_isForetold 146 = .ok (.iload 7, 2) := by decide +kernel
theorem dL_isForetold_148 : decode cL_isForetold 148 = .ok (.iload 6, 2) := by decide +kernel
theorem dL_isForetold_150 : decode cL_isForetold 150 = .ok (.ifCond .le 13, 3) := by decide +kernel
theorem dL_isForetold_153 : decode cL_isForetold 153 = .ok (.iload 6, 2) := by decide +kernel
theorem dL_isForetold_155 : decode cL_isForetold 155 = .ok (.iload_n 1, 1) := by decide +kernel
theorem dL_isForetold_156 : decode cL_isForetold 156 = .ok (.if_icmp .gt 7, 3) := by decide +kernel
theorem dL_isForetold_159 : decode cL_isForetold 159 = .ok (.iconst 1, 1) := by decide +kernel
theorem dL_isForetold_160 : decode cL_isForetold 160 = .ok (.goto 4, 3) := by decide +kernel
theorem dL_isForetold_163 : decode cL_isForetold 163 = .ok (.iconst 0, 1) := by decide +kernel
theorem dL_isForetold_164 : decode cL_isForetold 164 = .ok (.iadd, 1) := by decide +kernel
theorem dL_isForetold_165 : decode cL_isForetold 165 = .ok (.if_icmp .ne 21, 3) := by decide +kernel
theorem dL_isForetold_168 : decode cL_isForetold 168 = .ok (.aload_n 0, 1) := by decide +kernel
theorem dL_isForetold_169 : decode cL_isForetold 169 = .ok (.invokestatic 272, 3) := by decide +kernel
theorem dL_isForetold_172 : decode cL_isForetold 172 = .ok (.ifCond .eq 14, 3) := by decide +kernel
theorem dL_isForetold_175 : decode cL_isForetold 175 = .ok (.aload_n 0, 1) := by decide +kernel
theorem dL_isForetold_176 : decode cL_isForetold 176 = .ok (.invokestatic 276, 3) := by decide +kernel
theorem dL_isForetold_179 : decode cL_isForetold 179 = .ok (.ifCond .eq 7, 3) := by decide +kernel
theorem dL_isForetold_182 : decode cL_isForetold 182 = .ok (.iconst 1, 1) := by decide +kernel
theorem dL_isForetold_183 : decode cL_isForetold 183 = .ok (.goto 4, 3) := by decide +kernel
theorem dL_isForetold_186 : decode cL_isForetold 186 = .ok (.iconst 0, 1) := by decide +kernel
theorem dL_isForetold_187 : decode cL_isForetold 187 = .ok (.istore 9, 2) := by decide +kernel
theorem dL_isForetold_189 : decode cL_isForetold 189 = .ok (.iload 9, 2) := by decide +kernel
theorem dL_isForetold_191 : decode cL_isForetold 191 = .ok (.ifCond .eq 23, 3) := by decide +kernel
theorem dL_isForetold_194 : decode cL_isForetold 194 = .ok (.aload_n 0, 1) := by decide +kernel
theorem dL_isForetold_195 : decode cL_isForetold 195 = .ok (.invokestatic 146, 3) := by decide +kernel
theorem dL_isForetold_198 : decode cL_isForetold 198 = .ok (.ifCond .lt 16, 3) := by decide +kernel
theorem dL_isForetold_201 : decode cL_isForetold 201 = .ok (.aload_n 0, 1) := by decide +kernel
theorem dL_isForetold_202 : decode cL_isForetold 202 = .ok (.invokestatic 253, 3) := by decide +kernel
theorem dL_isForetold_205 : decode cL_isForetold 205 = .ok (.lload_n 2, 1) := by decide +kernel
theorem dL_isForetold_206 : decode cL_isForetold 206 = .ok (.lcmp, 1) := by decide +kernel
theorem dL_isForetold_207 : decode cL_isForetold 207 = .ok (.ifCond .ne 7, 3) := by decide +kernel
theorem dL_isForetold_210 : decode cL_isForetold 210 = .ok (.iconst 1, 1) := by decide +kernel
theorem dL_isForetold_211 : decode cL_isForetold 211 = .ok (.goto 4, 3) := by decide +kernel
theorem dL_isForetold_214 : decode cL_isForetold 214 = .ok (.iconst 0, 1) := by decide +kernel
theorem dL_isForetold_215 : decode cL_isForetold 215 = .ok (.ireturn, 1) := by decide +kernel
theorem dL_isPressed_0 : decode cL_isPressed 0 = .ok (.aload_n 0, 1) := by decide +kernel
theorem dL_isPressed_1 : decode cL_isPressed 1 = .ok (.invokestatic 253, 3) := by decide +kernel
theorem dL_isPressed_4 : decode cL_isPressed 4 = .ok (.lstore_n 2, 1) := by decide +kernel
theorem dL_isPressed_5 : decode cL_isPressed 5 = .ok (.aload_n 0, 1) := by decide +kernel
theorem dL_isPressed_6 : decode cL_isPressed 6 = .ok (.invokevirtual 155, 3) := by decide +kernel
theorem dL_isPressed_9 : decode cL_isPressed 9 = .ok (.istore 4, 2) := by decide +kernel
theorem dL_isPressed_11 : decode cL_isPressed 11 = .ok (.aload_n 0, 1) := by decide +kernel
theorem dL_isPressed_12 : decode cL_isPressed 12 = .ok (.invokevirtual 205, 3) := by decide +kernel
theorem dL_isPressed_15 : decode cL_isPressed 15 = .ok (.istore 5, 2) := by decide +kernel
theorem dL_isPressed_17 : decode cL_isPressed 17 = .ok (.aload_n 0, 1) := by decide +kernel
theorem dL_isPressed_18 : decode cL_isPressed 18 = .ok (.invokevirtual 170, 3) := by decide +kernel
theorem dL_isPressed_21 : decode cL_isPressed 21 = .ok (.bipush 10, 2) := by decide +kernel
theorem dL_isPressed_23 : decode cL_isPressed 23 = .ok (.idiv, 1) := by decide +kernel
theorem dL_isPressed_24 : decode cL_isPressed 24 = .ok (.aload_n 0, 1) := by decide +kernel
theorem dL_isPressed_25 : decode cL_isPressed 25 = .ok (.invokevirtual 160, 3) := by decide +kernel
theorem dL_isPressed_28 : decode cL_isPressed 28 = .ok (.bipush 100, 2) := by decide +kernel
theorem dL_isPressed_30 : decode cL_isPressed 30 = .ok (.if_icmp .le 7, 3) := by decide +kernel
theorem dL_isPressed_33 : decode cL_isPressed 33 = .ok (.iconst 1, 1) := by decide +kernel
theorem dL_isPressed_34 : decode cL_isPressed 34 = .ok (.goto 4, 3) := by decide +kernel
theorem dL_isPressed_37 : decode cL_isPressed 37 = .ok (.iconst 0, 1) := by decide +kernel
theorem dL_isPressed_38 : decode cL_isPressed 38 = .ok (.iadd, 1) := by decide +kernel
theorem dL_isPressed_39 : decode cL_isPressed 39 = .ok (.istore 6, 2) := by decide +kernel
theorem dL_isPressed_41 : decode cL_isPressed 41 = .ok (.aload_n 0, 1) := by decide +kernel
theorem dL_isPressed_42 : decode cL_isPressed 42 = .ok (.iload_n 1, 1) := by decide +kernel
theorem dL_isPressed_43 : decode cL_isPressed 43 = .ok (.invokestatic 124, 3) := by decide +kernel
theorem dL_isPressed_46 : decode cL_isPressed 46 = .ok (.istore 7, 2) := by decide +kernel
theorem dL_isPressed_48 : decode cL_isPressed 48 = .ok (.iload 7, 2) := by decide +kernel
theorem dL_isPressed_50 : decode cL_isPressed 50 = .ok (.ldc 10, 2) := by decide +kernel
theorem dL_isPressed_52 : decode cL_isPressed 52 = .ok (.if_icmp .ne 31, 3) := by decide +kernel
theorem dL_isPressed_55 : decode cL_isPressed 55 = .ok (.iload 4, 2) := by decide +kernel
theorem dL_isPressed_57 : decode cL_isPressed 57 = .ok (.iload_n 1, 1) := by decide +kernel
theorem dL_isPressed_58 : decode cL_isPressed 58 = .ok (.if_icmp .lt 10, 3) := by decide +kernel
theorem dL_isPressed_61 : decode cL_isPressed 61 = .ok (.iload 5, 2) := by decide +kernel
theorem dL_isPressed_63 : decode cL_isPressed 63 = .ok (.bipush 12, 2) := by decide +kernel
theorem dL_isPressed_65 : decode cL_isPressed 65 = .ok (.if_icmp .ne 16, 3) := by decide +kernel
theorem dL_isPressed_68 : decode cL_isPressed 68 = .ok (.aload_n 0, 1) := by decide +kernel
theorem dL_isPressed_69 : decode cL_isPressed 69 = .ok (.invokestatic 253, 3) := by decide +kernel
theorem dL_isPressed_72 : decode cL_isPressed 72 = .ok (.lload_n 2, 1) := by decide +kernel
theorem dL_isPressed_73 : decode cL_isPressed 73 = .ok (.lcmp, 1) := by decide +kernel
theorem dL_isPressed_74 : decode cL_isPressed 74 = .ok (.ifCond .ne 7, 3) := by decide +kernel
theorem dL_isPressed_77 : decode cL_isPressed 77 = .ok (.iconst 1, 1) := by decide +kernel
theorem dL_isPressed_78 : decode cL_isPressed 78 = .ok (.goto 4, 3) := by decide +kernel
theorem dL_isPressed_81 : decode cL_isPressed 81 = .ok (.iconst 0, 1) := by decide +kernel
theorem dL_isPressed_82 : decode cL_isPressed 82 = .ok (.ireturn, 1) := by decide +kernel
theorem dL_isPressed_83 : decode cL_isPressed 83 = .ok (.iload 7, 2) := by decide +kernel
theorem dL_isPressed_85 : decode cL_isPressed 85 = .ok (.iload 5, 2) := by decide +kernel
theorem dL_isPressed_87 : decode cL_isPressed 87 = .ok (.if_icmp .ne 78, 3) := by decide +kernel
theorem dL_isPressed_90 : decode cL_isPressed 90 = .ok (.aload_n 0, 1) := by decide +kernel
theorem dL_isPressed_91 : decode cL_isPressed 91 = .ok (.iload 7, 2) := by decide +kernel
theorem dL_isPressed_93 : decode cL_isPressed 93 = .ok (.invokevirtual 208, 3) := by decide +kernel
theorem dL_isPressed_96 : decode cL_isPressed 96 = .ok (.iload_n 1, 1) := by decide +kernel
theorem dL_isPressed_97 : decode cL_isPressed 97 = .ok (.if_icmp .ne 68, 3) := by decide +kernel
theorem dL_isPressed_100 : decode cL_isPressed 100 = .ok (.aload_n 0, 1) := by decide +kernel
theorem dL_isPressed_101 : decode cL_isPressed 101 = .ok (.invokevirtual 155, 3) := by decide +kernel
theorem dL_isPressed_104 : decode cL_isPressed 104 = .ok (.iload 4, 2) := by decide +kernel
theorem dL_isPressed_106 : decode cL_isPressed 106 = .ok (.iload_n 1, 1) := by decide +kernel
theorem dL_isPressed_107 : decode cL_isPressed 107 = .ok (.isub, 1) := by decide +kernel
theorem dL_isPressed_108 : decode cL_isPressed 108 = .ok (.if_icmp .ne 57, 3) := by decide +kernel
theorem dL_isPressed_111 : decode cL_isPressed 111 = .ok (.aload_n 0, 1) := by decide +kernel
theorem dL_isPressed_112 : decode cL_isPressed 112 = .ok (.iload 7, 2) := by decide +kernel
theorem dL_isPressed_114 : decode cL_isPressed 114 = .ok (.invokevirtual 214, 3) := by decide +kernel
theorem dL_isPressed_117 : decode cL_isPressed 117 = .ok (.iload 6, 2) := by decide +kernel
theorem dL_isPressed_119 : decode cL_isPressed 119 = .ok (.if_icmp .ne 46, 3) := by decide +kernel
theorem dL_isPressed_122 : decode cL_isPressed 122 = .ok (.aload_n 0, 1) := by decide +kernel
theorem dL_isPressed_123 : decode cL_isPressed 123 = .ok (.iload 7, 2) := by decide +kernel
theorem dL_isPressed_125 : decode cL_isPressed 125 = .ok (.invokevirtual 211, 3) := by decide +kernel
theorem dL_isPressed_128 : decode cL_isPressed 128 = .ok (.aload_n 0, 1) := by decide +kernel
theorem dL_isPressed_129 : decode cL_isPressed 129 = .ok (.invokevirtual 160, 3) := by decide +kernel
theorem dL_isPressed_132 : decode cL_isPressed 132 = .ok (.if_icmp .ne 33, 3) := by decide +kernel
theorem dL_isPressed_135 : decode cL_isPressed 135 = .ok (.aload_n 0, 1) := by decide +kernel
theorem dL_isPressed_136 : decode cL_isPressed 136 = .ok (.iload 7, 2) := by decide +kernel
theorem dL_isPressed_138 : decode cL_isPressed 138 = .ok (.invokevirtual 217, 3) := by decide +kernel
theorem dL_isPressed_141 : decode cL_isPressed 141 = .ok (.aload_n 0, 1) := by decide +kernel
theorem dL_isPressed_142 : decode cL_isPressed 142 = .ok (.invokevirtual 165, 3) := by decide +kernel
theorem dL_isPressed_145 : decode cL_isPressed 145 = .ok (.bipush 15, 2) := by decide +kernel
theorem dL_isPressed_147 : decode cL_isPressed 147 = .ok (.iload 6, 2) := by decide +kernel
theorem dL_isPressed_149 : decode cL_isPressed 149 = .ok (.imul, 1) := by decide +kernel
theorem dL_isPressed_150 : decode cL_isPressed 150 = .ok (.isub, 1) := by decide +kernel
theorem dL_isPressed_151 : decode cL_isPressed 151 = .ok (.if_icmp .ne 14, 3) := by decide +kernel
theorem dL_isPressed_154 : decode cL_isPressed 154 = .ok (.aload_n 0, 1) := by decide +kernel
theorem dL_isPressed_155 : decode cL_isPressed 155 = .ok (.invokestatic 276, 3) := by decide +kernel
theorem dL_isPressed_158 : decode cL_isPressed 158 = .ok (.ifCond .eq 7, 3) := by decide +kernel
theorem dL_isPressed_161 : decode cL_isPressed 161 = .ok (.iconst 1, 1) := by decide +kernel
theorem dL_isPressed_162 : decode cL_isPressed 162 = .ok (.goto 4, 3) := by decide +kernel
theorem dL_isPressed_165 : decode cL_isPressed 165 = .ok (.iconst 0, 1) := by decide +kernel
theorem dL_isPressed_166 : decode cL_isPressed 166 = .ok (.istore 8, 2) := by decide +kernel
theorem dL_isPressed_168 : decode cL_isPressed 168 = .ok (.aload_n 0, 1) := by decide +kernel
theorem dL_isPressed_169 : decode cL_isPressed 169 = .ok (.invokevirtual 160, 3) := by decide +kernel
theorem dL_isPressed_172 : decode cL_isPressed 172 = .ok (.iload 4, 2) := by decide +kernel
theorem dL_isPressed_174 : decode cL_isPressed 174 = .ok (.iload_n 1, 1) := by decide +kernel
theorem dL_isPressed_175 : decode cL_isPressed 175 = .ok (.isub, 1) := by decide +kernel
theorem dL_isPressed_176 : decode cL_isPressed 176 = .ok (.imul, 1) := by decide +kernel
theorem dL_isPressed_177 : decode cL_isPressed 177 = .ok (.bipush 20, 2) := by decide +kernel
theorem dL_isPressed_179 : decode cL_isPressed 179 = .ok (.iload_n 1, 1) := by decide +kernel
theorem dL_isPressed_180 : decode cL_isPressed 180 = .ok (.imul, 1) := by decide +kernel
theorem dL_isPressed_181 : decode cL_isPressed 181 = .ok (.iadd, 1) := by decide +kernel
theorem dL_isPressed_182 : decode cL_isPressed 182 = .ok (.iload 4, 2) := by decide +kernel
theorem dL_isPressed_184 : decode cL_isPressed 184 = .ok (.idiv, 1) := by decide +kernel
theorem dL_isPressed_185 : decode cL_isPressed 185 = .ok (.istore 9, 2) := by decide +kernel
theorem dL_isPressed_187 : decode cL_isPressed 187 = .ok (.iload 8, 2) := by decide +kernel
theorem dL_isPressed_189 : decode cL_isPressed 189 = .ok (.ifCond .eq 50, 3) := by decide +kernel
theorem dL_isPressed_192 : decode cL_isPressed 192 = .ok (.aload_n 0, 1) := by decide +kernel
theorem dL_isPressed_193 : decode cL_isPressed 193 = .ok (.iload 7, 2) := by decide +kernel
theorem dL_isPressed_195 : decode cL_isPressed 195 = .ok (.invokestatic 128, 3) := by decide +kernel
theorem dL_isPressed_198 : decode cL_isPressed 198 = .ok (.iload 4, 2) := by decide +kernel
theorem dL_isPressed_200 : decode cL_isPressed 200 = .ok (.if_icmp .ne 39, 3) := by decide +kernel
theorem dL_isPressed_203 : decode cL_isPressed 203 = .ok (.aload_n 0, 1) := by decide +kernel
theorem dL_isPressed_204 : decode cL_isPressed 204 = .ok (.invokevirtual 160, 3) := by decide +kernel
theorem dL_isPressed_207 : decode cL_isPressed 207 = .ok (.iload 9, 2) := by decide +kernel
theorem dL_isPressed_209 : decode cL_isPressed 209 = .ok (.if_icmp .ne 30, 3) := by decide +kernel
theorem dL_isPressed_212 : decode cL_isPressed 212 = .ok (.aload_n 0, 1) := by decide +kernel
theorem dL_isPressed_213 : decode cL_isPressed 213 = .ok (.invokevirtual 205, 3) := by decide +kernel
theorem dL_isPressed_216 : decode cL_isPressed 216 = .ok (.iload 5, 2) := by decide +kernel
theorem dL_isPressed_218 : decode cL_isPressed 218 = .ok (.if_icmp .ne 21, 3) := by decide +kernel
theorem dL_isPressed_221 : decode cL_isPressed 221 = .ok (.aload_n 0, 1) := by decide +kernel
theorem dL_isPressed_222 : decode cL_isPressed 222 = .ok (.invokestatic 276, 3) := by decide +kernel
theorem dL_isPressed_225 : decode cL_isPressed 225 = .ok (.ifCond .eq 14, 3) := by decide +kernel
theorem dL_isPressed_228 : decode cL_isPressed 228 = .ok (.aload_n 0, 1) := by decide +kernel
theorem dL_isPressed_229 : decode cL_isPressed 229 = .ok (.invokestatic 146, 3) := by decide +kernel
theorem dL_isPressed_232 : decode cL_isPressed 232 = .ok (.ifCond .lt 7, 3) := by decide +kernel
theorem dL_isPressed_235 : decode cL_isPressed 235 = .ok (.iconst 1, 1) := by decide +kernel
theorem dL_isPressed_236 : decode cL_isPressed 236 = .ok (.goto 4, 3) := by decide +kernel
theorem dL_isPressed_239 : decode cL_isPressed 239 = .ok (.iconst 0, 1) := by decide +kernel
theorem dL_isPressed_240 : decode cL_isPressed 240 = .ok (.istore 8, 2) := by decide +kernel
theorem dL_isPressed_242 : decode cL_isPressed 242 = .ok (.aload_n 0, 1) := by decide +kernel
theorem dL_isPressed_243 : decode cL_isPressed 243 = .ok (.iload 7, 2) := by decide +kernel
theorem dL_isPressed_245 : decode cL_isPressed 245 = .ok (.invokevirtual 217, 3) := by decide +kernel
theorem dL_isPressed_248 : decode cL_isPressed 248 = .ok (.istore 10, 2) := by decide +kernel
theorem dL_isPressed_250 : decode cL_isPressed 250 = .ok (.aload_n 0, 1) := by decide +kernel
theorem dL_isPressed_251 : decode cL_isPressed 251 = .ok (.iload 7, 2) := by decide +kernel
theorem dL_isPressed_253 : decode cL_isPressed 253 = .ok (.invokestatic 126, 3) := by decide +kernel
theorem dL_isPressed_256 : decode cL_isPressed 256 = .ok (.istore 11, 2) := by decide +kernel
theorem dL_isPressed_258 : decode cL_isPressed 258 = .ok (.iload 11, 2) := by decide +kernel
theorem dL_isPressed_260 : decode cL_isPressed 260 = .ok (.ldc 10, 2) := by decide +kernel
theorem dL_isPressed_262 : decode cL_isPressed 262 = .ok (.if_icmp .eq 91, 3) := by decide +kernel
theorem dL_isPressed_265 : decode cL_isPressed 265 = .ok (.iload 10, 2) := by decide +kernel
theorem dL_isPressed_267 : decode cL_isPressed 267 = .ok (.bipush 80, 2) := by decide +kernel
theorem dL_isPressed_269 : decode cL_isPressed 269 = .ok (.if_icmp .lt 8, 3) := by decide +kernel
theorem dL_isPressed_272 : decode cL_isPressed 272 = .ok (.bipush 97, 2) := by decide +kernel
theorem dL_isPressed_274 : decode cL_isPressed 274 = .ok (.goto 41, 3) := by decide +kernel
theorem dL_isPressed_277 : decode cL_isPressed 277 = .ok (.iload 10, 2) := by decide +kernel
theorem dL_isPressed_279 : decode cL_isPressed 279 = .ok (.bipush 60, 2) := by decide +kernel
theorem dL_isPressed_281 : decode cL_isPressed 281 = .ok (.if_icmp .lt 8, 3) := by decide +kernel
theorem dL_isPressed_284 : decode cL_isPressed 284 = .ok (.bipush 98, 2) := by decide +kernel
theorem dL_isPressed_286 : decode cL_isPressed 286 = .ok (.goto 29, 3) := by decide +kernel
theorem dL_isPressed_289 : decode cL_isPressed 289 = .ok (.iload 10, 2) := by decide +kernel
theorem dL_isPressed_291 : decode cL_isPressed 291 = .ok (.bipush 40, 2) := by decide +kernel
theorem dL_isPressed_293 : decode cL_isPressed 293 = .ok (.if_icmp .lt 8, 3) := by decide +kernel
theorem dL_isPressed_296 : decode cL_isPressed 296 = .ok (.bipush 99, 2) := by decide +kernel
theorem dL_isPressed_298 : decode cL_isPressed 298 = .ok (.goto 17, 3) := by decide +kernel
theorem dL_isPressed_301 : decode cL_isPressed 301 = .ok (.iload 10, 2) := by decide +kernel
theorem dL_isPressed_303 : decode cL_isPressed 303 = .ok (.bipush 20, 2) := by decide +kernel
theorem dL_isPressed_305 : decode cL_isPressed 305 = .ok (.if_icmp .lt 8, 3) := by decide +kernel
theorem dL_isPressed_308 : decode cL_isPressed 308 = .ok (.bipush 100, 2) := by decide +kernel
theorem dL_isPressed_310 : decode cL_isPressed 310 = .ok (.goto 5, 3) := by decide +kernel
theorem dL_isPressed_313 : decode cL_isPressed 313 = .ok (.bipush 101, 2) := by decide +kernel
theorem dL_isPressed_315 : decode cL_isPressed 315 = .ok (.istore 12, 2) := by decide +kernel
theorem dL_isPressed_317 : decode cL_isPressed 317 = .ok (.iload 8, 2) := by decide +kernel
theorem dL_isPressed_319 : decode cL_isPressed 319 = .ok (.ifCond .eq 28, 3) := by decide +kernel
theorem dL_isPressed_322 : decode cL_isPressed 322 = .ok (.iload 11, 2) := by decide +kernel
theorem dL_isPressed_324 : decode cL_isPressed 324 = .ok (.iload 12, 2) := by decide +kernel
theorem dL_isPressed_326 : decode cL_isPressed 326 = .ok (.if_icmp .ne 21, 3) := by decide +kernel
theorem dL_isPressed_329 : decode cL_isPressed 329 = .ok (.aload_n 0, 1) := by decide +kernel
theorem dL_isPressed_330 : decode cL_isPressed 330 = .ok (.invokestatic 276, 3) := by decide +kernel
theorem dL_isPressed_333 : decode cL_isPressed 333 = .ok (.ifCond .eq 14, 3) := by decide +kernel
theorem dL_isPressed_336 : decode cL_isPressed 336 = .ok (.aload_n 0, 1) := by decide +kernel
theorem dL_isPressed_337 : decode cL_isPressed 337 = .ok (.invokestatic 146, 3) := by decide +kernel
theorem dL_isPressed_340 : decode cL_isPressed 340 = .ok (.ifCond .lt 7, 3) := by decide +kernel
theorem dL_isPressed_343 : decode cL_isPressed 343 = .ok (.iconst 1, 1) := by decide +kernel
theorem dL_isPressed_344 : decode cL_isPressed 344 = .ok (.goto 4, 3) := by decide +kernel
theorem dL_isPressed_347 : decode cL_isPressed 347 = .ok (.iconst 0, 1) := by decide +kernel
theorem dL_isPressed_348 : decode cL_isPressed 348 = .ok (.istore 8, 2) := by decide +kernel
theorem dL_isPressed_350 : decode cL_isPressed 350 = .ok (.goto 33, 3) := by decide +kernel
theorem dL_isPressed_353 : decode cL_isPressed 353 = .ok (.iload 8, 2) := by decide +kernel
theorem dL_isPressed_355 : decode cL_isPressed 355 = .ok (.ifCond .eq 25, 3) := by decide +kernel
theorem dL_isPressed_358 : decode cL_isPressed 358 = .ok (.aload_n 0, 1) := by decide +kernel
theorem dL_isPressed_359 : decode cL_isPressed 359 = .ok (.invokestatic 279, 3) := by decide +kernel
theorem dL_isPressed_362 : decode cL_isPressed 362 = .ok (.bipush 6, 2) := by decide +kernel
theorem dL_isPressed_364 : decode cL_isPressed 364 = .ok (.if_icmp .ne 16, 3) := by decide +kernel
theorem dL_isPressed_367 : decode cL_isPressed 367 = .ok (.aload_n 0, 1) := by decide +kernel
theorem dL_isPressed_368 : decode cL_isPressed 368 = .ok (.iload 7, 2) := by decide +kernel
theorem dL_isPressed_370 : decode cL_isPressed 370 = .ok (.invokevirtual 234, 3) := by decide +kernel
theorem dL_isPressed_373 : decode cL_isPressed 373 = .ok (.ifCond .ne 7, 3) := by decide +kernel
theorem dL_isPressed_376 : decode cL_isPressed 376 = .ok (.iconst 1, 1) := by decide +kernel
theorem dL_isPressed_377 : decode cL_isPressed 377 = .ok (.goto 4, 3) := by decide +kernel
theorem dL_isPressed_380 : decode cL_isPressed 380 = .ok (.iconst 0, 1) := by decide +kernel
theorem dL_isPressed_381 : decode cL_isPressed 381 = .ok (.istore 8, 2) := by decide +kernel
theorem dL_isPressed_383 : decode cL_isPressed 383 = .ok (.iload 8, 2) := by decide +kernel
theorem dL_isPressed_385 : decode cL_isPressed 385 = .ok (.ifCond .eq 23, 3) := by decide +kernel
theorem dL_isPressed_388 : decode cL_isPressed 388 = .ok (.aload_n 0, 1) := by decide +kernel
theorem dL_isPressed_389 : decode cL_isPressed 389 = .ok (.invokestatic 146, 3) := by decide +kernel
theorem dL_isPressed_392 : decode cL_isPressed 392 = .ok (.ifCond .lt 16, 3) := by decide +kernel
theorem dL_isPressed_395 : decode cL_isPressed 395 = .ok (.aload_n 0, 1) := by decide +kernel
theorem dL_isPressed_396 : decode cL_isPressed 396 = .ok (.invokestatic 253, 3) := by decide +kernel
theorem dL_isPressed_399 : decode cL_isPressed 399 = .ok (.lload_n 2, 1) := by decide +kernel
theorem dL_isPressed_400 : decode cL_isPressed 400 = .ok (.lcmp, 1) := by decide +kernel
theorem dL_isPressed_401 : decode cL_isPressed 401 = .ok (.ifCond .ne 7, 3) := by decide +kernel
theorem dL_isPressed_404 : decode cL_isPressed 404 = .ok (.iconst 1, 1) := by decide +kernel
theorem dL_isPressed_405 : decode cL_isPressed 405 = .ok (.goto 4, 3) := by decide +kernel
theorem dL_isPressed_408 : decode cL_isPressed 408 = .ok (.iconst 0, 1) := by decide +kernel
theorem dL_isPressed_409 : decode cL_isPressed 409 = .ok (.ireturn, 1) := by decide +kernel
theorem dL_isFit_0 : decode cL_isFit 0 = .ok (.aload_n 0, 1) := by decide +kernel
theorem dL_isFit_1 : decode cL_isFit 1 = .ok (.invokestatic 272, 3) := by decide +kernel
theorem dL_isFit_4 : decode cL_isFit 4 = .ok (.ifCond .eq 58, 3) := by decide +kernel
theorem dL_isFit_7 : decode cL_isFit 7 = .ok (.aload_n 0, 1) := by decide +kernel
theorem dL_isFit_8 : decode cL_isFit 8 = .ok (.invokestatic 276, 3) := by decide +kernel
theorem dL_isFit_11 : decode cL_isFit 11 = .ok (.ifCond .eq 51, 3) := by decide +kernel
theorem dL_isFit_14 : decode cL_isFit 14 = .ok (.aload_n 0, 1) := by decide +kernel
theorem dL_isFit_15 : decode cL_isFit 15 = .ok (.iconst 1, 1) := by decide +kernel
theorem dL_isFit_16 : decode cL_isFit 16 = .ok (.invokestatic 281, 3) := by decide +kernel
theorem dL_isFit_19 : decode cL_isFit 19 = .ok (.ifCond .eq 43, 3) := by decide +kernel
theorem dL_isFit_22 : decode cL_isFit 22 = .ok (.aload_n 0, 1) := by decide +kernel
theorem dL_isFit_23 : decode cL_isFit 23 = .ok (.bipush 17, 2) := by decide +kernel
theorem dL_isFit_25 : decode cL_isFit 25 = .ok (.invokestatic 281, 3) := by decide +kernel
theorem dL_isFit_28 : decode cL_isFit 28 = .ok (.ifCond .eq 34, 3) := by decide +kernel
theorem dL_isFit_31 : decode cL_isFit 31 = .ok (.aload_n 0, 1) := by decide +kernel
theorem dL_isFit_32 : decode cL_isFit 32 = .ok (.sipush 200, 3) := by decide +kernel
theorem dL_isFit_35 : decode cL_isFit 35 = .ok (.invokestatic 281, 3) := by decide +kernel
theorem dL_isFit_38 : decode cL_isFit 38 = .ok (.ifCond .eq 24, 3) := by decide +kernel
theorem dL_isFit_41 : decode cL_isFit 41 = .ok (.aload_n 0, 1) := by decide +kernel
theorem dL_isFit_42 : decode cL_isFit 42 = .ok (.iconst 1, 1) := by decide +kernel
theorem dL_isFit_43 : decode cL_isFit 43 = .ok (.invokestatic 285, 3) := by decide +kernel
theorem dL_isFit_46 : decode cL_isFit 46 = .ok (.ifCond .eq 16, 3) := by decide +kernel
theorem dL_isFit_49 : decode cL_isFit 49 = .ok (.aload_n 0, 1) := by decide +kernel
theorem dL_isFit_50 : decode cL_isFit 50 = .ok (.bipush 13, 2) := by decide +kernel
theorem dL_isFit_52 : decode cL_isFit 52 = .ok (.invokestatic 285, 3) := by decide +kernel
theorem dL_isFit_55 : decode cL_isFit 55 = .ok (.ifCond .eq 7, 3) := by decide +kernel
theorem dL_isFit_58 : decode cL_isFit 58 = .ok (.iconst 1, 1) := by decide +kernel
theorem dL_isFit_59 : decode cL_isFit 59 = .ok (.goto 4, 3) := by decide +kernel
theorem dL_isFit_62 : decode cL_isFit 62 = .ok (.iconst 0, 1) := by decide +kernel
theorem dL_isFit_63 : decode cL_isFit 63 = .ok (.ireturn, 1) := by decide +kernel
theorem dL_law_0 : decode cL_law 0 = .ok (.new 12, 3) := by decide +kernel
theorem dL_law_3 : decode cL_law 3 = .ok (.dup, 1) := by decide +kernel
theorem dL_law_4 : decode cL_law 4 = .ok (.invokespecial 288, 3) := by decide +kernel
theorem dL_law_7 : decode cL_law 7 = .ok (.astore_n 1, 1) := by decide +kernel
theorem dL_law_8 : decode cL_law 8 = .ok (.iconst 0, 1) := by decide +kernel
theorem dL_law_9 : decode cL_law 9 = .ok (.istore_n 2, 1) := by decide +kernel
theorem dL_law_10 : decode cL_law 10 = .ok (.iload_n 2, 1) := by decide +kernel
theorem dL_law_11 : decode cL_law 11 = .ok (.iconst 4, 1) := by decide +kernel
theorem dL_law_12 : decode cL_law 12 = .ok (.if_icmp .ge 45, 3) := by decide +kernel
theorem dL_law_15 : decode cL_law 15 = .ok (.aload_n 1, 1) := by decide +kernel
theorem dL_law_16 : decode cL_law 16 = .ok (.ldc_w 289, 3) := by decide +kernel
theorem dL_law_19 : decode cL_law 19 = .ok (.iload_n 2, 1) := by decide +kernel
theorem dL_law_20 : decode cL_law 20 = .ok (.invokevirtual 100, 3) := by decide +kernel
theorem dL_law_23 : decode cL_law 23 = .ok (.iconst 1, 1) := by decide +kernel
theorem dL_law_24 : decode cL_law 24 = .ok (.aload_n 0, 1) := by decide +kernel
theorem dL_law_25 : decode cL_law 25 = .ok (.iload_n 2, 1) := by decide +kernel
theorem dL_law_26 : decode cL_law 26 = .ok (.invokestatic 291, 3) := by decide +kernel
theorem dL_law_29 : decode cL_law 29 = .ok (.iconst 4, 1) := by decide +kernel
theorem dL_law_30 : decode cL_law 30 = .ok (.ishr, 1) := by decide +kernel
theorem dL_law_31 : decode cL_law 31 = .ok (.bipush 15, 2) := by decide +kernel
theorem dL_law_33 : decode cL_law 33 = .ok (.iand, 1) := by decide +kernel
theorem dL_law_34 : decode cL_law 34 = .ok (.iadd, 1) := by decide +kernel
theorem dL_law_35 : decode cL_law 35 = .ok (.iconst 1, 1) := by decide +kernel
theorem dL_law_36 : decode cL_law 36 = .ok (.aload_n 0, 1) := by decide +kernel
theorem dL_law_37 : decode cL_law 37 = .ok (.iload_n 2, 1) := by decide +kernel
theorem dL_law_38 : decode cL_law 38 = .ok (.invokestatic 291, 3) := by decide +kernel
theorem dL_law_41 : decode cL_law 41 = .ok (.bipush 6, 2) := by decide +kernel
theorem dL_law_43 : decode cL_law 43 = .ok (.ishr, 1) := by decide +kernel
theorem dL_law_44 : decode cL_law 44 = .ok (.iconst 3, 1) := by decide +kernel
theorem dL_law_45 : decode cL_law 45 = .ok (.iand, 1) := by decide +kernel
theorem dL_law_46 : decode cL_law 46 = .ok (.iadd, 1) := by decide +kernel
theorem dL_law_47 : decode cL_law 47 = .ok (.invokestatic 109, 3) := by decide +kernel
theorem dL_law_50 : decode cL_law 50 = .ok (.pop, 1) := by decide +kernel
theorem dL_law_51 : decode cL_law 51 = .ok (.iinc 2 1, 3) := by decide +kernel
theorem dL_law_54 : decode cL_law 54 = .ok (.goto (-44), 3) := by decide +kernel
theorem dL_law_57 : decode cL_law 57 = .ok (.aload_n 1, 1) := by decide +kernel
theorem dL_law_58 : decode cL_law 58 = .ok (.bipush 30, 2) := by decide +kernel
theorem dL_law_60 : decode cL_law 60 = .ok (.aload_n 0, 1) := by decide +kernel
theorem dL_law_61 : decode cL_law 61 = .ok (.iconst 1, 1) := by decide +kernel
theorem dL_law_62 : decode cL_law 62 = .ok (.invokestatic 291, 3) := by decide +kernel
theorem dL_law_65 : decode cL_law 65 = .ok (.iconst 3, 1) := by decide +kernel
theorem dL_law_66 : decode cL_law 66 = .ok (.ishr, 1) := by decide +kernel
theorem dL_law_67 : decode cL_law 67 = .ok (.bipush 63, 2) := by decide +kernel
theorem dL_law_69 : decode cL_law 69 = .ok (.iand, 1) := by decide +kernel
theorem dL_law_70 : decode cL_law 70 = .ok (.iadd, 1) := by decide +kernel
theorem dL_law_71 : decode cL_law 71 = .ok (.invokestatic 118, 3) := by decide +kernel
theorem dL_law_74 : decode cL_law 74 = .ok (.pop, 1) := by decide +kernel
theorem dL_law_75 : decode cL_law 75 = .ok (.aload_n 1, 1) := by decide +kernel
theorem dL_law_76 : decode cL_law 76 = .ok (.invokestatic 120, 3) := by decide +kernel
theorem dL_law_79 : decode cL_law 79 = .ok (.pop, 1) := by decide +kernel
theorem dL_law_80 : decode cL_law 80 = .ok (.aload_n 1, 1) := by decide +kernel
theorem dL_law_81 : decode cL_law 81 = .ok (.iconst 1, 1) := by decide +kernel
theorem dL_law_82 : decode cL_law 82 = .ok (.aload_n 0, 1) := by decide +kernel
theorem dL_law_83 : decode cL_law 83 = .ok (.iconst 2, 1) := by decide +kernel
theorem dL_law_84 : decode cL_law 84 = .ok (.invokestatic 291, 3) := by decide +kernel
theorem dL_law_87 : decode cL_law 87 = .ok (.iconst 5, 1) := by decide +kernel
theorem dL_law_88 : decode cL_law 88 = .ok (.ishr, 1) := by decide +kernel
theorem dL_law_89 : decode cL_law 89 = .ok (.bipush 15, 2) := by decide +kernel
theorem dL_law_91 : decode cL_law 91 = .ok (.iand, 1) := by decide +kernel
theorem dL_law_92 : decode cL_law 92 = .ok (.iadd, 1) := by decide +kernel
theorem dL_law_93 : decode cL_law 93 = .ok (.invokestatic 122, 3) := by decide +kernel
theorem dL_law_96 : decode cL_law 96 = .ok (.pop, 1) := by decide +kernel
theorem dL_law_97 : decode cL_law 97 = .ok (.aload_n 1, 1) := by decide +kernel
theorem dL_law_98 : decode cL_law 98 = .ok (.iconst 5, 1) := by decide +kernel
theorem dL_law_99 : decode cL_law 99 = .ok (.invokestatic 124, 3) := by decide +kernel
theorem dL_law_102 : decode cL_law 102 = .ok (.pop, 1) := by decide +kernel
theorem dL_law_103 : decode cL_law 103 = .ok (.aload_n 0, 1) := by decide +kernel
theorem dL_law_104 : decode cL_law 104 = .ok (.arraylength, 1) := by decide +kernel
theorem dL_law_105 : decode cL_law 105 = .ok (.bipush 36, 2) := by decide +kernel
theorem dL_law_107 : decode cL_law 107 = .ok (.if_icmp .ge 8, 3) := by decide +kernel
theorem dL_law_110 : decode cL_law 110 = .ok (.aload_n 0, 1) := by decide +kernel
theorem dL_law_111 : decode cL_law 111 = .ok (.arraylength, 1) := by decide +kernel
theorem dL_law_112 : decode cL_law 112 = .ok (.goto 5, 3) := by decide +kernel
theorem dL_law_115 : decode cL_law 115 = .ok (.bipush 36, 2) := by decide +kernel
theorem dL_law_117 : decode cL_law 117 = .ok (.istore_n 2, 1) := by decide +kernel
theorem dL_law_118 : decode cL_law 118 = .ok (.iconst 0, 1) := by decide +kernel
theorem dL_law_119 : decode cL_law 119 = .ok (.istore_n 3, 1) := by decide +kernel
theorem dL_law_120 : decode cL_law 120 = .ok (.iload_n 3, 1) := by decide +kernel
theorem dL_law_121 : decode cL_law 121 = .ok (.iload_n 2, 1) := by decide +kernel
theorem dL_law_122 : decode cL_law 122 = .ok (.if_icmp .ge 41, 3) := by decide +kernel
theorem dL_law_125 : decode cL_law 125 = .ok (.aload_n 1, 1) := by decide +kernel
theorem dL_law_126 : decode cL_law 126 = .ok (.invokestatic 253, 3) := by decide +kernel
theorem dL_law_129 : decode cL_law 129 = .ok (.lstore 4, 2) := by decide +kernel
theorem dL_law_131 : decode cL_law 131 = .ok (.aload_n 1, 1) := by decide +kernel
theorem dL_law_132 : decode cL_law 132 = .ok (.aload_n 0, 1) := by decide +kernel
theorem dL_law_133 : decode cL_law 133 = .ok (.iload_n 3, 1) := by decide +kernel
theorem dL_law_134 : decode cL_law 134 = .ok (.invokestatic 291, 3) := by decide +kernel
theorem dL_law_137 : decode cL_law 137 = .ok (.invokestatic 295, 3) := by decide +kernel
theorem dL_law_140 : decode cL_law 140 = .ok (.ldc 10, 2) := by decide +kernel
theorem dL_law_142 : decode cL_law 142 = .ok (.if_icmp .ne 15, 3) := by decide +kernel
theorem dL_law_145 : decode cL_law 145 = .ok (.aload_n 1, 1) := by decide +kernel
theorem dL_law_146 : decode cL_law 146 = .ok (.invokestatic 253, 3) := by decide +kernel
theorem dL_law_149 : decode cL_law 149 = .ok (.lload 4, 2) := by decide +kernel
theorem dL_law_151 : decode cL_law 151 = .ok (.lcmp, 1) := by decide +kernel
theorem dL_law_152 : decode cL_law 152 = .ok (.ifCond .eq 5, 3) := by decide +kernel
theorem dL_law_155 : decode cL_law 155 = .ok (.iconst 0, 1) := by decide +kernel
theorem dL_law_156 : decode cL_law 156 = .ok (.ireturn, 1) := by decide +kernel
theorem dL_law_157 : decode cL_law 157 = .ok (.iinc 3 1, 3) := by decide +kernel
theorem dL_law_160 : decode cL_law 160 = .ok (.goto (-40), 3) := by decide +kernel
theorem dL_law_163 : decode cL_law 163 = .ok (.aload_n 1, 1) := by decide +kernel
theorem dL_law_164 : decode cL_law 164 = .ok (.invokestatic 298, 3) := by decide +kernel
theorem dL_law_167 : decode cL_law 167 = .ok (.istore_n 3, 1) := by decide +kernel
theorem dL_law_168 : decode cL_law 168 = .ok (.aload_n 1, 1) := by decide +kernel
theorem dL_law_169 : decode cL_law 169 = .ok (.invokestatic 138, 3) := by decide +kernel
theorem dL_law_172 : decode cL_law 172 = .ok (.pop, 1) := by decide +kernel
theorem dL_law_173 : decode cL_law 173 = .ok (.aload_n 1, 1) := by decide +kernel
theorem dL_law_174 : decode cL_law 174 = .ok (.invokestatic 253, 3) := by decide +kernel
theorem dL_law_177 : decode cL_law 177 = .ok (.lstore 4, 2) := by decide +kernel
theorem dL_law_179 : decode cL_law 179 = .ok (.aload_n 1, 1) := by decide +kernel
theorem dL_law_180 : decode cL_law 180 = .ok (.invokevirtual 140, 3) := by decide +kernel
theorem dL_law_183 : decode cL_law 183 = .ok (.istore 6, 2) := by decide +kernel
theorem dL_law_185 : decode cL_law 185 = .ok (.iconst 0, 1) := by decide +kernel
theorem dL_law_186 : decode cL_law 186 = .ok (.istore 7, 2) := by decide +kernel
theorem dL_law_188 : decode cL_law 188 = .ok (.iload_n 3, 1) := by decide +kernel
theorem dL_law_189 : decode cL_law 189 = .ok (.ifCond .eq 89, 3) := by decide +kernel
theorem dL_law_192 : decode cL_law 192 = .ok (.iload 7, 2) := by decide +kernel
theorem dL_law_194 : decode cL_law 194 = .ok (.getstatic 130, 3) := by decide +kernel
theorem dL_law_197 : decode cL_law 197 = .ok (.arraylength, 1) := by decide +kernel
theorem dL_law_198 : decode cL_law 198 = .ok (.if_icmp .ge 80, 3) := by decide +kernel
theorem dL_law_201 : decode cL_law 201 = .ok (.aload_n 1, 1) := by decide +kernel
theorem dL_law_202 : decode cL_law 202 = .ok (.getstatic 130, 3) := by decide +kernel
theorem dL_law_205 : decode cL_law 205 = .ok (.iload 7, 2) := by decide +kernel
theorem dL_law_207 : decode cL_law 207 = .ok (.aaload, 1) := by decide +kernel
theorem dL_law_208 : decode cL_law 208 = .ok (.invokestatic 134, 3) := by decide +kernel
theorem dL_law_211 : decode cL_law 211 = .ok (.invokestatic 138, 3) := by decide +kernel
theorem dL_law_214 : decode cL_law 214 = .ok (.istore 8, 2) := by decide +kernel
theorem dL_law_216 : decode cL_law 216 = .ok (.iload 8, 2) := by decide +kernel
theorem dL_law_218 : decode cL_law 218 = .ok (.ldc 10, 2) := by decide +kernel
theorem dL_law_220 : decode cL_law 220 = .ok (.if_icmp .ne 22, 3) := by decide +kernel
theorem dL_law_223 : decode cL_law 223 = .ok (.aload_n 1, 1) := by decide +kernel
theorem dL_law_224 : decode cL_law 224 = .ok (.invokestatic 279, 3) := by decide +kernel
theorem dL_law_227 : decode cL_law 227 = .ok (.bipush 7, 2) := by decide +kernel
theorem dL_law_229 : decode cL_law 229 = .ok (.if_icmp .ne 41, 3) := by decide +kernel
theorem dL_law_232 : decode cL_law 232 = .ok (.aload_n 1, 1) := by decide +kernel
theorem dL_law_233 : decode cL_law 233 = .ok (.invokestatic 301, 3) := by decide +kernel
theorem dL_law_236 : decode cL_law 236 = .ok (.ifCond .le 34, 3) := by decide +kernel
theorem dL_law_239 : decode cL_law 239 = .ok (.goto 17, 3) := by decide +kernel
theorem dL_law_242 : decode cL_law 242 = .ok (.aload_n 1, 1) := by decide +kernel
theorem dL_law_243 : decode cL_law 243 = .ok (.invokestatic 276, 3) := by decide +kernel
theorem dL_law_246 : decode cL_law 246 = .ok (.ifCond .eq 24, 3) := by decide +kernel
theorem dL_law_249 : decode cL_law 249 = .ok (.aload_n 1, 1) := by decide +kernel
theorem dL_law_250 : decode cL_law 250 = .ok (.invokestatic 146, 3) := by decide +kernel
theorem dL_law_253 : decode cL_law 253 = .ok (.ifCond .lt 17, 3) := by decide +kernel
theorem dL_law_256 : decode cL_law 256 = .ok (.aload_n 1, 1) := by decide +kernel
theorem dL_law_257 : decode cL_law 257 = .ok (.invokestatic 253, 3) := by decide +kernel
theorem dL_law_260 : decode cL_law 260 = .ok (.lload 4, 2) := by decide +kernel
theorem dL_law_262 : decode cL_law 262 = .ok (.lcmp, 1) := by decide +kernel
theorem dL_law_263 : decode cL_law 263 = .ok (.ifCond .ne 7, 3) := by decide +kernel
theorem dL_law_266 : decode cL_law 266 = .ok (.iconst 1, 1) := by decide +kernel
theorem dL_law_267 : decode cL_law 267 = .ok (.goto 4, 3) := by decide +kernel
theorem dL_law_270 : decode cL_law 270 = .ok (.iconst 0, 1) := by decide +kernel
theorem dL_law_271 : decode cL_law 271 = .ok (.istore_n 3, 1) := by decide +kernel
theorem dL_law_272 : decode cL_law 272 = .ok (.iinc 7 1, 3) := by decide +kernel
theorem dL_law_275 : decode cL_law 275 = .ok (.goto (-87), 3) := by decide +kernel
theorem dL_law_278 : decode cL_law 278 = .ok (.iconst 0, 1) := by decide +kernel
theorem dL_law_279 : decode cL_law 279 = .ok (.istore 7, 2) := by decide +kernel
theorem dL_law_281 : decode cL_law 281 = .ok (.iload_n 3, 1) := by decide +kernel
theorem dL_law_282 : decode cL_law 282 = .ok (.ifCond .eq 71, 3) := by decide +kernel
theorem dL_law_285 : decode cL_law 285 = .ok (.iload 7, 2) := by decide +kernel
theorem dL_law_287 : decode cL_law 287 = .ok (.iconst 3, 1) := by decide +kernel
theorem dL_law_288 : decode cL_law 288 = .ok (.if_icmp .ge 65, 3) := by decide +kernel
theorem dL_law_291 : decode cL_law 291 = .ok (.aload_n 1, 1) := by decide +kernel
theorem dL_law_292 : decode cL_law 292 = .ok (.bipush 9, 2) := by decide +kernel
theorem dL_law_294 : decode cL_law 294 = .ok (.invokestatic 118, 3) := by decide +kernel
theorem dL_law_297 : decode cL_law 297 = .ok (.pop, 1) := by decide +kernel
theorem dL_law_298 : decode cL_law 298 = .ok (.aload_n 1, 1) := by decide +kernel
theorem dL_law_299 : decode cL_law 299 = .ok (.invokestatic 115, 3) := by decide +kernel
theorem dL_law_302 : decode cL_law 302 = .ok (.pop, 1) := by decide +kernel
theorem dL_law_303 : decode cL_law 303 = .ok (.aload_n 1, 1) := by decide +kernel
theorem dL_law_304 : decode cL_law 304 = .ok (.ldc_w 303, 3) := by decide +kernel
theorem dL_law_307 : decode cL_law 307 = .ok (.iload 7, 2) := by decide +kernel
theorem dL_law_309 : decode cL_law 309 = .ok (.invokevirtual 100, 3) := by decide +kernel
theorem dL_law_312 : decode cL_law 312 = .ok (.bipush 12, 2) := by decide +kernel
theorem dL_law_314 : decode cL_law 314 = .ok (.iconst 4, 1) := by decide +kernel
theorem dL_law_315 : decode cL_law 315 = .ok (.iload 7, 2) := by decide +kernel
theorem dL_law_317 : decode cL_law 317 = .ok (.iconst 2, 1) := by decide +kernel
theorem dL_law_318 : decode cL_law 318 = .ok (.irem, 1) := by decide +kernel
theorem dL_law_319 : decode cL_law 319 = .ok (.iadd, 1) := by decide +kernel
theorem dL_law_320 : decode cL_law 320 = .ok (.invokestatic 109, 3) := by decide +kernel
theorem dL_law_323 : decode cL_law 323 = .ok (.pop, 1) := by decide +kernel
theorem dL_law_324 : decode cL_law 324 = .ok (.aload_n 1, 1) := by decide +kernel
theorem dL_law_325 : decode cL_law 325 = .ok (.invokestatic 120, 3) := by decide +kernel
theorem dL_law_328 : decode cL_law 328 = .ok (.pop, 1) := by decide +kernel
theorem dL_law_329 : decode cL_law 329 = .ok (.aload_n 1, 1) := by decide +kernel
theorem dL_law_330 : decode cL_law 330 = .ok (.bipush 20, 2) := by decide +kernel
theorem dL_law_332 : decode cL_law 332 = .ok (.invokestatic 122, 3) := by decide +kernel
theorem dL_law_335 : decode cL_law 335 = .ok (.pop, 1) := by decide +kernel
theorem dL_law_336 : decode cL_law 336 = .ok (.aload_n 1, 1) := by decide +kernel
theorem dL_law_337 : decode cL_law 337 = .ok (.iconst 4, 1) := by decide +kernel
theorem dL_law_338 : decode cL_law 338 = .ok (.invokestatic 124, 3) := by decide +kernel
theorem dL_law_341 : decode cL_law 341 = .ok (.pop, 1) := by decide +kernel
theorem dL_law_342 : decode cL_law 342 = .ok (.aload_n 1, 1) := by decide +kernel
theorem dL_law_343 : decode cL_law 343 = .ok (.invokestatic 298, 3) := by decide +kernel
theorem dL_law_346 : decode cL_law 346 = .ok (.istore_n 3, 1) := by decide +kernel
theorem dL_law_347 : decode cL_law 347 = .ok (.iinc 7 1, 3) := by decide +kernel
theorem dL_law_350 : decode cL_law 350 = .ok (.goto (-69), 3) := by decide +kernel
theorem dL_law_353 : decode cL_law 353 = .ok (.iload_n 3, 1) := by decide +kernel
theorem dL_law_354 : decode cL_law 354 = .ok (.ifCond .eq 42, 3) := by decide +kernel
theorem dL_law_357 : decode cL_law 357 = .ok (.aload_n 1, 1) := by decide +kernel
theorem dL_law_358 : decode cL_law 358 = .ok (.invokestatic 143, 3) := by decide +kernel
theorem dL_law_361 : decode cL_law 361 = .ok (.iload 6, 2) := by decide +kernel
theorem dL_law_363 : decode cL_law 363 = .ok (.if_icmp .ne 33, 3) := by decide +kernel
theorem dL_law_366 : decode cL_law 366 = .ok (.aload_n 1, 1) := by decide +kernel
theorem dL_law_367 : decode cL_law 367 = .ok (.invokestatic 253, 3) := by decide +kernel
theorem dL_law_370 : decode cL_law 370 = .ok (.lload 4, 2) := by decide +kernel
theorem dL_law_372 : decode cL_law 372 = .ok (.lcmp, 1) := by decide +kernel
theorem dL_law_373 : decode cL_law 373 = .ok (.ifCond .ne 23, 3) := by decide +kernel
theorem dL_law_376 : decode cL_law 376 = .ok (.aload_n 1, 1) := by decide +kernel
theorem dL_law_377 : decode cL_law 377 = .ok (.invokestatic 146, 3) := by decide +kernel
theorem dL_law_380 : decode cL_law 380 = .ok (.ldc 10, 2) := by decide +kernel
theorem dL_law_382 : decode cL_law 382 = .ok (.if_icmp .ne 14, 3) := by decide +kernel
theorem dL_law_385 : decode cL_law 385 = .ok (.aload_n 1, 1) := by decide +kernel
theorem dL_law_386 : decode cL_law 386 = .ok (.invokevirtual 305, 3) := by decide +kernel
theorem dL_law_389 : decode cL_law 389 = .ok (.ifCond .ne 7, 3) := by decide +kernel
theorem dL_law_392 : decode cL_law 392 = .ok (.iconst 1, 1) := by decide +kernel
theorem dL_law_393 : decode cL_law 393 = .ok (.goto 4, 3) := by decide +kernel
theorem dL_law_396 : decode cL_law 396 = .ok (.iconst 0, 1) := by decide +kernel
theorem dL_law_397 : decode cL_law 397 = .ok (.ireturn, 1) := by decide +kernel
