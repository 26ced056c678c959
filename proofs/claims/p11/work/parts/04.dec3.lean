theorem dJx4a65c_fastRemove_b59b0_1 : decode cJx4a65c_fastRemove_b59b0 1 = .ok (.dup, 1) := by decide +kernel
theorem dJx4a65c_fastRemove_b59b0_2 : decode cJx4a65c_fastRemove_b59b0 2 = .ok (.getfield 63, 3) := by decide +kernel
theorem dJx4a65c_fastRemove_b59b0_5 : decode cJx4a65c_fastRemove_b59b0 5 = .ok (.iconst 1, 1) := by decide +kernel
theorem dJx4a65c_fastRemove_b59b0_6 : decode cJx4a65c_fastRemove_b59b0 6 = .ok (.iadd, 1) := by decide +kernel
theorem dJx4a65c_fastRemove_b59b0_7 : decode cJx4a65c_fastRemove_b59b0 7 = .ok (.putfield 63, 3) := by decide +kernel
theorem dJx4a65c_fastRemove_b59b0_10 : decode cJx4a65c_fastRemove_b59b0 10 = .ok (.aload_n 0, 1) := by decide +kernel
theorem dJx4a65c_fastRemove_b59b0_11 : decode cJx4a65c_fastRemove_b59b0 11 = .ok (.getfield 48, 3) := by decide +kernel
theorem dJx4a65c_fastRemove_b59b0_14 : decode cJx4a65c_fastRemove_b59b0 14 = .ok (.iconst 1, 1) := by decide +kernel
theorem dJx4a65c_fastRemove_b59b0_15 : decode cJx4a65c_fastRemove_b59b0 15 = .ok (.isub, 1) := by decide +kernel
theorem dJx4a65c_fastRemove_b59b0_16 : decode cJx4a65c_fastRemove_b59b0 16 = .ok (.dup, 1) := by decide +kernel
theorem dJx4a65c_fastRemove_b59b0_17 : decode cJx4a65c_fastRemove_b59b0 17 = .ok (.istore_n 3, 1) := by decide +kernel
theorem dJx4a65c_fastRemove_b59b0_18 : decode cJx4a65c_fastRemove_b59b0 18 = .ok (.iload_n 2, 1) := by decide +kernel
theorem dJx4a65c_fastRemove_b59b0_19 : decode cJx4a65c_fastRemove_b59b0 19 = .ok (.if_icmp .le 15, 3) := by decide +kernel
theorem dJx4a65c_fastRemove_b59b0_22 : decode cJx4a65c_fastRemove_b59b0 22 = .ok (.aload_n 1, 1) := by decide +kernel
theorem dJx4a65c_fastRemove_b59b0_23 : decode cJx4a65c_fastRemove_b59b0 23 = .ok (.iload_n 2, 1) := by decide +kernel
theorem dJx4a65c_fastRemove_b59b0_24 : decode cJx4a65c_fastRemove_b59b0 24 = .ok (.iconst 1, 1) := by decide +kernel
theorem dJx4a65c_fastRemove_b59b0_25 : decode cJx4a65c_fastRemove_b59b0 25 = .ok (.iadd, 1) := by decide +kernel
theorem dJx4a65c_fastRemove_b59b0_26 : decode cJx4a65c_fastRemove_b59b0 26 = .ok (.aload_n 1, 1) := by decide +kernel
theorem dJx4a65c_fastRemove_b59b0_27 : decode cJx4a65c_fastRemove_b59b0 27 = .ok (.iload_n 2, 1) := by decide +kernel
theorem dJx4a65c_fastRemove_b59b0_28 : decode cJx4a65c_fastRemove_b59b0 28 = .ok (.iload_n 3, 1) := by decide +kernel
theorem dJx4a65c_fastRemove_b59b0_29 : decode cJx4a65c_fastRemove_b59b0 29 = .ok (.iload_n 2, 1) := by decide +kernel
theorem dJx4a65c_fastRemove_b59b0_30 : decode cJx4a65c_fastRemove_b59b0 30 = .ok (.isub, 1) := by decide +kernel
theorem dJx4a65c_fastRemove_b59b0_31 : decode cJx4a65c_fastRemove_b59b0 31 = .ok (.invokestatic 112, 3) := by decide +kernel
theorem dJx4a65c_fastRemove_b59b0_34 : decode cJx4a65c_fastRemove_b59b0 34 = .ok (.aload_n 1, 1) := by decide +kernel
theorem dJx4a65c_fastRemove_b59b0_35 : decode cJx4a65c_fastRemove_b59b0 35 = .ok (.aload_n 0, 1) := by decide +kernel
theorem dJx4a65c_fastRemove_b59b0_36 : decode cJx4a65c_fastRemove_b59b0 36 = .ok (.iload_n 3, 1) := by decide +kernel
theorem dJx4a65c_fastRemove_b59b0_37 : decode cJx4a65c_fastRemove_b59b0 37 = .ok (.dup_x1, 1) := by decide +kernel
theorem dJx4a65c_fastRemove_b59b0_38 : decode cJx4a65c_fastRemove_b59b0 38 = .ok (.putfield 48, 3) := by decide +kernel
theorem dJx4a65c_fastRemove_b59b0_41 : decode cJx4a65c_fastRemove_b59b0 41 = .ok (.aconst_null, 1) := by decide +kernel
theorem dJx4a65c_fastRemove_b59b0_42 : decode cJx4a65c_fastRemove_b59b0 42 = .ok (.aastore, 1) := by decide +kernel
theorem dJx4a65c_fastRemove_b59b0_43 : decode cJx4a65c_fastRemove_b59b0 43 = .ok (.return_, 1) := by decide +kernel
theorem dJx4a65c_clear_da8c8_0 : decode cJx4a65c_clear_da8c8 0 = .ok (.aload_n 0, 1) := by decide +kernel
theorem dJx4a65c_clear_da8c8_1 : decode cJx4a65c_clear_da8c8 1 = .ok (.dup, 1) := by decide +kernel
theorem dJx4a65c_clear_da8c8_2 : decode cJx4a65c_clear_da8c8 2 = .ok (.getfield 63, 3) := by decide +kernel
theorem dJx4a65c_clear_da8c8_5 : decode cJx4a65c_clear_da8c8 5 = .ok (.iconst 1, 1) := by decide +kernel
theorem dJx4a65c_clear_da8c8_6 : decode cJx4a65c_clear_da8c8 6 = .ok (.iadd, 1) := by decide +kernel
theorem dJx4a65c_clear_da8c8_7 : decode cJx4a65c_clear_da8c8 7 = .ok (.putfield 63, 3) := by decide +kernel
theorem dJx4a65c_clear_da8c8_10 : decode cJx4a65c_clear_da8c8 10 = .ok (.aload_n 0, 1) := by decide +kernel
theorem dJx4a65c_clear_da8c8_11 : decode cJx4a65c_clear_da8c8 11 = .ok (.getfield 9, 3) := by decide +kernel
theorem dJx4a65c_clear_da8c8_14 : decode cJx4a65c_clear_da8c8 14 = .ok (.astore_n 1, 1) := by decide +kernel
theorem dJx4a65c_clear_da8c8_15 : decode cJx4a65c_clear_da8c8 15 = .ok (.aload_n 0, 1) := by decide +kernel
theorem dJx4a65c_clear_da8c8_16 : decode cJx4a65c_clear_da8c8 16 = .ok (.getfield 48, 3) := by decide +kernel
theorem dJx4a65c_clear_da8c8_19 : decode cJx4a65c_clear_da8c8 19 = .ok (.istore_n 2, 1) := by decide +kernel
theorem dJx4a65c_clear_da8c8_20 : decode cJx4a65c_clear_da8c8 20 = .ok (.aload_n 0, 1) := by decide +kernel
theorem dJx4a65c_clear_da8c8_21 : decode cJx4a65c_clear_da8c8 21 = .ok (.iconst 0, 1) := by decide +kernel
theorem dJx4a65c_clear_da8c8_22 : decode cJx4a65c_clear_da8c8 22 = .ok (.dup_x1, 1) := by decide +kernel
theorem dJx4a65c_clear_da8c8_23 : decode cJx4a65c_clear_da8c8 23 = .ok (.putfield 48, 3) := by decide +kernel
theorem dJx4a65c_clear_da8c8_26 : decode cJx4a65c_clear_da8c8 26 = .ok (.istore_n 3, 1) := by decide +kernel
theorem dJx4a65c_clear_da8c8_27 : decode cJx4a65c_clear_da8c8 27 = .ok (.iload_n 3, 1) := by decide +kernel
theorem dJx4a65c_clear_da8c8_28 : decode cJx4a65c_clear_da8c8 28 = .ok (.iload_n 2, 1) := by decide +kernel
theorem dJx4a65c_clear_da8c8_29 : decode cJx4a65c_clear_da8c8 29 = .ok (.if_icmp .ge 13, 3) := by decide +kernel
theorem dJx4a65c_clear_da8c8_32 : decode cJx4a65c_clear_da8c8 32 = .ok (.aload_n 1, 1) := by decide +kernel
theorem dJx4a65c_clear_da8c8_33 : decode cJx4a65c_clear_da8c8 33 = .ok (.iload_n 3, 1) := by decide +kernel
theorem dJx4a65c_clear_da8c8_34 : decode cJx4a65c_clear_da8c8 34 = .ok (.aconst_null, 1) := by decide +kernel
theorem dJx4a65c_clear_da8c8_35 : decode cJx4a65c_clear_da8c8 35 = .ok (.aastore, 1) := by decide +kernel
theorem dJx4a65c_clear_da8c8_36 : decode cJx4a65c_clear_da8c8 36 = .ok (.iinc 3 1, 3) := by decide +kernel
theorem dJx4a65c_clear_da8c8_39 : decode cJx4a65c_clear_da8c8 39 = .ok (.goto (-12), 3) := by decide +kernel
theorem dJx4a65c_clear_da8c8_42 : decode cJx4a65c_clear_da8c8 42 = .ok (.return_, 1) := by decide +kernel
theorem dJx4a65c_iterator_32c93_0 : decode cJx4a65c_iterator_32c93 0 = .ok (.new 267, 3) := by decide +kernel
theorem dJx4a65c_iterator_32c93_3 : decode cJx4a65c_iterator_32c93 3 = .ok (.dup, 1) := by decide +kernel
theorem dJx4a65c_iterator_32c93_4 : decode cJx4a65c_iterator_32c93 4 = .ok (.aload_n 0, 1) := by decide +kernel
theorem dJx4a65c_iterator_32c93_5 : decode cJx4a65c_iterator_32c93 5 = .ok (.invokespecial 269, 3) := by decide +kernel
theorem dJx4a65c_iterator_32c93_8 : decode cJx4a65c_iterator_32c93 8 = .ok (.areturn, 1) := by decide +kernel
theorem dJ7_copyOf_1904c_0 : decode cJ7_copyOf_1904c 0 = .ok (.aload_n 0, 1) := by decide +kernel
theorem dJ7_copyOf_1904c_1 : decode cJ7_copyOf_1904c 1 = .ok (.iload_n 1, 1) := by decide +kernel
theorem dJ7_copyOf_1904c_2 : decode cJ7_copyOf_1904c 2 = .ok (.aload_n 0, 1) := by decide +kernel
theorem dJ7_copyOf_1904c_3 : decode cJ7_copyOf_1904c 3 = .ok (.invokevirtual 86, 3) := by decide +kernel
theorem dJ7_copyOf_1904c_6 : decode cJ7_copyOf_1904c 6 = .ok (.invokestatic 300, 3) := by decide +kernel
theorem dJ7_copyOf_1904c_9 : decode cJ7_copyOf_1904c 9 = .ok (.areturn, 1) := by decide +kernel
theorem dJ7_copyOf_6403c_0 : decode cJ7_copyOf_6403c 0 = .ok (.aload_n 2, 1) := by decide +kernel
theorem dJ7_copyOf_6403c_1 : decode cJ7_copyOf_6403c 1 = .ok (.ldc 110, 2) := by decide +kernel
theorem dJ7_copyOf_6403c_3 : decode cJ7_copyOf_6403c 3 = .ok (.if_acmp .ne 10, 3) := by decide +kernel
theorem dJ7_copyOf_6403c_6 : decode cJ7_copyOf_6403c 6 = .ok (.iload_n 1, 1) := by decide +kernel
theorem dJ7_copyOf_6403c_7 : decode cJ7_copyOf_6403c 7 = .ok (.anewarray 2, 3) := by decide +kernel
theorem dJ7_copyOf_6403c_10 : decode cJ7_copyOf_6403c 10 = .ok (.goto 14, 3) := by decide +kernel
theorem dJ7_copyOf_6403c_13 : decode cJ7_copyOf_6403c 13 = .ok (.aload_n 2, 1) := by decide +kernel
theorem dJ7_copyOf_6403c_14 : decode cJ7_copyOf_6403c 14 = .ok (.invokevirtual 90, 3) := by decide +kernel
theorem dJ7_copyOf_6403c_17 : decode cJ7_copyOf_6403c 17 = .ok (.iload_n 1, 1) := by decide +kernel
theorem dJ7_copyOf_6403c_18 : decode cJ7_copyOf_6403c 18 = .ok (.invokestatic 95, 3) := by decide +kernel
theorem dJ7_copyOf_6403c_21 : decode cJ7_copyOf_6403c 21 = .ok (.checkcast 110, 3) := by decide +kernel
theorem dJ7_copyOf_6403c_24 : decode cJ7_copyOf_6403c 24 = .ok (.astore_n 3, 1) := by decide +kernel
theorem dJ7_copyOf_6403c_25 : decode cJ7_copyOf_6403c 25 = .ok (.aload_n 0, 1) := by decide +kernel
theorem dJ7_copyOf_6403c_26 : decode cJ7_copyOf_6403c 26 = .ok (.iconst 0, 1) := by decide +kernel
theorem dJ7_copyOf_6403c_27 : decode cJ7_copyOf_6403c 27 = .ok (.aload_n 3, 1) := by decide +kernel
theorem dJ7_copyOf_6403c_28 : decode cJ7_copyOf_6403c 28 = .ok (.iconst 0, 1) := by decide +kernel
theorem dJ7_copyOf_6403c_29 : decode cJ7_copyOf_6403c 29 = .ok (.aload_n 0, 1) := by decide +kernel
theorem dJ7_copyOf_6403c_30 : decode cJ7_copyOf_6403c 30 = .ok (.arraylength, 1) := by decide +kernel
theorem dJ7_copyOf_6403c_31 : decode cJ7_copyOf_6403c 31 = .ok (.iload_n 1, 1) := by decide +kernel
theorem dJ7_copyOf_6403c_32 : decode cJ7_copyOf_6403c 32 = .ok (.invokestatic 304, 3) := by decide +kernel
theorem dJ7_copyOf_6403c_35 : decode cJ7_copyOf_6403c 35 = .ok (.invokestatic 150, 3) := by decide +kernel
theorem dJ7_copyOf_6403c_38 : decode cJ7_copyOf_6403c 38 = .ok (.aload_n 3, 1) := by decide +kernel
theorem dJ7_copyOf_6403c_39 : decode cJ7_copyOf_6403c 39 = .ok (.areturn, 1) := by decide +kernel
theorem dJ7_copyOf_9075b_0 : decode cJ7_copyOf_9075b 0 = .ok (.iload_n 1, 1) := by decide +kernel
theorem dJ7_copyOf_9075b_1 : decode cJ7_copyOf_9075b 1 = .ok (.aload_n 0, 1) := by decide +kernel
theorem dJ7_copyOf_9075b_2 : decode cJ7_copyOf_9075b 2 = .ok (.arraylength, 1) := by decide +kernel
theorem dJ7_copyOf_9075b_3 : decode cJ7_copyOf_9075b 3 = .ok (.if_icmp .ne 11, 3) := by decide +kernel
theorem dJ7_copyOf_9075b_6 : decode cJ7_copyOf_9075b 6 = .ok (.aload_n 0, 1) := by decide +kernel
theorem dJ7_copyOf_9075b_7 : decode cJ7_copyOf_9075b 7 = .ok (.invokevirtual 310, 3) := by decide +kernel
theorem dJ7_copyOf_9075b_10 : decode cJ7_copyOf_9075b 10 = .ok (.checkcast 311, 3) := by decide +kernel
theorem dJ7_copyOf_9075b_13 : decode cJ7_copyOf_9075b 13 = .ok (.areturn, 1) := by decide +kernel
theorem dJ7_copyOf_9075b_14 : decode cJ7_copyOf_9075b 14 = .ok (.iload_n 1, 1) := by decide +kernel
theorem dJ7_copyOf_9075b_15 : decode cJ7_copyOf_9075b 15 = .ok (.newarray .byte, 2) := by decide +kernel
theorem dJ7_copyOf_9075b_17 : decode cJ7_copyOf_9075b 17 = .ok (.astore_n 2, 1) := by decide +kernel
theorem dJ7_copyOf_9075b_18 : decode cJ7_copyOf_9075b 18 = .ok (.aload_n 0, 1) := by decide +kernel
theorem dJ7_copyOf_9075b_19 : decode cJ7_copyOf_9075b 19 = .ok (.iconst 0, 1) := by decide +kernel
theorem dJ7_copyOf_9075b_20 : decode cJ7_copyOf_9075b 20 = .ok (.aload_n 2, 1) := by decide +kernel
theorem dJ7_copyOf_9075b_21 : decode cJ7_copyOf_9075b 21 = .ok (.iconst 0, 1) := by decide +kernel
theorem dJ7_copyOf_9075b_22 : decode cJ7_copyOf_9075b 22 = .ok (.aload_n 0, 1) := by decide +kernel
theorem dJ7_copyOf_9075b_23 : decode cJ7_copyOf_9075b 23 = .ok (.arraylength, 1) := by decide +kernel
theorem dJ7_copyOf_9075b_24 : decode cJ7_copyOf_9075b 24 = .ok (.iload_n 1, 1) := by decide +kernel
theorem dJ7_copyOf_9075b_25 : decode cJ7_copyOf_9075b 25 = .ok (.invokestatic 304, 3) := by decide +kernel
theorem dJ7_copyOf_9075b_28 : decode cJ7_copyOf_9075b 28 = .ok (.invokestatic 150, 3) := by decide +kernel
theorem dJ7_copyOf_9075b_31 : decode cJ7_copyOf_9075b 31 = .ok (.aload_n 2, 1) := by decide +kernel
theorem dJ7_copyOf_9075b_32 : decode cJ7_copyOf_9075b 32 = .ok (.areturn, 1) := by decide +kernel
theorem dJ7_checkLength_df160_0 : decode cJ7_checkLength_df160 0 = .ok (.iload_n 1, 1) := by decide +kernel
theorem dJ7_checkLength_df160_1 : decode cJ7_checkLength_df160 1 = .ok (.iload_n 0, 1) := by decide +kernel
theorem dJ7_checkLength_df160_2 : decode cJ7_checkLength_df160 2 = .ok (.if_icmp .ge 35, 3) := by decide +kernel
theorem dJ7_checkLength_df160_5 : decode cJ7_checkLength_df160 5 = .ok (.new 43, 3) := by decide +kernel
theorem dJ7_checkLength_df160_8 : decode cJ7_checkLength_df160 8 = .ok (.dup, 1) := by decide +kernel
theorem dJ7_checkLength_df160_9 : decode cJ7_checkLength_df160 9 = .ok (.new 45, 3) := by decide +kernel
theorem dJ7_checkLength_df160_12 : decode cJ7_checkLength_df160 12 = .ok (.dup, 1) := by decide +kernel
theorem dJ7_checkLength_df160_13 : decode cJ7_checkLength_df160 13 = .ok (.invokespecial 47, 3) := by decide +kernel
theorem dJ7_checkLength_df160_16 : decode cJ7_checkLength_df160 16 = .ok (.iload_n 0, 1) := by decide +kernel
theorem dJ7_checkLength_df160_17 : decode cJ7_checkLength_df160 17 = .ok (.invokevirtual 54, 3) := by decide +kernel
theorem dJ7_checkLength_df160_20 : decode cJ7_checkLength_df160 20 = .ok (.ldc_w 337, 3) := by decide +kernel
theorem dJ7_checkLength_df160_23 : decode cJ7_checkLength_df160 23 = .ok (.invokevirtual 50, 3) := by decide +kernel
theorem dJ7_checkLength_df160_26 : decode cJ7_checkLength_df160 26 = .ok (.iload_n 1, 1) := by decide +kernel
theorem dJ7_checkLength_df160_27 : decode cJ7_checkLength_df160 27 = .ok (.invokevirtual 54, 3) := by decide +kernel
theorem dJ7_checkLength_df160_30 : decode cJ7_checkLength_df160 30 = .ok (.invokevirtual 61, 3) := by decide +kernel
theorem dJ7_checkLength_df160_33 : decode cJ7_checkLength_df160 33 = .ok (.invokespecial 65, 3) := by decide +kernel
theorem dJ7_checkLength_df160_36 : decode cJ7_checkLength_df160 36 = .ok (.athrow, 1) := by decide +kernel
theorem dJ7_checkLength_df160_37 : decode cJ7_checkLength_df160 37 = .ok (.return_, 1) := by decide +kernel
theorem dJ7_copyOfRange_39247_0 : decode cJ7_copyOfRange_39247 0 = .ok (.iload_n 1, 1) := by decide +kernel
theorem dJ7_copyOfRange_39247_1 : decode cJ7_copyOfRange_39247 1 = .ok (.ifCond .ne 9, 3) := by decide +kernel
theorem dJ7_copyOfRange_39247_4 : decode cJ7_copyOfRange_39247 4 = .ok (.iload_n 2, 1) := by decide +kernel
theorem dJ7_copyOfRange_39247_5 : decode cJ7_copyOfRange_39247 5 = .ok (.aload_n 0, 1) := by decide +kernel
theorem dJ7_copyOfRange_39247_6 : decode cJ7_copyOfRange_39247 6 = .ok (.arraylength, 1) := by decide +kernel
theorem dJ7_copyOfRange_39247_7 : decode cJ7_copyOfRange_39247 7 = .ok (.if_icmp .eq 10, 3) := by decide +kernel
theorem dJ7_copyOfRange_39247_10 : decode cJ7_copyOfRange_39247 10 = .ok (.aload_n 0, 1) := by decide +kernel
theorem dJ7_copyOfRange_39247_11 : decode cJ7_copyOfRange_39247 11 = .ok (.iload_n 1, 1) := by decide +kernel
theorem dJ7_copyOfRange_39247_12 : decode cJ7_copyOfRange_39247 12 = .ok (.iload_n 2, 1) := by decide +kernel
theorem dJ7_copyOfRange_39247_13 : decode cJ7_copyOfRange_39247 13 = .ok (.invokestatic 339, 3) := by decide +kernel
theorem dJ7_copyOfRange_39247_16 : decode cJ7_copyOfRange_39247 16 = .ok (.areturn, 1) := by decide +kernel
theorem dJ7_copyOfRange_39247_17 : decode cJ7_copyOfRange_39247 17 = .ok (.aload_n 0, 1) := by decide +kernel
theorem dJ7_copyOfRange_39247_18 : decode cJ7_copyOfRange_39247 18 = .ok (.invokevirtual 310, 3) := by decide +kernel
theorem dJ7_copyOfRange_39247_21 : decode cJ7_copyOfRange_39247 21 = .ok (.checkcast 311, 3) := by decide +kernel
theorem dJ7_copyOfRange_39247_24 : decode cJ7_copyOfRange_39247 24 = .ok (.areturn, 1) := by decide +kernel
theorem dJ7_copyOfRangeByte_39247_0 : decode cJ7_copyOfRangeByte_39247 0 = .ok (.iload_n 1, 1) := by decide +kernel
theorem dJ7_copyOfRangeByte_39247_1 : decode cJ7_copyOfRangeByte_39247 1 = .ok (.iload_n 2, 1) := by decide +kernel
theorem dJ7_copyOfRangeByte_39247_2 : decode cJ7_copyOfRangeByte_39247 2 = .ok (.invokestatic 343, 3) := by decide +kernel
theorem dJ7_copyOfRangeByte_39247_5 : decode cJ7_copyOfRangeByte_39247 5 = .ok (.iload_n 2, 1) := by decide +kernel
theorem dJ7_copyOfRangeByte_39247_6 : decode cJ7_copyOfRangeByte_39247 6 = .ok (.iload_n 1, 1) := by decide +kernel
theorem dJ7_copyOfRangeByte_39247_7 : decode cJ7_copyOfRangeByte_39247 7 = .ok (.isub, 1) := by decide +kernel
theorem dJ7_copyOfRangeByte_39247_8 : decode cJ7_copyOfRangeByte_39247 8 = .ok (.istore_n 3, 1) := by decide +kernel
theorem dJ7_copyOfRangeByte_39247_9 : decode cJ7_copyOfRangeByte_39247 9 = .ok (.iload_n 3, 1) := by decide +kernel
theorem dJ7_copyOfRangeByte_39247_10 : decode cJ7_copyOfRangeByte_39247 10 = .ok (.newarray .byte, 2) := by decide +kernel
theorem dJ7_copyOfRangeByte_39247_12 : decode cJ7_copyOfRangeByte_39247 12 = .ok (.astore 4, 2) := by decide +kernel
theorem dJ7_copyOfRangeByte_39247_14 : decode cJ7_copyOfRangeByte_39247 14 = .ok (.aload_n 0, 1) := by decide +kernel
theorem dJ7_copyOfRangeByte_39247_15 : decode cJ7_copyOfRangeByte_39247 15 = .ok (.iload_n 1, 1) := by decide +kernel
theorem dJ7_copyOfRangeByte_39247_16 : decode cJ7_copyOfRangeByte_39247 16 = .ok (.aload 4, 2) := by decide +kernel
theorem dJ7_copyOfRangeByte_39247_18 : decode cJ7_copyOfRangeByte_39247 18 = .ok (.iconst 0, 1) := by decide +kernel
theorem dJ7_copyOfRangeByte_39247_19 : decode cJ7_copyOfRangeByte_39247 19 = .ok (.aload_n 0, 1) := by decide +kernel
theorem dJ7_copyOfRangeByte_39247_20 : decode cJ7_copyOfRangeByte_39247 20 = .ok (.arraylength, 1) := by decide +kernel
theorem dJ7_copyOfRangeByte_39247_21 : decode cJ7_copyOfRangeByte_39247 21 = .ok (.iload_n 1, 1) := by decide +kernel
theorem dJ7_copyOfRangeByte_39247_22 : decode cJ7_copyOfRangeByte_39247 22 = .ok (.isub, 1) := by decide +kernel
theorem dJ7_copyOfRangeByte_39247_23 : decode cJ7_copyOfRangeByte_39247 23 = .ok (.iload_n 3, 1) := by decide +kernel
theorem dJ7_copyOfRangeByte_39247_24 : decode cJ7_copyOfRangeByte_39247 24 = .ok (.invokestatic 304, 3) := by decide +kernel
theorem dJ7_copyOfRangeByte_39247_27 : decode cJ7_copyOfRangeByte_39247 27 = .ok (.invokestatic 150, 3) := by decide +kernel
theorem dJ7_copyOfRangeByte_39247_30 : decode cJ7_copyOfRangeByte_39247 30 = .ok (.aload 4, 2) := by decide +kernel
theorem dJ7_copyOfRangeByte_39247_32 : decode cJ7_copyOfRangeByte_39247 32 = .ok (.areturn, 1) := by decide +kernel
theorem dJ15_checkIndex_7cf53_0 : decode cJ15_checkIndex_7cf53 0 = .ok (.iload_n 0, 1) := by decide +kernel
theorem dJ15_checkIndex_7cf53_1 : decode cJ15_checkIndex_7cf53 1 = .ok (.iload_n 1, 1) := by decide +kernel
theorem dJ15_checkIndex_7cf53_2 : decode cJ15_checkIndex_7cf53 2 = .ok (.aconst_null, 1) := by decide +kernel
theorem dJ15_checkIndex_7cf53_3 : decode cJ15_checkIndex_7cf53 3 = .ok (.invokestatic 105, 3) := by decide +kernel
theorem dJ15_checkIndex_7cf53_6 : decode cJ15_checkIndex_7cf53 6 = .ok (.ireturn, 1) := by decide +kernel
theorem dJ8_newLength_cabcc_0 : decode cJ8_newLength_cabcc 0 = .ok (.iload_n 0, 1) := by decide +kernel
theorem dJ8_newLength_cabcc_1 : decode cJ8_newLength_cabcc 1 = .ok (.iload_n 1, 1) := by decide +kernel
theorem dJ8_newLength_cabcc_2 : decode cJ8_newLength_cabcc 2 = .ok (.iload_n 2, 1) := by decide +kernel
theorem dJ8_newLength_cabcc_3 : decode cJ8_newLength_cabcc 3 = .ok (.invokestatic 194, 3) := by decide +kernel
theorem dJ8_newLength_cabcc_6 : decode cJ8_newLength_cabcc 6 = .ok (.iadd, 1) := by decide +kernel
theorem dJ8_newLength_cabcc_7 : decode cJ8_newLength_cabcc 7 = .ok (.istore_n 3, 1) := by decide +kernel
theorem dJ8_newLength_cabcc_8 : decode cJ8_newLength_cabcc 8 = .ok (.iconst 0, 1) := by decide +kernel
theorem dJ8_newLength_cabcc_9 : decode cJ8_newLength_cabcc 9 = .ok (.iload_n 3, 1) := by decide +kernel
theorem dJ8_newLength_cabcc_10 : decode cJ8_newLength_cabcc 10 = .ok (.if_icmp .ge 11, 3) := by decide +kernel
theorem dJ8_newLength_cabcc_13 : decode cJ8_newLength_cabcc 13 = .ok (.iload_n 3, 1) := by decide +kernel
theorem dJ8_newLength_cabcc_14 : decode cJ8_newLength_cabcc 14 = .ok (.ldc 200, 2) := by decide +kernel
theorem dJ8_newLength_cabcc_16 : decode cJ8_newLength_cabcc 16 = .ok (.if_icmp .gt 5, 3) := by decide +kernel
theorem dJ8_newLength_cabcc_19 : decode cJ8_newLength_cabcc 19 = .ok (.iload_n 3, 1) := by decide +kernel
theorem dJ8_newLength_cabcc_20 : decode cJ8_newLength_cabcc 20 = .ok (.ireturn, 1) := by decide +kernel
theorem dJ8_newLength_cabcc_21 : decode cJ8_newLength_cabcc 21 = .ok (.iload_n 0, 1) := by decide +kernel
theorem dJ8_newLength_cabcc_22 : decode cJ8_newLength_cabcc 22 = .ok (.iload_n 1, 1) := by decide +kernel
theorem dJ8_newLength_cabcc_23 : decode cJ8_newLength_cabcc 23 = .ok (.invokestatic 201, 3) := by decide +kernel
theorem dJ8_newLength_cabcc_26 : decode cJ8_newLength_cabcc 26 = .ok (.ireturn, 1) := by decide +kernel
theorem dJ8_hugeLength_7cf53_0 : decode cJ8_hugeLength_7cf53 0 = .ok (.iload_n 0, 1) := by decide +kernel
theorem dJ8_hugeLength_7cf53_1 : decode cJ8_hugeLength_7cf53 1 = .ok (.iload_n 1, 1) := by decide +kernel
theorem dJ8_hugeLength_7cf53_2 : decode cJ8_hugeLength_7cf53 2 = .ok (.iadd, 1) := by decide +kernel
theorem dJ8_hugeLength_7cf53_3 : decode cJ8_hugeLength_7cf53 3 = .ok (.istore_n 2, 1) := by decide +kernel
theorem dJ8_hugeLength_7cf53_4 : decode cJ8_hugeLength_7cf53 4 = .ok (.iload_n 2, 1) := by decide +kernel
theorem dJ8_hugeLength_7cf53_5 : decode cJ8_hugeLength_7cf53 5 = .ok (.ifCond .ge 44, 3) := by decide +kernel
theorem dJ8_hugeLength_7cf53_8 : decode cJ8_hugeLength_7cf53 8 = .ok (.new 204, 3) := by decide +kernel
theorem dJ8_hugeLength_7cf53_11 : decode cJ8_hugeLength_7cf53 11 = .ok (.dup, 1) := by decide +kernel
theorem dJ8_hugeLength_7cf53_12 : decode cJ8_hugeLength_7cf53 12 = .ok (.new 89, 3) := by decide +kernel
theorem dJ8_hugeLength_7cf53_15 : decode cJ8_hugeLength_7cf53 15 = .ok (.dup, 1) := by decide +kernel
theorem dJ8_hugeLength_7cf53_16 : decode cJ8_hugeLength_7cf53 16 = .ok (.invokespecial 91, 3) := by decide +kernel
theorem dJ8_hugeLength_7cf53_19 : decode cJ8_hugeLength_7cf53 19 = .ok (.ldc 206, 2) := by decide +kernel
theorem dJ8_hugeLength_7cf53_21 : decode cJ8_hugeLength_7cf53 21 = .ok (.invokevirtual 94, 3) := by decide +kernel
theorem dJ8_hugeLength_7cf53_24 : decode cJ8_hugeLength_7cf53 24 = .ok (.iload_n 0, 1) := by decide +kernel
theorem dJ8_hugeLength_7cf53_25 : decode cJ8_hugeLength_7cf53 25 = .ok (.invokevirtual 98, 3) := by decide +kernel
theorem dJ8_hugeLength_7cf53_28 : decode cJ8_hugeLength_7cf53 28 = .ok (.ldc 208, 2) := by decide +kernel
theorem dJ8_hugeLength_7cf53_30 : decode cJ8_hugeLength_7cf53 30 = .ok (.invokevirtual 94, 3) := by decide +kernel
theorem dJ8_hugeLength_7cf53_33 : decode cJ8_hugeLength_7cf53 33 = .ok (.iload_n 1, 1) := by decide +kernel
theorem dJ8_hugeLength_7cf53_34 : decode cJ8_hugeLength_7cf53 34 = .ok (.invokevirtual 98, 3) := by decide +kernel
theorem dJ8_hugeLength_7cf53_37 : decode cJ8_hugeLength_7cf53 37 = .ok (.ldc 210, 2) := by decide +kernel
theorem dJ8_hugeLength_7cf53_39 : decode cJ8_hugeLength_7cf53 39 = .ok (.invokevirtual 94, 3) := by decide +kernel
theorem dJ8_hugeLength_7cf53_42 : decode cJ8_hugeLength_7cf53 42 = .ok (.invokevirtual 101, 3) := by decide +kernel
theorem dJ8_hugeLength_7cf53_45 : decode cJ8_hugeLength_7cf53 45 = .ok (.invokespecial 212, 3) := by decide +kernel
theorem dJ8_hugeLength_7cf53_48 : decode cJ8_hugeLength_7cf53 48 = .ok (.athrow, 1) := by decide +kernel
theorem dJ8_hugeLength_7cf53_49 : decode cJ8_hugeLength_7cf53 49 = .ok (.iload_n 2, 1) := by decide +kernel
theorem dJ8_hugeLength_7cf53_50 : decode cJ8_hugeLength_7cf53 50 = .ok (.ldc 200, 2) := by decide +kernel
theorem dJ8_hugeLength_7cf53_52 : decode cJ8_hugeLength_7cf53 52 = .ok (.if_icmp .gt 6, 3) := by decide +kernel
theorem dJ8_hugeLength_7cf53_55 : decode cJ8_hugeLength_7cf53 55 = .ok (.ldc 200, 2) := by decide +kernel
theorem dJ8_hugeLength_7cf53_57 : decode cJ8_hugeLength_7cf53 57 = .ok (.ireturn, 1) := by decide +kernel
theorem dJ8_hugeLength_7cf53_58 : decode cJ8_hugeLength_7cf53 58 = .ok (.iload_n 2, 1) := by decide +kernel
theorem dJ8_hugeLength_7cf53_59 : decode cJ8_hugeLength_7cf53 59 = .ok (.ireturn, 1) := by decide +kernel
theorem dJ3_checkIndex_8e157_0 : decode cJ3_checkIndex_8e157 0 = .ok (.iload_n 0, 1) := by decide +kernel
theorem dJ3_checkIndex_8e157_1 : decode cJ3_checkIndex_8e157 1 = .ok (.ifCond .lt 8, 3) := by decide +kernel
theorem dJ3_checkIndex_8e157_4 : decode cJ3_checkIndex_8e157 4 = .ok (.iload_n 0, 1) := by decide +kernel
theorem dJ3_checkIndex_8e157_5 : decode cJ3_checkIndex_8e157 5 = .ok (.iload_n 1, 1) := by decide +kernel
theorem dJ3_checkIndex_8e157_6 : decode cJ3_checkIndex_8e157 6 = .ok (.if_icmp .lt 10, 3) := by decide +kernel
theorem dJ3_checkIndex_8e157_9 : decode cJ3_checkIndex_8e157 9 = .ok (.aload_n 2, 1) := by decide +kernel
theorem dJ3_checkIndex_8e157_10 : decode cJ3_checkIndex_8e157 10 = .ok (.iload_n 0, 1) := by decide +kernel
theorem dJ3_checkIndex_8e157_11 : decode cJ3_checkIndex_8e157 11 = .ok (.iload_n 1, 1) := by decide +kernel
theorem dJ3_checkIndex_8e157_12 : decode cJ3_checkIndex_8e157 12 = .ok (.invokestatic 95, 3) := by decide +kernel
theorem dJ3_checkIndex_8e157_15 : decode cJ3_checkIndex_8e157 15 = .ok (.athrow, 1) := by decide +kernel
theorem dJ3_checkIndex_8e157_16 : decode cJ3_checkIndex_8e157 16 = .ok (.iload_n 0, 1) := by decide +kernel
theorem dJ3_checkIndex_8e157_17 : decode cJ3_checkIndex_8e157 17 = .ok (.ireturn, 1) := by decide +kernel
theorem dJ3_checkFromToIndex_8c36e_0 : decode cJ3_checkFromToIndex_8c36e 0 = .ok (.iload_n 0, 1) := by decide +kernel
theorem dJ3_checkFromToIndex_8c36e_1 : decode cJ3_checkFromToIndex_8c36e 1 = .ok (.ifCond .lt 13, 3) := by decide +kernel
theorem dJ3_checkFromToIndex_8c36e_4 : decode cJ3_checkFromToIndex_8c36e 4 = .ok (.iload_n 0, 1) := by decide +kernel
theorem dJ3_checkFromToIndex_8c36e_5 : decode cJ3_checkFromToIndex_8c36e 5 = .ok (.iload_n 1, 1) := by decide +kernel
theorem dJ3_checkFromToIndex_8c36e_6 : decode cJ3_checkFromToIndex_8c36e 6 = .ok (.if_icmp .gt 8, 3) := by decide +kernel
theorem dJ3_checkFromToIndex_8c36e_9 : decode cJ3_checkFromToIndex_8c36e 9 = .ok (.iload_n 1, 1) := by decide +kernel
theorem dJ3_checkFromToIndex_8c36e_10 : decode cJ3_checkFromToIndex_8c36e 10 = .ok (.iload_n 2, 1) := by decide +kernel
theorem dJ3_checkFromToIndex_8c36e_11 : decode cJ3_checkFromToIndex_8c36e 11 = .ok (.if_icmp .le 11, 3) := by decide +kernel
theorem dJ3_checkFromToIndex_8c36e_14 : decode cJ3_checkFromToIndex_8c36e 14 = .ok (.aload_n 3, 1) := by decide +kernel
theorem dJ3_checkFromToIndex_8c36e_15 : decode cJ3_checkFromToIndex_8c36e 15 = .ok (.iload_n 0, 1) := by decide +kernel
theorem dJ3_checkFromToIndex_8c36e_16 : decode cJ3_checkFromToIndex_8c36e 16 = .ok (.iload_n 1, 1) := by decide +kernel
theorem dJ3_checkFromToIndex_8c36e_17 : decode cJ3_checkFromToIndex_8c36e 17 = .ok (.iload_n 2, 1) := by decide +kernel
theorem dJ3_checkFromToIndex_8c36e_18 : decode cJ3_checkFromToIndex_8c36e 18 = .ok (.invokestatic 99, 3) := by decide +kernel
theorem dJ3_checkFromToIndex_8c36e_21 : decode cJ3_checkFromToIndex_8c36e 21 = .ok (.athrow, 1) := by decide +kernel
theorem dJ3_checkFromToIndex_8c36e_22 : decode cJ3_checkFromToIndex_8c36e 22 = .ok (.iload_n 0, 1) := by decide +kernel
theorem dJ3_checkFromToIndex_8c36e_23 : decode cJ3_checkFromToIndex_8c36e 23 = .ok (.ireturn, 1) := by decide +kernel
theorem dJ3_checkFromIndexSize_8c36e_0 : decode cJ3_checkFromIndexSize_8c36e 0 = .ok (.iload_n 2, 1) := by decide +kernel
theorem dJ3_checkFromIndexSize_8c36e_1 : decode cJ3_checkFromIndexSize_8c36e 1 = .ok (.iload_n 0, 1) := by decide +kernel
theorem dJ3_checkFromIndexSize_8c36e_2 : decode cJ3_checkFromIndexSize_8c36e 2 = .ok (.ior, 1) := by decide +kernel
theorem dJ3_checkFromIndexSize_8c36e_3 : decode cJ3_checkFromIndexSize_8c36e 3 = .ok (.iload_n 1, 1) := by decide +kernel
theorem dJ3_checkFromIndexSize_8c36e_4 : decode cJ3_checkFromIndexSize_8c36e 4 = .ok (.ior, 1) := by decide +kernel
theorem dJ3_checkFromIndexSize_8c36e_5 : decode cJ3_checkFromIndexSize_8c36e 5 = .ok (.ifCond .lt 10, 3) := by decide +kernel
theorem dJ3_checkFromIndexSize_8c36e_8 : decode cJ3_checkFromIndexSize_8c36e 8 = .ok (.iload_n 1, 1) := by decide +kernel
theorem dJ3_checkFromIndexSize_8c36e_9 : decode cJ3_checkFromIndexSize_8c36e 9 = .ok (.iload_n 2, 1) := by decide +kernel
theorem dJ3_checkFromIndexSize_8c36e_10 : decode cJ3_checkFromIndexSize_8c36e 10 = .ok (.iload_n 0, 1) := by decide +kernel
theorem dJ3_checkFromIndexSize_8c36e_11 : decode cJ3_checkFromIndexSize_8c36e 11 = .ok (.isub, 1) := by decide +kernel
theorem dJ3_checkFromIndexSize_8c36e_12 : decode cJ3_checkFromIndexSize_8c36e 12 = .ok (.if_icmp .le 11, 3) := by decide +kernel
theorem dJ3_checkFromIndexSize_8c36e_15 : decode cJ3_checkFromIndexSize_8c36e 15 = .ok (.aload_n 3, 1) := by decide +kernel
theorem dJ3_checkFromIndexSize_8c36e_16 : decode cJ3_checkFromIndexSize_8c36e 16 = .ok (.iload_n 0, 1) := by decide +kernel
theorem dJ3_checkFromIndexSize_8c36e_17 : decode cJ3_checkFromIndexSize_8c36e 17 = .ok (.iload_n 1, 1) := by decide +kernel
theorem dJ3_checkFromIndexSize_8c36e_18 : decode cJ3_checkFromIndexSize_8c36e 18 = .ok (.iload_n 2, 1) := by decide +kernel
theorem dJ3_checkFromIndexSize_8c36e_19 : decode cJ3_checkFromIndexSize_8c36e 19 = .ok (.invokestatic 103, 3) := by decide +kernel
theorem dJ3_checkFromIndexSize_8c36e_22 : decode cJ3_checkFromIndexSize_8c36e 22 = .ok (.athrow, 1) := by decide +kernel
theorem dJ3_checkFromIndexSize_8c36e_23 : decode cJ3_checkFromIndexSize_8c36e 23 = .ok (.iload_n 0, 1) := by decide +kernel
theorem dJ3_checkFromIndexSize_8c36e_24 : decode cJ3_checkFromIndexSize_8c36e 24 = .ok (.ireturn, 1) := by decide +kernel
theorem dL_make_0 : decode cL_make 0 = .ok (.aload 4, 2) := by decide +kernel
theorem dL_make_2 : decode cL_make 2 = .ok (.aload_n 0, 1) := by decide +kernel
theorem dL_make_3 : decode cL_make 3 = .ok (.iload_n 1, 1) := by decide +kernel
theorem dL_make_4 : decode cL_make 4 = .ok (.iload_n 2, 1) := by decide +kernel
theorem dL_make_5 : decode cL_make 5 = .ok (.iload_n 3, 1) := by decide +kernel
theorem dL_make_6 : decode cL_make 6 = .ok (.invokevirtual 7, 3) := by decide +kernel
theorem dL_make_9 : decode cL_make 9 = .ok (.i2l, 1) := by decide +kernel
theorem dL_make_10 : decode cL_make 10 = .ok (.putfield 13, 3) := by decide +kernel
theorem dL_make_13 : decode cL_make 13 = .ok (.goto 11, 3) := by decide +kernel
theorem dL_make_16 : decode cL_make 16 = .ok (.astore 5, 2) := by decide +kernel
theorem dL_make_18 : decode cL_make 18 = .ok (.iconst 1, 1) := by decide +kernel
theorem dL_make_19 : decode cL_make 19 = .ok (.ireturn, 1) := by decide +kernel
theorem dL_make_20 : decode cL_make 20 = .ok (.astore 5, 2) := by decide +kernel
theorem dL_make_22 : decode cL_make 22 = .ok (.iconst 2, 1) := by decide +kernel
theorem dL_make_23 : decode cL_make 23 = .ok (.ireturn, 1) := by decide +kernel
theorem dL_make_24 : decode cL_make 24 = .ok (.iconst 0, 1) := by decide +kernel
theorem dL_make_25 : decode cL_make 25 = .ok (.ireturn, 1) := by decide +kernel
theorem dL_put_0 : decode cL_put 0 = .ok (.aload 4, 2) := by decide +kernel
theorem dL_put_2 : decode cL_put 2 = .ok (.aload_n 0, 1) := by decide +kernel
theorem dL_put_3 : decode cL_put 3 = .ok (.iload_n 1, 1) := by decide +kernel
theorem dL_put_4 : decode cL_put 4 = .ok (.iload_n 2, 1) := by decide +kernel
theorem dL_put_5 : decode cL_put 5 = .ok (.iload_n 3, 1) := by decide +kernel
theorem dL_put_6 : decode cL_put 6 = .ok (.invokevirtual 23, 3) := by decide +kernel
theorem dL_put_9 : decode cL_put 9 = .ok (.i2l, 1) := by decide +kernel
theorem dL_put_10 : decode cL_put 10 = .ok (.putfield 13, 3) := by decide +kernel
theorem dL_put_13 : decode cL_put 13 = .ok (.goto 11, 3) := by decide +kernel
theorem dL_put_16 : decode cL_put 16 = .ok (.astore 5, 2) := by decide +kernel
theorem dL_put_18 : decode cL_put 18 = .ok (.iconst 1, 1) := by decide +kernel
theorem dL_put_19 : decode cL_put 19 = .ok (.ireturn, 1) := by decide +kernel
theorem dL_put_20 : decode cL_put 20 = .ok (.astore 5, 2) := by decide +kernel
theorem dL_put_22 : decode cL_put 22 = .ok (.iconst 2, 1) := by decide +kernel
theorem dL_put_23 : decode cL_put 23 = .ok (.ireturn, 1) := by decide +kernel
theorem dL_put_24 : decode cL_put 24 = .ok (.iconst 0, 1) := by decide +kernel
theorem dL_put_25 : decode cL_put 25 = .ok (.ireturn, 1) := by decide +kernel
theorem dL_putIfAbsent_0 : decode cL_putIfAbsent 0 = .ok (.aload 4, 2) := by decide +kernel
theorem dL_putIfAbsent_2 : decode cL_putIfAbsent 2 = .ok (.aload_n 0, 1) := by decide +kernel
theorem dL_putIfAbsent_3 : decode cL_putIfAbsent 3 = .ok (.iload_n 1, 1) := by decide +kernel
theorem dL_putIfAbsent_4 : decode cL_putIfAbsent 4 = .ok (.iload_n 2, 1) := by decide +kernel
theorem dL_putIfAbsent_5 : decode cL_putIfAbsent 5 = .ok (.iload_n 3, 1) := by decide +kernel
theorem dL_putIfAbsent_6 : decode cL_putIfAbsent 6 = .ok (.invokevirtual 27, 3) := by decide +kernel
theorem dL_putIfAbsent_9 : decode cL_putIfAbsent 9 = .ok (.i2l, 1) := by decide +kernel
theorem dL_putIfAbsent_10 : decode cL_putIfAbsent 10 = .ok (.putfield 13, 3) := by decide +kernel
theorem dL_putIfAbsent_13 : decode cL_putIfAbsent 13 = .ok (.goto 15, 3) := by decide +kernel
theorem dL_putIfAbsent_16 : decode cL_putIfAbsent 16 = .ok (.astore 5, 2) := by decide +kernel
theorem dL_putIfAbsent_18 : decode cL_putIfAbsent 18 = .ok (.iconst 1, 1) := by decide +kernel
theorem dL_putIfAbsent_19 : decode cL_putIfAbsent 19 = .ok (.ireturn, 1) := by decide +kernel
theorem dL_putIfAbsent_20 : decode cL_putIfAbsent 20 = .ok (.astore 5, 2) := by decide +kernel
theorem dL_putIfAbsent_22 : decode cL_putIfAbsent 22 = .ok (.iconst 2, 1) := by decide +kernel
theorem dL_putIfAbsent_23 : decode cL_putIfAbsent 23 = .ok (.ireturn, 1) := by decide +kernel
theorem dL_putIfAbsent_24 : decode cL_putIfAbsent 24 = .ok (.astore 5, 2) := by decide +kernel
theorem dL_putIfAbsent_26 : decode cL_putIfAbsent 26 = .ok (.iconst 3, 1) := by decide +kernel
theorem dL_putIfAbsent_27 : decode cL_putIfAbsent 27 = .ok (.ireturn, 1) := by decide +kernel
theorem dL_putIfAbsent_28 : decode cL_putIfAbsent 28 = .ok (.iconst 0, 1) := by decide +kernel
theorem dL_putIfAbsent_29 : decode cL_putIfAbsent 29 = .ok (.ireturn, 1) := by decide +kernel
theorem dL_get_0 : decode cL_get 0 = .ok (.aload_n 3, 1) := by decide +kernel
theorem dL_get_1 : decode cL_get 1 = .ok (.aload_n 0, 1) := by decide +kernel
theorem dL_get_2 : decode cL_get 2 = .ok (.iload_n 1, 1) := by decide +kernel
theorem dL_get_3 : decode cL_get 3 = .ok (.iload_n 2, 1) := by decide +kernel
theorem dL_get_4 : decode cL_get 4 = .ok (.invokevirtual 32, 3) := by decide +kernel
theorem dL_get_7 : decode cL_get 7 = .ok (.i2l, 1) := by decide +kernel
theorem dL_get_8 : decode cL_get 8 = .ok (.putfield 13, 3) := by decide +kernel
theorem dL_get_11 : decode cL_get 11 = .ok (.goto 11, 3) := by decide +kernel
theorem dL_get_14 : decode cL_get 14 = .ok (.astore 4, 2) := by decide +kernel
theorem dL_get_16 : decode cL_get 16 = .ok (.iconst 1, 1) := by decide +kernel
theorem dL_get_17 : decode cL_get 17 = .ok (.ireturn, 1) := by decide +kernel
theorem dL_get_18 : decode cL_get 18 = .ok (.astore 4, 2) := by decide +kernel
theorem dL_get_20 : decode cL_get 20 = .ok (.iconst 2, 1) := by decide +kernel
theorem dL_get_21 : decode cL_get 21 = .ok (.ireturn, 1) := by decide +kernel
theorem dL_get_22 : decode cL_get 22 = .ok (.iconst 0, 1) := by decide +kernel
theorem dL_get_23 : decode cL_get 23 = .ok (.ireturn, 1) := by decide +kernel
theorem dL_getOr_0 : decode cL_getOr 0 = .ok (.aload 4, 2) := by decide +kernel
theorem dL_getOr_2 : decode cL_getOr 2 = .ok (.aload_n 0, 1) := by decide +kernel
theorem dL_getOr_3 : decode cL_getOr 3 = .ok (.iload_n 1, 1) := by decide +kernel
theorem dL_getOr_4 : decode cL_getOr 4 = .ok (.iload_n 2, 1) := by decide +kernel
theorem dL_getOr_5 : decode cL_getOr 5 = .ok (.iload_n 3, 1) := by decide +kernel
theorem dL_getOr_6 : decode cL_getOr 6 = .ok (.invokevirtual 36, 3) := by decide +kernel
theorem dL_getOr_9 : decode cL_getOr 9 = .ok (.i2l, 1) := by decide +kernel
theorem dL_getOr_10 : decode cL_getOr 10 = .ok (.putfield 13, 3) := by decide +kernel
theorem dL_getOr_13 : decode cL_getOr 13 = .ok (.goto 11, 3) := by decide +kernel
theorem dL_getOr_16 : decode cL_getOr 16 = .ok (.astore 5, 2) := by decide +kernel
theorem dL_getOr_18 : decode cL_getOr 18 = .ok (.iconst 1, 1) := by decide +kernel
theorem dL_getOr_19 : decode cL_getOr 19 = .ok (.ireturn, 1) := by decide +kernel
theorem dL_getOr_20 : decode cL_getOr 20 = .ok (.astore 5, 2) := by decide +kernel
theorem dL_getOr_22 : decode cL_getOr 22 = .ok (.iconst 2, 1) := by decide +kernel
theorem dL_getOr_23 : decode cL_getOr 23 = .ok (.ireturn, 1) := by decide +kernel
theorem dL_getOr_24 : decode cL_getOr 24 = .ok (.iconst 0, 1) := by decide +kernel
theorem dL_getOr_25 : decode cL_getOr 25 = .ok (.ireturn, 1) := by decide +kernel
theorem dL_remove_0 : decode cL_remove 0 = .ok (.aload_n 3, 1) := by decide +kernel
theorem dL_remove_1 : decode cL_remove 1 = .ok (.aload_n 0, 1) := by decide +kernel
theorem dL_remove_2 : decode cL_remove 2 = .ok (.iload_n 1, 1) := by decide +kernel
theorem dL_remove_3 : decode cL_remove 3 = .ok (.iload_n 2, 1) := by decide +kernel
theorem dL_remove_4 : decode cL_remove 4 = .ok (.invokevirtual 39, 3) := by decide +kernel
theorem dL_remove_7 : decode cL_remove 7 = .ok (.i2l, 1) := by decide +kernel
theorem dL_remove_8 : decode cL_remove 8 = .ok (.putfield 13, 3) := by decide +kernel
theorem dL_remove_11 : decode cL_remove 11 = .ok (.goto 11, 3) := by decide +kernel
theorem dL_remove_14 : decode cL_remove 14 = .ok (.astore 4, 2) := by decide +kernel
theorem dL_remove_16 : decode cL_remove 16 = .ok (.iconst 1, 1) := by decide +kernel
theorem dL_remove_17 : decode cL_remove 17 = .ok (.ireturn, 1) := by decide +kernel
theorem dL_remove_18 : decode cL_remove 18 = .ok (.astore 4, 2) := by decide +kernel
theorem dL_remove_20 : decode cL_remove 20 = .ok (.iconst 2, 1) := by decide +kernel
theorem dL_remove_21 : decode cL_remove 21 = .ok (.ireturn, 1) := by decide +kernel
theorem dL_remove_22 : decode cL_remove 22 = .ok (.iconst 0, 1) := by decide +kernel
theorem dL_remove_23 : decode cL_remove 23 = .ok (.ireturn, 1) := by decide +kernel
theorem dL_clear_0 : decode cL_clear 0 = .ok (.aload_n 2, 1) := by decide +kernel
theorem dL_clear_1 : decode cL_clear 1 = .ok (.aload_n 0, 1) := by decide +kernel
theorem dL_clear_2 : decode cL_clear 2 = .ok (.iload_n 1, 1) := by decide +kernel
theorem dL_clear_3 : decode cL_clear 3 = .ok (.invokevirtual 42, 3) := by decide +kernel
theorem dL_clear_6 : decode cL_clear 6 = .ok (.i2l, 1) := by decide +kernel
theorem dL_clear_7 : decode cL_clear 7 = .ok (.putfield 13, 3) := by decide +kernel
theorem dL_clear_10 : decode cL_clear 10 = .ok (.goto 6, 3) := by decide +kernel
theorem dL_clear_13 : decode cL_clear 13 = .ok (.astore_n 3, 1) := by decide +kernel
theorem dL_clear_14 : decode cL_clear 14 = .ok (.iconst 1, 1) := by decide +kernel
theorem dL_clear_15 : decode cL_clear 15 = .ok (.ireturn, 1) := by decide +kernel
theorem dL_clear_16 : decode cL_clear 16 = .ok (.iconst 0, 1) := by decide +kernel
theorem dL_clear_17 : decode cL_clear 17 = .ok (.ireturn, 1) := by decide +kernel
theorem dL_set_0 : decode cL_set 0 = .ok (.aload 4, 2) := by decide +kernel
theorem dL_set_2 : decode cL_set 2 = .ok (.aload_n 0, 1) := by decide +kernel
theorem dL_set_3 : decode cL_set 3 = .ok (.iload_n 1, 1) := by decide +kernel
theorem dL_set_4 : decode cL_set 4 = .ok (.iload_n 2, 1) := by decide +kernel
theorem dL_set_5 : decode cL_set 5 = .ok (.iload_n 3, 1) := by decide +kernel
theorem dL_set_6 : decode cL_set 6 = .ok (.invokevirtual 46, 3) := by decide +kernel
theorem dL_set_9 : decode cL_set 9 = .ok (.i2l, 1) := by decide +kernel
theorem dL_set_10 : decode cL_set 10 = .ok (.putfield 13, 3) := by decide +kernel
theorem dL_set_13 : decode cL_set 13 = .ok (.goto 11, 3) := by decide +kernel
theorem dL_set_16 : decode cL_set 16 = .ok (.astore 5, 2) := by decide +kernel
theorem dL_set_18 : decode cL_set 18 = .ok (.iconst 1, 1) := by decide +kernel
theorem dL_set_19 : decode cL_set 19 = .ok (.ireturn, 1) := by decide +kernel
theorem dL_set_20 : decode cL_set 20 = .ok (.astore 5, 2) := by decide +kernel
theorem dL_set_22 : decode cL_set 22 = .ok (.iconst 2, 1) := by decide +kernel
theorem dL_set_23 : decode cL_set 23 = .ok (.ireturn, 1) := by decide +kernel
theorem dL_set_24 : decode cL_set 24 = .ok (.iconst 0, 1) := by decide +kernel
theorem dL_set_25 : decode cL_set 25 = .ok (.ireturn, 1) := by decide +kernel
theorem dL_copy_0 : decode cL_copy 0 = .ok (.aload_n 3, 1) := by decide +kernel
theorem dL_copy_1 : decode cL_copy 1 = .ok (.aload_n 0, 1) := by decide +kernel
theorem dL_copy_2 : decode cL_copy 2 = .ok (.iload_n 1, 1) := by decide +kernel
theorem dL_copy_3 : decode cL_copy 3 = .ok (.iload_n 2, 1) := by decide +kernel
theorem dL_copy_4 : decode cL_copy 4 = .ok (.invokevirtual 49, 3) := by decide +kernel
theorem dL_copy_7 : decode cL_copy 7 = .ok (.i2l, 1) := by decide +kernel
theorem dL_copy_8 : decode cL_copy 8 = .ok (.putfield 13, 3) := by decide +kernel
theorem dL_copy_11 : decode cL_copy 11 = .ok (.goto 7, 3) := by decide +kernel
theorem dL_copy_14 : decode cL_copy 14 = .ok (.astore 4, 2) := by decide +kernel
theorem dL_copy_16 : decode cL_copy 16 = .ok (.iconst 1, 1) := by decide +kernel
theorem dL_copy_17 : decode cL_copy 17 = .ok (.ireturn, 1) := by decide +kernel
theorem dL_copy_18 : decode cL_copy 18 = .ok (.iconst 0, 1) := by decide +kernel
theorem dL_copy_19 : decode cL_copy 19 = .ok (.ireturn, 1) := by decide +kernel
theorem dL_has_0 : decode cL_has 0 = .ok (.aload_n 3, 1) := by decide +kernel
theorem dL_has_1 : decode cL_has 1 = .ok (.aload_n 0, 1) := by decide +kernel
theorem dL_has_2 : decode cL_has 2 = .ok (.iload_n 1, 1) := by decide +kernel
theorem dL_has_3 : decode cL_has 3 = .ok (.iload_n 2, 1) := by decide +kernel
theorem dL_has_4 : decode cL_has 4 = .ok (.invokevirtual 52, 3) := by decide +kernel
theorem dL_has_7 : decode cL_has 7 = .ok (.ifCond .eq 7, 3) := by decide +kernel
theorem dL_has_10 : decode cL_has 10 = .ok (.lconst 1, 1) := by decide +kernel
theorem dL_has_11 : decode cL_has 11 = .ok (.goto 4, 3) := by decide +kernel
theorem dL_has_14 : decode cL_has 14 = .ok (.lconst 0, 1) := by decide +kernel
theorem dL_has_15 : decode cL_has 15 = .ok (.putfield 13, 3) := by decide +kernel
theorem dL_has_18 : decode cL_has 18 = .ok (.goto 11, 3) := by decide +kernel
theorem dL_has_21 : decode cL_has 21 = .ok (.astore 4, 2) := by decide +kernel
theorem dL_has_23 : decode cL_has 23 = .ok (.iconst 1, 1) := by decide +kernel
theorem dL_has_24 : decode cL_has 24 = .ok (.ireturn, 1) := by decide +kernel
theorem dL_has_25 : decode cL_has 25 = .ok (.astore 4, 2) := by decide +kernel
theorem dL_has_27 : decode cL_has 27 = .ok (.iconst 2, 1) := by decide +kernel
theorem dL_has_28 : decode cL_has 28 = .ok (.ireturn, 1) := by decide +kernel
theorem dL_has_29 : decode cL_has 29 = .ok (.iconst 0, 1) := by decide +kernel
theorem dL_has_30 : decode cL_has 30 = .ok (.ireturn, 1) := by decide +kernel
theorem dL_size_0 : decode cL_size 0 = .ok (.aload_n 2, 1) := by decide +kernel
theorem dL_size_1 : decode cL_size 1 = .ok (.aload_n 0, 1) := by decide +kernel
theorem dL_size_2 : decode cL_size 2 = .ok (.iload_n 1, 1) := by decide +kernel
theorem dL_size_3 : decode cL_size 3 = .ok (.invokevirtual 56, 3) := by decide +kernel
theorem dL_size_6 : decode cL_size 6 = .ok (.i2l, 1) := by decide +kernel
theorem dL_size_7 : decode cL_size 7 = .ok (.putfield 13, 3) := by decide +kernel
theorem dL_size_10 : decode cL_size 10 = .ok (.goto 6, 3) := by decide +kernel
theorem dL_size_13 : decode cL_size 13 = .ok (.astore_n 3, 1) := by decide +kernel
theorem dL_size_14 : decode cL_size 14 = .ok (.iconst 1, 1) := by decide +kernel
theorem dL_size_15 : decode cL_size 15 = .ok (.ireturn, 1) := by decide +kernel
theorem dL_size_16 : decode cL_size 16 = .ok (.iconst 0, 1) := by decide +kernel
theorem dL_size_17 : decode cL_size 17 = .ok (.ireturn, 1) := by decide +kernel
theorem dL_keyAt_0 : decode cL_keyAt 0 = .ok (.aload_n 3, 1) := by decide +kernel
theorem dL_keyAt_1 : decode cL_keyAt 1 = .ok (.aload_n 0, 1) := by decide +kernel
theorem dL_keyAt_2 : decode cL_keyAt 2 = .ok (.iload_n 1, 1) := by decide +kernel
theorem dL_keyAt_3 : decode cL_keyAt 3 = .ok (.iload_n 2, 1) := by decide +kernel
theorem dL_keyAt_4 : decode cL_keyAt 4 = .ok (.invokevirtual 59, 3) := by decide +kernel
theorem dL_keyAt_7 : decode cL_keyAt 7 = .ok (.i2l, 1) := by decide +kernel
theorem dL_keyAt_8 : decode cL_keyAt 8 = .ok (.putfield 13, 3) := by decide +kernel
theorem dL_keyAt_11 : decode cL_keyAt 11 = .ok (.goto 7, 3) := by decide +kernel
theorem dL_keyAt_14 : decode cL_keyAt 14 = .ok (.astore 4, 2) := by decide +kernel
theorem dL_keyAt_16 : decode cL_keyAt 16 = .ok (.iconst 1, 1) := by decide +kernel
theorem dL_keyAt_17 : decode cL_keyAt 17 = .ok (.ireturn, 1) := by decide +kernel
theorem dL_keyAt_18 : decode cL_keyAt 18 = .ok (.iconst 0, 1) := by decide +kernel
theorem dL_keyAt_19 : decode cL_keyAt 19 = .ok (.ireturn, 1) := by decide +kernel
theorem dL_valueAt_0 : decode cL_valueAt 0 = .ok (.aload_n 3, 1) := by decide +kernel
theorem dL_valueAt_1 : decode cL_valueAt 1 = .ok (.aload_n 0, 1) := by decide +kernel
theorem dL_valueAt_2 : decode cL_valueAt 2 = .ok (.iload_n 1, 1) := by decide +kernel
theorem dL_valueAt_3 : decode cL_valueAt 3 = .ok (.iload_n 2, 1) := by decide +kernel
theorem dL_valueAt_4 : decode cL_valueAt 4 = .ok (.invokevirtual 62, 3) := by decide +kernel
theorem dL_valueAt_7 : decode cL_valueAt 7 = .ok (.i2l, 1) := by decide +kernel
theorem dL_valueAt_8 : decode cL_valueAt 8 = .ok (.putfield 13, 3) := by decide +kernel
theorem dL_valueAt_11 : decode cL_valueAt 11 = .ok (.goto 7, 3) := by decide +kernel
theorem dL_valueAt_14 : decode cL_valueAt 14 = .ok (.astore 4, 2) := by decide +kernel
theorem dL_valueAt_16 : decode cL_valueAt 16 = .ok (.iconst 1, 1) := by decide +kernel
theorem dL_valueAt_17 : decode cL_valueAt 17 = .ok (.ireturn, 1) := by decide +kernel
theorem dL_valueAt_18 : decode cL_valueAt 18 = .ok (.iconst 0, 1) := by decide +kernel
theorem dL_valueAt_19 : decode cL_valueAt 19 = .ok (.ireturn, 1) := by decide +kernel
theorem dL_pairAt_0 : decode cL_pairAt 0 = .ok (.aload_n 3, 1) := by decide +kernel
theorem dL_pairAt_1 : decode cL_pairAt 1 = .ok (.aload_n 0, 1) := by decide +kernel
theorem dL_pairAt_2 : decode cL_pairAt 2 = .ok (.iload_n 1, 1) := by decide +kernel
theorem dL_pairAt_3 : decode cL_pairAt 3 = .ok (.iload_n 2, 1) := by decide +kernel
theorem dL_pairAt_4 : decode cL_pairAt 4 = .ok (.invokevirtual 65, 3) := by decide +kernel
theorem dL_pairAt_7 : decode cL_pairAt 7 = .ok (.i2l, 1) := by decide +kernel
theorem dL_pairAt_8 : decode cL_pairAt 8 = .ok (.putfield 13, 3) := by decide +kernel
theorem dL_pairAt_11 : decode cL_pairAt 11 = .ok (.goto 7, 3) := by decide +kernel
theorem dL_pairAt_14 : decode cL_pairAt 14 = .ok (.astore 4, 2) := by decide +kernel
theorem dL_pairAt_16 : decode cL_pairAt 16 = .ok (.iconst 1, 1) := by decide +kernel
theorem dL_pairAt_17 : decode cL_pairAt 17 = .ok (.ireturn, 1) := by decide +kernel
theorem dL_pairAt_18 : decode cL_pairAt 18 = .ok (.iconst 0, 1) := by decide +kernel
theorem dL_pairAt_19 : decode cL_pairAt 19 = .ok (.ireturn, 1) := by decide +kernel
theorem dL_placeOf_0 : decode cL_placeOf 0 = .ok (.aload_n 3, 1) := by decide +kernel
theorem dL_placeOf_1 : decode cL_placeOf 1 = .ok (.aload_n 0, 1) := by decide +kernel
theorem dL_placeOf_2 : decode cL_placeOf 2 = .ok (.iload_n 1, 1) := by decide +kernel
theorem dL_placeOf_3 : decode cL_placeOf 3 = .ok (.iload_n 2, 1) := by decide +kernel
theorem dL_placeOf_4 : decode cL_placeOf 4 = .ok (.invokevirtual 68, 3) := by decide +kernel
theorem dL_placeOf_7 : decode cL_placeOf 7 = .ok (.i2l, 1) := by decide +kernel
theorem dL_placeOf_8 : decode cL_placeOf 8 = .ok (.putfield 13, 3) := by decide +kernel
theorem dL_placeOf_11 : decode cL_placeOf 11 = .ok (.goto 11, 3) := by decide +kernel
theorem dL_placeOf_14 : decode cL_placeOf 14 = .ok (.astore 4, 2) := by decide +kernel
theorem dL_placeOf_16 : decode cL_placeOf 16 = .ok (.iconst 1, 1) := by decide +kernel
theorem dL_placeOf_17 : decode cL_placeOf 17 = .ok (.ireturn, 1) := by decide +kernel
theorem dL_placeOf_18 : decode cL_placeOf 18 = .ok (.astore 4, 2) := by decide +kernel
theorem dL_placeOf_20 : decode cL_placeOf 20 = .ok (.iconst 2, 1) := by decide +kernel
theorem dL_placeOf_21 : decode cL_placeOf 21 = .ok (.ireturn, 1) := by decide +kernel
theorem dL_placeOf_22 : decode cL_placeOf 22 = .ok (.iconst 0, 1) := by decide +kernel
theorem dL_placeOf_23 : decode cL_placeOf 23 = .ok (.ireturn, 1) := by decide +kernel
theorem dL_eldest_0 : decode cL_eldest 0 = .ok (.aload_n 2, 1) := by decide +kernel
theorem dL_eldest_1 : decode cL_eldest 1 = .ok (.aload_n 0, 1) := by decide +kernel
theorem dL_eldest_2 : decode cL_eldest 2 = .ok (.iload_n 1, 1) := by decide +kernel
theorem dL_eldest_3 : decode cL_eldest 3 = .ok (.invokevirtual 71, 3) := by decide +kernel
theorem dL_eldest_6 : decode cL_eldest 6 = .ok (.i2l, 1) := by decide +kernel
theorem dL_eldest_7 : decode cL_eldest 7 = .ok (.putfield 13, 3) := by decide +kernel
theorem dL_eldest_10 : decode cL_eldest 10 = .ok (.goto 6, 3) := by decide +kernel
theorem dL_eldest_13 : decode cL_eldest 13 = .ok (.astore_n 3, 1) := by decide +kernel
theorem dL_eldest_14 : decode cL_eldest 14 = .ok (.iconst 1, 1) := by decide +kernel
theorem dL_eldest_15 : decode cL_eldest 15 = .ok (.ireturn, 1) := by decide +kernel
theorem dL_eldest_16 : decode cL_eldest 16 = .ok (.iconst 0, 1) := by decide +kernel
theorem dL_eldest_17 : decode cL_eldest 17 = .ok (.ireturn, 1) := by decide +kernel
theorem dL_latest_0 : decode cL_latest 0 = .ok (.aload_n 2, 1) := by decide +kernel
theorem dL_latest_1 : decode cL_latest 1 = .ok (.aload_n 0, 1) := by decide +kernel
theorem dL_latest_2 : decode cL_latest 2 = .ok (.iload_n 1, 1) := by decide +kernel
theorem dL_latest_3 : decode cL_latest 3 = .ok (.invokevirtual 74, 3) := by decide +kernel
theorem dL_latest_6 : decode cL_latest 6 = .ok (.i2l, 1) := by decide +kernel
theorem dL_latest_7 : decode cL_latest 7 = .ok (.putfield 13, 3) := by decide +kernel
theorem dL_latest_10 : decode cL_latest 10 = .ok (.goto 6, 3) := by decide +kernel
theorem dL_latest_13 : decode cL_latest 13 = .ok (.astore_n 3, 1) := by decide +kernel
theorem dL_latest_14 : decode cL_latest 14 = .ok (.iconst 1, 1) := by decide +kernel
theorem dL_latest_15 : decode cL_latest 15 = .ok (.ireturn, 1) := by decide +kernel
theorem dL_latest_16 : decode cL_latest 16 = .ok (.iconst 0, 1) := by decide +kernel
theorem dL_latest_17 : decode cL_latest 17 = .ok (.ireturn, 1) := by decide +kernel
theorem dL_text_0 : decode cL_text 0 = .ok (.aload_n 3, 1) := by decide +kernel
theorem dL_text_1 : decode cL_text 1 = .ok (.aload_n 0, 1) := by decide +kernel
theorem dL_text_2 : decode cL_text 2 = .ok (.iload_n 1, 1) := by decide +kernel
theorem dL_text_3 : decode cL_text 3 = .ok (.iload_n 2, 1) := by decide +kernel
theorem dL_text_4 : decode cL_text 4 = .ok (.invokevirtual 77, 3) := by decide +kernel
theorem dL_text_7 : decode cL_text 7 = .ok (.putfield 81, 3) := by decide +kernel
theorem dL_text_10 : decode cL_text 10 = .ok (.goto 11, 3) := by decide +kernel
theorem dL_text_13 : decode cL_text 13 = .ok (.astore 4, 2) := by decide +kernel
theorem dL_text_15 : decode cL_text 15 = .ok (.iconst 1, 1) := by decide +kernel
theorem dL_text_16 : decode cL_text 16 = .ok (.ireturn, 1) := by decide +kernel
theorem dL_text_17 : decode cL_text 17 = .ok (.astore 4, 2) := by decide +kernel
theorem dL_text_19 : decode cL_text 19 = .ok (.iconst 2, 1) := by decide +kernel
theorem dL_text_20 : decode cL_text 20 = .ok (.ireturn, 1) := by decide +kernel
theorem dL_text_21 : decode cL_text 21 = .ok (.iconst 0, 1) := by decide +kernel
theorem dL_text_22 : decode cL_text 22 = .ok (.ireturn, 1) := by decide +kernel
theorem dL_ofTable_0 : decode cL_ofTable 0 = .ok (.aload_n 3, 1) := by decide +kernel
theorem dL_ofTable_1 : decode cL_ofTable 1 = .ok (.aload_n 0, 1) := by decide +kernel
theorem dL_ofTable_2 : decode cL_ofTable 2 = .ok (.iload_n 1, 1) := by decide +kernel
theorem dL_ofTable_3 : decode cL_ofTable 3 = .ok (.iload_n 2, 1) := by decide +kernel
theorem dL_ofTable_4 : decode cL_ofTable 4 = .ok (.invokevirtual 85, 3) := by decide +kernel
theorem dL_ofTable_7 : decode cL_ofTable 7 = .ok (.i2l, 1) := by decide +kernel
theorem dL_ofTable_8 : decode cL_ofTable 8 = .ok (.putfield 13, 3) := by decide +kernel
theorem dL_ofTable_11 : decode cL_ofTable 11 = .ok (.goto 11, 3) := by decide +kernel
theorem dL_ofTable_14 : decode cL_ofTable 14 = .ok (.astore 4, 2) := by decide +kernel
theorem dL_ofTable_16 : decode cL_ofTable 16 = .ok (.iconst 1, 1) := by decide +kernel
theorem dL_ofTable_17 : decode cL_ofTable 17 = .ok (.ireturn, 1) := by decide +kernel
theorem dL_ofTable_18 : decode cL_ofTable 18 = .ok (.astore 4, 2) := by decide +kernel
theorem dL_ofTable_20 : decode cL_ofTable 20 = .ok (.iconst 2, 1) := by decide +kernel
theorem dL_ofTable_21 : decode cL_ofTable 21 = .ok (.ireturn, 1) := by decide +kernel
theorem dL_ofTable_22 : decode cL_ofTable 22 = .ok (.iconst 0, 1) := by decide +kernel
theorem dL_ofTable_23 : decode cL_ofTable 23 = .ok (.ireturn, 1) := by decide +kernel
theorem dL_walk_0 : decode cL_walk 0 = .ok (.aload_n 3, 1) := by decide +kernel
theorem dL_walk_1 : decode cL_walk 1 = .ok (.aload_n 0, 1) := by decide +kernel
theorem dL_walk_2 : decode cL_walk 2 = .ok (.iload_n 1, 1) := by decide +kernel
theorem dL_walk_3 : decode cL_walk 3 = .ok (.iload_n 2, 1) := by decide +kernel
theorem dL_walk_4 : decode cL_walk 4 = .ok (.invokevirtual 88, 3) := by decide +kernel
theorem dL_walk_7 : decode cL_walk 7 = .ok (.i2l, 1) := by decide +kernel
theorem dL_walk_8 : decode cL_walk 8 = .ok (.putfield 13, 3) := by decide +kernel
theorem dL_walk_11 : decode cL_walk 11 = .ok (.goto 11, 3) := by decide +kernel
theorem dL_walk_14 : decode cL_walk 14 = .ok (.astore 4, 2) := by decide +kernel
theorem dL_walk_16 : decode cL_walk 16 = .ok (.iconst 1, 1) := by decide +kernel
theorem dL_walk_17 : decode cL_walk 17 = .ok (.ireturn, 1) := by decide +kernel
theorem dL_walk_18 : decode cL_walk 18 = .ok (.astore 4, 2) := by decide +kernel
theorem dL_walk_20 : decode cL_walk 20 = .ok (.iconst 2, 1) := by decide +kernel
theorem dL_walk_21 : decode cL_walk 21 = .ok (.ireturn, 1) := by decide +kernel
theorem dL_walk_22 : decode cL_walk 22 = .ok (.iconst 0, 1) := by decide +kernel
theorem dL_walk_23 : decode cL_walk 23 = .ok (.ireturn, 1) := by decide +kernel
theorem dL_step_0 : decode cL_step 0 = .ok (.aload_n 2, 1) := by decide +kernel
theorem dL_step_1 : decode cL_step 1 = .ok (.aload_n 0, 1) := by decide +kernel
theorem dL_step_2 : decode cL_step 2 = .ok (.iload_n 1, 1) := by decide +kernel
theorem dL_step_3 : decode cL_step 3 = .ok (.invokevirtual 91, 3) := by decide +kernel
theorem dL_step_6 : decode cL_step 6 = .ok (.i2l, 1) := by decide +kernel
theorem dL_step_7 : decode cL_step 7 = .ok (.putfield 13, 3) := by decide +kernel
theorem dL_step_10 : decode cL_step 10 = .ok (.goto 6, 3) := by decide +kernel
theorem dL_step_13 : decode cL_step 13 = .ok (.astore_n 3, 1) := by decide +kernel
theorem dL_step_14 : decode cL_step 14 = .ok (.iconst 1, 1) := by decide +kernel
theorem dL_step_15 : decode cL_step 15 = .ok (.ireturn, 1) := by decide +kernel
theorem dL_step_16 : decode cL_step 16 = .ok (.iconst 0, 1) := by decide +kernel
theorem dL_step_17 : decode cL_step 17 = .ok (.ireturn, 1) := by decide +kernel
theorem dL_cut_0 : decode cL_cut 0 = .ok (.aload_n 2, 1) := by decide +kernel
theorem dL_cut_1 : decode cL_cut 1 = .ok (.aload_n 0, 1) := by decide +kernel
theorem dL_cut_2 : decode cL_cut 2 = .ok (.iload_n 1, 1) := by decide +kernel
theorem dL_cut_3 : decode cL_cut 3 = .ok (.invokevirtual 94, 3) := by decide +kernel
theorem dL_cut_6 : decode cL_cut 6 = .ok (.i2l, 1) := by decide +kernel
theorem dL_cut_7 : decode cL_cut 7 = .ok (.putfield 13, 3) := by decide +kernel
theorem dL_cut_10 : decode cL_cut 10 = .ok (.goto 6, 3) := by decide +kernel
theorem dL_cut_13 : decode cL_cut 13 = .ok (.astore_n 3, 1) := by decide +kernel
theorem dL_cut_14 : decode cL_cut 14 = .ok (.iconst 1, 1) := by decide +kernel
theorem dL_cut_15 : decode cL_cut 15 = .ok (.ireturn, 1) := by decide +kernel
theorem dL_cut_16 : decode cL_cut 16 = .ok (.iconst 0, 1) := by decide +kernel
theorem dL_cut_17 : decode cL_cut 17 = .ok (.ireturn, 1) := by decide +kernel
theorem dL_hasMore_0 : decode cL_hasMore 0 = .ok (.aload_n 2, 1) := by decide +kernel
theorem dL_hasMore_1 : decode cL_hasMore 1 = .ok (.aload_n 0, 1) := by decide +kernel
theorem dL_hasMore_2 : decode cL_hasMore 2 = .ok (.iload_n 1, 1) := by decide +kernel
theorem dL_hasMore_3 : decode cL_hasMore 3 = .ok (.invokevirtual 97, 3) := by decide +kernel
theorem dL_hasMore_6 : decode cL_hasMore 6 = .ok (.ifCond .eq 7, 3) := by decide +kernel
theorem dL_hasMore_9 : decode cL_hasMore 9 = .ok (.lconst 1, 1) := by decide +kernel
theorem dL_hasMore_10 : decode cL_hasMore 10 = .ok (.goto 4, 3) := by decide +kernel
theorem dL_hasMore_13 : decode cL_hasMore 13 = .ok (.lconst 0, 1) := by decide +kernel
theorem dL_hasMore_14 : decode cL_hasMore 14 = .ok (.putfield 13, 3) := by decide +kernel
theorem dL_hasMore_17 : decode cL_hasMore 17 = .ok (.goto 6, 3) := by decide +kernel
theorem dL_hasMore_20 : decode cL_hasMore 20 = .ok (.astore_n 3, 1) := by decide +kernel
theorem dL_hasMore_21 : decode cL_hasMore 21 = .ok (.iconst 1, 1) := by decide +kernel
theorem dL_hasMore_22 : decode cL_hasMore 22 = .ok (.ireturn, 1) := by decide +kernel
theorem dL_hasMore_23 : decode cL_hasMore 23 = .ok (.iconst 0, 1) := by decide +kernel
theorem dL_hasMore_24 : decode cL_hasMore 24 = .ok (.ireturn, 1) := by decide +kernel
theorem dL_isStale_0 : decode cL_isStale 0 = .ok (.aload_n 2, 1) := by decide +kernel
theorem dL_isStale_1 : decode cL_isStale 1 = .ok (.aload_n 0, 1) := by decide +kernel
theorem dL_isStale_2 : decode cL_isStale 2 = .ok (.iload_n 1, 1) := by decide +kernel
theorem dL_isStale_3 : decode cL_isStale 3 = .ok (.invokevirtual 101, 3) := by decide +kernel
theorem dL_isStale_6 : decode cL_isStale 6 = .ok (.ifCond .eq 7, 3) := by decide +kernel
theorem dL_isStale_9 : decode cL_isStale 9 = .ok (.lconst 1, 1) := by decide +kernel
theorem dL_isStale_10 : decode cL_isStale 10 = .ok (.goto 4, 3) := by decide +kernel
theorem dL_isStale_13 : decode cL_isStale 13 = .ok (.lconst 0, 1) := by decide +kernel
theorem dL_isStale_14 : decode cL_isStale 14 = .ok (.putfield 13, 3) := by decide +kernel
theorem dL_isStale_17 : decode cL_isStale 17 = .ok (.goto 6, 3) := by decide +kernel
theorem dL_isStale_20 : decode cL_isStale 20 = .ok (.astore_n 3, 1) := by decide +kernel
theorem dL_isStale_21 : decode cL_isStale 21 = .ok (.iconst 1, 1) := by decide +kernel
theorem dL_isStale_22 : decode cL_isStale 22 = .ok (.ireturn, 1) := by decide +kernel
theorem dL_isStale_23 : decode cL_isStale 23 = .ok (.iconst 0, 1) := by decide +kernel
theorem dL_isStale_24 : decode cL_isStale 24 = .ok (.ireturn, 1) := by decide +kernel
theorem dL_rest_0 : decode cL_rest 0 = .ok (.aload_n 2, 1) := by decide +kernel
theorem dL_rest_1 : decode cL_rest 1 = .ok (.aload_n 0, 1) := by decide +kernel
theorem dL_rest_2 : decode cL_rest 2 = .ok (.iload_n 1, 1) := by decide +kernel
theorem dL_rest_3 : decode cL_rest 3 = .ok (.invokevirtual 104, 3) := by decide +kernel
theorem dL_rest_6 : decode cL_rest 6 = .ok (.i2l, 1) := by decide +kernel
theorem dL_rest_7 : decode cL_rest 7 = .ok (.putfield 13, 3) := by decide +kernel
theorem dL_rest_10 : decode cL_rest 10 = .ok (.goto 6, 3) := by decide +kernel
theorem dL_rest_13 : decode cL_rest 13 = .ok (.astore_n 3, 1) := by decide +kernel
theorem dL_rest_14 : decode cL_rest 14 = .ok (.iconst 1, 1) := by decide +kernel
theorem dL_rest_15 : decode cL_rest 15 = .ok (.ireturn, 1) := by decide +kernel
theorem dL_rest_16 : decode cL_rest 16 = .ok (.iconst 0, 1) := by decide +kernel
theorem dL_rest_17 : decode cL_rest 17 = .ok (.ireturn, 1) := by decide +kernel
theorem dL_ask_0 : decode cL_ask 0 = .ok (.aload_n 2, 1) := by decide +kernel
theorem dL_ask_1 : decode cL_ask 1 = .ok (.aload_n 0, 1) := by decide +kernel
theorem dL_ask_2 : decode cL_ask 2 = .ok (.iload_n 1, 1) := by decide +kernel
theorem dL_ask_3 : decode cL_ask 3 = .ok (.invokevirtual 107, 3) := by decide +kernel
theorem dL_ask_6 : decode cL_ask 6 = .ok (.i2l, 1) := by decide +kernel
theorem dL_ask_7 : decode cL_ask 7 = .ok (.putfield 13, 3) := by decide +kernel
theorem dL_ask_10 : decode cL_ask 10 = .ok (.goto 9, 3) := by decide +kernel
theorem dL_ask_13 : decode cL_ask 13 = .ok (.astore_n 3, 1) := by decide +kernel
theorem dL_ask_14 : decode cL_ask 14 = .ok (.iconst 1, 1) := by decide +kernel
theorem dL_ask_15 : decode cL_ask 15 = .ok (.ireturn, 1) := by decide +kernel
theorem dL_ask_16 : decode cL_ask 16 = .ok (.astore_n 3, 1) := by decide +kernel
theorem dL_ask_17 : decode cL_ask 17 = .ok (.iconst 2, 1) := by decide +kernel
theorem dL_ask_18 : decode cL_ask 18 = .ok (.ireturn, 1) := by decide +kernel
theorem dL_ask_19 : decode cL_ask 19 = .ok (.iconst 0, 1) := by decide +kernel
theorem dL_ask_20 : decode cL_ask 20 = .ok (.ireturn, 1) := by decide +kernel
theorem dL_askRow_0 : decode cL_askRow 0 = .ok (.aload 4, 2) := by decide +kernel
theorem dL_askRow_2 : decode cL_askRow 2 = .ok (.aload_n 0, 1) := by decide +kernel
theorem dL_askRow_3 : decode cL_askRow 3 = .ok (.iload_n 1, 1) := by decide +kernel
theorem dL_askRow_4 : decode cL_askRow 4 = .ok (.iload_n 2, 1) := by decide +kernel
theorem dL_askRow_5 : decode cL_askRow 5 = .ok (.iload_n 3, 1) := by decide +kernel
theorem dL_askRow_6 : decode cL_askRow 6 = .ok (.invokevirtual 110, 3) := by decide +kernel
theorem dL_askRow_9 : decode cL_askRow 9 = .ok (.i2l, 1) := by decide +kernel
theorem dL_askRow_10 : decode cL_askRow 10 = .ok (.putfield 13, 3) := by decide +kernel
theorem dL_askRow_13 : decode cL_askRow 13 = .ok (.goto 11, 3) := by decide +kernel
theorem dL_askRow_16 : decode cL_askRow 16 = .ok (.astore 5, 2) := by decide +kernel
theorem dL_askRow_18 : decode cL_askRow 18 = .ok (.iconst 1, 1) := by decide +kernel
theorem dL_askRow_19 : decode cL_askRow 19 = .ok (.ireturn, 1) := by decide +kernel
theorem dL_askRow_20 : decode cL_askRow 20 = .ok (.astore 5, 2) := by decide +kernel
theorem dL_askRow_22 : decode cL_askRow 22 = .ok (.iconst 2, 1) := by decide +kernel
theorem dL_askRow_23 : decode cL_askRow 23 = .ok (.ireturn, 1) := by decide +kernel
theorem dL_askRow_24 : decode cL_askRow 24 = .ok (.iconst 0, 1) := by decide +kernel
theorem dL_askRow_25 : decode cL_askRow 25 = .ok (.ireturn, 1) := by decide +kernel
theorem dL_depth_0 : decode cL_depth 0 = .ok (.aload_n 2, 1) := by decide +kernel
theorem dL_depth_1 : decode cL_depth 1 = .ok (.aload_n 0, 1) := by decide +kernel
theorem dL_depth_2 : decode cL_depth 2 = .ok (.iload_n 1, 1) := by decide +kernel
theorem dL_depth_3 : decode cL_depth 3 = .ok (.invokevirtual 113, 3) := by decide +kernel
theorem dL_depth_6 : decode cL_depth 6 = .ok (.i2l, 1) := by decide +kernel
theorem dL_depth_7 : decode cL_depth 7 = .ok (.putfield 13, 3) := by decide +kernel
theorem dL_depth_10 : decode cL_depth 10 = .ok (.goto 6, 3) := by decide +kernel
theorem dL_depth_13 : decode cL_depth 13 = .ok (.astore_n 3, 1) := by decide +kernel
theorem dL_depth_14 : decode cL_depth 14 = .ok (.iconst 1, 1) := by decide +kernel
theorem dL_depth_15 : decode cL_depth 15 = .ok (.ireturn, 1) := by decide +kernel
theorem dL_depth_16 : decode cL_depth 16 = .ok (.iconst 0, 1) := by decide +kernel
theorem dL_depth_17 : decode cL_depth 17 = .ok (.ireturn, 1) := by decide +kernel
theorem dL_kept_0 : decode cL_kept 0 = .ok (.aload_n 2, 1) := by decide +kernel
theorem dL_kept_1 : decode cL_kept 1 = .ok (.aload_n 0, 1) := by decide +kernel
theorem dL_kept_2 : decode cL_kept 2 = .ok (.iload_n 1, 1) := by decide +kernel
theorem dL_kept_3 : decode cL_kept 3 = .ok (.invokevirtual 116, 3) := by decide +kernel
theorem dL_kept_6 : decode cL_kept 6 = .ok (.putfield 81, 3) := by decide +kernel
theorem dL_kept_9 : decode cL_kept 9 = .ok (.goto 6, 3) := by decide +kernel
theorem dL_kept_12 : decode cL_kept 12 = .ok (.astore_n 3, 1) := by decide +kernel
theorem dL_kept_13 : decode cL_kept 13 = .ok (.iconst 1, 1) := by decide +kernel
theorem dL_kept_14 : decode cL_kept 14 = .ok (.ireturn, 1) := by decide +kernel
theorem dL_kept_15 : decode cL_kept 15 = .ok (.iconst 0, 1) := by decide +kernel
theorem dL_kept_16 : decode cL_kept 16 = .ok (.ireturn, 1) := by decide +kernel
theorem dL_keeps_0 : decode cL_keeps 0 = .ok (.aload_n 3, 1) := by decide +kernel
theorem dL_keeps_1 : decode cL_keeps 1 = .ok (.aload_n 0, 1) := by decide +kernel
theorem dL_keeps_2 : decode cL_keeps 2 = .ok (.iload_n 1, 1) := by decide +kernel
theorem dL_keeps_3 : decode cL_keeps 3 = .ok (.iload_n 2, 1) := by decide +kernel
theorem dL_keeps_4 : decode cL_keeps 4 = .ok (.invokevirtual 120, 3) := by decide +kernel
theorem dL_keeps_7 : decode cL_keeps 7 = .ok (.ifCond .eq 7, 3) := by decide +kernel
theorem dL_keeps_10 : decode cL_keeps 10 = .ok (.lconst 1, 1) := by decide +kernel
theorem dL_keeps_11 : decode cL_keeps 11 = .ok (.goto 4, 3) := by decide +kernel
theorem dL_keeps_14 : decode cL_keeps 14 = .ok (.lconst 0, 1) := by decide +kernel
theorem dL_keeps_15 : decode cL_keeps 15 = .ok (.putfield 13, 3) := by decide +kernel
theorem dL_keeps_18 : decode cL_keeps 18 = .ok (.goto 7, 3) := by decide +kernel
theorem dL_keeps_21 : decode cL_keeps 21 = .ok (.astore 4, 2) := by decide +kernel
theorem dL_keeps_23 : decode cL_keeps 23 = .ok (.iconst 1, 1) := by decide +kernel
theorem dL_keeps_24 : decode cL_keeps 24 = .ok (.ireturn, 1) := by decide +kernel
theorem dL_keeps_25 : decode cL_keeps 25 = .ok (.iconst 0, 1) := by decide +kernel
theorem dL_keeps_26 : decode cL_keeps 26 = .ok (.ireturn, 1) := by decide +kernel
theorem dL_takenAt_0 : decode cL_takenAt 0 = .ok (.aload_n 3, 1) := by decide +kernel
theorem dL_takenAt_1 : decode cL_takenAt 1 = .ok (.aload_n 0, 1) := by decide +kernel
theorem dL_takenAt_2 : decode cL_takenAt 2 = .ok (.iload_n 1, 1) := by decide +kernel
theorem dL_takenAt_3 : decode cL_takenAt 3 = .ok (.iload_n 2, 1) := by decide +kernel
theorem dL_takenAt_4 : decode cL_takenAt 4 = .ok (.invokevirtual 123, 3) := by decide +kernel
theorem dL_takenAt_7 : decode cL_takenAt 7 = .ok (.i2l, 1) := by decide +kernel
theorem dL_takenAt_8 : decode cL_takenAt 8 = .ok (.putfield 13, 3) := by decide +kernel
theorem dL_takenAt_11 : decode cL_takenAt 11 = .ok (.goto 7, 3) := by decide +kernel
theorem dL_takenAt_14 : decode cL_takenAt 14 = .ok (.astore 4, 2) := by decide +kernel
theorem dL_takenAt_16 : decode cL_takenAt 16 = .ok (.iconst 1, 1) := by decide +kernel
theorem dL_takenAt_17 : decode cL_takenAt 17 = .ok (.ireturn, 1) := by decide +kernel
theorem dL_takenAt_18 : decode cL_takenAt 18 = .ok (.iconst 0, 1) := by decide +kernel
theorem dL_takenAt_19 : decode cL_takenAt 19 = .ok (.ireturn, 1) := by decide +kernel
theorem dL_misses_0 : decode cL_misses 0 = .ok (.aload_n 2, 1) := by decide +kernel
theorem dL_misses_1 : decode cL_misses 1 = .ok (.aload_n 0, 1) := by decide +kernel
theorem dL_misses_2 : decode cL_misses 2 = .ok (.iload_n 1, 1) := by decide +kernel
theorem dL_misses_3 : decode cL_misses 3 = .ok (.invokevirtual 126, 3) := by decide +kernel
theorem dL_misses_6 : decode cL_misses 6 = .ok (.i2l, 1) := by decide +kernel
theorem dL_misses_7 : decode cL_misses 7 = .ok (.putfield 13, 3) := by decide +kernel
theorem dL_misses_10 : decode cL_misses 10 = .ok (.goto 6, 3) := by decide +kernel
theorem dL_misses_13 : decode cL_misses 13 = .ok (.astore_n 3, 1) := by decide +kernel
theorem dL_misses_14 : decode cL_misses 14 = .ok (.iconst 1, 1) := by decide +kernel
theorem dL_misses_15 : decode cL_misses 15 = .ok (.ireturn, 1) := by decide +kernel
theorem dL_misses_16 : decode cL_misses 16 = .ok (.iconst 0, 1) := by decide +kernel
theorem dL_misses_17 : decode cL_misses 17 = .ok (.ireturn, 1) := by decide +kernel
theorem dL_hits_0 : decode cL_hits 0 = .ok (.aload_n 2, 1) := by decide +kernel
theorem dL_hits_1 : decode cL_hits 1 = .ok (.aload_n 0, 1) := by decide +kernel
theorem dL_hits_2 : decode cL_hits 2 = .ok (.iload_n 1, 1) := by decide +kernel
theorem dL_hits_3 : decode cL_hits 3 = .ok (.invokevirtual 129, 3) := by decide +kernel
theorem dL_hits_6 : decode cL_hits 6 = .ok (.i2l, 1) := by decide +kernel
theorem dL_hits_7 : decode cL_hits 7 = .ok (.putfield 13, 3) := by decide +kernel
theorem dL_hits_10 : decode cL_hits 10 = .ok (.goto 6, 3) := by decide +kernel
theorem dL_hits_13 : decode cL_hits 13 = .ok (.astore_n 3, 1) := by decide +kernel
theorem dL_hits_14 : decode cL_hits 14 = .ok (.iconst 1, 1) := by decide +kernel
theorem dL_hits_15 : decode cL_hits 15 = .ok (.ireturn, 1) := by decide +kernel
theorem dL_hits_16 : decode cL_hits 16 = .ok (.iconst 0, 1) := by decide +kernel
theorem dL_hits_17 : decode cL_hits 17 = .ok (.ireturn, 1) := by decide +kernel
theorem dL_lost_0 : decode cL_lost 0 = .ok (.aload_n 2, 1) := by decide +kernel
theorem dL_lost_1 : decode cL_lost 1 = .ok (.aload_n 0, 1) := by decide +kernel
theorem dL_lost_2 : decode cL_lost 2 = .ok (.iload_n 1, 1) := by decide +kernel
theorem dL_lost_3 : decode cL_lost 3 = .ok (.invokevirtual 132, 3) := by decide +kernel
theorem dL_lost_6 : decode cL_lost 6 = .ok (.i2l, 1) := by decide +kernel
theorem dL_lost_7 : decode cL_lost 7 = .ok (.putfield 13, 3) := by decide +kernel
theorem dL_lost_10 : decode cL_lost 10 = .ok (.goto 6, 3) := by decide +kernel
theorem dL_lost_13 : decode cL_lost 13 = .ok (.astore_n 3, 1) := by decide +kernel
theorem dL_lost_14 : decode cL_lost 14 = .ok (.iconst 1, 1) := by decide +kernel
theorem dL_lost_15 : decode cL_lost 15 = .ok (.ireturn, 1) := by decide +kernel
theorem dL_lost_16 : decode cL_lost 16 = .ok (.iconst 0, 1) := by decide +kernel
theorem dL_lost_17 : decode cL_lost 17 = .ok (.ireturn, 1) := by decide +kernel
theorem dL_best_0 : decode cL_best 0 = .ok (.aload_n 2, 1) := by decide +kernel
theorem dL_best_1 : decode cL_best 1 = .ok (.aload_n 0, 1) := by decide +kernel
theorem dL_best_2 : decode cL_best 2 = .ok (.iload_n 1, 1) := by decide +kernel
theorem dL_best_3 : decode cL_best 3 = .ok (.invokevirtual 135, 3) := by decide +kernel
theorem dL_best_6 : decode cL_best 6 = .ok (.i2l, 1) := by decide +kernel
theorem dL_best_7 : decode cL_best 7 = .ok (.putfield 13, 3) := by decide +kernel
theorem dL_best_10 : decode cL_best 10 = .ok (.goto 6, 3) := by decide +kernel
theorem dL_best_13 : decode cL_best 13 = .ok (.astore_n 3, 1) := by decide +kernel
theorem dL_best_14 : decode cL_best 14 = .ok (.iconst 1, 1) := by decide +kernel
theorem dL_best_15 : decode cL_best 15 = .ok (.ireturn, 1) := by decide +kernel
theorem dL_best_16 : decode cL_best 16 = .ok (.iconst 0, 1) := by decide +kernel
theorem dL_best_17 : decode cL_best 17 = .ok (.ireturn, 1) := by decide +kernel
theorem dL_house_0 : decode cL_house 0 = .ok (.aload_n 2, 1) := by decide +kernel
theorem dL_house_1 : decode cL_house 1 = .ok (.aload_n 0, 1) := by decide +kernel
theorem dL_house_2 : decode cL_house 2 = .ok (.iload_n 1, 1) := by decide +kernel
theorem dL_house_3 : decode cL_house 3 = .ok (.invokevirtual 138, 3) := by decide +kernel
theorem dL_house_6 : decode cL_house 6 = .ok (.i2l, 1) := by decide +kernel
theorem dL_house_7 : decode cL_house 7 = .ok (.putfield 13, 3) := by decide +kernel
theorem dL_house_10 : decode cL_house 10 = .ok (.goto 6, 3) := by decide +kernel
theorem dL_house_13 : decode cL_house 13 = .ok (.astore_n 3, 1) := by decide +kernel
theorem dL_house_14 : decode cL_house 14 = .ok (.iconst 1, 1) := by decide +kernel
theorem dL_house_15 : decode cL_house 15 = .ok (.ireturn, 1) := by decide +kernel
theorem dL_house_16 : decode cL_house 16 = .ok (.iconst 0, 1) := by decide +kernel
theorem dL_house_17 : decode cL_house 17 = .ok (.ireturn, 1) := by decide +kernel
/-! ===== the bytes of the law, and what they decode to ===== -/
def lx_bt (b : ByteArray) (p v : Nat) : Prop := ∃ h : p < b.size, (b[p]'h).toNat = v
theorem lx_u1 {b : ByteArray} {p v : Nat} (h : lx_bt b p v) : (Jvm.ClassFile.Reader.u1 : Jvm.ClassFile.Decoder Nat) b p = .ok (v, p + 1) := by
  obtain ⟨h, e⟩ := h
  show ((if h : p < b.size then (do set (p + 1); pure (b[p]'h).toNat : Jvm.ClassFile.Decoder Nat) else throw (Jvm.ClassFile.HasTruncated.truncated p)) : Jvm.ClassFile.Decoder Nat) b p = _
  rw [dif_pos h]
  show Except.ok ((b[p]'h).toNat, p + 1) = _
  rw [e]
theorem lx_b {α β : Type} {b : ByteArray} {p q : Nat} {m : Jvm.ClassFile.Decoder β} {a : β} (h : m b p = .ok (a, q)) (k : β → Jvm.ClassFile.Decoder α) : Jvm.ClassFile.Reader.runAt (m >>= k) b p = Jvm.ClassFile.Reader.runAt (k a) b q := by
  have key : Jvm.ClassFile.Reader.runAt (m >>= k) b p = (m b p).bind (fun x => k x.1 b x.2) := rfl
  rw [key, h]
  rfl
theorem lx_u2 {b : ByteArray} {p x y : Nat} (h : lx_bt b p x) (h1 : lx_bt b (p + 1) y) : (Jvm.ClassFile.Reader.u2 : Jvm.ClassFile.Decoder Nat) b p = .ok (x * 256 + y, p + 2) :=
  (lx_b (lx_u1 h) _).trans ((lx_b (lx_u1 h1) _).trans rfl)
theorem lx_s1 {b : ByteArray} {p x : Nat} {o : Int} (h : lx_bt b p x) (e : Jvm.ClassFile.Reader.signed 8 x = o) : (Jvm.ClassFile.Reader.s1 : Jvm.ClassFile.Decoder Int) b p = .ok (o, p + 1) := by
  subst e
  have key : (Jvm.ClassFile.Reader.s1 : Jvm.ClassFile.Decoder Int) b p = ((Jvm.ClassFile.Reader.u1 : Jvm.ClassFile.Decoder Nat) b p).bind (fun z => .ok (Jvm.ClassFile.Reader.signed 8 z.1, z.2)) := rfl
  rw [key, lx_u1 h]
  rfl
theorem lx_s2 {b : ByteArray} {p x y : Nat} {o : Int} (h : lx_bt b p x) (h1 : lx_bt b (p + 1) y) (e : Jvm.ClassFile.Reader.signed 16 (x * 256 + y) = o) : (Jvm.ClassFile.Reader.s2 : Jvm.ClassFile.Decoder Int) b p = .ok (o, p + 2) := by
  subst e
  have key : (Jvm.ClassFile.Reader.s2 : Jvm.ClassFile.Decoder Int) b p = ((Jvm.ClassFile.Reader.u2 : Jvm.ClassFile.Decoder Nat) b p).bind (fun z => .ok (Jvm.ClassFile.Reader.signed 16 z.1, z.2)) := rfl
  rw [key, lx_u2 h h1]
  rfl
theorem lx_in {b : ByteArray} {p v n : Nat} {i : Jvm.ClassFile.Instr} {K : Nat → Jvm.ClassFile.Decoder Jvm.ClassFile.Instr} (h : lx_bt b p v) (hK : Jvm.ClassFile.Decoder.instr p = Jvm.ClassFile.Reader.u1 >>= K) (hr : Jvm.ClassFile.Reader.runAt (K v) b (p + 1) = .ok (i, p + n)) : decode b p = .ok (i, n) := by
  have key : decode b p = (Jvm.ClassFile.Reader.runAt (Jvm.ClassFile.Decoder.instr p) b p).bind (fun x => .ok (x.1, x.2 - p)) := rfl
  rw [key, hK, lx_b (lx_u1 h) K, hr]
  show Except.ok (i, p + n - p) = _
  rw [Nat.add_sub_cancel_left]
theorem lx_at {b : ByteArray} {L : List Nat} (e : b.data.toList.map UInt8.toNat = L) {p v : Nat} (h : L[p]? = some v) : lx_bt b p v := by
  subst e
  rw [List.getElem?_map] at h
  obtain ⟨w, hw, rfl⟩ := Option.map_eq_some_iff.mp h
  obtain ⟨h3, h4⟩ := List.getElem?_eq_some_iff.mp hw
  exact ⟨h3, congrArg UInt8.toNat h4⟩
theorem lx_app {l r : List Nat} {i v : Nat} (h : l[i]? = some v) : (l ++ r)[i]? = some v := by
  obtain ⟨h3, h4⟩ := List.getElem?_eq_some_iff.mp h
  rw [List.getElem?_append_left h3]
  exact h
theorem lx_sk {l r : List Nat} {i n v : Nat} (e : l.length = n) (h : r[i]? = some v) : (l ++ r)[n + i]? = some v := by
  subst e
  rw [List.getElem?_append_right (Nat.le_add_right _ _), Nat.add_sub_cancel_left]
  exact h
theorem lx_eq {b : ByteArray} {p q v : Nat} (e : p = q) (h : lx_bt b p v) : lx_bt b q v := e ▸ h
def lx_c0 : List Nat := [187, 0, 8, 89, 183, 0, 141, 76, 187, 0, 142, 89, 183, 0, 144, 77, 187, 0, 14, 89, 183, 0, 145, 78, 3, 54, 4, 21, 4, 42, 190, 7, 100, 163, 6, 186, 42, 21, 4, 46, 16, 63, 126, 170, 0, 0, 6, 170, 0, 0, 0, 0, 0, 0, 0, 44, 0, 0, 0, 193, 0, 0, 1, 5]
def lx_c1 : List Nat := [0, 0, 1, 57, 0, 0, 1, 109, 0, 0, 1, 149, 0, 0, 1, 201, 0, 0, 1, 241, 0, 0, 2, 13, 0, 0, 2, 65, 0, 0, 2, 105, 0, 0, 2, 181, 0, 0, 2, 209, 0, 0, 2, 249, 0, 0, 3, 33, 0, 0, 3, 73, 0, 0, 3, 113, 0, 0, 3, 141, 0, 0, 3, 169]
def lx_c2 : List Nat := [0, 0, 3, 209, 0, 0, 3, 249, 0, 0, 4, 33, 0, 0, 4, 61, 0, 0, 4, 89, 0, 0, 4, 117, 0, 0, 4, 145, 0, 0, 4, 173, 0, 0, 4, 201, 0, 0, 4, 253, 0, 0, 5, 10, 0, 0, 5, 23, 0, 0, 5, 48, 0, 0, 5, 73, 0, 0, 5, 101, 0, 0, 5, 114]
def lx_c3 : List Nat := [0, 0, 5, 142, 0, 0, 5, 182, 0, 0, 5, 222, 0, 0, 5, 250, 0, 0, 6, 22, 0, 0, 6, 50, 0, 0, 6, 75, 0, 0, 6, 103, 0, 0, 6, 131, 0, 0, 6, 144, 0, 0, 6, 157, 43, 42, 21, 4, 4, 96, 46, 42, 21, 4, 5, 96, 46, 153, 0, 7, 4, 167, 0, 4]
def lx_c4 : List Nat := [3, 42, 21, 4, 6, 96, 46, 45, 184, 0, 146, 54, 5, 44, 42, 21, 4, 4, 96, 46, 42, 21, 4, 5, 96, 46, 153, 0, 7, 4, 167, 0, 4, 3, 42, 21, 4, 6, 96, 46, 182, 0, 151, 54, 6, 167, 5, 168, 43, 42, 21, 4, 4, 96, 46, 42, 21, 4, 5, 96, 46, 42, 21, 4]
def lx_c5 : List Nat := [6, 96, 46, 45, 184, 0, 152, 54, 5, 44, 42, 21, 4, 4, 96, 46, 42, 21, 4, 5, 96, 46, 42, 21, 4, 6, 96, 46, 182, 0, 155, 54, 6, 167, 5, 116, 43, 42, 21, 4, 4, 96, 46, 42, 21, 4, 5, 96, 46, 42, 21, 4, 6, 96, 46, 45, 184, 0, 156, 54, 5, 44, 42, 21]
def lx_c6 : List Nat := [4, 4, 96, 46, 42, 21, 4, 5, 96, 46, 42, 21, 4, 6, 96, 46, 182, 0, 158, 54, 6, 167, 5, 64, 43, 42, 21, 4, 4, 96, 46, 42, 21, 4, 5, 96, 46, 45, 184, 0, 159, 54, 5, 44, 42, 21, 4, 4, 96, 46, 42, 21, 4, 5, 96, 46, 182, 0, 162, 54, 6, 167, 5, 24]
def lx_c7 : List Nat := [43, 42, 21, 4, 4, 96, 46, 42, 21, 4, 5, 96, 46, 42, 21, 4, 6, 96, 46, 45, 184, 0, 163, 54, 5, 44, 42, 21, 4, 4, 96, 46, 42, 21, 4, 5, 96, 46, 42, 21, 4, 6, 96, 46, 182, 0, 165, 54, 6, 167, 4, 228, 43, 42, 21, 4, 4, 96, 46, 42, 21, 4, 5, 96]
def lx_c8 : List Nat := [46, 45, 184, 0, 166, 54, 5, 44, 42, 21, 4, 4, 96, 46, 42, 21, 4, 5, 96, 46, 182, 0, 168, 54, 6, 167, 4, 188, 43, 42, 21, 4, 4, 96, 46, 45, 184, 0, 169, 54, 5, 44, 42, 21, 4, 4, 96, 46, 182, 0, 172, 54, 6, 167, 4, 160, 43, 42, 21, 4, 4, 96, 46, 42]
def lx_c9 : List Nat := [21, 4, 5, 96, 46, 42, 21, 4, 6, 96, 46, 45, 184, 0, 173, 54, 5, 44, 42, 21, 4, 4, 96, 46, 42, 21, 4, 5, 96, 46, 42, 21, 4, 6, 96, 46, 182, 0, 175, 54, 6, 167, 4, 108, 43, 42, 21, 4, 4, 96, 46, 42, 21, 4, 5, 96, 46, 45, 184, 0, 176, 54, 5, 44]
def lx_c10 : List Nat := [42, 21, 4, 4, 96, 46, 42, 21, 4, 5, 96, 46, 182, 0, 178, 54, 6, 167, 4, 68, 43, 42, 21, 4, 4, 96, 46, 42, 21, 4, 5, 96, 46, 45, 184, 0, 179, 54, 5, 44, 42, 21, 4, 4, 96, 46, 42, 21, 4, 5, 96, 46, 182, 0, 181, 54, 6, 44, 182, 0, 182, 21, 5, 159]
def lx_c11 : List Nat := [0, 5, 3, 172, 21, 5, 154, 0, 23, 45, 180, 0, 13, 21, 6, 153, 0, 7, 10, 167, 0, 4, 9, 148, 153, 0, 5, 3, 172, 167, 3, 248, 43, 42, 21, 4, 4, 96, 46, 45, 184, 0, 186, 54, 5, 44, 42, 21, 4, 4, 96, 46, 182, 0, 188, 54, 6, 167, 3, 220, 43, 42, 21, 4]
def lx_c12 : List Nat := [4, 96, 46, 42, 21, 4, 5, 96, 46, 45, 184, 0, 189, 54, 5, 44, 42, 21, 4, 4, 96, 46, 42, 21, 4, 5, 96, 46, 182, 0, 191, 54, 6, 167, 3, 180, 43, 42, 21, 4, 4, 96, 46, 42, 21, 4, 5, 96, 46, 45, 184, 0, 192, 54, 5, 44, 42, 21, 4, 4, 96, 46, 42, 21]
def lx_c13 : List Nat := [4, 5, 96, 46, 182, 0, 194, 54, 6, 167, 3, 140, 43, 42, 21, 4, 4, 96, 46, 42, 21, 4, 5, 96, 46, 45, 184, 0, 195, 54, 5, 44, 42, 21, 4, 4, 96, 46, 42, 21, 4, 5, 96, 46, 182, 0, 197, 54, 6, 167, 3, 100, 43, 42, 21, 4, 4, 96, 46, 42, 21, 4, 5, 96]
def lx_c14 : List Nat := [46, 45, 184, 0, 198, 54, 5, 44, 42, 21, 4, 4, 96, 46, 42, 21, 4, 5, 96, 46, 182, 0, 200, 54, 6, 167, 3, 60, 43, 42, 21, 4, 4, 96, 46, 45, 184, 0, 201, 54, 5, 44, 42, 21, 4, 4, 96, 46, 182, 0, 203, 54, 6, 167, 3, 32, 43, 42, 21, 4, 4, 96, 46, 45]
def lx_c15 : List Nat := [184, 0, 204, 54, 5, 44, 42, 21, 4, 4, 96, 46, 182, 0, 206, 54, 6, 167, 3, 4, 43, 42, 21, 4, 4, 96, 46, 42, 21, 4, 5, 96, 46, 45, 184, 0, 207, 54, 5, 44, 42, 21, 4, 4, 96, 46, 42, 21, 4, 5, 96, 46, 182, 0, 209, 58, 6, 167, 2, 220, 43, 42, 21, 4]
def lx_c16 : List Nat := [4, 96, 46, 42, 21, 4, 5, 96, 46, 45, 184, 0, 210, 54, 5, 44, 42, 21, 4, 4, 96, 46, 42, 21, 4, 5, 96, 46, 182, 0, 212, 54, 6, 167, 2, 180, 43, 42, 21, 4, 4, 96, 46, 42, 21, 4, 5, 96, 46, 45, 184, 0, 213, 54, 5, 44, 42, 21, 4, 4, 96, 46, 42, 21]
def lx_c17 : List Nat := [4, 5, 96, 46, 182, 0, 215, 54, 6, 167, 2, 140, 43, 42, 21, 4, 4, 96, 46, 45, 184, 0, 216, 54, 5, 44, 42, 21, 4, 4, 96, 46, 182, 0, 218, 54, 6, 167, 2, 112, 43, 42, 21, 4, 4, 96, 46, 45, 184, 0, 219, 54, 5, 44, 42, 21, 4, 4, 96, 46, 182, 0, 221, 54]
def lx_c18 : List Nat := [6, 167, 2, 84, 43, 42, 21, 4, 4, 96, 46, 45, 184, 0, 222, 54, 5, 44, 42, 21, 4, 4, 96, 46, 182, 0, 224, 54, 6, 167, 2, 56, 43, 42, 21, 4, 4, 96, 46, 45, 184, 0, 225, 54, 5, 44, 42, 21, 4, 4, 96, 46, 182, 0, 227, 54, 6, 167, 2, 28, 43, 42, 21, 4]
def lx_c19 : List Nat := [4, 96, 46, 45, 184, 0, 228, 54, 5, 44, 42, 21, 4, 4, 96, 46, 182, 0, 230, 54, 6, 167, 2, 0, 43, 42, 21, 4, 4, 96, 46, 45, 184, 0, 231, 54, 5, 44, 42, 21, 4, 4, 96, 46, 182, 0, 233, 54, 6, 167, 1, 228, 43, 42, 21, 4, 4, 96, 46, 42, 21, 4, 5, 96]
def lx_c20 : List Nat := [46, 42, 21, 4, 6, 96, 46, 45, 184, 0, 234, 54, 5, 44, 42, 21, 4, 4, 96, 46, 42, 21, 4, 5, 96, 46, 42, 21, 4, 6, 96, 46, 182, 0, 236, 54, 6, 167, 1, 176, 43, 182, 0, 237, 87, 44, 182, 0, 240, 87, 167, 1, 163, 43, 182, 0, 241, 87, 44, 182, 0, 244, 87, 167]
def lx_c21 : List Nat := [1, 150, 43, 42, 21, 4, 4, 96, 46, 182, 0, 245, 87, 44, 42, 21, 4, 4, 96, 46, 182, 0, 248, 87, 167, 1, 125, 43, 42, 21, 4, 4, 96, 46, 182, 0, 249, 87, 44, 42, 21, 4, 4, 96, 46, 182, 0, 252, 87, 167, 1, 100, 43, 42, 21, 4, 4, 96, 46, 45, 184, 0, 253, 54]
def lx_c22 : List Nat := [5, 44, 42, 21, 4, 4, 96, 46, 182, 0, 255, 54, 6, 167, 1, 72, 43, 182, 1, 0, 87, 44, 182, 1, 4, 87, 167, 1, 59, 43, 42, 21, 4, 4, 96, 46, 45, 184, 1, 5, 54, 5, 44, 42, 21, 4, 4, 96, 46, 182, 1, 7, 58, 6, 167, 1, 31, 43, 42, 21, 4, 4, 96, 46]
def lx_c23 : List Nat := [42, 21, 4, 5, 96, 46, 45, 184, 1, 8, 54, 5, 44, 42, 21, 4, 4, 96, 46, 42, 21, 4, 5, 96, 46, 182, 1, 10, 54, 6, 167, 0, 247, 43, 42, 21, 4, 4, 96, 46, 42, 21, 4, 5, 96, 46, 45, 184, 1, 11, 54, 5, 44, 42, 21, 4, 4, 96, 46, 42, 21, 4, 5, 96]
def lx_c24 : List Nat := [46, 182, 1, 13, 54, 6, 167, 0, 207, 43, 42, 21, 4, 4, 96, 46, 45, 184, 1, 14, 54, 5, 44, 42, 21, 4, 4, 96, 46, 182, 1, 16, 54, 6, 167, 0, 179, 43, 42, 21, 4, 4, 96, 46, 45, 184, 1, 17, 54, 5, 44, 42, 21, 4, 4, 96, 46, 182, 1, 19, 54, 6, 167, 0]
def lx_c25 : List Nat := [151, 43, 42, 21, 4, 4, 96, 46, 45, 184, 1, 20, 54, 5, 44, 42, 21, 4, 4, 96, 46, 182, 1, 22, 54, 6, 167, 0, 123, 43, 42, 21, 4, 4, 96, 46, 182, 1, 23, 87, 44, 42, 21, 4, 4, 96, 46, 182, 1, 26, 87, 167, 0, 98, 43, 42, 21, 4, 4, 96, 46, 45, 184, 1]
def lx_c26 : List Nat := [27, 54, 5, 44, 42, 21, 4, 4, 96, 46, 182, 1, 29, 54, 6, 167, 0, 70, 43, 42, 21, 4, 4, 96, 46, 45, 184, 1, 30, 54, 5, 44, 42, 21, 4, 4, 96, 46, 182, 1, 32, 54, 6, 167, 0, 42, 43, 182, 1, 33, 87, 44, 182, 1, 36, 87, 167, 0, 29, 43, 182, 1, 37, 87]
def lx_c27 : List Nat := [44, 182, 1, 41, 87, 167, 0, 16, 43, 182, 1, 42, 88, 44, 182, 1, 46, 88, 167, 0, 3, 132, 4, 4, 167, 249, 67, 4, 172]
def lx_t27 : List Nat := lx_c27
def lx_t26 : List Nat := lx_c26 ++ lx_t27
def lx_t25 : List Nat := lx_c25 ++ lx_t26
def lx_t24 : List Nat := lx_c24 ++ lx_t25
def lx_t23 : List Nat := lx_c23 ++ lx_t24
def lx_t22 : List Nat := lx_c22 ++ lx_t23
def lx_t21 : List Nat := lx_c21 ++ lx_t22
def lx_t20 : List Nat := lx_c20 ++ lx_t21
def lx_t19 : List Nat := lx_c19 ++ lx_t20
def lx_t18 : List Nat := lx_c18 ++ lx_t19
def lx_t17 : List Nat := lx_c17 ++ lx_t18
def lx_t16 : List Nat := lx_c16 ++ lx_t17
def lx_t15 : List Nat := lx_c15 ++ lx_t16
def lx_t14 : List Nat := lx_c14 ++ lx_t15
def lx_t13 : List Nat := lx_c13 ++ lx_t14
def lx_t12 : List Nat := lx_c12 ++ lx_t13
def lx_t11 : List Nat := lx_c11 ++ lx_t12
def lx_t10 : List Nat := lx_c10 ++ lx_t11
def lx_t9 : List Nat := lx_c9 ++ lx_t10
def lx_t8 : List Nat := lx_c8 ++ lx_t9
def lx_t7 : List Nat := lx_c7 ++ lx_t8
def lx_t6 : List Nat := lx_c6 ++ lx_t7
def lx_t5 : List Nat := lx_c5 ++ lx_t6
def lx_t4 : List Nat := lx_c4 ++ lx_t5
def lx_t3 : List Nat := lx_c3 ++ lx_t4
def lx_t2 : List Nat := lx_c2 ++ lx_t3
def lx_t1 : List Nat := lx_c1 ++ lx_t2
def lx_t0 : List Nat := lx_c0 ++ lx_t1
theorem lx_all : code.data.toList.map UInt8.toNat = lx_t0 := by decide +kernel
theorem lx_w0 {i v : Nat} (h : lx_t0[i]? = some v) : lx_bt code (0 + i) v := lx_eq (by omega) (lx_at lx_all h)
theorem lx_v1 : lx_t0 = lx_c0 ++ lx_t1 := rfl
theorem lx_n1 : lx_c0.length = 64 := by decide +kernel
theorem lx_w1 {i v : Nat} (h : lx_t1[i]? = some v) : lx_bt code (64 + i) v := lx_eq (by omega) (lx_w0 (i := 64 + i) (by rw [lx_v1]; exact lx_sk lx_n1 h))
theorem lx_v2 : lx_t1 = lx_c1 ++ lx_t2 := rfl
theorem lx_n2 : lx_c1.length = 64 := by decide +kernel
theorem lx_w2 {i v : Nat} (h : lx_t2[i]? = some v) : lx_bt code (128 + i) v := lx_eq (by omega) (lx_w1 (i := 64 + i) (by rw [lx_v2]; exact lx_sk lx_n2 h))
theorem lx_v3 : lx_t2 = lx_c2 ++ lx_t3 := rfl
theorem lx_n3 : lx_c2.length = 64 := by decide +kernel
theorem lx_w3 {i v : Nat} (h : lx_t3[i]? = some v) : lx_bt code (192 + i) v := lx_eq (by omega) (lx_w2 (i := 64 + i) (by rw [lx_v3]; exact lx_sk lx_n3 h))
theorem lx_v4 : lx_t3 = lx_c3 ++ lx_t4 := rfl
theorem lx_n4 : lx_c3.length = 64 := by decide +kernel
theorem lx_w4 {i v : Nat} (h : lx_t4[i]? = some v) : lx_bt code (256 + i) v := lx_eq (by omega) (lx_w3 (i := 64 + i) (by rw [lx_v4]; exact lx_sk lx_n4 h))
theorem lx_v5 : lx_t4 = lx_c4 ++ lx_t5 := rfl
theorem lx_n5 : lx_c4.length = 64 := by decide +kernel
theorem lx_w5 {i v : Nat} (h : lx_t5[i]? = some v) : lx_bt code (320 + i) v := lx_eq (by omega) (lx_w4 (i := 64 + i) (by rw [lx_v5]; exact lx_sk lx_n5 h))
theorem lx_v6 : lx_t5 = lx_c5 ++ lx_t6 := rfl
theorem lx_n6 : lx_c5.length = 64 := by decide +kernel
theorem lx_w6 {i v : Nat} (h : lx_t6[i]? = some v) : lx_bt code (384 + i) v := lx_eq (by omega) (lx_w5 (i := 64 + i) (by rw [lx_v6]; exact lx_sk lx_n6 h))
theorem lx_v7 : lx_t6 = lx_c6 ++ lx_t7 := rfl
theorem lx_n7 : lx_c6.length = 64 := by decide +kernel
theorem lx_w7 {i v : Nat} (h : lx_t7[i]? = some v) : lx_bt code (448 + i) v := lx_eq (by omega) (lx_w6 (i := 64 + i) (by rw [lx_v7]; exact lx_sk lx_n7 h))
theorem lx_v8 : lx_t7 = lx_c7 ++ lx_t8 := rfl
theorem lx_n8 : lx_c7.length = 64 := by decide +kernel
theorem lx_w8 {i v : Nat} (h : lx_t8[i]? = some v) : lx_bt code (512 + i) v := lx_eq (by omega) (lx_w7 (i := 64 + i) (by rw [lx_v8]; exact lx_sk lx_n8 h))
theorem lx_v9 : lx_t8 = lx_c8 ++ lx_t9 := rfl
theorem lx_n9 : lx_c8.length = 64 := by decide +kernel
theorem lx_w9 {i v : Nat} (h : lx_t9[i]? = some v) : lx_bt code (576 + i) v := lx_eq (by omega) (lx_w8 (i := 64 + i) (by rw [lx_v9]; exact lx_sk lx_n9 h))
theorem lx_v10 : lx_t9 = lx_c9 ++ lx_t10 := rfl
theorem lx_n10 : lx_c9.length = 64 := by decide +kernel
theorem lx_w10 {i v : Nat} (h : lx_t10[i]? = some v) : lx_bt code (640 + i) v := lx_eq (by omega) (lx_w9 (i := 64 + i) (by rw [lx_v10]; exact lx_sk lx_n10 h))
theorem lx_v11 : lx_t10 = lx_c10 ++ lx_t11 := rfl
theorem lx_n11 : lx_c10.length = 64 := by decide +kernel
theorem lx_w11 {i v : Nat} (h : lx_t11[i]? = some v) : lx_bt code (704 + i) v := lx_eq (by omega) (lx_w10 (i := 64 + i) (by rw [lx_v11]; exact lx_sk lx_n11 h))
theorem lx_v12 : lx_t11 = lx_c11 ++ lx_t12 := rfl
theorem lx_n12 : lx_c11.length = 64 := by decide +kernel
theorem lx_w12 {i v : Nat} (h : lx_t12[i]? = some v) : lx_bt code (768 + i) v := lx_eq (by omega) (lx_w11 (i := 64 + i) (by rw [lx_v12]; exact lx_sk lx_n12 h))
theorem lx_v13 : lx_t12 = lx_c12 ++ lx_t13 := rfl
theorem lx_n13 : lx_c12.length = 64 := by decide +kernel
theorem lx_w13 {i v : Nat} (h : lx_t13[i]? = some v) : lx_bt code (832 + i) v := lx_eq (by omega) (lx_w12 (i := 64 + i) (by rw [lx_v13]; exact lx_sk lx_n13 h))
theorem lx_v14 : lx_t13 = lx_c13 ++ lx_t14 := rfl
theorem lx_n14 : lx_c13.length = 64 := by decide +kernel
theorem lx_w14 {i v : Nat} (h : lx_t14[i]? = some v) : lx_bt code (896 + i) v := lx_eq (by omega) (lx_w13 (i := 64 + i) (by rw [lx_v14]; exact lx_sk lx_n14 h))
theorem lx_v15 : lx_t14 = lx_c14 ++ lx_t15 := rfl
theorem lx_n15 : lx_c14.length = 64 := by decide +kernel
theorem lx_w15 {i v : Nat} (h : lx_t15[i]? = some v) : lx_bt code (960 + i) v := lx_eq (by omega) (lx_w14 (i := 64 + i) (by rw [lx_v15]; exact lx_sk lx_n15 h))
theorem lx_v16 : lx_t15 = lx_c15 ++ lx_t16 := rfl
theorem lx_n16 : lx_c15.length = 64 := by decide +kernel
theorem lx_w16 {i v : Nat} (h : lx_t16[i]? = some v) : lx_bt code (1024 + i) v := lx_eq (by omega) (lx_w15 (i := 64 + i) (by rw [lx_v16]; exact lx_sk lx_n16 h))
theorem lx_v17 : lx_t16 = lx_c16 ++ lx_t17 := rfl
theorem lx_n17 : lx_c16.length = 64 := by decide +kernel
theorem lx_w17 {i v : Nat} (h : lx_t17[i]? = some v) : lx_bt code (1088 + i) v := lx_eq (by omega) (lx_w16 (i := 64 + i) (by rw [lx_v17]; exact lx_sk lx_n17 h))
theorem lx_v18 : lx_t17 = lx_c17 ++ lx_t18 := rfl
theorem lx_n18 : lx_c17.length = 64 := by decide +kernel
theorem lx_w18 {i v : Nat} (h : lx_t18[i]? = some v) : lx_bt code (1152 + i) v := lx_eq (by omega) (lx_w17 (i := 64 + i) (by rw [lx_v18]; exact lx_sk lx_n18 h))
theorem lx_v19 : lx_t18 = lx_c18 ++ lx_t19 := rfl
theorem lx_n19 : lx_c18.length = 64 := by decide +kernel
theorem lx_w19 {i v : Nat} (h : lx_t19[i]? = some v) : lx_bt code (1216 + i) v := lx_eq (by omega) (lx_w18 (i := 64 + i) (by rw [lx_v19]; exact lx_sk lx_n19 h))
theorem lx_v20 : lx_t19 = lx_c19 ++ lx_t20 := rfl
theorem lx_n20 : lx_c19.length = 64 := by decide +kernel
theorem lx_w20 {i v : Nat} (h : lx_t20[i]? = some v) : lx_bt code (1280 + i) v := lx_eq (by omega) (lx_w19 (i := 64 + i) (by rw [lx_v20]; exact lx_sk lx_n20 h))
theorem lx_v21 : lx_t20 = lx_c20 ++ lx_t21 := rfl
theorem lx_n21 : lx_c20.length = 64 := by decide +kernel
theorem lx_w21 {i v : Nat} (h : lx_t21[i]? = some v) : lx_bt code (1344 + i) v := lx_eq (by omega) (lx_w20 (i := 64 + i) (by rw [lx_v21]; exact lx_sk lx_n21 h))
theorem lx_v22 : lx_t21 = lx_c21 ++ lx_t22 := rfl
theorem lx_n22 : lx_c21.length = 64 := by decide +kernel
theorem lx_w22 {i v : Nat} (h : lx_t22[i]? = some v) : lx_bt code (1408 + i) v := lx_eq (by omega) (lx_w21 (i := 64 + i) (by rw [lx_v22]; exact lx_sk lx_n22 h))
theorem lx_v23 : lx_t22 = lx_c22 ++ lx_t23 := rfl
theorem lx_n23 : lx_c22.length = 64 := by decide +kernel
theorem lx_w23 {i v : Nat} (h : lx_t23[i]? = some v) : lx_bt code (1472 + i) v := lx_eq (by omega) (lx_w22 (i := 64 + i) (by rw [lx_v23]; exact lx_sk lx_n23 h))
theorem lx_v24 : lx_t23 = lx_c23 ++ lx_t24 := rfl
theorem lx_n24 : lx_c23.length = 64 := by decide +kernel
theorem lx_w24 {i v : Nat} (h : lx_t24[i]? = some v) : lx_bt code (1536 + i) v := lx_eq (by omega) (lx_w23 (i := 64 + i) (by rw [lx_v24]; exact lx_sk lx_n24 h))
theorem lx_v25 : lx_t24 = lx_c24 ++ lx_t25 := rfl
theorem lx_n25 : lx_c24.length = 64 := by decide +kernel
theorem lx_w25 {i v : Nat} (h : lx_t25[i]? = some v) : lx_bt code (1600 + i) v := lx_eq (by omega) (lx_w24 (i := 64 + i) (by rw [lx_v25]; exact lx_sk lx_n25 h))
theorem lx_v26 : lx_t25 = lx_c25 ++ lx_t26 := rfl
theorem lx_n26 : lx_c25.length = 64 := by decide +kernel
theorem lx_w26 {i v : Nat} (h : lx_t26[i]? = some v) : lx_bt code (1664 + i) v := lx_eq (by omega) (lx_w25 (i := 64 + i) (by rw [lx_v26]; exact lx_sk lx_n26 h))
theorem lx_v27 : lx_t26 = lx_c26 ++ lx_t27 := rfl
theorem lx_n27 : lx_c26.length = 64 := by decide +kernel
theorem lx_w27 {i v : Nat} (h : lx_t27[i]? = some v) : lx_bt code (1728 + i) v := lx_eq (by omega) (lx_w26 (i := 64 + i) (by rw [lx_v27]; exact lx_sk lx_n27 h))
theorem lx_k0 {i v : Nat} (h : lx_c0[i]? = some v) : lx_bt code (0 + i) v := lx_w0 (by rw [lx_v1]; exact lx_app h)
theorem lx_k1 {i v : Nat} (h : lx_c1[i]? = some v) : lx_bt code (64 + i) v := lx_w1 (by rw [lx_v2]; exact lx_app h)
theorem lx_k2 {i v : Nat} (h : lx_c2[i]? = some v) : lx_bt code (128 + i) v := lx_w2 (by rw [lx_v3]; exact lx_app h)
theorem lx_k3 {i v : Nat} (h : lx_c3[i]? = some v) : lx_bt code (192 + i) v := lx_w3 (by rw [lx_v4]; exact lx_app h)
theorem lx_k4 {i v : Nat} (h : lx_c4[i]? = some v) : lx_bt code (256 + i) v := lx_w4 (by rw [lx_v5]; exact lx_app h)
theorem lx_k5 {i v : Nat} (h : lx_c5[i]? = some v) : lx_bt code (320 + i) v := lx_w5 (by rw [lx_v6]; exact lx_app h)
theorem lx_k6 {i v : Nat} (h : lx_c6[i]? = some v) : lx_bt code (384 + i) v := lx_w6 (by rw [lx_v7]; exact lx_app h)
theorem lx_k7 {i v : Nat} (h : lx_c7[i]? = some v) : lx_bt code (448 + i) v := lx_w7 (by rw [lx_v8]; exact lx_app h)
theorem lx_k8 {i v : Nat} (h : lx_c8[i]? = some v) : lx_bt code (512 + i) v := lx_w8 (by rw [lx_v9]; exact lx_app h)
theorem lx_k9 {i v : Nat} (h : lx_c9[i]? = some v) : lx_bt code (576 + i) v := lx_w9 (by rw [lx_v10]; exact lx_app h)
theorem lx_k10 {i v : Nat} (h : lx_c10[i]? = some v) : lx_bt code (640 + i) v := lx_w10 (by rw [lx_v11]; exact lx_app h)
theorem lx_k11 {i v : Nat} (h : lx_c11[i]? = some v) : lx_bt code (704 + i) v := lx_w11 (by rw [lx_v12]; exact lx_app h)
theorem lx_k12 {i v : Nat} (h : lx_c12[i]? = some v) : lx_bt code (768 + i) v := lx_w12 (by rw [lx_v13]; exact lx_app h)
theorem lx_k13 {i v : Nat} (h : lx_c13[i]? = some v) : lx_bt code (832 + i) v := lx_w13 (by rw [lx_v14]; exact lx_app h)
theorem lx_k14 {i v : Nat} (h : lx_c14[i]? = some v) : lx_bt code (896 + i) v := lx_w14 (by rw [lx_v15]; exact lx_app h)
theorem lx_k15 {i v : Nat} (h : lx_c15[i]? = some v) : lx_bt code (960 + i) v := lx_w15 (by rw [lx_v16]; exact lx_app h)
theorem lx_k16 {i v : Nat} (h : lx_c16[i]? = some v) : lx_bt code (1024 + i) v := lx_w16 (by rw [lx_v17]; exact lx_app h)
theorem lx_k17 {i v : Nat} (h : lx_c17[i]? = some v) : lx_bt code (1088 + i) v := lx_w17 (by rw [lx_v18]; exact lx_app h)
theorem lx_k18 {i v : Nat} (h : lx_c18[i]? = some v) : lx_bt code (1152 + i) v := lx_w18 (by rw [lx_v19]; exact lx_app h)
theorem lx_k19 {i v : Nat} (h : lx_c19[i]? = some v) : lx_bt code (1216 + i) v := lx_w19 (by rw [lx_v20]; exact lx_app h)
theorem lx_k20 {i v : Nat} (h : lx_c20[i]? = some v) : lx_bt code (1280 + i) v := lx_w20 (by rw [lx_v21]; exact lx_app h)
theorem lx_k21 {i v : Nat} (h : lx_c21[i]? = some v) : lx_bt code (1344 + i) v := lx_w21 (by rw [lx_v22]; exact lx_app h)
theorem lx_k22 {i v : Nat} (h : lx_c22[i]? = some v) : lx_bt code (1408 + i) v := lx_w22 (by rw [lx_v23]; exact lx_app h)
theorem lx_k23 {i v : Nat} (h : lx_c23[i]? = some v) : lx_bt code (1472 + i) v := lx_w23 (by rw [lx_v24]; exact lx_app h)
theorem lx_k24 {i v : Nat} (h : lx_c24[i]? = some v) : lx_bt code (1536 + i) v := lx_w24 (by rw [lx_v25]; exact lx_app h)
theorem lx_k25 {i v : Nat} (h : lx_c25[i]? = some v) : lx_bt code (1600 + i) v := lx_w25 (by rw [lx_v26]; exact lx_app h)
theorem lx_k26 {i v : Nat} (h : lx_c26[i]? = some v) : lx_bt code (1664 + i) v := lx_w26 (by rw [lx_v27]; exact lx_app h)
theorem lx_k27 {i v : Nat} (h : lx_c27[i]? = some v) : lx_bt code (1728 + i) v := lx_w27 (by exact h)
theorem lx_o3 {b : ByteArray} {p : Nat} (h : lx_bt b p 3) : decode b p = .ok (.iconst 0, 1) := lx_in h rfl rfl
theorem lx_o4 {b : ByteArray} {p : Nat} (h : lx_bt b p 4) : decode b p = .ok (.iconst 1, 1) := lx_in h rfl rfl
theorem lx_o5 {b : ByteArray} {p : Nat} (h : lx_bt b p 5) : decode b p = .ok (.iconst 2, 1) := lx_in h rfl rfl
theorem lx_o6 {b : ByteArray} {p : Nat} (h : lx_bt b p 6) : decode b p = .ok (.iconst 3, 1) := lx_in h rfl rfl
theorem lx_o7 {b : ByteArray} {p : Nat} (h : lx_bt b p 7) : decode b p = .ok (.iconst 4, 1) := lx_in h rfl rfl
theorem lx_o9 {b : ByteArray} {p : Nat} (h : lx_bt b p 9) : decode b p = .ok (.lconst 0, 1) := lx_in h rfl rfl
theorem lx_o10 {b : ByteArray} {p : Nat} (h : lx_bt b p 10) : decode b p = .ok (.lconst 1, 1) := lx_in h rfl rfl
theorem lx_o16 {b : ByteArray} {p x : Nat} {o : Int} (h : lx_bt b p 16) (h1 : lx_bt b (p + 1) x) (e : Jvm.ClassFile.Reader.signed 8 x = o) : decode b p = .ok (.bipush o, 2) := lx_in h rfl (show Jvm.ClassFile.Reader.runAt ((Jvm.ClassFile.Reader.s1 : Jvm.ClassFile.Decoder Int) >>= fun a => (pure (Jvm.ClassFile.Instr.bipush a) : Jvm.ClassFile.Decoder Jvm.ClassFile.Instr)) b (p + 1) = _ from (lx_b (lx_s1 h1 e) _).trans rfl)
theorem lx_o21 {b : ByteArray} {p x : Nat} (h : lx_bt b p 21) (h1 : lx_bt b (p + 1) x) : decode b p = .ok (.iload x, 2) := lx_in h rfl (show Jvm.ClassFile.Reader.runAt ((Jvm.ClassFile.Reader.u1 : Jvm.ClassFile.Decoder Nat) >>= fun a => (pure (Jvm.ClassFile.Instr.iload a) : Jvm.ClassFile.Decoder Jvm.ClassFile.Instr)) b (p + 1) = _ from (lx_b (lx_u1 h1) _).trans rfl)
theorem lx_o42 {b : ByteArray} {p : Nat} (h : lx_bt b p 42) : decode b p = .ok (.aload_n 0, 1) := lx_in h rfl rfl
theorem lx_o43 {b : ByteArray} {p : Nat} (h : lx_bt b p 43) : decode b p = .ok (.aload_n 1, 1) := lx_in h rfl rfl
theorem lx_o44 {b : ByteArray} {p : Nat} (h : lx_bt b p 44) : decode b p = .ok (.aload_n 2, 1) := lx_in h rfl rfl
theorem lx_o45 {b : ByteArray} {p : Nat} (h : lx_bt b p 45) : decode b p = .ok (.aload_n 3, 1) := lx_in h rfl rfl
theorem lx_o46 {b : ByteArray} {p : Nat} (h : lx_bt b p 46) : decode b p = .ok (.iaload, 1) := lx_in h rfl rfl
theorem lx_o54 {b : ByteArray} {p x : Nat} (h : lx_bt b p 54) (h1 : lx_bt b (p + 1) x) : decode b p = .ok (.istore x, 2) := lx_in h rfl (show Jvm.ClassFile.Reader.runAt ((Jvm.ClassFile.Reader.u1 : Jvm.ClassFile.Decoder Nat) >>= fun a => (pure (Jvm.ClassFile.Instr.istore a) : Jvm.ClassFile.Decoder Jvm.ClassFile.Instr)) b (p + 1) = _ from (lx_b (lx_u1 h1) _).trans rfl)
theorem lx_o58 {b : ByteArray} {p x : Nat} (h : lx_bt b p 58) (h1 : lx_bt b (p + 1) x) : decode b p = .ok (.astore x, 2) := lx_in h rfl (show Jvm.ClassFile.Reader.runAt ((Jvm.ClassFile.Reader.u1 : Jvm.ClassFile.Decoder Nat) >>= fun a => (pure (Jvm.ClassFile.Instr.astore a) : Jvm.ClassFile.Decoder Jvm.ClassFile.Instr)) b (p + 1) = _ from (lx_b (lx_u1 h1) _).trans rfl)
theorem lx_o76 {b : ByteArray} {p : Nat} (h : lx_bt b p 76) : decode b p = .ok (.astore_n 1, 1) := lx_in h rfl rfl
theorem lx_o77 {b : ByteArray} {p : Nat} (h : lx_bt b p 77) : decode b p = .ok (.astore_n 2, 1) := lx_in h rfl rfl
theorem lx_o78 {b : ByteArray} {p : Nat} (h : lx_bt b p 78) : decode b p = .ok (.astore_n 3, 1) := lx_in h rfl rfl
theorem lx_o87 {b : ByteArray} {p : Nat} (h : lx_bt b p 87) : decode b p = .ok (.pop, 1) := lx_in h rfl rfl
theorem lx_o88 {b : ByteArray} {p : Nat} (h : lx_bt b p 88) : decode b p = .ok (.pop2, 1) := lx_in h rfl rfl
theorem lx_o89 {b : ByteArray} {p : Nat} (h : lx_bt b p 89) : decode b p = .ok (.dup, 1) := lx_in h rfl rfl
theorem lx_o96 {b : ByteArray} {p : Nat} (h : lx_bt b p 96) : decode b p = .ok (.iadd, 1) := lx_in h rfl rfl
theorem lx_o100 {b : ByteArray} {p : Nat} (h : lx_bt b p 100) : decode b p = .ok (.isub, 1) := lx_in h rfl rfl
theorem lx_o126 {b : ByteArray} {p : Nat} (h : lx_bt b p 126) : decode b p = .ok (.iand, 1) := lx_in h rfl rfl
theorem lx_o148 {b : ByteArray} {p : Nat} (h : lx_bt b p 148) : decode b p = .ok (.lcmp, 1) := lx_in h rfl rfl
theorem lx_o153 {b : ByteArray} {p x y : Nat} {o : Int} (h : lx_bt b p 153) (h1 : lx_bt b (p + 1) x) (h2 : lx_bt b (p + 1 + 1) y) (e : Jvm.ClassFile.Reader.signed 16 (x * 256 + y) = o) : decode b p = .ok (.ifCond .eq o, 3) := lx_in h rfl (show Jvm.ClassFile.Reader.runAt ((Jvm.ClassFile.Reader.s2 : Jvm.ClassFile.Decoder Int) >>= fun a => (pure (.ifCond .eq a) : Jvm.ClassFile.Decoder Jvm.ClassFile.Instr)) b (p + 1) = _ from (lx_b (lx_s2 h1 h2 e) _).trans rfl)
theorem lx_o154 {b : ByteArray} {p x y : Nat} {o : Int} (h : lx_bt b p 154) (h1 : lx_bt b (p + 1) x) (h2 : lx_bt b (p + 1 + 1) y) (e : Jvm.ClassFile.Reader.signed 16 (x * 256 + y) = o) : decode b p = .ok (.ifCond .ne o, 3) := lx_in h rfl (show Jvm.ClassFile.Reader.runAt ((Jvm.ClassFile.Reader.s2 : Jvm.ClassFile.Decoder Int) >>= fun a => (pure (.ifCond .ne a) : Jvm.ClassFile.Decoder Jvm.ClassFile.Instr)) b (p + 1) = _ from (lx_b (lx_s2 h1 h2 e) _).trans rfl)
theorem lx_o159 {b : ByteArray} {p x y : Nat} {o : Int} (h : lx_bt b p 159) (h1 : lx_bt b (p + 1) x) (h2 : lx_bt b (p + 1 + 1) y) (e : Jvm.ClassFile.Reader.signed 16 (x * 256 + y) = o) : decode b p = .ok (.if_icmp .eq o, 3) := lx_in h rfl (show Jvm.ClassFile.Reader.runAt ((Jvm.ClassFile.Reader.s2 : Jvm.ClassFile.Decoder Int) >>= fun a => (pure (.if_icmp .eq a) : Jvm.ClassFile.Decoder Jvm.ClassFile.Instr)) b (p + 1) = _ from (lx_b (lx_s2 h1 h2 e) _).trans rfl)
theorem lx_o163 {b : ByteArray} {p x y : Nat} {o : Int} (h : lx_bt b p 163) (h1 : lx_bt b (p + 1) x) (h2 : lx_bt b (p + 1 + 1) y) (e : Jvm.ClassFile.Reader.signed 16 (x * 256 + y) = o) : decode b p = .ok (.if_icmp .gt o, 3) := lx_in h rfl (show Jvm.ClassFile.Reader.runAt ((Jvm.ClassFile.Reader.s2 : Jvm.ClassFile.Decoder Int) >>= fun a => (pure (.if_icmp .gt a) : Jvm.ClassFile.Decoder Jvm.ClassFile.Instr)) b (p + 1) = _ from (lx_b (lx_s2 h1 h2 e) _).trans rfl)
theorem lx_o167 {b : ByteArray} {p x y : Nat} {o : Int} (h : lx_bt b p 167) (h1 : lx_bt b (p + 1) x) (h2 : lx_bt b (p + 1 + 1) y) (e : Jvm.ClassFile.Reader.signed 16 (x * 256 + y) = o) : decode b p = .ok (.goto o, 3) := lx_in h rfl (show Jvm.ClassFile.Reader.runAt ((Jvm.ClassFile.Reader.s2 : Jvm.ClassFile.Decoder Int) >>= fun a => (pure (.goto a) : Jvm.ClassFile.Decoder Jvm.ClassFile.Instr)) b (p + 1) = _ from (lx_b (lx_s2 h1 h2 e) _).trans rfl)
theorem lx_o172 {b : ByteArray} {p : Nat} (h : lx_bt b p 172) : decode b p = .ok (.ireturn, 1) := lx_in h rfl rfl
theorem lx_o180 {b : ByteArray} {p x y n : Nat} (h : lx_bt b p 180) (h1 : lx_bt b (p + 1) x) (h2 : lx_bt b (p + 1 + 1) y) (e : x * 256 + y = n) : decode b p = .ok (.getfield n, 3) := lx_in h rfl (show Jvm.ClassFile.Reader.runAt ((Jvm.ClassFile.Reader.u2 : Jvm.ClassFile.Decoder Nat) >>= fun a => (pure (Jvm.ClassFile.Instr.getfield a) : Jvm.ClassFile.Decoder Jvm.ClassFile.Instr)) b (p + 1) = _ from (lx_b (e ▸ lx_u2 h1 h2) _).trans rfl)
theorem lx_o182 {b : ByteArray} {p x y n : Nat} (h : lx_bt b p 182) (h1 : lx_bt b (p + 1) x) (h2 : lx_bt b (p + 1 + 1) y) (e : x * 256 + y = n) : decode b p = .ok (.invokevirtual n, 3) := lx_in h rfl (show Jvm.ClassFile.Reader.runAt ((Jvm.ClassFile.Reader.u2 : Jvm.ClassFile.Decoder Nat) >>= fun a => (pure (Jvm.ClassFile.Instr.invokevirtual a) : Jvm.ClassFile.Decoder Jvm.ClassFile.Instr)) b (p + 1) = _ from (lx_b (e ▸ lx_u2 h1 h2) _).trans rfl)
theorem lx_o183 {b : ByteArray} {p x y n : Nat} (h : lx_bt b p 183) (h1 : lx_bt b (p + 1) x) (h2 : lx_bt b (p + 1 + 1) y) (e : x * 256 + y = n) : decode b p = .ok (.invokespecial n, 3) := lx_in h rfl (show Jvm.ClassFile.Reader.runAt ((Jvm.ClassFile.Reader.u2 : Jvm.ClassFile.Decoder Nat) >>= fun a => (pure (Jvm.ClassFile.Instr.invokespecial a) : Jvm.ClassFile.Decoder Jvm.ClassFile.Instr)) b (p + 1) = _ from (lx_b (e ▸ lx_u2 h1 h2) _).trans rfl)
theorem lx_o184 {b : ByteArray} {p x y n : Nat} (h : lx_bt b p 184) (h1 : lx_bt b (p + 1) x) (h2 : lx_bt b (p + 1 + 1) y) (e : x * 256 + y = n) : decode b p = .ok (.invokestatic n, 3) := lx_in h rfl (show Jvm.ClassFile.Reader.runAt ((Jvm.ClassFile.Reader.u2 : Jvm.ClassFile.Decoder Nat) >>= fun a => (pure (Jvm.ClassFile.Instr.invokestatic a) : Jvm.ClassFile.Decoder Jvm.ClassFile.Instr)) b (p + 1) = _ from (lx_b (e ▸ lx_u2 h1 h2) _).trans rfl)
theorem lx_o187 {b : ByteArray} {p x y n : Nat} (h : lx_bt b p 187) (h1 : lx_bt b (p + 1) x) (h2 : lx_bt b (p + 1 + 1) y) (e : x * 256 + y = n) : decode b p = .ok (.new n, 3) := lx_in h rfl (show Jvm.ClassFile.Reader.runAt ((Jvm.ClassFile.Reader.u2 : Jvm.ClassFile.Decoder Nat) >>= fun a => (pure (Jvm.ClassFile.Instr.new a) : Jvm.ClassFile.Decoder Jvm.ClassFile.Instr)) b (p + 1) = _ from (lx_b (e ▸ lx_u2 h1 h2) _).trans rfl)
theorem lx_o190 {b : ByteArray} {p : Nat} (h : lx_bt b p 190) : decode b p = .ok (.arraylength, 1) := lx_in h rfl rfl
theorem dL_law_0 : decode cL_law 0 = .ok (.new 8, 3) := lx_o187 (lx_k0 (i := 0) rfl) (lx_k0 (i := 1) rfl) (lx_k0 (i := 2) rfl) rfl
theorem dL_law_3 : decode cL_law 3 = .ok (.dup, 1) := lx_o89 (lx_k0 (i := 3) rfl)
theorem dL_law_4 : decode cL_law 4 = .ok (.invokespecial 141, 3) := lx_o183 (lx_k0 (i := 4) rfl) (lx_k0 (i := 5) rfl) (lx_k0 (i := 6) rfl) rfl
theorem dL_law_7 : decode cL_law 7 = .ok (.astore_n 1, 1) := lx_o76 (lx_k0 (i := 7) rfl)
theorem dL_law_8 : decode cL_law 8 = .ok (.new 142, 3) := lx_o187 (lx_k0 (i := 8) rfl) (lx_k0 (i := 9) rfl) (lx_k0 (i := 10) rfl) rfl
theorem dL_law_11 : decode cL_law 11 = .ok (.dup, 1) := lx_o89 (lx_k0 (i := 11) rfl)
theorem dL_law_12 : decode cL_law 12 = .ok (.invokespecial 144, 3) := lx_o183 (lx_k0 (i := 12) rfl) (lx_k0 (i := 13) rfl) (lx_k0 (i := 14) rfl) rfl
theorem dL_law_15 : decode cL_law 15 = .ok (.astore_n 2, 1) := lx_o77 (lx_k0 (i := 15) rfl)
theorem dL_law_16 : decode cL_law 16 = .ok (.new 14, 3) := lx_o187 (lx_k0 (i := 16) rfl) (lx_k0 (i := 17) rfl) (lx_k0 (i := 18) rfl) rfl
theorem dL_law_19 : decode cL_law 19 = .ok (.dup, 1) := lx_o89 (lx_k0 (i := 19) rfl)
theorem dL_law_20 : decode cL_law 20 = .ok (.invokespecial 145, 3) := lx_o183 (lx_k0 (i := 20) rfl) (lx_k0 (i := 21) rfl) (lx_k0 (i := 22) rfl) rfl
theorem dL_law_23 : decode cL_law 23 = .ok (.astore_n 3, 1) := lx_o78 (lx_k0 (i := 23) rfl)
theorem dL_law_24 : decode cL_law 24 = .ok (.iconst 0, 1) := lx_o3 (lx_k0 (i := 24) rfl)
theorem dL_law_25 : decode cL_law 25 = .ok (.istore 4, 2) := lx_o54 (lx_k0 (i := 25) rfl) (lx_k0 (i := 26) rfl)
theorem dL_law_27 : decode cL_law 27 = .ok (.iload 4, 2) := lx_o21 (lx_k0 (i := 27) rfl) (lx_k0 (i := 28) rfl)
theorem dL_law_29 : decode cL_law 29 = .ok (.aload_n 0, 1) := lx_o42 (lx_k0 (i := 29) rfl)
theorem dL_law_30 : decode cL_law 30 = .ok (.arraylength, 1) := lx_o190 (lx_k0 (i := 30) rfl)
theorem dL_law_31 : decode cL_law 31 = .ok (.iconst 4, 1) := lx_o7 (lx_k0 (i := 31) rfl)
theorem dL_law_32 : decode cL_law 32 = .ok (.isub, 1) := lx_o100 (lx_k0 (i := 32) rfl)
theorem dL_law_33 : decode cL_law 33 = .ok (.if_icmp .gt 1722, 3) := lx_o163 (lx_k0 (i := 33) rfl) (lx_k0 (i := 34) rfl) (lx_k0 (i := 35) rfl) rfl
theorem dL_law_36 : decode cL_law 36 = .ok (.aload_n 0, 1) := lx_o42 (lx_k0 (i := 36) rfl)
theorem dL_law_37 : decode cL_law 37 = .ok (.iload 4, 2) := lx_o21 (lx_k0 (i := 37) rfl) (lx_k0 (i := 38) rfl)
theorem dL_law_39 : decode cL_law 39 = .ok (.iaload, 1) := lx_o46 (lx_k0 (i := 39) rfl)
theorem dL_law_40 : decode cL_law 40 = .ok (.bipush 63, 2) := lx_o16 (lx_k0 (i := 40) rfl) (lx_k0 (i := 41) rfl) rfl
theorem dL_law_42 : decode cL_law 42 = .ok (.iand, 1) := lx_o126 (lx_k0 (i := 42) rfl)
theorem dL_law_43 : decode cL_law 43 = .ok (.tableswitch 1706 0 44 #[193, 261, 313, 365, 405, 457, 497, 525, 577, 617, 693, 721, 761, 801, 841, 881, 909, 937, 977, 1017, 1057, 1085, 1113, 1141, 1169, 1197, 1225, 1277, 1290, 1303, 1328, 1353, 1381, 1394, 1422, 1462, 1502, 1530, 1558, 1586, 1611, 1639, 1667, 1680, 1693], 193) := by decide +kernel
theorem dL_law_236 : decode cL_law 236 = .ok (.aload_n 1, 1) := lx_o43 (lx_k3 (i := 44) rfl)
theorem dL_law_237 : decode cL_law 237 = .ok (.aload_n 0, 1) := lx_o42 (lx_k3 (i := 45) rfl)
theorem dL_law_238 : decode cL_law 238 = .ok (.iload 4, 2) := lx_o21 (lx_k3 (i := 46) rfl) (lx_k3 (i := 47) rfl)
theorem dL_law_240 : decode cL_law 240 = .ok (.iconst 1, 1) := lx_o4 (lx_k3 (i := 48) rfl)
theorem dL_law_241 : decode cL_law 241 = .ok (.iadd, 1) := lx_o96 (lx_k3 (i := 49) rfl)
theorem dL_law_242 : decode cL_law 242 = .ok (.iaload, 1) := lx_o46 (lx_k3 (i := 50) rfl)
theorem dL_law_243 : decode cL_law 243 = .ok (.aload_n 0, 1) := lx_o42 (lx_k3 (i := 51) rfl)
theorem dL_law_244 : decode cL_law 244 = .ok (.iload 4, 2) := lx_o21 (lx_k3 (i := 52) rfl) (lx_k3 (i := 53) rfl)
theorem dL_law_246 : decode cL_law 246 = .ok (.iconst 2, 1) := lx_o5 (lx_k3 (i := 54) rfl)
theorem dL_law_247 : decode cL_law 247 = .ok (.iadd, 1) := lx_o96 (lx_k3 (i := 55) rfl)
theorem dL_law_248 : decode cL_law 248 = .ok (.iaload, 1) := lx_o46 (lx_k3 (i := 56) rfl)
theorem dL_law_249 : decode cL_law 249 = .ok (.ifCond .eq 7, 3) := lx_o153 (lx_k3 (i := 57) rfl) (lx_k3 (i := 58) rfl) (lx_k3 (i := 59) rfl) rfl
theorem dL_law_252 : decode cL_law 252 = .ok (.iconst 1, 1) := lx_o4 (lx_k3 (i := 60) rfl)
theorem dL_law_253 : decode cL_law 253 = .ok (.goto 4, 3) := lx_o167 (lx_k3 (i := 61) rfl) (lx_k3 (i := 62) rfl) (lx_k3 (i := 63) rfl) rfl
theorem dL_law_256 : decode cL_law 256 = .ok (.iconst 0, 1) := lx_o3 (lx_k4 (i := 0) rfl)
theorem dL_law_257 : decode cL_law 257 = .ok (.aload_n 0, 1) := lx_o42 (lx_k4 (i := 1) rfl)
theorem dL_law_258 : decode cL_law 258 = .ok (.iload 4, 2) := lx_o21 (lx_k4 (i := 2) rfl) (lx_k4 (i := 3) rfl)
theorem dL_law_260 : decode cL_law 260 = .ok (.iconst 3, 1) := lx_o6 (lx_k4 (i := 4) rfl)
theorem dL_law_261 : decode cL_law 261 = .ok (.iadd, 1) := lx_o96 (lx_k4 (i := 5) rfl)
theorem dL_law_262 : decode cL_law 262 = .ok (.iaload, 1) := lx_o46 (lx_k4 (i := 6) rfl)
theorem dL_law_263 : decode cL_law 263 = .ok (.aload_n 3, 1) := lx_o45 (lx_k4 (i := 7) rfl)
theorem dL_law_264 : decode cL_law 264 = .ok (.invokestatic 146, 3) := lx_o184 (lx_k4 (i := 8) rfl) (lx_k4 (i := 9) rfl) (lx_k4 (i := 10) rfl) rfl
theorem dL_law_267 : decode cL_law 267 = .ok (.istore 5, 2) := lx_o54 (lx_k4 (i := 11) rfl) (lx_k4 (i := 12) rfl)
theorem dL_law_269 : decode cL_law 269 = .ok (.aload_n 2, 1) := lx_o44 (lx_k4 (i := 13) rfl)
theorem dL_law_270 : decode cL_law 270 = .ok (.aload_n 0, 1) := lx_o42 (lx_k4 (i := 14) rfl)
theorem dL_law_271 : decode cL_law 271 = .ok (.iload 4, 2) := lx_o21 (lx_k4 (i := 15) rfl) (lx_k4 (i := 16) rfl)
theorem dL_law_273 : decode cL_law 273 = .ok (.iconst 1, 1) := lx_o4 (lx_k4 (i := 17) rfl)
theorem dL_law_274 : decode cL_law 274 = .ok (.iadd, 1) := lx_o96 (lx_k4 (i := 18) rfl)
theorem dL_law_275 : decode cL_law 275 = .ok (.iaload, 1) := lx_o46 (lx_k4 (i := 19) rfl)
theorem dL_law_276 : decode cL_law 276 = .ok (.aload_n 0, 1) := lx_o42 (lx_k4 (i := 20) rfl)
theorem dL_law_277 : decode cL_law 277 = .ok (.iload 4, 2) := lx_o21 (lx_k4 (i := 21) rfl) (lx_k4 (i := 22) rfl)
theorem dL_law_279 : decode cL_law 279 = .ok (.iconst 2, 1) := lx_o5 (lx_k4 (i := 23) rfl)
theorem dL_law_280 : decode cL_law 280 = .ok (.iadd, 1) := lx_o96 (lx_k4 (i := 24) rfl)
theorem dL_law_281 : decode cL_law 281 = .ok (.iaload, 1) := lx_o46 (lx_k4 (i := 25) rfl)
theorem dL_law_282 : decode cL_law 282 = .ok (.ifCond .eq 7, 3) := lx_o153 (lx_k4 (i := 26) rfl) (lx_k4 (i := 27) rfl) (lx_k4 (i := 28) rfl) rfl
theorem dL_law_285 : decode cL_law 285 = .ok (.iconst 1, 1) := lx_o4 (lx_k4 (i := 29) rfl)
theorem dL_law_286 : decode cL_law 286 = .ok (.goto 4, 3) := lx_o167 (lx_k4 (i := 30) rfl) (lx_k4 (i := 31) rfl) (lx_k4 (i := 32) rfl) rfl
theorem dL_law_289 : decode cL_law 289 = .ok (.iconst 0, 1) := lx_o3 (lx_k4 (i := 33) rfl)
theorem dL_law_290 : decode cL_law 290 = .ok (.aload_n 0, 1) := lx_o42 (lx_k4 (i := 34) rfl)
theorem dL_law_291 : decode cL_law 291 = .ok (.iload 4, 2) := lx_o21 (lx_k4 (i := 35) rfl) (lx_k4 (i := 36) rfl)
theorem dL_law_293 : decode cL_law 293 = .ok (.iconst 3, 1) := lx_o6 (lx_k4 (i := 37) rfl)
theorem dL_law_294 : decode cL_law 294 = .ok (.iadd, 1) := lx_o96 (lx_k4 (i := 38) rfl)
theorem dL_law_295 : decode cL_law 295 = .ok (.iaload, 1) := lx_o46 (lx_k4 (i := 39) rfl)
theorem dL_law_296 : decode cL_law 296 = .ok (.invokevirtual 151, 3) := lx_o182 (lx_k4 (i := 40) rfl) (lx_k4 (i := 41) rfl) (lx_k4 (i := 42) rfl) rfl
theorem dL_law_299 : decode cL_law 299 = .ok (.istore 6, 2) := lx_o54 (lx_k4 (i := 43) rfl) (lx_k4 (i := 44) rfl)
theorem dL_law_301 : decode cL_law 301 = .ok (.goto 1448, 3) := lx_o167 (lx_k4 (i := 45) rfl) (lx_k4 (i := 46) rfl) (lx_k4 (i := 47) rfl) rfl
theorem dL_law_304 : decode cL_law 304 = .ok (.aload_n 1, 1) := lx_o43 (lx_k4 (i := 48) rfl)
theorem dL_law_305 : decode cL_law 305 = .ok (.aload_n 0, 1) := lx_o42 (lx_k4 (i := 49) rfl)
theorem dL_law_306 : decode cL_law 306 = .ok (.iload 4, 2) := lx_o21 (lx_k4 (i := 50) rfl) (lx_k4 (i := 51) rfl)
theorem dL_law_308 : decode cL_law 308 = .ok (.iconst 1, 1) := lx_o4 (lx_k4 (i := 52) rfl)
theorem dL_law_309 : decode cL_law 309 = .ok (.iadd, 1) := lx_o96 (lx_k4 (i := 53) rfl)
theorem dL_law_310 : decode cL_law 310 = .ok (.iaload, 1) := lx_o46 (lx_k4 (i := 54) rfl)
theorem dL_law_311 : decode cL_law 311 = .ok (.aload_n 0, 1) := lx_o42 (lx_k4 (i := 55) rfl)
theorem dL_law_312 : decode cL_law 312 = .ok (.iload 4, 2) := lx_o21 (lx_k4 (i := 56) rfl) (lx_k4 (i := 57) rfl)
theorem dL_law_314 : decode cL_law 314 = .ok (.iconst 2, 1) := lx_o5 (lx_k4 (i := 58) rfl)
theorem dL_law_315 : decode cL_law 315 = .ok (.iadd, 1) := lx_o96 (lx_k4 (i := 59) rfl)
theorem dL_law_316 : decode cL_law 316 = .ok (.iaload, 1) := lx_o46 (lx_k4 (i := 60) rfl)
theorem dL_law_317 : decode cL_law 317 = .ok (.aload_n 0, 1) := lx_o42 (lx_k4 (i := 61) rfl)
theorem dL_law_318 : decode cL_law 318 = .ok (.iload 4, 2) := lx_o21 (lx_k4 (i := 62) rfl) (lx_k4 (i := 63) rfl)
theorem dL_law_320 : decode cL_law 320 = .ok (.iconst 3, 1) := lx_o6 (lx_k5 (i := 0) rfl)
theorem dL_law_321 : decode cL_law 321 = .ok (.iadd, 1) := lx_o96 (lx_k5 (i := 1) rfl)
theorem dL_law_322 : decode cL_law 322 = .ok (.iaload, 1) := lx_o46 (lx_k5 (i := 2) rfl)
theorem dL_law_323 : decode cL_law 323 = .ok (.aload_n 3, 1) := lx_o45 (lx_k5 (i := 3) rfl)
theorem dL_law_324 : decode cL_law 324 = .ok (.invokestatic 152, 3) := lx_o184 (lx_k5 (i := 4) rfl) (lx_k5 (i := 5) rfl) (lx_k5 (i := 6) rfl) rfl
theorem dL_law_327 : decode cL_law 327 = .ok (.istore 5, 2) := lx_o54 (lx_k5 (i := 7) rfl) (lx_k5 (i := 8) rfl)
theorem dL_law_329 : decode cL_law 329 = .ok (.aload_n 2, 1) := lx_o44 (lx_k5 (i := 9) rfl)
theorem dL_law_330 : decode cL_law 330 = .ok (.aload_n 0, 1) := lx_o42 (lx_k5 (i := 10) rfl)
theorem dL_law_331 : decode cL_law 331 = .ok (.iload 4, 2) := lx_o21 (lx_k5 (i := 11) rfl) (lx_k5 (i := 12) rfl)
theorem dL_law_333 : decode cL_law 333 = .ok (.iconst 1, 1) := lx_o4 (lx_k5 (i := 13) rfl)
theorem dL_law_334 : decode cL_law 334 = .ok (.iadd, 1) := lx_o96 (lx_k5 (i := 14) rfl)
theorem dL_law_335 : decode cL_law 335 = .ok (.iaload, 1) := lx_o46 (lx_k5 (i := 15) rfl)
theorem dL_law_336 : decode cL_law 336 = .ok (.aload_n 0, 1) := lx_o42 (lx_k5 (i := 16) rfl)
theorem dL_law_337 : decode cL_law 337 = .ok (.iload 4, 2) := lx_o21 (lx_k5 (i := 17) rfl) (lx_k5 (i := 18) rfl)
theorem dL_law_339 : decode cL_law 339 = .ok (.iconst 2, 1) := lx_o5 (lx_k5 (i := 19) rfl)
theorem dL_law_340 : decode cL_law 340 = .ok (.iadd, 1) := lx_o96 (lx_k5 (i := 20) rfl)
theorem dL_law_341 : decode cL_law 341 = .ok (.iaload, 1) := lx_o46 (lx_k5 (i := 21) rfl)
theorem dL_law_342 : decode cL_law 342 = .ok (.aload_n 0, 1) := lx_o42 (lx_k5 (i := 22) rfl)
theorem dL_law_343 : decode cL_law 343 = .ok (.iload 4, 2) := lx_o21 (lx_k5 (i := 23) rfl) (lx_k5 (i := 24) rfl)
theorem dL_law_345 : decode cL_law 345 = .ok (.iconst 3, 1) := lx_o6 (lx_k5 (i := 25) rfl)
theorem dL_law_346 : decode cL_law 346 = .ok (.iadd, 1) := lx_o96 (lx_k5 (i := 26) rfl)
theorem dL_law_347 : decode cL_law 347 = .ok (.iaload, 1) := lx_o46 (lx_k5 (i := 27) rfl)
theorem dL_law_348 : decode cL_law 348 = .ok (.invokevirtual 155, 3) := lx_o182 (lx_k5 (i := 28) rfl) (lx_k5 (i := 29) rfl) (lx_k5 (i := 30) rfl) rfl
theorem dL_law_351 : decode cL_law 351 = .ok (.istore 6, 2) := lx_o54 (lx_k5 (i := 31) rfl) (lx_k5 (i := 32) rfl)
theorem dL_law_353 : decode cL_law 353 = .ok (.goto 1396, 3) := lx_o167 (lx_k5 (i := 33) rfl) (lx_k5 (i := 34) rfl) (lx_k5 (i := 35) rfl) rfl
theorem dL_law_356 : decode cL_law 356 = .ok (.aload_n 1, 1) := lx_o43 (lx_k5 (i := 36) rfl)
theorem dL_law_357 : decode cL_law 357 = .ok (.aload_n 0, 1) := lx_o42 (lx_k5 (i := 37) rfl)
theorem dL_law_358 : decode cL_law 358 = .ok (.iload 4, 2) := lx_o21 (lx_k5 (i := 38) rfl) (lx_k5 (i := 39) rfl)
theorem dL_law_360 : decode cL_law 360 = .ok (.iconst 1, 1) := lx_o4 (lx_k5 (i := 40) rfl)
theorem dL_law_361 : decode cL_law 361 = .ok (.iadd, 1) := lx_o96 (lx_k5 (i := 41) rfl)
theorem dL_law_362 : decode cL_law 362 = .ok (.iaload, 1) := lx_o46 (lx_k5 (i := 42) rfl)
theorem dL_law_363 : decode cL_law 363 = .ok (.aload_n 0, 1) := lx_o42 (lx_k5 (i := 43) rfl)
theorem dL_law_364 : decode cL_law 364 = .ok (.iload 4, 2) := lx_o21 (lx_k5 (i := 44) rfl) (lx_k5 (i := 45) rfl)
theorem dL_law_366 : decode cL_law 366 = .ok (.iconst 2, 1) := lx_o5 (lx_k5 (i := 46) rfl)
theorem dL_law_367 : decode cL_law 367 = .ok (.iadd, 1) := lx_o96 (lx_k5 (i := 47) rfl)
theorem dL_law_368 : decode cL_law 368 = .ok (.iaload, 1) := lx_o46 (lx_k5 (i := 48) rfl)
theorem dL_law_369 : decode cL_law 369 = .ok (.aload_n 0, 1) := lx_o42 (lx_k5 (i := 49) rfl)
theorem dL_law_370 : decode cL_law 370 = .ok (.iload 4, 2) := lx_o21 (lx_k5 (i := 50) rfl) (lx_k5 (i := 51) rfl)
theorem dL_law_372 : decode cL_law 372 = .ok (.iconst 3, 1) := lx_o6 (lx_k5 (i := 52) rfl)
theorem dL_law_373 : decode cL_law 373 = .ok (.iadd, 1) := lx_o96 (lx_k5 (i := 53) rfl)
theorem dL_law_374 : decode cL_law 374 = .ok (.iaload, 1) := lx_o46 (lx_k5 (i := 54) rfl)
theorem dL_law_375 : decode cL_law 375 = .ok (.aload_n 3, 1) := lx_o45 (lx_k5 (i := 55) rfl)
theorem dL_law_376 : decode cL_law 376 = .ok (.invokestatic 156, 3) := lx_o184 (lx_k5 (i := 56) rfl) (lx_k5 (i := 57) rfl) (lx_k5 (i := 58) rfl) rfl
theorem dL_law_379 : decode cL_law 379 = .ok (.istore 5, 2) := lx_o54 (lx_k5 (i := 59) rfl) (lx_k5 (i := 60) rfl)
theorem dL_law_381 : decode cL_law 381 = .ok (.aload_n 2, 1) := lx_o44 (lx_k5 (i := 61) rfl)
theorem dL_law_382 : decode cL_law 382 = .ok (.aload_n 0, 1) := lx_o42 (lx_k5 (i := 62) rfl)
theorem dL_law_383 : decode cL_law 383 = .ok (.iload 4, 2) := lx_o21 (lx_k5 (i := 63) rfl) (lx_k6 (i := 0) rfl)
theorem dL_law_385 : decode cL_law 385 = .ok (.iconst 1, 1) := lx_o4 (lx_k6 (i := 1) rfl)
theorem dL_law_386 : decode cL_law 386 = .ok (.iadd, 1) := lx_o96 (lx_k6 (i := 2) rfl)
theorem dL_law_387 : decode cL_law 387 = .ok (.iaload, 1) := lx_o46 (lx_k6 (i := 3) rfl)
theorem dL_law_388 : decode cL_law 388 = .ok (.aload_n 0, 1) := lx_o42 (lx_k6 (i := 4) rfl)
theorem dL_law_389 : decode cL_law 389 = .ok (.iload 4, 2) := lx_o21 (lx_k6 (i := 5) rfl) (lx_k6 (i := 6) rfl)
theorem dL_law_391 : decode cL_law 391 = .ok (.iconst 2, 1) := lx_o5 (lx_k6 (i := 7) rfl)
theorem dL_law_392 : decode cL_law 392 = .ok (.iadd, 1) := lx_o96 (lx_k6 (i := 8) rfl)
theorem dL_law_393 : decode cL_law 393 = .ok (.iaload, 1) := lx_o46 (lx_k6 (i := 9) rfl)
theorem dL_law_394 : decode cL_law 394 = .ok (.aload_n 0, 1) := lx_o42 (lx_k6 (i := 10) rfl)
theorem dL_law_395 : decode cL_law 395 = .ok (.iload 4, 2) := lx_o21 (lx_k6 (i := 11) rfl) (lx_k6 (i := 12) rfl)
theorem dL_law_397 : decode cL_law 397 = .ok (.iconst 3, 1) := lx_o6 (lx_k6 (i := 13) rfl)
theorem dL_law_398 : decode cL_law 398 = .ok (.iadd, 1) := lx_o96 (lx_k6 (i := 14) rfl)
theorem dL_law_399 : decode cL_law 399 = .ok (.iaload, 1) := lx_o46 (lx_k6 (i := 15) rfl)
theorem dL_law_400 : decode cL_law 400 = .ok (.invokevirtual 158, 3) := lx_o182 (lx_k6 (i := 16) rfl) (lx_k6 (i := 17) rfl) (lx_k6 (i := 18) rfl) rfl
theorem dL_law_403 : decode cL_law 403 = .ok (.istore 6, 2) := lx_o54 (lx_k6 (i := 19) rfl) (lx_k6 (i := 20) rfl)
theorem dL_law_405 : decode cL_law 405 = .ok (.goto 1344, 3) := lx_o167 (lx_k6 (i := 21) rfl) (lx_k6 (i := 22) rfl) (lx_k6 (i := 23) rfl) rfl
theorem dL_law_408 : decode cL_law 408 = .ok (.aload_n 1, 1) := lx_o43 (lx_k6 (i := 24) rfl)
theorem dL_law_409 : decode cL_law 409 = .ok (.aload_n 0, 1) := lx_o42 (lx_k6 (i := 25) rfl)
theorem dL_law_410 : decode cL_law 410 = .ok (.iload 4, 2) := lx_o21 (lx_k6 (i := 26) rfl) (lx_k6 (i := 27) rfl)
theorem dL_law_412 : decode cL_law 412 = .ok (.iconst 1, 1) := lx_o4 (lx_k6 (i := 28) rfl)
theorem dL_law_413 : decode cL_law 413 = .ok (.iadd, 1) := lx_o96 (lx_k6 (i := 29) rfl)
theorem dL_law_414 : decode cL_law 414 = .ok (.iaload, 1) := lx_o46 (lx_k6 (i := 30) rfl)
theorem dL_law_415 : decode cL_law 415 = .ok (.aload_n 0, 1) := lx_o42 (lx_k6 (i := 31) rfl)
theorem dL_law_416 : decode cL_law 416 = .ok (.iload 4, 2) := lx_o21 (lx_k6 (i := 32) rfl) (lx_k6 (i := 33) rfl)
theorem dL_law_418 : decode cL_law 418 = .ok (.iconst 2, 1) := lx_o5 (lx_k6 (i := 34) rfl)
theorem dL_law_419 : decode cL_law 419 = .ok (.iadd, 1) := lx_o96 (lx_k6 (i := 35) rfl)
theorem dL_law_420 : decode cL_law 420 = .ok (.iaload, 1) := lx_o46 (lx_k6 (i := 36) rfl)
theorem dL_law_421 : decode cL_law 421 = .ok (.aload_n 3, 1) := lx_o45 (lx_k6 (i := 37) rfl)
theorem dL_law_422 : decode cL_law 422 = .ok (.invokestatic 159, 3) := lx_o184 (lx_k6 (i := 38) rfl) (lx_k6 (i := 39) rfl) (lx_k6 (i := 40) rfl) rfl
theorem dL_law_425 : decode cL_law 425 = .ok (.istore 5, 2) := lx_o54 (lx_k6 (i := 41) rfl) (lx_k6 (i := 42) rfl)
theorem dL_law_427 : decode cL_law 427 = .ok (.aload_n 2, 1) := lx_o44 (lx_k6 (i := 43) rfl)
theorem dL_law_428 : decode cL_law 428 = .ok (.aload_n 0, 1) := lx_o42 (lx_k6 (i := 44) rfl)
theorem dL_law_429 : decode cL_law 429 = .ok (.iload 4, 2) := lx_o21 (lx_k6 (i := 45) rfl) (lx_k6 (i := 46) rfl)
theorem dL_law_431 : decode cL_law 431 = .ok (.iconst 1, 1) := lx_o4 (lx_k6 (i := 47) rfl)
theorem dL_law_432 : decode cL_law 432 = .ok (.iadd, 1) := lx_o96 (lx_k6 (i := 48) rfl)
theorem dL_law_433 : decode cL_law 433 = .ok (.iaload, 1) := lx_o46 (lx_k6 (i := 49) rfl)
theorem dL_law_434 : decode cL_law 434 = .ok (.aload_n 0, 1) := lx_o42 (lx_k6 (i := 50) rfl)
theorem dL_law_435 : decode cL_law 435 = .ok (.iload 4, 2) := lx_o21 (lx_k6 (i := 51) rfl) (lx_k6 (i := 52) rfl)
theorem dL_law_437 : decode cL_law 437 = .ok (.iconst 2, 1) := lx_o5 (lx_k6 (i := 53) rfl)
theorem dL_law_438 : decode cL_law 438 = .ok (.iadd, 1) := lx_o96 (lx_k6 (i := 54) rfl)
theorem dL_law_439 : decode cL_law 439 = .ok (.iaload, 1) := lx_o46 (lx_k6 (i := 55) rfl)
theorem dL_law_440 : decode cL_law 440 = .ok (.invokevirtual 162, 3) := lx_o182 (lx_k6 (i := 56) rfl) (lx_k6 (i := 57) rfl) (lx_k6 (i := 58) rfl) rfl
theorem dL_law_443 : decode cL_law 443 = .ok (.istore 6, 2) := lx_o54 (lx_k6 (i := 59) rfl) (lx_k6 (i := 60) rfl)
theorem dL_law_445 : decode cL_law 445 = .ok (.goto 1304, 3) := lx_o167 (lx_k6 (i := 61) rfl) (lx_k6 (i := 62) rfl) (lx_k6 (i := 63) rfl) rfl
theorem dL_law_448 : decode cL_law 448 = .ok (.aload_n 1, 1) := lx_o43 (lx_k7 (i := 0) rfl)
theorem dL_law_449 : decode cL_law 449 = .ok (.aload_n 0, 1) := lx_o42 (lx_k7 (i := 1) rfl)
theorem dL_law_450 : decode cL_law 450 = .ok (.iload 4, 2) := lx_o21 (lx_k7 (i := 2) rfl) (lx_k7 (i := 3) rfl)
theorem dL_law_452 : decode cL_law 452 = .ok (.iconst 1, 1) := lx_o4 (lx_k7 (i := 4) rfl)
theorem dL_law_453 : decode cL_law 453 = .ok (.iadd, 1) := lx_o96 (lx_k7 (i := 5) rfl)
theorem dL_law_454 : decode cL_law 454 = .ok (.iaload, 1) := lx_o46 (lx_k7 (i := 6) rfl)
theorem dL_law_455 : decode cL_law 455 = .ok (.aload_n 0, 1) := lx_o42 (lx_k7 (i := 7) rfl)
theorem dL_law_456 : decode cL_law 456 = .ok (.iload 4, 2) := lx_o21 (lx_k7 (i := 8) rfl) (lx_k7 (i := 9) rfl)
theorem dL_law_458 : decode cL_law 458 = .ok (.iconst 2, 1) := lx_o5 (lx_k7 (i := 10) rfl)
theorem dL_law_459 : decode cL_law 459 = .ok (.iadd, 1) := lx_o96 (lx_k7 (i := 11) rfl)
theorem dL_law_460 : decode cL_law 460 = .ok (.iaload, 1) := lx_o46 (lx_k7 (i := 12) rfl)
theorem dL_law_461 : decode cL_law 461 = .ok (.aload_n 0, 1) := lx_o42 (lx_k7 (i := 13) rfl)
theorem dL_law_462 : decode cL_law 462 = .ok (.iload 4, 2) := lx_o21 (lx_k7 (i := 14) rfl) (lx_k7 (i := 15) rfl)
theorem dL_law_464 : decode cL_law 464 = .ok (.iconst 3, 1) := lx_o6 (lx_k7 (i := 16) rfl)
theorem dL_law_465 : decode cL_law 465 = .ok (.iadd, 1) := lx_o96 (lx_k7 (i := 17) rfl)
theorem dL_law_466 : decode cL_law 466 = .ok (.iaload, 1) := lx_o46 (lx_k7 (i := 18) rfl)
theorem dL_law_467 : decode cL_law 467 = .ok (.aload_n 3, 1) := lx_o45 (lx_k7 (i := 19) rfl)
theorem dL_law_468 : decode cL_law 468 = .ok (.invokestatic 163, 3) := lx_o184 (lx_k7 (i := 20) rfl) (lx_k7 (i := 21) rfl) (lx_k7 (i := 22) rfl) rfl
theorem dL_law_471 : decode cL_law 471 = .ok (.istore 5, 2) := lx_o54 (lx_k7 (i := 23) rfl) (lx_k7 (i := 24) rfl)
theorem dL_law_473 : decode cL_law 473 = .ok (.aload_n 2, 1) := lx_o44 (lx_k7 (i := 25) rfl)
theorem dL_law_474 : decode cL_law 474 = .ok (.aload_n 0, 1) := lx_o42 (lx_k7 (i := 26) rfl)
theorem dL_law_475 : decode cL_law 475 = .ok (.iload 4, 2) := lx_o21 (lx_k7 (i := 27) rfl) (lx_k7 (i := 28) rfl)
theorem dL_law_477 : decode cL_law 477 = .ok (.iconst 1, 1) := lx_o4 (lx_k7 (i := 29) rfl)
theorem dL_law_478 : decode cL_law 478 = .ok (.iadd, 1) := lx_o96 (lx_k7 (i := 30) rfl)
theorem dL_law_479 : decode cL_law 479 = .ok (.iaload, 1) := lx_o46 (lx_k7 (i := 31) rfl)
theorem dL_law_480 : decode cL_law 480 = .ok (.aload_n 0, 1) := lx_o42 (lx_k7 (i := 32) rfl)
theorem dL_law_481 : decode cL_law 481 = .ok (.iload 4, 2) := lx_o21 (lx_k7 (i := 33) rfl) (lx_k7 (i := 34) rfl)
theorem dL_law_483 : decode cL_law 483 = .ok (.iconst 2, 1) := lx_o5 (lx_k7 (i := 35) rfl)
theorem dL_law_484 : decode cL_law 484 = .ok (.iadd, 1) := lx_o96 (lx_k7 (i := 36) rfl)
theorem dL_law_485 : decode cL_law 485 = .ok (.iaload, 1) := lx_o46 (lx_k7 (i := 37) rfl)
theorem dL_law_486 : decode cL_law 486 = .ok (.aload_n 0, 1) := lx_o42 (lx_k7 (i := 38) rfl)
theorem dL_law_487 : decode cL_law 487 = .ok (.iload 4, 2) := lx_o21 (lx_k7 (i := 39) rfl) (lx_k7 (i := 40) rfl)
theorem dL_law_489 : decode cL_law 489 = .ok (.iconst 3, 1) := lx_o6 (lx_k7 (i := 41) rfl)
theorem dL_law_490 : decode cL_law 490 = .ok (.iadd, 1) := lx_o96 (lx_k7 (i := 42) rfl)
theorem dL_law_491 : decode cL_law 491 = .ok (.iaload, 1) := lx_o46 (lx_k7 (i := 43) rfl)
theorem dL_law_492 : decode cL_law 492 = .ok (.invokevirtual 165, 3) := lx_o182 (lx_k7 (i := 44) rfl) (lx_k7 (i := 45) rfl) (lx_k7 (i := 46) rfl) rfl
theorem dL_law_495 : decode cL_law 495 = .ok (.istore 6, 2) := lx_o54 (lx_k7 (i := 47) rfl) (lx_k7 (i := 48) rfl)
theorem dL_law_497 : decode cL_law 497 = .ok (.goto 1252, 3) := lx_o167 (lx_k7 (i := 49) rfl) (lx_k7 (i := 50) rfl) (lx_k7 (i := 51) rfl) rfl
theorem dL_law_500 : decode cL_law 500 = .ok (.aload_n 1, 1) := lx_o43 (lx_k7 (i := 52) rfl)
theorem dL_law_501 : decode cL_law 501 = .ok (.aload_n 0, 1) := lx_o42 (lx_k7 (i := 53) rfl)
theorem dL_law_502 : decode cL_law 502 = .ok (.iload 4, 2) := lx_o21 (lx_k7 (i := 54) rfl) (lx_k7 (i := 55) rfl)
theorem dL_law_504 : decode cL_law 504 = .ok (.iconst 1, 1) := lx_o4 (lx_k7 (i := 56) rfl)
theorem dL_law_505 : decode cL_law 505 = .ok (.iadd, 1) := lx_o96 (lx_k7 (i := 57) rfl)
theorem dL_law_506 : decode cL_law 506 = .ok (.iaload, 1) := lx_o46 (lx_k7 (i := 58) rfl)
theorem dL_law_507 : decode cL_law 507 = .ok (.aload_n 0, 1) := lx_o42 (lx_k7 (i := 59) rfl)
theorem dL_law_508 : decode cL_law 508 = .ok (.iload 4, 2) := lx_o21 (lx_k7 (i := 60) rfl) (lx_k7 (i := 61) rfl)
theorem dL_law_510 : decode cL_law 510 = .ok (.iconst 2, 1) := lx_o5 (lx_k7 (i := 62) rfl)
theorem dL_law_511 : decode cL_law 511 = .ok (.iadd, 1) := lx_o96 (lx_k7 (i := 63) rfl)
theorem dL_law_512 : decode cL_law 512 = .ok (.iaload, 1) := lx_o46 (lx_k8 (i := 0) rfl)
theorem dL_law_513 : decode cL_law 513 = .ok (.aload_n 3, 1) := lx_o45 (lx_k8 (i := 1) rfl)
theorem dL_law_514 : decode cL_law 514 = .ok (.invokestatic 166, 3) := lx_o184 (lx_k8 (i := 2) rfl) (lx_k8 (i := 3) rfl) (lx_k8 (i := 4) rfl) rfl
theorem dL_law_517 : decode cL_law 517 = .ok (.istore 5, 2) := lx_o54 (lx_k8 (i := 5) rfl) (lx_k8 (i := 6) rfl)
theorem dL_law_519 : decode cL_law 519 = .ok (.aload_n 2, 1) := lx_o44 (lx_k8 (i := 7) rfl)
theorem dL_law_520 : decode cL_law 520 = .ok (.aload_n 0, 1) := lx_o42 (lx_k8 (i := 8) rfl)
theorem dL_law_521 : decode cL_law 521 = .ok (.iload 4, 2) := lx_o21 (lx_k8 (i := 9) rfl) (lx_k8 (i := 10) rfl)
theorem dL_law_523 : decode cL_law 523 = .ok (.iconst 1, 1) := lx_o4 (lx_k8 (i := 11) rfl)
theorem dL_law_524 : decode cL_law 524 = .ok (.iadd, 1) := lx_o96 (lx_k8 (i := 12) rfl)
theorem dL_law_525 : decode cL_law 525 = .ok (.iaload, 1) := lx_o46 (lx_k8 (i := 13) rfl)
theorem dL_law_526 : decode cL_law 526 = .ok (.aload_n 0, 1) := lx_o42 (lx_k8 (i := 14) rfl)
theorem dL_law_527 : decode cL_law 527 = .ok (.iload 4, 2) := lx_o21 (lx_k8 (i := 15) rfl) (lx_k8 (i := 16) rfl)
theorem dL_law_529 : decode cL_law 529 = .ok (.iconst 2, 1) := lx_o5 (lx_k8 (i := 17) rfl)
theorem dL_law_530 : decode cL_law 530 = .ok (.iadd, 1) := lx_o96 (lx_k8 (i := 18) rfl)
theorem dL_law_531 : decode cL_law 531 = .ok (.iaload, 1) := lx_o46 (lx_k8 (i := 19) rfl)
theorem dL_law_532 : decode cL_law 532 = .ok (.invokevirtual 168, 3) := lx_o182 (lx_k8 (i := 20) rfl) (lx_k8 (i := 21) rfl) (lx_k8 (i := 22) rfl) rfl
theorem dL_law_535 : decode cL_law 535 = .ok (.istore 6, 2) := lx_o54 (lx_k8 (i := 23) rfl) (lx_k8 (i := 24) rfl)
theorem dL_law_537 : decode cL_law 537 = .ok (.goto 1212, 3) := lx_o167 (lx_k8 (i := 25) rfl) (lx_k8 (i := 26) rfl) (lx_k8 (i := 27) rfl) rfl
theorem dL_law_540 : decode cL_law 540 = .ok (.aload_n 1, 1) := lx_o43 (lx_k8 (i := 28) rfl)
theorem dL_law_541 : decode cL_law 541 = .ok (.aload_n 0, 1) := lx_o42 (lx_k8 (i := 29) rfl)
theorem dL_law_542 : decode cL_law 542 = .ok (.iload 4, 2) := lx_o21 (lx_k8 (i := 30) rfl) (lx_k8 (i := 31) rfl)
theorem dL_law_544 : decode cL_law 544 = .ok (.iconst 1, 1) := lx_o4 (lx_k8 (i := 32) rfl)
theorem dL_law_545 : decode cL_law 545 = .ok (.iadd, 1) := lx_o96 (lx_k8 (i := 33) rfl)
theorem dL_law_546 : decode cL_law 546 = .ok (.iaload, 1) := lx_o46 (lx_k8 (i := 34) rfl)
theorem dL_law_547 : decode cL_law 547 = .ok (.aload_n 3, 1) := lx_o45 (lx_k8 (i := 35) rfl)
theorem dL_law_548 : decode cL_law 548 = .ok (.invokestatic 169, 3) := lx_o184 (lx_k8 (i := 36) rfl) (lx_k8 (i := 37) rfl) (lx_k8 (i := 38) rfl) rfl
theorem dL_law_551 : decode cL_law 551 = .ok (.istore 5, 2) := lx_o54 (lx_k8 (i := 39) rfl) (lx_k8 (i := 40) rfl)
theorem dL_law_553 : decode cL_law 553 = .ok (.aload_n 2, 1) := lx_o44 (lx_k8 (i := 41) rfl)
theorem dL_law_554 : decode cL_law 554 = .ok (.aload_n 0, 1) := lx_o42 (lx_k8 (i := 42) rfl)
theorem dL_law_555 : decode cL_law 555 = .ok (.iload 4, 2) := lx_o21 (lx_k8 (i := 43) rfl) (lx_k8 (i := 44) rfl)
theorem dL_law_557 : decode cL_law 557 = .ok (.iconst 1, 1) := lx_o4 (lx_k8 (i := 45) rfl)
theorem dL_law_558 : decode cL_law 558 = .ok (.iadd, 1) := lx_o96 (lx_k8 (i := 46) rfl)
theorem dL_law_559 : decode cL_law 559 = .ok (.iaload, 1) := lx_o46 (lx_k8 (i := 47) rfl)
theorem dL_law_560 : decode cL_law 560 = .ok (.invokevirtual 172, 3) := lx_o182 (lx_k8 (i := 48) rfl) (lx_k8 (i := 49) rfl) (lx_k8 (i := 50) rfl) rfl
theorem dL_law_563 : decode cL_law 563 = .ok (.istore 6, 2) := lx_o54 (lx_k8 (i := 51) rfl) (lx_k8 (i := 52) rfl)
theorem dL_law_565 : decode cL_law 565 = .ok (.goto 1184, 3) := lx_o167 (lx_k8 (i := 53) rfl) (lx_k8 (i := 54) rfl) (lx_k8 (i := 55) rfl) rfl
theorem dL_law_568 : decode cL_law 568 = .ok (.aload_n 1, 1) := lx_o43 (lx_k8 (i := 56) rfl)
theorem dL_law_569 : decode cL_law 569 = .ok (.aload_n 0, 1) := lx_o42 (lx_k8 (i := 57) rfl)
theorem dL_law_570 : decode cL_law 570 = .ok (.iload 4, 2) := lx_o21 (lx_k8 (i := 58) rfl) (lx_k8 (i := 59) rfl)
theorem dL_law_572 : decode cL_law 572 = .ok (.iconst 1, 1) := lx_o4 (lx_k8 (i := 60) rfl)
theorem dL_law_573 : decode cL_law 573 = .ok (.iadd, 1) := lx_o96 (lx_k8 (i := 61) rfl)
theorem dL_law_574 : decode cL_law 574 = .ok (.iaload, 1) := lx_o46 (lx_k8 (i := 62) rfl)
theorem dL_law_575 : decode cL_law 575 = .ok (.aload_n 0, 1) := lx_o42 (lx_k8 (i := 63) rfl)
theorem dL_law_576 : decode cL_law 576 = .ok (.iload 4, 2) := lx_o21 (lx_k9 (i := 0) rfl) (lx_k9 (i := 1) rfl)
theorem dL_law_578 : decode cL_law 578 = .ok (.iconst 2, 1) := lx_o5 (lx_k9 (i := 2) rfl)
theorem dL_law_579 : decode cL_law 579 = .ok (.iadd, 1) := lx_o96 (lx_k9 (i := 3) rfl)
theorem dL_law_580 : decode cL_law 580 = .ok (.iaload, 1) := lx_o46 (lx_k9 (i := 4) rfl)
theorem dL_law_581 : decode cL_law 581 = .ok (.aload_n 0, 1) := lx_o42 (lx_k9 (i := 5) rfl)
theorem dL_law_582 : decode cL_law 582 = .ok (.iload 4, 2) := lx_o21 (lx_k9 (i := 6) rfl) (lx_k9 (i := 7) rfl)
theorem dL_law_584 : decode cL_law 584 = .ok (.iconst 3, 1) := lx_o6 (lx_k9 (i := 8) rfl)
theorem dL_law_585 : decode cL_law 585 = .ok (.iadd, 1) := lx_o96 (lx_k9 (i := 9) rfl)
theorem dL_law_586 : decode cL_law 586 = .ok (.iaload, 1) := lx_o46 (lx_k9 (i := 10) rfl)
theorem dL_law_587 : decode cL_law 587 = .ok (.aload_n 3, 1) := lx_o45 (lx_k9 (i := 11) rfl)
theorem dL_law_588 : decode cL_law 588 = .ok (.invokestatic 173, 3) := lx_o184 (lx_k9 (i := 12) rfl) (lx_k9 (i := 13) rfl) (lx_k9 (i := 14) rfl) rfl
theorem dL_law_591 : decode cL_law 591 = .ok (.istore 5, 2) := lx_o54 (lx_k9 (i := 15) rfl) (lx_k9 (i := 16) rfl)
theorem dL_law_593 : decode cL_law 593 = .ok (.aload_n 2, 1) := lx_o44 (lx_k9 (i := 17) rfl)
theorem dL_law_594 : decode cL_law 594 = .ok (.aload_n 0, 1) := lx_o42 (lx_k9 (i := 18) rfl)
theorem dL_law_595 : decode cL_law 595 = .ok (.iload 4, 2) := lx_o21 (lx_k9 (i := 19) rfl) (lx_k9 (i := 20) rfl)
theorem dL_law_597 : decode cL_law 597 = .ok (.iconst 1, 1) := lx_o4 (lx_k9 (i := 21) rfl)
theorem dL_law_598 : decode cL_law 598 = .ok (.iadd, 1) := lx_o96 (lx_k9 (i := 22) rfl)
theorem dL_law_599 : decode cL_law 599 = .ok (.iaload, 1) := lx_o46 (lx_k9 (i := 23) rfl)
theorem dL_law_600 : decode cL_law 600 = .ok (.aload_n 0, 1) := lx_o42 (lx_k9 (i := 24) rfl)
theorem dL_law_601 : decode cL_law 601 = .ok (.iload 4, 2) := lx_o21 (lx_k9 (i := 25) rfl) (lx_k9 (i := 26) rfl)
theorem dL_law_603 : decode cL_law 603 = .ok (.iconst 2, 1) := lx_o5 (lx_k9 (i := 27) rfl)
theorem dL_law_604 : decode cL_law 604 = .ok (.iadd, 1) := lx_o96 (lx_k9 (i := 28) rfl)
theorem dL_law_605 : decode cL_law 605 = .ok (.iaload, 1) := lx_o46 (lx_k9 (i := 29) rfl)
theorem dL_law_606 : decode cL_law 606 = .ok (.aload_n 0, 1) := lx_o42 (lx_k9 (i := 30) rfl)
theorem dL_law_607 : decode cL_law 607 = .ok (.iload 4, 2) := lx_o21 (lx_k9 (i := 31) rfl) (lx_k9 (i := 32) rfl)
theorem dL_law_609 : decode cL_law 609 = .ok (.iconst 3, 1) := lx_o6 (lx_k9 (i := 33) rfl)
theorem dL_law_610 : decode cL_law 610 = .ok (.iadd, 1) := lx_o96 (lx_k9 (i := 34) rfl)
theorem dL_law_611 : decode cL_law 611 = .ok (.iaload, 1) := lx_o46 (lx_k9 (i := 35) rfl)
theorem dL_law_612 : decode cL_law 612 = .ok (.invokevirtual 175, 3) := lx_o182 (lx_k9 (i := 36) rfl) (lx_k9 (i := 37) rfl) (lx_k9 (i := 38) rfl) rfl
theorem dL_law_615 : decode cL_law 615 = .ok (.istore 6, 2) := lx_o54 (lx_k9 (i := 39) rfl) (lx_k9 (i := 40) rfl)
theorem dL_law_617 : decode cL_law 617 = .ok (.goto 1132, 3) := lx_o167 (lx_k9 (i := 41) rfl) (lx_k9 (i := 42) rfl) (lx_k9 (i := 43) rfl) rfl
theorem dL_law_620 : decode cL_law 620 = .ok (.aload_n 1, 1) := lx_o43 (lx_k9 (i := 44) rfl)
theorem dL_law_621 : decode cL_law 621 = .ok (.aload_n 0, 1) := lx_o42 (lx_k9 (i := 45) rfl)
theorem dL_law_622 : decode cL_law 622 = .ok (.iload 4, 2) := lx_o21 (lx_k9 (i := 46) rfl) (lx_k9 (i := 47) rfl)
theorem dL_law_624 : decode cL_law 624 = .ok (.iconst 1, 1) := lx_o4 (lx_k9 (i := 48) rfl)
theorem dL_law_625 : decode cL_law 625 = .ok (.iadd, 1) := lx_o96 (lx_k9 (i := 49) rfl)
theorem dL_law_626 : decode cL_law 626 = .ok (.iaload, 1) := lx_o46 (lx_k9 (i := 50) rfl)
theorem dL_law_627 : decode cL_law 627 = .ok (.aload_n 0, 1) := lx_o42 (lx_k9 (i := 51) rfl)
theorem dL_law_628 : decode cL_law 628 = .ok (.iload 4, 2) := lx_o21 (lx_k9 (i := 52) rfl) (lx_k9 (i := 53) rfl)
theorem dL_law_630 : decode cL_law 630 = .ok (.iconst 2, 1) := lx_o5 (lx_k9 (i := 54) rfl)
theorem dL_law_631 : decode cL_law 631 = .ok (.iadd, 1) := lx_o96 (lx_k9 (i := 55) rfl)
theorem dL_law_632 : decode cL_law 632 = .ok (.iaload, 1) := lx_o46 (lx_k9 (i := 56) rfl)
theorem dL_law_633 : decode cL_law 633 = .ok (.aload_n 3, 1) := lx_o45 (lx_k9 (i := 57) rfl)
theorem dL_law_634 : decode cL_law 634 = .ok (.invokestatic 176, 3) := lx_o184 (lx_k9 (i := 58) rfl) (lx_k9 (i := 59) rfl) (lx_k9 (i := 60) rfl) rfl
theorem dL_law_637 : decode cL_law 637 = .ok (.istore 5, 2) := lx_o54 (lx_k9 (i := 61) rfl) (lx_k9 (i := 62) rfl)
theorem dL_law_639 : decode cL_law 639 = .ok (.aload_n 2, 1) := lx_o44 (lx_k9 (i := 63) rfl)
theorem dL_law_640 : decode cL_law 640 = .ok (.aload_n 0, 1) := lx_o42 (lx_k10 (i := 0) rfl)
theorem dL_law_641 : decode cL_law 641 = .ok (.iload 4, 2) := lx_o21 (lx_k10 (i := 1) rfl) (lx_k10 (i := 2) rfl)
theorem dL_law_643 : decode cL_law 643 = .ok (.iconst 1, 1) := lx_o4 (lx_k10 (i := 3) rfl)
theorem dL_law_644 : decode cL_law 644 = .ok (.iadd, 1) := lx_o96 (lx_k10 (i := 4) rfl)
theorem dL_law_645 : decode cL_law 645 = .ok (.iaload, 1) := lx_o46 (lx_k10 (i := 5) rfl)
theorem dL_law_646 : decode cL_law 646 = .ok (.aload_n 0, 1) := lx_o42 (lx_k10 (i := 6) rfl)
theorem dL_law_647 : decode cL_law 647 = .ok (.iload 4, 2) := lx_o21 (lx_k10 (i := 7) rfl) (lx_k10 (i := 8) rfl)
theorem dL_law_649 : decode cL_law 649 = .ok (.iconst 2, 1) := lx_o5 (lx_k10 (i := 9) rfl)
theorem dL_law_650 : decode cL_law 650 = .ok (.iadd, 1) := lx_o96 (lx_k10 (i := 10) rfl)
theorem dL_law_651 : decode cL_law 651 = .ok (.iaload, 1) := lx_o46 (lx_k10 (i := 11) rfl)
theorem dL_law_652 : decode cL_law 652 = .ok (.invokevirtual 178, 3) := lx_o182 (lx_k10 (i := 12) rfl) (lx_k10 (i := 13) rfl) (lx_k10 (i := 14) rfl) rfl
theorem dL_law_655 : decode cL_law 655 = .ok (.istore 6, 2) := lx_o54 (lx_k10 (i := 15) rfl) (lx_k10 (i := 16) rfl)
theorem dL_law_657 : decode cL_law 657 = .ok (.goto 1092, 3) := lx_o167 (lx_k10 (i := 17) rfl) (lx_k10 (i := 18) rfl) (lx_k10 (i := 19) rfl) rfl
theorem dL_law_660 : decode cL_law 660 = .ok (.aload_n 1, 1) := lx_o43 (lx_k10 (i := 20) rfl)
theorem dL_law_661 : decode cL_law 661 = .ok (.aload_n 0, 1) := lx_o42 (lx_k10 (i := 21) rfl)
theorem dL_law_662 : decode cL_law 662 = .ok (.iload 4, 2) := lx_o21 (lx_k10 (i := 22) rfl) (lx_k10 (i := 23) rfl)
theorem dL_law_664 : decode cL_law 664 = .ok (.iconst 1, 1) := lx_o4 (lx_k10 (i := 24) rfl)
theorem dL_law_665 : decode cL_law 665 = .ok (.iadd, 1) := lx_o96 (lx_k10 (i := 25) rfl)
theorem dL_law_666 : decode cL_law 666 = .ok (.iaload, 1) := lx_o46 (lx_k10 (i := 26) rfl)
theorem dL_law_667 : decode cL_law 667 = .ok (.aload_n 0, 1) := lx_o42 (lx_k10 (i := 27) rfl)
theorem dL_law_668 : decode cL_law 668 = .ok (.iload 4, 2) := lx_o21 (lx_k10 (i := 28) rfl) (lx_k10 (i := 29) rfl)
theorem dL_law_670 : decode cL_law 670 = .ok (.iconst 2, 1) := lx_o5 (lx_k10 (i := 30) rfl)
theorem dL_law_671 : decode cL_law 671 = .ok (.iadd, 1) := lx_o96 (lx_k10 (i := 31) rfl)
theorem dL_law_672 : decode cL_law 672 = .ok (.iaload, 1) := lx_o46 (lx_k10 (i := 32) rfl)
theorem dL_law_673 : decode cL_law 673 = .ok (.aload_n 3, 1) := lx_o45 (lx_k10 (i := 33) rfl)
theorem dL_law_674 : decode cL_law 674 = .ok (.invokestatic 179, 3) := lx_o184 (lx_k10 (i := 34) rfl) (lx_k10 (i := 35) rfl) (lx_k10 (i := 36) rfl) rfl
theorem dL_law_677 : decode cL_law 677 = .ok (.istore 5, 2) := lx_o54 (lx_k10 (i := 37) rfl) (lx_k10 (i := 38) rfl)
theorem dL_law_679 : decode cL_law 679 = .ok (.aload_n 2, 1) := lx_o44 (lx_k10 (i := 39) rfl)
theorem dL_law_680 : decode cL_law 680 = .ok (.aload_n 0, 1) := lx_o42 (lx_k10 (i := 40) rfl)
theorem dL_law_681 : decode cL_law 681 = .ok (.iload 4, 2) := lx_o21 (lx_k10 (i := 41) rfl) (lx_k10 (i := 42) rfl)
theorem dL_law_683 : decode cL_law 683 = .ok (.iconst 1, 1) := lx_o4 (lx_k10 (i := 43) rfl)
theorem dL_law_684 : decode cL_law 684 = .ok (.iadd, 1) := lx_o96 (lx_k10 (i := 44) rfl)
theorem dL_law_685 : decode cL_law 685 = .ok (.iaload, 1) := lx_o46 (lx_k10 (i := 45) rfl)
theorem dL_law_686 : decode cL_law 686 = .ok (.aload_n 0, 1) := lx_o42 (lx_k10 (i := 46) rfl)
theorem dL_law_687 : decode cL_law 687 = .ok (.iload 4, 2) := lx_o21 (lx_k10 (i := 47) rfl) (lx_k10 (i := 48) rfl)
theorem dL_law_689 : decode cL_law 689 = .ok (.iconst 2, 1) := lx_o5 (lx_k10 (i := 49) rfl)
theorem dL_law_690 : decode cL_law 690 = .ok (.iadd, 1) := lx_o96 (lx_k10 (i := 50) rfl)
theorem dL_law_691 : decode cL_law 691 = .ok (.iaload, 1) := lx_o46 (lx_k10 (i := 51) rfl)
theorem dL_law_692 : decode cL_law 692 = .ok (.invokevirtual 181, 3) := lx_o182 (lx_k10 (i := 52) rfl) (lx_k10 (i := 53) rfl) (lx_k10 (i := 54) rfl) rfl
theorem dL_law_695 : decode cL_law 695 = .ok (.istore 6, 2) := lx_o54 (lx_k10 (i := 55) rfl) (lx_k10 (i := 56) rfl)
theorem dL_law_697 : decode cL_law 697 = .ok (.aload_n 2, 1) := lx_o44 (lx_k10 (i := 57) rfl)
theorem dL_law_698 : decode cL_law 698 = .ok (.invokevirtual 182, 3) := lx_o182 (lx_k10 (i := 58) rfl) (lx_k10 (i := 59) rfl) (lx_k10 (i := 60) rfl) rfl
theorem dL_law_701 : decode cL_law 701 = .ok (.iload 5, 2) := lx_o21 (lx_k10 (i := 61) rfl) (lx_k10 (i := 62) rfl)
theorem dL_law_703 : decode cL_law 703 = .ok (.if_icmp .eq 5, 3) := lx_o159 (lx_k10 (i := 63) rfl) (lx_k11 (i := 0) rfl) (lx_k11 (i := 1) rfl) rfl
theorem dL_law_706 : decode cL_law 706 = .ok (.iconst 0, 1) := lx_o3 (lx_k11 (i := 2) rfl)
theorem dL_law_707 : decode cL_law 707 = .ok (.ireturn, 1) := lx_o172 (lx_k11 (i := 3) rfl)
theorem dL_law_708 : decode cL_law 708 = .ok (.iload 5, 2) := lx_o21 (lx_k11 (i := 4) rfl) (lx_k11 (i := 5) rfl)
theorem dL_law_710 : decode cL_law 710 = .ok (.ifCond .ne 23, 3) := lx_o154 (lx_k11 (i := 6) rfl) (lx_k11 (i := 7) rfl) (lx_k11 (i := 8) rfl) rfl
theorem dL_law_713 : decode cL_law 713 = .ok (.aload_n 3, 1) := lx_o45 (lx_k11 (i := 9) rfl)
theorem dL_law_714 : decode cL_law 714 = .ok (.getfield 13, 3) := lx_o180 (lx_k11 (i := 10) rfl) (lx_k11 (i := 11) rfl) (lx_k11 (i := 12) rfl) rfl
theorem dL_law_717 : decode cL_law 717 = .ok (.iload 6, 2) := lx_o21 (lx_k11 (i := 13) rfl) (lx_k11 (i := 14) rfl)
theorem dL_law_719 : decode cL_law 719 = .ok (.ifCond .eq 7, 3) := lx_o153 (lx_k11 (i := 15) rfl) (lx_k11 (i := 16) rfl) (lx_k11 (i := 17) rfl) rfl
theorem dL_law_722 : decode cL_law 722 = .ok (.lconst 1, 1) := lx_o10 (lx_k11 (i := 18) rfl)
theorem dL_law_723 : decode cL_law 723 = .ok (.goto 4, 3) := lx_o167 (lx_k11 (i := 19) rfl) (lx_k11 (i := 20) rfl) (lx_k11 (i := 21) rfl) rfl
theorem dL_law_726 : decode cL_law 726 = .ok (.lconst 0, 1) := lx_o9 (lx_k11 (i := 22) rfl)
theorem dL_law_727 : decode cL_law 727 = .ok (.lcmp, 1) := lx_o148 (lx_k11 (i := 23) rfl)
theorem dL_law_728 : decode cL_law 728 = .ok (.ifCond .eq 5, 3) := lx_o153 (lx_k11 (i := 24) rfl) (lx_k11 (i := 25) rfl) (lx_k11 (i := 26) rfl) rfl
theorem dL_law_731 : decode cL_law 731 = .ok (.iconst 0, 1) := lx_o3 (lx_k11 (i := 27) rfl)
theorem dL_law_732 : decode cL_law 732 = .ok (.ireturn, 1) := lx_o172 (lx_k11 (i := 28) rfl)
theorem dL_law_733 : decode cL_law 733 = .ok (.goto 1016, 3) := lx_o167 (lx_k11 (i := 29) rfl) (lx_k11 (i := 30) rfl) (lx_k11 (i := 31) rfl) rfl
theorem dL_law_736 : decode cL_law 736 = .ok (.aload_n 1, 1) := lx_o43 (lx_k11 (i := 32) rfl)
theorem dL_law_737 : decode cL_law 737 = .ok (.aload_n 0, 1) := lx_o42 (lx_k11 (i := 33) rfl)
theorem dL_law_738 : decode cL_law 738 = .ok (.iload 4, 2) := lx_o21 (lx_k11 (i := 34) rfl) (lx_k11 (i := 35) rfl)
theorem dL_law_740 : decode cL_law 740 = .ok (.iconst 1, 1) := lx_o4 (lx_k11 (i := 36) rfl)
theorem dL_law_741 : decode cL_law 741 = .ok (.iadd, 1) := lx_o96 (lx_k11 (i := 37) rfl)
theorem dL_law_742 : decode cL_law 742 = .ok (.iaload, 1) := lx_o46 (lx_k11 (i := 38) rfl)
theorem dL_law_743 : decode cL_law 743 = .ok (.aload_n 3, 1) := lx_o45 (lx_k11 (i := 39) rfl)
theorem dL_law_744 : decode cL_law 744 = .ok (.invokestatic 186, 3) := lx_o184 (lx_k11 (i := 40) rfl) (lx_k11 (i := 41) rfl) (lx_k11 (i := 42) rfl) rfl
theorem dL_law_747 : decode cL_law 747 = .ok (.istore 5, 2) := lx_o54 (lx_k11 (i := 43) rfl) (lx_k11 (i := 44) rfl)
theorem dL_law_749 : decode cL_law 749 = .ok (.aload_n 2, 1) := lx_o44 (lx_k11 (i := 45) rfl)
theorem dL_law_750 : decode cL_law 750 = .ok (.aload_n 0, 1) := lx_o42 (lx_k11 (i := 46) rfl)
theorem dL_law_751 : decode cL_law 751 = .ok (.iload 4, 2) := lx_o21 (lx_k11 (i := 47) rfl) (lx_k11 (i := 48) rfl)
theorem dL_law_753 : decode cL_law 753 = .ok (.iconst 1, 1) := lx_o4 (lx_k11 (i := 49) rfl)
theorem dL_law_754 : decode cL_law 754 = .ok (.iadd, 1) := lx_o96 (lx_k11 (i := 50) rfl)
theorem dL_law_755 : decode cL_law 755 = .ok (.iaload, 1) := lx_o46 (lx_k11 (i := 51) rfl)
theorem dL_law_756 : decode cL_law 756 = .ok (.invokevirtual 188, 3) := lx_o182 (lx_k11 (i := 52) rfl) (lx_k11 (i := 53) rfl) (lx_k11 (i := 54) rfl) rfl
theorem dL_law_759 : decode cL_law 759 = .ok (.istore 6, 2) := lx_o54 (lx_k11 (i := 55) rfl) (lx_k11 (i := 56) rfl)
theorem dL_law_761 : decode cL_law 761 = .ok (.goto 988, 3) := lx_o167 (lx_k11 (i := 57) rfl) (lx_k11 (i := 58) rfl) (lx_k11 (i := 59) rfl) rfl
theorem dL_law_764 : decode cL_law 764 = .ok (.aload_n 1, 1) := lx_o43 (lx_k11 (i := 60) rfl)
theorem dL_law_765 : decode cL_law 765 = .ok (.aload_n 0, 1) := lx_o42 (lx_k11 (i := 61) rfl)
theorem dL_law_766 : decode cL_law 766 = .ok (.iload 4, 2) := lx_o21 (lx_k11 (i := 62) rfl) (lx_k11 (i := 63) rfl)
theorem dL_law_768 : decode cL_law 768 = .ok (.iconst 1, 1) := lx_o4 (lx_k12 (i := 0) rfl)
theorem dL_law_769 : decode cL_law 769 = .ok (.iadd, 1) := lx_o96 (lx_k12 (i := 1) rfl)
theorem dL_law_770 : decode cL_law 770 = .ok (.iaload, 1) := lx_o46 (lx_k12 (i := 2) rfl)
theorem dL_law_771 : decode cL_law 771 = .ok (.aload_n 0, 1) := lx_o42 (lx_k12 (i := 3) rfl)
theorem dL_law_772 : decode cL_law 772 = .ok (.iload 4, 2) := lx_o21 (lx_k12 (i := 4) rfl) (lx_k12 (i := 5) rfl)
theorem dL_law_774 : decode cL_law 774 = .ok (.iconst 2, 1) := lx_o5 (lx_k12 (i := 6) rfl)
theorem dL_law_775 : decode cL_law 775 = .ok (.iadd, 1) := lx_o96 (lx_k12 (i := 7) rfl)
theorem dL_law_776 : decode cL_law 776 = .ok (.iaload, 1) := lx_o46 (lx_k12 (i := 8) rfl)
theorem dL_law_777 : decode cL_law 777 = .ok (.aload_n 3, 1) := lx_o45 (lx_k12 (i := 9) rfl)
theorem dL_law_778 : decode cL_law 778 = .ok (.invokestatic 189, 3) := lx_o184 (lx_k12 (i := 10) rfl) (lx_k12 (i := 11) rfl) (lx_k12 (i := 12) rfl) rfl
theorem dL_law_781 : decode cL_law 781 = .ok (.istore 5, 2) := lx_o54 (lx_k12 (i := 13) rfl) (lx_k12 (i := 14) rfl)
theorem dL_law_783 : decode cL_law 783 = .ok (.aload_n 2, 1) := lx_o44 (lx_k12 (i := 15) rfl)
theorem dL_law_784 : decode cL_law 784 = .ok (.aload_n 0, 1) := lx_o42 (lx_k12 (i := 16) rfl)
theorem dL_law_785 : decode cL_law 785 = .ok (.iload 4, 2) := lx_o21 (lx_k12 (i := 17) rfl) (lx_k12 (i := 18) rfl)
theorem dL_law_787 : decode cL_law 787 = .ok (.iconst 1, 1) := lx_o4 (lx_k12 (i := 19) rfl)
theorem dL_law_788 : decode cL_law 788 = .ok (.iadd, 1) := lx_o96 (lx_k12 (i := 20) rfl)
theorem dL_law_789 : decode cL_law 789 = .ok (.iaload, 1) := lx_o46 (lx_k12 (i := 21) rfl)
theorem dL_law_790 : decode cL_law 790 = .ok (.aload_n 0, 1) := lx_o42 (lx_k12 (i := 22) rfl)
theorem dL_law_791 : decode cL_law 791 = .ok (.iload 4, 2) := lx_o21 (lx_k12 (i := 23) rfl) (lx_k12 (i := 24) rfl)
theorem dL_law_793 : decode cL_law 793 = .ok (.iconst 2, 1) := lx_o5 (lx_k12 (i := 25) rfl)
theorem dL_law_794 : decode cL_law 794 = .ok (.iadd, 1) := lx_o96 (lx_k12 (i := 26) rfl)
theorem dL_law_795 : decode cL_law 795 = .ok (.iaload, 1) := lx_o46 (lx_k12 (i := 27) rfl)
theorem dL_law_796 : decode cL_law 796 = .ok (.invokevirtual 191, 3) := lx_o182 (lx_k12 (i := 28) rfl) (lx_k12 (i := 29) rfl) (lx_k12 (i := 30) rfl) rfl
theorem dL_law_799 : decode cL_law 799 = .ok (.istore 6, 2) := lx_o54 (lx_k12 (i := 31) rfl) (lx_k12 (i := 32) rfl)
theorem dL_law_801 : decode cL_law 801 = .ok (.goto 948, 3) := lx_o167 (lx_k12 (i := 33) rfl) (lx_k12 (i := 34) rfl) (lx_k12 (i := 35) rfl) rfl
theorem dL_law_804 : decode cL_law 804 = .ok (.aload_n 1, 1) := lx_o43 (lx_k12 (i := 36) rfl)
theorem dL_law_805 : decode cL_law 805 = .ok (.aload_n 0, 1) := lx_o42 (lx_k12 (i := 37) rfl)
theorem dL_law_806 : decode cL_law 806 = .ok (.iload 4, 2) := lx_o21 (lx_k12 (i := 38) rfl) (lx_k12 (i := 39) rfl)
theorem dL_law_808 : decode cL_law 808 = .ok (.iconst 1, 1) := lx_o4 (lx_k12 (i := 40) rfl)
theorem dL_law_809 : decode cL_law 809 = .ok (.iadd, 1) := lx_o96 (lx_k12 (i := 41) rfl)
theorem dL_law_810 : decode cL_law 810 = .ok (.iaload, 1) := lx_o46 (lx_k12 (i := 42) rfl)
theorem dL_law_811 : decode cL_law 811 = .ok (.aload_n 0, 1) := lx_o42 (lx_k12 (i := 43) rfl)
theorem dL_law_812 : decode cL_law 812 = .ok (.iload 4, 2) := lx_o21 (lx_k12 (i := 44) rfl) (lx_k12 (i := 45) rfl)
theorem dL_law_814 : decode cL_law 814 = .ok (.iconst 2, 1) := lx_o5 (lx_k12 (i := 46) rfl)
theorem dL_law_815 : decode cL_law 815 = .ok (.iadd, 1) := lx_o96 (lx_k12 (i := 47) rfl)
theorem dL_law_816 : decode cL_law 816 = .ok (.iaload, 1) := lx_o46 (lx_k12 (i := 48) rfl)
theorem dL_law_817 : decode cL_law 817 = .ok (.aload_n 3, 1) := lx_o45 (lx_k12 (i := 49) rfl)
theorem dL_law_818 : decode cL_law 818 = .ok (.invokestatic 192, 3) := lx_o184 (lx_k12 (i := 50) rfl) (lx_k12 (i := 51) rfl) (lx_k12 (i := 52) rfl) rfl
theorem dL_law_821 : decode cL_law 821 = .ok (.istore 5, 2) := lx_o54 (lx_k12 (i := 53) rfl) (lx_k12 (i := 54) rfl)
theorem dL_law_823 : decode cL_law 823 = .ok (.aload_n 2, 1) := lx_o44 (lx_k12 (i := 55) rfl)
theorem dL_law_824 : decode cL_law 824 = .ok (.aload_n 0, 1) := lx_o42 (lx_k12 (i := 56) rfl)
theorem dL_law_825 : decode cL_law 825 = .ok (.iload 4, 2) := lx_o21 (lx_k12 (i := 57) rfl) (lx_k12 (i := 58) rfl)
theorem dL_law_827 : decode cL_law 827 = .ok (.iconst 1, 1) := lx_o4 (lx_k12 (i := 59) rfl)
theorem dL_law_828 : decode cL_law 828 = .ok (.iadd, 1) := lx_o96 (lx_k12 (i := 60) rfl)
theorem dL_law_829 : decode cL_law 829 = .ok (.iaload, 1) := lx_o46 (lx_k12 (i := 61) rfl)
theorem dL_law_830 : decode cL_law 830 = .ok (.aload_n 0, 1) := lx_o42 (lx_k12 (i := 62) rfl)
theorem dL_law_831 : decode cL_law 831 = .ok (.iload 4, 2) := lx_o21 (lx_k12 (i := 63) rfl) (lx_k13 (i := 0) rfl)
theorem dL_law_833 : decode cL_law 833 = .ok (.iconst 2, 1) := lx_o5 (lx_k13 (i := 1) rfl)
theorem dL_law_834 : decode cL_law 834 = .ok (.iadd, 1) := lx_o96 (lx_k13 (i := 2) rfl)
theorem dL_law_835 : decode cL_law 835 = .ok (.iaload, 1) := lx_o46 (lx_k13 (i := 3) rfl)
theorem dL_law_836 : decode cL_law 836 = .ok (.invokevirtual 194, 3) := lx_o182 (lx_k13 (i := 4) rfl) (lx_k13 (i := 5) rfl) (lx_k13 (i := 6) rfl) rfl
theorem dL_law_839 : decode cL_law 839 = .ok (.istore 6, 2) := lx_o54 (lx_k13 (i := 7) rfl) (lx_k13 (i := 8) rfl)
theorem dL_law_841 : decode cL_law 841 = .ok (.goto 908, 3) := lx_o167 (lx_k13 (i := 9) rfl) (lx_k13 (i := 10) rfl) (lx_k13 (i := 11) rfl) rfl
theorem dL_law_844 : decode cL_law 844 = .ok (.aload_n 1, 1) := lx_o43 (lx_k13 (i := 12) rfl)
theorem dL_law_845 : decode cL_law 845 = .ok (.aload_n 0, 1) := lx_o42 (lx_k13 (i := 13) rfl)
theorem dL_law_846 : decode cL_law 846 = .ok (.iload 4, 2) := lx_o21 (lx_k13 (i := 14) rfl) (lx_k13 (i := 15) rfl)
theorem dL_law_848 : decode cL_law 848 = .ok (.iconst 1, 1) := lx_o4 (lx_k13 (i := 16) rfl)
theorem dL_law_849 : decode cL_law 849 = .ok (.iadd, 1) := lx_o96 (lx_k13 (i := 17) rfl)
theorem dL_law_850 : decode cL_law 850 = .ok (.iaload, 1) := lx_o46 (lx_k13 (i := 18) rfl)
theorem dL_law_851 : decode cL_law 851 = .ok (.aload_n 0, 1) := lx_o42 (lx_k13 (i := 19) rfl)
theorem dL_law_852 : decode cL_law 852 = .ok (.iload 4, 2) := lx_o21 (lx_k13 (i := 20) rfl) (lx_k13 (i := 21) rfl)
theorem dL_law_854 : decode cL_law 854 = .ok (.iconst 2, 1) := lx_o5 (lx_k13 (i := 22) rfl)
theorem dL_law_855 : decode cL_law 855 = .ok (.iadd, 1) := lx_o96 (lx_k13 (i := 23) rfl)
theorem dL_law_856 : decode cL_law 856 = .ok (.iaload, 1) := lx_o46 (lx_k13 (i := 24) rfl)
theorem dL_law_857 : decode cL_law 857 = .ok (.aload_n 3, 1) := lx_o45 (lx_k13 (i := 25) rfl)
theorem dL_law_858 : decode cL_law 858 = .ok (.invokestatic 195, 3) := lx_o184 (lx_k13 (i := 26) rfl) (lx_k13 (i := 27) rfl) (lx_k13 (i := 28) rfl) rfl
theorem dL_law_861 : decode cL_law 861 = .ok (.istore 5, 2) := lx_o54 (lx_k13 (i := 29) rfl) (lx_k13 (i := 30) rfl)
theorem dL_law_863 : decode cL_law 863 = .ok (.aload_n 2, 1) := lx_o44 (lx_k13 (i := 31) rfl)
theorem dL_law_864 : decode cL_law 864 = .ok (.aload_n 0, 1) := lx_o42 (lx_k13 (i := 32) rfl)
theorem dL_law_865 : decode cL_law 865 = .ok (.iload 4, 2) := lx_o21 (lx_k13 (i := 33) rfl) (lx_k13 (i := 34) rfl)
theorem dL_law_867 : decode cL_law 867 = .ok (.iconst 1, 1) := lx_o4 (lx_k13 (i := 35) rfl)
theorem dL_law_868 : decode cL_law 868 = .ok (.iadd, 1) := lx_o96 (lx_k13 (i := 36) rfl)
theorem dL_law_869 : decode cL_law 869 = .ok (.iaload, 1) := lx_o46 (lx_k13 (i := 37) rfl)
theorem dL_law_870 : decode cL_law 870 = .ok (.aload_n 0, 1) := lx_o42 (lx_k13 (i := 38) rfl)
theorem dL_law_871 : decode cL_law 871 = .ok (.iload 4, 2) := lx_o21 (lx_k13 (i := 39) rfl) (lx_k13 (i := 40) rfl)
theorem dL_law_873 : decode cL_law 873 = .ok (.iconst 2, 1) := lx_o5 (lx_k13 (i := 41) rfl)
theorem dL_law_874 : decode cL_law 874 = .ok (.iadd, 1) := lx_o96 (lx_k13 (i := 42) rfl)
theorem dL_law_875 : decode cL_law 875 = .ok (.iaload, 1) := lx_o46 (lx_k13 (i := 43) rfl)
theorem dL_law_876 : decode cL_law 876 = .ok (.invokevirtual 197, 3) := lx_o182 (lx_k13 (i := 44) rfl) (lx_k13 (i := 45) rfl) (lx_k13 (i := 46) rfl) rfl
theorem dL_law_879 : decode cL_law 879 = .ok (.istore 6, 2) := lx_o54 (lx_k13 (i := 47) rfl) (lx_k13 (i := 48) rfl)
theorem dL_law_881 : decode cL_law 881 = .ok (.goto 868, 3) := lx_o167 (lx_k13 (i := 49) rfl) (lx_k13 (i := 50) rfl) (lx_k13 (i := 51) rfl) rfl
theorem dL_law_884 : decode cL_law 884 = .ok (.aload_n 1, 1) := lx_o43 (lx_k13 (i := 52) rfl)
theorem dL_law_885 : decode cL_law 885 = .ok (.aload_n 0, 1) := lx_o42 (lx_k13 (i := 53) rfl)
theorem dL_law_886 : decode cL_law 886 = .ok (.iload 4, 2) := lx_o21 (lx_k13 (i := 54) rfl) (lx_k13 (i := 55) rfl)
theorem dL_law_888 : decode cL_law 888 = .ok (.iconst 1, 1) := lx_o4 (lx_k13 (i := 56) rfl)
theorem dL_law_889 : decode cL_law 889 = .ok (.iadd, 1) := lx_o96 (lx_k13 (i := 57) rfl)
theorem dL_law_890 : decode cL_law 890 = .ok (.iaload, 1) := lx_o46 (lx_k13 (i := 58) rfl)
theorem dL_law_891 : decode cL_law 891 = .ok (.aload_n 0, 1) := lx_o42 (lx_k13 (i := 59) rfl)
theorem dL_law_892 : decode cL_law 892 = .ok (.iload 4, 2) := lx_o21 (lx_k13 (i := 60) rfl) (lx_k13 (i := 61) rfl)
theorem dL_law_894 : decode cL_law 894 = .ok (.iconst 2, 1) := lx_o5 (lx_k13 (i := 62) rfl)
theorem dL_law_895 : decode cL_law 895 = .ok (.iadd, 1) := lx_o96 (lx_k13 (i := 63) rfl)
theorem dL_law_896 : decode cL_law 896 = .ok (.iaload, 1) := lx_o46 (lx_k14 (i := 0) rfl)
theorem dL_law_897 : decode cL_law 897 = .ok (.aload_n 3, 1) := lx_o45 (lx_k14 (i := 1) rfl)
theorem dL_law_898 : decode cL_law 898 = .ok (.invokestatic 198, 3) := lx_o184 (lx_k14 (i := 2) rfl) (lx_k14 (i := 3) rfl) (lx_k14 (i := 4) rfl) rfl
theorem dL_law_901 : decode cL_law 901 = .ok (.istore 5, 2) := lx_o54 (lx_k14 (i := 5) rfl) (lx_k14 (i := 6) rfl)
theorem dL_law_903 : decode cL_law 903 = .ok (.aload_n 2, 1) := lx_o44 (lx_k14 (i := 7) rfl)
theorem dL_law_904 : decode cL_law 904 = .ok (.aload_n 0, 1) := lx_o42 (lx_k14 (i := 8) rfl)
theorem dL_law_905 : decode cL_law 905 = .ok (.iload 4, 2) := lx_o21 (lx_k14 (i := 9) rfl) (lx_k14 (i := 10) rfl)
theorem dL_law_907 : decode cL_law 907 = .ok (.iconst 1, 1) := lx_o4 (lx_k14 (i := 11) rfl)
theorem dL_law_908 : decode cL_law 908 = .ok (.iadd, 1) := lx_o96 (lx_k14 (i := 12) rfl)
theorem dL_law_909 : decode cL_law 909 = .ok (.iaload, 1) := lx_o46 (lx_k14 (i := 13) rfl)
theorem dL_law_910 : decode cL_law 910 = .ok (.aload_n 0, 1) := lx_o42 (lx_k14 (i := 14) rfl)
theorem dL_law_911 : decode cL_law 911 = .ok (.iload 4, 2) := lx_o21 (lx_k14 (i := 15) rfl) (lx_k14 (i := 16) rfl)
theorem dL_law_913 : decode cL_law 913 = .ok (.iconst 2, 1) := lx_o5 (lx_k14 (i := 17) rfl)
theorem dL_law_914 : decode cL_law 914 = .ok (.iadd, 1) := lx_o96 (lx_k14 (i := 18) rfl)
theorem dL_law_915 : decode cL_law 915 = .ok (.iaload, 1) := lx_o46 (lx_k14 (i := 19) rfl)
theorem dL_law_916 : decode cL_law 916 = .ok (.invokevirtual 200, 3) := lx_o182 (lx_k14 (i := 20) rfl) (lx_k14 (i := 21) rfl) (lx_k14 (i := 22) rfl) rfl
theorem dL_law_919 : decode cL_law 919 = .ok (.istore 6, 2) := lx_o54 (lx_k14 (i := 23) rfl) (lx_k14 (i := 24) rfl)
theorem dL_law_921 : decode cL_law 921 = .ok (.goto 828, 3) := lx_o167 (lx_k14 (i := 25) rfl) (lx_k14 (i := 26) rfl) (lx_k14 (i := 27) rfl) rfl
theorem dL_law_924 : decode cL_law 924 = .ok (.aload_n 1, 1) := lx_o43 (lx_k14 (i := 28) rfl)
theorem dL_law_925 : decode cL_law 925 = .ok (.aload_n 0, 1) := lx_o42 (lx_k14 (i := 29) rfl)
theorem dL_law_926 : decode cL_law 926 = .ok (.iload 4, 2) := lx_o21 (lx_k14 (i := 30) rfl) (lx_k14 (i := 31) rfl)
theorem dL_law_928 : decode cL_law 928 = .ok (.iconst 1, 1) := lx_o4 (lx_k14 (i := 32) rfl)
theorem dL_law_929 : decode cL_law 929 = .ok (.iadd, 1) := lx_o96 (lx_k14 (i := 33) rfl)
theorem dL_law_930 : decode cL_law 930 = .ok (.iaload, 1) := lx_o46 (lx_k14 (i := 34) rfl)
theorem dL_law_931 : decode cL_law 931 = .ok (.aload_n 3, 1) := lx_o45 (lx_k14 (i := 35) rfl)
theorem dL_law_932 : decode cL_law 932 = .ok (.invokestatic 201, 3) := lx_o184 (lx_k14 (i := 36) rfl) (lx_k14 (i := 37) rfl) (lx_k14 (i := 38) rfl) rfl
theorem dL_law_935 : decode cL_law 935 = .ok (.istore 5, 2) := lx_o54 (lx_k14 (i := 39) rfl) (lx_k14 (i := 40) rfl)
theorem dL_law_937 : decode cL_law 937 = .ok (.aload_n 2, 1) := lx_o44 (lx_k14 (i := 41) rfl)
theorem dL_law_938 : decode cL_law 938 = .ok (.aload_n 0, 1) := lx_o42 (lx_k14 (i := 42) rfl)
theorem dL_law_939 : decode cL_law 939 = .ok (.iload 4, 2) := lx_o21 (lx_k14 (i := 43) rfl) (lx_k14 (i := 44) rfl)
theorem dL_law_941 : decode cL_law 941 = .ok (.iconst 1, 1) := lx_o4 (lx_k14 (i := 45) rfl)
theorem dL_law_942 : decode cL_law 942 = .ok (.iadd, 1) := lx_o96 (lx_k14 (i := 46) rfl)
theorem dL_law_943 : decode cL_law 943 = .ok (.iaload, 1) := lx_o46 (lx_k14 (i := 47) rfl)
theorem dL_law_944 : decode cL_law 944 = .ok (.invokevirtual 203, 3) := lx_o182 (lx_k14 (i := 48) rfl) (lx_k14 (i := 49) rfl) (lx_k14 (i := 50) rfl) rfl
theorem dL_law_947 : decode cL_law 947 = .ok (.istore 6, 2) := lx_o54 (lx_k14 (i := 51) rfl) (lx_k14 (i := 52) rfl)
theorem dL_law_949 : decode cL_law 949 = .ok (.goto 800, 3) := lx_o167 (lx_k14 (i := 53) rfl) (lx_k14 (i := 54) rfl) (lx_k14 (i := 55) rfl) rfl
theorem dL_law_952 : decode cL_law 952 = .ok (.aload_n 1, 1) := lx_o43 (lx_k14 (i := 56) rfl)
theorem dL_law_953 : decode cL_law 953 = .ok (.aload_n 0, 1) := lx_o42 (lx_k14 (i := 57) rfl)
theorem dL_law_954 : decode cL_law 954 = .ok (.iload 4, 2) := lx_o21 (lx_k14 (i := 58) rfl) (lx_k14 (i := 59) rfl)
theorem dL_law_956 : decode cL_law 956 = .ok (.iconst 1, 1) := lx_o4 (lx_k14 (i := 60) rfl)
theorem dL_law_957 : decode cL_law 957 = .ok (.iadd, 1) := lx_o96 (lx_k14 (i := 61) rfl)
theorem dL_law_958 : decode cL_law 958 = .ok (.iaload, 1) := lx_o46 (lx_k14 (i := 62) rfl)
theorem dL_law_959 : decode cL_law 959 = .ok (.aload_n 3, 1) := lx_o45 (lx_k14 (i := 63) rfl)
theorem dL_law_960 : decode cL_law 960 = .ok (.invokestatic 204, 3) := lx_o184 (lx_k15 (i := 0) rfl) (lx_k15 (i := 1) rfl) (lx_k15 (i := 2) rfl) rfl
theorem dL_law_963 : decode cL_law 963 = .ok (.istore 5, 2) := lx_o54 (lx_k15 (i := 3) rfl) (lx_k15 (i := 4) rfl)
theorem dL_law_965 : decode cL_law 965 = .ok (.aload_n 2, 1) := lx_o44 (lx_k15 (i := 5) rfl)
theorem dL_law_966 : decode cL_law 966 = .ok (.aload_n 0, 1) := lx_o42 (lx_k15 (i := 6) rfl)
theorem dL_law_967 : decode cL_law 967 = .ok (.iload 4, 2) := lx_o21 (lx_k15 (i := 7) rfl) (lx_k15 (i := 8) rfl)
theorem dL_law_969 : decode cL_law 969 = .ok (.iconst 1, 1) := lx_o4 (lx_k15 (i := 9) rfl)
theorem dL_law_970 : decode cL_law 970 = .ok (.iadd, 1) := lx_o96 (lx_k15 (i := 10) rfl)
theorem dL_law_971 : decode cL_law 971 = .ok (.iaload, 1) := lx_o46 (lx_k15 (i := 11) rfl)
theorem dL_law_972 : decode cL_law 972 = .ok (.invokevirtual 206, 3) := lx_o182 (lx_k15 (i := 12) rfl) (lx_k15 (i := 13) rfl) (lx_k15 (i := 14) rfl) rfl
theorem dL_law_975 : decode cL_law 975 = .ok (.istore 6, 2) := lx_o54 (lx_k15 (i := 15) rfl) (lx_k15 (i := 16) rfl)
theorem dL_law_977 : decode cL_law 977 = .ok (.goto 772, 3) := lx_o167 (lx_k15 (i := 17) rfl) (lx_k15 (i := 18) rfl) (lx_k15 (i := 19) rfl) rfl
theorem dL_law_980 : decode cL_law 980 = .ok (.aload_n 1, 1) := lx_o43 (lx_k15 (i := 20) rfl)
theorem dL_law_981 : decode cL_law 981 = .ok (.aload_n 0, 1) := lx_o42 (lx_k15 (i := 21) rfl)
theorem dL_law_982 : decode cL_law 982 = .ok (.iload 4, 2) := lx_o21 (lx_k15 (i := 22) rfl) (lx_k15 (i := 23) rfl)
theorem dL_law_984 : decode cL_law 984 = .ok (.iconst 1, 1) := lx_o4 (lx_k15 (i := 24) rfl)
theorem dL_law_985 : decode cL_law 985 = .ok (.iadd, 1) := lx_o96 (lx_k15 (i := 25) rfl)
theorem dL_law_986 : decode cL_law 986 = .ok (.iaload, 1) := lx_o46 (lx_k15 (i := 26) rfl)
theorem dL_law_987 : decode cL_law 987 = .ok (.aload_n 0, 1) := lx_o42 (lx_k15 (i := 27) rfl)
theorem dL_law_988 : decode cL_law 988 = .ok (.iload 4, 2) := lx_o21 (lx_k15 (i := 28) rfl) (lx_k15 (i := 29) rfl)
theorem dL_law_990 : decode cL_law 990 = .ok (.iconst 2, 1) := lx_o5 (lx_k15 (i := 30) rfl)
theorem dL_law_991 : decode cL_law 991 = .ok (.iadd, 1) := lx_o96 (lx_k15 (i := 31) rfl)
theorem dL_law_992 : decode cL_law 992 = .ok (.iaload, 1) := lx_o46 (lx_k15 (i := 32) rfl)
theorem dL_law_993 : decode cL_law 993 = .ok (.aload_n 3, 1) := lx_o45 (lx_k15 (i := 33) rfl)
theorem dL_law_994 : decode cL_law 994 = .ok (.invokestatic 207, 3) := lx_o184 (lx_k15 (i := 34) rfl) (lx_k15 (i := 35) rfl) (lx_k15 (i := 36) rfl) rfl
theorem dL_law_997 : decode cL_law 997 = .ok (.istore 5, 2) := lx_o54 (lx_k15 (i := 37) rfl) (lx_k15 (i := 38) rfl)
theorem dL_law_999 : decode cL_law 999 = .ok (.aload_n 2, 1) := lx_o44 (lx_k15 (i := 39) rfl)
theorem dL_law_1000 : decode cL_law 1000 = .ok (.aload_n 0, 1) := lx_o42 (lx_k15 (i := 40) rfl)
theorem dL_law_1001 : decode cL_law 1001 = .ok (.iload 4, 2) := lx_o21 (lx_k15 (i := 41) rfl) (lx_k15 (i := 42) rfl)
theorem dL_law_1003 : decode cL_law 1003 = .ok (.iconst 1, 1) := lx_o4 (lx_k15 (i := 43) rfl)
theorem dL_law_1004 : decode cL_law 1004 = .ok (.iadd, 1) := lx_o96 (lx_k15 (i := 44) rfl)
theorem dL_law_1005 : decode cL_law 1005 = .ok (.iaload, 1) := lx_o46 (lx_k15 (i := 45) rfl)
theorem dL_law_1006 : decode cL_law 1006 = .ok (.aload_n 0, 1) := lx_o42 (lx_k15 (i := 46) rfl)
theorem dL_law_1007 : decode cL_law 1007 = .ok (.iload 4, 2) := lx_o21 (lx_k15 (i := 47) rfl) (lx_k15 (i := 48) rfl)
theorem dL_law_1009 : decode cL_law 1009 = .ok (.iconst 2, 1) := lx_o5 (lx_k15 (i := 49) rfl)
theorem dL_law_1010 : decode cL_law 1010 = .ok (.iadd, 1) := lx_o96 (lx_k15 (i := 50) rfl)
theorem dL_law_1011 : decode cL_law 1011 = .ok (.iaload, 1) := lx_o46 (lx_k15 (i := 51) rfl)
theorem dL_law_1012 : decode cL_law 1012 = .ok (.invokevirtual 209, 3) := lx_o182 (lx_k15 (i := 52) rfl) (lx_k15 (i := 53) rfl) (lx_k15 (i := 54) rfl) rfl
theorem dL_law_1015 : decode cL_law 1015 = .ok (.astore 6, 2) := lx_o58 (lx_k15 (i := 55) rfl) (lx_k15 (i := 56) rfl)
theorem dL_law_1017 : decode cL_law 1017 = .ok (.goto 732, 3) := lx_o167 (lx_k15 (i := 57) rfl) (lx_k15 (i := 58) rfl) (lx_k15 (i := 59) rfl) rfl
theorem dL_law_1020 : decode cL_law 1020 = .ok (.aload_n 1, 1) := lx_o43 (lx_k15 (i := 60) rfl)
theorem dL_law_1021 : decode cL_law 1021 = .ok (.aload_n 0, 1) := lx_o42 (lx_k15 (i := 61) rfl)
theorem dL_law_1022 : decode cL_law 1022 = .ok (.iload 4, 2) := lx_o21 (lx_k15 (i := 62) rfl) (lx_k15 (i := 63) rfl)
theorem dL_law_1024 : decode cL_law 1024 = .ok (.iconst 1, 1) := lx_o4 (lx_k16 (i := 0) rfl)
theorem dL_law_1025 : decode cL_law 1025 = .ok (.iadd, 1) := lx_o96 (lx_k16 (i := 1) rfl)
theorem dL_law_1026 : decode cL_law 1026 = .ok (.iaload, 1) := lx_o46 (lx_k16 (i := 2) rfl)
theorem dL_law_1027 : decode cL_law 1027 = .ok (.aload_n 0, 1) := lx_o42 (lx_k16 (i := 3) rfl)
theorem dL_law_1028 : decode cL_law 1028 = .ok (.iload 4, 2) := lx_o21 (lx_k16 (i := 4) rfl) (lx_k16 (i := 5) rfl)
theorem dL_law_1030 : decode cL_law 1030 = .ok (.iconst 2, 1) := lx_o5 (lx_k16 (i := 6) rfl)
theorem dL_law_1031 : decode cL_law 1031 = .ok (.iadd, 1) := lx_o96 (lx_k16 (i := 7) rfl)
theorem dL_law_1032 : decode cL_law 1032 = .ok (.iaload, 1) := lx_o46 (lx_k16 (i := 8) rfl)
theorem dL_law_1033 : decode cL_law 1033 = .ok (.aload_n 3, 1) := lx_o45 (lx_k16 (i := 9) rfl)
theorem dL_law_1034 : decode cL_law 1034 = .ok (.invokestatic 210, 3) := lx_o184 (lx_k16 (i := 10) rfl) (lx_k16 (i := 11) rfl) (lx_k16 (i := 12) rfl) rfl
theorem dL_law_1037 : decode cL_law 1037 = .ok (.istore 5, 2) := lx_o54 (lx_k16 (i := 13) rfl) (lx_k16 (i := 14) rfl)
theorem dL_law_1039 : decode cL_law 1039 = .ok (.aload_n 2, 1) := lx_o44 (lx_k16 (i := 15) rfl)
theorem dL_law_1040 : decode cL_law 1040 = .ok (.aload_n 0, 1) := lx_o42 (lx_k16 (i := 16) rfl)
theorem dL_law_1041 : decode cL_law 1041 = .ok (.iload 4, 2) := lx_o21 (lx_k16 (i := 17) rfl) (lx_k16 (i := 18) rfl)
theorem dL_law_1043 : decode cL_law 1043 = .ok (.iconst 1, 1) := lx_o4 (lx_k16 (i := 19) rfl)
theorem dL_law_1044 : decode cL_law 1044 = .ok (.iadd, 1) := lx_o96 (lx_k16 (i := 20) rfl)
theorem dL_law_1045 : decode cL_law 1045 = .ok (.iaload, 1) := lx_o46 (lx_k16 (i := 21) rfl)
theorem dL_law_1046 : decode cL_law 1046 = .ok (.aload_n 0, 1) := lx_o42 (lx_k16 (i := 22) rfl)
theorem dL_law_1047 : decode cL_law 1047 = .ok (.iload 4, 2) := lx_o21 (lx_k16 (i := 23) rfl) (lx_k16 (i := 24) rfl)
theorem dL_law_1049 : decode cL_law 1049 = .ok (.iconst 2, 1) := lx_o5 (lx_k16 (i := 25) rfl)
theorem dL_law_1050 : decode cL_law 1050 = .ok (.iadd, 1) := lx_o96 (lx_k16 (i := 26) rfl)
theorem dL_law_1051 : decode cL_law 1051 = .ok (.iaload, 1) := lx_o46 (lx_k16 (i := 27) rfl)
theorem dL_law_1052 : decode cL_law 1052 = .ok (.invokevirtual 212, 3) := lx_o182 (lx_k16 (i := 28) rfl) (lx_k16 (i := 29) rfl) (lx_k16 (i := 30) rfl) rfl
theorem dL_law_1055 : decode cL_law 1055 = .ok (.istore 6, 2) := lx_o54 (lx_k16 (i := 31) rfl) (lx_k16 (i := 32) rfl)
theorem dL_law_1057 : decode cL_law 1057 = .ok (.goto 692, 3) := lx_o167 (lx_k16 (i := 33) rfl) (lx_k16 (i := 34) rfl) (lx_k16 (i := 35) rfl) rfl
theorem dL_law_1060 : decode cL_law 1060 = .ok (.aload_n 1, 1) := lx_o43 (lx_k16 (i := 36) rfl)
theorem dL_law_1061 : decode cL_law 1061 = .ok (.aload_n 0, 1) := lx_o42 (lx_k16 (i := 37) rfl)
theorem dL_law_1062 : decode cL_law 1062 = .ok (.iload 4, 2) := lx_o21 (lx_k16 (i := 38) rfl) (lx_k16 (i := 39) rfl)
theorem dL_law_1064 : decode cL_law 1064 = .ok (.iconst 1, 1) := lx_o4 (lx_k16 (i := 40) rfl)
theorem dL_law_1065 : decode cL_law 1065 = .ok (.iadd, 1) := lx_o96 (lx_k16 (i := 41) rfl)
theorem dL_law_1066 : decode cL_law 1066 = .ok (.iaload, 1) := lx_o46 (lx_k16 (i := 42) rfl)
theorem dL_law_1067 : decode cL_law 1067 = .ok (.aload_n 0, 1) := lx_o42 (lx_k16 (i := 43) rfl)
theorem dL_law_1068 : decode cL_law 1068 = .ok (.iload 4, 2) := lx_o21 (lx_k16 (i := 44) rfl) (lx_k16 (i := 45) rfl)
theorem dL_law_1070 : decode cL_law 1070 = .ok (.iconst 2, 1) := lx_o5 (lx_k16 (i := 46) rfl)
theorem dL_law_1071 : decode cL_law 1071 = .ok (.iadd, 1) := lx_o96 (lx_k16 (i := 47) rfl)
theorem dL_law_1072 : decode cL_law 1072 = .ok (.iaload, 1) := lx_o46 (lx_k16 (i := 48) rfl)
theorem dL_law_1073 : decode cL_law 1073 = .ok (.aload_n 3, 1) := lx_o45 (lx_k16 (i := 49) rfl)
theorem dL_law_1074 : decode cL_law 1074 = .ok (.invokestatic 213, 3) := lx_o184 (lx_k16 (i := 50) rfl) (lx_k16 (i := 51) rfl) (lx_k16 (i := 52) rfl) rfl
theorem dL_law_1077 : decode cL_law 1077 = .ok (.istore 5, 2) := lx_o54 (lx_k16 (i := 53) rfl) (lx_k16 (i := 54) rfl)
theorem dL_law_1079 : decode cL_law 1079 = .ok (.aload_n 2, 1) := lx_o44 (lx_k16 (i := 55) rfl)
theorem dL_law_1080 : decode cL_law 1080 = .ok (.aload_n 0, 1) := lx_o42 (lx_k16 (i := 56) rfl)
theorem dL_law_1081 : decode cL_law 1081 = .ok (.iload 4, 2) := lx_o21 (lx_k16 (i := 57) rfl) (lx_k16 (i := 58) rfl)
theorem dL_law_1083 : decode cL_law 1083 = .ok (.iconst 1, 1) := lx_o4 (lx_k16 (i := 59) rfl)
theorem dL_law_1084 : decode cL_law 1084 = .ok (.iadd, 1) := lx_o96 (lx_k16 (i := 60) rfl)
theorem dL_law_1085 : decode cL_law 1085 = .ok (.iaload, 1) := lx_o46 (lx_k16 (i := 61) rfl)
theorem dL_law_1086 : decode cL_law 1086 = .ok (.aload_n 0, 1) := lx_o42 (lx_k16 (i := 62) rfl)
theorem dL_law_1087 : decode cL_law 1087 = .ok (.iload 4, 2) := lx_o21 (lx_k16 (i := 63) rfl) (lx_k17 (i := 0) rfl)
theorem dL_law_1089 : decode cL_law 1089 = .ok (.iconst 2, 1) := lx_o5 (lx_k17 (i := 1) rfl)
theorem dL_law_1090 : decode cL_law 1090 = .ok (.iadd, 1) := lx_o96 (lx_k17 (i := 2) rfl)
theorem dL_law_1091 : decode cL_law 1091 = .ok (.iaload, 1) := lx_o46 (lx_k17 (i := 3) rfl)
theorem dL_law_1092 : decode cL_law 1092 = .ok (.invokevirtual 215, 3) := lx_o182 (lx_k17 (i := 4) rfl) (lx_k17 (i := 5) rfl) (lx_k17 (i := 6) rfl) rfl
theorem dL_law_1095 : decode cL_law 1095 = .ok (.istore 6, 2) := lx_o54 (lx_k17 (i := 7) rfl) (lx_k17 (i := 8) rfl)
theorem dL_law_1097 : decode cL_law 1097 = .ok (.goto 652, 3) := lx_o167 (lx_k17 (i := 9) rfl) (lx_k17 (i := 10) rfl) (lx_k17 (i := 11) rfl) rfl
theorem dL_law_1100 : decode cL_law 1100 = .ok (.aload_n 1, 1) := lx_o43 (lx_k17 (i := 12) rfl)
theorem dL_law_1101 : decode cL_law 1101 = .ok (.aload_n 0, 1) := lx_o42 (lx_k17 (i := 13) rfl)
theorem dL_law_1102 : decode cL_law 1102 = .ok (.iload 4, 2) := lx_o21 (lx_k17 (i := 14) rfl) (lx_k17 (i := 15) rfl)
theorem dL_law_1104 : decode cL_law 1104 = .ok (.iconst 1, 1) := lx_o4 (lx_k17 (i := 16) rfl)
theorem dL_law_1105 : decode cL_law 1105 = .ok (.iadd, 1) := lx_o96 (lx_k17 (i := 17) rfl)
theorem dL_law_1106 : decode cL_law 1106 = .ok (.iaload, 1) := lx_o46 (lx_k17 (i := 18) rfl)
theorem dL_law_1107 : decode cL_law 1107 = .ok (.aload_n 3, 1) := lx_o45 (lx_k17 (i := 19) rfl)
theorem dL_law_1108 : decode cL_law 1108 = .ok (.invokestatic 216, 3) := lx_o184 (lx_k17 (i := 20) rfl) (lx_k17 (i := 21) rfl) (lx_k17 (i := 22) rfl) rfl
theorem dL_law_1111 : decode cL_law 1111 = .ok (.istore 5, 2) := lx_o54 (lx_k17 (i := 23) rfl) (lx_k17 (i := 24) rfl)
theorem dL_law_1113 : decode cL_law 1113 = .ok (.aload_n 2, 1) := lx_o44 (lx_k17 (i := 25) rfl)
theorem dL_law_1114 : decode cL_law 1114 = .ok (.aload_n 0, 1) := lx_o42 (lx_k17 (i := 26) rfl)
theorem dL_law_1115 : decode cL_law 1115 = .ok (.iload 4, 2) := lx_o21 (lx_k17 (i := 27) rfl) (lx_k17 (i := 28) rfl)
theorem dL_law_1117 : decode cL_law 1117 = .ok (.iconst 1, 1) := lx_o4 (lx_k17 (i := 29) rfl)
theorem dL_law_1118 : decode cL_law 1118 = .ok (.iadd, 1) := lx_o96 (lx_k17 (i := 30) rfl)
theorem dL_law_1119 : decode cL_law 1119 = .ok (.iaload, 1) := lx_o46 (lx_k17 (i := 31) rfl)
theorem dL_law_1120 : decode cL_law 1120 = .ok (.invokevirtual 218, 3) := lx_o182 (lx_k17 (i := 32) rfl) (lx_k17 (i := 33) rfl) (lx_k17 (i := 34) rfl) rfl
theorem dL_law_1123 : decode cL_law 1123 = .ok (.istore 6, 2) := lx_o54 (lx_k17 (i := 35) rfl) (lx_k17 (i := 36) rfl)
theorem dL_law_1125 : decode cL_law 1125 = .ok (.goto 624, 3) := lx_o167 (lx_k17 (i := 37) rfl) (lx_k17 (i := 38) rfl) (lx_k17 (i := 39) rfl) rfl
theorem dL_law_1128 : decode cL_law 1128 = .ok (.aload_n 1, 1) := lx_o43 (lx_k17 (i := 40) rfl)
theorem dL_law_1129 : decode cL_law 1129 = .ok (.aload_n 0, 1) := lx_o42 (lx_k17 (i := 41) rfl)
theorem dL_law_1130 : decode cL_law 1130 = .ok (.iload 4, 2) := lx_o21 (lx_k17 (i := 42) rfl) (lx_k17 (i := 43) rfl)
theorem dL_law_1132 : decode cL_law 1132 = .ok (.iconst 1, 1) := lx_o4 (lx_k17 (i := 44) rfl)
theorem dL_law_1133 : decode cL_law 1133 = .ok (.iadd, 1) := lx_o96 (lx_k17 (i := 45) rfl)
theorem dL_law_1134 : decode cL_law 1134 = .ok (.iaload, 1) := lx_o46 (lx_k17 (i := 46) rfl)
theorem dL_law_1135 : decode cL_law 1135 = .ok (.aload_n 3, 1) := lx_o45 (lx_k17 (i := 47) rfl)
theorem dL_law_1136 : decode cL_law 1136 = .ok (.invokestatic 219, 3) := lx_o184 (lx_k17 (i := 48) rfl) (lx_k17 (i := 49) rfl) (lx_k17 (i := 50) rfl) rfl
theorem dL_law_1139 : decode cL_law 1139 = .ok (.istore 5, 2) := lx_o54 (lx_k17 (i := 51) rfl) (lx_k17 (i := 52) rfl)
theorem dL_law_1141 : decode cL_law 1141 = .ok (.aload_n 2, 1) := lx_o44 (lx_k17 (i := 53) rfl)
theorem dL_law_1142 : decode cL_law 1142 = .ok (.aload_n 0, 1) := lx_o42 (lx_k17 (i := 54) rfl)
theorem dL_law_1143 : decode cL_law 1143 = .ok (.iload 4, 2) := lx_o21 (lx_k17 (i := 55) rfl) (lx_k17 (i := 56) rfl)
theorem dL_law_1145 : decode cL_law 1145 = .ok (.iconst 1, 1) := lx_o4 (lx_k17 (i := 57) rfl)
theorem dL_law_1146 : decode cL_law 1146 = .ok (.iadd, 1) := lx_o96 (lx_k17 (i := 58) rfl)
theorem dL_law_1147 : decode cL_law 1147 = .ok (.iaload, 1) := lx_o46 (lx_k17 (i := 59) rfl)
theorem dL_law_1148 : decode cL_law 1148 = .ok (.invokevirtual 221, 3) := lx_o182 (lx_k17 (i := 60) rfl) (lx_k17 (i := 61) rfl) (lx_k17 (i := 62) rfl) rfl
theorem dL_law_1151 : decode cL_law 1151 = .ok (.istore 6, 2) := lx_o54 (lx_k17 (i := 63) rfl) (lx_k18 (i := 0) rfl)
theorem dL_law_1153 : decode cL_law 1153 = .ok (.goto 596, 3) := lx_o167 (lx_k18 (i := 1) rfl) (lx_k18 (i := 2) rfl) (lx_k18 (i := 3) rfl) rfl
theorem dL_law_1156 : decode cL_law 1156 = .ok (.aload_n 1, 1) := lx_o43 (lx_k18 (i := 4) rfl)
theorem dL_law_1157 : decode cL_law 1157 = .ok (.aload_n 0, 1) := lx_o42 (lx_k18 (i := 5) rfl)
theorem dL_law_1158 : decode cL_law 1158 = .ok (.iload 4, 2) := lx_o21 (lx_k18 (i := 6) rfl) (lx_k18 (i := 7) rfl)
theorem dL_law_1160 : decode cL_law 1160 = .ok (.iconst 1, 1) := lx_o4 (lx_k18 (i := 8) rfl)
theorem dL_law_1161 : decode cL_law 1161 = .ok (.iadd, 1) := lx_o96 (lx_k18 (i := 9) rfl)
theorem dL_law_1162 : decode cL_law 1162 = .ok (.iaload, 1) := lx_o46 (lx_k18 (i := 10) rfl)
theorem dL_law_1163 : decode cL_law 1163 = .ok (.aload_n 3, 1) := lx_o45 (lx_k18 (i := 11) rfl)
theorem dL_law_1164 : decode cL_law 1164 = .ok (.invokestatic 222, 3) := lx_o184 (lx_k18 (i := 12) rfl) (lx_k18 (i := 13) rfl) (lx_k18 (i := 14) rfl) rfl
theorem dL_law_1167 : decode cL_law 1167 = .ok (.istore 5, 2) := lx_o54 (lx_k18 (i := 15) rfl) (lx_k18 (i := 16) rfl)
theorem dL_law_1169 : decode cL_law 1169 = .ok (.aload_n 2, 1) := lx_o44 (lx_k18 (i := 17) rfl)
theorem dL_law_1170 : decode cL_law 1170 = .ok (.aload_n 0, 1) := lx_o42 (lx_k18 (i := 18) rfl)
theorem dL_law_1171 : decode cL_law 1171 = .ok (.iload 4, 2) := lx_o21 (lx_k18 (i := 19) rfl) (lx_k18 (i := 20) rfl)
theorem dL_law_1173 : decode cL_law 1173 = .ok (.iconst 1, 1) := lx_o4 (lx_k18 (i := 21) rfl)
theorem dL_law_1174 : decode cL_law 1174 = .ok (.iadd, 1) := lx_o96 (lx_k18 (i := 22) rfl)
theorem dL_law_1175 : decode cL_law 1175 = .ok (.iaload, 1) := lx_o46 (lx_k18 (i := 23) rfl)
theorem dL_law_1176 : decode cL_law 1176 = .ok (.invokevirtual 224, 3) := lx_o182 (lx_k18 (i := 24) rfl) (lx_k18 (i := 25) rfl) (lx_k18 (i := 26) rfl) rfl
theorem dL_law_1179 : decode cL_law 1179 = .ok (.istore 6, 2) := lx_o54 (lx_k18 (i := 27) rfl) (lx_k18 (i := 28) rfl)
theorem dL_law_1181 : decode cL_law 1181 = .ok (.goto 568, 3) := lx_o167 (lx_k18 (i := 29) rfl) (lx_k18 (i := 30) rfl) (lx_k18 (i := 31) rfl) rfl
theorem dL_law_1184 : decode cL_law 1184 = .ok (.aload_n 1, 1) := lx_o43 (lx_k18 (i := 32) rfl)
theorem dL_law_1185 : decode cL_law 1185 = .ok (.aload_n 0, 1) := lx_o42 (lx_k18 (i := 33) rfl)
theorem dL_law_1186 : decode cL_law 1186 = .ok (.iload 4, 2) := lx_o21 (lx_k18 (i := 34) rfl) (lx_k18 (i := 35) rfl)
theorem dL_law_1188 : decode cL_law 1188 = .ok (.iconst 1, 1) := lx_o4 (lx_k18 (i := 36) rfl)
theorem dL_law_1189 : decode cL_law 1189 = .ok (.iadd, 1) := lx_o96 (lx_k18 (i := 37) rfl)
theorem dL_law_1190 : decode cL_law 1190 = .ok (.iaload, 1) := lx_o46 (lx_k18 (i := 38) rfl)
theorem dL_law_1191 : decode cL_law 1191 = .ok (.aload_n 3, 1) := lx_o45 (lx_k18 (i := 39) rfl)
theorem dL_law_1192 : decode cL_law 1192 = .ok (.invokestatic 225, 3) := lx_o184 (lx_k18 (i := 40) rfl) (lx_k18 (i := 41) rfl) (lx_k18 (i := 42) rfl) rfl
theorem dL_law_1195 : decode cL_law 1195 = .ok (.istore 5, 2) := lx_o54 (lx_k18 (i := 43) rfl) (lx_k18 (i := 44) rfl)
theorem dL_law_1197 : decode cL_law 1197 = .ok (.aload_n 2, 1) := lx_o44 (lx_k18 (i := 45) rfl)
theorem dL_law_1198 : decode cL_law 1198 = .ok (.aload_n 0, 1) := lx_o42 (lx_k18 (i := 46) rfl)
theorem dL_law_1199 : decode cL_law 1199 = .ok (.iload 4, 2) := lx_o21 (lx_k18 (i := 47) rfl) (lx_k18 (i := 48) rfl)
theorem dL_law_1201 : decode cL_law 1201 = .ok (.iconst 1, 1) := lx_o4 (lx_k18 (i := 49) rfl)
theorem dL_law_1202 : decode cL_law 1202 = .ok (.iadd, 1) := lx_o96 (lx_k18 (i := 50) rfl)
theorem dL_law_1203 : decode cL_law 1203 = .ok (.iaload, 1) := lx_o46 (lx_k18 (i := 51) rfl)
theorem dL_law_1204 : decode cL_law 1204 = .ok (.invokevirtual 227, 3) := lx_o182 (lx_k18 (i := 52) rfl) (lx_k18 (i := 53) rfl) (lx_k18 (i := 54) rfl) rfl
theorem dL_law_1207 : decode cL_law 1207 = .ok (.istore 6, 2) := lx_o54 (lx_k18 (i := 55) rfl) (lx_k18 (i := 56) rfl)
theorem dL_law_1209 : decode cL_law 1209 = .ok (.goto 540, 3) := lx_o167 (lx_k18 (i := 57) rfl) (lx_k18 (i := 58) rfl) (lx_k18 (i := 59) rfl) rfl
theorem dL_law_1212 : decode cL_law 1212 = .ok (.aload_n 1, 1) := lx_o43 (lx_k18 (i := 60) rfl)
theorem dL_law_1213 : decode cL_law 1213 = .ok (.aload_n 0, 1) := lx_o42 (lx_k18 (i := 61) rfl)
theorem dL_law_1214 : decode cL_law 1214 = .ok (.iload 4, 2) := lx_o21 (lx_k18 (i := 62) rfl) (lx_k18 (i := 63) rfl)
theorem dL_law_1216 : decode cL_law 1216 = .ok (.iconst 1, 1) := lx_o4 (lx_k19 (i := 0) rfl)
theorem dL_law_1217 : decode cL_law 1217 = .ok (.iadd, 1) := lx_o96 (lx_k19 (i := 1) rfl)
theorem dL_law_1218 : decode cL_law 1218 = .ok (.iaload, 1) := lx_o46 (lx_k19 (i := 2) rfl)
theorem dL_law_1219 : decode cL_law 1219 = .ok (.aload_n 3, 1) := lx_o45 (lx_k19 (i := 3) rfl)
theorem dL_law_1220 : decode cL_law 1220 = .ok (.invokestatic 228, 3) := lx_o184 (lx_k19 (i := 4) rfl) (lx_k19 (i := 5) rfl) (lx_k19 (i := 6) rfl) rfl
theorem dL_law_1223 : decode cL_law 1223 = .ok (.istore 5, 2) := lx_o54 (lx_k19 (i := 7) rfl) (lx_k19 (i := 8) rfl)
theorem dL_law_1225 : decode cL_law 1225 = .ok (.aload_n 2, 1) := lx_o44 (lx_k19 (i := 9) rfl)
theorem dL_law_1226 : decode cL_law 1226 = .ok (.aload_n 0, 1) := lx_o42 (lx_k19 (i := 10) rfl)
theorem dL_law_1227 : decode cL_law 1227 = .ok (.iload 4, 2) := lx_o21 (lx_k19 (i := 11) rfl) (lx_k19 (i := 12) rfl)
theorem dL_law_1229 : decode cL_law 1229 = .ok (.iconst 1, 1) := lx_o4 (lx_k19 (i := 13) rfl)
theorem dL_law_1230 : decode cL_law 1230 = .ok (.iadd, 1) := lx_o96 (lx_k19 (i := 14) rfl)
theorem dL_law_1231 : decode cL_law 1231 = .ok (.iaload, 1) := lx_o46 (lx_k19 (i := 15) rfl)
theorem dL_law_1232 : decode cL_law 1232 = .ok (.invokevirtual 230, 3) := lx_o182 (lx_k19 (i := 16) rfl) (lx_k19 (i := 17) rfl) (lx_k19 (i := 18) rfl) rfl
theorem dL_law_1235 : decode cL_law 1235 = .ok (.istore 6, 2) := lx_o54 (lx_k19 (i := 19) rfl) (lx_k19 (i := 20) rfl)
theorem dL_law_1237 : decode cL_law 1237 = .ok (.goto 512, 3) := lx_o167 (lx_k19 (i := 21) rfl) (lx_k19 (i := 22) rfl) (lx_k19 (i := 23) rfl) rfl
theorem dL_law_1240 : decode cL_law 1240 = .ok (.aload_n 1, 1) := lx_o43 (lx_k19 (i := 24) rfl)
theorem dL_law_1241 : decode cL_law 1241 = .ok (.aload_n 0, 1) := lx_o42 (lx_k19 (i := 25) rfl)
theorem dL_law_1242 : decode cL_law 1242 = .ok (.iload 4, 2) := lx_o21 (lx_k19 (i := 26) rfl) (lx_k19 (i := 27) rfl)
theorem dL_law_1244 : decode cL_law 1244 = .ok (.iconst 1, 1) := lx_o4 (lx_k19 (i := 28) rfl)
theorem dL_law_1245 : decode cL_law 1245 = .ok (.iadd, 1) := lx_o96 (lx_k19 (i := 29) rfl)
theorem dL_law_1246 : decode cL_law 1246 = .ok (.iaload, 1) := lx_o46 (lx_k19 (i := 30) rfl)
theorem dL_law_1247 : decode cL_law 1247 = .ok (.aload_n 3, 1) := lx_o45 (lx_k19 (i := 31) rfl)
theorem dL_law_1248 : decode cL_law 1248 = .ok (.invokestatic 231, 3) := lx_o184 (lx_k19 (i := 32) rfl) (lx_k19 (i := 33) rfl) (lx_k19 (i := 34) rfl) rfl
theorem dL_law_1251 : decode cL_law 1251 = .ok (.istore 5, 2) := lx_o54 (lx_k19 (i := 35) rfl) (lx_k19 (i := 36) rfl)
theorem dL_law_1253 : decode cL_law 1253 = .ok (.aload_n 2, 1) := lx_o44 (lx_k19 (i := 37) rfl)
theorem dL_law_1254 : decode cL_law 1254 = .ok (.aload_n 0, 1) := lx_o42 (lx_k19 (i := 38) rfl)
theorem dL_law_1255 : decode cL_law 1255 = .ok (.iload 4, 2) := lx_o21 (lx_k19 (i := 39) rfl) (lx_k19 (i := 40) rfl)
theorem dL_law_1257 : decode cL_law 1257 = .ok (.iconst 1, 1) := lx_o4 (lx_k19 (i := 41) rfl)
theorem dL_law_1258 : decode cL_law 1258 = .ok (.iadd, 1) := lx_o96 (lx_k19 (i := 42) rfl)
theorem dL_law_1259 : decode cL_law 1259 = .ok (.iaload, 1) := lx_o46 (lx_k19 (i := 43) rfl)
theorem dL_law_1260 : decode cL_law 1260 = .ok (.invokevirtual 233, 3) := lx_o182 (lx_k19 (i := 44) rfl) (lx_k19 (i := 45) rfl) (lx_k19 (i := 46) rfl) rfl
theorem dL_law_1263 : decode cL_law 1263 = .ok (.istore 6, 2) := lx_o54 (lx_k19 (i := 47) rfl) (lx_k19 (i := 48) rfl)
theorem dL_law_1265 : decode cL_law 1265 = .ok (.goto 484, 3) := lx_o167 (lx_k19 (i := 49) rfl) (lx_k19 (i := 50) rfl) (lx_k19 (i := 51) rfl) rfl
theorem dL_law_1268 : decode cL_law 1268 = .ok (.aload_n 1, 1) := lx_o43 (lx_k19 (i := 52) rfl)
theorem dL_law_1269 : decode cL_law 1269 = .ok (.aload_n 0, 1) := lx_o42 (lx_k19 (i := 53) rfl)
theorem dL_law_1270 : decode cL_law 1270 = .ok (.iload 4, 2) := lx_o21 (lx_k19 (i := 54) rfl) (lx_k19 (i := 55) rfl)
theorem dL_law_1272 : decode cL_law 1272 = .ok (.iconst 1, 1) := lx_o4 (lx_k19 (i := 56) rfl)
theorem dL_law_1273 : decode cL_law 1273 = .ok (.iadd, 1) := lx_o96 (lx_k19 (i := 57) rfl)
theorem dL_law_1274 : decode cL_law 1274 = .ok (.iaload, 1) := lx_o46 (lx_k19 (i := 58) rfl)
theorem dL_law_1275 : decode cL_law 1275 = .ok (.aload_n 0, 1) := lx_o42 (lx_k19 (i := 59) rfl)
theorem dL_law_1276 : decode cL_law 1276 = .ok (.iload 4, 2) := lx_o21 (lx_k19 (i := 60) rfl) (lx_k19 (i := 61) rfl)
theorem dL_law_1278 : decode cL_law 1278 = .ok (.iconst 2, 1) := lx_o5 (lx_k19 (i := 62) rfl)
theorem dL_law_1279 : decode cL_law 1279 = .ok (.iadd, 1) := lx_o96 (lx_k19 (i := 63) rfl)
theorem dL_law_1280 : decode cL_law 1280 = .ok (.iaload, 1) := lx_o46 (lx_k20 (i := 0) rfl)
theorem dL_law_1281 : decode cL_law 1281 = .ok (.aload_n 0, 1) := lx_o42 (lx_k20 (i := 1) rfl)
theorem dL_law_1282 : decode cL_law 1282 = .ok (.iload 4, 2) := lx_o21 (lx_k20 (i := 2) rfl) (lx_k20 (i := 3) rfl)
theorem dL_law_1284 : decode cL_law 1284 = .ok (.iconst 3, 1) := lx_o6 (lx_k20 (i := 4) rfl)
theorem dL_law_1285 : decode cL_law 1285 = .ok (.iadd, 1) := lx_o96 (lx_k20 (i := 5) rfl)
theorem dL_law_1286 : decode cL_law 1286 = .ok (.iaload, 1) := lx_o46 (lx_k20 (i := 6) rfl)
theorem dL_law_1287 : decode cL_law 1287 = .ok (.aload_n 3, 1) := lx_o45 (lx_k20 (i := 7) rfl)
theorem dL_law_1288 : decode cL_law 1288 = .ok (.invokestatic 234, 3) := lx_o184 (lx_k20 (i := 8) rfl) (lx_k20 (i := 9) rfl) (lx_k20 (i := 10) rfl) rfl
theorem dL_law_1291 : decode cL_law 1291 = .ok (.istore 5, 2) := lx_o54 (lx_k20 (i := 11) rfl) (lx_k20 (i := 12) rfl)
theorem dL_law_1293 : decode cL_law 1293 = .ok (.aload_n 2, 1) := lx_o44 (lx_k20 (i := 13) rfl)
theorem dL_law_1294 : decode cL_law 1294 = .ok (.aload_n 0, 1) := lx_o42 (lx_k20 (i := 14) rfl)
theorem dL_law_1295 : decode cL_law 1295 = .ok (.iload 4, 2) := lx_o21 (lx_k20 (i := 15) rfl) (lx_k20 (i := 16) rfl)
theorem dL_law_1297 : decode cL_law 1297 = .ok (.iconst 1, 1) := lx_o4 (lx_k20 (i := 17) rfl)
theorem dL_law_1298 : decode cL_law 1298 = .ok (.iadd, 1) := lx_o96 (lx_k20 (i := 18) rfl)
theorem dL_law_1299 : decode cL_law 1299 = .ok (.iaload, 1) := lx_o46 (lx_k20 (i := 19) rfl)
theorem dL_law_1300 : decode cL_law 1300 = .ok (.aload_n 0, 1) := lx_o42 (lx_k20 (i := 20) rfl)
theorem dL_law_1301 : decode cL_law 1301 = .ok (.iload 4, 2) := lx_o21 (lx_k20 (i := 21) rfl) (lx_k20 (i := 22) rfl)
theorem dL_law_1303 : decode cL_law 1303 = .ok (.iconst 2, 1) := lx_o5 (lx_k20 (i := 23) rfl)
theorem dL_law_1304 : decode cL_law 1304 = .ok (.iadd, 1) := lx_o96 (lx_k20 (i := 24) rfl)
theorem dL_law_1305 : decode cL_law 1305 = .ok (.iaload, 1) := lx_o46 (lx_k20 (i := 25) rfl)
theorem dL_law_1306 : decode cL_law 1306 = .ok (.aload_n 0, 1) := lx_o42 (lx_k20 (i := 26) rfl)
theorem dL_law_1307 : decode cL_law 1307 = .ok (.iload 4, 2) := lx_o21 (lx_k20 (i := 27) rfl) (lx_k20 (i := 28) rfl)
theorem dL_law_1309 : decode cL_law 1309 = .ok (.iconst 3, 1) := lx_o6 (lx_k20 (i := 29) rfl)
theorem dL_law_1310 : decode cL_law 1310 = .ok (.iadd, 1) := lx_o96 (lx_k20 (i := 30) rfl)
theorem dL_law_1311 : decode cL_law 1311 = .ok (.iaload, 1) := lx_o46 (lx_k20 (i := 31) rfl)
theorem dL_law_1312 : decode cL_law 1312 = .ok (.invokevirtual 236, 3) := lx_o182 (lx_k20 (i := 32) rfl) (lx_k20 (i := 33) rfl) (lx_k20 (i := 34) rfl) rfl
theorem dL_law_1315 : decode cL_law 1315 = .ok (.istore 6, 2) := lx_o54 (lx_k20 (i := 35) rfl) (lx_k20 (i := 36) rfl)
theorem dL_law_1317 : decode cL_law 1317 = .ok (.goto 432, 3) := lx_o167 (lx_k20 (i := 37) rfl) (lx_k20 (i := 38) rfl) (lx_k20 (i := 39) rfl) rfl
theorem dL_law_1320 : decode cL_law 1320 = .ok (.aload_n 1, 1) := lx_o43 (lx_k20 (i := 40) rfl)
theorem dL_law_1321 : decode cL_law 1321 = .ok (.invokevirtual 237, 3) := lx_o182 (lx_k20 (i := 41) rfl) (lx_k20 (i := 42) rfl) (lx_k20 (i := 43) rfl) rfl
theorem dL_law_1324 : decode cL_law 1324 = .ok (.pop, 1) := lx_o87 (lx_k20 (i := 44) rfl)
theorem dL_law_1325 : decode cL_law 1325 = .ok (.aload_n 2, 1) := lx_o44 (lx_k20 (i := 45) rfl)
theorem dL_law_1326 : decode cL_law 1326 = .ok (.invokevirtual 240, 3) := lx_o182 (lx_k20 (i := 46) rfl) (lx_k20 (i := 47) rfl) (lx_k20 (i := 48) rfl) rfl
theorem dL_law_1329 : decode cL_law 1329 = .ok (.pop, 1) := lx_o87 (lx_k20 (i := 49) rfl)
theorem dL_law_1330 : decode cL_law 1330 = .ok (.goto 419, 3) := lx_o167 (lx_k20 (i := 50) rfl) (lx_k20 (i := 51) rfl) (lx_k20 (i := 52) rfl) rfl
theorem dL_law_1333 : decode cL_law 1333 = .ok (.aload_n 1, 1) := lx_o43 (lx_k20 (i := 53) rfl)
theorem dL_law_1334 : decode cL_law 1334 = .ok (.invokevirtual 241, 3) := lx_o182 (lx_k20 (i := 54) rfl) (lx_k20 (i := 55) rfl) (lx_k20 (i := 56) rfl) rfl
theorem dL_law_1337 : decode cL_law 1337 = .ok (.pop, 1) := lx_o87 (lx_k20 (i := 57) rfl)
theorem dL_law_1338 : decode cL_law 1338 = .ok (.aload_n 2, 1) := lx_o44 (lx_k20 (i := 58) rfl)
theorem dL_law_1339 : decode cL_law 1339 = .ok (.invokevirtual 244, 3) := lx_o182 (lx_k20 (i := 59) rfl) (lx_k20 (i := 60) rfl) (lx_k20 (i := 61) rfl) rfl
theorem dL_law_1342 : decode cL_law 1342 = .ok (.pop, 1) := lx_o87 (lx_k20 (i := 62) rfl)
theorem dL_law_1343 : decode cL_law 1343 = .ok (.goto 406, 3) := lx_o167 (lx_k20 (i := 63) rfl) (lx_k21 (i := 0) rfl) (lx_k21 (i := 1) rfl) rfl
theorem dL_law_1346 : decode cL_law 1346 = .ok (.aload_n 1, 1) := lx_o43 (lx_k21 (i := 2) rfl)
theorem dL_law_1347 : decode cL_law 1347 = .ok (.aload_n 0, 1) := lx_o42 (lx_k21 (i := 3) rfl)
theorem dL_law_1348 : decode cL_law 1348 = .ok (.iload 4, 2) := lx_o21 (lx_k21 (i := 4) rfl) (lx_k21 (i := 5) rfl)
theorem dL_law_1350 : decode cL_law 1350 = .ok (.iconst 1, 1) := lx_o4 (lx_k21 (i := 6) rfl)
theorem dL_law_1351 : decode cL_law 1351 = .ok (.iadd, 1) := lx_o96 (lx_k21 (i := 7) rfl)
theorem dL_law_1352 : decode cL_law 1352 = .ok (.iaload, 1) := lx_o46 (lx_k21 (i := 8) rfl)
theorem dL_law_1353 : decode cL_law 1353 = .ok (.invokevirtual 245, 3) := lx_o182 (lx_k21 (i := 9) rfl) (lx_k21 (i := 10) rfl) (lx_k21 (i := 11) rfl) rfl
theorem dL_law_1356 : decode cL_law 1356 = .ok (.pop, 1) := lx_o87 (lx_k21 (i := 12) rfl)
theorem dL_law_1357 : decode cL_law 1357 = .ok (.aload_n 2, 1) := lx_o44 (lx_k21 (i := 13) rfl)
theorem dL_law_1358 : decode cL_law 1358 = .ok (.aload_n 0, 1) := lx_o42 (lx_k21 (i := 14) rfl)
theorem dL_law_1359 : decode cL_law 1359 = .ok (.iload 4, 2) := lx_o21 (lx_k21 (i := 15) rfl) (lx_k21 (i := 16) rfl)
theorem dL_law_1361 : decode cL_law 1361 = .ok (.iconst 1, 1) := lx_o4 (lx_k21 (i := 17) rfl)
theorem dL_law_1362 : decode cL_law 1362 = .ok (.iadd, 1) := lx_o96 (lx_k21 (i := 18) rfl)
theorem dL_law_1363 : decode cL_law 1363 = .ok (.iaload, 1) := lx_o46 (lx_k21 (i := 19) rfl)
theorem dL_law_1364 : decode cL_law 1364 = .ok (.invokevirtual 248, 3) := lx_o182 (lx_k21 (i := 20) rfl) (lx_k21 (i := 21) rfl) (lx_k21 (i := 22) rfl) rfl
theorem dL_law_1367 : decode cL_law 1367 = .ok (.pop, 1) := lx_o87 (lx_k21 (i := 23) rfl)
theorem dL_law_1368 : decode cL_law 1368 = .ok (.goto 381, 3) := lx_o167 (lx_k21 (i := 24) rfl) (lx_k21 (i := 25) rfl) (lx_k21 (i := 26) rfl) rfl
theorem dL_law_1371 : decode cL_law 1371 = .ok (.aload_n 1, 1) := lx_o43 (lx_k21 (i := 27) rfl)
theorem dL_law_1372 : decode cL_law 1372 = .ok (.aload_n 0, 1) := lx_o42 (lx_k21 (i := 28) rfl)
theorem dL_law_1373 : decode cL_law 1373 = .ok (.iload 4, 2) := lx_o21 (lx_k21 (i := 29) rfl) (lx_k21 (i := 30) rfl)
theorem dL_law_1375 : decode cL_law 1375 = .ok (.iconst 1, 1) := lx_o4 (lx_k21 (i := 31) rfl)
theorem dL_law_1376 : decode cL_law 1376 = .ok (.iadd, 1) := lx_o96 (lx_k21 (i := 32) rfl)
theorem dL_law_1377 : decode cL_law 1377 = .ok (.iaload, 1) := lx_o46 (lx_k21 (i := 33) rfl)
theorem dL_law_1378 : decode cL_law 1378 = .ok (.invokevirtual 249, 3) := lx_o182 (lx_k21 (i := 34) rfl) (lx_k21 (i := 35) rfl) (lx_k21 (i := 36) rfl) rfl
theorem dL_law_1381 : decode cL_law 1381 = .ok (.pop, 1) := lx_o87 (lx_k21 (i := 37) rfl)
theorem dL_law_1382 : decode cL_law 1382 = .ok (.aload_n 2, 1) := lx_o44 (lx_k21 (i := 38) rfl)
theorem dL_law_1383 : decode cL_law 1383 = .ok (.aload_n 0, 1) := lx_o42 (lx_k21 (i := 39) rfl)
theorem dL_law_1384 : decode cL_law 1384 = .ok (.iload 4, 2) := lx_o21 (lx_k21 (i := 40) rfl) (lx_k21 (i := 41) rfl)
theorem dL_law_1386 : decode cL_law 1386 = .ok (.iconst 1, 1) := lx_o4 (lx_k21 (i := 42) rfl)
theorem dL_law_1387 : decode cL_law 1387 = .ok (.iadd, 1) := lx_o96 (lx_k21 (i := 43) rfl)
theorem dL_law_1388 : decode cL_law 1388 = .ok (.iaload, 1) := lx_o46 (lx_k21 (i := 44) rfl)
theorem dL_law_1389 : decode cL_law 1389 = .ok (.invokevirtual 252, 3) := lx_o182 (lx_k21 (i := 45) rfl) (lx_k21 (i := 46) rfl) (lx_k21 (i := 47) rfl) rfl
theorem dL_law_1392 : decode cL_law 1392 = .ok (.pop, 1) := lx_o87 (lx_k21 (i := 48) rfl)
theorem dL_law_1393 : decode cL_law 1393 = .ok (.goto 356, 3) := lx_o167 (lx_k21 (i := 49) rfl) (lx_k21 (i := 50) rfl) (lx_k21 (i := 51) rfl) rfl
theorem dL_law_1396 : decode cL_law 1396 = .ok (.aload_n 1, 1) := lx_o43 (lx_k21 (i := 52) rfl)
theorem dL_law_1397 : decode cL_law 1397 = .ok (.aload_n 0, 1) := lx_o42 (lx_k21 (i := 53) rfl)
theorem dL_law_1398 : decode cL_law 1398 = .ok (.iload 4, 2) := lx_o21 (lx_k21 (i := 54) rfl) (lx_k21 (i := 55) rfl)
theorem dL_law_1400 : decode cL_law 1400 = .ok (.iconst 1, 1) := lx_o4 (lx_k21 (i := 56) rfl)
theorem dL_law_1401 : decode cL_law 1401 = .ok (.iadd, 1) := lx_o96 (lx_k21 (i := 57) rfl)
theorem dL_law_1402 : decode cL_law 1402 = .ok (.iaload, 1) := lx_o46 (lx_k21 (i := 58) rfl)
theorem dL_law_1403 : decode cL_law 1403 = .ok (.aload_n 3, 1) := lx_o45 (lx_k21 (i := 59) rfl)
theorem dL_law_1404 : decode cL_law 1404 = .ok (.invokestatic 253, 3) := lx_o184 (lx_k21 (i := 60) rfl) (lx_k21 (i := 61) rfl) (lx_k21 (i := 62) rfl) rfl
theorem dL_law_1407 : decode cL_law 1407 = .ok (.istore 5, 2) := lx_o54 (lx_k21 (i := 63) rfl) (lx_k22 (i := 0) rfl)
theorem dL_law_1409 : decode cL_law 1409 = .ok (.aload_n 2, 1) := lx_o44 (lx_k22 (i := 1) rfl)
theorem dL_law_1410 : decode cL_law 1410 = .ok (.aload_n 0, 1) := lx_o42 (lx_k22 (i := 2) rfl)
theorem dL_law_1411 : decode cL_law 1411 = .ok (.iload 4, 2) := lx_o21 (lx_k22 (i := 3) rfl) (lx_k22 (i := 4) rfl)
theorem dL_law_1413 : decode cL_law 1413 = .ok (.iconst 1, 1) := lx_o4 (lx_k22 (i := 5) rfl)
theorem dL_law_1414 : decode cL_law 1414 = .ok (.iadd, 1) := lx_o96 (lx_k22 (i := 6) rfl)
theorem dL_law_1415 : decode cL_law 1415 = .ok (.iaload, 1) := lx_o46 (lx_k22 (i := 7) rfl)
theorem dL_law_1416 : decode cL_law 1416 = .ok (.invokevirtual 255, 3) := lx_o182 (lx_k22 (i := 8) rfl) (lx_k22 (i := 9) rfl) (lx_k22 (i := 10) rfl) rfl
theorem dL_law_1419 : decode cL_law 1419 = .ok (.istore 6, 2) := lx_o54 (lx_k22 (i := 11) rfl) (lx_k22 (i := 12) rfl)
theorem dL_law_1421 : decode cL_law 1421 = .ok (.goto 328, 3) := lx_o167 (lx_k22 (i := 13) rfl) (lx_k22 (i := 14) rfl) (lx_k22 (i := 15) rfl) rfl
theorem dL_law_1424 : decode cL_law 1424 = .ok (.aload_n 1, 1) := lx_o43 (lx_k22 (i := 16) rfl)
theorem dL_law_1425 : decode cL_law 1425 = .ok (.invokevirtual 256, 3) := lx_o182 (lx_k22 (i := 17) rfl) (lx_k22 (i := 18) rfl) (lx_k22 (i := 19) rfl) rfl
theorem dL_law_1428 : decode cL_law 1428 = .ok (.pop, 1) := lx_o87 (lx_k22 (i := 20) rfl)
theorem dL_law_1429 : decode cL_law 1429 = .ok (.aload_n 2, 1) := lx_o44 (lx_k22 (i := 21) rfl)
theorem dL_law_1430 : decode cL_law 1430 = .ok (.invokevirtual 260, 3) := lx_o182 (lx_k22 (i := 22) rfl) (lx_k22 (i := 23) rfl) (lx_k22 (i := 24) rfl) rfl
theorem dL_law_1433 : decode cL_law 1433 = .ok (.pop, 1) := lx_o87 (lx_k22 (i := 25) rfl)
theorem dL_law_1434 : decode cL_law 1434 = .ok (.goto 315, 3) := lx_o167 (lx_k22 (i := 26) rfl) (lx_k22 (i := 27) rfl) (lx_k22 (i := 28) rfl) rfl
theorem dL_law_1437 : decode cL_law 1437 = .ok (.aload_n 1, 1) := lx_o43 (lx_k22 (i := 29) rfl)
theorem dL_law_1438 : decode cL_law 1438 = .ok (.aload_n 0, 1) := lx_o42 (lx_k22 (i := 30) rfl)
theorem dL_law_1439 : decode cL_law 1439 = .ok (.iload 4, 2) := lx_o21 (lx_k22 (i := 31) rfl) (lx_k22 (i := 32) rfl)
theorem dL_law_1441 : decode cL_law 1441 = .ok (.iconst 1, 1) := lx_o4 (lx_k22 (i := 33) rfl)
theorem dL_law_1442 : decode cL_law 1442 = .ok (.iadd, 1) := lx_o96 (lx_k22 (i := 34) rfl)
theorem dL_law_1443 : decode cL_law 1443 = .ok (.iaload, 1) := lx_o46 (lx_k22 (i := 35) rfl)
theorem dL_law_1444 : decode cL_law 1444 = .ok (.aload_n 3, 1) := lx_o45 (lx_k22 (i := 36) rfl)
theorem dL_law_1445 : decode cL_law 1445 = .ok (.invokestatic 261, 3) := lx_o184 (lx_k22 (i := 37) rfl) (lx_k22 (i := 38) rfl) (lx_k22 (i := 39) rfl) rfl
theorem dL_law_1448 : decode cL_law 1448 = .ok (.istore 5, 2) := lx_o54 (lx_k22 (i := 40) rfl) (lx_k22 (i := 41) rfl)
theorem dL_law_1450 : decode cL_law 1450 = .ok (.aload_n 2, 1) := lx_o44 (lx_k22 (i := 42) rfl)
theorem dL_law_1451 : decode cL_law 1451 = .ok (.aload_n 0, 1) := lx_o42 (lx_k22 (i := 43) rfl)
theorem dL_law_1452 : decode cL_law 1452 = .ok (.iload 4, 2) := lx_o21 (lx_k22 (i := 44) rfl) (lx_k22 (i := 45) rfl)
theorem dL_law_1454 : decode cL_law 1454 = .ok (.iconst 1, 1) := lx_o4 (lx_k22 (i := 46) rfl)
theorem dL_law_1455 : decode cL_law 1455 = .ok (.iadd, 1) := lx_o96 (lx_k22 (i := 47) rfl)
theorem dL_law_1456 : decode cL_law 1456 = .ok (.iaload, 1) := lx_o46 (lx_k22 (i := 48) rfl)
theorem dL_law_1457 : decode cL_law 1457 = .ok (.invokevirtual 263, 3) := lx_o182 (lx_k22 (i := 49) rfl) (lx_k22 (i := 50) rfl) (lx_k22 (i := 51) rfl) rfl
theorem dL_law_1460 : decode cL_law 1460 = .ok (.astore 6, 2) := lx_o58 (lx_k22 (i := 52) rfl) (lx_k22 (i := 53) rfl)
theorem dL_law_1462 : decode cL_law 1462 = .ok (.goto 287, 3) := lx_o167 (lx_k22 (i := 54) rfl) (lx_k22 (i := 55) rfl) (lx_k22 (i := 56) rfl) rfl
theorem dL_law_1465 : decode cL_law 1465 = .ok (.aload_n 1, 1) := lx_o43 (lx_k22 (i := 57) rfl)
theorem dL_law_1466 : decode cL_law 1466 = .ok (.aload_n 0, 1) := lx_o42 (lx_k22 (i := 58) rfl)
theorem dL_law_1467 : decode cL_law 1467 = .ok (.iload 4, 2) := lx_o21 (lx_k22 (i := 59) rfl) (lx_k22 (i := 60) rfl)
theorem dL_law_1469 : decode cL_law 1469 = .ok (.iconst 1, 1) := lx_o4 (lx_k22 (i := 61) rfl)
theorem dL_law_1470 : decode cL_law 1470 = .ok (.iadd, 1) := lx_o96 (lx_k22 (i := 62) rfl)
theorem dL_law_1471 : decode cL_law 1471 = .ok (.iaload, 1) := lx_o46 (lx_k22 (i := 63) rfl)
theorem dL_law_1472 : decode cL_law 1472 = .ok (.aload_n 0, 1) := lx_o42 (lx_k23 (i := 0) rfl)
theorem dL_law_1473 : decode cL_law 1473 = .ok (.iload 4, 2) := lx_o21 (lx_k23 (i := 1) rfl) (lx_k23 (i := 2) rfl)
theorem dL_law_1475 : decode cL_law 1475 = .ok (.iconst 2, 1) := lx_o5 (lx_k23 (i := 3) rfl)
theorem dL_law_1476 : decode cL_law 1476 = .ok (.iadd, 1) := lx_o96 (lx_k23 (i := 4) rfl)
theorem dL_law_1477 : decode cL_law 1477 = .ok (.iaload, 1) := lx_o46 (lx_k23 (i := 5) rfl)
theorem dL_law_1478 : decode cL_law 1478 = .ok (.aload_n 3, 1) := lx_o45 (lx_k23 (i := 6) rfl)
theorem dL_law_1479 : decode cL_law 1479 = .ok (.invokestatic 264, 3) := lx_o184 (lx_k23 (i := 7) rfl) (lx_k23 (i := 8) rfl) (lx_k23 (i := 9) rfl) rfl
theorem dL_law_1482 : decode cL_law 1482 = .ok (.istore 5, 2) := lx_o54 (lx_k23 (i := 10) rfl) (lx_k23 (i := 11) rfl)
theorem dL_law_1484 : decode cL_law 1484 = .ok (.aload_n 2, 1) := lx_o44 (lx_k23 (i := 12) rfl)
theorem dL_law_1485 : decode cL_law 1485 = .ok (.aload_n 0, 1) := lx_o42 (lx_k23 (i := 13) rfl)
theorem dL_law_1486 : decode cL_law 1486 = .ok (.iload 4, 2) := lx_o21 (lx_k23 (i := 14) rfl) (lx_k23 (i := 15) rfl)
theorem dL_law_1488 : decode cL_law 1488 = .ok (.iconst 1, 1) := lx_o4 (lx_k23 (i := 16) rfl)
theorem dL_law_1489 : decode cL_law 1489 = .ok (.iadd, 1) := lx_o96 (lx_k23 (i := 17) rfl)
theorem dL_law_1490 : decode cL_law 1490 = .ok (.iaload, 1) := lx_o46 (lx_k23 (i := 18) rfl)
theorem dL_law_1491 : decode cL_law 1491 = .ok (.aload_n 0, 1) := lx_o42 (lx_k23 (i := 19) rfl)
theorem dL_law_1492 : decode cL_law 1492 = .ok (.iload 4, 2) := lx_o21 (lx_k23 (i := 20) rfl) (lx_k23 (i := 21) rfl)
theorem dL_law_1494 : decode cL_law 1494 = .ok (.iconst 2, 1) := lx_o5 (lx_k23 (i := 22) rfl)
theorem dL_law_1495 : decode cL_law 1495 = .ok (.iadd, 1) := lx_o96 (lx_k23 (i := 23) rfl)
theorem dL_law_1496 : decode cL_law 1496 = .ok (.iaload, 1) := lx_o46 (lx_k23 (i := 24) rfl)
theorem dL_law_1497 : decode cL_law 1497 = .ok (.invokevirtual 266, 3) := lx_o182 (lx_k23 (i := 25) rfl) (lx_k23 (i := 26) rfl) (lx_k23 (i := 27) rfl) rfl
theorem dL_law_1500 : decode cL_law 1500 = .ok (.istore 6, 2) := lx_o54 (lx_k23 (i := 28) rfl) (lx_k23 (i := 29) rfl)
theorem dL_law_1502 : decode cL_law 1502 = .ok (.goto 247, 3) := lx_o167 (lx_k23 (i := 30) rfl) (lx_k23 (i := 31) rfl) (lx_k23 (i := 32) rfl) rfl
theorem dL_law_1505 : decode cL_law 1505 = .ok (.aload_n 1, 1) := lx_o43 (lx_k23 (i := 33) rfl)
theorem dL_law_1506 : decode cL_law 1506 = .ok (.aload_n 0, 1) := lx_o42 (lx_k23 (i := 34) rfl)
theorem dL_law_1507 : decode cL_law 1507 = .ok (.iload 4, 2) := lx_o21 (lx_k23 (i := 35) rfl) (lx_k23 (i := 36) rfl)
theorem dL_law_1509 : decode cL_law 1509 = .ok (.iconst 1, 1) := lx_o4 (lx_k23 (i := 37) rfl)
theorem dL_law_1510 : decode cL_law 1510 = .ok (.iadd, 1) := lx_o96 (lx_k23 (i := 38) rfl)
theorem dL_law_1511 : decode cL_law 1511 = .ok (.iaload, 1) := lx_o46 (lx_k23 (i := 39) rfl)
theorem dL_law_1512 : decode cL_law 1512 = .ok (.aload_n 0, 1) := lx_o42 (lx_k23 (i := 40) rfl)
theorem dL_law_1513 : decode cL_law 1513 = .ok (.iload 4, 2) := lx_o21 (lx_k23 (i := 41) rfl) (lx_k23 (i := 42) rfl)
theorem dL_law_1515 : decode cL_law 1515 = .ok (.iconst 2, 1) := lx_o5 (lx_k23 (i := 43) rfl)
theorem dL_law_1516 : decode cL_law 1516 = .ok (.iadd, 1) := lx_o96 (lx_k23 (i := 44) rfl)
theorem dL_law_1517 : decode cL_law 1517 = .ok (.iaload, 1) := lx_o46 (lx_k23 (i := 45) rfl)
theorem dL_law_1518 : decode cL_law 1518 = .ok (.aload_n 3, 1) := lx_o45 (lx_k23 (i := 46) rfl)
theorem dL_law_1519 : decode cL_law 1519 = .ok (.invokestatic 267, 3) := lx_o184 (lx_k23 (i := 47) rfl) (lx_k23 (i := 48) rfl) (lx_k23 (i := 49) rfl) rfl
theorem dL_law_1522 : decode cL_law 1522 = .ok (.istore 5, 2) := lx_o54 (lx_k23 (i := 50) rfl) (lx_k23 (i := 51) rfl)
theorem dL_law_1524 : decode cL_law 1524 = .ok (.aload_n 2, 1) := lx_o44 (lx_k23 (i := 52) rfl)
theorem dL_law_1525 : decode cL_law 1525 = .ok (.aload_n 0, 1) := lx_o42 (lx_k23 (i := 53) rfl)
theorem dL_law_1526 : decode cL_law 1526 = .ok (.iload 4, 2) := lx_o21 (lx_k23 (i := 54) rfl) (lx_k23 (i := 55) rfl)
theorem dL_law_1528 : decode cL_law 1528 = .ok (.iconst 1, 1) := lx_o4 (lx_k23 (i := 56) rfl)
theorem dL_law_1529 : decode cL_law 1529 = .ok (.iadd, 1) := lx_o96 (lx_k23 (i := 57) rfl)
theorem dL_law_1530 : decode cL_law 1530 = .ok (.iaload, 1) := lx_o46 (lx_k23 (i := 58) rfl)
theorem dL_law_1531 : decode cL_law 1531 = .ok (.aload_n 0, 1) := lx_o42 (lx_k23 (i := 59) rfl)
theorem dL_law_1532 : decode cL_law 1532 = .ok (.iload 4, 2) := lx_o21 (lx_k23 (i := 60) rfl) (lx_k23 (i := 61) rfl)
theorem dL_law_1534 : decode cL_law 1534 = .ok (.iconst 2, 1) := lx_o5 (lx_k23 (i := 62) rfl)
theorem dL_law_1535 : decode cL_law 1535 = .ok (.iadd, 1) := lx_o96 (lx_k23 (i := 63) rfl)
theorem dL_law_1536 : decode cL_law 1536 = .ok (.iaload, 1) := lx_o46 (lx_k24 (i := 0) rfl)
theorem dL_law_1537 : decode cL_law 1537 = .ok (.invokevirtual 269, 3) := lx_o182 (lx_k24 (i := 1) rfl) (lx_k24 (i := 2) rfl) (lx_k24 (i := 3) rfl) rfl
theorem dL_law_1540 : decode cL_law 1540 = .ok (.istore 6, 2) := lx_o54 (lx_k24 (i := 4) rfl) (lx_k24 (i := 5) rfl)
theorem dL_law_1542 : decode cL_law 1542 = .ok (.goto 207, 3) := lx_o167 (lx_k24 (i := 6) rfl) (lx_k24 (i := 7) rfl) (lx_k24 (i := 8) rfl) rfl
theorem dL_law_1545 : decode cL_law 1545 = .ok (.aload_n 1, 1) := lx_o43 (lx_k24 (i := 9) rfl)
theorem dL_law_1546 : decode cL_law 1546 = .ok (.aload_n 0, 1) := lx_o42 (lx_k24 (i := 10) rfl)
theorem dL_law_1547 : decode cL_law 1547 = .ok (.iload 4, 2) := lx_o21 (lx_k24 (i := 11) rfl) (lx_k24 (i := 12) rfl)
theorem dL_law_1549 : decode cL_law 1549 = .ok (.iconst 1, 1) := lx_o4 (lx_k24 (i := 13) rfl)
theorem dL_law_1550 : decode cL_law 1550 = .ok (.iadd, 1) := lx_o96 (lx_k24 (i := 14) rfl)
theorem dL_law_1551 : decode cL_law 1551 = .ok (.iaload, 1) := lx_o46 (lx_k24 (i := 15) rfl)
theorem dL_law_1552 : decode cL_law 1552 = .ok (.aload_n 3, 1) := lx_o45 (lx_k24 (i := 16) rfl)
theorem dL_law_1553 : decode cL_law 1553 = .ok (.invokestatic 270, 3) := lx_o184 (lx_k24 (i := 17) rfl) (lx_k24 (i := 18) rfl) (lx_k24 (i := 19) rfl) rfl
theorem dL_law_1556 : decode cL_law 1556 = .ok (.istore 5, 2) := lx_o54 (lx_k24 (i := 20) rfl) (lx_k24 (i := 21) rfl)
theorem dL_law_1558 : decode cL_law 1558 = .ok (.aload_n 2, 1) := lx_o44 (lx_k24 (i := 22) rfl)
theorem dL_law_1559 : decode cL_law 1559 = .ok (.aload_n 0, 1) := lx_o42 (lx_k24 (i := 23) rfl)
theorem dL_law_1560 : decode cL_law 1560 = .ok (.iload 4, 2) := lx_o21 (lx_k24 (i := 24) rfl) (lx_k24 (i := 25) rfl)
theorem dL_law_1562 : decode cL_law 1562 = .ok (.iconst 1, 1) := lx_o4 (lx_k24 (i := 26) rfl)
theorem dL_law_1563 : decode cL_law 1563 = .ok (.iadd, 1) := lx_o96 (lx_k24 (i := 27) rfl)
theorem dL_law_1564 : decode cL_law 1564 = .ok (.iaload, 1) := lx_o46 (lx_k24 (i := 28) rfl)
theorem dL_law_1565 : decode cL_law 1565 = .ok (.invokevirtual 272, 3) := lx_o182 (lx_k24 (i := 29) rfl) (lx_k24 (i := 30) rfl) (lx_k24 (i := 31) rfl) rfl
theorem dL_law_1568 : decode cL_law 1568 = .ok (.istore 6, 2) := lx_o54 (lx_k24 (i := 32) rfl) (lx_k24 (i := 33) rfl)
theorem dL_law_1570 : decode cL_law 1570 = .ok (.goto 179, 3) := lx_o167 (lx_k24 (i := 34) rfl) (lx_k24 (i := 35) rfl) (lx_k24 (i := 36) rfl) rfl
theorem dL_law_1573 : decode cL_law 1573 = .ok (.aload_n 1, 1) := lx_o43 (lx_k24 (i := 37) rfl)
theorem dL_law_1574 : decode cL_law 1574 = .ok (.aload_n 0, 1) := lx_o42 (lx_k24 (i := 38) rfl)
theorem dL_law_1575 : decode cL_law 1575 = .ok (.iload 4, 2) := lx_o21 (lx_k24 (i := 39) rfl) (lx_k24 (i := 40) rfl)
theorem dL_law_1577 : decode cL_law 1577 = .ok (.iconst 1, 1) := lx_o4 (lx_k24 (i := 41) rfl)
theorem dL_law_1578 : decode cL_law 1578 = .ok (.iadd, 1) := lx_o96 (lx_k24 (i := 42) rfl)
theorem dL_law_1579 : decode cL_law 1579 = .ok (.iaload, 1) := lx_o46 (lx_k24 (i := 43) rfl)
theorem dL_law_1580 : decode cL_law 1580 = .ok (.aload_n 3, 1) := lx_o45 (lx_k24 (i := 44) rfl)
theorem dL_law_1581 : decode cL_law 1581 = .ok (.invokestatic 273, 3) := lx_o184 (lx_k24 (i := 45) rfl) (lx_k24 (i := 46) rfl) (lx_k24 (i := 47) rfl) rfl
theorem dL_law_1584 : decode cL_law 1584 = .ok (.istore 5, 2) := lx_o54 (lx_k24 (i := 48) rfl) (lx_k24 (i := 49) rfl)
theorem dL_law_1586 : decode cL_law 1586 = .ok (.aload_n 2, 1) := lx_o44 (lx_k24 (i := 50) rfl)
theorem dL_law_1587 : decode cL_law 1587 = .ok (.aload_n 0, 1) := lx_o42 (lx_k24 (i := 51) rfl)
theorem dL_law_1588 : decode cL_law 1588 = .ok (.iload 4, 2) := lx_o21 (lx_k24 (i := 52) rfl) (lx_k24 (i := 53) rfl)
theorem dL_law_1590 : decode cL_law 1590 = .ok (.iconst 1, 1) := lx_o4 (lx_k24 (i := 54) rfl)
theorem dL_law_1591 : decode cL_law 1591 = .ok (.iadd, 1) := lx_o96 (lx_k24 (i := 55) rfl)
theorem dL_law_1592 : decode cL_law 1592 = .ok (.iaload, 1) := lx_o46 (lx_k24 (i := 56) rfl)
theorem dL_law_1593 : decode cL_law 1593 = .ok (.invokevirtual 275, 3) := lx_o182 (lx_k24 (i := 57) rfl) (lx_k24 (i := 58) rfl) (lx_k24 (i := 59) rfl) rfl
theorem dL_law_1596 : decode cL_law 1596 = .ok (.istore 6, 2) := lx_o54 (lx_k24 (i := 60) rfl) (lx_k24 (i := 61) rfl)
theorem dL_law_1598 : decode cL_law 1598 = .ok (.goto 151, 3) := lx_o167 (lx_k24 (i := 62) rfl) (lx_k24 (i := 63) rfl) (lx_k25 (i := 0) rfl) rfl
theorem dL_law_1601 : decode cL_law 1601 = .ok (.aload_n 1, 1) := lx_o43 (lx_k25 (i := 1) rfl)
theorem dL_law_1602 : decode cL_law 1602 = .ok (.aload_n 0, 1) := lx_o42 (lx_k25 (i := 2) rfl)
theorem dL_law_1603 : decode cL_law 1603 = .ok (.iload 4, 2) := lx_o21 (lx_k25 (i := 3) rfl) (lx_k25 (i := 4) rfl)
theorem dL_law_1605 : decode cL_law 1605 = .ok (.iconst 1, 1) := lx_o4 (lx_k25 (i := 5) rfl)
theorem dL_law_1606 : decode cL_law 1606 = .ok (.iadd, 1) := lx_o96 (lx_k25 (i := 6) rfl)
theorem dL_law_1607 : decode cL_law 1607 = .ok (.iaload, 1) := lx_o46 (lx_k25 (i := 7) rfl)
theorem dL_law_1608 : decode cL_law 1608 = .ok (.aload_n 3, 1) := lx_o45 (lx_k25 (i := 8) rfl)
theorem dL_law_1609 : decode cL_law 1609 = .ok (.invokestatic 276, 3) := lx_o184 (lx_k25 (i := 9) rfl) (lx_k25 (i := 10) rfl) (lx_k25 (i := 11) rfl) rfl
theorem dL_law_1612 : decode cL_law 1612 = .ok (.istore 5, 2) := lx_o54 (lx_k25 (i := 12) rfl) (lx_k25 (i := 13) rfl)
theorem dL_law_1614 : decode cL_law 1614 = .ok (.aload_n 2, 1) := lx_o44 (lx_k25 (i := 14) rfl)
theorem dL_law_1615 : decode cL_law 1615 = .ok (.aload_n 0, 1) := lx_o42 (lx_k25 (i := 15) rfl)
theorem dL_law_1616 : decode cL_law 1616 = .ok (.iload 4, 2) := lx_o21 (lx_k25 (i := 16) rfl) (lx_k25 (i := 17) rfl)
theorem dL_law_1618 : decode cL_law 1618 = .ok (.iconst 1, 1) := lx_o4 (lx_k25 (i := 18) rfl)
theorem dL_law_1619 : decode cL_law 1619 = .ok (.iadd, 1) := lx_o96 (lx_k25 (i := 19) rfl)
theorem dL_law_1620 : decode cL_law 1620 = .ok (.iaload, 1) := lx_o46 (lx_k25 (i := 20) rfl)
theorem dL_law_1621 : decode cL_law 1621 = .ok (.invokevirtual 278, 3) := lx_o182 (lx_k25 (i := 21) rfl) (lx_k25 (i := 22) rfl) (lx_k25 (i := 23) rfl) rfl
theorem dL_law_1624 : decode cL_law 1624 = .ok (.istore 6, 2) := lx_o54 (lx_k25 (i := 24) rfl) (lx_k25 (i := 25) rfl)
theorem dL_law_1626 : decode cL_law 1626 = .ok (.goto 123, 3) := lx_o167 (lx_k25 (i := 26) rfl) (lx_k25 (i := 27) rfl) (lx_k25 (i := 28) rfl) rfl
theorem dL_law_1629 : decode cL_law 1629 = .ok (.aload_n 1, 1) := lx_o43 (lx_k25 (i := 29) rfl)
theorem dL_law_1630 : decode cL_law 1630 = .ok (.aload_n 0, 1) := lx_o42 (lx_k25 (i := 30) rfl)
theorem dL_law_1631 : decode cL_law 1631 = .ok (.iload 4, 2) := lx_o21 (lx_k25 (i := 31) rfl) (lx_k25 (i := 32) rfl)
theorem dL_law_1633 : decode cL_law 1633 = .ok (.iconst 1, 1) := lx_o4 (lx_k25 (i := 33) rfl)
theorem dL_law_1634 : decode cL_law 1634 = .ok (.iadd, 1) := lx_o96 (lx_k25 (i := 34) rfl)
theorem dL_law_1635 : decode cL_law 1635 = .ok (.iaload, 1) := lx_o46 (lx_k25 (i := 35) rfl)
theorem dL_law_1636 : decode cL_law 1636 = .ok (.invokevirtual 279, 3) := lx_o182 (lx_k25 (i := 36) rfl) (lx_k25 (i := 37) rfl) (lx_k25 (i := 38) rfl) rfl
theorem dL_law_1639 : decode cL_law 1639 = .ok (.pop, 1) := lx_o87 (lx_k25 (i := 39) rfl)
theorem dL_law_1640 : decode cL_law 1640 = .ok (.aload_n 2, 1) := lx_o44 (lx_k25 (i := 40) rfl)
theorem dL_law_1641 : decode cL_law 1641 = .ok (.aload_n 0, 1) := lx_o42 (lx_k25 (i := 41) rfl)
theorem dL_law_1642 : decode cL_law 1642 = .ok (.iload 4, 2) := lx_o21 (lx_k25 (i := 42) rfl) (lx_k25 (i := 43) rfl)
theorem dL_law_1644 : decode cL_law 1644 = .ok (.iconst 1, 1) := lx_o4 (lx_k25 (i := 44) rfl)
theorem dL_law_1645 : decode cL_law 1645 = .ok (.iadd, 1) := lx_o96 (lx_k25 (i := 45) rfl)
theorem dL_law_1646 : decode cL_law 1646 = .ok (.iaload, 1) := lx_o46 (lx_k25 (i := 46) rfl)
theorem dL_law_1647 : decode cL_law 1647 = .ok (.invokevirtual 282, 3) := lx_o182 (lx_k25 (i := 47) rfl) (lx_k25 (i := 48) rfl) (lx_k25 (i := 49) rfl) rfl
theorem dL_law_1650 : decode cL_law 1650 = .ok (.pop, 1) := lx_o87 (lx_k25 (i := 50) rfl)
theorem dL_law_1651 : decode cL_law 1651 = .ok (.goto 98, 3) := lx_o167 (lx_k25 (i := 51) rfl) (lx_k25 (i := 52) rfl) (lx_k25 (i := 53) rfl) rfl
theorem dL_law_1654 : decode cL_law 1654 = .ok (.aload_n 1, 1) := lx_o43 (lx_k25 (i := 54) rfl)
theorem dL_law_1655 : decode cL_law 1655 = .ok (.aload_n 0, 1) := lx_o42 (lx_k25 (i := 55) rfl)
theorem dL_law_1656 : decode cL_law 1656 = .ok (.iload 4, 2) := lx_o21 (lx_k25 (i := 56) rfl) (lx_k25 (i := 57) rfl)
theorem dL_law_1658 : decode cL_law 1658 = .ok (.iconst 1, 1) := lx_o4 (lx_k25 (i := 58) rfl)
theorem dL_law_1659 : decode cL_law 1659 = .ok (.iadd, 1) := lx_o96 (lx_k25 (i := 59) rfl)
theorem dL_law_1660 : decode cL_law 1660 = .ok (.iaload, 1) := lx_o46 (lx_k25 (i := 60) rfl)
theorem dL_law_1661 : decode cL_law 1661 = .ok (.aload_n 3, 1) := lx_o45 (lx_k25 (i := 61) rfl)
theorem dL_law_1662 : decode cL_law 1662 = .ok (.invokestatic 283, 3) := lx_o184 (lx_k25 (i := 62) rfl) (lx_k25 (i := 63) rfl) (lx_k26 (i := 0) rfl) rfl
theorem dL_law_1665 : decode cL_law 1665 = .ok (.istore 5, 2) := lx_o54 (lx_k26 (i := 1) rfl) (lx_k26 (i := 2) rfl)
theorem dL_law_1667 : decode cL_law 1667 = .ok (.aload_n 2, 1) := lx_o44 (lx_k26 (i := 3) rfl)
theorem dL_law_1668 : decode cL_law 1668 = .ok (.aload_n 0, 1) := lx_o42 (lx_k26 (i := 4) rfl)
theorem dL_law_1669 : decode cL_law 1669 = .ok (.iload 4, 2) := lx_o21 (lx_k26 (i := 5) rfl) (lx_k26 (i := 6) rfl)
theorem dL_law_1671 : decode cL_law 1671 = .ok (.iconst 1, 1) := lx_o4 (lx_k26 (i := 7) rfl)
theorem dL_law_1672 : decode cL_law 1672 = .ok (.iadd, 1) := lx_o96 (lx_k26 (i := 8) rfl)
theorem dL_law_1673 : decode cL_law 1673 = .ok (.iaload, 1) := lx_o46 (lx_k26 (i := 9) rfl)
theorem dL_law_1674 : decode cL_law 1674 = .ok (.invokevirtual 285, 3) := lx_o182 (lx_k26 (i := 10) rfl) (lx_k26 (i := 11) rfl) (lx_k26 (i := 12) rfl) rfl
theorem dL_law_1677 : decode cL_law 1677 = .ok (.istore 6, 2) := lx_o54 (lx_k26 (i := 13) rfl) (lx_k26 (i := 14) rfl)
theorem dL_law_1679 : decode cL_law 1679 = .ok (.goto 70, 3) := lx_o167 (lx_k26 (i := 15) rfl) (lx_k26 (i := 16) rfl) (lx_k26 (i := 17) rfl) rfl
theorem dL_law_1682 : decode cL_law 1682 = .ok (.aload_n 1, 1) := lx_o43 (lx_k26 (i := 18) rfl)
theorem dL_law_1683 : decode cL_law 1683 = .ok (.aload_n 0, 1) := lx_o42 (lx_k26 (i := 19) rfl)
theorem dL_law_1684 : decode cL_law 1684 = .ok (.iload 4, 2) := lx_o21 (lx_k26 (i := 20) rfl) (lx_k26 (i := 21) rfl)
theorem dL_law_1686 : decode cL_law 1686 = .ok (.iconst 1, 1) := lx_o4 (lx_k26 (i := 22) rfl)
theorem dL_law_1687 : decode cL_law 1687 = .ok (.iadd, 1) := lx_o96 (lx_k26 (i := 23) rfl)
theorem dL_law_1688 : decode cL_law 1688 = .ok (.iaload, 1) := lx_o46 (lx_k26 (i := 24) rfl)
theorem dL_law_1689 : decode cL_law 1689 = .ok (.aload_n 3, 1) := lx_o45 (lx_k26 (i := 25) rfl)
theorem dL_law_1690 : decode cL_law 1690 = .ok (.invokestatic 286, 3) := lx_o184 (lx_k26 (i := 26) rfl) (lx_k26 (i := 27) rfl) (lx_k26 (i := 28) rfl) rfl
theorem dL_law_1693 : decode cL_law 1693 = .ok (.istore 5, 2) := lx_o54 (lx_k26 (i := 29) rfl) (lx_k26 (i := 30) rfl)
theorem dL_law_1695 : decode cL_law 1695 = .ok (.aload_n 2, 1) := lx_o44 (lx_k26 (i := 31) rfl)
theorem dL_law_1696 : decode cL_law 1696 = .ok (.aload_n 0, 1) := lx_o42 (lx_k26 (i := 32) rfl)
theorem dL_law_1697 : decode cL_law 1697 = .ok (.iload 4, 2) := lx_o21 (lx_k26 (i := 33) rfl) (lx_k26 (i := 34) rfl)
theorem dL_law_1699 : decode cL_law 1699 = .ok (.iconst 1, 1) := lx_o4 (lx_k26 (i := 35) rfl)
theorem dL_law_1700 : decode cL_law 1700 = .ok (.iadd, 1) := lx_o96 (lx_k26 (i := 36) rfl)
theorem dL_law_1701 : decode cL_law 1701 = .ok (.iaload, 1) := lx_o46 (lx_k26 (i := 37) rfl)
theorem dL_law_1702 : decode cL_law 1702 = .ok (.invokevirtual 288, 3) := lx_o182 (lx_k26 (i := 38) rfl) (lx_k26 (i := 39) rfl) (lx_k26 (i := 40) rfl) rfl
theorem dL_law_1705 : decode cL_law 1705 = .ok (.istore 6, 2) := lx_o54 (lx_k26 (i := 41) rfl) (lx_k26 (i := 42) rfl)
theorem dL_law_1707 : decode cL_law 1707 = .ok (.goto 42, 3) := lx_o167 (lx_k26 (i := 43) rfl) (lx_k26 (i := 44) rfl) (lx_k26 (i := 45) rfl) rfl
theorem dL_law_1710 : decode cL_law 1710 = .ok (.aload_n 1, 1) := lx_o43 (lx_k26 (i := 46) rfl)
theorem dL_law_1711 : decode cL_law 1711 = .ok (.invokevirtual 289, 3) := lx_o182 (lx_k26 (i := 47) rfl) (lx_k26 (i := 48) rfl) (lx_k26 (i := 49) rfl) rfl
theorem dL_law_1714 : decode cL_law 1714 = .ok (.pop, 1) := lx_o87 (lx_k26 (i := 50) rfl)
theorem dL_law_1715 : decode cL_law 1715 = .ok (.aload_n 2, 1) := lx_o44 (lx_k26 (i := 51) rfl)
theorem dL_law_1716 : decode cL_law 1716 = .ok (.invokevirtual 292, 3) := lx_o182 (lx_k26 (i := 52) rfl) (lx_k26 (i := 53) rfl) (lx_k26 (i := 54) rfl) rfl
theorem dL_law_1719 : decode cL_law 1719 = .ok (.pop, 1) := lx_o87 (lx_k26 (i := 55) rfl)
theorem dL_law_1720 : decode cL_law 1720 = .ok (.goto 29, 3) := lx_o167 (lx_k26 (i := 56) rfl) (lx_k26 (i := 57) rfl) (lx_k26 (i := 58) rfl) rfl
theorem dL_law_1723 : decode cL_law 1723 = .ok (.aload_n 1, 1) := lx_o43 (lx_k26 (i := 59) rfl)
theorem dL_law_1724 : decode cL_law 1724 = .ok (.invokevirtual 293, 3) := lx_o182 (lx_k26 (i := 60) rfl) (lx_k26 (i := 61) rfl) (lx_k26 (i := 62) rfl) rfl
theorem dL_law_1727 : decode cL_law 1727 = .ok (.pop, 1) := lx_o87 (lx_k26 (i := 63) rfl)
theorem dL_law_1728 : decode cL_law 1728 = .ok (.aload_n 2, 1) := lx_o44 (lx_k27 (i := 0) rfl)
theorem dL_law_1729 : decode cL_law 1729 = .ok (.invokevirtual 297, 3) := lx_o182 (lx_k27 (i := 1) rfl) (lx_k27 (i := 2) rfl) (lx_k27 (i := 3) rfl) rfl
theorem dL_law_1732 : decode cL_law 1732 = .ok (.pop, 1) := lx_o87 (lx_k27 (i := 4) rfl)
theorem dL_law_1733 : decode cL_law 1733 = .ok (.goto 16, 3) := lx_o167 (lx_k27 (i := 5) rfl) (lx_k27 (i := 6) rfl) (lx_k27 (i := 7) rfl) rfl
theorem dL_law_1736 : decode cL_law 1736 = .ok (.aload_n 1, 1) := lx_o43 (lx_k27 (i := 8) rfl)
theorem dL_law_1737 : decode cL_law 1737 = .ok (.invokevirtual 298, 3) := lx_o182 (lx_k27 (i := 9) rfl) (lx_k27 (i := 10) rfl) (lx_k27 (i := 11) rfl) rfl
theorem dL_law_1740 : decode cL_law 1740 = .ok (.pop2, 1) := lx_o88 (lx_k27 (i := 12) rfl)
theorem dL_law_1741 : decode cL_law 1741 = .ok (.aload_n 2, 1) := lx_o44 (lx_k27 (i := 13) rfl)
theorem dL_law_1742 : decode cL_law 1742 = .ok (.invokevirtual 302, 3) := lx_o182 (lx_k27 (i := 14) rfl) (lx_k27 (i := 15) rfl) (lx_k27 (i := 16) rfl) rfl
theorem dL_law_1745 : decode cL_law 1745 = .ok (.pop2, 1) := lx_o88 (lx_k27 (i := 17) rfl)
theorem dL_law_1746 : decode cL_law 1746 = .ok (.goto 3, 3) := lx_o167 (lx_k27 (i := 18) rfl) (lx_k27 (i := 19) rfl) (lx_k27 (i := 20) rfl) rfl
theorem dL_law_1749 : decode cL_law 1749 = .ok (.iinc 4 4, 3) := by decide +kernel
theorem dL_law_1752 : decode cL_law 1752 = .ok (.goto (-1725), 3) := lx_o167 (lx_k27 (i := 24) rfl) (lx_k27 (i := 25) rfl) (lx_k27 (i := 26) rfl) rfl
theorem dL_law_1755 : decode cL_law 1755 = .ok (.iconst 1, 1) := lx_o4 (lx_k27 (i := 27) rfl)
theorem dL_law_1756 : decode cL_law 1756 = .ok (.ireturn, 1) := lx_o172 (lx_k27 (i := 28) rfl)
