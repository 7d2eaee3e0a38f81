theorem dJ7_checkLength_df160_0 : decode cJ7_checkLength_df160 0 = .ok (.iload_n 1, 1) := by decide +kernel
theorem dJ7_checkLength_df160_1 : decode cJ7_checkLength_df160 1 = .ok (.iload_n 0, 1) := by decide +kernel
theorem dJ7_checkLength_df160_2 : decode cJ7_checkLength_df160 2 = .ok (.if_icmp .ge 35, 3) := by decide +kernel
theorem dJ7_checkLength_df160_5 : decode cJ7_checkLength_df160 5 = .ok (.new 43, 3) := by decide +kernel
theorem dJ7_checkLength_df160_8 : decode cJ7_checkLength_df160 8 = .ok (.dup, 1) := by decide +kernel
theorem dJ7_checkLength_df160_9 : decode cJ7_checkLength_df160 9 = .ok (.new 45, 3) := by decide +kernel
theorem dJ7_checkLength_df160_12 : decode cJ7_checkLength_df160 12 = .ok (.dup, 1) := by decide +kernel
theorem dJ7_checkLength_df160_13 : decode cJ7_checkLength_df160 13 = .ok (.invokespecial 47, 3) := by decide +kernel
theorem dJ7_checkLength_df160_16 : decode cJ7_checkLength_df160 16 = .ok (.iload_n 0, 1) := by decide +kernel
theorem dJ7_checkLength_df160_17 : decode cJ7_checkLength_df160 17 = .ok (.invokevirtual 54, 3) := by decide +kernel
theorem dJ7_checkLength_df160_20 : decode cJ7_checkLength_df160 20 = .ok (.ldc_w 337, 3) := by decide +kernel
theorem dJ7_checkLength_df160_23 : decode cJ7_checkLength_df160 23 = .ok (.invokevirtual 50, 3) := by decide +kernel
theorem dJ7_checkLength_df160_26 : decode cJ7_checkLength_df160 26 = .ok (.iload_n 1, 1) := by decide +kernel
theorem dJ7_checkLength_df160_27 : decode cJ7_checkLength_df160 27 = .ok (.invokevirtual 54, 3) := by decide +kernel
theorem dJ7_checkLength_df160_30 : decode cJ7_checkLength_df160 30 = .ok (.invokevirtual 61, 3) := by decide +kernel
theorem dJ7_checkLength_df160_33 : decode cJ7_checkLength_df160 33 = .ok (.invokespecial 65, 3) := by decide +kernel
theorem dJ7_checkLength_df160_36 : decode cJ7_checkLength_df160 36 = .ok (.athrow, 1) := by decide +kernel
theorem dJ7_checkLength_df160_37 : decode cJ7_checkLength_df160 37 = .ok (.return_, 1) := by decide +kernel
theorem dJ7_copyOfRange_39247_0 : decode cJ7_copyOfRange_39247 0 = .ok (.iload_n 1, 1) := by decide +kernel
theorem dJ7_copyOfRange_39247_1 : decode cJ7_copyOfRange_39247 1 = .ok (.ifCond .ne 9, 3) := by decide +kernel
theorem dJ7_copyOfRange_39247_4 : decode cJ7_copyOfRange_39247 4 = .ok (.iload_n 2, 1) := by decide +kernel
theorem dJ7_copyOfRange_39247_5 : decode cJ7_copyOfRange_39247 5 = .ok (.aload_n 0, 1) := by decide +kernel
theorem dJ7_copyOfRange_39247_6 : decode cJ7_copyOfRange_39247 6 = .ok (.arraylength, 1) := by decide +kernel
theorem dJ7_copyOfRange_39247_7 : decode cJ7_copyOfRange_39247 7 = .ok (.if_icmp .eq 10, 3) := by decide +kernel
theorem dJ7_copyOfRange_39247_10 : decode cJ7_copyOfRange_39247 10 = .ok (.aload_n 0, 1) := by decide +kernel
theorem dJ7_copyOfRange_39247_11 : decode cJ7_copyOfRange_39247 11 = .ok (.iload_n 1, 1) := by decide +kernel
theorem dJ7_copyOfRange_39247_12 : decode cJ7_copyOfRange_39247 12 = .ok (.iload_n 2, 1) := by decide +kernel
theorem dJ7_copyOfRange_39247_13 : decode cJ7_copyOfRange_39247 13 = .ok (.invokestatic 339, 3) := by decide +kernel
theorem dJ7_copyOfRange_39247_16 : decode cJ7_copyOfRange_39247 16 = .ok (.areturn, 1) := by decide +kernel
theorem dJ7_copyOfRange_39247_17 : decode cJ7_copyOfRange_39247 17 = .ok (.aload_n 0, 1) := by decide +kernel
theorem dJ7_copyOfRange_39247_18 : decode cJ7_copyOfRange_39247 18 = .ok (.invokevirtual 310, 3) := by decide +kernel
theorem dJ7_copyOfRange_39247_21 : decode cJ7_copyOfRange_39247 21 = .ok (.checkcast 311, 3) := by decide +kernel
theorem dJ7_copyOfRange_39247_24 : decode cJ7_copyOfRange_39247 24 = .ok (.areturn, 1) := by decide +kernel
theorem dJ7_copyOfRangeByte_39247_0 : decode cJ7_copyOfRangeByte_39247 0 = .ok (.iload_n 1, 1) := by decide +kernel
theorem dJ7_copyOfRangeByte_39247_1 : decode cJ7_copyOfRangeByte_39247 1 = .ok (.iload_n 2, 1) := by decide +kernel
theorem dJ7_copyOfRangeByte_39247_2 : decode cJ7_copyOfRangeByte_39247 2 = .ok (.invokestatic 343, 3) := by decide +kernel
theorem dJ7_copyOfRangeByte_39247_5 : decode cJ7_copyOfRangeByte_39247 5 = .ok (.iload_n 2, 1) := by decide +kernel
theorem dJ7_copyOfRangeByte_39247_6 : decode cJ7_copyOfRangeByte_39247 6 = .ok (.iload_n 1, 1) := by decide +kernel
theorem dJ7_copyOfRangeByte_39247_7 : decode cJ7_copyOfRangeByte_39247 7 = .ok (.isub, 1) := by decide +kernel
theorem dJ7_copyOfRangeByte_39247_8 : decode cJ7_copyOfRangeByte_39247 8 = .ok (.istore_n 3, 1) := by decide +kernel
theorem dJ7_copyOfRangeByte_39247_9 : decode cJ7_copyOfRangeByte_39247 9 = .ok (.iload_n 3, 1) := by decide +kernel
theorem dJ7_copyOfRangeByte_39247_10 : decode cJ7_copyOfRangeByte_39247 10 = .ok (.newarray .byte, 2) := by decide +kernel
theorem dJ7_copyOfRangeByte_39247_12 : decode cJ7_copyOfRangeByte_39247 12 = .ok (.astore 4, 2) := by decide +kernel
theorem dJ7_copyOfRangeByte_39247_14 : decode cJ7_copyOfRangeByte_39247 14 = .ok (.aload_n 0, 1) := by decide +kernel
theorem dJ7_copyOfRangeByte_39247_15 : decode cJ7_copyOfRangeByte_39247 15 = .ok (.iload_n 1, 1) := by decide +kernel
theorem dJ7_copyOfRangeByte_39247_16 : decode cJ7_copyOfRangeByte_39247 16 = .ok (.aload 4, 2) := by decide +kernel
theorem dJ7_copyOfRangeByte_39247_18 : decode cJ7_copyOfRangeByte_39247 18 = .ok (.iconst 0, 1) := by decide +kernel
theorem dJ7_copyOfRangeByte_39247_19 : decode cJ7_copyOfRangeByte_39247 19 = .ok (.aload_n 0, 1) := by decide +kernel
theorem dJ7_copyOfRangeByte_39247_20 : decode cJ7_copyOfRangeByte_39247 20 = .ok (.arraylength, 1) := by decide +kernel
theorem dJ7_copyOfRangeByte_39247_21 : decode cJ7_copyOfRangeByte_39247 21 = .ok (.iload_n 1, 1) := by decide +kernel
theorem dJ7_copyOfRangeByte_39247_22 : decode cJ7_copyOfRangeByte_39247 22 = .ok (.isub, 1) := by decide +kernel
theorem dJ7_copyOfRangeByte_39247_23 : decode cJ7_copyOfRangeByte_39247 23 = .ok (.iload_n 3, 1) := by decide +kernel
theorem dJ7_copyOfRangeByte_39247_24 : decode cJ7_copyOfRangeByte_39247 24 = .ok (.invokestatic 304, 3) := by decide +kernel
theorem dJ7_copyOfRangeByte_39247_27 : decode cJ7_copyOfRangeByte_39247 27 = .ok (.invokestatic 150, 3) := by decide +kernel
theorem dJ7_copyOfRangeByte_39247_30 : decode cJ7_copyOfRangeByte_39247 30 = .ok (.aload 4, 2) := by decide +kernel
theorem dJ7_copyOfRangeByte_39247_32 : decode cJ7_copyOfRangeByte_39247 32 = .ok (.areturn, 1) := by decide +kernel
theorem dL_cell_0 : decode cL_cell 0 = .ok (.iload_n 1, 1) := by decide +kernel
theorem dL_cell_1 : decode cL_cell 1 = .ok (.aload_n 0, 1) := by decide +kernel
theorem dL_cell_2 : decode cL_cell 2 = .ok (.arraylength, 1) := by decide +kernel
theorem dL_cell_3 : decode cL_cell 3 = .ok (.if_icmp .ge 9, 3) := by decide +kernel
theorem dL_cell_6 : decode cL_cell 6 = .ok (.aload_n 0, 1) := by decide +kernel
theorem dL_cell_7 : decode cL_cell 7 = .ok (.iload_n 1, 1) := by decide +kernel
theorem dL_cell_8 : decode cL_cell 8 = .ok (.iaload, 1) := by decide +kernel
theorem dL_cell_9 : decode cL_cell 9 = .ok (.goto 11, 3) := by decide +kernel
theorem dL_cell_12 : decode cL_cell 12 = .ok (.sipush 7919, 3) := by decide +kernel
theorem dL_cell_15 : decode cL_cell 15 = .ok (.iload_n 1, 1) := by decide +kernel
theorem dL_cell_16 : decode cL_cell 16 = .ok (.imul, 1) := by decide +kernel
theorem dL_cell_17 : decode cL_cell 17 = .ok (.bipush 12, 2) := by decide +kernel
theorem dL_cell_19 : decode cL_cell 19 = .ok (.iadd, 1) := by decide +kernel
theorem dL_cell_20 : decode cL_cell 20 = .ok (.ireturn, 1) := by decide +kernel
theorem dL_some_0 : decode cL_some 0 = .ok (.aload_n 0, 1) := by decide +kernel
theorem dL_some_1 : decode cL_some 1 = .ok (.iload_n 1, 1) := by decide +kernel
theorem dL_some_2 : decode cL_some 2 = .ok (.invokestatic 7, 3) := by decide +kernel
theorem dL_some_5 : decode cL_some 5 = .ok (.iconst 3, 1) := by decide +kernel
theorem dL_some_6 : decode cL_some 6 = .ok (.iushr, 1) := by decide +kernel
theorem dL_some_7 : decode cL_some 7 = .ok (.iload_n 2, 1) := by decide +kernel
theorem dL_some_8 : decode cL_some 8 = .ok (.irem, 1) := by decide +kernel
theorem dL_some_9 : decode cL_some 9 = .ok (.ireturn, 1) := by decide +kernel
theorem dL_told_0 : decode cL_told 0 = .ok (.sipush (-20000), 3) := by decide +kernel
theorem dL_told_3 : decode cL_told 3 = .ok (.aload_n 0, 1) := by decide +kernel
theorem dL_told_4 : decode cL_told 4 = .ok (.iconst 0, 1) := by decide +kernel
theorem dL_told_5 : decode cL_told 5 = .ok (.iconst 0, 1) := by decide +kernel
theorem dL_told_6 : decode cL_told 6 = .ok (.invokevirtual 13, 3) := by decide +kernel
theorem dL_told_9 : decode cL_told 9 = .ok (.isub, 1) := by decide +kernel
theorem dL_told_10 : decode cL_told 10 = .ok (.ireturn, 1) := by decide +kernel
theorem dL_cloud_0 : decode cL_cloud 0 = .ok (.aload_n 0, 1) := by decide +kernel
theorem dL_cloud_1 : decode cL_cloud 1 = .ok (.iload_n 1, 1) := by decide +kernel
theorem dL_cloud_2 : decode cL_cloud 2 = .ok (.iload_n 2, 1) := by decide +kernel
theorem dL_cloud_3 : decode cL_cloud 3 = .ok (.iload_n 3, 1) := by decide +kernel
theorem dL_cloud_4 : decode cL_cloud 4 = .ok (.invokevirtual 19, 3) := by decide +kernel
theorem dL_cloud_7 : decode cL_cloud 7 = .ok (.ireturn, 1) := by decide +kernel
theorem dL_cloud_8 : decode cL_cloud 8 = .ok (.astore 4, 2) := by decide +kernel
theorem dL_cloud_10 : decode cL_cloud 10 = .ok (.aload_n 0, 1) := by decide +kernel
theorem dL_cloud_11 : decode cL_cloud 11 = .ok (.invokestatic 25, 3) := by decide +kernel
theorem dL_cloud_14 : decode cL_cloud 14 = .ok (.ireturn, 1) := by decide +kernel
theorem dL_vine_0 : decode cL_vine 0 = .ok (.aload_n 0, 1) := by decide +kernel
theorem dL_vine_1 : decode cL_vine 1 = .ok (.iload_n 1, 1) := by decide +kernel
theorem dL_vine_2 : decode cL_vine 2 = .ok (.iload_n 2, 1) := by decide +kernel
theorem dL_vine_3 : decode cL_vine 3 = .ok (.invokevirtual 29, 3) := by decide +kernel
theorem dL_vine_6 : decode cL_vine 6 = .ok (.ireturn, 1) := by decide +kernel
theorem dL_vine_7 : decode cL_vine 7 = .ok (.astore_n 3, 1) := by decide +kernel
theorem dL_vine_8 : decode cL_vine 8 = .ok (.aload_n 0, 1) := by decide +kernel
theorem dL_vine_9 : decode cL_vine 9 = .ok (.invokestatic 25, 3) := by decide +kernel
theorem dL_vine_12 : decode cL_vine 12 = .ok (.ireturn, 1) := by decide +kernel
theorem dL_title_0 : decode cL_title 0 = .ok (.aload_n 0, 1) := by decide +kernel
theorem dL_title_1 : decode cL_title 1 = .ok (.iload_n 1, 1) := by decide +kernel
theorem dL_title_2 : decode cL_title 2 = .ok (.iload_n 2, 1) := by decide +kernel
theorem dL_title_3 : decode cL_title 3 = .ok (.invokevirtual 33, 3) := by decide +kernel
theorem dL_title_6 : decode cL_title 6 = .ok (.ireturn, 1) := by decide +kernel
theorem dL_title_7 : decode cL_title 7 = .ok (.astore_n 3, 1) := by decide +kernel
theorem dL_title_8 : decode cL_title 8 = .ok (.aload_n 0, 1) := by decide +kernel
theorem dL_title_9 : decode cL_title 9 = .ok (.invokestatic 25, 3) := by decide +kernel
theorem dL_title_12 : decode cL_title 12 = .ok (.ireturn, 1) := by decide +kernel
theorem dL_sell_0 : decode cL_sell 0 = .ok (.aload_n 0, 1) := by decide +kernel
theorem dL_sell_1 : decode cL_sell 1 = .ok (.iload_n 1, 1) := by decide +kernel
theorem dL_sell_2 : decode cL_sell 2 = .ok (.iload_n 2, 1) := by decide +kernel
theorem dL_sell_3 : decode cL_sell 3 = .ok (.iload_n 3, 1) := by decide +kernel
theorem dL_sell_4 : decode cL_sell 4 = .ok (.invokevirtual 36, 3) := by decide +kernel
theorem dL_sell_7 : decode cL_sell 7 = .ok (.ireturn, 1) := by decide +kernel
theorem dL_sell_8 : decode cL_sell 8 = .ok (.astore 4, 2) := by decide +kernel
theorem dL_sell_10 : decode cL_sell 10 = .ok (.aload_n 0, 1) := by decide +kernel
theorem dL_sell_11 : decode cL_sell 11 = .ok (.invokestatic 25, 3) := by decide +kernel
theorem dL_sell_14 : decode cL_sell 14 = .ok (.ireturn, 1) := by decide +kernel
theorem dL_pledge_0 : decode cL_pledge 0 = .ok (.aload_n 0, 1) := by decide +kernel
theorem dL_pledge_1 : decode cL_pledge 1 = .ok (.iload_n 1, 1) := by decide +kernel
theorem dL_pledge_2 : decode cL_pledge 2 = .ok (.iload_n 2, 1) := by decide +kernel
theorem dL_pledge_3 : decode cL_pledge 3 = .ok (.invokevirtual 39, 3) := by decide +kernel
theorem dL_pledge_6 : decode cL_pledge 6 = .ok (.ireturn, 1) := by decide +kernel
theorem dL_pledge_7 : decode cL_pledge 7 = .ok (.astore_n 3, 1) := by decide +kernel
theorem dL_pledge_8 : decode cL_pledge 8 = .ok (.aload_n 0, 1) := by decide +kernel
theorem dL_pledge_9 : decode cL_pledge 9 = .ok (.invokestatic 25, 3) := by decide +kernel
theorem dL_pledge_12 : decode cL_pledge 12 = .ok (.ireturn, 1) := by decide +kernel
theorem dL_redeem_0 : decode cL_redeem 0 = .ok (.aload_n 0, 1) := by decide +kernel
theorem dL_redeem_1 : decode cL_redeem 1 = .ok (.iload_n 1, 1) := by decide +kernel
theorem dL_redeem_2 : decode cL_redeem 2 = .ok (.invokevirtual 42, 3) := by decide +kernel
theorem dL_redeem_5 : decode cL_redeem 5 = .ok (.ireturn, 1) := by decide +kernel
theorem dL_redeem_6 : decode cL_redeem 6 = .ok (.astore_n 2, 1) := by decide +kernel
theorem dL_redeem_7 : decode cL_redeem 7 = .ok (.aload_n 0, 1) := by decide +kernel
theorem dL_redeem_8 : decode cL_redeem 8 = .ok (.invokestatic 25, 3) := by decide +kernel
theorem dL_redeem_11 : decode cL_redeem 11 = .ok (.ireturn, 1) := by decide +kernel
theorem dL_wind_0 : decode cL_wind 0 = .ok (.aload_n 0, 1) := by decide +kernel
theorem dL_wind_1 : decode cL_wind 1 = .ok (.iload_n 1, 1) := by decide +kernel
theorem dL_wind_2 : decode cL_wind 2 = .ok (.invokevirtual 46, 3) := by decide +kernel
theorem dL_wind_5 : decode cL_wind 5 = .ok (.ireturn, 1) := by decide +kernel
theorem dL_wind_6 : decode cL_wind 6 = .ok (.astore_n 2, 1) := by decide +kernel
theorem dL_wind_7 : decode cL_wind 7 = .ok (.aload_n 0, 1) := by decide +kernel
theorem dL_wind_8 : decode cL_wind 8 = .ok (.invokestatic 25, 3) := by decide +kernel
theorem dL_wind_11 : decode cL_wind 11 = .ok (.ireturn, 1) := by decide +kernel
theorem dL_hail_0 : decode cL_hail 0 = .ok (.aload_n 0, 1) := by decide +kernel
theorem dL_hail_1 : decode cL_hail 1 = .ok (.iload_n 1, 1) := by decide +kernel
theorem dL_hail_2 : decode cL_hail 2 = .ok (.invokevirtual 49, 3) := by decide +kernel
theorem dL_hail_5 : decode cL_hail 5 = .ok (.ireturn, 1) := by decide +kernel
theorem dL_hail_6 : decode cL_hail 6 = .ok (.astore_n 2, 1) := by decide +kernel
theorem dL_hail_7 : decode cL_hail 7 = .ok (.aload_n 0, 1) := by decide +kernel
theorem dL_hail_8 : decode cL_hail 8 = .ok (.invokestatic 25, 3) := by decide +kernel
theorem dL_hail_11 : decode cL_hail 11 = .ok (.ireturn, 1) := by decide +kernel
theorem dL_recorded_0 : decode cL_recorded 0 = .ok (.aload_n 0, 1) := by decide +kernel
theorem dL_recorded_1 : decode cL_recorded 1 = .ok (.iload_n 1, 1) := by decide +kernel
theorem dL_recorded_2 : decode cL_recorded 2 = .ok (.iload_n 2, 1) := by decide +kernel
theorem dL_recorded_3 : decode cL_recorded 3 = .ok (.invokevirtual 52, 3) := by decide +kernel
theorem dL_recorded_6 : decode cL_recorded 6 = .ok (.ireturn, 1) := by decide +kernel
theorem dL_recorded_7 : decode cL_recorded 7 = .ok (.astore_n 3, 1) := by decide +kernel
theorem dL_recorded_8 : decode cL_recorded 8 = .ok (.sipush (-30000), 3) := by decide +kernel
theorem dL_recorded_11 : decode cL_recorded 11 = .ok (.ireturn, 1) := by decide +kernel
theorem dL_dawnLine_0 : decode cL_dawnLine 0 = .ok (.aload_n 0, 1) := by decide +kernel
theorem dL_dawnLine_1 : decode cL_dawnLine 1 = .ok (.iload_n 1, 1) := by decide +kernel
theorem dL_dawnLine_2 : decode cL_dawnLine 2 = .ok (.invokevirtual 57, 3) := by decide +kernel
theorem dL_dawnLine_5 : decode cL_dawnLine 5 = .ok (.ireturn, 1) := by decide +kernel
theorem dL_dawnLine_6 : decode cL_dawnLine 6 = .ok (.astore_n 2, 1) := by decide +kernel
theorem dL_dawnLine_7 : decode cL_dawnLine 7 = .ok (.sipush (-30000), 3) := by decide +kernel
theorem dL_dawnLine_10 : decode cL_dawnLine 10 = .ok (.ireturn, 1) := by decide +kernel
theorem dL_greatest_0 : decode cL_greatest 0 = .ok (.aload_n 0, 1) := by decide +kernel
theorem dL_greatest_1 : decode cL_greatest 1 = .ok (.iload_n 1, 1) := by decide +kernel
theorem dL_greatest_2 : decode cL_greatest 2 = .ok (.invokevirtual 60, 3) := by decide +kernel
theorem dL_greatest_5 : decode cL_greatest 5 = .ok (.ireturn, 1) := by decide +kernel
theorem dL_greatest_6 : decode cL_greatest 6 = .ok (.astore_n 2, 1) := by decide +kernel
theorem dL_greatest_7 : decode cL_greatest 7 = .ok (.sipush (-30000), 3) := by decide +kernel
theorem dL_greatest_10 : decode cL_greatest 10 = .ok (.ireturn, 1) := by decide +kernel
theorem dL_ranked_0 : decode cL_ranked 0 = .ok (.aload_n 0, 1) := by decide +kernel
theorem dL_ranked_1 : decode cL_ranked 1 = .ok (.iload_n 1, 1) := by decide +kernel
theorem dL_ranked_2 : decode cL_ranked 2 = .ok (.invokevirtual 63, 3) := by decide +kernel
theorem dL_ranked_5 : decode cL_ranked 5 = .ok (.ireturn, 1) := by decide +kernel
theorem dL_ranked_6 : decode cL_ranked 6 = .ok (.astore_n 2, 1) := by decide +kernel
theorem dL_ranked_7 : decode cL_ranked 7 = .ok (.sipush (-30000), 3) := by decide +kernel
theorem dL_ranked_10 : decode cL_ranked 10 = .ok (.ireturn, 1) := by decide +kernel
theorem dL_build_0 : decode cL_build 0 = .ok (.iconst 2, 1) := by decide +kernel
theorem dL_build_1 : decode cL_build 1 = .ok (.aload_n 1, 1) := by decide +kernel
theorem dL_build_2 : decode cL_build 2 = .ok (.iconst 0, 1) := by decide +kernel
theorem dL_build_3 : decode cL_build 3 = .ok (.iconst 4, 1) := by decide +kernel
theorem dL_build_4 : decode cL_build 4 = .ok (.invokestatic 66, 3) := by decide +kernel
theorem dL_build_7 : decode cL_build 7 = .ok (.iadd, 1) := by decide +kernel
theorem dL_build_8 : decode cL_build 8 = .ok (.istore_n 3, 1) := by decide +kernel
theorem dL_build_9 : decode cL_build 9 = .ok (.iconst 0, 1) := by decide +kernel
theorem dL_build_10 : decode cL_build 10 = .ok (.istore 4, 2) := by decide +kernel
theorem dL_build_12 : decode cL_build 12 = .ok (.iload 4, 2) := by decide +kernel
theorem dL_build_14 : decode cL_build 14 = .ok (.iload_n 3, 1) := by decide +kernel
theorem dL_build_15 : decode cL_build 15 = .ok (.if_icmp .ge 48, 3) := by decide +kernel
theorem dL_build_18 : decode cL_build 18 = .ok (.aload_n 0, 1) := by decide +kernel
theorem dL_build_19 : decode cL_build 19 = .ok (.aload_n 1, 1) := by decide +kernel
theorem dL_build_20 : decode cL_build 20 = .ok (.iconst 1, 1) := by decide +kernel
theorem dL_build_21 : decode cL_build 21 = .ok (.iload 4, 2) := by decide +kernel
theorem dL_build_23 : decode cL_build 23 = .ok (.iadd, 1) := by decide +kernel
theorem dL_build_24 : decode cL_build 24 = .ok (.bipush 6, 2) := by decide +kernel
theorem dL_build_26 : decode cL_build 26 = .ok (.invokestatic 66, 3) := by decide +kernel
theorem dL_build_29 : decode cL_build 29 = .ok (.aload_n 1, 1) := by decide +kernel
theorem dL_build_30 : decode cL_build 30 = .ok (.bipush 8, 2) := by decide +kernel
theorem dL_build_32 : decode cL_build 32 = .ok (.iload 4, 2) := by decide +kernel
theorem dL_build_34 : decode cL_build 34 = .ok (.iadd, 1) := by decide +kernel
theorem dL_build_35 : decode cL_build 35 = .ok (.bipush 6, 2) := by decide +kernel
theorem dL_build_37 : decode cL_build 37 = .ok (.invokestatic 66, 3) := by decide +kernel
theorem dL_build_40 : decode cL_build 40 = .ok (.iconst 1, 1) := by decide +kernel
theorem dL_build_41 : decode cL_build 41 = .ok (.aload_n 1, 1) := by decide +kernel
theorem dL_build_42 : decode cL_build 42 = .ok (.bipush 15, 2) := by decide +kernel
theorem dL_build_44 : decode cL_build 44 = .ok (.iload 4, 2) := by decide +kernel
theorem dL_build_46 : decode cL_build 46 = .ok (.iadd, 1) := by decide +kernel
theorem dL_build_47 : decode cL_build 47 = .ok (.bipush 9, 2) := by decide +kernel
theorem dL_build_49 : decode cL_build 49 = .ok (.invokestatic 66, 3) := by decide +kernel
theorem dL_build_52 : decode cL_build 52 = .ok (.iadd, 1) := by decide +kernel
theorem dL_build_53 : decode cL_build 53 = .ok (.invokestatic 70, 3) := by decide +kernel
theorem dL_build_56 : decode cL_build 56 = .ok (.istore_n 2, 1) := by decide +kernel
theorem dL_build_57 : decode cL_build 57 = .ok (.iinc 4 1, 3) := by decide +kernel
theorem dL_build_60 : decode cL_build 60 = .ok (.goto (-48), 3) := by decide +kernel
theorem dL_build_63 : decode cL_build 63 = .ok (.iconst 0, 1) := by decide +kernel
theorem dL_build_64 : decode cL_build 64 = .ok (.istore 4, 2) := by decide +kernel
theorem dL_build_66 : decode cL_build 66 = .ok (.iload 4, 2) := by decide +kernel
theorem dL_build_68 : decode cL_build 68 = .ok (.iconst 4, 1) := by decide +kernel
theorem dL_build_69 : decode cL_build 69 = .ok (.if_icmp .ge 35, 3) := by decide +kernel
theorem dL_build_72 : decode cL_build 72 = .ok (.aload_n 0, 1) := by decide +kernel
theorem dL_build_73 : decode cL_build 73 = .ok (.aload_n 1, 1) := by decide +kernel
theorem dL_build_74 : decode cL_build 74 = .ok (.bipush 22, 2) := by decide +kernel
theorem dL_build_76 : decode cL_build 76 = .ok (.iload 4, 2) := by decide +kernel
theorem dL_build_78 : decode cL_build 78 = .ok (.iadd, 1) := by decide +kernel
theorem dL_build_79 : decode cL_build 79 = .ok (.bipush 6, 2) := by decide +kernel
theorem dL_build_81 : decode cL_build 81 = .ok (.invokestatic 66, 3) := by decide +kernel
theorem dL_build_84 : decode cL_build 84 = .ok (.aload_n 1, 1) := by decide +kernel
theorem dL_build_85 : decode cL_build 85 = .ok (.bipush 27, 2) := by decide +kernel
theorem dL_build_87 : decode cL_build 87 = .ok (.iload 4, 2) := by decide +kernel
theorem dL_build_89 : decode cL_build 89 = .ok (.iadd, 1) := by decide +kernel
theorem dL_build_90 : decode cL_build 90 = .ok (.iconst 4, 1) := by decide +kernel
theorem dL_build_91 : decode cL_build 91 = .ok (.invokestatic 66, 3) := by decide +kernel
theorem dL_build_94 : decode cL_build 94 = .ok (.invokestatic 73, 3) := by decide +kernel
theorem dL_build_97 : decode cL_build 97 = .ok (.istore_n 2, 1) := by decide +kernel
theorem dL_build_98 : decode cL_build 98 = .ok (.iinc 4 1, 3) := by decide +kernel
theorem dL_build_101 : decode cL_build 101 = .ok (.goto (-35), 3) := by decide +kernel
theorem dL_build_104 : decode cL_build 104 = .ok (.iconst 0, 1) := by decide +kernel
theorem dL_build_105 : decode cL_build 105 = .ok (.istore 4, 2) := by decide +kernel
theorem dL_build_107 : decode cL_build 107 = .ok (.iload 4, 2) := by decide +kernel
theorem dL_build_109 : decode cL_build 109 = .ok (.bipush 14, 2) := by decide +kernel
theorem dL_build_111 : decode cL_build 111 = .ok (.if_icmp .ge 21, 3) := by decide +kernel
theorem dL_build_114 : decode cL_build 114 = .ok (.aload_n 0, 1) := by decide +kernel
theorem dL_build_115 : decode cL_build 115 = .ok (.aload_n 1, 1) := by decide +kernel
theorem dL_build_116 : decode cL_build 116 = .ok (.bipush 32, 2) := by decide +kernel
theorem dL_build_118 : decode cL_build 118 = .ok (.iconst 4, 1) := by decide +kernel
theorem dL_build_119 : decode cL_build 119 = .ok (.iload 4, 2) := by decide +kernel
theorem dL_build_121 : decode cL_build 121 = .ok (.imul, 1) := by decide +kernel
theorem dL_build_122 : decode cL_build 122 = .ok (.iadd, 1) := by decide +kernel
theorem dL_build_123 : decode cL_build 123 = .ok (.invokestatic 76, 3) := by decide +kernel
theorem dL_build_126 : decode cL_build 126 = .ok (.iinc 4 1, 3) := by decide +kernel
theorem dL_build_129 : decode cL_build 129 = .ok (.goto (-22), 3) := by decide +kernel
theorem dL_build_132 : decode cL_build 132 = .ok (.return_, 1) := by decide +kernel
theorem dL_acts_0 : decode cL_acts 0 = .ok (.aload_n 0, 1) := by decide +kernel
theorem dL_acts_1 : decode cL_acts 1 = .ok (.iconst 0, 1) := by decide +kernel
theorem dL_acts_2 : decode cL_acts 2 = .ok (.invokevirtual 80, 3) := by decide +kernel
theorem dL_acts_5 : decode cL_acts 5 = .ok (.istore_n 3, 1) := by decide +kernel
theorem dL_acts_6 : decode cL_acts 6 = .ok (.aload_n 1, 1) := by decide +kernel
theorem dL_acts_7 : decode cL_acts 7 = .ok (.iload_n 2, 1) := by decide +kernel
theorem dL_acts_8 : decode cL_acts 8 = .ok (.iconst 3, 1) := by decide +kernel
theorem dL_acts_9 : decode cL_acts 9 = .ok (.iadd, 1) := by decide +kernel
theorem dL_acts_10 : decode cL_acts 10 = .ok (.bipush 60, 2) := by decide +kernel
theorem dL_acts_12 : decode cL_acts 12 = .ok (.invokestatic 66, 3) := by decide +kernel
theorem dL_acts_15 : decode cL_acts 15 = .ok (.istore 4, 2) := by decide +kernel
theorem dL_acts_17 : decode cL_acts 17 = .ok (.aload_n 1, 1) := by decide +kernel
theorem dL_acts_18 : decode cL_acts 18 = .ok (.iload_n 2, 1) := by decide +kernel
theorem dL_acts_19 : decode cL_acts 19 = .ok (.iconst 2, 1) := by decide +kernel
theorem dL_acts_20 : decode cL_acts 20 = .ok (.iadd, 1) := by decide +kernel
theorem dL_acts_21 : decode cL_acts 21 = .ok (.iconst 4, 1) := by decide +kernel
theorem dL_acts_22 : decode cL_acts 22 = .ok (.invokestatic 66, 3) := by decide +kernel
theorem dL_acts_25 : decode cL_acts 25 = .ok (.istore 5, 2) := by decide +kernel
theorem dL_acts_27 : decode cL_acts 27 = .ok (.iload_n 3, 1) := by decide +kernel
theorem dL_acts_28 : decode cL_acts 28 = .ok (.ifCond .le 14, 3) := by decide +kernel
theorem dL_acts_31 : decode cL_acts 31 = .ok (.aload_n 1, 1) := by decide +kernel
theorem dL_acts_32 : decode cL_acts 32 = .ok (.iload_n 2, 1) := by decide +kernel
theorem dL_acts_33 : decode cL_acts 33 = .ok (.iconst 1, 1) := by decide +kernel
theorem dL_acts_34 : decode cL_acts 34 = .ok (.iadd, 1) := by decide +kernel
theorem dL_acts_35 : decode cL_acts 35 = .ok (.iload_n 3, 1) := by decide +kernel
theorem dL_acts_36 : decode cL_acts 36 = .ok (.invokestatic 66, 3) := by decide +kernel
theorem dL_acts_39 : decode cL_acts 39 = .ok (.goto 4, 3) := by decide +kernel
theorem dL_acts_42 : decode cL_acts 42 = .ok (.iconst 0, 1) := by decide +kernel
theorem dL_acts_43 : decode cL_acts 43 = .ok (.istore 6, 2) := by decide +kernel
theorem dL_acts_45 : decode cL_acts 45 = .ok (.aload_n 1, 1) := by decide +kernel
theorem dL_acts_46 : decode cL_acts 46 = .ok (.iload_n 2, 1) := by decide +kernel
theorem dL_acts_47 : decode cL_acts 47 = .ok (.bipush 15, 2) := by decide +kernel
theorem dL_acts_49 : decode cL_acts 49 = .ok (.invokestatic 66, 3) := by decide +kernel
theorem dL_acts_52 : decode cL_acts 52 = .ok (.tableswitch 257 0 11 #[64, 99, 119, 119, 119, 140, 166, 166, 166, 187, 206, 222], 64) := by decide +kernel
theorem dL_acts_116 : decode cL_acts 116 = .ok (.iload_n 3, 1) := by decide +kernel
theorem dL_acts_117 : decode cL_acts 117 = .ok (.bipush 6, 2) := by decide +kernel
theorem dL_acts_119 : decode cL_acts 119 = .ok (.if_icmp .ge 26, 3) := by decide +kernel
theorem dL_acts_122 : decode cL_acts 122 = .ok (.aload_n 0, 1) := by decide +kernel
theorem dL_acts_123 : decode cL_acts 123 = .ok (.iload 4, 2) := by decide +kernel
theorem dL_acts_125 : decode cL_acts 125 = .ok (.bipush 6, 2) := by decide +kernel
theorem dL_acts_127 : decode cL_acts 127 = .ok (.irem, 1) := by decide +kernel
theorem dL_acts_128 : decode cL_acts 128 = .ok (.iload 4, 2) := by decide +kernel
theorem dL_acts_130 : decode cL_acts 130 = .ok (.iconst 5, 1) := by decide +kernel
theorem dL_acts_131 : decode cL_acts 131 = .ok (.irem, 1) := by decide +kernel
theorem dL_acts_132 : decode cL_acts 132 = .ok (.iconst 1, 1) := by decide +kernel
theorem dL_acts_133 : decode cL_acts 133 = .ok (.iload 4, 2) := by decide +kernel
theorem dL_acts_135 : decode cL_acts 135 = .ok (.bipush 9, 2) := by decide +kernel
theorem dL_acts_137 : decode cL_acts 137 = .ok (.irem, 1) := by decide +kernel
theorem dL_acts_138 : decode cL_acts 138 = .ok (.iadd, 1) := by decide +kernel
theorem dL_acts_139 : decode cL_acts 139 = .ok (.invokestatic 70, 3) := by decide +kernel
theorem dL_acts_142 : decode cL_acts 142 = .ok (.goto 4, 3) := by decide +kernel
theorem dL_acts_145 : decode cL_acts 145 = .ok (.iconst 0, 1) := by decide +kernel
theorem dL_acts_146 : decode cL_acts 146 = .ok (.istore 7, 2) := by decide +kernel
theorem dL_acts_148 : decode cL_acts 148 = .ok (.goto 167, 3) := by decide +kernel
theorem dL_acts_151 : decode cL_acts 151 = .ok (.aload_n 0, 1) := by decide +kernel
theorem dL_acts_152 : decode cL_acts 152 = .ok (.iload 4, 2) := by decide +kernel
theorem dL_acts_154 : decode cL_acts 154 = .ok (.bipush 6, 2) := by decide +kernel
theorem dL_acts_156 : decode cL_acts 156 = .ok (.irem, 1) := by decide +kernel
theorem dL_acts_157 : decode cL_acts 157 = .ok (.iload 4, 2) := by decide +kernel
theorem dL_acts_159 : decode cL_acts 159 = .ok (.iconst 5, 1) := by decide +kernel
theorem dL_acts_160 : decode cL_acts 160 = .ok (.irem, 1) := by decide +kernel
theorem dL_acts_161 : decode cL_acts 161 = .ok (.iconst 1, 1) := by decide +kernel
theorem dL_acts_162 : decode cL_acts 162 = .ok (.isub, 1) := by decide +kernel
theorem dL_acts_163 : decode cL_acts 163 = .ok (.invokestatic 73, 3) := by decide +kernel
theorem dL_acts_166 : decode cL_acts 166 = .ok (.istore 7, 2) := by decide +kernel
theorem dL_acts_168 : decode cL_acts 168 = .ok (.goto 147, 3) := by decide +kernel
theorem dL_acts_171 : decode cL_acts 171 = .ok (.iload_n 3, 1) := by decide +kernel
theorem dL_acts_172 : decode cL_acts 172 = .ok (.ifCond .le 14, 3) := by decide +kernel
theorem dL_acts_175 : decode cL_acts 175 = .ok (.aload_n 0, 1) := by decide +kernel
theorem dL_acts_176 : decode cL_acts 176 = .ok (.iload 6, 2) := by decide +kernel
theorem dL_acts_178 : decode cL_acts 178 = .ok (.iload 5, 2) := by decide +kernel
theorem dL_acts_180 : decode cL_acts 180 = .ok (.invokestatic 83, 3) := by decide +kernel
theorem dL_acts_183 : decode cL_acts 183 = .ok (.goto 4, 3) := by decide +kernel
theorem dL_acts_186 : decode cL_acts 186 = .ok (.iconst 0, 1) := by decide +kernel
theorem dL_acts_187 : decode cL_acts 187 = .ok (.istore 7, 2) := by decide +kernel
theorem dL_acts_189 : decode cL_acts 189 = .ok (.goto 126, 3) := by decide +kernel
theorem dL_acts_192 : decode cL_acts 192 = .ok (.iload_n 3, 1) := by decide +kernel
theorem dL_acts_193 : decode cL_acts 193 = .ok (.ifCond .le 19, 3) := by decide +kernel
theorem dL_acts_196 : decode cL_acts 196 = .ok (.aload_n 0, 1) := by decide +kernel
theorem dL_acts_197 : decode cL_acts 197 = .ok (.iload 6, 2) := by decide +kernel
theorem dL_acts_199 : decode cL_acts 199 = .ok (.iload 5, 2) := by decide +kernel
theorem dL_acts_201 : decode cL_acts 201 = .ok (.iload 4, 2) := by decide +kernel
theorem dL_acts_203 : decode cL_acts 203 = .ok (.bipush 15, 2) := by decide +kernel
theorem dL_acts_205 : decode cL_acts 205 = .ok (.irem, 1) := by decide +kernel
theorem dL_acts_206 : decode cL_acts 206 = .ok (.invokestatic 85, 3) := by decide +kernel
theorem dL_acts_209 : decode cL_acts 209 = .ok (.goto 4, 3) := by decide +kernel
theorem dL_acts_212 : decode cL_acts 212 = .ok (.iconst 0, 1) := by decide +kernel
theorem dL_acts_213 : decode cL_acts 213 = .ok (.istore 7, 2) := by decide +kernel
theorem dL_acts_215 : decode cL_acts 215 = .ok (.goto 100, 3) := by decide +kernel
theorem dL_acts_218 : decode cL_acts 218 = .ok (.iload_n 3, 1) := by decide +kernel
theorem dL_acts_219 : decode cL_acts 219 = .ok (.ifCond .le 14, 3) := by decide +kernel
theorem dL_acts_222 : decode cL_acts 222 = .ok (.aload_n 0, 1) := by decide +kernel
theorem dL_acts_223 : decode cL_acts 223 = .ok (.iload 6, 2) := by decide +kernel
theorem dL_acts_225 : decode cL_acts 225 = .ok (.iload 5, 2) := by decide +kernel
theorem dL_acts_227 : decode cL_acts 227 = .ok (.invokestatic 87, 3) := by decide +kernel
theorem dL_acts_230 : decode cL_acts 230 = .ok (.goto 4, 3) := by decide +kernel
theorem dL_acts_233 : decode cL_acts 233 = .ok (.iconst 0, 1) := by decide +kernel
theorem dL_acts_234 : decode cL_acts 234 = .ok (.istore 7, 2) := by decide +kernel
theorem dL_acts_236 : decode cL_acts 236 = .ok (.goto 79, 3) := by decide +kernel
theorem dL_acts_239 : decode cL_acts 239 = .ok (.iload_n 3, 1) := by decide +kernel
theorem dL_acts_240 : decode cL_acts 240 = .ok (.ifCond .le 12, 3) := by decide +kernel
theorem dL_acts_243 : decode cL_acts 243 = .ok (.aload_n 0, 1) := by decide +kernel
theorem dL_acts_244 : decode cL_acts 244 = .ok (.iload 6, 2) := by decide +kernel
theorem dL_acts_246 : decode cL_acts 246 = .ok (.invokestatic 89, 3) := by decide +kernel
theorem dL_acts_249 : decode cL_acts 249 = .ok (.goto 4, 3) := by decide +kernel
theorem dL_acts_252 : decode cL_acts 252 = .ok (.iconst 0, 1) := by decide +kernel
theorem dL_acts_253 : decode cL_acts 253 = .ok (.istore 7, 2) := by decide +kernel
theorem dL_acts_255 : decode cL_acts 255 = .ok (.goto 60, 3) := by decide +kernel
theorem dL_acts_258 : decode cL_acts 258 = .ok (.aload_n 0, 1) := by decide +kernel
theorem dL_acts_259 : decode cL_acts 259 = .ok (.iload 4, 2) := by decide +kernel
theorem dL_acts_261 : decode cL_acts 261 = .ok (.bipush 7, 2) := by decide +kernel
theorem dL_acts_263 : decode cL_acts 263 = .ok (.irem, 1) := by decide +kernel
theorem dL_acts_264 : decode cL_acts 264 = .ok (.iconst 3, 1) := by decide +kernel
theorem dL_acts_265 : decode cL_acts 265 = .ok (.isub, 1) := by decide +kernel
theorem dL_acts_266 : decode cL_acts 266 = .ok (.invokestatic 92, 3) := by decide +kernel
theorem dL_acts_269 : decode cL_acts 269 = .ok (.istore 7, 2) := by decide +kernel
theorem dL_acts_271 : decode cL_acts 271 = .ok (.goto 44, 3) := by decide +kernel
theorem dL_acts_274 : decode cL_acts 274 = .ok (.aload_n 0, 1) := by decide +kernel
theorem dL_acts_275 : decode cL_acts 275 = .ok (.iload_n 3, 1) := by decide +kernel
theorem dL_acts_276 : decode cL_acts 276 = .ok (.ifCond .le 20, 3) := by decide +kernel
theorem dL_acts_279 : decode cL_acts 279 = .ok (.iload 4, 2) := by decide +kernel
theorem dL_acts_281 : decode cL_acts 281 = .ok (.iconst 3, 1) := by decide +kernel
theorem dL_acts_282 : decode cL_acts 282 = .ok (.irem, 1) := by decide +kernel
theorem dL_acts_283 : decode cL_acts 283 = .ok (.ifCond .le 13, 3) := by decide +kernel
theorem dL_acts_286 : decode cL_acts 286 = .ok (.aload_n 0, 1) := by decide +kernel
theorem dL_acts_287 : decode cL_acts 287 = .ok (.iload 6, 2) := by decide +kernel
theorem dL_acts_289 : decode cL_acts 289 = .ok (.iconst 0, 1) := by decide +kernel
theorem dL_acts_290 : decode cL_acts 290 = .ok (.invokevirtual 94, 3) := by decide +kernel
theorem dL_acts_293 : decode cL_acts 293 = .ok (.goto 8, 3) := by decide +kernel
theorem dL_acts_296 : decode cL_acts 296 = .ok (.iload 4, 2) := by decide +kernel
theorem dL_acts_298 : decode cL_acts 298 = .ok (.bipush 6, 2) := by decide +kernel
theorem dL_acts_300 : decode cL_acts 300 = .ok (.irem, 1) := by decide +kernel
theorem dL_acts_301 : decode cL_acts 301 = .ok (.invokestatic 97, 3) := by decide +kernel
theorem dL_acts_304 : decode cL_acts 304 = .ok (.istore 7, 2) := by decide +kernel
theorem dL_acts_306 : decode cL_acts 306 = .ok (.goto 9, 3) := by decide +kernel
theorem dL_acts_309 : decode cL_acts 309 = .ok (.aload_n 0, 1) := by decide +kernel
theorem dL_acts_310 : decode cL_acts 310 = .ok (.invokevirtual 99, 3) := by decide +kernel
theorem dL_acts_313 : decode cL_acts 313 = .ok (.istore 7, 2) := by decide +kernel
theorem dL_acts_315 : decode cL_acts 315 = .ok (.return_, 1) := by decide +kernel
theorem dL_ownerBy_0 : decode cL_ownerBy 0 = .ok (.aload_n 0, 1) := by decide +kernel
theorem dL_ownerBy_1 : decode cL_ownerBy 1 = .ok (.iload_n 1, 1) := by decide +kernel
theorem dL_ownerBy_2 : decode cL_ownerBy 2 = .ok (.iconst 1, 1) := by decide +kernel
theorem dL_ownerBy_3 : decode cL_ownerBy 3 = .ok (.invokevirtual 94, 3) := by decide +kernel
theorem dL_ownerBy_6 : decode cL_ownerBy 6 = .ok (.iload_n 2, 1) := by decide +kernel
theorem dL_ownerBy_7 : decode cL_ownerBy 7 = .ok (.invokestatic 103, 3) := by decide +kernel
theorem dL_ownerBy_10 : decode cL_ownerBy 10 = .ok (.iadd, 1) := by decide +kernel
theorem dL_ownerBy_11 : decode cL_ownerBy 11 = .ok (.bipush 6, 2) := by decide +kernel
theorem dL_ownerBy_13 : decode cL_ownerBy 13 = .ok (.irem, 1) := by decide +kernel
theorem dL_ownerBy_14 : decode cL_ownerBy 14 = .ok (.istore_n 3, 1) := by decide +kernel
theorem dL_ownerBy_15 : decode cL_ownerBy 15 = .ok (.aload_n 0, 1) := by decide +kernel
theorem dL_ownerBy_16 : decode cL_ownerBy 16 = .ok (.iload_n 1, 1) := by decide +kernel
theorem dL_ownerBy_17 : decode cL_ownerBy 17 = .ok (.iconst 0, 1) := by decide +kernel
theorem dL_ownerBy_18 : decode cL_ownerBy 18 = .ok (.invokevirtual 94, 3) := by decide +kernel
theorem dL_ownerBy_21 : decode cL_ownerBy 21 = .ok (.iload_n 2, 1) := by decide +kernel
theorem dL_ownerBy_22 : decode cL_ownerBy 22 = .ok (.iadd, 1) := by decide +kernel
theorem dL_ownerBy_23 : decode cL_ownerBy 23 = .ok (.bipush 6, 2) := by decide +kernel
theorem dL_ownerBy_25 : decode cL_ownerBy 25 = .ok (.iadd, 1) := by decide +kernel
theorem dL_ownerBy_26 : decode cL_ownerBy 26 = .ok (.bipush 6, 2) := by decide +kernel
theorem dL_ownerBy_28 : decode cL_ownerBy 28 = .ok (.irem, 1) := by decide +kernel
theorem dL_ownerBy_29 : decode cL_ownerBy 29 = .ok (.istore 4, 2) := by decide +kernel
theorem dL_ownerBy_31 : decode cL_ownerBy 31 = .ok (.aload_n 0, 1) := by decide +kernel
theorem dL_ownerBy_32 : decode cL_ownerBy 32 = .ok (.iload_n 1, 1) := by decide +kernel
theorem dL_ownerBy_33 : decode cL_ownerBy 33 = .ok (.iconst 3, 1) := by decide +kernel
theorem dL_ownerBy_34 : decode cL_ownerBy 34 = .ok (.invokevirtual 94, 3) := by decide +kernel
theorem dL_ownerBy_37 : decode cL_ownerBy 37 = .ok (.ifCond .lt 22, 3) := by decide +kernel
theorem dL_ownerBy_40 : decode cL_ownerBy 40 = .ok (.aload_n 0, 1) := by decide +kernel
theorem dL_ownerBy_41 : decode cL_ownerBy 41 = .ok (.iload_n 1, 1) := by decide +kernel
theorem dL_ownerBy_42 : decode cL_ownerBy 42 = .ok (.iconst 4, 1) := by decide +kernel
theorem dL_ownerBy_43 : decode cL_ownerBy 43 = .ok (.invokevirtual 94, 3) := by decide +kernel
theorem dL_ownerBy_46 : decode cL_ownerBy 46 = .ok (.iload_n 3, 1) := by decide +kernel
theorem dL_ownerBy_47 : decode cL_ownerBy 47 = .ok (.if_icmp .ne 12, 3) := by decide +kernel
theorem dL_ownerBy_50 : decode cL_ownerBy 50 = .ok (.aload_n 0, 1) := by decide +kernel
theorem dL_ownerBy_51 : decode cL_ownerBy 51 = .ok (.iload_n 1, 1) := by decide +kernel
theorem dL_ownerBy_52 : decode cL_ownerBy 52 = .ok (.iconst 3, 1) := by decide +kernel
theorem dL_ownerBy_53 : decode cL_ownerBy 53 = .ok (.invokevirtual 94, 3) := by decide +kernel
theorem dL_ownerBy_56 : decode cL_ownerBy 56 = .ok (.goto 10, 3) := by decide +kernel
theorem dL_ownerBy_59 : decode cL_ownerBy 59 = .ok (.aload_n 0, 1) := by decide +kernel
theorem dL_ownerBy_60 : decode cL_ownerBy 60 = .ok (.iload 4, 2) := by decide +kernel
theorem dL_ownerBy_62 : decode cL_ownerBy 62 = .ok (.iconst 0, 1) := by decide +kernel
theorem dL_ownerBy_63 : decode cL_ownerBy 63 = .ok (.invokevirtual 108, 3) := by decide +kernel
theorem dL_ownerBy_66 : decode cL_ownerBy 66 = .ok (.ireturn, 1) := by decide +kernel
theorem dL_isLine_0 : decode cL_isLine 0 = .ok (.iload_n 1, 1) := by decide +kernel
theorem dL_isLine_1 : decode cL_isLine 1 = .ok (.aload_n 2, 1) := by decide +kernel
theorem dL_isLine_2 : decode cL_isLine 2 = .ok (.invokevirtual 111, 3) := by decide +kernel
theorem dL_isLine_5 : decode cL_isLine 5 = .ok (.if_icmp .eq 5, 3) := by decide +kernel
theorem dL_isLine_8 : decode cL_isLine 8 = .ok (.iconst 0, 1) := by decide +kernel
theorem dL_isLine_9 : decode cL_isLine 9 = .ok (.ireturn, 1) := by decide +kernel
theorem dL_isLine_10 : decode cL_isLine 10 = .ok (.iconst 0, 1) := by decide +kernel
theorem dL_isLine_11 : decode cL_isLine 11 = .ok (.istore_n 3, 1) := by decide +kernel
theorem dL_isLine_12 : decode cL_isLine 12 = .ok (.iload_n 3, 1) := by decide +kernel
theorem dL_isLine_13 : decode cL_isLine 13 = .ok (.iload_n 1, 1) := by decide +kernel
theorem dL_isLine_14 : decode cL_isLine 14 = .ok (.if_icmp .ge 24, 3) := by decide +kernel
theorem dL_isLine_17 : decode cL_isLine 17 = .ok (.aload_n 0, 1) := by decide +kernel
theorem dL_isLine_18 : decode cL_isLine 18 = .ok (.iload_n 3, 1) := by decide +kernel
theorem dL_isLine_19 : decode cL_isLine 19 = .ok (.invokevirtual 116, 3) := by decide +kernel
theorem dL_isLine_22 : decode cL_isLine 22 = .ok (.aload_n 2, 1) := by decide +kernel
theorem dL_isLine_23 : decode cL_isLine 23 = .ok (.iload_n 3, 1) := by decide +kernel
theorem dL_isLine_24 : decode cL_isLine 24 = .ok (.invokevirtual 120, 3) := by decide +kernel
theorem dL_isLine_27 : decode cL_isLine 27 = .ok (.if_icmp .eq 5, 3) := by decide +kernel
theorem dL_isLine_30 : decode cL_isLine 30 = .ok (.iconst 0, 1) := by decide +kernel
theorem dL_isLine_31 : decode cL_isLine 31 = .ok (.ireturn, 1) := by decide +kernel
theorem dL_isLine_32 : decode cL_isLine 32 = .ok (.iinc 3 1, 3) := by decide +kernel
theorem dL_isLine_35 : decode cL_isLine 35 = .ok (.goto (-23), 3) := by decide +kernel
theorem dL_isLine_38 : decode cL_isLine 38 = .ok (.iconst 1, 1) := by decide +kernel
theorem dL_isLine_39 : decode cL_isLine 39 = .ok (.ireturn, 1) := by decide +kernel
