theorem dX1_init_0 : decode cX1_init 0 = .ok (.aload_n 0, 1) := by decide +kernel
theorem dX1_init_1 : decode cX1_init 1 = .ok (.invokespecial 3, 3) := by decide +kernel
theorem dX1_init_4 : decode cX1_init 4 = .ok (.aload_n 0, 1) := by decide +kernel
theorem dX1_init_5 : decode cX1_init 5 = .ok (.iconst 0, 1) := by decide +kernel
theorem dX1_init_6 : decode cX1_init 6 = .ok (.putfield 9, 3) := by decide +kernel
theorem dX1_init_9 : decode cX1_init 9 = .ok (.aload_n 0, 1) := by decide +kernel
theorem dX1_init_10 : decode cX1_init 10 = .ok (.iconst 0, 1) := by decide +kernel
theorem dX1_init_11 : decode cX1_init 11 = .ok (.putfield 15, 3) := by decide +kernel
theorem dX1_init_14 : decode cX1_init 14 = .ok (.aload_n 0, 1) := by decide +kernel
theorem dX1_init_15 : decode cX1_init 15 = .ok (.iconst 0, 1) := by decide +kernel
theorem dX1_init_16 : decode cX1_init 16 = .ok (.putfield 18, 3) := by decide +kernel
theorem dX1_init_19 : decode cX1_init 19 = .ok (.aload_n 0, 1) := by decide +kernel
theorem dX1_init_20 : decode cX1_init 20 = .ok (.iconst (-1), 1) := by decide +kernel
theorem dX1_init_21 : decode cX1_init 21 = .ok (.putfield 21, 3) := by decide +kernel
theorem dX1_init_24 : decode cX1_init 24 = .ok (.aload_n 0, 1) := by decide +kernel
theorem dX1_init_25 : decode cX1_init 25 = .ok (.iconst (-1), 1) := by decide +kernel
theorem dX1_init_26 : decode cX1_init 26 = .ok (.putfield 24, 3) := by decide +kernel
theorem dX1_init_29 : decode cX1_init 29 = .ok (.aload_n 0, 1) := by decide +kernel
theorem dX1_init_30 : decode cX1_init 30 = .ok (.iconst (-1), 1) := by decide +kernel
theorem dX1_init_31 : decode cX1_init 31 = .ok (.putfield 27, 3) := by decide +kernel
theorem dX1_init_34 : decode cX1_init 34 = .ok (.aload_n 0, 1) := by decide +kernel
theorem dX1_init_35 : decode cX1_init 35 = .ok (.iconst 0, 1) := by decide +kernel
theorem dX1_init_36 : decode cX1_init 36 = .ok (.putfield 30, 3) := by decide +kernel
theorem dX1_init_39 : decode cX1_init 39 = .ok (.return_, 1) := by decide +kernel
theorem dX1_copyFrom_0 : decode cX1_copyFrom 0 = .ok (.aload_n 0, 1) := by decide +kernel
theorem dX1_copyFrom_1 : decode cX1_copyFrom 1 = .ok (.aload_n 1, 1) := by decide +kernel
theorem dX1_copyFrom_2 : decode cX1_copyFrom 2 = .ok (.getfield 9, 3) := by decide +kernel
theorem dX1_copyFrom_5 : decode cX1_copyFrom 5 = .ok (.putfield 9, 3) := by decide +kernel
theorem dX1_copyFrom_8 : decode cX1_copyFrom 8 = .ok (.aload_n 0, 1) := by decide +kernel
theorem dX1_copyFrom_9 : decode cX1_copyFrom 9 = .ok (.aload_n 1, 1) := by decide +kernel
theorem dX1_copyFrom_10 : decode cX1_copyFrom 10 = .ok (.getfield 15, 3) := by decide +kernel
theorem dX1_copyFrom_13 : decode cX1_copyFrom 13 = .ok (.putfield 15, 3) := by decide +kernel
theorem dX1_copyFrom_16 : decode cX1_copyFrom 16 = .ok (.aload_n 0, 1) := by decide +kernel
theorem dX1_copyFrom_17 : decode cX1_copyFrom 17 = .ok (.aload_n 1, 1) := by decide +kernel
theorem dX1_copyFrom_18 : decode cX1_copyFrom 18 = .ok (.getfield 18, 3) := by decide +kernel
theorem dX1_copyFrom_21 : decode cX1_copyFrom 21 = .ok (.putfield 18, 3) := by decide +kernel
theorem dX1_copyFrom_24 : decode cX1_copyFrom 24 = .ok (.aload_n 0, 1) := by decide +kernel
theorem dX1_copyFrom_25 : decode cX1_copyFrom 25 = .ok (.aload_n 1, 1) := by decide +kernel
theorem dX1_copyFrom_26 : decode cX1_copyFrom 26 = .ok (.getfield 21, 3) := by decide +kernel
theorem dX1_copyFrom_29 : decode cX1_copyFrom 29 = .ok (.putfield 21, 3) := by decide +kernel
theorem dX1_copyFrom_32 : decode cX1_copyFrom 32 = .ok (.aload_n 0, 1) := by decide +kernel
theorem dX1_copyFrom_33 : decode cX1_copyFrom 33 = .ok (.aload_n 1, 1) := by decide +kernel
theorem dX1_copyFrom_34 : decode cX1_copyFrom 34 = .ok (.getfield 24, 3) := by decide +kernel
theorem dX1_copyFrom_37 : decode cX1_copyFrom 37 = .ok (.putfield 24, 3) := by decide +kernel
theorem dX1_copyFrom_40 : decode cX1_copyFrom 40 = .ok (.aload_n 0, 1) := by decide +kernel
theorem dX1_copyFrom_41 : decode cX1_copyFrom 41 = .ok (.aload_n 1, 1) := by decide +kernel
theorem dX1_copyFrom_42 : decode cX1_copyFrom 42 = .ok (.getfield 27, 3) := by decide +kernel
theorem dX1_copyFrom_45 : decode cX1_copyFrom 45 = .ok (.putfield 27, 3) := by decide +kernel
theorem dX1_copyFrom_48 : decode cX1_copyFrom 48 = .ok (.aload_n 0, 1) := by decide +kernel
theorem dX1_copyFrom_49 : decode cX1_copyFrom 49 = .ok (.aload_n 1, 1) := by decide +kernel
theorem dX1_copyFrom_50 : decode cX1_copyFrom 50 = .ok (.getfield 30, 3) := by decide +kernel
theorem dX1_copyFrom_53 : decode cX1_copyFrom 53 = .ok (.putfield 30, 3) := by decide +kernel
theorem dX1_copyFrom_56 : decode cX1_copyFrom 56 = .ok (.return_, 1) := by decide +kernel
theorem dX1_comeOver_0 : decode cX1_comeOver 0 = .ok (.aload_n 0, 1) := by decide +kernel
theorem dX1_comeOver_1 : decode cX1_comeOver 1 = .ok (.iload_n 1, 1) := by decide +kernel
theorem dX1_comeOver_2 : decode cX1_comeOver 2 = .ok (.putfield 9, 3) := by decide +kernel
theorem dX1_comeOver_5 : decode cX1_comeOver 5 = .ok (.aload_n 0, 1) := by decide +kernel
theorem dX1_comeOver_6 : decode cX1_comeOver 6 = .ok (.iload_n 2, 1) := by decide +kernel
theorem dX1_comeOver_7 : decode cX1_comeOver 7 = .ok (.putfield 15, 3) := by decide +kernel
theorem dX1_comeOver_10 : decode cX1_comeOver 10 = .ok (.aload_n 0, 1) := by decide +kernel
theorem dX1_comeOver_11 : decode cX1_comeOver 11 = .ok (.iload_n 3, 1) := by decide +kernel
theorem dX1_comeOver_12 : decode cX1_comeOver 12 = .ok (.putfield 18, 3) := by decide +kernel
theorem dX1_comeOver_15 : decode cX1_comeOver 15 = .ok (.aload_n 0, 1) := by decide +kernel
theorem dX1_comeOver_16 : decode cX1_comeOver 16 = .ok (.invokevirtual 33, 3) := by decide +kernel
theorem dX1_comeOver_19 : decode cX1_comeOver 19 = .ok (.return_, 1) := by decide +kernel
theorem dX1_hasTitle_0 : decode cX1_hasTitle 0 = .ok (.aload_n 0, 1) := by decide +kernel
theorem dX1_hasTitle_1 : decode cX1_hasTitle 1 = .ok (.getfield 21, 3) := by decide +kernel
theorem dX1_hasTitle_4 : decode cX1_hasTitle 4 = .ok (.iconst (-1), 1) := by decide +kernel
theorem dX1_hasTitle_5 : decode cX1_hasTitle 5 = .ok (.if_icmp .eq 7, 3) := by decide +kernel
theorem dX1_hasTitle_8 : decode cX1_hasTitle 8 = .ok (.iconst 1, 1) := by decide +kernel
theorem dX1_hasTitle_9 : decode cX1_hasTitle 9 = .ok (.goto 4, 3) := by decide +kernel
theorem dX1_hasTitle_12 : decode cX1_hasTitle 12 = .ok (.iconst 0, 1) := by decide +kernel
theorem dX1_hasTitle_13 : decode cX1_hasTitle 13 = .ok (.ireturn, 1) := by decide +kernel
theorem dX1_isPledged_0 : decode cX1_isPledged 0 = .ok (.aload_n 0, 1) := by decide +kernel
theorem dX1_isPledged_1 : decode cX1_isPledged 1 = .ok (.getfield 27, 3) := by decide +kernel
theorem dX1_isPledged_4 : decode cX1_isPledged 4 = .ok (.iconst (-1), 1) := by decide +kernel
theorem dX1_isPledged_5 : decode cX1_isPledged 5 = .ok (.if_icmp .eq 7, 3) := by decide +kernel
theorem dX1_isPledged_8 : decode cX1_isPledged 8 = .ok (.iconst 1, 1) := by decide +kernel
theorem dX1_isPledged_9 : decode cX1_isPledged 9 = .ok (.goto 4, 3) := by decide +kernel
theorem dX1_isPledged_12 : decode cX1_isPledged 12 = .ok (.iconst 0, 1) := by decide +kernel
theorem dX1_isPledged_13 : decode cX1_isPledged 13 = .ok (.ireturn, 1) := by decide +kernel
theorem dX1_hasTitleForOtherShape_0 : decode cX1_hasTitleForOtherShape 0 = .ok (.aload_n 0, 1) := by decide +kernel
theorem dX1_hasTitleForOtherShape_1 : decode cX1_hasTitleForOtherShape 1 = .ok (.invokevirtual 36, 3) := by decide +kernel
theorem dX1_hasTitleForOtherShape_4 : decode cX1_hasTitleForOtherShape 4 = .ok (.ifCond .eq 18, 3) := by decide +kernel
theorem dX1_hasTitleForOtherShape_7 : decode cX1_hasTitleForOtherShape 7 = .ok (.aload_n 0, 1) := by decide +kernel
theorem dX1_hasTitleForOtherShape_8 : decode cX1_hasTitleForOtherShape 8 = .ok (.getfield 24, 3) := by decide +kernel
theorem dX1_hasTitleForOtherShape_11 : decode cX1_hasTitleForOtherShape 11 = .ok (.aload_n 0, 1) := by decide +kernel
theorem dX1_hasTitleForOtherShape_12 : decode cX1_hasTitleForOtherShape 12 = .ok (.getfield 15, 3) := by decide +kernel
theorem dX1_hasTitleForOtherShape_15 : decode cX1_hasTitleForOtherShape 15 = .ok (.if_icmp .eq 7, 3) := by decide +kernel
theorem dX1_hasTitleForOtherShape_18 : decode cX1_hasTitleForOtherShape 18 = .ok (.iconst 1, 1) := by decide +kernel
theorem dX1_hasTitleForOtherShape_19 : decode cX1_hasTitleForOtherShape 19 = .ok (.goto 4, 3) := by decide +kernel
theorem dX1_hasTitleForOtherShape_22 : decode cX1_hasTitleForOtherShape 22 = .ok (.iconst 0, 1) := by decide +kernel
theorem dX1_hasTitleForOtherShape_23 : decode cX1_hasTitleForOtherShape 23 = .ok (.ireturn, 1) := by decide +kernel
theorem dX1_entitle_0 : decode cX1_entitle 0 = .ok (.aload_n 0, 1) := by decide +kernel
theorem dX1_entitle_1 : decode cX1_entitle 1 = .ok (.iload_n 1, 1) := by decide +kernel
theorem dX1_entitle_2 : decode cX1_entitle 2 = .ok (.putfield 21, 3) := by decide +kernel
theorem dX1_entitle_5 : decode cX1_entitle 5 = .ok (.aload_n 0, 1) := by decide +kernel
theorem dX1_entitle_6 : decode cX1_entitle 6 = .ok (.aload_n 0, 1) := by decide +kernel
theorem dX1_entitle_7 : decode cX1_entitle 7 = .ok (.getfield 15, 3) := by decide +kernel
theorem dX1_entitle_10 : decode cX1_entitle 10 = .ok (.putfield 24, 3) := by decide +kernel
theorem dX1_entitle_13 : decode cX1_entitle 13 = .ok (.aload_n 0, 1) := by decide +kernel
theorem dX1_entitle_14 : decode cX1_entitle 14 = .ok (.invokevirtual 40, 3) := by decide +kernel
theorem dX1_entitle_17 : decode cX1_entitle 17 = .ok (.return_, 1) := by decide +kernel
theorem dX1_loseTitle_0 : decode cX1_loseTitle 0 = .ok (.aload_n 0, 1) := by decide +kernel
theorem dX1_loseTitle_1 : decode cX1_loseTitle 1 = .ok (.iconst (-1), 1) := by decide +kernel
theorem dX1_loseTitle_2 : decode cX1_loseTitle 2 = .ok (.putfield 21, 3) := by decide +kernel
theorem dX1_loseTitle_5 : decode cX1_loseTitle 5 = .ok (.aload_n 0, 1) := by decide +kernel
theorem dX1_loseTitle_6 : decode cX1_loseTitle 6 = .ok (.iconst (-1), 1) := by decide +kernel
theorem dX1_loseTitle_7 : decode cX1_loseTitle 7 = .ok (.putfield 24, 3) := by decide +kernel
theorem dX1_loseTitle_10 : decode cX1_loseTitle 10 = .ok (.aload_n 0, 1) := by decide +kernel
theorem dX1_loseTitle_11 : decode cX1_loseTitle 11 = .ok (.invokevirtual 40, 3) := by decide +kernel
theorem dX1_loseTitle_14 : decode cX1_loseTitle 14 = .ok (.return_, 1) := by decide +kernel
theorem dX1_pledgeTo_0 : decode cX1_pledgeTo 0 = .ok (.aload_n 0, 1) := by decide +kernel
theorem dX1_pledgeTo_1 : decode cX1_pledgeTo 1 = .ok (.iload_n 1, 1) := by decide +kernel
theorem dX1_pledgeTo_2 : decode cX1_pledgeTo 2 = .ok (.putfield 27, 3) := by decide +kernel
theorem dX1_pledgeTo_5 : decode cX1_pledgeTo 5 = .ok (.aload_n 0, 1) := by decide +kernel
theorem dX1_pledgeTo_6 : decode cX1_pledgeTo 6 = .ok (.aload_n 0, 1) := by decide +kernel
theorem dX1_pledgeTo_7 : decode cX1_pledgeTo 7 = .ok (.getfield 18, 3) := by decide +kernel
theorem dX1_pledgeTo_10 : decode cX1_pledgeTo 10 = .ok (.putfield 30, 3) := by decide +kernel
theorem dX1_pledgeTo_13 : decode cX1_pledgeTo 13 = .ok (.return_, 1) := by decide +kernel
theorem dX1_endPledge_0 : decode cX1_endPledge 0 = .ok (.aload_n 0, 1) := by decide +kernel
theorem dX1_endPledge_1 : decode cX1_endPledge 1 = .ok (.iconst (-1), 1) := by decide +kernel
theorem dX1_endPledge_2 : decode cX1_endPledge 2 = .ok (.putfield 27, 3) := by decide +kernel
theorem dX1_endPledge_5 : decode cX1_endPledge 5 = .ok (.aload_n 0, 1) := by decide +kernel
theorem dX1_endPledge_6 : decode cX1_endPledge 6 = .ok (.iconst 0, 1) := by decide +kernel
theorem dX1_endPledge_7 : decode cX1_endPledge 7 = .ok (.putfield 30, 3) := by decide +kernel
theorem dX1_endPledge_10 : decode cX1_endPledge 10 = .ok (.return_, 1) := by decide +kernel
theorem dX1_loan_0 : decode cX1_loan 0 = .ok (.iconst 2, 1) := by decide +kernel
theorem dX1_loan_1 : decode cX1_loan 1 = .ok (.aload_n 0, 1) := by decide +kernel
theorem dX1_loan_2 : decode cX1_loan 2 = .ok (.getfield 18, 3) := by decide +kernel
theorem dX1_loan_5 : decode cX1_loan 5 = .ok (.imul, 1) := by decide +kernel
theorem dX1_loan_6 : decode cX1_loan 6 = .ok (.ireturn, 1) := by decide +kernel
theorem dX1_redemption_0 : decode cX1_redemption 0 = .ok (.aload_n 0, 1) := by decide +kernel
theorem dX1_redemption_1 : decode cX1_redemption 1 = .ok (.invokevirtual 43, 3) := by decide +kernel
theorem dX1_redemption_4 : decode cX1_redemption 4 = .ok (.ifCond .eq 14, 3) := by decide +kernel
theorem dX1_redemption_7 : decode cX1_redemption 7 = .ok (.iconst 2, 1) := by decide +kernel
theorem dX1_redemption_8 : decode cX1_redemption 8 = .ok (.aload_n 0, 1) := by decide +kernel
theorem dX1_redemption_9 : decode cX1_redemption 9 = .ok (.getfield 30, 3) := by decide +kernel
theorem dX1_redemption_12 : decode cX1_redemption 12 = .ok (.imul, 1) := by decide +kernel
theorem dX1_redemption_13 : decode cX1_redemption 13 = .ok (.iconst 1, 1) := by decide +kernel
theorem dX1_redemption_14 : decode cX1_redemption 14 = .ok (.iadd, 1) := by decide +kernel
theorem dX1_redemption_15 : decode cX1_redemption 15 = .ok (.goto 4, 3) := by decide +kernel
theorem dX1_redemption_18 : decode cX1_redemption 18 = .ok (.iconst 0, 1) := by decide +kernel
theorem dX1_redemption_19 : decode cX1_redemption 19 = .ok (.ireturn, 1) := by decide +kernel
theorem dX1_drift_0 : decode cX1_drift 0 = .ok (.aload_n 0, 1) := by decide +kernel
theorem dX1_drift_1 : decode cX1_drift 1 = .ok (.aload_n 0, 1) := by decide +kernel
theorem dX1_drift_2 : decode cX1_drift 2 = .ok (.iload_n 1, 1) := by decide +kernel
theorem dX1_drift_3 : decode cX1_drift 3 = .ok (.invokevirtual 46, 3) := by decide +kernel
theorem dX1_drift_6 : decode cX1_drift 6 = .ok (.putfield 9, 3) := by decide +kernel
theorem dX1_drift_9 : decode cX1_drift 9 = .ok (.aload_n 0, 1) := by decide +kernel
theorem dX1_drift_10 : decode cX1_drift 10 = .ok (.aload_n 0, 1) := by decide +kernel
theorem dX1_drift_11 : decode cX1_drift 11 = .ok (.getfield 15, 3) := by decide +kernel
theorem dX1_drift_14 : decode cX1_drift 14 = .ok (.iload_n 1, 1) := by decide +kernel
theorem dX1_drift_15 : decode cX1_drift 15 = .ok (.invokestatic 50, 3) := by decide +kernel
theorem dX1_drift_18 : decode cX1_drift 18 = .ok (.iadd, 1) := by decide +kernel
theorem dX1_drift_19 : decode cX1_drift 19 = .ok (.bipush 6, 2) := by decide +kernel
theorem dX1_drift_21 : decode cX1_drift 21 = .ok (.invokestatic 55, 3) := by decide +kernel
theorem dX1_drift_24 : decode cX1_drift 24 = .ok (.putfield 15, 3) := by decide +kernel
theorem dX1_drift_27 : decode cX1_drift 27 = .ok (.return_, 1) := by decide +kernel
theorem dX1_vineyardAfter_0 : decode cX1_vineyardAfter 0 = .ok (.aload_n 0, 1) := by decide +kernel
theorem dX1_vineyardAfter_1 : decode cX1_vineyardAfter 1 = .ok (.getfield 9, 3) := by decide +kernel
theorem dX1_vineyardAfter_4 : decode cX1_vineyardAfter 4 = .ok (.iload_n 1, 1) := by decide +kernel
theorem dX1_vineyardAfter_5 : decode cX1_vineyardAfter 5 = .ok (.iadd, 1) := by decide +kernel
theorem dX1_vineyardAfter_6 : decode cX1_vineyardAfter 6 = .ok (.bipush 6, 2) := by decide +kernel
theorem dX1_vineyardAfter_8 : decode cX1_vineyardAfter 8 = .ok (.invokestatic 55, 3) := by decide +kernel
theorem dX1_vineyardAfter_11 : decode cX1_vineyardAfter 11 = .ok (.ireturn, 1) := by decide +kernel
theorem dX1_windByTrying_0 : decode cX1_windByTrying 0 = .ok (.iconst 0, 1) := by decide +kernel
theorem dX1_windByTrying_1 : decode cX1_windByTrying 1 = .ok (.istore_n 2, 1) := by decide +kernel
theorem dX1_windByTrying_2 : decode cX1_windByTrying 2 = .ok (.iload_n 2, 1) := by decide +kernel
theorem dX1_windByTrying_3 : decode cX1_windByTrying 3 = .ok (.iconst 3, 1) := by decide +kernel
theorem dX1_windByTrying_4 : decode cX1_windByTrying 4 = .ok (.if_icmp .gt 33, 3) := by decide +kernel
theorem dX1_windByTrying_7 : decode cX1_windByTrying 7 = .ok (.aload_n 0, 1) := by decide +kernel
theorem dX1_windByTrying_8 : decode cX1_windByTrying 8 = .ok (.iload_n 2, 1) := by decide +kernel
theorem dX1_windByTrying_9 : decode cX1_windByTrying 9 = .ok (.invokevirtual 46, 3) := by decide +kernel
theorem dX1_windByTrying_12 : decode cX1_windByTrying 12 = .ok (.iload_n 1, 1) := by decide +kernel
theorem dX1_windByTrying_13 : decode cX1_windByTrying 13 = .ok (.if_icmp .ne 5, 3) := by decide +kernel
theorem dX1_windByTrying_16 : decode cX1_windByTrying 16 = .ok (.iload_n 2, 1) := by decide +kernel
theorem dX1_windByTrying_17 : decode cX1_windByTrying 17 = .ok (.ireturn, 1) := by decide +kernel
theorem dX1_windByTrying_18 : decode cX1_windByTrying 18 = .ok (.aload_n 0, 1) := by decide +kernel
theorem dX1_windByTrying_19 : decode cX1_windByTrying 19 = .ok (.iload_n 2, 1) := by decide +kernel
theorem dX1_windByTrying_20 : decode cX1_windByTrying 20 = .ok (.ineg, 1) := by decide +kernel
theorem dX1_windByTrying_21 : decode cX1_windByTrying 21 = .ok (.invokevirtual 46, 3) := by decide +kernel
theorem dX1_windByTrying_24 : decode cX1_windByTrying 24 = .ok (.iload_n 1, 1) := by decide +kernel
theorem dX1_windByTrying_25 : decode cX1_windByTrying 25 = .ok (.if_icmp .ne 6, 3) := by decide +kernel
theorem dX1_windByTrying_28 : decode cX1_windByTrying 28 = .ok (.iload_n 2, 1) := by decide +kernel
theorem dX1_windByTrying_29 : decode cX1_windByTrying 29 = .ok (.ineg, 1) := by decide +kernel
theorem dX1_windByTrying_30 : decode cX1_windByTrying 30 = .ok (.ireturn, 1) := by decide +kernel
theorem dX1_windByTrying_31 : decode cX1_windByTrying 31 = .ok (.iinc 2 1, 3) := by decide +kernel
theorem dX1_windByTrying_34 : decode cX1_windByTrying 34 = .ok (.goto (-32), 3) := by decide +kernel
theorem dX1_windByTrying_37 : decode cX1_windByTrying 37 = .ok (.iconst 0, 1) := by decide +kernel
theorem dX1_windByTrying_38 : decode cX1_windByTrying 38 = .ok (.ireturn, 1) := by decide +kernel
theorem dX1_windByDistance_0 : decode cX1_windByDistance 0 = .ok (.iload_n 1, 1) := by decide +kernel
theorem dX1_windByDistance_1 : decode cX1_windByDistance 1 = .ok (.aload_n 0, 1) := by decide +kernel
theorem dX1_windByDistance_2 : decode cX1_windByDistance 2 = .ok (.getfield 9, 3) := by decide +kernel
theorem dX1_windByDistance_5 : decode cX1_windByDistance 5 = .ok (.isub, 1) := by decide +kernel
theorem dX1_windByDistance_6 : decode cX1_windByDistance 6 = .ok (.bipush 6, 2) := by decide +kernel
theorem dX1_windByDistance_8 : decode cX1_windByDistance 8 = .ok (.invokestatic 55, 3) := by decide +kernel
theorem dX1_windByDistance_11 : decode cX1_windByDistance 11 = .ok (.istore_n 2, 1) := by decide +kernel
theorem dX1_windByDistance_12 : decode cX1_windByDistance 12 = .ok (.iload_n 2, 1) := by decide +kernel
theorem dX1_windByDistance_13 : decode cX1_windByDistance 13 = .ok (.iconst 3, 1) := by decide +kernel
theorem dX1_windByDistance_14 : decode cX1_windByDistance 14 = .ok (.if_icmp .gt 7, 3) := by decide +kernel
theorem dX1_windByDistance_17 : decode cX1_windByDistance 17 = .ok (.iload_n 2, 1) := by decide +kernel
theorem dX1_windByDistance_18 : decode cX1_windByDistance 18 = .ok (.goto 7, 3) := by decide +kernel
theorem dX1_windByDistance_21 : decode cX1_windByDistance 21 = .ok (.iload_n 2, 1) := by decide +kernel
theorem dX1_windByDistance_22 : decode cX1_windByDistance 22 = .ok (.bipush 6, 2) := by decide +kernel
theorem dX1_windByDistance_24 : decode cX1_windByDistance 24 = .ok (.isub, 1) := by decide +kernel
theorem dX1_windByDistance_25 : decode cX1_windByDistance 25 = .ok (.ireturn, 1) := by decide +kernel
theorem dX1_isAheadOf_0 : decode cX1_isAheadOf 0 = .ok (.aload_n 0, 1) := by decide +kernel
theorem dX1_isAheadOf_1 : decode cX1_isAheadOf 1 = .ok (.getfield 18, 3) := by decide +kernel
theorem dX1_isAheadOf_4 : decode cX1_isAheadOf 4 = .ok (.aload_n 1, 1) := by decide +kernel
theorem dX1_isAheadOf_5 : decode cX1_isAheadOf 5 = .ok (.getfield 18, 3) := by decide +kernel
theorem dX1_isAheadOf_8 : decode cX1_isAheadOf 8 = .ok (.if_icmp .eq 20, 3) := by decide +kernel
theorem dX1_isAheadOf_11 : decode cX1_isAheadOf 11 = .ok (.aload_n 0, 1) := by decide +kernel
theorem dX1_isAheadOf_12 : decode cX1_isAheadOf 12 = .ok (.getfield 18, 3) := by decide +kernel
theorem dX1_isAheadOf_15 : decode cX1_isAheadOf 15 = .ok (.aload_n 1, 1) := by decide +kernel
theorem dX1_isAheadOf_16 : decode cX1_isAheadOf 16 = .ok (.getfield 18, 3) := by decide +kernel
theorem dX1_isAheadOf_19 : decode cX1_isAheadOf 19 = .ok (.if_icmp .le 7, 3) := by decide +kernel
theorem dX1_isAheadOf_22 : decode cX1_isAheadOf 22 = .ok (.iconst 1, 1) := by decide +kernel
theorem dX1_isAheadOf_23 : decode cX1_isAheadOf 23 = .ok (.goto 4, 3) := by decide +kernel
theorem dX1_isAheadOf_26 : decode cX1_isAheadOf 26 = .ok (.iconst 0, 1) := by decide +kernel
theorem dX1_isAheadOf_27 : decode cX1_isAheadOf 27 = .ok (.ireturn, 1) := by decide +kernel
theorem dX1_isAheadOf_28 : decode cX1_isAheadOf 28 = .ok (.aload_n 0, 1) := by decide +kernel
theorem dX1_isAheadOf_29 : decode cX1_isAheadOf 29 = .ok (.invokevirtual 36, 3) := by decide +kernel
theorem dX1_isAheadOf_32 : decode cX1_isAheadOf 32 = .ok (.ifCond .eq 14, 3) := by decide +kernel
theorem dX1_isAheadOf_35 : decode cX1_isAheadOf 35 = .ok (.aload_n 1, 1) := by decide +kernel
theorem dX1_isAheadOf_36 : decode cX1_isAheadOf 36 = .ok (.invokevirtual 36, 3) := by decide +kernel
theorem dX1_isAheadOf_39 : decode cX1_isAheadOf 39 = .ok (.ifCond .ne 7, 3) := by decide +kernel
theorem dX1_isAheadOf_42 : decode cX1_isAheadOf 42 = .ok (.iconst 1, 1) := by decide +kernel
theorem dX1_isAheadOf_43 : decode cX1_isAheadOf 43 = .ok (.goto 4, 3) := by decide +kernel
theorem dX1_isAheadOf_46 : decode cX1_isAheadOf 46 = .ok (.iconst 0, 1) := by decide +kernel
theorem dX1_isAheadOf_47 : decode cX1_isAheadOf 47 = .ok (.ireturn, 1) := by decide +kernel
theorem dX1_tell_0 : decode cX1_tell 0 = .ok (.iload_n 1, 1) := by decide +kernel
theorem dX1_tell_1 : decode cX1_tell 1 = .ok (.tableswitch 69 0 5 #[39, 44, 49, 54, 59, 64], 39) := by decide +kernel
theorem dX1_tell_40 : decode cX1_tell 40 = .ok (.aload_n 0, 1) := by decide +kernel
theorem dX1_tell_41 : decode cX1_tell 41 = .ok (.getfield 9, 3) := by decide +kernel
theorem dX1_tell_44 : decode cX1_tell 44 = .ok (.ireturn, 1) := by decide +kernel
theorem dX1_tell_45 : decode cX1_tell 45 = .ok (.aload_n 0, 1) := by decide +kernel
theorem dX1_tell_46 : decode cX1_tell 46 = .ok (.getfield 15, 3) := by decide +kernel
theorem dX1_tell_49 : decode cX1_tell 49 = .ok (.ireturn, 1) := by decide +kernel
theorem dX1_tell_50 : decode cX1_tell 50 = .ok (.aload_n 0, 1) := by decide +kernel
theorem dX1_tell_51 : decode cX1_tell 51 = .ok (.getfield 18, 3) := by decide +kernel
theorem dX1_tell_54 : decode cX1_tell 54 = .ok (.ireturn, 1) := by decide +kernel
theorem dX1_tell_55 : decode cX1_tell 55 = .ok (.aload_n 0, 1) := by decide +kernel
theorem dX1_tell_56 : decode cX1_tell 56 = .ok (.getfield 21, 3) := by decide +kernel
theorem dX1_tell_59 : decode cX1_tell 59 = .ok (.ireturn, 1) := by decide +kernel
theorem dX1_tell_60 : decode cX1_tell 60 = .ok (.aload_n 0, 1) := by decide +kernel
theorem dX1_tell_61 : decode cX1_tell 61 = .ok (.getfield 24, 3) := by decide +kernel
theorem dX1_tell_64 : decode cX1_tell 64 = .ok (.ireturn, 1) := by decide +kernel
theorem dX1_tell_65 : decode cX1_tell 65 = .ok (.aload_n 0, 1) := by decide +kernel
theorem dX1_tell_66 : decode cX1_tell 66 = .ok (.getfield 27, 3) := by decide +kernel
theorem dX1_tell_69 : decode cX1_tell 69 = .ok (.ireturn, 1) := by decide +kernel
theorem dX1_tell_70 : decode cX1_tell 70 = .ok (.aload_n 0, 1) := by decide +kernel
theorem dX1_tell_71 : decode cX1_tell 71 = .ok (.invokevirtual 59, 3) := by decide +kernel
theorem dX1_tell_74 : decode cX1_tell 74 = .ok (.ireturn, 1) := by decide +kernel
theorem dX1_writeTo_0 : decode cX1_writeTo 0 = .ok (.aload_n 1, 1) := by decide +kernel
theorem dX1_writeTo_1 : decode cX1_writeTo 1 = .ok (.bipush 64, 2) := by decide +kernel
theorem dX1_writeTo_3 : decode cX1_writeTo 3 = .ok (.invokevirtual 63, 3) := by decide +kernel
theorem dX1_writeTo_6 : decode cX1_writeTo 6 = .ok (.aload_n 0, 1) := by decide +kernel
theorem dX1_writeTo_7 : decode cX1_writeTo 7 = .ok (.getfield 9, 3) := by decide +kernel
theorem dX1_writeTo_10 : decode cX1_writeTo 10 = .ok (.invokevirtual 69, 3) := by decide +kernel
theorem dX1_writeTo_13 : decode cX1_writeTo 13 = .ok (.bipush 58, 2) := by decide +kernel
theorem dX1_writeTo_15 : decode cX1_writeTo 15 = .ok (.invokevirtual 63, 3) := by decide +kernel
theorem dX1_writeTo_18 : decode cX1_writeTo 18 = .ok (.aload_n 0, 1) := by decide +kernel
theorem dX1_writeTo_19 : decode cX1_writeTo 19 = .ok (.getfield 15, 3) := by decide +kernel
theorem dX1_writeTo_22 : decode cX1_writeTo 22 = .ok (.invokevirtual 69, 3) := by decide +kernel
theorem dX1_writeTo_25 : decode cX1_writeTo 25 = .ok (.bipush 47, 2) := by decide +kernel
theorem dX1_writeTo_27 : decode cX1_writeTo 27 = .ok (.invokevirtual 63, 3) := by decide +kernel
theorem dX1_writeTo_30 : decode cX1_writeTo 30 = .ok (.aload_n 0, 1) := by decide +kernel
theorem dX1_writeTo_31 : decode cX1_writeTo 31 = .ok (.getfield 18, 3) := by decide +kernel
theorem dX1_writeTo_34 : decode cX1_writeTo 34 = .ok (.invokevirtual 69, 3) := by decide +kernel
theorem dX1_writeTo_37 : decode cX1_writeTo 37 = .ok (.pop, 1) := by decide +kernel
theorem dX1_writeTo_38 : decode cX1_writeTo 38 = .ok (.aload_n 0, 1) := by decide +kernel
theorem dX1_writeTo_39 : decode cX1_writeTo 39 = .ok (.invokevirtual 36, 3) := by decide +kernel
theorem dX1_writeTo_42 : decode cX1_writeTo 42 = .ok (.ifCond .eq 17, 3) := by decide +kernel
theorem dX1_writeTo_45 : decode cX1_writeTo 45 = .ok (.aload_n 1, 1) := by decide +kernel
theorem dX1_writeTo_46 : decode cX1_writeTo 46 = .ok (.bipush 61, 2) := by decide +kernel
theorem dX1_writeTo_48 : decode cX1_writeTo 48 = .ok (.invokevirtual 63, 3) := by decide +kernel
theorem dX1_writeTo_51 : decode cX1_writeTo 51 = .ok (.aload_n 0, 1) := by decide +kernel
theorem dX1_writeTo_52 : decode cX1_writeTo 52 = .ok (.getfield 21, 3) := by decide +kernel
theorem dX1_writeTo_55 : decode cX1_writeTo 55 = .ok (.invokevirtual 69, 3) := by decide +kernel
theorem dX1_writeTo_58 : decode cX1_writeTo 58 = .ok (.pop, 1) := by decide +kernel
theorem dX1_writeTo_59 : decode cX1_writeTo 59 = .ok (.aload_n 0, 1) := by decide +kernel
theorem dX1_writeTo_60 : decode cX1_writeTo 60 = .ok (.invokevirtual 72, 3) := by decide +kernel
theorem dX1_writeTo_63 : decode cX1_writeTo 63 = .ok (.ifCond .eq 10, 3) := by decide +kernel
theorem dX1_writeTo_66 : decode cX1_writeTo 66 = .ok (.aload_n 1, 1) := by decide +kernel
theorem dX1_writeTo_67 : decode cX1_writeTo 67 = .ok (.bipush 63, 2) := by decide +kernel
theorem dX1_writeTo_69 : decode cX1_writeTo 69 = .ok (.invokevirtual 63, 3) := by decide +kernel
theorem dX1_writeTo_72 : decode cX1_writeTo 72 = .ok (.pop, 1) := by decide +kernel
theorem dX1_writeTo_73 : decode cX1_writeTo 73 = .ok (.aload_n 0, 1) := by decide +kernel
theorem dX1_writeTo_74 : decode cX1_writeTo 74 = .ok (.invokevirtual 43, 3) := by decide +kernel
theorem dX1_writeTo_77 : decode cX1_writeTo 77 = .ok (.ifCond .eq 17, 3) := by decide +kernel
theorem dX1_writeTo_80 : decode cX1_writeTo 80 = .ok (.aload_n 1, 1) := by decide +kernel
theorem dX1_writeTo_81 : decode cX1_writeTo 81 = .ok (.bipush 42, 2) := by decide +kernel
theorem dX1_writeTo_83 : decode cX1_writeTo 83 = .ok (.invokevirtual 63, 3) := by decide +kernel
theorem dX1_writeTo_86 : decode cX1_writeTo 86 = .ok (.aload_n 0, 1) := by decide +kernel
theorem dX1_writeTo_87 : decode cX1_writeTo 87 = .ok (.getfield 27, 3) := by decide +kernel
theorem dX1_writeTo_90 : decode cX1_writeTo 90 = .ok (.invokevirtual 69, 3) := by decide +kernel
theorem dX1_writeTo_93 : decode cX1_writeTo 93 = .ok (.pop, 1) := by decide +kernel
theorem dX1_writeTo_94 : decode cX1_writeTo 94 = .ok (.return_, 1) := by decide +kernel
theorem dX9_isWithin_0 : decode cX9_isWithin 0 = .ok (.iload_n 0, 1) := by decide +kernel
theorem dX9_isWithin_1 : decode cX9_isWithin 1 = .ok (.ifCond .lt 12, 3) := by decide +kernel
theorem dX9_isWithin_4 : decode cX9_isWithin 4 = .ok (.iload_n 0, 1) := by decide +kernel
theorem dX9_isWithin_5 : decode cX9_isWithin 5 = .ok (.iload_n 1, 1) := by decide +kernel
theorem dX9_isWithin_6 : decode cX9_isWithin 6 = .ok (.if_icmp .ge 7, 3) := by decide +kernel
theorem dX9_isWithin_9 : decode cX9_isWithin 9 = .ok (.iconst 1, 1) := by decide +kernel
theorem dX9_isWithin_10 : decode cX9_isWithin 10 = .ok (.goto 4, 3) := by decide +kernel
theorem dX9_isWithin_13 : decode cX9_isWithin 13 = .ok (.iconst 0, 1) := by decide +kernel
theorem dX9_isWithin_14 : decode cX9_isWithin 14 = .ok (.ireturn, 1) := by decide +kernel
theorem dX9_isOwner_0 : decode cX9_isOwner 0 = .ok (.iload_n 0, 1) := by decide +kernel
theorem dX9_isOwner_1 : decode cX9_isOwner 1 = .ok (.ifCond .lt 12, 3) := by decide +kernel
theorem dX9_isOwner_4 : decode cX9_isOwner 4 = .ok (.iload_n 0, 1) := by decide +kernel
theorem dX9_isOwner_5 : decode cX9_isOwner 5 = .ok (.iconst 4, 1) := by decide +kernel
theorem dX9_isOwner_6 : decode cX9_isOwner 6 = .ok (.if_icmp .ge 7, 3) := by decide +kernel
theorem dX9_isOwner_9 : decode cX9_isOwner 9 = .ok (.iconst 1, 1) := by decide +kernel
theorem dX9_isOwner_10 : decode cX9_isOwner 10 = .ok (.goto 4, 3) := by decide +kernel
theorem dX9_isOwner_13 : decode cX9_isOwner 13 = .ok (.iconst 0, 1) := by decide +kernel
theorem dX9_isOwner_14 : decode cX9_isOwner 14 = .ok (.ireturn, 1) := by decide +kernel
theorem dX9_isVineyard_0 : decode cX9_isVineyard 0 = .ok (.iload_n 0, 1) := by decide +kernel
theorem dX9_isVineyard_1 : decode cX9_isVineyard 1 = .ok (.ifCond .lt 13, 3) := by decide +kernel
theorem dX9_isVineyard_4 : decode cX9_isVineyard 4 = .ok (.iload_n 0, 1) := by decide +kernel
theorem dX9_isVineyard_5 : decode cX9_isVineyard 5 = .ok (.bipush 6, 2) := by decide +kernel
theorem dX9_isVineyard_7 : decode cX9_isVineyard 7 = .ok (.if_icmp .ge 7, 3) := by decide +kernel
theorem dX9_isVineyard_10 : decode cX9_isVineyard 10 = .ok (.iconst 1, 1) := by decide +kernel
theorem dX9_isVineyard_11 : decode cX9_isVineyard 11 = .ok (.goto 4, 3) := by decide +kernel
theorem dX9_isVineyard_14 : decode cX9_isVineyard 14 = .ok (.iconst 0, 1) := by decide +kernel
theorem dX9_isVineyard_15 : decode cX9_isVineyard 15 = .ok (.ireturn, 1) := by decide +kernel
theorem dX9_copyNumbers_0 : decode cX9_copyNumbers 0 = .ok (.aload_n 0, 1) := by decide +kernel
theorem dX9_copyNumbers_1 : decode cX9_copyNumbers 1 = .ok (.iconst 0, 1) := by decide +kernel
theorem dX9_copyNumbers_2 : decode cX9_copyNumbers 2 = .ok (.aload_n 1, 1) := by decide +kernel
theorem dX9_copyNumbers_3 : decode cX9_copyNumbers 3 = .ok (.iconst 0, 1) := by decide +kernel
theorem dX9_copyNumbers_4 : decode cX9_copyNumbers 4 = .ok (.aload_n 0, 1) := by decide +kernel
theorem dX9_copyNumbers_5 : decode cX9_copyNumbers 5 = .ok (.arraylength, 1) := by decide +kernel
theorem dX9_copyNumbers_6 : decode cX9_copyNumbers 6 = .ok (.aload_n 1, 1) := by decide +kernel
theorem dX9_copyNumbers_7 : decode cX9_copyNumbers 7 = .ok (.arraylength, 1) := by decide +kernel
theorem dX9_copyNumbers_8 : decode cX9_copyNumbers 8 = .ok (.invokestatic 345, 3) := by decide +kernel
theorem dX9_copyNumbers_11 : decode cX9_copyNumbers 11 = .ok (.invokestatic 350, 3) := by decide +kernel
theorem dX9_copyNumbers_14 : decode cX9_copyNumbers 14 = .ok (.return_, 1) := by decide +kernel
theorem dJ9_floorMod_7cf53_0 : decode cJ9_floorMod_7cf53 0 = .ok (.iload_n 0, 1) := by decide +kernel
theorem dJ9_floorMod_7cf53_1 : decode cJ9_floorMod_7cf53 1 = .ok (.iload_n 1, 1) := by decide +kernel
theorem dJ9_floorMod_7cf53_2 : decode cJ9_floorMod_7cf53 2 = .ok (.irem, 1) := by decide +kernel
theorem dJ9_floorMod_7cf53_3 : decode cJ9_floorMod_7cf53 3 = .ok (.istore_n 2, 1) := by decide +kernel
theorem dJ9_floorMod_7cf53_4 : decode cJ9_floorMod_7cf53 4 = .ok (.iload_n 0, 1) := by decide +kernel
theorem dJ9_floorMod_7cf53_5 : decode cJ9_floorMod_7cf53 5 = .ok (.iload_n 1, 1) := by decide +kernel
theorem dJ9_floorMod_7cf53_6 : decode cJ9_floorMod_7cf53 6 = .ok (.ixor, 1) := by decide +kernel
theorem dJ9_floorMod_7cf53_7 : decode cJ9_floorMod_7cf53 7 = .ok (.ifCond .ge 11, 3) := by decide +kernel
theorem dJ9_floorMod_7cf53_10 : decode cJ9_floorMod_7cf53 10 = .ok (.iload_n 2, 1) := by decide +kernel
theorem dJ9_floorMod_7cf53_11 : decode cJ9_floorMod_7cf53 11 = .ok (.ifCond .eq 7, 3) := by decide +kernel
theorem dJ9_floorMod_7cf53_14 : decode cJ9_floorMod_7cf53 14 = .ok (.iload_n 2, 1) := by decide +kernel
theorem dJ9_floorMod_7cf53_15 : decode cJ9_floorMod_7cf53 15 = .ok (.iload_n 1, 1) := by decide +kernel
theorem dJ9_floorMod_7cf53_16 : decode cJ9_floorMod_7cf53 16 = .ok (.iadd, 1) := by decide +kernel
theorem dJ9_floorMod_7cf53_17 : decode cJ9_floorMod_7cf53 17 = .ok (.ireturn, 1) := by decide +kernel
theorem dJ9_floorMod_7cf53_18 : decode cJ9_floorMod_7cf53 18 = .ok (.iload_n 2, 1) := by decide +kernel
theorem dJ9_floorMod_7cf53_19 : decode cJ9_floorMod_7cf53 19 = .ok (.ireturn, 1) := by decide +kernel
