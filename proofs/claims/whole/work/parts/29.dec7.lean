theorem dL_cloud_0 : decode cL_cloud 0 = .ok (.aload 4, 2) := by decide +kernel
theorem dL_cloud_2 : decode cL_cloud 2 = .ok (.iconst 0, 1) := by decide +kernel
theorem dL_cloud_3 : decode cL_cloud 3 = .ok (.aload_n 0, 1) := by decide +kernel
theorem dL_cloud_4 : decode cL_cloud 4 = .ok (.iload_n 1, 1) := by decide +kernel
theorem dL_cloud_5 : decode cL_cloud 5 = .ok (.iload_n 2, 1) := by decide +kernel
theorem dL_cloud_6 : decode cL_cloud 6 = .ok (.iload_n 3, 1) := by decide +kernel
theorem dL_cloud_7 : decode cL_cloud 7 = .ok (.invokevirtual 7, 3) := by decide +kernel
theorem dL_cloud_10 : decode cL_cloud 10 = .ok (.i2l, 1) := by decide +kernel
theorem dL_cloud_11 : decode cL_cloud 11 = .ok (.lastore, 1) := by decide +kernel
theorem dL_cloud_12 : decode cL_cloud 12 = .ok (.goto 7, 3) := by decide +kernel
theorem dL_cloud_15 : decode cL_cloud 15 = .ok (.astore 5, 2) := by decide +kernel
theorem dL_cloud_17 : decode cL_cloud 17 = .ok (.iconst 1, 1) := by decide +kernel
theorem dL_cloud_18 : decode cL_cloud 18 = .ok (.ireturn, 1) := by decide +kernel
theorem dL_cloud_19 : decode cL_cloud 19 = .ok (.iconst 0, 1) := by decide +kernel
theorem dL_cloud_20 : decode cL_cloud 20 = .ok (.ireturn, 1) := by decide +kernel
theorem dL_vine_0 : decode cL_vine 0 = .ok (.aload_n 3, 1) := by decide +kernel
theorem dL_vine_1 : decode cL_vine 1 = .ok (.iconst 0, 1) := by decide +kernel
theorem dL_vine_2 : decode cL_vine 2 = .ok (.aload_n 0, 1) := by decide +kernel
theorem dL_vine_3 : decode cL_vine 3 = .ok (.iload_n 1, 1) := by decide +kernel
theorem dL_vine_4 : decode cL_vine 4 = .ok (.iload_n 2, 1) := by decide +kernel
theorem dL_vine_5 : decode cL_vine 5 = .ok (.invokevirtual 15, 3) := by decide +kernel
theorem dL_vine_8 : decode cL_vine 8 = .ok (.i2l, 1) := by decide +kernel
theorem dL_vine_9 : decode cL_vine 9 = .ok (.lastore, 1) := by decide +kernel
theorem dL_vine_10 : decode cL_vine 10 = .ok (.goto 7, 3) := by decide +kernel
theorem dL_vine_13 : decode cL_vine 13 = .ok (.astore 4, 2) := by decide +kernel
theorem dL_vine_15 : decode cL_vine 15 = .ok (.iconst 1, 1) := by decide +kernel
theorem dL_vine_16 : decode cL_vine 16 = .ok (.ireturn, 1) := by decide +kernel
theorem dL_vine_17 : decode cL_vine 17 = .ok (.iconst 0, 1) := by decide +kernel
theorem dL_vine_18 : decode cL_vine 18 = .ok (.ireturn, 1) := by decide +kernel
theorem dL_title_0 : decode cL_title 0 = .ok (.aload_n 3, 1) := by decide +kernel
theorem dL_title_1 : decode cL_title 1 = .ok (.iconst 0, 1) := by decide +kernel
theorem dL_title_2 : decode cL_title 2 = .ok (.aload_n 0, 1) := by decide +kernel
theorem dL_title_3 : decode cL_title 3 = .ok (.iload_n 1, 1) := by decide +kernel
theorem dL_title_4 : decode cL_title 4 = .ok (.iload_n 2, 1) := by decide +kernel
theorem dL_title_5 : decode cL_title 5 = .ok (.invokevirtual 19, 3) := by decide +kernel
theorem dL_title_8 : decode cL_title 8 = .ok (.i2l, 1) := by decide +kernel
theorem dL_title_9 : decode cL_title 9 = .ok (.lastore, 1) := by decide +kernel
theorem dL_title_10 : decode cL_title 10 = .ok (.goto 7, 3) := by decide +kernel
theorem dL_title_13 : decode cL_title 13 = .ok (.astore 4, 2) := by decide +kernel
theorem dL_title_15 : decode cL_title 15 = .ok (.iconst 1, 1) := by decide +kernel
theorem dL_title_16 : decode cL_title 16 = .ok (.ireturn, 1) := by decide +kernel
theorem dL_title_17 : decode cL_title 17 = .ok (.iconst 0, 1) := by decide +kernel
theorem dL_title_18 : decode cL_title 18 = .ok (.ireturn, 1) := by decide +kernel
theorem dL_sell_0 : decode cL_sell 0 = .ok (.aload 4, 2) := by decide +kernel
theorem dL_sell_2 : decode cL_sell 2 = .ok (.iconst 0, 1) := by decide +kernel
theorem dL_sell_3 : decode cL_sell 3 = .ok (.aload_n 0, 1) := by decide +kernel
theorem dL_sell_4 : decode cL_sell 4 = .ok (.iload_n 1, 1) := by decide +kernel
theorem dL_sell_5 : decode cL_sell 5 = .ok (.iload_n 2, 1) := by decide +kernel
theorem dL_sell_6 : decode cL_sell 6 = .ok (.iload_n 3, 1) := by decide +kernel
theorem dL_sell_7 : decode cL_sell 7 = .ok (.invokevirtual 22, 3) := by decide +kernel
theorem dL_sell_10 : decode cL_sell 10 = .ok (.i2l, 1) := by decide +kernel
theorem dL_sell_11 : decode cL_sell 11 = .ok (.lastore, 1) := by decide +kernel
theorem dL_sell_12 : decode cL_sell 12 = .ok (.goto 7, 3) := by decide +kernel
theorem dL_sell_15 : decode cL_sell 15 = .ok (.astore 5, 2) := by decide +kernel
theorem dL_sell_17 : decode cL_sell 17 = .ok (.iconst 1, 1) := by decide +kernel
theorem dL_sell_18 : decode cL_sell 18 = .ok (.ireturn, 1) := by decide +kernel
theorem dL_sell_19 : decode cL_sell 19 = .ok (.iconst 0, 1) := by decide +kernel
theorem dL_sell_20 : decode cL_sell 20 = .ok (.ireturn, 1) := by decide +kernel
theorem dL_pledge_0 : decode cL_pledge 0 = .ok (.aload_n 3, 1) := by decide +kernel
theorem dL_pledge_1 : decode cL_pledge 1 = .ok (.iconst 0, 1) := by decide +kernel
theorem dL_pledge_2 : decode cL_pledge 2 = .ok (.aload_n 0, 1) := by decide +kernel
theorem dL_pledge_3 : decode cL_pledge 3 = .ok (.iload_n 1, 1) := by decide +kernel
theorem dL_pledge_4 : decode cL_pledge 4 = .ok (.iload_n 2, 1) := by decide +kernel
theorem dL_pledge_5 : decode cL_pledge 5 = .ok (.invokevirtual 25, 3) := by decide +kernel
theorem dL_pledge_8 : decode cL_pledge 8 = .ok (.i2l, 1) := by decide +kernel
theorem dL_pledge_9 : decode cL_pledge 9 = .ok (.lastore, 1) := by decide +kernel
theorem dL_pledge_10 : decode cL_pledge 10 = .ok (.goto 7, 3) := by decide +kernel
theorem dL_pledge_13 : decode cL_pledge 13 = .ok (.astore 4, 2) := by decide +kernel
theorem dL_pledge_15 : decode cL_pledge 15 = .ok (.iconst 1, 1) := by decide +kernel
theorem dL_pledge_16 : decode cL_pledge 16 = .ok (.ireturn, 1) := by decide +kernel
theorem dL_pledge_17 : decode cL_pledge 17 = .ok (.iconst 0, 1) := by decide +kernel
theorem dL_pledge_18 : decode cL_pledge 18 = .ok (.ireturn, 1) := by decide +kernel
theorem dL_redeem_0 : decode cL_redeem 0 = .ok (.aload_n 2, 1) := by decide +kernel
theorem dL_redeem_1 : decode cL_redeem 1 = .ok (.iconst 0, 1) := by decide +kernel
theorem dL_redeem_2 : decode cL_redeem 2 = .ok (.aload_n 0, 1) := by decide +kernel
theorem dL_redeem_3 : decode cL_redeem 3 = .ok (.iload_n 1, 1) := by decide +kernel
theorem dL_redeem_4 : decode cL_redeem 4 = .ok (.invokevirtual 28, 3) := by decide +kernel
theorem dL_redeem_7 : decode cL_redeem 7 = .ok (.i2l, 1) := by decide +kernel
theorem dL_redeem_8 : decode cL_redeem 8 = .ok (.lastore, 1) := by decide +kernel
theorem dL_redeem_9 : decode cL_redeem 9 = .ok (.goto 6, 3) := by decide +kernel
theorem dL_redeem_12 : decode cL_redeem 12 = .ok (.astore_n 3, 1) := by decide +kernel
theorem dL_redeem_13 : decode cL_redeem 13 = .ok (.iconst 1, 1) := by decide +kernel
theorem dL_redeem_14 : decode cL_redeem 14 = .ok (.ireturn, 1) := by decide +kernel
theorem dL_redeem_15 : decode cL_redeem 15 = .ok (.iconst 0, 1) := by decide +kernel
theorem dL_redeem_16 : decode cL_redeem 16 = .ok (.ireturn, 1) := by decide +kernel
theorem dL_wind_0 : decode cL_wind 0 = .ok (.aload_n 2, 1) := by decide +kernel
theorem dL_wind_1 : decode cL_wind 1 = .ok (.iconst 0, 1) := by decide +kernel
theorem dL_wind_2 : decode cL_wind 2 = .ok (.aload_n 0, 1) := by decide +kernel
theorem dL_wind_3 : decode cL_wind 3 = .ok (.iload_n 1, 1) := by decide +kernel
theorem dL_wind_4 : decode cL_wind 4 = .ok (.invokevirtual 32, 3) := by decide +kernel
theorem dL_wind_7 : decode cL_wind 7 = .ok (.i2l, 1) := by decide +kernel
theorem dL_wind_8 : decode cL_wind 8 = .ok (.lastore, 1) := by decide +kernel
theorem dL_wind_9 : decode cL_wind 9 = .ok (.goto 6, 3) := by decide +kernel
theorem dL_wind_12 : decode cL_wind 12 = .ok (.astore_n 3, 1) := by decide +kernel
theorem dL_wind_13 : decode cL_wind 13 = .ok (.iconst 1, 1) := by decide +kernel
theorem dL_wind_14 : decode cL_wind 14 = .ok (.ireturn, 1) := by decide +kernel
theorem dL_wind_15 : decode cL_wind 15 = .ok (.iconst 0, 1) := by decide +kernel
theorem dL_wind_16 : decode cL_wind 16 = .ok (.ireturn, 1) := by decide +kernel
theorem dL_hail_0 : decode cL_hail 0 = .ok (.aload_n 2, 1) := by decide +kernel
theorem dL_hail_1 : decode cL_hail 1 = .ok (.iconst 0, 1) := by decide +kernel
theorem dL_hail_2 : decode cL_hail 2 = .ok (.aload_n 0, 1) := by decide +kernel
theorem dL_hail_3 : decode cL_hail 3 = .ok (.iload_n 1, 1) := by decide +kernel
theorem dL_hail_4 : decode cL_hail 4 = .ok (.invokevirtual 35, 3) := by decide +kernel
theorem dL_hail_7 : decode cL_hail 7 = .ok (.i2l, 1) := by decide +kernel
theorem dL_hail_8 : decode cL_hail 8 = .ok (.lastore, 1) := by decide +kernel
theorem dL_hail_9 : decode cL_hail 9 = .ok (.goto 6, 3) := by decide +kernel
theorem dL_hail_12 : decode cL_hail 12 = .ok (.astore_n 3, 1) := by decide +kernel
theorem dL_hail_13 : decode cL_hail 13 = .ok (.iconst 1, 1) := by decide +kernel
theorem dL_hail_14 : decode cL_hail 14 = .ok (.ireturn, 1) := by decide +kernel
theorem dL_hail_15 : decode cL_hail 15 = .ok (.iconst 0, 1) := by decide +kernel
theorem dL_hail_16 : decode cL_hail 16 = .ok (.ireturn, 1) := by decide +kernel
theorem dL_cloudOf_0 : decode cL_cloudOf 0 = .ok (.aload_n 3, 1) := by decide +kernel
theorem dL_cloudOf_1 : decode cL_cloudOf 1 = .ok (.iconst 0, 1) := by decide +kernel
theorem dL_cloudOf_2 : decode cL_cloudOf 2 = .ok (.aload_n 0, 1) := by decide +kernel
theorem dL_cloudOf_3 : decode cL_cloudOf 3 = .ok (.iload_n 1, 1) := by decide +kernel
theorem dL_cloudOf_4 : decode cL_cloudOf 4 = .ok (.iload_n 2, 1) := by decide +kernel
theorem dL_cloudOf_5 : decode cL_cloudOf 5 = .ok (.invokevirtual 38, 3) := by decide +kernel
theorem dL_cloudOf_8 : decode cL_cloudOf 8 = .ok (.i2l, 1) := by decide +kernel
theorem dL_cloudOf_9 : decode cL_cloudOf 9 = .ok (.lastore, 1) := by decide +kernel
theorem dL_cloudOf_10 : decode cL_cloudOf 10 = .ok (.goto 11, 3) := by decide +kernel
theorem dL_cloudOf_13 : decode cL_cloudOf 13 = .ok (.astore 4, 2) := by decide +kernel
theorem dL_cloudOf_15 : decode cL_cloudOf 15 = .ok (.iconst 1, 1) := by decide +kernel
theorem dL_cloudOf_16 : decode cL_cloudOf 16 = .ok (.ireturn, 1) := by decide +kernel
theorem dL_cloudOf_17 : decode cL_cloudOf 17 = .ok (.astore 4, 2) := by decide +kernel
theorem dL_cloudOf_19 : decode cL_cloudOf 19 = .ok (.iconst 2, 1) := by decide +kernel
theorem dL_cloudOf_20 : decode cL_cloudOf 20 = .ok (.ireturn, 1) := by decide +kernel
theorem dL_cloudOf_21 : decode cL_cloudOf 21 = .ok (.iconst 0, 1) := by decide +kernel
theorem dL_cloudOf_22 : decode cL_cloudOf 22 = .ok (.ireturn, 1) := by decide +kernel
theorem dL_ownerOf_0 : decode cL_ownerOf 0 = .ok (.aload_n 3, 1) := by decide +kernel
theorem dL_ownerOf_1 : decode cL_ownerOf 1 = .ok (.iconst 0, 1) := by decide +kernel
theorem dL_ownerOf_2 : decode cL_ownerOf 2 = .ok (.aload_n 0, 1) := by decide +kernel
theorem dL_ownerOf_3 : decode cL_ownerOf 3 = .ok (.iload_n 1, 1) := by decide +kernel
theorem dL_ownerOf_4 : decode cL_ownerOf 4 = .ok (.iload_n 2, 1) := by decide +kernel
theorem dL_ownerOf_5 : decode cL_ownerOf 5 = .ok (.invokevirtual 45, 3) := by decide +kernel
theorem dL_ownerOf_8 : decode cL_ownerOf 8 = .ok (.i2l, 1) := by decide +kernel
theorem dL_ownerOf_9 : decode cL_ownerOf 9 = .ok (.lastore, 1) := by decide +kernel
theorem dL_ownerOf_10 : decode cL_ownerOf 10 = .ok (.goto 11, 3) := by decide +kernel
theorem dL_ownerOf_13 : decode cL_ownerOf 13 = .ok (.astore 4, 2) := by decide +kernel
theorem dL_ownerOf_15 : decode cL_ownerOf 15 = .ok (.iconst 1, 1) := by decide +kernel
theorem dL_ownerOf_16 : decode cL_ownerOf 16 = .ok (.ireturn, 1) := by decide +kernel
theorem dL_ownerOf_17 : decode cL_ownerOf 17 = .ok (.astore 4, 2) := by decide +kernel
theorem dL_ownerOf_19 : decode cL_ownerOf 19 = .ok (.iconst 2, 1) := by decide +kernel
theorem dL_ownerOf_20 : decode cL_ownerOf 20 = .ok (.ireturn, 1) := by decide +kernel
theorem dL_ownerOf_21 : decode cL_ownerOf 21 = .ok (.iconst 0, 1) := by decide +kernel
theorem dL_ownerOf_22 : decode cL_ownerOf 22 = .ok (.ireturn, 1) := by decide +kernel
theorem dL_vineyardOf_0 : decode cL_vineyardOf 0 = .ok (.aload_n 3, 1) := by decide +kernel
theorem dL_vineyardOf_1 : decode cL_vineyardOf 1 = .ok (.iconst 0, 1) := by decide +kernel
theorem dL_vineyardOf_2 : decode cL_vineyardOf 2 = .ok (.aload_n 0, 1) := by decide +kernel
theorem dL_vineyardOf_3 : decode cL_vineyardOf 3 = .ok (.iload_n 1, 1) := by decide +kernel
theorem dL_vineyardOf_4 : decode cL_vineyardOf 4 = .ok (.iload_n 2, 1) := by decide +kernel
theorem dL_vineyardOf_5 : decode cL_vineyardOf 5 = .ok (.invokevirtual 48, 3) := by decide +kernel
theorem dL_vineyardOf_8 : decode cL_vineyardOf 8 = .ok (.i2l, 1) := by decide +kernel
theorem dL_vineyardOf_9 : decode cL_vineyardOf 9 = .ok (.lastore, 1) := by decide +kernel
theorem dL_vineyardOf_10 : decode cL_vineyardOf 10 = .ok (.goto 11, 3) := by decide +kernel
theorem dL_vineyardOf_13 : decode cL_vineyardOf 13 = .ok (.astore 4, 2) := by decide +kernel
theorem dL_vineyardOf_15 : decode cL_vineyardOf 15 = .ok (.iconst 1, 1) := by decide +kernel
theorem dL_vineyardOf_16 : decode cL_vineyardOf 16 = .ok (.ireturn, 1) := by decide +kernel
theorem dL_vineyardOf_17 : decode cL_vineyardOf 17 = .ok (.astore 4, 2) := by decide +kernel
theorem dL_vineyardOf_19 : decode cL_vineyardOf 19 = .ok (.iconst 2, 1) := by decide +kernel
theorem dL_vineyardOf_20 : decode cL_vineyardOf 20 = .ok (.ireturn, 1) := by decide +kernel
theorem dL_vineyardOf_21 : decode cL_vineyardOf 21 = .ok (.iconst 0, 1) := by decide +kernel
theorem dL_vineyardOf_22 : decode cL_vineyardOf 22 = .ok (.ireturn, 1) := by decide +kernel
theorem dL_clouds_0 : decode cL_clouds 0 = .ok (.aload_n 2, 1) := by decide +kernel
theorem dL_clouds_1 : decode cL_clouds 1 = .ok (.iconst 0, 1) := by decide +kernel
theorem dL_clouds_2 : decode cL_clouds 2 = .ok (.aload_n 0, 1) := by decide +kernel
theorem dL_clouds_3 : decode cL_clouds 3 = .ok (.iload_n 1, 1) := by decide +kernel
theorem dL_clouds_4 : decode cL_clouds 4 = .ok (.invokevirtual 51, 3) := by decide +kernel
theorem dL_clouds_7 : decode cL_clouds 7 = .ok (.i2l, 1) := by decide +kernel
theorem dL_clouds_8 : decode cL_clouds 8 = .ok (.lastore, 1) := by decide +kernel
theorem dL_clouds_9 : decode cL_clouds 9 = .ok (.goto 6, 3) := by decide +kernel
theorem dL_clouds_12 : decode cL_clouds 12 = .ok (.astore_n 3, 1) := by decide +kernel
theorem dL_clouds_13 : decode cL_clouds 13 = .ok (.iconst 1, 1) := by decide +kernel
theorem dL_clouds_14 : decode cL_clouds 14 = .ok (.ireturn, 1) := by decide +kernel
theorem dL_clouds_15 : decode cL_clouds 15 = .ok (.iconst 0, 1) := by decide +kernel
theorem dL_clouds_16 : decode cL_clouds 16 = .ok (.ireturn, 1) := by decide +kernel
theorem dL_cloudsAgain_0 : decode cL_cloudsAgain 0 = .ok (.aload_n 2, 1) := by decide +kernel
theorem dL_cloudsAgain_1 : decode cL_cloudsAgain 1 = .ok (.iconst 0, 1) := by decide +kernel
theorem dL_cloudsAgain_2 : decode cL_cloudsAgain 2 = .ok (.aload_n 0, 1) := by decide +kernel
theorem dL_cloudsAgain_3 : decode cL_cloudsAgain 3 = .ok (.iload_n 1, 1) := by decide +kernel
theorem dL_cloudsAgain_4 : decode cL_cloudsAgain 4 = .ok (.invokevirtual 54, 3) := by decide +kernel
theorem dL_cloudsAgain_7 : decode cL_cloudsAgain 7 = .ok (.i2l, 1) := by decide +kernel
theorem dL_cloudsAgain_8 : decode cL_cloudsAgain 8 = .ok (.lastore, 1) := by decide +kernel
theorem dL_cloudsAgain_9 : decode cL_cloudsAgain 9 = .ok (.goto 6, 3) := by decide +kernel
theorem dL_cloudsAgain_12 : decode cL_cloudsAgain 12 = .ok (.astore_n 3, 1) := by decide +kernel
theorem dL_cloudsAgain_13 : decode cL_cloudsAgain 13 = .ok (.iconst 1, 1) := by decide +kernel
theorem dL_cloudsAgain_14 : decode cL_cloudsAgain 14 = .ok (.ireturn, 1) := by decide +kernel
theorem dL_cloudsAgain_15 : decode cL_cloudsAgain 15 = .ok (.iconst 0, 1) := by decide +kernel
theorem dL_cloudsAgain_16 : decode cL_cloudsAgain 16 = .ok (.ireturn, 1) := by decide +kernel
theorem dL_windTo_0 : decode cL_windTo 0 = .ok (.aload_n 3, 1) := by decide +kernel
theorem dL_windTo_1 : decode cL_windTo 1 = .ok (.iconst 0, 1) := by decide +kernel
theorem dL_windTo_2 : decode cL_windTo 2 = .ok (.aload_n 0, 1) := by decide +kernel
theorem dL_windTo_3 : decode cL_windTo 3 = .ok (.iload_n 1, 1) := by decide +kernel
theorem dL_windTo_4 : decode cL_windTo 4 = .ok (.iload_n 2, 1) := by decide +kernel
theorem dL_windTo_5 : decode cL_windTo 5 = .ok (.invokevirtual 57, 3) := by decide +kernel
theorem dL_windTo_8 : decode cL_windTo 8 = .ok (.i2l, 1) := by decide +kernel
theorem dL_windTo_9 : decode cL_windTo 9 = .ok (.lastore, 1) := by decide +kernel
theorem dL_windTo_10 : decode cL_windTo 10 = .ok (.goto 7, 3) := by decide +kernel
theorem dL_windTo_13 : decode cL_windTo 13 = .ok (.astore 4, 2) := by decide +kernel
theorem dL_windTo_15 : decode cL_windTo 15 = .ok (.iconst 1, 1) := by decide +kernel
theorem dL_windTo_16 : decode cL_windTo 16 = .ok (.ireturn, 1) := by decide +kernel
theorem dL_windTo_17 : decode cL_windTo 17 = .ok (.iconst 0, 1) := by decide +kernel
theorem dL_windTo_18 : decode cL_windTo 18 = .ok (.ireturn, 1) := by decide +kernel
theorem dL_windToAgain_0 : decode cL_windToAgain 0 = .ok (.aload_n 3, 1) := by decide +kernel
theorem dL_windToAgain_1 : decode cL_windToAgain 1 = .ok (.iconst 0, 1) := by decide +kernel
theorem dL_windToAgain_2 : decode cL_windToAgain 2 = .ok (.aload_n 0, 1) := by decide +kernel
theorem dL_windToAgain_3 : decode cL_windToAgain 3 = .ok (.iload_n 1, 1) := by decide +kernel
theorem dL_windToAgain_4 : decode cL_windToAgain 4 = .ok (.iload_n 2, 1) := by decide +kernel
theorem dL_windToAgain_5 : decode cL_windToAgain 5 = .ok (.invokevirtual 60, 3) := by decide +kernel
theorem dL_windToAgain_8 : decode cL_windToAgain 8 = .ok (.i2l, 1) := by decide +kernel
theorem dL_windToAgain_9 : decode cL_windToAgain 9 = .ok (.lastore, 1) := by decide +kernel
theorem dL_windToAgain_10 : decode cL_windToAgain 10 = .ok (.goto 7, 3) := by decide +kernel
theorem dL_windToAgain_13 : decode cL_windToAgain 13 = .ok (.astore 4, 2) := by decide +kernel
theorem dL_windToAgain_15 : decode cL_windToAgain 15 = .ok (.iconst 1, 1) := by decide +kernel
theorem dL_windToAgain_16 : decode cL_windToAgain 16 = .ok (.ireturn, 1) := by decide +kernel
theorem dL_windToAgain_17 : decode cL_windToAgain 17 = .ok (.iconst 0, 1) := by decide +kernel
theorem dL_windToAgain_18 : decode cL_windToAgain 18 = .ok (.ireturn, 1) := by decide +kernel
theorem dL_would_0 : decode cL_would 0 = .ok (.aload_n 3, 1) := by decide +kernel
theorem dL_would_1 : decode cL_would 1 = .ok (.iconst 0, 1) := by decide +kernel
theorem dL_would_2 : decode cL_would 2 = .ok (.aload_n 0, 1) := by decide +kernel
theorem dL_would_3 : decode cL_would 3 = .ok (.iload_n 1, 1) := by decide +kernel
theorem dL_would_4 : decode cL_would 4 = .ok (.iload_n 2, 1) := by decide +kernel
theorem dL_would_5 : decode cL_would 5 = .ok (.invokevirtual 63, 3) := by decide +kernel
theorem dL_would_8 : decode cL_would 8 = .ok (.i2l, 1) := by decide +kernel
theorem dL_would_9 : decode cL_would 9 = .ok (.lastore, 1) := by decide +kernel
theorem dL_would_10 : decode cL_would 10 = .ok (.goto 11, 3) := by decide +kernel
theorem dL_would_13 : decode cL_would 13 = .ok (.astore 4, 2) := by decide +kernel
theorem dL_would_15 : decode cL_would 15 = .ok (.iconst 1, 1) := by decide +kernel
theorem dL_would_16 : decode cL_would 16 = .ok (.ireturn, 1) := by decide +kernel
theorem dL_would_17 : decode cL_would 17 = .ok (.astore 4, 2) := by decide +kernel
theorem dL_would_19 : decode cL_would 19 = .ok (.iconst 2, 1) := by decide +kernel
theorem dL_would_20 : decode cL_would 20 = .ok (.ireturn, 1) := by decide +kernel
theorem dL_would_21 : decode cL_would 21 = .ok (.iconst 0, 1) := by decide +kernel
theorem dL_would_22 : decode cL_would 22 = .ok (.ireturn, 1) := by decide +kernel
theorem dL_bestWind_0 : decode cL_bestWind 0 = .ok (.aload_n 2, 1) := by decide +kernel
theorem dL_bestWind_1 : decode cL_bestWind 1 = .ok (.iconst 0, 1) := by decide +kernel
theorem dL_bestWind_2 : decode cL_bestWind 2 = .ok (.aload_n 0, 1) := by decide +kernel
theorem dL_bestWind_3 : decode cL_bestWind 3 = .ok (.iload_n 1, 1) := by decide +kernel
theorem dL_bestWind_4 : decode cL_bestWind 4 = .ok (.invokevirtual 66, 3) := by decide +kernel
theorem dL_bestWind_7 : decode cL_bestWind 7 = .ok (.i2l, 1) := by decide +kernel
theorem dL_bestWind_8 : decode cL_bestWind 8 = .ok (.lastore, 1) := by decide +kernel
theorem dL_bestWind_9 : decode cL_bestWind 9 = .ok (.goto 6, 3) := by decide +kernel
theorem dL_bestWind_12 : decode cL_bestWind 12 = .ok (.astore_n 3, 1) := by decide +kernel
theorem dL_bestWind_13 : decode cL_bestWind 13 = .ok (.iconst 1, 1) := by decide +kernel
theorem dL_bestWind_14 : decode cL_bestWind 14 = .ok (.ireturn, 1) := by decide +kernel
theorem dL_bestWind_15 : decode cL_bestWind 15 = .ok (.iconst 0, 1) := by decide +kernel
theorem dL_bestWind_16 : decode cL_bestWind 16 = .ok (.ireturn, 1) := by decide +kernel
theorem dL_recorded_0 : decode cL_recorded 0 = .ok (.aload_n 3, 1) := by decide +kernel
theorem dL_recorded_1 : decode cL_recorded 1 = .ok (.iconst 0, 1) := by decide +kernel
theorem dL_recorded_2 : decode cL_recorded 2 = .ok (.aload_n 0, 1) := by decide +kernel
theorem dL_recorded_3 : decode cL_recorded 3 = .ok (.iload_n 1, 1) := by decide +kernel
theorem dL_recorded_4 : decode cL_recorded 4 = .ok (.iload_n 2, 1) := by decide +kernel
theorem dL_recorded_5 : decode cL_recorded 5 = .ok (.invokevirtual 69, 3) := by decide +kernel
theorem dL_recorded_8 : decode cL_recorded 8 = .ok (.i2l, 1) := by decide +kernel
theorem dL_recorded_9 : decode cL_recorded 9 = .ok (.lastore, 1) := by decide +kernel
theorem dL_recorded_10 : decode cL_recorded 10 = .ok (.goto 7, 3) := by decide +kernel
theorem dL_recorded_13 : decode cL_recorded 13 = .ok (.astore 4, 2) := by decide +kernel
theorem dL_recorded_15 : decode cL_recorded 15 = .ok (.iconst 1, 1) := by decide +kernel
theorem dL_recorded_16 : decode cL_recorded 16 = .ok (.ireturn, 1) := by decide +kernel
theorem dL_recorded_17 : decode cL_recorded 17 = .ok (.iconst 0, 1) := by decide +kernel
theorem dL_recorded_18 : decode cL_recorded 18 = .ok (.ireturn, 1) := by decide +kernel
theorem dL_greatest_0 : decode cL_greatest 0 = .ok (.aload_n 2, 1) := by decide +kernel
theorem dL_greatest_1 : decode cL_greatest 1 = .ok (.iconst 0, 1) := by decide +kernel
theorem dL_greatest_2 : decode cL_greatest 2 = .ok (.aload_n 0, 1) := by decide +kernel
theorem dL_greatest_3 : decode cL_greatest 3 = .ok (.iload_n 1, 1) := by decide +kernel
theorem dL_greatest_4 : decode cL_greatest 4 = .ok (.invokevirtual 74, 3) := by decide +kernel
theorem dL_greatest_7 : decode cL_greatest 7 = .ok (.i2l, 1) := by decide +kernel
theorem dL_greatest_8 : decode cL_greatest 8 = .ok (.lastore, 1) := by decide +kernel
theorem dL_greatest_9 : decode cL_greatest 9 = .ok (.goto 6, 3) := by decide +kernel
theorem dL_greatest_12 : decode cL_greatest 12 = .ok (.astore_n 3, 1) := by decide +kernel
theorem dL_greatest_13 : decode cL_greatest 13 = .ok (.iconst 1, 1) := by decide +kernel
theorem dL_greatest_14 : decode cL_greatest 14 = .ok (.ireturn, 1) := by decide +kernel
theorem dL_greatest_15 : decode cL_greatest 15 = .ok (.iconst 0, 1) := by decide +kernel
theorem dL_greatest_16 : decode cL_greatest 16 = .ok (.ireturn, 1) := by decide +kernel
theorem dL_ranked_0 : decode cL_ranked 0 = .ok (.aload_n 2, 1) := by decide +kernel
theorem dL_ranked_1 : decode cL_ranked 1 = .ok (.iconst 0, 1) := by decide +kernel
theorem dL_ranked_2 : decode cL_ranked 2 = .ok (.aload_n 0, 1) := by decide +kernel
theorem dL_ranked_3 : decode cL_ranked 3 = .ok (.iload_n 1, 1) := by decide +kernel
theorem dL_ranked_4 : decode cL_ranked 4 = .ok (.invokevirtual 77, 3) := by decide +kernel
theorem dL_ranked_7 : decode cL_ranked 7 = .ok (.i2l, 1) := by decide +kernel
theorem dL_ranked_8 : decode cL_ranked 8 = .ok (.lastore, 1) := by decide +kernel
theorem dL_ranked_9 : decode cL_ranked 9 = .ok (.goto 6, 3) := by decide +kernel
theorem dL_ranked_12 : decode cL_ranked 12 = .ok (.astore_n 3, 1) := by decide +kernel
theorem dL_ranked_13 : decode cL_ranked 13 = .ok (.iconst 1, 1) := by decide +kernel
theorem dL_ranked_14 : decode cL_ranked 14 = .ok (.ireturn, 1) := by decide +kernel
theorem dL_ranked_15 : decode cL_ranked 15 = .ok (.iconst 0, 1) := by decide +kernel
theorem dL_ranked_16 : decode cL_ranked 16 = .ok (.ireturn, 1) := by decide +kernel
theorem dL_feed_0 : decode cL_feed 0 = .ok (.aload_n 2, 1) := by decide +kernel
theorem dL_feed_1 : decode cL_feed 1 = .ok (.iconst 0, 1) := by decide +kernel
theorem dL_feed_2 : decode cL_feed 2 = .ok (.aload_n 0, 1) := by decide +kernel
theorem dL_feed_3 : decode cL_feed 3 = .ok (.iload_n 1, 1) := by decide +kernel
theorem dL_feed_4 : decode cL_feed 4 = .ok (.invokevirtual 80, 3) := by decide +kernel
theorem dL_feed_7 : decode cL_feed 7 = .ok (.i2l, 1) := by decide +kernel
theorem dL_feed_8 : decode cL_feed 8 = .ok (.lastore, 1) := by decide +kernel
theorem dL_feed_9 : decode cL_feed 9 = .ok (.goto 6, 3) := by decide +kernel
theorem dL_feed_12 : decode cL_feed 12 = .ok (.astore_n 3, 1) := by decide +kernel
theorem dL_feed_13 : decode cL_feed 13 = .ok (.iconst 1, 1) := by decide +kernel
theorem dL_feed_14 : decode cL_feed 14 = .ok (.ireturn, 1) := by decide +kernel
theorem dL_feed_15 : decode cL_feed 15 = .ok (.iconst 0, 1) := by decide +kernel
theorem dL_feed_16 : decode cL_feed 16 = .ok (.ireturn, 1) := by decide +kernel
theorem dL_run_0 : decode cL_run 0 = .ok (.aload_n 1, 1) := by decide +kernel
theorem dL_run_1 : decode cL_run 1 = .ok (.iconst 0, 1) := by decide +kernel
theorem dL_run_2 : decode cL_run 2 = .ok (.aload_n 0, 1) := by decide +kernel
theorem dL_run_3 : decode cL_run 3 = .ok (.invokevirtual 86, 3) := by decide +kernel
theorem dL_run_6 : decode cL_run 6 = .ok (.i2l, 1) := by decide +kernel
theorem dL_run_7 : decode cL_run 7 = .ok (.lastore, 1) := by decide +kernel
theorem dL_run_8 : decode cL_run 8 = .ok (.goto 9, 3) := by decide +kernel
theorem dL_run_11 : decode cL_run 11 = .ok (.astore_n 2, 1) := by decide +kernel
theorem dL_run_12 : decode cL_run 12 = .ok (.iconst 1, 1) := by decide +kernel
theorem dL_run_13 : decode cL_run 13 = .ok (.ireturn, 1) := by decide +kernel
theorem dL_run_14 : decode cL_run 14 = .ok (.astore_n 2, 1) := by decide +kernel
theorem dL_run_15 : decode cL_run 15 = .ok (.iconst 2, 1) := by decide +kernel
theorem dL_run_16 : decode cL_run 16 = .ok (.ireturn, 1) := by decide +kernel
theorem dL_run_17 : decode cL_run 17 = .ok (.iconst 0, 1) := by decide +kernel
theorem dL_run_18 : decode cL_run 18 = .ok (.ireturn, 1) := by decide +kernel
theorem dL_faultPosition_0 : decode cL_faultPosition 0 = .ok (.aload_n 1, 1) := by decide +kernel
theorem dL_faultPosition_1 : decode cL_faultPosition 1 = .ok (.iconst 0, 1) := by decide +kernel
theorem dL_faultPosition_2 : decode cL_faultPosition 2 = .ok (.aload_n 0, 1) := by decide +kernel
theorem dL_faultPosition_3 : decode cL_faultPosition 3 = .ok (.invokevirtual 90, 3) := by decide +kernel
theorem dL_faultPosition_6 : decode cL_faultPosition 6 = .ok (.i2l, 1) := by decide +kernel
theorem dL_faultPosition_7 : decode cL_faultPosition 7 = .ok (.lastore, 1) := by decide +kernel
theorem dL_faultPosition_8 : decode cL_faultPosition 8 = .ok (.goto 6, 3) := by decide +kernel
theorem dL_faultPosition_11 : decode cL_faultPosition 11 = .ok (.astore_n 2, 1) := by decide +kernel
theorem dL_faultPosition_12 : decode cL_faultPosition 12 = .ok (.iconst 1, 1) := by decide +kernel
theorem dL_faultPosition_13 : decode cL_faultPosition 13 = .ok (.ireturn, 1) := by decide +kernel
theorem dL_faultPosition_14 : decode cL_faultPosition 14 = .ok (.iconst 0, 1) := by decide +kernel
theorem dL_faultPosition_15 : decode cL_faultPosition 15 = .ok (.ireturn, 1) := by decide +kernel
theorem dL_reason_0 : decode cL_reason 0 = .ok (.aload_n 3, 1) := by decide +kernel
theorem dL_reason_1 : decode cL_reason 1 = .ok (.iconst 0, 1) := by decide +kernel
theorem dL_reason_2 : decode cL_reason 2 = .ok (.aload_n 0, 1) := by decide +kernel
theorem dL_reason_3 : decode cL_reason 3 = .ok (.iload_n 1, 1) := by decide +kernel
theorem dL_reason_4 : decode cL_reason 4 = .ok (.iload_n 2, 1) := by decide +kernel
theorem dL_reason_5 : decode cL_reason 5 = .ok (.invokevirtual 93, 3) := by decide +kernel
theorem dL_reason_8 : decode cL_reason 8 = .ok (.i2l, 1) := by decide +kernel
theorem dL_reason_9 : decode cL_reason 9 = .ok (.lastore, 1) := by decide +kernel
theorem dL_reason_10 : decode cL_reason 10 = .ok (.goto 7, 3) := by decide +kernel
theorem dL_reason_13 : decode cL_reason 13 = .ok (.astore 4, 2) := by decide +kernel
theorem dL_reason_15 : decode cL_reason 15 = .ok (.iconst 1, 1) := by decide +kernel
theorem dL_reason_16 : decode cL_reason 16 = .ok (.ireturn, 1) := by decide +kernel
theorem dL_reason_17 : decode cL_reason 17 = .ok (.iconst 0, 1) := by decide +kernel
theorem dL_reason_18 : decode cL_reason 18 = .ok (.ireturn, 1) := by decide +kernel
theorem dL_line_0 : decode cL_line 0 = .ok (.aload_n 2, 1) := by decide +kernel
theorem dL_line_1 : decode cL_line 1 = .ok (.iconst 0, 1) := by decide +kernel
theorem dL_line_2 : decode cL_line 2 = .ok (.aload_n 0, 1) := by decide +kernel
theorem dL_line_3 : decode cL_line 3 = .ok (.iload_n 1, 1) := by decide +kernel
theorem dL_line_4 : decode cL_line 4 = .ok (.invokevirtual 97, 3) := by decide +kernel
theorem dL_line_7 : decode cL_line 7 = .ok (.i2l, 1) := by decide +kernel
theorem dL_line_8 : decode cL_line 8 = .ok (.lastore, 1) := by decide +kernel
theorem dL_line_9 : decode cL_line 9 = .ok (.goto 6, 3) := by decide +kernel
theorem dL_line_12 : decode cL_line 12 = .ok (.astore_n 3, 1) := by decide +kernel
theorem dL_line_13 : decode cL_line 13 = .ok (.iconst 1, 1) := by decide +kernel
theorem dL_line_14 : decode cL_line 14 = .ok (.ireturn, 1) := by decide +kernel
theorem dL_line_15 : decode cL_line 15 = .ok (.iconst 0, 1) := by decide +kernel
theorem dL_line_16 : decode cL_line 16 = .ok (.ireturn, 1) := by decide +kernel
theorem dL_dawnLine_0 : decode cL_dawnLine 0 = .ok (.aload_n 2, 1) := by decide +kernel
theorem dL_dawnLine_1 : decode cL_dawnLine 1 = .ok (.iconst 0, 1) := by decide +kernel
theorem dL_dawnLine_2 : decode cL_dawnLine 2 = .ok (.aload_n 0, 1) := by decide +kernel
theorem dL_dawnLine_3 : decode cL_dawnLine 3 = .ok (.iload_n 1, 1) := by decide +kernel
theorem dL_dawnLine_4 : decode cL_dawnLine 4 = .ok (.invokevirtual 100, 3) := by decide +kernel
theorem dL_dawnLine_7 : decode cL_dawnLine 7 = .ok (.i2l, 1) := by decide +kernel
theorem dL_dawnLine_8 : decode cL_dawnLine 8 = .ok (.lastore, 1) := by decide +kernel
theorem dL_dawnLine_9 : decode cL_dawnLine 9 = .ok (.goto 6, 3) := by decide +kernel
theorem dL_dawnLine_12 : decode cL_dawnLine 12 = .ok (.astore_n 3, 1) := by decide +kernel
theorem dL_dawnLine_13 : decode cL_dawnLine 13 = .ok (.iconst 1, 1) := by decide +kernel
theorem dL_dawnLine_14 : decode cL_dawnLine 14 = .ok (.ireturn, 1) := by decide +kernel
theorem dL_dawnLine_15 : decode cL_dawnLine 15 = .ok (.iconst 0, 1) := by decide +kernel
theorem dL_dawnLine_16 : decode cL_dawnLine 16 = .ok (.ireturn, 1) := by decide +kernel
theorem dL_character_0 : decode cL_character 0 = .ok (.aload_n 2, 1) := by decide +kernel
theorem dL_character_1 : decode cL_character 1 = .ok (.iconst 0, 1) := by decide +kernel
theorem dL_character_2 : decode cL_character 2 = .ok (.aload_n 0, 1) := by decide +kernel
theorem dL_character_3 : decode cL_character 3 = .ok (.iload_n 1, 1) := by decide +kernel
theorem dL_character_4 : decode cL_character 4 = .ok (.invokevirtual 103, 3) := by decide +kernel
theorem dL_character_7 : decode cL_character 7 = .ok (.i2l, 1) := by decide +kernel
theorem dL_character_8 : decode cL_character 8 = .ok (.lastore, 1) := by decide +kernel
theorem dL_character_9 : decode cL_character 9 = .ok (.goto 6, 3) := by decide +kernel
theorem dL_character_12 : decode cL_character 12 = .ok (.astore_n 3, 1) := by decide +kernel
theorem dL_character_13 : decode cL_character 13 = .ok (.iconst 1, 1) := by decide +kernel
theorem dL_character_14 : decode cL_character 14 = .ok (.ireturn, 1) := by decide +kernel
theorem dL_character_15 : decode cL_character 15 = .ok (.iconst 0, 1) := by decide +kernel
theorem dL_character_16 : decode cL_character 16 = .ok (.ireturn, 1) := by decide +kernel
theorem dL_meanSize_0 : decode cL_meanSize 0 = .ok (.aload_n 1, 1) := by decide +kernel
theorem dL_meanSize_1 : decode cL_meanSize 1 = .ok (.iconst 0, 1) := by decide +kernel
theorem dL_meanSize_2 : decode cL_meanSize 2 = .ok (.aload_n 0, 1) := by decide +kernel
theorem dL_meanSize_3 : decode cL_meanSize 3 = .ok (.invokevirtual 107, 3) := by decide +kernel
theorem dL_meanSize_6 : decode cL_meanSize 6 = .ok (.dastore, 1) := by decide +kernel
theorem dL_meanSize_7 : decode cL_meanSize 7 = .ok (.goto 6, 3) := by decide +kernel
theorem dL_meanSize_10 : decode cL_meanSize 10 = .ok (.astore_n 2, 1) := by decide +kernel
theorem dL_meanSize_11 : decode cL_meanSize 11 = .ok (.iconst 1, 1) := by decide +kernel
theorem dL_meanSize_12 : decode cL_meanSize 12 = .ok (.ireturn, 1) := by decide +kernel
theorem dL_meanSize_13 : decode cL_meanSize 13 = .ok (.iconst 0, 1) := by decide +kernel
theorem dL_meanSize_14 : decode cL_meanSize 14 = .ok (.ireturn, 1) := by decide +kernel
theorem dL_titledShare_0 : decode cL_titledShare 0 = .ok (.aload_n 1, 1) := by decide +kernel
theorem dL_titledShare_1 : decode cL_titledShare 1 = .ok (.iconst 0, 1) := by decide +kernel
theorem dL_titledShare_2 : decode cL_titledShare 2 = .ok (.aload_n 0, 1) := by decide +kernel
theorem dL_titledShare_3 : decode cL_titledShare 3 = .ok (.invokevirtual 113, 3) := by decide +kernel
theorem dL_titledShare_6 : decode cL_titledShare 6 = .ok (.f2d, 1) := by decide +kernel
theorem dL_titledShare_7 : decode cL_titledShare 7 = .ok (.dastore, 1) := by decide +kernel
theorem dL_titledShare_8 : decode cL_titledShare 8 = .ok (.goto 6, 3) := by decide +kernel
theorem dL_titledShare_11 : decode cL_titledShare 11 = .ok (.astore_n 2, 1) := by decide +kernel
theorem dL_titledShare_12 : decode cL_titledShare 12 = .ok (.iconst 1, 1) := by decide +kernel
theorem dL_titledShare_13 : decode cL_titledShare 13 = .ok (.ireturn, 1) := by decide +kernel
theorem dL_titledShare_14 : decode cL_titledShare 14 = .ok (.iconst 0, 1) := by decide +kernel
theorem dL_titledShare_15 : decode cL_titledShare 15 = .ok (.ireturn, 1) := by decide +kernel
theorem dL_account_0 : decode cL_account 0 = .ok (.aload_n 2, 1) := by decide +kernel
theorem dL_account_1 : decode cL_account 1 = .ok (.iconst 0, 1) := by decide +kernel
theorem dL_account_2 : decode cL_account 2 = .ok (.aload_n 0, 1) := by decide +kernel
theorem dL_account_3 : decode cL_account 3 = .ok (.iload_n 1, 1) := by decide +kernel
theorem dL_account_4 : decode cL_account 4 = .ok (.invokevirtual 117, 3) := by decide +kernel
theorem dL_account_7 : decode cL_account 7 = .ok (.i2l, 1) := by decide +kernel
theorem dL_account_8 : decode cL_account 8 = .ok (.lastore, 1) := by decide +kernel
theorem dL_account_9 : decode cL_account 9 = .ok (.goto 6, 3) := by decide +kernel
theorem dL_account_12 : decode cL_account 12 = .ok (.astore_n 3, 1) := by decide +kernel
theorem dL_account_13 : decode cL_account 13 = .ok (.iconst 1, 1) := by decide +kernel
theorem dL_account_14 : decode cL_account 14 = .ok (.ireturn, 1) := by decide +kernel
theorem dL_account_15 : decode cL_account 15 = .ok (.iconst 0, 1) := by decide +kernel
theorem dL_account_16 : decode cL_account 16 = .ok (.ireturn, 1) := by decide +kernel
theorem dL_undo_0 : decode cL_undo 0 = .ok (.aload_n 1, 1) := by decide +kernel
theorem dL_undo_1 : decode cL_undo 1 = .ok (.iconst 0, 1) := by decide +kernel
theorem dL_undo_2 : decode cL_undo 2 = .ok (.aload_n 0, 1) := by decide +kernel
theorem dL_undo_3 : decode cL_undo 3 = .ok (.invokevirtual 120, 3) := by decide +kernel
theorem dL_undo_6 : decode cL_undo 6 = .ok (.i2l, 1) := by decide +kernel
theorem dL_undo_7 : decode cL_undo 7 = .ok (.lastore, 1) := by decide +kernel
theorem dL_undo_8 : decode cL_undo 8 = .ok (.goto 6, 3) := by decide +kernel
theorem dL_undo_11 : decode cL_undo 11 = .ok (.astore_n 2, 1) := by decide +kernel
theorem dL_undo_12 : decode cL_undo 12 = .ok (.iconst 1, 1) := by decide +kernel
theorem dL_undo_13 : decode cL_undo 13 = .ok (.ireturn, 1) := by decide +kernel
theorem dL_undo_14 : decode cL_undo 14 = .ok (.iconst 0, 1) := by decide +kernel
theorem dL_undo_15 : decode cL_undo 15 = .ok (.ireturn, 1) := by decide +kernel
theorem dL_restore_0 : decode cL_restore 0 = .ok (.aload_n 1, 1) := by decide +kernel
theorem dL_restore_1 : decode cL_restore 1 = .ok (.iconst 0, 1) := by decide +kernel
theorem dL_restore_2 : decode cL_restore 2 = .ok (.aload_n 0, 1) := by decide +kernel
theorem dL_restore_3 : decode cL_restore 3 = .ok (.invokevirtual 123, 3) := by decide +kernel
theorem dL_restore_6 : decode cL_restore 6 = .ok (.i2l, 1) := by decide +kernel
theorem dL_restore_7 : decode cL_restore 7 = .ok (.lastore, 1) := by decide +kernel
theorem dL_restore_8 : decode cL_restore 8 = .ok (.goto 6, 3) := by decide +kernel
theorem dL_restore_11 : decode cL_restore 11 = .ok (.astore_n 2, 1) := by decide +kernel
theorem dL_restore_12 : decode cL_restore 12 = .ok (.iconst 1, 1) := by decide +kernel
theorem dL_restore_13 : decode cL_restore 13 = .ok (.ireturn, 1) := by decide +kernel
theorem dL_restore_14 : decode cL_restore 14 = .ok (.iconst 0, 1) := by decide +kernel
theorem dL_restore_15 : decode cL_restore 15 = .ok (.ireturn, 1) := by decide +kernel
