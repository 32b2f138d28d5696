theorem dL_feed_0 : decode cL_feed 0 = .ok (.aload 6, 2) := by decide +kernel
theorem dL_feed_2 : decode cL_feed 2 = .ok (.iconst 0, 1) := by decide +kernel
theorem dL_feed_3 : decode cL_feed 3 = .ok (.aload_n 0, 1) := by decide +kernel
theorem dL_feed_4 : decode cL_feed 4 = .ok (.iload_n 1, 1) := by decide +kernel
theorem dL_feed_5 : decode cL_feed 5 = .ok (.iload_n 2, 1) := by decide +kernel
theorem dL_feed_6 : decode cL_feed 6 = .ok (.iload_n 3, 1) := by decide +kernel
theorem dL_feed_7 : decode cL_feed 7 = .ok (.iload 4, 2) := by decide +kernel
theorem dL_feed_9 : decode cL_feed 9 = .ok (.iload 5, 2) := by decide +kernel
theorem dL_feed_11 : decode cL_feed 11 = .ok (.invokevirtual 7, 3) := by decide +kernel
theorem dL_feed_14 : decode cL_feed 14 = .ok (.i2l, 1) := by decide +kernel
theorem dL_feed_15 : decode cL_feed 15 = .ok (.lastore, 1) := by decide +kernel
theorem dL_feed_16 : decode cL_feed 16 = .ok (.goto 7, 3) := by decide +kernel
theorem dL_feed_19 : decode cL_feed 19 = .ok (.astore 7, 2) := by decide +kernel
theorem dL_feed_21 : decode cL_feed 21 = .ok (.iconst 1, 1) := by decide +kernel
theorem dL_feed_22 : decode cL_feed 22 = .ok (.ireturn, 1) := by decide +kernel
theorem dL_feed_23 : decode cL_feed 23 = .ok (.iconst 0, 1) := by decide +kernel
theorem dL_feed_24 : decode cL_feed 24 = .ok (.ireturn, 1) := by decide +kernel
theorem dL_truncate_0 : decode cL_truncate 0 = .ok (.aload_n 2, 1) := by decide +kernel
theorem dL_truncate_1 : decode cL_truncate 1 = .ok (.iconst 0, 1) := by decide +kernel
theorem dL_truncate_2 : decode cL_truncate 2 = .ok (.aload_n 0, 1) := by decide +kernel
theorem dL_truncate_3 : decode cL_truncate 3 = .ok (.iload_n 1, 1) := by decide +kernel
theorem dL_truncate_4 : decode cL_truncate 4 = .ok (.invokevirtual 15, 3) := by decide +kernel
theorem dL_truncate_7 : decode cL_truncate 7 = .ok (.i2l, 1) := by decide +kernel
theorem dL_truncate_8 : decode cL_truncate 8 = .ok (.lastore, 1) := by decide +kernel
theorem dL_truncate_9 : decode cL_truncate 9 = .ok (.goto 6, 3) := by decide +kernel
theorem dL_truncate_12 : decode cL_truncate 12 = .ok (.astore_n 3, 1) := by decide +kernel
theorem dL_truncate_13 : decode cL_truncate 13 = .ok (.iconst 1, 1) := by decide +kernel
theorem dL_truncate_14 : decode cL_truncate 14 = .ok (.ireturn, 1) := by decide +kernel
theorem dL_truncate_15 : decode cL_truncate 15 = .ok (.iconst 0, 1) := by decide +kernel
theorem dL_truncate_16 : decode cL_truncate 16 = .ok (.ireturn, 1) := by decide +kernel
theorem dL_readText_0 : decode cL_readText 0 = .ok (.aload_n 1, 1) := by decide +kernel
theorem dL_readText_1 : decode cL_readText 1 = .ok (.iconst 0, 1) := by decide +kernel
theorem dL_readText_2 : decode cL_readText 2 = .ok (.aload_n 0, 1) := by decide +kernel
theorem dL_readText_3 : decode cL_readText 3 = .ok (.invokevirtual 21, 3) := by decide +kernel
theorem dL_readText_6 : decode cL_readText 6 = .ok (.i2l, 1) := by decide +kernel
theorem dL_readText_7 : decode cL_readText 7 = .ok (.lastore, 1) := by decide +kernel
theorem dL_readText_8 : decode cL_readText 8 = .ok (.goto 6, 3) := by decide +kernel
theorem dL_readText_11 : decode cL_readText 11 = .ok (.astore_n 2, 1) := by decide +kernel
theorem dL_readText_12 : decode cL_readText 12 = .ok (.iconst 1, 1) := by decide +kernel
theorem dL_readText_13 : decode cL_readText 13 = .ok (.ireturn, 1) := by decide +kernel
theorem dL_readText_14 : decode cL_readText 14 = .ok (.iconst 0, 1) := by decide +kernel
theorem dL_readText_15 : decode cL_readText 15 = .ok (.ireturn, 1) := by decide +kernel
theorem dL_runScript_0 : decode cL_runScript 0 = .ok (.aload_n 1, 1) := by decide +kernel
theorem dL_runScript_1 : decode cL_runScript 1 = .ok (.iconst 0, 1) := by decide +kernel
theorem dL_runScript_2 : decode cL_runScript 2 = .ok (.aload_n 0, 1) := by decide +kernel
theorem dL_runScript_3 : decode cL_runScript 3 = .ok (.invokevirtual 25, 3) := by decide +kernel
theorem dL_runScript_6 : decode cL_runScript 6 = .ok (.i2l, 1) := by decide +kernel
theorem dL_runScript_7 : decode cL_runScript 7 = .ok (.lastore, 1) := by decide +kernel
theorem dL_runScript_8 : decode cL_runScript 8 = .ok (.goto 6, 3) := by decide +kernel
theorem dL_runScript_11 : decode cL_runScript 11 = .ok (.astore_n 2, 1) := by decide +kernel
theorem dL_runScript_12 : decode cL_runScript 12 = .ok (.iconst 1, 1) := by decide +kernel
theorem dL_runScript_13 : decode cL_runScript 13 = .ok (.ireturn, 1) := by decide +kernel
theorem dL_runScript_14 : decode cL_runScript 14 = .ok (.iconst 0, 1) := by decide +kernel
theorem dL_runScript_15 : decode cL_runScript 15 = .ok (.ireturn, 1) := by decide +kernel
theorem dL_valleyByte_0 : decode cL_valleyByte 0 = .ok (.aload_n 3, 1) := by decide +kernel
theorem dL_valleyByte_1 : decode cL_valleyByte 1 = .ok (.iconst 0, 1) := by decide +kernel
theorem dL_valleyByte_2 : decode cL_valleyByte 2 = .ok (.aload_n 0, 1) := by decide +kernel
theorem dL_valleyByte_3 : decode cL_valleyByte 3 = .ok (.iload_n 1, 1) := by decide +kernel
theorem dL_valleyByte_4 : decode cL_valleyByte 4 = .ok (.iload_n 2, 1) := by decide +kernel
theorem dL_valleyByte_5 : decode cL_valleyByte 5 = .ok (.invokevirtual 28, 3) := by decide +kernel
theorem dL_valleyByte_8 : decode cL_valleyByte 8 = .ok (.i2l, 1) := by decide +kernel
theorem dL_valleyByte_9 : decode cL_valleyByte 9 = .ok (.lastore, 1) := by decide +kernel
theorem dL_valleyByte_10 : decode cL_valleyByte 10 = .ok (.goto 7, 3) := by decide +kernel
theorem dL_valleyByte_13 : decode cL_valleyByte 13 = .ok (.astore 4, 2) := by decide +kernel
theorem dL_valleyByte_15 : decode cL_valleyByte 15 = .ok (.iconst 1, 1) := by decide +kernel
theorem dL_valleyByte_16 : decode cL_valleyByte 16 = .ok (.ireturn, 1) := by decide +kernel
theorem dL_valleyByte_17 : decode cL_valleyByte 17 = .ok (.iconst 0, 1) := by decide +kernel
theorem dL_valleyByte_18 : decode cL_valleyByte 18 = .ok (.ireturn, 1) := by decide +kernel
theorem dL_width_0 : decode cL_width 0 = .ok (.aload_n 2, 1) := by decide +kernel
theorem dL_width_1 : decode cL_width 1 = .ok (.iconst 0, 1) := by decide +kernel
theorem dL_width_2 : decode cL_width 2 = .ok (.aload_n 0, 1) := by decide +kernel
theorem dL_width_3 : decode cL_width 3 = .ok (.iload_n 1, 1) := by decide +kernel
theorem dL_width_4 : decode cL_width 4 = .ok (.invokevirtual 34, 3) := by decide +kernel
theorem dL_width_7 : decode cL_width 7 = .ok (.i2l, 1) := by decide +kernel
theorem dL_width_8 : decode cL_width 8 = .ok (.lastore, 1) := by decide +kernel
theorem dL_width_9 : decode cL_width 9 = .ok (.goto 6, 3) := by decide +kernel
theorem dL_width_12 : decode cL_width 12 = .ok (.astore_n 3, 1) := by decide +kernel
theorem dL_width_13 : decode cL_width 13 = .ok (.iconst 1, 1) := by decide +kernel
theorem dL_width_14 : decode cL_width 14 = .ok (.ireturn, 1) := by decide +kernel
theorem dL_width_15 : decode cL_width 15 = .ok (.iconst 0, 1) := by decide +kernel
theorem dL_width_16 : decode cL_width 16 = .ok (.ireturn, 1) := by decide +kernel
theorem dL_walls_0 : decode cL_walls 0 = .ok (.aload_n 2, 1) := by decide +kernel
theorem dL_walls_1 : decode cL_walls 1 = .ok (.iconst 0, 1) := by decide +kernel
theorem dL_walls_2 : decode cL_walls 2 = .ok (.aload_n 0, 1) := by decide +kernel
theorem dL_walls_3 : decode cL_walls 3 = .ok (.iload_n 1, 1) := by decide +kernel
theorem dL_walls_4 : decode cL_walls 4 = .ok (.invokevirtual 37, 3) := by decide +kernel
theorem dL_walls_7 : decode cL_walls 7 = .ok (.i2l, 1) := by decide +kernel
theorem dL_walls_8 : decode cL_walls 8 = .ok (.lastore, 1) := by decide +kernel
theorem dL_walls_9 : decode cL_walls 9 = .ok (.goto 6, 3) := by decide +kernel
theorem dL_walls_12 : decode cL_walls 12 = .ok (.astore_n 3, 1) := by decide +kernel
theorem dL_walls_13 : decode cL_walls 13 = .ok (.iconst 1, 1) := by decide +kernel
theorem dL_walls_14 : decode cL_walls 14 = .ok (.ireturn, 1) := by decide +kernel
theorem dL_walls_15 : decode cL_walls 15 = .ok (.iconst 0, 1) := by decide +kernel
theorem dL_walls_16 : decode cL_walls 16 = .ok (.ireturn, 1) := by decide +kernel
theorem dL_price_0 : decode cL_price 0 = .ok (.aload_n 2, 1) := by decide +kernel
theorem dL_price_1 : decode cL_price 1 = .ok (.iconst 0, 1) := by decide +kernel
theorem dL_price_2 : decode cL_price 2 = .ok (.aload_n 0, 1) := by decide +kernel
theorem dL_price_3 : decode cL_price 3 = .ok (.iload_n 1, 1) := by decide +kernel
theorem dL_price_4 : decode cL_price 4 = .ok (.invokevirtual 40, 3) := by decide +kernel
theorem dL_price_7 : decode cL_price 7 = .ok (.i2l, 1) := by decide +kernel
theorem dL_price_8 : decode cL_price 8 = .ok (.lastore, 1) := by decide +kernel
theorem dL_price_9 : decode cL_price 9 = .ok (.goto 6, 3) := by decide +kernel
theorem dL_price_12 : decode cL_price 12 = .ok (.astore_n 3, 1) := by decide +kernel
theorem dL_price_13 : decode cL_price 13 = .ok (.iconst 1, 1) := by decide +kernel
theorem dL_price_14 : decode cL_price 14 = .ok (.ireturn, 1) := by decide +kernel
theorem dL_price_15 : decode cL_price 15 = .ok (.iconst 0, 1) := by decide +kernel
theorem dL_price_16 : decode cL_price 16 = .ok (.ireturn, 1) := by decide +kernel
theorem dL_rating_0 : decode cL_rating 0 = .ok (.aload_n 2, 1) := by decide +kernel
theorem dL_rating_1 : decode cL_rating 1 = .ok (.iconst 0, 1) := by decide +kernel
theorem dL_rating_2 : decode cL_rating 2 = .ok (.aload_n 0, 1) := by decide +kernel
theorem dL_rating_3 : decode cL_rating 3 = .ok (.iload_n 1, 1) := by decide +kernel
theorem dL_rating_4 : decode cL_rating 4 = .ok (.invokevirtual 43, 3) := by decide +kernel
theorem dL_rating_7 : decode cL_rating 7 = .ok (.i2l, 1) := by decide +kernel
theorem dL_rating_8 : decode cL_rating 8 = .ok (.lastore, 1) := by decide +kernel
theorem dL_rating_9 : decode cL_rating 9 = .ok (.goto 6, 3) := by decide +kernel
theorem dL_rating_12 : decode cL_rating 12 = .ok (.astore_n 3, 1) := by decide +kernel
theorem dL_rating_13 : decode cL_rating 13 = .ok (.iconst 1, 1) := by decide +kernel
theorem dL_rating_14 : decode cL_rating 14 = .ok (.ireturn, 1) := by decide +kernel
theorem dL_rating_15 : decode cL_rating 15 = .ok (.iconst 0, 1) := by decide +kernel
theorem dL_rating_16 : decode cL_rating 16 = .ok (.ireturn, 1) := by decide +kernel
theorem dL_echoesLost_0 : decode cL_echoesLost 0 = .ok (.aload_n 2, 1) := by decide +kernel
theorem dL_echoesLost_1 : decode cL_echoesLost 1 = .ok (.iconst 0, 1) := by decide +kernel
theorem dL_echoesLost_2 : decode cL_echoesLost 2 = .ok (.aload_n 0, 1) := by decide +kernel
theorem dL_echoesLost_3 : decode cL_echoesLost 3 = .ok (.iload_n 1, 1) := by decide +kernel
theorem dL_echoesLost_4 : decode cL_echoesLost 4 = .ok (.invokevirtual 46, 3) := by decide +kernel
theorem dL_echoesLost_7 : decode cL_echoesLost 7 = .ok (.i2l, 1) := by decide +kernel
theorem dL_echoesLost_8 : decode cL_echoesLost 8 = .ok (.lastore, 1) := by decide +kernel
theorem dL_echoesLost_9 : decode cL_echoesLost 9 = .ok (.goto 6, 3) := by decide +kernel
theorem dL_echoesLost_12 : decode cL_echoesLost 12 = .ok (.astore_n 3, 1) := by decide +kernel
theorem dL_echoesLost_13 : decode cL_echoesLost 13 = .ok (.iconst 1, 1) := by decide +kernel
theorem dL_echoesLost_14 : decode cL_echoesLost 14 = .ok (.ireturn, 1) := by decide +kernel
theorem dL_echoesLost_15 : decode cL_echoesLost 15 = .ok (.iconst 0, 1) := by decide +kernel
theorem dL_echoesLost_16 : decode cL_echoesLost 16 = .ok (.ireturn, 1) := by decide +kernel
theorem dL_earnedIn_0 : decode cL_earnedIn 0 = .ok (.aload_n 2, 1) := by decide +kernel
theorem dL_earnedIn_1 : decode cL_earnedIn 1 = .ok (.iconst 0, 1) := by decide +kernel
theorem dL_earnedIn_2 : decode cL_earnedIn 2 = .ok (.aload_n 0, 1) := by decide +kernel
theorem dL_earnedIn_3 : decode cL_earnedIn 3 = .ok (.iload_n 1, 1) := by decide +kernel
theorem dL_earnedIn_4 : decode cL_earnedIn 4 = .ok (.invokevirtual 49, 3) := by decide +kernel
theorem dL_earnedIn_7 : decode cL_earnedIn 7 = .ok (.i2l, 1) := by decide +kernel
theorem dL_earnedIn_8 : decode cL_earnedIn 8 = .ok (.lastore, 1) := by decide +kernel
theorem dL_earnedIn_9 : decode cL_earnedIn 9 = .ok (.goto 6, 3) := by decide +kernel
theorem dL_earnedIn_12 : decode cL_earnedIn 12 = .ok (.astore_n 3, 1) := by decide +kernel
theorem dL_earnedIn_13 : decode cL_earnedIn 13 = .ok (.iconst 1, 1) := by decide +kernel
theorem dL_earnedIn_14 : decode cL_earnedIn 14 = .ok (.ireturn, 1) := by decide +kernel
theorem dL_earnedIn_15 : decode cL_earnedIn 15 = .ok (.iconst 0, 1) := by decide +kernel
theorem dL_earnedIn_16 : decode cL_earnedIn 16 = .ok (.ireturn, 1) := by decide +kernel
theorem dL_money_0 : decode cL_money 0 = .ok (.aload_n 2, 1) := by decide +kernel
theorem dL_money_1 : decode cL_money 1 = .ok (.iconst 0, 1) := by decide +kernel
theorem dL_money_2 : decode cL_money 2 = .ok (.aload_n 0, 1) := by decide +kernel
theorem dL_money_3 : decode cL_money 3 = .ok (.iload_n 1, 1) := by decide +kernel
theorem dL_money_4 : decode cL_money 4 = .ok (.invokevirtual 52, 3) := by decide +kernel
theorem dL_money_7 : decode cL_money 7 = .ok (.i2l, 1) := by decide +kernel
theorem dL_money_8 : decode cL_money 8 = .ok (.lastore, 1) := by decide +kernel
theorem dL_money_9 : decode cL_money 9 = .ok (.goto 6, 3) := by decide +kernel
theorem dL_money_12 : decode cL_money 12 = .ok (.astore_n 3, 1) := by decide +kernel
theorem dL_money_13 : decode cL_money 13 = .ok (.iconst 1, 1) := by decide +kernel
theorem dL_money_14 : decode cL_money 14 = .ok (.ireturn, 1) := by decide +kernel
theorem dL_money_15 : decode cL_money 15 = .ok (.iconst 0, 1) := by decide +kernel
theorem dL_money_16 : decode cL_money 16 = .ok (.ireturn, 1) := by decide +kernel
theorem dL_patience_0 : decode cL_patience 0 = .ok (.aload_n 2, 1) := by decide +kernel
theorem dL_patience_1 : decode cL_patience 1 = .ok (.iconst 0, 1) := by decide +kernel
theorem dL_patience_2 : decode cL_patience 2 = .ok (.aload_n 0, 1) := by decide +kernel
theorem dL_patience_3 : decode cL_patience 3 = .ok (.iload_n 1, 1) := by decide +kernel
theorem dL_patience_4 : decode cL_patience 4 = .ok (.invokevirtual 55, 3) := by decide +kernel
theorem dL_patience_7 : decode cL_patience 7 = .ok (.i2l, 1) := by decide +kernel
theorem dL_patience_8 : decode cL_patience 8 = .ok (.lastore, 1) := by decide +kernel
theorem dL_patience_9 : decode cL_patience 9 = .ok (.goto 6, 3) := by decide +kernel
theorem dL_patience_12 : decode cL_patience 12 = .ok (.astore_n 3, 1) := by decide +kernel
theorem dL_patience_13 : decode cL_patience 13 = .ok (.iconst 1, 1) := by decide +kernel
theorem dL_patience_14 : decode cL_patience 14 = .ok (.ireturn, 1) := by decide +kernel
theorem dL_patience_15 : decode cL_patience 15 = .ok (.iconst 0, 1) := by decide +kernel
theorem dL_patience_16 : decode cL_patience 16 = .ok (.ireturn, 1) := by decide +kernel
theorem dL_suspicion_0 : decode cL_suspicion 0 = .ok (.aload_n 2, 1) := by decide +kernel
theorem dL_suspicion_1 : decode cL_suspicion 1 = .ok (.iconst 0, 1) := by decide +kernel
theorem dL_suspicion_2 : decode cL_suspicion 2 = .ok (.aload_n 0, 1) := by decide +kernel
theorem dL_suspicion_3 : decode cL_suspicion 3 = .ok (.iload_n 1, 1) := by decide +kernel
theorem dL_suspicion_4 : decode cL_suspicion 4 = .ok (.invokevirtual 58, 3) := by decide +kernel
theorem dL_suspicion_7 : decode cL_suspicion 7 = .ok (.i2l, 1) := by decide +kernel
theorem dL_suspicion_8 : decode cL_suspicion 8 = .ok (.lastore, 1) := by decide +kernel
theorem dL_suspicion_9 : decode cL_suspicion 9 = .ok (.goto 6, 3) := by decide +kernel
theorem dL_suspicion_12 : decode cL_suspicion 12 = .ok (.astore_n 3, 1) := by decide +kernel
theorem dL_suspicion_13 : decode cL_suspicion 13 = .ok (.iconst 1, 1) := by decide +kernel
theorem dL_suspicion_14 : decode cL_suspicion 14 = .ok (.ireturn, 1) := by decide +kernel
theorem dL_suspicion_15 : decode cL_suspicion 15 = .ok (.iconst 0, 1) := by decide +kernel
theorem dL_suspicion_16 : decode cL_suspicion 16 = .ok (.ireturn, 1) := by decide +kernel
theorem dL_isAngry_0 : decode cL_isAngry 0 = .ok (.aload_n 2, 1) := by decide +kernel
theorem dL_isAngry_1 : decode cL_isAngry 1 = .ok (.iconst 0, 1) := by decide +kernel
theorem dL_isAngry_2 : decode cL_isAngry 2 = .ok (.aload_n 0, 1) := by decide +kernel
theorem dL_isAngry_3 : decode cL_isAngry 3 = .ok (.iload_n 1, 1) := by decide +kernel
theorem dL_isAngry_4 : decode cL_isAngry 4 = .ok (.invokevirtual 61, 3) := by decide +kernel
theorem dL_isAngry_7 : decode cL_isAngry 7 = .ok (.ifCond .eq 7, 3) := by decide +kernel
theorem dL_isAngry_10 : decode cL_isAngry 10 = .ok (.lconst 1, 1) := by decide +kernel
theorem dL_isAngry_11 : decode cL_isAngry 11 = .ok (.goto 4, 3) := by decide +kernel
theorem dL_isAngry_14 : decode cL_isAngry 14 = .ok (.lconst 0, 1) := by decide +kernel
theorem dL_isAngry_15 : decode cL_isAngry 15 = .ok (.lastore, 1) := by decide +kernel
theorem dL_isAngry_16 : decode cL_isAngry 16 = .ok (.goto 6, 3) := by decide +kernel
theorem dL_isAngry_19 : decode cL_isAngry 19 = .ok (.astore_n 3, 1) := by decide +kernel
theorem dL_isAngry_20 : decode cL_isAngry 20 = .ok (.iconst 1, 1) := by decide +kernel
theorem dL_isAngry_21 : decode cL_isAngry 21 = .ok (.ireturn, 1) := by decide +kernel
theorem dL_isAngry_22 : decode cL_isAngry 22 = .ok (.iconst 0, 1) := by decide +kernel
theorem dL_isAngry_23 : decode cL_isAngry 23 = .ok (.ireturn, 1) := by decide +kernel
theorem dL_echoesHeard_0 : decode cL_echoesHeard 0 = .ok (.aload_n 2, 1) := by decide +kernel
theorem dL_echoesHeard_1 : decode cL_echoesHeard 1 = .ok (.iconst 0, 1) := by decide +kernel
theorem dL_echoesHeard_2 : decode cL_echoesHeard 2 = .ok (.aload_n 0, 1) := by decide +kernel
theorem dL_echoesHeard_3 : decode cL_echoesHeard 3 = .ok (.iload_n 1, 1) := by decide +kernel
theorem dL_echoesHeard_4 : decode cL_echoesHeard 4 = .ok (.invokevirtual 65, 3) := by decide +kernel
theorem dL_echoesHeard_7 : decode cL_echoesHeard 7 = .ok (.i2l, 1) := by decide +kernel
theorem dL_echoesHeard_8 : decode cL_echoesHeard 8 = .ok (.lastore, 1) := by decide +kernel
theorem dL_echoesHeard_9 : decode cL_echoesHeard 9 = .ok (.goto 6, 3) := by decide +kernel
theorem dL_echoesHeard_12 : decode cL_echoesHeard 12 = .ok (.astore_n 3, 1) := by decide +kernel
theorem dL_echoesHeard_13 : decode cL_echoesHeard 13 = .ok (.iconst 1, 1) := by decide +kernel
theorem dL_echoesHeard_14 : decode cL_echoesHeard 14 = .ok (.ireturn, 1) := by decide +kernel
theorem dL_echoesHeard_15 : decode cL_echoesHeard 15 = .ok (.iconst 0, 1) := by decide +kernel
theorem dL_echoesHeard_16 : decode cL_echoesHeard 16 = .ok (.ireturn, 1) := by decide +kernel
theorem dL_heldFor_0 : decode cL_heldFor 0 = .ok (.aload_n 2, 1) := by decide +kernel
theorem dL_heldFor_1 : decode cL_heldFor 1 = .ok (.iconst 0, 1) := by decide +kernel
theorem dL_heldFor_2 : decode cL_heldFor 2 = .ok (.aload_n 0, 1) := by decide +kernel
theorem dL_heldFor_3 : decode cL_heldFor 3 = .ok (.iload_n 1, 1) := by decide +kernel
theorem dL_heldFor_4 : decode cL_heldFor 4 = .ok (.invokevirtual 68, 3) := by decide +kernel
theorem dL_heldFor_7 : decode cL_heldFor 7 = .ok (.i2l, 1) := by decide +kernel
theorem dL_heldFor_8 : decode cL_heldFor 8 = .ok (.lastore, 1) := by decide +kernel
theorem dL_heldFor_9 : decode cL_heldFor 9 = .ok (.goto 6, 3) := by decide +kernel
theorem dL_heldFor_12 : decode cL_heldFor 12 = .ok (.astore_n 3, 1) := by decide +kernel
theorem dL_heldFor_13 : decode cL_heldFor 13 = .ok (.iconst 1, 1) := by decide +kernel
theorem dL_heldFor_14 : decode cL_heldFor 14 = .ok (.ireturn, 1) := by decide +kernel
theorem dL_heldFor_15 : decode cL_heldFor 15 = .ok (.iconst 0, 1) := by decide +kernel
theorem dL_heldFor_16 : decode cL_heldFor 16 = .ok (.ireturn, 1) := by decide +kernel
theorem dL_shoutCustomer_0 : decode cL_shoutCustomer 0 = .ok (.aload_n 2, 1) := by decide +kernel
theorem dL_shoutCustomer_1 : decode cL_shoutCustomer 1 = .ok (.iconst 0, 1) := by decide +kernel
theorem dL_shoutCustomer_2 : decode cL_shoutCustomer 2 = .ok (.aload_n 0, 1) := by decide +kernel
theorem dL_shoutCustomer_3 : decode cL_shoutCustomer 3 = .ok (.iload_n 1, 1) := by decide +kernel
theorem dL_shoutCustomer_4 : decode cL_shoutCustomer 4 = .ok (.invokevirtual 71, 3) := by decide +kernel
theorem dL_shoutCustomer_7 : decode cL_shoutCustomer 7 = .ok (.i2l, 1) := by decide +kernel
theorem dL_shoutCustomer_8 : decode cL_shoutCustomer 8 = .ok (.lastore, 1) := by decide +kernel
theorem dL_shoutCustomer_9 : decode cL_shoutCustomer 9 = .ok (.goto 6, 3) := by decide +kernel
theorem dL_shoutCustomer_12 : decode cL_shoutCustomer 12 = .ok (.astore_n 3, 1) := by decide +kernel
theorem dL_shoutCustomer_13 : decode cL_shoutCustomer 13 = .ok (.iconst 1, 1) := by decide +kernel
theorem dL_shoutCustomer_14 : decode cL_shoutCustomer 14 = .ok (.ireturn, 1) := by decide +kernel
theorem dL_shoutCustomer_15 : decode cL_shoutCustomer 15 = .ok (.iconst 0, 1) := by decide +kernel
theorem dL_shoutCustomer_16 : decode cL_shoutCustomer 16 = .ok (.ireturn, 1) := by decide +kernel
theorem dL_shoutValley_0 : decode cL_shoutValley 0 = .ok (.aload_n 2, 1) := by decide +kernel
theorem dL_shoutValley_1 : decode cL_shoutValley 1 = .ok (.iconst 0, 1) := by decide +kernel
theorem dL_shoutValley_2 : decode cL_shoutValley 2 = .ok (.aload_n 0, 1) := by decide +kernel
theorem dL_shoutValley_3 : decode cL_shoutValley 3 = .ok (.iload_n 1, 1) := by decide +kernel
theorem dL_shoutValley_4 : decode cL_shoutValley 4 = .ok (.invokevirtual 74, 3) := by decide +kernel
theorem dL_shoutValley_7 : decode cL_shoutValley 7 = .ok (.i2l, 1) := by decide +kernel
theorem dL_shoutValley_8 : decode cL_shoutValley 8 = .ok (.lastore, 1) := by decide +kernel
theorem dL_shoutValley_9 : decode cL_shoutValley 9 = .ok (.goto 6, 3) := by decide +kernel
theorem dL_shoutValley_12 : decode cL_shoutValley 12 = .ok (.astore_n 3, 1) := by decide +kernel
theorem dL_shoutValley_13 : decode cL_shoutValley 13 = .ok (.iconst 1, 1) := by decide +kernel
theorem dL_shoutValley_14 : decode cL_shoutValley 14 = .ok (.ireturn, 1) := by decide +kernel
theorem dL_shoutValley_15 : decode cL_shoutValley 15 = .ok (.iconst 0, 1) := by decide +kernel
theorem dL_shoutValley_16 : decode cL_shoutValley 16 = .ok (.ireturn, 1) := by decide +kernel
theorem dL_shoutState_0 : decode cL_shoutState 0 = .ok (.aload_n 2, 1) := by decide +kernel
theorem dL_shoutState_1 : decode cL_shoutState 1 = .ok (.iconst 0, 1) := by decide +kernel
theorem dL_shoutState_2 : decode cL_shoutState 2 = .ok (.aload_n 0, 1) := by decide +kernel
theorem dL_shoutState_3 : decode cL_shoutState 3 = .ok (.iload_n 1, 1) := by decide +kernel
theorem dL_shoutState_4 : decode cL_shoutState 4 = .ok (.invokevirtual 77, 3) := by decide +kernel
theorem dL_shoutState_7 : decode cL_shoutState 7 = .ok (.i2l, 1) := by decide +kernel
theorem dL_shoutState_8 : decode cL_shoutState 8 = .ok (.lastore, 1) := by decide +kernel
theorem dL_shoutState_9 : decode cL_shoutState 9 = .ok (.goto 6, 3) := by decide +kernel
theorem dL_shoutState_12 : decode cL_shoutState 12 = .ok (.astore_n 3, 1) := by decide +kernel
theorem dL_shoutState_13 : decode cL_shoutState 13 = .ok (.iconst 1, 1) := by decide +kernel
theorem dL_shoutState_14 : decode cL_shoutState 14 = .ok (.ireturn, 1) := by decide +kernel
theorem dL_shoutState_15 : decode cL_shoutState 15 = .ok (.iconst 0, 1) := by decide +kernel
theorem dL_shoutState_16 : decode cL_shoutState 16 = .ok (.ireturn, 1) := by decide +kernel
theorem dL_returns_0 : decode cL_returns 0 = .ok (.aload_n 2, 1) := by decide +kernel
theorem dL_returns_1 : decode cL_returns 1 = .ok (.iconst 0, 1) := by decide +kernel
theorem dL_returns_2 : decode cL_returns 2 = .ok (.aload_n 0, 1) := by decide +kernel
theorem dL_returns_3 : decode cL_returns 3 = .ok (.iload_n 1, 1) := by decide +kernel
theorem dL_returns_4 : decode cL_returns 4 = .ok (.invokevirtual 80, 3) := by decide +kernel
theorem dL_returns_7 : decode cL_returns 7 = .ok (.i2l, 1) := by decide +kernel
theorem dL_returns_8 : decode cL_returns 8 = .ok (.lastore, 1) := by decide +kernel
theorem dL_returns_9 : decode cL_returns 9 = .ok (.goto 6, 3) := by decide +kernel
theorem dL_returns_12 : decode cL_returns 12 = .ok (.astore_n 3, 1) := by decide +kernel
theorem dL_returns_13 : decode cL_returns 13 = .ok (.iconst 1, 1) := by decide +kernel
theorem dL_returns_14 : decode cL_returns 14 = .ok (.ireturn, 1) := by decide +kernel
theorem dL_returns_15 : decode cL_returns 15 = .ok (.iconst 0, 1) := by decide +kernel
theorem dL_returns_16 : decode cL_returns 16 = .ok (.ireturn, 1) := by decide +kernel
theorem dL_receipt_0 : decode cL_receipt 0 = .ok (.aload_n 2, 1) := by decide +kernel
theorem dL_receipt_1 : decode cL_receipt 1 = .ok (.iconst 0, 1) := by decide +kernel
theorem dL_receipt_2 : decode cL_receipt 2 = .ok (.aload_n 0, 1) := by decide +kernel
theorem dL_receipt_3 : decode cL_receipt 3 = .ok (.iload_n 1, 1) := by decide +kernel
theorem dL_receipt_4 : decode cL_receipt 4 = .ok (.invokevirtual 83, 3) := by decide +kernel
theorem dL_receipt_7 : decode cL_receipt 7 = .ok (.i2l, 1) := by decide +kernel
theorem dL_receipt_8 : decode cL_receipt 8 = .ok (.lastore, 1) := by decide +kernel
theorem dL_receipt_9 : decode cL_receipt 9 = .ok (.goto 6, 3) := by decide +kernel
theorem dL_receipt_12 : decode cL_receipt 12 = .ok (.astore_n 3, 1) := by decide +kernel
theorem dL_receipt_13 : decode cL_receipt 13 = .ok (.iconst 1, 1) := by decide +kernel
theorem dL_receipt_14 : decode cL_receipt 14 = .ok (.ireturn, 1) := by decide +kernel
theorem dL_receipt_15 : decode cL_receipt 15 = .ok (.iconst 0, 1) := by decide +kernel
theorem dL_receipt_16 : decode cL_receipt 16 = .ok (.ireturn, 1) := by decide +kernel
theorem dL_nextReturn_0 : decode cL_nextReturn 0 = .ok (.aload_n 2, 1) := by decide +kernel
theorem dL_nextReturn_1 : decode cL_nextReturn 1 = .ok (.iconst 0, 1) := by decide +kernel
theorem dL_nextReturn_2 : decode cL_nextReturn 2 = .ok (.aload_n 0, 1) := by decide +kernel
theorem dL_nextReturn_3 : decode cL_nextReturn 3 = .ok (.iload_n 1, 1) := by decide +kernel
theorem dL_nextReturn_4 : decode cL_nextReturn 4 = .ok (.invokevirtual 86, 3) := by decide +kernel
theorem dL_nextReturn_7 : decode cL_nextReturn 7 = .ok (.i2l, 1) := by decide +kernel
theorem dL_nextReturn_8 : decode cL_nextReturn 8 = .ok (.lastore, 1) := by decide +kernel
theorem dL_nextReturn_9 : decode cL_nextReturn 9 = .ok (.goto 6, 3) := by decide +kernel
theorem dL_nextReturn_12 : decode cL_nextReturn 12 = .ok (.astore_n 3, 1) := by decide +kernel
theorem dL_nextReturn_13 : decode cL_nextReturn 13 = .ok (.iconst 1, 1) := by decide +kernel
theorem dL_nextReturn_14 : decode cL_nextReturn 14 = .ok (.ireturn, 1) := by decide +kernel
theorem dL_nextReturn_15 : decode cL_nextReturn 15 = .ok (.iconst 0, 1) := by decide +kernel
theorem dL_nextReturn_16 : decode cL_nextReturn 16 = .ok (.ireturn, 1) := by decide +kernel
theorem dL_patienceEnds_0 : decode cL_patienceEnds 0 = .ok (.aload_n 2, 1) := by decide +kernel
theorem dL_patienceEnds_1 : decode cL_patienceEnds 1 = .ok (.iconst 0, 1) := by decide +kernel
theorem dL_patienceEnds_2 : decode cL_patienceEnds 2 = .ok (.aload_n 0, 1) := by decide +kernel
theorem dL_patienceEnds_3 : decode cL_patienceEnds 3 = .ok (.iload_n 1, 1) := by decide +kernel
theorem dL_patienceEnds_4 : decode cL_patienceEnds 4 = .ok (.invokevirtual 89, 3) := by decide +kernel
theorem dL_patienceEnds_7 : decode cL_patienceEnds 7 = .ok (.i2l, 1) := by decide +kernel
theorem dL_patienceEnds_8 : decode cL_patienceEnds 8 = .ok (.lastore, 1) := by decide +kernel
theorem dL_patienceEnds_9 : decode cL_patienceEnds 9 = .ok (.goto 6, 3) := by decide +kernel
theorem dL_patienceEnds_12 : decode cL_patienceEnds 12 = .ok (.astore_n 3, 1) := by decide +kernel
theorem dL_patienceEnds_13 : decode cL_patienceEnds 13 = .ok (.iconst 1, 1) := by decide +kernel
theorem dL_patienceEnds_14 : decode cL_patienceEnds 14 = .ok (.ireturn, 1) := by decide +kernel
theorem dL_patienceEnds_15 : decode cL_patienceEnds 15 = .ok (.iconst 0, 1) := by decide +kernel
theorem dL_patienceEnds_16 : decode cL_patienceEnds 16 = .ok (.ireturn, 1) := by decide +kernel
theorem dL_refusal_0 : decode cL_refusal 0 = .ok (.aload 4, 2) := by decide +kernel
theorem dL_refusal_2 : decode cL_refusal 2 = .ok (.iconst 0, 1) := by decide +kernel
theorem dL_refusal_3 : decode cL_refusal 3 = .ok (.aload_n 0, 1) := by decide +kernel
theorem dL_refusal_4 : decode cL_refusal 4 = .ok (.iload_n 1, 1) := by decide +kernel
theorem dL_refusal_5 : decode cL_refusal 5 = .ok (.iload_n 2, 1) := by decide +kernel
theorem dL_refusal_6 : decode cL_refusal 6 = .ok (.iload_n 3, 1) := by decide +kernel
theorem dL_refusal_7 : decode cL_refusal 7 = .ok (.invokevirtual 92, 3) := by decide +kernel
theorem dL_refusal_10 : decode cL_refusal 10 = .ok (.i2l, 1) := by decide +kernel
theorem dL_refusal_11 : decode cL_refusal 11 = .ok (.lastore, 1) := by decide +kernel
theorem dL_refusal_12 : decode cL_refusal 12 = .ok (.goto 11, 3) := by decide +kernel
theorem dL_refusal_15 : decode cL_refusal 15 = .ok (.astore 5, 2) := by decide +kernel
theorem dL_refusal_17 : decode cL_refusal 17 = .ok (.iconst 1, 1) := by decide +kernel
theorem dL_refusal_18 : decode cL_refusal 18 = .ok (.ireturn, 1) := by decide +kernel
theorem dL_refusal_19 : decode cL_refusal 19 = .ok (.astore 5, 2) := by decide +kernel
theorem dL_refusal_21 : decode cL_refusal 21 = .ok (.iconst 2, 1) := by decide +kernel
theorem dL_refusal_22 : decode cL_refusal 22 = .ok (.ireturn, 1) := by decide +kernel
theorem dL_refusal_23 : decode cL_refusal 23 = .ok (.iconst 0, 1) := by decide +kernel
theorem dL_refusal_24 : decode cL_refusal 24 = .ok (.ireturn, 1) := by decide +kernel
theorem dL_neededLoudness_0 : decode cL_neededLoudness 0 = .ok (.aload_n 3, 1) := by decide +kernel
theorem dL_neededLoudness_1 : decode cL_neededLoudness 1 = .ok (.iconst 0, 1) := by decide +kernel
theorem dL_neededLoudness_2 : decode cL_neededLoudness 2 = .ok (.aload_n 0, 1) := by decide +kernel
theorem dL_neededLoudness_3 : decode cL_neededLoudness 3 = .ok (.iload_n 1, 1) := by decide +kernel
theorem dL_neededLoudness_4 : decode cL_neededLoudness 4 = .ok (.iload_n 2, 1) := by decide +kernel
theorem dL_neededLoudness_5 : decode cL_neededLoudness 5 = .ok (.invokevirtual 96, 3) := by decide +kernel
theorem dL_neededLoudness_8 : decode cL_neededLoudness 8 = .ok (.i2l, 1) := by decide +kernel
theorem dL_neededLoudness_9 : decode cL_neededLoudness 9 = .ok (.lastore, 1) := by decide +kernel
theorem dL_neededLoudness_10 : decode cL_neededLoudness 10 = .ok (.goto 11, 3) := by decide +kernel
theorem dL_neededLoudness_13 : decode cL_neededLoudness 13 = .ok (.astore 4, 2) := by decide +kernel
theorem dL_neededLoudness_15 : decode cL_neededLoudness 15 = .ok (.iconst 1, 1) := by decide +kernel
theorem dL_neededLoudness_16 : decode cL_neededLoudness 16 = .ok (.ireturn, 1) := by decide +kernel
theorem dL_neededLoudness_17 : decode cL_neededLoudness 17 = .ok (.astore 4, 2) := by decide +kernel
theorem dL_neededLoudness_19 : decode cL_neededLoudness 19 = .ok (.iconst 2, 1) := by decide +kernel
theorem dL_neededLoudness_20 : decode cL_neededLoudness 20 = .ok (.ireturn, 1) := by decide +kernel
theorem dL_neededLoudness_21 : decode cL_neededLoudness 21 = .ok (.iconst 0, 1) := by decide +kernel
theorem dL_neededLoudness_22 : decode cL_neededLoudness 22 = .ok (.ireturn, 1) := by decide +kernel
theorem dL_bestOffer_0 : decode cL_bestOffer 0 = .ok (.aload_n 3, 1) := by decide +kernel
theorem dL_bestOffer_1 : decode cL_bestOffer 1 = .ok (.iconst 0, 1) := by decide +kernel
theorem dL_bestOffer_2 : decode cL_bestOffer 2 = .ok (.aload_n 0, 1) := by decide +kernel
theorem dL_bestOffer_3 : decode cL_bestOffer 3 = .ok (.iload_n 1, 1) := by decide +kernel
theorem dL_bestOffer_4 : decode cL_bestOffer 4 = .ok (.iload_n 2, 1) := by decide +kernel
theorem dL_bestOffer_5 : decode cL_bestOffer 5 = .ok (.invokevirtual 99, 3) := by decide +kernel
theorem dL_bestOffer_8 : decode cL_bestOffer 8 = .ok (.i2l, 1) := by decide +kernel
theorem dL_bestOffer_9 : decode cL_bestOffer 9 = .ok (.lastore, 1) := by decide +kernel
theorem dL_bestOffer_10 : decode cL_bestOffer 10 = .ok (.goto 11, 3) := by decide +kernel
theorem dL_bestOffer_13 : decode cL_bestOffer 13 = .ok (.astore 4, 2) := by decide +kernel
theorem dL_bestOffer_15 : decode cL_bestOffer 15 = .ok (.iconst 1, 1) := by decide +kernel
theorem dL_bestOffer_16 : decode cL_bestOffer 16 = .ok (.ireturn, 1) := by decide +kernel
theorem dL_bestOffer_17 : decode cL_bestOffer 17 = .ok (.astore 4, 2) := by decide +kernel
theorem dL_bestOffer_19 : decode cL_bestOffer 19 = .ok (.iconst 2, 1) := by decide +kernel
theorem dL_bestOffer_20 : decode cL_bestOffer 20 = .ok (.ireturn, 1) := by decide +kernel
theorem dL_bestOffer_21 : decode cL_bestOffer 21 = .ok (.iconst 0, 1) := by decide +kernel
theorem dL_bestOffer_22 : decode cL_bestOffer 22 = .ok (.ireturn, 1) := by decide +kernel
theorem dL_earnedAfter_0 : decode cL_earnedAfter 0 = .ok (.aload_n 2, 1) := by decide +kernel
theorem dL_earnedAfter_1 : decode cL_earnedAfter 1 = .ok (.iconst 0, 1) := by decide +kernel
theorem dL_earnedAfter_2 : decode cL_earnedAfter 2 = .ok (.aload_n 0, 1) := by decide +kernel
theorem dL_earnedAfter_3 : decode cL_earnedAfter 3 = .ok (.iload_n 1, 1) := by decide +kernel
theorem dL_earnedAfter_4 : decode cL_earnedAfter 4 = .ok (.invokevirtual 102, 3) := by decide +kernel
theorem dL_earnedAfter_7 : decode cL_earnedAfter 7 = .ok (.i2l, 1) := by decide +kernel
theorem dL_earnedAfter_8 : decode cL_earnedAfter 8 = .ok (.lastore, 1) := by decide +kernel
theorem dL_earnedAfter_9 : decode cL_earnedAfter 9 = .ok (.goto 6, 3) := by decide +kernel
theorem dL_earnedAfter_12 : decode cL_earnedAfter 12 = .ok (.astore_n 3, 1) := by decide +kernel
theorem dL_earnedAfter_13 : decode cL_earnedAfter 13 = .ok (.iconst 1, 1) := by decide +kernel
theorem dL_earnedAfter_14 : decode cL_earnedAfter 14 = .ok (.ireturn, 1) := by decide +kernel
theorem dL_earnedAfter_15 : decode cL_earnedAfter 15 = .ok (.iconst 0, 1) := by decide +kernel
theorem dL_earnedAfter_16 : decode cL_earnedAfter 16 = .ok (.ireturn, 1) := by decide +kernel
theorem dL_finalState_0 : decode cL_finalState 0 = .ok (.aload_n 2, 1) := by decide +kernel
theorem dL_finalState_1 : decode cL_finalState 1 = .ok (.iconst 0, 1) := by decide +kernel
theorem dL_finalState_2 : decode cL_finalState 2 = .ok (.aload_n 0, 1) := by decide +kernel
theorem dL_finalState_3 : decode cL_finalState 3 = .ok (.iload_n 1, 1) := by decide +kernel
theorem dL_finalState_4 : decode cL_finalState 4 = .ok (.invokevirtual 105, 3) := by decide +kernel
theorem dL_finalState_7 : decode cL_finalState 7 = .ok (.i2l, 1) := by decide +kernel
theorem dL_finalState_8 : decode cL_finalState 8 = .ok (.lastore, 1) := by decide +kernel
theorem dL_finalState_9 : decode cL_finalState 9 = .ok (.goto 6, 3) := by decide +kernel
theorem dL_finalState_12 : decode cL_finalState 12 = .ok (.astore_n 3, 1) := by decide +kernel
theorem dL_finalState_13 : decode cL_finalState 13 = .ok (.iconst 1, 1) := by decide +kernel
theorem dL_finalState_14 : decode cL_finalState 14 = .ok (.ireturn, 1) := by decide +kernel
theorem dL_finalState_15 : decode cL_finalState 15 = .ok (.iconst 0, 1) := by decide +kernel
theorem dL_finalState_16 : decode cL_finalState 16 = .ok (.ireturn, 1) := by decide +kernel
theorem dL_addValley_0 : decode cL_addValley 0 = .ok (.aload 4, 2) := by decide +kernel
theorem dL_addValley_2 : decode cL_addValley 2 = .ok (.iconst 0, 1) := by decide +kernel
theorem dL_addValley_3 : decode cL_addValley 3 = .ok (.aload_n 0, 1) := by decide +kernel
theorem dL_addValley_4 : decode cL_addValley 4 = .ok (.iload_n 1, 1) := by decide +kernel
theorem dL_addValley_5 : decode cL_addValley 5 = .ok (.iload_n 2, 1) := by decide +kernel
theorem dL_addValley_6 : decode cL_addValley 6 = .ok (.iload_n 3, 1) := by decide +kernel
theorem dL_addValley_7 : decode cL_addValley 7 = .ok (.invokevirtual 108, 3) := by decide +kernel
theorem dL_addValley_10 : decode cL_addValley 10 = .ok (.i2l, 1) := by decide +kernel
theorem dL_addValley_11 : decode cL_addValley 11 = .ok (.lastore, 1) := by decide +kernel
theorem dL_addValley_12 : decode cL_addValley 12 = .ok (.goto 11, 3) := by decide +kernel
theorem dL_addValley_15 : decode cL_addValley 15 = .ok (.astore 5, 2) := by decide +kernel
theorem dL_addValley_17 : decode cL_addValley 17 = .ok (.iconst 1, 1) := by decide +kernel
theorem dL_addValley_18 : decode cL_addValley 18 = .ok (.ireturn, 1) := by decide +kernel
theorem dL_addValley_19 : decode cL_addValley 19 = .ok (.astore 5, 2) := by decide +kernel
theorem dL_addValley_21 : decode cL_addValley 21 = .ok (.iconst 2, 1) := by decide +kernel
theorem dL_addValley_22 : decode cL_addValley 22 = .ok (.ireturn, 1) := by decide +kernel
theorem dL_addValley_23 : decode cL_addValley 23 = .ok (.iconst 0, 1) := by decide +kernel
theorem dL_addValley_24 : decode cL_addValley 24 = .ok (.ireturn, 1) := by decide +kernel
theorem dL_addCustomer_0 : decode cL_addCustomer 0 = .ok (.aload_n 3, 1) := by decide +kernel
theorem dL_addCustomer_1 : decode cL_addCustomer 1 = .ok (.iconst 0, 1) := by decide +kernel
theorem dL_addCustomer_2 : decode cL_addCustomer 2 = .ok (.aload_n 0, 1) := by decide +kernel
theorem dL_addCustomer_3 : decode cL_addCustomer 3 = .ok (.iload_n 1, 1) := by decide +kernel
theorem dL_addCustomer_4 : decode cL_addCustomer 4 = .ok (.iload_n 2, 1) := by decide +kernel
theorem dL_addCustomer_5 : decode cL_addCustomer 5 = .ok (.invokevirtual 111, 3) := by decide +kernel
theorem dL_addCustomer_8 : decode cL_addCustomer 8 = .ok (.i2l, 1) := by decide +kernel
theorem dL_addCustomer_9 : decode cL_addCustomer 9 = .ok (.lastore, 1) := by decide +kernel
theorem dL_addCustomer_10 : decode cL_addCustomer 10 = .ok (.goto 11, 3) := by decide +kernel
theorem dL_addCustomer_13 : decode cL_addCustomer 13 = .ok (.astore 4, 2) := by decide +kernel
theorem dL_addCustomer_15 : decode cL_addCustomer 15 = .ok (.iconst 1, 1) := by decide +kernel
theorem dL_addCustomer_16 : decode cL_addCustomer 16 = .ok (.ireturn, 1) := by decide +kernel
theorem dL_addCustomer_17 : decode cL_addCustomer 17 = .ok (.astore 4, 2) := by decide +kernel
theorem dL_addCustomer_19 : decode cL_addCustomer 19 = .ok (.iconst 2, 1) := by decide +kernel
theorem dL_addCustomer_20 : decode cL_addCustomer 20 = .ok (.ireturn, 1) := by decide +kernel
theorem dL_addCustomer_21 : decode cL_addCustomer 21 = .ok (.iconst 0, 1) := by decide +kernel
theorem dL_addCustomer_22 : decode cL_addCustomer 22 = .ok (.ireturn, 1) := by decide +kernel
theorem dL_shout_0 : decode cL_shout 0 = .ok (.aload 5, 2) := by decide +kernel
theorem dL_shout_2 : decode cL_shout 2 = .ok (.iconst 0, 1) := by decide +kernel
theorem dL_shout_3 : decode cL_shout 3 = .ok (.aload_n 0, 1) := by decide +kernel
theorem dL_shout_4 : decode cL_shout 4 = .ok (.iload_n 1, 1) := by decide +kernel
theorem dL_shout_5 : decode cL_shout 5 = .ok (.iload_n 2, 1) := by decide +kernel
theorem dL_shout_6 : decode cL_shout 6 = .ok (.iload_n 3, 1) := by decide +kernel
theorem dL_shout_7 : decode cL_shout 7 = .ok (.iload 4, 2) := by decide +kernel
theorem dL_shout_9 : decode cL_shout 9 = .ok (.invokevirtual 114, 3) := by decide +kernel
theorem dL_shout_12 : decode cL_shout 12 = .ok (.i2l, 1) := by decide +kernel
theorem dL_shout_13 : decode cL_shout 13 = .ok (.lastore, 1) := by decide +kernel
theorem dL_shout_14 : decode cL_shout 14 = .ok (.goto 15, 3) := by decide +kernel
theorem dL_shout_17 : decode cL_shout 17 = .ok (.astore 6, 2) := by decide +kernel
theorem dL_shout_19 : decode cL_shout 19 = .ok (.iconst 1, 1) := by decide +kernel
theorem dL_shout_20 : decode cL_shout 20 = .ok (.ireturn, 1) := by decide +kernel
theorem dL_shout_21 : decode cL_shout 21 = .ok (.astore 6, 2) := by decide +kernel
theorem dL_shout_23 : decode cL_shout 23 = .ok (.iconst 2, 1) := by decide +kernel
theorem dL_shout_24 : decode cL_shout 24 = .ok (.ireturn, 1) := by decide +kernel
theorem dL_shout_25 : decode cL_shout 25 = .ok (.astore 6, 2) := by decide +kernel
theorem dL_shout_27 : decode cL_shout 27 = .ok (.iconst 3, 1) := by decide +kernel
theorem dL_shout_28 : decode cL_shout 28 = .ok (.ireturn, 1) := by decide +kernel
theorem dL_shout_29 : decode cL_shout 29 = .ok (.iconst 0, 1) := by decide +kernel
theorem dL_shout_30 : decode cL_shout 30 = .ok (.ireturn, 1) := by decide +kernel
theorem dL_cancel_0 : decode cL_cancel 0 = .ok (.aload_n 2, 1) := by decide +kernel
theorem dL_cancel_1 : decode cL_cancel 1 = .ok (.iconst 0, 1) := by decide +kernel
theorem dL_cancel_2 : decode cL_cancel 2 = .ok (.aload_n 0, 1) := by decide +kernel
theorem dL_cancel_3 : decode cL_cancel 3 = .ok (.iload_n 1, 1) := by decide +kernel
theorem dL_cancel_4 : decode cL_cancel 4 = .ok (.invokevirtual 118, 3) := by decide +kernel
theorem dL_cancel_7 : decode cL_cancel 7 = .ok (.i2l, 1) := by decide +kernel
theorem dL_cancel_8 : decode cL_cancel 8 = .ok (.lastore, 1) := by decide +kernel
theorem dL_cancel_9 : decode cL_cancel 9 = .ok (.goto 9, 3) := by decide +kernel
theorem dL_cancel_12 : decode cL_cancel 12 = .ok (.astore_n 3, 1) := by decide +kernel
theorem dL_cancel_13 : decode cL_cancel 13 = .ok (.iconst 1, 1) := by decide +kernel
theorem dL_cancel_14 : decode cL_cancel 14 = .ok (.ireturn, 1) := by decide +kernel
theorem dL_cancel_15 : decode cL_cancel 15 = .ok (.astore_n 3, 1) := by decide +kernel
theorem dL_cancel_16 : decode cL_cancel 16 = .ok (.iconst 2, 1) := by decide +kernel
theorem dL_cancel_17 : decode cL_cancel 17 = .ok (.ireturn, 1) := by decide +kernel
theorem dL_cancel_18 : decode cL_cancel 18 = .ok (.iconst 0, 1) := by decide +kernel
theorem dL_cancel_19 : decode cL_cancel 19 = .ok (.ireturn, 1) := by decide +kernel
theorem dL_fake_0 : decode cL_fake 0 = .ok (.aload_n 2, 1) := by decide +kernel
theorem dL_fake_1 : decode cL_fake 1 = .ok (.iconst 0, 1) := by decide +kernel
theorem dL_fake_2 : decode cL_fake 2 = .ok (.aload_n 0, 1) := by decide +kernel
theorem dL_fake_3 : decode cL_fake 3 = .ok (.iload_n 1, 1) := by decide +kernel
theorem dL_fake_4 : decode cL_fake 4 = .ok (.invokevirtual 121, 3) := by decide +kernel
theorem dL_fake_7 : decode cL_fake 7 = .ok (.i2l, 1) := by decide +kernel
theorem dL_fake_8 : decode cL_fake 8 = .ok (.lastore, 1) := by decide +kernel
theorem dL_fake_9 : decode cL_fake 9 = .ok (.goto 9, 3) := by decide +kernel
theorem dL_fake_12 : decode cL_fake 12 = .ok (.astore_n 3, 1) := by decide +kernel
theorem dL_fake_13 : decode cL_fake 13 = .ok (.iconst 1, 1) := by decide +kernel
theorem dL_fake_14 : decode cL_fake 14 = .ok (.ireturn, 1) := by decide +kernel
theorem dL_fake_15 : decode cL_fake 15 = .ok (.astore_n 3, 1) := by decide +kernel
theorem dL_fake_16 : decode cL_fake 16 = .ok (.iconst 2, 1) := by decide +kernel
theorem dL_fake_17 : decode cL_fake 17 = .ok (.ireturn, 1) := by decide +kernel
theorem dL_fake_18 : decode cL_fake 18 = .ok (.iconst 0, 1) := by decide +kernel
theorem dL_fake_19 : decode cL_fake 19 = .ok (.ireturn, 1) := by decide +kernel
theorem dL_setFog_0 : decode cL_setFog 0 = .ok (.aload_n 3, 1) := by decide +kernel
theorem dL_setFog_1 : decode cL_setFog 1 = .ok (.iconst 0, 1) := by decide +kernel
theorem dL_setFog_2 : decode cL_setFog 2 = .ok (.aload_n 0, 1) := by decide +kernel
theorem dL_setFog_3 : decode cL_setFog 3 = .ok (.iload_n 1, 1) := by decide +kernel
theorem dL_setFog_4 : decode cL_setFog 4 = .ok (.iload_n 2, 1) := by decide +kernel
theorem dL_setFog_5 : decode cL_setFog 5 = .ok (.invokevirtual 124, 3) := by decide +kernel
theorem dL_setFog_8 : decode cL_setFog 8 = .ok (.i2l, 1) := by decide +kernel
theorem dL_setFog_9 : decode cL_setFog 9 = .ok (.lastore, 1) := by decide +kernel
theorem dL_setFog_10 : decode cL_setFog 10 = .ok (.goto 11, 3) := by decide +kernel
theorem dL_setFog_13 : decode cL_setFog 13 = .ok (.astore 4, 2) := by decide +kernel
theorem dL_setFog_15 : decode cL_setFog 15 = .ok (.iconst 1, 1) := by decide +kernel
theorem dL_setFog_16 : decode cL_setFog 16 = .ok (.ireturn, 1) := by decide +kernel
theorem dL_setFog_17 : decode cL_setFog 17 = .ok (.astore 4, 2) := by decide +kernel
theorem dL_setFog_19 : decode cL_setFog 19 = .ok (.iconst 2, 1) := by decide +kernel
theorem dL_setFog_20 : decode cL_setFog 20 = .ok (.ireturn, 1) := by decide +kernel
theorem dL_setFog_21 : decode cL_setFog 21 = .ok (.iconst 0, 1) := by decide +kernel
theorem dL_setFog_22 : decode cL_setFog 22 = .ok (.ireturn, 1) := by decide +kernel
theorem dL_setPrice_0 : decode cL_setPrice 0 = .ok (.aload_n 3, 1) := by decide +kernel
theorem dL_setPrice_1 : decode cL_setPrice 1 = .ok (.iconst 0, 1) := by decide +kernel
theorem dL_setPrice_2 : decode cL_setPrice 2 = .ok (.aload_n 0, 1) := by decide +kernel
theorem dL_setPrice_3 : decode cL_setPrice 3 = .ok (.iload_n 1, 1) := by decide +kernel
theorem dL_setPrice_4 : decode cL_setPrice 4 = .ok (.iload_n 2, 1) := by decide +kernel
theorem dL_setPrice_5 : decode cL_setPrice 5 = .ok (.invokevirtual 127, 3) := by decide +kernel
theorem dL_setPrice_8 : decode cL_setPrice 8 = .ok (.i2l, 1) := by decide +kernel
theorem dL_setPrice_9 : decode cL_setPrice 9 = .ok (.lastore, 1) := by decide +kernel
theorem dL_setPrice_10 : decode cL_setPrice 10 = .ok (.goto 11, 3) := by decide +kernel
theorem dL_setPrice_13 : decode cL_setPrice 13 = .ok (.astore 4, 2) := by decide +kernel
theorem dL_setPrice_15 : decode cL_setPrice 15 = .ok (.iconst 1, 1) := by decide +kernel
theorem dL_setPrice_16 : decode cL_setPrice 16 = .ok (.ireturn, 1) := by decide +kernel
theorem dL_setPrice_17 : decode cL_setPrice 17 = .ok (.astore 4, 2) := by decide +kernel
theorem dL_setPrice_19 : decode cL_setPrice 19 = .ok (.iconst 2, 1) := by decide +kernel
theorem dL_setPrice_20 : decode cL_setPrice 20 = .ok (.ireturn, 1) := by decide +kernel
theorem dL_setPrice_21 : decode cL_setPrice 21 = .ok (.iconst 0, 1) := by decide +kernel
theorem dL_setPrice_22 : decode cL_setPrice 22 = .ok (.ireturn, 1) := by decide +kernel
theorem dL_setWell_0 : decode cL_setWell 0 = .ok (.aload_n 2, 1) := by decide +kernel
theorem dL_setWell_1 : decode cL_setWell 1 = .ok (.iconst 0, 1) := by decide +kernel
theorem dL_setWell_2 : decode cL_setWell 2 = .ok (.aload_n 0, 1) := by decide +kernel
theorem dL_setWell_3 : decode cL_setWell 3 = .ok (.iload_n 1, 1) := by decide +kernel
theorem dL_setWell_4 : decode cL_setWell 4 = .ok (.invokevirtual 130, 3) := by decide +kernel
theorem dL_setWell_7 : decode cL_setWell 7 = .ok (.i2l, 1) := by decide +kernel
theorem dL_setWell_8 : decode cL_setWell 8 = .ok (.lastore, 1) := by decide +kernel
theorem dL_setWell_9 : decode cL_setWell 9 = .ok (.goto 6, 3) := by decide +kernel
theorem dL_setWell_12 : decode cL_setWell 12 = .ok (.astore_n 3, 1) := by decide +kernel
theorem dL_setWell_13 : decode cL_setWell 13 = .ok (.iconst 1, 1) := by decide +kernel
theorem dL_setWell_14 : decode cL_setWell 14 = .ok (.ireturn, 1) := by decide +kernel
theorem dL_setWell_15 : decode cL_setWell 15 = .ok (.iconst 0, 1) := by decide +kernel
theorem dL_setWell_16 : decode cL_setWell 16 = .ok (.ireturn, 1) := by decide +kernel
theorem dL_pass_0 : decode cL_pass 0 = .ok (.aload_n 2, 1) := by decide +kernel
theorem dL_pass_1 : decode cL_pass 1 = .ok (.iconst 0, 1) := by decide +kernel
theorem dL_pass_2 : decode cL_pass 2 = .ok (.aload_n 0, 1) := by decide +kernel
theorem dL_pass_3 : decode cL_pass 3 = .ok (.iload_n 1, 1) := by decide +kernel
theorem dL_pass_4 : decode cL_pass 4 = .ok (.invokevirtual 133, 3) := by decide +kernel
theorem dL_pass_7 : decode cL_pass 7 = .ok (.i2l, 1) := by decide +kernel
theorem dL_pass_8 : decode cL_pass 8 = .ok (.lastore, 1) := by decide +kernel
theorem dL_pass_9 : decode cL_pass 9 = .ok (.goto 9, 3) := by decide +kernel
theorem dL_pass_12 : decode cL_pass 12 = .ok (.astore_n 3, 1) := by decide +kernel
theorem dL_pass_13 : decode cL_pass 13 = .ok (.iconst 1, 1) := by decide +kernel
theorem dL_pass_14 : decode cL_pass 14 = .ok (.ireturn, 1) := by decide +kernel
theorem dL_pass_15 : decode cL_pass 15 = .ok (.astore_n 3, 1) := by decide +kernel
theorem dL_pass_16 : decode cL_pass 16 = .ok (.iconst 2, 1) := by decide +kernel
theorem dL_pass_17 : decode cL_pass 17 = .ok (.ireturn, 1) := by decide +kernel
theorem dL_pass_18 : decode cL_pass 18 = .ok (.iconst 0, 1) := by decide +kernel
theorem dL_pass_19 : decode cL_pass 19 = .ok (.ireturn, 1) := by decide +kernel
theorem dL_undo_0 : decode cL_undo 0 = .ok (.aload_n 1, 1) := by decide +kernel
theorem dL_undo_1 : decode cL_undo 1 = .ok (.iconst 0, 1) := by decide +kernel
theorem dL_undo_2 : decode cL_undo 2 = .ok (.aload_n 0, 1) := by decide +kernel
theorem dL_undo_3 : decode cL_undo 3 = .ok (.invokevirtual 136, 3) := by decide +kernel
theorem dL_undo_6 : decode cL_undo 6 = .ok (.i2l, 1) := by decide +kernel
theorem dL_undo_7 : decode cL_undo 7 = .ok (.lastore, 1) := by decide +kernel
theorem dL_undo_8 : decode cL_undo 8 = .ok (.goto 6, 3) := by decide +kernel
theorem dL_undo_11 : decode cL_undo 11 = .ok (.astore_n 2, 1) := by decide +kernel
theorem dL_undo_12 : decode cL_undo 12 = .ok (.iconst 1, 1) := by decide +kernel
theorem dL_undo_13 : decode cL_undo 13 = .ok (.ireturn, 1) := by decide +kernel
theorem dL_undo_14 : decode cL_undo 14 = .ok (.iconst 0, 1) := by decide +kernel
theorem dL_undo_15 : decode cL_undo 15 = .ok (.ireturn, 1) := by decide +kernel
theorem dL_printReceipt_0 : decode cL_printReceipt 0 = .ok (.aload_n 2, 1) := by decide +kernel
theorem dL_printReceipt_1 : decode cL_printReceipt 1 = .ok (.iconst 0, 1) := by decide +kernel
theorem dL_printReceipt_2 : decode cL_printReceipt 2 = .ok (.aload_n 0, 1) := by decide +kernel
theorem dL_printReceipt_3 : decode cL_printReceipt 3 = .ok (.iload_n 1, 1) := by decide +kernel
theorem dL_printReceipt_4 : decode cL_printReceipt 4 = .ok (.invokevirtual 139, 3) := by decide +kernel
theorem dL_printReceipt_7 : decode cL_printReceipt 7 = .ok (.i2l, 1) := by decide +kernel
theorem dL_printReceipt_8 : decode cL_printReceipt 8 = .ok (.lastore, 1) := by decide +kernel
theorem dL_printReceipt_9 : decode cL_printReceipt 9 = .ok (.goto 6, 3) := by decide +kernel
theorem dL_printReceipt_12 : decode cL_printReceipt 12 = .ok (.astore_n 3, 1) := by decide +kernel
theorem dL_printReceipt_13 : decode cL_printReceipt 13 = .ok (.iconst 1, 1) := by decide +kernel
theorem dL_printReceipt_14 : decode cL_printReceipt 14 = .ok (.ireturn, 1) := by decide +kernel
theorem dL_printReceipt_15 : decode cL_printReceipt 15 = .ok (.iconst 0, 1) := by decide +kernel
theorem dL_printReceipt_16 : decode cL_printReceipt 16 = .ok (.ireturn, 1) := by decide +kernel
theorem dL_outputByte_0 : decode cL_outputByte 0 = .ok (.aload_n 2, 1) := by decide +kernel
theorem dL_outputByte_1 : decode cL_outputByte 1 = .ok (.iconst 0, 1) := by decide +kernel
theorem dL_outputByte_2 : decode cL_outputByte 2 = .ok (.aload_n 0, 1) := by decide +kernel
theorem dL_outputByte_3 : decode cL_outputByte 3 = .ok (.iload_n 1, 1) := by decide +kernel
theorem dL_outputByte_4 : decode cL_outputByte 4 = .ok (.invokevirtual 142, 3) := by decide +kernel
theorem dL_outputByte_7 : decode cL_outputByte 7 = .ok (.i2l, 1) := by decide +kernel
theorem dL_outputByte_8 : decode cL_outputByte 8 = .ok (.lastore, 1) := by decide +kernel
theorem dL_outputByte_9 : decode cL_outputByte 9 = .ok (.goto 6, 3) := by decide +kernel
theorem dL_outputByte_12 : decode cL_outputByte 12 = .ok (.astore_n 3, 1) := by decide +kernel
theorem dL_outputByte_13 : decode cL_outputByte 13 = .ok (.iconst 1, 1) := by decide +kernel
theorem dL_outputByte_14 : decode cL_outputByte 14 = .ok (.ireturn, 1) := by decide +kernel
theorem dL_outputByte_15 : decode cL_outputByte 15 = .ok (.iconst 0, 1) := by decide +kernel
theorem dL_outputByte_16 : decode cL_outputByte 16 = .ok (.ireturn, 1) := by decide +kernel
theorem dL_restoreState_0 : decode cL_restoreState 0 = .ok (.aload_n 1, 1) := by decide +kernel
theorem dL_restoreState_1 : decode cL_restoreState 1 = .ok (.iconst 0, 1) := by decide +kernel
theorem dL_restoreState_2 : decode cL_restoreState 2 = .ok (.aload_n 0, 1) := by decide +kernel
theorem dL_restoreState_3 : decode cL_restoreState 3 = .ok (.invokevirtual 145, 3) := by decide +kernel
theorem dL_restoreState_6 : decode cL_restoreState 6 = .ok (.i2l, 1) := by decide +kernel
theorem dL_restoreState_7 : decode cL_restoreState 7 = .ok (.lastore, 1) := by decide +kernel
theorem dL_restoreState_8 : decode cL_restoreState 8 = .ok (.goto 6, 3) := by decide +kernel
theorem dL_restoreState_11 : decode cL_restoreState 11 = .ok (.astore_n 2, 1) := by decide +kernel
theorem dL_restoreState_12 : decode cL_restoreState 12 = .ok (.iconst 1, 1) := by decide +kernel
theorem dL_restoreState_13 : decode cL_restoreState 13 = .ok (.ireturn, 1) := by decide +kernel
theorem dL_restoreState_14 : decode cL_restoreState 14 = .ok (.iconst 0, 1) := by decide +kernel
theorem dL_restoreState_15 : decode cL_restoreState 15 = .ok (.ireturn, 1) := by decide +kernel
