theorem dL_put_0 : decode cL_put 0 = .ok (.aload 4, 2) := by decide +kernel
theorem dL_put_2 : decode cL_put 2 = .ok (.iconst 0, 1) := by decide +kernel
theorem dL_put_3 : decode cL_put 3 = .ok (.aload_n 0, 1) := by decide +kernel
theorem dL_put_4 : decode cL_put 4 = .ok (.iload_n 1, 1) := by decide +kernel
theorem dL_put_5 : decode cL_put 5 = .ok (.lload_n 2, 1) := by decide +kernel
theorem dL_put_6 : decode cL_put 6 = .ok (.invokevirtual 7, 3) := by decide +kernel
theorem dL_put_9 : decode cL_put 9 = .ok (.i2l, 1) := by decide +kernel
theorem dL_put_10 : decode cL_put 10 = .ok (.lastore, 1) := by decide +kernel
theorem dL_put_11 : decode cL_put 11 = .ok (.goto 7, 3) := by decide +kernel
theorem dL_put_14 : decode cL_put 14 = .ok (.astore 5, 2) := by decide +kernel
theorem dL_put_16 : decode cL_put 16 = .ok (.iconst 1, 1) := by decide +kernel
theorem dL_put_17 : decode cL_put 17 = .ok (.ireturn, 1) := by decide +kernel
theorem dL_put_18 : decode cL_put 18 = .ok (.iconst 0, 1) := by decide +kernel
theorem dL_put_19 : decode cL_put 19 = .ok (.ireturn, 1) := by decide +kernel
theorem dL_remove_0 : decode cL_remove 0 = .ok (.aload_n 2, 1) := by decide +kernel
theorem dL_remove_1 : decode cL_remove 1 = .ok (.iconst 0, 1) := by decide +kernel
theorem dL_remove_2 : decode cL_remove 2 = .ok (.aload_n 0, 1) := by decide +kernel
theorem dL_remove_3 : decode cL_remove 3 = .ok (.iload_n 1, 1) := by decide +kernel
theorem dL_remove_4 : decode cL_remove 4 = .ok (.invokevirtual 15, 3) := by decide +kernel
theorem dL_remove_7 : decode cL_remove 7 = .ok (.i2l, 1) := by decide +kernel
theorem dL_remove_8 : decode cL_remove 8 = .ok (.lastore, 1) := by decide +kernel
theorem dL_remove_9 : decode cL_remove 9 = .ok (.goto 6, 3) := by decide +kernel
theorem dL_remove_12 : decode cL_remove 12 = .ok (.astore_n 3, 1) := by decide +kernel
theorem dL_remove_13 : decode cL_remove 13 = .ok (.iconst 1, 1) := by decide +kernel
theorem dL_remove_14 : decode cL_remove 14 = .ok (.ireturn, 1) := by decide +kernel
theorem dL_remove_15 : decode cL_remove 15 = .ok (.iconst 0, 1) := by decide +kernel
theorem dL_remove_16 : decode cL_remove 16 = .ok (.ireturn, 1) := by decide +kernel
theorem dL_test_0 : decode cL_test 0 = .ok (.aload_n 0, 1) := by decide +kernel
theorem dL_test_1 : decode cL_test 1 = .ok (.iload_n 1, 1) := by decide +kernel
theorem dL_test_2 : decode cL_test 2 = .ok (.iload_n 2, 1) := by decide +kernel
theorem dL_test_3 : decode cL_test 3 = .ok (.iload_n 3, 1) := by decide +kernel
theorem dL_test_4 : decode cL_test 4 = .ok (.lload 4, 2) := by decide +kernel
theorem dL_test_6 : decode cL_test 6 = .ok (.invokevirtual 19, 3) := by decide +kernel
theorem dL_test_9 : decode cL_test 9 = .ok (.goto 11, 3) := by decide +kernel
theorem dL_test_12 : decode cL_test 12 = .ok (.astore 6, 2) := by decide +kernel
theorem dL_test_14 : decode cL_test 14 = .ok (.iconst 1, 1) := by decide +kernel
theorem dL_test_15 : decode cL_test 15 = .ok (.ireturn, 1) := by decide +kernel
theorem dL_test_16 : decode cL_test 16 = .ok (.astore 6, 2) := by decide +kernel
theorem dL_test_18 : decode cL_test 18 = .ok (.iconst 2, 1) := by decide +kernel
theorem dL_test_19 : decode cL_test 19 = .ok (.ireturn, 1) := by decide +kernel
theorem dL_test_20 : decode cL_test 20 = .ok (.iconst 0, 1) := by decide +kernel
theorem dL_test_21 : decode cL_test 21 = .ok (.ireturn, 1) := by decide +kernel
theorem dL_step_0 : decode cL_step 0 = .ok (.aload_n 0, 1) := by decide +kernel
theorem dL_step_1 : decode cL_step 1 = .ok (.iload_n 1, 1) := by decide +kernel
theorem dL_step_2 : decode cL_step 2 = .ok (.iload_n 2, 1) := by decide +kernel
theorem dL_step_3 : decode cL_step 3 = .ok (.iload_n 3, 1) := by decide +kernel
theorem dL_step_4 : decode cL_step 4 = .ok (.lload 4, 2) := by decide +kernel
theorem dL_step_6 : decode cL_step 6 = .ok (.invokevirtual 27, 3) := by decide +kernel
theorem dL_step_9 : decode cL_step 9 = .ok (.goto 7, 3) := by decide +kernel
theorem dL_step_12 : decode cL_step 12 = .ok (.astore 6, 2) := by decide +kernel
theorem dL_step_14 : decode cL_step 14 = .ok (.iconst 1, 1) := by decide +kernel
theorem dL_step_15 : decode cL_step 15 = .ok (.ireturn, 1) := by decide +kernel
theorem dL_step_16 : decode cL_step 16 = .ok (.iconst 0, 1) := by decide +kernel
theorem dL_step_17 : decode cL_step 17 = .ok (.ireturn, 1) := by decide +kernel
theorem dL_deal_0 : decode cL_deal 0 = .ok (.aload_n 1, 1) := by decide +kernel
theorem dL_deal_1 : decode cL_deal 1 = .ok (.iconst 0, 1) := by decide +kernel
theorem dL_deal_2 : decode cL_deal 2 = .ok (.aload_n 0, 1) := by decide +kernel
theorem dL_deal_3 : decode cL_deal 3 = .ok (.invokevirtual 31, 3) := by decide +kernel
theorem dL_deal_6 : decode cL_deal 6 = .ok (.i2l, 1) := by decide +kernel
theorem dL_deal_7 : decode cL_deal 7 = .ok (.lastore, 1) := by decide +kernel
theorem dL_deal_8 : decode cL_deal 8 = .ok (.goto 6, 3) := by decide +kernel
theorem dL_deal_11 : decode cL_deal 11 = .ok (.astore_n 2, 1) := by decide +kernel
theorem dL_deal_12 : decode cL_deal 12 = .ok (.iconst 1, 1) := by decide +kernel
theorem dL_deal_13 : decode cL_deal 13 = .ok (.ireturn, 1) := by decide +kernel
theorem dL_deal_14 : decode cL_deal 14 = .ok (.iconst 0, 1) := by decide +kernel
theorem dL_deal_15 : decode cL_deal 15 = .ok (.ireturn, 1) := by decide +kernel
theorem dL_get_0 : decode cL_get 0 = .ok (.aload_n 3, 1) := by decide +kernel
theorem dL_get_1 : decode cL_get 1 = .ok (.iconst 0, 1) := by decide +kernel
theorem dL_get_2 : decode cL_get 2 = .ok (.aload_n 0, 1) := by decide +kernel
theorem dL_get_3 : decode cL_get 3 = .ok (.iload_n 1, 1) := by decide +kernel
theorem dL_get_4 : decode cL_get 4 = .ok (.iload_n 2, 1) := by decide +kernel
theorem dL_get_5 : decode cL_get 5 = .ok (.invokevirtual 35, 3) := by decide +kernel
theorem dL_get_8 : decode cL_get 8 = .ok (.lastore, 1) := by decide +kernel
theorem dL_get_9 : decode cL_get 9 = .ok (.goto 15, 3) := by decide +kernel
theorem dL_get_12 : decode cL_get 12 = .ok (.astore 4, 2) := by decide +kernel
theorem dL_get_14 : decode cL_get 14 = .ok (.iconst 1, 1) := by decide +kernel
theorem dL_get_15 : decode cL_get 15 = .ok (.ireturn, 1) := by decide +kernel
theorem dL_get_16 : decode cL_get 16 = .ok (.astore 4, 2) := by decide +kernel
theorem dL_get_18 : decode cL_get 18 = .ok (.iconst 2, 1) := by decide +kernel
theorem dL_get_19 : decode cL_get 19 = .ok (.ireturn, 1) := by decide +kernel
theorem dL_get_20 : decode cL_get 20 = .ok (.astore 4, 2) := by decide +kernel
theorem dL_get_22 : decode cL_get 22 = .ok (.iconst 3, 1) := by decide +kernel
theorem dL_get_23 : decode cL_get 23 = .ok (.ireturn, 1) := by decide +kernel
theorem dL_get_24 : decode cL_get 24 = .ok (.iconst 0, 1) := by decide +kernel
theorem dL_get_25 : decode cL_get 25 = .ok (.ireturn, 1) := by decide +kernel
theorem dL_state_0 : decode cL_state 0 = .ok (.aload 4, 2) := by decide +kernel
theorem dL_state_2 : decode cL_state 2 = .ok (.iconst 0, 1) := by decide +kernel
theorem dL_state_3 : decode cL_state 3 = .ok (.aload_n 0, 1) := by decide +kernel
theorem dL_state_4 : decode cL_state 4 = .ok (.iload_n 1, 1) := by decide +kernel
theorem dL_state_5 : decode cL_state 5 = .ok (.iload_n 2, 1) := by decide +kernel
theorem dL_state_6 : decode cL_state 6 = .ok (.iload_n 3, 1) := by decide +kernel
theorem dL_state_7 : decode cL_state 7 = .ok (.invokevirtual 41, 3) := by decide +kernel
theorem dL_state_10 : decode cL_state 10 = .ok (.i2l, 1) := by decide +kernel
theorem dL_state_11 : decode cL_state 11 = .ok (.lastore, 1) := by decide +kernel
theorem dL_state_12 : decode cL_state 12 = .ok (.goto 11, 3) := by decide +kernel
theorem dL_state_15 : decode cL_state 15 = .ok (.astore 5, 2) := by decide +kernel
theorem dL_state_17 : decode cL_state 17 = .ok (.iconst 1, 1) := by decide +kernel
theorem dL_state_18 : decode cL_state 18 = .ok (.ireturn, 1) := by decide +kernel
theorem dL_state_19 : decode cL_state 19 = .ok (.astore 5, 2) := by decide +kernel
theorem dL_state_21 : decode cL_state 21 = .ok (.iconst 2, 1) := by decide +kernel
theorem dL_state_22 : decode cL_state 22 = .ok (.ireturn, 1) := by decide +kernel
theorem dL_state_23 : decode cL_state 23 = .ok (.iconst 0, 1) := by decide +kernel
theorem dL_state_24 : decode cL_state 24 = .ok (.ireturn, 1) := by decide +kernel
theorem dL_many_0 : decode cL_many 0 = .ok (.aload 4, 2) := by decide +kernel
theorem dL_many_2 : decode cL_many 2 = .ok (.iconst 0, 1) := by decide +kernel
theorem dL_many_3 : decode cL_many 3 = .ok (.aload_n 0, 1) := by decide +kernel
theorem dL_many_4 : decode cL_many 4 = .ok (.iload_n 1, 1) := by decide +kernel
theorem dL_many_5 : decode cL_many 5 = .ok (.iload_n 2, 1) := by decide +kernel
theorem dL_many_6 : decode cL_many 6 = .ok (.iload_n 3, 1) := by decide +kernel
theorem dL_many_7 : decode cL_many 7 = .ok (.invokevirtual 45, 3) := by decide +kernel
theorem dL_many_10 : decode cL_many 10 = .ok (.i2l, 1) := by decide +kernel
theorem dL_many_11 : decode cL_many 11 = .ok (.lastore, 1) := by decide +kernel
theorem dL_many_12 : decode cL_many 12 = .ok (.goto 11, 3) := by decide +kernel
theorem dL_many_15 : decode cL_many 15 = .ok (.astore 5, 2) := by decide +kernel
theorem dL_many_17 : decode cL_many 17 = .ok (.iconst 1, 1) := by decide +kernel
theorem dL_many_18 : decode cL_many 18 = .ok (.ireturn, 1) := by decide +kernel
theorem dL_many_19 : decode cL_many 19 = .ok (.astore 5, 2) := by decide +kernel
theorem dL_many_21 : decode cL_many 21 = .ok (.iconst 2, 1) := by decide +kernel
theorem dL_many_22 : decode cL_many 22 = .ok (.ireturn, 1) := by decide +kernel
theorem dL_many_23 : decode cL_many 23 = .ok (.iconst 0, 1) := by decide +kernel
theorem dL_many_24 : decode cL_many 24 = .ok (.ireturn, 1) := by decide +kernel
theorem dL_key_0 : decode cL_key 0 = .ok (.aload 5, 2) := by decide +kernel
theorem dL_key_2 : decode cL_key 2 = .ok (.iconst 0, 1) := by decide +kernel
theorem dL_key_3 : decode cL_key 3 = .ok (.aload_n 0, 1) := by decide +kernel
theorem dL_key_4 : decode cL_key 4 = .ok (.iload_n 1, 1) := by decide +kernel
theorem dL_key_5 : decode cL_key 5 = .ok (.iload_n 2, 1) := by decide +kernel
theorem dL_key_6 : decode cL_key 6 = .ok (.iload_n 3, 1) := by decide +kernel
theorem dL_key_7 : decode cL_key 7 = .ok (.iload 4, 2) := by decide +kernel
theorem dL_key_9 : decode cL_key 9 = .ok (.invokevirtual 48, 3) := by decide +kernel
theorem dL_key_12 : decode cL_key 12 = .ok (.i2l, 1) := by decide +kernel
theorem dL_key_13 : decode cL_key 13 = .ok (.lastore, 1) := by decide +kernel
theorem dL_key_14 : decode cL_key 14 = .ok (.goto 15, 3) := by decide +kernel
theorem dL_key_17 : decode cL_key 17 = .ok (.astore 6, 2) := by decide +kernel
theorem dL_key_19 : decode cL_key 19 = .ok (.iconst 1, 1) := by decide +kernel
theorem dL_key_20 : decode cL_key 20 = .ok (.ireturn, 1) := by decide +kernel
theorem dL_key_21 : decode cL_key 21 = .ok (.astore 6, 2) := by decide +kernel
theorem dL_key_23 : decode cL_key 23 = .ok (.iconst 2, 1) := by decide +kernel
theorem dL_key_24 : decode cL_key 24 = .ok (.ireturn, 1) := by decide +kernel
theorem dL_key_25 : decode cL_key 25 = .ok (.astore 6, 2) := by decide +kernel
theorem dL_key_27 : decode cL_key 27 = .ok (.iconst 3, 1) := by decide +kernel
theorem dL_key_28 : decode cL_key 28 = .ok (.ireturn, 1) := by decide +kernel
theorem dL_key_29 : decode cL_key 29 = .ok (.iconst 0, 1) := by decide +kernel
theorem dL_key_30 : decode cL_key 30 = .ok (.ireturn, 1) := by decide +kernel
theorem dL_compact_0 : decode cL_compact 0 = .ok (.aload_n 0, 1) := by decide +kernel
theorem dL_compact_1 : decode cL_compact 1 = .ok (.iload_n 1, 1) := by decide +kernel
theorem dL_compact_2 : decode cL_compact 2 = .ok (.invokevirtual 52, 3) := by decide +kernel
theorem dL_compact_5 : decode cL_compact 5 = .ok (.goto 9, 3) := by decide +kernel
theorem dL_compact_8 : decode cL_compact 8 = .ok (.astore_n 2, 1) := by decide +kernel
theorem dL_compact_9 : decode cL_compact 9 = .ok (.iconst 1, 1) := by decide +kernel
theorem dL_compact_10 : decode cL_compact 10 = .ok (.ireturn, 1) := by decide +kernel
theorem dL_compact_11 : decode cL_compact 11 = .ok (.astore_n 2, 1) := by decide +kernel
theorem dL_compact_12 : decode cL_compact 12 = .ok (.iconst 2, 1) := by decide +kernel
theorem dL_compact_13 : decode cL_compact 13 = .ok (.ireturn, 1) := by decide +kernel
theorem dL_compact_14 : decode cL_compact 14 = .ok (.iconst 0, 1) := by decide +kernel
theorem dL_compact_15 : decode cL_compact 15 = .ok (.ireturn, 1) := by decide +kernel
theorem dL_event_0 : decode cL_event 0 = .ok (.aload 4, 2) := by decide +kernel
theorem dL_event_2 : decode cL_event 2 = .ok (.iconst 0, 1) := by decide +kernel
theorem dL_event_3 : decode cL_event 3 = .ok (.aload_n 0, 1) := by decide +kernel
theorem dL_event_4 : decode cL_event 4 = .ok (.iload_n 1, 1) := by decide +kernel
theorem dL_event_5 : decode cL_event 5 = .ok (.iload_n 2, 1) := by decide +kernel
theorem dL_event_6 : decode cL_event 6 = .ok (.iload_n 3, 1) := by decide +kernel
theorem dL_event_7 : decode cL_event 7 = .ok (.invokevirtual 56, 3) := by decide +kernel
theorem dL_event_10 : decode cL_event 10 = .ok (.i2l, 1) := by decide +kernel
theorem dL_event_11 : decode cL_event 11 = .ok (.lastore, 1) := by decide +kernel
theorem dL_event_12 : decode cL_event 12 = .ok (.goto 15, 3) := by decide +kernel
theorem dL_event_15 : decode cL_event 15 = .ok (.astore 5, 2) := by decide +kernel
theorem dL_event_17 : decode cL_event 17 = .ok (.iconst 1, 1) := by decide +kernel
theorem dL_event_18 : decode cL_event 18 = .ok (.ireturn, 1) := by decide +kernel
theorem dL_event_19 : decode cL_event 19 = .ok (.astore 5, 2) := by decide +kernel
theorem dL_event_21 : decode cL_event 21 = .ok (.iconst 2, 1) := by decide +kernel
theorem dL_event_22 : decode cL_event 22 = .ok (.ireturn, 1) := by decide +kernel
theorem dL_event_23 : decode cL_event 23 = .ok (.astore 5, 2) := by decide +kernel
theorem dL_event_25 : decode cL_event 25 = .ok (.iconst 3, 1) := by decide +kernel
theorem dL_event_26 : decode cL_event 26 = .ok (.ireturn, 1) := by decide +kernel
theorem dL_event_27 : decode cL_event 27 = .ok (.iconst 0, 1) := by decide +kernel
theorem dL_event_28 : decode cL_event 28 = .ok (.ireturn, 1) := by decide +kernel
