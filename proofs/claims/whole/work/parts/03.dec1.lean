theorem dX3_init_0 : decode cX3_init 0 = .ok (.aload_n 0, 1) := by decide +kernel
theorem dX3_init_1 : decode cX3_init 1 = .ok (.invokespecial 1, 3) := by decide +kernel
theorem dX3_init_4 : decode cX3_init 4 = .ok (.aload_n 0, 1) := by decide +kernel
theorem dX3_init_5 : decode cX3_init 5 = .ok (.new 7, 3) := by decide +kernel
theorem dX3_init_8 : decode cX3_init 8 = .ok (.dup, 1) := by decide +kernel
theorem dX3_init_9 : decode cX3_init 9 = .ok (.invokespecial 9, 3) := by decide +kernel
theorem dX3_init_12 : decode cX3_init 12 = .ok (.putfield 10, 3) := by decide +kernel
theorem dX3_init_15 : decode cX3_init 15 = .ok (.aload_n 0, 1) := by decide +kernel
theorem dX3_init_16 : decode cX3_init 16 = .ok (.new 16, 3) := by decide +kernel
theorem dX3_init_19 : decode cX3_init 19 = .ok (.dup, 1) := by decide +kernel
theorem dX3_init_20 : decode cX3_init 20 = .ok (.invokespecial 18, 3) := by decide +kernel
theorem dX3_init_23 : decode cX3_init 23 = .ok (.putfield 19, 3) := by decide +kernel
theorem dX3_init_26 : decode cX3_init 26 = .ok (.aload_n 0, 1) := by decide +kernel
theorem dX3_init_27 : decode cX3_init 27 = .ok (.new 23, 3) := by decide +kernel
theorem dX3_init_30 : decode cX3_init 30 = .ok (.dup, 1) := by decide +kernel
theorem dX3_init_31 : decode cX3_init 31 = .ok (.invokespecial 25, 3) := by decide +kernel
theorem dX3_init_34 : decode cX3_init 34 = .ok (.putfield 26, 3) := by decide +kernel
theorem dX3_init_37 : decode cX3_init 37 = .ok (.aload_n 0, 1) := by decide +kernel
theorem dX3_init_38 : decode cX3_init 38 = .ok (.new 23, 3) := by decide +kernel
theorem dX3_init_41 : decode cX3_init 41 = .ok (.dup, 1) := by decide +kernel
theorem dX3_init_42 : decode cX3_init 42 = .ok (.invokespecial 25, 3) := by decide +kernel
theorem dX3_init_45 : decode cX3_init 45 = .ok (.putfield 30, 3) := by decide +kernel
theorem dX3_init_48 : decode cX3_init 48 = .ok (.aload_n 0, 1) := by decide +kernel
theorem dX3_init_49 : decode cX3_init 49 = .ok (.iconst 0, 1) := by decide +kernel
theorem dX3_init_50 : decode cX3_init 50 = .ok (.putfield 33, 3) := by decide +kernel
theorem dX3_init_53 : decode cX3_init 53 = .ok (.return_, 1) := by decide +kernel
theorem dX3_put_0 : decode cX3_put 0 = .ok (.aload_n 0, 1) := by decide +kernel
theorem dX3_put_1 : decode cX3_put 1 = .ok (.iconst 1, 1) := by decide +kernel
theorem dX3_put_2 : decode cX3_put 2 = .ok (.invokevirtual 37, 3) := by decide +kernel
theorem dX3_put_5 : decode cX3_put 5 = .ok (.aload_n 0, 1) := by decide +kernel
theorem dX3_put_6 : decode cX3_put 6 = .ok (.getfield 10, 3) := by decide +kernel
theorem dX3_put_9 : decode cX3_put 9 = .ok (.invokevirtual 41, 3) := by decide +kernel
theorem dX3_put_12 : decode cX3_put 12 = .ok (.aload_n 0, 1) := by decide +kernel
theorem dX3_put_13 : decode cX3_put 13 = .ok (.getfield 10, 3) := by decide +kernel
theorem dX3_put_16 : decode cX3_put 16 = .ok (.iload_n 1, 1) := by decide +kernel
theorem dX3_put_17 : decode cX3_put 17 = .ok (.lload_n 2, 1) := by decide +kernel
theorem dX3_put_18 : decode cX3_put 18 = .ok (.invokevirtual 44, 3) := by decide +kernel
theorem dX3_put_21 : decode cX3_put 21 = .ok (.aload_n 0, 1) := by decide +kernel
theorem dX3_put_22 : decode cX3_put 22 = .ok (.getfield 10, 3) := by decide +kernel
theorem dX3_put_25 : decode cX3_put 25 = .ok (.getfield 48, 3) := by decide +kernel
theorem dX3_put_28 : decode cX3_put 28 = .ok (.ireturn, 1) := by decide +kernel
theorem dX3_remove_0 : decode cX3_remove 0 = .ok (.aload_n 0, 1) := by decide +kernel
theorem dX3_remove_1 : decode cX3_remove 1 = .ok (.getfield 10, 3) := by decide +kernel
theorem dX3_remove_4 : decode cX3_remove 4 = .ok (.iload_n 1, 1) := by decide +kernel
theorem dX3_remove_5 : decode cX3_remove 5 = .ok (.invokevirtual 51, 3) := by decide +kernel
theorem dX3_remove_8 : decode cX3_remove 8 = .ok (.ifCond .ne 5, 3) := by decide +kernel
theorem dX3_remove_11 : decode cX3_remove 11 = .ok (.iconst 0, 1) := by decide +kernel
theorem dX3_remove_12 : decode cX3_remove 12 = .ok (.ireturn, 1) := by decide +kernel
theorem dX3_remove_13 : decode cX3_remove 13 = .ok (.aload_n 0, 1) := by decide +kernel
theorem dX3_remove_14 : decode cX3_remove 14 = .ok (.iconst 1, 1) := by decide +kernel
theorem dX3_remove_15 : decode cX3_remove 15 = .ok (.invokevirtual 37, 3) := by decide +kernel
theorem dX3_remove_18 : decode cX3_remove 18 = .ok (.aload_n 0, 1) := by decide +kernel
theorem dX3_remove_19 : decode cX3_remove 19 = .ok (.getfield 10, 3) := by decide +kernel
theorem dX3_remove_22 : decode cX3_remove 22 = .ok (.invokevirtual 41, 3) := by decide +kernel
theorem dX3_remove_25 : decode cX3_remove 25 = .ok (.aload_n 0, 1) := by decide +kernel
theorem dX3_remove_26 : decode cX3_remove 26 = .ok (.getfield 10, 3) := by decide +kernel
theorem dX3_remove_29 : decode cX3_remove 29 = .ok (.iload_n 1, 1) := by decide +kernel
theorem dX3_remove_30 : decode cX3_remove 30 = .ok (.invokevirtual 55, 3) := by decide +kernel
theorem dX3_remove_33 : decode cX3_remove 33 = .ok (.aload_n 0, 1) := by decide +kernel
theorem dX3_remove_34 : decode cX3_remove 34 = .ok (.getfield 10, 3) := by decide +kernel
theorem dX3_remove_37 : decode cX3_remove 37 = .ok (.getfield 48, 3) := by decide +kernel
theorem dX3_remove_40 : decode cX3_remove 40 = .ok (.ireturn, 1) := by decide +kernel
theorem dX3_test_0 : decode cX3_test 0 = .ok (.iload_n 2, 1) := by decide +kernel
theorem dX3_test_1 : decode cX3_test 1 = .ok (.ifCond .lt 18, 3) := by decide +kernel
theorem dX3_test_4 : decode cX3_test 4 = .ok (.iload_n 2, 1) := by decide +kernel
theorem dX3_test_5 : decode cX3_test 5 = .ok (.iconst 3, 1) := by decide +kernel
theorem dX3_test_6 : decode cX3_test 6 = .ok (.if_icmp .gt 13, 3) := by decide +kernel
theorem dX3_test_9 : decode cX3_test 9 = .ok (.iload_n 3, 1) := by decide +kernel
theorem dX3_test_10 : decode cX3_test 10 = .ok (.iconst (-1), 1) := by decide +kernel
theorem dX3_test_11 : decode cX3_test 11 = .ok (.if_icmp .lt 8, 3) := by decide +kernel
theorem dX3_test_14 : decode cX3_test 14 = .ok (.iload_n 3, 1) := by decide +kernel
theorem dX3_test_15 : decode cX3_test 15 = .ok (.iconst 1, 1) := by decide +kernel
theorem dX3_test_16 : decode cX3_test 16 = .ok (.if_icmp .le 11, 3) := by decide +kernel
theorem dX3_test_19 : decode cX3_test 19 = .ok (.new 58, 3) := by decide +kernel
theorem dX3_test_22 : decode cX3_test 22 = .ok (.dup, 1) := by decide +kernel
theorem dX3_test_23 : decode cX3_test 23 = .ok (.invokespecial 60, 3) := by decide +kernel
theorem dX3_test_26 : decode cX3_test 26 = .ok (.athrow, 1) := by decide +kernel
theorem dX3_test_27 : decode cX3_test 27 = .ok (.aload_n 0, 1) := by decide +kernel
theorem dX3_test_28 : decode cX3_test 28 = .ok (.getfield 19, 3) := by decide +kernel
theorem dX3_test_31 : decode cX3_test 31 = .ok (.getfield 61, 3) := by decide +kernel
theorem dX3_test_34 : decode cX3_test 34 = .ok (.bipush 20, 2) := by decide +kernel
theorem dX3_test_36 : decode cX3_test 36 = .ok (.if_icmp .lt 11, 3) := by decide +kernel
theorem dX3_test_39 : decode cX3_test 39 = .ok (.new 64, 3) := by decide +kernel
theorem dX3_test_42 : decode cX3_test 42 = .ok (.dup, 1) := by decide +kernel
theorem dX3_test_43 : decode cX3_test 43 = .ok (.invokespecial 66, 3) := by decide +kernel
theorem dX3_test_46 : decode cX3_test 46 = .ok (.athrow, 1) := by decide +kernel
theorem dX3_test_47 : decode cX3_test 47 = .ok (.aload_n 0, 1) := by decide +kernel
theorem dX3_test_48 : decode cX3_test 48 = .ok (.getfield 19, 3) := by decide +kernel
theorem dX3_test_51 : decode cX3_test 51 = .ok (.iload_n 1, 1) := by decide +kernel
theorem dX3_test_52 : decode cX3_test 52 = .ok (.iload_n 2, 1) := by decide +kernel
theorem dX3_test_53 : decode cX3_test 53 = .ok (.iload_n 3, 1) := by decide +kernel
theorem dX3_test_54 : decode cX3_test 54 = .ok (.lload 4, 2) := by decide +kernel
theorem dX3_test_56 : decode cX3_test 56 = .ok (.invokevirtual 67, 3) := by decide +kernel
theorem dX3_test_59 : decode cX3_test 59 = .ok (.return_, 1) := by decide +kernel
theorem dX3_step_0 : decode cX3_step 0 = .ok (.iload_n 1, 1) := by decide +kernel
theorem dX3_step_1 : decode cX3_step 1 = .ok (.ifCond .eq 10, 3) := by decide +kernel
theorem dX3_step_4 : decode cX3_step 4 = .ok (.aload_n 0, 1) := by decide +kernel
theorem dX3_step_5 : decode cX3_step 5 = .ok (.getfield 26, 3) := by decide +kernel
theorem dX3_step_8 : decode cX3_step 8 = .ok (.goto 7, 3) := by decide +kernel
theorem dX3_step_11 : decode cX3_step 11 = .ok (.aload_n 0, 1) := by decide +kernel
theorem dX3_step_12 : decode cX3_step 12 = .ok (.getfield 30, 3) := by decide +kernel
theorem dX3_step_15 : decode cX3_step 15 = .ok (.astore 6, 2) := by decide +kernel
theorem dX3_step_17 : decode cX3_step 17 = .ok (.aload 6, 2) := by decide +kernel
theorem dX3_step_19 : decode cX3_step 19 = .ok (.getfield 71, 3) := by decide +kernel
theorem dX3_step_22 : decode cX3_step 22 = .ok (.bipush 20, 2) := by decide +kernel
theorem dX3_step_24 : decode cX3_step 24 = .ok (.if_icmp .lt 11, 3) := by decide +kernel
theorem dX3_step_27 : decode cX3_step 27 = .ok (.new 64, 3) := by decide +kernel
theorem dX3_step_30 : decode cX3_step 30 = .ok (.dup, 1) := by decide +kernel
theorem dX3_step_31 : decode cX3_step 31 = .ok (.invokespecial 66, 3) := by decide +kernel
theorem dX3_step_34 : decode cX3_step 34 = .ok (.athrow, 1) := by decide +kernel
theorem dX3_step_35 : decode cX3_step 35 = .ok (.aload 6, 2) := by decide +kernel
theorem dX3_step_37 : decode cX3_step 37 = .ok (.iload_n 2, 1) := by decide +kernel
theorem dX3_step_38 : decode cX3_step 38 = .ok (.iload_n 3, 1) := by decide +kernel
theorem dX3_step_39 : decode cX3_step 39 = .ok (.lload 4, 2) := by decide +kernel
theorem dX3_step_41 : decode cX3_step 41 = .ok (.invokevirtual 72, 3) := by decide +kernel
theorem dX3_step_44 : decode cX3_step 44 = .ok (.return_, 1) := by decide +kernel
theorem dX3_deal_0 : decode cX3_deal 0 = .ok (.aload_n 0, 1) := by decide +kernel
theorem dX3_deal_1 : decode cX3_deal 1 = .ok (.getfield 19, 3) := by decide +kernel
theorem dX3_deal_4 : decode cX3_deal 4 = .ok (.aload_n 0, 1) := by decide +kernel
theorem dX3_deal_5 : decode cX3_deal 5 = .ok (.getfield 10, 3) := by decide +kernel
theorem dX3_deal_8 : decode cX3_deal 8 = .ok (.invokevirtual 75, 3) := by decide +kernel
theorem dX3_deal_11 : decode cX3_deal 11 = .ok (.istore_n 1, 1) := by decide +kernel
theorem dX3_deal_12 : decode cX3_deal 12 = .ok (.iload_n 1, 1) := by decide +kernel
theorem dX3_deal_13 : decode cX3_deal 13 = .ok (.ifCond .eq 10, 3) := by decide +kernel
theorem dX3_deal_16 : decode cX3_deal 16 = .ok (.aload_n 0, 1) := by decide +kernel
theorem dX3_deal_17 : decode cX3_deal 17 = .ok (.getfield 26, 3) := by decide +kernel
theorem dX3_deal_20 : decode cX3_deal 20 = .ok (.goto 7, 3) := by decide +kernel
theorem dX3_deal_23 : decode cX3_deal 23 = .ok (.aload_n 0, 1) := by decide +kernel
theorem dX3_deal_24 : decode cX3_deal 24 = .ok (.getfield 30, 3) := by decide +kernel
theorem dX3_deal_27 : decode cX3_deal 27 = .ok (.astore_n 2, 1) := by decide +kernel
theorem dX3_deal_28 : decode cX3_deal 28 = .ok (.aload_n 2, 1) := by decide +kernel
theorem dX3_deal_29 : decode cX3_deal 29 = .ok (.aload_n 0, 1) := by decide +kernel
theorem dX3_deal_30 : decode cX3_deal 30 = .ok (.getfield 10, 3) := by decide +kernel
theorem dX3_deal_33 : decode cX3_deal 33 = .ok (.invokevirtual 79, 3) := by decide +kernel
theorem dX3_deal_36 : decode cX3_deal 36 = .ok (.istore_n 3, 1) := by decide +kernel
theorem dX3_deal_37 : decode cX3_deal 37 = .ok (.aload_n 0, 1) := by decide +kernel
theorem dX3_deal_38 : decode cX3_deal 38 = .ok (.iload_n 3, 1) := by decide +kernel
theorem dX3_deal_39 : decode cX3_deal 39 = .ok (.invokevirtual 37, 3) := by decide +kernel
theorem dX3_deal_42 : decode cX3_deal 42 = .ok (.iload_n 3, 1) := by decide +kernel
theorem dX3_deal_43 : decode cX3_deal 43 = .ok (.ifCond .le 18, 3) := by decide +kernel
theorem dX3_deal_46 : decode cX3_deal 46 = .ok (.aload_n 0, 1) := by decide +kernel
theorem dX3_deal_47 : decode cX3_deal 47 = .ok (.getfield 10, 3) := by decide +kernel
theorem dX3_deal_50 : decode cX3_deal 50 = .ok (.invokevirtual 41, 3) := by decide +kernel
theorem dX3_deal_53 : decode cX3_deal 53 = .ok (.aload_n 2, 1) := by decide +kernel
theorem dX3_deal_54 : decode cX3_deal 54 = .ok (.aload_n 0, 1) := by decide +kernel
theorem dX3_deal_55 : decode cX3_deal 55 = .ok (.getfield 10, 3) := by decide +kernel
theorem dX3_deal_58 : decode cX3_deal 58 = .ok (.invokevirtual 83, 3) := by decide +kernel
theorem dX3_deal_61 : decode cX3_deal 61 = .ok (.aload_n 0, 1) := by decide +kernel
theorem dX3_deal_62 : decode cX3_deal 62 = .ok (.getfield 19, 3) := by decide +kernel
theorem dX3_deal_65 : decode cX3_deal 65 = .ok (.invokevirtual 87, 3) := by decide +kernel
theorem dX3_deal_68 : decode cX3_deal 68 = .ok (.aload_n 0, 1) := by decide +kernel
theorem dX3_deal_69 : decode cX3_deal 69 = .ok (.getfield 26, 3) := by decide +kernel
theorem dX3_deal_72 : decode cX3_deal 72 = .ok (.invokevirtual 90, 3) := by decide +kernel
theorem dX3_deal_75 : decode cX3_deal 75 = .ok (.aload_n 0, 1) := by decide +kernel
theorem dX3_deal_76 : decode cX3_deal 76 = .ok (.getfield 30, 3) := by decide +kernel
theorem dX3_deal_79 : decode cX3_deal 79 = .ok (.invokevirtual 90, 3) := by decide +kernel
theorem dX3_deal_82 : decode cX3_deal 82 = .ok (.iload_n 1, 1) := by decide +kernel
theorem dX3_deal_83 : decode cX3_deal 83 = .ok (.ifCond .eq 7, 3) := by decide +kernel
theorem dX3_deal_86 : decode cX3_deal 86 = .ok (.iconst 1, 1) := by decide +kernel
theorem dX3_deal_87 : decode cX3_deal 87 = .ok (.goto 4, 3) := by decide +kernel
theorem dX3_deal_90 : decode cX3_deal 90 = .ok (.iconst 2, 1) := by decide +kernel
theorem dX3_deal_91 : decode cX3_deal 91 = .ok (.ireturn, 1) := by decide +kernel
theorem dX3_get_0 : decode cX3_get 0 = .ok (.aload_n 0, 1) := by decide +kernel
theorem dX3_get_1 : decode cX3_get 1 = .ok (.getfield 10, 3) := by decide +kernel
theorem dX3_get_4 : decode cX3_get 4 = .ok (.iload_n 1, 1) := by decide +kernel
theorem dX3_get_5 : decode cX3_get 5 = .ok (.aload_n 0, 1) := by decide +kernel
theorem dX3_get_6 : decode cX3_get 6 = .ok (.iload_n 2, 1) := by decide +kernel
theorem dX3_get_7 : decode cX3_get 7 = .ok (.invokevirtual 91, 3) := by decide +kernel
theorem dX3_get_10 : decode cX3_get 10 = .ok (.invokevirtual 95, 3) := by decide +kernel
theorem dX3_get_13 : decode cX3_get 13 = .ok (.istore_n 3, 1) := by decide +kernel
theorem dX3_get_14 : decode cX3_get 14 = .ok (.iload_n 3, 1) := by decide +kernel
theorem dX3_get_15 : decode cX3_get 15 = .ok (.iconst (-1), 1) := by decide +kernel
theorem dX3_get_16 : decode cX3_get 16 = .ok (.if_icmp .ne 11, 3) := by decide +kernel
theorem dX3_get_19 : decode cX3_get 19 = .ok (.new 99, 3) := by decide +kernel
theorem dX3_get_22 : decode cX3_get 22 = .ok (.dup, 1) := by decide +kernel
theorem dX3_get_23 : decode cX3_get 23 = .ok (.invokespecial 101, 3) := by decide +kernel
theorem dX3_get_26 : decode cX3_get 26 = .ok (.athrow, 1) := by decide +kernel
theorem dX3_get_27 : decode cX3_get 27 = .ok (.aload_n 0, 1) := by decide +kernel
theorem dX3_get_28 : decode cX3_get 28 = .ok (.getfield 10, 3) := by decide +kernel
theorem dX3_get_31 : decode cX3_get 31 = .ok (.getfield 102, 3) := by decide +kernel
theorem dX3_get_34 : decode cX3_get 34 = .ok (.iload_n 3, 1) := by decide +kernel
theorem dX3_get_35 : decode cX3_get 35 = .ok (.laload, 1) := by decide +kernel
theorem dX3_get_36 : decode cX3_get 36 = .ok (.lreturn, 1) := by decide +kernel
theorem dX3_state_0 : decode cX3_state 0 = .ok (.iload_n 3, 1) := by decide +kernel
theorem dX3_state_1 : decode cX3_state 1 = .ok (.iconst 1, 1) := by decide +kernel
theorem dX3_state_2 : decode cX3_state 2 = .ok (.if_icmp .lt 8, 3) := by decide +kernel
theorem dX3_state_5 : decode cX3_state 5 = .ok (.iload_n 3, 1) := by decide +kernel
theorem dX3_state_6 : decode cX3_state 6 = .ok (.iconst 3, 1) := by decide +kernel
theorem dX3_state_7 : decode cX3_state 7 = .ok (.if_icmp .le 11, 3) := by decide +kernel
theorem dX3_state_10 : decode cX3_state 10 = .ok (.new 58, 3) := by decide +kernel
theorem dX3_state_13 : decode cX3_state 13 = .ok (.dup, 1) := by decide +kernel
theorem dX3_state_14 : decode cX3_state 14 = .ok (.invokespecial 60, 3) := by decide +kernel
theorem dX3_state_17 : decode cX3_state 17 = .ok (.athrow, 1) := by decide +kernel
theorem dX3_state_18 : decode cX3_state 18 = .ok (.aload_n 0, 1) := by decide +kernel
theorem dX3_state_19 : decode cX3_state 19 = .ok (.getfield 10, 3) := by decide +kernel
theorem dX3_state_22 : decode cX3_state 22 = .ok (.iload_n 1, 1) := by decide +kernel
theorem dX3_state_23 : decode cX3_state 23 = .ok (.aload_n 0, 1) := by decide +kernel
theorem dX3_state_24 : decode cX3_state 24 = .ok (.iload_n 2, 1) := by decide +kernel
theorem dX3_state_25 : decode cX3_state 25 = .ok (.invokevirtual 91, 3) := by decide +kernel
theorem dX3_state_28 : decode cX3_state 28 = .ok (.iload_n 3, 1) := by decide +kernel
theorem dX3_state_29 : decode cX3_state 29 = .ok (.invokevirtual 106, 3) := by decide +kernel
theorem dX3_state_32 : decode cX3_state 32 = .ok (.l2i, 1) := by decide +kernel
theorem dX3_state_33 : decode cX3_state 33 = .ok (.ireturn, 1) := by decide +kernel
theorem dX3_many_0 : decode cX3_many 0 = .ok (.aload_n 0, 1) := by decide +kernel
theorem dX3_many_1 : decode cX3_many 1 = .ok (.getfield 10, 3) := by decide +kernel
theorem dX3_many_4 : decode cX3_many 4 = .ok (.iload_n 1, 1) := by decide +kernel
theorem dX3_many_5 : decode cX3_many 5 = .ok (.iload_n 2, 1) := by decide +kernel
theorem dX3_many_6 : decode cX3_many 6 = .ok (.aload_n 0, 1) := by decide +kernel
theorem dX3_many_7 : decode cX3_many 7 = .ok (.iload_n 3, 1) := by decide +kernel
theorem dX3_many_8 : decode cX3_many 8 = .ok (.invokevirtual 91, 3) := by decide +kernel
theorem dX3_many_11 : decode cX3_many 11 = .ok (.invokevirtual 110, 3) := by decide +kernel
theorem dX3_many_14 : decode cX3_many 14 = .ok (.ireturn, 1) := by decide +kernel
theorem dX3_key_0 : decode cX3_key 0 = .ok (.aload_n 0, 1) := by decide +kernel
theorem dX3_key_1 : decode cX3_key 1 = .ok (.getfield 10, 3) := by decide +kernel
theorem dX3_key_4 : decode cX3_key 4 = .ok (.iload_n 1, 1) := by decide +kernel
theorem dX3_key_5 : decode cX3_key 5 = .ok (.iload_n 2, 1) := by decide +kernel
theorem dX3_key_6 : decode cX3_key 6 = .ok (.aload_n 0, 1) := by decide +kernel
theorem dX3_key_7 : decode cX3_key 7 = .ok (.iload_n 3, 1) := by decide +kernel
theorem dX3_key_8 : decode cX3_key 8 = .ok (.invokevirtual 91, 3) := by decide +kernel
theorem dX3_key_11 : decode cX3_key 11 = .ok (.iload 4, 2) := by decide +kernel
theorem dX3_key_13 : decode cX3_key 13 = .ok (.invokevirtual 114, 3) := by decide +kernel
theorem dX3_key_16 : decode cX3_key 16 = .ok (.istore 5, 2) := by decide +kernel
theorem dX3_key_18 : decode cX3_key 18 = .ok (.iload 5, 2) := by decide +kernel
theorem dX3_key_20 : decode cX3_key 20 = .ok (.iconst (-1), 1) := by decide +kernel
theorem dX3_key_21 : decode cX3_key 21 = .ok (.if_icmp .ne 11, 3) := by decide +kernel
theorem dX3_key_24 : decode cX3_key 24 = .ok (.new 99, 3) := by decide +kernel
theorem dX3_key_27 : decode cX3_key 27 = .ok (.dup, 1) := by decide +kernel
theorem dX3_key_28 : decode cX3_key 28 = .ok (.invokespecial 101, 3) := by decide +kernel
theorem dX3_key_31 : decode cX3_key 31 = .ok (.athrow, 1) := by decide +kernel
theorem dX3_key_32 : decode cX3_key 32 = .ok (.aload_n 0, 1) := by decide +kernel
theorem dX3_key_33 : decode cX3_key 33 = .ok (.getfield 10, 3) := by decide +kernel
theorem dX3_key_36 : decode cX3_key 36 = .ok (.getfield 118, 3) := by decide +kernel
theorem dX3_key_39 : decode cX3_key 39 = .ok (.iload 5, 2) := by decide +kernel
theorem dX3_key_41 : decode cX3_key 41 = .ok (.iaload, 1) := by decide +kernel
theorem dX3_key_42 : decode cX3_key 42 = .ok (.ireturn, 1) := by decide +kernel
theorem dX3_compact_0 : decode cX3_compact 0 = .ok (.iload_n 1, 1) := by decide +kernel
theorem dX3_compact_1 : decode cX3_compact 1 = .ok (.iconst 1, 1) := by decide +kernel
theorem dX3_compact_2 : decode cX3_compact 2 = .ok (.if_icmp .lt 14, 3) := by decide +kernel
theorem dX3_compact_5 : decode cX3_compact 5 = .ok (.iload_n 1, 1) := by decide +kernel
theorem dX3_compact_6 : decode cX3_compact 6 = .ok (.aload_n 0, 1) := by decide +kernel
theorem dX3_compact_7 : decode cX3_compact 7 = .ok (.getfield 10, 3) := by decide +kernel
theorem dX3_compact_10 : decode cX3_compact 10 = .ok (.getfield 48, 3) := by decide +kernel
theorem dX3_compact_13 : decode cX3_compact 13 = .ok (.if_icmp .le 11, 3) := by decide +kernel
theorem dX3_compact_16 : decode cX3_compact 16 = .ok (.new 58, 3) := by decide +kernel
theorem dX3_compact_19 : decode cX3_compact 19 = .ok (.dup, 1) := by decide +kernel
theorem dX3_compact_20 : decode cX3_compact 20 = .ok (.invokespecial 60, 3) := by decide +kernel
theorem dX3_compact_23 : decode cX3_compact 23 = .ok (.athrow, 1) := by decide +kernel
theorem dX3_compact_24 : decode cX3_compact 24 = .ok (.iload_n 1, 1) := by decide +kernel
theorem dX3_compact_25 : decode cX3_compact 25 = .ok (.aload_n 0, 1) := by decide +kernel
theorem dX3_compact_26 : decode cX3_compact 26 = .ok (.getfield 33, 3) := by decide +kernel
theorem dX3_compact_29 : decode cX3_compact 29 = .ok (.if_icmp .gt 11, 3) := by decide +kernel
theorem dX3_compact_32 : decode cX3_compact 32 = .ok (.new 64, 3) := by decide +kernel
theorem dX3_compact_35 : decode cX3_compact 35 = .ok (.dup, 1) := by decide +kernel
theorem dX3_compact_36 : decode cX3_compact 36 = .ok (.invokespecial 66, 3) := by decide +kernel
theorem dX3_compact_39 : decode cX3_compact 39 = .ok (.athrow, 1) := by decide +kernel
theorem dX3_compact_40 : decode cX3_compact 40 = .ok (.aload_n 0, 1) := by decide +kernel
theorem dX3_compact_41 : decode cX3_compact 41 = .ok (.iload_n 1, 1) := by decide +kernel
theorem dX3_compact_42 : decode cX3_compact 42 = .ok (.putfield 33, 3) := by decide +kernel
theorem dX3_compact_45 : decode cX3_compact 45 = .ok (.return_, 1) := by decide +kernel
theorem dX3_event_0 : decode cX3_event 0 = .ok (.iload_n 1, 1) := by decide +kernel
theorem dX3_event_1 : decode cX3_event 1 = .ok (.iconst 1, 1) := by decide +kernel
theorem dX3_event_2 : decode cX3_event 2 = .ok (.if_icmp .lt 12, 3) := by decide +kernel
theorem dX3_event_5 : decode cX3_event 5 = .ok (.iload_n 3, 1) := by decide +kernel
theorem dX3_event_6 : decode cX3_event 6 = .ok (.ifCond .lt 8, 3) := by decide +kernel
theorem dX3_event_9 : decode cX3_event 9 = .ok (.iload_n 3, 1) := by decide +kernel
theorem dX3_event_10 : decode cX3_event 10 = .ok (.iconst 2, 1) := by decide +kernel
theorem dX3_event_11 : decode cX3_event 11 = .ok (.if_icmp .le 11, 3) := by decide +kernel
theorem dX3_event_14 : decode cX3_event 14 = .ok (.new 58, 3) := by decide +kernel
theorem dX3_event_17 : decode cX3_event 17 = .ok (.dup, 1) := by decide +kernel
theorem dX3_event_18 : decode cX3_event 18 = .ok (.invokespecial 60, 3) := by decide +kernel
theorem dX3_event_21 : decode cX3_event 21 = .ok (.athrow, 1) := by decide +kernel
theorem dX3_event_22 : decode cX3_event 22 = .ok (.iload_n 1, 1) := by decide +kernel
theorem dX3_event_23 : decode cX3_event 23 = .ok (.aload_n 0, 1) := by decide +kernel
theorem dX3_event_24 : decode cX3_event 24 = .ok (.getfield 33, 3) := by decide +kernel
theorem dX3_event_27 : decode cX3_event 27 = .ok (.if_icmp .gt 11, 3) := by decide +kernel
theorem dX3_event_30 : decode cX3_event 30 = .ok (.new 64, 3) := by decide +kernel
theorem dX3_event_33 : decode cX3_event 33 = .ok (.dup, 1) := by decide +kernel
theorem dX3_event_34 : decode cX3_event 34 = .ok (.invokespecial 66, 3) := by decide +kernel
theorem dX3_event_37 : decode cX3_event 37 = .ok (.athrow, 1) := by decide +kernel
theorem dX3_event_38 : decode cX3_event 38 = .ok (.aload_n 0, 1) := by decide +kernel
theorem dX3_event_39 : decode cX3_event 39 = .ok (.getfield 10, 3) := by decide +kernel
theorem dX3_event_42 : decode cX3_event 42 = .ok (.iload_n 1, 1) := by decide +kernel
theorem dX3_event_43 : decode cX3_event 43 = .ok (.invokevirtual 122, 3) := by decide +kernel
theorem dX3_event_46 : decode cX3_event 46 = .ok (.istore 4, 2) := by decide +kernel
theorem dX3_event_48 : decode cX3_event 48 = .ok (.iload_n 2, 1) := by decide +kernel
theorem dX3_event_49 : decode cX3_event 49 = .ok (.ifCond .lt 17, 3) := by decide +kernel
theorem dX3_event_52 : decode cX3_event 52 = .ok (.iload_n 2, 1) := by decide +kernel
theorem dX3_event_53 : decode cX3_event 53 = .ok (.aload_n 0, 1) := by decide +kernel
theorem dX3_event_54 : decode cX3_event 54 = .ok (.getfield 10, 3) := by decide +kernel
theorem dX3_event_57 : decode cX3_event 57 = .ok (.getfield 125, 3) := by decide +kernel
theorem dX3_event_60 : decode cX3_event 60 = .ok (.iload 4, 2) := by decide +kernel
theorem dX3_event_62 : decode cX3_event 62 = .ok (.isub, 1) := by decide +kernel
theorem dX3_event_63 : decode cX3_event 63 = .ok (.if_icmp .lt 11, 3) := by decide +kernel
theorem dX3_event_66 : decode cX3_event 66 = .ok (.new 99, 3) := by decide +kernel
theorem dX3_event_69 : decode cX3_event 69 = .ok (.dup, 1) := by decide +kernel
theorem dX3_event_70 : decode cX3_event 70 = .ok (.invokespecial 101, 3) := by decide +kernel
theorem dX3_event_73 : decode cX3_event 73 = .ok (.athrow, 1) := by decide +kernel
theorem dX3_event_74 : decode cX3_event 74 = .ok (.aload_n 0, 1) := by decide +kernel
theorem dX3_event_75 : decode cX3_event 75 = .ok (.getfield 10, 3) := by decide +kernel
theorem dX3_event_78 : decode cX3_event 78 = .ok (.iload 4, 2) := by decide +kernel
theorem dX3_event_80 : decode cX3_event 80 = .ok (.iload_n 2, 1) := by decide +kernel
theorem dX3_event_81 : decode cX3_event 81 = .ok (.iadd, 1) := by decide +kernel
theorem dX3_event_82 : decode cX3_event 82 = .ok (.iload_n 3, 1) := by decide +kernel
theorem dX3_event_83 : decode cX3_event 83 = .ok (.invokevirtual 126, 3) := by decide +kernel
theorem dX3_event_86 : decode cX3_event 86 = .ok (.ireturn, 1) := by decide +kernel
theorem dX3_count_0 : decode cX3_count 0 = .ok (.iload_n 1, 1) := by decide +kernel
theorem dX3_count_1 : decode cX3_count 1 = .ok (.tableswitch 96 0 6 #[43, 51, 56, 64, 72, 80, 88], 43) := by decide +kernel
theorem dX3_count_44 : decode cX3_count 44 = .ok (.aload_n 0, 1) := by decide +kernel
theorem dX3_count_45 : decode cX3_count 45 = .ok (.getfield 10, 3) := by decide +kernel
theorem dX3_count_48 : decode cX3_count 48 = .ok (.getfield 48, 3) := by decide +kernel
theorem dX3_count_51 : decode cX3_count 51 = .ok (.ireturn, 1) := by decide +kernel
theorem dX3_count_52 : decode cX3_count 52 = .ok (.aload_n 0, 1) := by decide +kernel
theorem dX3_count_53 : decode cX3_count 53 = .ok (.getfield 33, 3) := by decide +kernel
theorem dX3_count_56 : decode cX3_count 56 = .ok (.ireturn, 1) := by decide +kernel
theorem dX3_count_57 : decode cX3_count 57 = .ok (.aload_n 0, 1) := by decide +kernel
theorem dX3_count_58 : decode cX3_count 58 = .ok (.getfield 10, 3) := by decide +kernel
theorem dX3_count_61 : decode cX3_count 61 = .ok (.getfield 125, 3) := by decide +kernel
theorem dX3_count_64 : decode cX3_count 64 = .ok (.ireturn, 1) := by decide +kernel
theorem dX3_count_65 : decode cX3_count 65 = .ok (.aload_n 0, 1) := by decide +kernel
theorem dX3_count_66 : decode cX3_count 66 = .ok (.getfield 19, 3) := by decide +kernel
theorem dX3_count_69 : decode cX3_count 69 = .ok (.getfield 61, 3) := by decide +kernel
theorem dX3_count_72 : decode cX3_count 72 = .ok (.ireturn, 1) := by decide +kernel
theorem dX3_count_73 : decode cX3_count 73 = .ok (.aload_n 0, 1) := by decide +kernel
theorem dX3_count_74 : decode cX3_count 74 = .ok (.getfield 26, 3) := by decide +kernel
theorem dX3_count_77 : decode cX3_count 77 = .ok (.getfield 71, 3) := by decide +kernel
theorem dX3_count_80 : decode cX3_count 80 = .ok (.ireturn, 1) := by decide +kernel
theorem dX3_count_81 : decode cX3_count 81 = .ok (.aload_n 0, 1) := by decide +kernel
theorem dX3_count_82 : decode cX3_count 82 = .ok (.getfield 30, 3) := by decide +kernel
theorem dX3_count_85 : decode cX3_count 85 = .ok (.getfield 71, 3) := by decide +kernel
theorem dX3_count_88 : decode cX3_count 88 = .ok (.ireturn, 1) := by decide +kernel
theorem dX3_count_89 : decode cX3_count 89 = .ok (.aload_n 0, 1) := by decide +kernel
theorem dX3_count_90 : decode cX3_count 90 = .ok (.getfield 10, 3) := by decide +kernel
theorem dX3_count_93 : decode cX3_count 93 = .ok (.invokevirtual 129, 3) := by decide +kernel
theorem dX3_count_96 : decode cX3_count 96 = .ok (.ireturn, 1) := by decide +kernel
theorem dX3_count_97 : decode cX3_count 97 = .ok (.iconst (-1), 1) := by decide +kernel
theorem dX3_count_98 : decode cX3_count 98 = .ok (.ireturn, 1) := by decide +kernel
theorem dX3_refuseIfFull_0 : decode cX3_refuseIfFull 0 = .ok (.iload_n 1, 1) := by decide +kernel
theorem dX3_refuseIfFull_1 : decode cX3_refuseIfFull 1 = .ok (.sipush 300, 3) := by decide +kernel
theorem dX3_refuseIfFull_4 : decode cX3_refuseIfFull 4 = .ok (.aload_n 0, 1) := by decide +kernel
theorem dX3_refuseIfFull_5 : decode cX3_refuseIfFull 5 = .ok (.getfield 10, 3) := by decide +kernel
theorem dX3_refuseIfFull_8 : decode cX3_refuseIfFull 8 = .ok (.getfield 125, 3) := by decide +kernel
theorem dX3_refuseIfFull_11 : decode cX3_refuseIfFull 11 = .ok (.isub, 1) := by decide +kernel
theorem dX3_refuseIfFull_12 : decode cX3_refuseIfFull 12 = .ok (.if_icmp .le 11, 3) := by decide +kernel
theorem dX3_refuseIfFull_15 : decode cX3_refuseIfFull 15 = .ok (.new 133, 3) := by decide +kernel
theorem dX3_refuseIfFull_18 : decode cX3_refuseIfFull 18 = .ok (.dup, 1) := by decide +kernel
theorem dX3_refuseIfFull_19 : decode cX3_refuseIfFull 19 = .ok (.invokespecial 135, 3) := by decide +kernel
theorem dX3_refuseIfFull_22 : decode cX3_refuseIfFull 22 = .ok (.athrow, 1) := by decide +kernel
theorem dX3_refuseIfFull_23 : decode cX3_refuseIfFull 23 = .ok (.return_, 1) := by decide +kernel
theorem dX3_readingRevision_0 : decode cX3_readingRevision 0 = .ok (.iload_n 1, 1) := by decide +kernel
theorem dX3_readingRevision_1 : decode cX3_readingRevision 1 = .ok (.ifCond .ge 11, 3) := by decide +kernel
theorem dX3_readingRevision_4 : decode cX3_readingRevision 4 = .ok (.new 58, 3) := by decide +kernel
theorem dX3_readingRevision_7 : decode cX3_readingRevision 7 = .ok (.dup, 1) := by decide +kernel
theorem dX3_readingRevision_8 : decode cX3_readingRevision 8 = .ok (.invokespecial 60, 3) := by decide +kernel
theorem dX3_readingRevision_11 : decode cX3_readingRevision 11 = .ok (.athrow, 1) := by decide +kernel
theorem dX3_readingRevision_12 : decode cX3_readingRevision 12 = .ok (.iload_n 1, 1) := by decide +kernel
theorem dX3_readingRevision_13 : decode cX3_readingRevision 13 = .ok (.ifCond .ne 11, 3) := by decide +kernel
theorem dX3_readingRevision_16 : decode cX3_readingRevision 16 = .ok (.aload_n 0, 1) := by decide +kernel
theorem dX3_readingRevision_17 : decode cX3_readingRevision 17 = .ok (.getfield 10, 3) := by decide +kernel
theorem dX3_readingRevision_20 : decode cX3_readingRevision 20 = .ok (.getfield 48, 3) := by decide +kernel
theorem dX3_readingRevision_23 : decode cX3_readingRevision 23 = .ok (.ireturn, 1) := by decide +kernel
theorem dX3_readingRevision_24 : decode cX3_readingRevision 24 = .ok (.iload_n 1, 1) := by decide +kernel
theorem dX3_readingRevision_25 : decode cX3_readingRevision 25 = .ok (.aload_n 0, 1) := by decide +kernel
theorem dX3_readingRevision_26 : decode cX3_readingRevision 26 = .ok (.getfield 33, 3) := by decide +kernel
theorem dX3_readingRevision_29 : decode cX3_readingRevision 29 = .ok (.if_icmp .lt 14, 3) := by decide +kernel
theorem dX3_readingRevision_32 : decode cX3_readingRevision 32 = .ok (.iload_n 1, 1) := by decide +kernel
theorem dX3_readingRevision_33 : decode cX3_readingRevision 33 = .ok (.aload_n 0, 1) := by decide +kernel
theorem dX3_readingRevision_34 : decode cX3_readingRevision 34 = .ok (.getfield 10, 3) := by decide +kernel
theorem dX3_readingRevision_37 : decode cX3_readingRevision 37 = .ok (.getfield 48, 3) := by decide +kernel
theorem dX3_readingRevision_40 : decode cX3_readingRevision 40 = .ok (.if_icmp .le 11, 3) := by decide +kernel
theorem dX3_readingRevision_43 : decode cX3_readingRevision 43 = .ok (.new 64, 3) := by decide +kernel
theorem dX3_readingRevision_46 : decode cX3_readingRevision 46 = .ok (.dup, 1) := by decide +kernel
theorem dX3_readingRevision_47 : decode cX3_readingRevision 47 = .ok (.invokespecial 66, 3) := by decide +kernel
theorem dX3_readingRevision_50 : decode cX3_readingRevision 50 = .ok (.athrow, 1) := by decide +kernel
theorem dX3_readingRevision_51 : decode cX3_readingRevision 51 = .ok (.iload_n 1, 1) := by decide +kernel
theorem dX3_readingRevision_52 : decode cX3_readingRevision 52 = .ok (.ireturn, 1) := by decide +kernel
theorem dX0_init_0 : decode cX0_init 0 = .ok (.aload_n 0, 1) := by decide +kernel
theorem dX0_init_1 : decode cX0_init 1 = .ok (.invokespecial 3, 3) := by decide +kernel
theorem dX0_init_4 : decode cX0_init 4 = .ok (.aload_n 0, 1) := by decide +kernel
theorem dX0_init_5 : decode cX0_init 5 = .ok (.iconst 0, 1) := by decide +kernel
theorem dX0_init_6 : decode cX0_init 6 = .ok (.putfield 9, 3) := by decide +kernel
theorem dX0_init_9 : decode cX0_init 9 = .ok (.aload_n 0, 1) := by decide +kernel
theorem dX0_init_10 : decode cX0_init 10 = .ok (.iconst 0, 1) := by decide +kernel
theorem dX0_init_11 : decode cX0_init 11 = .ok (.putfield 15, 3) := by decide +kernel
theorem dX0_init_14 : decode cX0_init 14 = .ok (.aload_n 0, 1) := by decide +kernel
theorem dX0_init_15 : decode cX0_init 15 = .ok (.sipush 300, 3) := by decide +kernel
theorem dX0_init_18 : decode cX0_init 18 = .ok (.newarray .int, 2) := by decide +kernel
theorem dX0_init_20 : decode cX0_init 20 = .ok (.putfield 18, 3) := by decide +kernel
theorem dX0_init_23 : decode cX0_init 23 = .ok (.aload_n 0, 1) := by decide +kernel
theorem dX0_init_24 : decode cX0_init 24 = .ok (.sipush 300, 3) := by decide +kernel
theorem dX0_init_27 : decode cX0_init 27 = .ok (.newarray .int, 2) := by decide +kernel
theorem dX0_init_29 : decode cX0_init 29 = .ok (.putfield 22, 3) := by decide +kernel
theorem dX0_init_32 : decode cX0_init 32 = .ok (.aload_n 0, 1) := by decide +kernel
theorem dX0_init_33 : decode cX0_init 33 = .ok (.sipush 300, 3) := by decide +kernel
theorem dX0_init_36 : decode cX0_init 36 = .ok (.newarray .boolean, 2) := by decide +kernel
theorem dX0_init_38 : decode cX0_init 38 = .ok (.putfield 25, 3) := by decide +kernel
theorem dX0_init_41 : decode cX0_init 41 = .ok (.aload_n 0, 1) := by decide +kernel
theorem dX0_init_42 : decode cX0_init 42 = .ok (.sipush 300, 3) := by decide +kernel
theorem dX0_init_45 : decode cX0_init 45 = .ok (.newarray .long, 2) := by decide +kernel
theorem dX0_init_47 : decode cX0_init 47 = .ok (.putfield 29, 3) := by decide +kernel
theorem dX0_init_50 : decode cX0_init 50 = .ok (.aload_n 0, 1) := by decide +kernel
theorem dX0_init_51 : decode cX0_init 51 = .ok (.sipush 300, 3) := by decide +kernel
theorem dX0_init_54 : decode cX0_init 54 = .ok (.newarray .int, 2) := by decide +kernel
theorem dX0_init_56 : decode cX0_init 56 = .ok (.putfield 33, 3) := by decide +kernel
theorem dX0_init_59 : decode cX0_init 59 = .ok (.aload_n 0, 1) := by decide +kernel
theorem dX0_init_60 : decode cX0_init 60 = .ok (.sipush 300, 3) := by decide +kernel
theorem dX0_init_63 : decode cX0_init 63 = .ok (.newarray .int, 2) := by decide +kernel
theorem dX0_init_65 : decode cX0_init 65 = .ok (.putfield 36, 3) := by decide +kernel
theorem dX0_init_68 : decode cX0_init 68 = .ok (.aload_n 0, 1) := by decide +kernel
theorem dX0_init_69 : decode cX0_init 69 = .ok (.sipush 300, 3) := by decide +kernel
theorem dX0_init_72 : decode cX0_init 72 = .ok (.newarray .int, 2) := by decide +kernel
theorem dX0_init_74 : decode cX0_init 74 = .ok (.putfield 39, 3) := by decide +kernel
theorem dX0_init_77 : decode cX0_init 77 = .ok (.aload_n 0, 1) := by decide +kernel
theorem dX0_init_78 : decode cX0_init 78 = .ok (.sipush 300, 3) := by decide +kernel
theorem dX0_init_81 : decode cX0_init 81 = .ok (.newarray .int, 2) := by decide +kernel
theorem dX0_init_83 : decode cX0_init 83 = .ok (.putfield 42, 3) := by decide +kernel
theorem dX0_init_86 : decode cX0_init 86 = .ok (.return_, 1) := by decide +kernel
theorem dX0_openRevision_0 : decode cX0_openRevision 0 = .ok (.aload_n 0, 1) := by decide +kernel
theorem dX0_openRevision_1 : decode cX0_openRevision 1 = .ok (.dup, 1) := by decide +kernel
theorem dX0_openRevision_2 : decode cX0_openRevision 2 = .ok (.getfield 9, 3) := by decide +kernel
theorem dX0_openRevision_5 : decode cX0_openRevision 5 = .ok (.iconst 1, 1) := by decide +kernel
theorem dX0_openRevision_6 : decode cX0_openRevision 6 = .ok (.iadd, 1) := by decide +kernel
theorem dX0_openRevision_7 : decode cX0_openRevision 7 = .ok (.putfield 9, 3) := by decide +kernel
theorem dX0_openRevision_10 : decode cX0_openRevision 10 = .ok (.return_, 1) := by decide +kernel
theorem dX0_appendSet_0 : decode cX0_appendSet 0 = .ok (.aload_n 0, 1) := by decide +kernel
theorem dX0_appendSet_1 : decode cX0_appendSet 1 = .ok (.iload_n 1, 1) := by decide +kernel
theorem dX0_appendSet_2 : decode cX0_appendSet 2 = .ok (.aload_n 0, 1) := by decide +kernel
theorem dX0_appendSet_3 : decode cX0_appendSet 3 = .ok (.getfield 9, 3) := by decide +kernel
theorem dX0_appendSet_6 : decode cX0_appendSet 6 = .ok (.invokevirtual 45, 3) := by decide +kernel
theorem dX0_appendSet_9 : decode cX0_appendSet 9 = .ok (.istore 4, 2) := by decide +kernel
theorem dX0_appendSet_11 : decode cX0_appendSet 11 = .ok (.aload_n 0, 1) := by decide +kernel
theorem dX0_appendSet_12 : decode cX0_appendSet 12 = .ok (.iload_n 1, 1) := by decide +kernel
theorem dX0_appendSet_13 : decode cX0_appendSet 13 = .ok (.iload 4, 2) := by decide +kernel
theorem dX0_appendSet_15 : decode cX0_appendSet 15 = .ok (.invokevirtual 49, 3) := by decide +kernel
theorem dX0_appendSet_18 : decode cX0_appendSet 18 = .ok (.istore 5, 2) := by decide +kernel
theorem dX0_appendSet_20 : decode cX0_appendSet 20 = .ok (.aload_n 0, 1) := by decide +kernel
theorem dX0_appendSet_21 : decode cX0_appendSet 21 = .ok (.getfield 25, 3) := by decide +kernel
theorem dX0_appendSet_24 : decode cX0_appendSet 24 = .ok (.iload 5, 2) := by decide +kernel
theorem dX0_appendSet_26 : decode cX0_appendSet 26 = .ok (.iconst 1, 1) := by decide +kernel
theorem dX0_appendSet_27 : decode cX0_appendSet 27 = .ok (.bastore, 1) := by decide +kernel
theorem dX0_appendSet_28 : decode cX0_appendSet 28 = .ok (.aload_n 0, 1) := by decide +kernel
theorem dX0_appendSet_29 : decode cX0_appendSet 29 = .ok (.getfield 29, 3) := by decide +kernel
theorem dX0_appendSet_32 : decode cX0_appendSet 32 = .ok (.iload 5, 2) := by decide +kernel
theorem dX0_appendSet_34 : decode cX0_appendSet 34 = .ok (.lload_n 2, 1) := by decide +kernel
theorem dX0_appendSet_35 : decode cX0_appendSet 35 = .ok (.lastore, 1) := by decide +kernel
theorem dX0_appendSet_36 : decode cX0_appendSet 36 = .ok (.aload_n 0, 1) := by decide +kernel
theorem dX0_appendSet_37 : decode cX0_appendSet 37 = .ok (.getfield 33, 3) := by decide +kernel
theorem dX0_appendSet_40 : decode cX0_appendSet 40 = .ok (.iload 5, 2) := by decide +kernel
theorem dX0_appendSet_42 : decode cX0_appendSet 42 = .ok (.iload 4, 2) := by decide +kernel
theorem dX0_appendSet_44 : decode cX0_appendSet 44 = .ok (.iconst (-1), 1) := by decide +kernel
theorem dX0_appendSet_45 : decode cX0_appendSet 45 = .ok (.if_icmp .ne 7, 3) := by decide +kernel
theorem dX0_appendSet_48 : decode cX0_appendSet 48 = .ok (.iconst 1, 1) := by decide +kernel
theorem dX0_appendSet_49 : decode cX0_appendSet 49 = .ok (.goto 12, 3) := by decide +kernel
theorem dX0_appendSet_52 : decode cX0_appendSet 52 = .ok (.aload_n 0, 1) := by decide +kernel
theorem dX0_appendSet_53 : decode cX0_appendSet 53 = .ok (.getfield 33, 3) := by decide +kernel
theorem dX0_appendSet_56 : decode cX0_appendSet 56 = .ok (.iload 4, 2) := by decide +kernel
theorem dX0_appendSet_58 : decode cX0_appendSet 58 = .ok (.iaload, 1) := by decide +kernel
theorem dX0_appendSet_59 : decode cX0_appendSet 59 = .ok (.iconst 1, 1) := by decide +kernel
theorem dX0_appendSet_60 : decode cX0_appendSet 60 = .ok (.iadd, 1) := by decide +kernel
theorem dX0_appendSet_61 : decode cX0_appendSet 61 = .ok (.iastore, 1) := by decide +kernel
theorem dX0_appendSet_62 : decode cX0_appendSet 62 = .ok (.aload_n 0, 1) := by decide +kernel
theorem dX0_appendSet_63 : decode cX0_appendSet 63 = .ok (.getfield 36, 3) := by decide +kernel
theorem dX0_appendSet_66 : decode cX0_appendSet 66 = .ok (.iload 5, 2) := by decide +kernel
theorem dX0_appendSet_68 : decode cX0_appendSet 68 = .ok (.iload 4, 2) := by decide +kernel
theorem dX0_appendSet_70 : decode cX0_appendSet 70 = .ok (.iconst (-1), 1) := by decide +kernel
theorem dX0_appendSet_71 : decode cX0_appendSet 71 = .ok (.if_icmp .ne 10, 3) := by decide +kernel
theorem dX0_appendSet_74 : decode cX0_appendSet 74 = .ok (.aload_n 0, 1) := by decide +kernel
theorem dX0_appendSet_75 : decode cX0_appendSet 75 = .ok (.getfield 9, 3) := by decide +kernel
theorem dX0_appendSet_78 : decode cX0_appendSet 78 = .ok (.goto 10, 3) := by decide +kernel
theorem dX0_appendSet_81 : decode cX0_appendSet 81 = .ok (.aload_n 0, 1) := by decide +kernel
theorem dX0_appendSet_82 : decode cX0_appendSet 82 = .ok (.getfield 36, 3) := by decide +kernel
theorem dX0_appendSet_85 : decode cX0_appendSet 85 = .ok (.iload 4, 2) := by decide +kernel
theorem dX0_appendSet_87 : decode cX0_appendSet 87 = .ok (.iaload, 1) := by decide +kernel
theorem dX0_appendSet_88 : decode cX0_appendSet 88 = .ok (.iastore, 1) := by decide +kernel
theorem dX0_appendSet_89 : decode cX0_appendSet 89 = .ok (.return_, 1) := by decide +kernel
theorem dX0_appendRemoval_0 : decode cX0_appendRemoval 0 = .ok (.aload_n 0, 1) := by decide +kernel
theorem dX0_appendRemoval_1 : decode cX0_appendRemoval 1 = .ok (.iload_n 1, 1) := by decide +kernel
theorem dX0_appendRemoval_2 : decode cX0_appendRemoval 2 = .ok (.aload_n 0, 1) := by decide +kernel
theorem dX0_appendRemoval_3 : decode cX0_appendRemoval 3 = .ok (.getfield 9, 3) := by decide +kernel
theorem dX0_appendRemoval_6 : decode cX0_appendRemoval 6 = .ok (.invokevirtual 45, 3) := by decide +kernel
theorem dX0_appendRemoval_9 : decode cX0_appendRemoval 9 = .ok (.istore_n 2, 1) := by decide +kernel
theorem dX0_appendRemoval_10 : decode cX0_appendRemoval 10 = .ok (.iload_n 2, 1) := by decide +kernel
theorem dX0_appendRemoval_11 : decode cX0_appendRemoval 11 = .ok (.iconst (-1), 1) := by decide +kernel
theorem dX0_appendRemoval_12 : decode cX0_appendRemoval 12 = .ok (.if_icmp .eq 10, 3) := by decide +kernel
theorem dX0_appendRemoval_15 : decode cX0_appendRemoval 15 = .ok (.aload_n 0, 1) := by decide +kernel
theorem dX0_appendRemoval_16 : decode cX0_appendRemoval 16 = .ok (.iload_n 1, 1) := by decide +kernel
theorem dX0_appendRemoval_17 : decode cX0_appendRemoval 17 = .ok (.iload_n 2, 1) := by decide +kernel
theorem dX0_appendRemoval_18 : decode cX0_appendRemoval 18 = .ok (.invokevirtual 49, 3) := by decide +kernel
theorem dX0_appendRemoval_21 : decode cX0_appendRemoval 21 = .ok (.pop, 1) := by decide +kernel
theorem dX0_appendRemoval_22 : decode cX0_appendRemoval 22 = .ok (.return_, 1) := by decide +kernel
theorem dX0_append_0 : decode cX0_append 0 = .ok (.iload_n 2, 1) := by decide +kernel
theorem dX0_append_1 : decode cX0_append 1 = .ok (.iconst (-1), 1) := by decide +kernel
theorem dX0_append_2 : decode cX0_append 2 = .ok (.if_icmp .eq 13, 3) := by decide +kernel
theorem dX0_append_5 : decode cX0_append 5 = .ok (.aload_n 0, 1) := by decide +kernel
theorem dX0_append_6 : decode cX0_append 6 = .ok (.getfield 39, 3) := by decide +kernel
theorem dX0_append_9 : decode cX0_append 9 = .ok (.iload_n 2, 1) := by decide +kernel
theorem dX0_append_10 : decode cX0_append 10 = .ok (.aload_n 0, 1) := by decide +kernel
theorem dX0_append_11 : decode cX0_append 11 = .ok (.getfield 9, 3) := by decide +kernel
theorem dX0_append_14 : decode cX0_append 14 = .ok (.iastore, 1) := by decide +kernel
theorem dX0_append_15 : decode cX0_append 15 = .ok (.aload_n 0, 1) := by decide +kernel
theorem dX0_append_16 : decode cX0_append 16 = .ok (.getfield 15, 3) := by decide +kernel
theorem dX0_append_19 : decode cX0_append 19 = .ok (.istore_n 3, 1) := by decide +kernel
theorem dX0_append_20 : decode cX0_append 20 = .ok (.aload_n 0, 1) := by decide +kernel
theorem dX0_append_21 : decode cX0_append 21 = .ok (.dup, 1) := by decide +kernel
theorem dX0_append_22 : decode cX0_append 22 = .ok (.getfield 15, 3) := by decide +kernel
theorem dX0_append_25 : decode cX0_append 25 = .ok (.iconst 1, 1) := by decide +kernel
theorem dX0_append_26 : decode cX0_append 26 = .ok (.iadd, 1) := by decide +kernel
theorem dX0_append_27 : decode cX0_append 27 = .ok (.putfield 15, 3) := by decide +kernel
theorem dX0_append_30 : decode cX0_append 30 = .ok (.aload_n 0, 1) := by decide +kernel
theorem dX0_append_31 : decode cX0_append 31 = .ok (.getfield 18, 3) := by decide +kernel
theorem dX0_append_34 : decode cX0_append 34 = .ok (.iload_n 3, 1) := by decide +kernel
theorem dX0_append_35 : decode cX0_append 35 = .ok (.iload_n 1, 1) := by decide +kernel
theorem dX0_append_36 : decode cX0_append 36 = .ok (.iastore, 1) := by decide +kernel
theorem dX0_append_37 : decode cX0_append 37 = .ok (.aload_n 0, 1) := by decide +kernel
theorem dX0_append_38 : decode cX0_append 38 = .ok (.getfield 22, 3) := by decide +kernel
theorem dX0_append_41 : decode cX0_append 41 = .ok (.iload_n 3, 1) := by decide +kernel
theorem dX0_append_42 : decode cX0_append 42 = .ok (.aload_n 0, 1) := by decide +kernel
theorem dX0_append_43 : decode cX0_append 43 = .ok (.getfield 9, 3) := by decide +kernel
theorem dX0_append_46 : decode cX0_append 46 = .ok (.iastore, 1) := by decide +kernel
theorem dX0_append_47 : decode cX0_append 47 = .ok (.aload_n 0, 1) := by decide +kernel
theorem dX0_append_48 : decode cX0_append 48 = .ok (.getfield 39, 3) := by decide +kernel
theorem dX0_append_51 : decode cX0_append 51 = .ok (.iload_n 3, 1) := by decide +kernel
theorem dX0_append_52 : decode cX0_append 52 = .ok (.sipush 301, 3) := by decide +kernel
theorem dX0_append_55 : decode cX0_append 55 = .ok (.iastore, 1) := by decide +kernel
theorem dX0_append_56 : decode cX0_append 56 = .ok (.aload_n 0, 1) := by decide +kernel
theorem dX0_append_57 : decode cX0_append 57 = .ok (.iload_n 3, 1) := by decide +kernel
theorem dX0_append_58 : decode cX0_append 58 = .ok (.invokevirtual 52, 3) := by decide +kernel
theorem dX0_append_61 : decode cX0_append 61 = .ok (.iload_n 3, 1) := by decide +kernel
theorem dX0_append_62 : decode cX0_append 62 = .ok (.ireturn, 1) := by decide +kernel
theorem dX0_sortIn_0 : decode cX0_sortIn 0 = .ok (.iload_n 1, 1) := by decide +kernel
theorem dX0_sortIn_1 : decode cX0_sortIn 1 = .ok (.istore_n 2, 1) := by decide +kernel
theorem dX0_sortIn_2 : decode cX0_sortIn 2 = .ok (.iload_n 2, 1) := by decide +kernel
theorem dX0_sortIn_3 : decode cX0_sortIn 3 = .ok (.ifCond .le 45, 3) := by decide +kernel
theorem dX0_sortIn_6 : decode cX0_sortIn 6 = .ok (.aload_n 0, 1) := by decide +kernel
theorem dX0_sortIn_7 : decode cX0_sortIn 7 = .ok (.getfield 18, 3) := by decide +kernel
theorem dX0_sortIn_10 : decode cX0_sortIn 10 = .ok (.aload_n 0, 1) := by decide +kernel
theorem dX0_sortIn_11 : decode cX0_sortIn 11 = .ok (.getfield 42, 3) := by decide +kernel
theorem dX0_sortIn_14 : decode cX0_sortIn 14 = .ok (.iload_n 2, 1) := by decide +kernel
theorem dX0_sortIn_15 : decode cX0_sortIn 15 = .ok (.iconst 1, 1) := by decide +kernel
theorem dX0_sortIn_16 : decode cX0_sortIn 16 = .ok (.isub, 1) := by decide +kernel
theorem dX0_sortIn_17 : decode cX0_sortIn 17 = .ok (.iaload, 1) := by decide +kernel
theorem dX0_sortIn_18 : decode cX0_sortIn 18 = .ok (.iaload, 1) := by decide +kernel
theorem dX0_sortIn_19 : decode cX0_sortIn 19 = .ok (.aload_n 0, 1) := by decide +kernel
theorem dX0_sortIn_20 : decode cX0_sortIn 20 = .ok (.getfield 18, 3) := by decide +kernel
theorem dX0_sortIn_23 : decode cX0_sortIn 23 = .ok (.iload_n 1, 1) := by decide +kernel
theorem dX0_sortIn_24 : decode cX0_sortIn 24 = .ok (.iaload, 1) := by decide +kernel
theorem dX0_sortIn_25 : decode cX0_sortIn 25 = .ok (.if_icmp .le 23, 3) := by decide +kernel
theorem dX0_sortIn_28 : decode cX0_sortIn 28 = .ok (.aload_n 0, 1) := by decide +kernel
theorem dX0_sortIn_29 : decode cX0_sortIn 29 = .ok (.getfield 42, 3) := by decide +kernel
theorem dX0_sortIn_32 : decode cX0_sortIn 32 = .ok (.iload_n 2, 1) := by decide +kernel
theorem dX0_sortIn_33 : decode cX0_sortIn 33 = .ok (.aload_n 0, 1) := by decide +kernel
theorem dX0_sortIn_34 : decode cX0_sortIn 34 = .ok (.getfield 42, 3) := by decide +kernel
theorem dX0_sortIn_37 : decode cX0_sortIn 37 = .ok (.iload_n 2, 1) := by decide +kernel
theorem dX0_sortIn_38 : decode cX0_sortIn 38 = .ok (.iconst 1, 1) := by decide +kernel
theorem dX0_sortIn_39 : decode cX0_sortIn 39 = .ok (.isub, 1) := by decide +kernel
theorem dX0_sortIn_40 : decode cX0_sortIn 40 = .ok (.iaload, 1) := by decide +kernel
theorem dX0_sortIn_41 : decode cX0_sortIn 41 = .ok (.iastore, 1) := by decide +kernel
theorem dX0_sortIn_42 : decode cX0_sortIn 42 = .ok (.iinc 2 (-1), 3) := by decide +kernel
theorem dX0_sortIn_45 : decode cX0_sortIn 45 = .ok (.goto (-43), 3) := by decide +kernel
theorem dX0_sortIn_48 : decode cX0_sortIn 48 = .ok (.aload_n 0, 1) := by decide +kernel
theorem dX0_sortIn_49 : decode cX0_sortIn 49 = .ok (.getfield 42, 3) := by decide +kernel
theorem dX0_sortIn_52 : decode cX0_sortIn 52 = .ok (.iload_n 2, 1) := by decide +kernel
theorem dX0_sortIn_53 : decode cX0_sortIn 53 = .ok (.iload_n 1, 1) := by decide +kernel
theorem dX0_sortIn_54 : decode cX0_sortIn 54 = .ok (.iastore, 1) := by decide +kernel
theorem dX0_sortIn_55 : decode cX0_sortIn 55 = .ok (.return_, 1) := by decide +kernel
theorem dX0_isThere_0 : decode cX0_isThere 0 = .ok (.aload_n 0, 1) := by decide +kernel
theorem dX0_isThere_1 : decode cX0_isThere 1 = .ok (.iload_n 1, 1) := by decide +kernel
theorem dX0_isThere_2 : decode cX0_isThere 2 = .ok (.aload_n 0, 1) := by decide +kernel
theorem dX0_isThere_3 : decode cX0_isThere 3 = .ok (.getfield 9, 3) := by decide +kernel
theorem dX0_isThere_6 : decode cX0_isThere 6 = .ok (.invokevirtual 45, 3) := by decide +kernel
theorem dX0_isThere_9 : decode cX0_isThere 9 = .ok (.iconst (-1), 1) := by decide +kernel
theorem dX0_isThere_10 : decode cX0_isThere 10 = .ok (.if_icmp .eq 7, 3) := by decide +kernel
theorem dX0_isThere_13 : decode cX0_isThere 13 = .ok (.iconst 1, 1) := by decide +kernel
theorem dX0_isThere_14 : decode cX0_isThere 14 = .ok (.goto 4, 3) := by decide +kernel
theorem dX0_isThere_17 : decode cX0_isThere 17 = .ok (.iconst 0, 1) := by decide +kernel
theorem dX0_isThere_18 : decode cX0_isThere 18 = .ok (.ireturn, 1) := by decide +kernel
theorem dX0_find_0 : decode cX0_find 0 = .ok (.iconst 0, 1) := by decide +kernel
theorem dX0_find_1 : decode cX0_find 1 = .ok (.istore_n 3, 1) := by decide +kernel
theorem dX0_find_2 : decode cX0_find 2 = .ok (.iload_n 3, 1) := by decide +kernel
theorem dX0_find_3 : decode cX0_find 3 = .ok (.aload_n 0, 1) := by decide +kernel
theorem dX0_find_4 : decode cX0_find 4 = .ok (.getfield 15, 3) := by decide +kernel
theorem dX0_find_7 : decode cX0_find 7 = .ok (.if_icmp .ge 30, 3) := by decide +kernel
theorem dX0_find_10 : decode cX0_find 10 = .ok (.aload_n 0, 1) := by decide +kernel
theorem dX0_find_11 : decode cX0_find 11 = .ok (.getfield 18, 3) := by decide +kernel
theorem dX0_find_14 : decode cX0_find 14 = .ok (.iload_n 3, 1) := by decide +kernel
theorem dX0_find_15 : decode cX0_find 15 = .ok (.iaload, 1) := by decide +kernel
theorem dX0_find_16 : decode cX0_find 16 = .ok (.iload_n 1, 1) := by decide +kernel
theorem dX0_find_17 : decode cX0_find 17 = .ok (.if_icmp .ne 14, 3) := by decide +kernel
theorem dX0_find_20 : decode cX0_find 20 = .ok (.aload_n 0, 1) := by decide +kernel
theorem dX0_find_21 : decode cX0_find 21 = .ok (.iload_n 3, 1) := by decide +kernel
theorem dX0_find_22 : decode cX0_find 22 = .ok (.iload_n 2, 1) := by decide +kernel
theorem dX0_find_23 : decode cX0_find 23 = .ok (.invokevirtual 56, 3) := by decide +kernel
theorem dX0_find_26 : decode cX0_find 26 = .ok (.ifCond .eq 5, 3) := by decide +kernel
theorem dX0_find_29 : decode cX0_find 29 = .ok (.iload_n 3, 1) := by decide +kernel
theorem dX0_find_30 : decode cX0_find 30 = .ok (.ireturn, 1) := by decide +kernel
theorem dX0_find_31 : decode cX0_find 31 = .ok (.iinc 3 1, 3) := by decide +kernel
theorem dX0_find_34 : decode cX0_find 34 = .ok (.goto (-32), 3) := by decide +kernel
theorem dX0_find_37 : decode cX0_find 37 = .ok (.iconst (-1), 1) := by decide +kernel
theorem dX0_find_38 : decode cX0_find 38 = .ok (.ireturn, 1) := by decide +kernel
theorem dX0_holds_0 : decode cX0_holds 0 = .ok (.aload_n 0, 1) := by decide +kernel
theorem dX0_holds_1 : decode cX0_holds 1 = .ok (.getfield 25, 3) := by decide +kernel
theorem dX0_holds_4 : decode cX0_holds 4 = .ok (.iload_n 1, 1) := by decide +kernel
theorem dX0_holds_5 : decode cX0_holds 5 = .ok (.baload, 1) := by decide +kernel
theorem dX0_holds_6 : decode cX0_holds 6 = .ok (.ifCond .eq 27, 3) := by decide +kernel
theorem dX0_holds_9 : decode cX0_holds 9 = .ok (.aload_n 0, 1) := by decide +kernel
theorem dX0_holds_10 : decode cX0_holds 10 = .ok (.getfield 22, 3) := by decide +kernel
theorem dX0_holds_13 : decode cX0_holds 13 = .ok (.iload_n 1, 1) := by decide +kernel
theorem dX0_holds_14 : decode cX0_holds 14 = .ok (.iaload, 1) := by decide +kernel
theorem dX0_holds_15 : decode cX0_holds 15 = .ok (.iload_n 2, 1) := by decide +kernel
theorem dX0_holds_16 : decode cX0_holds 16 = .ok (.if_icmp .gt 17, 3) := by decide +kernel
theorem dX0_holds_19 : decode cX0_holds 19 = .ok (.iload_n 2, 1) := by decide +kernel
theorem dX0_holds_20 : decode cX0_holds 20 = .ok (.aload_n 0, 1) := by decide +kernel
theorem dX0_holds_21 : decode cX0_holds 21 = .ok (.getfield 39, 3) := by decide +kernel
theorem dX0_holds_24 : decode cX0_holds 24 = .ok (.iload_n 1, 1) := by decide +kernel
theorem dX0_holds_25 : decode cX0_holds 25 = .ok (.iaload, 1) := by decide +kernel
theorem dX0_holds_26 : decode cX0_holds 26 = .ok (.if_icmp .ge 7, 3) := by decide +kernel
theorem dX0_holds_29 : decode cX0_holds 29 = .ok (.iconst 1, 1) := by decide +kernel
theorem dX0_holds_30 : decode cX0_holds 30 = .ok (.goto 4, 3) := by decide +kernel
theorem dX0_holds_33 : decode cX0_holds 33 = .ok (.iconst 0, 1) := by decide +kernel
theorem dX0_holds_34 : decode cX0_holds 34 = .ok (.ireturn, 1) := by decide +kernel
theorem dX0_read_0 : decode cX0_read 0 = .ok (.aload_n 0, 1) := by decide +kernel
theorem dX0_read_1 : decode cX0_read 1 = .ok (.iload_n 1, 1) := by decide +kernel
theorem dX0_read_2 : decode cX0_read 2 = .ok (.iload_n 2, 1) := by decide +kernel
theorem dX0_read_3 : decode cX0_read 3 = .ok (.invokevirtual 45, 3) := by decide +kernel
theorem dX0_read_6 : decode cX0_read 6 = .ok (.istore 4, 2) := by decide +kernel
theorem dX0_read_8 : decode cX0_read 8 = .ok (.iload 4, 2) := by decide +kernel
theorem dX0_read_10 : decode cX0_read 10 = .ok (.iconst (-1), 1) := by decide +kernel
theorem dX0_read_11 : decode cX0_read 11 = .ok (.if_icmp .ne 5, 3) := by decide +kernel
theorem dX0_read_14 : decode cX0_read 14 = .ok (.lconst 0, 1) := by decide +kernel
theorem dX0_read_15 : decode cX0_read 15 = .ok (.lreturn, 1) := by decide +kernel
theorem dX0_read_16 : decode cX0_read 16 = .ok (.iload_n 3, 1) := by decide +kernel
theorem dX0_read_17 : decode cX0_read 17 = .ok (.tableswitch 53 0 2 #[27, 35, 44], 27) := by decide +kernel
theorem dX0_read_44 : decode cX0_read 44 = .ok (.aload_n 0, 1) := by decide +kernel
theorem dX0_read_45 : decode cX0_read 45 = .ok (.getfield 29, 3) := by decide +kernel
theorem dX0_read_48 : decode cX0_read 48 = .ok (.iload 4, 2) := by decide +kernel
theorem dX0_read_50 : decode cX0_read 50 = .ok (.laload, 1) := by decide +kernel
theorem dX0_read_51 : decode cX0_read 51 = .ok (.lreturn, 1) := by decide +kernel
theorem dX0_read_52 : decode cX0_read 52 = .ok (.aload_n 0, 1) := by decide +kernel
theorem dX0_read_53 : decode cX0_read 53 = .ok (.getfield 33, 3) := by decide +kernel
theorem dX0_read_56 : decode cX0_read 56 = .ok (.iload 4, 2) := by decide +kernel
theorem dX0_read_58 : decode cX0_read 58 = .ok (.iaload, 1) := by decide +kernel
theorem dX0_read_59 : decode cX0_read 59 = .ok (.i2l, 1) := by decide +kernel
theorem dX0_read_60 : decode cX0_read 60 = .ok (.lreturn, 1) := by decide +kernel
theorem dX0_read_61 : decode cX0_read 61 = .ok (.aload_n 0, 1) := by decide +kernel
theorem dX0_read_62 : decode cX0_read 62 = .ok (.getfield 36, 3) := by decide +kernel
theorem dX0_read_65 : decode cX0_read 65 = .ok (.iload 4, 2) := by decide +kernel
theorem dX0_read_67 : decode cX0_read 67 = .ok (.iaload, 1) := by decide +kernel
theorem dX0_read_68 : decode cX0_read 68 = .ok (.i2l, 1) := by decide +kernel
theorem dX0_read_69 : decode cX0_read 69 = .ok (.lreturn, 1) := by decide +kernel
theorem dX0_read_70 : decode cX0_read 70 = .ok (.aload_n 0, 1) := by decide +kernel
theorem dX0_read_71 : decode cX0_read 71 = .ok (.getfield 22, 3) := by decide +kernel
theorem dX0_read_74 : decode cX0_read 74 = .ok (.iload 4, 2) := by decide +kernel
theorem dX0_read_76 : decode cX0_read 76 = .ok (.iaload, 1) := by decide +kernel
theorem dX0_read_77 : decode cX0_read 77 = .ok (.i2l, 1) := by decide +kernel
theorem dX0_read_78 : decode cX0_read 78 = .ok (.lreturn, 1) := by decide +kernel
theorem dX0_keysWithin_0 : decode cX0_keysWithin 0 = .ok (.iconst 0, 1) := by decide +kernel
theorem dX0_keysWithin_1 : decode cX0_keysWithin 1 = .ok (.istore 4, 2) := by decide +kernel
theorem dX0_keysWithin_3 : decode cX0_keysWithin 3 = .ok (.iconst 0, 1) := by decide +kernel
theorem dX0_keysWithin_4 : decode cX0_keysWithin 4 = .ok (.istore 5, 2) := by decide +kernel
theorem dX0_keysWithin_6 : decode cX0_keysWithin 6 = .ok (.iload 5, 2) := by decide +kernel
theorem dX0_keysWithin_8 : decode cX0_keysWithin 8 = .ok (.aload_n 0, 1) := by decide +kernel
theorem dX0_keysWithin_9 : decode cX0_keysWithin 9 = .ok (.getfield 15, 3) := by decide +kernel
theorem dX0_keysWithin_12 : decode cX0_keysWithin 12 = .ok (.if_icmp .ge 24, 3) := by decide +kernel
theorem dX0_keysWithin_15 : decode cX0_keysWithin 15 = .ok (.aload_n 0, 1) := by decide +kernel
theorem dX0_keysWithin_16 : decode cX0_keysWithin 16 = .ok (.iload 5, 2) := by decide +kernel
theorem dX0_keysWithin_18 : decode cX0_keysWithin 18 = .ok (.iload_n 1, 1) := by decide +kernel
theorem dX0_keysWithin_19 : decode cX0_keysWithin 19 = .ok (.iload_n 2, 1) := by decide +kernel
theorem dX0_keysWithin_20 : decode cX0_keysWithin 20 = .ok (.iload_n 3, 1) := by decide +kernel
theorem dX0_keysWithin_21 : decode cX0_keysWithin 21 = .ok (.invokevirtual 60, 3) := by decide +kernel
theorem dX0_keysWithin_24 : decode cX0_keysWithin 24 = .ok (.ifCond .eq 6, 3) := by decide +kernel
theorem dX0_keysWithin_27 : decode cX0_keysWithin 27 = .ok (.iinc 4 1, 3) := by decide +kernel
theorem dX0_keysWithin_30 : decode cX0_keysWithin 30 = .ok (.iinc 5 1, 3) := by decide +kernel
theorem dX0_keysWithin_33 : decode cX0_keysWithin 33 = .ok (.goto (-27), 3) := by decide +kernel
theorem dX0_keysWithin_36 : decode cX0_keysWithin 36 = .ok (.iload 4, 2) := by decide +kernel
theorem dX0_keysWithin_38 : decode cX0_keysWithin 38 = .ok (.ireturn, 1) := by decide +kernel
theorem dX0_findWithin_0 : decode cX0_findWithin 0 = .ok (.iconst 0, 1) := by decide +kernel
theorem dX0_findWithin_1 : decode cX0_findWithin 1 = .ok (.istore 5, 2) := by decide +kernel
theorem dX0_findWithin_3 : decode cX0_findWithin 3 = .ok (.iconst 0, 1) := by decide +kernel
theorem dX0_findWithin_4 : decode cX0_findWithin 4 = .ok (.istore 6, 2) := by decide +kernel
theorem dX0_findWithin_6 : decode cX0_findWithin 6 = .ok (.iload 6, 2) := by decide +kernel
theorem dX0_findWithin_8 : decode cX0_findWithin 8 = .ok (.aload_n 0, 1) := by decide +kernel
theorem dX0_findWithin_9 : decode cX0_findWithin 9 = .ok (.getfield 15, 3) := by decide +kernel
theorem dX0_findWithin_12 : decode cX0_findWithin 12 = .ok (.if_icmp .ge 43, 3) := by decide +kernel
theorem dX0_findWithin_15 : decode cX0_findWithin 15 = .ok (.aload_n 0, 1) := by decide +kernel
theorem dX0_findWithin_16 : decode cX0_findWithin 16 = .ok (.getfield 42, 3) := by decide +kernel
theorem dX0_findWithin_19 : decode cX0_findWithin 19 = .ok (.iload 6, 2) := by decide +kernel
theorem dX0_findWithin_21 : decode cX0_findWithin 21 = .ok (.iaload, 1) := by decide +kernel
theorem dX0_findWithin_22 : decode cX0_findWithin 22 = .ok (.istore 7, 2) := by decide +kernel
theorem dX0_findWithin_24 : decode cX0_findWithin 24 = .ok (.aload_n 0, 1) := by decide +kernel
theorem dX0_findWithin_25 : decode cX0_findWithin 25 = .ok (.iload 7, 2) := by decide +kernel
theorem dX0_findWithin_27 : decode cX0_findWithin 27 = .ok (.iload_n 1, 1) := by decide +kernel
theorem dX0_findWithin_28 : decode cX0_findWithin 28 = .ok (.iload_n 2, 1) := by decide +kernel
theorem dX0_findWithin_29 : decode cX0_findWithin 29 = .ok (.iload_n 3, 1) := by decide +kernel
theorem dX0_findWithin_30 : decode cX0_findWithin 30 = .ok (.invokevirtual 60, 3) := by decide +kernel
theorem dX0_findWithin_33 : decode cX0_findWithin 33 = .ok (.ifCond .eq 16, 3) := by decide +kernel
theorem dX0_findWithin_36 : decode cX0_findWithin 36 = .ok (.iload 5, 2) := by decide +kernel
theorem dX0_findWithin_38 : decode cX0_findWithin 38 = .ok (.iload 4, 2) := by decide +kernel
theorem dX0_findWithin_40 : decode cX0_findWithin 40 = .ok (.if_icmp .ne 6, 3) := by decide +kernel
theorem dX0_findWithin_43 : decode cX0_findWithin 43 = .ok (.iload 7, 2) := by decide +kernel
theorem dX0_findWithin_45 : decode cX0_findWithin 45 = .ok (.ireturn, 1) := by decide +kernel
theorem dX0_findWithin_46 : decode cX0_findWithin 46 = .ok (.iinc 5 1, 3) := by decide +kernel
theorem dX0_findWithin_49 : decode cX0_findWithin 49 = .ok (.iinc 6 1, 3) := by decide +kernel
theorem dX0_findWithin_52 : decode cX0_findWithin 52 = .ok (.goto (-46), 3) := by decide +kernel
theorem dX0_findWithin_55 : decode cX0_findWithin 55 = .ok (.iconst (-1), 1) := by decide +kernel
theorem dX0_findWithin_56 : decode cX0_findWithin 56 = .ok (.ireturn, 1) := by decide +kernel
theorem dX0_holdsWithin_0 : decode cX0_holdsWithin 0 = .ok (.aload_n 0, 1) := by decide +kernel
theorem dX0_holdsWithin_1 : decode cX0_holdsWithin 1 = .ok (.getfield 18, 3) := by decide +kernel
theorem dX0_holdsWithin_4 : decode cX0_holdsWithin 4 = .ok (.iload_n 1, 1) := by decide +kernel
theorem dX0_holdsWithin_5 : decode cX0_holdsWithin 5 = .ok (.iaload, 1) := by decide +kernel
theorem dX0_holdsWithin_6 : decode cX0_holdsWithin 6 = .ok (.iload_n 2, 1) := by decide +kernel
theorem dX0_holdsWithin_7 : decode cX0_holdsWithin 7 = .ok (.if_icmp .lt 27, 3) := by decide +kernel
theorem dX0_holdsWithin_10 : decode cX0_holdsWithin 10 = .ok (.aload_n 0, 1) := by decide +kernel
theorem dX0_holdsWithin_11 : decode cX0_holdsWithin 11 = .ok (.getfield 18, 3) := by decide +kernel
theorem dX0_holdsWithin_14 : decode cX0_holdsWithin 14 = .ok (.iload_n 1, 1) := by decide +kernel
theorem dX0_holdsWithin_15 : decode cX0_holdsWithin 15 = .ok (.iaload, 1) := by decide +kernel
theorem dX0_holdsWithin_16 : decode cX0_holdsWithin 16 = .ok (.iload_n 3, 1) := by decide +kernel
theorem dX0_holdsWithin_17 : decode cX0_holdsWithin 17 = .ok (.if_icmp .ge 17, 3) := by decide +kernel
theorem dX0_holdsWithin_20 : decode cX0_holdsWithin 20 = .ok (.aload_n 0, 1) := by decide +kernel
theorem dX0_holdsWithin_21 : decode cX0_holdsWithin 21 = .ok (.iload_n 1, 1) := by decide +kernel
theorem dX0_holdsWithin_22 : decode cX0_holdsWithin 22 = .ok (.iload 4, 2) := by decide +kernel
theorem dX0_holdsWithin_24 : decode cX0_holdsWithin 24 = .ok (.invokevirtual 56, 3) := by decide +kernel
theorem dX0_holdsWithin_27 : decode cX0_holdsWithin 27 = .ok (.ifCond .eq 7, 3) := by decide +kernel
theorem dX0_holdsWithin_30 : decode cX0_holdsWithin 30 = .ok (.iconst 1, 1) := by decide +kernel
theorem dX0_holdsWithin_31 : decode cX0_holdsWithin 31 = .ok (.goto 4, 3) := by decide +kernel
theorem dX0_holdsWithin_34 : decode cX0_holdsWithin 34 = .ok (.iconst 0, 1) := by decide +kernel
theorem dX0_holdsWithin_35 : decode cX0_holdsWithin 35 = .ok (.ireturn, 1) := by decide +kernel
theorem dX0_keysNow_0 : decode cX0_keysNow 0 = .ok (.iconst 0, 1) := by decide +kernel
theorem dX0_keysNow_1 : decode cX0_keysNow 1 = .ok (.istore_n 1, 1) := by decide +kernel
theorem dX0_keysNow_2 : decode cX0_keysNow 2 = .ok (.iconst 0, 1) := by decide +kernel
theorem dX0_keysNow_3 : decode cX0_keysNow 3 = .ok (.istore_n 2, 1) := by decide +kernel
theorem dX0_keysNow_4 : decode cX0_keysNow 4 = .ok (.iload_n 2, 1) := by decide +kernel
theorem dX0_keysNow_5 : decode cX0_keysNow 5 = .ok (.aload_n 0, 1) := by decide +kernel
theorem dX0_keysNow_6 : decode cX0_keysNow 6 = .ok (.getfield 15, 3) := by decide +kernel
theorem dX0_keysNow_9 : decode cX0_keysNow 9 = .ok (.if_icmp .ge 24, 3) := by decide +kernel
theorem dX0_keysNow_12 : decode cX0_keysNow 12 = .ok (.aload_n 0, 1) := by decide +kernel
theorem dX0_keysNow_13 : decode cX0_keysNow 13 = .ok (.iload_n 2, 1) := by decide +kernel
theorem dX0_keysNow_14 : decode cX0_keysNow 14 = .ok (.aload_n 0, 1) := by decide +kernel
theorem dX0_keysNow_15 : decode cX0_keysNow 15 = .ok (.getfield 9, 3) := by decide +kernel
theorem dX0_keysNow_18 : decode cX0_keysNow 18 = .ok (.invokevirtual 56, 3) := by decide +kernel
theorem dX0_keysNow_21 : decode cX0_keysNow 21 = .ok (.ifCond .eq 6, 3) := by decide +kernel
theorem dX0_keysNow_24 : decode cX0_keysNow 24 = .ok (.iinc 1 1, 3) := by decide +kernel
theorem dX0_keysNow_27 : decode cX0_keysNow 27 = .ok (.iinc 2 1, 3) := by decide +kernel
theorem dX0_keysNow_30 : decode cX0_keysNow 30 = .ok (.goto (-26), 3) := by decide +kernel
theorem dX0_keysNow_33 : decode cX0_keysNow 33 = .ok (.iload_n 1, 1) := by decide +kernel
theorem dX0_keysNow_34 : decode cX0_keysNow 34 = .ok (.ireturn, 1) := by decide +kernel
theorem dX0_firstEventFrom_0 : decode cX0_firstEventFrom 0 = .ok (.iconst 0, 1) := by decide +kernel
theorem dX0_firstEventFrom_1 : decode cX0_firstEventFrom 1 = .ok (.istore_n 2, 1) := by decide +kernel
theorem dX0_firstEventFrom_2 : decode cX0_firstEventFrom 2 = .ok (.iload_n 2, 1) := by decide +kernel
theorem dX0_firstEventFrom_3 : decode cX0_firstEventFrom 3 = .ok (.aload_n 0, 1) := by decide +kernel
theorem dX0_firstEventFrom_4 : decode cX0_firstEventFrom 4 = .ok (.getfield 15, 3) := by decide +kernel
theorem dX0_firstEventFrom_7 : decode cX0_firstEventFrom 7 = .ok (.if_icmp .ge 19, 3) := by decide +kernel
theorem dX0_firstEventFrom_10 : decode cX0_firstEventFrom 10 = .ok (.aload_n 0, 1) := by decide +kernel
theorem dX0_firstEventFrom_11 : decode cX0_firstEventFrom 11 = .ok (.getfield 22, 3) := by decide +kernel
theorem dX0_firstEventFrom_14 : decode cX0_firstEventFrom 14 = .ok (.iload_n 2, 1) := by decide +kernel
theorem dX0_firstEventFrom_15 : decode cX0_firstEventFrom 15 = .ok (.iaload, 1) := by decide +kernel
theorem dX0_firstEventFrom_16 : decode cX0_firstEventFrom 16 = .ok (.iload_n 1, 1) := by decide +kernel
theorem dX0_firstEventFrom_17 : decode cX0_firstEventFrom 17 = .ok (.if_icmp .ge 9, 3) := by decide +kernel
theorem dX0_firstEventFrom_20 : decode cX0_firstEventFrom 20 = .ok (.iinc 2 1, 3) := by decide +kernel
theorem dX0_firstEventFrom_23 : decode cX0_firstEventFrom 23 = .ok (.goto (-21), 3) := by decide +kernel
theorem dX0_firstEventFrom_26 : decode cX0_firstEventFrom 26 = .ok (.iload_n 2, 1) := by decide +kernel
theorem dX0_firstEventFrom_27 : decode cX0_firstEventFrom 27 = .ok (.ireturn, 1) := by decide +kernel
theorem dX0_describe_0 : decode cX0_describe 0 = .ok (.iload_n 2, 1) := by decide +kernel
theorem dX0_describe_1 : decode cX0_describe 1 = .ok (.lookupswitch 41 #[(0, 27), (1, 34)], 27) := by decide +kernel
theorem dX0_describe_28 : decode cX0_describe 28 = .ok (.aload_n 0, 1) := by decide +kernel
theorem dX0_describe_29 : decode cX0_describe 29 = .ok (.getfield 18, 3) := by decide +kernel
theorem dX0_describe_32 : decode cX0_describe 32 = .ok (.iload_n 1, 1) := by decide +kernel
theorem dX0_describe_33 : decode cX0_describe 33 = .ok (.iaload, 1) := by decide +kernel
theorem dX0_describe_34 : decode cX0_describe 34 = .ok (.ireturn, 1) := by decide +kernel
theorem dX0_describe_35 : decode cX0_describe 35 = .ok (.aload_n 0, 1) := by decide +kernel
theorem dX0_describe_36 : decode cX0_describe 36 = .ok (.getfield 22, 3) := by decide +kernel
theorem dX0_describe_39 : decode cX0_describe 39 = .ok (.iload_n 1, 1) := by decide +kernel
theorem dX0_describe_40 : decode cX0_describe 40 = .ok (.iaload, 1) := by decide +kernel
theorem dX0_describe_41 : decode cX0_describe 41 = .ok (.ireturn, 1) := by decide +kernel
theorem dX0_describe_42 : decode cX0_describe 42 = .ok (.aload_n 0, 1) := by decide +kernel
theorem dX0_describe_43 : decode cX0_describe 43 = .ok (.getfield 25, 3) := by decide +kernel
theorem dX0_describe_46 : decode cX0_describe 46 = .ok (.iload_n 1, 1) := by decide +kernel
theorem dX0_describe_47 : decode cX0_describe 47 = .ok (.baload, 1) := by decide +kernel
theorem dX0_describe_48 : decode cX0_describe 48 = .ok (.ifCond .eq 7, 3) := by decide +kernel
theorem dX0_describe_51 : decode cX0_describe 51 = .ok (.iconst 1, 1) := by decide +kernel
theorem dX0_describe_52 : decode cX0_describe 52 = .ok (.goto 4, 3) := by decide +kernel
theorem dX0_describe_55 : decode cX0_describe 55 = .ok (.iconst 0, 1) := by decide +kernel
theorem dX0_describe_56 : decode cX0_describe 56 = .ok (.ireturn, 1) := by decide +kernel
theorem dX1_init_0 : decode cX1_init 0 = .ok (.aload_n 0, 1) := by decide +kernel
theorem dX1_init_1 : decode cX1_init 1 = .ok (.invokespecial 3, 3) := by decide +kernel
theorem dX1_init_4 : decode cX1_init 4 = .ok (.aload_n 0, 1) := by decide +kernel
theorem dX1_init_5 : decode cX1_init 5 = .ok (.iconst 0, 1) := by decide +kernel
theorem dX1_init_6 : decode cX1_init 6 = .ok (.putfield 9, 3) := by decide +kernel
theorem dX1_init_9 : decode cX1_init 9 = .ok (.aload_n 0, 1) := by decide +kernel
theorem dX1_init_10 : decode cX1_init 10 = .ok (.bipush 20, 2) := by decide +kernel
theorem dX1_init_12 : decode cX1_init 12 = .ok (.newarray .int, 2) := by decide +kernel
theorem dX1_init_14 : decode cX1_init 14 = .ok (.putfield 15, 3) := by decide +kernel
theorem dX1_init_17 : decode cX1_init 17 = .ok (.aload_n 0, 1) := by decide +kernel
theorem dX1_init_18 : decode cX1_init 18 = .ok (.bipush 20, 2) := by decide +kernel
theorem dX1_init_20 : decode cX1_init 20 = .ok (.newarray .boolean, 2) := by decide +kernel
theorem dX1_init_22 : decode cX1_init 22 = .ok (.putfield 19, 3) := by decide +kernel
theorem dX1_init_25 : decode cX1_init 25 = .ok (.aload_n 0, 1) := by decide +kernel
theorem dX1_init_26 : decode cX1_init 26 = .ok (.bipush 20, 2) := by decide +kernel
theorem dX1_init_28 : decode cX1_init 28 = .ok (.newarray .long, 2) := by decide +kernel
theorem dX1_init_30 : decode cX1_init 30 = .ok (.putfield 23, 3) := by decide +kernel
theorem dX1_init_33 : decode cX1_init 33 = .ok (.return_, 1) := by decide +kernel
theorem dX1_append_0 : decode cX1_append 0 = .ok (.aload_n 0, 1) := by decide +kernel
theorem dX1_append_1 : decode cX1_append 1 = .ok (.getfield 15, 3) := by decide +kernel
theorem dX1_append_4 : decode cX1_append 4 = .ok (.aload_n 0, 1) := by decide +kernel
theorem dX1_append_5 : decode cX1_append 5 = .ok (.getfield 9, 3) := by decide +kernel
theorem dX1_append_8 : decode cX1_append 8 = .ok (.iload_n 1, 1) := by decide +kernel
theorem dX1_append_9 : decode cX1_append 9 = .ok (.iastore, 1) := by decide +kernel
theorem dX1_append_10 : decode cX1_append 10 = .ok (.aload_n 0, 1) := by decide +kernel
theorem dX1_append_11 : decode cX1_append 11 = .ok (.getfield 19, 3) := by decide +kernel
theorem dX1_append_14 : decode cX1_append 14 = .ok (.aload_n 0, 1) := by decide +kernel
theorem dX1_append_15 : decode cX1_append 15 = .ok (.getfield 9, 3) := by decide +kernel
theorem dX1_append_18 : decode cX1_append 18 = .ok (.iload_n 2, 1) := by decide +kernel
theorem dX1_append_19 : decode cX1_append 19 = .ok (.bastore, 1) := by decide +kernel
theorem dX1_append_20 : decode cX1_append 20 = .ok (.aload_n 0, 1) := by decide +kernel
theorem dX1_append_21 : decode cX1_append 21 = .ok (.getfield 23, 3) := by decide +kernel
theorem dX1_append_24 : decode cX1_append 24 = .ok (.aload_n 0, 1) := by decide +kernel
theorem dX1_append_25 : decode cX1_append 25 = .ok (.getfield 9, 3) := by decide +kernel
theorem dX1_append_28 : decode cX1_append 28 = .ok (.lload_n 3, 1) := by decide +kernel
theorem dX1_append_29 : decode cX1_append 29 = .ok (.lastore, 1) := by decide +kernel
theorem dX1_append_30 : decode cX1_append 30 = .ok (.aload_n 0, 1) := by decide +kernel
theorem dX1_append_31 : decode cX1_append 31 = .ok (.dup, 1) := by decide +kernel
theorem dX1_append_32 : decode cX1_append 32 = .ok (.getfield 9, 3) := by decide +kernel
theorem dX1_append_35 : decode cX1_append 35 = .ok (.iconst 1, 1) := by decide +kernel
theorem dX1_append_36 : decode cX1_append 36 = .ok (.iadd, 1) := by decide +kernel
theorem dX1_append_37 : decode cX1_append 37 = .ok (.putfield 9, 3) := by decide +kernel
theorem dX1_append_40 : decode cX1_append 40 = .ok (.return_, 1) := by decide +kernel
theorem dX1_clear_0 : decode cX1_clear 0 = .ok (.aload_n 0, 1) := by decide +kernel
theorem dX1_clear_1 : decode cX1_clear 1 = .ok (.iconst 0, 1) := by decide +kernel
theorem dX1_clear_2 : decode cX1_clear 2 = .ok (.putfield 9, 3) := by decide +kernel
theorem dX1_clear_5 : decode cX1_clear 5 = .ok (.return_, 1) := by decide +kernel
theorem dX1_eventsOn_0 : decode cX1_eventsOn 0 = .ok (.iconst 0, 1) := by decide +kernel
theorem dX1_eventsOn_1 : decode cX1_eventsOn 1 = .ok (.istore_n 2, 1) := by decide +kernel
theorem dX1_eventsOn_2 : decode cX1_eventsOn 2 = .ok (.iconst 0, 1) := by decide +kernel
theorem dX1_eventsOn_3 : decode cX1_eventsOn 3 = .ok (.istore_n 3, 1) := by decide +kernel
theorem dX1_eventsOn_4 : decode cX1_eventsOn 4 = .ok (.iload_n 3, 1) := by decide +kernel
theorem dX1_eventsOn_5 : decode cX1_eventsOn 5 = .ok (.aload_n 0, 1) := by decide +kernel
theorem dX1_eventsOn_6 : decode cX1_eventsOn 6 = .ok (.getfield 9, 3) := by decide +kernel
theorem dX1_eventsOn_9 : decode cX1_eventsOn 9 = .ok (.if_icmp .ge 30, 3) := by decide +kernel
theorem dX1_eventsOn_12 : decode cX1_eventsOn 12 = .ok (.aload_n 0, 1) := by decide +kernel
theorem dX1_eventsOn_13 : decode cX1_eventsOn 13 = .ok (.getfield 19, 3) := by decide +kernel
theorem dX1_eventsOn_16 : decode cX1_eventsOn 16 = .ok (.iload_n 3, 1) := by decide +kernel
theorem dX1_eventsOn_17 : decode cX1_eventsOn 17 = .ok (.baload, 1) := by decide +kernel
theorem dX1_eventsOn_18 : decode cX1_eventsOn 18 = .ok (.ifCond .ne 12, 3) := by decide +kernel
theorem dX1_eventsOn_21 : decode cX1_eventsOn 21 = .ok (.aload_n 0, 1) := by decide +kernel
theorem dX1_eventsOn_22 : decode cX1_eventsOn 22 = .ok (.iload_n 3, 1) := by decide +kernel
theorem dX1_eventsOn_23 : decode cX1_eventsOn 23 = .ok (.aload_n 1, 1) := by decide +kernel
theorem dX1_eventsOn_24 : decode cX1_eventsOn 24 = .ok (.invokevirtual 27, 3) := by decide +kernel
theorem dX1_eventsOn_27 : decode cX1_eventsOn 27 = .ok (.ifCond .eq 6, 3) := by decide +kernel
theorem dX1_eventsOn_30 : decode cX1_eventsOn 30 = .ok (.iinc 2 1, 3) := by decide +kernel
theorem dX1_eventsOn_33 : decode cX1_eventsOn 33 = .ok (.iinc 3 1, 3) := by decide +kernel
theorem dX1_eventsOn_36 : decode cX1_eventsOn 36 = .ok (.goto (-32), 3) := by decide +kernel
theorem dX1_eventsOn_39 : decode cX1_eventsOn 39 = .ok (.iload_n 2, 1) := by decide +kernel
theorem dX1_eventsOn_40 : decode cX1_eventsOn 40 = .ok (.ireturn, 1) := by decide +kernel
theorem dX1_isThereBefore_0 : decode cX1_isThereBefore 0 = .ok (.iload_n 1, 1) := by decide +kernel
theorem dX1_isThereBefore_1 : decode cX1_isThereBefore 1 = .ok (.iconst 1, 1) := by decide +kernel
theorem dX1_isThereBefore_2 : decode cX1_isThereBefore 2 = .ok (.isub, 1) := by decide +kernel
theorem dX1_isThereBefore_3 : decode cX1_isThereBefore 3 = .ok (.istore_n 3, 1) := by decide +kernel
theorem dX1_isThereBefore_4 : decode cX1_isThereBefore 4 = .ok (.iload_n 3, 1) := by decide +kernel
theorem dX1_isThereBefore_5 : decode cX1_isThereBefore 5 = .ok (.ifCond .lt 31, 3) := by decide +kernel
theorem dX1_isThereBefore_8 : decode cX1_isThereBefore 8 = .ok (.aload_n 0, 1) := by decide +kernel
theorem dX1_isThereBefore_9 : decode cX1_isThereBefore 9 = .ok (.getfield 15, 3) := by decide +kernel
theorem dX1_isThereBefore_12 : decode cX1_isThereBefore 12 = .ok (.iload_n 3, 1) := by decide +kernel
theorem dX1_isThereBefore_13 : decode cX1_isThereBefore 13 = .ok (.iaload, 1) := by decide +kernel
theorem dX1_isThereBefore_14 : decode cX1_isThereBefore 14 = .ok (.aload_n 0, 1) := by decide +kernel
theorem dX1_isThereBefore_15 : decode cX1_isThereBefore 15 = .ok (.getfield 15, 3) := by decide +kernel
theorem dX1_isThereBefore_18 : decode cX1_isThereBefore 18 = .ok (.iload_n 1, 1) := by decide +kernel
theorem dX1_isThereBefore_19 : decode cX1_isThereBefore 19 = .ok (.iaload, 1) := by decide +kernel
theorem dX1_isThereBefore_20 : decode cX1_isThereBefore 20 = .ok (.if_icmp .ne 10, 3) := by decide +kernel
theorem dX1_isThereBefore_23 : decode cX1_isThereBefore 23 = .ok (.aload_n 0, 1) := by decide +kernel
theorem dX1_isThereBefore_24 : decode cX1_isThereBefore 24 = .ok (.getfield 19, 3) := by decide +kernel
theorem dX1_isThereBefore_27 : decode cX1_isThereBefore 27 = .ok (.iload_n 3, 1) := by decide +kernel
theorem dX1_isThereBefore_28 : decode cX1_isThereBefore 28 = .ok (.baload, 1) := by decide +kernel
theorem dX1_isThereBefore_29 : decode cX1_isThereBefore 29 = .ok (.ireturn, 1) := by decide +kernel
theorem dX1_isThereBefore_30 : decode cX1_isThereBefore 30 = .ok (.iinc 3 (-1), 3) := by decide +kernel
theorem dX1_isThereBefore_33 : decode cX1_isThereBefore 33 = .ok (.goto (-29), 3) := by decide +kernel
theorem dX1_isThereBefore_36 : decode cX1_isThereBefore 36 = .ok (.aload_n 2, 1) := by decide +kernel
theorem dX1_isThereBefore_37 : decode cX1_isThereBefore 37 = .ok (.aload_n 0, 1) := by decide +kernel
theorem dX1_isThereBefore_38 : decode cX1_isThereBefore 38 = .ok (.getfield 15, 3) := by decide +kernel
theorem dX1_isThereBefore_41 : decode cX1_isThereBefore 41 = .ok (.iload_n 1, 1) := by decide +kernel
theorem dX1_isThereBefore_42 : decode cX1_isThereBefore 42 = .ok (.iaload, 1) := by decide +kernel
theorem dX1_isThereBefore_43 : decode cX1_isThereBefore 43 = .ok (.invokevirtual 31, 3) := by decide +kernel
theorem dX1_isThereBefore_46 : decode cX1_isThereBefore 46 = .ok (.ireturn, 1) := by decide +kernel
theorem dX1_applyTo_0 : decode cX1_applyTo 0 = .ok (.iconst 0, 1) := by decide +kernel
theorem dX1_applyTo_1 : decode cX1_applyTo 1 = .ok (.istore_n 2, 1) := by decide +kernel
theorem dX1_applyTo_2 : decode cX1_applyTo 2 = .ok (.iload_n 2, 1) := by decide +kernel
theorem dX1_applyTo_3 : decode cX1_applyTo 3 = .ok (.aload_n 0, 1) := by decide +kernel
theorem dX1_applyTo_4 : decode cX1_applyTo 4 = .ok (.getfield 9, 3) := by decide +kernel
theorem dX1_applyTo_7 : decode cX1_applyTo 7 = .ok (.if_icmp .ge 47, 3) := by decide +kernel
theorem dX1_applyTo_10 : decode cX1_applyTo 10 = .ok (.aload_n 0, 1) := by decide +kernel
theorem dX1_applyTo_11 : decode cX1_applyTo 11 = .ok (.getfield 19, 3) := by decide +kernel
theorem dX1_applyTo_14 : decode cX1_applyTo 14 = .ok (.iload_n 2, 1) := by decide +kernel
theorem dX1_applyTo_15 : decode cX1_applyTo 15 = .ok (.baload, 1) := by decide +kernel
theorem dX1_applyTo_16 : decode cX1_applyTo 16 = .ok (.ifCond .eq 22, 3) := by decide +kernel
theorem dX1_applyTo_19 : decode cX1_applyTo 19 = .ok (.aload_n 1, 1) := by decide +kernel
theorem dX1_applyTo_20 : decode cX1_applyTo 20 = .ok (.aload_n 0, 1) := by decide +kernel
theorem dX1_applyTo_21 : decode cX1_applyTo 21 = .ok (.getfield 15, 3) := by decide +kernel
theorem dX1_applyTo_24 : decode cX1_applyTo 24 = .ok (.iload_n 2, 1) := by decide +kernel
theorem dX1_applyTo_25 : decode cX1_applyTo 25 = .ok (.iaload, 1) := by decide +kernel
theorem dX1_applyTo_26 : decode cX1_applyTo 26 = .ok (.aload_n 0, 1) := by decide +kernel
theorem dX1_applyTo_27 : decode cX1_applyTo 27 = .ok (.getfield 23, 3) := by decide +kernel
theorem dX1_applyTo_30 : decode cX1_applyTo 30 = .ok (.iload_n 2, 1) := by decide +kernel
theorem dX1_applyTo_31 : decode cX1_applyTo 31 = .ok (.laload, 1) := by decide +kernel
theorem dX1_applyTo_32 : decode cX1_applyTo 32 = .ok (.invokevirtual 37, 3) := by decide +kernel
theorem dX1_applyTo_35 : decode cX1_applyTo 35 = .ok (.goto 13, 3) := by decide +kernel
theorem dX1_applyTo_38 : decode cX1_applyTo 38 = .ok (.aload_n 1, 1) := by decide +kernel
theorem dX1_applyTo_39 : decode cX1_applyTo 39 = .ok (.aload_n 0, 1) := by decide +kernel
theorem dX1_applyTo_40 : decode cX1_applyTo 40 = .ok (.getfield 15, 3) := by decide +kernel
theorem dX1_applyTo_43 : decode cX1_applyTo 43 = .ok (.iload_n 2, 1) := by decide +kernel
theorem dX1_applyTo_44 : decode cX1_applyTo 44 = .ok (.iaload, 1) := by decide +kernel
theorem dX1_applyTo_45 : decode cX1_applyTo 45 = .ok (.invokevirtual 41, 3) := by decide +kernel
theorem dX1_applyTo_48 : decode cX1_applyTo 48 = .ok (.iinc 2 1, 3) := by decide +kernel
theorem dX1_applyTo_51 : decode cX1_applyTo 51 = .ok (.goto (-49), 3) := by decide +kernel
theorem dX1_applyTo_54 : decode cX1_applyTo 54 = .ok (.return_, 1) := by decide +kernel
theorem dX2_init_0 : decode cX2_init 0 = .ok (.aload_n 0, 1) := by decide +kernel
theorem dX2_init_1 : decode cX2_init 1 = .ok (.invokespecial 3, 3) := by decide +kernel
theorem dX2_init_4 : decode cX2_init 4 = .ok (.aload_n 0, 1) := by decide +kernel
theorem dX2_init_5 : decode cX2_init 5 = .ok (.iconst 0, 1) := by decide +kernel
theorem dX2_init_6 : decode cX2_init 6 = .ok (.putfield 9, 3) := by decide +kernel
theorem dX2_init_9 : decode cX2_init 9 = .ok (.aload_n 0, 1) := by decide +kernel
theorem dX2_init_10 : decode cX2_init 10 = .ok (.bipush 20, 2) := by decide +kernel
theorem dX2_init_12 : decode cX2_init 12 = .ok (.newarray .int, 2) := by decide +kernel
theorem dX2_init_14 : decode cX2_init 14 = .ok (.putfield 15, 3) := by decide +kernel
theorem dX2_init_17 : decode cX2_init 17 = .ok (.aload_n 0, 1) := by decide +kernel
theorem dX2_init_18 : decode cX2_init 18 = .ok (.bipush 20, 2) := by decide +kernel
theorem dX2_init_20 : decode cX2_init 20 = .ok (.newarray .int, 2) := by decide +kernel
theorem dX2_init_22 : decode cX2_init 22 = .ok (.putfield 19, 3) := by decide +kernel
theorem dX2_init_25 : decode cX2_init 25 = .ok (.aload_n 0, 1) := by decide +kernel
theorem dX2_init_26 : decode cX2_init 26 = .ok (.bipush 20, 2) := by decide +kernel
theorem dX2_init_28 : decode cX2_init 28 = .ok (.newarray .int, 2) := by decide +kernel
theorem dX2_init_30 : decode cX2_init 30 = .ok (.putfield 22, 3) := by decide +kernel
theorem dX2_init_33 : decode cX2_init 33 = .ok (.aload_n 0, 1) := by decide +kernel
theorem dX2_init_34 : decode cX2_init 34 = .ok (.bipush 20, 2) := by decide +kernel
theorem dX2_init_36 : decode cX2_init 36 = .ok (.newarray .long, 2) := by decide +kernel
theorem dX2_init_38 : decode cX2_init 38 = .ok (.putfield 25, 3) := by decide +kernel
theorem dX2_init_41 : decode cX2_init 41 = .ok (.return_, 1) := by decide +kernel
theorem dX2_append_0 : decode cX2_append 0 = .ok (.aload_n 0, 1) := by decide +kernel
theorem dX2_append_1 : decode cX2_append 1 = .ok (.getfield 15, 3) := by decide +kernel
theorem dX2_append_4 : decode cX2_append 4 = .ok (.aload_n 0, 1) := by decide +kernel
theorem dX2_append_5 : decode cX2_append 5 = .ok (.getfield 9, 3) := by decide +kernel
theorem dX2_append_8 : decode cX2_append 8 = .ok (.iload_n 1, 1) := by decide +kernel
theorem dX2_append_9 : decode cX2_append 9 = .ok (.iastore, 1) := by decide +kernel
theorem dX2_append_10 : decode cX2_append 10 = .ok (.aload_n 0, 1) := by decide +kernel
theorem dX2_append_11 : decode cX2_append 11 = .ok (.getfield 19, 3) := by decide +kernel
theorem dX2_append_14 : decode cX2_append 14 = .ok (.aload_n 0, 1) := by decide +kernel
theorem dX2_append_15 : decode cX2_append 15 = .ok (.getfield 9, 3) := by decide +kernel
theorem dX2_append_18 : decode cX2_append 18 = .ok (.iload_n 2, 1) := by decide +kernel
theorem dX2_append_19 : decode cX2_append 19 = .ok (.iastore, 1) := by decide +kernel
theorem dX2_append_20 : decode cX2_append 20 = .ok (.aload_n 0, 1) := by decide +kernel
theorem dX2_append_21 : decode cX2_append 21 = .ok (.getfield 22, 3) := by decide +kernel
theorem dX2_append_24 : decode cX2_append 24 = .ok (.aload_n 0, 1) := by decide +kernel
theorem dX2_append_25 : decode cX2_append 25 = .ok (.getfield 9, 3) := by decide +kernel
theorem dX2_append_28 : decode cX2_append 28 = .ok (.iload_n 3, 1) := by decide +kernel
theorem dX2_append_29 : decode cX2_append 29 = .ok (.iastore, 1) := by decide +kernel
theorem dX2_append_30 : decode cX2_append 30 = .ok (.aload_n 0, 1) := by decide +kernel
theorem dX2_append_31 : decode cX2_append 31 = .ok (.getfield 25, 3) := by decide +kernel
theorem dX2_append_34 : decode cX2_append 34 = .ok (.aload_n 0, 1) := by decide +kernel
theorem dX2_append_35 : decode cX2_append 35 = .ok (.getfield 9, 3) := by decide +kernel
theorem dX2_append_38 : decode cX2_append 38 = .ok (.lload 4, 2) := by decide +kernel
theorem dX2_append_40 : decode cX2_append 40 = .ok (.lastore, 1) := by decide +kernel
theorem dX2_append_41 : decode cX2_append 41 = .ok (.aload_n 0, 1) := by decide +kernel
theorem dX2_append_42 : decode cX2_append 42 = .ok (.dup, 1) := by decide +kernel
theorem dX2_append_43 : decode cX2_append 43 = .ok (.getfield 9, 3) := by decide +kernel
theorem dX2_append_46 : decode cX2_append 46 = .ok (.iconst 1, 1) := by decide +kernel
theorem dX2_append_47 : decode cX2_append 47 = .ok (.iadd, 1) := by decide +kernel
theorem dX2_append_48 : decode cX2_append 48 = .ok (.putfield 9, 3) := by decide +kernel
theorem dX2_append_51 : decode cX2_append 51 = .ok (.return_, 1) := by decide +kernel
theorem dX2_clear_0 : decode cX2_clear 0 = .ok (.aload_n 0, 1) := by decide +kernel
theorem dX2_clear_1 : decode cX2_clear 1 = .ok (.iconst 0, 1) := by decide +kernel
theorem dX2_clear_2 : decode cX2_clear 2 = .ok (.putfield 9, 3) := by decide +kernel
theorem dX2_clear_5 : decode cX2_clear 5 = .ok (.return_, 1) := by decide +kernel
theorem dX2_allHold_0 : decode cX2_allHold 0 = .ok (.iconst 0, 1) := by decide +kernel
theorem dX2_allHold_1 : decode cX2_allHold 1 = .ok (.istore_n 2, 1) := by decide +kernel
theorem dX2_allHold_2 : decode cX2_allHold 2 = .ok (.iload_n 2, 1) := by decide +kernel
theorem dX2_allHold_3 : decode cX2_allHold 3 = .ok (.aload_n 0, 1) := by decide +kernel
theorem dX2_allHold_4 : decode cX2_allHold 4 = .ok (.getfield 9, 3) := by decide +kernel
theorem dX2_allHold_7 : decode cX2_allHold 7 = .ok (.if_icmp .ge 39, 3) := by decide +kernel
theorem dX2_allHold_10 : decode cX2_allHold 10 = .ok (.aload_n 0, 1) := by decide +kernel
theorem dX2_allHold_11 : decode cX2_allHold 11 = .ok (.iload_n 2, 1) := by decide +kernel
theorem dX2_allHold_12 : decode cX2_allHold 12 = .ok (.aload_n 1, 1) := by decide +kernel
theorem dX2_allHold_13 : decode cX2_allHold 13 = .ok (.aload_n 0, 1) := by decide +kernel
theorem dX2_allHold_14 : decode cX2_allHold 14 = .ok (.getfield 15, 3) := by decide +kernel
theorem dX2_allHold_17 : decode cX2_allHold 17 = .ok (.iload_n 2, 1) := by decide +kernel
theorem dX2_allHold_18 : decode cX2_allHold 18 = .ok (.iaload, 1) := by decide +kernel
theorem dX2_allHold_19 : decode cX2_allHold 19 = .ok (.aload_n 1, 1) := by decide +kernel
theorem dX2_allHold_20 : decode cX2_allHold 20 = .ok (.getfield 29, 3) := by decide +kernel
theorem dX2_allHold_23 : decode cX2_allHold 23 = .ok (.aload_n 0, 1) := by decide +kernel
theorem dX2_allHold_24 : decode cX2_allHold 24 = .ok (.getfield 19, 3) := by decide +kernel
theorem dX2_allHold_27 : decode cX2_allHold 27 = .ok (.iload_n 2, 1) := by decide +kernel
theorem dX2_allHold_28 : decode cX2_allHold 28 = .ok (.iaload, 1) := by decide +kernel
theorem dX2_allHold_29 : decode cX2_allHold 29 = .ok (.invokevirtual 34, 3) := by decide +kernel
theorem dX2_allHold_32 : decode cX2_allHold 32 = .ok (.invokevirtual 38, 3) := by decide +kernel
theorem dX2_allHold_35 : decode cX2_allHold 35 = .ok (.ifCond .ne 5, 3) := by decide +kernel
theorem dX2_allHold_38 : decode cX2_allHold 38 = .ok (.iconst 0, 1) := by decide +kernel
theorem dX2_allHold_39 : decode cX2_allHold 39 = .ok (.ireturn, 1) := by decide +kernel
theorem dX2_allHold_40 : decode cX2_allHold 40 = .ok (.iinc 2 1, 3) := by decide +kernel
theorem dX2_allHold_43 : decode cX2_allHold 43 = .ok (.goto (-41), 3) := by decide +kernel
theorem dX2_allHold_46 : decode cX2_allHold 46 = .ok (.iconst 1, 1) := by decide +kernel
theorem dX2_allHold_47 : decode cX2_allHold 47 = .ok (.ireturn, 1) := by decide +kernel
theorem dX2_holds_0 : decode cX2_holds 0 = .ok (.aload_n 0, 1) := by decide +kernel
theorem dX2_holds_1 : decode cX2_holds 1 = .ok (.getfield 22, 3) := by decide +kernel
theorem dX2_holds_4 : decode cX2_holds 4 = .ok (.iload_n 1, 1) := by decide +kernel
theorem dX2_holds_5 : decode cX2_holds 5 = .ok (.iaload, 1) := by decide +kernel
theorem dX2_holds_6 : decode cX2_holds 6 = .ok (.ifCond .ge 20, 3) := by decide +kernel
theorem dX2_holds_9 : decode cX2_holds 9 = .ok (.lload_n 2, 1) := by decide +kernel
theorem dX2_holds_10 : decode cX2_holds 10 = .ok (.aload_n 0, 1) := by decide +kernel
theorem dX2_holds_11 : decode cX2_holds 11 = .ok (.getfield 25, 3) := by decide +kernel
theorem dX2_holds_14 : decode cX2_holds 14 = .ok (.iload_n 1, 1) := by decide +kernel
theorem dX2_holds_15 : decode cX2_holds 15 = .ok (.laload, 1) := by decide +kernel
theorem dX2_holds_16 : decode cX2_holds 16 = .ok (.lcmp, 1) := by decide +kernel
theorem dX2_holds_17 : decode cX2_holds 17 = .ok (.ifCond .ge 7, 3) := by decide +kernel
theorem dX2_holds_20 : decode cX2_holds 20 = .ok (.iconst 1, 1) := by decide +kernel
theorem dX2_holds_21 : decode cX2_holds 21 = .ok (.goto 4, 3) := by decide +kernel
theorem dX2_holds_24 : decode cX2_holds 24 = .ok (.iconst 0, 1) := by decide +kernel
theorem dX2_holds_25 : decode cX2_holds 25 = .ok (.ireturn, 1) := by decide +kernel
theorem dX2_holds_26 : decode cX2_holds 26 = .ok (.aload_n 0, 1) := by decide +kernel
theorem dX2_holds_27 : decode cX2_holds 27 = .ok (.getfield 22, 3) := by decide +kernel
theorem dX2_holds_30 : decode cX2_holds 30 = .ok (.iload_n 1, 1) := by decide +kernel
theorem dX2_holds_31 : decode cX2_holds 31 = .ok (.iaload, 1) := by decide +kernel
theorem dX2_holds_32 : decode cX2_holds 32 = .ok (.ifCond .le 20, 3) := by decide +kernel
theorem dX2_holds_35 : decode cX2_holds 35 = .ok (.lload_n 2, 1) := by decide +kernel
theorem dX2_holds_36 : decode cX2_holds 36 = .ok (.aload_n 0, 1) := by decide +kernel
theorem dX2_holds_37 : decode cX2_holds 37 = .ok (.getfield 25, 3) := by decide +kernel
theorem dX2_holds_40 : decode cX2_holds 40 = .ok (.iload_n 1, 1) := by decide +kernel
theorem dX2_holds_41 : decode cX2_holds 41 = .ok (.laload, 1) := by decide +kernel
theorem dX2_holds_42 : decode cX2_holds 42 = .ok (.lcmp, 1) := by decide +kernel
theorem dX2_holds_43 : decode cX2_holds 43 = .ok (.ifCond .le 7, 3) := by decide +kernel
theorem dX2_holds_46 : decode cX2_holds 46 = .ok (.iconst 1, 1) := by decide +kernel
theorem dX2_holds_47 : decode cX2_holds 47 = .ok (.goto 4, 3) := by decide +kernel
theorem dX2_holds_50 : decode cX2_holds 50 = .ok (.iconst 0, 1) := by decide +kernel
theorem dX2_holds_51 : decode cX2_holds 51 = .ok (.ireturn, 1) := by decide +kernel
theorem dX2_holds_52 : decode cX2_holds 52 = .ok (.lload_n 2, 1) := by decide +kernel
theorem dX2_holds_53 : decode cX2_holds 53 = .ok (.aload_n 0, 1) := by decide +kernel
theorem dX2_holds_54 : decode cX2_holds 54 = .ok (.getfield 25, 3) := by decide +kernel
theorem dX2_holds_57 : decode cX2_holds 57 = .ok (.iload_n 1, 1) := by decide +kernel
theorem dX2_holds_58 : decode cX2_holds 58 = .ok (.laload, 1) := by decide +kernel
theorem dX2_holds_59 : decode cX2_holds 59 = .ok (.lcmp, 1) := by decide +kernel
theorem dX2_holds_60 : decode cX2_holds 60 = .ok (.ifCond .ne 7, 3) := by decide +kernel
theorem dX2_holds_63 : decode cX2_holds 63 = .ok (.iconst 1, 1) := by decide +kernel
theorem dX2_holds_64 : decode cX2_holds 64 = .ok (.goto 4, 3) := by decide +kernel
theorem dX2_holds_67 : decode cX2_holds 67 = .ok (.iconst 0, 1) := by decide +kernel
theorem dX2_holds_68 : decode cX2_holds 68 = .ok (.ireturn, 1) := by decide +kernel
