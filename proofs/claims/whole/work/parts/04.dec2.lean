theorem dX4_init_0 : decode cX4_init 0 = .ok (.aload_n 0, 1) := by decide +kernel
theorem dX4_init_1 : decode cX4_init 1 = .ok (.invokespecial 1, 3) := by decide +kernel
theorem dX4_init_4 : decode cX4_init 4 = .ok (.aload_n 0, 1) := by decide +kernel
theorem dX4_init_5 : decode cX4_init 5 = .ok (.sipush 2040, 3) := by decide +kernel
theorem dX4_init_8 : decode cX4_init 8 = .ok (.newarray .int, 2) := by decide +kernel
theorem dX4_init_10 : decode cX4_init 10 = .ok (.putfield 7, 3) := by decide +kernel
theorem dX4_init_13 : decode cX4_init 13 = .ok (.aload_n 0, 1) := by decide +kernel
theorem dX4_init_14 : decode cX4_init 14 = .ok (.sipush 2040, 3) := by decide +kernel
theorem dX4_init_17 : decode cX4_init 17 = .ok (.newarray .int, 2) := by decide +kernel
theorem dX4_init_19 : decode cX4_init 19 = .ok (.putfield 13, 3) := by decide +kernel
theorem dX4_init_22 : decode cX4_init 22 = .ok (.aload_n 0, 1) := by decide +kernel
theorem dX4_init_23 : decode cX4_init 23 = .ok (.sipush 2040, 3) := by decide +kernel
theorem dX4_init_26 : decode cX4_init 26 = .ok (.newarray .int, 2) := by decide +kernel
theorem dX4_init_28 : decode cX4_init 28 = .ok (.putfield 16, 3) := by decide +kernel
theorem dX4_init_31 : decode cX4_init 31 = .ok (.aload_n 0, 1) := by decide +kernel
theorem dX4_init_32 : decode cX4_init 32 = .ok (.sipush 2040, 3) := by decide +kernel
theorem dX4_init_35 : decode cX4_init 35 = .ok (.newarray .long, 2) := by decide +kernel
theorem dX4_init_37 : decode cX4_init 37 = .ok (.putfield 19, 3) := by decide +kernel
theorem dX4_init_40 : decode cX4_init 40 = .ok (.aload_n 0, 1) := by decide +kernel
theorem dX4_init_41 : decode cX4_init 41 = .ok (.sipush 2040, 3) := by decide +kernel
theorem dX4_init_44 : decode cX4_init 44 = .ok (.newarray .boolean, 2) := by decide +kernel
theorem dX4_init_46 : decode cX4_init 46 = .ok (.putfield 23, 3) := by decide +kernel
theorem dX4_init_49 : decode cX4_init 49 = .ok (.aload_n 0, 1) := by decide +kernel
theorem dX4_init_50 : decode cX4_init 50 = .ok (.bipush 20, 2) := by decide +kernel
theorem dX4_init_52 : decode cX4_init 52 = .ok (.newarray .int, 2) := by decide +kernel
theorem dX4_init_54 : decode cX4_init 54 = .ok (.putfield 27, 3) := by decide +kernel
theorem dX4_init_57 : decode cX4_init 57 = .ok (.aload_n 0, 1) := by decide +kernel
theorem dX4_init_58 : decode cX4_init 58 = .ok (.bipush 20, 2) := by decide +kernel
theorem dX4_init_60 : decode cX4_init 60 = .ok (.newarray .int, 2) := by decide +kernel
theorem dX4_init_62 : decode cX4_init 62 = .ok (.putfield 30, 3) := by decide +kernel
theorem dX4_init_65 : decode cX4_init 65 = .ok (.aload_n 0, 1) := by decide +kernel
theorem dX4_init_66 : decode cX4_init 66 = .ok (.bipush 20, 2) := by decide +kernel
theorem dX4_init_68 : decode cX4_init 68 = .ok (.newarray .int, 2) := by decide +kernel
theorem dX4_init_70 : decode cX4_init 70 = .ok (.putfield 33, 3) := by decide +kernel
theorem dX4_init_73 : decode cX4_init 73 = .ok (.aload_n 0, 1) := by decide +kernel
theorem dX4_init_74 : decode cX4_init 74 = .ok (.bipush 20, 2) := by decide +kernel
theorem dX4_init_76 : decode cX4_init 76 = .ok (.newarray .long, 2) := by decide +kernel
theorem dX4_init_78 : decode cX4_init 78 = .ok (.putfield 36, 3) := by decide +kernel
theorem dX4_init_81 : decode cX4_init 81 = .ok (.aload_n 0, 1) := by decide +kernel
theorem dX4_init_82 : decode cX4_init 82 = .ok (.bipush 40, 2) := by decide +kernel
theorem dX4_init_84 : decode cX4_init 84 = .ok (.newarray .int, 2) := by decide +kernel
theorem dX4_init_86 : decode cX4_init 86 = .ok (.putfield 39, 3) := by decide +kernel
theorem dX4_init_89 : decode cX4_init 89 = .ok (.aload_n 0, 1) := by decide +kernel
theorem dX4_init_90 : decode cX4_init 90 = .ok (.bipush 40, 2) := by decide +kernel
theorem dX4_init_92 : decode cX4_init 92 = .ok (.newarray .boolean, 2) := by decide +kernel
theorem dX4_init_94 : decode cX4_init 94 = .ok (.putfield 42, 3) := by decide +kernel
theorem dX4_init_97 : decode cX4_init 97 = .ok (.aload_n 0, 1) := by decide +kernel
theorem dX4_init_98 : decode cX4_init 98 = .ok (.bipush 40, 2) := by decide +kernel
theorem dX4_init_100 : decode cX4_init 100 = .ok (.newarray .long, 2) := by decide +kernel
theorem dX4_init_102 : decode cX4_init 102 = .ok (.putfield 45, 3) := by decide +kernel
theorem dX4_init_105 : decode cX4_init 105 = .ok (.aload_n 0, 1) := by decide +kernel
theorem dX4_init_106 : decode cX4_init 106 = .ok (.sipush 2000, 3) := by decide +kernel
theorem dX4_init_109 : decode cX4_init 109 = .ok (.newarray .int, 2) := by decide +kernel
theorem dX4_init_111 : decode cX4_init 111 = .ok (.putfield 48, 3) := by decide +kernel
theorem dX4_init_114 : decode cX4_init 114 = .ok (.return_, 1) := by decide +kernel
theorem dX4_thrown_0 : decode cX4_thrown 0 = .ok (.aload_n 0, 1) := by decide +kernel
theorem dX4_thrown_1 : decode cX4_thrown 1 = .ok (.getfield 51, 3) := by decide +kernel
theorem dX4_thrown_4 : decode cX4_thrown 4 = .ok (.ireturn, 1) := by decide +kernel
theorem dX4_no_0 : decode cX4_no 0 = .ok (.aload_n 0, 1) := by decide +kernel
theorem dX4_no_1 : decode cX4_no 1 = .ok (.iload_n 1, 1) := by decide +kernel
theorem dX4_no_2 : decode cX4_no 2 = .ok (.putfield 51, 3) := by decide +kernel
theorem dX4_no_5 : decode cX4_no 5 = .ok (.iconst 0, 1) := by decide +kernel
theorem dX4_no_6 : decode cX4_no 6 = .ok (.ireturn, 1) := by decide +kernel
theorem dX4_last_0 : decode cX4_last 0 = .ok (.iconst (-1), 1) := by decide +kernel
theorem dX4_last_1 : decode cX4_last 1 = .ok (.istore_n 3, 1) := by decide +kernel
theorem dX4_last_2 : decode cX4_last 2 = .ok (.iconst 0, 1) := by decide +kernel
theorem dX4_last_3 : decode cX4_last 3 = .ok (.istore 4, 2) := by decide +kernel
theorem dX4_last_5 : decode cX4_last 5 = .ok (.iload 4, 2) := by decide +kernel
theorem dX4_last_7 : decode cX4_last 7 = .ok (.aload_n 0, 1) := by decide +kernel
theorem dX4_last_8 : decode cX4_last 8 = .ok (.getfield 55, 3) := by decide +kernel
theorem dX4_last_11 : decode cX4_last 11 = .ok (.if_icmp .ge 34, 3) := by decide +kernel
theorem dX4_last_14 : decode cX4_last 14 = .ok (.aload_n 0, 1) := by decide +kernel
theorem dX4_last_15 : decode cX4_last 15 = .ok (.getfield 13, 3) := by decide +kernel
theorem dX4_last_18 : decode cX4_last 18 = .ok (.iload 4, 2) := by decide +kernel
theorem dX4_last_20 : decode cX4_last 20 = .ok (.iaload, 1) := by decide +kernel
theorem dX4_last_21 : decode cX4_last 21 = .ok (.iload_n 2, 1) := by decide +kernel
theorem dX4_last_22 : decode cX4_last 22 = .ok (.if_icmp .gt 23, 3) := by decide +kernel
theorem dX4_last_25 : decode cX4_last 25 = .ok (.aload_n 0, 1) := by decide +kernel
theorem dX4_last_26 : decode cX4_last 26 = .ok (.getfield 7, 3) := by decide +kernel
theorem dX4_last_29 : decode cX4_last 29 = .ok (.iload 4, 2) := by decide +kernel
theorem dX4_last_31 : decode cX4_last 31 = .ok (.iaload, 1) := by decide +kernel
theorem dX4_last_32 : decode cX4_last 32 = .ok (.iload_n 1, 1) := by decide +kernel
theorem dX4_last_33 : decode cX4_last 33 = .ok (.if_icmp .ne 6, 3) := by decide +kernel
theorem dX4_last_36 : decode cX4_last 36 = .ok (.iload 4, 2) := by decide +kernel
theorem dX4_last_38 : decode cX4_last 38 = .ok (.istore_n 3, 1) := by decide +kernel
theorem dX4_last_39 : decode cX4_last 39 = .ok (.iinc 4 1, 3) := by decide +kernel
theorem dX4_last_42 : decode cX4_last 42 = .ok (.goto (-37), 3) := by decide +kernel
theorem dX4_last_45 : decode cX4_last 45 = .ok (.iload_n 3, 1) := by decide +kernel
theorem dX4_last_46 : decode cX4_last 46 = .ok (.ireturn, 1) := by decide +kernel
theorem dX4_isThere_0 : decode cX4_isThere 0 = .ok (.aload_n 0, 1) := by decide +kernel
theorem dX4_isThere_1 : decode cX4_isThere 1 = .ok (.iload_n 1, 1) := by decide +kernel
theorem dX4_isThere_2 : decode cX4_isThere 2 = .ok (.iload_n 2, 1) := by decide +kernel
theorem dX4_isThere_3 : decode cX4_isThere 3 = .ok (.invokevirtual 58, 3) := by decide +kernel
theorem dX4_isThere_6 : decode cX4_isThere 6 = .ok (.istore_n 3, 1) := by decide +kernel
theorem dX4_isThere_7 : decode cX4_isThere 7 = .ok (.iload_n 3, 1) := by decide +kernel
theorem dX4_isThere_8 : decode cX4_isThere 8 = .ok (.ifCond .lt 16, 3) := by decide +kernel
theorem dX4_isThere_11 : decode cX4_isThere 11 = .ok (.aload_n 0, 1) := by decide +kernel
theorem dX4_isThere_12 : decode cX4_isThere 12 = .ok (.getfield 23, 3) := by decide +kernel
theorem dX4_isThere_15 : decode cX4_isThere 15 = .ok (.iload_n 3, 1) := by decide +kernel
theorem dX4_isThere_16 : decode cX4_isThere 16 = .ok (.baload, 1) := by decide +kernel
theorem dX4_isThere_17 : decode cX4_isThere 17 = .ok (.ifCond .eq 7, 3) := by decide +kernel
theorem dX4_isThere_20 : decode cX4_isThere 20 = .ok (.iconst 1, 1) := by decide +kernel
theorem dX4_isThere_21 : decode cX4_isThere 21 = .ok (.goto 4, 3) := by decide +kernel
theorem dX4_isThere_24 : decode cX4_isThere 24 = .ok (.iconst 0, 1) := by decide +kernel
theorem dX4_isThere_25 : decode cX4_isThere 25 = .ok (.ireturn, 1) := by decide +kernel
theorem dX4_add_0 : decode cX4_add 0 = .ok (.aload_n 0, 1) := by decide +kernel
theorem dX4_add_1 : decode cX4_add 1 = .ok (.iload_n 1, 1) := by decide +kernel
theorem dX4_add_2 : decode cX4_add 2 = .ok (.iload 5, 2) := by decide +kernel
theorem dX4_add_4 : decode cX4_add 4 = .ok (.invokevirtual 58, 3) := by decide +kernel
theorem dX4_add_7 : decode cX4_add 7 = .ok (.istore 6, 2) := by decide +kernel
theorem dX4_add_9 : decode cX4_add 9 = .ok (.iload 6, 2) := by decide +kernel
theorem dX4_add_11 : decode cX4_add 11 = .ok (.ifCond .lt 14, 3) := by decide +kernel
theorem dX4_add_14 : decode cX4_add 14 = .ok (.aload_n 0, 1) := by decide +kernel
theorem dX4_add_15 : decode cX4_add 15 = .ok (.getfield 16, 3) := by decide +kernel
theorem dX4_add_18 : decode cX4_add 18 = .ok (.iload 6, 2) := by decide +kernel
theorem dX4_add_20 : decode cX4_add 20 = .ok (.aload_n 0, 1) := by decide +kernel
theorem dX4_add_21 : decode cX4_add 21 = .ok (.getfield 55, 3) := by decide +kernel
theorem dX4_add_24 : decode cX4_add 24 = .ok (.iastore, 1) := by decide +kernel
theorem dX4_add_25 : decode cX4_add 25 = .ok (.aload_n 0, 1) := by decide +kernel
theorem dX4_add_26 : decode cX4_add 26 = .ok (.getfield 7, 3) := by decide +kernel
theorem dX4_add_29 : decode cX4_add 29 = .ok (.aload_n 0, 1) := by decide +kernel
theorem dX4_add_30 : decode cX4_add 30 = .ok (.getfield 55, 3) := by decide +kernel
theorem dX4_add_33 : decode cX4_add 33 = .ok (.iload_n 1, 1) := by decide +kernel
theorem dX4_add_34 : decode cX4_add 34 = .ok (.iastore, 1) := by decide +kernel
theorem dX4_add_35 : decode cX4_add 35 = .ok (.aload_n 0, 1) := by decide +kernel
theorem dX4_add_36 : decode cX4_add 36 = .ok (.getfield 23, 3) := by decide +kernel
theorem dX4_add_39 : decode cX4_add 39 = .ok (.aload_n 0, 1) := by decide +kernel
theorem dX4_add_40 : decode cX4_add 40 = .ok (.getfield 55, 3) := by decide +kernel
theorem dX4_add_43 : decode cX4_add 43 = .ok (.iload_n 2, 1) := by decide +kernel
theorem dX4_add_44 : decode cX4_add 44 = .ok (.bastore, 1) := by decide +kernel
theorem dX4_add_45 : decode cX4_add 45 = .ok (.aload_n 0, 1) := by decide +kernel
theorem dX4_add_46 : decode cX4_add 46 = .ok (.getfield 19, 3) := by decide +kernel
theorem dX4_add_49 : decode cX4_add 49 = .ok (.aload_n 0, 1) := by decide +kernel
theorem dX4_add_50 : decode cX4_add 50 = .ok (.getfield 55, 3) := by decide +kernel
theorem dX4_add_53 : decode cX4_add 53 = .ok (.lload_n 3, 1) := by decide +kernel
theorem dX4_add_54 : decode cX4_add 54 = .ok (.lastore, 1) := by decide +kernel
theorem dX4_add_55 : decode cX4_add 55 = .ok (.aload_n 0, 1) := by decide +kernel
theorem dX4_add_56 : decode cX4_add 56 = .ok (.getfield 13, 3) := by decide +kernel
theorem dX4_add_59 : decode cX4_add 59 = .ok (.aload_n 0, 1) := by decide +kernel
theorem dX4_add_60 : decode cX4_add 60 = .ok (.getfield 55, 3) := by decide +kernel
theorem dX4_add_63 : decode cX4_add 63 = .ok (.iload 5, 2) := by decide +kernel
theorem dX4_add_65 : decode cX4_add 65 = .ok (.iastore, 1) := by decide +kernel
theorem dX4_add_66 : decode cX4_add 66 = .ok (.aload_n 0, 1) := by decide +kernel
theorem dX4_add_67 : decode cX4_add 67 = .ok (.getfield 16, 3) := by decide +kernel
theorem dX4_add_70 : decode cX4_add 70 = .ok (.aload_n 0, 1) := by decide +kernel
theorem dX4_add_71 : decode cX4_add 71 = .ok (.getfield 55, 3) := by decide +kernel
theorem dX4_add_74 : decode cX4_add 74 = .ok (.iconst (-1), 1) := by decide +kernel
theorem dX4_add_75 : decode cX4_add 75 = .ok (.iastore, 1) := by decide +kernel
theorem dX4_add_76 : decode cX4_add 76 = .ok (.aload_n 0, 1) := by decide +kernel
theorem dX4_add_77 : decode cX4_add 77 = .ok (.dup, 1) := by decide +kernel
theorem dX4_add_78 : decode cX4_add 78 = .ok (.getfield 55, 3) := by decide +kernel
theorem dX4_add_81 : decode cX4_add 81 = .ok (.iconst 1, 1) := by decide +kernel
theorem dX4_add_82 : decode cX4_add 82 = .ok (.iadd, 1) := by decide +kernel
theorem dX4_add_83 : decode cX4_add 83 = .ok (.putfield 55, 3) := by decide +kernel
theorem dX4_add_86 : decode cX4_add 86 = .ok (.return_, 1) := by decide +kernel
theorem dX4_put_0 : decode cX4_put 0 = .ok (.aload_n 0, 1) := by decide +kernel
theorem dX4_put_1 : decode cX4_put 1 = .ok (.getfield 55, 3) := by decide +kernel
theorem dX4_put_4 : decode cX4_put 4 = .ok (.sipush 300, 3) := by decide +kernel
theorem dX4_put_7 : decode cX4_put 7 = .ok (.if_icmp .ne 9, 3) := by decide +kernel
theorem dX4_put_10 : decode cX4_put 10 = .ok (.aload_n 0, 1) := by decide +kernel
theorem dX4_put_11 : decode cX4_put 11 = .ok (.iconst 1, 1) := by decide +kernel
theorem dX4_put_12 : decode cX4_put 12 = .ok (.invokevirtual 62, 3) := by decide +kernel
theorem dX4_put_15 : decode cX4_put 15 = .ok (.ireturn, 1) := by decide +kernel
theorem dX4_put_16 : decode cX4_put 16 = .ok (.aload_n 0, 1) := by decide +kernel
theorem dX4_put_17 : decode cX4_put 17 = .ok (.iconst 0, 1) := by decide +kernel
theorem dX4_put_18 : decode cX4_put 18 = .ok (.putfield 51, 3) := by decide +kernel
theorem dX4_put_21 : decode cX4_put 21 = .ok (.aload_n 0, 1) := by decide +kernel
theorem dX4_put_22 : decode cX4_put 22 = .ok (.dup, 1) := by decide +kernel
theorem dX4_put_23 : decode cX4_put 23 = .ok (.getfield 66, 3) := by decide +kernel
theorem dX4_put_26 : decode cX4_put 26 = .ok (.iconst 1, 1) := by decide +kernel
theorem dX4_put_27 : decode cX4_put 27 = .ok (.iadd, 1) := by decide +kernel
theorem dX4_put_28 : decode cX4_put 28 = .ok (.putfield 66, 3) := by decide +kernel
theorem dX4_put_31 : decode cX4_put 31 = .ok (.aload_n 0, 1) := by decide +kernel
theorem dX4_put_32 : decode cX4_put 32 = .ok (.iload_n 1, 1) := by decide +kernel
theorem dX4_put_33 : decode cX4_put 33 = .ok (.iconst 1, 1) := by decide +kernel
theorem dX4_put_34 : decode cX4_put 34 = .ok (.lload_n 2, 1) := by decide +kernel
theorem dX4_put_35 : decode cX4_put 35 = .ok (.aload_n 0, 1) := by decide +kernel
theorem dX4_put_36 : decode cX4_put 36 = .ok (.getfield 66, 3) := by decide +kernel
theorem dX4_put_39 : decode cX4_put 39 = .ok (.invokevirtual 69, 3) := by decide +kernel
theorem dX4_put_42 : decode cX4_put 42 = .ok (.aload_n 0, 1) := by decide +kernel
theorem dX4_put_43 : decode cX4_put 43 = .ok (.getfield 66, 3) := by decide +kernel
theorem dX4_put_46 : decode cX4_put 46 = .ok (.ireturn, 1) := by decide +kernel
theorem dX4_remove_0 : decode cX4_remove 0 = .ok (.aload_n 0, 1) := by decide +kernel
theorem dX4_remove_1 : decode cX4_remove 1 = .ok (.iconst 0, 1) := by decide +kernel
theorem dX4_remove_2 : decode cX4_remove 2 = .ok (.putfield 51, 3) := by decide +kernel
theorem dX4_remove_5 : decode cX4_remove 5 = .ok (.aload_n 0, 1) := by decide +kernel
theorem dX4_remove_6 : decode cX4_remove 6 = .ok (.iload_n 1, 1) := by decide +kernel
theorem dX4_remove_7 : decode cX4_remove 7 = .ok (.aload_n 0, 1) := by decide +kernel
theorem dX4_remove_8 : decode cX4_remove 8 = .ok (.getfield 66, 3) := by decide +kernel
theorem dX4_remove_11 : decode cX4_remove 11 = .ok (.invokevirtual 73, 3) := by decide +kernel
theorem dX4_remove_14 : decode cX4_remove 14 = .ok (.ifCond .ne 5, 3) := by decide +kernel
theorem dX4_remove_17 : decode cX4_remove 17 = .ok (.iconst 0, 1) := by decide +kernel
theorem dX4_remove_18 : decode cX4_remove 18 = .ok (.ireturn, 1) := by decide +kernel
theorem dX4_remove_19 : decode cX4_remove 19 = .ok (.aload_n 0, 1) := by decide +kernel
theorem dX4_remove_20 : decode cX4_remove 20 = .ok (.getfield 55, 3) := by decide +kernel
theorem dX4_remove_23 : decode cX4_remove 23 = .ok (.sipush 300, 3) := by decide +kernel
theorem dX4_remove_26 : decode cX4_remove 26 = .ok (.if_icmp .ne 9, 3) := by decide +kernel
theorem dX4_remove_29 : decode cX4_remove 29 = .ok (.aload_n 0, 1) := by decide +kernel
theorem dX4_remove_30 : decode cX4_remove 30 = .ok (.iconst 1, 1) := by decide +kernel
theorem dX4_remove_31 : decode cX4_remove 31 = .ok (.invokevirtual 62, 3) := by decide +kernel
theorem dX4_remove_34 : decode cX4_remove 34 = .ok (.ireturn, 1) := by decide +kernel
theorem dX4_remove_35 : decode cX4_remove 35 = .ok (.aload_n 0, 1) := by decide +kernel
theorem dX4_remove_36 : decode cX4_remove 36 = .ok (.dup, 1) := by decide +kernel
theorem dX4_remove_37 : decode cX4_remove 37 = .ok (.getfield 66, 3) := by decide +kernel
theorem dX4_remove_40 : decode cX4_remove 40 = .ok (.iconst 1, 1) := by decide +kernel
theorem dX4_remove_41 : decode cX4_remove 41 = .ok (.iadd, 1) := by decide +kernel
theorem dX4_remove_42 : decode cX4_remove 42 = .ok (.putfield 66, 3) := by decide +kernel
theorem dX4_remove_45 : decode cX4_remove 45 = .ok (.aload_n 0, 1) := by decide +kernel
theorem dX4_remove_46 : decode cX4_remove 46 = .ok (.iload_n 1, 1) := by decide +kernel
theorem dX4_remove_47 : decode cX4_remove 47 = .ok (.iconst 0, 1) := by decide +kernel
theorem dX4_remove_48 : decode cX4_remove 48 = .ok (.lconst 0, 1) := by decide +kernel
theorem dX4_remove_49 : decode cX4_remove 49 = .ok (.aload_n 0, 1) := by decide +kernel
theorem dX4_remove_50 : decode cX4_remove 50 = .ok (.getfield 66, 3) := by decide +kernel
theorem dX4_remove_53 : decode cX4_remove 53 = .ok (.invokevirtual 69, 3) := by decide +kernel
theorem dX4_remove_56 : decode cX4_remove 56 = .ok (.aload_n 0, 1) := by decide +kernel
theorem dX4_remove_57 : decode cX4_remove 57 = .ok (.getfield 66, 3) := by decide +kernel
theorem dX4_remove_60 : decode cX4_remove 60 = .ok (.ireturn, 1) := by decide +kernel
theorem dX4_test_0 : decode cX4_test 0 = .ok (.aload_n 0, 1) := by decide +kernel
theorem dX4_test_1 : decode cX4_test 1 = .ok (.iload_n 2, 1) := by decide +kernel
theorem dX4_test_2 : decode cX4_test 2 = .ok (.ifCond .lt 18, 3) := by decide +kernel
theorem dX4_test_5 : decode cX4_test 5 = .ok (.iload_n 2, 1) := by decide +kernel
theorem dX4_test_6 : decode cX4_test 6 = .ok (.iconst 3, 1) := by decide +kernel
theorem dX4_test_7 : decode cX4_test 7 = .ok (.if_icmp .gt 13, 3) := by decide +kernel
theorem dX4_test_10 : decode cX4_test 10 = .ok (.iload_n 3, 1) := by decide +kernel
theorem dX4_test_11 : decode cX4_test 11 = .ok (.iconst (-1), 1) := by decide +kernel
theorem dX4_test_12 : decode cX4_test 12 = .ok (.if_icmp .lt 8, 3) := by decide +kernel
theorem dX4_test_15 : decode cX4_test 15 = .ok (.iload_n 3, 1) := by decide +kernel
theorem dX4_test_16 : decode cX4_test 16 = .ok (.iconst 1, 1) := by decide +kernel
theorem dX4_test_17 : decode cX4_test 17 = .ok (.if_icmp .le 7, 3) := by decide +kernel
theorem dX4_test_20 : decode cX4_test 20 = .ok (.iconst 1, 1) := by decide +kernel
theorem dX4_test_21 : decode cX4_test 21 = .ok (.goto 17, 3) := by decide +kernel
theorem dX4_test_24 : decode cX4_test 24 = .ok (.aload_n 0, 1) := by decide +kernel
theorem dX4_test_25 : decode cX4_test 25 = .ok (.getfield 77, 3) := by decide +kernel
theorem dX4_test_28 : decode cX4_test 28 = .ok (.bipush 20, 2) := by decide +kernel
theorem dX4_test_30 : decode cX4_test 30 = .ok (.if_icmp .ne 7, 3) := by decide +kernel
theorem dX4_test_33 : decode cX4_test 33 = .ok (.iconst 2, 1) := by decide +kernel
theorem dX4_test_34 : decode cX4_test 34 = .ok (.goto 4, 3) := by decide +kernel
theorem dX4_test_37 : decode cX4_test 37 = .ok (.iconst 0, 1) := by decide +kernel
theorem dX4_test_38 : decode cX4_test 38 = .ok (.putfield 51, 3) := by decide +kernel
theorem dX4_test_41 : decode cX4_test 41 = .ok (.aload_n 0, 1) := by decide +kernel
theorem dX4_test_42 : decode cX4_test 42 = .ok (.getfield 51, 3) := by decide +kernel
theorem dX4_test_45 : decode cX4_test 45 = .ok (.ifCond .eq 4, 3) := by decide +kernel
theorem dX4_test_48 : decode cX4_test 48 = .ok (.return_, 1) := by decide +kernel
theorem dX4_test_49 : decode cX4_test 49 = .ok (.aload_n 0, 1) := by decide +kernel
theorem dX4_test_50 : decode cX4_test 50 = .ok (.getfield 27, 3) := by decide +kernel
theorem dX4_test_53 : decode cX4_test 53 = .ok (.aload_n 0, 1) := by decide +kernel
theorem dX4_test_54 : decode cX4_test 54 = .ok (.getfield 77, 3) := by decide +kernel
theorem dX4_test_57 : decode cX4_test 57 = .ok (.iload_n 1, 1) := by decide +kernel
theorem dX4_test_58 : decode cX4_test 58 = .ok (.iastore, 1) := by decide +kernel
theorem dX4_test_59 : decode cX4_test 59 = .ok (.aload_n 0, 1) := by decide +kernel
theorem dX4_test_60 : decode cX4_test 60 = .ok (.getfield 30, 3) := by decide +kernel
theorem dX4_test_63 : decode cX4_test 63 = .ok (.aload_n 0, 1) := by decide +kernel
theorem dX4_test_64 : decode cX4_test 64 = .ok (.getfield 77, 3) := by decide +kernel
theorem dX4_test_67 : decode cX4_test 67 = .ok (.iload_n 2, 1) := by decide +kernel
theorem dX4_test_68 : decode cX4_test 68 = .ok (.iastore, 1) := by decide +kernel
theorem dX4_test_69 : decode cX4_test 69 = .ok (.aload_n 0, 1) := by decide +kernel
theorem dX4_test_70 : decode cX4_test 70 = .ok (.getfield 33, 3) := by decide +kernel
theorem dX4_test_73 : decode cX4_test 73 = .ok (.aload_n 0, 1) := by decide +kernel
theorem dX4_test_74 : decode cX4_test 74 = .ok (.getfield 77, 3) := by decide +kernel
theorem dX4_test_77 : decode cX4_test 77 = .ok (.iload_n 3, 1) := by decide +kernel
theorem dX4_test_78 : decode cX4_test 78 = .ok (.iastore, 1) := by decide +kernel
theorem dX4_test_79 : decode cX4_test 79 = .ok (.aload_n 0, 1) := by decide +kernel
theorem dX4_test_80 : decode cX4_test 80 = .ok (.getfield 36, 3) := by decide +kernel
theorem dX4_test_83 : decode cX4_test 83 = .ok (.aload_n 0, 1) := by decide +kernel
theorem dX4_test_84 : decode cX4_test 84 = .ok (.getfield 77, 3) := by decide +kernel
theorem dX4_test_87 : decode cX4_test 87 = .ok (.lload 4, 2) := by decide +kernel
theorem dX4_test_89 : decode cX4_test 89 = .ok (.lastore, 1) := by decide +kernel
theorem dX4_test_90 : decode cX4_test 90 = .ok (.aload_n 0, 1) := by decide +kernel
theorem dX4_test_91 : decode cX4_test 91 = .ok (.dup, 1) := by decide +kernel
theorem dX4_test_92 : decode cX4_test 92 = .ok (.getfield 77, 3) := by decide +kernel
theorem dX4_test_95 : decode cX4_test 95 = .ok (.iconst 1, 1) := by decide +kernel
theorem dX4_test_96 : decode cX4_test 96 = .ok (.iadd, 1) := by decide +kernel
theorem dX4_test_97 : decode cX4_test 97 = .ok (.putfield 77, 3) := by decide +kernel
theorem dX4_test_100 : decode cX4_test 100 = .ok (.return_, 1) := by decide +kernel
theorem dX4_step_0 : decode cX4_step 0 = .ok (.aload_n 0, 1) := by decide +kernel
theorem dX4_step_1 : decode cX4_step 1 = .ok (.iload_n 1, 1) := by decide +kernel
theorem dX4_step_2 : decode cX4_step 2 = .ok (.ifCond .eq 10, 3) := by decide +kernel
theorem dX4_step_5 : decode cX4_step 5 = .ok (.aload_n 0, 1) := by decide +kernel
theorem dX4_step_6 : decode cX4_step 6 = .ok (.getfield 80, 3) := by decide +kernel
theorem dX4_step_9 : decode cX4_step 9 = .ok (.goto 7, 3) := by decide +kernel
theorem dX4_step_12 : decode cX4_step 12 = .ok (.aload_n 0, 1) := by decide +kernel
theorem dX4_step_13 : decode cX4_step 13 = .ok (.getfield 83, 3) := by decide +kernel
theorem dX4_step_16 : decode cX4_step 16 = .ok (.bipush 20, 2) := by decide +kernel
theorem dX4_step_18 : decode cX4_step 18 = .ok (.if_icmp .ne 7, 3) := by decide +kernel
theorem dX4_step_21 : decode cX4_step 21 = .ok (.iconst 1, 1) := by decide +kernel
theorem dX4_step_22 : decode cX4_step 22 = .ok (.goto 4, 3) := by decide +kernel
theorem dX4_step_25 : decode cX4_step 25 = .ok (.iconst 0, 1) := by decide +kernel
theorem dX4_step_26 : decode cX4_step 26 = .ok (.putfield 51, 3) := by decide +kernel
theorem dX4_step_29 : decode cX4_step 29 = .ok (.aload_n 0, 1) := by decide +kernel
theorem dX4_step_30 : decode cX4_step 30 = .ok (.getfield 51, 3) := by decide +kernel
theorem dX4_step_33 : decode cX4_step 33 = .ok (.ifCond .eq 4, 3) := by decide +kernel
theorem dX4_step_36 : decode cX4_step 36 = .ok (.return_, 1) := by decide +kernel
theorem dX4_step_37 : decode cX4_step 37 = .ok (.iload_n 1, 1) := by decide +kernel
theorem dX4_step_38 : decode cX4_step 38 = .ok (.ifCond .eq 10, 3) := by decide +kernel
theorem dX4_step_41 : decode cX4_step 41 = .ok (.aload_n 0, 1) := by decide +kernel
theorem dX4_step_42 : decode cX4_step 42 = .ok (.getfield 80, 3) := by decide +kernel
theorem dX4_step_45 : decode cX4_step 45 = .ok (.goto 10, 3) := by decide +kernel
theorem dX4_step_48 : decode cX4_step 48 = .ok (.bipush 20, 2) := by decide +kernel
theorem dX4_step_50 : decode cX4_step 50 = .ok (.aload_n 0, 1) := by decide +kernel
theorem dX4_step_51 : decode cX4_step 51 = .ok (.getfield 83, 3) := by decide +kernel
theorem dX4_step_54 : decode cX4_step 54 = .ok (.iadd, 1) := by decide +kernel
theorem dX4_step_55 : decode cX4_step 55 = .ok (.istore 6, 2) := by decide +kernel
theorem dX4_step_57 : decode cX4_step 57 = .ok (.aload_n 0, 1) := by decide +kernel
theorem dX4_step_58 : decode cX4_step 58 = .ok (.getfield 39, 3) := by decide +kernel
theorem dX4_step_61 : decode cX4_step 61 = .ok (.iload 6, 2) := by decide +kernel
theorem dX4_step_63 : decode cX4_step 63 = .ok (.iload_n 2, 1) := by decide +kernel
theorem dX4_step_64 : decode cX4_step 64 = .ok (.iastore, 1) := by decide +kernel
theorem dX4_step_65 : decode cX4_step 65 = .ok (.aload_n 0, 1) := by decide +kernel
theorem dX4_step_66 : decode cX4_step 66 = .ok (.getfield 42, 3) := by decide +kernel
theorem dX4_step_69 : decode cX4_step 69 = .ok (.iload 6, 2) := by decide +kernel
theorem dX4_step_71 : decode cX4_step 71 = .ok (.iload_n 3, 1) := by decide +kernel
theorem dX4_step_72 : decode cX4_step 72 = .ok (.bastore, 1) := by decide +kernel
theorem dX4_step_73 : decode cX4_step 73 = .ok (.aload_n 0, 1) := by decide +kernel
theorem dX4_step_74 : decode cX4_step 74 = .ok (.getfield 45, 3) := by decide +kernel
theorem dX4_step_77 : decode cX4_step 77 = .ok (.iload 6, 2) := by decide +kernel
theorem dX4_step_79 : decode cX4_step 79 = .ok (.lload 4, 2) := by decide +kernel
theorem dX4_step_81 : decode cX4_step 81 = .ok (.lastore, 1) := by decide +kernel
theorem dX4_step_82 : decode cX4_step 82 = .ok (.iload_n 1, 1) := by decide +kernel
theorem dX4_step_83 : decode cX4_step 83 = .ok (.ifCond .eq 16, 3) := by decide +kernel
theorem dX4_step_86 : decode cX4_step 86 = .ok (.aload_n 0, 1) := by decide +kernel
theorem dX4_step_87 : decode cX4_step 87 = .ok (.dup, 1) := by decide +kernel
theorem dX4_step_88 : decode cX4_step 88 = .ok (.getfield 80, 3) := by decide +kernel
theorem dX4_step_91 : decode cX4_step 91 = .ok (.iconst 1, 1) := by decide +kernel
theorem dX4_step_92 : decode cX4_step 92 = .ok (.iadd, 1) := by decide +kernel
theorem dX4_step_93 : decode cX4_step 93 = .ok (.putfield 80, 3) := by decide +kernel
theorem dX4_step_96 : decode cX4_step 96 = .ok (.goto 13, 3) := by decide +kernel
theorem dX4_step_99 : decode cX4_step 99 = .ok (.aload_n 0, 1) := by decide +kernel
theorem dX4_step_100 : decode cX4_step 100 = .ok (.dup, 1) := by decide +kernel
theorem dX4_step_101 : decode cX4_step 101 = .ok (.getfield 83, 3) := by decide +kernel
theorem dX4_step_104 : decode cX4_step 104 = .ok (.iconst 1, 1) := by decide +kernel
theorem dX4_step_105 : decode cX4_step 105 = .ok (.iadd, 1) := by decide +kernel
theorem dX4_step_106 : decode cX4_step 106 = .ok (.putfield 83, 3) := by decide +kernel
theorem dX4_step_109 : decode cX4_step 109 = .ok (.return_, 1) := by decide +kernel
theorem dX4_told_0 : decode cX4_told 0 = .ok (.iconst 0, 1) := by decide +kernel
theorem dX4_told_1 : decode cX4_told 1 = .ok (.istore 4, 2) := by decide +kernel
theorem dX4_told_3 : decode cX4_told 3 = .ok (.iconst 0, 1) := by decide +kernel
theorem dX4_told_4 : decode cX4_told 4 = .ok (.istore 5, 2) := by decide +kernel
theorem dX4_told_6 : decode cX4_told 6 = .ok (.iconst 0, 1) := by decide +kernel
theorem dX4_told_7 : decode cX4_told 7 = .ok (.istore 6, 2) := by decide +kernel
theorem dX4_told_9 : decode cX4_told 9 = .ok (.lconst 0, 1) := by decide +kernel
theorem dX4_told_10 : decode cX4_told 10 = .ok (.lstore 7, 2) := by decide +kernel
theorem dX4_told_12 : decode cX4_told 12 = .ok (.iconst 0, 1) := by decide +kernel
theorem dX4_told_13 : decode cX4_told 13 = .ok (.istore 9, 2) := by decide +kernel
theorem dX4_told_15 : decode cX4_told 15 = .ok (.iload 9, 2) := by decide +kernel
theorem dX4_told_17 : decode cX4_told 17 = .ok (.aload_n 0, 1) := by decide +kernel
theorem dX4_told_18 : decode cX4_told 18 = .ok (.getfield 55, 3) := by decide +kernel
theorem dX4_told_21 : decode cX4_told 21 = .ok (.if_icmp .ge 85, 3) := by decide +kernel
theorem dX4_told_24 : decode cX4_told 24 = .ok (.aload_n 0, 1) := by decide +kernel
theorem dX4_told_25 : decode cX4_told 25 = .ok (.getfield 13, 3) := by decide +kernel
theorem dX4_told_28 : decode cX4_told 28 = .ok (.iload 9, 2) := by decide +kernel
theorem dX4_told_30 : decode cX4_told 30 = .ok (.iaload, 1) := by decide +kernel
theorem dX4_told_31 : decode cX4_told 31 = .ok (.iload_n 2, 1) := by decide +kernel
theorem dX4_told_32 : decode cX4_told 32 = .ok (.if_icmp .gt 74, 3) := by decide +kernel
theorem dX4_told_35 : decode cX4_told 35 = .ok (.aload_n 0, 1) := by decide +kernel
theorem dX4_told_36 : decode cX4_told 36 = .ok (.getfield 7, 3) := by decide +kernel
theorem dX4_told_39 : decode cX4_told 39 = .ok (.iload 9, 2) := by decide +kernel
theorem dX4_told_41 : decode cX4_told 41 = .ok (.iaload, 1) := by decide +kernel
theorem dX4_told_42 : decode cX4_told 42 = .ok (.iload_n 1, 1) := by decide +kernel
theorem dX4_told_43 : decode cX4_told 43 = .ok (.if_icmp .eq 6, 3) := by decide +kernel
theorem dX4_told_46 : decode cX4_told 46 = .ok (.goto 54, 3) := by decide +kernel
theorem dX4_told_49 : decode cX4_told 49 = .ok (.aload_n 0, 1) := by decide +kernel
theorem dX4_told_50 : decode cX4_told 50 = .ok (.getfield 23, 3) := by decide +kernel
theorem dX4_told_53 : decode cX4_told 53 = .ok (.iload 9, 2) := by decide +kernel
theorem dX4_told_55 : decode cX4_told 55 = .ok (.baload, 1) := by decide +kernel
theorem dX4_told_56 : decode cX4_told 56 = .ok (.ifCond .ne 9, 3) := by decide +kernel
theorem dX4_told_59 : decode cX4_told 59 = .ok (.iconst 0, 1) := by decide +kernel
theorem dX4_told_60 : decode cX4_told 60 = .ok (.istore 4, 2) := by decide +kernel
theorem dX4_told_62 : decode cX4_told 62 = .ok (.goto 38, 3) := by decide +kernel
theorem dX4_told_65 : decode cX4_told 65 = .ok (.iload 4, 2) := by decide +kernel
theorem dX4_told_67 : decode cX4_told 67 = .ok (.ifCond .ne 12, 3) := by decide +kernel
theorem dX4_told_70 : decode cX4_told 70 = .ok (.aload_n 0, 1) := by decide +kernel
theorem dX4_told_71 : decode cX4_told 71 = .ok (.getfield 13, 3) := by decide +kernel
theorem dX4_told_74 : decode cX4_told 74 = .ok (.iload 9, 2) := by decide +kernel
theorem dX4_told_76 : decode cX4_told 76 = .ok (.iaload, 1) := by decide +kernel
theorem dX4_told_77 : decode cX4_told 77 = .ok (.istore 5, 2) := by decide +kernel
theorem dX4_told_79 : decode cX4_told 79 = .ok (.iinc 4 1, 3) := by decide +kernel
theorem dX4_told_82 : decode cX4_told 82 = .ok (.aload_n 0, 1) := by decide +kernel
theorem dX4_told_83 : decode cX4_told 83 = .ok (.getfield 13, 3) := by decide +kernel
theorem dX4_told_86 : decode cX4_told 86 = .ok (.iload 9, 2) := by decide +kernel
theorem dX4_told_88 : decode cX4_told 88 = .ok (.iaload, 1) := by decide +kernel
theorem dX4_told_89 : decode cX4_told 89 = .ok (.istore 6, 2) := by decide +kernel
theorem dX4_told_91 : decode cX4_told 91 = .ok (.aload_n 0, 1) := by decide +kernel
theorem dX4_told_92 : decode cX4_told 92 = .ok (.getfield 19, 3) := by decide +kernel
theorem dX4_told_95 : decode cX4_told 95 = .ok (.iload 9, 2) := by decide +kernel
theorem dX4_told_97 : decode cX4_told 97 = .ok (.laload, 1) := by decide +kernel
theorem dX4_told_98 : decode cX4_told 98 = .ok (.lstore 7, 2) := by decide +kernel
theorem dX4_told_100 : decode cX4_told 100 = .ok (.iinc 9 1, 3) := by decide +kernel
theorem dX4_told_103 : decode cX4_told 103 = .ok (.goto (-88), 3) := by decide +kernel
theorem dX4_told_106 : decode cX4_told 106 = .ok (.iload 4, 2) := by decide +kernel
theorem dX4_told_108 : decode cX4_told 108 = .ok (.ifCond .ne 5, 3) := by decide +kernel
theorem dX4_told_111 : decode cX4_told 111 = .ok (.lconst 0, 1) := by decide +kernel
theorem dX4_told_112 : decode cX4_told 112 = .ok (.lreturn, 1) := by decide +kernel
theorem dX4_told_113 : decode cX4_told 113 = .ok (.iload_n 3, 1) := by decide +kernel
theorem dX4_told_114 : decode cX4_told 114 = .ok (.ifCond .ne 8, 3) := by decide +kernel
theorem dX4_told_117 : decode cX4_told 117 = .ok (.lload 7, 2) := by decide +kernel
theorem dX4_told_119 : decode cX4_told 119 = .ok (.goto 28, 3) := by decide +kernel
theorem dX4_told_122 : decode cX4_told 122 = .ok (.iload_n 3, 1) := by decide +kernel
theorem dX4_told_123 : decode cX4_told 123 = .ok (.iconst 1, 1) := by decide +kernel
theorem dX4_told_124 : decode cX4_told 124 = .ok (.if_icmp .ne 9, 3) := by decide +kernel
theorem dX4_told_127 : decode cX4_told 127 = .ok (.iload 4, 2) := by decide +kernel
theorem dX4_told_129 : decode cX4_told 129 = .ok (.i2l, 1) := by decide +kernel
theorem dX4_told_130 : decode cX4_told 130 = .ok (.goto 17, 3) := by decide +kernel
theorem dX4_told_133 : decode cX4_told 133 = .ok (.iload_n 3, 1) := by decide +kernel
theorem dX4_told_134 : decode cX4_told 134 = .ok (.iconst 2, 1) := by decide +kernel
theorem dX4_told_135 : decode cX4_told 135 = .ok (.if_icmp .ne 9, 3) := by decide +kernel
theorem dX4_told_138 : decode cX4_told 138 = .ok (.iload 5, 2) := by decide +kernel
theorem dX4_told_140 : decode cX4_told 140 = .ok (.i2l, 1) := by decide +kernel
theorem dX4_told_141 : decode cX4_told 141 = .ok (.goto 6, 3) := by decide +kernel
theorem dX4_told_144 : decode cX4_told 144 = .ok (.iload 6, 2) := by decide +kernel
theorem dX4_told_146 : decode cX4_told 146 = .ok (.i2l, 1) := by decide +kernel
theorem dX4_told_147 : decode cX4_told 147 = .ok (.lreturn, 1) := by decide +kernel
theorem dX4_deal_0 : decode cX4_deal 0 = .ok (.iconst 1, 1) := by decide +kernel
theorem dX4_deal_1 : decode cX4_deal 1 = .ok (.istore_n 1, 1) := by decide +kernel
theorem dX4_deal_2 : decode cX4_deal 2 = .ok (.iconst 0, 1) := by decide +kernel
theorem dX4_deal_3 : decode cX4_deal 3 = .ok (.istore_n 2, 1) := by decide +kernel
theorem dX4_deal_4 : decode cX4_deal 4 = .ok (.iload_n 2, 1) := by decide +kernel
theorem dX4_deal_5 : decode cX4_deal 5 = .ok (.aload_n 0, 1) := by decide +kernel
theorem dX4_deal_6 : decode cX4_deal 6 = .ok (.getfield 77, 3) := by decide +kernel
theorem dX4_deal_9 : decode cX4_deal 9 = .ok (.if_icmp .ge 76, 3) := by decide +kernel
theorem dX4_deal_12 : decode cX4_deal 12 = .ok (.aload_n 0, 1) := by decide +kernel
theorem dX4_deal_13 : decode cX4_deal 13 = .ok (.aload_n 0, 1) := by decide +kernel
theorem dX4_deal_14 : decode cX4_deal 14 = .ok (.getfield 27, 3) := by decide +kernel
theorem dX4_deal_17 : decode cX4_deal 17 = .ok (.iload_n 2, 1) := by decide +kernel
theorem dX4_deal_18 : decode cX4_deal 18 = .ok (.iaload, 1) := by decide +kernel
theorem dX4_deal_19 : decode cX4_deal 19 = .ok (.aload_n 0, 1) := by decide +kernel
theorem dX4_deal_20 : decode cX4_deal 20 = .ok (.getfield 66, 3) := by decide +kernel
theorem dX4_deal_23 : decode cX4_deal 23 = .ok (.aload_n 0, 1) := by decide +kernel
theorem dX4_deal_24 : decode cX4_deal 24 = .ok (.getfield 30, 3) := by decide +kernel
theorem dX4_deal_27 : decode cX4_deal 27 = .ok (.iload_n 2, 1) := by decide +kernel
theorem dX4_deal_28 : decode cX4_deal 28 = .ok (.iaload, 1) := by decide +kernel
theorem dX4_deal_29 : decode cX4_deal 29 = .ok (.invokevirtual 86, 3) := by decide +kernel
theorem dX4_deal_32 : decode cX4_deal 32 = .ok (.lstore_n 3, 1) := by decide +kernel
theorem dX4_deal_33 : decode cX4_deal 33 = .ok (.lload_n 3, 1) := by decide +kernel
theorem dX4_deal_34 : decode cX4_deal 34 = .ok (.aload_n 0, 1) := by decide +kernel
theorem dX4_deal_35 : decode cX4_deal 35 = .ok (.getfield 36, 3) := by decide +kernel
theorem dX4_deal_38 : decode cX4_deal 38 = .ok (.iload_n 2, 1) := by decide +kernel
theorem dX4_deal_39 : decode cX4_deal 39 = .ok (.laload, 1) := by decide +kernel
theorem dX4_deal_40 : decode cX4_deal 40 = .ok (.lcmp, 1) := by decide +kernel
theorem dX4_deal_41 : decode cX4_deal 41 = .ok (.ifCond .ge 7, 3) := by decide +kernel
theorem dX4_deal_44 : decode cX4_deal 44 = .ok (.iconst (-1), 1) := by decide +kernel
theorem dX4_deal_45 : decode cX4_deal 45 = .ok (.goto 19, 3) := by decide +kernel
theorem dX4_deal_48 : decode cX4_deal 48 = .ok (.lload_n 3, 1) := by decide +kernel
theorem dX4_deal_49 : decode cX4_deal 49 = .ok (.aload_n 0, 1) := by decide +kernel
theorem dX4_deal_50 : decode cX4_deal 50 = .ok (.getfield 36, 3) := by decide +kernel
theorem dX4_deal_53 : decode cX4_deal 53 = .ok (.iload_n 2, 1) := by decide +kernel
theorem dX4_deal_54 : decode cX4_deal 54 = .ok (.laload, 1) := by decide +kernel
theorem dX4_deal_55 : decode cX4_deal 55 = .ok (.lcmp, 1) := by decide +kernel
theorem dX4_deal_56 : decode cX4_deal 56 = .ok (.ifCond .ne 7, 3) := by decide +kernel
theorem dX4_deal_59 : decode cX4_deal 59 = .ok (.iconst 0, 1) := by decide +kernel
theorem dX4_deal_60 : decode cX4_deal 60 = .ok (.goto 4, 3) := by decide +kernel
theorem dX4_deal_63 : decode cX4_deal 63 = .ok (.iconst 1, 1) := by decide +kernel
theorem dX4_deal_64 : decode cX4_deal 64 = .ok (.istore 5, 2) := by decide +kernel
theorem dX4_deal_66 : decode cX4_deal 66 = .ok (.iload 5, 2) := by decide +kernel
theorem dX4_deal_68 : decode cX4_deal 68 = .ok (.aload_n 0, 1) := by decide +kernel
theorem dX4_deal_69 : decode cX4_deal 69 = .ok (.getfield 33, 3) := by decide +kernel
theorem dX4_deal_72 : decode cX4_deal 72 = .ok (.iload_n 2, 1) := by decide +kernel
theorem dX4_deal_73 : decode cX4_deal 73 = .ok (.iaload, 1) := by decide +kernel
theorem dX4_deal_74 : decode cX4_deal 74 = .ok (.if_icmp .eq 5, 3) := by decide +kernel
theorem dX4_deal_77 : decode cX4_deal 77 = .ok (.iconst 0, 1) := by decide +kernel
theorem dX4_deal_78 : decode cX4_deal 78 = .ok (.istore_n 1, 1) := by decide +kernel
theorem dX4_deal_79 : decode cX4_deal 79 = .ok (.iinc 2 1, 3) := by decide +kernel
theorem dX4_deal_82 : decode cX4_deal 82 = .ok (.goto (-78), 3) := by decide +kernel
theorem dX4_deal_85 : decode cX4_deal 85 = .ok (.iload_n 1, 1) := by decide +kernel
theorem dX4_deal_86 : decode cX4_deal 86 = .ok (.ifCond .eq 7, 3) := by decide +kernel
theorem dX4_deal_89 : decode cX4_deal 89 = .ok (.iconst 0, 1) := by decide +kernel
theorem dX4_deal_90 : decode cX4_deal 90 = .ok (.goto 5, 3) := by decide +kernel
theorem dX4_deal_93 : decode cX4_deal 93 = .ok (.bipush 20, 2) := by decide +kernel
theorem dX4_deal_95 : decode cX4_deal 95 = .ok (.istore_n 2, 1) := by decide +kernel
theorem dX4_deal_96 : decode cX4_deal 96 = .ok (.iload_n 1, 1) := by decide +kernel
theorem dX4_deal_97 : decode cX4_deal 97 = .ok (.ifCond .eq 10, 3) := by decide +kernel
theorem dX4_deal_100 : decode cX4_deal 100 = .ok (.aload_n 0, 1) := by decide +kernel
theorem dX4_deal_101 : decode cX4_deal 101 = .ok (.getfield 80, 3) := by decide +kernel
theorem dX4_deal_104 : decode cX4_deal 104 = .ok (.goto 7, 3) := by decide +kernel
theorem dX4_deal_107 : decode cX4_deal 107 = .ok (.aload_n 0, 1) := by decide +kernel
theorem dX4_deal_108 : decode cX4_deal 108 = .ok (.getfield 83, 3) := by decide +kernel
theorem dX4_deal_111 : decode cX4_deal 111 = .ok (.istore_n 3, 1) := by decide +kernel
theorem dX4_deal_112 : decode cX4_deal 112 = .ok (.aload_n 0, 1) := by decide +kernel
theorem dX4_deal_113 : decode cX4_deal 113 = .ok (.getfield 55, 3) := by decide +kernel
theorem dX4_deal_116 : decode cX4_deal 116 = .ok (.istore 4, 2) := by decide +kernel
theorem dX4_deal_118 : decode cX4_deal 118 = .ok (.iload_n 2, 1) := by decide +kernel
theorem dX4_deal_119 : decode cX4_deal 119 = .ok (.istore 5, 2) := by decide +kernel
theorem dX4_deal_121 : decode cX4_deal 121 = .ok (.iload 5, 2) := by decide +kernel
theorem dX4_deal_123 : decode cX4_deal 123 = .ok (.iload_n 2, 1) := by decide +kernel
theorem dX4_deal_124 : decode cX4_deal 124 = .ok (.iload_n 3, 1) := by decide +kernel
theorem dX4_deal_125 : decode cX4_deal 125 = .ok (.iadd, 1) := by decide +kernel
theorem dX4_deal_126 : decode cX4_deal 126 = .ok (.if_icmp .ge 70, 3) := by decide +kernel
theorem dX4_deal_129 : decode cX4_deal 129 = .ok (.aload_n 0, 1) := by decide +kernel
theorem dX4_deal_130 : decode cX4_deal 130 = .ok (.getfield 42, 3) := by decide +kernel
theorem dX4_deal_133 : decode cX4_deal 133 = .ok (.iload 5, 2) := by decide +kernel
theorem dX4_deal_135 : decode cX4_deal 135 = .ok (.baload, 1) := by decide +kernel
theorem dX4_deal_136 : decode cX4_deal 136 = .ok (.ifCond .ne 23, 3) := by decide +kernel
theorem dX4_deal_139 : decode cX4_deal 139 = .ok (.aload_n 0, 1) := by decide +kernel
theorem dX4_deal_140 : decode cX4_deal 140 = .ok (.aload_n 0, 1) := by decide +kernel
theorem dX4_deal_141 : decode cX4_deal 141 = .ok (.getfield 39, 3) := by decide +kernel
theorem dX4_deal_144 : decode cX4_deal 144 = .ok (.iload 5, 2) := by decide +kernel
theorem dX4_deal_146 : decode cX4_deal 146 = .ok (.iaload, 1) := by decide +kernel
theorem dX4_deal_147 : decode cX4_deal 147 = .ok (.aload_n 0, 1) := by decide +kernel
theorem dX4_deal_148 : decode cX4_deal 148 = .ok (.getfield 66, 3) := by decide +kernel
theorem dX4_deal_151 : decode cX4_deal 151 = .ok (.iconst 1, 1) := by decide +kernel
theorem dX4_deal_152 : decode cX4_deal 152 = .ok (.iadd, 1) := by decide +kernel
theorem dX4_deal_153 : decode cX4_deal 153 = .ok (.invokevirtual 73, 3) := by decide +kernel
theorem dX4_deal_156 : decode cX4_deal 156 = .ok (.ifCond .eq 34, 3) := by decide +kernel
theorem dX4_deal_159 : decode cX4_deal 159 = .ok (.aload_n 0, 1) := by decide +kernel
theorem dX4_deal_160 : decode cX4_deal 160 = .ok (.aload_n 0, 1) := by decide +kernel
theorem dX4_deal_161 : decode cX4_deal 161 = .ok (.getfield 39, 3) := by decide +kernel
theorem dX4_deal_164 : decode cX4_deal 164 = .ok (.iload 5, 2) := by decide +kernel
theorem dX4_deal_166 : decode cX4_deal 166 = .ok (.iaload, 1) := by decide +kernel
theorem dX4_deal_167 : decode cX4_deal 167 = .ok (.aload_n 0, 1) := by decide +kernel
theorem dX4_deal_168 : decode cX4_deal 168 = .ok (.getfield 42, 3) := by decide +kernel
theorem dX4_deal_171 : decode cX4_deal 171 = .ok (.iload 5, 2) := by decide +kernel
theorem dX4_deal_173 : decode cX4_deal 173 = .ok (.baload, 1) := by decide +kernel
theorem dX4_deal_174 : decode cX4_deal 174 = .ok (.aload_n 0, 1) := by decide +kernel
theorem dX4_deal_175 : decode cX4_deal 175 = .ok (.getfield 45, 3) := by decide +kernel
theorem dX4_deal_178 : decode cX4_deal 178 = .ok (.iload 5, 2) := by decide +kernel
theorem dX4_deal_180 : decode cX4_deal 180 = .ok (.laload, 1) := by decide +kernel
theorem dX4_deal_181 : decode cX4_deal 181 = .ok (.aload_n 0, 1) := by decide +kernel
theorem dX4_deal_182 : decode cX4_deal 182 = .ok (.getfield 66, 3) := by decide +kernel
theorem dX4_deal_185 : decode cX4_deal 185 = .ok (.iconst 1, 1) := by decide +kernel
theorem dX4_deal_186 : decode cX4_deal 186 = .ok (.iadd, 1) := by decide +kernel
theorem dX4_deal_187 : decode cX4_deal 187 = .ok (.invokevirtual 69, 3) := by decide +kernel
theorem dX4_deal_190 : decode cX4_deal 190 = .ok (.iinc 5 1, 3) := by decide +kernel
theorem dX4_deal_193 : decode cX4_deal 193 = .ok (.goto (-72), 3) := by decide +kernel
theorem dX4_deal_196 : decode cX4_deal 196 = .ok (.aload_n 0, 1) := by decide +kernel
theorem dX4_deal_197 : decode cX4_deal 197 = .ok (.getfield 55, 3) := by decide +kernel
theorem dX4_deal_200 : decode cX4_deal 200 = .ok (.sipush 300, 3) := by decide +kernel
theorem dX4_deal_203 : decode cX4_deal 203 = .ok (.if_icmp .le 55, 3) := by decide +kernel
theorem dX4_deal_206 : decode cX4_deal 206 = .ok (.aload_n 0, 1) := by decide +kernel
theorem dX4_deal_207 : decode cX4_deal 207 = .ok (.iload 4, 2) := by decide +kernel
theorem dX4_deal_209 : decode cX4_deal 209 = .ok (.putfield 55, 3) := by decide +kernel
theorem dX4_deal_212 : decode cX4_deal 212 = .ok (.iconst 0, 1) := by decide +kernel
theorem dX4_deal_213 : decode cX4_deal 213 = .ok (.istore 5, 2) := by decide +kernel
theorem dX4_deal_215 : decode cX4_deal 215 = .ok (.iload 5, 2) := by decide +kernel
theorem dX4_deal_217 : decode cX4_deal 217 = .ok (.aload_n 0, 1) := by decide +kernel
theorem dX4_deal_218 : decode cX4_deal 218 = .ok (.getfield 55, 3) := by decide +kernel
theorem dX4_deal_221 : decode cX4_deal 221 = .ok (.if_icmp .ge 31, 3) := by decide +kernel
theorem dX4_deal_224 : decode cX4_deal 224 = .ok (.aload_n 0, 1) := by decide +kernel
theorem dX4_deal_225 : decode cX4_deal 225 = .ok (.getfield 16, 3) := by decide +kernel
theorem dX4_deal_228 : decode cX4_deal 228 = .ok (.iload 5, 2) := by decide +kernel
theorem dX4_deal_230 : decode cX4_deal 230 = .ok (.iaload, 1) := by decide +kernel
theorem dX4_deal_231 : decode cX4_deal 231 = .ok (.aload_n 0, 1) := by decide +kernel
theorem dX4_deal_232 : decode cX4_deal 232 = .ok (.getfield 55, 3) := by decide +kernel
theorem dX4_deal_235 : decode cX4_deal 235 = .ok (.if_icmp .lt 11, 3) := by decide +kernel
theorem dX4_deal_238 : decode cX4_deal 238 = .ok (.aload_n 0, 1) := by decide +kernel
theorem dX4_deal_239 : decode cX4_deal 239 = .ok (.getfield 16, 3) := by decide +kernel
theorem dX4_deal_242 : decode cX4_deal 242 = .ok (.iload 5, 2) := by decide +kernel
theorem dX4_deal_244 : decode cX4_deal 244 = .ok (.iconst (-1), 1) := by decide +kernel
theorem dX4_deal_245 : decode cX4_deal 245 = .ok (.iastore, 1) := by decide +kernel
theorem dX4_deal_246 : decode cX4_deal 246 = .ok (.iinc 5 1, 3) := by decide +kernel
theorem dX4_deal_249 : decode cX4_deal 249 = .ok (.goto (-34), 3) := by decide +kernel
theorem dX4_deal_252 : decode cX4_deal 252 = .ok (.aload_n 0, 1) := by decide +kernel
theorem dX4_deal_253 : decode cX4_deal 253 = .ok (.iconst 1, 1) := by decide +kernel
theorem dX4_deal_254 : decode cX4_deal 254 = .ok (.invokevirtual 62, 3) := by decide +kernel
theorem dX4_deal_257 : decode cX4_deal 257 = .ok (.ireturn, 1) := by decide +kernel
theorem dX4_deal_258 : decode cX4_deal 258 = .ok (.aload_n 0, 1) := by decide +kernel
theorem dX4_deal_259 : decode cX4_deal 259 = .ok (.iconst 0, 1) := by decide +kernel
theorem dX4_deal_260 : decode cX4_deal 260 = .ok (.putfield 51, 3) := by decide +kernel
theorem dX4_deal_263 : decode cX4_deal 263 = .ok (.aload_n 0, 1) := by decide +kernel
theorem dX4_deal_264 : decode cX4_deal 264 = .ok (.getfield 55, 3) := by decide +kernel
theorem dX4_deal_267 : decode cX4_deal 267 = .ok (.iload 4, 2) := by decide +kernel
theorem dX4_deal_269 : decode cX4_deal 269 = .ok (.if_icmp .le 13, 3) := by decide +kernel
theorem dX4_deal_272 : decode cX4_deal 272 = .ok (.aload_n 0, 1) := by decide +kernel
theorem dX4_deal_273 : decode cX4_deal 273 = .ok (.dup, 1) := by decide +kernel
theorem dX4_deal_274 : decode cX4_deal 274 = .ok (.getfield 66, 3) := by decide +kernel
theorem dX4_deal_277 : decode cX4_deal 277 = .ok (.iconst 1, 1) := by decide +kernel
theorem dX4_deal_278 : decode cX4_deal 278 = .ok (.iadd, 1) := by decide +kernel
theorem dX4_deal_279 : decode cX4_deal 279 = .ok (.putfield 66, 3) := by decide +kernel
theorem dX4_deal_282 : decode cX4_deal 282 = .ok (.aload_n 0, 1) := by decide +kernel
theorem dX4_deal_283 : decode cX4_deal 283 = .ok (.iconst 0, 1) := by decide +kernel
theorem dX4_deal_284 : decode cX4_deal 284 = .ok (.putfield 77, 3) := by decide +kernel
theorem dX4_deal_287 : decode cX4_deal 287 = .ok (.aload_n 0, 1) := by decide +kernel
theorem dX4_deal_288 : decode cX4_deal 288 = .ok (.iconst 0, 1) := by decide +kernel
theorem dX4_deal_289 : decode cX4_deal 289 = .ok (.putfield 80, 3) := by decide +kernel
theorem dX4_deal_292 : decode cX4_deal 292 = .ok (.aload_n 0, 1) := by decide +kernel
theorem dX4_deal_293 : decode cX4_deal 293 = .ok (.iconst 0, 1) := by decide +kernel
theorem dX4_deal_294 : decode cX4_deal 294 = .ok (.putfield 83, 3) := by decide +kernel
theorem dX4_deal_297 : decode cX4_deal 297 = .ok (.iload_n 1, 1) := by decide +kernel
theorem dX4_deal_298 : decode cX4_deal 298 = .ok (.ifCond .eq 7, 3) := by decide +kernel
theorem dX4_deal_301 : decode cX4_deal 301 = .ok (.iconst 1, 1) := by decide +kernel
theorem dX4_deal_302 : decode cX4_deal 302 = .ok (.goto 4, 3) := by decide +kernel
theorem dX4_deal_305 : decode cX4_deal 305 = .ok (.iconst 2, 1) := by decide +kernel
theorem dX4_deal_306 : decode cX4_deal 306 = .ok (.ireturn, 1) := by decide +kernel
theorem dX4_reading_0 : decode cX4_reading 0 = .ok (.aload_n 0, 1) := by decide +kernel
theorem dX4_reading_1 : decode cX4_reading 1 = .ok (.iload_n 2, 1) := by decide +kernel
theorem dX4_reading_2 : decode cX4_reading 2 = .ok (.ifCond .ne 7, 3) := by decide +kernel
theorem dX4_reading_5 : decode cX4_reading 5 = .ok (.iload_n 1, 1) := by decide +kernel
theorem dX4_reading_6 : decode cX4_reading 6 = .ok (.ifCond .ge 7, 3) := by decide +kernel
theorem dX4_reading_9 : decode cX4_reading 9 = .ok (.iconst 1, 1) := by decide +kernel
theorem dX4_reading_10 : decode cX4_reading 10 = .ok (.goto 28, 3) := by decide +kernel
theorem dX4_reading_13 : decode cX4_reading 13 = .ok (.iload_n 1, 1) := by decide +kernel
theorem dX4_reading_14 : decode cX4_reading 14 = .ok (.ifCond .eq 23, 3) := by decide +kernel
theorem dX4_reading_17 : decode cX4_reading 17 = .ok (.iload_n 1, 1) := by decide +kernel
theorem dX4_reading_18 : decode cX4_reading 18 = .ok (.aload_n 0, 1) := by decide +kernel
theorem dX4_reading_19 : decode cX4_reading 19 = .ok (.getfield 90, 3) := by decide +kernel
theorem dX4_reading_22 : decode cX4_reading 22 = .ok (.if_icmp .lt 11, 3) := by decide +kernel
theorem dX4_reading_25 : decode cX4_reading 25 = .ok (.iload_n 1, 1) := by decide +kernel
theorem dX4_reading_26 : decode cX4_reading 26 = .ok (.aload_n 0, 1) := by decide +kernel
theorem dX4_reading_27 : decode cX4_reading 27 = .ok (.getfield 66, 3) := by decide +kernel
theorem dX4_reading_30 : decode cX4_reading 30 = .ok (.if_icmp .le 7, 3) := by decide +kernel
theorem dX4_reading_33 : decode cX4_reading 33 = .ok (.iconst 2, 1) := by decide +kernel
theorem dX4_reading_34 : decode cX4_reading 34 = .ok (.goto 4, 3) := by decide +kernel
theorem dX4_reading_37 : decode cX4_reading 37 = .ok (.iconst 0, 1) := by decide +kernel
theorem dX4_reading_38 : decode cX4_reading 38 = .ok (.putfield 51, 3) := by decide +kernel
theorem dX4_reading_41 : decode cX4_reading 41 = .ok (.iload_n 1, 1) := by decide +kernel
theorem dX4_reading_42 : decode cX4_reading 42 = .ok (.ifCond .ne 10, 3) := by decide +kernel
theorem dX4_reading_45 : decode cX4_reading 45 = .ok (.aload_n 0, 1) := by decide +kernel
theorem dX4_reading_46 : decode cX4_reading 46 = .ok (.getfield 66, 3) := by decide +kernel
theorem dX4_reading_49 : decode cX4_reading 49 = .ok (.goto 4, 3) := by decide +kernel
theorem dX4_reading_52 : decode cX4_reading 52 = .ok (.iload_n 1, 1) := by decide +kernel
theorem dX4_reading_53 : decode cX4_reading 53 = .ok (.ireturn, 1) := by decide +kernel
theorem dX4_get_0 : decode cX4_get 0 = .ok (.aload_n 0, 1) := by decide +kernel
theorem dX4_get_1 : decode cX4_get 1 = .ok (.iload_n 2, 1) := by decide +kernel
theorem dX4_get_2 : decode cX4_get 2 = .ok (.iconst 0, 1) := by decide +kernel
theorem dX4_get_3 : decode cX4_get 3 = .ok (.invokevirtual 93, 3) := by decide +kernel
theorem dX4_get_6 : decode cX4_get 6 = .ok (.istore_n 3, 1) := by decide +kernel
theorem dX4_get_7 : decode cX4_get 7 = .ok (.aload_n 0, 1) := by decide +kernel
theorem dX4_get_8 : decode cX4_get 8 = .ok (.getfield 51, 3) := by decide +kernel
theorem dX4_get_11 : decode cX4_get 11 = .ok (.ifCond .eq 5, 3) := by decide +kernel
theorem dX4_get_14 : decode cX4_get 14 = .ok (.lconst 0, 1) := by decide +kernel
theorem dX4_get_15 : decode cX4_get 15 = .ok (.lreturn, 1) := by decide +kernel
theorem dX4_get_16 : decode cX4_get 16 = .ok (.aload_n 0, 1) := by decide +kernel
theorem dX4_get_17 : decode cX4_get 17 = .ok (.iload_n 1, 1) := by decide +kernel
theorem dX4_get_18 : decode cX4_get 18 = .ok (.iload_n 3, 1) := by decide +kernel
theorem dX4_get_19 : decode cX4_get 19 = .ok (.invokevirtual 73, 3) := by decide +kernel
theorem dX4_get_22 : decode cX4_get 22 = .ok (.ifCond .ne 10, 3) := by decide +kernel
theorem dX4_get_25 : decode cX4_get 25 = .ok (.aload_n 0, 1) := by decide +kernel
theorem dX4_get_26 : decode cX4_get 26 = .ok (.iconst 3, 1) := by decide +kernel
theorem dX4_get_27 : decode cX4_get 27 = .ok (.invokevirtual 62, 3) := by decide +kernel
theorem dX4_get_30 : decode cX4_get 30 = .ok (.i2l, 1) := by decide +kernel
theorem dX4_get_31 : decode cX4_get 31 = .ok (.lreturn, 1) := by decide +kernel
theorem dX4_get_32 : decode cX4_get 32 = .ok (.aload_n 0, 1) := by decide +kernel
theorem dX4_get_33 : decode cX4_get 33 = .ok (.iload_n 1, 1) := by decide +kernel
theorem dX4_get_34 : decode cX4_get 34 = .ok (.iload_n 3, 1) := by decide +kernel
theorem dX4_get_35 : decode cX4_get 35 = .ok (.iconst 0, 1) := by decide +kernel
theorem dX4_get_36 : decode cX4_get 36 = .ok (.invokevirtual 86, 3) := by decide +kernel
theorem dX4_get_39 : decode cX4_get 39 = .ok (.lreturn, 1) := by decide +kernel
theorem dX4_state_0 : decode cX4_state 0 = .ok (.aload_n 0, 1) := by decide +kernel
theorem dX4_state_1 : decode cX4_state 1 = .ok (.iload_n 2, 1) := by decide +kernel
theorem dX4_state_2 : decode cX4_state 2 = .ok (.iload_n 3, 1) := by decide +kernel
theorem dX4_state_3 : decode cX4_state 3 = .ok (.iconst 1, 1) := by decide +kernel
theorem dX4_state_4 : decode cX4_state 4 = .ok (.if_icmp .lt 8, 3) := by decide +kernel
theorem dX4_state_7 : decode cX4_state 7 = .ok (.iload_n 3, 1) := by decide +kernel
theorem dX4_state_8 : decode cX4_state 8 = .ok (.iconst 3, 1) := by decide +kernel
theorem dX4_state_9 : decode cX4_state 9 = .ok (.if_icmp .le 7, 3) := by decide +kernel
theorem dX4_state_12 : decode cX4_state 12 = .ok (.iconst 1, 1) := by decide +kernel
theorem dX4_state_13 : decode cX4_state 13 = .ok (.goto 4, 3) := by decide +kernel
theorem dX4_state_16 : decode cX4_state 16 = .ok (.iconst 0, 1) := by decide +kernel
theorem dX4_state_17 : decode cX4_state 17 = .ok (.invokevirtual 93, 3) := by decide +kernel
theorem dX4_state_20 : decode cX4_state 20 = .ok (.istore 4, 2) := by decide +kernel
theorem dX4_state_22 : decode cX4_state 22 = .ok (.aload_n 0, 1) := by decide +kernel
theorem dX4_state_23 : decode cX4_state 23 = .ok (.getfield 51, 3) := by decide +kernel
theorem dX4_state_26 : decode cX4_state 26 = .ok (.ifCond .eq 7, 3) := by decide +kernel
theorem dX4_state_29 : decode cX4_state 29 = .ok (.iconst 0, 1) := by decide +kernel
theorem dX4_state_30 : decode cX4_state 30 = .ok (.goto 12, 3) := by decide +kernel
theorem dX4_state_33 : decode cX4_state 33 = .ok (.aload_n 0, 1) := by decide +kernel
theorem dX4_state_34 : decode cX4_state 34 = .ok (.iload_n 1, 1) := by decide +kernel
theorem dX4_state_35 : decode cX4_state 35 = .ok (.iload 4, 2) := by decide +kernel
theorem dX4_state_37 : decode cX4_state 37 = .ok (.iload_n 3, 1) := by decide +kernel
theorem dX4_state_38 : decode cX4_state 38 = .ok (.invokevirtual 86, 3) := by decide +kernel
theorem dX4_state_41 : decode cX4_state 41 = .ok (.l2i, 1) := by decide +kernel
theorem dX4_state_42 : decode cX4_state 42 = .ok (.ireturn, 1) := by decide +kernel
theorem dX4_gather_0 : decode cX4_gather 0 = .ok (.iconst 0, 1) := by decide +kernel
theorem dX4_gather_1 : decode cX4_gather 1 = .ok (.istore 4, 2) := by decide +kernel
theorem dX4_gather_3 : decode cX4_gather 3 = .ok (.iconst 0, 1) := by decide +kernel
theorem dX4_gather_4 : decode cX4_gather 4 = .ok (.istore 5, 2) := by decide +kernel
theorem dX4_gather_6 : decode cX4_gather 6 = .ok (.iload 5, 2) := by decide +kernel
theorem dX4_gather_8 : decode cX4_gather 8 = .ok (.aload_n 0, 1) := by decide +kernel
theorem dX4_gather_9 : decode cX4_gather 9 = .ok (.getfield 55, 3) := by decide +kernel
theorem dX4_gather_12 : decode cX4_gather 12 = .ok (.if_icmp .ge 110, 3) := by decide +kernel
theorem dX4_gather_15 : decode cX4_gather 15 = .ok (.aload_n 0, 1) := by decide +kernel
theorem dX4_gather_16 : decode cX4_gather 16 = .ok (.getfield 13, 3) := by decide +kernel
theorem dX4_gather_19 : decode cX4_gather 19 = .ok (.iload 5, 2) := by decide +kernel
theorem dX4_gather_21 : decode cX4_gather 21 = .ok (.iaload, 1) := by decide +kernel
theorem dX4_gather_22 : decode cX4_gather 22 = .ok (.iload_n 3, 1) := by decide +kernel
theorem dX4_gather_23 : decode cX4_gather 23 = .ok (.if_icmp .gt 99, 3) := by decide +kernel
theorem dX4_gather_26 : decode cX4_gather 26 = .ok (.aload_n 0, 1) := by decide +kernel
theorem dX4_gather_27 : decode cX4_gather 27 = .ok (.getfield 16, 3) := by decide +kernel
theorem dX4_gather_30 : decode cX4_gather 30 = .ok (.iload 5, 2) := by decide +kernel
theorem dX4_gather_32 : decode cX4_gather 32 = .ok (.iaload, 1) := by decide +kernel
theorem dX4_gather_33 : decode cX4_gather 33 = .ok (.ifCond .lt 19, 3) := by decide +kernel
theorem dX4_gather_36 : decode cX4_gather 36 = .ok (.aload_n 0, 1) := by decide +kernel
theorem dX4_gather_37 : decode cX4_gather 37 = .ok (.getfield 13, 3) := by decide +kernel
theorem dX4_gather_40 : decode cX4_gather 40 = .ok (.aload_n 0, 1) := by decide +kernel
theorem dX4_gather_41 : decode cX4_gather 41 = .ok (.getfield 16, 3) := by decide +kernel
theorem dX4_gather_44 : decode cX4_gather 44 = .ok (.iload 5, 2) := by decide +kernel
theorem dX4_gather_46 : decode cX4_gather 46 = .ok (.iaload, 1) := by decide +kernel
theorem dX4_gather_47 : decode cX4_gather 47 = .ok (.iaload, 1) := by decide +kernel
theorem dX4_gather_48 : decode cX4_gather 48 = .ok (.iload_n 3, 1) := by decide +kernel
theorem dX4_gather_49 : decode cX4_gather 49 = .ok (.if_icmp .le 7, 3) := by decide +kernel
theorem dX4_gather_52 : decode cX4_gather 52 = .ok (.iconst 1, 1) := by decide +kernel
theorem dX4_gather_53 : decode cX4_gather 53 = .ok (.goto 4, 3) := by decide +kernel
theorem dX4_gather_56 : decode cX4_gather 56 = .ok (.iconst 0, 1) := by decide +kernel
theorem dX4_gather_57 : decode cX4_gather 57 = .ok (.istore 6, 2) := by decide +kernel
theorem dX4_gather_59 : decode cX4_gather 59 = .ok (.iload 6, 2) := by decide +kernel
theorem dX4_gather_61 : decode cX4_gather 61 = .ok (.ifCond .eq 55, 3) := by decide +kernel
theorem dX4_gather_64 : decode cX4_gather 64 = .ok (.aload_n 0, 1) := by decide +kernel
theorem dX4_gather_65 : decode cX4_gather 65 = .ok (.getfield 23, 3) := by decide +kernel
theorem dX4_gather_68 : decode cX4_gather 68 = .ok (.iload 5, 2) := by decide +kernel
theorem dX4_gather_70 : decode cX4_gather 70 = .ok (.baload, 1) := by decide +kernel
theorem dX4_gather_71 : decode cX4_gather 71 = .ok (.ifCond .eq 45, 3) := by decide +kernel
theorem dX4_gather_74 : decode cX4_gather 74 = .ok (.aload_n 0, 1) := by decide +kernel
theorem dX4_gather_75 : decode cX4_gather 75 = .ok (.getfield 7, 3) := by decide +kernel
theorem dX4_gather_78 : decode cX4_gather 78 = .ok (.iload 5, 2) := by decide +kernel
theorem dX4_gather_80 : decode cX4_gather 80 = .ok (.iaload, 1) := by decide +kernel
theorem dX4_gather_81 : decode cX4_gather 81 = .ok (.iload_n 1, 1) := by decide +kernel
theorem dX4_gather_82 : decode cX4_gather 82 = .ok (.if_icmp .lt 34, 3) := by decide +kernel
theorem dX4_gather_85 : decode cX4_gather 85 = .ok (.aload_n 0, 1) := by decide +kernel
theorem dX4_gather_86 : decode cX4_gather 86 = .ok (.getfield 7, 3) := by decide +kernel
theorem dX4_gather_89 : decode cX4_gather 89 = .ok (.iload 5, 2) := by decide +kernel
theorem dX4_gather_91 : decode cX4_gather 91 = .ok (.iaload, 1) := by decide +kernel
theorem dX4_gather_92 : decode cX4_gather 92 = .ok (.iload_n 2, 1) := by decide +kernel
theorem dX4_gather_93 : decode cX4_gather 93 = .ok (.if_icmp .lt 6, 3) := by decide +kernel
theorem dX4_gather_96 : decode cX4_gather 96 = .ok (.goto 20, 3) := by decide +kernel
theorem dX4_gather_99 : decode cX4_gather 99 = .ok (.aload_n 0, 1) := by decide +kernel
theorem dX4_gather_100 : decode cX4_gather 100 = .ok (.getfield 48, 3) := by decide +kernel
theorem dX4_gather_103 : decode cX4_gather 103 = .ok (.iload 4, 2) := by decide +kernel
theorem dX4_gather_105 : decode cX4_gather 105 = .ok (.aload_n 0, 1) := by decide +kernel
theorem dX4_gather_106 : decode cX4_gather 106 = .ok (.getfield 7, 3) := by decide +kernel
theorem dX4_gather_109 : decode cX4_gather 109 = .ok (.iload 5, 2) := by decide +kernel
theorem dX4_gather_111 : decode cX4_gather 111 = .ok (.iaload, 1) := by decide +kernel
theorem dX4_gather_112 : decode cX4_gather 112 = .ok (.iastore, 1) := by decide +kernel
theorem dX4_gather_113 : decode cX4_gather 113 = .ok (.iinc 4 1, 3) := by decide +kernel
theorem dX4_gather_116 : decode cX4_gather 116 = .ok (.iinc 5 1, 3) := by decide +kernel
theorem dX4_gather_119 : decode cX4_gather 119 = .ok (.goto (-113), 3) := by decide +kernel
theorem dX4_gather_122 : decode cX4_gather 122 = .ok (.iload 4, 2) := by decide +kernel
theorem dX4_gather_124 : decode cX4_gather 124 = .ok (.ireturn, 1) := by decide +kernel
theorem dX4_many_0 : decode cX4_many 0 = .ok (.aload_n 0, 1) := by decide +kernel
theorem dX4_many_1 : decode cX4_many 1 = .ok (.iload_n 3, 1) := by decide +kernel
theorem dX4_many_2 : decode cX4_many 2 = .ok (.iconst 0, 1) := by decide +kernel
theorem dX4_many_3 : decode cX4_many 3 = .ok (.invokevirtual 93, 3) := by decide +kernel
theorem dX4_many_6 : decode cX4_many 6 = .ok (.istore 4, 2) := by decide +kernel
theorem dX4_many_8 : decode cX4_many 8 = .ok (.aload_n 0, 1) := by decide +kernel
theorem dX4_many_9 : decode cX4_many 9 = .ok (.getfield 51, 3) := by decide +kernel
theorem dX4_many_12 : decode cX4_many 12 = .ok (.ifCond .eq 7, 3) := by decide +kernel
theorem dX4_many_15 : decode cX4_many 15 = .ok (.iconst 0, 1) := by decide +kernel
theorem dX4_many_16 : decode cX4_many 16 = .ok (.goto 11, 3) := by decide +kernel
theorem dX4_many_19 : decode cX4_many 19 = .ok (.aload_n 0, 1) := by decide +kernel
theorem dX4_many_20 : decode cX4_many 20 = .ok (.iload_n 1, 1) := by decide +kernel
theorem dX4_many_21 : decode cX4_many 21 = .ok (.iload_n 2, 1) := by decide +kernel
theorem dX4_many_22 : decode cX4_many 22 = .ok (.iload 4, 2) := by decide +kernel
theorem dX4_many_24 : decode cX4_many 24 = .ok (.invokevirtual 97, 3) := by decide +kernel
theorem dX4_many_27 : decode cX4_many 27 = .ok (.ireturn, 1) := by decide +kernel
theorem dX4_key_0 : decode cX4_key 0 = .ok (.aload_n 0, 1) := by decide +kernel
theorem dX4_key_1 : decode cX4_key 1 = .ok (.iload_n 3, 1) := by decide +kernel
theorem dX4_key_2 : decode cX4_key 2 = .ok (.iconst 0, 1) := by decide +kernel
theorem dX4_key_3 : decode cX4_key 3 = .ok (.invokevirtual 93, 3) := by decide +kernel
theorem dX4_key_6 : decode cX4_key 6 = .ok (.istore 5, 2) := by decide +kernel
theorem dX4_key_8 : decode cX4_key 8 = .ok (.aload_n 0, 1) := by decide +kernel
theorem dX4_key_9 : decode cX4_key 9 = .ok (.getfield 51, 3) := by decide +kernel
theorem dX4_key_12 : decode cX4_key 12 = .ok (.ifCond .eq 5, 3) := by decide +kernel
theorem dX4_key_15 : decode cX4_key 15 = .ok (.iconst 0, 1) := by decide +kernel
theorem dX4_key_16 : decode cX4_key 16 = .ok (.ireturn, 1) := by decide +kernel
theorem dX4_key_17 : decode cX4_key 17 = .ok (.aload_n 0, 1) := by decide +kernel
theorem dX4_key_18 : decode cX4_key 18 = .ok (.iload_n 1, 1) := by decide +kernel
theorem dX4_key_19 : decode cX4_key 19 = .ok (.iload_n 2, 1) := by decide +kernel
theorem dX4_key_20 : decode cX4_key 20 = .ok (.iload 5, 2) := by decide +kernel
theorem dX4_key_22 : decode cX4_key 22 = .ok (.invokevirtual 97, 3) := by decide +kernel
theorem dX4_key_25 : decode cX4_key 25 = .ok (.istore 6, 2) := by decide +kernel
theorem dX4_key_27 : decode cX4_key 27 = .ok (.iload 4, 2) := by decide +kernel
theorem dX4_key_29 : decode cX4_key 29 = .ok (.ifCond .lt 10, 3) := by decide +kernel
theorem dX4_key_32 : decode cX4_key 32 = .ok (.iload 4, 2) := by decide +kernel
theorem dX4_key_34 : decode cX4_key 34 = .ok (.iload 6, 2) := by decide +kernel
theorem dX4_key_36 : decode cX4_key 36 = .ok (.if_icmp .lt 9, 3) := by decide +kernel
theorem dX4_key_39 : decode cX4_key 39 = .ok (.aload_n 0, 1) := by decide +kernel
theorem dX4_key_40 : decode cX4_key 40 = .ok (.iconst 3, 1) := by decide +kernel
theorem dX4_key_41 : decode cX4_key 41 = .ok (.invokevirtual 62, 3) := by decide +kernel
theorem dX4_key_44 : decode cX4_key 44 = .ok (.ireturn, 1) := by decide +kernel
theorem dX4_key_45 : decode cX4_key 45 = .ok (.iconst 0, 1) := by decide +kernel
theorem dX4_key_46 : decode cX4_key 46 = .ok (.istore 7, 2) := by decide +kernel
theorem dX4_key_48 : decode cX4_key 48 = .ok (.iload 7, 2) := by decide +kernel
theorem dX4_key_50 : decode cX4_key 50 = .ok (.iload 4, 2) := by decide +kernel
theorem dX4_key_52 : decode cX4_key 52 = .ok (.if_icmp .gt 85, 3) := by decide +kernel
theorem dX4_key_55 : decode cX4_key 55 = .ok (.iload 7, 2) := by decide +kernel
theorem dX4_key_57 : decode cX4_key 57 = .ok (.istore 8, 2) := by decide +kernel
theorem dX4_key_59 : decode cX4_key 59 = .ok (.iload 7, 2) := by decide +kernel
theorem dX4_key_61 : decode cX4_key 61 = .ok (.iconst 1, 1) := by decide +kernel
theorem dX4_key_62 : decode cX4_key 62 = .ok (.iadd, 1) := by decide +kernel
theorem dX4_key_63 : decode cX4_key 63 = .ok (.istore 9, 2) := by decide +kernel
theorem dX4_key_65 : decode cX4_key 65 = .ok (.iload 9, 2) := by decide +kernel
theorem dX4_key_67 : decode cX4_key 67 = .ok (.iload 6, 2) := by decide +kernel
theorem dX4_key_69 : decode cX4_key 69 = .ok (.if_icmp .ge 30, 3) := by decide +kernel
theorem dX4_key_72 : decode cX4_key 72 = .ok (.aload_n 0, 1) := by decide +kernel
theorem dX4_key_73 : decode cX4_key 73 = .ok (.getfield 48, 3) := by decide +kernel
theorem dX4_key_76 : decode cX4_key 76 = .ok (.iload 9, 2) := by decide +kernel
theorem dX4_key_78 : decode cX4_key 78 = .ok (.iaload, 1) := by decide +kernel
theorem dX4_key_79 : decode cX4_key 79 = .ok (.aload_n 0, 1) := by decide +kernel
theorem dX4_key_80 : decode cX4_key 80 = .ok (.getfield 48, 3) := by decide +kernel
theorem dX4_key_83 : decode cX4_key 83 = .ok (.iload 8, 2) := by decide +kernel
theorem dX4_key_85 : decode cX4_key 85 = .ok (.iaload, 1) := by decide +kernel
theorem dX4_key_86 : decode cX4_key 86 = .ok (.if_icmp .ge 7, 3) := by decide +kernel
theorem dX4_key_89 : decode cX4_key 89 = .ok (.iload 9, 2) := by decide +kernel
theorem dX4_key_91 : decode cX4_key 91 = .ok (.istore 8, 2) := by decide +kernel
theorem dX4_key_93 : decode cX4_key 93 = .ok (.iinc 9 1, 3) := by decide +kernel
theorem dX4_key_96 : decode cX4_key 96 = .ok (.goto (-31), 3) := by decide +kernel
theorem dX4_key_99 : decode cX4_key 99 = .ok (.aload_n 0, 1) := by decide +kernel
theorem dX4_key_100 : decode cX4_key 100 = .ok (.getfield 48, 3) := by decide +kernel
theorem dX4_key_103 : decode cX4_key 103 = .ok (.iload 7, 2) := by decide +kernel
theorem dX4_key_105 : decode cX4_key 105 = .ok (.iaload, 1) := by decide +kernel
theorem dX4_key_106 : decode cX4_key 106 = .ok (.istore 9, 2) := by decide +kernel
theorem dX4_key_108 : decode cX4_key 108 = .ok (.aload_n 0, 1) := by decide +kernel
theorem dX4_key_109 : decode cX4_key 109 = .ok (.getfield 48, 3) := by decide +kernel
theorem dX4_key_112 : decode cX4_key 112 = .ok (.iload 7, 2) := by decide +kernel
theorem dX4_key_114 : decode cX4_key 114 = .ok (.aload_n 0, 1) := by decide +kernel
theorem dX4_key_115 : decode cX4_key 115 = .ok (.getfield 48, 3) := by decide +kernel
theorem dX4_key_118 : decode cX4_key 118 = .ok (.iload 8, 2) := by decide +kernel
theorem dX4_key_120 : decode cX4_key 120 = .ok (.iaload, 1) := by decide +kernel
theorem dX4_key_121 : decode cX4_key 121 = .ok (.iastore, 1) := by decide +kernel
theorem dX4_key_122 : decode cX4_key 122 = .ok (.aload_n 0, 1) := by decide +kernel
theorem dX4_key_123 : decode cX4_key 123 = .ok (.getfield 48, 3) := by decide +kernel
theorem dX4_key_126 : decode cX4_key 126 = .ok (.iload 8, 2) := by decide +kernel
theorem dX4_key_128 : decode cX4_key 128 = .ok (.iload 9, 2) := by decide +kernel
theorem dX4_key_130 : decode cX4_key 130 = .ok (.iastore, 1) := by decide +kernel
theorem dX4_key_131 : decode cX4_key 131 = .ok (.iinc 7 1, 3) := by decide +kernel
theorem dX4_key_134 : decode cX4_key 134 = .ok (.goto (-86), 3) := by decide +kernel
theorem dX4_key_137 : decode cX4_key 137 = .ok (.aload_n 0, 1) := by decide +kernel
theorem dX4_key_138 : decode cX4_key 138 = .ok (.getfield 48, 3) := by decide +kernel
theorem dX4_key_141 : decode cX4_key 141 = .ok (.iload 4, 2) := by decide +kernel
theorem dX4_key_143 : decode cX4_key 143 = .ok (.iaload, 1) := by decide +kernel
theorem dX4_key_144 : decode cX4_key 144 = .ok (.ireturn, 1) := by decide +kernel
theorem dX4_compact_0 : decode cX4_compact 0 = .ok (.aload_n 0, 1) := by decide +kernel
theorem dX4_compact_1 : decode cX4_compact 1 = .ok (.iload_n 1, 1) := by decide +kernel
theorem dX4_compact_2 : decode cX4_compact 2 = .ok (.iconst 1, 1) := by decide +kernel
theorem dX4_compact_3 : decode cX4_compact 3 = .ok (.if_icmp .lt 11, 3) := by decide +kernel
theorem dX4_compact_6 : decode cX4_compact 6 = .ok (.iload_n 1, 1) := by decide +kernel
theorem dX4_compact_7 : decode cX4_compact 7 = .ok (.aload_n 0, 1) := by decide +kernel
theorem dX4_compact_8 : decode cX4_compact 8 = .ok (.getfield 66, 3) := by decide +kernel
theorem dX4_compact_11 : decode cX4_compact 11 = .ok (.if_icmp .le 7, 3) := by decide +kernel
theorem dX4_compact_14 : decode cX4_compact 14 = .ok (.iconst 1, 1) := by decide +kernel
theorem dX4_compact_15 : decode cX4_compact 15 = .ok (.goto 16, 3) := by decide +kernel
theorem dX4_compact_18 : decode cX4_compact 18 = .ok (.iload_n 1, 1) := by decide +kernel
theorem dX4_compact_19 : decode cX4_compact 19 = .ok (.aload_n 0, 1) := by decide +kernel
theorem dX4_compact_20 : decode cX4_compact 20 = .ok (.getfield 90, 3) := by decide +kernel
theorem dX4_compact_23 : decode cX4_compact 23 = .ok (.if_icmp .gt 7, 3) := by decide +kernel
theorem dX4_compact_26 : decode cX4_compact 26 = .ok (.iconst 2, 1) := by decide +kernel
theorem dX4_compact_27 : decode cX4_compact 27 = .ok (.goto 4, 3) := by decide +kernel
theorem dX4_compact_30 : decode cX4_compact 30 = .ok (.iconst 0, 1) := by decide +kernel
theorem dX4_compact_31 : decode cX4_compact 31 = .ok (.putfield 51, 3) := by decide +kernel
theorem dX4_compact_34 : decode cX4_compact 34 = .ok (.aload_n 0, 1) := by decide +kernel
theorem dX4_compact_35 : decode cX4_compact 35 = .ok (.getfield 51, 3) := by decide +kernel
theorem dX4_compact_38 : decode cX4_compact 38 = .ok (.ifCond .ne 8, 3) := by decide +kernel
theorem dX4_compact_41 : decode cX4_compact 41 = .ok (.aload_n 0, 1) := by decide +kernel
theorem dX4_compact_42 : decode cX4_compact 42 = .ok (.iload_n 1, 1) := by decide +kernel
theorem dX4_compact_43 : decode cX4_compact 43 = .ok (.putfield 90, 3) := by decide +kernel
theorem dX4_compact_46 : decode cX4_compact 46 = .ok (.return_, 1) := by decide +kernel
theorem dX4_event_0 : decode cX4_event 0 = .ok (.aload_n 0, 1) := by decide +kernel
theorem dX4_event_1 : decode cX4_event 1 = .ok (.iload_n 1, 1) := by decide +kernel
theorem dX4_event_2 : decode cX4_event 2 = .ok (.iconst 1, 1) := by decide +kernel
theorem dX4_event_3 : decode cX4_event 3 = .ok (.if_icmp .lt 12, 3) := by decide +kernel
theorem dX4_event_6 : decode cX4_event 6 = .ok (.iload_n 3, 1) := by decide +kernel
theorem dX4_event_7 : decode cX4_event 7 = .ok (.ifCond .lt 8, 3) := by decide +kernel
theorem dX4_event_10 : decode cX4_event 10 = .ok (.iload_n 3, 1) := by decide +kernel
theorem dX4_event_11 : decode cX4_event 11 = .ok (.iconst 2, 1) := by decide +kernel
theorem dX4_event_12 : decode cX4_event 12 = .ok (.if_icmp .le 7, 3) := by decide +kernel
theorem dX4_event_15 : decode cX4_event 15 = .ok (.iconst 1, 1) := by decide +kernel
theorem dX4_event_16 : decode cX4_event 16 = .ok (.goto 16, 3) := by decide +kernel
theorem dX4_event_19 : decode cX4_event 19 = .ok (.iload_n 1, 1) := by decide +kernel
theorem dX4_event_20 : decode cX4_event 20 = .ok (.aload_n 0, 1) := by decide +kernel
theorem dX4_event_21 : decode cX4_event 21 = .ok (.getfield 90, 3) := by decide +kernel
theorem dX4_event_24 : decode cX4_event 24 = .ok (.if_icmp .gt 7, 3) := by decide +kernel
theorem dX4_event_27 : decode cX4_event 27 = .ok (.iconst 2, 1) := by decide +kernel
theorem dX4_event_28 : decode cX4_event 28 = .ok (.goto 4, 3) := by decide +kernel
theorem dX4_event_31 : decode cX4_event 31 = .ok (.iconst 0, 1) := by decide +kernel
theorem dX4_event_32 : decode cX4_event 32 = .ok (.putfield 51, 3) := by decide +kernel
theorem dX4_event_35 : decode cX4_event 35 = .ok (.aload_n 0, 1) := by decide +kernel
theorem dX4_event_36 : decode cX4_event 36 = .ok (.getfield 51, 3) := by decide +kernel
theorem dX4_event_39 : decode cX4_event 39 = .ok (.ifCond .eq 5, 3) := by decide +kernel
theorem dX4_event_42 : decode cX4_event 42 = .ok (.iconst 0, 1) := by decide +kernel
theorem dX4_event_43 : decode cX4_event 43 = .ok (.ireturn, 1) := by decide +kernel
theorem dX4_event_44 : decode cX4_event 44 = .ok (.iconst 0, 1) := by decide +kernel
theorem dX4_event_45 : decode cX4_event 45 = .ok (.istore 4, 2) := by decide +kernel
theorem dX4_event_47 : decode cX4_event 47 = .ok (.iload 4, 2) := by decide +kernel
theorem dX4_event_49 : decode cX4_event 49 = .ok (.aload_n 0, 1) := by decide +kernel
theorem dX4_event_50 : decode cX4_event 50 = .ok (.getfield 55, 3) := by decide +kernel
theorem dX4_event_53 : decode cX4_event 53 = .ok (.if_icmp .ge 20, 3) := by decide +kernel
theorem dX4_event_56 : decode cX4_event 56 = .ok (.aload_n 0, 1) := by decide +kernel
theorem dX4_event_57 : decode cX4_event 57 = .ok (.getfield 13, 3) := by decide +kernel
theorem dX4_event_60 : decode cX4_event 60 = .ok (.iload 4, 2) := by decide +kernel
theorem dX4_event_62 : decode cX4_event 62 = .ok (.iaload, 1) := by decide +kernel
theorem dX4_event_63 : decode cX4_event 63 = .ok (.iload_n 1, 1) := by decide +kernel
theorem dX4_event_64 : decode cX4_event 64 = .ok (.if_icmp .ge 9, 3) := by decide +kernel
theorem dX4_event_67 : decode cX4_event 67 = .ok (.iinc 4 1, 3) := by decide +kernel
theorem dX4_event_70 : decode cX4_event 70 = .ok (.goto (-23), 3) := by decide +kernel
theorem dX4_event_73 : decode cX4_event 73 = .ok (.iload_n 2, 1) := by decide +kernel
theorem dX4_event_74 : decode cX4_event 74 = .ok (.ifCond .lt 14, 3) := by decide +kernel
theorem dX4_event_77 : decode cX4_event 77 = .ok (.iload_n 2, 1) := by decide +kernel
theorem dX4_event_78 : decode cX4_event 78 = .ok (.aload_n 0, 1) := by decide +kernel
theorem dX4_event_79 : decode cX4_event 79 = .ok (.getfield 55, 3) := by decide +kernel
theorem dX4_event_82 : decode cX4_event 82 = .ok (.iload 4, 2) := by decide +kernel
theorem dX4_event_84 : decode cX4_event 84 = .ok (.isub, 1) := by decide +kernel
theorem dX4_event_85 : decode cX4_event 85 = .ok (.if_icmp .lt 9, 3) := by decide +kernel
theorem dX4_event_88 : decode cX4_event 88 = .ok (.aload_n 0, 1) := by decide +kernel
theorem dX4_event_89 : decode cX4_event 89 = .ok (.iconst 3, 1) := by decide +kernel
theorem dX4_event_90 : decode cX4_event 90 = .ok (.invokevirtual 62, 3) := by decide +kernel
theorem dX4_event_93 : decode cX4_event 93 = .ok (.ireturn, 1) := by decide +kernel
theorem dX4_event_94 : decode cX4_event 94 = .ok (.iload 4, 2) := by decide +kernel
theorem dX4_event_96 : decode cX4_event 96 = .ok (.iload_n 2, 1) := by decide +kernel
theorem dX4_event_97 : decode cX4_event 97 = .ok (.iadd, 1) := by decide +kernel
theorem dX4_event_98 : decode cX4_event 98 = .ok (.istore 5, 2) := by decide +kernel
theorem dX4_event_100 : decode cX4_event 100 = .ok (.iload_n 3, 1) := by decide +kernel
theorem dX4_event_101 : decode cX4_event 101 = .ok (.ifCond .ne 13, 3) := by decide +kernel
theorem dX4_event_104 : decode cX4_event 104 = .ok (.aload_n 0, 1) := by decide +kernel
theorem dX4_event_105 : decode cX4_event 105 = .ok (.getfield 7, 3) := by decide +kernel
theorem dX4_event_108 : decode cX4_event 108 = .ok (.iload 5, 2) := by decide +kernel
theorem dX4_event_110 : decode cX4_event 110 = .ok (.iaload, 1) := by decide +kernel
theorem dX4_event_111 : decode cX4_event 111 = .ok (.goto 33, 3) := by decide +kernel
theorem dX4_event_114 : decode cX4_event 114 = .ok (.iload_n 3, 1) := by decide +kernel
theorem dX4_event_115 : decode cX4_event 115 = .ok (.iconst 1, 1) := by decide +kernel
theorem dX4_event_116 : decode cX4_event 116 = .ok (.if_icmp .ne 13, 3) := by decide +kernel
theorem dX4_event_119 : decode cX4_event 119 = .ok (.aload_n 0, 1) := by decide +kernel
theorem dX4_event_120 : decode cX4_event 120 = .ok (.getfield 13, 3) := by decide +kernel
theorem dX4_event_123 : decode cX4_event 123 = .ok (.iload 5, 2) := by decide +kernel
theorem dX4_event_125 : decode cX4_event 125 = .ok (.iaload, 1) := by decide +kernel
theorem dX4_event_126 : decode cX4_event 126 = .ok (.goto 18, 3) := by decide +kernel
theorem dX4_event_129 : decode cX4_event 129 = .ok (.aload_n 0, 1) := by decide +kernel
theorem dX4_event_130 : decode cX4_event 130 = .ok (.getfield 23, 3) := by decide +kernel
theorem dX4_event_133 : decode cX4_event 133 = .ok (.iload 5, 2) := by decide +kernel
theorem dX4_event_135 : decode cX4_event 135 = .ok (.baload, 1) := by decide +kernel
theorem dX4_event_136 : decode cX4_event 136 = .ok (.ifCond .eq 7, 3) := by decide +kernel
theorem dX4_event_139 : decode cX4_event 139 = .ok (.iconst 1, 1) := by decide +kernel
theorem dX4_event_140 : decode cX4_event 140 = .ok (.goto 4, 3) := by decide +kernel
theorem dX4_event_143 : decode cX4_event 143 = .ok (.iconst 0, 1) := by decide +kernel
theorem dX4_event_144 : decode cX4_event 144 = .ok (.ireturn, 1) := by decide +kernel
theorem dX4_count_0 : decode cX4_count 0 = .ok (.aload_n 0, 1) := by decide +kernel
theorem dX4_count_1 : decode cX4_count 1 = .ok (.iconst 0, 1) := by decide +kernel
theorem dX4_count_2 : decode cX4_count 2 = .ok (.putfield 51, 3) := by decide +kernel
theorem dX4_count_5 : decode cX4_count 5 = .ok (.iload_n 1, 1) := by decide +kernel
theorem dX4_count_6 : decode cX4_count 6 = .ok (.tableswitch 113 0 6 #[42, 47, 52, 57, 62, 67, 72], 42) := by decide +kernel
theorem dX4_count_48 : decode cX4_count 48 = .ok (.aload_n 0, 1) := by decide +kernel
theorem dX4_count_49 : decode cX4_count 49 = .ok (.getfield 66, 3) := by decide +kernel
theorem dX4_count_52 : decode cX4_count 52 = .ok (.ireturn, 1) := by decide +kernel
theorem dX4_count_53 : decode cX4_count 53 = .ok (.aload_n 0, 1) := by decide +kernel
theorem dX4_count_54 : decode cX4_count 54 = .ok (.getfield 90, 3) := by decide +kernel
theorem dX4_count_57 : decode cX4_count 57 = .ok (.ireturn, 1) := by decide +kernel
theorem dX4_count_58 : decode cX4_count 58 = .ok (.aload_n 0, 1) := by decide +kernel
theorem dX4_count_59 : decode cX4_count 59 = .ok (.getfield 55, 3) := by decide +kernel
theorem dX4_count_62 : decode cX4_count 62 = .ok (.ireturn, 1) := by decide +kernel
theorem dX4_count_63 : decode cX4_count 63 = .ok (.aload_n 0, 1) := by decide +kernel
theorem dX4_count_64 : decode cX4_count 64 = .ok (.getfield 77, 3) := by decide +kernel
theorem dX4_count_67 : decode cX4_count 67 = .ok (.ireturn, 1) := by decide +kernel
theorem dX4_count_68 : decode cX4_count 68 = .ok (.aload_n 0, 1) := by decide +kernel
theorem dX4_count_69 : decode cX4_count 69 = .ok (.getfield 80, 3) := by decide +kernel
theorem dX4_count_72 : decode cX4_count 72 = .ok (.ireturn, 1) := by decide +kernel
theorem dX4_count_73 : decode cX4_count 73 = .ok (.aload_n 0, 1) := by decide +kernel
theorem dX4_count_74 : decode cX4_count 74 = .ok (.getfield 83, 3) := by decide +kernel
theorem dX4_count_77 : decode cX4_count 77 = .ok (.ireturn, 1) := by decide +kernel
theorem dX4_count_78 : decode cX4_count 78 = .ok (.iconst 0, 1) := by decide +kernel
theorem dX4_count_79 : decode cX4_count 79 = .ok (.istore_n 2, 1) := by decide +kernel
theorem dX4_count_80 : decode cX4_count 80 = .ok (.iconst 0, 1) := by decide +kernel
theorem dX4_count_81 : decode cX4_count 81 = .ok (.istore_n 3, 1) := by decide +kernel
theorem dX4_count_82 : decode cX4_count 82 = .ok (.iload_n 3, 1) := by decide +kernel
theorem dX4_count_83 : decode cX4_count 83 = .ok (.aload_n 0, 1) := by decide +kernel
theorem dX4_count_84 : decode cX4_count 84 = .ok (.getfield 55, 3) := by decide +kernel
theorem dX4_count_87 : decode cX4_count 87 = .ok (.if_icmp .ge 30, 3) := by decide +kernel
theorem dX4_count_90 : decode cX4_count 90 = .ok (.aload_n 0, 1) := by decide +kernel
theorem dX4_count_91 : decode cX4_count 91 = .ok (.getfield 16, 3) := by decide +kernel
theorem dX4_count_94 : decode cX4_count 94 = .ok (.iload_n 3, 1) := by decide +kernel
theorem dX4_count_95 : decode cX4_count 95 = .ok (.iaload, 1) := by decide +kernel
theorem dX4_count_96 : decode cX4_count 96 = .ok (.ifCond .ge 15, 3) := by decide +kernel
theorem dX4_count_99 : decode cX4_count 99 = .ok (.aload_n 0, 1) := by decide +kernel
theorem dX4_count_100 : decode cX4_count 100 = .ok (.getfield 23, 3) := by decide +kernel
theorem dX4_count_103 : decode cX4_count 103 = .ok (.iload_n 3, 1) := by decide +kernel
theorem dX4_count_104 : decode cX4_count 104 = .ok (.baload, 1) := by decide +kernel
theorem dX4_count_105 : decode cX4_count 105 = .ok (.ifCond .eq 6, 3) := by decide +kernel
theorem dX4_count_108 : decode cX4_count 108 = .ok (.iinc 2 1, 3) := by decide +kernel
theorem dX4_count_111 : decode cX4_count 111 = .ok (.iinc 3 1, 3) := by decide +kernel
theorem dX4_count_114 : decode cX4_count 114 = .ok (.goto (-32), 3) := by decide +kernel
theorem dX4_count_117 : decode cX4_count 117 = .ok (.iload_n 2, 1) := by decide +kernel
theorem dX4_count_118 : decode cX4_count 118 = .ok (.ireturn, 1) := by decide +kernel
theorem dX4_count_119 : decode cX4_count 119 = .ok (.iconst (-1), 1) := by decide +kernel
theorem dX4_count_120 : decode cX4_count 120 = .ok (.ireturn, 1) := by decide +kernel
