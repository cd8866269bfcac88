theorem dX5_train_5 : decode cX5_train 5 = .ok (.iload_n 1, 1) := by decide +kernel
theorem dX5_train_6 : decode cX5_train 6 = .ok (.bipush 40, 2) := by decide +kernel
theorem dX5_train_8 : decode cX5_train 8 = .ok (.if_icmp .gt 14, 3) := by decide +kernel
theorem dX5_train_11 : decode cX5_train 11 = .ok (.aload_n 0, 1) := by decide +kernel
theorem dX5_train_12 : decode cX5_train 12 = .ok (.getfield 10, 3) := by decide +kernel
theorem dX5_train_15 : decode cX5_train 15 = .ok (.iload_n 1, 1) := by decide +kernel
theorem dX5_train_16 : decode cX5_train 16 = .ok (.invokevirtual 46, 3) := by decide +kernel
theorem dX5_train_19 : decode cX5_train 19 = .ok (.goto 4, 3) := by decide +kernel
theorem dX5_train_22 : decode cX5_train 22 = .ok (.iconst (-1), 1) := by decide +kernel
theorem dX5_train_23 : decode cX5_train 23 = .ok (.ireturn, 1) := by decide +kernel
theorem dX5_stop_0 : decode cX5_stop 0 = .ok (.aload_n 0, 1) := by decide +kernel
theorem dX5_stop_1 : decode cX5_stop 1 = .ok (.iload_n 1, 1) := by decide +kernel
theorem dX5_stop_2 : decode cX5_stop 2 = .ok (.invokevirtual 49, 3) := by decide +kernel
theorem dX5_stop_5 : decode cX5_stop 5 = .ok (.astore 4, 2) := by decide +kernel
theorem dX5_stop_7 : decode cX5_stop 7 = .ok (.aload_n 0, 1) := by decide +kernel
theorem dX5_stop_8 : decode cX5_stop 8 = .ok (.getfield 10, 3) := by decide +kernel
theorem dX5_stop_11 : decode cX5_stop 11 = .ok (.iload_n 2, 1) := by decide +kernel
theorem dX5_stop_12 : decode cX5_stop 12 = .ok (.invokevirtual 53, 3) := by decide +kernel
theorem dX5_stop_15 : decode cX5_stop 15 = .ok (.ifCond .eq 18, 3) := by decide +kernel
theorem dX5_stop_18 : decode cX5_stop 18 = .ok (.iload_n 3, 1) := by decide +kernel
theorem dX5_stop_19 : decode cX5_stop 19 = .ok (.invokestatic 57, 3) := by decide +kernel
theorem dX5_stop_22 : decode cX5_stop 22 = .ok (.ifCond .eq 11, 3) := by decide +kernel
theorem dX5_stop_25 : decode cX5_stop 25 = .ok (.aload 4, 2) := by decide +kernel
theorem dX5_stop_27 : decode cX5_stop 27 = .ok (.invokevirtual 60, 3) := by decide +kernel
theorem dX5_stop_30 : decode cX5_stop 30 = .ok (.ifCond .eq 5, 3) := by decide +kernel
theorem dX5_stop_33 : decode cX5_stop 33 = .ok (.iconst (-1), 1) := by decide +kernel
theorem dX5_stop_34 : decode cX5_stop 34 = .ok (.ireturn, 1) := by decide +kernel
theorem dX5_stop_35 : decode cX5_stop 35 = .ok (.aload 4, 2) := by decide +kernel
theorem dX5_stop_37 : decode cX5_stop 37 = .ok (.iload_n 2, 1) := by decide +kernel
theorem dX5_stop_38 : decode cX5_stop 38 = .ok (.iload_n 3, 1) := by decide +kernel
theorem dX5_stop_39 : decode cX5_stop 39 = .ok (.invokevirtual 66, 3) := by decide +kernel
theorem dX5_stop_42 : decode cX5_stop 42 = .ok (.ireturn, 1) := by decide +kernel
theorem dX5_box_0 : decode cX5_box 0 = .ok (.aload_n 0, 1) := by decide +kernel
theorem dX5_box_1 : decode cX5_box 1 = .ok (.getfield 19, 3) := by decide +kernel
theorem dX5_box_4 : decode cX5_box 4 = .ok (.invokevirtual 70, 3) := by decide +kernel
theorem dX5_box_7 : decode cX5_box 7 = .ok (.bipush 60, 2) := by decide +kernel
theorem dX5_box_9 : decode cX5_box 9 = .ok (.if_icmp .ge 26, 3) := by decide +kernel
theorem dX5_box_12 : decode cX5_box 12 = .ok (.aload_n 0, 1) := by decide +kernel
theorem dX5_box_13 : decode cX5_box 13 = .ok (.getfield 10, 3) := by decide +kernel
theorem dX5_box_16 : decode cX5_box 16 = .ok (.iload_n 1, 1) := by decide +kernel
theorem dX5_box_17 : decode cX5_box 17 = .ok (.invokevirtual 53, 3) := by decide +kernel
theorem dX5_box_20 : decode cX5_box 20 = .ok (.ifCond .eq 15, 3) := by decide +kernel
theorem dX5_box_23 : decode cX5_box 23 = .ok (.aload_n 0, 1) := by decide +kernel
theorem dX5_box_24 : decode cX5_box 24 = .ok (.getfield 10, 3) := by decide +kernel
theorem dX5_box_27 : decode cX5_box 27 = .ok (.iload 4, 2) := by decide +kernel
theorem dX5_box_29 : decode cX5_box 29 = .ok (.invokevirtual 53, 3) := by decide +kernel
theorem dX5_box_32 : decode cX5_box 32 = .ok (.ifCond .ne 5, 3) := by decide +kernel
theorem dX5_box_35 : decode cX5_box 35 = .ok (.iconst (-1), 1) := by decide +kernel
theorem dX5_box_36 : decode cX5_box 36 = .ok (.ireturn, 1) := by decide +kernel
theorem dX5_box_37 : decode cX5_box 37 = .ok (.iload_n 2, 1) := by decide +kernel
theorem dX5_box_38 : decode cX5_box 38 = .ok (.bipush 120, 2) := by decide +kernel
theorem dX5_box_40 : decode cX5_box 40 = .ok (.invokestatic 38, 3) := by decide +kernel
theorem dX5_box_43 : decode cX5_box 43 = .ok (.ifCond .eq 13, 3) := by decide +kernel
theorem dX5_box_46 : decode cX5_box 46 = .ok (.iload 5, 2) := by decide +kernel
theorem dX5_box_48 : decode cX5_box 48 = .ok (.bipush 120, 2) := by decide +kernel
theorem dX5_box_50 : decode cX5_box 50 = .ok (.invokestatic 38, 3) := by decide +kernel
theorem dX5_box_53 : decode cX5_box 53 = .ok (.ifCond .ne 5, 3) := by decide +kernel
theorem dX5_box_56 : decode cX5_box 56 = .ok (.iconst (-1), 1) := by decide +kernel
theorem dX5_box_57 : decode cX5_box 57 = .ok (.ireturn, 1) := by decide +kernel
theorem dX5_box_58 : decode cX5_box 58 = .ok (.iload_n 3, 1) := by decide +kernel
theorem dX5_box_59 : decode cX5_box 59 = .ok (.invokestatic 57, 3) := by decide +kernel
theorem dX5_box_62 : decode cX5_box 62 = .ok (.ifCond .eq 11, 3) := by decide +kernel
theorem dX5_box_65 : decode cX5_box 65 = .ok (.iload 6, 2) := by decide +kernel
theorem dX5_box_67 : decode cX5_box 67 = .ok (.invokestatic 57, 3) := by decide +kernel
theorem dX5_box_70 : decode cX5_box 70 = .ok (.ifCond .ne 5, 3) := by decide +kernel
theorem dX5_box_73 : decode cX5_box 73 = .ok (.iconst (-1), 1) := by decide +kernel
theorem dX5_box_74 : decode cX5_box 74 = .ok (.ireturn, 1) := by decide +kernel
theorem dX5_box_75 : decode cX5_box 75 = .ok (.aload_n 0, 1) := by decide +kernel
theorem dX5_box_76 : decode cX5_box 76 = .ok (.getfield 19, 3) := by decide +kernel
theorem dX5_box_79 : decode cX5_box 79 = .ok (.new 74, 3) := by decide +kernel
theorem dX5_box_82 : decode cX5_box 82 = .ok (.dup, 1) := by decide +kernel
theorem dX5_box_83 : decode cX5_box 83 = .ok (.new 76, 3) := by decide +kernel
theorem dX5_box_86 : decode cX5_box 86 = .ok (.dup, 1) := by decide +kernel
theorem dX5_box_87 : decode cX5_box 87 = .ok (.iload_n 1, 1) := by decide +kernel
theorem dX5_box_88 : decode cX5_box 88 = .ok (.iload_n 2, 1) := by decide +kernel
theorem dX5_box_89 : decode cX5_box 89 = .ok (.iload_n 3, 1) := by decide +kernel
theorem dX5_box_90 : decode cX5_box 90 = .ok (.iload 4, 2) := by decide +kernel
theorem dX5_box_92 : decode cX5_box 92 = .ok (.iload 5, 2) := by decide +kernel
theorem dX5_box_94 : decode cX5_box 94 = .ok (.iload 6, 2) := by decide +kernel
theorem dX5_box_96 : decode cX5_box 96 = .ok (.invokespecial 78, 3) := by decide +kernel
theorem dX5_box_99 : decode cX5_box 99 = .ok (.invokespecial 81, 3) := by decide +kernel
theorem dX5_box_102 : decode cX5_box 102 = .ok (.invokevirtual 84, 3) := by decide +kernel
theorem dX5_box_105 : decode cX5_box 105 = .ok (.pop, 1) := by decide +kernel
theorem dX5_box_106 : decode cX5_box 106 = .ok (.aload_n 0, 1) := by decide +kernel
theorem dX5_box_107 : decode cX5_box 107 = .ok (.getfield 19, 3) := by decide +kernel
theorem dX5_box_110 : decode cX5_box 110 = .ok (.invokevirtual 70, 3) := by decide +kernel
theorem dX5_box_113 : decode cX5_box 113 = .ok (.iconst 1, 1) := by decide +kernel
theorem dX5_box_114 : decode cX5_box 114 = .ok (.isub, 1) := by decide +kernel
theorem dX5_box_115 : decode cX5_box 115 = .ok (.ireturn, 1) := by decide +kernel
theorem dX5_plan_0 : decode cX5_plan 0 = .ok (.iconst 0, 1) := by decide +kernel
theorem dX5_plan_1 : decode cX5_plan 1 = .ok (.istore_n 1, 1) := by decide +kernel
theorem dX5_plan_2 : decode cX5_plan 2 = .ok (.iconst 0, 1) := by decide +kernel
theorem dX5_plan_3 : decode cX5_plan 3 = .ok (.istore_n 2, 1) := by decide +kernel
theorem dX5_plan_4 : decode cX5_plan 4 = .ok (.iload_n 2, 1) := by decide +kernel
theorem dX5_plan_5 : decode cX5_plan 5 = .ok (.aload_n 0, 1) := by decide +kernel
theorem dX5_plan_6 : decode cX5_plan 6 = .ok (.getfield 19, 3) := by decide +kernel
theorem dX5_plan_9 : decode cX5_plan 9 = .ok (.invokevirtual 70, 3) := by decide +kernel
theorem dX5_plan_12 : decode cX5_plan 12 = .ok (.if_icmp .ge 33, 3) := by decide +kernel
theorem dX5_plan_15 : decode cX5_plan 15 = .ok (.aload_n 0, 1) := by decide +kernel
theorem dX5_plan_16 : decode cX5_plan 16 = .ok (.aload_n 0, 1) := by decide +kernel
theorem dX5_plan_17 : decode cX5_plan 17 = .ok (.getfield 19, 3) := by decide +kernel
theorem dX5_plan_20 : decode cX5_plan 20 = .ok (.iload_n 2, 1) := by decide +kernel
theorem dX5_plan_21 : decode cX5_plan 21 = .ok (.invokevirtual 88, 3) := by decide +kernel
theorem dX5_plan_24 : decode cX5_plan 24 = .ok (.checkcast 74, 3) := by decide +kernel
theorem dX5_plan_27 : decode cX5_plan 27 = .ok (.invokevirtual 92, 3) := by decide +kernel
theorem dX5_plan_30 : decode cX5_plan 30 = .ok (.invokevirtual 96, 3) := by decide +kernel
theorem dX5_plan_33 : decode cX5_plan 33 = .ok (.ifCond .eq 6, 3) := by decide +kernel
theorem dX5_plan_36 : decode cX5_plan 36 = .ok (.iinc 1 1, 3) := by decide +kernel
theorem dX5_plan_39 : decode cX5_plan 39 = .ok (.iinc 2 1, 3) := by decide +kernel
theorem dX5_plan_42 : decode cX5_plan 42 = .ok (.goto (-38), 3) := by decide +kernel
theorem dX5_plan_45 : decode cX5_plan 45 = .ok (.iload_n 1, 1) := by decide +kernel
theorem dX5_plan_46 : decode cX5_plan 46 = .ok (.ireturn, 1) := by decide +kernel
theorem dX5_minutes_0 : decode cX5_minutes 0 = .ok (.iload_n 1, 1) := by decide +kernel
theorem dX5_minutes_1 : decode cX5_minutes 1 = .ok (.ifCond .lt 15, 3) := by decide +kernel
theorem dX5_minutes_4 : decode cX5_minutes 4 = .ok (.iload_n 1, 1) := by decide +kernel
theorem dX5_minutes_5 : decode cX5_minutes 5 = .ok (.sipush 1439, 3) := by decide +kernel
theorem dX5_minutes_8 : decode cX5_minutes 8 = .ok (.aload_n 0, 1) := by decide +kernel
theorem dX5_minutes_9 : decode cX5_minutes 9 = .ok (.getfield 34, 3) := by decide +kernel
theorem dX5_minutes_12 : decode cX5_minutes 12 = .ok (.isub, 1) := by decide +kernel
theorem dX5_minutes_13 : decode cX5_minutes 13 = .ok (.if_icmp .le 13, 3) := by decide +kernel
theorem dX5_minutes_16 : decode cX5_minutes 16 = .ok (.new 100, 3) := by decide +kernel
theorem dX5_minutes_19 : decode cX5_minutes 19 = .ok (.dup, 1) := by decide +kernel
theorem dX5_minutes_20 : decode cX5_minutes 20 = .ok (.ldc 102, 2) := by decide +kernel
theorem dX5_minutes_22 : decode cX5_minutes 22 = .ok (.invokespecial 104, 3) := by decide +kernel
theorem dX5_minutes_25 : decode cX5_minutes 25 = .ok (.athrow, 1) := by decide +kernel
theorem dX5_minutes_26 : decode cX5_minutes 26 = .ok (.aload_n 0, 1) := by decide +kernel
theorem dX5_minutes_27 : decode cX5_minutes 27 = .ok (.dup, 1) := by decide +kernel
theorem dX5_minutes_28 : decode cX5_minutes 28 = .ok (.getfield 34, 3) := by decide +kernel
theorem dX5_minutes_31 : decode cX5_minutes 31 = .ok (.iload_n 1, 1) := by decide +kernel
theorem dX5_minutes_32 : decode cX5_minutes 32 = .ok (.iadd, 1) := by decide +kernel
theorem dX5_minutes_33 : decode cX5_minutes 33 = .ok (.putfield 34, 3) := by decide +kernel
theorem dX5_minutes_36 : decode cX5_minutes 36 = .ok (.aload_n 0, 1) := by decide +kernel
theorem dX5_minutes_37 : decode cX5_minutes 37 = .ok (.getfield 34, 3) := by decide +kernel
theorem dX5_minutes_40 : decode cX5_minutes 40 = .ok (.ireturn, 1) := by decide +kernel
theorem dX5_cancel_0 : decode cX5_cancel 0 = .ok (.aload_n 0, 1) := by decide +kernel
theorem dX5_cancel_1 : decode cX5_cancel 1 = .ok (.iload_n 1, 1) := by decide +kernel
theorem dX5_cancel_2 : decode cX5_cancel 2 = .ok (.invokevirtual 49, 3) := by decide +kernel
theorem dX5_cancel_5 : decode cX5_cancel 5 = .ok (.astore_n 2, 1) := by decide +kernel
theorem dX5_cancel_6 : decode cX5_cancel 6 = .ok (.aload_n 2, 1) := by decide +kernel
theorem dX5_cancel_7 : decode cX5_cancel 7 = .ok (.getfield 107, 3) := by decide +kernel
theorem dX5_cancel_10 : decode cX5_cancel 10 = .ok (.ifCond .ne 14, 3) := by decide +kernel
theorem dX5_cancel_13 : decode cX5_cancel 13 = .ok (.aload_n 2, 1) := by decide +kernel
theorem dX5_cancel_14 : decode cX5_cancel 14 = .ok (.aload_n 0, 1) := by decide +kernel
theorem dX5_cancel_15 : decode cX5_cancel 15 = .ok (.getfield 34, 3) := by decide +kernel
theorem dX5_cancel_18 : decode cX5_cancel 18 = .ok (.invokevirtual 111, 3) := by decide +kernel
theorem dX5_cancel_21 : decode cX5_cancel 21 = .ok (.ifCond .ne 5, 3) := by decide +kernel
theorem dX5_cancel_24 : decode cX5_cancel 24 = .ok (.iconst (-1), 1) := by decide +kernel
theorem dX5_cancel_25 : decode cX5_cancel 25 = .ok (.ireturn, 1) := by decide +kernel
theorem dX5_cancel_26 : decode cX5_cancel 26 = .ok (.aload_n 2, 1) := by decide +kernel
theorem dX5_cancel_27 : decode cX5_cancel 27 = .ok (.iconst 1, 1) := by decide +kernel
theorem dX5_cancel_28 : decode cX5_cancel 28 = .ok (.putfield 107, 3) := by decide +kernel
theorem dX5_cancel_31 : decode cX5_cancel 31 = .ok (.aload_n 0, 1) := by decide +kernel
theorem dX5_cancel_32 : decode cX5_cancel 32 = .ok (.iload_n 1, 1) := by decide +kernel
theorem dX5_cancel_33 : decode cX5_cancel 33 = .ok (.invokevirtual 114, 3) := by decide +kernel
theorem dX5_cancel_36 : decode cX5_cancel 36 = .ok (.istore_n 3, 1) := by decide +kernel
theorem dX5_cancel_37 : decode cX5_cancel 37 = .ok (.aload_n 0, 1) := by decide +kernel
theorem dX5_cancel_38 : decode cX5_cancel 38 = .ok (.invokevirtual 117, 3) := by decide +kernel
theorem dX5_cancel_41 : decode cX5_cancel 41 = .ok (.iload_n 3, 1) := by decide +kernel
theorem dX5_cancel_42 : decode cX5_cancel 42 = .ok (.ireturn, 1) := by decide +kernel
theorem dX5_empty_0 : decode cX5_empty 0 = .ok (.aload_n 0, 1) := by decide +kernel
theorem dX5_empty_1 : decode cX5_empty 1 = .ok (.iload_n 1, 1) := by decide +kernel
theorem dX5_empty_2 : decode cX5_empty 2 = .ok (.invokevirtual 120, 3) := by decide +kernel
theorem dX5_empty_5 : decode cX5_empty 5 = .ok (.astore_n 3, 1) := by decide +kernel
theorem dX5_empty_6 : decode cX5_empty 6 = .ok (.aload_n 3, 1) := by decide +kernel
theorem dX5_empty_7 : decode cX5_empty 7 = .ok (.invokevirtual 124, 3) := by decide +kernel
theorem dX5_empty_10 : decode cX5_empty 10 = .ok (.ifCond .ne 17, 3) := by decide +kernel
theorem dX5_empty_13 : decode cX5_empty 13 = .ok (.aload_n 3, 1) := by decide +kernel
theorem dX5_empty_14 : decode cX5_empty 14 = .ok (.getfield 127, 3) := by decide +kernel
theorem dX5_empty_17 : decode cX5_empty 17 = .ok (.aload_n 0, 1) := by decide +kernel
theorem dX5_empty_18 : decode cX5_empty 18 = .ok (.getfield 34, 3) := by decide +kernel
theorem dX5_empty_21 : decode cX5_empty 21 = .ok (.invokevirtual 131, 3) := by decide +kernel
theorem dX5_empty_24 : decode cX5_empty 24 = .ok (.ifCond .ne 5, 3) := by decide +kernel
theorem dX5_empty_27 : decode cX5_empty 27 = .ok (.iconst 0, 1) := by decide +kernel
theorem dX5_empty_28 : decode cX5_empty 28 = .ok (.ireturn, 1) := by decide +kernel
theorem dX5_empty_29 : decode cX5_empty 29 = .ok (.iload_n 2, 1) := by decide +kernel
theorem dX5_empty_30 : decode cX5_empty 30 = .ok (.invokestatic 57, 3) := by decide +kernel
theorem dX5_empty_33 : decode cX5_empty 33 = .ok (.ifCond .eq 11, 3) := by decide +kernel
theorem dX5_empty_36 : decode cX5_empty 36 = .ok (.iload_n 2, 1) := by decide +kernel
theorem dX5_empty_37 : decode cX5_empty 37 = .ok (.aload_n 0, 1) := by decide +kernel
theorem dX5_empty_38 : decode cX5_empty 38 = .ok (.getfield 34, 3) := by decide +kernel
theorem dX5_empty_41 : decode cX5_empty 41 = .ok (.if_icmp .ge 5, 3) := by decide +kernel
theorem dX5_empty_44 : decode cX5_empty 44 = .ok (.iconst 0, 1) := by decide +kernel
theorem dX5_empty_45 : decode cX5_empty 45 = .ok (.ireturn, 1) := by decide +kernel
theorem dX5_empty_46 : decode cX5_empty 46 = .ok (.aload_n 3, 1) := by decide +kernel
theorem dX5_empty_47 : decode cX5_empty 47 = .ok (.aload_n 3, 1) := by decide +kernel
theorem dX5_empty_48 : decode cX5_empty 48 = .ok (.getfield 127, 3) := by decide +kernel
theorem dX5_empty_51 : decode cX5_empty 51 = .ok (.iload_n 2, 1) := by decide +kernel
theorem dX5_empty_52 : decode cX5_empty 52 = .ok (.sipush 1439, 3) := by decide +kernel
theorem dX5_empty_55 : decode cX5_empty 55 = .ok (.invokevirtual 134, 3) := by decide +kernel
theorem dX5_empty_58 : decode cX5_empty 58 = .ok (.putfield 138, 3) := by decide +kernel
theorem dX5_empty_61 : decode cX5_empty 61 = .ok (.iconst 1, 1) := by decide +kernel
theorem dX5_empty_62 : decode cX5_empty 62 = .ok (.ireturn, 1) := by decide +kernel
theorem dX5_of_0 : decode cX5_of 0 = .ok (.aload_n 0, 1) := by decide +kernel
theorem dX5_of_1 : decode cX5_of 1 = .ok (.iload_n 1, 1) := by decide +kernel
theorem dX5_of_2 : decode cX5_of 2 = .ok (.invokevirtual 120, 3) := by decide +kernel
theorem dX5_of_5 : decode cX5_of 5 = .ok (.astore_n 3, 1) := by decide +kernel
theorem dX5_of_6 : decode cX5_of 6 = .ok (.aload_n 3, 1) := by decide +kernel
theorem dX5_of_7 : decode cX5_of 7 = .ok (.invokevirtual 92, 3) := by decide +kernel
theorem dX5_of_10 : decode cX5_of 10 = .ok (.astore 4, 2) := by decide +kernel
theorem dX5_of_12 : decode cX5_of 12 = .ok (.iload_n 2, 1) := by decide +kernel
theorem dX5_of_13 : decode cX5_of 13 = .ok (.tableswitch 97 0 6 #[43, 49, 55, 68, 77, 83, 89], 43) := by decide +kernel
theorem dX5_of_56 : decode cX5_of 56 = .ok (.aload 4, 2) := by decide +kernel
theorem dX5_of_58 : decode cX5_of 58 = .ok (.getfield 141, 3) := by decide +kernel
theorem dX5_of_61 : decode cX5_of 61 = .ok (.ireturn, 1) := by decide +kernel
theorem dX5_of_62 : decode cX5_of 62 = .ok (.aload 4, 2) := by decide +kernel
theorem dX5_of_64 : decode cX5_of 64 = .ok (.invokevirtual 144, 3) := by decide +kernel
theorem dX5_of_67 : decode cX5_of 67 = .ok (.ireturn, 1) := by decide +kernel
theorem dX5_of_68 : decode cX5_of 68 = .ok (.aload 4, 2) := by decide +kernel
theorem dX5_of_70 : decode cX5_of 70 = .ok (.aload_n 0, 1) := by decide +kernel
theorem dX5_of_71 : decode cX5_of 71 = .ok (.getfield 34, 3) := by decide +kernel
theorem dX5_of_74 : decode cX5_of 74 = .ok (.invokevirtual 147, 3) := by decide +kernel
theorem dX5_of_77 : decode cX5_of 77 = .ok (.invokestatic 150, 3) := by decide +kernel
theorem dX5_of_80 : decode cX5_of 80 = .ok (.ireturn, 1) := by decide +kernel
theorem dX5_of_81 : decode cX5_of 81 = .ok (.aload 4, 2) := by decide +kernel
theorem dX5_of_83 : decode cX5_of 83 = .ok (.invokevirtual 154, 3) := by decide +kernel
theorem dX5_of_86 : decode cX5_of 86 = .ok (.invokestatic 150, 3) := by decide +kernel
theorem dX5_of_89 : decode cX5_of 89 = .ok (.ireturn, 1) := by decide +kernel
theorem dX5_of_90 : decode cX5_of 90 = .ok (.aload 4, 2) := by decide +kernel
theorem dX5_of_92 : decode cX5_of 92 = .ok (.getfield 157, 3) := by decide +kernel
theorem dX5_of_95 : decode cX5_of 95 = .ok (.ireturn, 1) := by decide +kernel
theorem dX5_of_96 : decode cX5_of 96 = .ok (.aload 4, 2) := by decide +kernel
theorem dX5_of_98 : decode cX5_of 98 = .ok (.getfield 160, 3) := by decide +kernel
theorem dX5_of_101 : decode cX5_of 101 = .ok (.ireturn, 1) := by decide +kernel
theorem dX5_of_102 : decode cX5_of 102 = .ok (.aload_n 3, 1) := by decide +kernel
theorem dX5_of_103 : decode cX5_of 103 = .ok (.invokevirtual 124, 3) := by decide +kernel
theorem dX5_of_106 : decode cX5_of 106 = .ok (.invokestatic 150, 3) := by decide +kernel
theorem dX5_of_109 : decode cX5_of 109 = .ok (.ireturn, 1) := by decide +kernel
theorem dX5_of_110 : decode cX5_of 110 = .ok (.new 163, 3) := by decide +kernel
theorem dX5_of_113 : decode cX5_of 113 = .ok (.dup, 1) := by decide +kernel
theorem dX5_of_114 : decode cX5_of 114 = .ok (.ldc 165, 2) := by decide +kernel
theorem dX5_of_116 : decode cX5_of 116 = .ok (.invokespecial 167, 3) := by decide +kernel
theorem dX5_of_119 : decode cX5_of 119 = .ok (.athrow, 1) := by decide +kernel
theorem dX5_leg_0 : decode cX5_leg 0 = .ok (.aload_n 0, 1) := by decide +kernel
theorem dX5_leg_1 : decode cX5_leg 1 = .ok (.iload_n 1, 1) := by decide +kernel
theorem dX5_leg_2 : decode cX5_leg 2 = .ok (.invokevirtual 120, 3) := by decide +kernel
theorem dX5_leg_5 : decode cX5_leg 5 = .ok (.astore 4, 2) := by decide +kernel
theorem dX5_leg_7 : decode cX5_leg 7 = .ok (.iload_n 3, 1) := by decide +kernel
theorem dX5_leg_8 : decode cX5_leg 8 = .ok (.ifCond .lt 21, 3) := by decide +kernel
theorem dX5_leg_11 : decode cX5_leg 11 = .ok (.iload_n 3, 1) := by decide +kernel
theorem dX5_leg_12 : decode cX5_leg 12 = .ok (.iconst 3, 1) := by decide +kernel
theorem dX5_leg_13 : decode cX5_leg 13 = .ok (.if_icmp .ge 16, 3) := by decide +kernel
theorem dX5_leg_16 : decode cX5_leg 16 = .ok (.iload_n 2, 1) := by decide +kernel
theorem dX5_leg_17 : decode cX5_leg 17 = .ok (.ifCond .lt 12, 3) := by decide +kernel
theorem dX5_leg_20 : decode cX5_leg 20 = .ok (.iload_n 2, 1) := by decide +kernel
theorem dX5_leg_21 : decode cX5_leg 21 = .ok (.aload 4, 2) := by decide +kernel
theorem dX5_leg_23 : decode cX5_leg 23 = .ok (.invokevirtual 168, 3) := by decide +kernel
theorem dX5_leg_26 : decode cX5_leg 26 = .ok (.if_icmp .lt 13, 3) := by decide +kernel
theorem dX5_leg_29 : decode cX5_leg 29 = .ok (.new 163, 3) := by decide +kernel
theorem dX5_leg_32 : decode cX5_leg 32 = .ok (.dup, 1) := by decide +kernel
theorem dX5_leg_33 : decode cX5_leg 33 = .ok (.ldc 171, 2) := by decide +kernel
theorem dX5_leg_35 : decode cX5_leg 35 = .ok (.invokespecial 167, 3) := by decide +kernel
theorem dX5_leg_38 : decode cX5_leg 38 = .ok (.athrow, 1) := by decide +kernel
theorem dX5_leg_39 : decode cX5_leg 39 = .ok (.aload 4, 2) := by decide +kernel
theorem dX5_leg_41 : decode cX5_leg 41 = .ok (.iload_n 2, 1) := by decide +kernel
theorem dX5_leg_42 : decode cX5_leg 42 = .ok (.iload_n 3, 1) := by decide +kernel
theorem dX5_leg_43 : decode cX5_leg 43 = .ok (.invokevirtual 173, 3) := by decide +kernel
theorem dX5_leg_46 : decode cX5_leg 46 = .ok (.ireturn, 1) := by decide +kernel
theorem dX5_load_0 : decode cX5_load 0 = .ok (.aload_n 0, 1) := by decide +kernel
theorem dX5_load_1 : decode cX5_load 1 = .ok (.iload_n 1, 1) := by decide +kernel
theorem dX5_load_2 : decode cX5_load 2 = .ok (.invokevirtual 49, 3) := by decide +kernel
theorem dX5_load_5 : decode cX5_load 5 = .ok (.astore_n 3, 1) := by decide +kernel
theorem dX5_load_6 : decode cX5_load 6 = .ok (.iload_n 2, 1) := by decide +kernel
theorem dX5_load_7 : decode cX5_load 7 = .ok (.ifCond .lt 13, 3) := by decide +kernel
theorem dX5_load_10 : decode cX5_load 10 = .ok (.iload_n 2, 1) := by decide +kernel
theorem dX5_load_11 : decode cX5_load 11 = .ok (.aload_n 3, 1) := by decide +kernel
theorem dX5_load_12 : decode cX5_load 12 = .ok (.getfield 176, 3) := by decide +kernel
theorem dX5_load_15 : decode cX5_load 15 = .ok (.iconst 1, 1) := by decide +kernel
theorem dX5_load_16 : decode cX5_load 16 = .ok (.isub, 1) := by decide +kernel
theorem dX5_load_17 : decode cX5_load 17 = .ok (.if_icmp .lt 13, 3) := by decide +kernel
theorem dX5_load_20 : decode cX5_load 20 = .ok (.new 163, 3) := by decide +kernel
theorem dX5_load_23 : decode cX5_load 23 = .ok (.dup, 1) := by decide +kernel
theorem dX5_load_24 : decode cX5_load 24 = .ok (.ldc 179, 2) := by decide +kernel
theorem dX5_load_26 : decode cX5_load 26 = .ok (.invokespecial 167, 3) := by decide +kernel
theorem dX5_load_29 : decode cX5_load 29 = .ok (.athrow, 1) := by decide +kernel
theorem dX5_load_30 : decode cX5_load 30 = .ok (.aload_n 3, 1) := by decide +kernel
theorem dX5_load_31 : decode cX5_load 31 = .ok (.getfield 181, 3) := by decide +kernel
theorem dX5_load_34 : decode cX5_load 34 = .ok (.iload_n 2, 1) := by decide +kernel
theorem dX5_load_35 : decode cX5_load 35 = .ok (.iaload, 1) := by decide +kernel
theorem dX5_load_36 : decode cX5_load 36 = .ok (.ireturn, 1) := by decide +kernel
theorem dX5_where_0 : decode cX5_where 0 = .ok (.aload_n 0, 1) := by decide +kernel
theorem dX5_where_1 : decode cX5_where 1 = .ok (.iload_n 1, 1) := by decide +kernel
theorem dX5_where_2 : decode cX5_where 2 = .ok (.invokevirtual 120, 3) := by decide +kernel
theorem dX5_where_5 : decode cX5_where 5 = .ok (.invokevirtual 92, 3) := by decide +kernel
theorem dX5_where_8 : decode cX5_where 8 = .ok (.astore_n 2, 1) := by decide +kernel
theorem dX5_where_9 : decode cX5_where 9 = .ok (.aload_n 2, 1) := by decide +kernel
theorem dX5_where_10 : decode cX5_where 10 = .ok (.aload_n 0, 1) := by decide +kernel
theorem dX5_where_11 : decode cX5_where 11 = .ok (.getfield 34, 3) := by decide +kernel
theorem dX5_where_14 : decode cX5_where 14 = .ok (.invokevirtual 147, 3) := by decide +kernel
theorem dX5_where_17 : decode cX5_where 17 = .ok (.ifCond .ne 5, 3) := by decide +kernel
theorem dX5_where_20 : decode cX5_where 20 = .ok (.iconst 0, 1) := by decide +kernel
theorem dX5_where_21 : decode cX5_where 21 = .ok (.ireturn, 1) := by decide +kernel
theorem dX5_where_22 : decode cX5_where 22 = .ok (.aload_n 2, 1) := by decide +kernel
theorem dX5_where_23 : decode cX5_where 23 = .ok (.aload_n 0, 1) := by decide +kernel
theorem dX5_where_24 : decode cX5_where 24 = .ok (.getfield 34, 3) := by decide +kernel
theorem dX5_where_27 : decode cX5_where 27 = .ok (.invokevirtual 131, 3) := by decide +kernel
theorem dX5_where_30 : decode cX5_where 30 = .ok (.ifCond .eq 5, 3) := by decide +kernel
theorem dX5_where_33 : decode cX5_where 33 = .ok (.iconst 4, 1) := by decide +kernel
theorem dX5_where_34 : decode cX5_where 34 = .ok (.ireturn, 1) := by decide +kernel
theorem dX5_where_35 : decode cX5_where 35 = .ok (.aload_n 2, 1) := by decide +kernel
theorem dX5_where_36 : decode cX5_where 36 = .ok (.aload_n 0, 1) := by decide +kernel
theorem dX5_where_37 : decode cX5_where 37 = .ok (.getfield 34, 3) := by decide +kernel
theorem dX5_where_40 : decode cX5_where 40 = .ok (.invokevirtual 184, 3) := by decide +kernel
theorem dX5_where_43 : decode cX5_where 43 = .ok (.ifCond .eq 5, 3) := by decide +kernel
theorem dX5_where_46 : decode cX5_where 46 = .ok (.iconst 3, 1) := by decide +kernel
theorem dX5_where_47 : decode cX5_where 47 = .ok (.ireturn, 1) := by decide +kernel
theorem dX5_where_48 : decode cX5_where 48 = .ok (.aload_n 0, 1) := by decide +kernel
theorem dX5_where_49 : decode cX5_where 49 = .ok (.getfield 10, 3) := by decide +kernel
theorem dX5_where_52 : decode cX5_where 52 = .ok (.aload_n 2, 1) := by decide +kernel
theorem dX5_where_53 : decode cX5_where 53 = .ok (.aload_n 0, 1) := by decide +kernel
theorem dX5_where_54 : decode cX5_where 54 = .ok (.getfield 34, 3) := by decide +kernel
theorem dX5_where_57 : decode cX5_where 57 = .ok (.invokevirtual 187, 3) := by decide +kernel
theorem dX5_where_60 : decode cX5_where 60 = .ok (.ifCond .eq 7, 3) := by decide +kernel
theorem dX5_where_63 : decode cX5_where 63 = .ok (.iconst 2, 1) := by decide +kernel
theorem dX5_where_64 : decode cX5_where 64 = .ok (.goto 4, 3) := by decide +kernel
theorem dX5_where_67 : decode cX5_where 67 = .ok (.iconst 1, 1) := by decide +kernel
theorem dX5_where_68 : decode cX5_where 68 = .ok (.ireturn, 1) := by decide +kernel
theorem dX5_mark_0 : decode cX5_mark 0 = .ok (.aload_n 0, 1) := by decide +kernel
theorem dX5_mark_1 : decode cX5_mark 1 = .ok (.iload_n 1, 1) := by decide +kernel
theorem dX5_mark_2 : decode cX5_mark 2 = .ok (.invokevirtual 120, 3) := by decide +kernel
theorem dX5_mark_5 : decode cX5_mark 5 = .ok (.pop, 1) := by decide +kernel
theorem dX5_mark_6 : decode cX5_mark 6 = .ok (.aload_n 0, 1) := by decide +kernel
theorem dX5_mark_7 : decode cX5_mark 7 = .ok (.invokevirtual 191, 3) := by decide +kernel
theorem dX5_mark_10 : decode cX5_mark 10 = .ok (.pop, 1) := by decide +kernel
theorem dX5_mark_11 : decode cX5_mark 11 = .ok (.aload_n 0, 1) := by decide +kernel
theorem dX5_mark_12 : decode cX5_mark 12 = .ok (.getfield 30, 3) := by decide +kernel
theorem dX5_mark_15 : decode cX5_mark 15 = .ok (.iload_n 1, 1) := by decide +kernel
theorem dX5_mark_16 : decode cX5_mark 16 = .ok (.iaload, 1) := by decide +kernel
theorem dX5_mark_17 : decode cX5_mark 17 = .ok (.ireturn, 1) := by decide +kernel
theorem dX5_carrier_0 : decode cX5_carrier 0 = .ok (.iload_n 1, 1) := by decide +kernel
theorem dX5_carrier_1 : decode cX5_carrier 1 = .ok (.bipush 31, 2) := by decide +kernel
theorem dX5_carrier_3 : decode cX5_carrier 3 = .ok (.invokestatic 38, 3) := by decide +kernel
theorem dX5_carrier_6 : decode cX5_carrier 6 = .ok (.ifCond .eq 14, 3) := by decide +kernel
theorem dX5_carrier_9 : decode cX5_carrier 9 = .ok (.aload_n 0, 1) := by decide +kernel
theorem dX5_carrier_10 : decode cX5_carrier 10 = .ok (.getfield 26, 3) := by decide +kernel
theorem dX5_carrier_13 : decode cX5_carrier 13 = .ok (.iload_n 1, 1) := by decide +kernel
theorem dX5_carrier_14 : decode cX5_carrier 14 = .ok (.invokevirtual 194, 3) := by decide +kernel
theorem dX5_carrier_17 : decode cX5_carrier 17 = .ok (.goto 4, 3) := by decide +kernel
theorem dX5_carrier_20 : decode cX5_carrier 20 = .ok (.iconst (-1), 1) := by decide +kernel
theorem dX5_carrier_21 : decode cX5_carrier 21 = .ok (.ireturn, 1) := by decide +kernel
theorem dX5_share_0 : decode cX5_share 0 = .ok (.iload_n 1, 1) := by decide +kernel
theorem dX5_share_1 : decode cX5_share 1 = .ok (.ifCond .lt 14, 3) := by decide +kernel
theorem dX5_share_4 : decode cX5_share 4 = .ok (.iload_n 1, 1) := by decide +kernel
theorem dX5_share_5 : decode cX5_share 5 = .ok (.aload_n 0, 1) := by decide +kernel
theorem dX5_share_6 : decode cX5_share 6 = .ok (.getfield 26, 3) := by decide +kernel
theorem dX5_share_9 : decode cX5_share 9 = .ok (.getfield 197, 3) := by decide +kernel
theorem dX5_share_12 : decode cX5_share 12 = .ok (.if_icmp .lt 13, 3) := by decide +kernel
theorem dX5_share_15 : decode cX5_share 15 = .ok (.new 163, 3) := by decide +kernel
theorem dX5_share_18 : decode cX5_share 18 = .ok (.dup, 1) := by decide +kernel
theorem dX5_share_19 : decode cX5_share 19 = .ok (.ldc 200, 2) := by decide +kernel
theorem dX5_share_21 : decode cX5_share 21 = .ok (.invokespecial 167, 3) := by decide +kernel
theorem dX5_share_24 : decode cX5_share 24 = .ok (.athrow, 1) := by decide +kernel
theorem dX5_share_25 : decode cX5_share 25 = .ok (.iload_n 2, 1) := by decide +kernel
theorem dX5_share_26 : decode cX5_share 26 = .ok (.ldc 202, 2) := by decide +kernel
theorem dX5_share_28 : decode cX5_share 28 = .ok (.invokestatic 38, 3) := by decide +kernel
theorem dX5_share_31 : decode cX5_share 31 = .ok (.ifCond .ne 13, 3) := by decide +kernel
theorem dX5_share_34 : decode cX5_share 34 = .ok (.new 100, 3) := by decide +kernel
theorem dX5_share_37 : decode cX5_share 37 = .ok (.dup, 1) := by decide +kernel
theorem dX5_share_38 : decode cX5_share 38 = .ok (.ldc 203, 2) := by decide +kernel
theorem dX5_share_40 : decode cX5_share 40 = .ok (.invokespecial 104, 3) := by decide +kernel
theorem dX5_share_43 : decode cX5_share 43 = .ok (.athrow, 1) := by decide +kernel
theorem dX5_share_44 : decode cX5_share 44 = .ok (.aload_n 0, 1) := by decide +kernel
theorem dX5_share_45 : decode cX5_share 45 = .ok (.getfield 26, 3) := by decide +kernel
theorem dX5_share_48 : decode cX5_share 48 = .ok (.iload_n 1, 1) := by decide +kernel
theorem dX5_share_49 : decode cX5_share 49 = .ok (.iload_n 2, 1) := by decide +kernel
theorem dX5_share_50 : decode cX5_share 50 = .ok (.invokevirtual 205, 3) := by decide +kernel
theorem dX5_share_53 : decode cX5_share 53 = .ok (.ireturn, 1) := by decide +kernel
theorem dX5_count_0 : decode cX5_count 0 = .ok (.iload_n 1, 1) := by decide +kernel
theorem dX5_count_1 : decode cX5_count 1 = .ok (.tableswitch 102 0 7 #[47, 55, 66, 74, 79, 84, 89, 94], 47) := by decide +kernel
theorem dX5_count_48 : decode cX5_count 48 = .ok (.aload_n 0, 1) := by decide +kernel
theorem dX5_count_49 : decode cX5_count 49 = .ok (.getfield 10, 3) := by decide +kernel
theorem dX5_count_52 : decode cX5_count 52 = .ok (.getfield 208, 3) := by decide +kernel
theorem dX5_count_55 : decode cX5_count 55 = .ok (.ireturn, 1) := by decide +kernel
theorem dX5_count_56 : decode cX5_count 56 = .ok (.aload_n 0, 1) := by decide +kernel
theorem dX5_count_57 : decode cX5_count 57 = .ok (.getfield 10, 3) := by decide +kernel
theorem dX5_count_60 : decode cX5_count 60 = .ok (.getfield 211, 3) := by decide +kernel
theorem dX5_count_63 : decode cX5_count 63 = .ok (.invokevirtual 70, 3) := by decide +kernel
theorem dX5_count_66 : decode cX5_count 66 = .ok (.ireturn, 1) := by decide +kernel
theorem dX5_count_67 : decode cX5_count 67 = .ok (.aload_n 0, 1) := by decide +kernel
theorem dX5_count_68 : decode cX5_count 68 = .ok (.getfield 19, 3) := by decide +kernel
theorem dX5_count_71 : decode cX5_count 71 = .ok (.invokevirtual 70, 3) := by decide +kernel
theorem dX5_count_74 : decode cX5_count 74 = .ok (.ireturn, 1) := by decide +kernel
theorem dX5_count_75 : decode cX5_count 75 = .ok (.aload_n 0, 1) := by decide +kernel
theorem dX5_count_76 : decode cX5_count 76 = .ok (.getfield 34, 3) := by decide +kernel
theorem dX5_count_79 : decode cX5_count 79 = .ok (.ireturn, 1) := by decide +kernel
theorem dX5_count_80 : decode cX5_count 80 = .ok (.aload_n 0, 1) := by decide +kernel
theorem dX5_count_81 : decode cX5_count 81 = .ok (.invokevirtual 214, 3) := by decide +kernel
theorem dX5_count_84 : decode cX5_count 84 = .ok (.ireturn, 1) := by decide +kernel
theorem dX5_count_85 : decode cX5_count 85 = .ok (.aload_n 0, 1) := by decide +kernel
theorem dX5_count_86 : decode cX5_count 86 = .ok (.invokevirtual 217, 3) := by decide +kernel
theorem dX5_count_89 : decode cX5_count 89 = .ok (.ireturn, 1) := by decide +kernel
theorem dX5_count_90 : decode cX5_count 90 = .ok (.aload_n 0, 1) := by decide +kernel
theorem dX5_count_91 : decode cX5_count 91 = .ok (.invokevirtual 191, 3) := by decide +kernel
theorem dX5_count_94 : decode cX5_count 94 = .ok (.ireturn, 1) := by decide +kernel
theorem dX5_count_95 : decode cX5_count 95 = .ok (.aload_n 0, 1) := by decide +kernel
theorem dX5_count_96 : decode cX5_count 96 = .ok (.getfield 26, 3) := by decide +kernel
theorem dX5_count_99 : decode cX5_count 99 = .ok (.getfield 197, 3) := by decide +kernel
theorem dX5_count_102 : decode cX5_count 102 = .ok (.ireturn, 1) := by decide +kernel
theorem dX5_count_103 : decode cX5_count 103 = .ok (.new 163, 3) := by decide +kernel
theorem dX5_count_106 : decode cX5_count 106 = .ok (.dup, 1) := by decide +kernel
theorem dX5_count_107 : decode cX5_count 107 = .ok (.ldc 220, 2) := by decide +kernel
theorem dX5_count_109 : decode cX5_count 109 = .ok (.invokespecial 167, 3) := by decide +kernel
theorem dX5_count_112 : decode cX5_count 112 = .ok (.athrow, 1) := by decide +kernel
theorem dX5_isWithin_0 : decode cX5_isWithin 0 = .ok (.iload_n 0, 1) := by decide +kernel
theorem dX5_isWithin_1 : decode cX5_isWithin 1 = .ok (.ifCond .lt 12, 3) := by decide +kernel
theorem dX5_isWithin_4 : decode cX5_isWithin 4 = .ok (.iload_n 0, 1) := by decide +kernel
theorem dX5_isWithin_5 : decode cX5_isWithin 5 = .ok (.iload_n 1, 1) := by decide +kernel
theorem dX5_isWithin_6 : decode cX5_isWithin 6 = .ok (.if_icmp .gt 7, 3) := by decide +kernel
theorem dX5_isWithin_9 : decode cX5_isWithin 9 = .ok (.iconst 1, 1) := by decide +kernel
theorem dX5_isWithin_10 : decode cX5_isWithin 10 = .ok (.goto 4, 3) := by decide +kernel
theorem dX5_isWithin_13 : decode cX5_isWithin 13 = .ok (.iconst 0, 1) := by decide +kernel
theorem dX5_isWithin_14 : decode cX5_isWithin 14 = .ok (.ireturn, 1) := by decide +kernel
theorem dX5_isMinute_0 : decode cX5_isMinute 0 = .ok (.iload_n 0, 1) := by decide +kernel
theorem dX5_isMinute_1 : decode cX5_isMinute 1 = .ok (.sipush 1439, 3) := by decide +kernel
theorem dX5_isMinute_4 : decode cX5_isMinute 4 = .ok (.invokestatic 38, 3) := by decide +kernel
theorem dX5_isMinute_7 : decode cX5_isMinute 7 = .ok (.ireturn, 1) := by decide +kernel
theorem dX5_asNumber_0 : decode cX5_asNumber 0 = .ok (.iload_n 0, 1) := by decide +kernel
theorem dX5_asNumber_1 : decode cX5_asNumber 1 = .ok (.ifCond .eq 7, 3) := by decide +kernel
theorem dX5_asNumber_4 : decode cX5_asNumber 4 = .ok (.iconst 1, 1) := by decide +kernel
theorem dX5_asNumber_5 : decode cX5_asNumber 5 = .ok (.goto 4, 3) := by decide +kernel
theorem dX5_asNumber_8 : decode cX5_asNumber 8 = .ok (.iconst 0, 1) := by decide +kernel
theorem dX5_asNumber_9 : decode cX5_asNumber 9 = .ok (.ireturn, 1) := by decide +kernel
theorem dX5_trainOf_0 : decode cX5_trainOf 0 = .ok (.iload_n 1, 1) := by decide +kernel
theorem dX5_trainOf_1 : decode cX5_trainOf 1 = .ok (.ifCond .lt 17, 3) := by decide +kernel
theorem dX5_trainOf_4 : decode cX5_trainOf 4 = .ok (.iload_n 1, 1) := by decide +kernel
theorem dX5_trainOf_5 : decode cX5_trainOf 5 = .ok (.aload_n 0, 1) := by decide +kernel
theorem dX5_trainOf_6 : decode cX5_trainOf 6 = .ok (.getfield 10, 3) := by decide +kernel
theorem dX5_trainOf_9 : decode cX5_trainOf 9 = .ok (.getfield 211, 3) := by decide +kernel
theorem dX5_trainOf_12 : decode cX5_trainOf 12 = .ok (.invokevirtual 70, 3) := by decide +kernel
theorem dX5_trainOf_15 : decode cX5_trainOf 15 = .ok (.if_icmp .lt 13, 3) := by decide +kernel
theorem dX5_trainOf_18 : decode cX5_trainOf 18 = .ok (.new 163, 3) := by decide +kernel
theorem dX5_trainOf_21 : decode cX5_trainOf 21 = .ok (.dup, 1) := by decide +kernel
theorem dX5_trainOf_22 : decode cX5_trainOf 22 = .ok (.ldc 222, 2) := by decide +kernel
theorem dX5_trainOf_24 : decode cX5_trainOf 24 = .ok (.invokespecial 167, 3) := by decide +kernel
theorem dX5_trainOf_27 : decode cX5_trainOf 27 = .ok (.athrow, 1) := by decide +kernel
theorem dX5_trainOf_28 : decode cX5_trainOf 28 = .ok (.aload_n 0, 1) := by decide +kernel
theorem dX5_trainOf_29 : decode cX5_trainOf 29 = .ok (.getfield 10, 3) := by decide +kernel
theorem dX5_trainOf_32 : decode cX5_trainOf 32 = .ok (.getfield 211, 3) := by decide +kernel
theorem dX5_trainOf_35 : decode cX5_trainOf 35 = .ok (.iload_n 1, 1) := by decide +kernel
theorem dX5_trainOf_36 : decode cX5_trainOf 36 = .ok (.invokevirtual 88, 3) := by decide +kernel
theorem dX5_trainOf_39 : decode cX5_trainOf 39 = .ok (.checkcast 61, 3) := by decide +kernel
theorem dX5_trainOf_42 : decode cX5_trainOf 42 = .ok (.areturn, 1) := by decide +kernel
theorem dX5_boxOf_0 : decode cX5_boxOf 0 = .ok (.iload_n 1, 1) := by decide +kernel
theorem dX5_boxOf_1 : decode cX5_boxOf 1 = .ok (.ifCond .lt 14, 3) := by decide +kernel
theorem dX5_boxOf_4 : decode cX5_boxOf 4 = .ok (.iload_n 1, 1) := by decide +kernel
theorem dX5_boxOf_5 : decode cX5_boxOf 5 = .ok (.aload_n 0, 1) := by decide +kernel
theorem dX5_boxOf_6 : decode cX5_boxOf 6 = .ok (.getfield 19, 3) := by decide +kernel
theorem dX5_boxOf_9 : decode cX5_boxOf 9 = .ok (.invokevirtual 70, 3) := by decide +kernel
theorem dX5_boxOf_12 : decode cX5_boxOf 12 = .ok (.if_icmp .lt 13, 3) := by decide +kernel
theorem dX5_boxOf_15 : decode cX5_boxOf 15 = .ok (.new 163, 3) := by decide +kernel
theorem dX5_boxOf_18 : decode cX5_boxOf 18 = .ok (.dup, 1) := by decide +kernel
theorem dX5_boxOf_19 : decode cX5_boxOf 19 = .ok (.ldc 224, 2) := by decide +kernel
theorem dX5_boxOf_21 : decode cX5_boxOf 21 = .ok (.invokespecial 167, 3) := by decide +kernel
theorem dX5_boxOf_24 : decode cX5_boxOf 24 = .ok (.athrow, 1) := by decide +kernel
theorem dX5_boxOf_25 : decode cX5_boxOf 25 = .ok (.aload_n 0, 1) := by decide +kernel
theorem dX5_boxOf_26 : decode cX5_boxOf 26 = .ok (.getfield 19, 3) := by decide +kernel
theorem dX5_boxOf_29 : decode cX5_boxOf 29 = .ok (.iload_n 1, 1) := by decide +kernel
theorem dX5_boxOf_30 : decode cX5_boxOf 30 = .ok (.invokevirtual 88, 3) := by decide +kernel
theorem dX5_boxOf_33 : decode cX5_boxOf 33 = .ok (.checkcast 74, 3) := by decide +kernel
theorem dX5_boxOf_36 : decode cX5_boxOf 36 = .ok (.areturn, 1) := by decide +kernel
theorem dX5_leadByPlan_0 : decode cX5_leadByPlan 0 = .ok (.aload_n 1, 1) := by decide +kernel
theorem dX5_leadByPlan_1 : decode cX5_leadByPlan 1 = .ok (.invokevirtual 226, 3) := by decide +kernel
theorem dX5_leadByPlan_4 : decode cX5_leadByPlan 4 = .ok (.ifCond .eq 27, 3) := by decide +kernel
theorem dX5_leadByPlan_7 : decode cX5_leadByPlan 7 = .ok (.aload_n 0, 1) := by decide +kernel
theorem dX5_leadByPlan_8 : decode cX5_leadByPlan 8 = .ok (.getfield 10, 3) := by decide +kernel
theorem dX5_leadByPlan_11 : decode cX5_leadByPlan 11 = .ok (.aload_n 1, 1) := by decide +kernel
theorem dX5_leadByPlan_12 : decode cX5_leadByPlan 12 = .ok (.aload_n 1, 1) := by decide +kernel
theorem dX5_leadByPlan_13 : decode cX5_leadByPlan 13 = .ok (.getfield 157, 3) := by decide +kernel
theorem dX5_leadByPlan_16 : decode cX5_leadByPlan 16 = .ok (.aload_n 1, 1) := by decide +kernel
theorem dX5_leadByPlan_17 : decode cX5_leadByPlan 17 = .ok (.getfield 160, 3) := by decide +kernel
theorem dX5_leadByPlan_20 : decode cX5_leadByPlan 20 = .ok (.aload_n 0, 1) := by decide +kernel
theorem dX5_leadByPlan_21 : decode cX5_leadByPlan 21 = .ok (.getfield 34, 3) := by decide +kernel
theorem dX5_leadByPlan_24 : decode cX5_leadByPlan 24 = .ok (.invokestatic 229, 3) := by decide +kernel
theorem dX5_leadByPlan_27 : decode cX5_leadByPlan 27 = .ok (.invokevirtual 234, 3) := by decide +kernel
theorem dX5_leadByPlan_30 : decode cX5_leadByPlan 30 = .ok (.ireturn, 1) := by decide +kernel
theorem dX5_leadByPlan_31 : decode cX5_leadByPlan 31 = .ok (.aload_n 1, 1) := by decide +kernel
theorem dX5_leadByPlan_32 : decode cX5_leadByPlan 32 = .ok (.getfield 238, 3) := by decide +kernel
theorem dX5_leadByPlan_35 : decode cX5_leadByPlan 35 = .ok (.ifCond .ne 14, 3) := by decide +kernel
theorem dX5_leadByPlan_38 : decode cX5_leadByPlan 38 = .ok (.aload_n 1, 1) := by decide +kernel
theorem dX5_leadByPlan_39 : decode cX5_leadByPlan 39 = .ok (.getfield 241, 3) := by decide +kernel
theorem dX5_leadByPlan_42 : decode cX5_leadByPlan 42 = .ok (.aload_n 0, 1) := by decide +kernel
theorem dX5_leadByPlan_43 : decode cX5_leadByPlan 43 = .ok (.getfield 34, 3) := by decide +kernel
theorem dX5_leadByPlan_46 : decode cX5_leadByPlan 46 = .ok (.if_icmp .ge 5, 3) := by decide +kernel
theorem dX5_leadByPlan_49 : decode cX5_leadByPlan 49 = .ok (.iconst 0, 1) := by decide +kernel
theorem dX5_leadByPlan_50 : decode cX5_leadByPlan 50 = .ok (.ireturn, 1) := by decide +kernel
theorem dX5_leadByPlan_51 : decode cX5_leadByPlan 51 = .ok (.aload_n 0, 1) := by decide +kernel
theorem dX5_leadByPlan_52 : decode cX5_leadByPlan 52 = .ok (.getfield 10, 3) := by decide +kernel
theorem dX5_leadByPlan_55 : decode cX5_leadByPlan 55 = .ok (.aload_n 1, 1) := by decide +kernel
theorem dX5_leadByPlan_56 : decode cX5_leadByPlan 56 = .ok (.aload_n 1, 1) := by decide +kernel
theorem dX5_leadByPlan_57 : decode cX5_leadByPlan 57 = .ok (.getfield 244, 3) := by decide +kernel
theorem dX5_leadByPlan_60 : decode cX5_leadByPlan 60 = .ok (.aload_n 0, 1) := by decide +kernel
theorem dX5_leadByPlan_61 : decode cX5_leadByPlan 61 = .ok (.getfield 10, 3) := by decide +kernel
theorem dX5_leadByPlan_64 : decode cX5_leadByPlan 64 = .ok (.aload_n 1, 1) := by decide +kernel
theorem dX5_leadByPlan_65 : decode cX5_leadByPlan 65 = .ok (.invokevirtual 247, 3) := by decide +kernel
theorem dX5_leadByPlan_68 : decode cX5_leadByPlan 68 = .ok (.invokevirtual 234, 3) := by decide +kernel
theorem dX5_leadByPlan_71 : decode cX5_leadByPlan 71 = .ok (.ireturn, 1) := by decide +kernel
theorem dX5_takeOffAll_0 : decode cX5_takeOffAll 0 = .ok (.iconst 0, 1) := by decide +kernel
theorem dX5_takeOffAll_1 : decode cX5_takeOffAll 1 = .ok (.istore_n 2, 1) := by decide +kernel
theorem dX5_takeOffAll_2 : decode cX5_takeOffAll 2 = .ok (.iconst 0, 1) := by decide +kernel
theorem dX5_takeOffAll_3 : decode cX5_takeOffAll 3 = .ok (.istore_n 3, 1) := by decide +kernel
theorem dX5_takeOffAll_4 : decode cX5_takeOffAll 4 = .ok (.iload_n 3, 1) := by decide +kernel
theorem dX5_takeOffAll_5 : decode cX5_takeOffAll 5 = .ok (.aload_n 0, 1) := by decide +kernel
theorem dX5_takeOffAll_6 : decode cX5_takeOffAll 6 = .ok (.getfield 19, 3) := by decide +kernel
theorem dX5_takeOffAll_9 : decode cX5_takeOffAll 9 = .ok (.invokevirtual 70, 3) := by decide +kernel
theorem dX5_takeOffAll_12 : decode cX5_takeOffAll 12 = .ok (.if_icmp .ge 75, 3) := by decide +kernel
theorem dX5_takeOffAll_15 : decode cX5_takeOffAll 15 = .ok (.aload_n 0, 1) := by decide +kernel
theorem dX5_takeOffAll_16 : decode cX5_takeOffAll 16 = .ok (.getfield 19, 3) := by decide +kernel
theorem dX5_takeOffAll_19 : decode cX5_takeOffAll 19 = .ok (.iload_n 3, 1) := by decide +kernel
theorem dX5_takeOffAll_20 : decode cX5_takeOffAll 20 = .ok (.invokevirtual 88, 3) := by decide +kernel
theorem dX5_takeOffAll_23 : decode cX5_takeOffAll 23 = .ok (.checkcast 74, 3) := by decide +kernel
theorem dX5_takeOffAll_26 : decode cX5_takeOffAll 26 = .ok (.invokevirtual 92, 3) := by decide +kernel
theorem dX5_takeOffAll_29 : decode cX5_takeOffAll 29 = .ok (.astore 4, 2) := by decide +kernel
theorem dX5_takeOffAll_31 : decode cX5_takeOffAll 31 = .ok (.aload 4, 2) := by decide +kernel
theorem dX5_takeOffAll_33 : decode cX5_takeOffAll 33 = .ok (.iload_n 1, 1) := by decide +kernel
theorem dX5_takeOffAll_34 : decode cX5_takeOffAll 34 = .ok (.invokevirtual 251, 3) := by decide +kernel
theorem dX5_takeOffAll_37 : decode cX5_takeOffAll 37 = .ok (.istore 5, 2) := by decide +kernel
theorem dX5_takeOffAll_39 : decode cX5_takeOffAll 39 = .ok (.aload 4, 2) := by decide +kernel
theorem dX5_takeOffAll_41 : decode cX5_takeOffAll 41 = .ok (.iload 5, 2) := by decide +kernel
theorem dX5_takeOffAll_43 : decode cX5_takeOffAll 43 = .ok (.iconst (-1), 1) := by decide +kernel
theorem dX5_takeOffAll_44 : decode cX5_takeOffAll 44 = .ok (.if_icmp .eq 7, 3) := by decide +kernel
theorem dX5_takeOffAll_47 : decode cX5_takeOffAll 47 = .ok (.iconst 1, 1) := by decide +kernel
theorem dX5_takeOffAll_48 : decode cX5_takeOffAll 48 = .ok (.goto 4, 3) := by decide +kernel
theorem dX5_takeOffAll_51 : decode cX5_takeOffAll 51 = .ok (.iconst 0, 1) := by decide +kernel
theorem dX5_takeOffAll_52 : decode cX5_takeOffAll 52 = .ok (.putfield 254, 3) := by decide +kernel
theorem dX5_takeOffAll_55 : decode cX5_takeOffAll 55 = .ok (.aload 4, 2) := by decide +kernel
theorem dX5_takeOffAll_57 : decode cX5_takeOffAll 57 = .ok (.getfield 254, 3) := by decide +kernel
theorem dX5_takeOffAll_60 : decode cX5_takeOffAll 60 = .ok (.ifCond .eq 21, 3) := by decide +kernel
theorem dX5_takeOffAll_63 : decode cX5_takeOffAll 63 = .ok (.aload_n 0, 1) := by decide +kernel
theorem dX5_takeOffAll_64 : decode cX5_takeOffAll 64 = .ok (.getfield 10, 3) := by decide +kernel
theorem dX5_takeOffAll_67 : decode cX5_takeOffAll 67 = .ok (.aload 4, 2) := by decide +kernel
theorem dX5_takeOffAll_69 : decode cX5_takeOffAll 69 = .ok (.iload 5, 2) := by decide +kernel
theorem dX5_takeOffAll_71 : decode cX5_takeOffAll 71 = .ok (.aload_n 0, 1) := by decide +kernel
theorem dX5_takeOffAll_72 : decode cX5_takeOffAll 72 = .ok (.getfield 34, 3) := by decide +kernel
theorem dX5_takeOffAll_75 : decode cX5_takeOffAll 75 = .ok (.invokevirtual 257, 3) := by decide +kernel
theorem dX5_takeOffAll_78 : decode cX5_takeOffAll 78 = .ok (.iinc 2 1, 3) := by decide +kernel
theorem dX5_takeOffAll_81 : decode cX5_takeOffAll 81 = .ok (.iinc 3 1, 3) := by decide +kernel
theorem dX5_takeOffAll_84 : decode cX5_takeOffAll 84 = .ok (.goto (-80), 3) := by decide +kernel
theorem dX5_takeOffAll_87 : decode cX5_takeOffAll 87 = .ok (.iload_n 2, 1) := by decide +kernel
theorem dX5_takeOffAll_88 : decode cX5_takeOffAll 88 = .ok (.ireturn, 1) := by decide +kernel
theorem dX5_leadAnew_0 : decode cX5_leadAnew 0 = .ok (.iconst 0, 1) := by decide +kernel
theorem dX5_leadAnew_1 : decode cX5_leadAnew 1 = .ok (.istore_n 1, 1) := by decide +kernel
theorem dX5_leadAnew_2 : decode cX5_leadAnew 2 = .ok (.iload_n 1, 1) := by decide +kernel
theorem dX5_leadAnew_3 : decode cX5_leadAnew 3 = .ok (.aload_n 0, 1) := by decide +kernel
theorem dX5_leadAnew_4 : decode cX5_leadAnew 4 = .ok (.getfield 19, 3) := by decide +kernel
theorem dX5_leadAnew_7 : decode cX5_leadAnew 7 = .ok (.invokevirtual 70, 3) := by decide +kernel
theorem dX5_leadAnew_10 : decode cX5_leadAnew 10 = .ok (.if_icmp .ge 48, 3) := by decide +kernel
theorem dX5_leadAnew_13 : decode cX5_leadAnew 13 = .ok (.aload_n 0, 1) := by decide +kernel
theorem dX5_leadAnew_14 : decode cX5_leadAnew 14 = .ok (.getfield 19, 3) := by decide +kernel
theorem dX5_leadAnew_17 : decode cX5_leadAnew 17 = .ok (.iload_n 1, 1) := by decide +kernel
theorem dX5_leadAnew_18 : decode cX5_leadAnew 18 = .ok (.invokevirtual 88, 3) := by decide +kernel
theorem dX5_leadAnew_21 : decode cX5_leadAnew 21 = .ok (.checkcast 74, 3) := by decide +kernel
theorem dX5_leadAnew_24 : decode cX5_leadAnew 24 = .ok (.invokevirtual 92, 3) := by decide +kernel
theorem dX5_leadAnew_27 : decode cX5_leadAnew 27 = .ok (.astore_n 2, 1) := by decide +kernel
theorem dX5_leadAnew_28 : decode cX5_leadAnew 28 = .ok (.aload_n 2, 1) := by decide +kernel
theorem dX5_leadAnew_29 : decode cX5_leadAnew 29 = .ok (.getfield 254, 3) := by decide +kernel
theorem dX5_leadAnew_32 : decode cX5_leadAnew 32 = .ok (.ifCond .eq 20, 3) := by decide +kernel
theorem dX5_leadAnew_35 : decode cX5_leadAnew 35 = .ok (.aload_n 0, 1) := by decide +kernel
theorem dX5_leadAnew_36 : decode cX5_leadAnew 36 = .ok (.getfield 10, 3) := by decide +kernel
theorem dX5_leadAnew_39 : decode cX5_leadAnew 39 = .ok (.aload_n 2, 1) := by decide +kernel
theorem dX5_leadAnew_40 : decode cX5_leadAnew 40 = .ok (.aload_n 2, 1) := by decide +kernel
theorem dX5_leadAnew_41 : decode cX5_leadAnew 41 = .ok (.getfield 157, 3) := by decide +kernel
theorem dX5_leadAnew_44 : decode cX5_leadAnew 44 = .ok (.aload_n 2, 1) := by decide +kernel
theorem dX5_leadAnew_45 : decode cX5_leadAnew 45 = .ok (.getfield 160, 3) := by decide +kernel
theorem dX5_leadAnew_48 : decode cX5_leadAnew 48 = .ok (.invokevirtual 234, 3) := by decide +kernel
theorem dX5_leadAnew_51 : decode cX5_leadAnew 51 = .ok (.pop, 1) := by decide +kernel
theorem dX5_leadAnew_52 : decode cX5_leadAnew 52 = .ok (.iinc 1 1, 3) := by decide +kernel
theorem dX5_leadAnew_55 : decode cX5_leadAnew 55 = .ok (.goto (-53), 3) := by decide +kernel
theorem dX5_leadAnew_58 : decode cX5_leadAnew 58 = .ok (.return_, 1) := by decide +kernel
theorem dX5_boxesWithWay_0 : decode cX5_boxesWithWay 0 = .ok (.iconst 0, 1) := by decide +kernel
theorem dX5_boxesWithWay_1 : decode cX5_boxesWithWay 1 = .ok (.istore_n 1, 1) := by decide +kernel
theorem dX5_boxesWithWay_2 : decode cX5_boxesWithWay 2 = .ok (.iconst 0, 1) := by decide +kernel
theorem dX5_boxesWithWay_3 : decode cX5_boxesWithWay 3 = .ok (.istore_n 2, 1) := by decide +kernel
theorem dX5_boxesWithWay_4 : decode cX5_boxesWithWay 4 = .ok (.iload_n 2, 1) := by decide +kernel
theorem dX5_boxesWithWay_5 : decode cX5_boxesWithWay 5 = .ok (.aload_n 0, 1) := by decide +kernel
theorem dX5_boxesWithWay_6 : decode cX5_boxesWithWay 6 = .ok (.getfield 19, 3) := by decide +kernel
theorem dX5_boxesWithWay_9 : decode cX5_boxesWithWay 9 = .ok (.invokevirtual 70, 3) := by decide +kernel
theorem dX5_boxesWithWay_12 : decode cX5_boxesWithWay 12 = .ok (.if_icmp .ge 32, 3) := by decide +kernel
theorem dX5_boxesWithWay_15 : decode cX5_boxesWithWay 15 = .ok (.aload_n 0, 1) := by decide +kernel
theorem dX5_boxesWithWay_16 : decode cX5_boxesWithWay 16 = .ok (.getfield 19, 3) := by decide +kernel
theorem dX5_boxesWithWay_19 : decode cX5_boxesWithWay 19 = .ok (.iload_n 2, 1) := by decide +kernel
theorem dX5_boxesWithWay_20 : decode cX5_boxesWithWay 20 = .ok (.invokevirtual 88, 3) := by decide +kernel
theorem dX5_boxesWithWay_23 : decode cX5_boxesWithWay 23 = .ok (.checkcast 74, 3) := by decide +kernel
theorem dX5_boxesWithWay_26 : decode cX5_boxesWithWay 26 = .ok (.invokevirtual 92, 3) := by decide +kernel
theorem dX5_boxesWithWay_29 : decode cX5_boxesWithWay 29 = .ok (.invokevirtual 261, 3) := by decide +kernel
theorem dX5_boxesWithWay_32 : decode cX5_boxesWithWay 32 = .ok (.ifCond .eq 6, 3) := by decide +kernel
theorem dX5_boxesWithWay_35 : decode cX5_boxesWithWay 35 = .ok (.iinc 1 1, 3) := by decide +kernel
theorem dX5_boxesWithWay_38 : decode cX5_boxesWithWay 38 = .ok (.iinc 2 1, 3) := by decide +kernel
theorem dX5_boxesWithWay_41 : decode cX5_boxesWithWay 41 = .ok (.goto (-37), 3) := by decide +kernel
theorem dX5_boxesWithWay_44 : decode cX5_boxesWithWay 44 = .ok (.iload_n 1, 1) := by decide +kernel
theorem dX5_boxesWithWay_45 : decode cX5_boxesWithWay 45 = .ok (.ireturn, 1) := by decide +kernel
theorem dX5_lateBoxes_0 : decode cX5_lateBoxes 0 = .ok (.iconst 0, 1) := by decide +kernel
theorem dX5_lateBoxes_1 : decode cX5_lateBoxes 1 = .ok (.istore_n 1, 1) := by decide +kernel
theorem dX5_lateBoxes_2 : decode cX5_lateBoxes 2 = .ok (.iconst 0, 1) := by decide +kernel
theorem dX5_lateBoxes_3 : decode cX5_lateBoxes 3 = .ok (.istore_n 2, 1) := by decide +kernel
theorem dX5_lateBoxes_4 : decode cX5_lateBoxes 4 = .ok (.iload_n 2, 1) := by decide +kernel
theorem dX5_lateBoxes_5 : decode cX5_lateBoxes 5 = .ok (.aload_n 0, 1) := by decide +kernel
theorem dX5_lateBoxes_6 : decode cX5_lateBoxes 6 = .ok (.getfield 19, 3) := by decide +kernel
theorem dX5_lateBoxes_9 : decode cX5_lateBoxes 9 = .ok (.invokevirtual 70, 3) := by decide +kernel
theorem dX5_lateBoxes_12 : decode cX5_lateBoxes 12 = .ok (.if_icmp .ge 32, 3) := by decide +kernel
theorem dX5_lateBoxes_15 : decode cX5_lateBoxes 15 = .ok (.aload_n 0, 1) := by decide +kernel
theorem dX5_lateBoxes_16 : decode cX5_lateBoxes 16 = .ok (.getfield 19, 3) := by decide +kernel
theorem dX5_lateBoxes_19 : decode cX5_lateBoxes 19 = .ok (.iload_n 2, 1) := by decide +kernel
theorem dX5_lateBoxes_20 : decode cX5_lateBoxes 20 = .ok (.invokevirtual 88, 3) := by decide +kernel
theorem dX5_lateBoxes_23 : decode cX5_lateBoxes 23 = .ok (.checkcast 74, 3) := by decide +kernel
theorem dX5_lateBoxes_26 : decode cX5_lateBoxes 26 = .ok (.invokevirtual 92, 3) := by decide +kernel
theorem dX5_lateBoxes_29 : decode cX5_lateBoxes 29 = .ok (.invokevirtual 154, 3) := by decide +kernel
theorem dX5_lateBoxes_32 : decode cX5_lateBoxes 32 = .ok (.ifCond .eq 6, 3) := by decide +kernel
theorem dX5_lateBoxes_35 : decode cX5_lateBoxes 35 = .ok (.iinc 1 1, 3) := by decide +kernel
theorem dX5_lateBoxes_38 : decode cX5_lateBoxes 38 = .ok (.iinc 2 1, 3) := by decide +kernel
theorem dX5_lateBoxes_41 : decode cX5_lateBoxes 41 = .ok (.goto (-37), 3) := by decide +kernel
theorem dX5_lateBoxes_44 : decode cX5_lateBoxes 44 = .ok (.iload_n 1, 1) := by decide +kernel
theorem dX5_lateBoxes_45 : decode cX5_lateBoxes 45 = .ok (.ireturn, 1) := by decide +kernel
theorem dX5_numberMarks_0 : decode cX5_numberMarks 0 = .ok (.iconst 0, 1) := by decide +kernel
theorem dX5_numberMarks_1 : decode cX5_numberMarks 1 = .ok (.istore_n 1, 1) := by decide +kernel
theorem dX5_numberMarks_2 : decode cX5_numberMarks 2 = .ok (.iconst 0, 1) := by decide +kernel
theorem dX5_numberMarks_3 : decode cX5_numberMarks 3 = .ok (.istore_n 2, 1) := by decide +kernel
theorem dX5_numberMarks_4 : decode cX5_numberMarks 4 = .ok (.iload_n 2, 1) := by decide +kernel
theorem dX5_numberMarks_5 : decode cX5_numberMarks 5 = .ok (.aload_n 0, 1) := by decide +kernel
theorem dX5_numberMarks_6 : decode cX5_numberMarks 6 = .ok (.getfield 19, 3) := by decide +kernel
theorem dX5_numberMarks_9 : decode cX5_numberMarks 9 = .ok (.invokevirtual 70, 3) := by decide +kernel
theorem dX5_numberMarks_12 : decode cX5_numberMarks 12 = .ok (.if_icmp .ge 76, 3) := by decide +kernel
theorem dX5_numberMarks_15 : decode cX5_numberMarks 15 = .ok (.iload_n 2, 1) := by decide +kernel
theorem dX5_numberMarks_16 : decode cX5_numberMarks 16 = .ok (.aload_n 0, 1) := by decide +kernel
theorem dX5_numberMarks_17 : decode cX5_numberMarks 17 = .ok (.getfield 30, 3) := by decide +kernel
theorem dX5_numberMarks_20 : decode cX5_numberMarks 20 = .ok (.arraylength, 1) := by decide +kernel
theorem dX5_numberMarks_21 : decode cX5_numberMarks 21 = .ok (.if_icmp .ge 67, 3) := by decide +kernel
theorem dX5_numberMarks_24 : decode cX5_numberMarks 24 = .ok (.aload_n 0, 1) := by decide +kernel
theorem dX5_numberMarks_25 : decode cX5_numberMarks 25 = .ok (.getfield 30, 3) := by decide +kernel
theorem dX5_numberMarks_28 : decode cX5_numberMarks 28 = .ok (.iload_n 2, 1) := by decide +kernel
theorem dX5_numberMarks_29 : decode cX5_numberMarks 29 = .ok (.iconst (-1), 1) := by decide +kernel
theorem dX5_numberMarks_30 : decode cX5_numberMarks 30 = .ok (.iastore, 1) := by decide +kernel
theorem dX5_numberMarks_31 : decode cX5_numberMarks 31 = .ok (.aload_n 0, 1) := by decide +kernel
theorem dX5_numberMarks_32 : decode cX5_numberMarks 32 = .ok (.getfield 19, 3) := by decide +kernel
theorem dX5_numberMarks_35 : decode cX5_numberMarks 35 = .ok (.iload_n 2, 1) := by decide +kernel
theorem dX5_numberMarks_36 : decode cX5_numberMarks 36 = .ok (.invokevirtual 88, 3) := by decide +kernel
theorem dX5_numberMarks_39 : decode cX5_numberMarks 39 = .ok (.checkcast 74, 3) := by decide +kernel
theorem dX5_numberMarks_42 : decode cX5_numberMarks 42 = .ok (.getfield 127, 3) := by decide +kernel
theorem dX5_numberMarks_45 : decode cX5_numberMarks 45 = .ok (.invokevirtual 261, 3) := by decide +kernel
theorem dX5_numberMarks_48 : decode cX5_numberMarks 48 = .ok (.ifCond .eq 34, 3) := by decide +kernel
theorem dX5_numberMarks_51 : decode cX5_numberMarks 51 = .ok (.aload_n 0, 1) := by decide +kernel
theorem dX5_numberMarks_52 : decode cX5_numberMarks 52 = .ok (.getfield 30, 3) := by decide +kernel
theorem dX5_numberMarks_55 : decode cX5_numberMarks 55 = .ok (.iload_n 2, 1) := by decide +kernel
theorem dX5_numberMarks_56 : decode cX5_numberMarks 56 = .ok (.aload_n 0, 1) := by decide +kernel
theorem dX5_numberMarks_57 : decode cX5_numberMarks 57 = .ok (.iload_n 2, 1) := by decide +kernel
theorem dX5_numberMarks_58 : decode cX5_numberMarks 58 = .ok (.invokevirtual 264, 3) := by decide +kernel
theorem dX5_numberMarks_61 : decode cX5_numberMarks 61 = .ok (.iastore, 1) := by decide +kernel
theorem dX5_numberMarks_62 : decode cX5_numberMarks 62 = .ok (.aload_n 0, 1) := by decide +kernel
theorem dX5_numberMarks_63 : decode cX5_numberMarks 63 = .ok (.getfield 30, 3) := by decide +kernel
theorem dX5_numberMarks_66 : decode cX5_numberMarks 66 = .ok (.iload_n 2, 1) := by decide +kernel
theorem dX5_numberMarks_67 : decode cX5_numberMarks 67 = .ok (.iaload, 1) := by decide +kernel
theorem dX5_numberMarks_68 : decode cX5_numberMarks 68 = .ok (.iconst (-1), 1) := by decide +kernel
theorem dX5_numberMarks_69 : decode cX5_numberMarks 69 = .ok (.if_icmp .ne 13, 3) := by decide +kernel
theorem dX5_numberMarks_72 : decode cX5_numberMarks 72 = .ok (.aload_n 0, 1) := by decide +kernel
theorem dX5_numberMarks_73 : decode cX5_numberMarks 73 = .ok (.getfield 30, 3) := by decide +kernel
theorem dX5_numberMarks_76 : decode cX5_numberMarks 76 = .ok (.iload_n 2, 1) := by decide +kernel
theorem dX5_numberMarks_77 : decode cX5_numberMarks 77 = .ok (.iload_n 1, 1) := by decide +kernel
theorem dX5_numberMarks_78 : decode cX5_numberMarks 78 = .ok (.iastore, 1) := by decide +kernel
theorem dX5_numberMarks_79 : decode cX5_numberMarks 79 = .ok (.iinc 1 1, 3) := by decide +kernel
theorem dX5_numberMarks_82 : decode cX5_numberMarks 82 = .ok (.iinc 2 1, 3) := by decide +kernel
theorem dX5_numberMarks_85 : decode cX5_numberMarks 85 = .ok (.goto (-81), 3) := by decide +kernel
theorem dX5_numberMarks_88 : decode cX5_numberMarks 88 = .ok (.iload_n 1, 1) := by decide +kernel
theorem dX5_numberMarks_89 : decode cX5_numberMarks 89 = .ok (.ireturn, 1) := by decide +kernel
theorem dX5_markOfLikeBox_0 : decode cX5_markOfLikeBox 0 = .ok (.aload_n 0, 1) := by decide +kernel
theorem dX5_markOfLikeBox_1 : decode cX5_markOfLikeBox 1 = .ok (.getfield 19, 3) := by decide +kernel
theorem dX5_markOfLikeBox_4 : decode cX5_markOfLikeBox 4 = .ok (.iload_n 1, 1) := by decide +kernel
theorem dX5_markOfLikeBox_5 : decode cX5_markOfLikeBox 5 = .ok (.invokevirtual 88, 3) := by decide +kernel
theorem dX5_markOfLikeBox_8 : decode cX5_markOfLikeBox 8 = .ok (.checkcast 74, 3) := by decide +kernel
theorem dX5_markOfLikeBox_11 : decode cX5_markOfLikeBox 11 = .ok (.getfield 127, 3) := by decide +kernel
theorem dX5_markOfLikeBox_14 : decode cX5_markOfLikeBox 14 = .ok (.astore_n 2, 1) := by decide +kernel
theorem dX5_markOfLikeBox_15 : decode cX5_markOfLikeBox 15 = .ok (.iconst 0, 1) := by decide +kernel
theorem dX5_markOfLikeBox_16 : decode cX5_markOfLikeBox 16 = .ok (.istore_n 3, 1) := by decide +kernel
theorem dX5_markOfLikeBox_17 : decode cX5_markOfLikeBox 17 = .ok (.iload_n 3, 1) := by decide +kernel
theorem dX5_markOfLikeBox_18 : decode cX5_markOfLikeBox 18 = .ok (.iload_n 1, 1) := by decide +kernel
theorem dX5_markOfLikeBox_19 : decode cX5_markOfLikeBox 19 = .ok (.if_icmp .ge 47, 3) := by decide +kernel
theorem dX5_markOfLikeBox_22 : decode cX5_markOfLikeBox 22 = .ok (.aload_n 0, 1) := by decide +kernel
theorem dX5_markOfLikeBox_23 : decode cX5_markOfLikeBox 23 = .ok (.getfield 30, 3) := by decide +kernel
theorem dX5_markOfLikeBox_26 : decode cX5_markOfLikeBox 26 = .ok (.iload_n 3, 1) := by decide +kernel
theorem dX5_markOfLikeBox_27 : decode cX5_markOfLikeBox 27 = .ok (.iaload, 1) := by decide +kernel
theorem dX5_markOfLikeBox_28 : decode cX5_markOfLikeBox 28 = .ok (.iconst (-1), 1) := by decide +kernel
theorem dX5_markOfLikeBox_29 : decode cX5_markOfLikeBox 29 = .ok (.if_icmp .eq 31, 3) := by decide +kernel
theorem dX5_markOfLikeBox_32 : decode cX5_markOfLikeBox 32 = .ok (.aload_n 0, 1) := by decide +kernel
theorem dX5_markOfLikeBox_33 : decode cX5_markOfLikeBox 33 = .ok (.getfield 19, 3) := by decide +kernel
theorem dX5_markOfLikeBox_36 : decode cX5_markOfLikeBox 36 = .ok (.iload_n 3, 1) := by decide +kernel
theorem dX5_markOfLikeBox_37 : decode cX5_markOfLikeBox 37 = .ok (.invokevirtual 88, 3) := by decide +kernel
theorem dX5_markOfLikeBox_40 : decode cX5_markOfLikeBox 40 = .ok (.checkcast 74, 3) := by decide +kernel
theorem dX5_markOfLikeBox_43 : decode cX5_markOfLikeBox 43 = .ok (.getfield 127, 3) := by decide +kernel
theorem dX5_markOfLikeBox_46 : decode cX5_markOfLikeBox 46 = .ok (.aload_n 2, 1) := by decide +kernel
theorem dX5_markOfLikeBox_47 : decode cX5_markOfLikeBox 47 = .ok (.invokevirtual 267, 3) := by decide +kernel
theorem dX5_markOfLikeBox_50 : decode cX5_markOfLikeBox 50 = .ok (.ifCond .eq 10, 3) := by decide +kernel
theorem dX5_markOfLikeBox_53 : decode cX5_markOfLikeBox 53 = .ok (.aload_n 0, 1) := by decide +kernel
theorem dX5_markOfLikeBox_54 : decode cX5_markOfLikeBox 54 = .ok (.getfield 30, 3) := by decide +kernel
theorem dX5_markOfLikeBox_57 : decode cX5_markOfLikeBox 57 = .ok (.iload_n 3, 1) := by decide +kernel
theorem dX5_markOfLikeBox_58 : decode cX5_markOfLikeBox 58 = .ok (.iaload, 1) := by decide +kernel
theorem dX5_markOfLikeBox_59 : decode cX5_markOfLikeBox 59 = .ok (.ireturn, 1) := by decide +kernel
theorem dX5_markOfLikeBox_60 : decode cX5_markOfLikeBox 60 = .ok (.iinc 3 1, 3) := by decide +kernel
theorem dX5_markOfLikeBox_63 : decode cX5_markOfLikeBox 63 = .ok (.goto (-46), 3) := by decide +kernel
theorem dX5_markOfLikeBox_66 : decode cX5_markOfLikeBox 66 = .ok (.iconst (-1), 1) := by decide +kernel
theorem dX5_markOfLikeBox_67 : decode cX5_markOfLikeBox 67 = .ok (.ireturn, 1) := by decide +kernel
theorem dX6_init_0 : decode cX6_init 0 = .ok (.aload_n 0, 1) := by decide +kernel
theorem dX6_init_1 : decode cX6_init 1 = .ok (.invokespecial 3, 3) := by decide +kernel
theorem dX6_init_4 : decode cX6_init 4 = .ok (.aload_n 0, 1) := by decide +kernel
theorem dX6_init_5 : decode cX6_init 5 = .ok (.bipush 10, 2) := by decide +kernel
theorem dX6_init_7 : decode cX6_init 7 = .ok (.newarray .int, 2) := by decide +kernel
theorem dX6_init_9 : decode cX6_init 9 = .ok (.putfield 9, 3) := by decide +kernel
theorem dX6_init_12 : decode cX6_init 12 = .ok (.aload_n 0, 1) := by decide +kernel
theorem dX6_init_13 : decode cX6_init 13 = .ok (.bipush 16, 2) := by decide +kernel
theorem dX6_init_15 : decode cX6_init 15 = .ok (.newarray .int, 2) := by decide +kernel
theorem dX6_init_17 : decode cX6_init 17 = .ok (.putfield 13, 3) := by decide +kernel
theorem dX6_init_20 : decode cX6_init 20 = .ok (.aload_n 0, 1) := by decide +kernel
theorem dX6_init_21 : decode cX6_init 21 = .ok (.bipush 16, 2) := by decide +kernel
theorem dX6_init_23 : decode cX6_init 23 = .ok (.newarray .int, 2) := by decide +kernel
theorem dX6_init_25 : decode cX6_init 25 = .ok (.putfield 16, 3) := by decide +kernel
theorem dX6_init_28 : decode cX6_init 28 = .ok (.aload_n 0, 1) := by decide +kernel
theorem dX6_init_29 : decode cX6_init 29 = .ok (.sipush 160, 3) := by decide +kernel
theorem dX6_init_32 : decode cX6_init 32 = .ok (.newarray .int, 2) := by decide +kernel
theorem dX6_init_34 : decode cX6_init 34 = .ok (.putfield 19, 3) := by decide +kernel
theorem dX6_init_37 : decode cX6_init 37 = .ok (.aload_n 0, 1) := by decide +kernel
theorem dX6_init_38 : decode cX6_init 38 = .ok (.sipush 160, 3) := by decide +kernel
theorem dX6_init_41 : decode cX6_init 41 = .ok (.newarray .int, 2) := by decide +kernel
theorem dX6_init_43 : decode cX6_init 43 = .ok (.putfield 22, 3) := by decide +kernel
theorem dX6_init_46 : decode cX6_init 46 = .ok (.aload_n 0, 1) := by decide +kernel
theorem dX6_init_47 : decode cX6_init 47 = .ok (.sipush 160, 3) := by decide +kernel
theorem dX6_init_50 : decode cX6_init 50 = .ok (.newarray .int, 2) := by decide +kernel
theorem dX6_init_52 : decode cX6_init 52 = .ok (.putfield 25, 3) := by decide +kernel
theorem dX6_init_55 : decode cX6_init 55 = .ok (.aload_n 0, 1) := by decide +kernel
theorem dX6_init_56 : decode cX6_init 56 = .ok (.bipush 40, 2) := by decide +kernel
theorem dX6_init_58 : decode cX6_init 58 = .ok (.newarray .int, 2) := by decide +kernel
theorem dX6_init_60 : decode cX6_init 60 = .ok (.putfield 28, 3) := by decide +kernel
theorem dX6_init_63 : decode cX6_init 63 = .ok (.aload_n 0, 1) := by decide +kernel
theorem dX6_init_64 : decode cX6_init 64 = .ok (.bipush 16, 2) := by decide +kernel
theorem dX6_init_66 : decode cX6_init 66 = .ok (.newarray .boolean, 2) := by decide +kernel
theorem dX6_init_68 : decode cX6_init 68 = .ok (.putfield 31, 3) := by decide +kernel
theorem dX6_init_71 : decode cX6_init 71 = .ok (.aload_n 0, 1) := by decide +kernel
theorem dX6_init_72 : decode cX6_init 72 = .ok (.bipush 60, 2) := by decide +kernel
theorem dX6_init_74 : decode cX6_init 74 = .ok (.newarray .int, 2) := by decide +kernel
theorem dX6_init_76 : decode cX6_init 76 = .ok (.putfield 35, 3) := by decide +kernel
theorem dX6_init_79 : decode cX6_init 79 = .ok (.aload_n 0, 1) := by decide +kernel
theorem dX6_init_80 : decode cX6_init 80 = .ok (.bipush 60, 2) := by decide +kernel
theorem dX6_init_82 : decode cX6_init 82 = .ok (.newarray .int, 2) := by decide +kernel
theorem dX6_init_84 : decode cX6_init 84 = .ok (.putfield 38, 3) := by decide +kernel
theorem dX6_init_87 : decode cX6_init 87 = .ok (.aload_n 0, 1) := by decide +kernel
theorem dX6_init_88 : decode cX6_init 88 = .ok (.bipush 60, 2) := by decide +kernel
theorem dX6_init_90 : decode cX6_init 90 = .ok (.newarray .int, 2) := by decide +kernel
theorem dX6_init_92 : decode cX6_init 92 = .ok (.putfield 41, 3) := by decide +kernel
theorem dX6_init_95 : decode cX6_init 95 = .ok (.aload_n 0, 1) := by decide +kernel
theorem dX6_init_96 : decode cX6_init 96 = .ok (.bipush 60, 2) := by decide +kernel
theorem dX6_init_98 : decode cX6_init 98 = .ok (.newarray .int, 2) := by decide +kernel
theorem dX6_init_100 : decode cX6_init 100 = .ok (.putfield 44, 3) := by decide +kernel
theorem dX6_init_103 : decode cX6_init 103 = .ok (.aload_n 0, 1) := by decide +kernel
theorem dX6_init_104 : decode cX6_init 104 = .ok (.bipush 60, 2) := by decide +kernel
theorem dX6_init_106 : decode cX6_init 106 = .ok (.newarray .int, 2) := by decide +kernel
theorem dX6_init_108 : decode cX6_init 108 = .ok (.putfield 47, 3) := by decide +kernel
theorem dX6_init_111 : decode cX6_init 111 = .ok (.aload_n 0, 1) := by decide +kernel
theorem dX6_init_112 : decode cX6_init 112 = .ok (.bipush 60, 2) := by decide +kernel
theorem dX6_init_114 : decode cX6_init 114 = .ok (.newarray .int, 2) := by decide +kernel
theorem dX6_init_116 : decode cX6_init 116 = .ok (.putfield 50, 3) := by decide +kernel
theorem dX6_init_119 : decode cX6_init 119 = .ok (.aload_n 0, 1) := by decide +kernel
theorem dX6_init_120 : decode cX6_init 120 = .ok (.bipush 60, 2) := by decide +kernel
theorem dX6_init_122 : decode cX6_init 122 = .ok (.newarray .int, 2) := by decide +kernel
theorem dX6_init_124 : decode cX6_init 124 = .ok (.putfield 53, 3) := by decide +kernel
theorem dX6_init_127 : decode cX6_init 127 = .ok (.aload_n 0, 1) := by decide +kernel
theorem dX6_init_128 : decode cX6_init 128 = .ok (.bipush 60, 2) := by decide +kernel
theorem dX6_init_130 : decode cX6_init 130 = .ok (.newarray .boolean, 2) := by decide +kernel
theorem dX6_init_132 : decode cX6_init 132 = .ok (.putfield 56, 3) := by decide +kernel
theorem dX6_init_135 : decode cX6_init 135 = .ok (.aload_n 0, 1) := by decide +kernel
theorem dX6_init_136 : decode cX6_init 136 = .ok (.bipush 120, 2) := by decide +kernel
theorem dX6_init_138 : decode cX6_init 138 = .ok (.newarray .boolean, 2) := by decide +kernel
theorem dX6_init_140 : decode cX6_init 140 = .ok (.putfield 59, 3) := by decide +kernel
theorem dX6_init_143 : decode cX6_init 143 = .ok (.aload_n 0, 1) := by decide +kernel
theorem dX6_init_144 : decode cX6_init 144 = .ok (.bipush 120, 2) := by decide +kernel
theorem dX6_init_146 : decode cX6_init 146 = .ok (.newarray .boolean, 2) := by decide +kernel
theorem dX6_init_148 : decode cX6_init 148 = .ok (.putfield 62, 3) := by decide +kernel
theorem dX6_init_151 : decode cX6_init 151 = .ok (.aload_n 0, 1) := by decide +kernel
theorem dX6_init_152 : decode cX6_init 152 = .ok (.bipush 120, 2) := by decide +kernel
theorem dX6_init_154 : decode cX6_init 154 = .ok (.newarray .int, 2) := by decide +kernel
theorem dX6_init_156 : decode cX6_init 156 = .ok (.putfield 65, 3) := by decide +kernel
theorem dX6_init_159 : decode cX6_init 159 = .ok (.aload_n 0, 1) := by decide +kernel
theorem dX6_init_160 : decode cX6_init 160 = .ok (.bipush 120, 2) := by decide +kernel
theorem dX6_init_162 : decode cX6_init 162 = .ok (.newarray .int, 2) := by decide +kernel
theorem dX6_init_164 : decode cX6_init 164 = .ok (.putfield 68, 3) := by decide +kernel
theorem dX6_init_167 : decode cX6_init 167 = .ok (.aload_n 0, 1) := by decide +kernel
theorem dX6_init_168 : decode cX6_init 168 = .ok (.bipush 120, 2) := by decide +kernel
theorem dX6_init_170 : decode cX6_init 170 = .ok (.newarray .int, 2) := by decide +kernel
theorem dX6_init_172 : decode cX6_init 172 = .ok (.putfield 71, 3) := by decide +kernel
theorem dX6_init_175 : decode cX6_init 175 = .ok (.aload_n 0, 1) := by decide +kernel
theorem dX6_init_176 : decode cX6_init 176 = .ok (.sipush 360, 3) := by decide +kernel
theorem dX6_init_179 : decode cX6_init 179 = .ok (.newarray .int, 2) := by decide +kernel
theorem dX6_init_181 : decode cX6_init 181 = .ok (.putfield 74, 3) := by decide +kernel
theorem dX6_init_184 : decode cX6_init 184 = .ok (.aload_n 0, 1) := by decide +kernel
theorem dX6_init_185 : decode cX6_init 185 = .ok (.sipush 360, 3) := by decide +kernel
theorem dX6_init_188 : decode cX6_init 188 = .ok (.newarray .int, 2) := by decide +kernel
theorem dX6_init_190 : decode cX6_init 190 = .ok (.putfield 77, 3) := by decide +kernel
theorem dX6_init_193 : decode cX6_init 193 = .ok (.aload_n 0, 1) := by decide +kernel
theorem dX6_init_194 : decode cX6_init 194 = .ok (.sipush 360, 3) := by decide +kernel
theorem dX6_init_197 : decode cX6_init 197 = .ok (.newarray .int, 2) := by decide +kernel
theorem dX6_init_199 : decode cX6_init 199 = .ok (.putfield 80, 3) := by decide +kernel
theorem dX6_init_202 : decode cX6_init 202 = .ok (.aload_n 0, 1) := by decide +kernel
theorem dX6_init_203 : decode cX6_init 203 = .ok (.sipush 640, 3) := by decide +kernel
theorem dX6_init_206 : decode cX6_init 206 = .ok (.newarray .int, 2) := by decide +kernel
theorem dX6_init_208 : decode cX6_init 208 = .ok (.putfield 83, 3) := by decide +kernel
theorem dX6_init_211 : decode cX6_init 211 = .ok (.aload_n 0, 1) := by decide +kernel
theorem dX6_init_212 : decode cX6_init 212 = .ok (.sipush 640, 3) := by decide +kernel
theorem dX6_init_215 : decode cX6_init 215 = .ok (.newarray .int, 2) := by decide +kernel
theorem dX6_init_217 : decode cX6_init 217 = .ok (.putfield 86, 3) := by decide +kernel
theorem dX6_init_220 : decode cX6_init 220 = .ok (.aload_n 0, 1) := by decide +kernel
theorem dX6_init_221 : decode cX6_init 221 = .ok (.bipush 60, 2) := by decide +kernel
theorem dX6_init_223 : decode cX6_init 223 = .ok (.newarray .boolean, 2) := by decide +kernel
theorem dX6_init_225 : decode cX6_init 225 = .ok (.putfield 89, 3) := by decide +kernel
theorem dX6_init_228 : decode cX6_init 228 = .ok (.return_, 1) := by decide +kernel
theorem dX6_thrown_0 : decode cX6_thrown 0 = .ok (.aload_n 0, 1) := by decide +kernel
theorem dX6_thrown_1 : decode cX6_thrown 1 = .ok (.getfield 92, 3) := by decide +kernel
theorem dX6_thrown_4 : decode cX6_thrown 4 = .ok (.ireturn, 1) := by decide +kernel
theorem dX6_fail_0 : decode cX6_fail 0 = .ok (.aload_n 0, 1) := by decide +kernel
theorem dX6_fail_1 : decode cX6_fail 1 = .ok (.iconst 1, 1) := by decide +kernel
theorem dX6_fail_2 : decode cX6_fail 2 = .ok (.putfield 92, 3) := by decide +kernel
theorem dX6_fail_5 : decode cX6_fail 5 = .ok (.iconst 0, 1) := by decide +kernel
theorem dX6_fail_6 : decode cX6_fail 6 = .ok (.ireturn, 1) := by decide +kernel
theorem dX6_isTrain_0 : decode cX6_isTrain 0 = .ok (.iload_n 1, 1) := by decide +kernel
theorem dX6_isTrain_1 : decode cX6_isTrain 1 = .ok (.ifCond .lt 15, 3) := by decide +kernel
theorem dX6_isTrain_4 : decode cX6_isTrain 4 = .ok (.iload_n 1, 1) := by decide +kernel
theorem dX6_isTrain_5 : decode cX6_isTrain 5 = .ok (.aload_n 0, 1) := by decide +kernel
theorem dX6_isTrain_6 : decode cX6_isTrain 6 = .ok (.getfield 96, 3) := by decide +kernel
theorem dX6_isTrain_9 : decode cX6_isTrain 9 = .ok (.if_icmp .ge 7, 3) := by decide +kernel
theorem dX6_isTrain_12 : decode cX6_isTrain 12 = .ok (.iconst 1, 1) := by decide +kernel
theorem dX6_isTrain_13 : decode cX6_isTrain 13 = .ok (.goto 4, 3) := by decide +kernel
theorem dX6_isTrain_16 : decode cX6_isTrain 16 = .ok (.iconst 0, 1) := by decide +kernel
theorem dX6_isTrain_17 : decode cX6_isTrain 17 = .ok (.ireturn, 1) := by decide +kernel
theorem dX6_isBox_0 : decode cX6_isBox 0 = .ok (.iload_n 1, 1) := by decide +kernel
theorem dX6_isBox_1 : decode cX6_isBox 1 = .ok (.ifCond .lt 15, 3) := by decide +kernel
theorem dX6_isBox_4 : decode cX6_isBox 4 = .ok (.iload_n 1, 1) := by decide +kernel
theorem dX6_isBox_5 : decode cX6_isBox 5 = .ok (.aload_n 0, 1) := by decide +kernel
theorem dX6_isBox_6 : decode cX6_isBox 6 = .ok (.getfield 99, 3) := by decide +kernel
theorem dX6_isBox_9 : decode cX6_isBox 9 = .ok (.if_icmp .ge 7, 3) := by decide +kernel
theorem dX6_isBox_12 : decode cX6_isBox 12 = .ok (.iconst 1, 1) := by decide +kernel
theorem dX6_isBox_13 : decode cX6_isBox 13 = .ok (.goto 4, 3) := by decide +kernel
theorem dX6_isBox_16 : decode cX6_isBox 16 = .ok (.iconst 0, 1) := by decide +kernel
theorem dX6_isBox_17 : decode cX6_isBox 17 = .ok (.ireturn, 1) := by decide +kernel
theorem dX6_station_0 : decode cX6_station 0 = .ok (.aload_n 0, 1) := by decide +kernel
theorem dX6_station_1 : decode cX6_station 1 = .ok (.iconst 0, 1) := by decide +kernel
theorem dX6_station_2 : decode cX6_station 2 = .ok (.putfield 92, 3) := by decide +kernel
theorem dX6_station_5 : decode cX6_station 5 = .ok (.aload_n 0, 1) := by decide +kernel
theorem dX6_station_6 : decode cX6_station 6 = .ok (.getfield 102, 3) := by decide +kernel
theorem dX6_station_9 : decode cX6_station 9 = .ok (.bipush 10, 2) := by decide +kernel
theorem dX6_station_11 : decode cX6_station 11 = .ok (.if_icmp .eq 13, 3) := by decide +kernel
theorem dX6_station_14 : decode cX6_station 14 = .ok (.iload_n 1, 1) := by decide +kernel
theorem dX6_station_15 : decode cX6_station 15 = .ok (.ifCond .lt 9, 3) := by decide +kernel
theorem dX6_station_18 : decode cX6_station 18 = .ok (.iload_n 1, 1) := by decide +kernel
theorem dX6_station_19 : decode cX6_station 19 = .ok (.bipush 60, 2) := by decide +kernel
theorem dX6_station_21 : decode cX6_station 21 = .ok (.if_icmp .le 5, 3) := by decide +kernel
theorem dX6_station_24 : decode cX6_station 24 = .ok (.iconst (-1), 1) := by decide +kernel
theorem dX6_station_25 : decode cX6_station 25 = .ok (.ireturn, 1) := by decide +kernel
theorem dX6_station_26 : decode cX6_station 26 = .ok (.aload_n 0, 1) := by decide +kernel
theorem dX6_station_27 : decode cX6_station 27 = .ok (.getfield 9, 3) := by decide +kernel
theorem dX6_station_30 : decode cX6_station 30 = .ok (.aload_n 0, 1) := by decide +kernel
theorem dX6_station_31 : decode cX6_station 31 = .ok (.getfield 102, 3) := by decide +kernel
theorem dX6_station_34 : decode cX6_station 34 = .ok (.iload_n 1, 1) := by decide +kernel
theorem dX6_station_35 : decode cX6_station 35 = .ok (.iastore, 1) := by decide +kernel
theorem dX6_station_36 : decode cX6_station 36 = .ok (.aload_n 0, 1) := by decide +kernel
theorem dX6_station_37 : decode cX6_station 37 = .ok (.dup, 1) := by decide +kernel
theorem dX6_station_38 : decode cX6_station 38 = .ok (.getfield 102, 3) := by decide +kernel
theorem dX6_station_41 : decode cX6_station 41 = .ok (.iconst 1, 1) := by decide +kernel
theorem dX6_station_42 : decode cX6_station 42 = .ok (.iadd, 1) := by decide +kernel
theorem dX6_station_43 : decode cX6_station 43 = .ok (.putfield 102, 3) := by decide +kernel
theorem dX6_station_46 : decode cX6_station 46 = .ok (.aload_n 0, 1) := by decide +kernel
theorem dX6_station_47 : decode cX6_station 47 = .ok (.getfield 102, 3) := by decide +kernel
theorem dX6_station_50 : decode cX6_station 50 = .ok (.iconst 1, 1) := by decide +kernel
theorem dX6_station_51 : decode cX6_station 51 = .ok (.isub, 1) := by decide +kernel
theorem dX6_station_52 : decode cX6_station 52 = .ok (.ireturn, 1) := by decide +kernel
theorem dX6_train_0 : decode cX6_train 0 = .ok (.aload_n 0, 1) := by decide +kernel
theorem dX6_train_1 : decode cX6_train 1 = .ok (.iconst 0, 1) := by decide +kernel
theorem dX6_train_2 : decode cX6_train 2 = .ok (.putfield 92, 3) := by decide +kernel
theorem dX6_train_5 : decode cX6_train 5 = .ok (.aload_n 0, 1) := by decide +kernel
theorem dX6_train_6 : decode cX6_train 6 = .ok (.getfield 96, 3) := by decide +kernel
theorem dX6_train_9 : decode cX6_train 9 = .ok (.bipush 16, 2) := by decide +kernel
theorem dX6_train_11 : decode cX6_train 11 = .ok (.if_icmp .eq 14, 3) := by decide +kernel
theorem dX6_train_14 : decode cX6_train 14 = .ok (.iload_n 1, 1) := by decide +kernel
theorem dX6_train_15 : decode cX6_train 15 = .ok (.iconst 1, 1) := by decide +kernel
theorem dX6_train_16 : decode cX6_train 16 = .ok (.if_icmp .lt 9, 3) := by decide +kernel
theorem dX6_train_19 : decode cX6_train 19 = .ok (.iload_n 1, 1) := by decide +kernel
theorem dX6_train_20 : decode cX6_train 20 = .ok (.bipush 40, 2) := by decide +kernel
theorem dX6_train_22 : decode cX6_train 22 = .ok (.if_icmp .le 5, 3) := by decide +kernel
theorem dX6_train_25 : decode cX6_train 25 = .ok (.iconst (-1), 1) := by decide +kernel
theorem dX6_train_26 : decode cX6_train 26 = .ok (.ireturn, 1) := by decide +kernel
theorem dX6_train_27 : decode cX6_train 27 = .ok (.aload_n 0, 1) := by decide +kernel
theorem dX6_train_28 : decode cX6_train 28 = .ok (.getfield 13, 3) := by decide +kernel
theorem dX6_train_31 : decode cX6_train 31 = .ok (.aload_n 0, 1) := by decide +kernel
theorem dX6_train_32 : decode cX6_train 32 = .ok (.getfield 96, 3) := by decide +kernel
theorem dX6_train_35 : decode cX6_train 35 = .ok (.iload_n 1, 1) := by decide +kernel
theorem dX6_train_36 : decode cX6_train 36 = .ok (.iastore, 1) := by decide +kernel
theorem dX6_train_37 : decode cX6_train 37 = .ok (.aload_n 0, 1) := by decide +kernel
theorem dX6_train_38 : decode cX6_train 38 = .ok (.dup, 1) := by decide +kernel
theorem dX6_train_39 : decode cX6_train 39 = .ok (.getfield 96, 3) := by decide +kernel
theorem dX6_train_42 : decode cX6_train 42 = .ok (.iconst 1, 1) := by decide +kernel
theorem dX6_train_43 : decode cX6_train 43 = .ok (.iadd, 1) := by decide +kernel
theorem dX6_train_44 : decode cX6_train 44 = .ok (.putfield 96, 3) := by decide +kernel
theorem dX6_train_47 : decode cX6_train 47 = .ok (.aload_n 0, 1) := by decide +kernel
theorem dX6_train_48 : decode cX6_train 48 = .ok (.getfield 96, 3) := by decide +kernel
theorem dX6_train_51 : decode cX6_train 51 = .ok (.iconst 1, 1) := by decide +kernel
theorem dX6_train_52 : decode cX6_train 52 = .ok (.isub, 1) := by decide +kernel
theorem dX6_train_53 : decode cX6_train 53 = .ok (.ireturn, 1) := by decide +kernel
theorem dX6_node_0 : decode cX6_node 0 = .ok (.bipush 10, 2) := by decide +kernel
theorem dX6_node_2 : decode cX6_node 2 = .ok (.iload_n 0, 1) := by decide +kernel
theorem dX6_node_3 : decode cX6_node 3 = .ok (.imul, 1) := by decide +kernel
theorem dX6_node_4 : decode cX6_node 4 = .ok (.iload_n 1, 1) := by decide +kernel
theorem dX6_node_5 : decode cX6_node 5 = .ok (.iadd, 1) := by decide +kernel
theorem dX6_node_6 : decode cX6_node 6 = .ok (.ireturn, 1) := by decide +kernel
theorem dX6_stop_0 : decode cX6_stop 0 = .ok (.aload_n 0, 1) := by decide +kernel
theorem dX6_stop_1 : decode cX6_stop 1 = .ok (.iconst 0, 1) := by decide +kernel
theorem dX6_stop_2 : decode cX6_stop 2 = .ok (.putfield 92, 3) := by decide +kernel
theorem dX6_stop_5 : decode cX6_stop 5 = .ok (.aload_n 0, 1) := by decide +kernel
theorem dX6_stop_6 : decode cX6_stop 6 = .ok (.iload_n 1, 1) := by decide +kernel
theorem dX6_stop_7 : decode cX6_stop 7 = .ok (.invokevirtual 105, 3) := by decide +kernel
theorem dX6_stop_10 : decode cX6_stop 10 = .ok (.ifCond .ne 8, 3) := by decide +kernel
theorem dX6_stop_13 : decode cX6_stop 13 = .ok (.aload_n 0, 1) := by decide +kernel
theorem dX6_stop_14 : decode cX6_stop 14 = .ok (.invokevirtual 109, 3) := by decide +kernel
theorem dX6_stop_17 : decode cX6_stop 17 = .ok (.ireturn, 1) := by decide +kernel
theorem dX6_stop_18 : decode cX6_stop 18 = .ok (.aload_n 0, 1) := by decide +kernel
theorem dX6_stop_19 : decode cX6_stop 19 = .ok (.getfield 16, 3) := by decide +kernel
theorem dX6_stop_22 : decode cX6_stop 22 = .ok (.iload_n 1, 1) := by decide +kernel
theorem dX6_stop_23 : decode cX6_stop 23 = .ok (.iaload, 1) := by decide +kernel
theorem dX6_stop_24 : decode cX6_stop 24 = .ok (.istore 4, 2) := by decide +kernel
theorem dX6_stop_26 : decode cX6_stop 26 = .ok (.iconst 0, 1) := by decide +kernel
theorem dX6_stop_27 : decode cX6_stop 27 = .ok (.istore 5, 2) := by decide +kernel
theorem dX6_stop_29 : decode cX6_stop 29 = .ok (.iconst 0, 1) := by decide +kernel
theorem dX6_stop_30 : decode cX6_stop 30 = .ok (.istore 6, 2) := by decide +kernel
theorem dX6_stop_32 : decode cX6_stop 32 = .ok (.iload 6, 2) := by decide +kernel
theorem dX6_stop_34 : decode cX6_stop 34 = .ok (.iload 4, 2) := by decide +kernel
theorem dX6_stop_36 : decode cX6_stop 36 = .ok (.if_icmp .ge 26, 3) := by decide +kernel
theorem dX6_stop_39 : decode cX6_stop 39 = .ok (.aload_n 0, 1) := by decide +kernel
theorem dX6_stop_40 : decode cX6_stop 40 = .ok (.getfield 25, 3) := by decide +kernel
theorem dX6_stop_43 : decode cX6_stop 43 = .ok (.iload_n 1, 1) := by decide +kernel
theorem dX6_stop_44 : decode cX6_stop 44 = .ok (.iload 6, 2) := by decide +kernel
theorem dX6_stop_46 : decode cX6_stop 46 = .ok (.invokestatic 113, 3) := by decide +kernel
theorem dX6_stop_49 : decode cX6_stop 49 = .ok (.iaload, 1) := by decide +kernel
theorem dX6_stop_50 : decode cX6_stop 50 = .ok (.ifCond .le 6, 3) := by decide +kernel
theorem dX6_stop_53 : decode cX6_stop 53 = .ok (.iconst 1, 1) := by decide +kernel
theorem dX6_stop_54 : decode cX6_stop 54 = .ok (.istore 5, 2) := by decide +kernel
theorem dX6_stop_56 : decode cX6_stop 56 = .ok (.iinc 6 1, 3) := by decide +kernel
theorem dX6_stop_59 : decode cX6_stop 59 = .ok (.goto (-27), 3) := by decide +kernel
theorem dX6_stop_62 : decode cX6_stop 62 = .ok (.iload 4, 2) := by decide +kernel
theorem dX6_stop_64 : decode cX6_stop 64 = .ok (.bipush 10, 2) := by decide +kernel
theorem dX6_stop_66 : decode cX6_stop 66 = .ok (.if_icmp .eq 31, 3) := by decide +kernel
theorem dX6_stop_69 : decode cX6_stop 69 = .ok (.iload 5, 2) := by decide +kernel
theorem dX6_stop_71 : decode cX6_stop 71 = .ok (.ifCond .ne 26, 3) := by decide +kernel
theorem dX6_stop_74 : decode cX6_stop 74 = .ok (.iload_n 2, 1) := by decide +kernel
theorem dX6_stop_75 : decode cX6_stop 75 = .ok (.ifCond .lt 22, 3) := by decide +kernel
theorem dX6_stop_78 : decode cX6_stop 78 = .ok (.iload_n 2, 1) := by decide +kernel
theorem dX6_stop_79 : decode cX6_stop 79 = .ok (.aload_n 0, 1) := by decide +kernel
theorem dX6_stop_80 : decode cX6_stop 80 = .ok (.getfield 102, 3) := by decide +kernel
theorem dX6_stop_83 : decode cX6_stop 83 = .ok (.if_icmp .ge 14, 3) := by decide +kernel
theorem dX6_stop_86 : decode cX6_stop 86 = .ok (.iload_n 3, 1) := by decide +kernel
theorem dX6_stop_87 : decode cX6_stop 87 = .ok (.ifCond .lt 10, 3) := by decide +kernel
theorem dX6_stop_90 : decode cX6_stop 90 = .ok (.iload_n 3, 1) := by decide +kernel
theorem dX6_stop_91 : decode cX6_stop 91 = .ok (.sipush 1439, 3) := by decide +kernel
theorem dX6_stop_94 : decode cX6_stop 94 = .ok (.if_icmp .le 5, 3) := by decide +kernel
theorem dX6_stop_97 : decode cX6_stop 97 = .ok (.iconst (-1), 1) := by decide +kernel
theorem dX6_stop_98 : decode cX6_stop 98 = .ok (.ireturn, 1) := by decide +kernel
theorem dX6_stop_99 : decode cX6_stop 99 = .ok (.iload 4, 2) := by decide +kernel
theorem dX6_stop_101 : decode cX6_stop 101 = .ok (.ifCond .le 39, 3) := by decide +kernel
theorem dX6_stop_104 : decode cX6_stop 104 = .ok (.aload_n 0, 1) := by decide +kernel
theorem dX6_stop_105 : decode cX6_stop 105 = .ok (.getfield 22, 3) := by decide +kernel
theorem dX6_stop_108 : decode cX6_stop 108 = .ok (.iload_n 1, 1) := by decide +kernel
theorem dX6_stop_109 : decode cX6_stop 109 = .ok (.iload 4, 2) := by decide +kernel
theorem dX6_stop_111 : decode cX6_stop 111 = .ok (.iconst 1, 1) := by decide +kernel
theorem dX6_stop_112 : decode cX6_stop 112 = .ok (.isub, 1) := by decide +kernel
theorem dX6_stop_113 : decode cX6_stop 113 = .ok (.invokestatic 113, 3) := by decide +kernel
theorem dX6_stop_116 : decode cX6_stop 116 = .ok (.iaload, 1) := by decide +kernel
theorem dX6_stop_117 : decode cX6_stop 117 = .ok (.iload_n 3, 1) := by decide +kernel
theorem dX6_stop_118 : decode cX6_stop 118 = .ok (.if_icmp .ge 20, 3) := by decide +kernel
theorem dX6_stop_121 : decode cX6_stop 121 = .ok (.aload_n 0, 1) := by decide +kernel
theorem dX6_stop_122 : decode cX6_stop 122 = .ok (.getfield 19, 3) := by decide +kernel
theorem dX6_stop_125 : decode cX6_stop 125 = .ok (.iload_n 1, 1) := by decide +kernel
theorem dX6_stop_126 : decode cX6_stop 126 = .ok (.iload 4, 2) := by decide +kernel
theorem dX6_stop_128 : decode cX6_stop 128 = .ok (.iconst 1, 1) := by decide +kernel
theorem dX6_stop_129 : decode cX6_stop 129 = .ok (.isub, 1) := by decide +kernel
theorem dX6_stop_130 : decode cX6_stop 130 = .ok (.invokestatic 113, 3) := by decide +kernel
theorem dX6_stop_133 : decode cX6_stop 133 = .ok (.iaload, 1) := by decide +kernel
theorem dX6_stop_134 : decode cX6_stop 134 = .ok (.iload_n 2, 1) := by decide +kernel
theorem dX6_stop_135 : decode cX6_stop 135 = .ok (.if_icmp .ne 5, 3) := by decide +kernel
theorem dX6_stop_138 : decode cX6_stop 138 = .ok (.iconst (-1), 1) := by decide +kernel
theorem dX6_stop_139 : decode cX6_stop 139 = .ok (.ireturn, 1) := by decide +kernel
theorem dX6_stop_140 : decode cX6_stop 140 = .ok (.aload_n 0, 1) := by decide +kernel
theorem dX6_stop_141 : decode cX6_stop 141 = .ok (.getfield 19, 3) := by decide +kernel
theorem dX6_stop_144 : decode cX6_stop 144 = .ok (.iload_n 1, 1) := by decide +kernel
theorem dX6_stop_145 : decode cX6_stop 145 = .ok (.iload 4, 2) := by decide +kernel
theorem dX6_stop_147 : decode cX6_stop 147 = .ok (.invokestatic 113, 3) := by decide +kernel
theorem dX6_stop_150 : decode cX6_stop 150 = .ok (.iload_n 2, 1) := by decide +kernel
theorem dX6_stop_151 : decode cX6_stop 151 = .ok (.iastore, 1) := by decide +kernel
theorem dX6_stop_152 : decode cX6_stop 152 = .ok (.aload_n 0, 1) := by decide +kernel
theorem dX6_stop_153 : decode cX6_stop 153 = .ok (.getfield 22, 3) := by decide +kernel
theorem dX6_stop_156 : decode cX6_stop 156 = .ok (.iload_n 1, 1) := by decide +kernel
theorem dX6_stop_157 : decode cX6_stop 157 = .ok (.iload 4, 2) := by decide +kernel
theorem dX6_stop_159 : decode cX6_stop 159 = .ok (.invokestatic 113, 3) := by decide +kernel
theorem dX6_stop_162 : decode cX6_stop 162 = .ok (.iload_n 3, 1) := by decide +kernel
theorem dX6_stop_163 : decode cX6_stop 163 = .ok (.iastore, 1) := by decide +kernel
theorem dX6_stop_164 : decode cX6_stop 164 = .ok (.aload_n 0, 1) := by decide +kernel
theorem dX6_stop_165 : decode cX6_stop 165 = .ok (.getfield 16, 3) := by decide +kernel
theorem dX6_stop_168 : decode cX6_stop 168 = .ok (.iload_n 1, 1) := by decide +kernel
theorem dX6_stop_169 : decode cX6_stop 169 = .ok (.dup2, 1) := by decide +kernel
theorem dX6_stop_170 : decode cX6_stop 170 = .ok (.iaload, 1) := by decide +kernel
theorem dX6_stop_171 : decode cX6_stop 171 = .ok (.iconst 1, 1) := by decide +kernel
theorem dX6_stop_172 : decode cX6_stop 172 = .ok (.iadd, 1) := by decide +kernel
theorem dX6_stop_173 : decode cX6_stop 173 = .ok (.iastore, 1) := by decide +kernel
theorem dX6_stop_174 : decode cX6_stop 174 = .ok (.iload 4, 2) := by decide +kernel
theorem dX6_stop_176 : decode cX6_stop 176 = .ok (.ireturn, 1) := by decide +kernel
theorem dX6_box_0 : decode cX6_box 0 = .ok (.aload_n 0, 1) := by decide +kernel
theorem dX6_box_1 : decode cX6_box 1 = .ok (.iconst 0, 1) := by decide +kernel
theorem dX6_box_2 : decode cX6_box 2 = .ok (.putfield 92, 3) := by decide +kernel
theorem dX6_box_5 : decode cX6_box 5 = .ok (.iload_n 1, 1) := by decide +kernel
theorem dX6_box_6 : decode cX6_box 6 = .ok (.ifCond .lt 51, 3) := by decide +kernel
theorem dX6_box_9 : decode cX6_box 9 = .ok (.iload_n 1, 1) := by decide +kernel
theorem dX6_box_10 : decode cX6_box 10 = .ok (.aload_n 0, 1) := by decide +kernel
theorem dX6_box_11 : decode cX6_box 11 = .ok (.getfield 102, 3) := by decide +kernel
theorem dX6_box_14 : decode cX6_box 14 = .ok (.if_icmp .ge 43, 3) := by decide +kernel
theorem dX6_box_17 : decode cX6_box 17 = .ok (.iload 4, 2) := by decide +kernel
theorem dX6_box_19 : decode cX6_box 19 = .ok (.ifCond .lt 38, 3) := by decide +kernel
theorem dX6_box_22 : decode cX6_box 22 = .ok (.iload 4, 2) := by decide +kernel
theorem dX6_box_24 : decode cX6_box 24 = .ok (.aload_n 0, 1) := by decide +kernel
theorem dX6_box_25 : decode cX6_box 25 = .ok (.getfield 102, 3) := by decide +kernel
theorem dX6_box_28 : decode cX6_box 28 = .ok (.if_icmp .ge 29, 3) := by decide +kernel
theorem dX6_box_31 : decode cX6_box 31 = .ok (.iload_n 2, 1) := by decide +kernel
theorem dX6_box_32 : decode cX6_box 32 = .ok (.ifCond .lt 25, 3) := by decide +kernel
theorem dX6_box_35 : decode cX6_box 35 = .ok (.iload_n 2, 1) := by decide +kernel
theorem dX6_box_36 : decode cX6_box 36 = .ok (.bipush 120, 2) := by decide +kernel
theorem dX6_box_38 : decode cX6_box 38 = .ok (.if_icmp .gt 19, 3) := by decide +kernel
theorem dX6_box_41 : decode cX6_box 41 = .ok (.iload 5, 2) := by decide +kernel
theorem dX6_box_43 : decode cX6_box 43 = .ok (.ifCond .lt 14, 3) := by decide +kernel
theorem dX6_box_46 : decode cX6_box 46 = .ok (.iload 5, 2) := by decide +kernel
theorem dX6_box_48 : decode cX6_box 48 = .ok (.bipush 120, 2) := by decide +kernel
theorem dX6_box_50 : decode cX6_box 50 = .ok (.if_icmp .gt 7, 3) := by decide +kernel
theorem dX6_box_53 : decode cX6_box 53 = .ok (.iconst 1, 1) := by decide +kernel
theorem dX6_box_54 : decode cX6_box 54 = .ok (.goto 4, 3) := by decide +kernel
theorem dX6_box_57 : decode cX6_box 57 = .ok (.iconst 0, 1) := by decide +kernel
theorem dX6_box_58 : decode cX6_box 58 = .ok (.istore 7, 2) := by decide +kernel
theorem dX6_box_60 : decode cX6_box 60 = .ok (.aload_n 0, 1) := by decide +kernel
theorem dX6_box_61 : decode cX6_box 61 = .ok (.getfield 99, 3) := by decide +kernel
theorem dX6_box_64 : decode cX6_box 64 = .ok (.bipush 60, 2) := by decide +kernel
theorem dX6_box_66 : decode cX6_box 66 = .ok (.if_icmp .eq 32, 3) := by decide +kernel
theorem dX6_box_69 : decode cX6_box 69 = .ok (.iload 7, 2) := by decide +kernel
theorem dX6_box_71 : decode cX6_box 71 = .ok (.ifCond .eq 27, 3) := by decide +kernel
theorem dX6_box_74 : decode cX6_box 74 = .ok (.iload_n 3, 1) := by decide +kernel
theorem dX6_box_75 : decode cX6_box 75 = .ok (.ifCond .lt 23, 3) := by decide +kernel
theorem dX6_box_78 : decode cX6_box 78 = .ok (.iload_n 3, 1) := by decide +kernel
theorem dX6_box_79 : decode cX6_box 79 = .ok (.sipush 1439, 3) := by decide +kernel
theorem dX6_box_82 : decode cX6_box 82 = .ok (.if_icmp .gt 16, 3) := by decide +kernel
theorem dX6_box_85 : decode cX6_box 85 = .ok (.iload 6, 2) := by decide +kernel
theorem dX6_box_87 : decode cX6_box 87 = .ok (.ifCond .lt 11, 3) := by decide +kernel
theorem dX6_box_90 : decode cX6_box 90 = .ok (.iload 6, 2) := by decide +kernel
theorem dX6_box_92 : decode cX6_box 92 = .ok (.sipush 1439, 3) := by decide +kernel
theorem dX6_box_95 : decode cX6_box 95 = .ok (.if_icmp .le 5, 3) := by decide +kernel
theorem dX6_box_98 : decode cX6_box 98 = .ok (.iconst (-1), 1) := by decide +kernel
theorem dX6_box_99 : decode cX6_box 99 = .ok (.ireturn, 1) := by decide +kernel
theorem dX6_box_100 : decode cX6_box 100 = .ok (.aload_n 0, 1) := by decide +kernel
theorem dX6_box_101 : decode cX6_box 101 = .ok (.getfield 35, 3) := by decide +kernel
theorem dX6_box_104 : decode cX6_box 104 = .ok (.aload_n 0, 1) := by decide +kernel
theorem dX6_box_105 : decode cX6_box 105 = .ok (.getfield 99, 3) := by decide +kernel
theorem dX6_box_108 : decode cX6_box 108 = .ok (.iload_n 1, 1) := by decide +kernel
theorem dX6_box_109 : decode cX6_box 109 = .ok (.iastore, 1) := by decide +kernel
theorem dX6_box_110 : decode cX6_box 110 = .ok (.aload_n 0, 1) := by decide +kernel
theorem dX6_box_111 : decode cX6_box 111 = .ok (.getfield 38, 3) := by decide +kernel
theorem dX6_box_114 : decode cX6_box 114 = .ok (.aload_n 0, 1) := by decide +kernel
theorem dX6_box_115 : decode cX6_box 115 = .ok (.getfield 99, 3) := by decide +kernel
theorem dX6_box_118 : decode cX6_box 118 = .ok (.iload_n 2, 1) := by decide +kernel
theorem dX6_box_119 : decode cX6_box 119 = .ok (.iastore, 1) := by decide +kernel
theorem dX6_box_120 : decode cX6_box 120 = .ok (.aload_n 0, 1) := by decide +kernel
theorem dX6_box_121 : decode cX6_box 121 = .ok (.getfield 41, 3) := by decide +kernel
theorem dX6_box_124 : decode cX6_box 124 = .ok (.aload_n 0, 1) := by decide +kernel
theorem dX6_box_125 : decode cX6_box 125 = .ok (.getfield 99, 3) := by decide +kernel
theorem dX6_box_128 : decode cX6_box 128 = .ok (.iload_n 3, 1) := by decide +kernel
theorem dX6_box_129 : decode cX6_box 129 = .ok (.iastore, 1) := by decide +kernel
theorem dX6_box_130 : decode cX6_box 130 = .ok (.aload_n 0, 1) := by decide +kernel
theorem dX6_box_131 : decode cX6_box 131 = .ok (.getfield 44, 3) := by decide +kernel
theorem dX6_box_134 : decode cX6_box 134 = .ok (.aload_n 0, 1) := by decide +kernel
theorem dX6_box_135 : decode cX6_box 135 = .ok (.getfield 99, 3) := by decide +kernel
theorem dX6_box_138 : decode cX6_box 138 = .ok (.iload 4, 2) := by decide +kernel
theorem dX6_box_140 : decode cX6_box 140 = .ok (.iastore, 1) := by decide +kernel
theorem dX6_box_141 : decode cX6_box 141 = .ok (.aload_n 0, 1) := by decide +kernel
theorem dX6_box_142 : decode cX6_box 142 = .ok (.getfield 47, 3) := by decide +kernel
theorem dX6_box_145 : decode cX6_box 145 = .ok (.aload_n 0, 1) := by decide +kernel
theorem dX6_box_146 : decode cX6_box 146 = .ok (.getfield 99, 3) := by decide +kernel
theorem dX6_box_149 : decode cX6_box 149 = .ok (.iload 5, 2) := by decide +kernel
theorem dX6_box_151 : decode cX6_box 151 = .ok (.iastore, 1) := by decide +kernel
theorem dX6_box_152 : decode cX6_box 152 = .ok (.aload_n 0, 1) := by decide +kernel
theorem dX6_box_153 : decode cX6_box 153 = .ok (.getfield 50, 3) := by decide +kernel
theorem dX6_box_156 : decode cX6_box 156 = .ok (.aload_n 0, 1) := by decide +kernel
theorem dX6_box_157 : decode cX6_box 157 = .ok (.getfield 99, 3) := by decide +kernel
theorem dX6_box_160 : decode cX6_box 160 = .ok (.iload 6, 2) := by decide +kernel
theorem dX6_box_162 : decode cX6_box 162 = .ok (.iastore, 1) := by decide +kernel
theorem dX6_box_163 : decode cX6_box 163 = .ok (.aload_n 0, 1) := by decide +kernel
theorem dX6_box_164 : decode cX6_box 164 = .ok (.getfield 68, 3) := by decide +kernel
theorem dX6_box_167 : decode cX6_box 167 = .ok (.iconst 2, 1) := by decide +kernel
theorem dX6_box_168 : decode cX6_box 168 = .ok (.aload_n 0, 1) := by decide +kernel
theorem dX6_box_169 : decode cX6_box 169 = .ok (.getfield 99, 3) := by decide +kernel
theorem dX6_box_172 : decode cX6_box 172 = .ok (.imul, 1) := by decide +kernel
theorem dX6_box_173 : decode cX6_box 173 = .ok (.iconst (-1), 1) := by decide +kernel
theorem dX6_box_174 : decode cX6_box 174 = .ok (.iastore, 1) := by decide +kernel
theorem dX6_box_175 : decode cX6_box 175 = .ok (.aload_n 0, 1) := by decide +kernel
theorem dX6_box_176 : decode cX6_box 176 = .ok (.getfield 68, 3) := by decide +kernel
theorem dX6_box_179 : decode cX6_box 179 = .ok (.iconst 2, 1) := by decide +kernel
theorem dX6_box_180 : decode cX6_box 180 = .ok (.aload_n 0, 1) := by decide +kernel
theorem dX6_box_181 : decode cX6_box 181 = .ok (.getfield 99, 3) := by decide +kernel
theorem dX6_box_184 : decode cX6_box 184 = .ok (.imul, 1) := by decide +kernel
theorem dX6_box_185 : decode cX6_box 185 = .ok (.iconst 1, 1) := by decide +kernel
theorem dX6_box_186 : decode cX6_box 186 = .ok (.iadd, 1) := by decide +kernel
theorem dX6_box_187 : decode cX6_box 187 = .ok (.iconst (-1), 1) := by decide +kernel
theorem dX6_box_188 : decode cX6_box 188 = .ok (.iastore, 1) := by decide +kernel
theorem dX6_box_189 : decode cX6_box 189 = .ok (.aload_n 0, 1) := by decide +kernel
theorem dX6_box_190 : decode cX6_box 190 = .ok (.dup, 1) := by decide +kernel
theorem dX6_box_191 : decode cX6_box 191 = .ok (.getfield 99, 3) := by decide +kernel
theorem dX6_box_194 : decode cX6_box 194 = .ok (.iconst 1, 1) := by decide +kernel
theorem dX6_box_195 : decode cX6_box 195 = .ok (.iadd, 1) := by decide +kernel
theorem dX6_box_196 : decode cX6_box 196 = .ok (.putfield 99, 3) := by decide +kernel
theorem dX6_box_199 : decode cX6_box 199 = .ok (.aload_n 0, 1) := by decide +kernel
theorem dX6_box_200 : decode cX6_box 200 = .ok (.getfield 99, 3) := by decide +kernel
theorem dX6_box_203 : decode cX6_box 203 = .ok (.iconst 1, 1) := by decide +kernel
theorem dX6_box_204 : decode cX6_box 204 = .ok (.isub, 1) := by decide +kernel
theorem dX6_box_205 : decode cX6_box 205 = .ok (.ireturn, 1) := by decide +kernel
theorem dX6_wayOf_0 : decode cX6_wayOf 0 = .ok (.iconst 2, 1) := by decide +kernel
theorem dX6_wayOf_1 : decode cX6_wayOf 1 = .ok (.iload_n 1, 1) := by decide +kernel
theorem dX6_wayOf_2 : decode cX6_wayOf 2 = .ok (.imul, 1) := by decide +kernel
theorem dX6_wayOf_3 : decode cX6_wayOf 3 = .ok (.aload_n 0, 1) := by decide +kernel
theorem dX6_wayOf_4 : decode cX6_wayOf 4 = .ok (.getfield 56, 3) := by decide +kernel
theorem dX6_wayOf_7 : decode cX6_wayOf 7 = .ok (.iload_n 1, 1) := by decide +kernel
theorem dX6_wayOf_8 : decode cX6_wayOf 8 = .ok (.baload, 1) := by decide +kernel
theorem dX6_wayOf_9 : decode cX6_wayOf 9 = .ok (.ifCond .eq 7, 3) := by decide +kernel
theorem dX6_wayOf_12 : decode cX6_wayOf 12 = .ok (.iconst 1, 1) := by decide +kernel
theorem dX6_wayOf_13 : decode cX6_wayOf 13 = .ok (.goto 4, 3) := by decide +kernel
theorem dX6_wayOf_16 : decode cX6_wayOf 16 = .ok (.iconst 0, 1) := by decide +kernel
theorem dX6_wayOf_17 : decode cX6_wayOf 17 = .ok (.iadd, 1) := by decide +kernel
theorem dX6_wayOf_18 : decode cX6_wayOf 18 = .ok (.ireturn, 1) := by decide +kernel
theorem dX6_fromOf_0 : decode cX6_fromOf 0 = .ok (.aload_n 0, 1) := by decide +kernel
theorem dX6_fromOf_1 : decode cX6_fromOf 1 = .ok (.getfield 56, 3) := by decide +kernel
theorem dX6_fromOf_4 : decode cX6_fromOf 4 = .ok (.iload_n 1, 1) := by decide +kernel
theorem dX6_fromOf_5 : decode cX6_fromOf 5 = .ok (.baload, 1) := by decide +kernel
theorem dX6_fromOf_6 : decode cX6_fromOf 6 = .ok (.ifCond .eq 12, 3) := by decide +kernel
theorem dX6_fromOf_9 : decode cX6_fromOf 9 = .ok (.aload_n 0, 1) := by decide +kernel
theorem dX6_fromOf_10 : decode cX6_fromOf 10 = .ok (.getfield 44, 3) := by decide +kernel
theorem dX6_fromOf_13 : decode cX6_fromOf 13 = .ok (.iload_n 1, 1) := by decide +kernel
theorem dX6_fromOf_14 : decode cX6_fromOf 14 = .ok (.iaload, 1) := by decide +kernel
theorem dX6_fromOf_15 : decode cX6_fromOf 15 = .ok (.goto 9, 3) := by decide +kernel
theorem dX6_fromOf_18 : decode cX6_fromOf 18 = .ok (.aload_n 0, 1) := by decide +kernel
theorem dX6_fromOf_19 : decode cX6_fromOf 19 = .ok (.getfield 35, 3) := by decide +kernel
theorem dX6_fromOf_22 : decode cX6_fromOf 22 = .ok (.iload_n 1, 1) := by decide +kernel
theorem dX6_fromOf_23 : decode cX6_fromOf 23 = .ok (.iaload, 1) := by decide +kernel
theorem dX6_fromOf_24 : decode cX6_fromOf 24 = .ok (.ireturn, 1) := by decide +kernel
theorem dX6_toOf_0 : decode cX6_toOf 0 = .ok (.aload_n 0, 1) := by decide +kernel
theorem dX6_toOf_1 : decode cX6_toOf 1 = .ok (.getfield 56, 3) := by decide +kernel
theorem dX6_toOf_4 : decode cX6_toOf 4 = .ok (.iload_n 1, 1) := by decide +kernel
theorem dX6_toOf_5 : decode cX6_toOf 5 = .ok (.baload, 1) := by decide +kernel
theorem dX6_toOf_6 : decode cX6_toOf 6 = .ok (.ifCond .eq 12, 3) := by decide +kernel
theorem dX6_toOf_9 : decode cX6_toOf 9 = .ok (.aload_n 0, 1) := by decide +kernel
theorem dX6_toOf_10 : decode cX6_toOf 10 = .ok (.getfield 35, 3) := by decide +kernel
theorem dX6_toOf_13 : decode cX6_toOf 13 = .ok (.iload_n 1, 1) := by decide +kernel
theorem dX6_toOf_14 : decode cX6_toOf 14 = .ok (.iaload, 1) := by decide +kernel
theorem dX6_toOf_15 : decode cX6_toOf 15 = .ok (.goto 9, 3) := by decide +kernel
theorem dX6_toOf_18 : decode cX6_toOf 18 = .ok (.aload_n 0, 1) := by decide +kernel
theorem dX6_toOf_19 : decode cX6_toOf 19 = .ok (.getfield 44, 3) := by decide +kernel
theorem dX6_toOf_22 : decode cX6_toOf 22 = .ok (.iload_n 1, 1) := by decide +kernel
theorem dX6_toOf_23 : decode cX6_toOf 23 = .ok (.iaload, 1) := by decide +kernel
theorem dX6_toOf_24 : decode cX6_toOf 24 = .ok (.ireturn, 1) := by decide +kernel
theorem dX6_readyOf_0 : decode cX6_readyOf 0 = .ok (.aload_n 0, 1) := by decide +kernel
theorem dX6_readyOf_1 : decode cX6_readyOf 1 = .ok (.getfield 56, 3) := by decide +kernel
theorem dX6_readyOf_4 : decode cX6_readyOf 4 = .ok (.iload_n 1, 1) := by decide +kernel
theorem dX6_readyOf_5 : decode cX6_readyOf 5 = .ok (.baload, 1) := by decide +kernel
theorem dX6_readyOf_6 : decode cX6_readyOf 6 = .ok (.ifCond .eq 12, 3) := by decide +kernel
theorem dX6_readyOf_9 : decode cX6_readyOf 9 = .ok (.aload_n 0, 1) := by decide +kernel
theorem dX6_readyOf_10 : decode cX6_readyOf 10 = .ok (.getfield 53, 3) := by decide +kernel
theorem dX6_readyOf_13 : decode cX6_readyOf 13 = .ok (.iload_n 1, 1) := by decide +kernel
theorem dX6_readyOf_14 : decode cX6_readyOf 14 = .ok (.iaload, 1) := by decide +kernel
theorem dX6_readyOf_15 : decode cX6_readyOf 15 = .ok (.goto 9, 3) := by decide +kernel
theorem dX6_readyOf_18 : decode cX6_readyOf 18 = .ok (.aload_n 0, 1) := by decide +kernel
theorem dX6_readyOf_19 : decode cX6_readyOf 19 = .ok (.getfield 41, 3) := by decide +kernel
theorem dX6_readyOf_22 : decode cX6_readyOf 22 = .ok (.iload_n 1, 1) := by decide +kernel
theorem dX6_readyOf_23 : decode cX6_readyOf 23 = .ok (.iaload, 1) := by decide +kernel
theorem dX6_readyOf_24 : decode cX6_readyOf 24 = .ok (.ireturn, 1) := by decide +kernel
theorem dX6_sortedAt_0 : decode cX6_sortedAt 0 = .ok (.aload_n 0, 1) := by decide +kernel
theorem dX6_sortedAt_1 : decode cX6_sortedAt 1 = .ok (.iload_n 1, 1) := by decide +kernel
theorem dX6_sortedAt_2 : decode cX6_sortedAt 2 = .ok (.invokevirtual 117, 3) := by decide +kernel
theorem dX6_sortedAt_5 : decode cX6_sortedAt 5 = .ok (.aload_n 0, 1) := by decide +kernel
theorem dX6_sortedAt_6 : decode cX6_sortedAt 6 = .ok (.getfield 56, 3) := by decide +kernel
theorem dX6_sortedAt_9 : decode cX6_sortedAt 9 = .ok (.iload_n 1, 1) := by decide +kernel
theorem dX6_sortedAt_10 : decode cX6_sortedAt 10 = .ok (.baload, 1) := by decide +kernel
theorem dX6_sortedAt_11 : decode cX6_sortedAt 11 = .ok (.ifCond .eq 12, 3) := by decide +kernel
theorem dX6_sortedAt_14 : decode cX6_sortedAt 14 = .ok (.aload_n 0, 1) := by decide +kernel
theorem dX6_sortedAt_15 : decode cX6_sortedAt 15 = .ok (.getfield 47, 3) := by decide +kernel
theorem dX6_sortedAt_18 : decode cX6_sortedAt 18 = .ok (.iload_n 1, 1) := by decide +kernel
theorem dX6_sortedAt_19 : decode cX6_sortedAt 19 = .ok (.iaload, 1) := by decide +kernel
theorem dX6_sortedAt_20 : decode cX6_sortedAt 20 = .ok (.goto 9, 3) := by decide +kernel
theorem dX6_sortedAt_23 : decode cX6_sortedAt 23 = .ok (.aload_n 0, 1) := by decide +kernel
theorem dX6_sortedAt_24 : decode cX6_sortedAt 24 = .ok (.getfield 38, 3) := by decide +kernel
theorem dX6_sortedAt_27 : decode cX6_sortedAt 27 = .ok (.iload_n 1, 1) := by decide +kernel
theorem dX6_sortedAt_28 : decode cX6_sortedAt 28 = .ok (.iaload, 1) := by decide +kernel
theorem dX6_sortedAt_29 : decode cX6_sortedAt 29 = .ok (.iadd, 1) := by decide +kernel
theorem dX6_sortedAt_30 : decode cX6_sortedAt 30 = .ok (.aload_n 0, 1) := by decide +kernel
theorem dX6_sortedAt_31 : decode cX6_sortedAt 31 = .ok (.getfield 9, 3) := by decide +kernel
theorem dX6_sortedAt_34 : decode cX6_sortedAt 34 = .ok (.aload_n 0, 1) := by decide +kernel
theorem dX6_sortedAt_35 : decode cX6_sortedAt 35 = .ok (.iload_n 1, 1) := by decide +kernel
theorem dX6_sortedAt_36 : decode cX6_sortedAt 36 = .ok (.invokevirtual 121, 3) := by decide +kernel
theorem dX6_sortedAt_39 : decode cX6_sortedAt 39 = .ok (.iaload, 1) := by decide +kernel
theorem dX6_sortedAt_40 : decode cX6_sortedAt 40 = .ok (.iadd, 1) := by decide +kernel
theorem dX6_sortedAt_41 : decode cX6_sortedAt 41 = .ok (.ireturn, 1) := by decide +kernel
theorem dX6_legAt_0 : decode cX6_legAt 0 = .ok (.iconst 3, 1) := by decide +kernel
theorem dX6_legAt_1 : decode cX6_legAt 1 = .ok (.iload_n 0, 1) := by decide +kernel
theorem dX6_legAt_2 : decode cX6_legAt 2 = .ok (.imul, 1) := by decide +kernel
theorem dX6_legAt_3 : decode cX6_legAt 3 = .ok (.iload_n 1, 1) := by decide +kernel
theorem dX6_legAt_4 : decode cX6_legAt 4 = .ok (.iadd, 1) := by decide +kernel
theorem dX6_legAt_5 : decode cX6_legAt 5 = .ok (.ireturn, 1) := by decide +kernel
theorem dX6_behind_0 : decode cX6_behind 0 = .ok (.aload_n 0, 1) := by decide +kernel
theorem dX6_behind_1 : decode cX6_behind 1 = .ok (.getfield 74, 3) := by decide +kernel
theorem dX6_behind_4 : decode cX6_behind 4 = .ok (.iload_n 1, 1) := by decide +kernel
theorem dX6_behind_5 : decode cX6_behind 5 = .ok (.iaload, 1) := by decide +kernel
theorem dX6_behind_6 : decode cX6_behind 6 = .ok (.aload_n 0, 1) := by decide +kernel
theorem dX6_behind_7 : decode cX6_behind 7 = .ok (.getfield 80, 3) := by decide +kernel
theorem dX6_behind_10 : decode cX6_behind 10 = .ok (.iload_n 1, 1) := by decide +kernel
theorem dX6_behind_11 : decode cX6_behind 11 = .ok (.iaload, 1) := by decide +kernel
theorem dX6_behind_12 : decode cX6_behind 12 = .ok (.invokestatic 113, 3) := by decide +kernel
theorem dX6_behind_15 : decode cX6_behind 15 = .ok (.istore_n 2, 1) := by decide +kernel
theorem dX6_behind_16 : decode cX6_behind 16 = .ok (.aload_n 0, 1) := by decide +kernel
theorem dX6_behind_17 : decode cX6_behind 17 = .ok (.getfield 22, 3) := by decide +kernel
theorem dX6_behind_20 : decode cX6_behind 20 = .ok (.iload_n 2, 1) := by decide +kernel
theorem dX6_behind_21 : decode cX6_behind 21 = .ok (.iaload, 1) := by decide +kernel
theorem dX6_behind_22 : decode cX6_behind 22 = .ok (.aload_n 0, 1) := by decide +kernel
theorem dX6_behind_23 : decode cX6_behind 23 = .ok (.getfield 9, 3) := by decide +kernel
theorem dX6_behind_26 : decode cX6_behind 26 = .ok (.aload_n 0, 1) := by decide +kernel
theorem dX6_behind_27 : decode cX6_behind 27 = .ok (.getfield 19, 3) := by decide +kernel
theorem dX6_behind_30 : decode cX6_behind 30 = .ok (.iload_n 2, 1) := by decide +kernel
theorem dX6_behind_31 : decode cX6_behind 31 = .ok (.iaload, 1) := by decide +kernel
theorem dX6_behind_32 : decode cX6_behind 32 = .ok (.iaload, 1) := by decide +kernel
theorem dX6_behind_33 : decode cX6_behind 33 = .ok (.iadd, 1) := by decide +kernel
theorem dX6_behind_34 : decode cX6_behind 34 = .ok (.ireturn, 1) := by decide +kernel
theorem dX6_there_0 : decode cX6_there 0 = .ok (.aload_n 0, 1) := by decide +kernel
theorem dX6_there_1 : decode cX6_there 1 = .ok (.getfield 65, 3) := by decide +kernel
theorem dX6_there_4 : decode cX6_there 4 = .ok (.iload_n 1, 1) := by decide +kernel
theorem dX6_there_5 : decode cX6_there 5 = .ok (.iaload, 1) := by decide +kernel
theorem dX6_there_6 : decode cX6_there 6 = .ok (.ifCond .ne 11, 3) := by decide +kernel
theorem dX6_there_9 : decode cX6_there 9 = .ok (.aload_n 0, 1) := by decide +kernel
theorem dX6_there_10 : decode cX6_there 10 = .ok (.iload_n 2, 1) := by decide +kernel
theorem dX6_there_11 : decode cX6_there 11 = .ok (.invokevirtual 124, 3) := by decide +kernel
theorem dX6_there_14 : decode cX6_there 14 = .ok (.goto 19, 3) := by decide +kernel
theorem dX6_there_17 : decode cX6_there 17 = .ok (.aload_n 0, 1) := by decide +kernel
theorem dX6_there_18 : decode cX6_there 18 = .ok (.iload_n 1, 1) := by decide +kernel
theorem dX6_there_19 : decode cX6_there 19 = .ok (.aload_n 0, 1) := by decide +kernel
theorem dX6_there_20 : decode cX6_there 20 = .ok (.getfield 65, 3) := by decide +kernel
theorem dX6_there_23 : decode cX6_there 23 = .ok (.iload_n 1, 1) := by decide +kernel
theorem dX6_there_24 : decode cX6_there 24 = .ok (.iaload, 1) := by decide +kernel
theorem dX6_there_25 : decode cX6_there 25 = .ok (.iconst 1, 1) := by decide +kernel
theorem dX6_there_26 : decode cX6_there 26 = .ok (.isub, 1) := by decide +kernel
theorem dX6_there_27 : decode cX6_there 27 = .ok (.invokestatic 127, 3) := by decide +kernel
theorem dX6_there_30 : decode cX6_there 30 = .ok (.invokevirtual 130, 3) := by decide +kernel
theorem dX6_there_33 : decode cX6_there 33 = .ok (.ireturn, 1) := by decide +kernel
theorem dX6_arrives_0 : decode cX6_arrives 0 = .ok (.aload_n 0, 1) := by decide +kernel
theorem dX6_arrives_1 : decode cX6_arrives 1 = .ok (.iload_n 1, 1) := by decide +kernel
theorem dX6_arrives_2 : decode cX6_arrives 2 = .ok (.invokevirtual 133, 3) := by decide +kernel
theorem dX6_arrives_5 : decode cX6_arrives 5 = .ok (.istore_n 2, 1) := by decide +kernel
theorem dX6_arrives_6 : decode cX6_arrives 6 = .ok (.aload_n 0, 1) := by decide +kernel
theorem dX6_arrives_7 : decode cX6_arrives 7 = .ok (.getfield 62, 3) := by decide +kernel
theorem dX6_arrives_10 : decode cX6_arrives 10 = .ok (.iload_n 2, 1) := by decide +kernel
theorem dX6_arrives_11 : decode cX6_arrives 11 = .ok (.baload, 1) := by decide +kernel
theorem dX6_arrives_12 : decode cX6_arrives 12 = .ok (.ifCond .eq 37, 3) := by decide +kernel
theorem dX6_arrives_15 : decode cX6_arrives 15 = .ok (.aload_n 0, 1) := by decide +kernel
theorem dX6_arrives_16 : decode cX6_arrives 16 = .ok (.iload_n 2, 1) := by decide +kernel
theorem dX6_arrives_17 : decode cX6_arrives 17 = .ok (.iload_n 1, 1) := by decide +kernel
theorem dX6_arrives_18 : decode cX6_arrives 18 = .ok (.invokevirtual 136, 3) := by decide +kernel
theorem dX6_arrives_21 : decode cX6_arrives 21 = .ok (.aload_n 0, 1) := by decide +kernel
theorem dX6_arrives_22 : decode cX6_arrives 22 = .ok (.getfield 56, 3) := by decide +kernel
theorem dX6_arrives_25 : decode cX6_arrives 25 = .ok (.iload_n 1, 1) := by decide +kernel
theorem dX6_arrives_26 : decode cX6_arrives 26 = .ok (.baload, 1) := by decide +kernel
theorem dX6_arrives_27 : decode cX6_arrives 27 = .ok (.ifCond .eq 12, 3) := by decide +kernel
theorem dX6_arrives_30 : decode cX6_arrives 30 = .ok (.aload_n 0, 1) := by decide +kernel
theorem dX6_arrives_31 : decode cX6_arrives 31 = .ok (.getfield 38, 3) := by decide +kernel
theorem dX6_arrives_34 : decode cX6_arrives 34 = .ok (.iload_n 1, 1) := by decide +kernel
theorem dX6_arrives_35 : decode cX6_arrives 35 = .ok (.iaload, 1) := by decide +kernel
theorem dX6_arrives_36 : decode cX6_arrives 36 = .ok (.goto 9, 3) := by decide +kernel
theorem dX6_arrives_39 : decode cX6_arrives 39 = .ok (.aload_n 0, 1) := by decide +kernel
theorem dX6_arrives_40 : decode cX6_arrives 40 = .ok (.getfield 47, 3) := by decide +kernel
theorem dX6_arrives_43 : decode cX6_arrives 43 = .ok (.iload_n 1, 1) := by decide +kernel
theorem dX6_arrives_44 : decode cX6_arrives 44 = .ok (.iaload, 1) := by decide +kernel
theorem dX6_arrives_45 : decode cX6_arrives 45 = .ok (.iadd, 1) := by decide +kernel
theorem dX6_arrives_46 : decode cX6_arrives 46 = .ok (.goto 4, 3) := by decide +kernel
theorem dX6_arrives_49 : decode cX6_arrives 49 = .ok (.iconst (-1), 1) := by decide +kernel
theorem dX6_arrives_50 : decode cX6_arrives 50 = .ok (.ireturn, 1) := by decide +kernel
theorem dX6_isFree_0 : decode cX6_isFree 0 = .ok (.aload_n 0, 1) := by decide +kernel
theorem dX6_isFree_1 : decode cX6_isFree 1 = .ok (.getfield 31, 3) := by decide +kernel
theorem dX6_isFree_4 : decode cX6_isFree 4 = .ok (.iload_n 1, 1) := by decide +kernel
theorem dX6_isFree_5 : decode cX6_isFree 5 = .ok (.baload, 1) := by decide +kernel
theorem dX6_isFree_6 : decode cX6_isFree 6 = .ok (.ifCond .ne 26, 3) := by decide +kernel
theorem dX6_isFree_9 : decode cX6_isFree 9 = .ok (.aload_n 0, 1) := by decide +kernel
theorem dX6_isFree_10 : decode cX6_isFree 10 = .ok (.getfield 25, 3) := by decide +kernel
theorem dX6_isFree_13 : decode cX6_isFree 13 = .ok (.iload_n 1, 1) := by decide +kernel
theorem dX6_isFree_14 : decode cX6_isFree 14 = .ok (.iload_n 2, 1) := by decide +kernel
theorem dX6_isFree_15 : decode cX6_isFree 15 = .ok (.invokestatic 113, 3) := by decide +kernel
theorem dX6_isFree_18 : decode cX6_isFree 18 = .ok (.iaload, 1) := by decide +kernel
theorem dX6_isFree_19 : decode cX6_isFree 19 = .ok (.aload_n 0, 1) := by decide +kernel
theorem dX6_isFree_20 : decode cX6_isFree 20 = .ok (.getfield 13, 3) := by decide +kernel
theorem dX6_isFree_23 : decode cX6_isFree 23 = .ok (.iload_n 1, 1) := by decide +kernel
theorem dX6_isFree_24 : decode cX6_isFree 24 = .ok (.iaload, 1) := by decide +kernel
theorem dX6_isFree_25 : decode cX6_isFree 25 = .ok (.if_icmp .ge 7, 3) := by decide +kernel
theorem dX6_isFree_28 : decode cX6_isFree 28 = .ok (.iconst 1, 1) := by decide +kernel
theorem dX6_isFree_29 : decode cX6_isFree 29 = .ok (.goto 4, 3) := by decide +kernel
theorem dX6_isFree_32 : decode cX6_isFree 32 = .ok (.iconst 0, 1) := by decide +kernel
theorem dX6_isFree_33 : decode cX6_isFree 33 = .ok (.ireturn, 1) := by decide +kernel
