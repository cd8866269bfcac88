theorem dX0_init_0 : decode cX0_init 0 = .ok (.aload_n 0, 1) := by decide +kernel
theorem dX0_init_1 : decode cX0_init 1 = .ok (.invokespecial 1, 3) := by decide +kernel
theorem dX0_init_4 : decode cX0_init 4 = .ok (.aload_n 0, 1) := by decide +kernel
theorem dX0_init_5 : decode cX0_init 5 = .ok (.aload_n 1, 1) := by decide +kernel
theorem dX0_init_6 : decode cX0_init 6 = .ok (.putfield 7, 3) := by decide +kernel
theorem dX0_init_9 : decode cX0_init 9 = .ok (.aload_n 0, 1) := by decide +kernel
theorem dX0_init_10 : decode cX0_init 10 = .ok (.aconst_null, 1) := by decide +kernel
theorem dX0_init_11 : decode cX0_init 11 = .ok (.putfield 13, 3) := by decide +kernel
theorem dX0_init_14 : decode cX0_init 14 = .ok (.return_, 1) := by decide +kernel
theorem dX0_isEmpty_0 : decode cX0_isEmpty 0 = .ok (.aload_n 0, 1) := by decide +kernel
theorem dX0_isEmpty_1 : decode cX0_isEmpty 1 = .ok (.getfield 13, 3) := by decide +kernel
theorem dX0_isEmpty_4 : decode cX0_isEmpty 4 = .ok (.ifnull 7, 3) := by decide +kernel
theorem dX0_isEmpty_7 : decode cX0_isEmpty 7 = .ok (.iconst 1, 1) := by decide +kernel
theorem dX0_isEmpty_8 : decode cX0_isEmpty 8 = .ok (.goto 4, 3) := by decide +kernel
theorem dX0_isEmpty_11 : decode cX0_isEmpty 11 = .ok (.iconst 0, 1) := by decide +kernel
theorem dX0_isEmpty_12 : decode cX0_isEmpty 12 = .ok (.ireturn, 1) := by decide +kernel
theorem dX0_current_0 : decode cX0_current 0 = .ok (.aload_n 0, 1) := by decide +kernel
theorem dX0_current_1 : decode cX0_current 1 = .ok (.getfield 13, 3) := by decide +kernel
theorem dX0_current_4 : decode cX0_current 4 = .ok (.ifnonnull 10, 3) := by decide +kernel
theorem dX0_current_7 : decode cX0_current 7 = .ok (.aload_n 0, 1) := by decide +kernel
theorem dX0_current_8 : decode cX0_current 8 = .ok (.getfield 7, 3) := by decide +kernel
theorem dX0_current_11 : decode cX0_current 11 = .ok (.goto 7, 3) := by decide +kernel
theorem dX0_current_14 : decode cX0_current 14 = .ok (.aload_n 0, 1) := by decide +kernel
theorem dX0_current_15 : decode cX0_current 15 = .ok (.getfield 13, 3) := by decide +kernel
theorem dX0_current_18 : decode cX0_current 18 = .ok (.areturn, 1) := by decide +kernel
theorem dX0_ledLegs_0 : decode cX0_ledLegs 0 = .ok (.aload_n 0, 1) := by decide +kernel
theorem dX0_ledLegs_1 : decode cX0_ledLegs 1 = .ok (.getfield 13, 3) := by decide +kernel
theorem dX0_ledLegs_4 : decode cX0_ledLegs 4 = .ok (.ifnonnull 13, 3) := by decide +kernel
theorem dX0_ledLegs_7 : decode cX0_ledLegs 7 = .ok (.aload_n 0, 1) := by decide +kernel
theorem dX0_ledLegs_8 : decode cX0_ledLegs 8 = .ok (.getfield 7, 3) := by decide +kernel
theorem dX0_ledLegs_11 : decode cX0_ledLegs 11 = .ok (.getfield 16, 3) := by decide +kernel
theorem dX0_ledLegs_14 : decode cX0_ledLegs 14 = .ok (.goto 18, 3) := by decide +kernel
theorem dX0_ledLegs_17 : decode cX0_ledLegs 17 = .ok (.aload_n 0, 1) := by decide +kernel
theorem dX0_ledLegs_18 : decode cX0_ledLegs 18 = .ok (.getfield 7, 3) := by decide +kernel
theorem dX0_ledLegs_21 : decode cX0_ledLegs 21 = .ok (.getfield 16, 3) := by decide +kernel
theorem dX0_ledLegs_24 : decode cX0_ledLegs 24 = .ok (.aload_n 0, 1) := by decide +kernel
theorem dX0_ledLegs_25 : decode cX0_ledLegs 25 = .ok (.getfield 13, 3) := by decide +kernel
theorem dX0_ledLegs_28 : decode cX0_ledLegs 28 = .ok (.getfield 16, 3) := by decide +kernel
theorem dX0_ledLegs_31 : decode cX0_ledLegs 31 = .ok (.iadd, 1) := by decide +kernel
theorem dX0_ledLegs_32 : decode cX0_ledLegs 32 = .ok (.ireturn, 1) := by decide +kernel
theorem dX0_ledLeg_0 : decode cX0_ledLeg 0 = .ok (.aload_n 0, 1) := by decide +kernel
theorem dX0_ledLeg_1 : decode cX0_ledLeg 1 = .ok (.getfield 13, 3) := by decide +kernel
theorem dX0_ledLeg_4 : decode cX0_ledLeg 4 = .ok (.ifnull 14, 3) := by decide +kernel
theorem dX0_ledLeg_7 : decode cX0_ledLeg 7 = .ok (.iload_n 1, 1) := by decide +kernel
theorem dX0_ledLeg_8 : decode cX0_ledLeg 8 = .ok (.aload_n 0, 1) := by decide +kernel
theorem dX0_ledLeg_9 : decode cX0_ledLeg 9 = .ok (.getfield 7, 3) := by decide +kernel
theorem dX0_ledLeg_12 : decode cX0_ledLeg 12 = .ok (.getfield 16, 3) := by decide +kernel
theorem dX0_ledLeg_15 : decode cX0_ledLeg 15 = .ok (.if_icmp .ge 13, 3) := by decide +kernel
theorem dX0_ledLeg_18 : decode cX0_ledLeg 18 = .ok (.aload_n 0, 1) := by decide +kernel
theorem dX0_ledLeg_19 : decode cX0_ledLeg 19 = .ok (.getfield 7, 3) := by decide +kernel
theorem dX0_ledLeg_22 : decode cX0_ledLeg 22 = .ok (.iload_n 1, 1) := by decide +kernel
theorem dX0_ledLeg_23 : decode cX0_ledLeg 23 = .ok (.iload_n 2, 1) := by decide +kernel
theorem dX0_ledLeg_24 : decode cX0_ledLeg 24 = .ok (.invokevirtual 22, 3) := by decide +kernel
theorem dX0_ledLeg_27 : decode cX0_ledLeg 27 = .ok (.ireturn, 1) := by decide +kernel
theorem dX0_ledLeg_28 : decode cX0_ledLeg 28 = .ok (.aload_n 0, 1) := by decide +kernel
theorem dX0_ledLeg_29 : decode cX0_ledLeg 29 = .ok (.getfield 13, 3) := by decide +kernel
theorem dX0_ledLeg_32 : decode cX0_ledLeg 32 = .ok (.iload_n 1, 1) := by decide +kernel
theorem dX0_ledLeg_33 : decode cX0_ledLeg 33 = .ok (.aload_n 0, 1) := by decide +kernel
theorem dX0_ledLeg_34 : decode cX0_ledLeg 34 = .ok (.getfield 7, 3) := by decide +kernel
theorem dX0_ledLeg_37 : decode cX0_ledLeg 37 = .ok (.getfield 16, 3) := by decide +kernel
theorem dX0_ledLeg_40 : decode cX0_ledLeg 40 = .ok (.isub, 1) := by decide +kernel
theorem dX0_ledLeg_41 : decode cX0_ledLeg 41 = .ok (.iload_n 2, 1) := by decide +kernel
theorem dX0_ledLeg_42 : decode cX0_ledLeg 42 = .ok (.invokevirtual 22, 3) := by decide +kernel
theorem dX0_ledLeg_45 : decode cX0_ledLeg 45 = .ok (.ireturn, 1) := by decide +kernel
theorem dX1_init_0 : decode cX1_init 0 = .ok (.aload_n 0, 1) := by decide +kernel
theorem dX1_init_1 : decode cX1_init 1 = .ok (.invokespecial 3, 3) := by decide +kernel
theorem dX1_init_4 : decode cX1_init 4 = .ok (.aload_n 0, 1) := by decide +kernel
theorem dX1_init_5 : decode cX1_init 5 = .ok (.bipush 40, 2) := by decide +kernel
theorem dX1_init_7 : decode cX1_init 7 = .ok (.newarray .int, 2) := by decide +kernel
theorem dX1_init_9 : decode cX1_init 9 = .ok (.putfield 9, 3) := by decide +kernel
theorem dX1_init_12 : decode cX1_init 12 = .ok (.aload_n 0, 1) := by decide +kernel
theorem dX1_init_13 : decode cX1_init 13 = .ok (.iconst 0, 1) := by decide +kernel
theorem dX1_init_14 : decode cX1_init 14 = .ok (.putfield 15, 3) := by decide +kernel
theorem dX1_init_17 : decode cX1_init 17 = .ok (.return_, 1) := by decide +kernel
theorem dX1_addCarrier_0 : decode cX1_addCarrier 0 = .ok (.aload_n 0, 1) := by decide +kernel
theorem dX1_addCarrier_1 : decode cX1_addCarrier 1 = .ok (.getfield 15, 3) := by decide +kernel
theorem dX1_addCarrier_4 : decode cX1_addCarrier 4 = .ok (.bipush 40, 2) := by decide +kernel
theorem dX1_addCarrier_6 : decode cX1_addCarrier 6 = .ok (.if_icmp .lt 5, 3) := by decide +kernel
theorem dX1_addCarrier_9 : decode cX1_addCarrier 9 = .ok (.iconst (-1), 1) := by decide +kernel
theorem dX1_addCarrier_10 : decode cX1_addCarrier 10 = .ok (.ireturn, 1) := by decide +kernel
theorem dX1_addCarrier_11 : decode cX1_addCarrier 11 = .ok (.aload_n 0, 1) := by decide +kernel
theorem dX1_addCarrier_12 : decode cX1_addCarrier 12 = .ok (.getfield 9, 3) := by decide +kernel
theorem dX1_addCarrier_15 : decode cX1_addCarrier 15 = .ok (.aload_n 0, 1) := by decide +kernel
theorem dX1_addCarrier_16 : decode cX1_addCarrier 16 = .ok (.getfield 15, 3) := by decide +kernel
theorem dX1_addCarrier_19 : decode cX1_addCarrier 19 = .ok (.iload_n 1, 1) := by decide +kernel
theorem dX1_addCarrier_20 : decode cX1_addCarrier 20 = .ok (.iastore, 1) := by decide +kernel
theorem dX1_addCarrier_21 : decode cX1_addCarrier 21 = .ok (.aload_n 0, 1) := by decide +kernel
theorem dX1_addCarrier_22 : decode cX1_addCarrier 22 = .ok (.dup, 1) := by decide +kernel
theorem dX1_addCarrier_23 : decode cX1_addCarrier 23 = .ok (.getfield 15, 3) := by decide +kernel
theorem dX1_addCarrier_26 : decode cX1_addCarrier 26 = .ok (.iconst 1, 1) := by decide +kernel
theorem dX1_addCarrier_27 : decode cX1_addCarrier 27 = .ok (.iadd, 1) := by decide +kernel
theorem dX1_addCarrier_28 : decode cX1_addCarrier 28 = .ok (.putfield 15, 3) := by decide +kernel
theorem dX1_addCarrier_31 : decode cX1_addCarrier 31 = .ok (.aload_n 0, 1) := by decide +kernel
theorem dX1_addCarrier_32 : decode cX1_addCarrier 32 = .ok (.getfield 15, 3) := by decide +kernel
theorem dX1_addCarrier_35 : decode cX1_addCarrier 35 = .ok (.iconst 1, 1) := by decide +kernel
theorem dX1_addCarrier_36 : decode cX1_addCarrier 36 = .ok (.isub, 1) := by decide +kernel
theorem dX1_addCarrier_37 : decode cX1_addCarrier 37 = .ok (.ireturn, 1) := by decide +kernel
theorem dX1_partOf_0 : decode cX1_partOf 0 = .ok (.aload_n 0, 1) := by decide +kernel
theorem dX1_partOf_1 : decode cX1_partOf 1 = .ok (.invokevirtual 19, 3) := by decide +kernel
theorem dX1_partOf_4 : decode cX1_partOf 4 = .ok (.istore_n 3, 1) := by decide +kernel
theorem dX1_partOf_5 : decode cX1_partOf 5 = .ok (.iload_n 3, 1) := by decide +kernel
theorem dX1_partOf_6 : decode cX1_partOf 6 = .ok (.ifCond .ne 7, 3) := by decide +kernel
theorem dX1_partOf_9 : decode cX1_partOf 9 = .ok (.iconst 1, 1) := by decide +kernel
theorem dX1_partOf_10 : decode cX1_partOf 10 = .ok (.goto 4, 3) := by decide +kernel
theorem dX1_partOf_13 : decode cX1_partOf 13 = .ok (.iconst 0, 1) := by decide +kernel
theorem dX1_partOf_14 : decode cX1_partOf 14 = .ok (.istore 4, 2) := by decide +kernel
theorem dX1_partOf_16 : decode cX1_partOf 16 = .ok (.iload 4, 2) := by decide +kernel
theorem dX1_partOf_18 : decode cX1_partOf 18 = .ok (.ifCond .eq 10, 3) := by decide +kernel
theorem dX1_partOf_21 : decode cX1_partOf 21 = .ok (.aload_n 0, 1) := by decide +kernel
theorem dX1_partOf_22 : decode cX1_partOf 22 = .ok (.getfield 15, 3) := by decide +kernel
theorem dX1_partOf_25 : decode cX1_partOf 25 = .ok (.goto 4, 3) := by decide +kernel
theorem dX1_partOf_28 : decode cX1_partOf 28 = .ok (.iload_n 3, 1) := by decide +kernel
theorem dX1_partOf_29 : decode cX1_partOf 29 = .ok (.istore 5, 2) := by decide +kernel
theorem dX1_partOf_31 : decode cX1_partOf 31 = .ok (.iload 5, 2) := by decide +kernel
theorem dX1_partOf_33 : decode cX1_partOf 33 = .ok (.ifCond .gt 5, 3) := by decide +kernel
theorem dX1_partOf_36 : decode cX1_partOf 36 = .ok (.iconst 0, 1) := by decide +kernel
theorem dX1_partOf_37 : decode cX1_partOf 37 = .ok (.ireturn, 1) := by decide +kernel
theorem dX1_partOf_38 : decode cX1_partOf 38 = .ok (.iload_n 2, 1) := by decide +kernel
theorem dX1_partOf_39 : decode cX1_partOf 39 = .ok (.istore 6, 2) := by decide +kernel
theorem dX1_partOf_41 : decode cX1_partOf 41 = .ok (.iconst 0, 1) := by decide +kernel
theorem dX1_partOf_42 : decode cX1_partOf 42 = .ok (.istore 7, 2) := by decide +kernel
theorem dX1_partOf_44 : decode cX1_partOf 44 = .ok (.aload_n 0, 1) := by decide +kernel
theorem dX1_partOf_45 : decode cX1_partOf 45 = .ok (.iload_n 1, 1) := by decide +kernel
theorem dX1_partOf_46 : decode cX1_partOf 46 = .ok (.iload_n 2, 1) := by decide +kernel
theorem dX1_partOf_47 : decode cX1_partOf 47 = .ok (.iload 4, 2) := by decide +kernel
theorem dX1_partOf_49 : decode cX1_partOf 49 = .ok (.invokevirtual 23, 3) := by decide +kernel
theorem dX1_partOf_52 : decode cX1_partOf 52 = .ok (.iload 5, 2) := by decide +kernel
theorem dX1_partOf_54 : decode cX1_partOf 54 = .ok (.irem, 1) := by decide +kernel
theorem dX1_partOf_55 : decode cX1_partOf 55 = .ok (.istore 8, 2) := by decide +kernel
theorem dX1_partOf_57 : decode cX1_partOf 57 = .ok (.iconst 0, 1) := by decide +kernel
theorem dX1_partOf_58 : decode cX1_partOf 58 = .ok (.istore 9, 2) := by decide +kernel
theorem dX1_partOf_60 : decode cX1_partOf 60 = .ok (.iload 9, 2) := by decide +kernel
theorem dX1_partOf_62 : decode cX1_partOf 62 = .ok (.aload_n 0, 1) := by decide +kernel
theorem dX1_partOf_63 : decode cX1_partOf 63 = .ok (.getfield 15, 3) := by decide +kernel
theorem dX1_partOf_66 : decode cX1_partOf 66 = .ok (.if_icmp .ge 60, 3) := by decide +kernel
theorem dX1_partOf_69 : decode cX1_partOf 69 = .ok (.aload_n 0, 1) := by decide +kernel
theorem dX1_partOf_70 : decode cX1_partOf 70 = .ok (.iload 9, 2) := by decide +kernel
theorem dX1_partOf_72 : decode cX1_partOf 72 = .ok (.iload_n 2, 1) := by decide +kernel
theorem dX1_partOf_73 : decode cX1_partOf 73 = .ok (.iload 4, 2) := by decide +kernel
theorem dX1_partOf_75 : decode cX1_partOf 75 = .ok (.invokevirtual 23, 3) := by decide +kernel
theorem dX1_partOf_78 : decode cX1_partOf 78 = .ok (.istore 10, 2) := by decide +kernel
theorem dX1_partOf_80 : decode cX1_partOf 80 = .ok (.iload 6, 2) := by decide +kernel
theorem dX1_partOf_82 : decode cX1_partOf 82 = .ok (.iload 10, 2) := by decide +kernel
theorem dX1_partOf_84 : decode cX1_partOf 84 = .ok (.iload 5, 2) := by decide +kernel
theorem dX1_partOf_86 : decode cX1_partOf 86 = .ok (.idiv, 1) := by decide +kernel
theorem dX1_partOf_87 : decode cX1_partOf 87 = .ok (.isub, 1) := by decide +kernel
theorem dX1_partOf_88 : decode cX1_partOf 88 = .ok (.istore 6, 2) := by decide +kernel
theorem dX1_partOf_90 : decode cX1_partOf 90 = .ok (.iload 10, 2) := by decide +kernel
theorem dX1_partOf_92 : decode cX1_partOf 92 = .ok (.iload 5, 2) := by decide +kernel
theorem dX1_partOf_94 : decode cX1_partOf 94 = .ok (.irem, 1) := by decide +kernel
theorem dX1_partOf_95 : decode cX1_partOf 95 = .ok (.istore 11, 2) := by decide +kernel
theorem dX1_partOf_97 : decode cX1_partOf 97 = .ok (.iload 11, 2) := by decide +kernel
theorem dX1_partOf_99 : decode cX1_partOf 99 = .ok (.iload 8, 2) := by decide +kernel
theorem dX1_partOf_101 : decode cX1_partOf 101 = .ok (.if_icmp .gt 16, 3) := by decide +kernel
theorem dX1_partOf_104 : decode cX1_partOf 104 = .ok (.iload 11, 2) := by decide +kernel
theorem dX1_partOf_106 : decode cX1_partOf 106 = .ok (.iload 8, 2) := by decide +kernel
theorem dX1_partOf_108 : decode cX1_partOf 108 = .ok (.if_icmp .ne 12, 3) := by decide +kernel
theorem dX1_partOf_111 : decode cX1_partOf 111 = .ok (.iload 9, 2) := by decide +kernel
theorem dX1_partOf_113 : decode cX1_partOf 113 = .ok (.iload_n 1, 1) := by decide +kernel
theorem dX1_partOf_114 : decode cX1_partOf 114 = .ok (.if_icmp .ge 6, 3) := by decide +kernel
theorem dX1_partOf_117 : decode cX1_partOf 117 = .ok (.iinc 7 1, 3) := by decide +kernel
theorem dX1_partOf_120 : decode cX1_partOf 120 = .ok (.iinc 9 1, 3) := by decide +kernel
theorem dX1_partOf_123 : decode cX1_partOf 123 = .ok (.goto (-63), 3) := by decide +kernel
theorem dX1_partOf_126 : decode cX1_partOf 126 = .ok (.aload_n 0, 1) := by decide +kernel
theorem dX1_partOf_127 : decode cX1_partOf 127 = .ok (.iload_n 1, 1) := by decide +kernel
theorem dX1_partOf_128 : decode cX1_partOf 128 = .ok (.iload_n 2, 1) := by decide +kernel
theorem dX1_partOf_129 : decode cX1_partOf 129 = .ok (.iload 4, 2) := by decide +kernel
theorem dX1_partOf_131 : decode cX1_partOf 131 = .ok (.invokevirtual 23, 3) := by decide +kernel
theorem dX1_partOf_134 : decode cX1_partOf 134 = .ok (.iload 5, 2) := by decide +kernel
theorem dX1_partOf_136 : decode cX1_partOf 136 = .ok (.idiv, 1) := by decide +kernel
theorem dX1_partOf_137 : decode cX1_partOf 137 = .ok (.istore 9, 2) := by decide +kernel
theorem dX1_partOf_139 : decode cX1_partOf 139 = .ok (.iload 7, 2) := by decide +kernel
theorem dX1_partOf_141 : decode cX1_partOf 141 = .ok (.iload 6, 2) := by decide +kernel
theorem dX1_partOf_143 : decode cX1_partOf 143 = .ok (.if_icmp .ge 10, 3) := by decide +kernel
theorem dX1_partOf_146 : decode cX1_partOf 146 = .ok (.iload 9, 2) := by decide +kernel
theorem dX1_partOf_148 : decode cX1_partOf 148 = .ok (.iconst 1, 1) := by decide +kernel
theorem dX1_partOf_149 : decode cX1_partOf 149 = .ok (.iadd, 1) := by decide +kernel
theorem dX1_partOf_150 : decode cX1_partOf 150 = .ok (.goto 5, 3) := by decide +kernel
theorem dX1_partOf_153 : decode cX1_partOf 153 = .ok (.iload 9, 2) := by decide +kernel
theorem dX1_partOf_155 : decode cX1_partOf 155 = .ok (.ireturn, 1) := by decide +kernel
theorem dX1_allDays_0 : decode cX1_allDays 0 = .ok (.iconst 0, 1) := by decide +kernel
theorem dX1_allDays_1 : decode cX1_allDays 1 = .ok (.istore_n 1, 1) := by decide +kernel
theorem dX1_allDays_2 : decode cX1_allDays 2 = .ok (.iconst 0, 1) := by decide +kernel
theorem dX1_allDays_3 : decode cX1_allDays 3 = .ok (.istore_n 2, 1) := by decide +kernel
theorem dX1_allDays_4 : decode cX1_allDays 4 = .ok (.iload_n 2, 1) := by decide +kernel
theorem dX1_allDays_5 : decode cX1_allDays 5 = .ok (.aload_n 0, 1) := by decide +kernel
theorem dX1_allDays_6 : decode cX1_allDays 6 = .ok (.getfield 15, 3) := by decide +kernel
theorem dX1_allDays_9 : decode cX1_allDays 9 = .ok (.if_icmp .ge 18, 3) := by decide +kernel
theorem dX1_allDays_12 : decode cX1_allDays 12 = .ok (.iload_n 1, 1) := by decide +kernel
theorem dX1_allDays_13 : decode cX1_allDays 13 = .ok (.aload_n 0, 1) := by decide +kernel
theorem dX1_allDays_14 : decode cX1_allDays 14 = .ok (.getfield 9, 3) := by decide +kernel
theorem dX1_allDays_17 : decode cX1_allDays 17 = .ok (.iload_n 2, 1) := by decide +kernel
theorem dX1_allDays_18 : decode cX1_allDays 18 = .ok (.iaload, 1) := by decide +kernel
theorem dX1_allDays_19 : decode cX1_allDays 19 = .ok (.iadd, 1) := by decide +kernel
theorem dX1_allDays_20 : decode cX1_allDays 20 = .ok (.istore_n 1, 1) := by decide +kernel
theorem dX1_allDays_21 : decode cX1_allDays 21 = .ok (.iinc 2 1, 3) := by decide +kernel
theorem dX1_allDays_24 : decode cX1_allDays 24 = .ok (.goto (-20), 3) := by decide +kernel
theorem dX1_allDays_27 : decode cX1_allDays 27 = .ok (.iload_n 1, 1) := by decide +kernel
theorem dX1_allDays_28 : decode cX1_allDays 28 = .ok (.ireturn, 1) := by decide +kernel
theorem dX1_weighed_0 : decode cX1_weighed 0 = .ok (.iload_n 3, 1) := by decide +kernel
theorem dX1_weighed_1 : decode cX1_weighed 1 = .ok (.ifCond .eq 7, 3) := by decide +kernel
theorem dX1_weighed_4 : decode cX1_weighed 4 = .ok (.iload_n 2, 1) := by decide +kernel
theorem dX1_weighed_5 : decode cX1_weighed 5 = .ok (.goto 11, 3) := by decide +kernel
theorem dX1_weighed_8 : decode cX1_weighed 8 = .ok (.iload_n 2, 1) := by decide +kernel
theorem dX1_weighed_9 : decode cX1_weighed 9 = .ok (.aload_n 0, 1) := by decide +kernel
theorem dX1_weighed_10 : decode cX1_weighed 10 = .ok (.getfield 9, 3) := by decide +kernel
theorem dX1_weighed_13 : decode cX1_weighed 13 = .ok (.iload_n 1, 1) := by decide +kernel
theorem dX1_weighed_14 : decode cX1_weighed 14 = .ok (.iaload, 1) := by decide +kernel
theorem dX1_weighed_15 : decode cX1_weighed 15 = .ok (.imul, 1) := by decide +kernel
theorem dX1_weighed_16 : decode cX1_weighed 16 = .ok (.ireturn, 1) := by decide +kernel
theorem dX2_init_0 : decode cX2_init 0 = .ok (.aload_n 0, 1) := by decide +kernel
theorem dX2_init_1 : decode cX2_init 1 = .ok (.invokespecial 3, 3) := by decide +kernel
theorem dX2_init_4 : decode cX2_init 4 = .ok (.aload_n 0, 1) := by decide +kernel
theorem dX2_init_5 : decode cX2_init 5 = .ok (.bipush 10, 2) := by decide +kernel
theorem dX2_init_7 : decode cX2_init 7 = .ok (.newarray .int, 2) := by decide +kernel
theorem dX2_init_9 : decode cX2_init 9 = .ok (.putfield 9, 3) := by decide +kernel
theorem dX2_init_12 : decode cX2_init 12 = .ok (.aload_n 0, 1) := by decide +kernel
theorem dX2_init_13 : decode cX2_init 13 = .ok (.iconst 0, 1) := by decide +kernel
theorem dX2_init_14 : decode cX2_init 14 = .ok (.putfield 15, 3) := by decide +kernel
theorem dX2_init_17 : decode cX2_init 17 = .ok (.aload_n 0, 1) := by decide +kernel
theorem dX2_init_18 : decode cX2_init 18 = .ok (.new 19, 3) := by decide +kernel
theorem dX2_init_21 : decode cX2_init 21 = .ok (.dup, 1) := by decide +kernel
theorem dX2_init_22 : decode cX2_init 22 = .ok (.invokespecial 21, 3) := by decide +kernel
theorem dX2_init_25 : decode cX2_init 25 = .ok (.putfield 22, 3) := by decide +kernel
theorem dX2_init_28 : decode cX2_init 28 = .ok (.aload_n 0, 1) := by decide +kernel
theorem dX2_init_29 : decode cX2_init 29 = .ok (.iconst 4, 1) := by decide +kernel
theorem dX2_init_30 : decode cX2_init 30 = .ok (.bipush 10, 2) := by decide +kernel
theorem dX2_init_32 : decode cX2_init 32 = .ok (.multianewarray 26 2, 4) := by decide +kernel
theorem dX2_init_36 : decode cX2_init 36 = .ok (.putfield 28, 3) := by decide +kernel
theorem dX2_init_39 : decode cX2_init 39 = .ok (.aload_n 0, 1) := by decide +kernel
theorem dX2_init_40 : decode cX2_init 40 = .ok (.iconst 3, 1) := by decide +kernel
theorem dX2_init_41 : decode cX2_init 41 = .ok (.bipush 10, 2) := by decide +kernel
theorem dX2_init_43 : decode cX2_init 43 = .ok (.multianewarray 26 2, 4) := by decide +kernel
theorem dX2_init_47 : decode cX2_init 47 = .ok (.putfield 31, 3) := by decide +kernel
theorem dX2_init_50 : decode cX2_init 50 = .ok (.return_, 1) := by decide +kernel
theorem dX2_addStation_0 : decode cX2_addStation 0 = .ok (.aload_n 0, 1) := by decide +kernel
theorem dX2_addStation_1 : decode cX2_addStation 1 = .ok (.getfield 15, 3) := by decide +kernel
theorem dX2_addStation_4 : decode cX2_addStation 4 = .ok (.bipush 10, 2) := by decide +kernel
theorem dX2_addStation_6 : decode cX2_addStation 6 = .ok (.if_icmp .lt 5, 3) := by decide +kernel
theorem dX2_addStation_9 : decode cX2_addStation 9 = .ok (.iconst (-1), 1) := by decide +kernel
theorem dX2_addStation_10 : decode cX2_addStation 10 = .ok (.ireturn, 1) := by decide +kernel
theorem dX2_addStation_11 : decode cX2_addStation 11 = .ok (.aload_n 0, 1) := by decide +kernel
theorem dX2_addStation_12 : decode cX2_addStation 12 = .ok (.getfield 9, 3) := by decide +kernel
theorem dX2_addStation_15 : decode cX2_addStation 15 = .ok (.aload_n 0, 1) := by decide +kernel
theorem dX2_addStation_16 : decode cX2_addStation 16 = .ok (.getfield 15, 3) := by decide +kernel
theorem dX2_addStation_19 : decode cX2_addStation 19 = .ok (.iload_n 1, 1) := by decide +kernel
theorem dX2_addStation_20 : decode cX2_addStation 20 = .ok (.iastore, 1) := by decide +kernel
theorem dX2_addStation_21 : decode cX2_addStation 21 = .ok (.aload_n 0, 1) := by decide +kernel
theorem dX2_addStation_22 : decode cX2_addStation 22 = .ok (.dup, 1) := by decide +kernel
theorem dX2_addStation_23 : decode cX2_addStation 23 = .ok (.getfield 15, 3) := by decide +kernel
theorem dX2_addStation_26 : decode cX2_addStation 26 = .ok (.iconst 1, 1) := by decide +kernel
theorem dX2_addStation_27 : decode cX2_addStation 27 = .ok (.iadd, 1) := by decide +kernel
theorem dX2_addStation_28 : decode cX2_addStation 28 = .ok (.putfield 15, 3) := by decide +kernel
theorem dX2_addStation_31 : decode cX2_addStation 31 = .ok (.aload_n 0, 1) := by decide +kernel
theorem dX2_addStation_32 : decode cX2_addStation 32 = .ok (.getfield 15, 3) := by decide +kernel
theorem dX2_addStation_35 : decode cX2_addStation 35 = .ok (.iconst 1, 1) := by decide +kernel
theorem dX2_addStation_36 : decode cX2_addStation 36 = .ok (.isub, 1) := by decide +kernel
theorem dX2_addStation_37 : decode cX2_addStation 37 = .ok (.ireturn, 1) := by decide +kernel
theorem dX2_addTrain_0 : decode cX2_addTrain 0 = .ok (.aload_n 0, 1) := by decide +kernel
theorem dX2_addTrain_1 : decode cX2_addTrain 1 = .ok (.getfield 22, 3) := by decide +kernel
theorem dX2_addTrain_4 : decode cX2_addTrain 4 = .ok (.invokevirtual 34, 3) := by decide +kernel
theorem dX2_addTrain_7 : decode cX2_addTrain 7 = .ok (.bipush 16, 2) := by decide +kernel
theorem dX2_addTrain_9 : decode cX2_addTrain 9 = .ok (.if_icmp .lt 5, 3) := by decide +kernel
theorem dX2_addTrain_12 : decode cX2_addTrain 12 = .ok (.iconst (-1), 1) := by decide +kernel
theorem dX2_addTrain_13 : decode cX2_addTrain 13 = .ok (.ireturn, 1) := by decide +kernel
theorem dX2_addTrain_14 : decode cX2_addTrain 14 = .ok (.aload_n 0, 1) := by decide +kernel
theorem dX2_addTrain_15 : decode cX2_addTrain 15 = .ok (.getfield 22, 3) := by decide +kernel
theorem dX2_addTrain_18 : decode cX2_addTrain 18 = .ok (.new 38, 3) := by decide +kernel
theorem dX2_addTrain_21 : decode cX2_addTrain 21 = .ok (.dup, 1) := by decide +kernel
theorem dX2_addTrain_22 : decode cX2_addTrain 22 = .ok (.iload_n 1, 1) := by decide +kernel
theorem dX2_addTrain_23 : decode cX2_addTrain 23 = .ok (.invokespecial 40, 3) := by decide +kernel
theorem dX2_addTrain_26 : decode cX2_addTrain 26 = .ok (.invokevirtual 43, 3) := by decide +kernel
theorem dX2_addTrain_29 : decode cX2_addTrain 29 = .ok (.pop, 1) := by decide +kernel
theorem dX2_addTrain_30 : decode cX2_addTrain 30 = .ok (.aload_n 0, 1) := by decide +kernel
theorem dX2_addTrain_31 : decode cX2_addTrain 31 = .ok (.getfield 22, 3) := by decide +kernel
theorem dX2_addTrain_34 : decode cX2_addTrain 34 = .ok (.invokevirtual 34, 3) := by decide +kernel
theorem dX2_addTrain_37 : decode cX2_addTrain 37 = .ok (.iconst 1, 1) := by decide +kernel
theorem dX2_addTrain_38 : decode cX2_addTrain 38 = .ok (.isub, 1) := by decide +kernel
theorem dX2_addTrain_39 : decode cX2_addTrain 39 = .ok (.ireturn, 1) := by decide +kernel
theorem dX2_hasStation_0 : decode cX2_hasStation 0 = .ok (.iload_n 1, 1) := by decide +kernel
theorem dX2_hasStation_1 : decode cX2_hasStation 1 = .ok (.ifCond .lt 15, 3) := by decide +kernel
theorem dX2_hasStation_4 : decode cX2_hasStation 4 = .ok (.iload_n 1, 1) := by decide +kernel
theorem dX2_hasStation_5 : decode cX2_hasStation 5 = .ok (.aload_n 0, 1) := by decide +kernel
theorem dX2_hasStation_6 : decode cX2_hasStation 6 = .ok (.getfield 15, 3) := by decide +kernel
theorem dX2_hasStation_9 : decode cX2_hasStation 9 = .ok (.if_icmp .ge 7, 3) := by decide +kernel
theorem dX2_hasStation_12 : decode cX2_hasStation 12 = .ok (.iconst 1, 1) := by decide +kernel
theorem dX2_hasStation_13 : decode cX2_hasStation 13 = .ok (.goto 4, 3) := by decide +kernel
theorem dX2_hasStation_16 : decode cX2_hasStation 16 = .ok (.iconst 0, 1) := by decide +kernel
theorem dX2_hasStation_17 : decode cX2_hasStation 17 = .ok (.ireturn, 1) := by decide +kernel
theorem dX2_beginning_0 : decode cX2_beginning 0 = .ok (.aload_n 1, 1) := by decide +kernel
theorem dX2_beginning_1 : decode cX2_beginning 1 = .ok (.getfield 47, 3) := by decide +kernel
theorem dX2_beginning_4 : decode cX2_beginning 4 = .ok (.aload_n 1, 1) := by decide +kernel
theorem dX2_beginning_5 : decode cX2_beginning 5 = .ok (.getfield 52, 3) := by decide +kernel
theorem dX2_beginning_8 : decode cX2_beginning 8 = .ok (.iadd, 1) := by decide +kernel
theorem dX2_beginning_9 : decode cX2_beginning 9 = .ok (.aload_n 0, 1) := by decide +kernel
theorem dX2_beginning_10 : decode cX2_beginning 10 = .ok (.getfield 9, 3) := by decide +kernel
theorem dX2_beginning_13 : decode cX2_beginning 13 = .ok (.aload_n 1, 1) := by decide +kernel
theorem dX2_beginning_14 : decode cX2_beginning 14 = .ok (.getfield 55, 3) := by decide +kernel
theorem dX2_beginning_17 : decode cX2_beginning 17 = .ok (.iaload, 1) := by decide +kernel
theorem dX2_beginning_18 : decode cX2_beginning 18 = .ok (.iadd, 1) := by decide +kernel
theorem dX2_beginning_19 : decode cX2_beginning 19 = .ok (.ireturn, 1) := by decide +kernel
theorem dX2_sortedAt_0 : decode cX2_sortedAt 0 = .ok (.aload_n 1, 1) := by decide +kernel
theorem dX2_sortedAt_1 : decode cX2_sortedAt 1 = .ok (.getfield 58, 3) := by decide +kernel
theorem dX2_sortedAt_4 : decode cX2_sortedAt 4 = .ok (.iload_n 2, 1) := by decide +kernel
theorem dX2_sortedAt_5 : decode cX2_sortedAt 5 = .ok (.iaload, 1) := by decide +kernel
theorem dX2_sortedAt_6 : decode cX2_sortedAt 6 = .ok (.aload_n 0, 1) := by decide +kernel
theorem dX2_sortedAt_7 : decode cX2_sortedAt 7 = .ok (.getfield 9, 3) := by decide +kernel
theorem dX2_sortedAt_10 : decode cX2_sortedAt 10 = .ok (.aload_n 1, 1) := by decide +kernel
theorem dX2_sortedAt_11 : decode cX2_sortedAt 11 = .ok (.getfield 61, 3) := by decide +kernel
theorem dX2_sortedAt_14 : decode cX2_sortedAt 14 = .ok (.iload_n 2, 1) := by decide +kernel
theorem dX2_sortedAt_15 : decode cX2_sortedAt 15 = .ok (.iaload, 1) := by decide +kernel
theorem dX2_sortedAt_16 : decode cX2_sortedAt 16 = .ok (.iaload, 1) := by decide +kernel
theorem dX2_sortedAt_17 : decode cX2_sortedAt 17 = .ok (.iadd, 1) := by decide +kernel
theorem dX2_sortedAt_18 : decode cX2_sortedAt 18 = .ok (.ireturn, 1) := by decide +kernel
theorem dX2_isAboard_0 : decode cX2_isAboard 0 = .ok (.iconst 0, 1) := by decide +kernel
theorem dX2_isAboard_1 : decode cX2_isAboard 1 = .ok (.istore_n 3, 1) := by decide +kernel
theorem dX2_isAboard_2 : decode cX2_isAboard 2 = .ok (.iload_n 3, 1) := by decide +kernel
theorem dX2_isAboard_3 : decode cX2_isAboard 3 = .ok (.aload_n 1, 1) := by decide +kernel
theorem dX2_isAboard_4 : decode cX2_isAboard 4 = .ok (.getfield 63, 3) := by decide +kernel
theorem dX2_isAboard_7 : decode cX2_isAboard 7 = .ok (.if_icmp .ge 73, 3) := by decide +kernel
theorem dX2_isAboard_10 : decode cX2_isAboard 10 = .ok (.aload_n 0, 1) := by decide +kernel
theorem dX2_isAboard_11 : decode cX2_isAboard 11 = .ok (.getfield 22, 3) := by decide +kernel
theorem dX2_isAboard_14 : decode cX2_isAboard 14 = .ok (.aload_n 1, 1) := by decide +kernel
theorem dX2_isAboard_15 : decode cX2_isAboard 15 = .ok (.iload_n 3, 1) := by decide +kernel
theorem dX2_isAboard_16 : decode cX2_isAboard 16 = .ok (.iconst 0, 1) := by decide +kernel
theorem dX2_isAboard_17 : decode cX2_isAboard 17 = .ok (.invokevirtual 66, 3) := by decide +kernel
theorem dX2_isAboard_20 : decode cX2_isAboard 20 = .ok (.invokevirtual 70, 3) := by decide +kernel
theorem dX2_isAboard_23 : decode cX2_isAboard 23 = .ok (.checkcast 38, 3) := by decide +kernel
theorem dX2_isAboard_26 : decode cX2_isAboard 26 = .ok (.astore 4, 2) := by decide +kernel
theorem dX2_isAboard_28 : decode cX2_isAboard 28 = .ok (.aload 4, 2) := by decide +kernel
theorem dX2_isAboard_30 : decode cX2_isAboard 30 = .ok (.getfield 58, 3) := by decide +kernel
theorem dX2_isAboard_33 : decode cX2_isAboard 33 = .ok (.aload_n 1, 1) := by decide +kernel
theorem dX2_isAboard_34 : decode cX2_isAboard 34 = .ok (.iload_n 3, 1) := by decide +kernel
theorem dX2_isAboard_35 : decode cX2_isAboard 35 = .ok (.iconst 1, 1) := by decide +kernel
theorem dX2_isAboard_36 : decode cX2_isAboard 36 = .ok (.invokevirtual 66, 3) := by decide +kernel
theorem dX2_isAboard_39 : decode cX2_isAboard 39 = .ok (.iaload, 1) := by decide +kernel
theorem dX2_isAboard_40 : decode cX2_isAboard 40 = .ok (.iload_n 2, 1) := by decide +kernel
theorem dX2_isAboard_41 : decode cX2_isAboard 41 = .ok (.if_icmp .gt 7, 3) := by decide +kernel
theorem dX2_isAboard_44 : decode cX2_isAboard 44 = .ok (.iconst 1, 1) := by decide +kernel
theorem dX2_isAboard_45 : decode cX2_isAboard 45 = .ok (.goto 4, 3) := by decide +kernel
theorem dX2_isAboard_48 : decode cX2_isAboard 48 = .ok (.iconst 0, 1) := by decide +kernel
theorem dX2_isAboard_49 : decode cX2_isAboard 49 = .ok (.istore 5, 2) := by decide +kernel
theorem dX2_isAboard_51 : decode cX2_isAboard 51 = .ok (.iload 5, 2) := by decide +kernel
theorem dX2_isAboard_53 : decode cX2_isAboard 53 = .ok (.ifCond .eq 21, 3) := by decide +kernel
theorem dX2_isAboard_56 : decode cX2_isAboard 56 = .ok (.aload 4, 2) := by decide +kernel
theorem dX2_isAboard_58 : decode cX2_isAboard 58 = .ok (.getfield 58, 3) := by decide +kernel
theorem dX2_isAboard_61 : decode cX2_isAboard 61 = .ok (.aload_n 1, 1) := by decide +kernel
theorem dX2_isAboard_62 : decode cX2_isAboard 62 = .ok (.iload_n 3, 1) := by decide +kernel
theorem dX2_isAboard_63 : decode cX2_isAboard 63 = .ok (.iconst 2, 1) := by decide +kernel
theorem dX2_isAboard_64 : decode cX2_isAboard 64 = .ok (.invokevirtual 66, 3) := by decide +kernel
theorem dX2_isAboard_67 : decode cX2_isAboard 67 = .ok (.iaload, 1) := by decide +kernel
theorem dX2_isAboard_68 : decode cX2_isAboard 68 = .ok (.iload_n 2, 1) := by decide +kernel
theorem dX2_isAboard_69 : decode cX2_isAboard 69 = .ok (.if_icmp .le 5, 3) := by decide +kernel
theorem dX2_isAboard_72 : decode cX2_isAboard 72 = .ok (.iconst 1, 1) := by decide +kernel
theorem dX2_isAboard_73 : decode cX2_isAboard 73 = .ok (.ireturn, 1) := by decide +kernel
theorem dX2_isAboard_74 : decode cX2_isAboard 74 = .ok (.iinc 3 1, 3) := by decide +kernel
theorem dX2_isAboard_77 : decode cX2_isAboard 77 = .ok (.goto (-75), 3) := by decide +kernel
theorem dX2_isAboard_80 : decode cX2_isAboard 80 = .ok (.iconst 0, 1) := by decide +kernel
theorem dX2_isAboard_81 : decode cX2_isAboard 81 = .ok (.ireturn, 1) := by decide +kernel
theorem dX2_giveUp_0 : decode cX2_giveUp 0 = .ok (.iload_n 2, 1) := by decide +kernel
theorem dX2_giveUp_1 : decode cX2_giveUp 1 = .ok (.istore 4, 2) := by decide +kernel
theorem dX2_giveUp_3 : decode cX2_giveUp 3 = .ok (.iload 4, 2) := by decide +kernel
theorem dX2_giveUp_5 : decode cX2_giveUp 5 = .ok (.aload_n 1, 1) := by decide +kernel
theorem dX2_giveUp_6 : decode cX2_giveUp 6 = .ok (.getfield 63, 3) := by decide +kernel
theorem dX2_giveUp_9 : decode cX2_giveUp 9 = .ok (.if_icmp .ge 48, 3) := by decide +kernel
theorem dX2_giveUp_12 : decode cX2_giveUp 12 = .ok (.aload_n 0, 1) := by decide +kernel
theorem dX2_giveUp_13 : decode cX2_giveUp 13 = .ok (.getfield 22, 3) := by decide +kernel
theorem dX2_giveUp_16 : decode cX2_giveUp 16 = .ok (.aload_n 1, 1) := by decide +kernel
theorem dX2_giveUp_17 : decode cX2_giveUp 17 = .ok (.iload 4, 2) := by decide +kernel
theorem dX2_giveUp_19 : decode cX2_giveUp 19 = .ok (.iconst 0, 1) := by decide +kernel
theorem dX2_giveUp_20 : decode cX2_giveUp 20 = .ok (.invokevirtual 66, 3) := by decide +kernel
theorem dX2_giveUp_23 : decode cX2_giveUp 23 = .ok (.invokevirtual 70, 3) := by decide +kernel
theorem dX2_giveUp_26 : decode cX2_giveUp 26 = .ok (.checkcast 38, 3) := by decide +kernel
theorem dX2_giveUp_29 : decode cX2_giveUp 29 = .ok (.astore 5, 2) := by decide +kernel
theorem dX2_giveUp_31 : decode cX2_giveUp 31 = .ok (.aload 5, 2) := by decide +kernel
theorem dX2_giveUp_33 : decode cX2_giveUp 33 = .ok (.aload_n 1, 1) := by decide +kernel
theorem dX2_giveUp_34 : decode cX2_giveUp 34 = .ok (.iload 4, 2) := by decide +kernel
theorem dX2_giveUp_36 : decode cX2_giveUp 36 = .ok (.iconst 1, 1) := by decide +kernel
theorem dX2_giveUp_37 : decode cX2_giveUp 37 = .ok (.invokevirtual 66, 3) := by decide +kernel
theorem dX2_giveUp_40 : decode cX2_giveUp 40 = .ok (.aload_n 1, 1) := by decide +kernel
theorem dX2_giveUp_41 : decode cX2_giveUp 41 = .ok (.iload 4, 2) := by decide +kernel
theorem dX2_giveUp_43 : decode cX2_giveUp 43 = .ok (.iconst 2, 1) := by decide +kernel
theorem dX2_giveUp_44 : decode cX2_giveUp 44 = .ok (.invokevirtual 66, 3) := by decide +kernel
theorem dX2_giveUp_47 : decode cX2_giveUp 47 = .ok (.iconst (-1), 1) := by decide +kernel
theorem dX2_giveUp_48 : decode cX2_giveUp 48 = .ok (.invokevirtual 74, 3) := by decide +kernel
theorem dX2_giveUp_51 : decode cX2_giveUp 51 = .ok (.iinc 4 1, 3) := by decide +kernel
theorem dX2_giveUp_54 : decode cX2_giveUp 54 = .ok (.goto (-51), 3) := by decide +kernel
theorem dX2_giveUp_57 : decode cX2_giveUp 57 = .ok (.aload_n 1, 1) := by decide +kernel
theorem dX2_giveUp_58 : decode cX2_giveUp 58 = .ok (.iload_n 2, 1) := by decide +kernel
theorem dX2_giveUp_59 : decode cX2_giveUp 59 = .ok (.putfield 63, 3) := by decide +kernel
theorem dX2_giveUp_62 : decode cX2_giveUp 62 = .ok (.iload_n 2, 1) := by decide +kernel
theorem dX2_giveUp_63 : decode cX2_giveUp 63 = .ok (.ifCond .ne 21, 3) := by decide +kernel
theorem dX2_giveUp_66 : decode cX2_giveUp 66 = .ok (.aload_n 1, 1) := by decide +kernel
theorem dX2_giveUp_67 : decode cX2_giveUp 67 = .ok (.aload_n 1, 1) := by decide +kernel
theorem dX2_giveUp_68 : decode cX2_giveUp 68 = .ok (.getfield 55, 3) := by decide +kernel
theorem dX2_giveUp_71 : decode cX2_giveUp 71 = .ok (.aload_n 0, 1) := by decide +kernel
theorem dX2_giveUp_72 : decode cX2_giveUp 72 = .ok (.aload_n 1, 1) := by decide +kernel
theorem dX2_giveUp_73 : decode cX2_giveUp 73 = .ok (.invokevirtual 78, 3) := by decide +kernel
theorem dX2_giveUp_76 : decode cX2_giveUp 76 = .ok (.iload_n 3, 1) := by decide +kernel
theorem dX2_giveUp_77 : decode cX2_giveUp 77 = .ok (.invokestatic 82, 3) := by decide +kernel
theorem dX2_giveUp_80 : decode cX2_giveUp 80 = .ok (.invokevirtual 87, 3) := by decide +kernel
theorem dX2_giveUp_83 : decode cX2_giveUp 83 = .ok (.return_, 1) := by decide +kernel
theorem dX2_giveUp_84 : decode cX2_giveUp 84 = .ok (.aload_n 0, 1) := by decide +kernel
theorem dX2_giveUp_85 : decode cX2_giveUp 85 = .ok (.getfield 22, 3) := by decide +kernel
theorem dX2_giveUp_88 : decode cX2_giveUp 88 = .ok (.aload_n 1, 1) := by decide +kernel
theorem dX2_giveUp_89 : decode cX2_giveUp 89 = .ok (.iload_n 2, 1) := by decide +kernel
theorem dX2_giveUp_90 : decode cX2_giveUp 90 = .ok (.iconst 1, 1) := by decide +kernel
theorem dX2_giveUp_91 : decode cX2_giveUp 91 = .ok (.isub, 1) := by decide +kernel
theorem dX2_giveUp_92 : decode cX2_giveUp 92 = .ok (.iconst 0, 1) := by decide +kernel
theorem dX2_giveUp_93 : decode cX2_giveUp 93 = .ok (.invokevirtual 66, 3) := by decide +kernel
theorem dX2_giveUp_96 : decode cX2_giveUp 96 = .ok (.invokevirtual 70, 3) := by decide +kernel
theorem dX2_giveUp_99 : decode cX2_giveUp 99 = .ok (.checkcast 38, 3) := by decide +kernel
theorem dX2_giveUp_102 : decode cX2_giveUp 102 = .ok (.astore 4, 2) := by decide +kernel
theorem dX2_giveUp_104 : decode cX2_giveUp 104 = .ok (.aload_n 1, 1) := by decide +kernel
theorem dX2_giveUp_105 : decode cX2_giveUp 105 = .ok (.iload_n 2, 1) := by decide +kernel
theorem dX2_giveUp_106 : decode cX2_giveUp 106 = .ok (.iconst 1, 1) := by decide +kernel
theorem dX2_giveUp_107 : decode cX2_giveUp 107 = .ok (.isub, 1) := by decide +kernel
theorem dX2_giveUp_108 : decode cX2_giveUp 108 = .ok (.iconst 2, 1) := by decide +kernel
theorem dX2_giveUp_109 : decode cX2_giveUp 109 = .ok (.invokevirtual 66, 3) := by decide +kernel
theorem dX2_giveUp_112 : decode cX2_giveUp 112 = .ok (.istore 5, 2) := by decide +kernel
theorem dX2_giveUp_114 : decode cX2_giveUp 114 = .ok (.aload_n 1, 1) := by decide +kernel
theorem dX2_giveUp_115 : decode cX2_giveUp 115 = .ok (.aload 4, 2) := by decide +kernel
theorem dX2_giveUp_117 : decode cX2_giveUp 117 = .ok (.getfield 61, 3) := by decide +kernel
theorem dX2_giveUp_120 : decode cX2_giveUp 120 = .ok (.iload 5, 2) := by decide +kernel
theorem dX2_giveUp_122 : decode cX2_giveUp 122 = .ok (.iaload, 1) := by decide +kernel
theorem dX2_giveUp_123 : decode cX2_giveUp 123 = .ok (.aload_n 0, 1) := by decide +kernel
theorem dX2_giveUp_124 : decode cX2_giveUp 124 = .ok (.aload 4, 2) := by decide +kernel
theorem dX2_giveUp_126 : decode cX2_giveUp 126 = .ok (.iload 5, 2) := by decide +kernel
theorem dX2_giveUp_128 : decode cX2_giveUp 128 = .ok (.invokevirtual 91, 3) := by decide +kernel
theorem dX2_giveUp_131 : decode cX2_giveUp 131 = .ok (.iload_n 3, 1) := by decide +kernel
theorem dX2_giveUp_132 : decode cX2_giveUp 132 = .ok (.invokestatic 82, 3) := by decide +kernel
theorem dX2_giveUp_135 : decode cX2_giveUp 135 = .ok (.invokevirtual 87, 3) := by decide +kernel
theorem dX2_giveUp_138 : decode cX2_giveUp 138 = .ok (.return_, 1) := by decide +kernel
theorem dX2_leadOn_0 : decode cX2_leadOn 0 = .ok (.aload_n 0, 1) := by decide +kernel
theorem dX2_leadOn_1 : decode cX2_leadOn 1 = .ok (.iload_n 2, 1) := by decide +kernel
theorem dX2_leadOn_2 : decode cX2_leadOn 2 = .ok (.iload_n 3, 1) := by decide +kernel
theorem dX2_leadOn_3 : decode cX2_leadOn 3 = .ok (.aload_n 1, 1) := by decide +kernel
theorem dX2_leadOn_4 : decode cX2_leadOn 4 = .ok (.getfield 95, 3) := by decide +kernel
theorem dX2_leadOn_7 : decode cX2_leadOn 7 = .ok (.iconst 3, 1) := by decide +kernel
theorem dX2_leadOn_8 : decode cX2_leadOn 8 = .ok (.aload_n 1, 1) := by decide +kernel
theorem dX2_leadOn_9 : decode cX2_leadOn 9 = .ok (.getfield 63, 3) := by decide +kernel
theorem dX2_leadOn_12 : decode cX2_leadOn 12 = .ok (.isub, 1) := by decide +kernel
theorem dX2_leadOn_13 : decode cX2_leadOn 13 = .ok (.invokevirtual 98, 3) := by decide +kernel
theorem dX2_leadOn_16 : decode cX2_leadOn 16 = .ok (.istore 4, 2) := by decide +kernel
theorem dX2_leadOn_18 : decode cX2_leadOn 18 = .ok (.iload 4, 2) := by decide +kernel
theorem dX2_leadOn_20 : decode cX2_leadOn 20 = .ok (.iconst (-1), 1) := by decide +kernel
theorem dX2_leadOn_21 : decode cX2_leadOn 21 = .ok (.if_icmp .ne 5, 3) := by decide +kernel
theorem dX2_leadOn_24 : decode cX2_leadOn 24 = .ok (.iconst 0, 1) := by decide +kernel
theorem dX2_leadOn_25 : decode cX2_leadOn 25 = .ok (.ireturn, 1) := by decide +kernel
theorem dX2_leadOn_26 : decode cX2_leadOn 26 = .ok (.aload_n 0, 1) := by decide +kernel
theorem dX2_leadOn_27 : decode cX2_leadOn 27 = .ok (.getfield 28, 3) := by decide +kernel
theorem dX2_leadOn_30 : decode cX2_leadOn 30 = .ok (.iload 4, 2) := by decide +kernel
theorem dX2_leadOn_32 : decode cX2_leadOn 32 = .ok (.aaload, 1) := by decide +kernel
theorem dX2_leadOn_33 : decode cX2_leadOn 33 = .ok (.aload_n 1, 1) := by decide +kernel
theorem dX2_leadOn_34 : decode cX2_leadOn 34 = .ok (.getfield 95, 3) := by decide +kernel
theorem dX2_leadOn_37 : decode cX2_leadOn 37 = .ok (.iaload, 1) := by decide +kernel
theorem dX2_leadOn_38 : decode cX2_leadOn 38 = .ok (.istore 5, 2) := by decide +kernel
theorem dX2_leadOn_40 : decode cX2_leadOn 40 = .ok (.aload_n 0, 1) := by decide +kernel
theorem dX2_leadOn_41 : decode cX2_leadOn 41 = .ok (.aload_n 1, 1) := by decide +kernel
theorem dX2_leadOn_42 : decode cX2_leadOn 42 = .ok (.getfield 95, 3) := by decide +kernel
theorem dX2_leadOn_45 : decode cX2_leadOn 45 = .ok (.iload 5, 2) := by decide +kernel
theorem dX2_leadOn_47 : decode cX2_leadOn 47 = .ok (.iload 4, 2) := by decide +kernel
theorem dX2_leadOn_49 : decode cX2_leadOn 49 = .ok (.invokevirtual 102, 3) := by decide +kernel
theorem dX2_leadOn_52 : decode cX2_leadOn 52 = .ok (.aload_n 0, 1) := by decide +kernel
theorem dX2_leadOn_53 : decode cX2_leadOn 53 = .ok (.aload_n 1, 1) := by decide +kernel
theorem dX2_leadOn_54 : decode cX2_leadOn 54 = .ok (.iload_n 2, 1) := by decide +kernel
theorem dX2_leadOn_55 : decode cX2_leadOn 55 = .ok (.iload_n 3, 1) := by decide +kernel
theorem dX2_leadOn_56 : decode cX2_leadOn 56 = .ok (.iload 4, 2) := by decide +kernel
theorem dX2_leadOn_58 : decode cX2_leadOn 58 = .ok (.invokevirtual 105, 3) := by decide +kernel
theorem dX2_leadOn_61 : decode cX2_leadOn 61 = .ok (.aload_n 1, 1) := by decide +kernel
theorem dX2_leadOn_62 : decode cX2_leadOn 62 = .ok (.iload 5, 2) := by decide +kernel
theorem dX2_leadOn_64 : decode cX2_leadOn 64 = .ok (.invokevirtual 109, 3) := by decide +kernel
theorem dX2_leadOn_67 : decode cX2_leadOn 67 = .ok (.iconst 1, 1) := by decide +kernel
theorem dX2_leadOn_68 : decode cX2_leadOn 68 = .ok (.ireturn, 1) := by decide +kernel
theorem dX2_takeLegs_0 : decode cX2_takeLegs 0 = .ok (.iload_n 2, 1) := by decide +kernel
theorem dX2_takeLegs_1 : decode cX2_takeLegs 1 = .ok (.istore 5, 2) := by decide +kernel
theorem dX2_takeLegs_3 : decode cX2_takeLegs 3 = .ok (.iload_n 3, 1) := by decide +kernel
theorem dX2_takeLegs_4 : decode cX2_takeLegs 4 = .ok (.istore 6, 2) := by decide +kernel
theorem dX2_takeLegs_6 : decode cX2_takeLegs 6 = .ok (.iload 4, 2) := by decide +kernel
theorem dX2_takeLegs_8 : decode cX2_takeLegs 8 = .ok (.iconst 1, 1) := by decide +kernel
theorem dX2_takeLegs_9 : decode cX2_takeLegs 9 = .ok (.isub, 1) := by decide +kernel
theorem dX2_takeLegs_10 : decode cX2_takeLegs 10 = .ok (.istore 7, 2) := by decide +kernel
theorem dX2_takeLegs_12 : decode cX2_takeLegs 12 = .ok (.iload 7, 2) := by decide +kernel
theorem dX2_takeLegs_14 : decode cX2_takeLegs 14 = .ok (.ifCond .lt 79, 3) := by decide +kernel
theorem dX2_takeLegs_17 : decode cX2_takeLegs 17 = .ok (.aload_n 0, 1) := by decide +kernel
theorem dX2_takeLegs_18 : decode cX2_takeLegs 18 = .ok (.aload_n 1, 1) := by decide +kernel
theorem dX2_takeLegs_19 : decode cX2_takeLegs 19 = .ok (.iload 5, 2) := by decide +kernel
theorem dX2_takeLegs_21 : decode cX2_takeLegs 21 = .ok (.iload 6, 2) := by decide +kernel
theorem dX2_takeLegs_23 : decode cX2_takeLegs 23 = .ok (.iload 7, 2) := by decide +kernel
theorem dX2_takeLegs_25 : decode cX2_takeLegs 25 = .ok (.invokevirtual 112, 3) := by decide +kernel
theorem dX2_takeLegs_28 : decode cX2_takeLegs 28 = .ok (.ifCond .eq 65, 3) := by decide +kernel
theorem dX2_takeLegs_31 : decode cX2_takeLegs 31 = .ok (.aload_n 0, 1) := by decide +kernel
theorem dX2_takeLegs_32 : decode cX2_takeLegs 32 = .ok (.getfield 22, 3) := by decide +kernel
theorem dX2_takeLegs_35 : decode cX2_takeLegs 35 = .ok (.aload_n 1, 1) := by decide +kernel
theorem dX2_takeLegs_36 : decode cX2_takeLegs 36 = .ok (.aload_n 1, 1) := by decide +kernel
theorem dX2_takeLegs_37 : decode cX2_takeLegs 37 = .ok (.getfield 63, 3) := by decide +kernel
theorem dX2_takeLegs_40 : decode cX2_takeLegs 40 = .ok (.iconst 1, 1) := by decide +kernel
theorem dX2_takeLegs_41 : decode cX2_takeLegs 41 = .ok (.isub, 1) := by decide +kernel
theorem dX2_takeLegs_42 : decode cX2_takeLegs 42 = .ok (.iconst 0, 1) := by decide +kernel
theorem dX2_takeLegs_43 : decode cX2_takeLegs 43 = .ok (.invokevirtual 66, 3) := by decide +kernel
theorem dX2_takeLegs_46 : decode cX2_takeLegs 46 = .ok (.invokevirtual 70, 3) := by decide +kernel
theorem dX2_takeLegs_49 : decode cX2_takeLegs 49 = .ok (.checkcast 38, 3) := by decide +kernel
theorem dX2_takeLegs_52 : decode cX2_takeLegs 52 = .ok (.astore 8, 2) := by decide +kernel
theorem dX2_takeLegs_54 : decode cX2_takeLegs 54 = .ok (.aload_n 1, 1) := by decide +kernel
theorem dX2_takeLegs_55 : decode cX2_takeLegs 55 = .ok (.aload_n 1, 1) := by decide +kernel
theorem dX2_takeLegs_56 : decode cX2_takeLegs 56 = .ok (.getfield 63, 3) := by decide +kernel
theorem dX2_takeLegs_59 : decode cX2_takeLegs 59 = .ok (.iconst 1, 1) := by decide +kernel
theorem dX2_takeLegs_60 : decode cX2_takeLegs 60 = .ok (.isub, 1) := by decide +kernel
theorem dX2_takeLegs_61 : decode cX2_takeLegs 61 = .ok (.iconst 2, 1) := by decide +kernel
theorem dX2_takeLegs_62 : decode cX2_takeLegs 62 = .ok (.invokevirtual 66, 3) := by decide +kernel
theorem dX2_takeLegs_65 : decode cX2_takeLegs 65 = .ok (.istore 9, 2) := by decide +kernel
theorem dX2_takeLegs_67 : decode cX2_takeLegs 67 = .ok (.aload 8, 2) := by decide +kernel
theorem dX2_takeLegs_69 : decode cX2_takeLegs 69 = .ok (.getfield 61, 3) := by decide +kernel
theorem dX2_takeLegs_72 : decode cX2_takeLegs 72 = .ok (.iload 9, 2) := by decide +kernel
theorem dX2_takeLegs_74 : decode cX2_takeLegs 74 = .ok (.iaload, 1) := by decide +kernel
theorem dX2_takeLegs_75 : decode cX2_takeLegs 75 = .ok (.istore 5, 2) := by decide +kernel
theorem dX2_takeLegs_77 : decode cX2_takeLegs 77 = .ok (.aload_n 0, 1) := by decide +kernel
theorem dX2_takeLegs_78 : decode cX2_takeLegs 78 = .ok (.aload 8, 2) := by decide +kernel
theorem dX2_takeLegs_80 : decode cX2_takeLegs 80 = .ok (.iload 9, 2) := by decide +kernel
theorem dX2_takeLegs_82 : decode cX2_takeLegs 82 = .ok (.invokevirtual 91, 3) := by decide +kernel
theorem dX2_takeLegs_85 : decode cX2_takeLegs 85 = .ok (.istore 6, 2) := by decide +kernel
theorem dX2_takeLegs_87 : decode cX2_takeLegs 87 = .ok (.iinc 7 (-1), 3) := by decide +kernel
theorem dX2_takeLegs_90 : decode cX2_takeLegs 90 = .ok (.goto (-78), 3) := by decide +kernel
theorem dX2_takeLegs_93 : decode cX2_takeLegs 93 = .ok (.return_, 1) := by decide +kernel
theorem dX2_legsOfTheWay_0 : decode cX2_legsOfTheWay 0 = .ok (.aload_n 0, 1) := by decide +kernel
theorem dX2_legsOfTheWay_1 : decode cX2_legsOfTheWay 1 = .ok (.getfield 28, 3) := by decide +kernel
theorem dX2_legsOfTheWay_4 : decode cX2_legsOfTheWay 4 = .ok (.iconst 0, 1) := by decide +kernel
theorem dX2_legsOfTheWay_5 : decode cX2_legsOfTheWay 5 = .ok (.aaload, 1) := by decide +kernel
theorem dX2_legsOfTheWay_6 : decode cX2_legsOfTheWay 6 = .ok (.ldc 116, 2) := by decide +kernel
theorem dX2_legsOfTheWay_8 : decode cX2_legsOfTheWay 8 = .ok (.invokestatic 117, 3) := by decide +kernel
theorem dX2_legsOfTheWay_11 : decode cX2_legsOfTheWay 11 = .ok (.aload_n 0, 1) := by decide +kernel
theorem dX2_legsOfTheWay_12 : decode cX2_legsOfTheWay 12 = .ok (.getfield 28, 3) := by decide +kernel
theorem dX2_legsOfTheWay_15 : decode cX2_legsOfTheWay 15 = .ok (.iconst 0, 1) := by decide +kernel
theorem dX2_legsOfTheWay_16 : decode cX2_legsOfTheWay 16 = .ok (.aaload, 1) := by decide +kernel
theorem dX2_legsOfTheWay_17 : decode cX2_legsOfTheWay 17 = .ok (.iload_n 1, 1) := by decide +kernel
theorem dX2_legsOfTheWay_18 : decode cX2_legsOfTheWay 18 = .ok (.iload_n 2, 1) := by decide +kernel
theorem dX2_legsOfTheWay_19 : decode cX2_legsOfTheWay 19 = .ok (.iastore, 1) := by decide +kernel
theorem dX2_legsOfTheWay_20 : decode cX2_legsOfTheWay 20 = .ok (.iload_n 1, 1) := by decide +kernel
theorem dX2_legsOfTheWay_21 : decode cX2_legsOfTheWay 21 = .ok (.iload_n 3, 1) := by decide +kernel
theorem dX2_legsOfTheWay_22 : decode cX2_legsOfTheWay 22 = .ok (.if_icmp .ne 7, 3) := by decide +kernel
theorem dX2_legsOfTheWay_25 : decode cX2_legsOfTheWay 25 = .ok (.iconst 0, 1) := by decide +kernel
theorem dX2_legsOfTheWay_26 : decode cX2_legsOfTheWay 26 = .ok (.goto 4, 3) := by decide +kernel
theorem dX2_legsOfTheWay_29 : decode cX2_legsOfTheWay 29 = .ok (.iconst (-1), 1) := by decide +kernel
theorem dX2_legsOfTheWay_30 : decode cX2_legsOfTheWay 30 = .ok (.istore 5, 2) := by decide +kernel
theorem dX2_legsOfTheWay_32 : decode cX2_legsOfTheWay 32 = .ok (.iconst 1, 1) := by decide +kernel
theorem dX2_legsOfTheWay_33 : decode cX2_legsOfTheWay 33 = .ok (.istore 6, 2) := by decide +kernel
theorem dX2_legsOfTheWay_35 : decode cX2_legsOfTheWay 35 = .ok (.iload 6, 2) := by decide +kernel
theorem dX2_legsOfTheWay_37 : decode cX2_legsOfTheWay 37 = .ok (.iload 4, 2) := by decide +kernel
theorem dX2_legsOfTheWay_39 : decode cX2_legsOfTheWay 39 = .ok (.if_icmp .gt 65, 3) := by decide +kernel
theorem dX2_legsOfTheWay_42 : decode cX2_legsOfTheWay 42 = .ok (.aload_n 0, 1) := by decide +kernel
theorem dX2_legsOfTheWay_43 : decode cX2_legsOfTheWay 43 = .ok (.aload_n 0, 1) := by decide +kernel
theorem dX2_legsOfTheWay_44 : decode cX2_legsOfTheWay 44 = .ok (.getfield 28, 3) := by decide +kernel
theorem dX2_legsOfTheWay_47 : decode cX2_legsOfTheWay 47 = .ok (.iload 6, 2) := by decide +kernel
theorem dX2_legsOfTheWay_49 : decode cX2_legsOfTheWay 49 = .ok (.iconst 1, 1) := by decide +kernel
theorem dX2_legsOfTheWay_50 : decode cX2_legsOfTheWay 50 = .ok (.isub, 1) := by decide +kernel
theorem dX2_legsOfTheWay_51 : decode cX2_legsOfTheWay 51 = .ok (.aaload, 1) := by decide +kernel
theorem dX2_legsOfTheWay_52 : decode cX2_legsOfTheWay 52 = .ok (.aload_n 0, 1) := by decide +kernel
theorem dX2_legsOfTheWay_53 : decode cX2_legsOfTheWay 53 = .ok (.getfield 28, 3) := by decide +kernel
theorem dX2_legsOfTheWay_56 : decode cX2_legsOfTheWay 56 = .ok (.iload 6, 2) := by decide +kernel
theorem dX2_legsOfTheWay_58 : decode cX2_legsOfTheWay 58 = .ok (.aaload, 1) := by decide +kernel
theorem dX2_legsOfTheWay_59 : decode cX2_legsOfTheWay 59 = .ok (.invokevirtual 123, 3) := by decide +kernel
theorem dX2_legsOfTheWay_62 : decode cX2_legsOfTheWay 62 = .ok (.aload_n 0, 1) := by decide +kernel
theorem dX2_legsOfTheWay_63 : decode cX2_legsOfTheWay 63 = .ok (.getfield 28, 3) := by decide +kernel
theorem dX2_legsOfTheWay_66 : decode cX2_legsOfTheWay 66 = .ok (.iload 6, 2) := by decide +kernel
theorem dX2_legsOfTheWay_68 : decode cX2_legsOfTheWay 68 = .ok (.aaload, 1) := by decide +kernel
theorem dX2_legsOfTheWay_69 : decode cX2_legsOfTheWay 69 = .ok (.iload_n 3, 1) := by decide +kernel
theorem dX2_legsOfTheWay_70 : decode cX2_legsOfTheWay 70 = .ok (.iaload, 1) := by decide +kernel
theorem dX2_legsOfTheWay_71 : decode cX2_legsOfTheWay 71 = .ok (.iload 5, 2) := by decide +kernel
theorem dX2_legsOfTheWay_73 : decode cX2_legsOfTheWay 73 = .ok (.iconst (-1), 1) := by decide +kernel
theorem dX2_legsOfTheWay_74 : decode cX2_legsOfTheWay 74 = .ok (.if_icmp .ne 8, 3) := by decide +kernel
theorem dX2_legsOfTheWay_77 : decode cX2_legsOfTheWay 77 = .ok (.ldc 116, 2) := by decide +kernel
theorem dX2_legsOfTheWay_79 : decode cX2_legsOfTheWay 79 = .ok (.goto 12, 3) := by decide +kernel
theorem dX2_legsOfTheWay_82 : decode cX2_legsOfTheWay 82 = .ok (.aload_n 0, 1) := by decide +kernel
theorem dX2_legsOfTheWay_83 : decode cX2_legsOfTheWay 83 = .ok (.getfield 28, 3) := by decide +kernel
theorem dX2_legsOfTheWay_86 : decode cX2_legsOfTheWay 86 = .ok (.iload 5, 2) := by decide +kernel
theorem dX2_legsOfTheWay_88 : decode cX2_legsOfTheWay 88 = .ok (.aaload, 1) := by decide +kernel
theorem dX2_legsOfTheWay_89 : decode cX2_legsOfTheWay 89 = .ok (.iload_n 3, 1) := by decide +kernel
theorem dX2_legsOfTheWay_90 : decode cX2_legsOfTheWay 90 = .ok (.iaload, 1) := by decide +kernel
theorem dX2_legsOfTheWay_91 : decode cX2_legsOfTheWay 91 = .ok (.if_icmp .ge 7, 3) := by decide +kernel
theorem dX2_legsOfTheWay_94 : decode cX2_legsOfTheWay 94 = .ok (.iload 6, 2) := by decide +kernel
theorem dX2_legsOfTheWay_96 : decode cX2_legsOfTheWay 96 = .ok (.istore 5, 2) := by decide +kernel
theorem dX2_legsOfTheWay_98 : decode cX2_legsOfTheWay 98 = .ok (.iinc 6 1, 3) := by decide +kernel
theorem dX2_legsOfTheWay_101 : decode cX2_legsOfTheWay 101 = .ok (.goto (-66), 3) := by decide +kernel
theorem dX2_legsOfTheWay_104 : decode cX2_legsOfTheWay 104 = .ok (.iload 5, 2) := by decide +kernel
theorem dX2_legsOfTheWay_106 : decode cX2_legsOfTheWay 106 = .ok (.ireturn, 1) := by decide +kernel
theorem dX2_findEarliest_0 : decode cX2_findEarliest 0 = .ok (.aload_n 2, 1) := by decide +kernel
theorem dX2_findEarliest_1 : decode cX2_findEarliest 1 = .ok (.ldc 116, 2) := by decide +kernel
theorem dX2_findEarliest_3 : decode cX2_findEarliest 3 = .ok (.invokestatic 117, 3) := by decide +kernel
theorem dX2_findEarliest_6 : decode cX2_findEarliest 6 = .ok (.iconst 0, 1) := by decide +kernel
theorem dX2_findEarliest_7 : decode cX2_findEarliest 7 = .ok (.istore_n 3, 1) := by decide +kernel
theorem dX2_findEarliest_8 : decode cX2_findEarliest 8 = .ok (.iload_n 3, 1) := by decide +kernel
theorem dX2_findEarliest_9 : decode cX2_findEarliest 9 = .ok (.aload_n 0, 1) := by decide +kernel
theorem dX2_findEarliest_10 : decode cX2_findEarliest 10 = .ok (.getfield 22, 3) := by decide +kernel
theorem dX2_findEarliest_13 : decode cX2_findEarliest 13 = .ok (.invokevirtual 34, 3) := by decide +kernel
theorem dX2_findEarliest_16 : decode cX2_findEarliest 16 = .ok (.if_icmp .ge 43, 3) := by decide +kernel
theorem dX2_findEarliest_19 : decode cX2_findEarliest 19 = .ok (.aload_n 0, 1) := by decide +kernel
theorem dX2_findEarliest_20 : decode cX2_findEarliest 20 = .ok (.getfield 22, 3) := by decide +kernel
theorem dX2_findEarliest_23 : decode cX2_findEarliest 23 = .ok (.iload_n 3, 1) := by decide +kernel
theorem dX2_findEarliest_24 : decode cX2_findEarliest 24 = .ok (.invokevirtual 70, 3) := by decide +kernel
theorem dX2_findEarliest_27 : decode cX2_findEarliest 27 = .ok (.checkcast 38, 3) := by decide +kernel
theorem dX2_findEarliest_30 : decode cX2_findEarliest 30 = .ok (.getfield 127, 3) := by decide +kernel
theorem dX2_findEarliest_33 : decode cX2_findEarliest 33 = .ok (.ifCond .ne 20, 3) := by decide +kernel
theorem dX2_findEarliest_36 : decode cX2_findEarliest 36 = .ok (.aload_n 0, 1) := by decide +kernel
theorem dX2_findEarliest_37 : decode cX2_findEarliest 37 = .ok (.aload_n 0, 1) := by decide +kernel
theorem dX2_findEarliest_38 : decode cX2_findEarliest 38 = .ok (.getfield 22, 3) := by decide +kernel
theorem dX2_findEarliest_41 : decode cX2_findEarliest 41 = .ok (.iload_n 3, 1) := by decide +kernel
theorem dX2_findEarliest_42 : decode cX2_findEarliest 42 = .ok (.invokevirtual 70, 3) := by decide +kernel
theorem dX2_findEarliest_45 : decode cX2_findEarliest 45 = .ok (.checkcast 38, 3) := by decide +kernel
theorem dX2_findEarliest_48 : decode cX2_findEarliest 48 = .ok (.aload_n 1, 1) := by decide +kernel
theorem dX2_findEarliest_49 : decode cX2_findEarliest 49 = .ok (.aload_n 2, 1) := by decide +kernel
theorem dX2_findEarliest_50 : decode cX2_findEarliest 50 = .ok (.invokevirtual 131, 3) := by decide +kernel
theorem dX2_findEarliest_53 : decode cX2_findEarliest 53 = .ok (.iinc 3 1, 3) := by decide +kernel
theorem dX2_findEarliest_56 : decode cX2_findEarliest 56 = .ok (.goto (-48), 3) := by decide +kernel
theorem dX2_findEarliest_59 : decode cX2_findEarliest 59 = .ok (.return_, 1) := by decide +kernel
theorem dX2_ride_0 : decode cX2_ride 0 = .ok (.iconst 0, 1) := by decide +kernel
theorem dX2_ride_1 : decode cX2_ride 1 = .ok (.istore 4, 2) := by decide +kernel
theorem dX2_ride_3 : decode cX2_ride 3 = .ok (.iconst 0, 1) := by decide +kernel
theorem dX2_ride_4 : decode cX2_ride 4 = .ok (.istore 5, 2) := by decide +kernel
theorem dX2_ride_6 : decode cX2_ride 6 = .ok (.iload 5, 2) := by decide +kernel
theorem dX2_ride_8 : decode cX2_ride 8 = .ok (.aload_n 1, 1) := by decide +kernel
theorem dX2_ride_9 : decode cX2_ride 9 = .ok (.getfield 135, 3) := by decide +kernel
theorem dX2_ride_12 : decode cX2_ride 12 = .ok (.if_icmp .ge 88, 3) := by decide +kernel
theorem dX2_ride_15 : decode cX2_ride 15 = .ok (.aload_n 1, 1) := by decide +kernel
theorem dX2_ride_16 : decode cX2_ride 16 = .ok (.getfield 61, 3) := by decide +kernel
theorem dX2_ride_19 : decode cX2_ride 19 = .ok (.iload 5, 2) := by decide +kernel
theorem dX2_ride_21 : decode cX2_ride 21 = .ok (.iaload, 1) := by decide +kernel
theorem dX2_ride_22 : decode cX2_ride 22 = .ok (.istore 6, 2) := by decide +kernel
theorem dX2_ride_24 : decode cX2_ride 24 = .ok (.iload 4, 2) := by decide +kernel
theorem dX2_ride_26 : decode cX2_ride 26 = .ok (.ifCond .eq 21, 3) := by decide +kernel
theorem dX2_ride_29 : decode cX2_ride 29 = .ok (.aload_n 3, 1) := by decide +kernel
theorem dX2_ride_30 : decode cX2_ride 30 = .ok (.iload 6, 2) := by decide +kernel
theorem dX2_ride_32 : decode cX2_ride 32 = .ok (.aload_n 3, 1) := by decide +kernel
theorem dX2_ride_33 : decode cX2_ride 33 = .ok (.iload 6, 2) := by decide +kernel
theorem dX2_ride_35 : decode cX2_ride 35 = .ok (.iaload, 1) := by decide +kernel
theorem dX2_ride_36 : decode cX2_ride 36 = .ok (.aload_n 0, 1) := by decide +kernel
theorem dX2_ride_37 : decode cX2_ride 37 = .ok (.aload_n 1, 1) := by decide +kernel
theorem dX2_ride_38 : decode cX2_ride 38 = .ok (.iload 5, 2) := by decide +kernel
theorem dX2_ride_40 : decode cX2_ride 40 = .ok (.invokevirtual 91, 3) := by decide +kernel
theorem dX2_ride_43 : decode cX2_ride 43 = .ok (.invokestatic 138, 3) := by decide +kernel
theorem dX2_ride_46 : decode cX2_ride 46 = .ok (.iastore, 1) := by decide +kernel
theorem dX2_ride_47 : decode cX2_ride 47 = .ok (.aload_n 2, 1) := by decide +kernel
theorem dX2_ride_48 : decode cX2_ride 48 = .ok (.iload 6, 2) := by decide +kernel
theorem dX2_ride_50 : decode cX2_ride 50 = .ok (.iaload, 1) := by decide +kernel
theorem dX2_ride_51 : decode cX2_ride 51 = .ok (.aload_n 1, 1) := by decide +kernel
theorem dX2_ride_52 : decode cX2_ride 52 = .ok (.getfield 58, 3) := by decide +kernel
theorem dX2_ride_55 : decode cX2_ride 55 = .ok (.iload 5, 2) := by decide +kernel
theorem dX2_ride_57 : decode cX2_ride 57 = .ok (.iaload, 1) := by decide +kernel
theorem dX2_ride_58 : decode cX2_ride 58 = .ok (.if_icmp .gt 7, 3) := by decide +kernel
theorem dX2_ride_61 : decode cX2_ride 61 = .ok (.iconst 1, 1) := by decide +kernel
theorem dX2_ride_62 : decode cX2_ride 62 = .ok (.goto 4, 3) := by decide +kernel
theorem dX2_ride_65 : decode cX2_ride 65 = .ok (.iconst 0, 1) := by decide +kernel
theorem dX2_ride_66 : decode cX2_ride 66 = .ok (.istore 7, 2) := by decide +kernel
theorem dX2_ride_68 : decode cX2_ride 68 = .ok (.iload 4, 2) := by decide +kernel
theorem dX2_ride_70 : decode cX2_ride 70 = .ok (.ifCond .ne 8, 3) := by decide +kernel
theorem dX2_ride_73 : decode cX2_ride 73 = .ok (.iload 7, 2) := by decide +kernel
theorem dX2_ride_75 : decode cX2_ride 75 = .ok (.ifCond .eq 16, 3) := by decide +kernel
theorem dX2_ride_78 : decode cX2_ride 78 = .ok (.aload_n 1, 1) := by decide +kernel
theorem dX2_ride_79 : decode cX2_ride 79 = .ok (.iload 5, 2) := by decide +kernel
theorem dX2_ride_81 : decode cX2_ride 81 = .ok (.invokevirtual 141, 3) := by decide +kernel
theorem dX2_ride_84 : decode cX2_ride 84 = .ok (.ifCond .ne 7, 3) := by decide +kernel
theorem dX2_ride_87 : decode cX2_ride 87 = .ok (.iconst 1, 1) := by decide +kernel
theorem dX2_ride_88 : decode cX2_ride 88 = .ok (.goto 4, 3) := by decide +kernel
theorem dX2_ride_91 : decode cX2_ride 91 = .ok (.iconst 0, 1) := by decide +kernel
theorem dX2_ride_92 : decode cX2_ride 92 = .ok (.istore 4, 2) := by decide +kernel
theorem dX2_ride_94 : decode cX2_ride 94 = .ok (.iinc 5 1, 3) := by decide +kernel
theorem dX2_ride_97 : decode cX2_ride 97 = .ok (.goto (-91), 3) := by decide +kernel
theorem dX2_ride_100 : decode cX2_ride 100 = .ok (.return_, 1) := by decide +kernel
theorem dX2_findLatest_0 : decode cX2_findLatest 0 = .ok (.aload_n 0, 1) := by decide +kernel
theorem dX2_findLatest_1 : decode cX2_findLatest 1 = .ok (.getfield 31, 3) := by decide +kernel
theorem dX2_findLatest_4 : decode cX2_findLatest 4 = .ok (.iconst 0, 1) := by decide +kernel
theorem dX2_findLatest_5 : decode cX2_findLatest 5 = .ok (.aaload, 1) := by decide +kernel
theorem dX2_findLatest_6 : decode cX2_findLatest 6 = .ok (.iconst (-1), 1) := by decide +kernel
theorem dX2_findLatest_7 : decode cX2_findLatest 7 = .ok (.invokestatic 117, 3) := by decide +kernel
theorem dX2_findLatest_10 : decode cX2_findLatest 10 = .ok (.aload_n 0, 1) := by decide +kernel
theorem dX2_findLatest_11 : decode cX2_findLatest 11 = .ok (.getfield 31, 3) := by decide +kernel
theorem dX2_findLatest_14 : decode cX2_findLatest 14 = .ok (.iconst 0, 1) := by decide +kernel
theorem dX2_findLatest_15 : decode cX2_findLatest 15 = .ok (.aaload, 1) := by decide +kernel
theorem dX2_findLatest_16 : decode cX2_findLatest 16 = .ok (.iload_n 1, 1) := by decide +kernel
theorem dX2_findLatest_17 : decode cX2_findLatest 17 = .ok (.iload_n 2, 1) := by decide +kernel
theorem dX2_findLatest_18 : decode cX2_findLatest 18 = .ok (.iastore, 1) := by decide +kernel
theorem dX2_findLatest_19 : decode cX2_findLatest 19 = .ok (.iconst 1, 1) := by decide +kernel
theorem dX2_findLatest_20 : decode cX2_findLatest 20 = .ok (.istore 4, 2) := by decide +kernel
theorem dX2_findLatest_22 : decode cX2_findLatest 22 = .ok (.iload 4, 2) := by decide +kernel
theorem dX2_findLatest_24 : decode cX2_findLatest 24 = .ok (.iload_n 3, 1) := by decide +kernel
theorem dX2_findLatest_25 : decode cX2_findLatest 25 = .ok (.if_icmp .ge 91, 3) := by decide +kernel
theorem dX2_findLatest_28 : decode cX2_findLatest 28 = .ok (.aload_n 0, 1) := by decide +kernel
theorem dX2_findLatest_29 : decode cX2_findLatest 29 = .ok (.getfield 31, 3) := by decide +kernel
theorem dX2_findLatest_32 : decode cX2_findLatest 32 = .ok (.iload 4, 2) := by decide +kernel
theorem dX2_findLatest_34 : decode cX2_findLatest 34 = .ok (.aaload, 1) := by decide +kernel
theorem dX2_findLatest_35 : decode cX2_findLatest 35 = .ok (.iconst (-1), 1) := by decide +kernel
theorem dX2_findLatest_36 : decode cX2_findLatest 36 = .ok (.invokestatic 117, 3) := by decide +kernel
theorem dX2_findLatest_39 : decode cX2_findLatest 39 = .ok (.iconst 0, 1) := by decide +kernel
theorem dX2_findLatest_40 : decode cX2_findLatest 40 = .ok (.istore 5, 2) := by decide +kernel
theorem dX2_findLatest_42 : decode cX2_findLatest 42 = .ok (.iload 5, 2) := by decide +kernel
theorem dX2_findLatest_44 : decode cX2_findLatest 44 = .ok (.aload_n 0, 1) := by decide +kernel
theorem dX2_findLatest_45 : decode cX2_findLatest 45 = .ok (.getfield 22, 3) := by decide +kernel
theorem dX2_findLatest_48 : decode cX2_findLatest 48 = .ok (.invokevirtual 34, 3) := by decide +kernel
theorem dX2_findLatest_51 : decode cX2_findLatest 51 = .ok (.if_icmp .ge 59, 3) := by decide +kernel
theorem dX2_findLatest_54 : decode cX2_findLatest 54 = .ok (.aload_n 0, 1) := by decide +kernel
theorem dX2_findLatest_55 : decode cX2_findLatest 55 = .ok (.getfield 22, 3) := by decide +kernel
theorem dX2_findLatest_58 : decode cX2_findLatest 58 = .ok (.iload 5, 2) := by decide +kernel
theorem dX2_findLatest_60 : decode cX2_findLatest 60 = .ok (.invokevirtual 70, 3) := by decide +kernel
theorem dX2_findLatest_63 : decode cX2_findLatest 63 = .ok (.checkcast 38, 3) := by decide +kernel
theorem dX2_findLatest_66 : decode cX2_findLatest 66 = .ok (.getfield 127, 3) := by decide +kernel
theorem dX2_findLatest_69 : decode cX2_findLatest 69 = .ok (.ifCond .ne 35, 3) := by decide +kernel
theorem dX2_findLatest_72 : decode cX2_findLatest 72 = .ok (.aload_n 0, 1) := by decide +kernel
theorem dX2_findLatest_73 : decode cX2_findLatest 73 = .ok (.aload_n 0, 1) := by decide +kernel
theorem dX2_findLatest_74 : decode cX2_findLatest 74 = .ok (.getfield 22, 3) := by decide +kernel
theorem dX2_findLatest_77 : decode cX2_findLatest 77 = .ok (.iload 5, 2) := by decide +kernel
theorem dX2_findLatest_79 : decode cX2_findLatest 79 = .ok (.invokevirtual 70, 3) := by decide +kernel
theorem dX2_findLatest_82 : decode cX2_findLatest 82 = .ok (.checkcast 38, 3) := by decide +kernel
theorem dX2_findLatest_85 : decode cX2_findLatest 85 = .ok (.aload_n 0, 1) := by decide +kernel
theorem dX2_findLatest_86 : decode cX2_findLatest 86 = .ok (.getfield 31, 3) := by decide +kernel
theorem dX2_findLatest_89 : decode cX2_findLatest 89 = .ok (.iload 4, 2) := by decide +kernel
theorem dX2_findLatest_91 : decode cX2_findLatest 91 = .ok (.iconst 1, 1) := by decide +kernel
theorem dX2_findLatest_92 : decode cX2_findLatest 92 = .ok (.isub, 1) := by decide +kernel
theorem dX2_findLatest_93 : decode cX2_findLatest 93 = .ok (.aaload, 1) := by decide +kernel
theorem dX2_findLatest_94 : decode cX2_findLatest 94 = .ok (.aload_n 0, 1) := by decide +kernel
theorem dX2_findLatest_95 : decode cX2_findLatest 95 = .ok (.getfield 31, 3) := by decide +kernel
theorem dX2_findLatest_98 : decode cX2_findLatest 98 = .ok (.iload 4, 2) := by decide +kernel
theorem dX2_findLatest_100 : decode cX2_findLatest 100 = .ok (.aaload, 1) := by decide +kernel
theorem dX2_findLatest_101 : decode cX2_findLatest 101 = .ok (.invokevirtual 145, 3) := by decide +kernel
theorem dX2_findLatest_104 : decode cX2_findLatest 104 = .ok (.iinc 5 1, 3) := by decide +kernel
theorem dX2_findLatest_107 : decode cX2_findLatest 107 = .ok (.goto (-65), 3) := by decide +kernel
theorem dX2_findLatest_110 : decode cX2_findLatest 110 = .ok (.iinc 4 1, 3) := by decide +kernel
theorem dX2_findLatest_113 : decode cX2_findLatest 113 = .ok (.goto (-91), 3) := by decide +kernel
theorem dX2_findLatest_116 : decode cX2_findLatest 116 = .ok (.return_, 1) := by decide +kernel
theorem dX2_rideBackwards_0 : decode cX2_rideBackwards 0 = .ok (.iconst 0, 1) := by decide +kernel
theorem dX2_rideBackwards_1 : decode cX2_rideBackwards 1 = .ok (.istore 4, 2) := by decide +kernel
theorem dX2_rideBackwards_3 : decode cX2_rideBackwards 3 = .ok (.aload_n 1, 1) := by decide +kernel
theorem dX2_rideBackwards_4 : decode cX2_rideBackwards 4 = .ok (.getfield 135, 3) := by decide +kernel
theorem dX2_rideBackwards_7 : decode cX2_rideBackwards 7 = .ok (.iconst 1, 1) := by decide +kernel
theorem dX2_rideBackwards_8 : decode cX2_rideBackwards 8 = .ok (.isub, 1) := by decide +kernel
theorem dX2_rideBackwards_9 : decode cX2_rideBackwards 9 = .ok (.istore 5, 2) := by decide +kernel
theorem dX2_rideBackwards_11 : decode cX2_rideBackwards 11 = .ok (.iload 5, 2) := by decide +kernel
theorem dX2_rideBackwards_13 : decode cX2_rideBackwards 13 = .ok (.ifCond .lt 88, 3) := by decide +kernel
theorem dX2_rideBackwards_16 : decode cX2_rideBackwards 16 = .ok (.aload_n 1, 1) := by decide +kernel
theorem dX2_rideBackwards_17 : decode cX2_rideBackwards 17 = .ok (.getfield 61, 3) := by decide +kernel
theorem dX2_rideBackwards_20 : decode cX2_rideBackwards 20 = .ok (.iload 5, 2) := by decide +kernel
theorem dX2_rideBackwards_22 : decode cX2_rideBackwards 22 = .ok (.iaload, 1) := by decide +kernel
theorem dX2_rideBackwards_23 : decode cX2_rideBackwards 23 = .ok (.istore 6, 2) := by decide +kernel
theorem dX2_rideBackwards_25 : decode cX2_rideBackwards 25 = .ok (.iload 4, 2) := by decide +kernel
theorem dX2_rideBackwards_27 : decode cX2_rideBackwards 27 = .ok (.ifCond .eq 16, 3) := by decide +kernel
theorem dX2_rideBackwards_30 : decode cX2_rideBackwards 30 = .ok (.aload_n 1, 1) := by decide +kernel
theorem dX2_rideBackwards_31 : decode cX2_rideBackwards 31 = .ok (.iload 5, 2) := by decide +kernel
theorem dX2_rideBackwards_33 : decode cX2_rideBackwards 33 = .ok (.invokevirtual 141, 3) := by decide +kernel
theorem dX2_rideBackwards_36 : decode cX2_rideBackwards 36 = .ok (.ifCond .ne 7, 3) := by decide +kernel
theorem dX2_rideBackwards_39 : decode cX2_rideBackwards 39 = .ok (.iconst 1, 1) := by decide +kernel
theorem dX2_rideBackwards_40 : decode cX2_rideBackwards 40 = .ok (.goto 4, 3) := by decide +kernel
theorem dX2_rideBackwards_43 : decode cX2_rideBackwards 43 = .ok (.iconst 0, 1) := by decide +kernel
theorem dX2_rideBackwards_44 : decode cX2_rideBackwards 44 = .ok (.istore 4, 2) := by decide +kernel
theorem dX2_rideBackwards_46 : decode cX2_rideBackwards 46 = .ok (.iload 4, 2) := by decide +kernel
theorem dX2_rideBackwards_48 : decode cX2_rideBackwards 48 = .ok (.ifCond .eq 21, 3) := by decide +kernel
theorem dX2_rideBackwards_51 : decode cX2_rideBackwards 51 = .ok (.aload_n 3, 1) := by decide +kernel
theorem dX2_rideBackwards_52 : decode cX2_rideBackwards 52 = .ok (.iload 6, 2) := by decide +kernel
theorem dX2_rideBackwards_54 : decode cX2_rideBackwards 54 = .ok (.aload_n 3, 1) := by decide +kernel
theorem dX2_rideBackwards_55 : decode cX2_rideBackwards 55 = .ok (.iload 6, 2) := by decide +kernel
theorem dX2_rideBackwards_57 : decode cX2_rideBackwards 57 = .ok (.iaload, 1) := by decide +kernel
theorem dX2_rideBackwards_58 : decode cX2_rideBackwards 58 = .ok (.aload_n 1, 1) := by decide +kernel
theorem dX2_rideBackwards_59 : decode cX2_rideBackwards 59 = .ok (.getfield 58, 3) := by decide +kernel
theorem dX2_rideBackwards_62 : decode cX2_rideBackwards 62 = .ok (.iload 5, 2) := by decide +kernel
theorem dX2_rideBackwards_64 : decode cX2_rideBackwards 64 = .ok (.iaload, 1) := by decide +kernel
theorem dX2_rideBackwards_65 : decode cX2_rideBackwards 65 = .ok (.invokestatic 82, 3) := by decide +kernel
theorem dX2_rideBackwards_68 : decode cX2_rideBackwards 68 = .ok (.iastore, 1) := by decide +kernel
theorem dX2_rideBackwards_69 : decode cX2_rideBackwards 69 = .ok (.iload 4, 2) := by decide +kernel
theorem dX2_rideBackwards_71 : decode cX2_rideBackwards 71 = .ok (.ifCond .ne 17, 3) := by decide +kernel
theorem dX2_rideBackwards_74 : decode cX2_rideBackwards 74 = .ok (.aload_n 0, 1) := by decide +kernel
theorem dX2_rideBackwards_75 : decode cX2_rideBackwards 75 = .ok (.aload_n 1, 1) := by decide +kernel
theorem dX2_rideBackwards_76 : decode cX2_rideBackwards 76 = .ok (.iload 5, 2) := by decide +kernel
theorem dX2_rideBackwards_78 : decode cX2_rideBackwards 78 = .ok (.invokevirtual 91, 3) := by decide +kernel
theorem dX2_rideBackwards_81 : decode cX2_rideBackwards 81 = .ok (.aload_n 2, 1) := by decide +kernel
theorem dX2_rideBackwards_82 : decode cX2_rideBackwards 82 = .ok (.iload 6, 2) := by decide +kernel
theorem dX2_rideBackwards_84 : decode cX2_rideBackwards 84 = .ok (.iaload, 1) := by decide +kernel
theorem dX2_rideBackwards_85 : decode cX2_rideBackwards 85 = .ok (.if_icmp .gt 7, 3) := by decide +kernel
theorem dX2_rideBackwards_88 : decode cX2_rideBackwards 88 = .ok (.iconst 1, 1) := by decide +kernel
theorem dX2_rideBackwards_89 : decode cX2_rideBackwards 89 = .ok (.goto 4, 3) := by decide +kernel
theorem dX2_rideBackwards_92 : decode cX2_rideBackwards 92 = .ok (.iconst 0, 1) := by decide +kernel
theorem dX2_rideBackwards_93 : decode cX2_rideBackwards 93 = .ok (.istore 4, 2) := by decide +kernel
theorem dX2_rideBackwards_95 : decode cX2_rideBackwards 95 = .ok (.iinc 5 (-1), 3) := by decide +kernel
theorem dX2_rideBackwards_98 : decode cX2_rideBackwards 98 = .ok (.goto (-87), 3) := by decide +kernel
theorem dX2_rideBackwards_101 : decode cX2_rideBackwards 101 = .ok (.return_, 1) := by decide +kernel
theorem dX2_takeFirstLeg_0 : decode cX2_takeFirstLeg 0 = .ok (.iconst 0, 1) := by decide +kernel
theorem dX2_takeFirstLeg_1 : decode cX2_takeFirstLeg 1 = .ok (.istore 5, 2) := by decide +kernel
theorem dX2_takeFirstLeg_3 : decode cX2_takeFirstLeg 3 = .ok (.iload 5, 2) := by decide +kernel
theorem dX2_takeFirstLeg_5 : decode cX2_takeFirstLeg 5 = .ok (.aload_n 0, 1) := by decide +kernel
theorem dX2_takeFirstLeg_6 : decode cX2_takeFirstLeg 6 = .ok (.getfield 22, 3) := by decide +kernel
theorem dX2_takeFirstLeg_9 : decode cX2_takeFirstLeg 9 = .ok (.invokevirtual 34, 3) := by decide +kernel
theorem dX2_takeFirstLeg_12 : decode cX2_takeFirstLeg 12 = .ok (.if_icmp .ge 119, 3) := by decide +kernel
theorem dX2_takeFirstLeg_15 : decode cX2_takeFirstLeg 15 = .ok (.aload_n 0, 1) := by decide +kernel
theorem dX2_takeFirstLeg_16 : decode cX2_takeFirstLeg 16 = .ok (.getfield 22, 3) := by decide +kernel
theorem dX2_takeFirstLeg_19 : decode cX2_takeFirstLeg 19 = .ok (.iload 5, 2) := by decide +kernel
theorem dX2_takeFirstLeg_21 : decode cX2_takeFirstLeg 21 = .ok (.invokevirtual 70, 3) := by decide +kernel
theorem dX2_takeFirstLeg_24 : decode cX2_takeFirstLeg 24 = .ok (.checkcast 38, 3) := by decide +kernel
theorem dX2_takeFirstLeg_27 : decode cX2_takeFirstLeg 27 = .ok (.astore 6, 2) := by decide +kernel
theorem dX2_takeFirstLeg_29 : decode cX2_takeFirstLeg 29 = .ok (.iconst 0, 1) := by decide +kernel
theorem dX2_takeFirstLeg_30 : decode cX2_takeFirstLeg 30 = .ok (.istore 7, 2) := by decide +kernel
theorem dX2_takeFirstLeg_32 : decode cX2_takeFirstLeg 32 = .ok (.iload 7, 2) := by decide +kernel
theorem dX2_takeFirstLeg_34 : decode cX2_takeFirstLeg 34 = .ok (.aload 6, 2) := by decide +kernel
theorem dX2_takeFirstLeg_36 : decode cX2_takeFirstLeg 36 = .ok (.getfield 135, 3) := by decide +kernel
theorem dX2_takeFirstLeg_39 : decode cX2_takeFirstLeg 39 = .ok (.if_icmp .ge 86, 3) := by decide +kernel
theorem dX2_takeFirstLeg_42 : decode cX2_takeFirstLeg 42 = .ok (.aload 6, 2) := by decide +kernel
theorem dX2_takeFirstLeg_44 : decode cX2_takeFirstLeg 44 = .ok (.getfield 127, 3) := by decide +kernel
theorem dX2_takeFirstLeg_47 : decode cX2_takeFirstLeg 47 = .ok (.ifCond .ne 78, 3) := by decide +kernel
theorem dX2_takeFirstLeg_50 : decode cX2_takeFirstLeg 50 = .ok (.aload 6, 2) := by decide +kernel
theorem dX2_takeFirstLeg_52 : decode cX2_takeFirstLeg 52 = .ok (.getfield 61, 3) := by decide +kernel
theorem dX2_takeFirstLeg_55 : decode cX2_takeFirstLeg 55 = .ok (.iload 7, 2) := by decide +kernel
theorem dX2_takeFirstLeg_57 : decode cX2_takeFirstLeg 57 = .ok (.iaload, 1) := by decide +kernel
theorem dX2_takeFirstLeg_58 : decode cX2_takeFirstLeg 58 = .ok (.iload_n 2, 1) := by decide +kernel
theorem dX2_takeFirstLeg_59 : decode cX2_takeFirstLeg 59 = .ok (.if_icmp .ne 60, 3) := by decide +kernel
theorem dX2_takeFirstLeg_62 : decode cX2_takeFirstLeg 62 = .ok (.aload 6, 2) := by decide +kernel
theorem dX2_takeFirstLeg_64 : decode cX2_takeFirstLeg 64 = .ok (.getfield 58, 3) := by decide +kernel
theorem dX2_takeFirstLeg_67 : decode cX2_takeFirstLeg 67 = .ok (.iload 7, 2) := by decide +kernel
theorem dX2_takeFirstLeg_69 : decode cX2_takeFirstLeg 69 = .ok (.iaload, 1) := by decide +kernel
theorem dX2_takeFirstLeg_70 : decode cX2_takeFirstLeg 70 = .ok (.iload_n 3, 1) := by decide +kernel
theorem dX2_takeFirstLeg_71 : decode cX2_takeFirstLeg 71 = .ok (.if_icmp .lt 48, 3) := by decide +kernel
theorem dX2_takeFirstLeg_74 : decode cX2_takeFirstLeg 74 = .ok (.aload_n 0, 1) := by decide +kernel
theorem dX2_takeFirstLeg_75 : decode cX2_takeFirstLeg 75 = .ok (.aload 6, 2) := by decide +kernel
theorem dX2_takeFirstLeg_77 : decode cX2_takeFirstLeg 77 = .ok (.iload 7, 2) := by decide +kernel
theorem dX2_takeFirstLeg_79 : decode cX2_takeFirstLeg 79 = .ok (.aload_n 0, 1) := by decide +kernel
theorem dX2_takeFirstLeg_80 : decode cX2_takeFirstLeg 80 = .ok (.getfield 31, 3) := by decide +kernel
theorem dX2_takeFirstLeg_83 : decode cX2_takeFirstLeg 83 = .ok (.iload 4, 2) := by decide +kernel
theorem dX2_takeFirstLeg_85 : decode cX2_takeFirstLeg 85 = .ok (.aaload, 1) := by decide +kernel
theorem dX2_takeFirstLeg_86 : decode cX2_takeFirstLeg 86 = .ok (.invokevirtual 148, 3) := by decide +kernel
theorem dX2_takeFirstLeg_89 : decode cX2_takeFirstLeg 89 = .ok (.istore 8, 2) := by decide +kernel
theorem dX2_takeFirstLeg_91 : decode cX2_takeFirstLeg 91 = .ok (.iload 8, 2) := by decide +kernel
theorem dX2_takeFirstLeg_93 : decode cX2_takeFirstLeg 93 = .ok (.iconst (-1), 1) := by decide +kernel
theorem dX2_takeFirstLeg_94 : decode cX2_takeFirstLeg 94 = .ok (.if_icmp .eq 25, 3) := by decide +kernel
theorem dX2_takeFirstLeg_97 : decode cX2_takeFirstLeg 97 = .ok (.aload 6, 2) := by decide +kernel
theorem dX2_takeFirstLeg_99 : decode cX2_takeFirstLeg 99 = .ok (.iload 7, 2) := by decide +kernel
theorem dX2_takeFirstLeg_101 : decode cX2_takeFirstLeg 101 = .ok (.iload 8, 2) := by decide +kernel
theorem dX2_takeFirstLeg_103 : decode cX2_takeFirstLeg 103 = .ok (.iconst 1, 1) := by decide +kernel
theorem dX2_takeFirstLeg_104 : decode cX2_takeFirstLeg 104 = .ok (.invokevirtual 74, 3) := by decide +kernel
theorem dX2_takeFirstLeg_107 : decode cX2_takeFirstLeg 107 = .ok (.aload_n 1, 1) := by decide +kernel
theorem dX2_takeFirstLeg_108 : decode cX2_takeFirstLeg 108 = .ok (.iload 5, 2) := by decide +kernel
theorem dX2_takeFirstLeg_110 : decode cX2_takeFirstLeg 110 = .ok (.iload 7, 2) := by decide +kernel
theorem dX2_takeFirstLeg_112 : decode cX2_takeFirstLeg 112 = .ok (.iload 8, 2) := by decide +kernel
theorem dX2_takeFirstLeg_114 : decode cX2_takeFirstLeg 114 = .ok (.invokevirtual 152, 3) := by decide +kernel
theorem dX2_takeFirstLeg_117 : decode cX2_takeFirstLeg 117 = .ok (.iconst 1, 1) := by decide +kernel
theorem dX2_takeFirstLeg_118 : decode cX2_takeFirstLeg 118 = .ok (.ireturn, 1) := by decide +kernel
theorem dX2_takeFirstLeg_119 : decode cX2_takeFirstLeg 119 = .ok (.iinc 7 1, 3) := by decide +kernel
theorem dX2_takeFirstLeg_122 : decode cX2_takeFirstLeg 122 = .ok (.goto (-90), 3) := by decide +kernel
theorem dX2_takeFirstLeg_125 : decode cX2_takeFirstLeg 125 = .ok (.iinc 5 1, 3) := by decide +kernel
theorem dX2_takeFirstLeg_128 : decode cX2_takeFirstLeg 128 = .ok (.goto (-125), 3) := by decide +kernel
theorem dX2_takeFirstLeg_131 : decode cX2_takeFirstLeg 131 = .ok (.iconst 0, 1) := by decide +kernel
theorem dX2_takeFirstLeg_132 : decode cX2_takeFirstLeg 132 = .ok (.ireturn, 1) := by decide +kernel
theorem dX2_firstOff_0 : decode cX2_firstOff 0 = .ok (.iload_n 2, 1) := by decide +kernel
theorem dX2_firstOff_1 : decode cX2_firstOff 1 = .ok (.iconst 1, 1) := by decide +kernel
theorem dX2_firstOff_2 : decode cX2_firstOff 2 = .ok (.iadd, 1) := by decide +kernel
theorem dX2_firstOff_3 : decode cX2_firstOff 3 = .ok (.istore 4, 2) := by decide +kernel
theorem dX2_firstOff_5 : decode cX2_firstOff 5 = .ok (.iload 4, 2) := by decide +kernel
theorem dX2_firstOff_7 : decode cX2_firstOff 7 = .ok (.aload_n 1, 1) := by decide +kernel
theorem dX2_firstOff_8 : decode cX2_firstOff 8 = .ok (.getfield 135, 3) := by decide +kernel
theorem dX2_firstOff_11 : decode cX2_firstOff 11 = .ok (.if_icmp .ge 42, 3) := by decide +kernel
theorem dX2_firstOff_14 : decode cX2_firstOff 14 = .ok (.aload_n 1, 1) := by decide +kernel
theorem dX2_firstOff_15 : decode cX2_firstOff 15 = .ok (.iload 4, 2) := by decide +kernel
theorem dX2_firstOff_17 : decode cX2_firstOff 17 = .ok (.iconst 1, 1) := by decide +kernel
theorem dX2_firstOff_18 : decode cX2_firstOff 18 = .ok (.isub, 1) := by decide +kernel
theorem dX2_firstOff_19 : decode cX2_firstOff 19 = .ok (.invokevirtual 141, 3) := by decide +kernel
theorem dX2_firstOff_22 : decode cX2_firstOff 22 = .ok (.ifCond .ne 31, 3) := by decide +kernel
theorem dX2_firstOff_25 : decode cX2_firstOff 25 = .ok (.aload_n 0, 1) := by decide +kernel
theorem dX2_firstOff_26 : decode cX2_firstOff 26 = .ok (.aload_n 1, 1) := by decide +kernel
theorem dX2_firstOff_27 : decode cX2_firstOff 27 = .ok (.iload 4, 2) := by decide +kernel
theorem dX2_firstOff_29 : decode cX2_firstOff 29 = .ok (.invokevirtual 91, 3) := by decide +kernel
theorem dX2_firstOff_32 : decode cX2_firstOff 32 = .ok (.aload_n 3, 1) := by decide +kernel
theorem dX2_firstOff_33 : decode cX2_firstOff 33 = .ok (.aload_n 1, 1) := by decide +kernel
theorem dX2_firstOff_34 : decode cX2_firstOff 34 = .ok (.getfield 61, 3) := by decide +kernel
theorem dX2_firstOff_37 : decode cX2_firstOff 37 = .ok (.iload 4, 2) := by decide +kernel
theorem dX2_firstOff_39 : decode cX2_firstOff 39 = .ok (.iaload, 1) := by decide +kernel
theorem dX2_firstOff_40 : decode cX2_firstOff 40 = .ok (.iaload, 1) := by decide +kernel
theorem dX2_firstOff_41 : decode cX2_firstOff 41 = .ok (.if_icmp .gt 6, 3) := by decide +kernel
theorem dX2_firstOff_44 : decode cX2_firstOff 44 = .ok (.iload 4, 2) := by decide +kernel
theorem dX2_firstOff_46 : decode cX2_firstOff 46 = .ok (.ireturn, 1) := by decide +kernel
theorem dX2_firstOff_47 : decode cX2_firstOff 47 = .ok (.iinc 4 1, 3) := by decide +kernel
theorem dX2_firstOff_50 : decode cX2_firstOff 50 = .ok (.goto (-45), 3) := by decide +kernel
theorem dX2_firstOff_53 : decode cX2_firstOff 53 = .ok (.iconst (-1), 1) := by decide +kernel
theorem dX2_firstOff_54 : decode cX2_firstOff 54 = .ok (.ireturn, 1) := by decide +kernel
theorem dX3_init_0 : decode cX3_init 0 = .ok (.aload_n 0, 1) := by decide +kernel
theorem dX3_init_1 : decode cX3_init 1 = .ok (.invokespecial 3, 3) := by decide +kernel
theorem dX3_init_4 : decode cX3_init 4 = .ok (.aload_n 0, 1) := by decide +kernel
theorem dX3_init_5 : decode cX3_init 5 = .ok (.iload_n 1, 1) := by decide +kernel
theorem dX3_init_6 : decode cX3_init 6 = .ok (.putfield 9, 3) := by decide +kernel
theorem dX3_init_9 : decode cX3_init 9 = .ok (.aload_n 0, 1) := by decide +kernel
theorem dX3_init_10 : decode cX3_init 10 = .ok (.bipush 10, 2) := by decide +kernel
theorem dX3_init_12 : decode cX3_init 12 = .ok (.newarray .int, 2) := by decide +kernel
theorem dX3_init_14 : decode cX3_init 14 = .ok (.putfield 15, 3) := by decide +kernel
theorem dX3_init_17 : decode cX3_init 17 = .ok (.aload_n 0, 1) := by decide +kernel
theorem dX3_init_18 : decode cX3_init 18 = .ok (.bipush 10, 2) := by decide +kernel
theorem dX3_init_20 : decode cX3_init 20 = .ok (.newarray .int, 2) := by decide +kernel
theorem dX3_init_22 : decode cX3_init 22 = .ok (.putfield 19, 3) := by decide +kernel
theorem dX3_init_25 : decode cX3_init 25 = .ok (.aload_n 0, 1) := by decide +kernel
theorem dX3_init_26 : decode cX3_init 26 = .ok (.bipush 10, 2) := by decide +kernel
theorem dX3_init_28 : decode cX3_init 28 = .ok (.newarray .int, 2) := by decide +kernel
theorem dX3_init_30 : decode cX3_init 30 = .ok (.putfield 22, 3) := by decide +kernel
theorem dX3_init_33 : decode cX3_init 33 = .ok (.aload_n 0, 1) := by decide +kernel
theorem dX3_init_34 : decode cX3_init 34 = .ok (.iconst 0, 1) := by decide +kernel
theorem dX3_init_35 : decode cX3_init 35 = .ok (.putfield 25, 3) := by decide +kernel
theorem dX3_init_38 : decode cX3_init 38 = .ok (.aload_n 0, 1) := by decide +kernel
theorem dX3_init_39 : decode cX3_init 39 = .ok (.iconst 0, 1) := by decide +kernel
theorem dX3_init_40 : decode cX3_init 40 = .ok (.putfield 28, 3) := by decide +kernel
theorem dX3_init_43 : decode cX3_init 43 = .ok (.return_, 1) := by decide +kernel
theorem dX3_addStop_0 : decode cX3_addStop 0 = .ok (.aload_n 0, 1) := by decide +kernel
theorem dX3_addStop_1 : decode cX3_addStop 1 = .ok (.getfield 25, 3) := by decide +kernel
theorem dX3_addStop_4 : decode cX3_addStop 4 = .ok (.bipush 10, 2) := by decide +kernel
theorem dX3_addStop_6 : decode cX3_addStop 6 = .ok (.if_icmp .ge 12, 3) := by decide +kernel
theorem dX3_addStop_9 : decode cX3_addStop 9 = .ok (.aload_n 0, 1) := by decide +kernel
theorem dX3_addStop_10 : decode cX3_addStop 10 = .ok (.iload_n 1, 1) := by decide +kernel
theorem dX3_addStop_11 : decode cX3_addStop 11 = .ok (.iload_n 2, 1) := by decide +kernel
theorem dX3_addStop_12 : decode cX3_addStop 12 = .ok (.invokevirtual 32, 3) := by decide +kernel
theorem dX3_addStop_15 : decode cX3_addStop 15 = .ok (.ifCond .ne 5, 3) := by decide +kernel
theorem dX3_addStop_18 : decode cX3_addStop 18 = .ok (.iconst (-1), 1) := by decide +kernel
theorem dX3_addStop_19 : decode cX3_addStop 19 = .ok (.ireturn, 1) := by decide +kernel
theorem dX3_addStop_20 : decode cX3_addStop 20 = .ok (.aload_n 0, 1) := by decide +kernel
theorem dX3_addStop_21 : decode cX3_addStop 21 = .ok (.getfield 15, 3) := by decide +kernel
theorem dX3_addStop_24 : decode cX3_addStop 24 = .ok (.aload_n 0, 1) := by decide +kernel
theorem dX3_addStop_25 : decode cX3_addStop 25 = .ok (.getfield 25, 3) := by decide +kernel
theorem dX3_addStop_28 : decode cX3_addStop 28 = .ok (.iload_n 1, 1) := by decide +kernel
theorem dX3_addStop_29 : decode cX3_addStop 29 = .ok (.iastore, 1) := by decide +kernel
theorem dX3_addStop_30 : decode cX3_addStop 30 = .ok (.aload_n 0, 1) := by decide +kernel
theorem dX3_addStop_31 : decode cX3_addStop 31 = .ok (.getfield 19, 3) := by decide +kernel
theorem dX3_addStop_34 : decode cX3_addStop 34 = .ok (.aload_n 0, 1) := by decide +kernel
theorem dX3_addStop_35 : decode cX3_addStop 35 = .ok (.getfield 25, 3) := by decide +kernel
theorem dX3_addStop_38 : decode cX3_addStop 38 = .ok (.iload_n 2, 1) := by decide +kernel
theorem dX3_addStop_39 : decode cX3_addStop 39 = .ok (.iastore, 1) := by decide +kernel
theorem dX3_addStop_40 : decode cX3_addStop 40 = .ok (.aload_n 0, 1) := by decide +kernel
theorem dX3_addStop_41 : decode cX3_addStop 41 = .ok (.dup, 1) := by decide +kernel
theorem dX3_addStop_42 : decode cX3_addStop 42 = .ok (.getfield 25, 3) := by decide +kernel
theorem dX3_addStop_45 : decode cX3_addStop 45 = .ok (.iconst 1, 1) := by decide +kernel
theorem dX3_addStop_46 : decode cX3_addStop 46 = .ok (.iadd, 1) := by decide +kernel
theorem dX3_addStop_47 : decode cX3_addStop 47 = .ok (.putfield 25, 3) := by decide +kernel
theorem dX3_addStop_50 : decode cX3_addStop 50 = .ok (.aload_n 0, 1) := by decide +kernel
theorem dX3_addStop_51 : decode cX3_addStop 51 = .ok (.getfield 25, 3) := by decide +kernel
theorem dX3_addStop_54 : decode cX3_addStop 54 = .ok (.iconst 1, 1) := by decide +kernel
theorem dX3_addStop_55 : decode cX3_addStop 55 = .ok (.isub, 1) := by decide +kernel
theorem dX3_addStop_56 : decode cX3_addStop 56 = .ok (.ireturn, 1) := by decide +kernel
theorem dX3_mayFollow_0 : decode cX3_mayFollow 0 = .ok (.aload_n 0, 1) := by decide +kernel
theorem dX3_mayFollow_1 : decode cX3_mayFollow 1 = .ok (.getfield 25, 3) := by decide +kernel
theorem dX3_mayFollow_4 : decode cX3_mayFollow 4 = .ok (.ifCond .eq 33, 3) := by decide +kernel
theorem dX3_mayFollow_7 : decode cX3_mayFollow 7 = .ok (.aload_n 0, 1) := by decide +kernel
theorem dX3_mayFollow_8 : decode cX3_mayFollow 8 = .ok (.getfield 19, 3) := by decide +kernel
theorem dX3_mayFollow_11 : decode cX3_mayFollow 11 = .ok (.aload_n 0, 1) := by decide +kernel
theorem dX3_mayFollow_12 : decode cX3_mayFollow 12 = .ok (.getfield 25, 3) := by decide +kernel
theorem dX3_mayFollow_15 : decode cX3_mayFollow 15 = .ok (.iconst 1, 1) := by decide +kernel
theorem dX3_mayFollow_16 : decode cX3_mayFollow 16 = .ok (.isub, 1) := by decide +kernel
theorem dX3_mayFollow_17 : decode cX3_mayFollow 17 = .ok (.iaload, 1) := by decide +kernel
theorem dX3_mayFollow_18 : decode cX3_mayFollow 18 = .ok (.iload_n 2, 1) := by decide +kernel
theorem dX3_mayFollow_19 : decode cX3_mayFollow 19 = .ok (.if_icmp .ge 22, 3) := by decide +kernel
theorem dX3_mayFollow_22 : decode cX3_mayFollow 22 = .ok (.aload_n 0, 1) := by decide +kernel
theorem dX3_mayFollow_23 : decode cX3_mayFollow 23 = .ok (.getfield 15, 3) := by decide +kernel
theorem dX3_mayFollow_26 : decode cX3_mayFollow 26 = .ok (.aload_n 0, 1) := by decide +kernel
theorem dX3_mayFollow_27 : decode cX3_mayFollow 27 = .ok (.getfield 25, 3) := by decide +kernel
theorem dX3_mayFollow_30 : decode cX3_mayFollow 30 = .ok (.iconst 1, 1) := by decide +kernel
theorem dX3_mayFollow_31 : decode cX3_mayFollow 31 = .ok (.isub, 1) := by decide +kernel
theorem dX3_mayFollow_32 : decode cX3_mayFollow 32 = .ok (.iaload, 1) := by decide +kernel
theorem dX3_mayFollow_33 : decode cX3_mayFollow 33 = .ok (.iload_n 1, 1) := by decide +kernel
theorem dX3_mayFollow_34 : decode cX3_mayFollow 34 = .ok (.if_icmp .eq 7, 3) := by decide +kernel
theorem dX3_mayFollow_37 : decode cX3_mayFollow 37 = .ok (.iconst 1, 1) := by decide +kernel
theorem dX3_mayFollow_38 : decode cX3_mayFollow 38 = .ok (.goto 4, 3) := by decide +kernel
theorem dX3_mayFollow_41 : decode cX3_mayFollow 41 = .ok (.iconst 0, 1) := by decide +kernel
theorem dX3_mayFollow_42 : decode cX3_mayFollow 42 = .ok (.ireturn, 1) := by decide +kernel
theorem dX3_isUsed_0 : decode cX3_isUsed 0 = .ok (.iconst 0, 1) := by decide +kernel
theorem dX3_isUsed_1 : decode cX3_isUsed 1 = .ok (.istore_n 1, 1) := by decide +kernel
theorem dX3_isUsed_2 : decode cX3_isUsed 2 = .ok (.iload_n 1, 1) := by decide +kernel
theorem dX3_isUsed_3 : decode cX3_isUsed 3 = .ok (.bipush 10, 2) := by decide +kernel
theorem dX3_isUsed_5 : decode cX3_isUsed 5 = .ok (.if_icmp .ge 20, 3) := by decide +kernel
theorem dX3_isUsed_8 : decode cX3_isUsed 8 = .ok (.aload_n 0, 1) := by decide +kernel
theorem dX3_isUsed_9 : decode cX3_isUsed 9 = .ok (.getfield 22, 3) := by decide +kernel
theorem dX3_isUsed_12 : decode cX3_isUsed 12 = .ok (.iload_n 1, 1) := by decide +kernel
theorem dX3_isUsed_13 : decode cX3_isUsed 13 = .ok (.iaload, 1) := by decide +kernel
theorem dX3_isUsed_14 : decode cX3_isUsed 14 = .ok (.ifCond .le 5, 3) := by decide +kernel
theorem dX3_isUsed_17 : decode cX3_isUsed 17 = .ok (.iconst 1, 1) := by decide +kernel
theorem dX3_isUsed_18 : decode cX3_isUsed 18 = .ok (.ireturn, 1) := by decide +kernel
theorem dX3_isUsed_19 : decode cX3_isUsed 19 = .ok (.iinc 1 1, 3) := by decide +kernel
theorem dX3_isUsed_22 : decode cX3_isUsed 22 = .ok (.goto (-20), 3) := by decide +kernel
theorem dX3_isUsed_25 : decode cX3_isUsed 25 = .ok (.iconst 0, 1) := by decide +kernel
theorem dX3_isUsed_26 : decode cX3_isUsed 26 = .ok (.ireturn, 1) := by decide +kernel
theorem dX3_beginsAfter_0 : decode cX3_beginsAfter 0 = .ok (.aload_n 0, 1) := by decide +kernel
theorem dX3_beginsAfter_1 : decode cX3_beginsAfter 1 = .ok (.getfield 25, 3) := by decide +kernel
theorem dX3_beginsAfter_4 : decode cX3_beginsAfter 4 = .ok (.ifCond .le 17, 3) := by decide +kernel
theorem dX3_beginsAfter_7 : decode cX3_beginsAfter 7 = .ok (.aload_n 0, 1) := by decide +kernel
theorem dX3_beginsAfter_8 : decode cX3_beginsAfter 8 = .ok (.getfield 19, 3) := by decide +kernel
theorem dX3_beginsAfter_11 : decode cX3_beginsAfter 11 = .ok (.iconst 0, 1) := by decide +kernel
theorem dX3_beginsAfter_12 : decode cX3_beginsAfter 12 = .ok (.iaload, 1) := by decide +kernel
theorem dX3_beginsAfter_13 : decode cX3_beginsAfter 13 = .ok (.iload_n 1, 1) := by decide +kernel
theorem dX3_beginsAfter_14 : decode cX3_beginsAfter 14 = .ok (.if_icmp .le 7, 3) := by decide +kernel
theorem dX3_beginsAfter_17 : decode cX3_beginsAfter 17 = .ok (.iconst 1, 1) := by decide +kernel
theorem dX3_beginsAfter_18 : decode cX3_beginsAfter 18 = .ok (.goto 4, 3) := by decide +kernel
theorem dX3_beginsAfter_21 : decode cX3_beginsAfter 21 = .ok (.iconst 0, 1) := by decide +kernel
theorem dX3_beginsAfter_22 : decode cX3_beginsAfter 22 = .ok (.ireturn, 1) := by decide +kernel
theorem dX3_isFull_0 : decode cX3_isFull 0 = .ok (.aload_n 0, 1) := by decide +kernel
theorem dX3_isFull_1 : decode cX3_isFull 1 = .ok (.getfield 22, 3) := by decide +kernel
theorem dX3_isFull_4 : decode cX3_isFull 4 = .ok (.iload_n 1, 1) := by decide +kernel
theorem dX3_isFull_5 : decode cX3_isFull 5 = .ok (.iaload, 1) := by decide +kernel
theorem dX3_isFull_6 : decode cX3_isFull 6 = .ok (.aload_n 0, 1) := by decide +kernel
theorem dX3_isFull_7 : decode cX3_isFull 7 = .ok (.getfield 9, 3) := by decide +kernel
theorem dX3_isFull_10 : decode cX3_isFull 10 = .ok (.if_icmp .lt 7, 3) := by decide +kernel
theorem dX3_isFull_13 : decode cX3_isFull 13 = .ok (.iconst 1, 1) := by decide +kernel
theorem dX3_isFull_14 : decode cX3_isFull 14 = .ok (.goto 4, 3) := by decide +kernel
theorem dX3_isFull_17 : decode cX3_isFull 17 = .ok (.iconst 0, 1) := by decide +kernel
theorem dX3_isFull_18 : decode cX3_isFull 18 = .ok (.ireturn, 1) := by decide +kernel
theorem dX3_changeLoads_0 : decode cX3_changeLoads 0 = .ok (.iload_n 1, 1) := by decide +kernel
theorem dX3_changeLoads_1 : decode cX3_changeLoads 1 = .ok (.istore 4, 2) := by decide +kernel
theorem dX3_changeLoads_3 : decode cX3_changeLoads 3 = .ok (.iload 4, 2) := by decide +kernel
theorem dX3_changeLoads_5 : decode cX3_changeLoads 5 = .ok (.iload_n 2, 1) := by decide +kernel
theorem dX3_changeLoads_6 : decode cX3_changeLoads 6 = .ok (.if_icmp .ge 20, 3) := by decide +kernel
theorem dX3_changeLoads_9 : decode cX3_changeLoads 9 = .ok (.aload_n 0, 1) := by decide +kernel
theorem dX3_changeLoads_10 : decode cX3_changeLoads 10 = .ok (.getfield 22, 3) := by decide +kernel
theorem dX3_changeLoads_13 : decode cX3_changeLoads 13 = .ok (.iload 4, 2) := by decide +kernel
theorem dX3_changeLoads_15 : decode cX3_changeLoads 15 = .ok (.dup2, 1) := by decide +kernel
theorem dX3_changeLoads_16 : decode cX3_changeLoads 16 = .ok (.iaload, 1) := by decide +kernel
theorem dX3_changeLoads_17 : decode cX3_changeLoads 17 = .ok (.iload_n 3, 1) := by decide +kernel
theorem dX3_changeLoads_18 : decode cX3_changeLoads 18 = .ok (.iadd, 1) := by decide +kernel
theorem dX3_changeLoads_19 : decode cX3_changeLoads 19 = .ok (.iastore, 1) := by decide +kernel
theorem dX3_changeLoads_20 : decode cX3_changeLoads 20 = .ok (.iinc 4 1, 3) := by decide +kernel
theorem dX3_changeLoads_23 : decode cX3_changeLoads 23 = .ok (.goto (-20), 3) := by decide +kernel
theorem dX3_changeLoads_26 : decode cX3_changeLoads 26 = .ok (.return_, 1) := by decide +kernel
theorem dX4_init_0 : decode cX4_init 0 = .ok (.aload_n 0, 1) := by decide +kernel
theorem dX4_init_1 : decode cX4_init 1 = .ok (.invokespecial 3, 3) := by decide +kernel
theorem dX4_init_4 : decode cX4_init 4 = .ok (.aload_n 0, 1) := by decide +kernel
theorem dX4_init_5 : decode cX4_init 5 = .ok (.iload_n 1, 1) := by decide +kernel
theorem dX4_init_6 : decode cX4_init 6 = .ok (.putfield 9, 3) := by decide +kernel
theorem dX4_init_9 : decode cX4_init 9 = .ok (.aload_n 0, 1) := by decide +kernel
theorem dX4_init_10 : decode cX4_init 10 = .ok (.iload_n 2, 1) := by decide +kernel
theorem dX4_init_11 : decode cX4_init 11 = .ok (.putfield 15, 3) := by decide +kernel
theorem dX4_init_14 : decode cX4_init 14 = .ok (.aload_n 0, 1) := by decide +kernel
theorem dX4_init_15 : decode cX4_init 15 = .ok (.iload_n 3, 1) := by decide +kernel
theorem dX4_init_16 : decode cX4_init 16 = .ok (.putfield 18, 3) := by decide +kernel
theorem dX4_init_19 : decode cX4_init 19 = .ok (.aload_n 0, 1) := by decide +kernel
theorem dX4_init_20 : decode cX4_init 20 = .ok (.iload 4, 2) := by decide +kernel
theorem dX4_init_22 : decode cX4_init 22 = .ok (.putfield 21, 3) := by decide +kernel
theorem dX4_init_25 : decode cX4_init 25 = .ok (.aload_n 0, 1) := by decide +kernel
theorem dX4_init_26 : decode cX4_init 26 = .ok (.iload 5, 2) := by decide +kernel
theorem dX4_init_28 : decode cX4_init 28 = .ok (.putfield 24, 3) := by decide +kernel
theorem dX4_init_31 : decode cX4_init 31 = .ok (.aload_n 0, 1) := by decide +kernel
theorem dX4_init_32 : decode cX4_init 32 = .ok (.iload 6, 2) := by decide +kernel
theorem dX4_init_34 : decode cX4_init 34 = .ok (.putfield 27, 3) := by decide +kernel
theorem dX4_init_37 : decode cX4_init 37 = .ok (.aload_n 0, 1) := by decide +kernel
theorem dX4_init_38 : decode cX4_init 38 = .ok (.bipush 9, 2) := by decide +kernel
theorem dX4_init_40 : decode cX4_init 40 = .ok (.newarray .int, 2) := by decide +kernel
theorem dX4_init_42 : decode cX4_init 42 = .ok (.putfield 30, 3) := by decide +kernel
theorem dX4_init_45 : decode cX4_init 45 = .ok (.aload_n 0, 1) := by decide +kernel
theorem dX4_init_46 : decode cX4_init 46 = .ok (.iconst 0, 1) := by decide +kernel
theorem dX4_init_47 : decode cX4_init 47 = .ok (.putfield 34, 3) := by decide +kernel
theorem dX4_init_50 : decode cX4_init 50 = .ok (.aload_n 0, 1) := by decide +kernel
theorem dX4_init_51 : decode cX4_init 51 = .ok (.iconst 0, 1) := by decide +kernel
theorem dX4_init_52 : decode cX4_init 52 = .ok (.putfield 37, 3) := by decide +kernel
theorem dX4_init_55 : decode cX4_init 55 = .ok (.aload_n 0, 1) := by decide +kernel
theorem dX4_init_56 : decode cX4_init 56 = .ok (.iconst (-1), 1) := by decide +kernel
theorem dX4_init_57 : decode cX4_init 57 = .ok (.putfield 41, 3) := by decide +kernel
theorem dX4_init_60 : decode cX4_init 60 = .ok (.aload_n 0, 1) := by decide +kernel
theorem dX4_init_61 : decode cX4_init 61 = .ok (.iconst (-1), 1) := by decide +kernel
theorem dX4_init_62 : decode cX4_init 62 = .ok (.putfield 44, 3) := by decide +kernel
theorem dX4_init_65 : decode cX4_init 65 = .ok (.aload_n 0, 1) := by decide +kernel
theorem dX4_init_66 : decode cX4_init 66 = .ok (.iconst (-1), 1) := by decide +kernel
theorem dX4_init_67 : decode cX4_init 67 = .ok (.putfield 47, 3) := by decide +kernel
theorem dX4_init_70 : decode cX4_init 70 = .ok (.aload_n 0, 1) := by decide +kernel
theorem dX4_init_71 : decode cX4_init 71 = .ok (.iconst 0, 1) := by decide +kernel
theorem dX4_init_72 : decode cX4_init 72 = .ok (.putfield 50, 3) := by decide +kernel
theorem dX4_init_75 : decode cX4_init 75 = .ok (.return_, 1) := by decide +kernel
theorem dX4_turned_0 : decode cX4_turned 0 = .ok (.new 10, 3) := by decide +kernel
theorem dX4_turned_3 : decode cX4_turned 3 = .ok (.dup, 1) := by decide +kernel
theorem dX4_turned_4 : decode cX4_turned 4 = .ok (.aload_n 0, 1) := by decide +kernel
theorem dX4_turned_5 : decode cX4_turned 5 = .ok (.getfield 21, 3) := by decide +kernel
theorem dX4_turned_8 : decode cX4_turned 8 = .ok (.aload_n 0, 1) := by decide +kernel
theorem dX4_turned_9 : decode cX4_turned 9 = .ok (.getfield 24, 3) := by decide +kernel
theorem dX4_turned_12 : decode cX4_turned 12 = .ok (.iload_n 1, 1) := by decide +kernel
theorem dX4_turned_13 : decode cX4_turned 13 = .ok (.aload_n 0, 1) := by decide +kernel
theorem dX4_turned_14 : decode cX4_turned 14 = .ok (.getfield 9, 3) := by decide +kernel
theorem dX4_turned_17 : decode cX4_turned 17 = .ok (.aload_n 0, 1) := by decide +kernel
theorem dX4_turned_18 : decode cX4_turned 18 = .ok (.getfield 15, 3) := by decide +kernel
theorem dX4_turned_21 : decode cX4_turned 21 = .ok (.iload_n 2, 1) := by decide +kernel
theorem dX4_turned_22 : decode cX4_turned 22 = .ok (.invokespecial 53, 3) := by decide +kernel
theorem dX4_turned_25 : decode cX4_turned 25 = .ok (.areturn, 1) := by decide +kernel
theorem dX4_legNumber_0 : decode cX4_legNumber 0 = .ok (.aload_n 0, 1) := by decide +kernel
theorem dX4_legNumber_1 : decode cX4_legNumber 1 = .ok (.getfield 30, 3) := by decide +kernel
theorem dX4_legNumber_4 : decode cX4_legNumber 4 = .ok (.iload_n 1, 1) := by decide +kernel
theorem dX4_legNumber_5 : decode cX4_legNumber 5 = .ok (.iconst 3, 1) := by decide +kernel
theorem dX4_legNumber_6 : decode cX4_legNumber 6 = .ok (.imul, 1) := by decide +kernel
theorem dX4_legNumber_7 : decode cX4_legNumber 7 = .ok (.iload_n 2, 1) := by decide +kernel
theorem dX4_legNumber_8 : decode cX4_legNumber 8 = .ok (.iadd, 1) := by decide +kernel
theorem dX4_legNumber_9 : decode cX4_legNumber 9 = .ok (.iaload, 1) := by decide +kernel
theorem dX4_legNumber_10 : decode cX4_legNumber 10 = .ok (.ireturn, 1) := by decide +kernel
theorem dX4_addLeg_0 : decode cX4_addLeg 0 = .ok (.aload_n 0, 1) := by decide +kernel
theorem dX4_addLeg_1 : decode cX4_addLeg 1 = .ok (.getfield 30, 3) := by decide +kernel
theorem dX4_addLeg_4 : decode cX4_addLeg 4 = .ok (.aload_n 0, 1) := by decide +kernel
theorem dX4_addLeg_5 : decode cX4_addLeg 5 = .ok (.getfield 34, 3) := by decide +kernel
theorem dX4_addLeg_8 : decode cX4_addLeg 8 = .ok (.iconst 3, 1) := by decide +kernel
theorem dX4_addLeg_9 : decode cX4_addLeg 9 = .ok (.imul, 1) := by decide +kernel
theorem dX4_addLeg_10 : decode cX4_addLeg 10 = .ok (.iconst 0, 1) := by decide +kernel
theorem dX4_addLeg_11 : decode cX4_addLeg 11 = .ok (.iadd, 1) := by decide +kernel
theorem dX4_addLeg_12 : decode cX4_addLeg 12 = .ok (.iload_n 1, 1) := by decide +kernel
theorem dX4_addLeg_13 : decode cX4_addLeg 13 = .ok (.iastore, 1) := by decide +kernel
theorem dX4_addLeg_14 : decode cX4_addLeg 14 = .ok (.aload_n 0, 1) := by decide +kernel
theorem dX4_addLeg_15 : decode cX4_addLeg 15 = .ok (.getfield 30, 3) := by decide +kernel
theorem dX4_addLeg_18 : decode cX4_addLeg 18 = .ok (.aload_n 0, 1) := by decide +kernel
theorem dX4_addLeg_19 : decode cX4_addLeg 19 = .ok (.getfield 34, 3) := by decide +kernel
theorem dX4_addLeg_22 : decode cX4_addLeg 22 = .ok (.iconst 3, 1) := by decide +kernel
theorem dX4_addLeg_23 : decode cX4_addLeg 23 = .ok (.imul, 1) := by decide +kernel
theorem dX4_addLeg_24 : decode cX4_addLeg 24 = .ok (.iconst 1, 1) := by decide +kernel
theorem dX4_addLeg_25 : decode cX4_addLeg 25 = .ok (.iadd, 1) := by decide +kernel
theorem dX4_addLeg_26 : decode cX4_addLeg 26 = .ok (.iload_n 2, 1) := by decide +kernel
theorem dX4_addLeg_27 : decode cX4_addLeg 27 = .ok (.iastore, 1) := by decide +kernel
theorem dX4_addLeg_28 : decode cX4_addLeg 28 = .ok (.aload_n 0, 1) := by decide +kernel
theorem dX4_addLeg_29 : decode cX4_addLeg 29 = .ok (.getfield 30, 3) := by decide +kernel
theorem dX4_addLeg_32 : decode cX4_addLeg 32 = .ok (.aload_n 0, 1) := by decide +kernel
theorem dX4_addLeg_33 : decode cX4_addLeg 33 = .ok (.getfield 34, 3) := by decide +kernel
theorem dX4_addLeg_36 : decode cX4_addLeg 36 = .ok (.iconst 3, 1) := by decide +kernel
theorem dX4_addLeg_37 : decode cX4_addLeg 37 = .ok (.imul, 1) := by decide +kernel
theorem dX4_addLeg_38 : decode cX4_addLeg 38 = .ok (.iconst 2, 1) := by decide +kernel
theorem dX4_addLeg_39 : decode cX4_addLeg 39 = .ok (.iadd, 1) := by decide +kernel
theorem dX4_addLeg_40 : decode cX4_addLeg 40 = .ok (.iload_n 3, 1) := by decide +kernel
theorem dX4_addLeg_41 : decode cX4_addLeg 41 = .ok (.iastore, 1) := by decide +kernel
theorem dX4_addLeg_42 : decode cX4_addLeg 42 = .ok (.aload_n 0, 1) := by decide +kernel
theorem dX4_addLeg_43 : decode cX4_addLeg 43 = .ok (.dup, 1) := by decide +kernel
theorem dX4_addLeg_44 : decode cX4_addLeg 44 = .ok (.getfield 34, 3) := by decide +kernel
theorem dX4_addLeg_47 : decode cX4_addLeg 47 = .ok (.iconst 1, 1) := by decide +kernel
theorem dX4_addLeg_48 : decode cX4_addLeg 48 = .ok (.iadd, 1) := by decide +kernel
theorem dX4_addLeg_49 : decode cX4_addLeg 49 = .ok (.putfield 34, 3) := by decide +kernel
theorem dX4_addLeg_52 : decode cX4_addLeg 52 = .ok (.return_, 1) := by decide +kernel
theorem dX4_firstLegOn_0 : decode cX4_firstLegOn 0 = .ok (.iconst 0, 1) := by decide +kernel
theorem dX4_firstLegOn_1 : decode cX4_firstLegOn 1 = .ok (.istore_n 2, 1) := by decide +kernel
theorem dX4_firstLegOn_2 : decode cX4_firstLegOn 2 = .ok (.iload_n 2, 1) := by decide +kernel
theorem dX4_firstLegOn_3 : decode cX4_firstLegOn 3 = .ok (.aload_n 0, 1) := by decide +kernel
theorem dX4_firstLegOn_4 : decode cX4_firstLegOn 4 = .ok (.getfield 34, 3) := by decide +kernel
theorem dX4_firstLegOn_7 : decode cX4_firstLegOn 7 = .ok (.if_icmp .ge 21, 3) := by decide +kernel
theorem dX4_firstLegOn_10 : decode cX4_firstLegOn 10 = .ok (.aload_n 0, 1) := by decide +kernel
theorem dX4_firstLegOn_11 : decode cX4_firstLegOn 11 = .ok (.iload_n 2, 1) := by decide +kernel
theorem dX4_firstLegOn_12 : decode cX4_firstLegOn 12 = .ok (.iconst 0, 1) := by decide +kernel
theorem dX4_firstLegOn_13 : decode cX4_firstLegOn 13 = .ok (.invokevirtual 56, 3) := by decide +kernel
theorem dX4_firstLegOn_16 : decode cX4_firstLegOn 16 = .ok (.iload_n 1, 1) := by decide +kernel
theorem dX4_firstLegOn_17 : decode cX4_firstLegOn 17 = .ok (.if_icmp .ne 5, 3) := by decide +kernel
theorem dX4_firstLegOn_20 : decode cX4_firstLegOn 20 = .ok (.iload_n 2, 1) := by decide +kernel
theorem dX4_firstLegOn_21 : decode cX4_firstLegOn 21 = .ok (.ireturn, 1) := by decide +kernel
theorem dX4_firstLegOn_22 : decode cX4_firstLegOn 22 = .ok (.iinc 2 1, 3) := by decide +kernel
theorem dX4_firstLegOn_25 : decode cX4_firstLegOn 25 = .ok (.goto (-23), 3) := by decide +kernel
theorem dX4_firstLegOn_28 : decode cX4_firstLegOn 28 = .ok (.iconst (-1), 1) := by decide +kernel
theorem dX4_firstLegOn_29 : decode cX4_firstLegOn 29 = .ok (.ireturn, 1) := by decide +kernel
theorem dX4_hasSameLegs_0 : decode cX4_hasSameLegs 0 = .ok (.aload_n 0, 1) := by decide +kernel
theorem dX4_hasSameLegs_1 : decode cX4_hasSameLegs 1 = .ok (.getfield 34, 3) := by decide +kernel
theorem dX4_hasSameLegs_4 : decode cX4_hasSameLegs 4 = .ok (.aload_n 1, 1) := by decide +kernel
theorem dX4_hasSameLegs_5 : decode cX4_hasSameLegs 5 = .ok (.getfield 34, 3) := by decide +kernel
theorem dX4_hasSameLegs_8 : decode cX4_hasSameLegs 8 = .ok (.if_icmp .eq 5, 3) := by decide +kernel
theorem dX4_hasSameLegs_11 : decode cX4_hasSameLegs 11 = .ok (.iconst 0, 1) := by decide +kernel
theorem dX4_hasSameLegs_12 : decode cX4_hasSameLegs 12 = .ok (.ireturn, 1) := by decide +kernel
theorem dX4_hasSameLegs_13 : decode cX4_hasSameLegs 13 = .ok (.iconst 0, 1) := by decide +kernel
theorem dX4_hasSameLegs_14 : decode cX4_hasSameLegs 14 = .ok (.istore_n 2, 1) := by decide +kernel
theorem dX4_hasSameLegs_15 : decode cX4_hasSameLegs 15 = .ok (.iload_n 2, 1) := by decide +kernel
theorem dX4_hasSameLegs_16 : decode cX4_hasSameLegs 16 = .ok (.aload_n 0, 1) := by decide +kernel
theorem dX4_hasSameLegs_17 : decode cX4_hasSameLegs 17 = .ok (.getfield 34, 3) := by decide +kernel
theorem dX4_hasSameLegs_20 : decode cX4_hasSameLegs 20 = .ok (.iconst 3, 1) := by decide +kernel
theorem dX4_hasSameLegs_21 : decode cX4_hasSameLegs 21 = .ok (.imul, 1) := by decide +kernel
theorem dX4_hasSameLegs_22 : decode cX4_hasSameLegs 22 = .ok (.if_icmp .ge 26, 3) := by decide +kernel
theorem dX4_hasSameLegs_25 : decode cX4_hasSameLegs 25 = .ok (.aload_n 0, 1) := by decide +kernel
theorem dX4_hasSameLegs_26 : decode cX4_hasSameLegs 26 = .ok (.getfield 30, 3) := by decide +kernel
theorem dX4_hasSameLegs_29 : decode cX4_hasSameLegs 29 = .ok (.iload_n 2, 1) := by decide +kernel
theorem dX4_hasSameLegs_30 : decode cX4_hasSameLegs 30 = .ok (.iaload, 1) := by decide +kernel
theorem dX4_hasSameLegs_31 : decode cX4_hasSameLegs 31 = .ok (.aload_n 1, 1) := by decide +kernel
theorem dX4_hasSameLegs_32 : decode cX4_hasSameLegs 32 = .ok (.getfield 30, 3) := by decide +kernel
theorem dX4_hasSameLegs_35 : decode cX4_hasSameLegs 35 = .ok (.iload_n 2, 1) := by decide +kernel
theorem dX4_hasSameLegs_36 : decode cX4_hasSameLegs 36 = .ok (.iaload, 1) := by decide +kernel
theorem dX4_hasSameLegs_37 : decode cX4_hasSameLegs 37 = .ok (.if_icmp .eq 5, 3) := by decide +kernel
theorem dX4_hasSameLegs_40 : decode cX4_hasSameLegs 40 = .ok (.iconst 0, 1) := by decide +kernel
theorem dX4_hasSameLegs_41 : decode cX4_hasSameLegs 41 = .ok (.ireturn, 1) := by decide +kernel
theorem dX4_hasSameLegs_42 : decode cX4_hasSameLegs 42 = .ok (.iinc 2 1, 3) := by decide +kernel
theorem dX4_hasSameLegs_45 : decode cX4_hasSameLegs 45 = .ok (.goto (-30), 3) := by decide +kernel
theorem dX4_hasSameLegs_48 : decode cX4_hasSameLegs 48 = .ok (.iconst 1, 1) := by decide +kernel
theorem dX4_hasSameLegs_49 : decode cX4_hasSameLegs 49 = .ok (.ireturn, 1) := by decide +kernel
theorem dX4_endWayAt_0 : decode cX4_endWayAt 0 = .ok (.aload_n 0, 1) := by decide +kernel
theorem dX4_endWayAt_1 : decode cX4_endWayAt 1 = .ok (.iconst 1, 1) := by decide +kernel
theorem dX4_endWayAt_2 : decode cX4_endWayAt 2 = .ok (.putfield 37, 3) := by decide +kernel
theorem dX4_endWayAt_5 : decode cX4_endWayAt 5 = .ok (.aload_n 0, 1) := by decide +kernel
theorem dX4_endWayAt_6 : decode cX4_endWayAt 6 = .ok (.iload_n 1, 1) := by decide +kernel
theorem dX4_endWayAt_7 : decode cX4_endWayAt 7 = .ok (.putfield 41, 3) := by decide +kernel
theorem dX4_endWayAt_10 : decode cX4_endWayAt 10 = .ok (.aload_n 0, 1) := by decide +kernel
theorem dX4_endWayAt_11 : decode cX4_endWayAt 11 = .ok (.iconst (-1), 1) := by decide +kernel
theorem dX4_endWayAt_12 : decode cX4_endWayAt 12 = .ok (.putfield 44, 3) := by decide +kernel
theorem dX4_endWayAt_15 : decode cX4_endWayAt 15 = .ok (.aload_n 0, 1) := by decide +kernel
theorem dX4_endWayAt_16 : decode cX4_endWayAt 16 = .ok (.iconst (-1), 1) := by decide +kernel
theorem dX4_endWayAt_17 : decode cX4_endWayAt 17 = .ok (.putfield 47, 3) := by decide +kernel
theorem dX4_endWayAt_20 : decode cX4_endWayAt 20 = .ok (.return_, 1) := by decide +kernel
theorem dX4_standAt_0 : decode cX4_standAt 0 = .ok (.aload_n 0, 1) := by decide +kernel
theorem dX4_standAt_1 : decode cX4_standAt 1 = .ok (.iconst (-1), 1) := by decide +kernel
theorem dX4_standAt_2 : decode cX4_standAt 2 = .ok (.putfield 41, 3) := by decide +kernel
theorem dX4_standAt_5 : decode cX4_standAt 5 = .ok (.aload_n 0, 1) := by decide +kernel
theorem dX4_standAt_6 : decode cX4_standAt 6 = .ok (.iload_n 1, 1) := by decide +kernel
theorem dX4_standAt_7 : decode cX4_standAt 7 = .ok (.putfield 44, 3) := by decide +kernel
theorem dX4_standAt_10 : decode cX4_standAt 10 = .ok (.aload_n 0, 1) := by decide +kernel
theorem dX4_standAt_11 : decode cX4_standAt 11 = .ok (.iload_n 2, 1) := by decide +kernel
theorem dX4_standAt_12 : decode cX4_standAt 12 = .ok (.putfield 47, 3) := by decide +kernel
theorem dX4_standAt_15 : decode cX4_standAt 15 = .ok (.return_, 1) := by decide +kernel
theorem dX4_stands_0 : decode cX4_stands 0 = .ok (.aload_n 0, 1) := by decide +kernel
theorem dX4_stands_1 : decode cX4_stands 1 = .ok (.getfield 44, 3) := by decide +kernel
theorem dX4_stands_4 : decode cX4_stands 4 = .ok (.iconst (-1), 1) := by decide +kernel
theorem dX4_stands_5 : decode cX4_stands 5 = .ok (.if_icmp .eq 7, 3) := by decide +kernel
theorem dX4_stands_8 : decode cX4_stands 8 = .ok (.iconst 1, 1) := by decide +kernel
theorem dX4_stands_9 : decode cX4_stands 9 = .ok (.goto 4, 3) := by decide +kernel
theorem dX4_stands_12 : decode cX4_stands 12 = .ok (.iconst 0, 1) := by decide +kernel
theorem dX4_stands_13 : decode cX4_stands 13 = .ok (.ireturn, 1) := by decide +kernel
theorem dX4_hasWay_0 : decode cX4_hasWay 0 = .ok (.aload_n 0, 1) := by decide +kernel
theorem dX4_hasWay_1 : decode cX4_hasWay 1 = .ok (.getfield 41, 3) := by decide +kernel
theorem dX4_hasWay_4 : decode cX4_hasWay 4 = .ok (.iconst (-1), 1) := by decide +kernel
theorem dX4_hasWay_5 : decode cX4_hasWay 5 = .ok (.if_icmp .eq 7, 3) := by decide +kernel
theorem dX4_hasWay_8 : decode cX4_hasWay 8 = .ok (.iconst 1, 1) := by decide +kernel
theorem dX4_hasWay_9 : decode cX4_hasWay 9 = .ok (.goto 4, 3) := by decide +kernel
theorem dX4_hasWay_12 : decode cX4_hasWay 12 = .ok (.iconst 0, 1) := by decide +kernel
theorem dX4_hasWay_13 : decode cX4_hasWay 13 = .ok (.ireturn, 1) := by decide +kernel
theorem dX4_arrival_0 : decode cX4_arrival 0 = .ok (.aload_n 0, 1) := by decide +kernel
theorem dX4_arrival_1 : decode cX4_arrival 1 = .ok (.invokevirtual 60, 3) := by decide +kernel
theorem dX4_arrival_4 : decode cX4_arrival 4 = .ok (.ifCond .eq 15, 3) := by decide +kernel
theorem dX4_arrival_7 : decode cX4_arrival 7 = .ok (.aload_n 0, 1) := by decide +kernel
theorem dX4_arrival_8 : decode cX4_arrival 8 = .ok (.getfield 41, 3) := by decide +kernel
theorem dX4_arrival_11 : decode cX4_arrival 11 = .ok (.aload_n 0, 1) := by decide +kernel
theorem dX4_arrival_12 : decode cX4_arrival 12 = .ok (.getfield 24, 3) := by decide +kernel
theorem dX4_arrival_15 : decode cX4_arrival 15 = .ok (.iadd, 1) := by decide +kernel
theorem dX4_arrival_16 : decode cX4_arrival 16 = .ok (.goto 4, 3) := by decide +kernel
theorem dX4_arrival_19 : decode cX4_arrival 19 = .ok (.iconst (-1), 1) := by decide +kernel
theorem dX4_arrival_20 : decode cX4_arrival 20 = .ok (.ireturn, 1) := by decide +kernel
theorem dX4_isLate_0 : decode cX4_isLate 0 = .ok (.aload_n 0, 1) := by decide +kernel
theorem dX4_isLate_1 : decode cX4_isLate 1 = .ok (.invokevirtual 60, 3) := by decide +kernel
theorem dX4_isLate_4 : decode cX4_isLate 4 = .ok (.ifCond .eq 18, 3) := by decide +kernel
theorem dX4_isLate_7 : decode cX4_isLate 7 = .ok (.aload_n 0, 1) := by decide +kernel
theorem dX4_isLate_8 : decode cX4_isLate 8 = .ok (.invokevirtual 64, 3) := by decide +kernel
theorem dX4_isLate_11 : decode cX4_isLate 11 = .ok (.aload_n 0, 1) := by decide +kernel
theorem dX4_isLate_12 : decode cX4_isLate 12 = .ok (.getfield 27, 3) := by decide +kernel
theorem dX4_isLate_15 : decode cX4_isLate 15 = .ok (.if_icmp .le 7, 3) := by decide +kernel
theorem dX4_isLate_18 : decode cX4_isLate 18 = .ok (.iconst 1, 1) := by decide +kernel
theorem dX4_isLate_19 : decode cX4_isLate 19 = .ok (.goto 4, 3) := by decide +kernel
theorem dX4_isLate_22 : decode cX4_isLate 22 = .ok (.iconst 0, 1) := by decide +kernel
theorem dX4_isLate_23 : decode cX4_isLate 23 = .ok (.ireturn, 1) := by decide +kernel
theorem dX4_isGoneBy_0 : decode cX4_isGoneBy 0 = .ok (.aload_n 0, 1) := by decide +kernel
theorem dX4_isGoneBy_1 : decode cX4_isGoneBy 1 = .ok (.getfield 37, 3) := by decide +kernel
theorem dX4_isGoneBy_4 : decode cX4_isGoneBy 4 = .ok (.ifCond .eq 15, 3) := by decide +kernel
theorem dX4_isGoneBy_7 : decode cX4_isGoneBy 7 = .ok (.aload_n 0, 1) := by decide +kernel
theorem dX4_isGoneBy_8 : decode cX4_isGoneBy 8 = .ok (.getfield 18, 3) := by decide +kernel
theorem dX4_isGoneBy_11 : decode cX4_isGoneBy 11 = .ok (.iload_n 1, 1) := by decide +kernel
theorem dX4_isGoneBy_12 : decode cX4_isGoneBy 12 = .ok (.if_icmp .gt 7, 3) := by decide +kernel
theorem dX4_isGoneBy_15 : decode cX4_isGoneBy 15 = .ok (.iconst 1, 1) := by decide +kernel
theorem dX4_isGoneBy_16 : decode cX4_isGoneBy 16 = .ok (.goto 4, 3) := by decide +kernel
theorem dX4_isGoneBy_19 : decode cX4_isGoneBy 19 = .ok (.iconst 0, 1) := by decide +kernel
theorem dX4_isGoneBy_20 : decode cX4_isGoneBy 20 = .ok (.ireturn, 1) := by decide +kernel
theorem dX4_isThereBy_0 : decode cX4_isThereBy 0 = .ok (.aload_n 0, 1) := by decide +kernel
theorem dX4_isThereBy_1 : decode cX4_isThereBy 1 = .ok (.invokevirtual 60, 3) := by decide +kernel
theorem dX4_isThereBy_4 : decode cX4_isThereBy 4 = .ok (.ifCond .eq 15, 3) := by decide +kernel
theorem dX4_isThereBy_7 : decode cX4_isThereBy 7 = .ok (.aload_n 0, 1) := by decide +kernel
theorem dX4_isThereBy_8 : decode cX4_isThereBy 8 = .ok (.getfield 41, 3) := by decide +kernel
theorem dX4_isThereBy_11 : decode cX4_isThereBy 11 = .ok (.iload_n 1, 1) := by decide +kernel
theorem dX4_isThereBy_12 : decode cX4_isThereBy 12 = .ok (.if_icmp .gt 7, 3) := by decide +kernel
theorem dX4_isThereBy_15 : decode cX4_isThereBy 15 = .ok (.iconst 1, 1) := by decide +kernel
theorem dX4_isThereBy_16 : decode cX4_isThereBy 16 = .ok (.goto 4, 3) := by decide +kernel
theorem dX4_isThereBy_19 : decode cX4_isThereBy 19 = .ok (.iconst 0, 1) := by decide +kernel
theorem dX4_isThereBy_20 : decode cX4_isThereBy 20 = .ok (.ireturn, 1) := by decide +kernel
theorem dX4_hasArrivedBy_0 : decode cX4_hasArrivedBy 0 = .ok (.aload_n 0, 1) := by decide +kernel
theorem dX4_hasArrivedBy_1 : decode cX4_hasArrivedBy 1 = .ok (.invokevirtual 60, 3) := by decide +kernel
theorem dX4_hasArrivedBy_4 : decode cX4_hasArrivedBy 4 = .ok (.ifCond .eq 15, 3) := by decide +kernel
theorem dX4_hasArrivedBy_7 : decode cX4_hasArrivedBy 7 = .ok (.aload_n 0, 1) := by decide +kernel
theorem dX4_hasArrivedBy_8 : decode cX4_hasArrivedBy 8 = .ok (.invokevirtual 64, 3) := by decide +kernel
theorem dX4_hasArrivedBy_11 : decode cX4_hasArrivedBy 11 = .ok (.iload_n 1, 1) := by decide +kernel
theorem dX4_hasArrivedBy_12 : decode cX4_hasArrivedBy 12 = .ok (.if_icmp .gt 7, 3) := by decide +kernel
theorem dX4_hasArrivedBy_15 : decode cX4_hasArrivedBy 15 = .ok (.iconst 1, 1) := by decide +kernel
theorem dX4_hasArrivedBy_16 : decode cX4_hasArrivedBy 16 = .ok (.goto 4, 3) := by decide +kernel
theorem dX4_hasArrivedBy_19 : decode cX4_hasArrivedBy 19 = .ok (.iconst 0, 1) := by decide +kernel
theorem dX4_hasArrivedBy_20 : decode cX4_hasArrivedBy 20 = .ok (.ireturn, 1) := by decide +kernel
theorem dX5_init_0 : decode cX5_init 0 = .ok (.aload_n 0, 1) := by decide +kernel
theorem dX5_init_1 : decode cX5_init 1 = .ok (.invokespecial 1, 3) := by decide +kernel
theorem dX5_init_4 : decode cX5_init 4 = .ok (.aload_n 0, 1) := by decide +kernel
theorem dX5_init_5 : decode cX5_init 5 = .ok (.new 7, 3) := by decide +kernel
theorem dX5_init_8 : decode cX5_init 8 = .ok (.dup, 1) := by decide +kernel
theorem dX5_init_9 : decode cX5_init 9 = .ok (.invokespecial 9, 3) := by decide +kernel
theorem dX5_init_12 : decode cX5_init 12 = .ok (.putfield 10, 3) := by decide +kernel
theorem dX5_init_15 : decode cX5_init 15 = .ok (.aload_n 0, 1) := by decide +kernel
theorem dX5_init_16 : decode cX5_init 16 = .ok (.new 16, 3) := by decide +kernel
theorem dX5_init_19 : decode cX5_init 19 = .ok (.dup, 1) := by decide +kernel
theorem dX5_init_20 : decode cX5_init 20 = .ok (.invokespecial 18, 3) := by decide +kernel
theorem dX5_init_23 : decode cX5_init 23 = .ok (.putfield 19, 3) := by decide +kernel
theorem dX5_init_26 : decode cX5_init 26 = .ok (.aload_n 0, 1) := by decide +kernel
theorem dX5_init_27 : decode cX5_init 27 = .ok (.new 23, 3) := by decide +kernel
theorem dX5_init_30 : decode cX5_init 30 = .ok (.dup, 1) := by decide +kernel
theorem dX5_init_31 : decode cX5_init 31 = .ok (.invokespecial 25, 3) := by decide +kernel
theorem dX5_init_34 : decode cX5_init 34 = .ok (.putfield 26, 3) := by decide +kernel
theorem dX5_init_37 : decode cX5_init 37 = .ok (.aload_n 0, 1) := by decide +kernel
theorem dX5_init_38 : decode cX5_init 38 = .ok (.bipush 60, 2) := by decide +kernel
theorem dX5_init_40 : decode cX5_init 40 = .ok (.newarray .int, 2) := by decide +kernel
theorem dX5_init_42 : decode cX5_init 42 = .ok (.putfield 30, 3) := by decide +kernel
theorem dX5_init_45 : decode cX5_init 45 = .ok (.aload_n 0, 1) := by decide +kernel
theorem dX5_init_46 : decode cX5_init 46 = .ok (.iconst 0, 1) := by decide +kernel
theorem dX5_init_47 : decode cX5_init 47 = .ok (.putfield 34, 3) := by decide +kernel
theorem dX5_init_50 : decode cX5_init 50 = .ok (.return_, 1) := by decide +kernel
theorem dX5_station_0 : decode cX5_station 0 = .ok (.iload_n 1, 1) := by decide +kernel
theorem dX5_station_1 : decode cX5_station 1 = .ok (.bipush 60, 2) := by decide +kernel
theorem dX5_station_3 : decode cX5_station 3 = .ok (.invokestatic 38, 3) := by decide +kernel
theorem dX5_station_6 : decode cX5_station 6 = .ok (.ifCond .eq 14, 3) := by decide +kernel
theorem dX5_station_9 : decode cX5_station 9 = .ok (.aload_n 0, 1) := by decide +kernel
theorem dX5_station_10 : decode cX5_station 10 = .ok (.getfield 10, 3) := by decide +kernel
theorem dX5_station_13 : decode cX5_station 13 = .ok (.iload_n 1, 1) := by decide +kernel
theorem dX5_station_14 : decode cX5_station 14 = .ok (.invokevirtual 42, 3) := by decide +kernel
theorem dX5_station_17 : decode cX5_station 17 = .ok (.goto 4, 3) := by decide +kernel
theorem dX5_station_20 : decode cX5_station 20 = .ok (.iconst (-1), 1) := by decide +kernel
theorem dX5_station_21 : decode cX5_station 21 = .ok (.ireturn, 1) := by decide +kernel
theorem dX5_train_0 : decode cX5_train 0 = .ok (.iload_n 1, 1) := by decide +kernel
theorem dX5_train_1 : decode cX5_train 1 = .ok (.iconst 1, 1) := by decide +kernel
theorem dX5_train_2 : decode cX5_train 2 = .ok (.if_icmp .lt 20, 3) := by decide +kernel
