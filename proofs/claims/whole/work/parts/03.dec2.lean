theorem dX6_reckon_0 : decode cX6_reckon 0 = .ok (.iconst 0, 1) := by decide +kernel
theorem dX6_reckon_1 : decode cX6_reckon 1 = .ok (.istore_n 2, 1) := by decide +kernel
theorem dX6_reckon_2 : decode cX6_reckon 2 = .ok (.iload_n 2, 1) := by decide +kernel
theorem dX6_reckon_3 : decode cX6_reckon 3 = .ok (.iconst 3, 1) := by decide +kernel
theorem dX6_reckon_4 : decode cX6_reckon 4 = .ok (.if_icmp .gt 88, 3) := by decide +kernel
theorem dX6_reckon_7 : decode cX6_reckon 7 = .ok (.iconst 0, 1) := by decide +kernel
theorem dX6_reckon_8 : decode cX6_reckon 8 = .ok (.istore_n 3, 1) := by decide +kernel
theorem dX6_reckon_9 : decode cX6_reckon 9 = .ok (.iload_n 3, 1) := by decide +kernel
theorem dX6_reckon_10 : decode cX6_reckon 10 = .ok (.aload_n 0, 1) := by decide +kernel
theorem dX6_reckon_11 : decode cX6_reckon 11 = .ok (.getfield 96, 3) := by decide +kernel
theorem dX6_reckon_14 : decode cX6_reckon 14 = .ok (.if_icmp .ge 72, 3) := by decide +kernel
theorem dX6_reckon_17 : decode cX6_reckon 17 = .ok (.iconst 0, 1) := by decide +kernel
theorem dX6_reckon_18 : decode cX6_reckon 18 = .ok (.istore 4, 2) := by decide +kernel
theorem dX6_reckon_20 : decode cX6_reckon 20 = .ok (.iload 4, 2) := by decide +kernel
theorem dX6_reckon_22 : decode cX6_reckon 22 = .ok (.aload_n 0, 1) := by decide +kernel
theorem dX6_reckon_23 : decode cX6_reckon 23 = .ok (.getfield 16, 3) := by decide +kernel
theorem dX6_reckon_26 : decode cX6_reckon 26 = .ok (.iload_n 3, 1) := by decide +kernel
theorem dX6_reckon_27 : decode cX6_reckon 27 = .ok (.iaload, 1) := by decide +kernel
theorem dX6_reckon_28 : decode cX6_reckon 28 = .ok (.if_icmp .ge 52, 3) := by decide +kernel
theorem dX6_reckon_31 : decode cX6_reckon 31 = .ok (.iload_n 3, 1) := by decide +kernel
theorem dX6_reckon_32 : decode cX6_reckon 32 = .ok (.iload 4, 2) := by decide +kernel
theorem dX6_reckon_34 : decode cX6_reckon 34 = .ok (.invokestatic 113, 3) := by decide +kernel
theorem dX6_reckon_37 : decode cX6_reckon 37 = .ok (.istore 5, 2) := by decide +kernel
theorem dX6_reckon_39 : decode cX6_reckon 39 = .ok (.aload_n 0, 1) := by decide +kernel
theorem dX6_reckon_40 : decode cX6_reckon 40 = .ok (.iload_n 2, 1) := by decide +kernel
theorem dX6_reckon_41 : decode cX6_reckon 41 = .ok (.iload 5, 2) := by decide +kernel
theorem dX6_reckon_43 : decode cX6_reckon 43 = .ok (.aload_n 0, 1) := by decide +kernel
theorem dX6_reckon_44 : decode cX6_reckon 44 = .ok (.getfield 19, 3) := by decide +kernel
theorem dX6_reckon_47 : decode cX6_reckon 47 = .ok (.iload 5, 2) := by decide +kernel
theorem dX6_reckon_49 : decode cX6_reckon 49 = .ok (.iaload, 1) := by decide +kernel
theorem dX6_reckon_50 : decode cX6_reckon 50 = .ok (.aload_n 0, 1) := by decide +kernel
theorem dX6_reckon_51 : decode cX6_reckon 51 = .ok (.getfield 22, 3) := by decide +kernel
theorem dX6_reckon_54 : decode cX6_reckon 54 = .ok (.iload 5, 2) := by decide +kernel
theorem dX6_reckon_56 : decode cX6_reckon 56 = .ok (.iaload, 1) := by decide +kernel
theorem dX6_reckon_57 : decode cX6_reckon 57 = .ok (.aload_n 0, 1) := by decide +kernel
theorem dX6_reckon_58 : decode cX6_reckon 58 = .ok (.getfield 9, 3) := by decide +kernel
theorem dX6_reckon_61 : decode cX6_reckon 61 = .ok (.aload_n 0, 1) := by decide +kernel
theorem dX6_reckon_62 : decode cX6_reckon 62 = .ok (.getfield 19, 3) := by decide +kernel
theorem dX6_reckon_65 : decode cX6_reckon 65 = .ok (.iload 5, 2) := by decide +kernel
theorem dX6_reckon_67 : decode cX6_reckon 67 = .ok (.iaload, 1) := by decide +kernel
theorem dX6_reckon_68 : decode cX6_reckon 68 = .ok (.iaload, 1) := by decide +kernel
theorem dX6_reckon_69 : decode cX6_reckon 69 = .ok (.iadd, 1) := by decide +kernel
theorem dX6_reckon_70 : decode cX6_reckon 70 = .ok (.iload_n 1, 1) := by decide +kernel
theorem dX6_reckon_71 : decode cX6_reckon 71 = .ok (.invokevirtual 139, 3) := by decide +kernel
theorem dX6_reckon_74 : decode cX6_reckon 74 = .ok (.iinc 4 1, 3) := by decide +kernel
theorem dX6_reckon_77 : decode cX6_reckon 77 = .ok (.goto (-57), 3) := by decide +kernel
theorem dX6_reckon_80 : decode cX6_reckon 80 = .ok (.iinc 3 1, 3) := by decide +kernel
theorem dX6_reckon_83 : decode cX6_reckon 83 = .ok (.goto (-74), 3) := by decide +kernel
theorem dX6_reckon_86 : decode cX6_reckon 86 = .ok (.iinc 2 1, 3) := by decide +kernel
theorem dX6_reckon_89 : decode cX6_reckon 89 = .ok (.goto (-87), 3) := by decide +kernel
theorem dX6_reckon_92 : decode cX6_reckon 92 = .ok (.return_, 1) := by decide +kernel
theorem dX6_reckonOne_0 : decode cX6_reckonOne 0 = .ok (.aload_n 0, 1) := by decide +kernel
theorem dX6_reckonOne_1 : decode cX6_reckonOne 1 = .ok (.iload_n 1, 1) := by decide +kernel
theorem dX6_reckonOne_2 : decode cX6_reckonOne 2 = .ok (.iload_n 3, 1) := by decide +kernel
theorem dX6_reckonOne_3 : decode cX6_reckonOne 3 = .ok (.iload 4, 2) := by decide +kernel
theorem dX6_reckonOne_5 : decode cX6_reckonOne 5 = .ok (.iload 5, 2) := by decide +kernel
theorem dX6_reckonOne_7 : decode cX6_reckonOne 7 = .ok (.invokevirtual 143, 3) := by decide +kernel
theorem dX6_reckonOne_10 : decode cX6_reckonOne 10 = .ok (.aload_n 0, 1) := by decide +kernel
theorem dX6_reckonOne_11 : decode cX6_reckonOne 11 = .ok (.getfield 83, 3) := by decide +kernel
theorem dX6_reckonOne_14 : decode cX6_reckonOne 14 = .ok (.sipush 160, 3) := by decide +kernel
theorem dX6_reckonOne_17 : decode cX6_reckonOne 17 = .ok (.iload_n 1, 1) := by decide +kernel
theorem dX6_reckonOne_18 : decode cX6_reckonOne 18 = .ok (.imul, 1) := by decide +kernel
theorem dX6_reckonOne_19 : decode cX6_reckonOne 19 = .ok (.iload_n 2, 1) := by decide +kernel
theorem dX6_reckonOne_20 : decode cX6_reckonOne 20 = .ok (.iadd, 1) := by decide +kernel
theorem dX6_reckonOne_21 : decode cX6_reckonOne 21 = .ok (.aload_n 0, 1) := by decide +kernel
theorem dX6_reckonOne_22 : decode cX6_reckonOne 22 = .ok (.getfield 147, 3) := by decide +kernel
theorem dX6_reckonOne_25 : decode cX6_reckonOne 25 = .ok (.iastore, 1) := by decide +kernel
theorem dX6_reckonOne_26 : decode cX6_reckonOne 26 = .ok (.aload_n 0, 1) := by decide +kernel
theorem dX6_reckonOne_27 : decode cX6_reckonOne 27 = .ok (.getfield 86, 3) := by decide +kernel
theorem dX6_reckonOne_30 : decode cX6_reckonOne 30 = .ok (.sipush 160, 3) := by decide +kernel
theorem dX6_reckonOne_33 : decode cX6_reckonOne 33 = .ok (.iload_n 1, 1) := by decide +kernel
theorem dX6_reckonOne_34 : decode cX6_reckonOne 34 = .ok (.imul, 1) := by decide +kernel
theorem dX6_reckonOne_35 : decode cX6_reckonOne 35 = .ok (.iload_n 2, 1) := by decide +kernel
theorem dX6_reckonOne_36 : decode cX6_reckonOne 36 = .ok (.iadd, 1) := by decide +kernel
theorem dX6_reckonOne_37 : decode cX6_reckonOne 37 = .ok (.aload_n 0, 1) := by decide +kernel
theorem dX6_reckonOne_38 : decode cX6_reckonOne 38 = .ok (.getfield 150, 3) := by decide +kernel
theorem dX6_reckonOne_41 : decode cX6_reckonOne 41 = .ok (.iastore, 1) := by decide +kernel
theorem dX6_reckonOne_42 : decode cX6_reckonOne 42 = .ok (.return_, 1) := by decide +kernel
theorem dX6_look_0 : decode cX6_look 0 = .ok (.aload_n 0, 1) := by decide +kernel
theorem dX6_look_1 : decode cX6_look 1 = .ok (.iload_n 2, 1) := by decide +kernel
theorem dX6_look_2 : decode cX6_look 2 = .ok (.iload 4, 2) := by decide +kernel
theorem dX6_look_4 : decode cX6_look 4 = .ok (.if_icmp .ne 7, 3) := by decide +kernel
theorem dX6_look_7 : decode cX6_look 7 = .ok (.iload_n 3, 1) := by decide +kernel
theorem dX6_look_8 : decode cX6_look 8 = .ok (.goto 5, 3) := by decide +kernel
theorem dX6_look_11 : decode cX6_look 11 = .ok (.ldc 153, 2) := by decide +kernel
theorem dX6_look_13 : decode cX6_look 13 = .ok (.putfield 147, 3) := by decide +kernel
theorem dX6_look_16 : decode cX6_look 16 = .ok (.aload_n 0, 1) := by decide +kernel
theorem dX6_look_17 : decode cX6_look 17 = .ok (.iconst 0, 1) := by decide +kernel
theorem dX6_look_18 : decode cX6_look 18 = .ok (.putfield 150, 3) := by decide +kernel
theorem dX6_look_21 : decode cX6_look 21 = .ok (.aload_n 0, 1) := by decide +kernel
theorem dX6_look_22 : decode cX6_look 22 = .ok (.iconst (-1), 1) := by decide +kernel
theorem dX6_look_23 : decode cX6_look 23 = .ok (.putfield 154, 3) := by decide +kernel
theorem dX6_look_26 : decode cX6_look 26 = .ok (.iconst 0, 1) := by decide +kernel
theorem dX6_look_27 : decode cX6_look 27 = .ok (.istore 5, 2) := by decide +kernel
theorem dX6_look_29 : decode cX6_look 29 = .ok (.iload 5, 2) := by decide +kernel
theorem dX6_look_31 : decode cX6_look 31 = .ok (.aload_n 0, 1) := by decide +kernel
theorem dX6_look_32 : decode cX6_look 32 = .ok (.getfield 96, 3) := by decide +kernel
theorem dX6_look_35 : decode cX6_look 35 = .ok (.if_icmp .ge 117, 3) := by decide +kernel
theorem dX6_look_38 : decode cX6_look 38 = .ok (.iload_n 1, 1) := by decide +kernel
theorem dX6_look_39 : decode cX6_look 39 = .ok (.ifCond .le 113, 3) := by decide +kernel
theorem dX6_look_42 : decode cX6_look 42 = .ok (.iconst 0, 1) := by decide +kernel
theorem dX6_look_43 : decode cX6_look 43 = .ok (.istore 6, 2) := by decide +kernel
theorem dX6_look_45 : decode cX6_look 45 = .ok (.iload 6, 2) := by decide +kernel
theorem dX6_look_47 : decode cX6_look 47 = .ok (.aload_n 0, 1) := by decide +kernel
theorem dX6_look_48 : decode cX6_look 48 = .ok (.getfield 16, 3) := by decide +kernel
theorem dX6_look_51 : decode cX6_look 51 = .ok (.iload 5, 2) := by decide +kernel
theorem dX6_look_53 : decode cX6_look 53 = .ok (.iaload, 1) := by decide +kernel
theorem dX6_look_54 : decode cX6_look 54 = .ok (.if_icmp .ge 92, 3) := by decide +kernel
theorem dX6_look_57 : decode cX6_look 57 = .ok (.aload_n 0, 1) := by decide +kernel
theorem dX6_look_58 : decode cX6_look 58 = .ok (.getfield 19, 3) := by decide +kernel
theorem dX6_look_61 : decode cX6_look 61 = .ok (.iload 5, 2) := by decide +kernel
theorem dX6_look_63 : decode cX6_look 63 = .ok (.iload 6, 2) := by decide +kernel
theorem dX6_look_65 : decode cX6_look 65 = .ok (.invokestatic 113, 3) := by decide +kernel
theorem dX6_look_68 : decode cX6_look 68 = .ok (.iaload, 1) := by decide +kernel
theorem dX6_look_69 : decode cX6_look 69 = .ok (.iload_n 2, 1) := by decide +kernel
theorem dX6_look_70 : decode cX6_look 70 = .ok (.if_icmp .ne 70, 3) := by decide +kernel
theorem dX6_look_73 : decode cX6_look 73 = .ok (.aload_n 0, 1) := by decide +kernel
theorem dX6_look_74 : decode cX6_look 74 = .ok (.getfield 22, 3) := by decide +kernel
theorem dX6_look_77 : decode cX6_look 77 = .ok (.iload 5, 2) := by decide +kernel
theorem dX6_look_79 : decode cX6_look 79 = .ok (.iload 6, 2) := by decide +kernel
theorem dX6_look_81 : decode cX6_look 81 = .ok (.invokestatic 113, 3) := by decide +kernel
theorem dX6_look_84 : decode cX6_look 84 = .ok (.iaload, 1) := by decide +kernel
theorem dX6_look_85 : decode cX6_look 85 = .ok (.iload_n 3, 1) := by decide +kernel
theorem dX6_look_86 : decode cX6_look 86 = .ok (.if_icmp .ge 6, 3) := by decide +kernel
theorem dX6_look_89 : decode cX6_look 89 = .ok (.goto 51, 3) := by decide +kernel
theorem dX6_look_92 : decode cX6_look 92 = .ok (.iload 6, 2) := by decide +kernel
theorem dX6_look_94 : decode cX6_look 94 = .ok (.iconst 1, 1) := by decide +kernel
theorem dX6_look_95 : decode cX6_look 95 = .ok (.iadd, 1) := by decide +kernel
theorem dX6_look_96 : decode cX6_look 96 = .ok (.istore 7, 2) := by decide +kernel
theorem dX6_look_98 : decode cX6_look 98 = .ok (.iload 7, 2) := by decide +kernel
theorem dX6_look_100 : decode cX6_look 100 = .ok (.aload_n 0, 1) := by decide +kernel
theorem dX6_look_101 : decode cX6_look 101 = .ok (.getfield 16, 3) := by decide +kernel
theorem dX6_look_104 : decode cX6_look 104 = .ok (.iload 5, 2) := by decide +kernel
theorem dX6_look_106 : decode cX6_look 106 = .ok (.iaload, 1) := by decide +kernel
theorem dX6_look_107 : decode cX6_look 107 = .ok (.if_icmp .ge 33, 3) := by decide +kernel
theorem dX6_look_110 : decode cX6_look 110 = .ok (.aload_n 0, 1) := by decide +kernel
theorem dX6_look_111 : decode cX6_look 111 = .ok (.iload 5, 2) := by decide +kernel
theorem dX6_look_113 : decode cX6_look 113 = .ok (.iload 7, 2) := by decide +kernel
theorem dX6_look_115 : decode cX6_look 115 = .ok (.iconst 1, 1) := by decide +kernel
theorem dX6_look_116 : decode cX6_look 116 = .ok (.isub, 1) := by decide +kernel
theorem dX6_look_117 : decode cX6_look 117 = .ok (.invokevirtual 157, 3) := by decide +kernel
theorem dX6_look_120 : decode cX6_look 120 = .ok (.ifCond .eq 20, 3) := by decide +kernel
theorem dX6_look_123 : decode cX6_look 123 = .ok (.aload_n 0, 1) := by decide +kernel
theorem dX6_look_124 : decode cX6_look 124 = .ok (.iload_n 1, 1) := by decide +kernel
theorem dX6_look_125 : decode cX6_look 125 = .ok (.iload 5, 2) := by decide +kernel
theorem dX6_look_127 : decode cX6_look 127 = .ok (.iload 6, 2) := by decide +kernel
theorem dX6_look_129 : decode cX6_look 129 = .ok (.iload 7, 2) := by decide +kernel
theorem dX6_look_131 : decode cX6_look 131 = .ok (.invokevirtual 161, 3) := by decide +kernel
theorem dX6_look_134 : decode cX6_look 134 = .ok (.iinc 7 1, 3) := by decide +kernel
theorem dX6_look_137 : decode cX6_look 137 = .ok (.goto (-39), 3) := by decide +kernel
theorem dX6_look_140 : decode cX6_look 140 = .ok (.iinc 6 1, 3) := by decide +kernel
theorem dX6_look_143 : decode cX6_look 143 = .ok (.goto (-98), 3) := by decide +kernel
theorem dX6_look_146 : decode cX6_look 146 = .ok (.iinc 5 1, 3) := by decide +kernel
theorem dX6_look_149 : decode cX6_look 149 = .ok (.goto (-120), 3) := by decide +kernel
theorem dX6_look_152 : decode cX6_look 152 = .ok (.return_, 1) := by decide +kernel
theorem dX6_lookLeg_0 : decode cX6_lookLeg 0 = .ok (.sipush 160, 3) := by decide +kernel
theorem dX6_lookLeg_3 : decode cX6_lookLeg 3 = .ok (.iload_n 1, 1) := by decide +kernel
theorem dX6_lookLeg_4 : decode cX6_lookLeg 4 = .ok (.iconst 1, 1) := by decide +kernel
theorem dX6_lookLeg_5 : decode cX6_lookLeg 5 = .ok (.isub, 1) := by decide +kernel
theorem dX6_lookLeg_6 : decode cX6_lookLeg 6 = .ok (.imul, 1) := by decide +kernel
theorem dX6_lookLeg_7 : decode cX6_lookLeg 7 = .ok (.iload_n 2, 1) := by decide +kernel
theorem dX6_lookLeg_8 : decode cX6_lookLeg 8 = .ok (.iload 4, 2) := by decide +kernel
theorem dX6_lookLeg_10 : decode cX6_lookLeg 10 = .ok (.invokestatic 113, 3) := by decide +kernel
theorem dX6_lookLeg_13 : decode cX6_lookLeg 13 = .ok (.iadd, 1) := by decide +kernel
theorem dX6_lookLeg_14 : decode cX6_lookLeg 14 = .ok (.istore 5, 2) := by decide +kernel
theorem dX6_lookLeg_16 : decode cX6_lookLeg 16 = .ok (.aload_n 0, 1) := by decide +kernel
theorem dX6_lookLeg_17 : decode cX6_lookLeg 17 = .ok (.getfield 83, 3) := by decide +kernel
theorem dX6_lookLeg_20 : decode cX6_lookLeg 20 = .ok (.iload 5, 2) := by decide +kernel
theorem dX6_lookLeg_22 : decode cX6_lookLeg 22 = .ok (.iaload, 1) := by decide +kernel
theorem dX6_lookLeg_23 : decode cX6_lookLeg 23 = .ok (.istore 6, 2) := by decide +kernel
theorem dX6_lookLeg_25 : decode cX6_lookLeg 25 = .ok (.aload_n 0, 1) := by decide +kernel
theorem dX6_lookLeg_26 : decode cX6_lookLeg 26 = .ok (.getfield 86, 3) := by decide +kernel
theorem dX6_lookLeg_29 : decode cX6_lookLeg 29 = .ok (.iload 5, 2) := by decide +kernel
theorem dX6_lookLeg_31 : decode cX6_lookLeg 31 = .ok (.iaload, 1) := by decide +kernel
theorem dX6_lookLeg_32 : decode cX6_lookLeg 32 = .ok (.iconst 1, 1) := by decide +kernel
theorem dX6_lookLeg_33 : decode cX6_lookLeg 33 = .ok (.iadd, 1) := by decide +kernel
theorem dX6_lookLeg_34 : decode cX6_lookLeg 34 = .ok (.istore 7, 2) := by decide +kernel
theorem dX6_lookLeg_36 : decode cX6_lookLeg 36 = .ok (.iload 6, 2) := by decide +kernel
theorem dX6_lookLeg_38 : decode cX6_lookLeg 38 = .ok (.ldc 153, 2) := by decide +kernel
theorem dX6_lookLeg_40 : decode cX6_lookLeg 40 = .ok (.if_icmp .ge 30, 3) := by decide +kernel
theorem dX6_lookLeg_43 : decode cX6_lookLeg 43 = .ok (.iload 6, 2) := by decide +kernel
theorem dX6_lookLeg_45 : decode cX6_lookLeg 45 = .ok (.aload_n 0, 1) := by decide +kernel
theorem dX6_lookLeg_46 : decode cX6_lookLeg 46 = .ok (.getfield 147, 3) := by decide +kernel
theorem dX6_lookLeg_49 : decode cX6_lookLeg 49 = .ok (.if_icmp .gt 21, 3) := by decide +kernel
theorem dX6_lookLeg_52 : decode cX6_lookLeg 52 = .ok (.iload 6, 2) := by decide +kernel
theorem dX6_lookLeg_54 : decode cX6_lookLeg 54 = .ok (.aload_n 0, 1) := by decide +kernel
theorem dX6_lookLeg_55 : decode cX6_lookLeg 55 = .ok (.getfield 147, 3) := by decide +kernel
theorem dX6_lookLeg_58 : decode cX6_lookLeg 58 = .ok (.if_icmp .ne 13, 3) := by decide +kernel
theorem dX6_lookLeg_61 : decode cX6_lookLeg 61 = .ok (.iload 7, 2) := by decide +kernel
theorem dX6_lookLeg_63 : decode cX6_lookLeg 63 = .ok (.aload_n 0, 1) := by decide +kernel
theorem dX6_lookLeg_64 : decode cX6_lookLeg 64 = .ok (.getfield 150, 3) := by decide +kernel
theorem dX6_lookLeg_67 : decode cX6_lookLeg 67 = .ok (.if_icmp .lt 4, 3) := by decide +kernel
theorem dX6_lookLeg_70 : decode cX6_lookLeg 70 = .ok (.return_, 1) := by decide +kernel
theorem dX6_lookLeg_71 : decode cX6_lookLeg 71 = .ok (.aload_n 0, 1) := by decide +kernel
theorem dX6_lookLeg_72 : decode cX6_lookLeg 72 = .ok (.iload 6, 2) := by decide +kernel
theorem dX6_lookLeg_74 : decode cX6_lookLeg 74 = .ok (.putfield 147, 3) := by decide +kernel
theorem dX6_lookLeg_77 : decode cX6_lookLeg 77 = .ok (.aload_n 0, 1) := by decide +kernel
theorem dX6_lookLeg_78 : decode cX6_lookLeg 78 = .ok (.iload 7, 2) := by decide +kernel
theorem dX6_lookLeg_80 : decode cX6_lookLeg 80 = .ok (.putfield 150, 3) := by decide +kernel
theorem dX6_lookLeg_83 : decode cX6_lookLeg 83 = .ok (.aload_n 0, 1) := by decide +kernel
theorem dX6_lookLeg_84 : decode cX6_lookLeg 84 = .ok (.iload_n 2, 1) := by decide +kernel
theorem dX6_lookLeg_85 : decode cX6_lookLeg 85 = .ok (.putfield 154, 3) := by decide +kernel
theorem dX6_lookLeg_88 : decode cX6_lookLeg 88 = .ok (.aload_n 0, 1) := by decide +kernel
theorem dX6_lookLeg_89 : decode cX6_lookLeg 89 = .ok (.iload_n 3, 1) := by decide +kernel
theorem dX6_lookLeg_90 : decode cX6_lookLeg 90 = .ok (.putfield 164, 3) := by decide +kernel
theorem dX6_lookLeg_93 : decode cX6_lookLeg 93 = .ok (.aload_n 0, 1) := by decide +kernel
theorem dX6_lookLeg_94 : decode cX6_lookLeg 94 = .ok (.iload 4, 2) := by decide +kernel
theorem dX6_lookLeg_96 : decode cX6_lookLeg 96 = .ok (.putfield 167, 3) := by decide +kernel
theorem dX6_lookLeg_99 : decode cX6_lookLeg 99 = .ok (.return_, 1) := by decide +kernel
theorem dX6_lead_0 : decode cX6_lead 0 = .ok (.aload_n 0, 1) := by decide +kernel
theorem dX6_lead_1 : decode cX6_lead 1 = .ok (.iload_n 1, 1) := by decide +kernel
theorem dX6_lead_2 : decode cX6_lead 2 = .ok (.invokevirtual 133, 3) := by decide +kernel
theorem dX6_lead_5 : decode cX6_lead 5 = .ok (.istore 4, 2) := by decide +kernel
theorem dX6_lead_7 : decode cX6_lead 7 = .ok (.aload_n 0, 1) := by decide +kernel
theorem dX6_lead_8 : decode cX6_lead 8 = .ok (.iload_n 1, 1) := by decide +kernel
theorem dX6_lead_9 : decode cX6_lead 9 = .ok (.invokevirtual 170, 3) := by decide +kernel
theorem dX6_lead_12 : decode cX6_lead 12 = .ok (.istore 5, 2) := by decide +kernel
theorem dX6_lead_14 : decode cX6_lead 14 = .ok (.aload_n 0, 1) := by decide +kernel
theorem dX6_lead_15 : decode cX6_lead 15 = .ok (.iload 5, 2) := by decide +kernel
theorem dX6_lead_17 : decode cX6_lead 17 = .ok (.invokevirtual 173, 3) := by decide +kernel
theorem dX6_lead_20 : decode cX6_lead 20 = .ok (.iconst 3, 1) := by decide +kernel
theorem dX6_lead_21 : decode cX6_lead 21 = .ok (.aload_n 0, 1) := by decide +kernel
theorem dX6_lead_22 : decode cX6_lead 22 = .ok (.getfield 65, 3) := by decide +kernel
theorem dX6_lead_25 : decode cX6_lead 25 = .ok (.iload 4, 2) := by decide +kernel
theorem dX6_lead_27 : decode cX6_lead 27 = .ok (.iaload, 1) := by decide +kernel
theorem dX6_lead_28 : decode cX6_lead 28 = .ok (.isub, 1) := by decide +kernel
theorem dX6_lead_29 : decode cX6_lead 29 = .ok (.istore 6, 2) := by decide +kernel
theorem dX6_lead_31 : decode cX6_lead 31 = .ok (.aload_n 0, 1) := by decide +kernel
theorem dX6_lead_32 : decode cX6_lead 32 = .ok (.iload 6, 2) := by decide +kernel
theorem dX6_lead_34 : decode cX6_lead 34 = .ok (.iload_n 2, 1) := by decide +kernel
theorem dX6_lead_35 : decode cX6_lead 35 = .ok (.iload_n 3, 1) := by decide +kernel
theorem dX6_lead_36 : decode cX6_lead 36 = .ok (.iload 5, 2) := by decide +kernel
theorem dX6_lead_38 : decode cX6_lead 38 = .ok (.invokevirtual 143, 3) := by decide +kernel
theorem dX6_lead_41 : decode cX6_lead 41 = .ok (.aload_n 0, 1) := by decide +kernel
theorem dX6_lead_42 : decode cX6_lead 42 = .ok (.getfield 147, 3) := by decide +kernel
theorem dX6_lead_45 : decode cX6_lead 45 = .ok (.ldc 153, 2) := by decide +kernel
theorem dX6_lead_47 : decode cX6_lead 47 = .ok (.if_icmp .lt 5, 3) := by decide +kernel
theorem dX6_lead_50 : decode cX6_lead 50 = .ok (.iconst 0, 1) := by decide +kernel
theorem dX6_lead_51 : decode cX6_lead 51 = .ok (.ireturn, 1) := by decide +kernel
theorem dX6_lead_52 : decode cX6_lead 52 = .ok (.aload_n 0, 1) := by decide +kernel
theorem dX6_lead_53 : decode cX6_lead 53 = .ok (.getfield 154, 3) := by decide +kernel
theorem dX6_lead_56 : decode cX6_lead 56 = .ok (.iconst (-1), 1) := by decide +kernel
theorem dX6_lead_57 : decode cX6_lead 57 = .ok (.if_icmp .eq 115, 3) := by decide +kernel
theorem dX6_lead_60 : decode cX6_lead 60 = .ok (.iload 4, 2) := by decide +kernel
theorem dX6_lead_62 : decode cX6_lead 62 = .ok (.aload_n 0, 1) := by decide +kernel
theorem dX6_lead_63 : decode cX6_lead 63 = .ok (.getfield 65, 3) := by decide +kernel
theorem dX6_lead_66 : decode cX6_lead 66 = .ok (.iload 4, 2) := by decide +kernel
theorem dX6_lead_68 : decode cX6_lead 68 = .ok (.iaload, 1) := by decide +kernel
theorem dX6_lead_69 : decode cX6_lead 69 = .ok (.invokestatic 127, 3) := by decide +kernel
theorem dX6_lead_72 : decode cX6_lead 72 = .ok (.istore 7, 2) := by decide +kernel
theorem dX6_lead_74 : decode cX6_lead 74 = .ok (.aload_n 0, 1) := by decide +kernel
theorem dX6_lead_75 : decode cX6_lead 75 = .ok (.getfield 74, 3) := by decide +kernel
theorem dX6_lead_78 : decode cX6_lead 78 = .ok (.iload 7, 2) := by decide +kernel
theorem dX6_lead_80 : decode cX6_lead 80 = .ok (.aload_n 0, 1) := by decide +kernel
theorem dX6_lead_81 : decode cX6_lead 81 = .ok (.getfield 154, 3) := by decide +kernel
theorem dX6_lead_84 : decode cX6_lead 84 = .ok (.iastore, 1) := by decide +kernel
theorem dX6_lead_85 : decode cX6_lead 85 = .ok (.aload_n 0, 1) := by decide +kernel
theorem dX6_lead_86 : decode cX6_lead 86 = .ok (.getfield 77, 3) := by decide +kernel
theorem dX6_lead_89 : decode cX6_lead 89 = .ok (.iload 7, 2) := by decide +kernel
theorem dX6_lead_91 : decode cX6_lead 91 = .ok (.aload_n 0, 1) := by decide +kernel
theorem dX6_lead_92 : decode cX6_lead 92 = .ok (.getfield 164, 3) := by decide +kernel
theorem dX6_lead_95 : decode cX6_lead 95 = .ok (.iastore, 1) := by decide +kernel
theorem dX6_lead_96 : decode cX6_lead 96 = .ok (.aload_n 0, 1) := by decide +kernel
theorem dX6_lead_97 : decode cX6_lead 97 = .ok (.getfield 80, 3) := by decide +kernel
theorem dX6_lead_100 : decode cX6_lead 100 = .ok (.iload 7, 2) := by decide +kernel
theorem dX6_lead_102 : decode cX6_lead 102 = .ok (.aload_n 0, 1) := by decide +kernel
theorem dX6_lead_103 : decode cX6_lead 103 = .ok (.getfield 167, 3) := by decide +kernel
theorem dX6_lead_106 : decode cX6_lead 106 = .ok (.iastore, 1) := by decide +kernel
theorem dX6_lead_107 : decode cX6_lead 107 = .ok (.aload_n 0, 1) := by decide +kernel
theorem dX6_lead_108 : decode cX6_lead 108 = .ok (.getfield 65, 3) := by decide +kernel
theorem dX6_lead_111 : decode cX6_lead 111 = .ok (.iload 4, 2) := by decide +kernel
theorem dX6_lead_113 : decode cX6_lead 113 = .ok (.dup2, 1) := by decide +kernel
theorem dX6_lead_114 : decode cX6_lead 114 = .ok (.iaload, 1) := by decide +kernel
theorem dX6_lead_115 : decode cX6_lead 115 = .ok (.iconst 1, 1) := by decide +kernel
theorem dX6_lead_116 : decode cX6_lead 116 = .ok (.iadd, 1) := by decide +kernel
theorem dX6_lead_117 : decode cX6_lead 117 = .ok (.iastore, 1) := by decide +kernel
theorem dX6_lead_118 : decode cX6_lead 118 = .ok (.iinc 6 (-1), 3) := by decide +kernel
theorem dX6_lead_121 : decode cX6_lead 121 = .ok (.aload_n 0, 1) := by decide +kernel
theorem dX6_lead_122 : decode cX6_lead 122 = .ok (.getfield 154, 3) := by decide +kernel
theorem dX6_lead_125 : decode cX6_lead 125 = .ok (.aload_n 0, 1) := by decide +kernel
theorem dX6_lead_126 : decode cX6_lead 126 = .ok (.getfield 167, 3) := by decide +kernel
theorem dX6_lead_129 : decode cX6_lead 129 = .ok (.invokestatic 113, 3) := by decide +kernel
theorem dX6_lead_132 : decode cX6_lead 132 = .ok (.istore 8, 2) := by decide +kernel
theorem dX6_lead_134 : decode cX6_lead 134 = .ok (.aload_n 0, 1) := by decide +kernel
theorem dX6_lead_135 : decode cX6_lead 135 = .ok (.iload 6, 2) := by decide +kernel
theorem dX6_lead_137 : decode cX6_lead 137 = .ok (.aload_n 0, 1) := by decide +kernel
theorem dX6_lead_138 : decode cX6_lead 138 = .ok (.getfield 19, 3) := by decide +kernel
theorem dX6_lead_141 : decode cX6_lead 141 = .ok (.iload 8, 2) := by decide +kernel
theorem dX6_lead_143 : decode cX6_lead 143 = .ok (.iaload, 1) := by decide +kernel
theorem dX6_lead_144 : decode cX6_lead 144 = .ok (.aload_n 0, 1) := by decide +kernel
theorem dX6_lead_145 : decode cX6_lead 145 = .ok (.getfield 22, 3) := by decide +kernel
theorem dX6_lead_148 : decode cX6_lead 148 = .ok (.iload 8, 2) := by decide +kernel
theorem dX6_lead_150 : decode cX6_lead 150 = .ok (.iaload, 1) := by decide +kernel
theorem dX6_lead_151 : decode cX6_lead 151 = .ok (.aload_n 0, 1) := by decide +kernel
theorem dX6_lead_152 : decode cX6_lead 152 = .ok (.getfield 9, 3) := by decide +kernel
theorem dX6_lead_155 : decode cX6_lead 155 = .ok (.aload_n 0, 1) := by decide +kernel
theorem dX6_lead_156 : decode cX6_lead 156 = .ok (.getfield 19, 3) := by decide +kernel
theorem dX6_lead_159 : decode cX6_lead 159 = .ok (.iload 8, 2) := by decide +kernel
theorem dX6_lead_161 : decode cX6_lead 161 = .ok (.iaload, 1) := by decide +kernel
theorem dX6_lead_162 : decode cX6_lead 162 = .ok (.iaload, 1) := by decide +kernel
theorem dX6_lead_163 : decode cX6_lead 163 = .ok (.iadd, 1) := by decide +kernel
theorem dX6_lead_164 : decode cX6_lead 164 = .ok (.iload 5, 2) := by decide +kernel
theorem dX6_lead_166 : decode cX6_lead 166 = .ok (.invokevirtual 143, 3) := by decide +kernel
theorem dX6_lead_169 : decode cX6_lead 169 = .ok (.goto (-117), 3) := by decide +kernel
theorem dX6_lead_172 : decode cX6_lead 172 = .ok (.aload_n 0, 1) := by decide +kernel
theorem dX6_lead_173 : decode cX6_lead 173 = .ok (.getfield 59, 3) := by decide +kernel
theorem dX6_lead_176 : decode cX6_lead 176 = .ok (.iload 4, 2) := by decide +kernel
theorem dX6_lead_178 : decode cX6_lead 178 = .ok (.iconst 1, 1) := by decide +kernel
theorem dX6_lead_179 : decode cX6_lead 179 = .ok (.bastore, 1) := by decide +kernel
theorem dX6_lead_180 : decode cX6_lead 180 = .ok (.aload_n 0, 1) := by decide +kernel
theorem dX6_lead_181 : decode cX6_lead 181 = .ok (.getfield 62, 3) := by decide +kernel
theorem dX6_lead_184 : decode cX6_lead 184 = .ok (.iload 4, 2) := by decide +kernel
theorem dX6_lead_186 : decode cX6_lead 186 = .ok (.iconst 1, 1) := by decide +kernel
theorem dX6_lead_187 : decode cX6_lead 187 = .ok (.bastore, 1) := by decide +kernel
theorem dX6_lead_188 : decode cX6_lead 188 = .ok (.aload_n 0, 1) := by decide +kernel
theorem dX6_lead_189 : decode cX6_lead 189 = .ok (.getfield 68, 3) := by decide +kernel
theorem dX6_lead_192 : decode cX6_lead 192 = .ok (.iload 4, 2) := by decide +kernel
theorem dX6_lead_194 : decode cX6_lead 194 = .ok (.iconst (-1), 1) := by decide +kernel
theorem dX6_lead_195 : decode cX6_lead 195 = .ok (.iastore, 1) := by decide +kernel
theorem dX6_lead_196 : decode cX6_lead 196 = .ok (.iconst 1, 1) := by decide +kernel
theorem dX6_lead_197 : decode cX6_lead 197 = .ok (.ireturn, 1) := by decide +kernel
theorem dX6_load0_0 : decode cX6_load0 0 = .ok (.iload_n 2, 1) := by decide +kernel
theorem dX6_load0_1 : decode cX6_load0 1 = .ok (.istore 4, 2) := by decide +kernel
theorem dX6_load0_3 : decode cX6_load0 3 = .ok (.iload 4, 2) := by decide +kernel
theorem dX6_load0_5 : decode cX6_load0 5 = .ok (.aload_n 0, 1) := by decide +kernel
theorem dX6_load0_6 : decode cX6_load0 6 = .ok (.getfield 65, 3) := by decide +kernel
theorem dX6_load0_9 : decode cX6_load0 9 = .ok (.iload_n 1, 1) := by decide +kernel
theorem dX6_load0_10 : decode cX6_load0 10 = .ok (.iaload, 1) := by decide +kernel
theorem dX6_load0_11 : decode cX6_load0 11 = .ok (.if_icmp .ge 65, 3) := by decide +kernel
theorem dX6_load0_14 : decode cX6_load0 14 = .ok (.iload_n 1, 1) := by decide +kernel
theorem dX6_load0_15 : decode cX6_load0 15 = .ok (.iload 4, 2) := by decide +kernel
theorem dX6_load0_17 : decode cX6_load0 17 = .ok (.invokestatic 127, 3) := by decide +kernel
theorem dX6_load0_20 : decode cX6_load0 20 = .ok (.istore 5, 2) := by decide +kernel
theorem dX6_load0_22 : decode cX6_load0 22 = .ok (.aload_n 0, 1) := by decide +kernel
theorem dX6_load0_23 : decode cX6_load0 23 = .ok (.getfield 77, 3) := by decide +kernel
theorem dX6_load0_26 : decode cX6_load0 26 = .ok (.iload 5, 2) := by decide +kernel
theorem dX6_load0_28 : decode cX6_load0 28 = .ok (.iaload, 1) := by decide +kernel
theorem dX6_load0_29 : decode cX6_load0 29 = .ok (.istore 6, 2) := by decide +kernel
theorem dX6_load0_31 : decode cX6_load0 31 = .ok (.iload 6, 2) := by decide +kernel
theorem dX6_load0_33 : decode cX6_load0 33 = .ok (.aload_n 0, 1) := by decide +kernel
theorem dX6_load0_34 : decode cX6_load0 34 = .ok (.getfield 80, 3) := by decide +kernel
theorem dX6_load0_37 : decode cX6_load0 37 = .ok (.iload 5, 2) := by decide +kernel
theorem dX6_load0_39 : decode cX6_load0 39 = .ok (.iaload, 1) := by decide +kernel
theorem dX6_load0_40 : decode cX6_load0 40 = .ok (.if_icmp .ge 30, 3) := by decide +kernel
theorem dX6_load0_43 : decode cX6_load0 43 = .ok (.aload_n 0, 1) := by decide +kernel
theorem dX6_load0_44 : decode cX6_load0 44 = .ok (.getfield 25, 3) := by decide +kernel
theorem dX6_load0_47 : decode cX6_load0 47 = .ok (.aload_n 0, 1) := by decide +kernel
theorem dX6_load0_48 : decode cX6_load0 48 = .ok (.getfield 74, 3) := by decide +kernel
theorem dX6_load0_51 : decode cX6_load0 51 = .ok (.iload 5, 2) := by decide +kernel
theorem dX6_load0_53 : decode cX6_load0 53 = .ok (.iaload, 1) := by decide +kernel
theorem dX6_load0_54 : decode cX6_load0 54 = .ok (.iload 6, 2) := by decide +kernel
theorem dX6_load0_56 : decode cX6_load0 56 = .ok (.invokestatic 113, 3) := by decide +kernel
theorem dX6_load0_59 : decode cX6_load0 59 = .ok (.dup2, 1) := by decide +kernel
theorem dX6_load0_60 : decode cX6_load0 60 = .ok (.iaload, 1) := by decide +kernel
theorem dX6_load0_61 : decode cX6_load0 61 = .ok (.iload_n 3, 1) := by decide +kernel
theorem dX6_load0_62 : decode cX6_load0 62 = .ok (.iadd, 1) := by decide +kernel
theorem dX6_load0_63 : decode cX6_load0 63 = .ok (.iastore, 1) := by decide +kernel
theorem dX6_load0_64 : decode cX6_load0 64 = .ok (.iinc 6 1, 3) := by decide +kernel
theorem dX6_load0_67 : decode cX6_load0 67 = .ok (.goto (-36), 3) := by decide +kernel
theorem dX6_load0_70 : decode cX6_load0 70 = .ok (.iinc 4 1, 3) := by decide +kernel
theorem dX6_load0_73 : decode cX6_load0 73 = .ok (.goto (-70), 3) := by decide +kernel
theorem dX6_load0_76 : decode cX6_load0 76 = .ok (.return_, 1) := by decide +kernel
theorem dX6_leadOn_0 : decode cX6_leadOn 0 = .ok (.aload_n 0, 1) := by decide +kernel
theorem dX6_leadOn_1 : decode cX6_leadOn 1 = .ok (.iload_n 1, 1) := by decide +kernel
theorem dX6_leadOn_2 : decode cX6_leadOn 2 = .ok (.invokevirtual 133, 3) := by decide +kernel
theorem dX6_leadOn_5 : decode cX6_leadOn 5 = .ok (.istore 4, 2) := by decide +kernel
theorem dX6_leadOn_7 : decode cX6_leadOn 7 = .ok (.aload_n 0, 1) := by decide +kernel
theorem dX6_leadOn_8 : decode cX6_leadOn 8 = .ok (.getfield 65, 3) := by decide +kernel
theorem dX6_leadOn_11 : decode cX6_leadOn 11 = .ok (.iload 4, 2) := by decide +kernel
theorem dX6_leadOn_13 : decode cX6_leadOn 13 = .ok (.iaload, 1) := by decide +kernel
theorem dX6_leadOn_14 : decode cX6_leadOn 14 = .ok (.istore 5, 2) := by decide +kernel
theorem dX6_leadOn_16 : decode cX6_leadOn 16 = .ok (.aload_n 0, 1) := by decide +kernel
theorem dX6_leadOn_17 : decode cX6_leadOn 17 = .ok (.iload_n 1, 1) := by decide +kernel
theorem dX6_leadOn_18 : decode cX6_leadOn 18 = .ok (.iload_n 2, 1) := by decide +kernel
theorem dX6_leadOn_19 : decode cX6_leadOn 19 = .ok (.iload_n 3, 1) := by decide +kernel
theorem dX6_leadOn_20 : decode cX6_leadOn 20 = .ok (.invokevirtual 177, 3) := by decide +kernel
theorem dX6_leadOn_23 : decode cX6_leadOn 23 = .ok (.istore 6, 2) := by decide +kernel
theorem dX6_leadOn_25 : decode cX6_leadOn 25 = .ok (.aload_n 0, 1) := by decide +kernel
theorem dX6_leadOn_26 : decode cX6_leadOn 26 = .ok (.iload 4, 2) := by decide +kernel
theorem dX6_leadOn_28 : decode cX6_leadOn 28 = .ok (.iload 5, 2) := by decide +kernel
theorem dX6_leadOn_30 : decode cX6_leadOn 30 = .ok (.iconst 1, 1) := by decide +kernel
theorem dX6_leadOn_31 : decode cX6_leadOn 31 = .ok (.invokevirtual 181, 3) := by decide +kernel
theorem dX6_leadOn_34 : decode cX6_leadOn 34 = .ok (.iload 6, 2) := by decide +kernel
theorem dX6_leadOn_36 : decode cX6_leadOn 36 = .ok (.ireturn, 1) := by decide +kernel
theorem dX6_plan_0 : decode cX6_plan 0 = .ok (.aload_n 0, 1) := by decide +kernel
theorem dX6_plan_1 : decode cX6_plan 1 = .ok (.iconst 0, 1) := by decide +kernel
theorem dX6_plan_2 : decode cX6_plan 2 = .ok (.putfield 92, 3) := by decide +kernel
theorem dX6_plan_5 : decode cX6_plan 5 = .ok (.iconst 0, 1) := by decide +kernel
theorem dX6_plan_6 : decode cX6_plan 6 = .ok (.istore_n 1, 1) := by decide +kernel
theorem dX6_plan_7 : decode cX6_plan 7 = .ok (.iconst 0, 1) := by decide +kernel
theorem dX6_plan_8 : decode cX6_plan 8 = .ok (.istore_n 2, 1) := by decide +kernel
theorem dX6_plan_9 : decode cX6_plan 9 = .ok (.iload_n 2, 1) := by decide +kernel
theorem dX6_plan_10 : decode cX6_plan 10 = .ok (.aload_n 0, 1) := by decide +kernel
theorem dX6_plan_11 : decode cX6_plan 11 = .ok (.getfield 99, 3) := by decide +kernel
theorem dX6_plan_14 : decode cX6_plan 14 = .ok (.if_icmp .ge 110, 3) := by decide +kernel
theorem dX6_plan_17 : decode cX6_plan 17 = .ok (.aload_n 0, 1) := by decide +kernel
theorem dX6_plan_18 : decode cX6_plan 18 = .ok (.iload_n 2, 1) := by decide +kernel
theorem dX6_plan_19 : decode cX6_plan 19 = .ok (.invokevirtual 133, 3) := by decide +kernel
theorem dX6_plan_22 : decode cX6_plan 22 = .ok (.istore_n 3, 1) := by decide +kernel
theorem dX6_plan_23 : decode cX6_plan 23 = .ok (.aload_n 0, 1) := by decide +kernel
theorem dX6_plan_24 : decode cX6_plan 24 = .ok (.getfield 68, 3) := by decide +kernel
theorem dX6_plan_27 : decode cX6_plan 27 = .ok (.iload_n 3, 1) := by decide +kernel
theorem dX6_plan_28 : decode cX6_plan 28 = .ok (.iaload, 1) := by decide +kernel
theorem dX6_plan_29 : decode cX6_plan 29 = .ok (.iconst (-1), 1) := by decide +kernel
theorem dX6_plan_30 : decode cX6_plan 30 = .ok (.if_icmp .eq 41, 3) := by decide +kernel
theorem dX6_plan_33 : decode cX6_plan 33 = .ok (.iload_n 1, 1) := by decide +kernel
theorem dX6_plan_34 : decode cX6_plan 34 = .ok (.aload_n 0, 1) := by decide +kernel
theorem dX6_plan_35 : decode cX6_plan 35 = .ok (.iload_n 2, 1) := by decide +kernel
theorem dX6_plan_36 : decode cX6_plan 36 = .ok (.aload_n 0, 1) := by decide +kernel
theorem dX6_plan_37 : decode cX6_plan 37 = .ok (.getfield 68, 3) := by decide +kernel
theorem dX6_plan_40 : decode cX6_plan 40 = .ok (.iload_n 3, 1) := by decide +kernel
theorem dX6_plan_41 : decode cX6_plan 41 = .ok (.iaload, 1) := by decide +kernel
theorem dX6_plan_42 : decode cX6_plan 42 = .ok (.aload_n 0, 1) := by decide +kernel
theorem dX6_plan_43 : decode cX6_plan 43 = .ok (.getfield 185, 3) := by decide +kernel
theorem dX6_plan_46 : decode cX6_plan 46 = .ok (.aload_n 0, 1) := by decide +kernel
theorem dX6_plan_47 : decode cX6_plan 47 = .ok (.getfield 71, 3) := by decide +kernel
theorem dX6_plan_50 : decode cX6_plan 50 = .ok (.iload_n 3, 1) := by decide +kernel
theorem dX6_plan_51 : decode cX6_plan 51 = .ok (.iaload, 1) := by decide +kernel
theorem dX6_plan_52 : decode cX6_plan 52 = .ok (.invokestatic 188, 3) := by decide +kernel
theorem dX6_plan_55 : decode cX6_plan 55 = .ok (.invokevirtual 193, 3) := by decide +kernel
theorem dX6_plan_58 : decode cX6_plan 58 = .ok (.ifCond .eq 7, 3) := by decide +kernel
theorem dX6_plan_61 : decode cX6_plan 61 = .ok (.iconst 1, 1) := by decide +kernel
theorem dX6_plan_62 : decode cX6_plan 62 = .ok (.goto 4, 3) := by decide +kernel
theorem dX6_plan_65 : decode cX6_plan 65 = .ok (.iconst 0, 1) := by decide +kernel
theorem dX6_plan_66 : decode cX6_plan 66 = .ok (.iadd, 1) := by decide +kernel
theorem dX6_plan_67 : decode cX6_plan 67 = .ok (.istore_n 1, 1) := by decide +kernel
theorem dX6_plan_68 : decode cX6_plan 68 = .ok (.goto 50, 3) := by decide +kernel
theorem dX6_plan_71 : decode cX6_plan 71 = .ok (.aload_n 0, 1) := by decide +kernel
theorem dX6_plan_72 : decode cX6_plan 72 = .ok (.getfield 59, 3) := by decide +kernel
theorem dX6_plan_75 : decode cX6_plan 75 = .ok (.iload_n 3, 1) := by decide +kernel
theorem dX6_plan_76 : decode cX6_plan 76 = .ok (.baload, 1) := by decide +kernel
theorem dX6_plan_77 : decode cX6_plan 77 = .ok (.ifCond .ne 41, 3) := by decide +kernel
theorem dX6_plan_80 : decode cX6_plan 80 = .ok (.aload_n 0, 1) := by decide +kernel
theorem dX6_plan_81 : decode cX6_plan 81 = .ok (.iload_n 2, 1) := by decide +kernel
theorem dX6_plan_82 : decode cX6_plan 82 = .ok (.invokevirtual 117, 3) := by decide +kernel
theorem dX6_plan_85 : decode cX6_plan 85 = .ok (.aload_n 0, 1) := by decide +kernel
theorem dX6_plan_86 : decode cX6_plan 86 = .ok (.getfield 185, 3) := by decide +kernel
theorem dX6_plan_89 : decode cX6_plan 89 = .ok (.if_icmp .lt 29, 3) := by decide +kernel
theorem dX6_plan_92 : decode cX6_plan 92 = .ok (.iload_n 1, 1) := by decide +kernel
theorem dX6_plan_93 : decode cX6_plan 93 = .ok (.aload_n 0, 1) := by decide +kernel
theorem dX6_plan_94 : decode cX6_plan 94 = .ok (.iload_n 2, 1) := by decide +kernel
theorem dX6_plan_95 : decode cX6_plan 95 = .ok (.aload_n 0, 1) := by decide +kernel
theorem dX6_plan_96 : decode cX6_plan 96 = .ok (.iload_n 2, 1) := by decide +kernel
theorem dX6_plan_97 : decode cX6_plan 97 = .ok (.invokevirtual 121, 3) := by decide +kernel
theorem dX6_plan_100 : decode cX6_plan 100 = .ok (.aload_n 0, 1) := by decide +kernel
theorem dX6_plan_101 : decode cX6_plan 101 = .ok (.iload_n 2, 1) := by decide +kernel
theorem dX6_plan_102 : decode cX6_plan 102 = .ok (.invokevirtual 124, 3) := by decide +kernel
theorem dX6_plan_105 : decode cX6_plan 105 = .ok (.invokevirtual 193, 3) := by decide +kernel
theorem dX6_plan_108 : decode cX6_plan 108 = .ok (.ifCond .eq 7, 3) := by decide +kernel
theorem dX6_plan_111 : decode cX6_plan 111 = .ok (.iconst 1, 1) := by decide +kernel
theorem dX6_plan_112 : decode cX6_plan 112 = .ok (.goto 4, 3) := by decide +kernel
theorem dX6_plan_115 : decode cX6_plan 115 = .ok (.iconst 0, 1) := by decide +kernel
theorem dX6_plan_116 : decode cX6_plan 116 = .ok (.iadd, 1) := by decide +kernel
theorem dX6_plan_117 : decode cX6_plan 117 = .ok (.istore_n 1, 1) := by decide +kernel
theorem dX6_plan_118 : decode cX6_plan 118 = .ok (.iinc 2 1, 3) := by decide +kernel
theorem dX6_plan_121 : decode cX6_plan 121 = .ok (.goto (-112), 3) := by decide +kernel
theorem dX6_plan_124 : decode cX6_plan 124 = .ok (.iload_n 1, 1) := by decide +kernel
theorem dX6_plan_125 : decode cX6_plan 125 = .ok (.ireturn, 1) := by decide +kernel
theorem dX6_minutes_0 : decode cX6_minutes 0 = .ok (.aload_n 0, 1) := by decide +kernel
theorem dX6_minutes_1 : decode cX6_minutes 1 = .ok (.iconst 0, 1) := by decide +kernel
theorem dX6_minutes_2 : decode cX6_minutes 2 = .ok (.putfield 92, 3) := by decide +kernel
theorem dX6_minutes_5 : decode cX6_minutes 5 = .ok (.iload_n 1, 1) := by decide +kernel
theorem dX6_minutes_6 : decode cX6_minutes 6 = .ok (.ifCond .lt 15, 3) := by decide +kernel
theorem dX6_minutes_9 : decode cX6_minutes 9 = .ok (.iload_n 1, 1) := by decide +kernel
theorem dX6_minutes_10 : decode cX6_minutes 10 = .ok (.sipush 1439, 3) := by decide +kernel
theorem dX6_minutes_13 : decode cX6_minutes 13 = .ok (.aload_n 0, 1) := by decide +kernel
theorem dX6_minutes_14 : decode cX6_minutes 14 = .ok (.getfield 185, 3) := by decide +kernel
theorem dX6_minutes_17 : decode cX6_minutes 17 = .ok (.isub, 1) := by decide +kernel
theorem dX6_minutes_18 : decode cX6_minutes 18 = .ok (.if_icmp .le 8, 3) := by decide +kernel
theorem dX6_minutes_21 : decode cX6_minutes 21 = .ok (.aload_n 0, 1) := by decide +kernel
theorem dX6_minutes_22 : decode cX6_minutes 22 = .ok (.invokevirtual 109, 3) := by decide +kernel
theorem dX6_minutes_25 : decode cX6_minutes 25 = .ok (.ireturn, 1) := by decide +kernel
theorem dX6_minutes_26 : decode cX6_minutes 26 = .ok (.aload_n 0, 1) := by decide +kernel
theorem dX6_minutes_27 : decode cX6_minutes 27 = .ok (.dup, 1) := by decide +kernel
theorem dX6_minutes_28 : decode cX6_minutes 28 = .ok (.getfield 185, 3) := by decide +kernel
theorem dX6_minutes_31 : decode cX6_minutes 31 = .ok (.iload_n 1, 1) := by decide +kernel
theorem dX6_minutes_32 : decode cX6_minutes 32 = .ok (.iadd, 1) := by decide +kernel
theorem dX6_minutes_33 : decode cX6_minutes 33 = .ok (.putfield 185, 3) := by decide +kernel
theorem dX6_minutes_36 : decode cX6_minutes 36 = .ok (.aload_n 0, 1) := by decide +kernel
theorem dX6_minutes_37 : decode cX6_minutes 37 = .ok (.getfield 185, 3) := by decide +kernel
theorem dX6_minutes_40 : decode cX6_minutes 40 = .ok (.ireturn, 1) := by decide +kernel
theorem dX6_firstOn_0 : decode cX6_firstOn 0 = .ok (.aload_n 0, 1) := by decide +kernel
theorem dX6_firstOn_1 : decode cX6_firstOn 1 = .ok (.iload_n 1, 1) := by decide +kernel
theorem dX6_firstOn_2 : decode cX6_firstOn 2 = .ok (.invokevirtual 133, 3) := by decide +kernel
theorem dX6_firstOn_5 : decode cX6_firstOn 5 = .ok (.istore_n 3, 1) := by decide +kernel
theorem dX6_firstOn_6 : decode cX6_firstOn 6 = .ok (.iconst 0, 1) := by decide +kernel
theorem dX6_firstOn_7 : decode cX6_firstOn 7 = .ok (.istore 4, 2) := by decide +kernel
theorem dX6_firstOn_9 : decode cX6_firstOn 9 = .ok (.iload 4, 2) := by decide +kernel
theorem dX6_firstOn_11 : decode cX6_firstOn 11 = .ok (.aload_n 0, 1) := by decide +kernel
theorem dX6_firstOn_12 : decode cX6_firstOn 12 = .ok (.getfield 65, 3) := by decide +kernel
theorem dX6_firstOn_15 : decode cX6_firstOn 15 = .ok (.iload_n 3, 1) := by decide +kernel
theorem dX6_firstOn_16 : decode cX6_firstOn 16 = .ok (.iaload, 1) := by decide +kernel
theorem dX6_firstOn_17 : decode cX6_firstOn 17 = .ok (.if_icmp .ge 27, 3) := by decide +kernel
theorem dX6_firstOn_20 : decode cX6_firstOn 20 = .ok (.aload_n 0, 1) := by decide +kernel
theorem dX6_firstOn_21 : decode cX6_firstOn 21 = .ok (.getfield 74, 3) := by decide +kernel
theorem dX6_firstOn_24 : decode cX6_firstOn 24 = .ok (.iload_n 3, 1) := by decide +kernel
theorem dX6_firstOn_25 : decode cX6_firstOn 25 = .ok (.iload 4, 2) := by decide +kernel
theorem dX6_firstOn_27 : decode cX6_firstOn 27 = .ok (.invokestatic 127, 3) := by decide +kernel
theorem dX6_firstOn_30 : decode cX6_firstOn 30 = .ok (.iaload, 1) := by decide +kernel
theorem dX6_firstOn_31 : decode cX6_firstOn 31 = .ok (.iload_n 2, 1) := by decide +kernel
theorem dX6_firstOn_32 : decode cX6_firstOn 32 = .ok (.if_icmp .ne 6, 3) := by decide +kernel
theorem dX6_firstOn_35 : decode cX6_firstOn 35 = .ok (.iload 4, 2) := by decide +kernel
theorem dX6_firstOn_37 : decode cX6_firstOn 37 = .ok (.ireturn, 1) := by decide +kernel
theorem dX6_firstOn_38 : decode cX6_firstOn 38 = .ok (.iinc 4 1, 3) := by decide +kernel
theorem dX6_firstOn_41 : decode cX6_firstOn 41 = .ok (.goto (-32), 3) := by decide +kernel
theorem dX6_firstOn_44 : decode cX6_firstOn 44 = .ok (.iconst (-1), 1) := by decide +kernel
theorem dX6_firstOn_45 : decode cX6_firstOn 45 = .ok (.ireturn, 1) := by decide +kernel
theorem dX6_cancel_0 : decode cX6_cancel 0 = .ok (.aload_n 0, 1) := by decide +kernel
theorem dX6_cancel_1 : decode cX6_cancel 1 = .ok (.iconst 0, 1) := by decide +kernel
theorem dX6_cancel_2 : decode cX6_cancel 2 = .ok (.putfield 92, 3) := by decide +kernel
theorem dX6_cancel_5 : decode cX6_cancel 5 = .ok (.aload_n 0, 1) := by decide +kernel
theorem dX6_cancel_6 : decode cX6_cancel 6 = .ok (.iload_n 1, 1) := by decide +kernel
theorem dX6_cancel_7 : decode cX6_cancel 7 = .ok (.invokevirtual 105, 3) := by decide +kernel
theorem dX6_cancel_10 : decode cX6_cancel 10 = .ok (.ifCond .ne 8, 3) := by decide +kernel
theorem dX6_cancel_13 : decode cX6_cancel 13 = .ok (.aload_n 0, 1) := by decide +kernel
theorem dX6_cancel_14 : decode cX6_cancel 14 = .ok (.invokevirtual 109, 3) := by decide +kernel
theorem dX6_cancel_17 : decode cX6_cancel 17 = .ok (.ireturn, 1) := by decide +kernel
theorem dX6_cancel_18 : decode cX6_cancel 18 = .ok (.aload_n 0, 1) := by decide +kernel
theorem dX6_cancel_19 : decode cX6_cancel 19 = .ok (.getfield 31, 3) := by decide +kernel
theorem dX6_cancel_22 : decode cX6_cancel 22 = .ok (.iload_n 1, 1) := by decide +kernel
theorem dX6_cancel_23 : decode cX6_cancel 23 = .ok (.baload, 1) := by decide +kernel
theorem dX6_cancel_24 : decode cX6_cancel 24 = .ok (.ifCond .ne 29, 3) := by decide +kernel
theorem dX6_cancel_27 : decode cX6_cancel 27 = .ok (.aload_n 0, 1) := by decide +kernel
theorem dX6_cancel_28 : decode cX6_cancel 28 = .ok (.getfield 16, 3) := by decide +kernel
theorem dX6_cancel_31 : decode cX6_cancel 31 = .ok (.iload_n 1, 1) := by decide +kernel
theorem dX6_cancel_32 : decode cX6_cancel 32 = .ok (.iaload, 1) := by decide +kernel
theorem dX6_cancel_33 : decode cX6_cancel 33 = .ok (.ifCond .eq 20, 3) := by decide +kernel
theorem dX6_cancel_36 : decode cX6_cancel 36 = .ok (.aload_n 0, 1) := by decide +kernel
theorem dX6_cancel_37 : decode cX6_cancel 37 = .ok (.getfield 22, 3) := by decide +kernel
theorem dX6_cancel_40 : decode cX6_cancel 40 = .ok (.iload_n 1, 1) := by decide +kernel
theorem dX6_cancel_41 : decode cX6_cancel 41 = .ok (.iconst 0, 1) := by decide +kernel
theorem dX6_cancel_42 : decode cX6_cancel 42 = .ok (.invokestatic 113, 3) := by decide +kernel
theorem dX6_cancel_45 : decode cX6_cancel 45 = .ok (.iaload, 1) := by decide +kernel
theorem dX6_cancel_46 : decode cX6_cancel 46 = .ok (.aload_n 0, 1) := by decide +kernel
theorem dX6_cancel_47 : decode cX6_cancel 47 = .ok (.getfield 185, 3) := by decide +kernel
theorem dX6_cancel_50 : decode cX6_cancel 50 = .ok (.if_icmp .gt 5, 3) := by decide +kernel
theorem dX6_cancel_53 : decode cX6_cancel 53 = .ok (.iconst (-1), 1) := by decide +kernel
theorem dX6_cancel_54 : decode cX6_cancel 54 = .ok (.ireturn, 1) := by decide +kernel
theorem dX6_cancel_55 : decode cX6_cancel 55 = .ok (.aload_n 0, 1) := by decide +kernel
theorem dX6_cancel_56 : decode cX6_cancel 56 = .ok (.getfield 31, 3) := by decide +kernel
theorem dX6_cancel_59 : decode cX6_cancel 59 = .ok (.iload_n 1, 1) := by decide +kernel
theorem dX6_cancel_60 : decode cX6_cancel 60 = .ok (.iconst 1, 1) := by decide +kernel
theorem dX6_cancel_61 : decode cX6_cancel 61 = .ok (.bastore, 1) := by decide +kernel
theorem dX6_cancel_62 : decode cX6_cancel 62 = .ok (.iconst 0, 1) := by decide +kernel
theorem dX6_cancel_63 : decode cX6_cancel 63 = .ok (.istore_n 2, 1) := by decide +kernel
theorem dX6_cancel_64 : decode cX6_cancel 64 = .ok (.iconst 0, 1) := by decide +kernel
theorem dX6_cancel_65 : decode cX6_cancel 65 = .ok (.istore_n 3, 1) := by decide +kernel
theorem dX6_cancel_66 : decode cX6_cancel 66 = .ok (.iload_n 3, 1) := by decide +kernel
theorem dX6_cancel_67 : decode cX6_cancel 67 = .ok (.aload_n 0, 1) := by decide +kernel
theorem dX6_cancel_68 : decode cX6_cancel 68 = .ok (.getfield 99, 3) := by decide +kernel
theorem dX6_cancel_71 : decode cX6_cancel 71 = .ok (.if_icmp .ge 79, 3) := by decide +kernel
theorem dX6_cancel_74 : decode cX6_cancel 74 = .ok (.aload_n 0, 1) := by decide +kernel
theorem dX6_cancel_75 : decode cX6_cancel 75 = .ok (.iload_n 3, 1) := by decide +kernel
theorem dX6_cancel_76 : decode cX6_cancel 76 = .ok (.iload_n 1, 1) := by decide +kernel
theorem dX6_cancel_77 : decode cX6_cancel 77 = .ok (.invokevirtual 196, 3) := by decide +kernel
theorem dX6_cancel_80 : decode cX6_cancel 80 = .ok (.istore 4, 2) := by decide +kernel
theorem dX6_cancel_82 : decode cX6_cancel 82 = .ok (.aload_n 0, 1) := by decide +kernel
theorem dX6_cancel_83 : decode cX6_cancel 83 = .ok (.getfield 89, 3) := by decide +kernel
theorem dX6_cancel_86 : decode cX6_cancel 86 = .ok (.iload_n 3, 1) := by decide +kernel
theorem dX6_cancel_87 : decode cX6_cancel 87 = .ok (.iload 4, 2) := by decide +kernel
theorem dX6_cancel_89 : decode cX6_cancel 89 = .ok (.iconst (-1), 1) := by decide +kernel
theorem dX6_cancel_90 : decode cX6_cancel 90 = .ok (.if_icmp .eq 7, 3) := by decide +kernel
theorem dX6_cancel_93 : decode cX6_cancel 93 = .ok (.iconst 1, 1) := by decide +kernel
theorem dX6_cancel_94 : decode cX6_cancel 94 = .ok (.goto 4, 3) := by decide +kernel
theorem dX6_cancel_97 : decode cX6_cancel 97 = .ok (.iconst 0, 1) := by decide +kernel
theorem dX6_cancel_98 : decode cX6_cancel 98 = .ok (.bastore, 1) := by decide +kernel
theorem dX6_cancel_99 : decode cX6_cancel 99 = .ok (.iload 4, 2) := by decide +kernel
theorem dX6_cancel_101 : decode cX6_cancel 101 = .ok (.iconst (-1), 1) := by decide +kernel
theorem dX6_cancel_102 : decode cX6_cancel 102 = .ok (.if_icmp .ne 6, 3) := by decide +kernel
theorem dX6_cancel_105 : decode cX6_cancel 105 = .ok (.goto 39, 3) := by decide +kernel
theorem dX6_cancel_108 : decode cX6_cancel 108 = .ok (.aload_n 0, 1) := by decide +kernel
theorem dX6_cancel_109 : decode cX6_cancel 109 = .ok (.iload_n 3, 1) := by decide +kernel
theorem dX6_cancel_110 : decode cX6_cancel 110 = .ok (.invokevirtual 133, 3) := by decide +kernel
theorem dX6_cancel_113 : decode cX6_cancel 113 = .ok (.istore 5, 2) := by decide +kernel
theorem dX6_cancel_115 : decode cX6_cancel 115 = .ok (.aload_n 0, 1) := by decide +kernel
theorem dX6_cancel_116 : decode cX6_cancel 116 = .ok (.iload 5, 2) := by decide +kernel
theorem dX6_cancel_118 : decode cX6_cancel 118 = .ok (.iload 4, 2) := by decide +kernel
theorem dX6_cancel_120 : decode cX6_cancel 120 = .ok (.iconst (-1), 1) := by decide +kernel
theorem dX6_cancel_121 : decode cX6_cancel 121 = .ok (.invokevirtual 181, 3) := by decide +kernel
theorem dX6_cancel_124 : decode cX6_cancel 124 = .ok (.aload_n 0, 1) := by decide +kernel
theorem dX6_cancel_125 : decode cX6_cancel 125 = .ok (.getfield 65, 3) := by decide +kernel
theorem dX6_cancel_128 : decode cX6_cancel 128 = .ok (.iload 5, 2) := by decide +kernel
theorem dX6_cancel_130 : decode cX6_cancel 130 = .ok (.iload 4, 2) := by decide +kernel
theorem dX6_cancel_132 : decode cX6_cancel 132 = .ok (.iastore, 1) := by decide +kernel
theorem dX6_cancel_133 : decode cX6_cancel 133 = .ok (.aload_n 0, 1) := by decide +kernel
theorem dX6_cancel_134 : decode cX6_cancel 134 = .ok (.getfield 62, 3) := by decide +kernel
theorem dX6_cancel_137 : decode cX6_cancel 137 = .ok (.iload 5, 2) := by decide +kernel
theorem dX6_cancel_139 : decode cX6_cancel 139 = .ok (.iconst 0, 1) := by decide +kernel
theorem dX6_cancel_140 : decode cX6_cancel 140 = .ok (.bastore, 1) := by decide +kernel
theorem dX6_cancel_141 : decode cX6_cancel 141 = .ok (.iinc 2 1, 3) := by decide +kernel
theorem dX6_cancel_144 : decode cX6_cancel 144 = .ok (.iinc 3 1, 3) := by decide +kernel
theorem dX6_cancel_147 : decode cX6_cancel 147 = .ok (.goto (-81), 3) := by decide +kernel
theorem dX6_cancel_150 : decode cX6_cancel 150 = .ok (.iconst 0, 1) := by decide +kernel
theorem dX6_cancel_151 : decode cX6_cancel 151 = .ok (.istore_n 3, 1) := by decide +kernel
theorem dX6_cancel_152 : decode cX6_cancel 152 = .ok (.iload_n 3, 1) := by decide +kernel
theorem dX6_cancel_153 : decode cX6_cancel 153 = .ok (.aload_n 0, 1) := by decide +kernel
theorem dX6_cancel_154 : decode cX6_cancel 154 = .ok (.getfield 99, 3) := by decide +kernel
theorem dX6_cancel_157 : decode cX6_cancel 157 = .ok (.if_icmp .ge 135, 3) := by decide +kernel
theorem dX6_cancel_160 : decode cX6_cancel 160 = .ok (.aload_n 0, 1) := by decide +kernel
theorem dX6_cancel_161 : decode cX6_cancel 161 = .ok (.getfield 89, 3) := by decide +kernel
theorem dX6_cancel_164 : decode cX6_cancel 164 = .ok (.iload_n 3, 1) := by decide +kernel
theorem dX6_cancel_165 : decode cX6_cancel 165 = .ok (.baload, 1) := by decide +kernel
theorem dX6_cancel_166 : decode cX6_cancel 166 = .ok (.ifCond .ne 6, 3) := by decide +kernel
theorem dX6_cancel_169 : decode cX6_cancel 169 = .ok (.goto 117, 3) := by decide +kernel
theorem dX6_cancel_172 : decode cX6_cancel 172 = .ok (.aload_n 0, 1) := by decide +kernel
theorem dX6_cancel_173 : decode cX6_cancel 173 = .ok (.iload_n 3, 1) := by decide +kernel
theorem dX6_cancel_174 : decode cX6_cancel 174 = .ok (.invokevirtual 133, 3) := by decide +kernel
theorem dX6_cancel_177 : decode cX6_cancel 177 = .ok (.istore 4, 2) := by decide +kernel
theorem dX6_cancel_179 : decode cX6_cancel 179 = .ok (.iload 4, 2) := by decide +kernel
theorem dX6_cancel_181 : decode cX6_cancel 181 = .ok (.aload_n 0, 1) := by decide +kernel
theorem dX6_cancel_182 : decode cX6_cancel 182 = .ok (.getfield 65, 3) := by decide +kernel
theorem dX6_cancel_185 : decode cX6_cancel 185 = .ok (.iload 4, 2) := by decide +kernel
theorem dX6_cancel_187 : decode cX6_cancel 187 = .ok (.iaload, 1) := by decide +kernel
theorem dX6_cancel_188 : decode cX6_cancel 188 = .ok (.iconst 1, 1) := by decide +kernel
theorem dX6_cancel_189 : decode cX6_cancel 189 = .ok (.isub, 1) := by decide +kernel
theorem dX6_cancel_190 : decode cX6_cancel 190 = .ok (.invokestatic 127, 3) := by decide +kernel
theorem dX6_cancel_193 : decode cX6_cancel 193 = .ok (.istore 5, 2) := by decide +kernel
theorem dX6_cancel_195 : decode cX6_cancel 195 = .ok (.aload_n 0, 1) := by decide +kernel
theorem dX6_cancel_196 : decode cX6_cancel 196 = .ok (.getfield 65, 3) := by decide +kernel
theorem dX6_cancel_199 : decode cX6_cancel 199 = .ok (.iload 4, 2) := by decide +kernel
theorem dX6_cancel_201 : decode cX6_cancel 201 = .ok (.iaload, 1) := by decide +kernel
theorem dX6_cancel_202 : decode cX6_cancel 202 = .ok (.ifCond .ne 11, 3) := by decide +kernel
theorem dX6_cancel_205 : decode cX6_cancel 205 = .ok (.aload_n 0, 1) := by decide +kernel
theorem dX6_cancel_206 : decode cX6_cancel 206 = .ok (.iload_n 3, 1) := by decide +kernel
theorem dX6_cancel_207 : decode cX6_cancel 207 = .ok (.invokevirtual 121, 3) := by decide +kernel
theorem dX6_cancel_210 : decode cX6_cancel 210 = .ok (.goto 25, 3) := by decide +kernel
theorem dX6_cancel_213 : decode cX6_cancel 213 = .ok (.aload_n 0, 1) := by decide +kernel
theorem dX6_cancel_214 : decode cX6_cancel 214 = .ok (.getfield 19, 3) := by decide +kernel
theorem dX6_cancel_217 : decode cX6_cancel 217 = .ok (.aload_n 0, 1) := by decide +kernel
theorem dX6_cancel_218 : decode cX6_cancel 218 = .ok (.getfield 74, 3) := by decide +kernel
theorem dX6_cancel_221 : decode cX6_cancel 221 = .ok (.iload 5, 2) := by decide +kernel
theorem dX6_cancel_223 : decode cX6_cancel 223 = .ok (.iaload, 1) := by decide +kernel
theorem dX6_cancel_224 : decode cX6_cancel 224 = .ok (.aload_n 0, 1) := by decide +kernel
theorem dX6_cancel_225 : decode cX6_cancel 225 = .ok (.getfield 80, 3) := by decide +kernel
theorem dX6_cancel_228 : decode cX6_cancel 228 = .ok (.iload 5, 2) := by decide +kernel
theorem dX6_cancel_230 : decode cX6_cancel 230 = .ok (.iaload, 1) := by decide +kernel
theorem dX6_cancel_231 : decode cX6_cancel 231 = .ok (.invokestatic 113, 3) := by decide +kernel
theorem dX6_cancel_234 : decode cX6_cancel 234 = .ok (.iaload, 1) := by decide +kernel
theorem dX6_cancel_235 : decode cX6_cancel 235 = .ok (.istore 6, 2) := by decide +kernel
theorem dX6_cancel_237 : decode cX6_cancel 237 = .ok (.aload_n 0, 1) := by decide +kernel
theorem dX6_cancel_238 : decode cX6_cancel 238 = .ok (.getfield 185, 3) := by decide +kernel
theorem dX6_cancel_241 : decode cX6_cancel 241 = .ok (.aload_n 0, 1) := by decide +kernel
theorem dX6_cancel_242 : decode cX6_cancel 242 = .ok (.iload 4, 2) := by decide +kernel
theorem dX6_cancel_244 : decode cX6_cancel 244 = .ok (.iload_n 3, 1) := by decide +kernel
theorem dX6_cancel_245 : decode cX6_cancel 245 = .ok (.invokevirtual 136, 3) := by decide +kernel
theorem dX6_cancel_248 : decode cX6_cancel 248 = .ok (.invokestatic 188, 3) := by decide +kernel
theorem dX6_cancel_251 : decode cX6_cancel 251 = .ok (.istore 7, 2) := by decide +kernel
theorem dX6_cancel_253 : decode cX6_cancel 253 = .ok (.aload_n 0, 1) := by decide +kernel
theorem dX6_cancel_254 : decode cX6_cancel 254 = .ok (.iload_n 3, 1) := by decide +kernel
theorem dX6_cancel_255 : decode cX6_cancel 255 = .ok (.iload 6, 2) := by decide +kernel
theorem dX6_cancel_257 : decode cX6_cancel 257 = .ok (.iload 7, 2) := by decide +kernel
theorem dX6_cancel_259 : decode cX6_cancel 259 = .ok (.invokevirtual 193, 3) := by decide +kernel
theorem dX6_cancel_262 : decode cX6_cancel 262 = .ok (.ifCond .eq 6, 3) := by decide +kernel
theorem dX6_cancel_265 : decode cX6_cancel 265 = .ok (.goto 21, 3) := by decide +kernel
theorem dX6_cancel_268 : decode cX6_cancel 268 = .ok (.aload_n 0, 1) := by decide +kernel
theorem dX6_cancel_269 : decode cX6_cancel 269 = .ok (.getfield 68, 3) := by decide +kernel
theorem dX6_cancel_272 : decode cX6_cancel 272 = .ok (.iload 4, 2) := by decide +kernel
theorem dX6_cancel_274 : decode cX6_cancel 274 = .ok (.iload 6, 2) := by decide +kernel
theorem dX6_cancel_276 : decode cX6_cancel 276 = .ok (.iastore, 1) := by decide +kernel
theorem dX6_cancel_277 : decode cX6_cancel 277 = .ok (.aload_n 0, 1) := by decide +kernel
theorem dX6_cancel_278 : decode cX6_cancel 278 = .ok (.getfield 71, 3) := by decide +kernel
theorem dX6_cancel_281 : decode cX6_cancel 281 = .ok (.iload 4, 2) := by decide +kernel
theorem dX6_cancel_283 : decode cX6_cancel 283 = .ok (.iload 7, 2) := by decide +kernel
theorem dX6_cancel_285 : decode cX6_cancel 285 = .ok (.iastore, 1) := by decide +kernel
theorem dX6_cancel_286 : decode cX6_cancel 286 = .ok (.iinc 3 1, 3) := by decide +kernel
theorem dX6_cancel_289 : decode cX6_cancel 289 = .ok (.goto (-137), 3) := by decide +kernel
theorem dX6_cancel_292 : decode cX6_cancel 292 = .ok (.iload_n 2, 1) := by decide +kernel
theorem dX6_cancel_293 : decode cX6_cancel 293 = .ok (.ireturn, 1) := by decide +kernel
theorem dX6_empty_0 : decode cX6_empty 0 = .ok (.aload_n 0, 1) := by decide +kernel
theorem dX6_empty_1 : decode cX6_empty 1 = .ok (.iconst 0, 1) := by decide +kernel
theorem dX6_empty_2 : decode cX6_empty 2 = .ok (.putfield 92, 3) := by decide +kernel
theorem dX6_empty_5 : decode cX6_empty 5 = .ok (.aload_n 0, 1) := by decide +kernel
theorem dX6_empty_6 : decode cX6_empty 6 = .ok (.iload_n 1, 1) := by decide +kernel
theorem dX6_empty_7 : decode cX6_empty 7 = .ok (.invokevirtual 199, 3) := by decide +kernel
theorem dX6_empty_10 : decode cX6_empty 10 = .ok (.ifCond .ne 10, 3) := by decide +kernel
theorem dX6_empty_13 : decode cX6_empty 13 = .ok (.aload_n 0, 1) := by decide +kernel
theorem dX6_empty_14 : decode cX6_empty 14 = .ok (.invokevirtual 109, 3) := by decide +kernel
theorem dX6_empty_17 : decode cX6_empty 17 = .ok (.pop, 1) := by decide +kernel
theorem dX6_empty_18 : decode cX6_empty 18 = .ok (.iconst 0, 1) := by decide +kernel
theorem dX6_empty_19 : decode cX6_empty 19 = .ok (.ireturn, 1) := by decide +kernel
theorem dX6_empty_20 : decode cX6_empty 20 = .ok (.aload_n 0, 1) := by decide +kernel
theorem dX6_empty_21 : decode cX6_empty 21 = .ok (.getfield 56, 3) := by decide +kernel
theorem dX6_empty_24 : decode cX6_empty 24 = .ok (.iload_n 1, 1) := by decide +kernel
theorem dX6_empty_25 : decode cX6_empty 25 = .ok (.baload, 1) := by decide +kernel
theorem dX6_empty_26 : decode cX6_empty 26 = .ok (.ifCond .ne 39, 3) := by decide +kernel
theorem dX6_empty_29 : decode cX6_empty 29 = .ok (.aload_n 0, 1) := by decide +kernel
theorem dX6_empty_30 : decode cX6_empty 30 = .ok (.iload_n 1, 1) := by decide +kernel
theorem dX6_empty_31 : decode cX6_empty 31 = .ok (.invokevirtual 202, 3) := by decide +kernel
theorem dX6_empty_34 : decode cX6_empty 34 = .ok (.iconst (-1), 1) := by decide +kernel
theorem dX6_empty_35 : decode cX6_empty 35 = .ok (.if_icmp .eq 30, 3) := by decide +kernel
theorem dX6_empty_38 : decode cX6_empty 38 = .ok (.aload_n 0, 1) := by decide +kernel
theorem dX6_empty_39 : decode cX6_empty 39 = .ok (.iload_n 1, 1) := by decide +kernel
theorem dX6_empty_40 : decode cX6_empty 40 = .ok (.invokevirtual 202, 3) := by decide +kernel
theorem dX6_empty_43 : decode cX6_empty 43 = .ok (.aload_n 0, 1) := by decide +kernel
theorem dX6_empty_44 : decode cX6_empty 44 = .ok (.getfield 185, 3) := by decide +kernel
theorem dX6_empty_47 : decode cX6_empty 47 = .ok (.if_icmp .gt 18, 3) := by decide +kernel
theorem dX6_empty_50 : decode cX6_empty 50 = .ok (.iload_n 2, 1) := by decide +kernel
theorem dX6_empty_51 : decode cX6_empty 51 = .ok (.aload_n 0, 1) := by decide +kernel
theorem dX6_empty_52 : decode cX6_empty 52 = .ok (.getfield 185, 3) := by decide +kernel
theorem dX6_empty_55 : decode cX6_empty 55 = .ok (.if_icmp .lt 10, 3) := by decide +kernel
theorem dX6_empty_58 : decode cX6_empty 58 = .ok (.iload_n 2, 1) := by decide +kernel
theorem dX6_empty_59 : decode cX6_empty 59 = .ok (.sipush 1439, 3) := by decide +kernel
theorem dX6_empty_62 : decode cX6_empty 62 = .ok (.if_icmp .le 5, 3) := by decide +kernel
theorem dX6_empty_65 : decode cX6_empty 65 = .ok (.iconst 0, 1) := by decide +kernel
theorem dX6_empty_66 : decode cX6_empty 66 = .ok (.ireturn, 1) := by decide +kernel
theorem dX6_empty_67 : decode cX6_empty 67 = .ok (.aload_n 0, 1) := by decide +kernel
theorem dX6_empty_68 : decode cX6_empty 68 = .ok (.getfield 56, 3) := by decide +kernel
theorem dX6_empty_71 : decode cX6_empty 71 = .ok (.iload_n 1, 1) := by decide +kernel
theorem dX6_empty_72 : decode cX6_empty 72 = .ok (.iconst 1, 1) := by decide +kernel
theorem dX6_empty_73 : decode cX6_empty 73 = .ok (.bastore, 1) := by decide +kernel
theorem dX6_empty_74 : decode cX6_empty 74 = .ok (.aload_n 0, 1) := by decide +kernel
theorem dX6_empty_75 : decode cX6_empty 75 = .ok (.getfield 53, 3) := by decide +kernel
theorem dX6_empty_78 : decode cX6_empty 78 = .ok (.iload_n 1, 1) := by decide +kernel
theorem dX6_empty_79 : decode cX6_empty 79 = .ok (.iload_n 2, 1) := by decide +kernel
theorem dX6_empty_80 : decode cX6_empty 80 = .ok (.iastore, 1) := by decide +kernel
theorem dX6_empty_81 : decode cX6_empty 81 = .ok (.iconst 1, 1) := by decide +kernel
theorem dX6_empty_82 : decode cX6_empty 82 = .ok (.ireturn, 1) := by decide +kernel
theorem dX6_isGone_0 : decode cX6_isGone 0 = .ok (.aload_n 0, 1) := by decide +kernel
theorem dX6_isGone_1 : decode cX6_isGone 1 = .ok (.iload_n 1, 1) := by decide +kernel
theorem dX6_isGone_2 : decode cX6_isGone 2 = .ok (.invokevirtual 117, 3) := by decide +kernel
theorem dX6_isGone_5 : decode cX6_isGone 5 = .ok (.aload_n 0, 1) := by decide +kernel
theorem dX6_isGone_6 : decode cX6_isGone 6 = .ok (.getfield 185, 3) := by decide +kernel
theorem dX6_isGone_9 : decode cX6_isGone 9 = .ok (.if_icmp .gt 20, 3) := by decide +kernel
theorem dX6_isGone_12 : decode cX6_isGone 12 = .ok (.aload_n 0, 1) := by decide +kernel
theorem dX6_isGone_13 : decode cX6_isGone 13 = .ok (.getfield 59, 3) := by decide +kernel
theorem dX6_isGone_16 : decode cX6_isGone 16 = .ok (.aload_n 0, 1) := by decide +kernel
theorem dX6_isGone_17 : decode cX6_isGone 17 = .ok (.iload_n 1, 1) := by decide +kernel
theorem dX6_isGone_18 : decode cX6_isGone 18 = .ok (.invokevirtual 133, 3) := by decide +kernel
theorem dX6_isGone_21 : decode cX6_isGone 21 = .ok (.baload, 1) := by decide +kernel
theorem dX6_isGone_22 : decode cX6_isGone 22 = .ok (.ifCond .eq 7, 3) := by decide +kernel
theorem dX6_isGone_25 : decode cX6_isGone 25 = .ok (.iconst 1, 1) := by decide +kernel
theorem dX6_isGone_26 : decode cX6_isGone 26 = .ok (.goto 4, 3) := by decide +kernel
theorem dX6_isGone_29 : decode cX6_isGone 29 = .ok (.iconst 0, 1) := by decide +kernel
theorem dX6_isGone_30 : decode cX6_isGone 30 = .ok (.ireturn, 1) := by decide +kernel
theorem dX6_isLate_0 : decode cX6_isLate 0 = .ok (.aload_n 0, 1) := by decide +kernel
theorem dX6_isLate_1 : decode cX6_isLate 1 = .ok (.iload_n 1, 1) := by decide +kernel
theorem dX6_isLate_2 : decode cX6_isLate 2 = .ok (.invokevirtual 202, 3) := by decide +kernel
theorem dX6_isLate_5 : decode cX6_isLate 5 = .ok (.aload_n 0, 1) := by decide +kernel
theorem dX6_isLate_6 : decode cX6_isLate 6 = .ok (.getfield 56, 3) := by decide +kernel
theorem dX6_isLate_9 : decode cX6_isLate 9 = .ok (.iload_n 1, 1) := by decide +kernel
theorem dX6_isLate_10 : decode cX6_isLate 10 = .ok (.baload, 1) := by decide +kernel
theorem dX6_isLate_11 : decode cX6_isLate 11 = .ok (.ifCond .eq 9, 3) := by decide +kernel
theorem dX6_isLate_14 : decode cX6_isLate 14 = .ok (.sipush 1439, 3) := by decide +kernel
theorem dX6_isLate_17 : decode cX6_isLate 17 = .ok (.goto 9, 3) := by decide +kernel
theorem dX6_isLate_20 : decode cX6_isLate 20 = .ok (.aload_n 0, 1) := by decide +kernel
theorem dX6_isLate_21 : decode cX6_isLate 21 = .ok (.getfield 50, 3) := by decide +kernel
theorem dX6_isLate_24 : decode cX6_isLate 24 = .ok (.iload_n 1, 1) := by decide +kernel
theorem dX6_isLate_25 : decode cX6_isLate 25 = .ok (.iaload, 1) := by decide +kernel
theorem dX6_isLate_26 : decode cX6_isLate 26 = .ok (.if_icmp .le 7, 3) := by decide +kernel
theorem dX6_isLate_29 : decode cX6_isLate 29 = .ok (.iconst 1, 1) := by decide +kernel
theorem dX6_isLate_30 : decode cX6_isLate 30 = .ok (.goto 4, 3) := by decide +kernel
theorem dX6_isLate_33 : decode cX6_isLate 33 = .ok (.iconst 0, 1) := by decide +kernel
theorem dX6_isLate_34 : decode cX6_isLate 34 = .ok (.ireturn, 1) := by decide +kernel
theorem dX6_of_0 : decode cX6_of 0 = .ok (.aload_n 0, 1) := by decide +kernel
theorem dX6_of_1 : decode cX6_of 1 = .ok (.iconst 0, 1) := by decide +kernel
theorem dX6_of_2 : decode cX6_of 2 = .ok (.putfield 92, 3) := by decide +kernel
theorem dX6_of_5 : decode cX6_of 5 = .ok (.aload_n 0, 1) := by decide +kernel
theorem dX6_of_6 : decode cX6_of 6 = .ok (.iload_n 1, 1) := by decide +kernel
theorem dX6_of_7 : decode cX6_of 7 = .ok (.invokevirtual 199, 3) := by decide +kernel
theorem dX6_of_10 : decode cX6_of 10 = .ok (.ifCond .ne 8, 3) := by decide +kernel
theorem dX6_of_13 : decode cX6_of 13 = .ok (.aload_n 0, 1) := by decide +kernel
theorem dX6_of_14 : decode cX6_of 14 = .ok (.invokevirtual 109, 3) := by decide +kernel
theorem dX6_of_17 : decode cX6_of 17 = .ok (.ireturn, 1) := by decide +kernel
theorem dX6_of_18 : decode cX6_of 18 = .ok (.aload_n 0, 1) := by decide +kernel
theorem dX6_of_19 : decode cX6_of 19 = .ok (.iload_n 1, 1) := by decide +kernel
theorem dX6_of_20 : decode cX6_of 20 = .ok (.invokevirtual 133, 3) := by decide +kernel
theorem dX6_of_23 : decode cX6_of 23 = .ok (.istore_n 3, 1) := by decide +kernel
theorem dX6_of_24 : decode cX6_of 24 = .ok (.iload_n 2, 1) := by decide +kernel
theorem dX6_of_25 : decode cX6_of 25 = .ok (.tableswitch 127 0 6 #[43, 50, 56, 70, 84, 91, 112], 43) := by decide +kernel
theorem dX6_of_68 : decode cX6_of 68 = .ok (.aload_n 0, 1) := by decide +kernel
theorem dX6_of_69 : decode cX6_of 69 = .ok (.getfield 65, 3) := by decide +kernel
theorem dX6_of_72 : decode cX6_of 72 = .ok (.iload_n 3, 1) := by decide +kernel
theorem dX6_of_73 : decode cX6_of 73 = .ok (.iaload, 1) := by decide +kernel
theorem dX6_of_74 : decode cX6_of 74 = .ok (.ireturn, 1) := by decide +kernel
theorem dX6_of_75 : decode cX6_of 75 = .ok (.aload_n 0, 1) := by decide +kernel
theorem dX6_of_76 : decode cX6_of 76 = .ok (.iload_n 1, 1) := by decide +kernel
theorem dX6_of_77 : decode cX6_of 77 = .ok (.invokevirtual 202, 3) := by decide +kernel
theorem dX6_of_80 : decode cX6_of 80 = .ok (.ireturn, 1) := by decide +kernel
theorem dX6_of_81 : decode cX6_of 81 = .ok (.aload_n 0, 1) := by decide +kernel
theorem dX6_of_82 : decode cX6_of 82 = .ok (.iload_n 1, 1) := by decide +kernel
theorem dX6_of_83 : decode cX6_of 83 = .ok (.invokevirtual 205, 3) := by decide +kernel
theorem dX6_of_86 : decode cX6_of 86 = .ok (.ifCond .eq 7, 3) := by decide +kernel
theorem dX6_of_89 : decode cX6_of 89 = .ok (.iconst 1, 1) := by decide +kernel
theorem dX6_of_90 : decode cX6_of 90 = .ok (.goto 4, 3) := by decide +kernel
theorem dX6_of_93 : decode cX6_of 93 = .ok (.iconst 0, 1) := by decide +kernel
theorem dX6_of_94 : decode cX6_of 94 = .ok (.ireturn, 1) := by decide +kernel
theorem dX6_of_95 : decode cX6_of 95 = .ok (.aload_n 0, 1) := by decide +kernel
theorem dX6_of_96 : decode cX6_of 96 = .ok (.iload_n 1, 1) := by decide +kernel
theorem dX6_of_97 : decode cX6_of 97 = .ok (.invokevirtual 208, 3) := by decide +kernel
theorem dX6_of_100 : decode cX6_of 100 = .ok (.ifCond .eq 7, 3) := by decide +kernel
theorem dX6_of_103 : decode cX6_of 103 = .ok (.iconst 1, 1) := by decide +kernel
theorem dX6_of_104 : decode cX6_of 104 = .ok (.goto 4, 3) := by decide +kernel
theorem dX6_of_107 : decode cX6_of 107 = .ok (.iconst 0, 1) := by decide +kernel
theorem dX6_of_108 : decode cX6_of 108 = .ok (.ireturn, 1) := by decide +kernel
theorem dX6_of_109 : decode cX6_of 109 = .ok (.aload_n 0, 1) := by decide +kernel
theorem dX6_of_110 : decode cX6_of 110 = .ok (.getfield 68, 3) := by decide +kernel
theorem dX6_of_113 : decode cX6_of 113 = .ok (.iload_n 3, 1) := by decide +kernel
theorem dX6_of_114 : decode cX6_of 114 = .ok (.iaload, 1) := by decide +kernel
theorem dX6_of_115 : decode cX6_of 115 = .ok (.ireturn, 1) := by decide +kernel
theorem dX6_of_116 : decode cX6_of 116 = .ok (.aload_n 0, 1) := by decide +kernel
theorem dX6_of_117 : decode cX6_of 117 = .ok (.getfield 68, 3) := by decide +kernel
theorem dX6_of_120 : decode cX6_of 120 = .ok (.iload_n 3, 1) := by decide +kernel
theorem dX6_of_121 : decode cX6_of 121 = .ok (.iaload, 1) := by decide +kernel
theorem dX6_of_122 : decode cX6_of 122 = .ok (.iconst (-1), 1) := by decide +kernel
theorem dX6_of_123 : decode cX6_of 123 = .ok (.if_icmp .ne 7, 3) := by decide +kernel
theorem dX6_of_126 : decode cX6_of 126 = .ok (.iconst (-1), 1) := by decide +kernel
theorem dX6_of_127 : decode cX6_of 127 = .ok (.goto 9, 3) := by decide +kernel
theorem dX6_of_130 : decode cX6_of 130 = .ok (.aload_n 0, 1) := by decide +kernel
theorem dX6_of_131 : decode cX6_of 131 = .ok (.getfield 71, 3) := by decide +kernel
theorem dX6_of_134 : decode cX6_of 134 = .ok (.iload_n 3, 1) := by decide +kernel
theorem dX6_of_135 : decode cX6_of 135 = .ok (.iaload, 1) := by decide +kernel
theorem dX6_of_136 : decode cX6_of 136 = .ok (.ireturn, 1) := by decide +kernel
theorem dX6_of_137 : decode cX6_of 137 = .ok (.aload_n 0, 1) := by decide +kernel
theorem dX6_of_138 : decode cX6_of 138 = .ok (.getfield 56, 3) := by decide +kernel
theorem dX6_of_141 : decode cX6_of 141 = .ok (.iload_n 1, 1) := by decide +kernel
theorem dX6_of_142 : decode cX6_of 142 = .ok (.baload, 1) := by decide +kernel
theorem dX6_of_143 : decode cX6_of 143 = .ok (.ifCond .eq 7, 3) := by decide +kernel
theorem dX6_of_146 : decode cX6_of 146 = .ok (.iconst 1, 1) := by decide +kernel
theorem dX6_of_147 : decode cX6_of 147 = .ok (.goto 4, 3) := by decide +kernel
theorem dX6_of_150 : decode cX6_of 150 = .ok (.iconst 0, 1) := by decide +kernel
theorem dX6_of_151 : decode cX6_of 151 = .ok (.ireturn, 1) := by decide +kernel
theorem dX6_of_152 : decode cX6_of 152 = .ok (.aload_n 0, 1) := by decide +kernel
theorem dX6_of_153 : decode cX6_of 153 = .ok (.invokevirtual 109, 3) := by decide +kernel
theorem dX6_of_156 : decode cX6_of 156 = .ok (.ireturn, 1) := by decide +kernel
theorem dX6_leg_0 : decode cX6_leg 0 = .ok (.aload_n 0, 1) := by decide +kernel
theorem dX6_leg_1 : decode cX6_leg 1 = .ok (.iconst 0, 1) := by decide +kernel
theorem dX6_leg_2 : decode cX6_leg 2 = .ok (.putfield 92, 3) := by decide +kernel
theorem dX6_leg_5 : decode cX6_leg 5 = .ok (.aload_n 0, 1) := by decide +kernel
theorem dX6_leg_6 : decode cX6_leg 6 = .ok (.iload_n 1, 1) := by decide +kernel
theorem dX6_leg_7 : decode cX6_leg 7 = .ok (.invokevirtual 199, 3) := by decide +kernel
theorem dX6_leg_10 : decode cX6_leg 10 = .ok (.ifCond .eq 39, 3) := by decide +kernel
theorem dX6_leg_13 : decode cX6_leg 13 = .ok (.iload_n 2, 1) := by decide +kernel
theorem dX6_leg_14 : decode cX6_leg 14 = .ok (.ifCond .lt 35, 3) := by decide +kernel
theorem dX6_leg_17 : decode cX6_leg 17 = .ok (.iload_n 2, 1) := by decide +kernel
theorem dX6_leg_18 : decode cX6_leg 18 = .ok (.aload_n 0, 1) := by decide +kernel
theorem dX6_leg_19 : decode cX6_leg 19 = .ok (.getfield 65, 3) := by decide +kernel
theorem dX6_leg_22 : decode cX6_leg 22 = .ok (.iconst 2, 1) := by decide +kernel
theorem dX6_leg_23 : decode cX6_leg 23 = .ok (.iload_n 1, 1) := by decide +kernel
theorem dX6_leg_24 : decode cX6_leg 24 = .ok (.imul, 1) := by decide +kernel
theorem dX6_leg_25 : decode cX6_leg 25 = .ok (.iaload, 1) := by decide +kernel
theorem dX6_leg_26 : decode cX6_leg 26 = .ok (.aload_n 0, 1) := by decide +kernel
theorem dX6_leg_27 : decode cX6_leg 27 = .ok (.getfield 65, 3) := by decide +kernel
theorem dX6_leg_30 : decode cX6_leg 30 = .ok (.iconst 2, 1) := by decide +kernel
theorem dX6_leg_31 : decode cX6_leg 31 = .ok (.iload_n 1, 1) := by decide +kernel
theorem dX6_leg_32 : decode cX6_leg 32 = .ok (.imul, 1) := by decide +kernel
theorem dX6_leg_33 : decode cX6_leg 33 = .ok (.iconst 1, 1) := by decide +kernel
theorem dX6_leg_34 : decode cX6_leg 34 = .ok (.iadd, 1) := by decide +kernel
theorem dX6_leg_35 : decode cX6_leg 35 = .ok (.iaload, 1) := by decide +kernel
theorem dX6_leg_36 : decode cX6_leg 36 = .ok (.iadd, 1) := by decide +kernel
theorem dX6_leg_37 : decode cX6_leg 37 = .ok (.if_icmp .ge 12, 3) := by decide +kernel
theorem dX6_leg_40 : decode cX6_leg 40 = .ok (.iload_n 3, 1) := by decide +kernel
theorem dX6_leg_41 : decode cX6_leg 41 = .ok (.ifCond .lt 8, 3) := by decide +kernel
theorem dX6_leg_44 : decode cX6_leg 44 = .ok (.iload_n 3, 1) := by decide +kernel
theorem dX6_leg_45 : decode cX6_leg 45 = .ok (.iconst 2, 1) := by decide +kernel
theorem dX6_leg_46 : decode cX6_leg 46 = .ok (.if_icmp .le 8, 3) := by decide +kernel
theorem dX6_leg_49 : decode cX6_leg 49 = .ok (.aload_n 0, 1) := by decide +kernel
theorem dX6_leg_50 : decode cX6_leg 50 = .ok (.invokevirtual 109, 3) := by decide +kernel
theorem dX6_leg_53 : decode cX6_leg 53 = .ok (.ireturn, 1) := by decide +kernel
theorem dX6_leg_54 : decode cX6_leg 54 = .ok (.iload_n 2, 1) := by decide +kernel
theorem dX6_leg_55 : decode cX6_leg 55 = .ok (.aload_n 0, 1) := by decide +kernel
theorem dX6_leg_56 : decode cX6_leg 56 = .ok (.getfield 65, 3) := by decide +kernel
theorem dX6_leg_59 : decode cX6_leg 59 = .ok (.iconst 2, 1) := by decide +kernel
theorem dX6_leg_60 : decode cX6_leg 60 = .ok (.iload_n 1, 1) := by decide +kernel
theorem dX6_leg_61 : decode cX6_leg 61 = .ok (.imul, 1) := by decide +kernel
theorem dX6_leg_62 : decode cX6_leg 62 = .ok (.iaload, 1) := by decide +kernel
theorem dX6_leg_63 : decode cX6_leg 63 = .ok (.if_icmp .ge 13, 3) := by decide +kernel
theorem dX6_leg_66 : decode cX6_leg 66 = .ok (.iconst 2, 1) := by decide +kernel
theorem dX6_leg_67 : decode cX6_leg 67 = .ok (.iload_n 1, 1) := by decide +kernel
theorem dX6_leg_68 : decode cX6_leg 68 = .ok (.imul, 1) := by decide +kernel
theorem dX6_leg_69 : decode cX6_leg 69 = .ok (.iload_n 2, 1) := by decide +kernel
theorem dX6_leg_70 : decode cX6_leg 70 = .ok (.invokestatic 127, 3) := by decide +kernel
theorem dX6_leg_73 : decode cX6_leg 73 = .ok (.goto 21, 3) := by decide +kernel
theorem dX6_leg_76 : decode cX6_leg 76 = .ok (.iconst 2, 1) := by decide +kernel
theorem dX6_leg_77 : decode cX6_leg 77 = .ok (.iload_n 1, 1) := by decide +kernel
theorem dX6_leg_78 : decode cX6_leg 78 = .ok (.imul, 1) := by decide +kernel
theorem dX6_leg_79 : decode cX6_leg 79 = .ok (.iconst 1, 1) := by decide +kernel
theorem dX6_leg_80 : decode cX6_leg 80 = .ok (.iadd, 1) := by decide +kernel
theorem dX6_leg_81 : decode cX6_leg 81 = .ok (.iload_n 2, 1) := by decide +kernel
theorem dX6_leg_82 : decode cX6_leg 82 = .ok (.aload_n 0, 1) := by decide +kernel
theorem dX6_leg_83 : decode cX6_leg 83 = .ok (.getfield 65, 3) := by decide +kernel
theorem dX6_leg_86 : decode cX6_leg 86 = .ok (.iconst 2, 1) := by decide +kernel
theorem dX6_leg_87 : decode cX6_leg 87 = .ok (.iload_n 1, 1) := by decide +kernel
theorem dX6_leg_88 : decode cX6_leg 88 = .ok (.imul, 1) := by decide +kernel
theorem dX6_leg_89 : decode cX6_leg 89 = .ok (.iaload, 1) := by decide +kernel
theorem dX6_leg_90 : decode cX6_leg 90 = .ok (.isub, 1) := by decide +kernel
theorem dX6_leg_91 : decode cX6_leg 91 = .ok (.invokestatic 127, 3) := by decide +kernel
theorem dX6_leg_94 : decode cX6_leg 94 = .ok (.istore 4, 2) := by decide +kernel
theorem dX6_leg_96 : decode cX6_leg 96 = .ok (.iload_n 3, 1) := by decide +kernel
theorem dX6_leg_97 : decode cX6_leg 97 = .ok (.ifCond .ne 13, 3) := by decide +kernel
theorem dX6_leg_100 : decode cX6_leg 100 = .ok (.aload_n 0, 1) := by decide +kernel
theorem dX6_leg_101 : decode cX6_leg 101 = .ok (.getfield 74, 3) := by decide +kernel
theorem dX6_leg_104 : decode cX6_leg 104 = .ok (.iload 4, 2) := by decide +kernel
theorem dX6_leg_106 : decode cX6_leg 106 = .ok (.iaload, 1) := by decide +kernel
theorem dX6_leg_107 : decode cX6_leg 107 = .ok (.goto 25, 3) := by decide +kernel
theorem dX6_leg_110 : decode cX6_leg 110 = .ok (.iload_n 3, 1) := by decide +kernel
theorem dX6_leg_111 : decode cX6_leg 111 = .ok (.iconst 1, 1) := by decide +kernel
theorem dX6_leg_112 : decode cX6_leg 112 = .ok (.if_icmp .ne 13, 3) := by decide +kernel
theorem dX6_leg_115 : decode cX6_leg 115 = .ok (.aload_n 0, 1) := by decide +kernel
theorem dX6_leg_116 : decode cX6_leg 116 = .ok (.getfield 77, 3) := by decide +kernel
theorem dX6_leg_119 : decode cX6_leg 119 = .ok (.iload 4, 2) := by decide +kernel
theorem dX6_leg_121 : decode cX6_leg 121 = .ok (.iaload, 1) := by decide +kernel
theorem dX6_leg_122 : decode cX6_leg 122 = .ok (.goto 10, 3) := by decide +kernel
theorem dX6_leg_125 : decode cX6_leg 125 = .ok (.aload_n 0, 1) := by decide +kernel
theorem dX6_leg_126 : decode cX6_leg 126 = .ok (.getfield 80, 3) := by decide +kernel
theorem dX6_leg_129 : decode cX6_leg 129 = .ok (.iload 4, 2) := by decide +kernel
theorem dX6_leg_131 : decode cX6_leg 131 = .ok (.iaload, 1) := by decide +kernel
theorem dX6_leg_132 : decode cX6_leg 132 = .ok (.ireturn, 1) := by decide +kernel
theorem dX6_load_0 : decode cX6_load 0 = .ok (.aload_n 0, 1) := by decide +kernel
theorem dX6_load_1 : decode cX6_load 1 = .ok (.iconst 0, 1) := by decide +kernel
theorem dX6_load_2 : decode cX6_load 2 = .ok (.putfield 92, 3) := by decide +kernel
theorem dX6_load_5 : decode cX6_load 5 = .ok (.aload_n 0, 1) := by decide +kernel
theorem dX6_load_6 : decode cX6_load 6 = .ok (.iload_n 1, 1) := by decide +kernel
theorem dX6_load_7 : decode cX6_load 7 = .ok (.invokevirtual 105, 3) := by decide +kernel
theorem dX6_load_10 : decode cX6_load 10 = .ok (.ifCond .eq 32, 3) := by decide +kernel
theorem dX6_load_13 : decode cX6_load 13 = .ok (.iload_n 2, 1) := by decide +kernel
theorem dX6_load_14 : decode cX6_load 14 = .ok (.ifCond .lt 28, 3) := by decide +kernel
theorem dX6_load_17 : decode cX6_load 17 = .ok (.iload_n 2, 1) := by decide +kernel
theorem dX6_load_18 : decode cX6_load 18 = .ok (.aload_n 0, 1) := by decide +kernel
theorem dX6_load_19 : decode cX6_load 19 = .ok (.getfield 16, 3) := by decide +kernel
theorem dX6_load_22 : decode cX6_load 22 = .ok (.iload_n 1, 1) := by decide +kernel
theorem dX6_load_23 : decode cX6_load 23 = .ok (.iaload, 1) := by decide +kernel
theorem dX6_load_24 : decode cX6_load 24 = .ok (.iconst 1, 1) := by decide +kernel
theorem dX6_load_25 : decode cX6_load 25 = .ok (.isub, 1) := by decide +kernel
theorem dX6_load_26 : decode cX6_load 26 = .ok (.if_icmp .ge 16, 3) := by decide +kernel
theorem dX6_load_29 : decode cX6_load 29 = .ok (.aload_n 0, 1) := by decide +kernel
theorem dX6_load_30 : decode cX6_load 30 = .ok (.getfield 25, 3) := by decide +kernel
theorem dX6_load_33 : decode cX6_load 33 = .ok (.iload_n 1, 1) := by decide +kernel
theorem dX6_load_34 : decode cX6_load 34 = .ok (.iload_n 2, 1) := by decide +kernel
theorem dX6_load_35 : decode cX6_load 35 = .ok (.invokestatic 113, 3) := by decide +kernel
theorem dX6_load_38 : decode cX6_load 38 = .ok (.iaload, 1) := by decide +kernel
theorem dX6_load_39 : decode cX6_load 39 = .ok (.goto 7, 3) := by decide +kernel
theorem dX6_load_42 : decode cX6_load 42 = .ok (.aload_n 0, 1) := by decide +kernel
theorem dX6_load_43 : decode cX6_load 43 = .ok (.invokevirtual 109, 3) := by decide +kernel
theorem dX6_load_46 : decode cX6_load 46 = .ok (.ireturn, 1) := by decide +kernel
theorem dX6_where_0 : decode cX6_where 0 = .ok (.aload_n 0, 1) := by decide +kernel
theorem dX6_where_1 : decode cX6_where 1 = .ok (.iconst 0, 1) := by decide +kernel
theorem dX6_where_2 : decode cX6_where 2 = .ok (.putfield 92, 3) := by decide +kernel
theorem dX6_where_5 : decode cX6_where 5 = .ok (.aload_n 0, 1) := by decide +kernel
theorem dX6_where_6 : decode cX6_where 6 = .ok (.iload_n 1, 1) := by decide +kernel
theorem dX6_where_7 : decode cX6_where 7 = .ok (.invokevirtual 199, 3) := by decide +kernel
theorem dX6_where_10 : decode cX6_where 10 = .ok (.ifCond .ne 8, 3) := by decide +kernel
theorem dX6_where_13 : decode cX6_where 13 = .ok (.aload_n 0, 1) := by decide +kernel
theorem dX6_where_14 : decode cX6_where 14 = .ok (.invokevirtual 109, 3) := by decide +kernel
theorem dX6_where_17 : decode cX6_where 17 = .ok (.ireturn, 1) := by decide +kernel
theorem dX6_where_18 : decode cX6_where 18 = .ok (.aload_n 0, 1) := by decide +kernel
theorem dX6_where_19 : decode cX6_where 19 = .ok (.iload_n 1, 1) := by decide +kernel
theorem dX6_where_20 : decode cX6_where 20 = .ok (.invokevirtual 205, 3) := by decide +kernel
theorem dX6_where_23 : decode cX6_where 23 = .ok (.ifCond .ne 5, 3) := by decide +kernel
theorem dX6_where_26 : decode cX6_where 26 = .ok (.iconst 0, 1) := by decide +kernel
theorem dX6_where_27 : decode cX6_where 27 = .ok (.ireturn, 1) := by decide +kernel
theorem dX6_where_28 : decode cX6_where 28 = .ok (.aload_n 0, 1) := by decide +kernel
theorem dX6_where_29 : decode cX6_where 29 = .ok (.iload_n 1, 1) := by decide +kernel
theorem dX6_where_30 : decode cX6_where 30 = .ok (.invokevirtual 133, 3) := by decide +kernel
theorem dX6_where_33 : decode cX6_where 33 = .ok (.istore_n 2, 1) := by decide +kernel
theorem dX6_where_34 : decode cX6_where 34 = .ok (.iconst 0, 1) := by decide +kernel
theorem dX6_where_35 : decode cX6_where 35 = .ok (.istore_n 3, 1) := by decide +kernel
theorem dX6_where_36 : decode cX6_where 36 = .ok (.iload_n 3, 1) := by decide +kernel
theorem dX6_where_37 : decode cX6_where 37 = .ok (.aload_n 0, 1) := by decide +kernel
theorem dX6_where_38 : decode cX6_where 38 = .ok (.getfield 65, 3) := by decide +kernel
theorem dX6_where_41 : decode cX6_where 41 = .ok (.iload_n 2, 1) := by decide +kernel
theorem dX6_where_42 : decode cX6_where 42 = .ok (.iaload, 1) := by decide +kernel
theorem dX6_where_43 : decode cX6_where 43 = .ok (.if_icmp .ge 78, 3) := by decide +kernel
theorem dX6_where_46 : decode cX6_where 46 = .ok (.iload_n 2, 1) := by decide +kernel
theorem dX6_where_47 : decode cX6_where 47 = .ok (.iload_n 3, 1) := by decide +kernel
theorem dX6_where_48 : decode cX6_where 48 = .ok (.invokestatic 127, 3) := by decide +kernel
theorem dX6_where_51 : decode cX6_where 51 = .ok (.istore 4, 2) := by decide +kernel
theorem dX6_where_53 : decode cX6_where 53 = .ok (.aload_n 0, 1) := by decide +kernel
theorem dX6_where_54 : decode cX6_where 54 = .ok (.getfield 185, 3) := by decide +kernel
theorem dX6_where_57 : decode cX6_where 57 = .ok (.aload_n 0, 1) := by decide +kernel
theorem dX6_where_58 : decode cX6_where 58 = .ok (.getfield 22, 3) := by decide +kernel
theorem dX6_where_61 : decode cX6_where 61 = .ok (.aload_n 0, 1) := by decide +kernel
theorem dX6_where_62 : decode cX6_where 62 = .ok (.getfield 74, 3) := by decide +kernel
theorem dX6_where_65 : decode cX6_where 65 = .ok (.iload 4, 2) := by decide +kernel
theorem dX6_where_67 : decode cX6_where 67 = .ok (.iaload, 1) := by decide +kernel
theorem dX6_where_68 : decode cX6_where 68 = .ok (.aload_n 0, 1) := by decide +kernel
theorem dX6_where_69 : decode cX6_where 69 = .ok (.getfield 77, 3) := by decide +kernel
theorem dX6_where_72 : decode cX6_where 72 = .ok (.iload 4, 2) := by decide +kernel
theorem dX6_where_74 : decode cX6_where 74 = .ok (.iaload, 1) := by decide +kernel
theorem dX6_where_75 : decode cX6_where 75 = .ok (.invokestatic 113, 3) := by decide +kernel
theorem dX6_where_78 : decode cX6_where 78 = .ok (.iaload, 1) := by decide +kernel
theorem dX6_where_79 : decode cX6_where 79 = .ok (.if_icmp .ge 5, 3) := by decide +kernel
theorem dX6_where_82 : decode cX6_where 82 = .ok (.iconst 1, 1) := by decide +kernel
theorem dX6_where_83 : decode cX6_where 83 = .ok (.ireturn, 1) := by decide +kernel
theorem dX6_where_84 : decode cX6_where 84 = .ok (.aload_n 0, 1) := by decide +kernel
theorem dX6_where_85 : decode cX6_where 85 = .ok (.getfield 185, 3) := by decide +kernel
theorem dX6_where_88 : decode cX6_where 88 = .ok (.aload_n 0, 1) := by decide +kernel
theorem dX6_where_89 : decode cX6_where 89 = .ok (.getfield 22, 3) := by decide +kernel
theorem dX6_where_92 : decode cX6_where 92 = .ok (.aload_n 0, 1) := by decide +kernel
theorem dX6_where_93 : decode cX6_where 93 = .ok (.getfield 74, 3) := by decide +kernel
theorem dX6_where_96 : decode cX6_where 96 = .ok (.iload 4, 2) := by decide +kernel
theorem dX6_where_98 : decode cX6_where 98 = .ok (.iaload, 1) := by decide +kernel
theorem dX6_where_99 : decode cX6_where 99 = .ok (.aload_n 0, 1) := by decide +kernel
theorem dX6_where_100 : decode cX6_where 100 = .ok (.getfield 80, 3) := by decide +kernel
theorem dX6_where_103 : decode cX6_where 103 = .ok (.iload 4, 2) := by decide +kernel
theorem dX6_where_105 : decode cX6_where 105 = .ok (.iaload, 1) := by decide +kernel
theorem dX6_where_106 : decode cX6_where 106 = .ok (.invokestatic 113, 3) := by decide +kernel
theorem dX6_where_109 : decode cX6_where 109 = .ok (.iaload, 1) := by decide +kernel
theorem dX6_where_110 : decode cX6_where 110 = .ok (.if_icmp .ge 5, 3) := by decide +kernel
theorem dX6_where_113 : decode cX6_where 113 = .ok (.iconst 2, 1) := by decide +kernel
theorem dX6_where_114 : decode cX6_where 114 = .ok (.ireturn, 1) := by decide +kernel
theorem dX6_where_115 : decode cX6_where 115 = .ok (.iinc 3 1, 3) := by decide +kernel
theorem dX6_where_118 : decode cX6_where 118 = .ok (.goto (-82), 3) := by decide +kernel
theorem dX6_where_121 : decode cX6_where 121 = .ok (.aload_n 0, 1) := by decide +kernel
theorem dX6_where_122 : decode cX6_where 122 = .ok (.getfield 62, 3) := by decide +kernel
theorem dX6_where_125 : decode cX6_where 125 = .ok (.iload_n 2, 1) := by decide +kernel
theorem dX6_where_126 : decode cX6_where 126 = .ok (.baload, 1) := by decide +kernel
theorem dX6_where_127 : decode cX6_where 127 = .ok (.ifCond .eq 16, 3) := by decide +kernel
theorem dX6_where_130 : decode cX6_where 130 = .ok (.aload_n 0, 1) := by decide +kernel
theorem dX6_where_131 : decode cX6_where 131 = .ok (.getfield 185, 3) := by decide +kernel
theorem dX6_where_134 : decode cX6_where 134 = .ok (.aload_n 0, 1) := by decide +kernel
theorem dX6_where_135 : decode cX6_where 135 = .ok (.iload_n 2, 1) := by decide +kernel
theorem dX6_where_136 : decode cX6_where 136 = .ok (.iload_n 1, 1) := by decide +kernel
theorem dX6_where_137 : decode cX6_where 137 = .ok (.invokevirtual 136, 3) := by decide +kernel
theorem dX6_where_140 : decode cX6_where 140 = .ok (.if_icmp .ge 7, 3) := by decide +kernel
theorem dX6_where_143 : decode cX6_where 143 = .ok (.iconst 1, 1) := by decide +kernel
theorem dX6_where_144 : decode cX6_where 144 = .ok (.goto 20, 3) := by decide +kernel
theorem dX6_where_147 : decode cX6_where 147 = .ok (.aload_n 0, 1) := by decide +kernel
theorem dX6_where_148 : decode cX6_where 148 = .ok (.getfield 185, 3) := by decide +kernel
theorem dX6_where_151 : decode cX6_where 151 = .ok (.aload_n 0, 1) := by decide +kernel
theorem dX6_where_152 : decode cX6_where 152 = .ok (.iload_n 1, 1) := by decide +kernel
theorem dX6_where_153 : decode cX6_where 153 = .ok (.invokevirtual 202, 3) := by decide +kernel
theorem dX6_where_156 : decode cX6_where 156 = .ok (.if_icmp .ge 7, 3) := by decide +kernel
theorem dX6_where_159 : decode cX6_where 159 = .ok (.iconst 3, 1) := by decide +kernel
theorem dX6_where_160 : decode cX6_where 160 = .ok (.goto 4, 3) := by decide +kernel
theorem dX6_where_163 : decode cX6_where 163 = .ok (.iconst 4, 1) := by decide +kernel
theorem dX6_where_164 : decode cX6_where 164 = .ok (.ireturn, 1) := by decide +kernel
theorem dX6_isAlike_0 : decode cX6_isAlike 0 = .ok (.aload_n 0, 1) := by decide +kernel
theorem dX6_isAlike_1 : decode cX6_isAlike 1 = .ok (.getfield 65, 3) := by decide +kernel
theorem dX6_isAlike_4 : decode cX6_isAlike 4 = .ok (.iconst 2, 1) := by decide +kernel
theorem dX6_isAlike_5 : decode cX6_isAlike 5 = .ok (.iload_n 1, 1) := by decide +kernel
theorem dX6_isAlike_6 : decode cX6_isAlike 6 = .ok (.imul, 1) := by decide +kernel
theorem dX6_isAlike_7 : decode cX6_isAlike 7 = .ok (.iaload, 1) := by decide +kernel
theorem dX6_isAlike_8 : decode cX6_isAlike 8 = .ok (.aload_n 0, 1) := by decide +kernel
theorem dX6_isAlike_9 : decode cX6_isAlike 9 = .ok (.getfield 65, 3) := by decide +kernel
theorem dX6_isAlike_12 : decode cX6_isAlike 12 = .ok (.iconst 2, 1) := by decide +kernel
theorem dX6_isAlike_13 : decode cX6_isAlike 13 = .ok (.iload_n 2, 1) := by decide +kernel
theorem dX6_isAlike_14 : decode cX6_isAlike 14 = .ok (.imul, 1) := by decide +kernel
theorem dX6_isAlike_15 : decode cX6_isAlike 15 = .ok (.iaload, 1) := by decide +kernel
theorem dX6_isAlike_16 : decode cX6_isAlike 16 = .ok (.if_icmp .ne 7, 3) := by decide +kernel
theorem dX6_isAlike_19 : decode cX6_isAlike 19 = .ok (.iconst 1, 1) := by decide +kernel
theorem dX6_isAlike_20 : decode cX6_isAlike 20 = .ok (.goto 4, 3) := by decide +kernel
theorem dX6_isAlike_23 : decode cX6_isAlike 23 = .ok (.iconst 0, 1) := by decide +kernel
theorem dX6_isAlike_24 : decode cX6_isAlike 24 = .ok (.istore_n 3, 1) := by decide +kernel
theorem dX6_isAlike_25 : decode cX6_isAlike 25 = .ok (.iconst 0, 1) := by decide +kernel
theorem dX6_isAlike_26 : decode cX6_isAlike 26 = .ok (.istore 4, 2) := by decide +kernel
theorem dX6_isAlike_28 : decode cX6_isAlike 28 = .ok (.iload_n 3, 1) := by decide +kernel
theorem dX6_isAlike_29 : decode cX6_isAlike 29 = .ok (.ifCond .eq 99, 3) := by decide +kernel
theorem dX6_isAlike_32 : decode cX6_isAlike 32 = .ok (.iload 4, 2) := by decide +kernel
theorem dX6_isAlike_34 : decode cX6_isAlike 34 = .ok (.aload_n 0, 1) := by decide +kernel
theorem dX6_isAlike_35 : decode cX6_isAlike 35 = .ok (.getfield 65, 3) := by decide +kernel
theorem dX6_isAlike_38 : decode cX6_isAlike 38 = .ok (.iconst 2, 1) := by decide +kernel
theorem dX6_isAlike_39 : decode cX6_isAlike 39 = .ok (.iload_n 1, 1) := by decide +kernel
theorem dX6_isAlike_40 : decode cX6_isAlike 40 = .ok (.imul, 1) := by decide +kernel
theorem dX6_isAlike_41 : decode cX6_isAlike 41 = .ok (.iaload, 1) := by decide +kernel
theorem dX6_isAlike_42 : decode cX6_isAlike 42 = .ok (.if_icmp .ge 86, 3) := by decide +kernel
theorem dX6_isAlike_45 : decode cX6_isAlike 45 = .ok (.iconst 2, 1) := by decide +kernel
theorem dX6_isAlike_46 : decode cX6_isAlike 46 = .ok (.iload_n 1, 1) := by decide +kernel
theorem dX6_isAlike_47 : decode cX6_isAlike 47 = .ok (.imul, 1) := by decide +kernel
theorem dX6_isAlike_48 : decode cX6_isAlike 48 = .ok (.iload 4, 2) := by decide +kernel
theorem dX6_isAlike_50 : decode cX6_isAlike 50 = .ok (.invokestatic 127, 3) := by decide +kernel
theorem dX6_isAlike_53 : decode cX6_isAlike 53 = .ok (.istore 5, 2) := by decide +kernel
theorem dX6_isAlike_55 : decode cX6_isAlike 55 = .ok (.iconst 2, 1) := by decide +kernel
theorem dX6_isAlike_56 : decode cX6_isAlike 56 = .ok (.iload_n 2, 1) := by decide +kernel
theorem dX6_isAlike_57 : decode cX6_isAlike 57 = .ok (.imul, 1) := by decide +kernel
theorem dX6_isAlike_58 : decode cX6_isAlike 58 = .ok (.iload 4, 2) := by decide +kernel
theorem dX6_isAlike_60 : decode cX6_isAlike 60 = .ok (.invokestatic 127, 3) := by decide +kernel
theorem dX6_isAlike_63 : decode cX6_isAlike 63 = .ok (.istore 6, 2) := by decide +kernel
theorem dX6_isAlike_65 : decode cX6_isAlike 65 = .ok (.aload_n 0, 1) := by decide +kernel
theorem dX6_isAlike_66 : decode cX6_isAlike 66 = .ok (.getfield 74, 3) := by decide +kernel
theorem dX6_isAlike_69 : decode cX6_isAlike 69 = .ok (.iload 5, 2) := by decide +kernel
theorem dX6_isAlike_71 : decode cX6_isAlike 71 = .ok (.iaload, 1) := by decide +kernel
theorem dX6_isAlike_72 : decode cX6_isAlike 72 = .ok (.aload_n 0, 1) := by decide +kernel
theorem dX6_isAlike_73 : decode cX6_isAlike 73 = .ok (.getfield 74, 3) := by decide +kernel
theorem dX6_isAlike_76 : decode cX6_isAlike 76 = .ok (.iload 6, 2) := by decide +kernel
theorem dX6_isAlike_78 : decode cX6_isAlike 78 = .ok (.iaload, 1) := by decide +kernel
theorem dX6_isAlike_79 : decode cX6_isAlike 79 = .ok (.if_icmp .ne 41, 3) := by decide +kernel
theorem dX6_isAlike_82 : decode cX6_isAlike 82 = .ok (.aload_n 0, 1) := by decide +kernel
theorem dX6_isAlike_83 : decode cX6_isAlike 83 = .ok (.getfield 77, 3) := by decide +kernel
theorem dX6_isAlike_86 : decode cX6_isAlike 86 = .ok (.iload 5, 2) := by decide +kernel
theorem dX6_isAlike_88 : decode cX6_isAlike 88 = .ok (.iaload, 1) := by decide +kernel
theorem dX6_isAlike_89 : decode cX6_isAlike 89 = .ok (.aload_n 0, 1) := by decide +kernel
theorem dX6_isAlike_90 : decode cX6_isAlike 90 = .ok (.getfield 77, 3) := by decide +kernel
theorem dX6_isAlike_93 : decode cX6_isAlike 93 = .ok (.iload 6, 2) := by decide +kernel
theorem dX6_isAlike_95 : decode cX6_isAlike 95 = .ok (.iaload, 1) := by decide +kernel
theorem dX6_isAlike_96 : decode cX6_isAlike 96 = .ok (.if_icmp .ne 24, 3) := by decide +kernel
theorem dX6_isAlike_99 : decode cX6_isAlike 99 = .ok (.aload_n 0, 1) := by decide +kernel
theorem dX6_isAlike_100 : decode cX6_isAlike 100 = .ok (.getfield 80, 3) := by decide +kernel
theorem dX6_isAlike_103 : decode cX6_isAlike 103 = .ok (.iload 5, 2) := by decide +kernel
theorem dX6_isAlike_105 : decode cX6_isAlike 105 = .ok (.iaload, 1) := by decide +kernel
theorem dX6_isAlike_106 : decode cX6_isAlike 106 = .ok (.aload_n 0, 1) := by decide +kernel
theorem dX6_isAlike_107 : decode cX6_isAlike 107 = .ok (.getfield 80, 3) := by decide +kernel
theorem dX6_isAlike_110 : decode cX6_isAlike 110 = .ok (.iload 6, 2) := by decide +kernel
theorem dX6_isAlike_112 : decode cX6_isAlike 112 = .ok (.iaload, 1) := by decide +kernel
theorem dX6_isAlike_113 : decode cX6_isAlike 113 = .ok (.if_icmp .ne 7, 3) := by decide +kernel
theorem dX6_isAlike_116 : decode cX6_isAlike 116 = .ok (.iconst 1, 1) := by decide +kernel
theorem dX6_isAlike_117 : decode cX6_isAlike 117 = .ok (.goto 4, 3) := by decide +kernel
theorem dX6_isAlike_120 : decode cX6_isAlike 120 = .ok (.iconst 0, 1) := by decide +kernel
theorem dX6_isAlike_121 : decode cX6_isAlike 121 = .ok (.istore_n 3, 1) := by decide +kernel
theorem dX6_isAlike_122 : decode cX6_isAlike 122 = .ok (.iinc 4 1, 3) := by decide +kernel
theorem dX6_isAlike_125 : decode cX6_isAlike 125 = .ok (.goto (-97), 3) := by decide +kernel
theorem dX6_isAlike_128 : decode cX6_isAlike 128 = .ok (.iload_n 3, 1) := by decide +kernel
theorem dX6_isAlike_129 : decode cX6_isAlike 129 = .ok (.ireturn, 1) := by decide +kernel
theorem dX6_firstLike_0 : decode cX6_firstLike 0 = .ok (.iconst 0, 1) := by decide +kernel
theorem dX6_firstLike_1 : decode cX6_firstLike 1 = .ok (.istore_n 2, 1) := by decide +kernel
theorem dX6_firstLike_2 : decode cX6_firstLike 2 = .ok (.aload_n 0, 1) := by decide +kernel
theorem dX6_firstLike_3 : decode cX6_firstLike 3 = .ok (.getfield 62, 3) := by decide +kernel
theorem dX6_firstLike_6 : decode cX6_firstLike 6 = .ok (.iconst 2, 1) := by decide +kernel
theorem dX6_firstLike_7 : decode cX6_firstLike 7 = .ok (.iload_n 2, 1) := by decide +kernel
theorem dX6_firstLike_8 : decode cX6_firstLike 8 = .ok (.imul, 1) := by decide +kernel
theorem dX6_firstLike_9 : decode cX6_firstLike 9 = .ok (.baload, 1) := by decide +kernel
theorem dX6_firstLike_10 : decode cX6_firstLike 10 = .ok (.ifCond .eq 12, 3) := by decide +kernel
theorem dX6_firstLike_13 : decode cX6_firstLike 13 = .ok (.aload_n 0, 1) := by decide +kernel
theorem dX6_firstLike_14 : decode cX6_firstLike 14 = .ok (.iload_n 2, 1) := by decide +kernel
theorem dX6_firstLike_15 : decode cX6_firstLike 15 = .ok (.iload_n 1, 1) := by decide +kernel
theorem dX6_firstLike_16 : decode cX6_firstLike 16 = .ok (.invokevirtual 211, 3) := by decide +kernel
theorem dX6_firstLike_19 : decode cX6_firstLike 19 = .ok (.ifCond .ne 9, 3) := by decide +kernel
theorem dX6_firstLike_22 : decode cX6_firstLike 22 = .ok (.iinc 2 1, 3) := by decide +kernel
theorem dX6_firstLike_25 : decode cX6_firstLike 25 = .ok (.goto (-23), 3) := by decide +kernel
theorem dX6_firstLike_28 : decode cX6_firstLike 28 = .ok (.iload_n 2, 1) := by decide +kernel
theorem dX6_firstLike_29 : decode cX6_firstLike 29 = .ok (.ireturn, 1) := by decide +kernel
theorem dX6_marksUpTo_0 : decode cX6_marksUpTo 0 = .ok (.iconst 0, 1) := by decide +kernel
theorem dX6_marksUpTo_1 : decode cX6_marksUpTo 1 = .ok (.istore_n 2, 1) := by decide +kernel
theorem dX6_marksUpTo_2 : decode cX6_marksUpTo 2 = .ok (.iconst 0, 1) := by decide +kernel
theorem dX6_marksUpTo_3 : decode cX6_marksUpTo 3 = .ok (.istore_n 3, 1) := by decide +kernel
theorem dX6_marksUpTo_4 : decode cX6_marksUpTo 4 = .ok (.iload_n 3, 1) := by decide +kernel
theorem dX6_marksUpTo_5 : decode cX6_marksUpTo 5 = .ok (.iload_n 1, 1) := by decide +kernel
theorem dX6_marksUpTo_6 : decode cX6_marksUpTo 6 = .ok (.if_icmp .ge 37, 3) := by decide +kernel
theorem dX6_marksUpTo_9 : decode cX6_marksUpTo 9 = .ok (.iload_n 2, 1) := by decide +kernel
theorem dX6_marksUpTo_10 : decode cX6_marksUpTo 10 = .ok (.aload_n 0, 1) := by decide +kernel
theorem dX6_marksUpTo_11 : decode cX6_marksUpTo 11 = .ok (.getfield 62, 3) := by decide +kernel
theorem dX6_marksUpTo_14 : decode cX6_marksUpTo 14 = .ok (.iconst 2, 1) := by decide +kernel
theorem dX6_marksUpTo_15 : decode cX6_marksUpTo 15 = .ok (.iload_n 3, 1) := by decide +kernel
theorem dX6_marksUpTo_16 : decode cX6_marksUpTo 16 = .ok (.imul, 1) := by decide +kernel
theorem dX6_marksUpTo_17 : decode cX6_marksUpTo 17 = .ok (.baload, 1) := by decide +kernel
theorem dX6_marksUpTo_18 : decode cX6_marksUpTo 18 = .ok (.ifCond .eq 16, 3) := by decide +kernel
theorem dX6_marksUpTo_21 : decode cX6_marksUpTo 21 = .ok (.aload_n 0, 1) := by decide +kernel
theorem dX6_marksUpTo_22 : decode cX6_marksUpTo 22 = .ok (.iload_n 3, 1) := by decide +kernel
theorem dX6_marksUpTo_23 : decode cX6_marksUpTo 23 = .ok (.invokevirtual 214, 3) := by decide +kernel
theorem dX6_marksUpTo_26 : decode cX6_marksUpTo 26 = .ok (.iload_n 3, 1) := by decide +kernel
theorem dX6_marksUpTo_27 : decode cX6_marksUpTo 27 = .ok (.if_icmp .ne 7, 3) := by decide +kernel
theorem dX6_marksUpTo_30 : decode cX6_marksUpTo 30 = .ok (.iconst 1, 1) := by decide +kernel
theorem dX6_marksUpTo_31 : decode cX6_marksUpTo 31 = .ok (.goto 4, 3) := by decide +kernel
theorem dX6_marksUpTo_34 : decode cX6_marksUpTo 34 = .ok (.iconst 0, 1) := by decide +kernel
theorem dX6_marksUpTo_35 : decode cX6_marksUpTo 35 = .ok (.iadd, 1) := by decide +kernel
theorem dX6_marksUpTo_36 : decode cX6_marksUpTo 36 = .ok (.istore_n 2, 1) := by decide +kernel
theorem dX6_marksUpTo_37 : decode cX6_marksUpTo 37 = .ok (.iinc 3 1, 3) := by decide +kernel
theorem dX6_marksUpTo_40 : decode cX6_marksUpTo 40 = .ok (.goto (-36), 3) := by decide +kernel
theorem dX6_marksUpTo_43 : decode cX6_marksUpTo 43 = .ok (.iload_n 2, 1) := by decide +kernel
theorem dX6_marksUpTo_44 : decode cX6_marksUpTo 44 = .ok (.ireturn, 1) := by decide +kernel
theorem dX6_mark_0 : decode cX6_mark 0 = .ok (.aload_n 0, 1) := by decide +kernel
theorem dX6_mark_1 : decode cX6_mark 1 = .ok (.iconst 0, 1) := by decide +kernel
theorem dX6_mark_2 : decode cX6_mark 2 = .ok (.putfield 92, 3) := by decide +kernel
theorem dX6_mark_5 : decode cX6_mark 5 = .ok (.aload_n 0, 1) := by decide +kernel
theorem dX6_mark_6 : decode cX6_mark 6 = .ok (.iload_n 1, 1) := by decide +kernel
theorem dX6_mark_7 : decode cX6_mark 7 = .ok (.invokevirtual 199, 3) := by decide +kernel
theorem dX6_mark_10 : decode cX6_mark 10 = .ok (.ifCond .ne 8, 3) := by decide +kernel
theorem dX6_mark_13 : decode cX6_mark 13 = .ok (.aload_n 0, 1) := by decide +kernel
theorem dX6_mark_14 : decode cX6_mark 14 = .ok (.invokevirtual 109, 3) := by decide +kernel
theorem dX6_mark_17 : decode cX6_mark 17 = .ok (.ireturn, 1) := by decide +kernel
theorem dX6_mark_18 : decode cX6_mark 18 = .ok (.aload_n 0, 1) := by decide +kernel
theorem dX6_mark_19 : decode cX6_mark 19 = .ok (.getfield 62, 3) := by decide +kernel
theorem dX6_mark_22 : decode cX6_mark 22 = .ok (.iconst 2, 1) := by decide +kernel
theorem dX6_mark_23 : decode cX6_mark 23 = .ok (.iload_n 1, 1) := by decide +kernel
theorem dX6_mark_24 : decode cX6_mark 24 = .ok (.imul, 1) := by decide +kernel
theorem dX6_mark_25 : decode cX6_mark 25 = .ok (.baload, 1) := by decide +kernel
theorem dX6_mark_26 : decode cX6_mark 26 = .ok (.ifCond .eq 15, 3) := by decide +kernel
theorem dX6_mark_29 : decode cX6_mark 29 = .ok (.aload_n 0, 1) := by decide +kernel
theorem dX6_mark_30 : decode cX6_mark 30 = .ok (.aload_n 0, 1) := by decide +kernel
theorem dX6_mark_31 : decode cX6_mark 31 = .ok (.iload_n 1, 1) := by decide +kernel
theorem dX6_mark_32 : decode cX6_mark 32 = .ok (.invokevirtual 214, 3) := by decide +kernel
theorem dX6_mark_35 : decode cX6_mark 35 = .ok (.invokevirtual 217, 3) := by decide +kernel
theorem dX6_mark_38 : decode cX6_mark 38 = .ok (.goto 4, 3) := by decide +kernel
theorem dX6_mark_41 : decode cX6_mark 41 = .ok (.iconst (-1), 1) := by decide +kernel
theorem dX6_mark_42 : decode cX6_mark 42 = .ok (.ireturn, 1) := by decide +kernel
theorem dX6_carrier_0 : decode cX6_carrier 0 = .ok (.aload_n 0, 1) := by decide +kernel
theorem dX6_carrier_1 : decode cX6_carrier 1 = .ok (.iconst 0, 1) := by decide +kernel
theorem dX6_carrier_2 : decode cX6_carrier 2 = .ok (.putfield 92, 3) := by decide +kernel
theorem dX6_carrier_5 : decode cX6_carrier 5 = .ok (.aload_n 0, 1) := by decide +kernel
theorem dX6_carrier_6 : decode cX6_carrier 6 = .ok (.getfield 220, 3) := by decide +kernel
theorem dX6_carrier_9 : decode cX6_carrier 9 = .ok (.bipush 40, 2) := by decide +kernel
theorem dX6_carrier_11 : decode cX6_carrier 11 = .ok (.if_icmp .eq 13, 3) := by decide +kernel
theorem dX6_carrier_14 : decode cX6_carrier 14 = .ok (.iload_n 1, 1) := by decide +kernel
theorem dX6_carrier_15 : decode cX6_carrier 15 = .ok (.ifCond .lt 9, 3) := by decide +kernel
theorem dX6_carrier_18 : decode cX6_carrier 18 = .ok (.iload_n 1, 1) := by decide +kernel
theorem dX6_carrier_19 : decode cX6_carrier 19 = .ok (.bipush 31, 2) := by decide +kernel
theorem dX6_carrier_21 : decode cX6_carrier 21 = .ok (.if_icmp .le 5, 3) := by decide +kernel
theorem dX6_carrier_24 : decode cX6_carrier 24 = .ok (.iconst (-1), 1) := by decide +kernel
theorem dX6_carrier_25 : decode cX6_carrier 25 = .ok (.ireturn, 1) := by decide +kernel
theorem dX6_carrier_26 : decode cX6_carrier 26 = .ok (.aload_n 0, 1) := by decide +kernel
theorem dX6_carrier_27 : decode cX6_carrier 27 = .ok (.getfield 28, 3) := by decide +kernel
theorem dX6_carrier_30 : decode cX6_carrier 30 = .ok (.aload_n 0, 1) := by decide +kernel
theorem dX6_carrier_31 : decode cX6_carrier 31 = .ok (.getfield 220, 3) := by decide +kernel
theorem dX6_carrier_34 : decode cX6_carrier 34 = .ok (.iload_n 1, 1) := by decide +kernel
theorem dX6_carrier_35 : decode cX6_carrier 35 = .ok (.iastore, 1) := by decide +kernel
theorem dX6_carrier_36 : decode cX6_carrier 36 = .ok (.aload_n 0, 1) := by decide +kernel
theorem dX6_carrier_37 : decode cX6_carrier 37 = .ok (.dup, 1) := by decide +kernel
theorem dX6_carrier_38 : decode cX6_carrier 38 = .ok (.getfield 220, 3) := by decide +kernel
theorem dX6_carrier_41 : decode cX6_carrier 41 = .ok (.iconst 1, 1) := by decide +kernel
theorem dX6_carrier_42 : decode cX6_carrier 42 = .ok (.iadd, 1) := by decide +kernel
theorem dX6_carrier_43 : decode cX6_carrier 43 = .ok (.putfield 220, 3) := by decide +kernel
theorem dX6_carrier_46 : decode cX6_carrier 46 = .ok (.aload_n 0, 1) := by decide +kernel
theorem dX6_carrier_47 : decode cX6_carrier 47 = .ok (.getfield 220, 3) := by decide +kernel
theorem dX6_carrier_50 : decode cX6_carrier 50 = .ok (.iconst 1, 1) := by decide +kernel
theorem dX6_carrier_51 : decode cX6_carrier 51 = .ok (.isub, 1) := by decide +kernel
theorem dX6_carrier_52 : decode cX6_carrier 52 = .ok (.ireturn, 1) := by decide +kernel
theorem dX6_share_0 : decode cX6_share 0 = .ok (.aload_n 0, 1) := by decide +kernel
theorem dX6_share_1 : decode cX6_share 1 = .ok (.iconst 0, 1) := by decide +kernel
theorem dX6_share_2 : decode cX6_share 2 = .ok (.putfield 92, 3) := by decide +kernel
theorem dX6_share_5 : decode cX6_share 5 = .ok (.iload_n 1, 1) := by decide +kernel
theorem dX6_share_6 : decode cX6_share 6 = .ok (.ifCond .lt 11, 3) := by decide +kernel
theorem dX6_share_9 : decode cX6_share 9 = .ok (.iload_n 1, 1) := by decide +kernel
theorem dX6_share_10 : decode cX6_share 10 = .ok (.aload_n 0, 1) := by decide +kernel
theorem dX6_share_11 : decode cX6_share 11 = .ok (.getfield 220, 3) := by decide +kernel
theorem dX6_share_14 : decode cX6_share 14 = .ok (.if_icmp .lt 8, 3) := by decide +kernel
theorem dX6_share_17 : decode cX6_share 17 = .ok (.aload_n 0, 1) := by decide +kernel
theorem dX6_share_18 : decode cX6_share 18 = .ok (.invokevirtual 109, 3) := by decide +kernel
theorem dX6_share_21 : decode cX6_share 21 = .ok (.ireturn, 1) := by decide +kernel
theorem dX6_share_22 : decode cX6_share 22 = .ok (.iload_n 2, 1) := by decide +kernel
theorem dX6_share_23 : decode cX6_share 23 = .ok (.ifCond .lt 9, 3) := by decide +kernel
theorem dX6_share_26 : decode cX6_share 26 = .ok (.iload_n 2, 1) := by decide +kernel
theorem dX6_share_27 : decode cX6_share 27 = .ok (.ldc 223, 2) := by decide +kernel
theorem dX6_share_29 : decode cX6_share 29 = .ok (.if_icmp .le 10, 3) := by decide +kernel
theorem dX6_share_32 : decode cX6_share 32 = .ok (.aload_n 0, 1) := by decide +kernel
theorem dX6_share_33 : decode cX6_share 33 = .ok (.iconst 2, 1) := by decide +kernel
theorem dX6_share_34 : decode cX6_share 34 = .ok (.putfield 92, 3) := by decide +kernel
theorem dX6_share_37 : decode cX6_share 37 = .ok (.iconst 0, 1) := by decide +kernel
theorem dX6_share_38 : decode cX6_share 38 = .ok (.ireturn, 1) := by decide +kernel
theorem dX6_share_39 : decode cX6_share 39 = .ok (.iconst 0, 1) := by decide +kernel
theorem dX6_share_40 : decode cX6_share 40 = .ok (.istore_n 3, 1) := by decide +kernel
theorem dX6_share_41 : decode cX6_share 41 = .ok (.iconst 0, 1) := by decide +kernel
theorem dX6_share_42 : decode cX6_share 42 = .ok (.istore 4, 2) := by decide +kernel
theorem dX6_share_44 : decode cX6_share 44 = .ok (.iload 4, 2) := by decide +kernel
theorem dX6_share_46 : decode cX6_share 46 = .ok (.aload_n 0, 1) := by decide +kernel
theorem dX6_share_47 : decode cX6_share 47 = .ok (.getfield 220, 3) := by decide +kernel
theorem dX6_share_50 : decode cX6_share 50 = .ok (.if_icmp .ge 19, 3) := by decide +kernel
theorem dX6_share_53 : decode cX6_share 53 = .ok (.iload_n 3, 1) := by decide +kernel
theorem dX6_share_54 : decode cX6_share 54 = .ok (.aload_n 0, 1) := by decide +kernel
theorem dX6_share_55 : decode cX6_share 55 = .ok (.getfield 28, 3) := by decide +kernel
theorem dX6_share_58 : decode cX6_share 58 = .ok (.iload 4, 2) := by decide +kernel
theorem dX6_share_60 : decode cX6_share 60 = .ok (.iaload, 1) := by decide +kernel
theorem dX6_share_61 : decode cX6_share 61 = .ok (.iadd, 1) := by decide +kernel
theorem dX6_share_62 : decode cX6_share 62 = .ok (.istore_n 3, 1) := by decide +kernel
theorem dX6_share_63 : decode cX6_share 63 = .ok (.iinc 4 1, 3) := by decide +kernel
theorem dX6_share_66 : decode cX6_share 66 = .ok (.goto (-22), 3) := by decide +kernel
theorem dX6_share_69 : decode cX6_share 69 = .ok (.iload_n 3, 1) := by decide +kernel
theorem dX6_share_70 : decode cX6_share 70 = .ok (.ifCond .ne 7, 3) := by decide +kernel
theorem dX6_share_73 : decode cX6_share 73 = .ok (.iconst 1, 1) := by decide +kernel
theorem dX6_share_74 : decode cX6_share 74 = .ok (.goto 4, 3) := by decide +kernel
theorem dX6_share_77 : decode cX6_share 77 = .ok (.iconst 0, 1) := by decide +kernel
theorem dX6_share_78 : decode cX6_share 78 = .ok (.istore 4, 2) := by decide +kernel
theorem dX6_share_80 : decode cX6_share 80 = .ok (.iload 4, 2) := by decide +kernel
theorem dX6_share_82 : decode cX6_share 82 = .ok (.ifCond .eq 8, 3) := by decide +kernel
theorem dX6_share_85 : decode cX6_share 85 = .ok (.aload_n 0, 1) := by decide +kernel
theorem dX6_share_86 : decode cX6_share 86 = .ok (.getfield 220, 3) := by decide +kernel
theorem dX6_share_89 : decode cX6_share 89 = .ok (.istore_n 3, 1) := by decide +kernel
theorem dX6_share_90 : decode cX6_share 90 = .ok (.iload_n 2, 1) := by decide +kernel
theorem dX6_share_91 : decode cX6_share 91 = .ok (.istore 5, 2) := by decide +kernel
theorem dX6_share_93 : decode cX6_share 93 = .ok (.iconst 0, 1) := by decide +kernel
theorem dX6_share_94 : decode cX6_share 94 = .ok (.istore 6, 2) := by decide +kernel
theorem dX6_share_96 : decode cX6_share 96 = .ok (.iload 6, 2) := by decide +kernel
theorem dX6_share_98 : decode cX6_share 98 = .ok (.aload_n 0, 1) := by decide +kernel
theorem dX6_share_99 : decode cX6_share 99 = .ok (.getfield 220, 3) := by decide +kernel
theorem dX6_share_102 : decode cX6_share 102 = .ok (.if_icmp .ge 38, 3) := by decide +kernel
theorem dX6_share_105 : decode cX6_share 105 = .ok (.iload 5, 2) := by decide +kernel
theorem dX6_share_107 : decode cX6_share 107 = .ok (.iload_n 2, 1) := by decide +kernel
theorem dX6_share_108 : decode cX6_share 108 = .ok (.i2l, 1) := by decide +kernel
theorem dX6_share_109 : decode cX6_share 109 = .ok (.iload 4, 2) := by decide +kernel
theorem dX6_share_111 : decode cX6_share 111 = .ok (.ifCond .eq 7, 3) := by decide +kernel
theorem dX6_share_114 : decode cX6_share 114 = .ok (.iconst 1, 1) := by decide +kernel
theorem dX6_share_115 : decode cX6_share 115 = .ok (.goto 10, 3) := by decide +kernel
theorem dX6_share_118 : decode cX6_share 118 = .ok (.aload_n 0, 1) := by decide +kernel
theorem dX6_share_119 : decode cX6_share 119 = .ok (.getfield 28, 3) := by decide +kernel
theorem dX6_share_122 : decode cX6_share 122 = .ok (.iload 6, 2) := by decide +kernel
theorem dX6_share_124 : decode cX6_share 124 = .ok (.iaload, 1) := by decide +kernel
theorem dX6_share_125 : decode cX6_share 125 = .ok (.i2l, 1) := by decide +kernel
theorem dX6_share_126 : decode cX6_share 126 = .ok (.lmul, 1) := by decide +kernel
theorem dX6_share_127 : decode cX6_share 127 = .ok (.iload_n 3, 1) := by decide +kernel
theorem dX6_share_128 : decode cX6_share 128 = .ok (.i2l, 1) := by decide +kernel
theorem dX6_share_129 : decode cX6_share 129 = .ok (.ldiv, 1) := by decide +kernel
theorem dX6_share_130 : decode cX6_share 130 = .ok (.l2i, 1) := by decide +kernel
theorem dX6_share_131 : decode cX6_share 131 = .ok (.isub, 1) := by decide +kernel
theorem dX6_share_132 : decode cX6_share 132 = .ok (.istore 5, 2) := by decide +kernel
theorem dX6_share_134 : decode cX6_share 134 = .ok (.iinc 6 1, 3) := by decide +kernel
theorem dX6_share_137 : decode cX6_share 137 = .ok (.goto (-41), 3) := by decide +kernel
theorem dX6_share_140 : decode cX6_share 140 = .ok (.iload_n 2, 1) := by decide +kernel
theorem dX6_share_141 : decode cX6_share 141 = .ok (.i2l, 1) := by decide +kernel
theorem dX6_share_142 : decode cX6_share 142 = .ok (.iload 4, 2) := by decide +kernel
theorem dX6_share_144 : decode cX6_share 144 = .ok (.ifCond .eq 7, 3) := by decide +kernel
theorem dX6_share_147 : decode cX6_share 147 = .ok (.iconst 1, 1) := by decide +kernel
theorem dX6_share_148 : decode cX6_share 148 = .ok (.goto 9, 3) := by decide +kernel
theorem dX6_share_151 : decode cX6_share 151 = .ok (.aload_n 0, 1) := by decide +kernel
theorem dX6_share_152 : decode cX6_share 152 = .ok (.getfield 28, 3) := by decide +kernel
theorem dX6_share_155 : decode cX6_share 155 = .ok (.iload_n 1, 1) := by decide +kernel
theorem dX6_share_156 : decode cX6_share 156 = .ok (.iaload, 1) := by decide +kernel
theorem dX6_share_157 : decode cX6_share 157 = .ok (.i2l, 1) := by decide +kernel
theorem dX6_share_158 : decode cX6_share 158 = .ok (.lmul, 1) := by decide +kernel
theorem dX6_share_159 : decode cX6_share 159 = .ok (.lstore 6, 2) := by decide +kernel
theorem dX6_share_161 : decode cX6_share 161 = .ok (.iconst 0, 1) := by decide +kernel
theorem dX6_share_162 : decode cX6_share 162 = .ok (.istore 8, 2) := by decide +kernel
theorem dX6_share_164 : decode cX6_share 164 = .ok (.iconst 0, 1) := by decide +kernel
