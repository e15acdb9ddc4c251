theorem d_Mo_hours_0 : decode b_Mo_hours 0 = .ok (.iconst 0, 1) := by decide +kernel
theorem d_Mo_hours_1 : decode b_Mo_hours 1 = .ok (.istore_n 1, 1) := by decide +kernel
theorem d_Mo_hours_2 : decode b_Mo_hours 2 = .ok (.iconst 0, 1) := by decide +kernel
theorem d_Mo_hours_3 : decode b_Mo_hours 3 = .ok (.istore_n 2, 1) := by decide +kernel
theorem d_Mo_hours_4 : decode b_Mo_hours 4 = .ok (.iload_n 2, 1) := by decide +kernel
theorem d_Mo_hours_5 : decode b_Mo_hours 5 = .ok (.bipush 24, 2) := by decide +kernel
theorem d_Mo_hours_7 : decode b_Mo_hours 7 = .ok (.if_icmp .ge 26, 3) := by decide +kernel
theorem d_Mo_hours_10 : decode b_Mo_hours 10 = .ok (.iload_n 1, 1) := by decide +kernel
theorem d_Mo_hours_11 : decode b_Mo_hours 11 = .ok (.aload_n 0, 1) := by decide +kernel
theorem d_Mo_hours_12 : decode b_Mo_hours 12 = .ok (.getfield 57, 3) := by decide +kernel
theorem d_Mo_hours_15 : decode b_Mo_hours 15 = .ok (.iload_n 2, 1) := by decide +kernel
theorem d_Mo_hours_16 : decode b_Mo_hours 16 = .ok (.iaload, 1) := by decide +kernel
theorem d_Mo_hours_17 : decode b_Mo_hours 17 = .ok (.ifCond .le 7, 3) := by decide +kernel
theorem d_Mo_hours_20 : decode b_Mo_hours 20 = .ok (.iconst 1, 1) := by decide +kernel
theorem d_Mo_hours_21 : decode b_Mo_hours 21 = .ok (.goto 4, 3) := by decide +kernel
theorem d_Mo_hours_24 : decode b_Mo_hours 24 = .ok (.iconst 0, 1) := by decide +kernel
theorem d_Mo_hours_25 : decode b_Mo_hours 25 = .ok (.iadd, 1) := by decide +kernel
theorem d_Mo_hours_26 : decode b_Mo_hours 26 = .ok (.istore_n 1, 1) := by decide +kernel
theorem d_Mo_hours_27 : decode b_Mo_hours 27 = .ok (.iinc 2 1, 3) := by decide +kernel
theorem d_Mo_hours_30 : decode b_Mo_hours 30 = .ok (.goto (-26), 3) := by decide +kernel
theorem d_Mo_hours_33 : decode b_Mo_hours 33 = .ok (.iload_n 1, 1) := by decide +kernel
theorem d_Mo_hours_34 : decode b_Mo_hours 34 = .ok (.ireturn, 1) := by decide +kernel
theorem d_Mo_plan_0 : decode b_Mo_plan 0 = .ok (.aload_n 0, 1) := by decide +kernel
theorem d_Mo_plan_1 : decode b_Mo_plan 1 = .ok (.getfield 81, 3) := by decide +kernel
theorem d_Mo_plan_4 : decode b_Mo_plan 4 = .ok (.ifCond .eq 15, 3) := by decide +kernel
theorem d_Mo_plan_7 : decode b_Mo_plan 7 = .ok (.iload_n 1, 1) := by decide +kernel
theorem d_Mo_plan_8 : decode b_Mo_plan 8 = .ok (.i2l, 1) := by decide +kernel
theorem d_Mo_plan_9 : decode b_Mo_plan 9 = .ok (.lconst 0, 1) := by decide +kernel
theorem d_Mo_plan_10 : decode b_Mo_plan 10 = .ok (.ldc2_w 163, 3) := by decide +kernel
theorem d_Mo_plan_13 : decode b_Mo_plan 13 = .ok (.invokestatic 69, 3) := by decide +kernel
theorem d_Mo_plan_16 : decode b_Mo_plan 16 = .ok (.ifCond .ne 5, 3) := by decide +kernel
theorem d_Mo_plan_19 : decode b_Mo_plan 19 = .ok (.iconst (-1), 1) := by decide +kernel
theorem d_Mo_plan_20 : decode b_Mo_plan 20 = .ok (.ireturn, 1) := by decide +kernel
theorem d_Mo_plan_21 : decode b_Mo_plan 21 = .ok (.aload_n 0, 1) := by decide +kernel
theorem d_Mo_plan_22 : decode b_Mo_plan 22 = .ok (.getfield 57, 3) := by decide +kernel
theorem d_Mo_plan_25 : decode b_Mo_plan 25 = .ok (.iload_n 1, 1) := by decide +kernel
theorem d_Mo_plan_26 : decode b_Mo_plan 26 = .ok (.aload_n 0, 1) := by decide +kernel
theorem d_Mo_plan_27 : decode b_Mo_plan 27 = .ok (.getfield 66, 3) := by decide +kernel
theorem d_Mo_plan_30 : decode b_Mo_plan 30 = .ok (.iastore, 1) := by decide +kernel
theorem d_Mo_plan_31 : decode b_Mo_plan 31 = .ok (.aload_n 0, 1) := by decide +kernel
theorem d_Mo_plan_32 : decode b_Mo_plan 32 = .ok (.getfield 60, 3) := by decide +kernel
theorem d_Mo_plan_35 : decode b_Mo_plan 35 = .ok (.iload_n 1, 1) := by decide +kernel
theorem d_Mo_plan_36 : decode b_Mo_plan 36 = .ok (.aload_n 0, 1) := by decide +kernel
theorem d_Mo_plan_37 : decode b_Mo_plan 37 = .ok (.getfield 97, 3) := by decide +kernel
theorem d_Mo_plan_40 : decode b_Mo_plan 40 = .ok (.iastore, 1) := by decide +kernel
theorem d_Mo_plan_41 : decode b_Mo_plan 41 = .ok (.iconst 0, 1) := by decide +kernel
theorem d_Mo_plan_42 : decode b_Mo_plan 42 = .ok (.istore_n 2, 1) := by decide +kernel
theorem d_Mo_plan_43 : decode b_Mo_plan 43 = .ok (.iload_n 2, 1) := by decide +kernel
theorem d_Mo_plan_44 : decode b_Mo_plan 44 = .ok (.aload_n 0, 1) := by decide +kernel
theorem d_Mo_plan_45 : decode b_Mo_plan 45 = .ok (.getfield 66, 3) := by decide +kernel
theorem d_Mo_plan_48 : decode b_Mo_plan 48 = .ok (.if_icmp .ge 25, 3) := by decide +kernel
theorem d_Mo_plan_51 : decode b_Mo_plan 51 = .ok (.aload_n 0, 1) := by decide +kernel
theorem d_Mo_plan_52 : decode b_Mo_plan 52 = .ok (.getfield 63, 3) := by decide +kernel
theorem d_Mo_plan_55 : decode b_Mo_plan 55 = .ok (.iconst 5, 1) := by decide +kernel
theorem d_Mo_plan_56 : decode b_Mo_plan 56 = .ok (.iload_n 1, 1) := by decide +kernel
theorem d_Mo_plan_57 : decode b_Mo_plan 57 = .ok (.imul, 1) := by decide +kernel
theorem d_Mo_plan_58 : decode b_Mo_plan 58 = .ok (.iload_n 2, 1) := by decide +kernel
theorem d_Mo_plan_59 : decode b_Mo_plan 59 = .ok (.iadd, 1) := by decide +kernel
theorem d_Mo_plan_60 : decode b_Mo_plan 60 = .ok (.aload_n 0, 1) := by decide +kernel
theorem d_Mo_plan_61 : decode b_Mo_plan 61 = .ok (.getfield 38, 3) := by decide +kernel
theorem d_Mo_plan_64 : decode b_Mo_plan 64 = .ok (.iload_n 2, 1) := by decide +kernel
theorem d_Mo_plan_65 : decode b_Mo_plan 65 = .ok (.iaload, 1) := by decide +kernel
theorem d_Mo_plan_66 : decode b_Mo_plan 66 = .ok (.iastore, 1) := by decide +kernel
theorem d_Mo_plan_67 : decode b_Mo_plan 67 = .ok (.iinc 2 1, 3) := by decide +kernel
theorem d_Mo_plan_70 : decode b_Mo_plan 70 = .ok (.goto (-27), 3) := by decide +kernel
theorem d_Mo_plan_73 : decode b_Mo_plan 73 = .ok (.aload_n 0, 1) := by decide +kernel
theorem d_Mo_plan_74 : decode b_Mo_plan 74 = .ok (.invokevirtual 165, 3) := by decide +kernel
theorem d_Mo_plan_77 : decode b_Mo_plan 77 = .ok (.ireturn, 1) := by decide +kernel
theorem d_Mo_change_0 : decode b_Mo_change 0 = .ok (.iload_n 1, 1) := by decide +kernel
theorem d_Mo_change_1 : decode b_Mo_change 1 = .ok (.i2l, 1) := by decide +kernel
theorem d_Mo_change_2 : decode b_Mo_change 2 = .ok (.lconst 0, 1) := by decide +kernel
theorem d_Mo_change_3 : decode b_Mo_change 3 = .ok (.ldc2_w 163, 3) := by decide +kernel
theorem d_Mo_change_6 : decode b_Mo_change 6 = .ok (.invokestatic 69, 3) := by decide +kernel
theorem d_Mo_change_9 : decode b_Mo_change 9 = .ok (.ifCond .eq 48, 3) := by decide +kernel
theorem d_Mo_change_12 : decode b_Mo_change 12 = .ok (.iload_n 2, 1) := by decide +kernel
theorem d_Mo_change_13 : decode b_Mo_change 13 = .ok (.i2l, 1) := by decide +kernel
theorem d_Mo_change_14 : decode b_Mo_change 14 = .ok (.lconst 0, 1) := by decide +kernel
theorem d_Mo_change_15 : decode b_Mo_change 15 = .ok (.ldc2_w 163, 3) := by decide +kernel
theorem d_Mo_change_18 : decode b_Mo_change 18 = .ok (.invokestatic 69, 3) := by decide +kernel
theorem d_Mo_change_21 : decode b_Mo_change 21 = .ok (.ifCond .eq 36, 3) := by decide +kernel
theorem d_Mo_change_24 : decode b_Mo_change 24 = .ok (.aload_n 0, 1) := by decide +kernel
theorem d_Mo_change_25 : decode b_Mo_change 25 = .ok (.getfield 66, 3) := by decide +kernel
theorem d_Mo_change_28 : decode b_Mo_change 28 = .ok (.ifCond .eq 29, 3) := by decide +kernel
theorem d_Mo_change_31 : decode b_Mo_change 31 = .ok (.aload_n 0, 1) := by decide +kernel
theorem d_Mo_change_32 : decode b_Mo_change 32 = .ok (.getfield 57, 3) := by decide +kernel
theorem d_Mo_change_35 : decode b_Mo_change 35 = .ok (.iload_n 1, 1) := by decide +kernel
theorem d_Mo_change_36 : decode b_Mo_change 36 = .ok (.iaload, 1) := by decide +kernel
theorem d_Mo_change_37 : decode b_Mo_change 37 = .ok (.aload_n 0, 1) := by decide +kernel
theorem d_Mo_change_38 : decode b_Mo_change 38 = .ok (.getfield 66, 3) := by decide +kernel
theorem d_Mo_change_41 : decode b_Mo_change 41 = .ok (.if_icmp .ne 16, 3) := by decide +kernel
theorem d_Mo_change_44 : decode b_Mo_change 44 = .ok (.aload_n 0, 1) := by decide +kernel
theorem d_Mo_change_45 : decode b_Mo_change 45 = .ok (.getfield 57, 3) := by decide +kernel
theorem d_Mo_change_48 : decode b_Mo_change 48 = .ok (.iload_n 2, 1) := by decide +kernel
theorem d_Mo_change_49 : decode b_Mo_change 49 = .ok (.iaload, 1) := by decide +kernel
theorem d_Mo_change_50 : decode b_Mo_change 50 = .ok (.aload_n 0, 1) := by decide +kernel
theorem d_Mo_change_51 : decode b_Mo_change 51 = .ok (.getfield 66, 3) := by decide +kernel
theorem d_Mo_change_54 : decode b_Mo_change 54 = .ok (.if_icmp .eq 7, 3) := by decide +kernel
theorem d_Mo_change_57 : decode b_Mo_change 57 = .ok (.ldc2_w 145, 3) := by decide +kernel
theorem d_Mo_change_60 : decode b_Mo_change 60 = .ok (.lreturn, 1) := by decide +kernel
theorem d_Mo_change_61 : decode b_Mo_change 61 = .ok (.aload_n 0, 1) := by decide +kernel
theorem d_Mo_change_62 : decode b_Mo_change 62 = .ok (.getfield 60, 3) := by decide +kernel
theorem d_Mo_change_65 : decode b_Mo_change 65 = .ok (.iload_n 2, 1) := by decide +kernel
theorem d_Mo_change_66 : decode b_Mo_change 66 = .ok (.iaload, 1) := by decide +kernel
theorem d_Mo_change_67 : decode b_Mo_change 67 = .ok (.istore_n 3, 1) := by decide +kernel
theorem d_Mo_change_68 : decode b_Mo_change 68 = .ok (.aload_n 0, 1) := by decide +kernel
theorem d_Mo_change_69 : decode b_Mo_change 69 = .ok (.getfield 60, 3) := by decide +kernel
theorem d_Mo_change_72 : decode b_Mo_change 72 = .ok (.iload_n 1, 1) := by decide +kernel
theorem d_Mo_change_73 : decode b_Mo_change 73 = .ok (.iaload, 1) := by decide +kernel
theorem d_Mo_change_74 : decode b_Mo_change 74 = .ok (.iload_n 3, 1) := by decide +kernel
theorem d_Mo_change_75 : decode b_Mo_change 75 = .ok (.if_icmp .ne 7, 3) := by decide +kernel
theorem d_Mo_change_78 : decode b_Mo_change 78 = .ok (.lconst 0, 1) := by decide +kernel
theorem d_Mo_change_79 : decode b_Mo_change 79 = .ok (.goto 6, 3) := by decide +kernel
theorem d_Mo_change_82 : decode b_Mo_change 82 = .ok (.ldc2_w 91, 3) := by decide +kernel
theorem d_Mo_change_85 : decode b_Mo_change 85 = .ok (.lstore 4, 2) := by decide +kernel
theorem d_Mo_change_87 : decode b_Mo_change 87 = .ok (.iconst 0, 1) := by decide +kernel
theorem d_Mo_change_88 : decode b_Mo_change 88 = .ok (.istore 6, 2) := by decide +kernel
theorem d_Mo_change_90 : decode b_Mo_change 90 = .ok (.iload 6, 2) := by decide +kernel
theorem d_Mo_change_92 : decode b_Mo_change 92 = .ok (.aload_n 0, 1) := by decide +kernel
theorem d_Mo_change_93 : decode b_Mo_change 93 = .ok (.getfield 66, 3) := by decide +kernel
theorem d_Mo_change_96 : decode b_Mo_change 96 = .ok (.if_icmp .ge 65, 3) := by decide +kernel
theorem d_Mo_change_99 : decode b_Mo_change 99 = .ok (.aload_n 0, 1) := by decide +kernel
theorem d_Mo_change_100 : decode b_Mo_change 100 = .ok (.getfield 63, 3) := by decide +kernel
theorem d_Mo_change_103 : decode b_Mo_change 103 = .ok (.iconst 5, 1) := by decide +kernel
theorem d_Mo_change_104 : decode b_Mo_change 104 = .ok (.iload_n 2, 1) := by decide +kernel
theorem d_Mo_change_105 : decode b_Mo_change 105 = .ok (.imul, 1) := by decide +kernel
theorem d_Mo_change_106 : decode b_Mo_change 106 = .ok (.iload 6, 2) := by decide +kernel
theorem d_Mo_change_108 : decode b_Mo_change 108 = .ok (.iadd, 1) := by decide +kernel
theorem d_Mo_change_109 : decode b_Mo_change 109 = .ok (.iaload, 1) := by decide +kernel
theorem d_Mo_change_110 : decode b_Mo_change 110 = .ok (.aload_n 0, 1) := by decide +kernel
theorem d_Mo_change_111 : decode b_Mo_change 111 = .ok (.getfield 63, 3) := by decide +kernel
theorem d_Mo_change_114 : decode b_Mo_change 114 = .ok (.iconst 5, 1) := by decide +kernel
theorem d_Mo_change_115 : decode b_Mo_change 115 = .ok (.iload_n 1, 1) := by decide +kernel
theorem d_Mo_change_116 : decode b_Mo_change 116 = .ok (.imul, 1) := by decide +kernel
theorem d_Mo_change_117 : decode b_Mo_change 117 = .ok (.iload 6, 2) := by decide +kernel
theorem d_Mo_change_119 : decode b_Mo_change 119 = .ok (.iadd, 1) := by decide +kernel
theorem d_Mo_change_120 : decode b_Mo_change 120 = .ok (.iaload, 1) := by decide +kernel
theorem d_Mo_change_121 : decode b_Mo_change 121 = .ok (.iload_n 3, 1) := by decide +kernel
theorem d_Mo_change_122 : decode b_Mo_change 122 = .ok (.irem, 1) := by decide +kernel
theorem d_Mo_change_123 : decode b_Mo_change 123 = .ok (.isub, 1) := by decide +kernel
theorem d_Mo_change_124 : decode b_Mo_change 124 = .ok (.iload_n 3, 1) := by decide +kernel
theorem d_Mo_change_125 : decode b_Mo_change 125 = .ok (.iadd, 1) := by decide +kernel
theorem d_Mo_change_126 : decode b_Mo_change 126 = .ok (.iload_n 3, 1) := by decide +kernel
theorem d_Mo_change_127 : decode b_Mo_change 127 = .ok (.irem, 1) := by decide +kernel
theorem d_Mo_change_128 : decode b_Mo_change 128 = .ok (.istore 7, 2) := by decide +kernel
theorem d_Mo_change_130 : decode b_Mo_change 130 = .ok (.lload 4, 2) := by decide +kernel
theorem d_Mo_change_132 : decode b_Mo_change 132 = .ok (.iload 7, 2) := by decide +kernel
theorem d_Mo_change_134 : decode b_Mo_change 134 = .ok (.iload_n 3, 1) := by decide +kernel
theorem d_Mo_change_135 : decode b_Mo_change 135 = .ok (.iload 7, 2) := by decide +kernel
theorem d_Mo_change_137 : decode b_Mo_change 137 = .ok (.isub, 1) := by decide +kernel
theorem d_Mo_change_138 : decode b_Mo_change 138 = .ok (.if_icmp .ge 9, 3) := by decide +kernel
theorem d_Mo_change_141 : decode b_Mo_change 141 = .ok (.iload 7, 2) := by decide +kernel
theorem d_Mo_change_143 : decode b_Mo_change 143 = .ok (.i2l, 1) := by decide +kernel
theorem d_Mo_change_144 : decode b_Mo_change 144 = .ok (.goto 8, 3) := by decide +kernel
theorem d_Mo_change_147 : decode b_Mo_change 147 = .ok (.iload_n 3, 1) := by decide +kernel
theorem d_Mo_change_148 : decode b_Mo_change 148 = .ok (.iload 7, 2) := by decide +kernel
theorem d_Mo_change_150 : decode b_Mo_change 150 = .ok (.isub, 1) := by decide +kernel
theorem d_Mo_change_151 : decode b_Mo_change 151 = .ok (.i2l, 1) := by decide +kernel
theorem d_Mo_change_152 : decode b_Mo_change 152 = .ok (.ladd, 1) := by decide +kernel
theorem d_Mo_change_153 : decode b_Mo_change 153 = .ok (.lstore 4, 2) := by decide +kernel
theorem d_Mo_change_155 : decode b_Mo_change 155 = .ok (.iinc 6 1, 3) := by decide +kernel
theorem d_Mo_change_158 : decode b_Mo_change 158 = .ok (.goto (-68), 3) := by decide +kernel
theorem d_Mo_change_161 : decode b_Mo_change 161 = .ok (.lload 4, 2) := by decide +kernel
theorem d_Mo_change_163 : decode b_Mo_change 163 = .ok (.lreturn, 1) := by decide +kernel
theorem d_Mo_day_0 : decode b_Mo_day 0 = .ok (.aload_n 0, 1) := by decide +kernel
theorem d_Mo_day_1 : decode b_Mo_day 1 = .ok (.invokevirtual 165, 3) := by decide +kernel
theorem d_Mo_day_4 : decode b_Mo_day 4 = .ok (.iconst 2, 1) := by decide +kernel
theorem d_Mo_day_5 : decode b_Mo_day 5 = .ok (.if_icmp .ge 5, 3) := by decide +kernel
theorem d_Mo_day_8 : decode b_Mo_day 8 = .ok (.lconst 0, 1) := by decide +kernel
theorem d_Mo_day_9 : decode b_Mo_day 9 = .ok (.lreturn, 1) := by decide +kernel
theorem d_Mo_day_10 : decode b_Mo_day 10 = .ok (.lconst 0, 1) := by decide +kernel
theorem d_Mo_day_11 : decode b_Mo_day 11 = .ok (.lstore_n 1, 1) := by decide +kernel
theorem d_Mo_day_12 : decode b_Mo_day 12 = .ok (.iconst 0, 1) := by decide +kernel
theorem d_Mo_day_13 : decode b_Mo_day 13 = .ok (.istore_n 3, 1) := by decide +kernel
theorem d_Mo_day_14 : decode b_Mo_day 14 = .ok (.iload_n 3, 1) := by decide +kernel
theorem d_Mo_day_15 : decode b_Mo_day 15 = .ok (.bipush 24, 2) := by decide +kernel
theorem d_Mo_day_17 : decode b_Mo_day 17 = .ok (.if_icmp .ge 78, 3) := by decide +kernel
theorem d_Mo_day_20 : decode b_Mo_day 20 = .ok (.aload_n 0, 1) := by decide +kernel
theorem d_Mo_day_21 : decode b_Mo_day 21 = .ok (.getfield 57, 3) := by decide +kernel
theorem d_Mo_day_24 : decode b_Mo_day 24 = .ok (.iload_n 3, 1) := by decide +kernel
theorem d_Mo_day_25 : decode b_Mo_day 25 = .ok (.iaload, 1) := by decide +kernel
theorem d_Mo_day_26 : decode b_Mo_day 26 = .ok (.ifCond .ne 6, 3) := by decide +kernel
theorem d_Mo_day_29 : decode b_Mo_day 29 = .ok (.goto 60, 3) := by decide +kernel
theorem d_Mo_day_32 : decode b_Mo_day 32 = .ok (.iload_n 3, 1) := by decide +kernel
theorem d_Mo_day_33 : decode b_Mo_day 33 = .ok (.iconst 1, 1) := by decide +kernel
theorem d_Mo_day_34 : decode b_Mo_day 34 = .ok (.iadd, 1) := by decide +kernel
theorem d_Mo_day_35 : decode b_Mo_day 35 = .ok (.bipush 24, 2) := by decide +kernel
theorem d_Mo_day_37 : decode b_Mo_day 37 = .ok (.irem, 1) := by decide +kernel
theorem d_Mo_day_38 : decode b_Mo_day 38 = .ok (.istore 4, 2) := by decide +kernel
theorem d_Mo_day_40 : decode b_Mo_day 40 = .ok (.aload_n 0, 1) := by decide +kernel
theorem d_Mo_day_41 : decode b_Mo_day 41 = .ok (.getfield 57, 3) := by decide +kernel
theorem d_Mo_day_44 : decode b_Mo_day 44 = .ok (.iload 4, 2) := by decide +kernel
theorem d_Mo_day_46 : decode b_Mo_day 46 = .ok (.iaload, 1) := by decide +kernel
theorem d_Mo_day_47 : decode b_Mo_day 47 = .ok (.ifCond .ne 15, 3) := by decide +kernel
theorem d_Mo_day_50 : decode b_Mo_day 50 = .ok (.iload 4, 2) := by decide +kernel
theorem d_Mo_day_52 : decode b_Mo_day 52 = .ok (.iconst 1, 1) := by decide +kernel
theorem d_Mo_day_53 : decode b_Mo_day 53 = .ok (.iadd, 1) := by decide +kernel
theorem d_Mo_day_54 : decode b_Mo_day 54 = .ok (.bipush 24, 2) := by decide +kernel
theorem d_Mo_day_56 : decode b_Mo_day 56 = .ok (.irem, 1) := by decide +kernel
theorem d_Mo_day_57 : decode b_Mo_day 57 = .ok (.istore 4, 2) := by decide +kernel
theorem d_Mo_day_59 : decode b_Mo_day 59 = .ok (.goto (-19), 3) := by decide +kernel
theorem d_Mo_day_62 : decode b_Mo_day 62 = .ok (.aload_n 0, 1) := by decide +kernel
theorem d_Mo_day_63 : decode b_Mo_day 63 = .ok (.iload_n 3, 1) := by decide +kernel
theorem d_Mo_day_64 : decode b_Mo_day 64 = .ok (.iload 4, 2) := by decide +kernel
theorem d_Mo_day_66 : decode b_Mo_day 66 = .ok (.invokevirtual 169, 3) := by decide +kernel
theorem d_Mo_day_69 : decode b_Mo_day 69 = .ok (.lstore 5, 2) := by decide +kernel
theorem d_Mo_day_71 : decode b_Mo_day 71 = .ok (.lload 5, 2) := by decide +kernel
theorem d_Mo_day_73 : decode b_Mo_day 73 = .ok (.ldc2_w 145, 3) := by decide +kernel
theorem d_Mo_day_76 : decode b_Mo_day 76 = .ok (.lcmp, 1) := by decide +kernel
theorem d_Mo_day_77 : decode b_Mo_day 77 = .ok (.ifCond .ne 7, 3) := by decide +kernel
theorem d_Mo_day_80 : decode b_Mo_day 80 = .ok (.ldc2_w 145, 3) := by decide +kernel
theorem d_Mo_day_83 : decode b_Mo_day 83 = .ok (.lreturn, 1) := by decide +kernel
theorem d_Mo_day_84 : decode b_Mo_day 84 = .ok (.lload_n 1, 1) := by decide +kernel
theorem d_Mo_day_85 : decode b_Mo_day 85 = .ok (.lload 5, 2) := by decide +kernel
theorem d_Mo_day_87 : decode b_Mo_day 87 = .ok (.ladd, 1) := by decide +kernel
theorem d_Mo_day_88 : decode b_Mo_day 88 = .ok (.lstore_n 1, 1) := by decide +kernel
theorem d_Mo_day_89 : decode b_Mo_day 89 = .ok (.iinc 3 1, 3) := by decide +kernel
theorem d_Mo_day_92 : decode b_Mo_day 92 = .ok (.goto (-78), 3) := by decide +kernel
theorem d_Mo_day_95 : decode b_Mo_day 95 = .ok (.lload_n 1, 1) := by decide +kernel
theorem d_Mo_day_96 : decode b_Mo_day 96 = .ok (.lreturn, 1) := by decide +kernel
theorem d_Mo_command_0 : decode b_Mo_command 0 = .ok (.aload_n 0, 1) := by decide +kernel
theorem d_Mo_command_1 : decode b_Mo_command 1 = .ok (.getfield 81, 3) := by decide +kernel
theorem d_Mo_command_4 : decode b_Mo_command 4 = .ok (.ifCond .eq 23, 3) := by decide +kernel
theorem d_Mo_command_7 : decode b_Mo_command 7 = .ok (.aload_n 0, 1) := by decide +kernel
theorem d_Mo_command_8 : decode b_Mo_command 8 = .ok (.iload_n 1, 1) := by decide +kernel
theorem d_Mo_command_9 : decode b_Mo_command 9 = .ok (.invokevirtual 85, 3) := by decide +kernel
theorem d_Mo_command_12 : decode b_Mo_command 12 = .ok (.ifCond .eq 15, 3) := by decide +kernel
theorem d_Mo_command_15 : decode b_Mo_command 15 = .ok (.iload_n 2, 1) := by decide +kernel
theorem d_Mo_command_16 : decode b_Mo_command 16 = .ok (.i2l, 1) := by decide +kernel
theorem d_Mo_command_17 : decode b_Mo_command 17 = .ok (.lconst 0, 1) := by decide +kernel
theorem d_Mo_command_18 : decode b_Mo_command 18 = .ok (.ldc2_w 156, 3) := by decide +kernel
theorem d_Mo_command_21 : decode b_Mo_command 21 = .ok (.invokestatic 69, 3) := by decide +kernel
theorem d_Mo_command_24 : decode b_Mo_command 24 = .ok (.ifCond .ne 5, 3) := by decide +kernel
theorem d_Mo_command_27 : decode b_Mo_command 27 = .ok (.iconst (-1), 1) := by decide +kernel
theorem d_Mo_command_28 : decode b_Mo_command 28 = .ok (.ireturn, 1) := by decide +kernel
theorem d_Mo_command_29 : decode b_Mo_command 29 = .ok (.aload_n 0, 1) := by decide +kernel
theorem d_Mo_command_30 : decode b_Mo_command 30 = .ok (.getfield 38, 3) := by decide +kernel
theorem d_Mo_command_33 : decode b_Mo_command 33 = .ok (.iload_n 1, 1) := by decide +kernel
theorem d_Mo_command_34 : decode b_Mo_command 34 = .ok (.iaload, 1) := by decide +kernel
theorem d_Mo_command_35 : decode b_Mo_command 35 = .ok (.iload_n 2, 1) := by decide +kernel
theorem d_Mo_command_36 : decode b_Mo_command 36 = .ok (.iconst 2, 1) := by decide +kernel
theorem d_Mo_command_37 : decode b_Mo_command 37 = .ok (.idiv, 1) := by decide +kernel
theorem d_Mo_command_38 : decode b_Mo_command 38 = .ok (.aload_n 0, 1) := by decide +kernel
theorem d_Mo_command_39 : decode b_Mo_command 39 = .ok (.getfield 97, 3) := by decide +kernel
theorem d_Mo_command_42 : decode b_Mo_command 42 = .ok (.imul, 1) := by decide +kernel
theorem d_Mo_command_43 : decode b_Mo_command 43 = .ok (.iadd, 1) := by decide +kernel
theorem d_Mo_command_44 : decode b_Mo_command 44 = .ok (.iload_n 2, 1) := by decide +kernel
theorem d_Mo_command_45 : decode b_Mo_command 45 = .ok (.iconst 2, 1) := by decide +kernel
theorem d_Mo_command_46 : decode b_Mo_command 46 = .ok (.irem, 1) := by decide +kernel
theorem d_Mo_command_47 : decode b_Mo_command 47 = .ok (.ifCond .ne 7, 3) := by decide +kernel
theorem d_Mo_command_50 : decode b_Mo_command 50 = .ok (.iconst 0, 1) := by decide +kernel
theorem d_Mo_command_51 : decode b_Mo_command 51 = .ok (.goto 9, 3) := by decide +kernel
theorem d_Mo_command_54 : decode b_Mo_command 54 = .ok (.aload_n 0, 1) := by decide +kernel
theorem d_Mo_command_55 : decode b_Mo_command 55 = .ok (.getfield 7, 3) := by decide +kernel
theorem d_Mo_command_58 : decode b_Mo_command 58 = .ok (.iload_n 1, 1) := by decide +kernel
theorem d_Mo_command_59 : decode b_Mo_command 59 = .ok (.iaload, 1) := by decide +kernel
theorem d_Mo_command_60 : decode b_Mo_command 60 = .ok (.iadd, 1) := by decide +kernel
theorem d_Mo_command_61 : decode b_Mo_command 61 = .ok (.ireturn, 1) := by decide +kernel
theorem d_Mo_fits_0 : decode b_Mo_fits 0 = .ok (.aload_n 0, 1) := by decide +kernel
theorem d_Mo_fits_1 : decode b_Mo_fits 1 = .ok (.getfield 81, 3) := by decide +kernel
theorem d_Mo_fits_4 : decode b_Mo_fits 4 = .ok (.ifCond .eq 28, 3) := by decide +kernel
theorem d_Mo_fits_7 : decode b_Mo_fits 7 = .ok (.aload_n 0, 1) := by decide +kernel
theorem d_Mo_fits_8 : decode b_Mo_fits 8 = .ok (.iload_n 1, 1) := by decide +kernel
theorem d_Mo_fits_9 : decode b_Mo_fits 9 = .ok (.invokevirtual 85, 3) := by decide +kernel
theorem d_Mo_fits_12 : decode b_Mo_fits 12 = .ok (.ifCond .eq 20, 3) := by decide +kernel
theorem d_Mo_fits_15 : decode b_Mo_fits 15 = .ok (.aload_n 0, 1) := by decide +kernel
theorem d_Mo_fits_16 : decode b_Mo_fits 16 = .ok (.getfield 13, 3) := by decide +kernel
theorem d_Mo_fits_19 : decode b_Mo_fits 19 = .ok (.iload_n 1, 1) := by decide +kernel
theorem d_Mo_fits_20 : decode b_Mo_fits 20 = .ok (.iaload, 1) := by decide +kernel
theorem d_Mo_fits_21 : decode b_Mo_fits 21 = .ok (.aload_n 0, 1) := by decide +kernel
theorem d_Mo_fits_22 : decode b_Mo_fits 22 = .ok (.getfield 97, 3) := by decide +kernel
theorem d_Mo_fits_25 : decode b_Mo_fits 25 = .ok (.if_icmp .gt 7, 3) := by decide +kernel
theorem d_Mo_fits_28 : decode b_Mo_fits 28 = .ok (.iconst 1, 1) := by decide +kernel
theorem d_Mo_fits_29 : decode b_Mo_fits 29 = .ok (.goto 4, 3) := by decide +kernel
theorem d_Mo_fits_32 : decode b_Mo_fits 32 = .ok (.iconst 0, 1) := by decide +kernel
theorem d_Mo_fits_33 : decode b_Mo_fits 33 = .ok (.ireturn, 1) := by decide +kernel
theorem d_Mo_count_0 : decode b_Mo_count 0 = .ok (.iload_n 1, 1) := by decide +kernel
theorem d_Mo_count_1 : decode b_Mo_count 1 = .ok (.i2l, 1) := by decide +kernel
theorem d_Mo_count_2 : decode b_Mo_count 2 = .ok (.lconst 0, 1) := by decide +kernel
theorem d_Mo_count_3 : decode b_Mo_count 3 = .ok (.ldc2_w 172, 3) := by decide +kernel
theorem d_Mo_count_6 : decode b_Mo_count 6 = .ok (.invokestatic 69, 3) := by decide +kernel
theorem d_Mo_count_9 : decode b_Mo_count 9 = .ok (.ifCond .ne 7, 3) := by decide +kernel
theorem d_Mo_count_12 : decode b_Mo_count 12 = .ok (.ldc2_w 145, 3) := by decide +kernel
theorem d_Mo_count_15 : decode b_Mo_count 15 = .ok (.lreturn, 1) := by decide +kernel
theorem d_Mo_count_16 : decode b_Mo_count 16 = .ok (.iload_n 1, 1) := by decide +kernel
theorem d_Mo_count_17 : decode b_Mo_count 17 = .ok (.ifCond .ne 11, 3) := by decide +kernel
theorem d_Mo_count_20 : decode b_Mo_count 20 = .ok (.aload_n 0, 1) := by decide +kernel
theorem d_Mo_count_21 : decode b_Mo_count 21 = .ok (.getfield 66, 3) := by decide +kernel
theorem d_Mo_count_24 : decode b_Mo_count 24 = .ok (.i2l, 1) := by decide +kernel
theorem d_Mo_count_25 : decode b_Mo_count 25 = .ok (.goto 59, 3) := by decide +kernel
theorem d_Mo_count_28 : decode b_Mo_count 28 = .ok (.iload_n 1, 1) := by decide +kernel
theorem d_Mo_count_29 : decode b_Mo_count 29 = .ok (.iconst 1, 1) := by decide +kernel
theorem d_Mo_count_30 : decode b_Mo_count 30 = .ok (.if_icmp .ne 10, 3) := by decide +kernel
theorem d_Mo_count_33 : decode b_Mo_count 33 = .ok (.aload_n 0, 1) := by decide +kernel
theorem d_Mo_count_34 : decode b_Mo_count 34 = .ok (.invokevirtual 124, 3) := by decide +kernel
theorem d_Mo_count_37 : decode b_Mo_count 37 = .ok (.goto 47, 3) := by decide +kernel
theorem d_Mo_count_40 : decode b_Mo_count 40 = .ok (.iload_n 1, 1) := by decide +kernel
theorem d_Mo_count_41 : decode b_Mo_count 41 = .ok (.iconst 2, 1) := by decide +kernel
theorem d_Mo_count_42 : decode b_Mo_count 42 = .ok (.if_icmp .ne 11, 3) := by decide +kernel
theorem d_Mo_count_45 : decode b_Mo_count 45 = .ok (.aload_n 0, 1) := by decide +kernel
theorem d_Mo_count_46 : decode b_Mo_count 46 = .ok (.getfield 160, 3) := by decide +kernel
theorem d_Mo_count_49 : decode b_Mo_count 49 = .ok (.i2l, 1) := by decide +kernel
theorem d_Mo_count_50 : decode b_Mo_count 50 = .ok (.goto 34, 3) := by decide +kernel
theorem d_Mo_count_53 : decode b_Mo_count 53 = .ok (.iload_n 1, 1) := by decide +kernel
theorem d_Mo_count_54 : decode b_Mo_count 54 = .ok (.iconst 3, 1) := by decide +kernel
theorem d_Mo_count_55 : decode b_Mo_count 55 = .ok (.if_icmp .ne 11, 3) := by decide +kernel
theorem d_Mo_count_58 : decode b_Mo_count 58 = .ok (.aload_n 0, 1) := by decide +kernel
theorem d_Mo_count_59 : decode b_Mo_count 59 = .ok (.invokevirtual 165, 3) := by decide +kernel
theorem d_Mo_count_62 : decode b_Mo_count 62 = .ok (.i2l, 1) := by decide +kernel
theorem d_Mo_count_63 : decode b_Mo_count 63 = .ok (.goto 21, 3) := by decide +kernel
theorem d_Mo_count_66 : decode b_Mo_count 66 = .ok (.aload_n 0, 1) := by decide +kernel
theorem d_Mo_count_67 : decode b_Mo_count 67 = .ok (.getfield 81, 3) := by decide +kernel
theorem d_Mo_count_70 : decode b_Mo_count 70 = .ok (.ifCond .eq 11, 3) := by decide +kernel
theorem d_Mo_count_73 : decode b_Mo_count 73 = .ok (.aload_n 0, 1) := by decide +kernel
theorem d_Mo_count_74 : decode b_Mo_count 74 = .ok (.getfield 135, 3) := by decide +kernel
theorem d_Mo_count_77 : decode b_Mo_count 77 = .ok (.i2l, 1) := by decide +kernel
theorem d_Mo_count_78 : decode b_Mo_count 78 = .ok (.goto 6, 3) := by decide +kernel
theorem d_Mo_count_81 : decode b_Mo_count 81 = .ok (.ldc2_w 145, 3) := by decide +kernel
theorem d_Mo_count_84 : decode b_Mo_count 84 = .ok (.lreturn, 1) := by decide +kernel
theorem d_Mo_init_0 : decode b_Mo_init 0 = .ok (.aload_n 0, 1) := by decide +kernel
theorem d_Mo_init_1 : decode b_Mo_init 1 = .ok (.invokespecial 1, 3) := by decide +kernel
theorem d_Mo_init_4 : decode b_Mo_init 4 = .ok (.aload_n 0, 1) := by decide +kernel
theorem d_Mo_init_5 : decode b_Mo_init 5 = .ok (.iconst 5, 1) := by decide +kernel
theorem d_Mo_init_6 : decode b_Mo_init 6 = .ok (.newarray .int, 2) := by decide +kernel
theorem d_Mo_init_8 : decode b_Mo_init 8 = .ok (.putfield 7, 3) := by decide +kernel
theorem d_Mo_init_11 : decode b_Mo_init 11 = .ok (.aload_n 0, 1) := by decide +kernel
theorem d_Mo_init_12 : decode b_Mo_init 12 = .ok (.iconst 5, 1) := by decide +kernel
theorem d_Mo_init_13 : decode b_Mo_init 13 = .ok (.newarray .int, 2) := by decide +kernel
theorem d_Mo_init_15 : decode b_Mo_init 15 = .ok (.putfield 13, 3) := by decide +kernel
theorem d_Mo_init_18 : decode b_Mo_init 18 = .ok (.aload_n 0, 1) := by decide +kernel
theorem d_Mo_init_19 : decode b_Mo_init 19 = .ok (.iconst 5, 1) := by decide +kernel
theorem d_Mo_init_20 : decode b_Mo_init 20 = .ok (.newarray .int, 2) := by decide +kernel
theorem d_Mo_init_22 : decode b_Mo_init 22 = .ok (.putfield 16, 3) := by decide +kernel
theorem d_Mo_init_25 : decode b_Mo_init 25 = .ok (.aload_n 0, 1) := by decide +kernel
theorem d_Mo_init_26 : decode b_Mo_init 26 = .ok (.bipush 10, 2) := by decide +kernel
theorem d_Mo_init_28 : decode b_Mo_init 28 = .ok (.newarray .int, 2) := by decide +kernel
theorem d_Mo_init_30 : decode b_Mo_init 30 = .ok (.putfield 19, 3) := by decide +kernel
theorem d_Mo_init_33 : decode b_Mo_init 33 = .ok (.aload_n 0, 1) := by decide +kernel
theorem d_Mo_init_34 : decode b_Mo_init 34 = .ok (.bipush 10, 2) := by decide +kernel
theorem d_Mo_init_36 : decode b_Mo_init 36 = .ok (.newarray .int, 2) := by decide +kernel
theorem d_Mo_init_38 : decode b_Mo_init 38 = .ok (.putfield 22, 3) := by decide +kernel
theorem d_Mo_init_41 : decode b_Mo_init 41 = .ok (.aload_n 0, 1) := by decide +kernel
theorem d_Mo_init_42 : decode b_Mo_init 42 = .ok (.bipush 10, 2) := by decide +kernel
theorem d_Mo_init_44 : decode b_Mo_init 44 = .ok (.putfield 25, 3) := by decide +kernel
theorem d_Mo_init_47 : decode b_Mo_init 47 = .ok (.aload_n 0, 1) := by decide +kernel
theorem d_Mo_init_48 : decode b_Mo_init 48 = .ok (.bipush 120, 2) := by decide +kernel
theorem d_Mo_init_50 : decode b_Mo_init 50 = .ok (.putfield 29, 3) := by decide +kernel
theorem d_Mo_init_53 : decode b_Mo_init 53 = .ok (.aload_n 0, 1) := by decide +kernel
theorem d_Mo_init_54 : decode b_Mo_init 54 = .ok (.bipush 10, 2) := by decide +kernel
theorem d_Mo_init_56 : decode b_Mo_init 56 = .ok (.putfield 32, 3) := by decide +kernel
theorem d_Mo_init_59 : decode b_Mo_init 59 = .ok (.aload_n 0, 1) := by decide +kernel
theorem d_Mo_init_60 : decode b_Mo_init 60 = .ok (.iconst 5, 1) := by decide +kernel
theorem d_Mo_init_61 : decode b_Mo_init 61 = .ok (.putfield 35, 3) := by decide +kernel
theorem d_Mo_init_64 : decode b_Mo_init 64 = .ok (.aload_n 0, 1) := by decide +kernel
theorem d_Mo_init_65 : decode b_Mo_init 65 = .ok (.iconst 5, 1) := by decide +kernel
theorem d_Mo_init_66 : decode b_Mo_init 66 = .ok (.newarray .int, 2) := by decide +kernel
theorem d_Mo_init_68 : decode b_Mo_init 68 = .ok (.putfield 38, 3) := by decide +kernel
theorem d_Mo_init_71 : decode b_Mo_init 71 = .ok (.aload_n 0, 1) := by decide +kernel
theorem d_Mo_init_72 : decode b_Mo_init 72 = .ok (.iconst 5, 1) := by decide +kernel
theorem d_Mo_init_73 : decode b_Mo_init 73 = .ok (.newarray .int, 2) := by decide +kernel
theorem d_Mo_init_75 : decode b_Mo_init 75 = .ok (.putfield 41, 3) := by decide +kernel
theorem d_Mo_init_78 : decode b_Mo_init 78 = .ok (.aload_n 0, 1) := by decide +kernel
theorem d_Mo_init_79 : decode b_Mo_init 79 = .ok (.sipush 600, 3) := by decide +kernel
theorem d_Mo_init_82 : decode b_Mo_init 82 = .ok (.newarray .boolean, 2) := by decide +kernel
theorem d_Mo_init_84 : decode b_Mo_init 84 = .ok (.putfield 44, 3) := by decide +kernel
theorem d_Mo_init_87 : decode b_Mo_init 87 = .ok (.aload_n 0, 1) := by decide +kernel
theorem d_Mo_init_88 : decode b_Mo_init 88 = .ok (.bipush 40, 2) := by decide +kernel
theorem d_Mo_init_90 : decode b_Mo_init 90 = .ok (.newarray .int, 2) := by decide +kernel
theorem d_Mo_init_92 : decode b_Mo_init 92 = .ok (.putfield 48, 3) := by decide +kernel
theorem d_Mo_init_95 : decode b_Mo_init 95 = .ok (.aload_n 0, 1) := by decide +kernel
theorem d_Mo_init_96 : decode b_Mo_init 96 = .ok (.bipush 40, 2) := by decide +kernel
theorem d_Mo_init_98 : decode b_Mo_init 98 = .ok (.newarray .int, 2) := by decide +kernel
theorem d_Mo_init_100 : decode b_Mo_init 100 = .ok (.putfield 51, 3) := by decide +kernel
theorem d_Mo_init_103 : decode b_Mo_init 103 = .ok (.aload_n 0, 1) := by decide +kernel
theorem d_Mo_init_104 : decode b_Mo_init 104 = .ok (.bipush 40, 2) := by decide +kernel
theorem d_Mo_init_106 : decode b_Mo_init 106 = .ok (.newarray .int, 2) := by decide +kernel
theorem d_Mo_init_108 : decode b_Mo_init 108 = .ok (.putfield 54, 3) := by decide +kernel
theorem d_Mo_init_111 : decode b_Mo_init 111 = .ok (.aload_n 0, 1) := by decide +kernel
theorem d_Mo_init_112 : decode b_Mo_init 112 = .ok (.bipush 24, 2) := by decide +kernel
theorem d_Mo_init_114 : decode b_Mo_init 114 = .ok (.newarray .int, 2) := by decide +kernel
theorem d_Mo_init_116 : decode b_Mo_init 116 = .ok (.putfield 57, 3) := by decide +kernel
theorem d_Mo_init_119 : decode b_Mo_init 119 = .ok (.aload_n 0, 1) := by decide +kernel
theorem d_Mo_init_120 : decode b_Mo_init 120 = .ok (.bipush 24, 2) := by decide +kernel
theorem d_Mo_init_122 : decode b_Mo_init 122 = .ok (.newarray .int, 2) := by decide +kernel
theorem d_Mo_init_124 : decode b_Mo_init 124 = .ok (.putfield 60, 3) := by decide +kernel
theorem d_Mo_init_127 : decode b_Mo_init 127 = .ok (.aload_n 0, 1) := by decide +kernel
theorem d_Mo_init_128 : decode b_Mo_init 128 = .ok (.bipush 120, 2) := by decide +kernel
theorem d_Mo_init_130 : decode b_Mo_init 130 = .ok (.newarray .int, 2) := by decide +kernel
theorem d_Mo_init_132 : decode b_Mo_init 132 = .ok (.putfield 63, 3) := by decide +kernel
theorem d_Mo_init_135 : decode b_Mo_init 135 = .ok (.return_, 1) := by decide +kernel
set_option maxRecDepth 50000 in
theorem lk_503 : Cond.fieldLink R_Mo 57 "WaveOffsetsModel" "hourCrossings" "[I" ∈ lw_good := List.mem_filter.mpr ⟨List.mem_append_right _ (List.mem_of_getElem? (i := 636) (by decide +kernel)), rfl⟩
set_option maxRecDepth 50000 in
theorem lk_504 : Cond.constantLong R_Mo 163 23 ∈ lw_good := List.mem_filter.mpr ⟨List.mem_append_right _ (List.mem_of_getElem? (i := 815) (by decide +kernel)), rfl⟩
set_option maxRecDepth 50000 in
theorem lk_505 : Cond.fieldLink R_Mo 60 "WaveOffsetsModel" "hourCycles" "[I" ∈ lw_good := List.mem_filter.mpr ⟨List.mem_append_right _ (List.mem_of_getElem? (i := 637) (by decide +kernel)), rfl⟩
set_option maxRecDepth 50000 in
theorem lk_506 : Cond.fieldLink R_Mo 63 "WaveOffsetsModel" "hourOffsets" "[I" ∈ lw_good := List.mem_filter.mpr ⟨List.mem_append_right _ (List.mem_of_getElem? (i := 638) (by decide +kernel)), rfl⟩
set_option maxRecDepth 50000 in
theorem lk_507 : Cond.methodLink R_Mo 165 y_Mo_hours ∈ lw_good := List.mem_filter.mpr ⟨List.mem_append_right _ (List.mem_of_getElem? (i := 816) (by decide +kernel)), rfl⟩
set_option maxRecDepth 50000 in
theorem lk_508 : Cond.code y_Mo_hours b_Mo_hours 3 (some .int) ∈ lw_good := List.mem_filter.mpr ⟨List.mem_append_right _ (List.mem_of_getElem? (i := 819) rfl), rfl⟩
set_option maxRecDepth 50000 in
theorem lk_509 : Cond.instanceMethod y_Mo_hours ∈ lw_good := List.mem_filter.mpr ⟨List.mem_append_right _ (List.mem_of_getElem? (i := 818) (by decide +kernel)), rfl⟩
set_option maxRecDepth 50000 in
theorem lk_510 : Cond.selects R_Mo y_Mo_hours y_Mo_hours ∈ lw_good := List.mem_filter.mpr ⟨List.mem_append_left _ (List.mem_of_getElem? (i := 21) (by decide +kernel)), rfl⟩
set_option maxRecDepth 50000 in
theorem lk_511 : Cond.methodLink R_Mo 169 y_Mo_change ∈ lw_good := List.mem_filter.mpr ⟨List.mem_append_right _ (List.mem_of_getElem? (i := 828) (by decide +kernel)), rfl⟩
set_option maxRecDepth 50000 in
theorem lk_512 : Cond.code y_Mo_change b_Mo_change 8 (some .long) ∈ lw_good := List.mem_filter.mpr ⟨List.mem_append_right _ (List.mem_of_getElem? (i := 823) rfl), rfl⟩
set_option maxRecDepth 50000 in
theorem lk_513 : Cond.instanceMethod y_Mo_change ∈ lw_good := List.mem_filter.mpr ⟨List.mem_append_right _ (List.mem_of_getElem? (i := 821) (by decide +kernel)), rfl⟩
set_option maxRecDepth 50000 in
theorem lk_514 : Cond.selects R_Mo y_Mo_change y_Mo_change ∈ lw_good := List.mem_filter.mpr ⟨List.mem_append_right _ (List.mem_of_getElem? (i := 822) (by decide +kernel)), rfl⟩
set_option maxRecDepth 50000 in
theorem lk_515 : Cond.constantLong R_Mo 172 4 ∈ lw_good := List.mem_filter.mpr ⟨List.mem_append_right _ (List.mem_of_getElem? (i := 841) (by decide +kernel)), rfl⟩
set_option maxRecDepth 50000 in
theorem lk_516 : Cond.methodLink R_Mo 1 objectInit ∈ lw_good := List.mem_filter.mpr ⟨List.mem_append_right _ (List.mem_of_getElem? (i := 614) (by decide +kernel)), rfl⟩
set_option maxRecDepth 50000 in
theorem lk_517 : Cond.arrayClass .boolean ∈ lw_good := List.mem_filter.mpr ⟨List.mem_append_right _ (List.mem_of_getElem? (i := 688) (by decide +kernel)), rfl⟩
def p_Mo_hours_4 (n : Nat) : Nat → (Nat → Int32) → Int32 → Int32 → Option (Int32)
  | 0, _, _, _ => none
  | k + 1, v_t_hourCrossings, z1, z2 =>
    if (24 : Int32) ≤ z2 then
      some z1
    else
      if dk_in z2 24 = true then
        if (v_t_hourCrossings z2.toNatClampNeg) ≤ 0 then
          p_Mo_hours_4 n k v_t_hourCrossings (z1 + (0 : Int32)) (z2 + (1 : Int32))
        else
          p_Mo_hours_4 n k v_t_hourCrossings (z1 + (1 : Int32)) (z2 + (1 : Int32))
      else none
theorem q_Mo_hours_4 (n k : Nat) (v_t_hourCrossings : Nat → Int32) (z1 : Int32) (z2 : Int32) : p_Mo_hours_4 n (k + 1) v_t_hourCrossings z1 z2 =
    if (24 : Int32) ≤ z2 then
      some z1
    else
      if dk_in z2 24 = true then
        if (v_t_hourCrossings z2.toNatClampNeg) ≤ 0 then
          p_Mo_hours_4 n k v_t_hourCrossings (z1 + (0 : Int32)) (z2 + (1 : Int32))
        else
          p_Mo_hours_4 n k v_t_hourCrossings (z1 + (1 : Int32)) (z2 + (1 : Int32))
      else none := rfl
def p_Mo_hours (n : Nat) (v_t_hourCrossings : Nat → Int32) : Option (Int32) :=
  (p_Mo_hours_4 n n v_t_hourCrossings (0 : Int32) (0 : Int32)).bind fun q4_3 =>
  some q4_3
abbrev m_Mo_hours : Room := { frames := 0, cells := 0, slots := 0, locals := 0 }
set_option maxHeartbeats 4000000 in
set_option maxRecDepth 100000 in
theorem c_Mo_hours (l : Launch) (G : va_G) (K : Nat → ClassId) (n : Nat) (t : Nat) (t_greens : Nat) (t_leasts : Nat) (t_queues : Nat) (t_seconds : Nat) (t_weights : Nat) (t_offsets : Nat) (t_row : Nat) (t_open : Nat) (t_places : Nat) (t_times : Nat) (t_cars : Nat) (t_hourCrossings : Nat) (t_hourCycles : Nat) (t_hourOffsets : Nat) (v_t_crossings : Int32) (v_t_first : Int32) (v_t_last : Int32) (v_t_by : Int32) (v_t_step : Int32) (v_t_has : Int32) (v_t_cycle : Int32) (v_t_aim : Int32) (v_t_proved : Int32) (v_t_arrivals : Int32) (v_t_hourCrossings : Nat → Int32) (o : Int32) (hF : p_Mo_hours n v_t_hourCrossings = some o) :
    Met l y_Mo_hours (wd y_Mo_hours b_Mo_hours 3 (some .int)) m_Mo_hours (dk_Pp [.ref t] G K [(t, .inr (8, [.int v_t_crossings, .ref t_greens, .ref t_leasts, .ref t_queues, .ref t_seconds, .ref t_weights, .int v_t_first, .int v_t_last, .int v_t_by, .int v_t_step, .int v_t_has, .int v_t_cycle, .int v_t_aim, .int v_t_proved, .ref t_offsets, .ref t_row, .ref t_open, .int v_t_arrivals, .ref t_places, .ref t_times, .ref t_cars, .ref t_hourCrossings, .ref t_hourCycles, .ref t_hourOffsets])), (t_hourCrossings, .inl (K 0, 24, .inl v_t_hourCrossings))]) (dk_Qp (some (.int o))) 0 0 (fun _ => False) := by
  refine Met.ofW (cc := b_Mo_hours) (maxL := 3) (ret := (some .int)) (by decide) rfl ?_
  intro p e s m args below meth c s₁ B hml hv
  obtain ⟨rfl, hP, hK, hN⟩ := hv
  have hx := B.exec
  have hb := B.bytes
  have hr := B.returns
  have hts : ∀ w ∈ lw_good, w.before _ s = true := fun w h => atoms_spec (ws := wd y_Mo_hours b_Mo_hours 3 (some .int)) B.pre w (List.mem_cons_of_mem _ h)
  have hown : s.vm.findClass R_Mo = some m.cls := findClass_of_methodNamed B.named
  have hlocks := B.notSynchronized
  have hfix : CallFix p m c b_Mo_hours 3 s _ lw_good R_Mo := ⟨hx, hb, hml, hown, hts⟩
  have hl := lv_entry ([.ref t]) (n := 3) (Nat.le_of_ble_eq_true rfl)
  rw [lg_entry_eq]
  generalize (lg_sl ([.ref t]) ++ List.replicate (3 - (lg_sl ([.ref t])).length) Slot.unset).toArray = ls at hl ⊢
  have hl : lv_has ls 3 [(0, .ref t)] := hl
  change W p l e m_Mo_hours s m _ below meth c s.heap [] 0 0 _ _
  have L4 : ∀ (k : Nat) (z1 : Int32) (z2 : Int32) (q : Int32), p_Mo_hours_4 n k v_t_hourCrossings z1 z2 = some q → ∀ ls : Array Slot, lv_has ls 3 [(0, .ref t), (1, .int z1), (2, .int z2)] → (∀ (ls1 : Array Slot), lv_has ls1 3 [(1, .int q)] → W p l e m_Mo_hours s m ([.ref t] : List Value).toArray below meth c s.heap [] 0 0 (MQ below (dk_Qp (some (.int o))) ([.ref t] : List Value).toArray s 0 0 (fun _ => False)) (F0 m 33 ls1 [])) → W p l e m_Mo_hours s m ([.ref t] : List Value).toArray below meth c s.heap [] 0 0 (MQ below (dk_Qp (some (.int o))) ([.ref t] : List Value).toArray s 0 0 (fun _ => False)) (F0 m 4 ls []) := by
    intro k
    induction k with
    | zero =>
      intro z1 z2 q hF ls hl hk
      exact absurd hF (by simp [p_Mo_hours_4])
    | succ k jh =>
      intro z1 z2 q hF ls hl hk
      have hF := (q_Mo_hours_4 n k v_t_hourCrossings z1 z2).symm.trans hF
      refine lv_iload_n hx hb d_Mo_hours_4 rfl (lv_at hl 2 rfl) ?_
      refine lv_bipush (v := (24 : Int32)) hx hb d_Mo_hours_5 (by decide) ?_
      refine lv_icmp_ge (tgt := 33) hx hb d_Mo_hours_7 (by decide) (fun c7_1 => ?_) (fun c7_1 => ?_)
      · have hF := dk_t c7_1 hF
        obtain rfl := Option.some.inj hF
        exact hk ls (lv_sub hl [1] rfl)
      · have hF := dk_f c7_1 hF
        refine lv_iload_n hx hb d_Mo_hours_10 rfl (lv_at hl 1 rfl) ?_
        refine lv_aload_n hx hb d_Mo_hours_11 rfl (lv_at hl 0 rfl) ?_
        refine va_get (D := G) (ci := 8) (v := .ref t_hourCrossings) (C := R_Mo) (T := F_Mo) (N := 24) hx hb hts i_Mo hown hK hP 0 rfl rfl 21 (by decide) (hts _ lk_503) (fun _ h9 => h9) rfl d_Mo_hours_12 ?_
        refine lv_iload_n hx hb d_Mo_hours_15 rfl (lv_at hl 2 rfl) ?_
        obtain ⟨hi, hF⟩ := dk_a hF
        refine va_iald (D := G) hx hb hK hP 1 0 rfl rfl (dk_vp hi) d_Mo_hours_16 ?_
        refine lv_if_le (tgt := 24) hx hb d_Mo_hours_17 (by decide) (fun c17_2 => ?_) (fun c17_2 => ?_)
        · have hF := dk_t c17_2 hF
          refine lv_iconst (v := (0 : Int32)) hx hb d_Mo_hours_24 (by decide) ?_
          refine lv_iadd hx hb d_Mo_hours_25 ?_
          refine lv_istore_n (lv' := [(1, .int (z1 + (0 : Int32))), (0, .ref t), (2, .int z2)]) hx hb d_Mo_hours_26 rfl hl (by decide) rfl (fun ls hl => ?_)
          refine lv_iinc (v := z2 + (1 : Int32)) (lv' := [(2, .int (z2 + (1 : Int32))), (1, .int (z1 + (0 : Int32))), (0, .ref t)]) hx hb d_Mo_hours_27 hl (k := 2) rfl rfl (by decide) rfl (fun ls hl => ?_)
          refine lv_goto (tgt := 4) hx hb d_Mo_hours_30 (by decide) ?_
          exact jh (z1 + (0 : Int32)) (z2 + (1 : Int32)) q hF ls (lv_sub hl [2, 1, 0] rfl) hk
        · have hF := dk_f c17_2 hF
          refine lv_iconst (v := (1 : Int32)) hx hb d_Mo_hours_20 (by decide) ?_
          refine lv_goto (tgt := 25) hx hb d_Mo_hours_21 (by decide) ?_
          refine lv_iadd hx hb d_Mo_hours_25 ?_
          refine lv_istore_n (lv' := [(1, .int (z1 + (1 : Int32))), (0, .ref t), (2, .int z2)]) hx hb d_Mo_hours_26 rfl hl (by decide) rfl (fun ls hl => ?_)
          refine lv_iinc (v := z2 + (1 : Int32)) (lv' := [(2, .int (z2 + (1 : Int32))), (1, .int (z1 + (1 : Int32))), (0, .ref t)]) hx hb d_Mo_hours_27 hl (k := 2) rfl rfl (by decide) rfl (fun ls hl => ?_)
          refine lv_goto (tgt := 4) hx hb d_Mo_hours_30 (by decide) ?_
          exact jh (z1 + (1 : Int32)) (z2 + (1 : Int32)) q hF ls (lv_sub hl [2, 1, 0] rfl) hk
  unfold p_Mo_hours at hF
  refine lv_iconst (v := (0 : Int32)) hx hb d_Mo_hours_0 (by decide) ?_
  refine lv_istore_n (lv' := [(1, .int (0 : Int32)), (0, .ref t)]) hx hb d_Mo_hours_1 rfl hl (by decide) rfl (fun ls hl => ?_)
  refine lv_iconst (v := (0 : Int32)) hx hb d_Mo_hours_2 (by decide) ?_
  refine lv_istore_n (lv' := [(2, .int (0 : Int32)), (1, .int (0 : Int32)), (0, .ref t)]) hx hb d_Mo_hours_3 rfl hl (by decide) rfl (fun ls hl => ?_)
  obtain ⟨q4_3, hC, hF⟩ := dk_b hF
  refine L4 n (0 : Int32) (0 : Int32) q4_3 hC ls (lv_sub hl [2, 1, 0] rfl) (fun ls hl => ?_)
  refine lv_iload_n hx hb d_Mo_hours_33 rfl (lv_at hl 0 rfl) ?_
  obtain rfl := Option.some.inj hF
  exact W.iret (v := q4_3) hx hb hr (fun t ht hW => ⟨rfl, ht⟩) (fun _ h => by cases h) d_Mo_hours_34
def p_Mo_plan_43 (n : Nat) : Nat → Int32 → (Nat → Int32) → Int32 → Int32 → (Nat → Int32) → Option ((Nat → Int32))
  | 0, _, _, _, _, _ => none
  | k + 1, v_t_crossings, v_t_offsets, z1, z2, v_t_hourOffsets =>
    if v_t_crossings ≤ z2 then
      some v_t_hourOffsets
    else
      if dk_in z2 5 = true then
        if dk_in (((5 : Int32) * z1) + z2) 120 = true then
          p_Mo_plan_43 n k v_t_crossings v_t_offsets z1 (z2 + (1 : Int32)) (upd v_t_hourOffsets (((5 : Int32) * z1) + z2).toNatClampNeg (v_t_offsets z2.toNatClampNeg))
        else none
      else none
theorem q_Mo_plan_43 (n k : Nat) (v_t_crossings : Int32) (v_t_offsets : Nat → Int32) (z1 : Int32) (z2 : Int32) (v_t_hourOffsets : Nat → Int32) : p_Mo_plan_43 n (k + 1) v_t_crossings v_t_offsets z1 z2 v_t_hourOffsets =
    if v_t_crossings ≤ z2 then
      some v_t_hourOffsets
    else
      if dk_in z2 5 = true then
        if dk_in (((5 : Int32) * z1) + z2) 120 = true then
          p_Mo_plan_43 n k v_t_crossings v_t_offsets z1 (z2 + (1 : Int32)) (upd v_t_hourOffsets (((5 : Int32) * z1) + z2).toNatClampNeg (v_t_offsets z2.toNatClampNeg))
        else none
      else none := rfl
def p_Mo_plan (n : Nat) (x1 : Int32) (v_t_has : Int32) (v_t_crossings : Int32) (v_t_cycle : Int32) (v_t_offsets : Nat → Int32) (v_t_hourCrossings : Nat → Int32) (v_t_hourCycles : Nat → Int32) (v_t_hourOffsets : Nat → Int32) : Option (Int32 × (Nat → Int32) × (Nat → Int32) × (Nat → Int32)) :=
  if v_t_has = 0 then
    some (((-1) : Int32), v_t_hourCrossings, v_t_hourCycles, v_t_hourOffsets)
  else
    (p_Mo_isIn n x1.toInt64 (0 : Int64) (23 : Int64)).bind fun r13_2 =>
    if r13_2 = 0 then
      some (((-1) : Int32), v_t_hourCrossings, v_t_hourCycles, v_t_hourOffsets)
    else
      if dk_in x1 24 = true then
        if dk_in x1 24 = true then
          (p_Mo_plan_43 n n v_t_crossings v_t_offsets x1 (0 : Int32) v_t_hourOffsets).bind fun q43_5 =>
          (p_Mo_hours n (upd v_t_hourCrossings x1.toNatClampNeg v_t_crossings)).bind fun r74_6 =>
          some (r74_6, upd v_t_hourCrossings x1.toNatClampNeg v_t_crossings, upd v_t_hourCycles x1.toNatClampNeg v_t_cycle, q43_5)
        else none
      else none
abbrev m_Mo_plan : Room := { frames := 1, cells := 0, slots := 0, locals := 25 }
set_option maxHeartbeats 4000000 in
set_option maxRecDepth 100000 in
theorem c_Mo_plan (l : Launch) (G : va_G) (K : Nat → ClassId) (n : Nat) (sz : Nat) (t : Nat) (t_greens : Nat) (t_leasts : Nat) (t_queues : Nat) (t_seconds : Nat) (t_weights : Nat) (t_offsets : Nat) (t_row : Nat) (t_open : Nat) (t_places : Nat) (t_times : Nat) (t_cars : Nat) (t_hourCrossings : Nat) (t_hourCycles : Nat) (t_hourOffsets : Nat) (x1 : Int32) (v_t_crossings : Int32) (v_t_first : Int32) (v_t_last : Int32) (v_t_by : Int32) (v_t_step : Int32) (v_t_has : Int32) (v_t_cycle : Int32) (v_t_aim : Int32) (v_t_proved : Int32) (v_t_arrivals : Int32) (v_t_offsets : Nat → Int32) (v_t_hourCrossings : Nat → Int32) (v_t_hourCycles : Nat → Int32) (v_t_hourOffsets : Nat → Int32) (o : Int32 × (Nat → Int32) × (Nat → Int32) × (Nat → Int32)) (hF : p_Mo_plan n x1 v_t_has v_t_crossings v_t_cycle v_t_offsets v_t_hourCrossings v_t_hourCycles v_t_hourOffsets = some o) :
    Met l y_Mo_plan (wd y_Mo_plan b_Mo_plan 3 (some .int)) m_Mo_plan (dk_Pm [.ref t, .int x1] G K [(t, .inr (8, [.int v_t_crossings, .ref t_greens, .ref t_leasts, .ref t_queues, .ref t_seconds, .ref t_weights, .int v_t_first, .int v_t_last, .int v_t_by, .int v_t_step, .int v_t_has, .int v_t_cycle, .int v_t_aim, .int v_t_proved, .ref t_offsets, .ref t_row, .ref t_open, .int v_t_arrivals, .ref t_places, .ref t_times, .ref t_cars, .ref t_hourCrossings, .ref t_hourCycles, .ref t_hourOffsets])), (t_offsets, .inl (K 0, 5, .inl v_t_offsets)), (t_hourCrossings, .inl (K 0, 24, .inl v_t_hourCrossings)), (t_hourCycles, .inl (K 0, 24, .inl v_t_hourCycles)), (t_hourOffsets, .inl (K 0, 120, .inl v_t_hourOffsets))] sz) (dk_Qm (some (.int o.1)) G (fun _ : Unit => [(t, .inr (8, [.int v_t_crossings, .ref t_greens, .ref t_leasts, .ref t_queues, .ref t_seconds, .ref t_weights, .int v_t_first, .int v_t_last, .int v_t_by, .int v_t_step, .int v_t_has, .int v_t_cycle, .int v_t_aim, .int v_t_proved, .ref t_offsets, .ref t_row, .ref t_open, .int v_t_arrivals, .ref t_places, .ref t_times, .ref t_cars, .ref t_hourCrossings, .ref t_hourCycles, .ref t_hourOffsets])), (t_offsets, .inl (K 0, 5, .inl v_t_offsets)), (t_hourCrossings, .inl (K 0, 24, .inl o.2.1)), (t_hourCycles, .inl (K 0, 24, .inl o.2.2.1)), (t_hourOffsets, .inl (K 0, 120, .inl o.2.2.2))]) (va_A [(t, .inr (8, [.int v_t_crossings, .ref t_greens, .ref t_leasts, .ref t_queues, .ref t_seconds, .ref t_weights, .int v_t_first, .int v_t_last, .int v_t_by, .int v_t_step, .int v_t_has, .int v_t_cycle, .int v_t_aim, .int v_t_proved, .ref t_offsets, .ref t_row, .ref t_open, .int v_t_arrivals, .ref t_places, .ref t_times, .ref t_cars, .ref t_hourCrossings, .ref t_hourCycles, .ref t_hourOffsets])), (t_offsets, .inl (K 0, 5, .inl v_t_offsets)), (t_hourCrossings, .inl (K 0, 24, .inl v_t_hourCrossings)), (t_hourCycles, .inl (K 0, 24, .inl v_t_hourCycles)), (t_hourOffsets, .inl (K 0, 120, .inl v_t_hourOffsets))] sz)) 0 0 (va_A [(t, .inr (8, [.int v_t_crossings, .ref t_greens, .ref t_leasts, .ref t_queues, .ref t_seconds, .ref t_weights, .int v_t_first, .int v_t_last, .int v_t_by, .int v_t_step, .int v_t_has, .int v_t_cycle, .int v_t_aim, .int v_t_proved, .ref t_offsets, .ref t_row, .ref t_open, .int v_t_arrivals, .ref t_places, .ref t_times, .ref t_cars, .ref t_hourCrossings, .ref t_hourCycles, .ref t_hourOffsets])), (t_offsets, .inl (K 0, 5, .inl v_t_offsets)), (t_hourCrossings, .inl (K 0, 24, .inl v_t_hourCrossings)), (t_hourCycles, .inl (K 0, 24, .inl v_t_hourCycles)), (t_hourOffsets, .inl (K 0, 120, .inl v_t_hourOffsets))] sz) := by
  refine Met.ofW (cc := b_Mo_plan) (maxL := 3) (ret := (some .int)) (by decide) rfl ?_
  intro p e s m args below meth c s₁ B hml hv
  obtain ⟨rfl, hsz, hP, hK, hN, hD0⟩ := hv
  have hx := B.exec
  have hb := B.bytes
  have hr := B.returns
  have hts : ∀ w ∈ lw_good, w.before _ s = true := fun w h => atoms_spec (ws := wd y_Mo_plan b_Mo_plan 3 (some .int)) B.pre w (List.mem_cons_of_mem _ h)
  have hown : s.vm.findClass R_Mo = some m.cls := findClass_of_methodNamed B.named
  have hlocks := B.notSynchronized
  have hfix : CallFix p m c b_Mo_plan 3 s _ lw_good R_Mo := ⟨hx, hb, hml, hown, hts⟩
  subst hsz
  have hD := hD0.self (sz := s.heap.size)
  generalize hAe : va_A [(t, .inr (8, [.int v_t_crossings, .ref t_greens, .ref t_leasts, .ref t_queues, .ref t_seconds, .ref t_weights, .int v_t_first, .int v_t_last, .int v_t_by, .int v_t_step, .int v_t_has, .int v_t_cycle, .int v_t_aim, .int v_t_proved, .ref t_offsets, .ref t_row, .ref t_open, .int v_t_arrivals, .ref t_places, .ref t_times, .ref t_cars, .ref t_hourCrossings, .ref t_hourCycles, .ref t_hourOffsets])), (t_offsets, .inl (K 0, 5, .inl v_t_offsets)), (t_hourCrossings, .inl (K 0, 24, .inl v_t_hourCrossings)), (t_hourCycles, .inl (K 0, 24, .inl v_t_hourCycles)), (t_hourOffsets, .inl (K 0, 120, .inl v_t_hourOffsets))] s.heap.size = A at hD ⊢
  have hA : ∀ q : Nat, s.heap.size ≤ q → A q := fun q h => by rw [← hAe]; exact Or.inr h
  have hS : va_S A s.heap s.heap [] := va_S.rf
  have hl := lv_entry ([.ref t, .int x1]) (n := 3) (Nat.le_of_ble_eq_true rfl)
  rw [lg_entry_eq]
  generalize (lg_sl ([.ref t, .int x1]) ++ List.replicate (3 - (lg_sl ([.ref t, .int x1])).length) Slot.unset).toArray = ls at hl ⊢
  have hl : lv_has ls 3 [(0, .ref t), (1, .int x1)] := hl
  change W p l e m_Mo_plan s m _ below meth c s.heap [] 0 0 _ _
  have L43 : ∀ (k : Nat) (z1 : Int32) (z2 : Int32) (v_t_hourCrossings : Nat → Int32) (v_t_hourCycles : Nat → Int32) (v_t_hourOffsets : Nat → Int32) (H : Heap) (locs : List Loc) (q : (Nat → Int32)), p_Mo_plan_43 n k v_t_crossings v_t_offsets z1 z2 v_t_hourOffsets = some q → va_P G classes [(t, .inr (8, [.int v_t_crossings, .ref t_greens, .ref t_leasts, .ref t_queues, .ref t_seconds, .ref t_weights, .int v_t_first, .int v_t_last, .int v_t_by, .int v_t_step, .int v_t_has, .int v_t_cycle, .int v_t_aim, .int v_t_proved, .ref t_offsets, .ref t_row, .ref t_open, .int v_t_arrivals, .ref t_places, .ref t_times, .ref t_cars, .ref t_hourCrossings, .ref t_hourCycles, .ref t_hourOffsets])), (t_offsets, .inl (K 0, 5, .inl v_t_offsets)), (t_hourCrossings, .inl (K 0, 24, .inl v_t_hourCrossings)), (t_hourCycles, .inl (K 0, 24, .inl v_t_hourCycles)), (t_hourOffsets, .inl (K 0, 120, .inl v_t_hourOffsets))] H → va_D A [(t, .inr (8, [.int v_t_crossings, .ref t_greens, .ref t_leasts, .ref t_queues, .ref t_seconds, .ref t_weights, .int v_t_first, .int v_t_last, .int v_t_by, .int v_t_step, .int v_t_has, .int v_t_cycle, .int v_t_aim, .int v_t_proved, .ref t_offsets, .ref t_row, .ref t_open, .int v_t_arrivals, .ref t_places, .ref t_times, .ref t_cars, .ref t_hourCrossings, .ref t_hourCycles, .ref t_hourOffsets])), (t_offsets, .inl (K 0, 5, .inl v_t_offsets)), (t_hourCrossings, .inl (K 0, 24, .inl v_t_hourCrossings)), (t_hourCycles, .inl (K 0, 24, .inl v_t_hourCycles)), (t_hourOffsets, .inl (K 0, 120, .inl v_t_hourOffsets))] → va_S A s.heap H locs → ∀ ls : Array Slot, lv_has ls 3 [(0, .ref t), (1, .int z1), (2, .int z2)] → (∀ (H1 : Heap) (locs1 : List Loc) (ls1 : Array Slot), va_P G classes [(t, .inr (8, [.int v_t_crossings, .ref t_greens, .ref t_leasts, .ref t_queues, .ref t_seconds, .ref t_weights, .int v_t_first, .int v_t_last, .int v_t_by, .int v_t_step, .int v_t_has, .int v_t_cycle, .int v_t_aim, .int v_t_proved, .ref t_offsets, .ref t_row, .ref t_open, .int v_t_arrivals, .ref t_places, .ref t_times, .ref t_cars, .ref t_hourCrossings, .ref t_hourCycles, .ref t_hourOffsets])), (t_offsets, .inl (K 0, 5, .inl v_t_offsets)), (t_hourCrossings, .inl (K 0, 24, .inl v_t_hourCrossings)), (t_hourCycles, .inl (K 0, 24, .inl v_t_hourCycles)), (t_hourOffsets, .inl (K 0, 120, .inl q))] H1 → va_D A [(t, .inr (8, [.int v_t_crossings, .ref t_greens, .ref t_leasts, .ref t_queues, .ref t_seconds, .ref t_weights, .int v_t_first, .int v_t_last, .int v_t_by, .int v_t_step, .int v_t_has, .int v_t_cycle, .int v_t_aim, .int v_t_proved, .ref t_offsets, .ref t_row, .ref t_open, .int v_t_arrivals, .ref t_places, .ref t_times, .ref t_cars, .ref t_hourCrossings, .ref t_hourCycles, .ref t_hourOffsets])), (t_offsets, .inl (K 0, 5, .inl v_t_offsets)), (t_hourCrossings, .inl (K 0, 24, .inl v_t_hourCrossings)), (t_hourCycles, .inl (K 0, 24, .inl v_t_hourCycles)), (t_hourOffsets, .inl (K 0, 120, .inl q))] → va_S A s.heap H1 locs1 → lv_has ls1 3 [(0, .ref t)] → W p l e m_Mo_plan s m ([.ref t, .int x1] : List Value).toArray below meth c H1 locs1 0 0 (MQ below (dk_Qm (some (.int o.1)) G (fun _ : Unit => [(t, .inr (8, [.int v_t_crossings, .ref t_greens, .ref t_leasts, .ref t_queues, .ref t_seconds, .ref t_weights, .int v_t_first, .int v_t_last, .int v_t_by, .int v_t_step, .int v_t_has, .int v_t_cycle, .int v_t_aim, .int v_t_proved, .ref t_offsets, .ref t_row, .ref t_open, .int v_t_arrivals, .ref t_places, .ref t_times, .ref t_cars, .ref t_hourCrossings, .ref t_hourCycles, .ref t_hourOffsets])), (t_offsets, .inl (K 0, 5, .inl v_t_offsets)), (t_hourCrossings, .inl (K 0, 24, .inl o.2.1)), (t_hourCycles, .inl (K 0, 24, .inl o.2.2.1)), (t_hourOffsets, .inl (K 0, 120, .inl o.2.2.2))]) A) ([.ref t, .int x1] : List Value).toArray s 0 0 A) (F0 m 73 ls1 [])) → W p l e m_Mo_plan s m ([.ref t, .int x1] : List Value).toArray below meth c H locs 0 0 (MQ below (dk_Qm (some (.int o.1)) G (fun _ : Unit => [(t, .inr (8, [.int v_t_crossings, .ref t_greens, .ref t_leasts, .ref t_queues, .ref t_seconds, .ref t_weights, .int v_t_first, .int v_t_last, .int v_t_by, .int v_t_step, .int v_t_has, .int v_t_cycle, .int v_t_aim, .int v_t_proved, .ref t_offsets, .ref t_row, .ref t_open, .int v_t_arrivals, .ref t_places, .ref t_times, .ref t_cars, .ref t_hourCrossings, .ref t_hourCycles, .ref t_hourOffsets])), (t_offsets, .inl (K 0, 5, .inl v_t_offsets)), (t_hourCrossings, .inl (K 0, 24, .inl o.2.1)), (t_hourCycles, .inl (K 0, 24, .inl o.2.2.1)), (t_hourOffsets, .inl (K 0, 120, .inl o.2.2.2))]) A) ([.ref t, .int x1] : List Value).toArray s 0 0 A) (F0 m 43 ls []) := by
    intro k
    induction k with
    | zero =>
      intro z1 z2 v_t_hourCrossings v_t_hourCycles v_t_hourOffsets H locs q hF hP hD hS ls hl hk
      exact absurd hF (by simp [p_Mo_plan_43])
    | succ k jh =>
      intro z1 z2 v_t_hourCrossings v_t_hourCycles v_t_hourOffsets H locs q hF hP hD hS ls hl hk
      have hF := (q_Mo_plan_43 n k v_t_crossings v_t_offsets z1 z2 v_t_hourOffsets).symm.trans hF
      refine lv_iload_n hx hb d_Mo_plan_43 rfl (lv_at hl 2 rfl) ?_
      refine lv_aload_n hx hb d_Mo_plan_44 rfl (lv_at hl 0 rfl) ?_
      refine va_get (D := G) (ci := 8) (v := .int v_t_crossings) (C := R_Mo) (T := F_Mo) (N := 24) hx hb hts i_Mo hown hK hP 0 rfl rfl 0 (by decide) (hts _ lk_415) (fun _ h9 => h9) rfl d_Mo_plan_45 ?_
      refine lv_icmp_ge (tgt := 73) hx hb d_Mo_plan_48 (by decide) (fun c48_4 => ?_) (fun c48_4 => ?_)
      · have hF := dk_t c48_4 hF
        obtain rfl := Option.some.inj hF
        exact hk H locs ls hP hD hS (lv_sub hl [0] rfl)
      · have hF := dk_f c48_4 hF
        refine lv_aload_n hx hb d_Mo_plan_51 rfl (lv_at hl 0 rfl) ?_
        refine va_get (D := G) (ci := 8) (v := .ref t_hourOffsets) (C := R_Mo) (T := F_Mo) (N := 24) hx hb hts i_Mo hown hK hP 0 rfl rfl 23 (by decide) (hts _ lk_506) (fun _ h9 => h9) rfl d_Mo_plan_52 ?_
        refine lv_iconst (v := (5 : Int32)) hx hb d_Mo_plan_55 (by decide) ?_
        refine lv_iload_n hx hb d_Mo_plan_56 rfl (lv_at hl 1 rfl) ?_
        refine lv_imul hx hb d_Mo_plan_57 ?_
        refine lv_iload_n hx hb d_Mo_plan_58 rfl (lv_at hl 2 rfl) ?_
        refine lv_iadd hx hb d_Mo_plan_59 ?_
        refine lv_aload_n hx hb d_Mo_plan_60 rfl (lv_at hl 0 rfl) ?_
        refine va_get (D := G) (ci := 8) (v := .ref t_offsets) (C := R_Mo) (T := F_Mo) (N := 24) hx hb hts i_Mo hown hK hP 0 rfl rfl 14 (by decide) (hts _ lk_443) (fun _ h9 => h9) rfl d_Mo_plan_61 ?_
        refine lv_iload_n hx hb d_Mo_plan_64 rfl (lv_at hl 2 rfl) ?_
        obtain ⟨hi, hF⟩ := dk_a hF
        refine va_iald (D := G) hx hb hK hP 1 0 rfl rfl (dk_vp hi) d_Mo_plan_65 ?_
        obtain ⟨hi, hF⟩ := dk_a hF
        refine va_iast (D := G) hx hb hK hP hD hS 4 0 rfl rfl (dk_vp hi) d_Mo_plan_66 (fun H locs hP hD hS => ?_)
        have hP : va_P G classes [(t, .inr (8, [.int v_t_crossings, .ref t_greens, .ref t_leasts, .ref t_queues, .ref t_seconds, .ref t_weights, .int v_t_first, .int v_t_last, .int v_t_by, .int v_t_step, .int v_t_has, .int v_t_cycle, .int v_t_aim, .int v_t_proved, .ref t_offsets, .ref t_row, .ref t_open, .int v_t_arrivals, .ref t_places, .ref t_times, .ref t_cars, .ref t_hourCrossings, .ref t_hourCycles, .ref t_hourOffsets])), (t_offsets, .inl (K 0, 5, .inl v_t_offsets)), (t_hourCrossings, .inl (K 0, 24, .inl v_t_hourCrossings)), (t_hourCycles, .inl (K 0, 24, .inl v_t_hourCycles)), (t_hourOffsets, .inl (K 0, 120, .inl (upd v_t_hourOffsets (((5 : Int32) * z1) + z2).toNatClampNeg (v_t_offsets z2.toNatClampNeg))))] H := hP
        have hD : va_D A [(t, .inr (8, [.int v_t_crossings, .ref t_greens, .ref t_leasts, .ref t_queues, .ref t_seconds, .ref t_weights, .int v_t_first, .int v_t_last, .int v_t_by, .int v_t_step, .int v_t_has, .int v_t_cycle, .int v_t_aim, .int v_t_proved, .ref t_offsets, .ref t_row, .ref t_open, .int v_t_arrivals, .ref t_places, .ref t_times, .ref t_cars, .ref t_hourCrossings, .ref t_hourCycles, .ref t_hourOffsets])), (t_offsets, .inl (K 0, 5, .inl v_t_offsets)), (t_hourCrossings, .inl (K 0, 24, .inl v_t_hourCrossings)), (t_hourCycles, .inl (K 0, 24, .inl v_t_hourCycles)), (t_hourOffsets, .inl (K 0, 120, .inl (upd v_t_hourOffsets (((5 : Int32) * z1) + z2).toNatClampNeg (v_t_offsets z2.toNatClampNeg))))] := hD
        refine lv_iinc (v := z2 + (1 : Int32)) (lv' := [(2, .int (z2 + (1 : Int32))), (0, .ref t), (1, .int z1)]) hx hb d_Mo_plan_67 hl (k := 2) rfl rfl (by decide) rfl (fun ls hl => ?_)
        refine lv_goto (tgt := 43) hx hb d_Mo_plan_70 (by decide) ?_
        exact jh z1 (z2 + (1 : Int32)) v_t_hourCrossings v_t_hourCycles (upd v_t_hourOffsets (((5 : Int32) * z1) + z2).toNatClampNeg (v_t_offsets z2.toNatClampNeg)) H locs q hF hP hD hS ls (lv_sub hl [1, 2, 0] rfl) hk
  unfold p_Mo_plan at hF
  refine lv_aload_n hx hb d_Mo_plan_0 rfl (lv_at hl 0 rfl) ?_
  refine va_get (D := G) (ci := 8) (v := .int v_t_has) (C := R_Mo) (T := F_Mo) (N := 24) hx hb hts i_Mo hown hK hP 0 rfl rfl 10 (by decide) (hts _ lk_427) (fun _ h9 => h9) rfl d_Mo_plan_1 ?_
  refine lv_if_eq (tgt := 19) hx hb d_Mo_plan_4 (by decide) (fun c4_1 => ?_) (fun c4_1 => ?_)
  · have hF := dk_t c4_1 hF
    refine lv_iconst (v := ((-1) : Int32)) hx hb d_Mo_plan_19 (by decide) ?_
    obtain rfl := Option.some.inj hF
    exact W.iret (v := ((-1) : Int32)) hx hb hr (fun t ht hW => ⟨⟨(), rfl, by rw [ht]; exact hP, hD⟩, hS.F ht⟩) hS.2.2 d_Mo_plan_20
  · have hF := dk_f c4_1 hF
    refine lv_iload_n hx hb d_Mo_plan_7 rfl (lv_at hl 1 rfl) ?_
    refine lv_i2l hx hb d_Mo_plan_8 rfl ?_
    refine lv_lconst (v := (0 : Int64)) hx hb d_Mo_plan_9 (by decide) ?_
    refine lv_ldc2 (own := R_Mo) (index := 163) (v := (23 : Int64)) hx hb hown (hts _ lk_504) d_Mo_plan_10 ?_
    obtain ⟨r13_2, hC, hF⟩ := dk_b hF
    refine dk_pure (va_runS (As := [.long x1.toInt64, .long (0 : Int64), .long (23 : Int64)]) (rest := []) hfix (c_Mo_isIn l G K n x1.toInt64 (0 : Int64) (23 : Int64) r13_2 hC) (va_cwS 3 hts (gd_S lk_416 lk_418 lk_419 lk_417) rfl rfl rfl (by decide +kernel) ⟨Nat.le_of_ble_eq_true rfl, Nat.le_of_ble_eq_true rfl⟩) (dk_preS hK hN (hP.sub [] rfl)) rfl rfl hl.1 rfl (lv_room (Nat.le_of_ble_eq_true rfl)) d_Mo_plan_13 ⟨Nat.le_of_ble_eq_true rfl, Nat.le_of_ble_eq_true rfl⟩) ?_
    refine lv_if_ne (tgt := 21) hx hb d_Mo_plan_16 (by decide) (fun c16_3 => ?_) (fun c16_3 => ?_)
    · have hF := dk_f c16_3 hF
      refine lv_aload_n hx hb d_Mo_plan_21 rfl (lv_at hl 0 rfl) ?_
      refine va_get (D := G) (ci := 8) (v := .ref t_hourCrossings) (C := R_Mo) (T := F_Mo) (N := 24) hx hb hts i_Mo hown hK hP 0 rfl rfl 21 (by decide) (hts _ lk_503) (fun _ h9 => h9) rfl d_Mo_plan_22 ?_
      refine lv_iload_n hx hb d_Mo_plan_25 rfl (lv_at hl 1 rfl) ?_
      refine lv_aload_n hx hb d_Mo_plan_26 rfl (lv_at hl 0 rfl) ?_
      refine va_get (D := G) (ci := 8) (v := .int v_t_crossings) (C := R_Mo) (T := F_Mo) (N := 24) hx hb hts i_Mo hown hK hP 0 rfl rfl 0 (by decide) (hts _ lk_415) (fun _ h9 => h9) rfl d_Mo_plan_27 ?_
      obtain ⟨hi, hF⟩ := dk_a hF
      refine va_iast (D := G) hx hb hK hP hD hS 2 0 rfl rfl (dk_vp hi) d_Mo_plan_30 (fun H locs hP hD hS => ?_)
      have hP : va_P G classes [(t, .inr (8, [.int v_t_crossings, .ref t_greens, .ref t_leasts, .ref t_queues, .ref t_seconds, .ref t_weights, .int v_t_first, .int v_t_last, .int v_t_by, .int v_t_step, .int v_t_has, .int v_t_cycle, .int v_t_aim, .int v_t_proved, .ref t_offsets, .ref t_row, .ref t_open, .int v_t_arrivals, .ref t_places, .ref t_times, .ref t_cars, .ref t_hourCrossings, .ref t_hourCycles, .ref t_hourOffsets])), (t_offsets, .inl (K 0, 5, .inl v_t_offsets)), (t_hourCrossings, .inl (K 0, 24, .inl (upd v_t_hourCrossings x1.toNatClampNeg v_t_crossings))), (t_hourCycles, .inl (K 0, 24, .inl v_t_hourCycles)), (t_hourOffsets, .inl (K 0, 120, .inl v_t_hourOffsets))] H := hP
      have hD : va_D A [(t, .inr (8, [.int v_t_crossings, .ref t_greens, .ref t_leasts, .ref t_queues, .ref t_seconds, .ref t_weights, .int v_t_first, .int v_t_last, .int v_t_by, .int v_t_step, .int v_t_has, .int v_t_cycle, .int v_t_aim, .int v_t_proved, .ref t_offsets, .ref t_row, .ref t_open, .int v_t_arrivals, .ref t_places, .ref t_times, .ref t_cars, .ref t_hourCrossings, .ref t_hourCycles, .ref t_hourOffsets])), (t_offsets, .inl (K 0, 5, .inl v_t_offsets)), (t_hourCrossings, .inl (K 0, 24, .inl (upd v_t_hourCrossings x1.toNatClampNeg v_t_crossings))), (t_hourCycles, .inl (K 0, 24, .inl v_t_hourCycles)), (t_hourOffsets, .inl (K 0, 120, .inl v_t_hourOffsets))] := hD
      refine lv_aload_n hx hb d_Mo_plan_31 rfl (lv_at hl 0 rfl) ?_
      refine va_get (D := G) (ci := 8) (v := .ref t_hourCycles) (C := R_Mo) (T := F_Mo) (N := 24) hx hb hts i_Mo hown hK hP 0 rfl rfl 22 (by decide) (hts _ lk_505) (fun _ h9 => h9) rfl d_Mo_plan_32 ?_
      refine lv_iload_n hx hb d_Mo_plan_35 rfl (lv_at hl 1 rfl) ?_
      refine lv_aload_n hx hb d_Mo_plan_36 rfl (lv_at hl 0 rfl) ?_
      refine va_get (D := G) (ci := 8) (v := .int v_t_cycle) (C := R_Mo) (T := F_Mo) (N := 24) hx hb hts i_Mo hown hK hP 0 rfl rfl 11 (by decide) (hts _ lk_444) (fun _ h9 => h9) rfl d_Mo_plan_37 ?_
      obtain ⟨hi, hF⟩ := dk_a hF
      refine va_iast (D := G) hx hb hK hP hD hS 3 0 rfl rfl (dk_vp hi) d_Mo_plan_40 (fun H locs hP hD hS => ?_)
      have hP : va_P G classes [(t, .inr (8, [.int v_t_crossings, .ref t_greens, .ref t_leasts, .ref t_queues, .ref t_seconds, .ref t_weights, .int v_t_first, .int v_t_last, .int v_t_by, .int v_t_step, .int v_t_has, .int v_t_cycle, .int v_t_aim, .int v_t_proved, .ref t_offsets, .ref t_row, .ref t_open, .int v_t_arrivals, .ref t_places, .ref t_times, .ref t_cars, .ref t_hourCrossings, .ref t_hourCycles, .ref t_hourOffsets])), (t_offsets, .inl (K 0, 5, .inl v_t_offsets)), (t_hourCrossings, .inl (K 0, 24, .inl (upd v_t_hourCrossings x1.toNatClampNeg v_t_crossings))), (t_hourCycles, .inl (K 0, 24, .inl (upd v_t_hourCycles x1.toNatClampNeg v_t_cycle))), (t_hourOffsets, .inl (K 0, 120, .inl v_t_hourOffsets))] H := hP
      have hD : va_D A [(t, .inr (8, [.int v_t_crossings, .ref t_greens, .ref t_leasts, .ref t_queues, .ref t_seconds, .ref t_weights, .int v_t_first, .int v_t_last, .int v_t_by, .int v_t_step, .int v_t_has, .int v_t_cycle, .int v_t_aim, .int v_t_proved, .ref t_offsets, .ref t_row, .ref t_open, .int v_t_arrivals, .ref t_places, .ref t_times, .ref t_cars, .ref t_hourCrossings, .ref t_hourCycles, .ref t_hourOffsets])), (t_offsets, .inl (K 0, 5, .inl v_t_offsets)), (t_hourCrossings, .inl (K 0, 24, .inl (upd v_t_hourCrossings x1.toNatClampNeg v_t_crossings))), (t_hourCycles, .inl (K 0, 24, .inl (upd v_t_hourCycles x1.toNatClampNeg v_t_cycle))), (t_hourOffsets, .inl (K 0, 120, .inl v_t_hourOffsets))] := hD
      refine lv_iconst (v := (0 : Int32)) hx hb d_Mo_plan_41 (by decide) ?_
      refine lv_istore_n (lv' := [(2, .int (0 : Int32)), (0, .ref t), (1, .int x1)]) hx hb d_Mo_plan_42 rfl hl (by decide) rfl (fun ls hl => ?_)
      obtain ⟨q43_5, hC, hF⟩ := dk_b hF
      refine L43 n x1 (0 : Int32) (upd v_t_hourCrossings x1.toNatClampNeg v_t_crossings) (upd v_t_hourCycles x1.toNatClampNeg v_t_cycle) v_t_hourOffsets H locs q43_5 hC hP hD hS ls (lv_sub hl [1, 2, 0] rfl) (fun H locs ls hP hD hS hl => ?_)
      refine lv_aload_n hx hb d_Mo_plan_73 rfl (lv_at hl 0 rfl) ?_
      obtain ⟨r74_6, hC, hF⟩ := dk_b hF
      refine dk_pure (va_runV (As := []) (rest := []) hfix (c_Mo_hours l G K n t t_greens t_leasts t_queues t_seconds t_weights t_offsets t_row t_open t_places t_times t_cars t_hourCrossings t_hourCycles t_hourOffsets v_t_crossings v_t_first v_t_last v_t_by v_t_step v_t_has v_t_cycle v_t_aim v_t_proved v_t_arrivals (upd v_t_hourCrossings x1.toNatClampNeg v_t_crossings) r74_6 hC) (cwV 0 hts (gd_V lk_507 lk_509 lk_510 lk_419 lk_508) rfl rfl rfl (by decide +kernel) ⟨Nat.le_of_ble_eq_true rfl, Nat.le_of_ble_eq_true rfl⟩) (dk_preV hK hN (hP.sub [0, 2] rfl) (va_recv hK hP (ci := 8) (q0 := 0) rfl rfl)) rfl rfl hl.1 rfl (lv_room (Nat.le_of_ble_eq_true rfl)) d_Mo_plan_74 ⟨Nat.le_of_ble_eq_true rfl, Nat.le_of_ble_eq_true rfl⟩) ?_
      obtain rfl := Option.some.inj hF
      exact W.iret (v := r74_6) hx hb hr (fun t ht hW => ⟨⟨(), rfl, by rw [ht]; exact hP, hD⟩, hS.F ht⟩) hS.2.2 d_Mo_plan_77
    · have hF := dk_t c16_3 hF
      refine lv_iconst (v := ((-1) : Int32)) hx hb d_Mo_plan_19 (by decide) ?_
      obtain rfl := Option.some.inj hF
      exact W.iret (v := ((-1) : Int32)) hx hb hr (fun t ht hW => ⟨⟨(), rfl, by rw [ht]; exact hP, hD⟩, hS.F ht⟩) hS.2.2 d_Mo_plan_20
def p_Mo_change_90 (n : Nat) : Nat → Int32 → (Nat → Int32) → Int32 → Int32 → Int32 → Int64 → Int32 → Option (Int64)
  | 0, _, _, _, _, _, _, _ => none
  | k + 1, v_t_crossings, v_t_hourOffsets, z1, z2, z3, z4, z6 =>
    if v_t_crossings ≤ z6 then
      some z4
    else
      if dk_in (((5 : Int32) * z2) + z6) 120 = true then
        if dk_in (((5 : Int32) * z1) + z6) 120 = true then
          if z3 = 0 then none else
          if z3 = 0 then none else
          if (z3 - ((((v_t_hourOffsets (((5 : Int32) * z2) + z6).toNatClampNeg) - ((v_t_hourOffsets (((5 : Int32) * z1) + z6).toNatClampNeg) - (v_t_hourOffsets (((5 : Int32) * z1) + z6).toNatClampNeg) / z3 * z3)) + z3) - (((v_t_hourOffsets (((5 : Int32) * z2) + z6).toNatClampNeg) - ((v_t_hourOffsets (((5 : Int32) * z1) + z6).toNatClampNeg) - (v_t_hourOffsets (((5 : Int32) * z1) + z6).toNatClampNeg) / z3 * z3)) + z3) / z3 * z3)) ≤ ((((v_t_hourOffsets (((5 : Int32) * z2) + z6).toNatClampNeg) - ((v_t_hourOffsets (((5 : Int32) * z1) + z6).toNatClampNeg) - (v_t_hourOffsets (((5 : Int32) * z1) + z6).toNatClampNeg) / z3 * z3)) + z3) - (((v_t_hourOffsets (((5 : Int32) * z2) + z6).toNatClampNeg) - ((v_t_hourOffsets (((5 : Int32) * z1) + z6).toNatClampNeg) - (v_t_hourOffsets (((5 : Int32) * z1) + z6).toNatClampNeg) / z3 * z3)) + z3) / z3 * z3) then
            p_Mo_change_90 n k v_t_crossings v_t_hourOffsets z1 z2 z3 (z4 + ((z3 - ((((v_t_hourOffsets (((5 : Int32) * z2) + z6).toNatClampNeg) - ((v_t_hourOffsets (((5 : Int32) * z1) + z6).toNatClampNeg) - (v_t_hourOffsets (((5 : Int32) * z1) + z6).toNatClampNeg) / z3 * z3)) + z3) - (((v_t_hourOffsets (((5 : Int32) * z2) + z6).toNatClampNeg) - ((v_t_hourOffsets (((5 : Int32) * z1) + z6).toNatClampNeg) - (v_t_hourOffsets (((5 : Int32) * z1) + z6).toNatClampNeg) / z3 * z3)) + z3) / z3 * z3)).toInt64)) (z6 + (1 : Int32))
          else
            p_Mo_change_90 n k v_t_crossings v_t_hourOffsets z1 z2 z3 (z4 + (((((v_t_hourOffsets (((5 : Int32) * z2) + z6).toNatClampNeg) - ((v_t_hourOffsets (((5 : Int32) * z1) + z6).toNatClampNeg) - (v_t_hourOffsets (((5 : Int32) * z1) + z6).toNatClampNeg) / z3 * z3)) + z3) - (((v_t_hourOffsets (((5 : Int32) * z2) + z6).toNatClampNeg) - ((v_t_hourOffsets (((5 : Int32) * z1) + z6).toNatClampNeg) - (v_t_hourOffsets (((5 : Int32) * z1) + z6).toNatClampNeg) / z3 * z3)) + z3) / z3 * z3).toInt64)) (z6 + (1 : Int32))
        else none
      else none
theorem q_Mo_change_90 (n k : Nat) (v_t_crossings : Int32) (v_t_hourOffsets : Nat → Int32) (z1 : Int32) (z2 : Int32) (z3 : Int32) (z4 : Int64) (z6 : Int32) : p_Mo_change_90 n (k + 1) v_t_crossings v_t_hourOffsets z1 z2 z3 z4 z6 =
    if v_t_crossings ≤ z6 then
      some z4
    else
      if dk_in (((5 : Int32) * z2) + z6) 120 = true then
        if dk_in (((5 : Int32) * z1) + z6) 120 = true then
          if z3 = 0 then none else
          if z3 = 0 then none else
          if (z3 - ((((v_t_hourOffsets (((5 : Int32) * z2) + z6).toNatClampNeg) - ((v_t_hourOffsets (((5 : Int32) * z1) + z6).toNatClampNeg) - (v_t_hourOffsets (((5 : Int32) * z1) + z6).toNatClampNeg) / z3 * z3)) + z3) - (((v_t_hourOffsets (((5 : Int32) * z2) + z6).toNatClampNeg) - ((v_t_hourOffsets (((5 : Int32) * z1) + z6).toNatClampNeg) - (v_t_hourOffsets (((5 : Int32) * z1) + z6).toNatClampNeg) / z3 * z3)) + z3) / z3 * z3)) ≤ ((((v_t_hourOffsets (((5 : Int32) * z2) + z6).toNatClampNeg) - ((v_t_hourOffsets (((5 : Int32) * z1) + z6).toNatClampNeg) - (v_t_hourOffsets (((5 : Int32) * z1) + z6).toNatClampNeg) / z3 * z3)) + z3) - (((v_t_hourOffsets (((5 : Int32) * z2) + z6).toNatClampNeg) - ((v_t_hourOffsets (((5 : Int32) * z1) + z6).toNatClampNeg) - (v_t_hourOffsets (((5 : Int32) * z1) + z6).toNatClampNeg) / z3 * z3)) + z3) / z3 * z3) then
            p_Mo_change_90 n k v_t_crossings v_t_hourOffsets z1 z2 z3 (z4 + ((z3 - ((((v_t_hourOffsets (((5 : Int32) * z2) + z6).toNatClampNeg) - ((v_t_hourOffsets (((5 : Int32) * z1) + z6).toNatClampNeg) - (v_t_hourOffsets (((5 : Int32) * z1) + z6).toNatClampNeg) / z3 * z3)) + z3) - (((v_t_hourOffsets (((5 : Int32) * z2) + z6).toNatClampNeg) - ((v_t_hourOffsets (((5 : Int32) * z1) + z6).toNatClampNeg) - (v_t_hourOffsets (((5 : Int32) * z1) + z6).toNatClampNeg) / z3 * z3)) + z3) / z3 * z3)).toInt64)) (z6 + (1 : Int32))
          else
            p_Mo_change_90 n k v_t_crossings v_t_hourOffsets z1 z2 z3 (z4 + (((((v_t_hourOffsets (((5 : Int32) * z2) + z6).toNatClampNeg) - ((v_t_hourOffsets (((5 : Int32) * z1) + z6).toNatClampNeg) - (v_t_hourOffsets (((5 : Int32) * z1) + z6).toNatClampNeg) / z3 * z3)) + z3) - (((v_t_hourOffsets (((5 : Int32) * z2) + z6).toNatClampNeg) - ((v_t_hourOffsets (((5 : Int32) * z1) + z6).toNatClampNeg) - (v_t_hourOffsets (((5 : Int32) * z1) + z6).toNatClampNeg) / z3 * z3)) + z3) / z3 * z3).toInt64)) (z6 + (1 : Int32))
        else none
      else none := rfl
def p_Mo_change (n : Nat) (x1 : Int32) (x2 : Int32) (v_t_crossings : Int32) (v_t_hourCrossings : Nat → Int32) (v_t_hourCycles : Nat → Int32) (v_t_hourOffsets : Nat → Int32) : Option (Int64) :=
  (p_Mo_isIn n x1.toInt64 (0 : Int64) (23 : Int64)).bind fun r6_1 =>
  if r6_1 = 0 then
    some ((-1) : Int64)
  else
    (p_Mo_isIn n x2.toInt64 (0 : Int64) (23 : Int64)).bind fun r18_3 =>
    if r18_3 = 0 then
      some ((-1) : Int64)
    else
      if v_t_crossings = 0 then
        some ((-1) : Int64)
      else
        if dk_in x1 24 = true then
          if (v_t_hourCrossings x1.toNatClampNeg) = v_t_crossings then
            if dk_in x2 24 = true then
              if (v_t_hourCrossings x2.toNatClampNeg) = v_t_crossings then
                if dk_in x2 24 = true then
                  if dk_in x1 24 = true then
                    if (v_t_hourCycles x1.toNatClampNeg) = (v_t_hourCycles x2.toNatClampNeg) then
                      (p_Mo_change_90 n n v_t_crossings v_t_hourOffsets x1 x2 (v_t_hourCycles x2.toNatClampNeg) (0 : Int64) (0 : Int32)).bind fun q90_12 =>
                      some q90_12
                    else
                      (p_Mo_change_90 n n v_t_crossings v_t_hourOffsets x1 x2 (v_t_hourCycles x2.toNatClampNeg) (100 : Int64) (0 : Int32)).bind fun q90_11 =>
                      some q90_11
                  else none
                else none
              else
                some ((-1) : Int64)
            else none
          else
            some ((-1) : Int64)
        else none
abbrev m_Mo_change : Room := { frames := 1, cells := 0, slots := 0, locals := 25 }
set_option maxHeartbeats 4000000 in
set_option maxRecDepth 100000 in
theorem c_Mo_change (l : Launch) (G : va_G) (K : Nat → ClassId) (n : Nat) (t : Nat) (t_greens : Nat) (t_leasts : Nat) (t_queues : Nat) (t_seconds : Nat) (t_weights : Nat) (t_offsets : Nat) (t_row : Nat) (t_open : Nat) (t_places : Nat) (t_times : Nat) (t_cars : Nat) (t_hourCrossings : Nat) (t_hourCycles : Nat) (t_hourOffsets : Nat) (x1 : Int32) (x2 : Int32) (v_t_crossings : Int32) (v_t_first : Int32) (v_t_last : Int32) (v_t_by : Int32) (v_t_step : Int32) (v_t_has : Int32) (v_t_cycle : Int32) (v_t_aim : Int32) (v_t_proved : Int32) (v_t_arrivals : Int32) (v_t_hourCrossings : Nat → Int32) (v_t_hourCycles : Nat → Int32) (v_t_hourOffsets : Nat → Int32) (o : Int64) (hF : p_Mo_change n x1 x2 v_t_crossings v_t_hourCrossings v_t_hourCycles v_t_hourOffsets = some o) :
    Met l y_Mo_change (wd y_Mo_change b_Mo_change 8 (some .long)) m_Mo_change (dk_Pp [.ref t, .int x1, .int x2] G K [(t, .inr (8, [.int v_t_crossings, .ref t_greens, .ref t_leasts, .ref t_queues, .ref t_seconds, .ref t_weights, .int v_t_first, .int v_t_last, .int v_t_by, .int v_t_step, .int v_t_has, .int v_t_cycle, .int v_t_aim, .int v_t_proved, .ref t_offsets, .ref t_row, .ref t_open, .int v_t_arrivals, .ref t_places, .ref t_times, .ref t_cars, .ref t_hourCrossings, .ref t_hourCycles, .ref t_hourOffsets])), (t_hourCrossings, .inl (K 0, 24, .inl v_t_hourCrossings)), (t_hourCycles, .inl (K 0, 24, .inl v_t_hourCycles)), (t_hourOffsets, .inl (K 0, 120, .inl v_t_hourOffsets))]) (dk_Qp (some (.long o))) 0 0 (fun _ => False) := by
  refine Met.ofW (cc := b_Mo_change) (maxL := 8) (ret := (some .long)) (by decide) rfl ?_
  intro p e s m args below meth c s₁ B hml hv
  obtain ⟨rfl, hP, hK, hN⟩ := hv
  have hx := B.exec
  have hb := B.bytes
  have hr := B.returns
  have hts : ∀ w ∈ lw_good, w.before _ s = true := fun w h => atoms_spec (ws := wd y_Mo_change b_Mo_change 8 (some .long)) B.pre w (List.mem_cons_of_mem _ h)
  have hown : s.vm.findClass R_Mo = some m.cls := findClass_of_methodNamed B.named
  have hlocks := B.notSynchronized
  have hfix : CallFix p m c b_Mo_change 8 s _ lw_good R_Mo := ⟨hx, hb, hml, hown, hts⟩
  have hl := lv_entry ([.ref t, .int x1, .int x2]) (n := 8) (Nat.le_of_ble_eq_true rfl)
  rw [lg_entry_eq]
  generalize (lg_sl ([.ref t, .int x1, .int x2]) ++ List.replicate (8 - (lg_sl ([.ref t, .int x1, .int x2])).length) Slot.unset).toArray = ls at hl ⊢
  have hl : lv_has ls 8 [(0, .ref t), (1, .int x1), (2, .int x2)] := hl
  change W p l e m_Mo_change s m _ below meth c s.heap [] 0 0 _ _
  have L90 : ∀ (k : Nat) (z1 : Int32) (z2 : Int32) (z3 : Int32) (z4 : Int64) (z6 : Int32) (q : Int64), p_Mo_change_90 n k v_t_crossings v_t_hourOffsets z1 z2 z3 z4 z6 = some q → ∀ ls : Array Slot, lv_has ls 8 [(0, .ref t), (1, .int z1), (2, .int z2), (3, .int z3), (4, .long z4), (6, .int z6)] → (∀ (ls1 : Array Slot), lv_has ls1 8 [(4, .long q)] → W p l e m_Mo_change s m ([.ref t, .int x1, .int x2] : List Value).toArray below meth c s.heap [] 0 0 (MQ below (dk_Qp (some (.long o))) ([.ref t, .int x1, .int x2] : List Value).toArray s 0 0 (fun _ => False)) (F0 m 161 ls1 [])) → W p l e m_Mo_change s m ([.ref t, .int x1, .int x2] : List Value).toArray below meth c s.heap [] 0 0 (MQ below (dk_Qp (some (.long o))) ([.ref t, .int x1, .int x2] : List Value).toArray s 0 0 (fun _ => False)) (F0 m 90 ls []) := by
    intro k
    induction k with
    | zero =>
      intro z1 z2 z3 z4 z6 q hF ls hl hk
      exact absurd hF (by simp [p_Mo_change_90])
    | succ k jh =>
      intro z1 z2 z3 z4 z6 q hF ls hl hk
      have hF := (q_Mo_change_90 n k v_t_crossings v_t_hourOffsets z1 z2 z3 z4 z6).symm.trans hF
      refine lv_iload hx hb d_Mo_change_90 (lv_at hl 5 rfl) ?_
      refine lv_aload_n hx hb d_Mo_change_92 rfl (lv_at hl 0 rfl) ?_
      refine va_get (D := G) (ci := 8) (v := .int v_t_crossings) (C := R_Mo) (T := F_Mo) (N := 24) hx hb hts i_Mo hown hK hP 0 rfl rfl 0 (by decide) (hts _ lk_415) (fun _ h9 => h9) rfl d_Mo_change_93 ?_
      refine lv_icmp_ge (tgt := 161) hx hb d_Mo_change_96 (by decide) (fun c96_9 => ?_) (fun c96_9 => ?_)
      · have hF := dk_t c96_9 hF
        obtain rfl := Option.some.inj hF
        exact hk ls (lv_sub hl [4] rfl)
      · have hF := dk_f c96_9 hF
        refine lv_aload_n hx hb d_Mo_change_99 rfl (lv_at hl 0 rfl) ?_
        refine va_get (D := G) (ci := 8) (v := .ref t_hourOffsets) (C := R_Mo) (T := F_Mo) (N := 24) hx hb hts i_Mo hown hK hP 0 rfl rfl 23 (by decide) (hts _ lk_506) (fun _ h9 => h9) rfl d_Mo_change_100 ?_
        refine lv_iconst (v := (5 : Int32)) hx hb d_Mo_change_103 (by decide) ?_
        refine lv_iload_n hx hb d_Mo_change_104 rfl (lv_at hl 2 rfl) ?_
        refine lv_imul hx hb d_Mo_change_105 ?_
        refine lv_iload hx hb d_Mo_change_106 (lv_at hl 5 rfl) ?_
        refine lv_iadd hx hb d_Mo_change_108 ?_
        obtain ⟨hi, hF⟩ := dk_a hF
        refine va_iald (D := G) hx hb hK hP 3 0 rfl rfl (dk_vp hi) d_Mo_change_109 ?_
        refine lv_aload_n hx hb d_Mo_change_110 rfl (lv_at hl 0 rfl) ?_
        refine va_get (D := G) (ci := 8) (v := .ref t_hourOffsets) (C := R_Mo) (T := F_Mo) (N := 24) hx hb hts i_Mo hown hK hP 0 rfl rfl 23 (by decide) (hts _ lk_506) (fun _ h9 => h9) rfl d_Mo_change_111 ?_
        refine lv_iconst (v := (5 : Int32)) hx hb d_Mo_change_114 (by decide) ?_
        refine lv_iload_n hx hb d_Mo_change_115 rfl (lv_at hl 1 rfl) ?_
        refine lv_imul hx hb d_Mo_change_116 ?_
        refine lv_iload hx hb d_Mo_change_117 (lv_at hl 5 rfl) ?_
        refine lv_iadd hx hb d_Mo_change_119 ?_
        obtain ⟨hi, hF⟩ := dk_a hF
        refine va_iald (D := G) hx hb hK hP 3 0 rfl rfl (dk_vp hi) d_Mo_change_120 ?_
        refine lv_iload_n hx hb d_Mo_change_121 rfl (lv_at hl 3 rfl) ?_
        obtain ⟨hz, hF⟩ := dk_z hF
        refine lv_irem hx hb d_Mo_change_122 hz ?_
        refine lv_isub hx hb d_Mo_change_123 ?_
        refine lv_iload_n hx hb d_Mo_change_124 rfl (lv_at hl 3 rfl) ?_
        refine lv_iadd hx hb d_Mo_change_125 ?_
        refine lv_iload_n hx hb d_Mo_change_126 rfl (lv_at hl 3 rfl) ?_
        obtain ⟨hz, hF⟩ := dk_z hF
        refine lv_irem hx hb d_Mo_change_127 hz ?_
        refine lv_istore (lv' := [(7, .int ((((v_t_hourOffsets (((5 : Int32) * z2) + z6).toNatClampNeg) - ((v_t_hourOffsets (((5 : Int32) * z1) + z6).toNatClampNeg) - (v_t_hourOffsets (((5 : Int32) * z1) + z6).toNatClampNeg) / z3 * z3)) + z3) - (((v_t_hourOffsets (((5 : Int32) * z2) + z6).toNatClampNeg) - ((v_t_hourOffsets (((5 : Int32) * z1) + z6).toNatClampNeg) - (v_t_hourOffsets (((5 : Int32) * z1) + z6).toNatClampNeg) / z3 * z3)) + z3) / z3 * z3)), (0, .ref t), (1, .int z1), (2, .int z2), (3, .int z3), (4, .long z4), (6, .int z6)]) hx hb d_Mo_change_128 hl (by decide) rfl (fun ls hl => ?_)
        refine lv_lload hx hb d_Mo_change_130 (lv_at hl 5 rfl) ?_
        refine lv_iload hx hb d_Mo_change_132 (lv_at hl 0 rfl) ?_
        refine lv_iload_n hx hb d_Mo_change_134 rfl (lv_at hl 4 rfl) ?_
        refine lv_iload hx hb d_Mo_change_135 (lv_at hl 0 rfl) ?_
        refine lv_isub hx hb d_Mo_change_137 ?_
        refine lv_icmp_ge (tgt := 147) hx hb d_Mo_change_138 (by decide) (fun c138_10 => ?_) (fun c138_10 => ?_)
        · have hF := dk_t c138_10 hF
          refine lv_iload_n hx hb d_Mo_change_147 rfl (lv_at hl 4 rfl) ?_
          refine lv_iload hx hb d_Mo_change_148 (lv_at hl 0 rfl) ?_
          refine lv_isub hx hb d_Mo_change_150 ?_
          refine lv_i2l hx hb d_Mo_change_151 rfl ?_
          refine lv_ladd hx hb d_Mo_change_152 ?_
          refine lv_lstore (lv' := [(4, .long (z4 + ((z3 - ((((v_t_hourOffsets (((5 : Int32) * z2) + z6).toNatClampNeg) - ((v_t_hourOffsets (((5 : Int32) * z1) + z6).toNatClampNeg) - (v_t_hourOffsets (((5 : Int32) * z1) + z6).toNatClampNeg) / z3 * z3)) + z3) - (((v_t_hourOffsets (((5 : Int32) * z2) + z6).toNatClampNeg) - ((v_t_hourOffsets (((5 : Int32) * z1) + z6).toNatClampNeg) - (v_t_hourOffsets (((5 : Int32) * z1) + z6).toNatClampNeg) / z3 * z3)) + z3) / z3 * z3)).toInt64))), (7, .int ((((v_t_hourOffsets (((5 : Int32) * z2) + z6).toNatClampNeg) - ((v_t_hourOffsets (((5 : Int32) * z1) + z6).toNatClampNeg) - (v_t_hourOffsets (((5 : Int32) * z1) + z6).toNatClampNeg) / z3 * z3)) + z3) - (((v_t_hourOffsets (((5 : Int32) * z2) + z6).toNatClampNeg) - ((v_t_hourOffsets (((5 : Int32) * z1) + z6).toNatClampNeg) - (v_t_hourOffsets (((5 : Int32) * z1) + z6).toNatClampNeg) / z3 * z3)) + z3) / z3 * z3)), (0, .ref t), (1, .int z1), (2, .int z2), (3, .int z3), (6, .int z6)]) hx hb d_Mo_change_153 hl (by decide) rfl (fun ls hl => ?_)
          refine lv_iinc (v := z6 + (1 : Int32)) (lv' := [(6, .int (z6 + (1 : Int32))), (4, .long (z4 + ((z3 - ((((v_t_hourOffsets (((5 : Int32) * z2) + z6).toNatClampNeg) - ((v_t_hourOffsets (((5 : Int32) * z1) + z6).toNatClampNeg) - (v_t_hourOffsets (((5 : Int32) * z1) + z6).toNatClampNeg) / z3 * z3)) + z3) - (((v_t_hourOffsets (((5 : Int32) * z2) + z6).toNatClampNeg) - ((v_t_hourOffsets (((5 : Int32) * z1) + z6).toNatClampNeg) - (v_t_hourOffsets (((5 : Int32) * z1) + z6).toNatClampNeg) / z3 * z3)) + z3) / z3 * z3)).toInt64))), (7, .int ((((v_t_hourOffsets (((5 : Int32) * z2) + z6).toNatClampNeg) - ((v_t_hourOffsets (((5 : Int32) * z1) + z6).toNatClampNeg) - (v_t_hourOffsets (((5 : Int32) * z1) + z6).toNatClampNeg) / z3 * z3)) + z3) - (((v_t_hourOffsets (((5 : Int32) * z2) + z6).toNatClampNeg) - ((v_t_hourOffsets (((5 : Int32) * z1) + z6).toNatClampNeg) - (v_t_hourOffsets (((5 : Int32) * z1) + z6).toNatClampNeg) / z3 * z3)) + z3) / z3 * z3)), (0, .ref t), (1, .int z1), (2, .int z2), (3, .int z3)]) hx hb d_Mo_change_155 hl (k := 6) rfl rfl (by decide) rfl (fun ls hl => ?_)
          refine lv_goto (tgt := 90) hx hb d_Mo_change_158 (by decide) ?_
          exact jh z1 z2 z3 (z4 + ((z3 - ((((v_t_hourOffsets (((5 : Int32) * z2) + z6).toNatClampNeg) - ((v_t_hourOffsets (((5 : Int32) * z1) + z6).toNatClampNeg) - (v_t_hourOffsets (((5 : Int32) * z1) + z6).toNatClampNeg) / z3 * z3)) + z3) - (((v_t_hourOffsets (((5 : Int32) * z2) + z6).toNatClampNeg) - ((v_t_hourOffsets (((5 : Int32) * z1) + z6).toNatClampNeg) - (v_t_hourOffsets (((5 : Int32) * z1) + z6).toNatClampNeg) / z3 * z3)) + z3) / z3 * z3)).toInt64)) (z6 + (1 : Int32)) q hF ls (lv_sub hl [3, 4, 5, 6, 1, 0] rfl) hk
        · have hF := dk_f c138_10 hF
          refine lv_iload hx hb d_Mo_change_141 (lv_at hl 0 rfl) ?_
          refine lv_i2l hx hb d_Mo_change_143 rfl ?_
          refine lv_goto (tgt := 152) hx hb d_Mo_change_144 (by decide) ?_
          refine lv_ladd hx hb d_Mo_change_152 ?_
          refine lv_lstore (lv' := [(4, .long (z4 + (((((v_t_hourOffsets (((5 : Int32) * z2) + z6).toNatClampNeg) - ((v_t_hourOffsets (((5 : Int32) * z1) + z6).toNatClampNeg) - (v_t_hourOffsets (((5 : Int32) * z1) + z6).toNatClampNeg) / z3 * z3)) + z3) - (((v_t_hourOffsets (((5 : Int32) * z2) + z6).toNatClampNeg) - ((v_t_hourOffsets (((5 : Int32) * z1) + z6).toNatClampNeg) - (v_t_hourOffsets (((5 : Int32) * z1) + z6).toNatClampNeg) / z3 * z3)) + z3) / z3 * z3).toInt64))), (7, .int ((((v_t_hourOffsets (((5 : Int32) * z2) + z6).toNatClampNeg) - ((v_t_hourOffsets (((5 : Int32) * z1) + z6).toNatClampNeg) - (v_t_hourOffsets (((5 : Int32) * z1) + z6).toNatClampNeg) / z3 * z3)) + z3) - (((v_t_hourOffsets (((5 : Int32) * z2) + z6).toNatClampNeg) - ((v_t_hourOffsets (((5 : Int32) * z1) + z6).toNatClampNeg) - (v_t_hourOffsets (((5 : Int32) * z1) + z6).toNatClampNeg) / z3 * z3)) + z3) / z3 * z3)), (0, .ref t), (1, .int z1), (2, .int z2), (3, .int z3), (6, .int z6)]) hx hb d_Mo_change_153 hl (by decide) rfl (fun ls hl => ?_)
          refine lv_iinc (v := z6 + (1 : Int32)) (lv' := [(6, .int (z6 + (1 : Int32))), (4, .long (z4 + (((((v_t_hourOffsets (((5 : Int32) * z2) + z6).toNatClampNeg) - ((v_t_hourOffsets (((5 : Int32) * z1) + z6).toNatClampNeg) - (v_t_hourOffsets (((5 : Int32) * z1) + z6).toNatClampNeg) / z3 * z3)) + z3) - (((v_t_hourOffsets (((5 : Int32) * z2) + z6).toNatClampNeg) - ((v_t_hourOffsets (((5 : Int32) * z1) + z6).toNatClampNeg) - (v_t_hourOffsets (((5 : Int32) * z1) + z6).toNatClampNeg) / z3 * z3)) + z3) / z3 * z3).toInt64))), (7, .int ((((v_t_hourOffsets (((5 : Int32) * z2) + z6).toNatClampNeg) - ((v_t_hourOffsets (((5 : Int32) * z1) + z6).toNatClampNeg) - (v_t_hourOffsets (((5 : Int32) * z1) + z6).toNatClampNeg) / z3 * z3)) + z3) - (((v_t_hourOffsets (((5 : Int32) * z2) + z6).toNatClampNeg) - ((v_t_hourOffsets (((5 : Int32) * z1) + z6).toNatClampNeg) - (v_t_hourOffsets (((5 : Int32) * z1) + z6).toNatClampNeg) / z3 * z3)) + z3) / z3 * z3)), (0, .ref t), (1, .int z1), (2, .int z2), (3, .int z3)]) hx hb d_Mo_change_155 hl (k := 6) rfl rfl (by decide) rfl (fun ls hl => ?_)
          refine lv_goto (tgt := 90) hx hb d_Mo_change_158 (by decide) ?_
          exact jh z1 z2 z3 (z4 + (((((v_t_hourOffsets (((5 : Int32) * z2) + z6).toNatClampNeg) - ((v_t_hourOffsets (((5 : Int32) * z1) + z6).toNatClampNeg) - (v_t_hourOffsets (((5 : Int32) * z1) + z6).toNatClampNeg) / z3 * z3)) + z3) - (((v_t_hourOffsets (((5 : Int32) * z2) + z6).toNatClampNeg) - ((v_t_hourOffsets (((5 : Int32) * z1) + z6).toNatClampNeg) - (v_t_hourOffsets (((5 : Int32) * z1) + z6).toNatClampNeg) / z3 * z3)) + z3) / z3 * z3).toInt64)) (z6 + (1 : Int32)) q hF ls (lv_sub hl [3, 4, 5, 6, 1, 0] rfl) hk
  unfold p_Mo_change at hF
  refine lv_iload_n hx hb d_Mo_change_0 rfl (lv_at hl 1 rfl) ?_
  refine lv_i2l hx hb d_Mo_change_1 rfl ?_
  refine lv_lconst (v := (0 : Int64)) hx hb d_Mo_change_2 (by decide) ?_
  refine lv_ldc2 (own := R_Mo) (index := 163) (v := (23 : Int64)) hx hb hown (hts _ lk_504) d_Mo_change_3 ?_
  obtain ⟨r6_1, hC, hF⟩ := dk_b hF
  refine dk_pure (va_runS (As := [.long x1.toInt64, .long (0 : Int64), .long (23 : Int64)]) (rest := []) hfix (c_Mo_isIn l G K n x1.toInt64 (0 : Int64) (23 : Int64) r6_1 hC) (va_cwS 3 hts (gd_S lk_416 lk_418 lk_419 lk_417) rfl rfl rfl (by decide +kernel) ⟨Nat.le_of_ble_eq_true rfl, Nat.le_of_ble_eq_true rfl⟩) (dk_preS hK hN (hP.sub [] rfl)) rfl rfl hl.1 rfl (lv_room (Nat.le_of_ble_eq_true rfl)) d_Mo_change_6 ⟨Nat.le_of_ble_eq_true rfl, Nat.le_of_ble_eq_true rfl⟩) ?_
  refine lv_if_eq (tgt := 57) hx hb d_Mo_change_9 (by decide) (fun c9_2 => ?_) (fun c9_2 => ?_)
  · have hF := dk_t c9_2 hF
    refine lv_ldc2 (own := R_Mo) (index := 145) (v := ((-1) : Int64)) hx hb hown (hts _ lk_488) d_Mo_change_57 ?_
    obtain rfl := Option.some.inj hF
    exact W.lret (v := ((-1) : Int64)) hx hb hr (fun t ht hW => ⟨rfl, ht⟩) (fun _ h => by cases h) d_Mo_change_60
  · have hF := dk_f c9_2 hF
    refine lv_iload_n hx hb d_Mo_change_12 rfl (lv_at hl 2 rfl) ?_
    refine lv_i2l hx hb d_Mo_change_13 rfl ?_
    refine lv_lconst (v := (0 : Int64)) hx hb d_Mo_change_14 (by decide) ?_
    refine lv_ldc2 (own := R_Mo) (index := 163) (v := (23 : Int64)) hx hb hown (hts _ lk_504) d_Mo_change_15 ?_
    obtain ⟨r18_3, hC, hF⟩ := dk_b hF
    refine dk_pure (va_runS (As := [.long x2.toInt64, .long (0 : Int64), .long (23 : Int64)]) (rest := []) hfix (c_Mo_isIn l G K n x2.toInt64 (0 : Int64) (23 : Int64) r18_3 hC) (va_cwS 3 hts (gd_S lk_416 lk_418 lk_419 lk_417) rfl rfl rfl (by decide +kernel) ⟨Nat.le_of_ble_eq_true rfl, Nat.le_of_ble_eq_true rfl⟩) (dk_preS hK hN (hP.sub [] rfl)) rfl rfl hl.1 rfl (lv_room (Nat.le_of_ble_eq_true rfl)) d_Mo_change_18 ⟨Nat.le_of_ble_eq_true rfl, Nat.le_of_ble_eq_true rfl⟩) ?_
    refine lv_if_eq (tgt := 57) hx hb d_Mo_change_21 (by decide) (fun c21_4 => ?_) (fun c21_4 => ?_)
    · have hF := dk_t c21_4 hF
      refine lv_ldc2 (own := R_Mo) (index := 145) (v := ((-1) : Int64)) hx hb hown (hts _ lk_488) d_Mo_change_57 ?_
      obtain rfl := Option.some.inj hF
      exact W.lret (v := ((-1) : Int64)) hx hb hr (fun t ht hW => ⟨rfl, ht⟩) (fun _ h => by cases h) d_Mo_change_60
    · have hF := dk_f c21_4 hF
      refine lv_aload_n hx hb d_Mo_change_24 rfl (lv_at hl 0 rfl) ?_
      refine va_get (D := G) (ci := 8) (v := .int v_t_crossings) (C := R_Mo) (T := F_Mo) (N := 24) hx hb hts i_Mo hown hK hP 0 rfl rfl 0 (by decide) (hts _ lk_415) (fun _ h9 => h9) rfl d_Mo_change_25 ?_
      refine lv_if_eq (tgt := 57) hx hb d_Mo_change_28 (by decide) (fun c28_5 => ?_) (fun c28_5 => ?_)
      · have hF := dk_t c28_5 hF
        refine lv_ldc2 (own := R_Mo) (index := 145) (v := ((-1) : Int64)) hx hb hown (hts _ lk_488) d_Mo_change_57 ?_
        obtain rfl := Option.some.inj hF
        exact W.lret (v := ((-1) : Int64)) hx hb hr (fun t ht hW => ⟨rfl, ht⟩) (fun _ h => by cases h) d_Mo_change_60
      · have hF := dk_f c28_5 hF
        refine lv_aload_n hx hb d_Mo_change_31 rfl (lv_at hl 0 rfl) ?_
        refine va_get (D := G) (ci := 8) (v := .ref t_hourCrossings) (C := R_Mo) (T := F_Mo) (N := 24) hx hb hts i_Mo hown hK hP 0 rfl rfl 21 (by decide) (hts _ lk_503) (fun _ h9 => h9) rfl d_Mo_change_32 ?_
        refine lv_iload_n hx hb d_Mo_change_35 rfl (lv_at hl 1 rfl) ?_
        obtain ⟨hi, hF⟩ := dk_a hF
        refine va_iald (D := G) hx hb hK hP 1 0 rfl rfl (dk_vp hi) d_Mo_change_36 ?_
        refine lv_aload_n hx hb d_Mo_change_37 rfl (lv_at hl 0 rfl) ?_
        refine va_get (D := G) (ci := 8) (v := .int v_t_crossings) (C := R_Mo) (T := F_Mo) (N := 24) hx hb hts i_Mo hown hK hP 0 rfl rfl 0 (by decide) (hts _ lk_415) (fun _ h9 => h9) rfl d_Mo_change_38 ?_
        refine lv_icmp_ne (tgt := 57) hx hb d_Mo_change_41 (by decide) (fun c41_6 => ?_) (fun c41_6 => ?_)
        · have hF := dk_f c41_6 hF
          refine lv_ldc2 (own := R_Mo) (index := 145) (v := ((-1) : Int64)) hx hb hown (hts _ lk_488) d_Mo_change_57 ?_
          obtain rfl := Option.some.inj hF
          exact W.lret (v := ((-1) : Int64)) hx hb hr (fun t ht hW => ⟨rfl, ht⟩) (fun _ h => by cases h) d_Mo_change_60
        · have hF := dk_t c41_6 hF
          refine lv_aload_n hx hb d_Mo_change_44 rfl (lv_at hl 0 rfl) ?_
          refine va_get (D := G) (ci := 8) (v := .ref t_hourCrossings) (C := R_Mo) (T := F_Mo) (N := 24) hx hb hts i_Mo hown hK hP 0 rfl rfl 21 (by decide) (hts _ lk_503) (fun _ h9 => h9) rfl d_Mo_change_45 ?_
          refine lv_iload_n hx hb d_Mo_change_48 rfl (lv_at hl 2 rfl) ?_
          obtain ⟨hi, hF⟩ := dk_a hF
          refine va_iald (D := G) hx hb hK hP 1 0 rfl rfl (dk_vp hi) d_Mo_change_49 ?_
          refine lv_aload_n hx hb d_Mo_change_50 rfl (lv_at hl 0 rfl) ?_
          refine va_get (D := G) (ci := 8) (v := .int v_t_crossings) (C := R_Mo) (T := F_Mo) (N := 24) hx hb hts i_Mo hown hK hP 0 rfl rfl 0 (by decide) (hts _ lk_415) (fun _ h9 => h9) rfl d_Mo_change_51 ?_
          refine lv_icmp_eq (tgt := 61) hx hb d_Mo_change_54 (by decide) (fun c54_7 => ?_) (fun c54_7 => ?_)
          · have hF := dk_t c54_7 hF
            refine lv_aload_n hx hb d_Mo_change_61 rfl (lv_at hl 0 rfl) ?_
            refine va_get (D := G) (ci := 8) (v := .ref t_hourCycles) (C := R_Mo) (T := F_Mo) (N := 24) hx hb hts i_Mo hown hK hP 0 rfl rfl 22 (by decide) (hts _ lk_505) (fun _ h9 => h9) rfl d_Mo_change_62 ?_
            refine lv_iload_n hx hb d_Mo_change_65 rfl (lv_at hl 2 rfl) ?_
            obtain ⟨hi, hF⟩ := dk_a hF
            refine va_iald (D := G) hx hb hK hP 2 0 rfl rfl (dk_vp hi) d_Mo_change_66 ?_
            refine lv_istore_n (lv' := [(3, .int (v_t_hourCycles x2.toNatClampNeg)), (0, .ref t), (1, .int x1), (2, .int x2)]) hx hb d_Mo_change_67 rfl hl (by decide) rfl (fun ls hl => ?_)
            refine lv_aload_n hx hb d_Mo_change_68 rfl (lv_at hl 1 rfl) ?_
            refine va_get (D := G) (ci := 8) (v := .ref t_hourCycles) (C := R_Mo) (T := F_Mo) (N := 24) hx hb hts i_Mo hown hK hP 0 rfl rfl 22 (by decide) (hts _ lk_505) (fun _ h9 => h9) rfl d_Mo_change_69 ?_
            refine lv_iload_n hx hb d_Mo_change_72 rfl (lv_at hl 2 rfl) ?_
            obtain ⟨hi, hF⟩ := dk_a hF
            refine va_iald (D := G) hx hb hK hP 2 0 rfl rfl (dk_vp hi) d_Mo_change_73 ?_
            refine lv_iload_n hx hb d_Mo_change_74 rfl (lv_at hl 0 rfl) ?_
            refine lv_icmp_ne (tgt := 82) hx hb d_Mo_change_75 (by decide) (fun c75_8 => ?_) (fun c75_8 => ?_)
            · have hF := dk_f c75_8 hF
              refine lv_ldc2 (own := R_Mo) (index := 91) (v := (100 : Int64)) hx hb hown (hts _ lk_435) d_Mo_change_82 ?_
              refine lv_lstore (lv' := [(4, .long (100 : Int64)), (3, .int (v_t_hourCycles x2.toNatClampNeg)), (0, .ref t), (1, .int x1), (2, .int x2)]) hx hb d_Mo_change_85 hl (by decide) rfl (fun ls hl => ?_)
              refine lv_iconst (v := (0 : Int32)) hx hb d_Mo_change_87 (by decide) ?_
              refine lv_istore (lv' := [(6, .int (0 : Int32)), (4, .long (100 : Int64)), (3, .int (v_t_hourCycles x2.toNatClampNeg)), (0, .ref t), (1, .int x1), (2, .int x2)]) hx hb d_Mo_change_88 hl (by decide) rfl (fun ls hl => ?_)
              obtain ⟨q90_11, hC, hF⟩ := dk_b hF
              refine L90 n x1 x2 (v_t_hourCycles x2.toNatClampNeg) (100 : Int64) (0 : Int32) q90_11 hC ls (lv_sub hl [3, 4, 5, 2, 1, 0] rfl) (fun ls hl => ?_)
              refine lv_lload hx hb d_Mo_change_161 (lv_at hl 0 rfl) ?_
              obtain rfl := Option.some.inj hF
              exact W.lret (v := q90_11) hx hb hr (fun t ht hW => ⟨rfl, ht⟩) (fun _ h => by cases h) d_Mo_change_163
            · have hF := dk_t c75_8 hF
              refine lv_lconst (v := (0 : Int64)) hx hb d_Mo_change_78 (by decide) ?_
              refine lv_goto (tgt := 85) hx hb d_Mo_change_79 (by decide) ?_
              refine lv_lstore (lv' := [(4, .long (0 : Int64)), (3, .int (v_t_hourCycles x2.toNatClampNeg)), (0, .ref t), (1, .int x1), (2, .int x2)]) hx hb d_Mo_change_85 hl (by decide) rfl (fun ls hl => ?_)
              refine lv_iconst (v := (0 : Int32)) hx hb d_Mo_change_87 (by decide) ?_
              refine lv_istore (lv' := [(6, .int (0 : Int32)), (4, .long (0 : Int64)), (3, .int (v_t_hourCycles x2.toNatClampNeg)), (0, .ref t), (1, .int x1), (2, .int x2)]) hx hb d_Mo_change_88 hl (by decide) rfl (fun ls hl => ?_)
              obtain ⟨q90_12, hC, hF⟩ := dk_b hF
              refine L90 n x1 x2 (v_t_hourCycles x2.toNatClampNeg) (0 : Int64) (0 : Int32) q90_12 hC ls (lv_sub hl [3, 4, 5, 2, 1, 0] rfl) (fun ls hl => ?_)
              refine lv_lload hx hb d_Mo_change_161 (lv_at hl 0 rfl) ?_
              obtain rfl := Option.some.inj hF
              exact W.lret (v := q90_12) hx hb hr (fun t ht hW => ⟨rfl, ht⟩) (fun _ h => by cases h) d_Mo_change_163
          · have hF := dk_f c54_7 hF
            refine lv_ldc2 (own := R_Mo) (index := 145) (v := ((-1) : Int64)) hx hb hown (hts _ lk_488) d_Mo_change_57 ?_
            obtain rfl := Option.some.inj hF
            exact W.lret (v := ((-1) : Int64)) hx hb hr (fun t ht hW => ⟨rfl, ht⟩) (fun _ h => by cases h) d_Mo_change_60
def p_Mo_day_40 (n : Nat) : Nat → (Nat → Int32) → Int64 → Int32 → Int32 → Option (Int32)
  | 0, _, _, _, _ => none
  | k + 1, v_t_hourCrossings, z1, z3, z4 =>
    if dk_in z4 24 = true then
      if (v_t_hourCrossings z4.toNatClampNeg) = 0 then
        p_Mo_day_40 n k v_t_hourCrossings z1 z3 ((z4 + (1 : Int32)) - (z4 + (1 : Int32)) / (24 : Int32) * (24 : Int32))
      else
        some z4
    else none
theorem q_Mo_day_40 (n k : Nat) (v_t_hourCrossings : Nat → Int32) (z1 : Int64) (z3 : Int32) (z4 : Int32) : p_Mo_day_40 n (k + 1) v_t_hourCrossings z1 z3 z4 =
    if dk_in z4 24 = true then
      if (v_t_hourCrossings z4.toNatClampNeg) = 0 then
        p_Mo_day_40 n k v_t_hourCrossings z1 z3 ((z4 + (1 : Int32)) - (z4 + (1 : Int32)) / (24 : Int32) * (24 : Int32))
      else
        some z4
    else none := rfl
def p_Mo_day_14 (n : Nat) : Nat → (Nat → Int32) → Int32 → (Nat → Int32) → (Nat → Int32) → Int64 → Int32 → Option (Int64)
  | 0, _, _, _, _, _, _ => none
  | k + 1, v_t_hourCrossings, v_t_crossings, v_t_hourCycles, v_t_hourOffsets, z1, z3 =>
    if (24 : Int32) ≤ z3 then
      some z1
    else
      if dk_in z3 24 = true then
        if (v_t_hourCrossings z3.toNatClampNeg) = 0 then
          p_Mo_day_14 n k v_t_hourCrossings v_t_crossings v_t_hourCycles v_t_hourOffsets z1 (z3 + (1 : Int32))
        else
          (p_Mo_day_40 n n v_t_hourCrossings z1 z3 ((z3 + (1 : Int32)) - (z3 + (1 : Int32)) / (24 : Int32) * (24 : Int32))).bind fun q40_6 =>
          (p_Mo_change n z3 q40_6 v_t_crossings v_t_hourCrossings v_t_hourCycles v_t_hourOffsets).bind fun r66_7 =>
          if (lg_cmp r66_7 ((-1) : Int64)) = 0 then
            some ((-1) : Int64)
          else
            p_Mo_day_14 n k v_t_hourCrossings v_t_crossings v_t_hourCycles v_t_hourOffsets (z1 + r66_7) (z3 + (1 : Int32))
      else none
theorem q_Mo_day_14 (n k : Nat) (v_t_hourCrossings : Nat → Int32) (v_t_crossings : Int32) (v_t_hourCycles : Nat → Int32) (v_t_hourOffsets : Nat → Int32) (z1 : Int64) (z3 : Int32) : p_Mo_day_14 n (k + 1) v_t_hourCrossings v_t_crossings v_t_hourCycles v_t_hourOffsets z1 z3 =
    if (24 : Int32) ≤ z3 then
      some z1
    else
      if dk_in z3 24 = true then
        if (v_t_hourCrossings z3.toNatClampNeg) = 0 then
          p_Mo_day_14 n k v_t_hourCrossings v_t_crossings v_t_hourCycles v_t_hourOffsets z1 (z3 + (1 : Int32))
        else
          (p_Mo_day_40 n n v_t_hourCrossings z1 z3 ((z3 + (1 : Int32)) - (z3 + (1 : Int32)) / (24 : Int32) * (24 : Int32))).bind fun q40_6 =>
          (p_Mo_change n z3 q40_6 v_t_crossings v_t_hourCrossings v_t_hourCycles v_t_hourOffsets).bind fun r66_7 =>
          if (lg_cmp r66_7 ((-1) : Int64)) = 0 then
            some ((-1) : Int64)
          else
            p_Mo_day_14 n k v_t_hourCrossings v_t_crossings v_t_hourCycles v_t_hourOffsets (z1 + r66_7) (z3 + (1 : Int32))
      else none := rfl
def p_Mo_day (n : Nat) (v_t_hourCrossings : Nat → Int32) (v_t_crossings : Int32) (v_t_hourCycles : Nat → Int32) (v_t_hourOffsets : Nat → Int32) : Option (Int64) :=
  (p_Mo_hours n v_t_hourCrossings).bind fun r1_1 =>
  if (2 : Int32) ≤ r1_1 then
    p_Mo_day_14 n n v_t_hourCrossings v_t_crossings v_t_hourCycles v_t_hourOffsets (0 : Int64) (0 : Int32)
  else
    some (0 : Int64)
abbrev m_Mo_day : Room := { frames := 2, cells := 0, slots := 0, locals := 52 }
set_option maxHeartbeats 4000000 in
set_option maxRecDepth 100000 in
theorem c_Mo_day (l : Launch) (G : va_G) (K : Nat → ClassId) (n : Nat) (t : Nat) (t_greens : Nat) (t_leasts : Nat) (t_queues : Nat) (t_seconds : Nat) (t_weights : Nat) (t_offsets : Nat) (t_row : Nat) (t_open : Nat) (t_places : Nat) (t_times : Nat) (t_cars : Nat) (t_hourCrossings : Nat) (t_hourCycles : Nat) (t_hourOffsets : Nat) (v_t_crossings : Int32) (v_t_first : Int32) (v_t_last : Int32) (v_t_by : Int32) (v_t_step : Int32) (v_t_has : Int32) (v_t_cycle : Int32) (v_t_aim : Int32) (v_t_proved : Int32) (v_t_arrivals : Int32) (v_t_hourCrossings : Nat → Int32) (v_t_hourCycles : Nat → Int32) (v_t_hourOffsets : Nat → Int32) (o : Int64) (hF : p_Mo_day n v_t_hourCrossings v_t_crossings v_t_hourCycles v_t_hourOffsets = some o) :
    Met l y_Mo_day (wd y_Mo_day b_Mo_day 7 (some .long)) m_Mo_day (dk_Pp [.ref t] G K [(t, .inr (8, [.int v_t_crossings, .ref t_greens, .ref t_leasts, .ref t_queues, .ref t_seconds, .ref t_weights, .int v_t_first, .int v_t_last, .int v_t_by, .int v_t_step, .int v_t_has, .int v_t_cycle, .int v_t_aim, .int v_t_proved, .ref t_offsets, .ref t_row, .ref t_open, .int v_t_arrivals, .ref t_places, .ref t_times, .ref t_cars, .ref t_hourCrossings, .ref t_hourCycles, .ref t_hourOffsets])), (t_hourCrossings, .inl (K 0, 24, .inl v_t_hourCrossings)), (t_hourCycles, .inl (K 0, 24, .inl v_t_hourCycles)), (t_hourOffsets, .inl (K 0, 120, .inl v_t_hourOffsets))]) (dk_Qp (some (.long o))) 0 0 (fun _ => False) := by
  refine Met.ofW (cc := b_Mo_day) (maxL := 7) (ret := (some .long)) (by decide) rfl ?_
  intro p e s m args below meth c s₁ B hml hv
  obtain ⟨rfl, hP, hK, hN⟩ := hv
  have hx := B.exec
  have hb := B.bytes
  have hr := B.returns
  have hts : ∀ w ∈ lw_good, w.before _ s = true := fun w h => atoms_spec (ws := wd y_Mo_day b_Mo_day 7 (some .long)) B.pre w (List.mem_cons_of_mem _ h)
  have hown : s.vm.findClass R_Mo = some m.cls := findClass_of_methodNamed B.named
  have hlocks := B.notSynchronized
  have hfix : CallFix p m c b_Mo_day 7 s _ lw_good R_Mo := ⟨hx, hb, hml, hown, hts⟩
  have hl := lv_entry ([.ref t]) (n := 7) (Nat.le_of_ble_eq_true rfl)
  rw [lg_entry_eq]
  generalize (lg_sl ([.ref t]) ++ List.replicate (7 - (lg_sl ([.ref t])).length) Slot.unset).toArray = ls at hl ⊢
  have hl : lv_has ls 7 [(0, .ref t)] := hl
  change W p l e m_Mo_day s m _ below meth c s.heap [] 0 0 _ _
  have L40 : ∀ (k : Nat) (z1 : Int64) (z3 : Int32) (z4 : Int32) (q : Int32), p_Mo_day_40 n k v_t_hourCrossings z1 z3 z4 = some q → ∀ ls : Array Slot, lv_has ls 7 [(0, .ref t), (1, .long z1), (3, .int z3), (4, .int z4)] → (∀ (ls1 : Array Slot), lv_has ls1 7 [(0, .ref t), (1, .long z1), (3, .int z3), (4, .int q)] → W p l e m_Mo_day s m ([.ref t] : List Value).toArray below meth c s.heap [] 0 0 (MQ below (dk_Qp (some (.long o))) ([.ref t] : List Value).toArray s 0 0 (fun _ => False)) (F0 m 62 ls1 [])) → W p l e m_Mo_day s m ([.ref t] : List Value).toArray below meth c s.heap [] 0 0 (MQ below (dk_Qp (some (.long o))) ([.ref t] : List Value).toArray s 0 0 (fun _ => False)) (F0 m 40 ls []) := by
    intro k
    induction k with
    | zero =>
      intro z1 z3 z4 q hF ls hl hk
      exact absurd hF (by simp [p_Mo_day_40])
    | succ k jh =>
      intro z1 z3 z4 q hF ls hl hk
      have hF := (q_Mo_day_40 n k v_t_hourCrossings z1 z3 z4).symm.trans hF
      refine lv_aload_n hx hb d_Mo_day_40 rfl (lv_at hl 0 rfl) ?_
      refine va_get (D := G) (ci := 8) (v := .ref t_hourCrossings) (C := R_Mo) (T := F_Mo) (N := 24) hx hb hts i_Mo hown hK hP 0 rfl rfl 21 (by decide) (hts _ lk_503) (fun _ h9 => h9) rfl d_Mo_day_41 ?_
      refine lv_iload hx hb d_Mo_day_44 (lv_at hl 3 rfl) ?_
      obtain ⟨hi, hF⟩ := dk_a hF
      refine va_iald (D := G) hx hb hK hP 1 0 rfl rfl (dk_vp hi) d_Mo_day_46 ?_
      refine lv_if_ne (tgt := 62) hx hb d_Mo_day_47 (by decide) (fun c47_5 => ?_) (fun c47_5 => ?_)
      · have hF := dk_f c47_5 hF
        obtain rfl := Option.some.inj hF
        exact hk ls (lv_sub hl [0, 1, 2, 3] rfl)
      · have hF := dk_t c47_5 hF
        refine lv_iload hx hb d_Mo_day_50 (lv_at hl 3 rfl) ?_
        refine lv_iconst (v := (1 : Int32)) hx hb d_Mo_day_52 (by decide) ?_
        refine lv_iadd hx hb d_Mo_day_53 ?_
        refine lv_bipush (v := (24 : Int32)) hx hb d_Mo_day_54 (by decide) ?_
        refine lv_irem hx hb d_Mo_day_56 (by decide) ?_
        refine lv_istore (lv' := [(4, .int ((z4 + (1 : Int32)) - (z4 + (1 : Int32)) / (24 : Int32) * (24 : Int32))), (0, .ref t), (1, .long z1), (3, .int z3)]) hx hb d_Mo_day_57 hl (by decide) rfl (fun ls hl => ?_)
        refine lv_goto (tgt := 40) hx hb d_Mo_day_59 (by decide) ?_
        exact jh z1 z3 ((z4 + (1 : Int32)) - (z4 + (1 : Int32)) / (24 : Int32) * (24 : Int32)) q hF ls (lv_sub hl [1, 2, 3, 0] rfl) hk
  have L14 : ∀ (k : Nat) (z1 : Int64) (z3 : Int32), p_Mo_day_14 n k v_t_hourCrossings v_t_crossings v_t_hourCycles v_t_hourOffsets z1 z3 = some o → ∀ ls : Array Slot, lv_has ls 7 [(0, .ref t), (1, .long z1), (3, .int z3)] → W p l e m_Mo_day s m ([.ref t] : List Value).toArray below meth c s.heap [] 0 0 (MQ below (dk_Qp (some (.long o))) ([.ref t] : List Value).toArray s 0 0 (fun _ => False)) (F0 m 14 ls []) := by
    intro k
    induction k with
    | zero =>
      intro z1 z3 hF ls hl
      exact absurd hF (by simp [p_Mo_day_14])
    | succ k jh =>
      intro z1 z3 hF ls hl
      have hF := (q_Mo_day_14 n k v_t_hourCrossings v_t_crossings v_t_hourCycles v_t_hourOffsets z1 z3).symm.trans hF
      refine lv_iload_n hx hb d_Mo_day_14 rfl (lv_at hl 2 rfl) ?_
      refine lv_bipush (v := (24 : Int32)) hx hb d_Mo_day_15 (by decide) ?_
      refine lv_icmp_ge (tgt := 95) hx hb d_Mo_day_17 (by decide) (fun c17_3 => ?_) (fun c17_3 => ?_)
      · have hF := dk_t c17_3 hF
        refine lv_lload_n hx hb d_Mo_day_95 rfl (lv_at hl 1 rfl) ?_
        obtain rfl := Option.some.inj hF
        exact W.lret (v := z1) hx hb hr (fun t ht hW => ⟨rfl, ht⟩) (fun _ h => by cases h) d_Mo_day_96
      · have hF := dk_f c17_3 hF
        refine lv_aload_n hx hb d_Mo_day_20 rfl (lv_at hl 0 rfl) ?_
        refine va_get (D := G) (ci := 8) (v := .ref t_hourCrossings) (C := R_Mo) (T := F_Mo) (N := 24) hx hb hts i_Mo hown hK hP 0 rfl rfl 21 (by decide) (hts _ lk_503) (fun _ h9 => h9) rfl d_Mo_day_21 ?_
        refine lv_iload_n hx hb d_Mo_day_24 rfl (lv_at hl 2 rfl) ?_
        obtain ⟨hi, hF⟩ := dk_a hF
        refine va_iald (D := G) hx hb hK hP 1 0 rfl rfl (dk_vp hi) d_Mo_day_25 ?_
        refine lv_if_ne (tgt := 32) hx hb d_Mo_day_26 (by decide) (fun c26_4 => ?_) (fun c26_4 => ?_)
        · have hF := dk_f c26_4 hF
          refine lv_iload_n hx hb d_Mo_day_32 rfl (lv_at hl 2 rfl) ?_
          refine lv_iconst (v := (1 : Int32)) hx hb d_Mo_day_33 (by decide) ?_
          refine lv_iadd hx hb d_Mo_day_34 ?_
          refine lv_bipush (v := (24 : Int32)) hx hb d_Mo_day_35 (by decide) ?_
          refine lv_irem hx hb d_Mo_day_37 (by decide) ?_
          refine lv_istore (lv' := [(4, .int ((z3 + (1 : Int32)) - (z3 + (1 : Int32)) / (24 : Int32) * (24 : Int32))), (0, .ref t), (1, .long z1), (3, .int z3)]) hx hb d_Mo_day_38 hl (by decide) rfl (fun ls hl => ?_)
          obtain ⟨q40_6, hC, hF⟩ := dk_b hF
          refine L40 n z1 z3 ((z3 + (1 : Int32)) - (z3 + (1 : Int32)) / (24 : Int32) * (24 : Int32)) q40_6 hC ls (lv_sub hl [1, 2, 3, 0] rfl) (fun ls hl => ?_)
          refine lv_aload_n hx hb d_Mo_day_62 rfl (lv_at hl 0 rfl) ?_
          refine lv_iload_n hx hb d_Mo_day_63 rfl (lv_at hl 2 rfl) ?_
          refine lv_iload hx hb d_Mo_day_64 (lv_at hl 3 rfl) ?_
          obtain ⟨r66_7, hC, hF⟩ := dk_b hF
          refine dk_pure (va_runV (As := [.int z3, .int q40_6]) (rest := []) hfix (c_Mo_change l G K n t t_greens t_leasts t_queues t_seconds t_weights t_offsets t_row t_open t_places t_times t_cars t_hourCrossings t_hourCycles t_hourOffsets z3 q40_6 v_t_crossings v_t_first v_t_last v_t_by v_t_step v_t_has v_t_cycle v_t_aim v_t_proved v_t_arrivals v_t_hourCrossings v_t_hourCycles v_t_hourOffsets r66_7 hC) (cwV 2 hts (gd_V lk_511 lk_513 lk_514 lk_419 lk_512) rfl rfl rfl (by decide +kernel) ⟨Nat.le_of_ble_eq_true rfl, Nat.le_of_ble_eq_true rfl⟩) (dk_preV hK hN (hP.sub [0, 1, 2, 3] rfl) (va_recv hK hP (ci := 8) (q0 := 0) rfl rfl)) rfl rfl hl.1 rfl (lv_room (Nat.le_of_ble_eq_true rfl)) d_Mo_day_66 ⟨Nat.le_of_ble_eq_true rfl, Nat.le_of_ble_eq_true rfl⟩) ?_
          refine lv_lstore (lv' := [(5, .long r66_7), (0, .ref t), (1, .long z1), (3, .int z3), (4, .int q40_6)]) hx hb d_Mo_day_69 hl (by decide) rfl (fun ls hl => ?_)
          refine lv_lload hx hb d_Mo_day_71 (lv_at hl 0 rfl) ?_
          refine lv_ldc2 (own := R_Mo) (index := 145) (v := ((-1) : Int64)) hx hb hown (hts _ lk_488) d_Mo_day_73 ?_
          refine W.lcmp hx hb d_Mo_day_76 ?_
          refine lv_if_ne (tgt := 84) hx hb d_Mo_day_77 (by decide) (fun c77_8 => ?_) (fun c77_8 => ?_)
          · have hF := dk_f c77_8 hF
            refine lv_lload_n hx hb d_Mo_day_84 rfl (lv_at hl 2 rfl) ?_
            refine lv_lload hx hb d_Mo_day_85 (lv_at hl 0 rfl) ?_
            refine lv_ladd hx hb d_Mo_day_87 ?_
            refine lv_lstore_n (lv' := [(1, .long (z1 + r66_7)), (5, .long r66_7), (0, .ref t), (3, .int z3), (4, .int q40_6)]) hx hb d_Mo_day_88 rfl hl (by decide) rfl (fun ls hl => ?_)
            refine lv_iinc (v := z3 + (1 : Int32)) (lv' := [(3, .int (z3 + (1 : Int32))), (1, .long (z1 + r66_7)), (5, .long r66_7), (0, .ref t), (4, .int q40_6)]) hx hb d_Mo_day_89 hl (k := 3) rfl rfl (by decide) rfl (fun ls hl => ?_)
            refine lv_goto (tgt := 14) hx hb d_Mo_day_92 (by decide) ?_
            exact jh (z1 + r66_7) (z3 + (1 : Int32)) hF ls (lv_sub hl [3, 1, 0] rfl)
          · have hF := dk_t c77_8 hF
            refine lv_ldc2 (own := R_Mo) (index := 145) (v := ((-1) : Int64)) hx hb hown (hts _ lk_488) d_Mo_day_80 ?_
            obtain rfl := Option.some.inj hF
            exact W.lret (v := ((-1) : Int64)) hx hb hr (fun t ht hW => ⟨rfl, ht⟩) (fun _ h => by cases h) d_Mo_day_83
        · have hF := dk_t c26_4 hF
          refine lv_goto (tgt := 89) hx hb d_Mo_day_29 (by decide) ?_
          refine lv_iinc (v := z3 + (1 : Int32)) (lv' := [(3, .int (z3 + (1 : Int32))), (0, .ref t), (1, .long z1)]) hx hb d_Mo_day_89 hl (k := 2) rfl rfl (by decide) rfl (fun ls hl => ?_)
          refine lv_goto (tgt := 14) hx hb d_Mo_day_92 (by decide) ?_
          exact jh z1 (z3 + (1 : Int32)) hF ls (lv_sub hl [1, 2, 0] rfl)
  unfold p_Mo_day at hF
  refine lv_aload_n hx hb d_Mo_day_0 rfl (lv_at hl 0 rfl) ?_
  obtain ⟨r1_1, hC, hF⟩ := dk_b hF
  refine dk_pure (va_runV (As := []) (rest := []) hfix (c_Mo_hours l G K n t t_greens t_leasts t_queues t_seconds t_weights t_offsets t_row t_open t_places t_times t_cars t_hourCrossings t_hourCycles t_hourOffsets v_t_crossings v_t_first v_t_last v_t_by v_t_step v_t_has v_t_cycle v_t_aim v_t_proved v_t_arrivals v_t_hourCrossings r1_1 hC) (cwV 0 hts (gd_V lk_507 lk_509 lk_510 lk_419 lk_508) rfl rfl rfl (by decide +kernel) ⟨Nat.le_of_ble_eq_true rfl, Nat.le_of_ble_eq_true rfl⟩) (dk_preV hK hN (hP.sub [0, 1] rfl) (va_recv hK hP (ci := 8) (q0 := 0) rfl rfl)) rfl rfl hl.1 rfl (lv_room (Nat.le_of_ble_eq_true rfl)) d_Mo_day_1 ⟨Nat.le_of_ble_eq_true rfl, Nat.le_of_ble_eq_true rfl⟩) ?_
  refine lv_iconst (v := (2 : Int32)) hx hb d_Mo_day_4 (by decide) ?_
  refine lv_icmp_ge (tgt := 10) hx hb d_Mo_day_5 (by decide) (fun c5_2 => ?_) (fun c5_2 => ?_)
  · have hF := dk_t c5_2 hF
    refine lv_lconst (v := (0 : Int64)) hx hb d_Mo_day_10 (by decide) ?_
    refine lv_lstore_n (lv' := [(1, .long (0 : Int64)), (0, .ref t)]) hx hb d_Mo_day_11 rfl hl (by decide) rfl (fun ls hl => ?_)
    refine lv_iconst (v := (0 : Int32)) hx hb d_Mo_day_12 (by decide) ?_
    refine lv_istore_n (lv' := [(3, .int (0 : Int32)), (1, .long (0 : Int64)), (0, .ref t)]) hx hb d_Mo_day_13 rfl hl (by decide) rfl (fun ls hl => ?_)
    exact L14 n (0 : Int64) (0 : Int32) hF ls (lv_sub hl [2, 1, 0] rfl)
  · have hF := dk_f c5_2 hF
    refine lv_lconst (v := (0 : Int64)) hx hb d_Mo_day_8 (by decide) ?_
    obtain rfl := Option.some.inj hF
    exact W.lret (v := (0 : Int64)) hx hb hr (fun t ht hW => ⟨rfl, ht⟩) (fun _ h => by cases h) d_Mo_day_9
def p_Mo_command (n : Nat) (x1 : Int32) (x2 : Int32) (v_t_has : Int32) (v_t_crossings : Int32) (v_t_offsets : Nat → Int32) (v_t_cycle : Int32) (v_t_greens : Nat → Int32) : Option (Int32) :=
  if v_t_has = 0 then
    some ((-1) : Int32)
  else
    (p_Mo_isCrossing n x1 v_t_crossings).bind fun r9_2 =>
    if r9_2 = 0 then
      some ((-1) : Int32)
    else
      (p_Mo_isIn n x2.toInt64 (0 : Int64) (10000 : Int64)).bind fun r21_4 =>
      if r21_4 = 0 then
        some ((-1) : Int32)
      else
        if dk_in x1 5 = true then
          if (x2 - x2 / (2 : Int32) * (2 : Int32)) = 0 then
            some (((v_t_offsets x1.toNatClampNeg) + ((x2 / (2 : Int32)) * v_t_cycle)) + (0 : Int32))
          else
            if dk_in x1 5 = true then
              some (((v_t_offsets x1.toNatClampNeg) + ((x2 / (2 : Int32)) * v_t_cycle)) + (v_t_greens x1.toNatClampNeg))
            else none
        else none
abbrev m_Mo_command : Room := { frames := 2, cells := 0, slots := 0, locals := 46 }
set_option maxHeartbeats 4000000 in
set_option maxRecDepth 100000 in
theorem c_Mo_command (l : Launch) (G : va_G) (K : Nat → ClassId) (n : Nat) (t : Nat) (t_greens : Nat) (t_leasts : Nat) (t_queues : Nat) (t_seconds : Nat) (t_weights : Nat) (t_offsets : Nat) (t_row : Nat) (t_open : Nat) (t_places : Nat) (t_times : Nat) (t_cars : Nat) (t_hourCrossings : Nat) (t_hourCycles : Nat) (t_hourOffsets : Nat) (x1 : Int32) (x2 : Int32) (v_t_crossings : Int32) (v_t_first : Int32) (v_t_last : Int32) (v_t_by : Int32) (v_t_step : Int32) (v_t_has : Int32) (v_t_cycle : Int32) (v_t_aim : Int32) (v_t_proved : Int32) (v_t_arrivals : Int32) (v_t_greens : Nat → Int32) (v_t_offsets : Nat → Int32) (o : Int32) (hF : p_Mo_command n x1 x2 v_t_has v_t_crossings v_t_offsets v_t_cycle v_t_greens = some o) :
    Met l y_Mo_command (wd y_Mo_command b_Mo_command 3 (some .int)) m_Mo_command (dk_Pp [.ref t, .int x1, .int x2] G K [(t, .inr (8, [.int v_t_crossings, .ref t_greens, .ref t_leasts, .ref t_queues, .ref t_seconds, .ref t_weights, .int v_t_first, .int v_t_last, .int v_t_by, .int v_t_step, .int v_t_has, .int v_t_cycle, .int v_t_aim, .int v_t_proved, .ref t_offsets, .ref t_row, .ref t_open, .int v_t_arrivals, .ref t_places, .ref t_times, .ref t_cars, .ref t_hourCrossings, .ref t_hourCycles, .ref t_hourOffsets])), (t_greens, .inl (K 0, 5, .inl v_t_greens)), (t_offsets, .inl (K 0, 5, .inl v_t_offsets))]) (dk_Qp (some (.int o))) 0 0 (fun _ => False) := by
  refine Met.ofW (cc := b_Mo_command) (maxL := 3) (ret := (some .int)) (by decide) rfl ?_
  intro p e s m args below meth c s₁ B hml hv
  obtain ⟨rfl, hP, hK, hN⟩ := hv
  have hx := B.exec
  have hb := B.bytes
  have hr := B.returns
  have hts : ∀ w ∈ lw_good, w.before _ s = true := fun w h => atoms_spec (ws := wd y_Mo_command b_Mo_command 3 (some .int)) B.pre w (List.mem_cons_of_mem _ h)
  have hown : s.vm.findClass R_Mo = some m.cls := findClass_of_methodNamed B.named
  have hlocks := B.notSynchronized
  have hfix : CallFix p m c b_Mo_command 3 s _ lw_good R_Mo := ⟨hx, hb, hml, hown, hts⟩
  have hl := lv_entry ([.ref t, .int x1, .int x2]) (n := 3) (Nat.le_of_ble_eq_true rfl)
  rw [lg_entry_eq]
  generalize (lg_sl ([.ref t, .int x1, .int x2]) ++ List.replicate (3 - (lg_sl ([.ref t, .int x1, .int x2])).length) Slot.unset).toArray = ls at hl ⊢
  have hl : lv_has ls 3 [(0, .ref t), (1, .int x1), (2, .int x2)] := hl
  change W p l e m_Mo_command s m _ below meth c s.heap [] 0 0 _ _
  unfold p_Mo_command at hF
  refine lv_aload_n hx hb d_Mo_command_0 rfl (lv_at hl 0 rfl) ?_
  refine va_get (D := G) (ci := 8) (v := .int v_t_has) (C := R_Mo) (T := F_Mo) (N := 24) hx hb hts i_Mo hown hK hP 0 rfl rfl 10 (by decide) (hts _ lk_427) (fun _ h9 => h9) rfl d_Mo_command_1 ?_
  refine lv_if_eq (tgt := 27) hx hb d_Mo_command_4 (by decide) (fun c4_1 => ?_) (fun c4_1 => ?_)
  · have hF := dk_t c4_1 hF
    refine lv_iconst (v := ((-1) : Int32)) hx hb d_Mo_command_27 (by decide) ?_
    obtain rfl := Option.some.inj hF
    exact W.iret (v := ((-1) : Int32)) hx hb hr (fun t ht hW => ⟨rfl, ht⟩) (fun _ h => by cases h) d_Mo_command_28
  · have hF := dk_f c4_1 hF
    refine lv_aload_n hx hb d_Mo_command_7 rfl (lv_at hl 0 rfl) ?_
    refine lv_iload_n hx hb d_Mo_command_8 rfl (lv_at hl 1 rfl) ?_
    obtain ⟨r9_2, hC, hF⟩ := dk_b hF
    refine dk_pure (va_runV (As := [.int x1]) (rest := []) hfix (c_Mo_isCrossing l G K n t t_greens t_leasts t_queues t_seconds t_weights t_offsets t_row t_open t_places t_times t_cars t_hourCrossings t_hourCycles t_hourOffsets x1 v_t_crossings v_t_first v_t_last v_t_by v_t_step v_t_has v_t_cycle v_t_aim v_t_proved v_t_arrivals r9_2 hC) (cwV 1 hts (gd_V lk_430 lk_432 lk_433 lk_419 lk_431) rfl rfl rfl (by decide +kernel) ⟨Nat.le_of_ble_eq_true rfl, Nat.le_of_ble_eq_true rfl⟩) (dk_preV hK hN (hP.sub [0] rfl) (va_recv hK hP (ci := 8) (q0 := 0) rfl rfl)) rfl rfl hl.1 rfl (lv_room (Nat.le_of_ble_eq_true rfl)) d_Mo_command_9 ⟨Nat.le_of_ble_eq_true rfl, Nat.le_of_ble_eq_true rfl⟩) ?_
    refine lv_if_eq (tgt := 27) hx hb d_Mo_command_12 (by decide) (fun c12_3 => ?_) (fun c12_3 => ?_)
    · have hF := dk_t c12_3 hF
      refine lv_iconst (v := ((-1) : Int32)) hx hb d_Mo_command_27 (by decide) ?_
      obtain rfl := Option.some.inj hF
      exact W.iret (v := ((-1) : Int32)) hx hb hr (fun t ht hW => ⟨rfl, ht⟩) (fun _ h => by cases h) d_Mo_command_28
    · have hF := dk_f c12_3 hF
      refine lv_iload_n hx hb d_Mo_command_15 rfl (lv_at hl 2 rfl) ?_
      refine lv_i2l hx hb d_Mo_command_16 rfl ?_
      refine lv_lconst (v := (0 : Int64)) hx hb d_Mo_command_17 (by decide) ?_
      refine lv_ldc2 (own := R_Mo) (index := 156) (v := (10000 : Int64)) hx hb hown (hts _ lk_497) d_Mo_command_18 ?_
      obtain ⟨r21_4, hC, hF⟩ := dk_b hF
      refine dk_pure (va_runS (As := [.long x2.toInt64, .long (0 : Int64), .long (10000 : Int64)]) (rest := []) hfix (c_Mo_isIn l G K n x2.toInt64 (0 : Int64) (10000 : Int64) r21_4 hC) (va_cwS 3 hts (gd_S lk_416 lk_418 lk_419 lk_417) rfl rfl rfl (by decide +kernel) ⟨Nat.le_of_ble_eq_true rfl, Nat.le_of_ble_eq_true rfl⟩) (dk_preS hK hN (hP.sub [] rfl)) rfl rfl hl.1 rfl (lv_room (Nat.le_of_ble_eq_true rfl)) d_Mo_command_21 ⟨Nat.le_of_ble_eq_true rfl, Nat.le_of_ble_eq_true rfl⟩) ?_
      refine lv_if_ne (tgt := 29) hx hb d_Mo_command_24 (by decide) (fun c24_5 => ?_) (fun c24_5 => ?_)
      · have hF := dk_f c24_5 hF
        refine lv_aload_n hx hb d_Mo_command_29 rfl (lv_at hl 0 rfl) ?_
        refine va_get (D := G) (ci := 8) (v := .ref t_offsets) (C := R_Mo) (T := F_Mo) (N := 24) hx hb hts i_Mo hown hK hP 0 rfl rfl 14 (by decide) (hts _ lk_443) (fun _ h9 => h9) rfl d_Mo_command_30 ?_
        refine lv_iload_n hx hb d_Mo_command_33 rfl (lv_at hl 1 rfl) ?_
        obtain ⟨hi, hF⟩ := dk_a hF
        refine va_iald (D := G) hx hb hK hP 2 0 rfl rfl (dk_vp hi) d_Mo_command_34 ?_
        refine lv_iload_n hx hb d_Mo_command_35 rfl (lv_at hl 2 rfl) ?_
        refine lv_iconst (v := (2 : Int32)) hx hb d_Mo_command_36 (by decide) ?_
        refine lv_idiv hx hb d_Mo_command_37 (by decide) ?_
        refine lv_aload_n hx hb d_Mo_command_38 rfl (lv_at hl 0 rfl) ?_
        refine va_get (D := G) (ci := 8) (v := .int v_t_cycle) (C := R_Mo) (T := F_Mo) (N := 24) hx hb hts i_Mo hown hK hP 0 rfl rfl 11 (by decide) (hts _ lk_444) (fun _ h9 => h9) rfl d_Mo_command_39 ?_
        refine lv_imul hx hb d_Mo_command_42 ?_
        refine lv_iadd hx hb d_Mo_command_43 ?_
        refine lv_iload_n hx hb d_Mo_command_44 rfl (lv_at hl 2 rfl) ?_
        refine lv_iconst (v := (2 : Int32)) hx hb d_Mo_command_45 (by decide) ?_
        refine lv_irem hx hb d_Mo_command_46 (by decide) ?_
        refine lv_if_ne (tgt := 54) hx hb d_Mo_command_47 (by decide) (fun c47_6 => ?_) (fun c47_6 => ?_)
        · have hF := dk_f c47_6 hF
          refine lv_aload_n hx hb d_Mo_command_54 rfl (lv_at hl 0 rfl) ?_
          refine va_get (D := G) (ci := 8) (v := .ref t_greens) (C := R_Mo) (T := F_Mo) (N := 24) hx hb hts i_Mo hown hK hP 0 rfl rfl 1 (by decide) (hts _ lk_424) (fun _ h9 => h9) rfl d_Mo_command_55 ?_
          refine lv_iload_n hx hb d_Mo_command_58 rfl (lv_at hl 1 rfl) ?_
          obtain ⟨hi, hF⟩ := dk_a hF
          refine va_iald (D := G) hx hb hK hP 1 0 rfl rfl (dk_vp hi) d_Mo_command_59 ?_
          refine lv_iadd hx hb d_Mo_command_60 ?_
          obtain rfl := Option.some.inj hF
          exact W.iret (v := ((v_t_offsets x1.toNatClampNeg) + ((x2 / (2 : Int32)) * v_t_cycle)) + (v_t_greens x1.toNatClampNeg)) hx hb hr (fun t ht hW => ⟨rfl, ht⟩) (fun _ h => by cases h) d_Mo_command_61
        · have hF := dk_t c47_6 hF
          refine lv_iconst (v := (0 : Int32)) hx hb d_Mo_command_50 (by decide) ?_
          refine lv_goto (tgt := 60) hx hb d_Mo_command_51 (by decide) ?_
          refine lv_iadd hx hb d_Mo_command_60 ?_
          obtain rfl := Option.some.inj hF
          exact W.iret (v := ((v_t_offsets x1.toNatClampNeg) + ((x2 / (2 : Int32)) * v_t_cycle)) + (0 : Int32)) hx hb hr (fun t ht hW => ⟨rfl, ht⟩) (fun _ h => by cases h) d_Mo_command_61
      · have hF := dk_t c24_5 hF
        refine lv_iconst (v := ((-1) : Int32)) hx hb d_Mo_command_27 (by decide) ?_
        obtain rfl := Option.some.inj hF
        exact W.iret (v := ((-1) : Int32)) hx hb hr (fun t ht hW => ⟨rfl, ht⟩) (fun _ h => by cases h) d_Mo_command_28
def p_Mo_fits (n : Nat) (x1 : Int32) (v_t_has : Int32) (v_t_crossings : Int32) (v_t_leasts : Nat → Int32) (v_t_cycle : Int32) : Option (Int32) :=
  if v_t_has = 0 then
    some (0 : Int32)
  else
    (p_Mo_isCrossing n x1 v_t_crossings).bind fun r9_2 =>
    if r9_2 = 0 then
      some (0 : Int32)
    else
      if dk_in x1 5 = true then
        if v_t_cycle < (v_t_leasts x1.toNatClampNeg) then
          some (0 : Int32)
        else
          some (1 : Int32)
      else none
abbrev m_Mo_fits : Room := { frames := 2, cells := 0, slots := 0, locals := 46 }
set_option maxHeartbeats 4000000 in
set_option maxRecDepth 100000 in
theorem c_Mo_fits (l : Launch) (G : va_G) (K : Nat → ClassId) (n : Nat) (t : Nat) (t_greens : Nat) (t_leasts : Nat) (t_queues : Nat) (t_seconds : Nat) (t_weights : Nat) (t_offsets : Nat) (t_row : Nat) (t_open : Nat) (t_places : Nat) (t_times : Nat) (t_cars : Nat) (t_hourCrossings : Nat) (t_hourCycles : Nat) (t_hourOffsets : Nat) (x1 : Int32) (v_t_crossings : Int32) (v_t_first : Int32) (v_t_last : Int32) (v_t_by : Int32) (v_t_step : Int32) (v_t_has : Int32) (v_t_cycle : Int32) (v_t_aim : Int32) (v_t_proved : Int32) (v_t_arrivals : Int32) (v_t_leasts : Nat → Int32) (o : Int32) (hF : p_Mo_fits n x1 v_t_has v_t_crossings v_t_leasts v_t_cycle = some o) :
    Met l y_Mo_fits (wd y_Mo_fits b_Mo_fits 2 (some .boolean)) m_Mo_fits (dk_Pp [.ref t, .int x1] G K [(t, .inr (8, [.int v_t_crossings, .ref t_greens, .ref t_leasts, .ref t_queues, .ref t_seconds, .ref t_weights, .int v_t_first, .int v_t_last, .int v_t_by, .int v_t_step, .int v_t_has, .int v_t_cycle, .int v_t_aim, .int v_t_proved, .ref t_offsets, .ref t_row, .ref t_open, .int v_t_arrivals, .ref t_places, .ref t_times, .ref t_cars, .ref t_hourCrossings, .ref t_hourCycles, .ref t_hourOffsets])), (t_leasts, .inl (K 0, 5, .inl v_t_leasts))]) (dk_Qp (some (.int o))) 0 0 (fun _ => False) := by
  refine Met.ofW (cc := b_Mo_fits) (maxL := 2) (ret := (some .boolean)) (by decide) rfl ?_
  intro p e s m args below meth c s₁ B hml hv
  obtain ⟨rfl, hP, hK, hN⟩ := hv
  have hx := B.exec
  have hb := B.bytes
  have hr := B.returns
  have hts : ∀ w ∈ lw_good, w.before _ s = true := fun w h => atoms_spec (ws := wd y_Mo_fits b_Mo_fits 2 (some .boolean)) B.pre w (List.mem_cons_of_mem _ h)
  have hown : s.vm.findClass R_Mo = some m.cls := findClass_of_methodNamed B.named
  have hlocks := B.notSynchronized
  have hfix : CallFix p m c b_Mo_fits 2 s _ lw_good R_Mo := ⟨hx, hb, hml, hown, hts⟩
  have hl := lv_entry ([.ref t, .int x1]) (n := 2) (Nat.le_of_ble_eq_true rfl)
  rw [lg_entry_eq]
  generalize (lg_sl ([.ref t, .int x1]) ++ List.replicate (2 - (lg_sl ([.ref t, .int x1])).length) Slot.unset).toArray = ls at hl ⊢
  have hl : lv_has ls 2 [(0, .ref t), (1, .int x1)] := hl
  change W p l e m_Mo_fits s m _ below meth c s.heap [] 0 0 _ _
  unfold p_Mo_fits at hF
  refine lv_aload_n hx hb d_Mo_fits_0 rfl (lv_at hl 0 rfl) ?_
  refine va_get (D := G) (ci := 8) (v := .int v_t_has) (C := R_Mo) (T := F_Mo) (N := 24) hx hb hts i_Mo hown hK hP 0 rfl rfl 10 (by decide) (hts _ lk_427) (fun _ h9 => h9) rfl d_Mo_fits_1 ?_
  refine lv_if_eq (tgt := 32) hx hb d_Mo_fits_4 (by decide) (fun c4_1 => ?_) (fun c4_1 => ?_)
  · have hF := dk_t c4_1 hF
    refine lv_iconst (v := (0 : Int32)) hx hb d_Mo_fits_32 (by decide) ?_
    obtain rfl := Option.some.inj hF
    exact W.zret (v := (0 : Int32)) hx hb hr rfl (fun t ht hW => ⟨rfl, ht⟩) (fun _ h => by cases h) d_Mo_fits_33
  · have hF := dk_f c4_1 hF
    refine lv_aload_n hx hb d_Mo_fits_7 rfl (lv_at hl 0 rfl) ?_
    refine lv_iload_n hx hb d_Mo_fits_8 rfl (lv_at hl 1 rfl) ?_
    obtain ⟨r9_2, hC, hF⟩ := dk_b hF
    refine dk_pure (va_runV (As := [.int x1]) (rest := []) hfix (c_Mo_isCrossing l G K n t t_greens t_leasts t_queues t_seconds t_weights t_offsets t_row t_open t_places t_times t_cars t_hourCrossings t_hourCycles t_hourOffsets x1 v_t_crossings v_t_first v_t_last v_t_by v_t_step v_t_has v_t_cycle v_t_aim v_t_proved v_t_arrivals r9_2 hC) (cwV 1 hts (gd_V lk_430 lk_432 lk_433 lk_419 lk_431) rfl rfl rfl (by decide +kernel) ⟨Nat.le_of_ble_eq_true rfl, Nat.le_of_ble_eq_true rfl⟩) (dk_preV hK hN (hP.sub [0] rfl) (va_recv hK hP (ci := 8) (q0 := 0) rfl rfl)) rfl rfl hl.1 rfl (lv_room (Nat.le_of_ble_eq_true rfl)) d_Mo_fits_9 ⟨Nat.le_of_ble_eq_true rfl, Nat.le_of_ble_eq_true rfl⟩) ?_
    refine lv_if_eq (tgt := 32) hx hb d_Mo_fits_12 (by decide) (fun c12_3 => ?_) (fun c12_3 => ?_)
    · have hF := dk_t c12_3 hF
      refine lv_iconst (v := (0 : Int32)) hx hb d_Mo_fits_32 (by decide) ?_
      obtain rfl := Option.some.inj hF
      exact W.zret (v := (0 : Int32)) hx hb hr rfl (fun t ht hW => ⟨rfl, ht⟩) (fun _ h => by cases h) d_Mo_fits_33
    · have hF := dk_f c12_3 hF
      refine lv_aload_n hx hb d_Mo_fits_15 rfl (lv_at hl 0 rfl) ?_
      refine va_get (D := G) (ci := 8) (v := .ref t_leasts) (C := R_Mo) (T := F_Mo) (N := 24) hx hb hts i_Mo hown hK hP 0 rfl rfl 2 (by decide) (hts _ lk_425) (fun _ h9 => h9) rfl d_Mo_fits_16 ?_
      refine lv_iload_n hx hb d_Mo_fits_19 rfl (lv_at hl 1 rfl) ?_
      obtain ⟨hi, hF⟩ := dk_a hF
      refine va_iald (D := G) hx hb hK hP 1 0 rfl rfl (dk_vp hi) d_Mo_fits_20 ?_
      refine lv_aload_n hx hb d_Mo_fits_21 rfl (lv_at hl 0 rfl) ?_
      refine va_get (D := G) (ci := 8) (v := .int v_t_cycle) (C := R_Mo) (T := F_Mo) (N := 24) hx hb hts i_Mo hown hK hP 0 rfl rfl 11 (by decide) (hts _ lk_444) (fun _ h9 => h9) rfl d_Mo_fits_22 ?_
      refine lv_icmp_gt (tgt := 32) hx hb d_Mo_fits_25 (by decide) (fun c25_4 => ?_) (fun c25_4 => ?_)
      · have hF := dk_t c25_4 hF
        refine lv_iconst (v := (0 : Int32)) hx hb d_Mo_fits_32 (by decide) ?_
        obtain rfl := Option.some.inj hF
        exact W.zret (v := (0 : Int32)) hx hb hr rfl (fun t ht hW => ⟨rfl, ht⟩) (fun _ h => by cases h) d_Mo_fits_33
      · have hF := dk_f c25_4 hF
        refine lv_iconst (v := (1 : Int32)) hx hb d_Mo_fits_28 (by decide) ?_
        refine lv_goto (tgt := 33) hx hb d_Mo_fits_29 (by decide) ?_
        obtain rfl := Option.some.inj hF
        exact W.zret (v := (1 : Int32)) hx hb hr rfl (fun t ht hW => ⟨rfl, ht⟩) (fun _ h => by cases h) d_Mo_fits_33
def p_Mo_count (n : Nat) (x1 : Int32) (v_t_has : Int32) (v_t_aim : Int32) (v_t_hourCrossings : Nat → Int32) (v_t_arrivals : Int32) (v_t_first : Int32) (v_t_last : Int32) (v_t_crossings : Int32) (v_t_leasts : Nat → Int32) (v_t_by : Int32) (v_t_step : Int32) : Option (Int64) :=
  (p_Mo_isIn n x1.toInt64 (0 : Int64) (4 : Int64)).bind fun r6_1 =>
  if r6_1 = 0 then
    some ((-1) : Int64)
  else
    if x1 = 0 then
      some v_t_crossings.toInt64
    else
      if x1 = (1 : Int32) then
        (p_Mo_allRows n v_t_first v_t_last v_t_crossings v_t_leasts v_t_by v_t_step).bind fun r34_9 =>
        some r34_9
      else
        if x1 = (2 : Int32) then
          some v_t_arrivals.toInt64
        else
          if x1 = (3 : Int32) then
            (p_Mo_hours n v_t_hourCrossings).bind fun r59_8 =>
            some r59_8.toInt64
          else
            if v_t_has = 0 then
              some ((-1) : Int64)
            else
              some v_t_aim.toInt64
abbrev m_Mo_count : Room := { frames := 2, cells := 0, slots := 0, locals := 47 }
set_option maxHeartbeats 4000000 in
set_option maxRecDepth 100000 in
theorem c_Mo_count (l : Launch) (G : va_G) (K : Nat → ClassId) (n : Nat) (t : Nat) (t_greens : Nat) (t_leasts : Nat) (t_queues : Nat) (t_seconds : Nat) (t_weights : Nat) (t_offsets : Nat) (t_row : Nat) (t_open : Nat) (t_places : Nat) (t_times : Nat) (t_cars : Nat) (t_hourCrossings : Nat) (t_hourCycles : Nat) (t_hourOffsets : Nat) (x1 : Int32) (v_t_crossings : Int32) (v_t_first : Int32) (v_t_last : Int32) (v_t_by : Int32) (v_t_step : Int32) (v_t_has : Int32) (v_t_cycle : Int32) (v_t_aim : Int32) (v_t_proved : Int32) (v_t_arrivals : Int32) (v_t_leasts : Nat → Int32) (v_t_hourCrossings : Nat → Int32) (o : Int64) (hF : p_Mo_count n x1 v_t_has v_t_aim v_t_hourCrossings v_t_arrivals v_t_first v_t_last v_t_crossings v_t_leasts v_t_by v_t_step = some o) :
    Met l y_Mo_count (wd y_Mo_count b_Mo_count 2 (some .long)) m_Mo_count (dk_Pp [.ref t, .int x1] G K [(t, .inr (8, [.int v_t_crossings, .ref t_greens, .ref t_leasts, .ref t_queues, .ref t_seconds, .ref t_weights, .int v_t_first, .int v_t_last, .int v_t_by, .int v_t_step, .int v_t_has, .int v_t_cycle, .int v_t_aim, .int v_t_proved, .ref t_offsets, .ref t_row, .ref t_open, .int v_t_arrivals, .ref t_places, .ref t_times, .ref t_cars, .ref t_hourCrossings, .ref t_hourCycles, .ref t_hourOffsets])), (t_leasts, .inl (K 0, 5, .inl v_t_leasts)), (t_hourCrossings, .inl (K 0, 24, .inl v_t_hourCrossings))]) (dk_Qp (some (.long o))) 0 0 (fun _ => False) := by
  refine Met.ofW (cc := b_Mo_count) (maxL := 2) (ret := (some .long)) (by decide) rfl ?_
  intro p e s m args below meth c s₁ B hml hv
  obtain ⟨rfl, hP, hK, hN⟩ := hv
  have hx := B.exec
  have hb := B.bytes
  have hr := B.returns
  have hts : ∀ w ∈ lw_good, w.before _ s = true := fun w h => atoms_spec (ws := wd y_Mo_count b_Mo_count 2 (some .long)) B.pre w (List.mem_cons_of_mem _ h)
  have hown : s.vm.findClass R_Mo = some m.cls := findClass_of_methodNamed B.named
  have hlocks := B.notSynchronized
  have hfix : CallFix p m c b_Mo_count 2 s _ lw_good R_Mo := ⟨hx, hb, hml, hown, hts⟩
  have hl := lv_entry ([.ref t, .int x1]) (n := 2) (Nat.le_of_ble_eq_true rfl)
  rw [lg_entry_eq]
  generalize (lg_sl ([.ref t, .int x1]) ++ List.replicate (2 - (lg_sl ([.ref t, .int x1])).length) Slot.unset).toArray = ls at hl ⊢
  have hl : lv_has ls 2 [(0, .ref t), (1, .int x1)] := hl
  change W p l e m_Mo_count s m _ below meth c s.heap [] 0 0 _ _
  unfold p_Mo_count at hF
  refine lv_iload_n hx hb d_Mo_count_0 rfl (lv_at hl 1 rfl) ?_
  refine lv_i2l hx hb d_Mo_count_1 rfl ?_
  refine lv_lconst (v := (0 : Int64)) hx hb d_Mo_count_2 (by decide) ?_
  refine lv_ldc2 (own := R_Mo) (index := 172) (v := (4 : Int64)) hx hb hown (hts _ lk_515) d_Mo_count_3 ?_
  obtain ⟨r6_1, hC, hF⟩ := dk_b hF
  refine dk_pure (va_runS (As := [.long x1.toInt64, .long (0 : Int64), .long (4 : Int64)]) (rest := []) hfix (c_Mo_isIn l G K n x1.toInt64 (0 : Int64) (4 : Int64) r6_1 hC) (va_cwS 3 hts (gd_S lk_416 lk_418 lk_419 lk_417) rfl rfl rfl (by decide +kernel) ⟨Nat.le_of_ble_eq_true rfl, Nat.le_of_ble_eq_true rfl⟩) (dk_preS hK hN (hP.sub [] rfl)) rfl rfl hl.1 rfl (lv_room (Nat.le_of_ble_eq_true rfl)) d_Mo_count_6 ⟨Nat.le_of_ble_eq_true rfl, Nat.le_of_ble_eq_true rfl⟩) ?_
  refine lv_if_ne (tgt := 16) hx hb d_Mo_count_9 (by decide) (fun c9_2 => ?_) (fun c9_2 => ?_)
  · have hF := dk_f c9_2 hF
    refine lv_iload_n hx hb d_Mo_count_16 rfl (lv_at hl 1 rfl) ?_
    refine lv_if_ne (tgt := 28) hx hb d_Mo_count_17 (by decide) (fun c17_3 => ?_) (fun c17_3 => ?_)
    · have hF := dk_f c17_3 hF
      refine lv_iload_n hx hb d_Mo_count_28 rfl (lv_at hl 1 rfl) ?_
      refine lv_iconst (v := (1 : Int32)) hx hb d_Mo_count_29 (by decide) ?_
      refine lv_icmp_ne (tgt := 40) hx hb d_Mo_count_30 (by decide) (fun c30_4 => ?_) (fun c30_4 => ?_)
      · have hF := dk_f c30_4 hF
        refine lv_iload_n hx hb d_Mo_count_40 rfl (lv_at hl 1 rfl) ?_
        refine lv_iconst (v := (2 : Int32)) hx hb d_Mo_count_41 (by decide) ?_
        refine lv_icmp_ne (tgt := 53) hx hb d_Mo_count_42 (by decide) (fun c42_5 => ?_) (fun c42_5 => ?_)
        · have hF := dk_f c42_5 hF
          refine lv_iload_n hx hb d_Mo_count_53 rfl (lv_at hl 1 rfl) ?_
          refine lv_iconst (v := (3 : Int32)) hx hb d_Mo_count_54 (by decide) ?_
          refine lv_icmp_ne (tgt := 66) hx hb d_Mo_count_55 (by decide) (fun c55_6 => ?_) (fun c55_6 => ?_)
          · have hF := dk_f c55_6 hF
            refine lv_aload_n hx hb d_Mo_count_66 rfl (lv_at hl 0 rfl) ?_
            refine va_get (D := G) (ci := 8) (v := .int v_t_has) (C := R_Mo) (T := F_Mo) (N := 24) hx hb hts i_Mo hown hK hP 0 rfl rfl 10 (by decide) (hts _ lk_427) (fun _ h9 => h9) rfl d_Mo_count_67 ?_
            refine lv_if_eq (tgt := 81) hx hb d_Mo_count_70 (by decide) (fun c70_7 => ?_) (fun c70_7 => ?_)
            · have hF := dk_t c70_7 hF
              refine lv_ldc2 (own := R_Mo) (index := 145) (v := ((-1) : Int64)) hx hb hown (hts _ lk_488) d_Mo_count_81 ?_
              obtain rfl := Option.some.inj hF
              exact W.lret (v := ((-1) : Int64)) hx hb hr (fun t ht hW => ⟨rfl, ht⟩) (fun _ h => by cases h) d_Mo_count_84
            · have hF := dk_f c70_7 hF
              refine lv_aload_n hx hb d_Mo_count_73 rfl (lv_at hl 0 rfl) ?_
              refine va_get (D := G) (ci := 8) (v := .int v_t_aim) (C := R_Mo) (T := F_Mo) (N := 24) hx hb hts i_Mo hown hK hP 0 rfl rfl 12 (by decide) (hts _ lk_483) (fun _ h9 => h9) rfl d_Mo_count_74 ?_
              refine lv_i2l hx hb d_Mo_count_77 rfl ?_
              refine lv_goto (tgt := 84) hx hb d_Mo_count_78 (by decide) ?_
              obtain rfl := Option.some.inj hF
              exact W.lret (v := v_t_aim.toInt64) hx hb hr (fun t ht hW => ⟨rfl, ht⟩) (fun _ h => by cases h) d_Mo_count_84
          · have hF := dk_t c55_6 hF
            refine lv_aload_n hx hb d_Mo_count_58 rfl (lv_at hl 0 rfl) ?_
            obtain ⟨r59_8, hC, hF⟩ := dk_b hF
            refine dk_pure (va_runV (As := []) (rest := []) hfix (c_Mo_hours l G K n t t_greens t_leasts t_queues t_seconds t_weights t_offsets t_row t_open t_places t_times t_cars t_hourCrossings t_hourCycles t_hourOffsets v_t_crossings v_t_first v_t_last v_t_by v_t_step v_t_has v_t_cycle v_t_aim v_t_proved v_t_arrivals v_t_hourCrossings r59_8 hC) (cwV 0 hts (gd_V lk_507 lk_509 lk_510 lk_419 lk_508) rfl rfl rfl (by decide +kernel) ⟨Nat.le_of_ble_eq_true rfl, Nat.le_of_ble_eq_true rfl⟩) (dk_preV hK hN (hP.sub [0, 2] rfl) (va_recv hK hP (ci := 8) (q0 := 0) rfl rfl)) rfl rfl hl.1 rfl (lv_room (Nat.le_of_ble_eq_true rfl)) d_Mo_count_59 ⟨Nat.le_of_ble_eq_true rfl, Nat.le_of_ble_eq_true rfl⟩) ?_
            refine lv_i2l hx hb d_Mo_count_62 rfl ?_
            refine lv_goto (tgt := 84) hx hb d_Mo_count_63 (by decide) ?_
            obtain rfl := Option.some.inj hF
            exact W.lret (v := r59_8.toInt64) hx hb hr (fun t ht hW => ⟨rfl, ht⟩) (fun _ h => by cases h) d_Mo_count_84
        · have hF := dk_t c42_5 hF
          refine lv_aload_n hx hb d_Mo_count_45 rfl (lv_at hl 0 rfl) ?_
          refine va_get (D := G) (ci := 8) (v := .int v_t_arrivals) (C := R_Mo) (T := F_Mo) (N := 24) hx hb hts i_Mo hown hK hP 0 rfl rfl 17 (by decide) (hts _ lk_499) (fun _ h9 => h9) rfl d_Mo_count_46 ?_
          refine lv_i2l hx hb d_Mo_count_49 rfl ?_
          refine lv_goto (tgt := 84) hx hb d_Mo_count_50 (by decide) ?_
          obtain rfl := Option.some.inj hF
          exact W.lret (v := v_t_arrivals.toInt64) hx hb hr (fun t ht hW => ⟨rfl, ht⟩) (fun _ h => by cases h) d_Mo_count_84
      · have hF := dk_t c30_4 hF
        refine lv_aload_n hx hb d_Mo_count_33 rfl (lv_at hl 0 rfl) ?_
        obtain ⟨r34_9, hC, hF⟩ := dk_b hF
        refine dk_pure (va_runV (As := []) (rest := []) hfix (c_Mo_allRows l G K n t t_greens t_leasts t_queues t_seconds t_weights t_offsets t_row t_open t_places t_times t_cars t_hourCrossings t_hourCycles t_hourOffsets v_t_crossings v_t_first v_t_last v_t_by v_t_step v_t_has v_t_cycle v_t_aim v_t_proved v_t_arrivals v_t_leasts r34_9 hC) (cwV 0 hts (gd_V lk_471 lk_473 lk_474 lk_419 lk_472) rfl rfl rfl (by decide +kernel) ⟨Nat.le_of_ble_eq_true rfl, Nat.le_of_ble_eq_true rfl⟩) (dk_preV hK hN (hP.sub [0, 1] rfl) (va_recv hK hP (ci := 8) (q0 := 0) rfl rfl)) rfl rfl hl.1 rfl (lv_room (Nat.le_of_ble_eq_true rfl)) d_Mo_count_34 ⟨Nat.le_of_ble_eq_true rfl, Nat.le_of_ble_eq_true rfl⟩) ?_
        refine lv_goto (tgt := 84) hx hb d_Mo_count_37 (by decide) ?_
        obtain rfl := Option.some.inj hF
        exact W.lret (v := r34_9) hx hb hr (fun t ht hW => ⟨rfl, ht⟩) (fun _ h => by cases h) d_Mo_count_84
    · have hF := dk_t c17_3 hF
      refine lv_aload_n hx hb d_Mo_count_20 rfl (lv_at hl 0 rfl) ?_
      refine va_get (D := G) (ci := 8) (v := .int v_t_crossings) (C := R_Mo) (T := F_Mo) (N := 24) hx hb hts i_Mo hown hK hP 0 rfl rfl 0 (by decide) (hts _ lk_415) (fun _ h9 => h9) rfl d_Mo_count_21 ?_
      refine lv_i2l hx hb d_Mo_count_24 rfl ?_
      refine lv_goto (tgt := 84) hx hb d_Mo_count_25 (by decide) ?_
      obtain rfl := Option.some.inj hF
      exact W.lret (v := v_t_crossings.toInt64) hx hb hr (fun t ht hW => ⟨rfl, ht⟩) (fun _ h => by cases h) d_Mo_count_84
  · have hF := dk_t c9_2 hF
    refine lv_ldc2 (own := R_Mo) (index := 145) (v := ((-1) : Int64)) hx hb hown (hts _ lk_488) d_Mo_count_12 ?_
    obtain rfl := Option.some.inj hF
    exact W.lret (v := ((-1) : Int64)) hx hb hr (fun t ht hW => ⟨rfl, ht⟩) (fun _ h => by cases h) d_Mo_count_15
def p_Mo_init (n : Nat) (v_t_crossings : Int32) (v_t_first : Int32) (v_t_last : Int32) (v_t_by : Int32) (v_t_step : Int32) (v_t_has : Int32) (v_t_cycle : Int32) (v_t_aim : Int32) (v_t_proved : Int32) (v_t_arrivals : Int32) : Option (Int32 × Int32 × Int32 × Int32 × Int32 × Int32 × Int32 × Int32 × Int32 × Int32 × (Nat → Int32) × (Nat → Int32) × (Nat → Int32) × (Nat → Int32) × (Nat → Int32) × (Nat → Int32) × (Nat → Int32) × (Nat → Int32) × (Nat → Int32) × (Nat → Int32) × (Nat → Int32) × (Nat → Int32) × (Nat → Int32) × (Nat → Int32)) :=
  some (v_t_crossings, (10 : Int32), (120 : Int32), (10 : Int32), (5 : Int32), v_t_has, v_t_cycle, v_t_aim, v_t_proved, v_t_arrivals, fun _ => 0, fun _ => 0, fun _ => 0, fun _ => 0, fun _ => 0, fun _ => 0, fun _ => 0, fun _ => 0, fun _ => 0, fun _ => 0, fun _ => 0, fun _ => 0, fun _ => 0, fun _ => 0)
abbrev m_Mo_init : Room := { frames := 1, cells := 14, slots := 933, locals := 20 }
set_option maxHeartbeats 4000000 in
set_option maxRecDepth 100000 in
theorem c_Mo_init (l : Launch) (G : va_G) (K : Nat → ClassId) (n : Nat) (sz : Nat) (t : Nat) (v_t_crossings : Int32) (v_t_first : Int32) (v_t_last : Int32) (v_t_by : Int32) (v_t_step : Int32) (v_t_has : Int32) (v_t_cycle : Int32) (v_t_aim : Int32) (v_t_proved : Int32) (v_t_arrivals : Int32) (o : Int32 × Int32 × Int32 × Int32 × Int32 × Int32 × Int32 × Int32 × Int32 × Int32 × (Nat → Int32) × (Nat → Int32) × (Nat → Int32) × (Nat → Int32) × (Nat → Int32) × (Nat → Int32) × (Nat → Int32) × (Nat → Int32) × (Nat → Int32) × (Nat → Int32) × (Nat → Int32) × (Nat → Int32) × (Nat → Int32) × (Nat → Int32)) (hF : p_Mo_init n v_t_crossings v_t_first v_t_last v_t_by v_t_step v_t_has v_t_cycle v_t_aim v_t_proved v_t_arrivals = some o) :
    Met l y_Mo_init (wd y_Mo_init b_Mo_init 1 none) m_Mo_init (dk_Pm [.ref t] G K [(t, .inr (8, [.int v_t_crossings, .null, .null, .null, .null, .null, .int v_t_first, .int v_t_last, .int v_t_by, .int v_t_step, .int v_t_has, .int v_t_cycle, .int v_t_aim, .int v_t_proved, .null, .null, .null, .int v_t_arrivals, .null, .null, .null, .null, .null, .null]))] sz) (dk_Qm none G (fun u : Nat × Nat × Nat × Nat × Nat × Nat × Nat × Nat × Nat × Nat × Nat × Nat × Nat × Nat => [(t, .inr (8, [.int o.1, .ref u.1, .ref u.2.1, .ref u.2.2.1, .ref u.2.2.2.1, .ref u.2.2.2.2.1, .int o.2.1, .int o.2.2.1, .int o.2.2.2.1, .int o.2.2.2.2.1, .int o.2.2.2.2.2.1, .int o.2.2.2.2.2.2.1, .int o.2.2.2.2.2.2.2.1, .int o.2.2.2.2.2.2.2.2.1, .ref u.2.2.2.2.2.1, .ref u.2.2.2.2.2.2.1, .ref u.2.2.2.2.2.2.2.1, .int o.2.2.2.2.2.2.2.2.2.1, .ref u.2.2.2.2.2.2.2.2.1, .ref u.2.2.2.2.2.2.2.2.2.1, .ref u.2.2.2.2.2.2.2.2.2.2.1, .ref u.2.2.2.2.2.2.2.2.2.2.2.1, .ref u.2.2.2.2.2.2.2.2.2.2.2.2.1, .ref u.2.2.2.2.2.2.2.2.2.2.2.2.2])), (u.1, .inl (K 0, 5, .inl o.2.2.2.2.2.2.2.2.2.2.1)), (u.2.1, .inl (K 0, 5, .inl o.2.2.2.2.2.2.2.2.2.2.2.1)), (u.2.2.1, .inl (K 0, 5, .inl o.2.2.2.2.2.2.2.2.2.2.2.2.1)), (u.2.2.2.1, .inl (K 0, 10, .inl o.2.2.2.2.2.2.2.2.2.2.2.2.2.1)), (u.2.2.2.2.1, .inl (K 0, 10, .inl o.2.2.2.2.2.2.2.2.2.2.2.2.2.2.1)), (u.2.2.2.2.2.1, .inl (K 0, 5, .inl o.2.2.2.2.2.2.2.2.2.2.2.2.2.2.2.1)), (u.2.2.2.2.2.2.1, .inl (K 0, 5, .inl o.2.2.2.2.2.2.2.2.2.2.2.2.2.2.2.2.1)), (u.2.2.2.2.2.2.2.1, .inl (K 3, 600, .inl o.2.2.2.2.2.2.2.2.2.2.2.2.2.2.2.2.2.1)), (u.2.2.2.2.2.2.2.2.1, .inl (K 0, 40, .inl o.2.2.2.2.2.2.2.2.2.2.2.2.2.2.2.2.2.2.1)), (u.2.2.2.2.2.2.2.2.2.1, .inl (K 0, 40, .inl o.2.2.2.2.2.2.2.2.2.2.2.2.2.2.2.2.2.2.2.1)), (u.2.2.2.2.2.2.2.2.2.2.1, .inl (K 0, 40, .inl o.2.2.2.2.2.2.2.2.2.2.2.2.2.2.2.2.2.2.2.2.1)), (u.2.2.2.2.2.2.2.2.2.2.2.1, .inl (K 0, 24, .inl o.2.2.2.2.2.2.2.2.2.2.2.2.2.2.2.2.2.2.2.2.2.1)), (u.2.2.2.2.2.2.2.2.2.2.2.2.1, .inl (K 0, 24, .inl o.2.2.2.2.2.2.2.2.2.2.2.2.2.2.2.2.2.2.2.2.2.2.1)), (u.2.2.2.2.2.2.2.2.2.2.2.2.2, .inl (K 0, 120, .inl o.2.2.2.2.2.2.2.2.2.2.2.2.2.2.2.2.2.2.2.2.2.2.2))]) (va_A [(t, .inr (8, [.int v_t_crossings, .null, .null, .null, .null, .null, .int v_t_first, .int v_t_last, .int v_t_by, .int v_t_step, .int v_t_has, .int v_t_cycle, .int v_t_aim, .int v_t_proved, .null, .null, .null, .int v_t_arrivals, .null, .null, .null, .null, .null, .null]))] sz)) 14 933 (va_A [(t, .inr (8, [.int v_t_crossings, .null, .null, .null, .null, .null, .int v_t_first, .int v_t_last, .int v_t_by, .int v_t_step, .int v_t_has, .int v_t_cycle, .int v_t_aim, .int v_t_proved, .null, .null, .null, .int v_t_arrivals, .null, .null, .null, .null, .null, .null]))] sz) := by
  refine Met.ofW (cc := b_Mo_init) (maxL := 1) (ret := none) (by decide) rfl ?_
  intro p e s m args below meth c s₁ B hml hv
  obtain ⟨rfl, hsz, hP, hK, hN, hD0⟩ := hv
  have hx := B.exec
  have hb := B.bytes
  have hr := B.returns
  have hts : ∀ w ∈ lw_good, w.before _ s = true := fun w h => atoms_spec (ws := wd y_Mo_init b_Mo_init 1 none) B.pre w (List.mem_cons_of_mem _ h)
  have hown : s.vm.findClass R_Mo = some m.cls := findClass_of_methodNamed B.named
  have hlocks := B.notSynchronized
  have hfix : CallFix p m c b_Mo_init 1 s _ lw_good R_Mo := ⟨hx, hb, hml, hown, hts⟩
  have hin : meth.name = "<init>" := (name_of_methodNamed B.named B.method).1
  subst hsz
  have hD := hD0.self (sz := s.heap.size)
  generalize hAe : va_A [(t, .inr (8, [.int v_t_crossings, .null, .null, .null, .null, .null, .int v_t_first, .int v_t_last, .int v_t_by, .int v_t_step, .int v_t_has, .int v_t_cycle, .int v_t_aim, .int v_t_proved, .null, .null, .null, .int v_t_arrivals, .null, .null, .null, .null, .null, .null]))] s.heap.size = A at hD ⊢
  have hA : ∀ q : Nat, s.heap.size ≤ q → A q := fun q h => by rw [← hAe]; exact Or.inr h
  have hS : va_S A s.heap s.heap [] := va_S.rf
  have hl := lv_entry ([.ref t]) (n := 1) (Nat.le_of_ble_eq_true rfl)
  rw [lg_entry_eq]
  generalize (lg_sl ([.ref t]) ++ List.replicate (1 - (lg_sl ([.ref t])).length) Slot.unset).toArray = ls at hl ⊢
  have hl : lv_has ls 1 [(0, .ref t)] := hl
  change W p l e m_Mo_init s m _ below meth c s.heap [] 0 0 _ _
  unfold p_Mo_init at hF
  refine lv_aload_n hx hb d_Mo_init_0 rfl (lv_at hl 0 rfl) ?_
  refine W.objInit hx hb hown (hts _ lk_516) (hts _ lk_364) (hts _ lk_365) rfl (by rw [hml]; exact hl.1) rfl d_Mo_init_1 (Nat.le_of_ble_eq_true rfl) (Nat.le_of_ble_eq_true rfl) ?_
  refine W.eq (g2 := F0 m 4 ls []) rfl ?_
  refine lv_aload_n hx hb d_Mo_init_4 rfl (lv_at hl 0 rfl) ?_
  refine lv_iconst (v := (5 : Int32)) hx hb d_Mo_init_5 (by decide) ?_
  refine va_newa (D := G) (atype := .int) (ty := .int) (n := (5 : Int32)) (N' := 5) (a0 := (5, .inl (fun _ => 0))) hx hb (hts _ lk_366) rfl hK hP hD hS hA (fun _ => rfl) (by decide) (by decide) (by decide) (Nat.le_of_ble_eq_true rfl) (Nat.le_of_ble_eq_true rfl) d_Mo_init_6 (fun q6 cA H hK2 hP hD hS => ?_)
  obtain rfl : cA = K 0 := dk_cA hK2 (i := 4) (j := 0) rfl rfl
  have hP : va_P G classes [(t, .inr (8, [.int v_t_crossings, .null, .null, .null, .null, .null, .int v_t_first, .int v_t_last, .int v_t_by, .int v_t_step, .int v_t_has, .int v_t_cycle, .int v_t_aim, .int v_t_proved, .null, .null, .null, .int v_t_arrivals, .null, .null, .null, .null, .null, .null])), (q6, .inl (K 0, 5, .inl (fun _ => 0)))] H := hP
  have hD : va_D A [(t, .inr (8, [.int v_t_crossings, .null, .null, .null, .null, .null, .int v_t_first, .int v_t_last, .int v_t_by, .int v_t_step, .int v_t_has, .int v_t_cycle, .int v_t_aim, .int v_t_proved, .null, .null, .null, .int v_t_arrivals, .null, .null, .null, .null, .null, .null])), (q6, .inl (K 0, 5, .inl (fun _ => 0)))] := hD
  refine va_putF (D := G) (ci := 8) (v := .ref q6) (ty := (.array .int)) (C := R_Mo) (T := F_Mo) (N := 24) hx hb hts i_Mo t_Mo t_Mo_ok n_Mo hown hK hP hD hS 0 rfl rfl 1 (by decide) (hts _ lk_424) (fun _ h9 => h9) rfl hin rfl (by decide +kernel) rfl rfl (Nat.le_of_ble_eq_true rfl) d_Mo_init_8 (fun H locs hP hD hS => ?_)
  have hP : va_P G classes [(t, .inr (8, [.int v_t_crossings, .ref q6, .null, .null, .null, .null, .int v_t_first, .int v_t_last, .int v_t_by, .int v_t_step, .int v_t_has, .int v_t_cycle, .int v_t_aim, .int v_t_proved, .null, .null, .null, .int v_t_arrivals, .null, .null, .null, .null, .null, .null])), (q6, .inl (K 0, 5, .inl (fun _ => 0)))] H := hP
  have hD : va_D A [(t, .inr (8, [.int v_t_crossings, .ref q6, .null, .null, .null, .null, .int v_t_first, .int v_t_last, .int v_t_by, .int v_t_step, .int v_t_has, .int v_t_cycle, .int v_t_aim, .int v_t_proved, .null, .null, .null, .int v_t_arrivals, .null, .null, .null, .null, .null, .null])), (q6, .inl (K 0, 5, .inl (fun _ => 0)))] := hD
  refine lv_aload_n hx hb d_Mo_init_11 rfl (lv_at hl 0 rfl) ?_
  refine lv_iconst (v := (5 : Int32)) hx hb d_Mo_init_12 (by decide) ?_
  refine va_newa (D := G) (atype := .int) (ty := .int) (n := (5 : Int32)) (N' := 5) (a0 := (5, .inl (fun _ => 0))) hx hb (hts _ lk_366) rfl hK hP hD hS hA (fun _ => rfl) (by decide) (by decide) (by decide) (Nat.le_of_ble_eq_true rfl) (Nat.le_of_ble_eq_true rfl) d_Mo_init_13 (fun q13 cA H hK2 hP hD hS => ?_)
  obtain rfl : cA = K 0 := dk_cA hK2 (i := 4) (j := 0) rfl rfl
  have hP : va_P G classes [(t, .inr (8, [.int v_t_crossings, .ref q6, .null, .null, .null, .null, .int v_t_first, .int v_t_last, .int v_t_by, .int v_t_step, .int v_t_has, .int v_t_cycle, .int v_t_aim, .int v_t_proved, .null, .null, .null, .int v_t_arrivals, .null, .null, .null, .null, .null, .null])), (q6, .inl (K 0, 5, .inl (fun _ => 0))), (q13, .inl (K 0, 5, .inl (fun _ => 0)))] H := hP
  have hD : va_D A [(t, .inr (8, [.int v_t_crossings, .ref q6, .null, .null, .null, .null, .int v_t_first, .int v_t_last, .int v_t_by, .int v_t_step, .int v_t_has, .int v_t_cycle, .int v_t_aim, .int v_t_proved, .null, .null, .null, .int v_t_arrivals, .null, .null, .null, .null, .null, .null])), (q6, .inl (K 0, 5, .inl (fun _ => 0))), (q13, .inl (K 0, 5, .inl (fun _ => 0)))] := hD
  refine va_putF (D := G) (ci := 8) (v := .ref q13) (ty := (.array .int)) (C := R_Mo) (T := F_Mo) (N := 24) hx hb hts i_Mo t_Mo t_Mo_ok n_Mo hown hK hP hD hS 0 rfl rfl 2 (by decide) (hts _ lk_425) (fun _ h9 => h9) rfl hin rfl (by decide +kernel) rfl rfl (Nat.le_of_ble_eq_true rfl) d_Mo_init_15 (fun H locs hP hD hS => ?_)
  have hP : va_P G classes [(t, .inr (8, [.int v_t_crossings, .ref q6, .ref q13, .null, .null, .null, .int v_t_first, .int v_t_last, .int v_t_by, .int v_t_step, .int v_t_has, .int v_t_cycle, .int v_t_aim, .int v_t_proved, .null, .null, .null, .int v_t_arrivals, .null, .null, .null, .null, .null, .null])), (q6, .inl (K 0, 5, .inl (fun _ => 0))), (q13, .inl (K 0, 5, .inl (fun _ => 0)))] H := hP
  have hD : va_D A [(t, .inr (8, [.int v_t_crossings, .ref q6, .ref q13, .null, .null, .null, .int v_t_first, .int v_t_last, .int v_t_by, .int v_t_step, .int v_t_has, .int v_t_cycle, .int v_t_aim, .int v_t_proved, .null, .null, .null, .int v_t_arrivals, .null, .null, .null, .null, .null, .null])), (q6, .inl (K 0, 5, .inl (fun _ => 0))), (q13, .inl (K 0, 5, .inl (fun _ => 0)))] := hD
  refine lv_aload_n hx hb d_Mo_init_18 rfl (lv_at hl 0 rfl) ?_
  refine lv_iconst (v := (5 : Int32)) hx hb d_Mo_init_19 (by decide) ?_
  refine va_newa (D := G) (atype := .int) (ty := .int) (n := (5 : Int32)) (N' := 5) (a0 := (5, .inl (fun _ => 0))) hx hb (hts _ lk_366) rfl hK hP hD hS hA (fun _ => rfl) (by decide) (by decide) (by decide) (Nat.le_of_ble_eq_true rfl) (Nat.le_of_ble_eq_true rfl) d_Mo_init_20 (fun q20 cA H hK2 hP hD hS => ?_)
  obtain rfl : cA = K 0 := dk_cA hK2 (i := 4) (j := 0) rfl rfl
  have hP : va_P G classes [(t, .inr (8, [.int v_t_crossings, .ref q6, .ref q13, .null, .null, .null, .int v_t_first, .int v_t_last, .int v_t_by, .int v_t_step, .int v_t_has, .int v_t_cycle, .int v_t_aim, .int v_t_proved, .null, .null, .null, .int v_t_arrivals, .null, .null, .null, .null, .null, .null])), (q6, .inl (K 0, 5, .inl (fun _ => 0))), (q13, .inl (K 0, 5, .inl (fun _ => 0))), (q20, .inl (K 0, 5, .inl (fun _ => 0)))] H := hP
  have hD : va_D A [(t, .inr (8, [.int v_t_crossings, .ref q6, .ref q13, .null, .null, .null, .int v_t_first, .int v_t_last, .int v_t_by, .int v_t_step, .int v_t_has, .int v_t_cycle, .int v_t_aim, .int v_t_proved, .null, .null, .null, .int v_t_arrivals, .null, .null, .null, .null, .null, .null])), (q6, .inl (K 0, 5, .inl (fun _ => 0))), (q13, .inl (K 0, 5, .inl (fun _ => 0))), (q20, .inl (K 0, 5, .inl (fun _ => 0)))] := hD
  refine va_putF (D := G) (ci := 8) (v := .ref q20) (ty := (.array .int)) (C := R_Mo) (T := F_Mo) (N := 24) hx hb hts i_Mo t_Mo t_Mo_ok n_Mo hown hK hP hD hS 0 rfl rfl 3 (by decide) (hts _ lk_426) (fun _ h9 => h9) rfl hin rfl (by decide +kernel) rfl rfl (Nat.le_of_ble_eq_true rfl) d_Mo_init_22 (fun H locs hP hD hS => ?_)
  have hP : va_P G classes [(t, .inr (8, [.int v_t_crossings, .ref q6, .ref q13, .ref q20, .null, .null, .int v_t_first, .int v_t_last, .int v_t_by, .int v_t_step, .int v_t_has, .int v_t_cycle, .int v_t_aim, .int v_t_proved, .null, .null, .null, .int v_t_arrivals, .null, .null, .null, .null, .null, .null])), (q6, .inl (K 0, 5, .inl (fun _ => 0))), (q13, .inl (K 0, 5, .inl (fun _ => 0))), (q20, .inl (K 0, 5, .inl (fun _ => 0)))] H := hP
  have hD : va_D A [(t, .inr (8, [.int v_t_crossings, .ref q6, .ref q13, .ref q20, .null, .null, .int v_t_first, .int v_t_last, .int v_t_by, .int v_t_step, .int v_t_has, .int v_t_cycle, .int v_t_aim, .int v_t_proved, .null, .null, .null, .int v_t_arrivals, .null, .null, .null, .null, .null, .null])), (q6, .inl (K 0, 5, .inl (fun _ => 0))), (q13, .inl (K 0, 5, .inl (fun _ => 0))), (q20, .inl (K 0, 5, .inl (fun _ => 0)))] := hD
  refine lv_aload_n hx hb d_Mo_init_25 rfl (lv_at hl 0 rfl) ?_
  refine lv_bipush (v := (10 : Int32)) hx hb d_Mo_init_26 (by decide) ?_
  refine va_newa (D := G) (atype := .int) (ty := .int) (n := (10 : Int32)) (N' := 10) (a0 := (10, .inl (fun _ => 0))) hx hb (hts _ lk_366) rfl hK hP hD hS hA (fun _ => rfl) (by decide) (by decide) (by decide) (Nat.le_of_ble_eq_true rfl) (Nat.le_of_ble_eq_true rfl) d_Mo_init_28 (fun q28 cA H hK2 hP hD hS => ?_)
  obtain rfl : cA = K 0 := dk_cA hK2 (i := 4) (j := 0) rfl rfl
  have hP : va_P G classes [(t, .inr (8, [.int v_t_crossings, .ref q6, .ref q13, .ref q20, .null, .null, .int v_t_first, .int v_t_last, .int v_t_by, .int v_t_step, .int v_t_has, .int v_t_cycle, .int v_t_aim, .int v_t_proved, .null, .null, .null, .int v_t_arrivals, .null, .null, .null, .null, .null, .null])), (q6, .inl (K 0, 5, .inl (fun _ => 0))), (q13, .inl (K 0, 5, .inl (fun _ => 0))), (q20, .inl (K 0, 5, .inl (fun _ => 0))), (q28, .inl (K 0, 10, .inl (fun _ => 0)))] H := hP
  have hD : va_D A [(t, .inr (8, [.int v_t_crossings, .ref q6, .ref q13, .ref q20, .null, .null, .int v_t_first, .int v_t_last, .int v_t_by, .int v_t_step, .int v_t_has, .int v_t_cycle, .int v_t_aim, .int v_t_proved, .null, .null, .null, .int v_t_arrivals, .null, .null, .null, .null, .null, .null])), (q6, .inl (K 0, 5, .inl (fun _ => 0))), (q13, .inl (K 0, 5, .inl (fun _ => 0))), (q20, .inl (K 0, 5, .inl (fun _ => 0))), (q28, .inl (K 0, 10, .inl (fun _ => 0)))] := hD
  refine va_putF (D := G) (ci := 8) (v := .ref q28) (ty := (.array .int)) (C := R_Mo) (T := F_Mo) (N := 24) hx hb hts i_Mo t_Mo t_Mo_ok n_Mo hown hK hP hD hS 0 rfl rfl 4 (by decide) (hts _ lk_428) (fun _ h9 => h9) rfl hin rfl (by decide +kernel) rfl rfl (Nat.le_of_ble_eq_true rfl) d_Mo_init_30 (fun H locs hP hD hS => ?_)
  have hP : va_P G classes [(t, .inr (8, [.int v_t_crossings, .ref q6, .ref q13, .ref q20, .ref q28, .null, .int v_t_first, .int v_t_last, .int v_t_by, .int v_t_step, .int v_t_has, .int v_t_cycle, .int v_t_aim, .int v_t_proved, .null, .null, .null, .int v_t_arrivals, .null, .null, .null, .null, .null, .null])), (q6, .inl (K 0, 5, .inl (fun _ => 0))), (q13, .inl (K 0, 5, .inl (fun _ => 0))), (q20, .inl (K 0, 5, .inl (fun _ => 0))), (q28, .inl (K 0, 10, .inl (fun _ => 0)))] H := hP
  have hD : va_D A [(t, .inr (8, [.int v_t_crossings, .ref q6, .ref q13, .ref q20, .ref q28, .null, .int v_t_first, .int v_t_last, .int v_t_by, .int v_t_step, .int v_t_has, .int v_t_cycle, .int v_t_aim, .int v_t_proved, .null, .null, .null, .int v_t_arrivals, .null, .null, .null, .null, .null, .null])), (q6, .inl (K 0, 5, .inl (fun _ => 0))), (q13, .inl (K 0, 5, .inl (fun _ => 0))), (q20, .inl (K 0, 5, .inl (fun _ => 0))), (q28, .inl (K 0, 10, .inl (fun _ => 0)))] := hD
  refine lv_aload_n hx hb d_Mo_init_33 rfl (lv_at hl 0 rfl) ?_
  refine lv_bipush (v := (10 : Int32)) hx hb d_Mo_init_34 (by decide) ?_
  refine va_newa (D := G) (atype := .int) (ty := .int) (n := (10 : Int32)) (N' := 10) (a0 := (10, .inl (fun _ => 0))) hx hb (hts _ lk_366) rfl hK hP hD hS hA (fun _ => rfl) (by decide) (by decide) (by decide) (Nat.le_of_ble_eq_true rfl) (Nat.le_of_ble_eq_true rfl) d_Mo_init_36 (fun q36 cA H hK2 hP hD hS => ?_)
  obtain rfl : cA = K 0 := dk_cA hK2 (i := 4) (j := 0) rfl rfl
  have hP : va_P G classes [(t, .inr (8, [.int v_t_crossings, .ref q6, .ref q13, .ref q20, .ref q28, .null, .int v_t_first, .int v_t_last, .int v_t_by, .int v_t_step, .int v_t_has, .int v_t_cycle, .int v_t_aim, .int v_t_proved, .null, .null, .null, .int v_t_arrivals, .null, .null, .null, .null, .null, .null])), (q6, .inl (K 0, 5, .inl (fun _ => 0))), (q13, .inl (K 0, 5, .inl (fun _ => 0))), (q20, .inl (K 0, 5, .inl (fun _ => 0))), (q28, .inl (K 0, 10, .inl (fun _ => 0))), (q36, .inl (K 0, 10, .inl (fun _ => 0)))] H := hP
  have hD : va_D A [(t, .inr (8, [.int v_t_crossings, .ref q6, .ref q13, .ref q20, .ref q28, .null, .int v_t_first, .int v_t_last, .int v_t_by, .int v_t_step, .int v_t_has, .int v_t_cycle, .int v_t_aim, .int v_t_proved, .null, .null, .null, .int v_t_arrivals, .null, .null, .null, .null, .null, .null])), (q6, .inl (K 0, 5, .inl (fun _ => 0))), (q13, .inl (K 0, 5, .inl (fun _ => 0))), (q20, .inl (K 0, 5, .inl (fun _ => 0))), (q28, .inl (K 0, 10, .inl (fun _ => 0))), (q36, .inl (K 0, 10, .inl (fun _ => 0)))] := hD
  refine va_putF (D := G) (ci := 8) (v := .ref q36) (ty := (.array .int)) (C := R_Mo) (T := F_Mo) (N := 24) hx hb hts i_Mo t_Mo t_Mo_ok n_Mo hown hK hP hD hS 0 rfl rfl 5 (by decide) (hts _ lk_429) (fun _ h9 => h9) rfl hin rfl (by decide +kernel) rfl rfl (Nat.le_of_ble_eq_true rfl) d_Mo_init_38 (fun H locs hP hD hS => ?_)
  have hP : va_P G classes [(t, .inr (8, [.int v_t_crossings, .ref q6, .ref q13, .ref q20, .ref q28, .ref q36, .int v_t_first, .int v_t_last, .int v_t_by, .int v_t_step, .int v_t_has, .int v_t_cycle, .int v_t_aim, .int v_t_proved, .null, .null, .null, .int v_t_arrivals, .null, .null, .null, .null, .null, .null])), (q6, .inl (K 0, 5, .inl (fun _ => 0))), (q13, .inl (K 0, 5, .inl (fun _ => 0))), (q20, .inl (K 0, 5, .inl (fun _ => 0))), (q28, .inl (K 0, 10, .inl (fun _ => 0))), (q36, .inl (K 0, 10, .inl (fun _ => 0)))] H := hP
  have hD : va_D A [(t, .inr (8, [.int v_t_crossings, .ref q6, .ref q13, .ref q20, .ref q28, .ref q36, .int v_t_first, .int v_t_last, .int v_t_by, .int v_t_step, .int v_t_has, .int v_t_cycle, .int v_t_aim, .int v_t_proved, .null, .null, .null, .int v_t_arrivals, .null, .null, .null, .null, .null, .null])), (q6, .inl (K 0, 5, .inl (fun _ => 0))), (q13, .inl (K 0, 5, .inl (fun _ => 0))), (q20, .inl (K 0, 5, .inl (fun _ => 0))), (q28, .inl (K 0, 10, .inl (fun _ => 0))), (q36, .inl (K 0, 10, .inl (fun _ => 0)))] := hD
  refine lv_aload_n hx hb d_Mo_init_41 rfl (lv_at hl 0 rfl) ?_
  refine lv_bipush (v := (10 : Int32)) hx hb d_Mo_init_42 (by decide) ?_
  refine va_put (D := G) (ci := 8) (v := .int (10 : Int32)) (ty := .int) (C := R_Mo) (T := F_Mo) (N := 24) hx hb hts i_Mo t_Mo t_Mo_ok n_Mo hown hK hP hD hS 0 rfl rfl 6 (by decide) (hts _ lk_437) (fun _ h9 => h9) rfl (by decide +kernel) rfl rfl (Nat.le_of_ble_eq_true rfl) d_Mo_init_44 (fun H locs hP hD hS => ?_)
  have hP : va_P G classes [(t, .inr (8, [.int v_t_crossings, .ref q6, .ref q13, .ref q20, .ref q28, .ref q36, .int (10 : Int32), .int v_t_last, .int v_t_by, .int v_t_step, .int v_t_has, .int v_t_cycle, .int v_t_aim, .int v_t_proved, .null, .null, .null, .int v_t_arrivals, .null, .null, .null, .null, .null, .null])), (q6, .inl (K 0, 5, .inl (fun _ => 0))), (q13, .inl (K 0, 5, .inl (fun _ => 0))), (q20, .inl (K 0, 5, .inl (fun _ => 0))), (q28, .inl (K 0, 10, .inl (fun _ => 0))), (q36, .inl (K 0, 10, .inl (fun _ => 0)))] H := hP
  have hD : va_D A [(t, .inr (8, [.int v_t_crossings, .ref q6, .ref q13, .ref q20, .ref q28, .ref q36, .int (10 : Int32), .int v_t_last, .int v_t_by, .int v_t_step, .int v_t_has, .int v_t_cycle, .int v_t_aim, .int v_t_proved, .null, .null, .null, .int v_t_arrivals, .null, .null, .null, .null, .null, .null])), (q6, .inl (K 0, 5, .inl (fun _ => 0))), (q13, .inl (K 0, 5, .inl (fun _ => 0))), (q20, .inl (K 0, 5, .inl (fun _ => 0))), (q28, .inl (K 0, 10, .inl (fun _ => 0))), (q36, .inl (K 0, 10, .inl (fun _ => 0)))] := hD
  refine lv_aload_n hx hb d_Mo_init_47 rfl (lv_at hl 0 rfl) ?_
  refine lv_bipush (v := (120 : Int32)) hx hb d_Mo_init_48 (by decide) ?_
  refine va_put (D := G) (ci := 8) (v := .int (120 : Int32)) (ty := .int) (C := R_Mo) (T := F_Mo) (N := 24) hx hb hts i_Mo t_Mo t_Mo_ok n_Mo hown hK hP hD hS 0 rfl rfl 7 (by decide) (hts _ lk_438) (fun _ h9 => h9) rfl (by decide +kernel) rfl rfl (Nat.le_of_ble_eq_true rfl) d_Mo_init_50 (fun H locs hP hD hS => ?_)
  have hP : va_P G classes [(t, .inr (8, [.int v_t_crossings, .ref q6, .ref q13, .ref q20, .ref q28, .ref q36, .int (10 : Int32), .int (120 : Int32), .int v_t_by, .int v_t_step, .int v_t_has, .int v_t_cycle, .int v_t_aim, .int v_t_proved, .null, .null, .null, .int v_t_arrivals, .null, .null, .null, .null, .null, .null])), (q6, .inl (K 0, 5, .inl (fun _ => 0))), (q13, .inl (K 0, 5, .inl (fun _ => 0))), (q20, .inl (K 0, 5, .inl (fun _ => 0))), (q28, .inl (K 0, 10, .inl (fun _ => 0))), (q36, .inl (K 0, 10, .inl (fun _ => 0)))] H := hP
  have hD : va_D A [(t, .inr (8, [.int v_t_crossings, .ref q6, .ref q13, .ref q20, .ref q28, .ref q36, .int (10 : Int32), .int (120 : Int32), .int v_t_by, .int v_t_step, .int v_t_has, .int v_t_cycle, .int v_t_aim, .int v_t_proved, .null, .null, .null, .int v_t_arrivals, .null, .null, .null, .null, .null, .null])), (q6, .inl (K 0, 5, .inl (fun _ => 0))), (q13, .inl (K 0, 5, .inl (fun _ => 0))), (q20, .inl (K 0, 5, .inl (fun _ => 0))), (q28, .inl (K 0, 10, .inl (fun _ => 0))), (q36, .inl (K 0, 10, .inl (fun _ => 0)))] := hD
  refine lv_aload_n hx hb d_Mo_init_53 rfl (lv_at hl 0 rfl) ?_
  refine lv_bipush (v := (10 : Int32)) hx hb d_Mo_init_54 (by decide) ?_
  refine va_put (D := G) (ci := 8) (v := .int (10 : Int32)) (ty := .int) (C := R_Mo) (T := F_Mo) (N := 24) hx hb hts i_Mo t_Mo t_Mo_ok n_Mo hown hK hP hD hS 0 rfl rfl 8 (by decide) (hts _ lk_439) (fun _ h9 => h9) rfl (by decide +kernel) rfl rfl (Nat.le_of_ble_eq_true rfl) d_Mo_init_56 (fun H locs hP hD hS => ?_)
  have hP : va_P G classes [(t, .inr (8, [.int v_t_crossings, .ref q6, .ref q13, .ref q20, .ref q28, .ref q36, .int (10 : Int32), .int (120 : Int32), .int (10 : Int32), .int v_t_step, .int v_t_has, .int v_t_cycle, .int v_t_aim, .int v_t_proved, .null, .null, .null, .int v_t_arrivals, .null, .null, .null, .null, .null, .null])), (q6, .inl (K 0, 5, .inl (fun _ => 0))), (q13, .inl (K 0, 5, .inl (fun _ => 0))), (q20, .inl (K 0, 5, .inl (fun _ => 0))), (q28, .inl (K 0, 10, .inl (fun _ => 0))), (q36, .inl (K 0, 10, .inl (fun _ => 0)))] H := hP
  have hD : va_D A [(t, .inr (8, [.int v_t_crossings, .ref q6, .ref q13, .ref q20, .ref q28, .ref q36, .int (10 : Int32), .int (120 : Int32), .int (10 : Int32), .int v_t_step, .int v_t_has, .int v_t_cycle, .int v_t_aim, .int v_t_proved, .null, .null, .null, .int v_t_arrivals, .null, .null, .null, .null, .null, .null])), (q6, .inl (K 0, 5, .inl (fun _ => 0))), (q13, .inl (K 0, 5, .inl (fun _ => 0))), (q20, .inl (K 0, 5, .inl (fun _ => 0))), (q28, .inl (K 0, 10, .inl (fun _ => 0))), (q36, .inl (K 0, 10, .inl (fun _ => 0)))] := hD
  refine lv_aload_n hx hb d_Mo_init_59 rfl (lv_at hl 0 rfl) ?_
  refine lv_iconst (v := (5 : Int32)) hx hb d_Mo_init_60 (by decide) ?_
  refine va_put (D := G) (ci := 8) (v := .int (5 : Int32)) (ty := .int) (C := R_Mo) (T := F_Mo) (N := 24) hx hb hts i_Mo t_Mo t_Mo_ok n_Mo hown hK hP hD hS 0 rfl rfl 9 (by decide) (hts _ lk_441) (fun _ h9 => h9) rfl (by decide +kernel) rfl rfl (Nat.le_of_ble_eq_true rfl) d_Mo_init_61 (fun H locs hP hD hS => ?_)
  have hP : va_P G classes [(t, .inr (8, [.int v_t_crossings, .ref q6, .ref q13, .ref q20, .ref q28, .ref q36, .int (10 : Int32), .int (120 : Int32), .int (10 : Int32), .int (5 : Int32), .int v_t_has, .int v_t_cycle, .int v_t_aim, .int v_t_proved, .null, .null, .null, .int v_t_arrivals, .null, .null, .null, .null, .null, .null])), (q6, .inl (K 0, 5, .inl (fun _ => 0))), (q13, .inl (K 0, 5, .inl (fun _ => 0))), (q20, .inl (K 0, 5, .inl (fun _ => 0))), (q28, .inl (K 0, 10, .inl (fun _ => 0))), (q36, .inl (K 0, 10, .inl (fun _ => 0)))] H := hP
  have hD : va_D A [(t, .inr (8, [.int v_t_crossings, .ref q6, .ref q13, .ref q20, .ref q28, .ref q36, .int (10 : Int32), .int (120 : Int32), .int (10 : Int32), .int (5 : Int32), .int v_t_has, .int v_t_cycle, .int v_t_aim, .int v_t_proved, .null, .null, .null, .int v_t_arrivals, .null, .null, .null, .null, .null, .null])), (q6, .inl (K 0, 5, .inl (fun _ => 0))), (q13, .inl (K 0, 5, .inl (fun _ => 0))), (q20, .inl (K 0, 5, .inl (fun _ => 0))), (q28, .inl (K 0, 10, .inl (fun _ => 0))), (q36, .inl (K 0, 10, .inl (fun _ => 0)))] := hD
  refine lv_aload_n hx hb d_Mo_init_64 rfl (lv_at hl 0 rfl) ?_
  refine lv_iconst (v := (5 : Int32)) hx hb d_Mo_init_65 (by decide) ?_
  refine va_newa (D := G) (atype := .int) (ty := .int) (n := (5 : Int32)) (N' := 5) (a0 := (5, .inl (fun _ => 0))) hx hb (hts _ lk_366) rfl hK hP hD hS hA (fun _ => rfl) (by decide) (by decide) (by decide) (Nat.le_of_ble_eq_true rfl) (Nat.le_of_ble_eq_true rfl) d_Mo_init_66 (fun q66 cA H hK2 hP hD hS => ?_)
  obtain rfl : cA = K 0 := dk_cA hK2 (i := 4) (j := 0) rfl rfl
  have hP : va_P G classes [(t, .inr (8, [.int v_t_crossings, .ref q6, .ref q13, .ref q20, .ref q28, .ref q36, .int (10 : Int32), .int (120 : Int32), .int (10 : Int32), .int (5 : Int32), .int v_t_has, .int v_t_cycle, .int v_t_aim, .int v_t_proved, .null, .null, .null, .int v_t_arrivals, .null, .null, .null, .null, .null, .null])), (q6, .inl (K 0, 5, .inl (fun _ => 0))), (q13, .inl (K 0, 5, .inl (fun _ => 0))), (q20, .inl (K 0, 5, .inl (fun _ => 0))), (q28, .inl (K 0, 10, .inl (fun _ => 0))), (q36, .inl (K 0, 10, .inl (fun _ => 0))), (q66, .inl (K 0, 5, .inl (fun _ => 0)))] H := hP
  have hD : va_D A [(t, .inr (8, [.int v_t_crossings, .ref q6, .ref q13, .ref q20, .ref q28, .ref q36, .int (10 : Int32), .int (120 : Int32), .int (10 : Int32), .int (5 : Int32), .int v_t_has, .int v_t_cycle, .int v_t_aim, .int v_t_proved, .null, .null, .null, .int v_t_arrivals, .null, .null, .null, .null, .null, .null])), (q6, .inl (K 0, 5, .inl (fun _ => 0))), (q13, .inl (K 0, 5, .inl (fun _ => 0))), (q20, .inl (K 0, 5, .inl (fun _ => 0))), (q28, .inl (K 0, 10, .inl (fun _ => 0))), (q36, .inl (K 0, 10, .inl (fun _ => 0))), (q66, .inl (K 0, 5, .inl (fun _ => 0)))] := hD
  refine va_putF (D := G) (ci := 8) (v := .ref q66) (ty := (.array .int)) (C := R_Mo) (T := F_Mo) (N := 24) hx hb hts i_Mo t_Mo t_Mo_ok n_Mo hown hK hP hD hS 0 rfl rfl 14 (by decide) (hts _ lk_443) (fun _ h9 => h9) rfl hin rfl (by decide +kernel) rfl rfl (Nat.le_of_ble_eq_true rfl) d_Mo_init_68 (fun H locs hP hD hS => ?_)
  have hP : va_P G classes [(t, .inr (8, [.int v_t_crossings, .ref q6, .ref q13, .ref q20, .ref q28, .ref q36, .int (10 : Int32), .int (120 : Int32), .int (10 : Int32), .int (5 : Int32), .int v_t_has, .int v_t_cycle, .int v_t_aim, .int v_t_proved, .ref q66, .null, .null, .int v_t_arrivals, .null, .null, .null, .null, .null, .null])), (q6, .inl (K 0, 5, .inl (fun _ => 0))), (q13, .inl (K 0, 5, .inl (fun _ => 0))), (q20, .inl (K 0, 5, .inl (fun _ => 0))), (q28, .inl (K 0, 10, .inl (fun _ => 0))), (q36, .inl (K 0, 10, .inl (fun _ => 0))), (q66, .inl (K 0, 5, .inl (fun _ => 0)))] H := hP
  have hD : va_D A [(t, .inr (8, [.int v_t_crossings, .ref q6, .ref q13, .ref q20, .ref q28, .ref q36, .int (10 : Int32), .int (120 : Int32), .int (10 : Int32), .int (5 : Int32), .int v_t_has, .int v_t_cycle, .int v_t_aim, .int v_t_proved, .ref q66, .null, .null, .int v_t_arrivals, .null, .null, .null, .null, .null, .null])), (q6, .inl (K 0, 5, .inl (fun _ => 0))), (q13, .inl (K 0, 5, .inl (fun _ => 0))), (q20, .inl (K 0, 5, .inl (fun _ => 0))), (q28, .inl (K 0, 10, .inl (fun _ => 0))), (q36, .inl (K 0, 10, .inl (fun _ => 0))), (q66, .inl (K 0, 5, .inl (fun _ => 0)))] := hD
  refine lv_aload_n hx hb d_Mo_init_71 rfl (lv_at hl 0 rfl) ?_
  refine lv_iconst (v := (5 : Int32)) hx hb d_Mo_init_72 (by decide) ?_
  refine va_newa (D := G) (atype := .int) (ty := .int) (n := (5 : Int32)) (N' := 5) (a0 := (5, .inl (fun _ => 0))) hx hb (hts _ lk_366) rfl hK hP hD hS hA (fun _ => rfl) (by decide) (by decide) (by decide) (Nat.le_of_ble_eq_true rfl) (Nat.le_of_ble_eq_true rfl) d_Mo_init_73 (fun q73 cA H hK2 hP hD hS => ?_)
  obtain rfl : cA = K 0 := dk_cA hK2 (i := 4) (j := 0) rfl rfl
  have hP : va_P G classes [(t, .inr (8, [.int v_t_crossings, .ref q6, .ref q13, .ref q20, .ref q28, .ref q36, .int (10 : Int32), .int (120 : Int32), .int (10 : Int32), .int (5 : Int32), .int v_t_has, .int v_t_cycle, .int v_t_aim, .int v_t_proved, .ref q66, .null, .null, .int v_t_arrivals, .null, .null, .null, .null, .null, .null])), (q6, .inl (K 0, 5, .inl (fun _ => 0))), (q13, .inl (K 0, 5, .inl (fun _ => 0))), (q20, .inl (K 0, 5, .inl (fun _ => 0))), (q28, .inl (K 0, 10, .inl (fun _ => 0))), (q36, .inl (K 0, 10, .inl (fun _ => 0))), (q66, .inl (K 0, 5, .inl (fun _ => 0))), (q73, .inl (K 0, 5, .inl (fun _ => 0)))] H := hP
  have hD : va_D A [(t, .inr (8, [.int v_t_crossings, .ref q6, .ref q13, .ref q20, .ref q28, .ref q36, .int (10 : Int32), .int (120 : Int32), .int (10 : Int32), .int (5 : Int32), .int v_t_has, .int v_t_cycle, .int v_t_aim, .int v_t_proved, .ref q66, .null, .null, .int v_t_arrivals, .null, .null, .null, .null, .null, .null])), (q6, .inl (K 0, 5, .inl (fun _ => 0))), (q13, .inl (K 0, 5, .inl (fun _ => 0))), (q20, .inl (K 0, 5, .inl (fun _ => 0))), (q28, .inl (K 0, 10, .inl (fun _ => 0))), (q36, .inl (K 0, 10, .inl (fun _ => 0))), (q66, .inl (K 0, 5, .inl (fun _ => 0))), (q73, .inl (K 0, 5, .inl (fun _ => 0)))] := hD
  refine va_putF (D := G) (ci := 8) (v := .ref q73) (ty := (.array .int)) (C := R_Mo) (T := F_Mo) (N := 24) hx hb hts i_Mo t_Mo t_Mo_ok n_Mo hown hK hP hD hS 0 rfl rfl 15 (by decide) (hts _ lk_457) (fun _ h9 => h9) rfl hin rfl (by decide +kernel) rfl rfl (Nat.le_of_ble_eq_true rfl) d_Mo_init_75 (fun H locs hP hD hS => ?_)
  have hP : va_P G classes [(t, .inr (8, [.int v_t_crossings, .ref q6, .ref q13, .ref q20, .ref q28, .ref q36, .int (10 : Int32), .int (120 : Int32), .int (10 : Int32), .int (5 : Int32), .int v_t_has, .int v_t_cycle, .int v_t_aim, .int v_t_proved, .ref q66, .ref q73, .null, .int v_t_arrivals, .null, .null, .null, .null, .null, .null])), (q6, .inl (K 0, 5, .inl (fun _ => 0))), (q13, .inl (K 0, 5, .inl (fun _ => 0))), (q20, .inl (K 0, 5, .inl (fun _ => 0))), (q28, .inl (K 0, 10, .inl (fun _ => 0))), (q36, .inl (K 0, 10, .inl (fun _ => 0))), (q66, .inl (K 0, 5, .inl (fun _ => 0))), (q73, .inl (K 0, 5, .inl (fun _ => 0)))] H := hP
  have hD : va_D A [(t, .inr (8, [.int v_t_crossings, .ref q6, .ref q13, .ref q20, .ref q28, .ref q36, .int (10 : Int32), .int (120 : Int32), .int (10 : Int32), .int (5 : Int32), .int v_t_has, .int v_t_cycle, .int v_t_aim, .int v_t_proved, .ref q66, .ref q73, .null, .int v_t_arrivals, .null, .null, .null, .null, .null, .null])), (q6, .inl (K 0, 5, .inl (fun _ => 0))), (q13, .inl (K 0, 5, .inl (fun _ => 0))), (q20, .inl (K 0, 5, .inl (fun _ => 0))), (q28, .inl (K 0, 10, .inl (fun _ => 0))), (q36, .inl (K 0, 10, .inl (fun _ => 0))), (q66, .inl (K 0, 5, .inl (fun _ => 0))), (q73, .inl (K 0, 5, .inl (fun _ => 0)))] := hD
  refine lv_aload_n hx hb d_Mo_init_78 rfl (lv_at hl 0 rfl) ?_
  refine lv_sipush (v := (600 : Int32)) hx hb d_Mo_init_79 (by decide) ?_
  refine va_newa (D := G) (atype := .boolean) (ty := .boolean) (n := (600 : Int32)) (N' := 600) (a0 := (600, .inl (fun _ => 0))) hx hb (hts _ lk_517) rfl hK hP hD hS hA (fun _ => rfl) (by decide) (by decide) (by decide) (Nat.le_of_ble_eq_true rfl) (Nat.le_of_ble_eq_true rfl) d_Mo_init_82 (fun q82 cA H hK2 hP hD hS => ?_)
  obtain rfl : cA = K 3 := dk_cA hK2 (i := 4) (j := 3) rfl rfl
  have hP : va_P G classes [(t, .inr (8, [.int v_t_crossings, .ref q6, .ref q13, .ref q20, .ref q28, .ref q36, .int (10 : Int32), .int (120 : Int32), .int (10 : Int32), .int (5 : Int32), .int v_t_has, .int v_t_cycle, .int v_t_aim, .int v_t_proved, .ref q66, .ref q73, .null, .int v_t_arrivals, .null, .null, .null, .null, .null, .null])), (q6, .inl (K 0, 5, .inl (fun _ => 0))), (q13, .inl (K 0, 5, .inl (fun _ => 0))), (q20, .inl (K 0, 5, .inl (fun _ => 0))), (q28, .inl (K 0, 10, .inl (fun _ => 0))), (q36, .inl (K 0, 10, .inl (fun _ => 0))), (q66, .inl (K 0, 5, .inl (fun _ => 0))), (q73, .inl (K 0, 5, .inl (fun _ => 0))), (q82, .inl (K 3, 600, .inl (fun _ => 0)))] H := hP
  have hD : va_D A [(t, .inr (8, [.int v_t_crossings, .ref q6, .ref q13, .ref q20, .ref q28, .ref q36, .int (10 : Int32), .int (120 : Int32), .int (10 : Int32), .int (5 : Int32), .int v_t_has, .int v_t_cycle, .int v_t_aim, .int v_t_proved, .ref q66, .ref q73, .null, .int v_t_arrivals, .null, .null, .null, .null, .null, .null])), (q6, .inl (K 0, 5, .inl (fun _ => 0))), (q13, .inl (K 0, 5, .inl (fun _ => 0))), (q20, .inl (K 0, 5, .inl (fun _ => 0))), (q28, .inl (K 0, 10, .inl (fun _ => 0))), (q36, .inl (K 0, 10, .inl (fun _ => 0))), (q66, .inl (K 0, 5, .inl (fun _ => 0))), (q73, .inl (K 0, 5, .inl (fun _ => 0))), (q82, .inl (K 3, 600, .inl (fun _ => 0)))] := hD
  refine va_putF (D := G) (ci := 8) (v := .ref q82) (ty := (.array .boolean)) (C := R_Mo) (T := F_Mo) (N := 24) hx hb hts i_Mo t_Mo t_Mo_ok n_Mo hown hK hP hD hS 0 rfl rfl 16 (by decide) (hts _ lk_442) (fun _ h9 => h9) rfl hin rfl (by decide +kernel) rfl rfl (Nat.le_of_ble_eq_true rfl) d_Mo_init_84 (fun H locs hP hD hS => ?_)
  have hP : va_P G classes [(t, .inr (8, [.int v_t_crossings, .ref q6, .ref q13, .ref q20, .ref q28, .ref q36, .int (10 : Int32), .int (120 : Int32), .int (10 : Int32), .int (5 : Int32), .int v_t_has, .int v_t_cycle, .int v_t_aim, .int v_t_proved, .ref q66, .ref q73, .ref q82, .int v_t_arrivals, .null, .null, .null, .null, .null, .null])), (q6, .inl (K 0, 5, .inl (fun _ => 0))), (q13, .inl (K 0, 5, .inl (fun _ => 0))), (q20, .inl (K 0, 5, .inl (fun _ => 0))), (q28, .inl (K 0, 10, .inl (fun _ => 0))), (q36, .inl (K 0, 10, .inl (fun _ => 0))), (q66, .inl (K 0, 5, .inl (fun _ => 0))), (q73, .inl (K 0, 5, .inl (fun _ => 0))), (q82, .inl (K 3, 600, .inl (fun _ => 0)))] H := hP
  have hD : va_D A [(t, .inr (8, [.int v_t_crossings, .ref q6, .ref q13, .ref q20, .ref q28, .ref q36, .int (10 : Int32), .int (120 : Int32), .int (10 : Int32), .int (5 : Int32), .int v_t_has, .int v_t_cycle, .int v_t_aim, .int v_t_proved, .ref q66, .ref q73, .ref q82, .int v_t_arrivals, .null, .null, .null, .null, .null, .null])), (q6, .inl (K 0, 5, .inl (fun _ => 0))), (q13, .inl (K 0, 5, .inl (fun _ => 0))), (q20, .inl (K 0, 5, .inl (fun _ => 0))), (q28, .inl (K 0, 10, .inl (fun _ => 0))), (q36, .inl (K 0, 10, .inl (fun _ => 0))), (q66, .inl (K 0, 5, .inl (fun _ => 0))), (q73, .inl (K 0, 5, .inl (fun _ => 0))), (q82, .inl (K 3, 600, .inl (fun _ => 0)))] := hD
  refine lv_aload_n hx hb d_Mo_init_87 rfl (lv_at hl 0 rfl) ?_
  refine lv_bipush (v := (40 : Int32)) hx hb d_Mo_init_88 (by decide) ?_
  refine va_newa (D := G) (atype := .int) (ty := .int) (n := (40 : Int32)) (N' := 40) (a0 := (40, .inl (fun _ => 0))) hx hb (hts _ lk_366) rfl hK hP hD hS hA (fun _ => rfl) (by decide) (by decide) (by decide) (Nat.le_of_ble_eq_true rfl) (Nat.le_of_ble_eq_true rfl) d_Mo_init_90 (fun q90 cA H hK2 hP hD hS => ?_)
  obtain rfl : cA = K 0 := dk_cA hK2 (i := 4) (j := 0) rfl rfl
  have hP : va_P G classes [(t, .inr (8, [.int v_t_crossings, .ref q6, .ref q13, .ref q20, .ref q28, .ref q36, .int (10 : Int32), .int (120 : Int32), .int (10 : Int32), .int (5 : Int32), .int v_t_has, .int v_t_cycle, .int v_t_aim, .int v_t_proved, .ref q66, .ref q73, .ref q82, .int v_t_arrivals, .null, .null, .null, .null, .null, .null])), (q6, .inl (K 0, 5, .inl (fun _ => 0))), (q13, .inl (K 0, 5, .inl (fun _ => 0))), (q20, .inl (K 0, 5, .inl (fun _ => 0))), (q28, .inl (K 0, 10, .inl (fun _ => 0))), (q36, .inl (K 0, 10, .inl (fun _ => 0))), (q66, .inl (K 0, 5, .inl (fun _ => 0))), (q73, .inl (K 0, 5, .inl (fun _ => 0))), (q82, .inl (K 3, 600, .inl (fun _ => 0))), (q90, .inl (K 0, 40, .inl (fun _ => 0)))] H := hP
  have hD : va_D A [(t, .inr (8, [.int v_t_crossings, .ref q6, .ref q13, .ref q20, .ref q28, .ref q36, .int (10 : Int32), .int (120 : Int32), .int (10 : Int32), .int (5 : Int32), .int v_t_has, .int v_t_cycle, .int v_t_aim, .int v_t_proved, .ref q66, .ref q73, .ref q82, .int v_t_arrivals, .null, .null, .null, .null, .null, .null])), (q6, .inl (K 0, 5, .inl (fun _ => 0))), (q13, .inl (K 0, 5, .inl (fun _ => 0))), (q20, .inl (K 0, 5, .inl (fun _ => 0))), (q28, .inl (K 0, 10, .inl (fun _ => 0))), (q36, .inl (K 0, 10, .inl (fun _ => 0))), (q66, .inl (K 0, 5, .inl (fun _ => 0))), (q73, .inl (K 0, 5, .inl (fun _ => 0))), (q82, .inl (K 3, 600, .inl (fun _ => 0))), (q90, .inl (K 0, 40, .inl (fun _ => 0)))] := hD
  refine va_putF (D := G) (ci := 8) (v := .ref q90) (ty := (.array .int)) (C := R_Mo) (T := F_Mo) (N := 24) hx hb hts i_Mo t_Mo t_Mo_ok n_Mo hown hK hP hD hS 0 rfl rfl 18 (by decide) (hts _ lk_500) (fun _ h9 => h9) rfl hin rfl (by decide +kernel) rfl rfl (Nat.le_of_ble_eq_true rfl) d_Mo_init_92 (fun H locs hP hD hS => ?_)
  have hP : va_P G classes [(t, .inr (8, [.int v_t_crossings, .ref q6, .ref q13, .ref q20, .ref q28, .ref q36, .int (10 : Int32), .int (120 : Int32), .int (10 : Int32), .int (5 : Int32), .int v_t_has, .int v_t_cycle, .int v_t_aim, .int v_t_proved, .ref q66, .ref q73, .ref q82, .int v_t_arrivals, .ref q90, .null, .null, .null, .null, .null])), (q6, .inl (K 0, 5, .inl (fun _ => 0))), (q13, .inl (K 0, 5, .inl (fun _ => 0))), (q20, .inl (K 0, 5, .inl (fun _ => 0))), (q28, .inl (K 0, 10, .inl (fun _ => 0))), (q36, .inl (K 0, 10, .inl (fun _ => 0))), (q66, .inl (K 0, 5, .inl (fun _ => 0))), (q73, .inl (K 0, 5, .inl (fun _ => 0))), (q82, .inl (K 3, 600, .inl (fun _ => 0))), (q90, .inl (K 0, 40, .inl (fun _ => 0)))] H := hP
  have hD : va_D A [(t, .inr (8, [.int v_t_crossings, .ref q6, .ref q13, .ref q20, .ref q28, .ref q36, .int (10 : Int32), .int (120 : Int32), .int (10 : Int32), .int (5 : Int32), .int v_t_has, .int v_t_cycle, .int v_t_aim, .int v_t_proved, .ref q66, .ref q73, .ref q82, .int v_t_arrivals, .ref q90, .null, .null, .null, .null, .null])), (q6, .inl (K 0, 5, .inl (fun _ => 0))), (q13, .inl (K 0, 5, .inl (fun _ => 0))), (q20, .inl (K 0, 5, .inl (fun _ => 0))), (q28, .inl (K 0, 10, .inl (fun _ => 0))), (q36, .inl (K 0, 10, .inl (fun _ => 0))), (q66, .inl (K 0, 5, .inl (fun _ => 0))), (q73, .inl (K 0, 5, .inl (fun _ => 0))), (q82, .inl (K 3, 600, .inl (fun _ => 0))), (q90, .inl (K 0, 40, .inl (fun _ => 0)))] := hD
  refine lv_aload_n hx hb d_Mo_init_95 rfl (lv_at hl 0 rfl) ?_
  refine lv_bipush (v := (40 : Int32)) hx hb d_Mo_init_96 (by decide) ?_
  refine va_newa (D := G) (atype := .int) (ty := .int) (n := (40 : Int32)) (N' := 40) (a0 := (40, .inl (fun _ => 0))) hx hb (hts _ lk_366) rfl hK hP hD hS hA (fun _ => rfl) (by decide) (by decide) (by decide) (Nat.le_of_ble_eq_true rfl) (Nat.le_of_ble_eq_true rfl) d_Mo_init_98 (fun q98 cA H hK2 hP hD hS => ?_)
  obtain rfl : cA = K 0 := dk_cA hK2 (i := 4) (j := 0) rfl rfl
  have hP : va_P G classes [(t, .inr (8, [.int v_t_crossings, .ref q6, .ref q13, .ref q20, .ref q28, .ref q36, .int (10 : Int32), .int (120 : Int32), .int (10 : Int32), .int (5 : Int32), .int v_t_has, .int v_t_cycle, .int v_t_aim, .int v_t_proved, .ref q66, .ref q73, .ref q82, .int v_t_arrivals, .ref q90, .null, .null, .null, .null, .null])), (q6, .inl (K 0, 5, .inl (fun _ => 0))), (q13, .inl (K 0, 5, .inl (fun _ => 0))), (q20, .inl (K 0, 5, .inl (fun _ => 0))), (q28, .inl (K 0, 10, .inl (fun _ => 0))), (q36, .inl (K 0, 10, .inl (fun _ => 0))), (q66, .inl (K 0, 5, .inl (fun _ => 0))), (q73, .inl (K 0, 5, .inl (fun _ => 0))), (q82, .inl (K 3, 600, .inl (fun _ => 0))), (q90, .inl (K 0, 40, .inl (fun _ => 0))), (q98, .inl (K 0, 40, .inl (fun _ => 0)))] H := hP
  have hD : va_D A [(t, .inr (8, [.int v_t_crossings, .ref q6, .ref q13, .ref q20, .ref q28, .ref q36, .int (10 : Int32), .int (120 : Int32), .int (10 : Int32), .int (5 : Int32), .int v_t_has, .int v_t_cycle, .int v_t_aim, .int v_t_proved, .ref q66, .ref q73, .ref q82, .int v_t_arrivals, .ref q90, .null, .null, .null, .null, .null])), (q6, .inl (K 0, 5, .inl (fun _ => 0))), (q13, .inl (K 0, 5, .inl (fun _ => 0))), (q20, .inl (K 0, 5, .inl (fun _ => 0))), (q28, .inl (K 0, 10, .inl (fun _ => 0))), (q36, .inl (K 0, 10, .inl (fun _ => 0))), (q66, .inl (K 0, 5, .inl (fun _ => 0))), (q73, .inl (K 0, 5, .inl (fun _ => 0))), (q82, .inl (K 3, 600, .inl (fun _ => 0))), (q90, .inl (K 0, 40, .inl (fun _ => 0))), (q98, .inl (K 0, 40, .inl (fun _ => 0)))] := hD
  refine va_putF (D := G) (ci := 8) (v := .ref q98) (ty := (.array .int)) (C := R_Mo) (T := F_Mo) (N := 24) hx hb hts i_Mo t_Mo t_Mo_ok n_Mo hown hK hP hD hS 0 rfl rfl 19 (by decide) (hts _ lk_501) (fun _ h9 => h9) rfl hin rfl (by decide +kernel) rfl rfl (Nat.le_of_ble_eq_true rfl) d_Mo_init_100 (fun H locs hP hD hS => ?_)
  have hP : va_P G classes [(t, .inr (8, [.int v_t_crossings, .ref q6, .ref q13, .ref q20, .ref q28, .ref q36, .int (10 : Int32), .int (120 : Int32), .int (10 : Int32), .int (5 : Int32), .int v_t_has, .int v_t_cycle, .int v_t_aim, .int v_t_proved, .ref q66, .ref q73, .ref q82, .int v_t_arrivals, .ref q90, .ref q98, .null, .null, .null, .null])), (q6, .inl (K 0, 5, .inl (fun _ => 0))), (q13, .inl (K 0, 5, .inl (fun _ => 0))), (q20, .inl (K 0, 5, .inl (fun _ => 0))), (q28, .inl (K 0, 10, .inl (fun _ => 0))), (q36, .inl (K 0, 10, .inl (fun _ => 0))), (q66, .inl (K 0, 5, .inl (fun _ => 0))), (q73, .inl (K 0, 5, .inl (fun _ => 0))), (q82, .inl (K 3, 600, .inl (fun _ => 0))), (q90, .inl (K 0, 40, .inl (fun _ => 0))), (q98, .inl (K 0, 40, .inl (fun _ => 0)))] H := hP
  have hD : va_D A [(t, .inr (8, [.int v_t_crossings, .ref q6, .ref q13, .ref q20, .ref q28, .ref q36, .int (10 : Int32), .int (120 : Int32), .int (10 : Int32), .int (5 : Int32), .int v_t_has, .int v_t_cycle, .int v_t_aim, .int v_t_proved, .ref q66, .ref q73, .ref q82, .int v_t_arrivals, .ref q90, .ref q98, .null, .null, .null, .null])), (q6, .inl (K 0, 5, .inl (fun _ => 0))), (q13, .inl (K 0, 5, .inl (fun _ => 0))), (q20, .inl (K 0, 5, .inl (fun _ => 0))), (q28, .inl (K 0, 10, .inl (fun _ => 0))), (q36, .inl (K 0, 10, .inl (fun _ => 0))), (q66, .inl (K 0, 5, .inl (fun _ => 0))), (q73, .inl (K 0, 5, .inl (fun _ => 0))), (q82, .inl (K 3, 600, .inl (fun _ => 0))), (q90, .inl (K 0, 40, .inl (fun _ => 0))), (q98, .inl (K 0, 40, .inl (fun _ => 0)))] := hD
  refine lv_aload_n hx hb d_Mo_init_103 rfl (lv_at hl 0 rfl) ?_
  refine lv_bipush (v := (40 : Int32)) hx hb d_Mo_init_104 (by decide) ?_
  refine va_newa (D := G) (atype := .int) (ty := .int) (n := (40 : Int32)) (N' := 40) (a0 := (40, .inl (fun _ => 0))) hx hb (hts _ lk_366) rfl hK hP hD hS hA (fun _ => rfl) (by decide) (by decide) (by decide) (Nat.le_of_ble_eq_true rfl) (Nat.le_of_ble_eq_true rfl) d_Mo_init_106 (fun q106 cA H hK2 hP hD hS => ?_)
  obtain rfl : cA = K 0 := dk_cA hK2 (i := 4) (j := 0) rfl rfl
  have hP : va_P G classes [(t, .inr (8, [.int v_t_crossings, .ref q6, .ref q13, .ref q20, .ref q28, .ref q36, .int (10 : Int32), .int (120 : Int32), .int (10 : Int32), .int (5 : Int32), .int v_t_has, .int v_t_cycle, .int v_t_aim, .int v_t_proved, .ref q66, .ref q73, .ref q82, .int v_t_arrivals, .ref q90, .ref q98, .null, .null, .null, .null])), (q6, .inl (K 0, 5, .inl (fun _ => 0))), (q13, .inl (K 0, 5, .inl (fun _ => 0))), (q20, .inl (K 0, 5, .inl (fun _ => 0))), (q28, .inl (K 0, 10, .inl (fun _ => 0))), (q36, .inl (K 0, 10, .inl (fun _ => 0))), (q66, .inl (K 0, 5, .inl (fun _ => 0))), (q73, .inl (K 0, 5, .inl (fun _ => 0))), (q82, .inl (K 3, 600, .inl (fun _ => 0))), (q90, .inl (K 0, 40, .inl (fun _ => 0))), (q98, .inl (K 0, 40, .inl (fun _ => 0))), (q106, .inl (K 0, 40, .inl (fun _ => 0)))] H := hP
  have hD : va_D A [(t, .inr (8, [.int v_t_crossings, .ref q6, .ref q13, .ref q20, .ref q28, .ref q36, .int (10 : Int32), .int (120 : Int32), .int (10 : Int32), .int (5 : Int32), .int v_t_has, .int v_t_cycle, .int v_t_aim, .int v_t_proved, .ref q66, .ref q73, .ref q82, .int v_t_arrivals, .ref q90, .ref q98, .null, .null, .null, .null])), (q6, .inl (K 0, 5, .inl (fun _ => 0))), (q13, .inl (K 0, 5, .inl (fun _ => 0))), (q20, .inl (K 0, 5, .inl (fun _ => 0))), (q28, .inl (K 0, 10, .inl (fun _ => 0))), (q36, .inl (K 0, 10, .inl (fun _ => 0))), (q66, .inl (K 0, 5, .inl (fun _ => 0))), (q73, .inl (K 0, 5, .inl (fun _ => 0))), (q82, .inl (K 3, 600, .inl (fun _ => 0))), (q90, .inl (K 0, 40, .inl (fun _ => 0))), (q98, .inl (K 0, 40, .inl (fun _ => 0))), (q106, .inl (K 0, 40, .inl (fun _ => 0)))] := hD
  refine va_putF (D := G) (ci := 8) (v := .ref q106) (ty := (.array .int)) (C := R_Mo) (T := F_Mo) (N := 24) hx hb hts i_Mo t_Mo t_Mo_ok n_Mo hown hK hP hD hS 0 rfl rfl 20 (by decide) (hts _ lk_502) (fun _ h9 => h9) rfl hin rfl (by decide +kernel) rfl rfl (Nat.le_of_ble_eq_true rfl) d_Mo_init_108 (fun H locs hP hD hS => ?_)
  have hP : va_P G classes [(t, .inr (8, [.int v_t_crossings, .ref q6, .ref q13, .ref q20, .ref q28, .ref q36, .int (10 : Int32), .int (120 : Int32), .int (10 : Int32), .int (5 : Int32), .int v_t_has, .int v_t_cycle, .int v_t_aim, .int v_t_proved, .ref q66, .ref q73, .ref q82, .int v_t_arrivals, .ref q90, .ref q98, .ref q106, .null, .null, .null])), (q6, .inl (K 0, 5, .inl (fun _ => 0))), (q13, .inl (K 0, 5, .inl (fun _ => 0))), (q20, .inl (K 0, 5, .inl (fun _ => 0))), (q28, .inl (K 0, 10, .inl (fun _ => 0))), (q36, .inl (K 0, 10, .inl (fun _ => 0))), (q66, .inl (K 0, 5, .inl (fun _ => 0))), (q73, .inl (K 0, 5, .inl (fun _ => 0))), (q82, .inl (K 3, 600, .inl (fun _ => 0))), (q90, .inl (K 0, 40, .inl (fun _ => 0))), (q98, .inl (K 0, 40, .inl (fun _ => 0))), (q106, .inl (K 0, 40, .inl (fun _ => 0)))] H := hP
  have hD : va_D A [(t, .inr (8, [.int v_t_crossings, .ref q6, .ref q13, .ref q20, .ref q28, .ref q36, .int (10 : Int32), .int (120 : Int32), .int (10 : Int32), .int (5 : Int32), .int v_t_has, .int v_t_cycle, .int v_t_aim, .int v_t_proved, .ref q66, .ref q73, .ref q82, .int v_t_arrivals, .ref q90, .ref q98, .ref q106, .null, .null, .null])), (q6, .inl (K 0, 5, .inl (fun _ => 0))), (q13, .inl (K 0, 5, .inl (fun _ => 0))), (q20, .inl (K 0, 5, .inl (fun _ => 0))), (q28, .inl (K 0, 10, .inl (fun _ => 0))), (q36, .inl (K 0, 10, .inl (fun _ => 0))), (q66, .inl (K 0, 5, .inl (fun _ => 0))), (q73, .inl (K 0, 5, .inl (fun _ => 0))), (q82, .inl (K 3, 600, .inl (fun _ => 0))), (q90, .inl (K 0, 40, .inl (fun _ => 0))), (q98, .inl (K 0, 40, .inl (fun _ => 0))), (q106, .inl (K 0, 40, .inl (fun _ => 0)))] := hD
  refine lv_aload_n hx hb d_Mo_init_111 rfl (lv_at hl 0 rfl) ?_
  refine lv_bipush (v := (24 : Int32)) hx hb d_Mo_init_112 (by decide) ?_
  refine va_newa (D := G) (atype := .int) (ty := .int) (n := (24 : Int32)) (N' := 24) (a0 := (24, .inl (fun _ => 0))) hx hb (hts _ lk_366) rfl hK hP hD hS hA (fun _ => rfl) (by decide) (by decide) (by decide) (Nat.le_of_ble_eq_true rfl) (Nat.le_of_ble_eq_true rfl) d_Mo_init_114 (fun q114 cA H hK2 hP hD hS => ?_)
  obtain rfl : cA = K 0 := dk_cA hK2 (i := 4) (j := 0) rfl rfl
  have hP : va_P G classes [(t, .inr (8, [.int v_t_crossings, .ref q6, .ref q13, .ref q20, .ref q28, .ref q36, .int (10 : Int32), .int (120 : Int32), .int (10 : Int32), .int (5 : Int32), .int v_t_has, .int v_t_cycle, .int v_t_aim, .int v_t_proved, .ref q66, .ref q73, .ref q82, .int v_t_arrivals, .ref q90, .ref q98, .ref q106, .null, .null, .null])), (q6, .inl (K 0, 5, .inl (fun _ => 0))), (q13, .inl (K 0, 5, .inl (fun _ => 0))), (q20, .inl (K 0, 5, .inl (fun _ => 0))), (q28, .inl (K 0, 10, .inl (fun _ => 0))), (q36, .inl (K 0, 10, .inl (fun _ => 0))), (q66, .inl (K 0, 5, .inl (fun _ => 0))), (q73, .inl (K 0, 5, .inl (fun _ => 0))), (q82, .inl (K 3, 600, .inl (fun _ => 0))), (q90, .inl (K 0, 40, .inl (fun _ => 0))), (q98, .inl (K 0, 40, .inl (fun _ => 0))), (q106, .inl (K 0, 40, .inl (fun _ => 0))), (q114, .inl (K 0, 24, .inl (fun _ => 0)))] H := hP
  have hD : va_D A [(t, .inr (8, [.int v_t_crossings, .ref q6, .ref q13, .ref q20, .ref q28, .ref q36, .int (10 : Int32), .int (120 : Int32), .int (10 : Int32), .int (5 : Int32), .int v_t_has, .int v_t_cycle, .int v_t_aim, .int v_t_proved, .ref q66, .ref q73, .ref q82, .int v_t_arrivals, .ref q90, .ref q98, .ref q106, .null, .null, .null])), (q6, .inl (K 0, 5, .inl (fun _ => 0))), (q13, .inl (K 0, 5, .inl (fun _ => 0))), (q20, .inl (K 0, 5, .inl (fun _ => 0))), (q28, .inl (K 0, 10, .inl (fun _ => 0))), (q36, .inl (K 0, 10, .inl (fun _ => 0))), (q66, .inl (K 0, 5, .inl (fun _ => 0))), (q73, .inl (K 0, 5, .inl (fun _ => 0))), (q82, .inl (K 3, 600, .inl (fun _ => 0))), (q90, .inl (K 0, 40, .inl (fun _ => 0))), (q98, .inl (K 0, 40, .inl (fun _ => 0))), (q106, .inl (K 0, 40, .inl (fun _ => 0))), (q114, .inl (K 0, 24, .inl (fun _ => 0)))] := hD
  refine va_putF (D := G) (ci := 8) (v := .ref q114) (ty := (.array .int)) (C := R_Mo) (T := F_Mo) (N := 24) hx hb hts i_Mo t_Mo t_Mo_ok n_Mo hown hK hP hD hS 0 rfl rfl 21 (by decide) (hts _ lk_503) (fun _ h9 => h9) rfl hin rfl (by decide +kernel) rfl rfl (Nat.le_of_ble_eq_true rfl) d_Mo_init_116 (fun H locs hP hD hS => ?_)
  have hP : va_P G classes [(t, .inr (8, [.int v_t_crossings, .ref q6, .ref q13, .ref q20, .ref q28, .ref q36, .int (10 : Int32), .int (120 : Int32), .int (10 : Int32), .int (5 : Int32), .int v_t_has, .int v_t_cycle, .int v_t_aim, .int v_t_proved, .ref q66, .ref q73, .ref q82, .int v_t_arrivals, .ref q90, .ref q98, .ref q106, .ref q114, .null, .null])), (q6, .inl (K 0, 5, .inl (fun _ => 0))), (q13, .inl (K 0, 5, .inl (fun _ => 0))), (q20, .inl (K 0, 5, .inl (fun _ => 0))), (q28, .inl (K 0, 10, .inl (fun _ => 0))), (q36, .inl (K 0, 10, .inl (fun _ => 0))), (q66, .inl (K 0, 5, .inl (fun _ => 0))), (q73, .inl (K 0, 5, .inl (fun _ => 0))), (q82, .inl (K 3, 600, .inl (fun _ => 0))), (q90, .inl (K 0, 40, .inl (fun _ => 0))), (q98, .inl (K 0, 40, .inl (fun _ => 0))), (q106, .inl (K 0, 40, .inl (fun _ => 0))), (q114, .inl (K 0, 24, .inl (fun _ => 0)))] H := hP
  have hD : va_D A [(t, .inr (8, [.int v_t_crossings, .ref q6, .ref q13, .ref q20, .ref q28, .ref q36, .int (10 : Int32), .int (120 : Int32), .int (10 : Int32), .int (5 : Int32), .int v_t_has, .int v_t_cycle, .int v_t_aim, .int v_t_proved, .ref q66, .ref q73, .ref q82, .int v_t_arrivals, .ref q90, .ref q98, .ref q106, .ref q114, .null, .null])), (q6, .inl (K 0, 5, .inl (fun _ => 0))), (q13, .inl (K 0, 5, .inl (fun _ => 0))), (q20, .inl (K 0, 5, .inl (fun _ => 0))), (q28, .inl (K 0, 10, .inl (fun _ => 0))), (q36, .inl (K 0, 10, .inl (fun _ => 0))), (q66, .inl (K 0, 5, .inl (fun _ => 0))), (q73, .inl (K 0, 5, .inl (fun _ => 0))), (q82, .inl (K 3, 600, .inl (fun _ => 0))), (q90, .inl (K 0, 40, .inl (fun _ => 0))), (q98, .inl (K 0, 40, .inl (fun _ => 0))), (q106, .inl (K 0, 40, .inl (fun _ => 0))), (q114, .inl (K 0, 24, .inl (fun _ => 0)))] := hD
  refine lv_aload_n hx hb d_Mo_init_119 rfl (lv_at hl 0 rfl) ?_
  refine lv_bipush (v := (24 : Int32)) hx hb d_Mo_init_120 (by decide) ?_
  refine va_newa (D := G) (atype := .int) (ty := .int) (n := (24 : Int32)) (N' := 24) (a0 := (24, .inl (fun _ => 0))) hx hb (hts _ lk_366) rfl hK hP hD hS hA (fun _ => rfl) (by decide) (by decide) (by decide) (Nat.le_of_ble_eq_true rfl) (Nat.le_of_ble_eq_true rfl) d_Mo_init_122 (fun q122 cA H hK2 hP hD hS => ?_)
  obtain rfl : cA = K 0 := dk_cA hK2 (i := 4) (j := 0) rfl rfl
  have hP : va_P G classes [(t, .inr (8, [.int v_t_crossings, .ref q6, .ref q13, .ref q20, .ref q28, .ref q36, .int (10 : Int32), .int (120 : Int32), .int (10 : Int32), .int (5 : Int32), .int v_t_has, .int v_t_cycle, .int v_t_aim, .int v_t_proved, .ref q66, .ref q73, .ref q82, .int v_t_arrivals, .ref q90, .ref q98, .ref q106, .ref q114, .null, .null])), (q6, .inl (K 0, 5, .inl (fun _ => 0))), (q13, .inl (K 0, 5, .inl (fun _ => 0))), (q20, .inl (K 0, 5, .inl (fun _ => 0))), (q28, .inl (K 0, 10, .inl (fun _ => 0))), (q36, .inl (K 0, 10, .inl (fun _ => 0))), (q66, .inl (K 0, 5, .inl (fun _ => 0))), (q73, .inl (K 0, 5, .inl (fun _ => 0))), (q82, .inl (K 3, 600, .inl (fun _ => 0))), (q90, .inl (K 0, 40, .inl (fun _ => 0))), (q98, .inl (K 0, 40, .inl (fun _ => 0))), (q106, .inl (K 0, 40, .inl (fun _ => 0))), (q114, .inl (K 0, 24, .inl (fun _ => 0))), (q122, .inl (K 0, 24, .inl (fun _ => 0)))] H := hP
  have hD : va_D A [(t, .inr (8, [.int v_t_crossings, .ref q6, .ref q13, .ref q20, .ref q28, .ref q36, .int (10 : Int32), .int (120 : Int32), .int (10 : Int32), .int (5 : Int32), .int v_t_has, .int v_t_cycle, .int v_t_aim, .int v_t_proved, .ref q66, .ref q73, .ref q82, .int v_t_arrivals, .ref q90, .ref q98, .ref q106, .ref q114, .null, .null])), (q6, .inl (K 0, 5, .inl (fun _ => 0))), (q13, .inl (K 0, 5, .inl (fun _ => 0))), (q20, .inl (K 0, 5, .inl (fun _ => 0))), (q28, .inl (K 0, 10, .inl (fun _ => 0))), (q36, .inl (K 0, 10, .inl (fun _ => 0))), (q66, .inl (K 0, 5, .inl (fun _ => 0))), (q73, .inl (K 0, 5, .inl (fun _ => 0))), (q82, .inl (K 3, 600, .inl (fun _ => 0))), (q90, .inl (K 0, 40, .inl (fun _ => 0))), (q98, .inl (K 0, 40, .inl (fun _ => 0))), (q106, .inl (K 0, 40, .inl (fun _ => 0))), (q114, .inl (K 0, 24, .inl (fun _ => 0))), (q122, .inl (K 0, 24, .inl (fun _ => 0)))] := hD
  refine va_putF (D := G) (ci := 8) (v := .ref q122) (ty := (.array .int)) (C := R_Mo) (T := F_Mo) (N := 24) hx hb hts i_Mo t_Mo t_Mo_ok n_Mo hown hK hP hD hS 0 rfl rfl 22 (by decide) (hts _ lk_505) (fun _ h9 => h9) rfl hin rfl (by decide +kernel) rfl rfl (Nat.le_of_ble_eq_true rfl) d_Mo_init_124 (fun H locs hP hD hS => ?_)
  have hP : va_P G classes [(t, .inr (8, [.int v_t_crossings, .ref q6, .ref q13, .ref q20, .ref q28, .ref q36, .int (10 : Int32), .int (120 : Int32), .int (10 : Int32), .int (5 : Int32), .int v_t_has, .int v_t_cycle, .int v_t_aim, .int v_t_proved, .ref q66, .ref q73, .ref q82, .int v_t_arrivals, .ref q90, .ref q98, .ref q106, .ref q114, .ref q122, .null])), (q6, .inl (K 0, 5, .inl (fun _ => 0))), (q13, .inl (K 0, 5, .inl (fun _ => 0))), (q20, .inl (K 0, 5, .inl (fun _ => 0))), (q28, .inl (K 0, 10, .inl (fun _ => 0))), (q36, .inl (K 0, 10, .inl (fun _ => 0))), (q66, .inl (K 0, 5, .inl (fun _ => 0))), (q73, .inl (K 0, 5, .inl (fun _ => 0))), (q82, .inl (K 3, 600, .inl (fun _ => 0))), (q90, .inl (K 0, 40, .inl (fun _ => 0))), (q98, .inl (K 0, 40, .inl (fun _ => 0))), (q106, .inl (K 0, 40, .inl (fun _ => 0))), (q114, .inl (K 0, 24, .inl (fun _ => 0))), (q122, .inl (K 0, 24, .inl (fun _ => 0)))] H := hP
  have hD : va_D A [(t, .inr (8, [.int v_t_crossings, .ref q6, .ref q13, .ref q20, .ref q28, .ref q36, .int (10 : Int32), .int (120 : Int32), .int (10 : Int32), .int (5 : Int32), .int v_t_has, .int v_t_cycle, .int v_t_aim, .int v_t_proved, .ref q66, .ref q73, .ref q82, .int v_t_arrivals, .ref q90, .ref q98, .ref q106, .ref q114, .ref q122, .null])), (q6, .inl (K 0, 5, .inl (fun _ => 0))), (q13, .inl (K 0, 5, .inl (fun _ => 0))), (q20, .inl (K 0, 5, .inl (fun _ => 0))), (q28, .inl (K 0, 10, .inl (fun _ => 0))), (q36, .inl (K 0, 10, .inl (fun _ => 0))), (q66, .inl (K 0, 5, .inl (fun _ => 0))), (q73, .inl (K 0, 5, .inl (fun _ => 0))), (q82, .inl (K 3, 600, .inl (fun _ => 0))), (q90, .inl (K 0, 40, .inl (fun _ => 0))), (q98, .inl (K 0, 40, .inl (fun _ => 0))), (q106, .inl (K 0, 40, .inl (fun _ => 0))), (q114, .inl (K 0, 24, .inl (fun _ => 0))), (q122, .inl (K 0, 24, .inl (fun _ => 0)))] := hD
  refine lv_aload_n hx hb d_Mo_init_127 rfl (lv_at hl 0 rfl) ?_
  refine lv_bipush (v := (120 : Int32)) hx hb d_Mo_init_128 (by decide) ?_
  refine va_newa (D := G) (atype := .int) (ty := .int) (n := (120 : Int32)) (N' := 120) (a0 := (120, .inl (fun _ => 0))) hx hb (hts _ lk_366) rfl hK hP hD hS hA (fun _ => rfl) (by decide) (by decide) (by decide) (Nat.le_of_ble_eq_true rfl) (Nat.le_of_ble_eq_true rfl) d_Mo_init_130 (fun q130 cA H hK2 hP hD hS => ?_)
  obtain rfl : cA = K 0 := dk_cA hK2 (i := 4) (j := 0) rfl rfl
  have hP : va_P G classes [(t, .inr (8, [.int v_t_crossings, .ref q6, .ref q13, .ref q20, .ref q28, .ref q36, .int (10 : Int32), .int (120 : Int32), .int (10 : Int32), .int (5 : Int32), .int v_t_has, .int v_t_cycle, .int v_t_aim, .int v_t_proved, .ref q66, .ref q73, .ref q82, .int v_t_arrivals, .ref q90, .ref q98, .ref q106, .ref q114, .ref q122, .null])), (q6, .inl (K 0, 5, .inl (fun _ => 0))), (q13, .inl (K 0, 5, .inl (fun _ => 0))), (q20, .inl (K 0, 5, .inl (fun _ => 0))), (q28, .inl (K 0, 10, .inl (fun _ => 0))), (q36, .inl (K 0, 10, .inl (fun _ => 0))), (q66, .inl (K 0, 5, .inl (fun _ => 0))), (q73, .inl (K 0, 5, .inl (fun _ => 0))), (q82, .inl (K 3, 600, .inl (fun _ => 0))), (q90, .inl (K 0, 40, .inl (fun _ => 0))), (q98, .inl (K 0, 40, .inl (fun _ => 0))), (q106, .inl (K 0, 40, .inl (fun _ => 0))), (q114, .inl (K 0, 24, .inl (fun _ => 0))), (q122, .inl (K 0, 24, .inl (fun _ => 0))), (q130, .inl (K 0, 120, .inl (fun _ => 0)))] H := hP
  have hD : va_D A [(t, .inr (8, [.int v_t_crossings, .ref q6, .ref q13, .ref q20, .ref q28, .ref q36, .int (10 : Int32), .int (120 : Int32), .int (10 : Int32), .int (5 : Int32), .int v_t_has, .int v_t_cycle, .int v_t_aim, .int v_t_proved, .ref q66, .ref q73, .ref q82, .int v_t_arrivals, .ref q90, .ref q98, .ref q106, .ref q114, .ref q122, .null])), (q6, .inl (K 0, 5, .inl (fun _ => 0))), (q13, .inl (K 0, 5, .inl (fun _ => 0))), (q20, .inl (K 0, 5, .inl (fun _ => 0))), (q28, .inl (K 0, 10, .inl (fun _ => 0))), (q36, .inl (K 0, 10, .inl (fun _ => 0))), (q66, .inl (K 0, 5, .inl (fun _ => 0))), (q73, .inl (K 0, 5, .inl (fun _ => 0))), (q82, .inl (K 3, 600, .inl (fun _ => 0))), (q90, .inl (K 0, 40, .inl (fun _ => 0))), (q98, .inl (K 0, 40, .inl (fun _ => 0))), (q106, .inl (K 0, 40, .inl (fun _ => 0))), (q114, .inl (K 0, 24, .inl (fun _ => 0))), (q122, .inl (K 0, 24, .inl (fun _ => 0))), (q130, .inl (K 0, 120, .inl (fun _ => 0)))] := hD
  refine va_putF (D := G) (ci := 8) (v := .ref q130) (ty := (.array .int)) (C := R_Mo) (T := F_Mo) (N := 24) hx hb hts i_Mo t_Mo t_Mo_ok n_Mo hown hK hP hD hS 0 rfl rfl 23 (by decide) (hts _ lk_506) (fun _ h9 => h9) rfl hin rfl (by decide +kernel) rfl rfl (Nat.le_of_ble_eq_true rfl) d_Mo_init_132 (fun H locs hP hD hS => ?_)
  have hP : va_P G classes [(t, .inr (8, [.int v_t_crossings, .ref q6, .ref q13, .ref q20, .ref q28, .ref q36, .int (10 : Int32), .int (120 : Int32), .int (10 : Int32), .int (5 : Int32), .int v_t_has, .int v_t_cycle, .int v_t_aim, .int v_t_proved, .ref q66, .ref q73, .ref q82, .int v_t_arrivals, .ref q90, .ref q98, .ref q106, .ref q114, .ref q122, .ref q130])), (q6, .inl (K 0, 5, .inl (fun _ => 0))), (q13, .inl (K 0, 5, .inl (fun _ => 0))), (q20, .inl (K 0, 5, .inl (fun _ => 0))), (q28, .inl (K 0, 10, .inl (fun _ => 0))), (q36, .inl (K 0, 10, .inl (fun _ => 0))), (q66, .inl (K 0, 5, .inl (fun _ => 0))), (q73, .inl (K 0, 5, .inl (fun _ => 0))), (q82, .inl (K 3, 600, .inl (fun _ => 0))), (q90, .inl (K 0, 40, .inl (fun _ => 0))), (q98, .inl (K 0, 40, .inl (fun _ => 0))), (q106, .inl (K 0, 40, .inl (fun _ => 0))), (q114, .inl (K 0, 24, .inl (fun _ => 0))), (q122, .inl (K 0, 24, .inl (fun _ => 0))), (q130, .inl (K 0, 120, .inl (fun _ => 0)))] H := hP
  have hD : va_D A [(t, .inr (8, [.int v_t_crossings, .ref q6, .ref q13, .ref q20, .ref q28, .ref q36, .int (10 : Int32), .int (120 : Int32), .int (10 : Int32), .int (5 : Int32), .int v_t_has, .int v_t_cycle, .int v_t_aim, .int v_t_proved, .ref q66, .ref q73, .ref q82, .int v_t_arrivals, .ref q90, .ref q98, .ref q106, .ref q114, .ref q122, .ref q130])), (q6, .inl (K 0, 5, .inl (fun _ => 0))), (q13, .inl (K 0, 5, .inl (fun _ => 0))), (q20, .inl (K 0, 5, .inl (fun _ => 0))), (q28, .inl (K 0, 10, .inl (fun _ => 0))), (q36, .inl (K 0, 10, .inl (fun _ => 0))), (q66, .inl (K 0, 5, .inl (fun _ => 0))), (q73, .inl (K 0, 5, .inl (fun _ => 0))), (q82, .inl (K 3, 600, .inl (fun _ => 0))), (q90, .inl (K 0, 40, .inl (fun _ => 0))), (q98, .inl (K 0, 40, .inl (fun _ => 0))), (q106, .inl (K 0, 40, .inl (fun _ => 0))), (q114, .inl (K 0, 24, .inl (fun _ => 0))), (q122, .inl (K 0, 24, .inl (fun _ => 0))), (q130, .inl (K 0, 120, .inl (fun _ => 0)))] := hD
  obtain rfl := Option.some.inj hF
  exact W.vret hx hb hr (fun t ht hW => ⟨⟨(q6, q13, q20, q28, q36, q66, q73, q82, q90, q98, q106, q114, q122, q130), rfl, by rw [ht]; exact hP.sub [0, 1, 2, 3, 4, 5, 6, 7, 8, 9, 10, 11, 12, 13, 14] rfl, hD.sub [0, 1, 2, 3, 4, 5, 6, 7, 8, 9, 10, 11, 12, 13, 14] (by decide) rfl⟩, hS.F ht⟩) hS.2.2 d_Mo_init_135
