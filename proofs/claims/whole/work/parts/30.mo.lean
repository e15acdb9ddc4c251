theorem d_Mo_isIn_0 : decode b_Mo_isIn 0 = .ok (.lload_n 0, 1) := by decide +kernel
theorem d_Mo_isIn_1 : decode b_Mo_isIn 1 = .ok (.lload_n 2, 1) := by decide +kernel
theorem d_Mo_isIn_2 : decode b_Mo_isIn 2 = .ok (.lcmp, 1) := by decide +kernel
theorem d_Mo_isIn_3 : decode b_Mo_isIn 3 = .ok (.ifCond .lt 14, 3) := by decide +kernel
theorem d_Mo_isIn_6 : decode b_Mo_isIn 6 = .ok (.lload_n 0, 1) := by decide +kernel
theorem d_Mo_isIn_7 : decode b_Mo_isIn 7 = .ok (.lload 4, 2) := by decide +kernel
theorem d_Mo_isIn_9 : decode b_Mo_isIn 9 = .ok (.lcmp, 1) := by decide +kernel
theorem d_Mo_isIn_10 : decode b_Mo_isIn 10 = .ok (.ifCond .gt 7, 3) := by decide +kernel
theorem d_Mo_isIn_13 : decode b_Mo_isIn 13 = .ok (.iconst 1, 1) := by decide +kernel
theorem d_Mo_isIn_14 : decode b_Mo_isIn 14 = .ok (.goto 4, 3) := by decide +kernel
theorem d_Mo_isIn_17 : decode b_Mo_isIn 17 = .ok (.iconst 0, 1) := by decide +kernel
theorem d_Mo_isIn_18 : decode b_Mo_isIn 18 = .ok (.ireturn, 1) := by decide +kernel
theorem d_Mo_isCrossing_0 : decode b_Mo_isCrossing 0 = .ok (.iload_n 1, 1) := by decide +kernel
theorem d_Mo_isCrossing_1 : decode b_Mo_isCrossing 1 = .ok (.i2l, 1) := by decide +kernel
theorem d_Mo_isCrossing_2 : decode b_Mo_isCrossing 2 = .ok (.lconst 0, 1) := by decide +kernel
theorem d_Mo_isCrossing_3 : decode b_Mo_isCrossing 3 = .ok (.aload_n 0, 1) := by decide +kernel
theorem d_Mo_isCrossing_4 : decode b_Mo_isCrossing 4 = .ok (.getfield 66, 3) := by decide +kernel
theorem d_Mo_isCrossing_7 : decode b_Mo_isCrossing 7 = .ok (.i2l, 1) := by decide +kernel
theorem d_Mo_isCrossing_8 : decode b_Mo_isCrossing 8 = .ok (.lconst 1, 1) := by decide +kernel
theorem d_Mo_isCrossing_9 : decode b_Mo_isCrossing 9 = .ok (.lsub, 1) := by decide +kernel
theorem d_Mo_isCrossing_10 : decode b_Mo_isCrossing 10 = .ok (.invokestatic 69, 3) := by decide +kernel
theorem d_Mo_isCrossing_13 : decode b_Mo_isCrossing 13 = .ok (.ireturn, 1) := by decide +kernel
theorem d_Mo_crossing_0 : decode b_Mo_crossing 0 = .ok (.aload_n 0, 1) := by decide +kernel
theorem d_Mo_crossing_1 : decode b_Mo_crossing 1 = .ok (.getfield 66, 3) := by decide +kernel
theorem d_Mo_crossing_4 : decode b_Mo_crossing 4 = .ok (.iconst 5, 1) := by decide +kernel
theorem d_Mo_crossing_5 : decode b_Mo_crossing 5 = .ok (.if_icmp .eq 36, 3) := by decide +kernel
theorem d_Mo_crossing_8 : decode b_Mo_crossing 8 = .ok (.iload_n 1, 1) := by decide +kernel
theorem d_Mo_crossing_9 : decode b_Mo_crossing 9 = .ok (.i2l, 1) := by decide +kernel
theorem d_Mo_crossing_10 : decode b_Mo_crossing 10 = .ok (.ldc2_w 73, 3) := by decide +kernel
theorem d_Mo_crossing_13 : decode b_Mo_crossing 13 = .ok (.ldc2_w 75, 3) := by decide +kernel
theorem d_Mo_crossing_16 : decode b_Mo_crossing 16 = .ok (.invokestatic 69, 3) := by decide +kernel
theorem d_Mo_crossing_19 : decode b_Mo_crossing 19 = .ok (.ifCond .eq 22, 3) := by decide +kernel
theorem d_Mo_crossing_22 : decode b_Mo_crossing 22 = .ok (.iload_n 2, 1) := by decide +kernel
theorem d_Mo_crossing_23 : decode b_Mo_crossing 23 = .ok (.i2l, 1) := by decide +kernel
theorem d_Mo_crossing_24 : decode b_Mo_crossing 24 = .ok (.ldc2_w 77, 3) := by decide +kernel
theorem d_Mo_crossing_27 : decode b_Mo_crossing 27 = .ok (.ldc2_w 79, 3) := by decide +kernel
theorem d_Mo_crossing_30 : decode b_Mo_crossing 30 = .ok (.invokestatic 69, 3) := by decide +kernel
theorem d_Mo_crossing_33 : decode b_Mo_crossing 33 = .ok (.ifCond .eq 8, 3) := by decide +kernel
theorem d_Mo_crossing_36 : decode b_Mo_crossing 36 = .ok (.iload_n 2, 1) := by decide +kernel
theorem d_Mo_crossing_37 : decode b_Mo_crossing 37 = .ok (.iload_n 1, 1) := by decide +kernel
theorem d_Mo_crossing_38 : decode b_Mo_crossing 38 = .ok (.if_icmp .gt 5, 3) := by decide +kernel
theorem d_Mo_crossing_41 : decode b_Mo_crossing 41 = .ok (.iconst (-1), 1) := by decide +kernel
theorem d_Mo_crossing_42 : decode b_Mo_crossing 42 = .ok (.ireturn, 1) := by decide +kernel
theorem d_Mo_crossing_43 : decode b_Mo_crossing 43 = .ok (.aload_n 0, 1) := by decide +kernel
theorem d_Mo_crossing_44 : decode b_Mo_crossing 44 = .ok (.getfield 7, 3) := by decide +kernel
theorem d_Mo_crossing_47 : decode b_Mo_crossing 47 = .ok (.aload_n 0, 1) := by decide +kernel
theorem d_Mo_crossing_48 : decode b_Mo_crossing 48 = .ok (.getfield 66, 3) := by decide +kernel
theorem d_Mo_crossing_51 : decode b_Mo_crossing 51 = .ok (.iload_n 1, 1) := by decide +kernel
theorem d_Mo_crossing_52 : decode b_Mo_crossing 52 = .ok (.iastore, 1) := by decide +kernel
theorem d_Mo_crossing_53 : decode b_Mo_crossing 53 = .ok (.aload_n 0, 1) := by decide +kernel
theorem d_Mo_crossing_54 : decode b_Mo_crossing 54 = .ok (.getfield 13, 3) := by decide +kernel
theorem d_Mo_crossing_57 : decode b_Mo_crossing 57 = .ok (.aload_n 0, 1) := by decide +kernel
theorem d_Mo_crossing_58 : decode b_Mo_crossing 58 = .ok (.getfield 66, 3) := by decide +kernel
theorem d_Mo_crossing_61 : decode b_Mo_crossing 61 = .ok (.iload_n 2, 1) := by decide +kernel
theorem d_Mo_crossing_62 : decode b_Mo_crossing 62 = .ok (.iastore, 1) := by decide +kernel
theorem d_Mo_crossing_63 : decode b_Mo_crossing 63 = .ok (.aload_n 0, 1) := by decide +kernel
theorem d_Mo_crossing_64 : decode b_Mo_crossing 64 = .ok (.getfield 16, 3) := by decide +kernel
theorem d_Mo_crossing_67 : decode b_Mo_crossing 67 = .ok (.aload_n 0, 1) := by decide +kernel
theorem d_Mo_crossing_68 : decode b_Mo_crossing 68 = .ok (.getfield 66, 3) := by decide +kernel
theorem d_Mo_crossing_71 : decode b_Mo_crossing 71 = .ok (.iconst 0, 1) := by decide +kernel
theorem d_Mo_crossing_72 : decode b_Mo_crossing 72 = .ok (.iastore, 1) := by decide +kernel
theorem d_Mo_crossing_73 : decode b_Mo_crossing 73 = .ok (.aload_n 0, 1) := by decide +kernel
theorem d_Mo_crossing_74 : decode b_Mo_crossing 74 = .ok (.getfield 66, 3) := by decide +kernel
theorem d_Mo_crossing_77 : decode b_Mo_crossing 77 = .ok (.ifCond .le 48, 3) := by decide +kernel
theorem d_Mo_crossing_80 : decode b_Mo_crossing 80 = .ok (.iconst 0, 1) := by decide +kernel
theorem d_Mo_crossing_81 : decode b_Mo_crossing 81 = .ok (.istore_n 3, 1) := by decide +kernel
theorem d_Mo_crossing_82 : decode b_Mo_crossing 82 = .ok (.iload_n 3, 1) := by decide +kernel
theorem d_Mo_crossing_83 : decode b_Mo_crossing 83 = .ok (.iconst 2, 1) := by decide +kernel
theorem d_Mo_crossing_84 : decode b_Mo_crossing 84 = .ok (.if_icmp .ge 41, 3) := by decide +kernel
theorem d_Mo_crossing_87 : decode b_Mo_crossing 87 = .ok (.aload_n 0, 1) := by decide +kernel
theorem d_Mo_crossing_88 : decode b_Mo_crossing 88 = .ok (.getfield 19, 3) := by decide +kernel
theorem d_Mo_crossing_91 : decode b_Mo_crossing 91 = .ok (.iconst 2, 1) := by decide +kernel
theorem d_Mo_crossing_92 : decode b_Mo_crossing 92 = .ok (.aload_n 0, 1) := by decide +kernel
theorem d_Mo_crossing_93 : decode b_Mo_crossing 93 = .ok (.getfield 66, 3) := by decide +kernel
theorem d_Mo_crossing_96 : decode b_Mo_crossing 96 = .ok (.imul, 1) := by decide +kernel
theorem d_Mo_crossing_97 : decode b_Mo_crossing 97 = .ok (.iconst 2, 1) := by decide +kernel
theorem d_Mo_crossing_98 : decode b_Mo_crossing 98 = .ok (.isub, 1) := by decide +kernel
theorem d_Mo_crossing_99 : decode b_Mo_crossing 99 = .ok (.iload_n 3, 1) := by decide +kernel
theorem d_Mo_crossing_100 : decode b_Mo_crossing 100 = .ok (.iadd, 1) := by decide +kernel
theorem d_Mo_crossing_101 : decode b_Mo_crossing 101 = .ok (.iconst 1, 1) := by decide +kernel
theorem d_Mo_crossing_102 : decode b_Mo_crossing 102 = .ok (.iastore, 1) := by decide +kernel
theorem d_Mo_crossing_103 : decode b_Mo_crossing 103 = .ok (.aload_n 0, 1) := by decide +kernel
theorem d_Mo_crossing_104 : decode b_Mo_crossing 104 = .ok (.getfield 22, 3) := by decide +kernel
theorem d_Mo_crossing_107 : decode b_Mo_crossing 107 = .ok (.iconst 2, 1) := by decide +kernel
theorem d_Mo_crossing_108 : decode b_Mo_crossing 108 = .ok (.aload_n 0, 1) := by decide +kernel
theorem d_Mo_crossing_109 : decode b_Mo_crossing 109 = .ok (.getfield 66, 3) := by decide +kernel
theorem d_Mo_crossing_112 : decode b_Mo_crossing 112 = .ok (.imul, 1) := by decide +kernel
theorem d_Mo_crossing_113 : decode b_Mo_crossing 113 = .ok (.iconst 2, 1) := by decide +kernel
theorem d_Mo_crossing_114 : decode b_Mo_crossing 114 = .ok (.isub, 1) := by decide +kernel
theorem d_Mo_crossing_115 : decode b_Mo_crossing 115 = .ok (.iload_n 3, 1) := by decide +kernel
theorem d_Mo_crossing_116 : decode b_Mo_crossing 116 = .ok (.iadd, 1) := by decide +kernel
theorem d_Mo_crossing_117 : decode b_Mo_crossing 117 = .ok (.iconst 0, 1) := by decide +kernel
theorem d_Mo_crossing_118 : decode b_Mo_crossing 118 = .ok (.iastore, 1) := by decide +kernel
theorem d_Mo_crossing_119 : decode b_Mo_crossing 119 = .ok (.iinc 3 1, 3) := by decide +kernel
theorem d_Mo_crossing_122 : decode b_Mo_crossing 122 = .ok (.goto (-40), 3) := by decide +kernel
theorem d_Mo_crossing_125 : decode b_Mo_crossing 125 = .ok (.aload_n 0, 1) := by decide +kernel
theorem d_Mo_crossing_126 : decode b_Mo_crossing 126 = .ok (.dup, 1) := by decide +kernel
theorem d_Mo_crossing_127 : decode b_Mo_crossing 127 = .ok (.getfield 66, 3) := by decide +kernel
theorem d_Mo_crossing_130 : decode b_Mo_crossing 130 = .ok (.iconst 1, 1) := by decide +kernel
theorem d_Mo_crossing_131 : decode b_Mo_crossing 131 = .ok (.iadd, 1) := by decide +kernel
theorem d_Mo_crossing_132 : decode b_Mo_crossing 132 = .ok (.putfield 66, 3) := by decide +kernel
theorem d_Mo_crossing_135 : decode b_Mo_crossing 135 = .ok (.aload_n 0, 1) := by decide +kernel
theorem d_Mo_crossing_136 : decode b_Mo_crossing 136 = .ok (.iconst 0, 1) := by decide +kernel
theorem d_Mo_crossing_137 : decode b_Mo_crossing 137 = .ok (.putfield 81, 3) := by decide +kernel
theorem d_Mo_crossing_140 : decode b_Mo_crossing 140 = .ok (.aload_n 0, 1) := by decide +kernel
theorem d_Mo_crossing_141 : decode b_Mo_crossing 141 = .ok (.getfield 66, 3) := by decide +kernel
theorem d_Mo_crossing_144 : decode b_Mo_crossing 144 = .ok (.iconst 1, 1) := by decide +kernel
theorem d_Mo_crossing_145 : decode b_Mo_crossing 145 = .ok (.isub, 1) := by decide +kernel
theorem d_Mo_crossing_146 : decode b_Mo_crossing 146 = .ok (.ireturn, 1) := by decide +kernel
theorem d_Mo_street_0 : decode b_Mo_street 0 = .ok (.aload_n 0, 1) := by decide +kernel
theorem d_Mo_street_1 : decode b_Mo_street 1 = .ok (.iload_n 1, 1) := by decide +kernel
theorem d_Mo_street_2 : decode b_Mo_street 2 = .ok (.invokevirtual 85, 3) := by decide +kernel
theorem d_Mo_street_5 : decode b_Mo_street 5 = .ok (.ifCond .eq 54, 3) := by decide +kernel
theorem d_Mo_street_8 : decode b_Mo_street 8 = .ok (.aload_n 0, 1) := by decide +kernel
theorem d_Mo_street_9 : decode b_Mo_street 9 = .ok (.iload_n 2, 1) := by decide +kernel
theorem d_Mo_street_10 : decode b_Mo_street 10 = .ok (.invokevirtual 85, 3) := by decide +kernel
theorem d_Mo_street_13 : decode b_Mo_street 13 = .ok (.ifCond .eq 46, 3) := by decide +kernel
theorem d_Mo_street_16 : decode b_Mo_street 16 = .ok (.iload_n 1, 1) := by decide +kernel
theorem d_Mo_street_17 : decode b_Mo_street 17 = .ok (.iload_n 2, 1) := by decide +kernel
theorem d_Mo_street_18 : decode b_Mo_street 18 = .ok (.isub, 1) := by decide +kernel
theorem d_Mo_street_19 : decode b_Mo_street 19 = .ok (.iconst 1, 1) := by decide +kernel
theorem d_Mo_street_20 : decode b_Mo_street 20 = .ok (.if_icmp .eq 10, 3) := by decide +kernel
theorem d_Mo_street_23 : decode b_Mo_street 23 = .ok (.iload_n 2, 1) := by decide +kernel
theorem d_Mo_street_24 : decode b_Mo_street 24 = .ok (.iload_n 1, 1) := by decide +kernel
theorem d_Mo_street_25 : decode b_Mo_street 25 = .ok (.isub, 1) := by decide +kernel
theorem d_Mo_street_26 : decode b_Mo_street 26 = .ok (.iconst 1, 1) := by decide +kernel
theorem d_Mo_street_27 : decode b_Mo_street 27 = .ok (.if_icmp .ne 32, 3) := by decide +kernel
theorem d_Mo_street_30 : decode b_Mo_street 30 = .ok (.iload_n 3, 1) := by decide +kernel
theorem d_Mo_street_31 : decode b_Mo_street 31 = .ok (.i2l, 1) := by decide +kernel
theorem d_Mo_street_32 : decode b_Mo_street 32 = .ok (.lconst 1, 1) := by decide +kernel
theorem d_Mo_street_33 : decode b_Mo_street 33 = .ok (.ldc2_w 89, 3) := by decide +kernel
theorem d_Mo_street_36 : decode b_Mo_street 36 = .ok (.invokestatic 69, 3) := by decide +kernel
theorem d_Mo_street_39 : decode b_Mo_street 39 = .ok (.ifCond .eq 20, 3) := by decide +kernel
theorem d_Mo_street_42 : decode b_Mo_street 42 = .ok (.iload 4, 2) := by decide +kernel
theorem d_Mo_street_44 : decode b_Mo_street 44 = .ok (.i2l, 1) := by decide +kernel
theorem d_Mo_street_45 : decode b_Mo_street 45 = .ok (.lconst 0, 1) := by decide +kernel
theorem d_Mo_street_46 : decode b_Mo_street 46 = .ok (.ldc2_w 91, 3) := by decide +kernel
theorem d_Mo_street_49 : decode b_Mo_street 49 = .ok (.invokestatic 69, 3) := by decide +kernel
theorem d_Mo_street_52 : decode b_Mo_street 52 = .ok (.ifCond .eq 7, 3) := by decide +kernel
theorem d_Mo_street_55 : decode b_Mo_street 55 = .ok (.iconst 1, 1) := by decide +kernel
theorem d_Mo_street_56 : decode b_Mo_street 56 = .ok (.goto 4, 3) := by decide +kernel
theorem d_Mo_street_59 : decode b_Mo_street 59 = .ok (.iconst 0, 1) := by decide +kernel
theorem d_Mo_street_60 : decode b_Mo_street 60 = .ok (.istore 5, 2) := by decide +kernel
theorem d_Mo_street_62 : decode b_Mo_street 62 = .ok (.iload 5, 2) := by decide +kernel
theorem d_Mo_street_64 : decode b_Mo_street 64 = .ok (.ifCond .eq 43, 3) := by decide +kernel
theorem d_Mo_street_67 : decode b_Mo_street 67 = .ok (.iload_n 1, 1) := by decide +kernel
theorem d_Mo_street_68 : decode b_Mo_street 68 = .ok (.iload_n 2, 1) := by decide +kernel
theorem d_Mo_street_69 : decode b_Mo_street 69 = .ok (.if_icmp .ge 9, 3) := by decide +kernel
theorem d_Mo_street_72 : decode b_Mo_street 72 = .ok (.iconst 2, 1) := by decide +kernel
theorem d_Mo_street_73 : decode b_Mo_street 73 = .ok (.iload_n 1, 1) := by decide +kernel
theorem d_Mo_street_74 : decode b_Mo_street 74 = .ok (.imul, 1) := by decide +kernel
theorem d_Mo_street_75 : decode b_Mo_street 75 = .ok (.goto 8, 3) := by decide +kernel
theorem d_Mo_street_78 : decode b_Mo_street 78 = .ok (.iconst 2, 1) := by decide +kernel
theorem d_Mo_street_79 : decode b_Mo_street 79 = .ok (.iload_n 2, 1) := by decide +kernel
theorem d_Mo_street_80 : decode b_Mo_street 80 = .ok (.imul, 1) := by decide +kernel
theorem d_Mo_street_81 : decode b_Mo_street 81 = .ok (.iconst 1, 1) := by decide +kernel
theorem d_Mo_street_82 : decode b_Mo_street 82 = .ok (.iadd, 1) := by decide +kernel
theorem d_Mo_street_83 : decode b_Mo_street 83 = .ok (.istore 6, 2) := by decide +kernel
theorem d_Mo_street_85 : decode b_Mo_street 85 = .ok (.aload_n 0, 1) := by decide +kernel
theorem d_Mo_street_86 : decode b_Mo_street 86 = .ok (.getfield 19, 3) := by decide +kernel
theorem d_Mo_street_89 : decode b_Mo_street 89 = .ok (.iload 6, 2) := by decide +kernel
theorem d_Mo_street_91 : decode b_Mo_street 91 = .ok (.iload_n 3, 1) := by decide +kernel
theorem d_Mo_street_92 : decode b_Mo_street 92 = .ok (.iastore, 1) := by decide +kernel
theorem d_Mo_street_93 : decode b_Mo_street 93 = .ok (.aload_n 0, 1) := by decide +kernel
theorem d_Mo_street_94 : decode b_Mo_street 94 = .ok (.getfield 22, 3) := by decide +kernel
theorem d_Mo_street_97 : decode b_Mo_street 97 = .ok (.iload 6, 2) := by decide +kernel
theorem d_Mo_street_99 : decode b_Mo_street 99 = .ok (.iload 4, 2) := by decide +kernel
theorem d_Mo_street_101 : decode b_Mo_street 101 = .ok (.iastore, 1) := by decide +kernel
theorem d_Mo_street_102 : decode b_Mo_street 102 = .ok (.aload_n 0, 1) := by decide +kernel
theorem d_Mo_street_103 : decode b_Mo_street 103 = .ok (.iconst 0, 1) := by decide +kernel
theorem d_Mo_street_104 : decode b_Mo_street 104 = .ok (.putfield 81, 3) := by decide +kernel
theorem d_Mo_street_107 : decode b_Mo_street 107 = .ok (.iload 5, 2) := by decide +kernel
theorem d_Mo_street_109 : decode b_Mo_street 109 = .ok (.ireturn, 1) := by decide +kernel
theorem d_Mo_cycles_0 : decode b_Mo_cycles 0 = .ok (.iload_n 1, 1) := by decide +kernel
theorem d_Mo_cycles_1 : decode b_Mo_cycles 1 = .ok (.bipush 10, 2) := by decide +kernel
theorem d_Mo_cycles_3 : decode b_Mo_cycles 3 = .ok (.if_icmp .lt 30, 3) := by decide +kernel
theorem d_Mo_cycles_6 : decode b_Mo_cycles 6 = .ok (.iload_n 1, 1) := by decide +kernel
theorem d_Mo_cycles_7 : decode b_Mo_cycles 7 = .ok (.iload_n 2, 1) := by decide +kernel
theorem d_Mo_cycles_8 : decode b_Mo_cycles 8 = .ok (.if_icmp .gt 25, 3) := by decide +kernel
theorem d_Mo_cycles_11 : decode b_Mo_cycles 11 = .ok (.iload_n 2, 1) := by decide +kernel
theorem d_Mo_cycles_12 : decode b_Mo_cycles 12 = .ok (.bipush 120, 2) := by decide +kernel
theorem d_Mo_cycles_14 : decode b_Mo_cycles 14 = .ok (.if_icmp .gt 19, 3) := by decide +kernel
theorem d_Mo_cycles_17 : decode b_Mo_cycles 17 = .ok (.iload_n 3, 1) := by decide +kernel
theorem d_Mo_cycles_18 : decode b_Mo_cycles 18 = .ok (.i2l, 1) := by decide +kernel
theorem d_Mo_cycles_19 : decode b_Mo_cycles 19 = .ok (.lconst 1, 1) := by decide +kernel
theorem d_Mo_cycles_20 : decode b_Mo_cycles 20 = .ok (.ldc2_w 93, 3) := by decide +kernel
theorem d_Mo_cycles_23 : decode b_Mo_cycles 23 = .ok (.invokestatic 69, 3) := by decide +kernel
theorem d_Mo_cycles_26 : decode b_Mo_cycles 26 = .ok (.ifCond .eq 7, 3) := by decide +kernel
theorem d_Mo_cycles_29 : decode b_Mo_cycles 29 = .ok (.iconst 1, 1) := by decide +kernel
theorem d_Mo_cycles_30 : decode b_Mo_cycles 30 = .ok (.goto 4, 3) := by decide +kernel
theorem d_Mo_cycles_33 : decode b_Mo_cycles 33 = .ok (.iconst 0, 1) := by decide +kernel
theorem d_Mo_cycles_34 : decode b_Mo_cycles 34 = .ok (.istore 4, 2) := by decide +kernel
theorem d_Mo_cycles_36 : decode b_Mo_cycles 36 = .ok (.iload 4, 2) := by decide +kernel
theorem d_Mo_cycles_38 : decode b_Mo_cycles 38 = .ok (.ifCond .eq 23, 3) := by decide +kernel
theorem d_Mo_cycles_41 : decode b_Mo_cycles 41 = .ok (.aload_n 0, 1) := by decide +kernel
theorem d_Mo_cycles_42 : decode b_Mo_cycles 42 = .ok (.iload_n 1, 1) := by decide +kernel
theorem d_Mo_cycles_43 : decode b_Mo_cycles 43 = .ok (.putfield 25, 3) := by decide +kernel
theorem d_Mo_cycles_46 : decode b_Mo_cycles 46 = .ok (.aload_n 0, 1) := by decide +kernel
theorem d_Mo_cycles_47 : decode b_Mo_cycles 47 = .ok (.iload_n 2, 1) := by decide +kernel
theorem d_Mo_cycles_48 : decode b_Mo_cycles 48 = .ok (.putfield 29, 3) := by decide +kernel
theorem d_Mo_cycles_51 : decode b_Mo_cycles 51 = .ok (.aload_n 0, 1) := by decide +kernel
theorem d_Mo_cycles_52 : decode b_Mo_cycles 52 = .ok (.iload_n 3, 1) := by decide +kernel
theorem d_Mo_cycles_53 : decode b_Mo_cycles 53 = .ok (.putfield 32, 3) := by decide +kernel
theorem d_Mo_cycles_56 : decode b_Mo_cycles 56 = .ok (.aload_n 0, 1) := by decide +kernel
theorem d_Mo_cycles_57 : decode b_Mo_cycles 57 = .ok (.iconst 0, 1) := by decide +kernel
theorem d_Mo_cycles_58 : decode b_Mo_cycles 58 = .ok (.putfield 81, 3) := by decide +kernel
theorem d_Mo_cycles_61 : decode b_Mo_cycles 61 = .ok (.iload 4, 2) := by decide +kernel
theorem d_Mo_cycles_63 : decode b_Mo_cycles 63 = .ok (.ireturn, 1) := by decide +kernel
theorem d_Mo_step_0 : decode b_Mo_step 0 = .ok (.iload_n 1, 1) := by decide +kernel
theorem d_Mo_step_1 : decode b_Mo_step 1 = .ok (.i2l, 1) := by decide +kernel
theorem d_Mo_step_2 : decode b_Mo_step 2 = .ok (.lconst 1, 1) := by decide +kernel
theorem d_Mo_step_3 : decode b_Mo_step 3 = .ok (.ldc2_w 95, 3) := by decide +kernel
theorem d_Mo_step_6 : decode b_Mo_step 6 = .ok (.invokestatic 69, 3) := by decide +kernel
theorem d_Mo_step_9 : decode b_Mo_step 9 = .ok (.istore_n 2, 1) := by decide +kernel
theorem d_Mo_step_10 : decode b_Mo_step 10 = .ok (.iload_n 2, 1) := by decide +kernel
theorem d_Mo_step_11 : decode b_Mo_step 11 = .ok (.ifCond .eq 13, 3) := by decide +kernel
theorem d_Mo_step_14 : decode b_Mo_step 14 = .ok (.aload_n 0, 1) := by decide +kernel
theorem d_Mo_step_15 : decode b_Mo_step 15 = .ok (.iload_n 1, 1) := by decide +kernel
theorem d_Mo_step_16 : decode b_Mo_step 16 = .ok (.putfield 35, 3) := by decide +kernel
theorem d_Mo_step_19 : decode b_Mo_step 19 = .ok (.aload_n 0, 1) := by decide +kernel
theorem d_Mo_step_20 : decode b_Mo_step 20 = .ok (.iconst 0, 1) := by decide +kernel
theorem d_Mo_step_21 : decode b_Mo_step 21 = .ok (.putfield 81, 3) := by decide +kernel
theorem d_Mo_step_24 : decode b_Mo_step 24 = .ok (.iload_n 2, 1) := by decide +kernel
theorem d_Mo_step_25 : decode b_Mo_step 25 = .ok (.ireturn, 1) := by decide +kernel
theorem d_Mo_queue_0 : decode b_Mo_queue 0 = .ok (.aload_n 0, 1) := by decide +kernel
theorem d_Mo_queue_1 : decode b_Mo_queue 1 = .ok (.iload_n 1, 1) := by decide +kernel
theorem d_Mo_queue_2 : decode b_Mo_queue 2 = .ok (.invokevirtual 85, 3) := by decide +kernel
theorem d_Mo_queue_5 : decode b_Mo_queue 5 = .ok (.ifCond .eq 25, 3) := by decide +kernel
theorem d_Mo_queue_8 : decode b_Mo_queue 8 = .ok (.iload_n 2, 1) := by decide +kernel
theorem d_Mo_queue_9 : decode b_Mo_queue 9 = .ok (.i2l, 1) := by decide +kernel
theorem d_Mo_queue_10 : decode b_Mo_queue 10 = .ok (.lconst 0, 1) := by decide +kernel
theorem d_Mo_queue_11 : decode b_Mo_queue 11 = .ok (.aload_n 0, 1) := by decide +kernel
theorem d_Mo_queue_12 : decode b_Mo_queue 12 = .ok (.getfield 7, 3) := by decide +kernel
theorem d_Mo_queue_15 : decode b_Mo_queue 15 = .ok (.iload_n 1, 1) := by decide +kernel
theorem d_Mo_queue_16 : decode b_Mo_queue 16 = .ok (.iaload, 1) := by decide +kernel
theorem d_Mo_queue_17 : decode b_Mo_queue 17 = .ok (.i2l, 1) := by decide +kernel
theorem d_Mo_queue_18 : decode b_Mo_queue 18 = .ok (.lconst 1, 1) := by decide +kernel
theorem d_Mo_queue_19 : decode b_Mo_queue 19 = .ok (.lsub, 1) := by decide +kernel
theorem d_Mo_queue_20 : decode b_Mo_queue 20 = .ok (.invokestatic 69, 3) := by decide +kernel
theorem d_Mo_queue_23 : decode b_Mo_queue 23 = .ok (.ifCond .eq 7, 3) := by decide +kernel
theorem d_Mo_queue_26 : decode b_Mo_queue 26 = .ok (.iconst 1, 1) := by decide +kernel
theorem d_Mo_queue_27 : decode b_Mo_queue 27 = .ok (.goto 4, 3) := by decide +kernel
theorem d_Mo_queue_30 : decode b_Mo_queue 30 = .ok (.iconst 0, 1) := by decide +kernel
theorem d_Mo_queue_31 : decode b_Mo_queue 31 = .ok (.istore_n 3, 1) := by decide +kernel
theorem d_Mo_queue_32 : decode b_Mo_queue 32 = .ok (.iload_n 3, 1) := by decide +kernel
theorem d_Mo_queue_33 : decode b_Mo_queue 33 = .ok (.ifCond .eq 15, 3) := by decide +kernel
theorem d_Mo_queue_36 : decode b_Mo_queue 36 = .ok (.aload_n 0, 1) := by decide +kernel
theorem d_Mo_queue_37 : decode b_Mo_queue 37 = .ok (.getfield 16, 3) := by decide +kernel
theorem d_Mo_queue_40 : decode b_Mo_queue 40 = .ok (.iload_n 1, 1) := by decide +kernel
theorem d_Mo_queue_41 : decode b_Mo_queue 41 = .ok (.iload_n 2, 1) := by decide +kernel
theorem d_Mo_queue_42 : decode b_Mo_queue 42 = .ok (.iastore, 1) := by decide +kernel
theorem d_Mo_queue_43 : decode b_Mo_queue 43 = .ok (.aload_n 0, 1) := by decide +kernel
theorem d_Mo_queue_44 : decode b_Mo_queue 44 = .ok (.iconst 0, 1) := by decide +kernel
theorem d_Mo_queue_45 : decode b_Mo_queue 45 = .ok (.putfield 81, 3) := by decide +kernel
theorem d_Mo_queue_48 : decode b_Mo_queue 48 = .ok (.iload_n 3, 1) := by decide +kernel
theorem d_Mo_queue_49 : decode b_Mo_queue 49 = .ok (.ireturn, 1) := by decide +kernel
theorem d_Mo_lay_0 : decode b_Mo_lay 0 = .ok (.iconst 0, 1) := by decide +kernel
theorem d_Mo_lay_1 : decode b_Mo_lay 1 = .ok (.istore 4, 2) := by decide +kernel
theorem d_Mo_lay_3 : decode b_Mo_lay 3 = .ok (.iload 4, 2) := by decide +kernel
theorem d_Mo_lay_5 : decode b_Mo_lay 5 = .ok (.iload_n 3, 1) := by decide +kernel
theorem d_Mo_lay_6 : decode b_Mo_lay 6 = .ok (.if_icmp .ge 58, 3) := by decide +kernel
theorem d_Mo_lay_9 : decode b_Mo_lay 9 = .ok (.iload 4, 2) := by decide +kernel
theorem d_Mo_lay_11 : decode b_Mo_lay 11 = .ok (.iload_n 2, 1) := by decide +kernel
theorem d_Mo_lay_12 : decode b_Mo_lay 12 = .ok (.isub, 1) := by decide +kernel
theorem d_Mo_lay_13 : decode b_Mo_lay 13 = .ok (.iload_n 3, 1) := by decide +kernel
theorem d_Mo_lay_14 : decode b_Mo_lay 14 = .ok (.iadd, 1) := by decide +kernel
theorem d_Mo_lay_15 : decode b_Mo_lay 15 = .ok (.iload_n 3, 1) := by decide +kernel
theorem d_Mo_lay_16 : decode b_Mo_lay 16 = .ok (.irem, 1) := by decide +kernel
theorem d_Mo_lay_17 : decode b_Mo_lay 17 = .ok (.istore 5, 2) := by decide +kernel
theorem d_Mo_lay_19 : decode b_Mo_lay 19 = .ok (.aload_n 0, 1) := by decide +kernel
theorem d_Mo_lay_20 : decode b_Mo_lay 20 = .ok (.getfield 44, 3) := by decide +kernel
theorem d_Mo_lay_23 : decode b_Mo_lay 23 = .ok (.bipush 120, 2) := by decide +kernel
theorem d_Mo_lay_25 : decode b_Mo_lay 25 = .ok (.iload_n 1, 1) := by decide +kernel
theorem d_Mo_lay_26 : decode b_Mo_lay 26 = .ok (.imul, 1) := by decide +kernel
theorem d_Mo_lay_27 : decode b_Mo_lay 27 = .ok (.iload 4, 2) := by decide +kernel
theorem d_Mo_lay_29 : decode b_Mo_lay 29 = .ok (.iadd, 1) := by decide +kernel
theorem d_Mo_lay_30 : decode b_Mo_lay 30 = .ok (.iload 5, 2) := by decide +kernel
theorem d_Mo_lay_32 : decode b_Mo_lay 32 = .ok (.aload_n 0, 1) := by decide +kernel
theorem d_Mo_lay_33 : decode b_Mo_lay 33 = .ok (.getfield 7, 3) := by decide +kernel
theorem d_Mo_lay_36 : decode b_Mo_lay 36 = .ok (.iload_n 1, 1) := by decide +kernel
theorem d_Mo_lay_37 : decode b_Mo_lay 37 = .ok (.iaload, 1) := by decide +kernel
theorem d_Mo_lay_38 : decode b_Mo_lay 38 = .ok (.if_icmp .ge 18, 3) := by decide +kernel
theorem d_Mo_lay_41 : decode b_Mo_lay 41 = .ok (.iload 5, 2) := by decide +kernel
theorem d_Mo_lay_43 : decode b_Mo_lay 43 = .ok (.aload_n 0, 1) := by decide +kernel
theorem d_Mo_lay_44 : decode b_Mo_lay 44 = .ok (.getfield 16, 3) := by decide +kernel
theorem d_Mo_lay_47 : decode b_Mo_lay 47 = .ok (.iload_n 1, 1) := by decide +kernel
theorem d_Mo_lay_48 : decode b_Mo_lay 48 = .ok (.iaload, 1) := by decide +kernel
theorem d_Mo_lay_49 : decode b_Mo_lay 49 = .ok (.if_icmp .lt 7, 3) := by decide +kernel
theorem d_Mo_lay_52 : decode b_Mo_lay 52 = .ok (.iconst 1, 1) := by decide +kernel
theorem d_Mo_lay_53 : decode b_Mo_lay 53 = .ok (.goto 4, 3) := by decide +kernel
theorem d_Mo_lay_56 : decode b_Mo_lay 56 = .ok (.iconst 0, 1) := by decide +kernel
theorem d_Mo_lay_57 : decode b_Mo_lay 57 = .ok (.bastore, 1) := by decide +kernel
theorem d_Mo_lay_58 : decode b_Mo_lay 58 = .ok (.iinc 4 1, 3) := by decide +kernel
theorem d_Mo_lay_61 : decode b_Mo_lay 61 = .ok (.goto (-58), 3) := by decide +kernel
theorem d_Mo_lay_64 : decode b_Mo_lay 64 = .ok (.return_, 1) := by decide +kernel
theorem d_Mo_weightOf_0 : decode b_Mo_weightOf 0 = .ok (.iconst 0, 1) := by decide +kernel
theorem d_Mo_weightOf_1 : decode b_Mo_weightOf 1 = .ok (.istore_n 2, 1) := by decide +kernel
theorem d_Mo_weightOf_2 : decode b_Mo_weightOf 2 = .ok (.iconst 0, 1) := by decide +kernel
theorem d_Mo_weightOf_3 : decode b_Mo_weightOf 3 = .ok (.istore_n 3, 1) := by decide +kernel
theorem d_Mo_weightOf_4 : decode b_Mo_weightOf 4 = .ok (.iload_n 3, 1) := by decide +kernel
theorem d_Mo_weightOf_5 : decode b_Mo_weightOf 5 = .ok (.iconst 1, 1) := by decide +kernel
theorem d_Mo_weightOf_6 : decode b_Mo_weightOf 6 = .ok (.iadd, 1) := by decide +kernel
theorem d_Mo_weightOf_7 : decode b_Mo_weightOf 7 = .ok (.aload_n 0, 1) := by decide +kernel
theorem d_Mo_weightOf_8 : decode b_Mo_weightOf 8 = .ok (.getfield 66, 3) := by decide +kernel
theorem d_Mo_weightOf_11 : decode b_Mo_weightOf 11 = .ok (.if_icmp .ge 22, 3) := by decide +kernel
theorem d_Mo_weightOf_14 : decode b_Mo_weightOf 14 = .ok (.iload_n 2, 1) := by decide +kernel
theorem d_Mo_weightOf_15 : decode b_Mo_weightOf 15 = .ok (.aload_n 0, 1) := by decide +kernel
theorem d_Mo_weightOf_16 : decode b_Mo_weightOf 16 = .ok (.getfield 22, 3) := by decide +kernel
theorem d_Mo_weightOf_19 : decode b_Mo_weightOf 19 = .ok (.iconst 2, 1) := by decide +kernel
theorem d_Mo_weightOf_20 : decode b_Mo_weightOf 20 = .ok (.iload_n 3, 1) := by decide +kernel
theorem d_Mo_weightOf_21 : decode b_Mo_weightOf 21 = .ok (.imul, 1) := by decide +kernel
theorem d_Mo_weightOf_22 : decode b_Mo_weightOf 22 = .ok (.iload_n 1, 1) := by decide +kernel
theorem d_Mo_weightOf_23 : decode b_Mo_weightOf 23 = .ok (.iadd, 1) := by decide +kernel
theorem d_Mo_weightOf_24 : decode b_Mo_weightOf 24 = .ok (.iaload, 1) := by decide +kernel
theorem d_Mo_weightOf_25 : decode b_Mo_weightOf 25 = .ok (.iadd, 1) := by decide +kernel
theorem d_Mo_weightOf_26 : decode b_Mo_weightOf 26 = .ok (.istore_n 2, 1) := by decide +kernel
theorem d_Mo_weightOf_27 : decode b_Mo_weightOf 27 = .ok (.iinc 3 1, 3) := by decide +kernel
theorem d_Mo_weightOf_30 : decode b_Mo_weightOf 30 = .ok (.goto (-26), 3) := by decide +kernel
theorem d_Mo_weightOf_33 : decode b_Mo_weightOf 33 = .ok (.iload_n 2, 1) := by decide +kernel
theorem d_Mo_weightOf_34 : decode b_Mo_weightOf 34 = .ok (.ireturn, 1) := by decide +kernel
theorem d_Mo_band_0 : decode b_Mo_band 0 = .ok (.iconst 0, 1) := by decide +kernel
theorem d_Mo_band_1 : decode b_Mo_band 1 = .ok (.istore_n 3, 1) := by decide +kernel
theorem d_Mo_band_2 : decode b_Mo_band 2 = .ok (.iconst 0, 1) := by decide +kernel
theorem d_Mo_band_3 : decode b_Mo_band 3 = .ok (.istore 4, 2) := by decide +kernel
theorem d_Mo_band_5 : decode b_Mo_band 5 = .ok (.iload 4, 2) := by decide +kernel
theorem d_Mo_band_7 : decode b_Mo_band 7 = .ok (.iload_n 2, 1) := by decide +kernel
theorem d_Mo_band_8 : decode b_Mo_band 8 = .ok (.if_icmp .ge 143, 3) := by decide +kernel
theorem d_Mo_band_11 : decode b_Mo_band 11 = .ok (.iload_n 1, 1) := by decide +kernel
theorem d_Mo_band_12 : decode b_Mo_band 12 = .ok (.ifCond .ne 7, 3) := by decide +kernel
theorem d_Mo_band_15 : decode b_Mo_band 15 = .ok (.iconst 0, 1) := by decide +kernel
theorem d_Mo_band_16 : decode b_Mo_band 16 = .ok (.goto 9, 3) := by decide +kernel
theorem d_Mo_band_19 : decode b_Mo_band 19 = .ok (.aload_n 0, 1) := by decide +kernel
theorem d_Mo_band_20 : decode b_Mo_band 20 = .ok (.getfield 66, 3) := by decide +kernel
theorem d_Mo_band_23 : decode b_Mo_band 23 = .ok (.iconst 1, 1) := by decide +kernel
theorem d_Mo_band_24 : decode b_Mo_band 24 = .ok (.isub, 1) := by decide +kernel
theorem d_Mo_band_25 : decode b_Mo_band 25 = .ok (.istore 5, 2) := by decide +kernel
theorem d_Mo_band_27 : decode b_Mo_band 27 = .ok (.iload_n 1, 1) := by decide +kernel
theorem d_Mo_band_28 : decode b_Mo_band 28 = .ok (.ifCond .ne 10, 3) := by decide +kernel
theorem d_Mo_band_31 : decode b_Mo_band 31 = .ok (.aload_n 0, 1) := by decide +kernel
theorem d_Mo_band_32 : decode b_Mo_band 32 = .ok (.getfield 66, 3) := by decide +kernel
theorem d_Mo_band_35 : decode b_Mo_band 35 = .ok (.goto 4, 3) := by decide +kernel
theorem d_Mo_band_38 : decode b_Mo_band 38 = .ok (.iconst (-1), 1) := by decide +kernel
theorem d_Mo_band_39 : decode b_Mo_band 39 = .ok (.istore 6, 2) := by decide +kernel
theorem d_Mo_band_41 : decode b_Mo_band 41 = .ok (.iload 4, 2) := by decide +kernel
theorem d_Mo_band_43 : decode b_Mo_band 43 = .ok (.istore 7, 2) := by decide +kernel
theorem d_Mo_band_45 : decode b_Mo_band 45 = .ok (.iload 5, 2) := by decide +kernel
theorem d_Mo_band_47 : decode b_Mo_band 47 = .ok (.iload 6, 2) := by decide +kernel
theorem d_Mo_band_49 : decode b_Mo_band 49 = .ok (.if_icmp .eq 81, 3) := by decide +kernel
theorem d_Mo_band_52 : decode b_Mo_band 52 = .ok (.aload_n 0, 1) := by decide +kernel
theorem d_Mo_band_53 : decode b_Mo_band 53 = .ok (.getfield 44, 3) := by decide +kernel
theorem d_Mo_band_56 : decode b_Mo_band 56 = .ok (.bipush 120, 2) := by decide +kernel
theorem d_Mo_band_58 : decode b_Mo_band 58 = .ok (.iload 5, 2) := by decide +kernel
theorem d_Mo_band_60 : decode b_Mo_band 60 = .ok (.imul, 1) := by decide +kernel
theorem d_Mo_band_61 : decode b_Mo_band 61 = .ok (.iload 7, 2) := by decide +kernel
theorem d_Mo_band_63 : decode b_Mo_band 63 = .ok (.iadd, 1) := by decide +kernel
theorem d_Mo_band_64 : decode b_Mo_band 64 = .ok (.baload, 1) := by decide +kernel
theorem d_Mo_band_65 : decode b_Mo_band 65 = .ok (.ifCond .eq 65, 3) := by decide +kernel
theorem d_Mo_band_68 : decode b_Mo_band 68 = .ok (.iload_n 1, 1) := by decide +kernel
theorem d_Mo_band_69 : decode b_Mo_band 69 = .ok (.ifCond .ne 10, 3) := by decide +kernel
theorem d_Mo_band_72 : decode b_Mo_band 72 = .ok (.iconst 2, 1) := by decide +kernel
theorem d_Mo_band_73 : decode b_Mo_band 73 = .ok (.iload 5, 2) := by decide +kernel
theorem d_Mo_band_75 : decode b_Mo_band 75 = .ok (.imul, 1) := by decide +kernel
theorem d_Mo_band_76 : decode b_Mo_band 76 = .ok (.goto 9, 3) := by decide +kernel
theorem d_Mo_band_79 : decode b_Mo_band 79 = .ok (.iconst 2, 1) := by decide +kernel
theorem d_Mo_band_80 : decode b_Mo_band 80 = .ok (.iload 5, 2) := by decide +kernel
theorem d_Mo_band_82 : decode b_Mo_band 82 = .ok (.imul, 1) := by decide +kernel
theorem d_Mo_band_83 : decode b_Mo_band 83 = .ok (.iconst 1, 1) := by decide +kernel
theorem d_Mo_band_84 : decode b_Mo_band 84 = .ok (.isub, 1) := by decide +kernel
theorem d_Mo_band_85 : decode b_Mo_band 85 = .ok (.istore 8, 2) := by decide +kernel
theorem d_Mo_band_87 : decode b_Mo_band 87 = .ok (.iload 5, 2) := by decide +kernel
theorem d_Mo_band_89 : decode b_Mo_band 89 = .ok (.iload_n 1, 1) := by decide +kernel
theorem d_Mo_band_90 : decode b_Mo_band 90 = .ok (.ifCond .ne 7, 3) := by decide +kernel
theorem d_Mo_band_93 : decode b_Mo_band 93 = .ok (.iconst 1, 1) := by decide +kernel
theorem d_Mo_band_94 : decode b_Mo_band 94 = .ok (.goto 4, 3) := by decide +kernel
theorem d_Mo_band_97 : decode b_Mo_band 97 = .ok (.iconst (-1), 1) := by decide +kernel
theorem d_Mo_band_98 : decode b_Mo_band 98 = .ok (.iadd, 1) := by decide +kernel
theorem d_Mo_band_99 : decode b_Mo_band 99 = .ok (.istore 5, 2) := by decide +kernel
theorem d_Mo_band_101 : decode b_Mo_band 101 = .ok (.iload 5, 2) := by decide +kernel
theorem d_Mo_band_103 : decode b_Mo_band 103 = .ok (.iload 6, 2) := by decide +kernel
theorem d_Mo_band_105 : decode b_Mo_band 105 = .ok (.if_icmp .ne 8, 3) := by decide +kernel
theorem d_Mo_band_108 : decode b_Mo_band 108 = .ok (.iload 7, 2) := by decide +kernel
theorem d_Mo_band_110 : decode b_Mo_band 110 = .ok (.goto 15, 3) := by decide +kernel
theorem d_Mo_band_113 : decode b_Mo_band 113 = .ok (.iload 7, 2) := by decide +kernel
theorem d_Mo_band_115 : decode b_Mo_band 115 = .ok (.aload_n 0, 1) := by decide +kernel
theorem d_Mo_band_116 : decode b_Mo_band 116 = .ok (.getfield 19, 3) := by decide +kernel
theorem d_Mo_band_119 : decode b_Mo_band 119 = .ok (.iload 8, 2) := by decide +kernel
theorem d_Mo_band_121 : decode b_Mo_band 121 = .ok (.iaload, 1) := by decide +kernel
theorem d_Mo_band_122 : decode b_Mo_band 122 = .ok (.iadd, 1) := by decide +kernel
theorem d_Mo_band_123 : decode b_Mo_band 123 = .ok (.iload_n 2, 1) := by decide +kernel
theorem d_Mo_band_124 : decode b_Mo_band 124 = .ok (.irem, 1) := by decide +kernel
theorem d_Mo_band_125 : decode b_Mo_band 125 = .ok (.istore 7, 2) := by decide +kernel
theorem d_Mo_band_127 : decode b_Mo_band 127 = .ok (.goto (-82), 3) := by decide +kernel
theorem d_Mo_band_130 : decode b_Mo_band 130 = .ok (.iload_n 3, 1) := by decide +kernel
theorem d_Mo_band_131 : decode b_Mo_band 131 = .ok (.iload 5, 2) := by decide +kernel
theorem d_Mo_band_133 : decode b_Mo_band 133 = .ok (.iload 6, 2) := by decide +kernel
theorem d_Mo_band_135 : decode b_Mo_band 135 = .ok (.if_icmp .ne 7, 3) := by decide +kernel
theorem d_Mo_band_138 : decode b_Mo_band 138 = .ok (.iconst 1, 1) := by decide +kernel
theorem d_Mo_band_139 : decode b_Mo_band 139 = .ok (.goto 4, 3) := by decide +kernel
theorem d_Mo_band_142 : decode b_Mo_band 142 = .ok (.iconst 0, 1) := by decide +kernel
theorem d_Mo_band_143 : decode b_Mo_band 143 = .ok (.iadd, 1) := by decide +kernel
theorem d_Mo_band_144 : decode b_Mo_band 144 = .ok (.istore_n 3, 1) := by decide +kernel
theorem d_Mo_band_145 : decode b_Mo_band 145 = .ok (.iinc 4 1, 3) := by decide +kernel
theorem d_Mo_band_148 : decode b_Mo_band 148 = .ok (.goto (-143), 3) := by decide +kernel
theorem d_Mo_band_151 : decode b_Mo_band 151 = .ok (.iload_n 3, 1) := by decide +kernel
theorem d_Mo_band_152 : decode b_Mo_band 152 = .ok (.ireturn, 1) := by decide +kernel
theorem d_Mo_stopsOf_0 : decode b_Mo_stopsOf 0 = .ok (.iconst 0, 1) := by decide +kernel
theorem d_Mo_stopsOf_1 : decode b_Mo_stopsOf 1 = .ok (.istore_n 2, 1) := by decide +kernel
theorem d_Mo_stopsOf_2 : decode b_Mo_stopsOf 2 = .ok (.iconst 0, 1) := by decide +kernel
theorem d_Mo_stopsOf_3 : decode b_Mo_stopsOf 3 = .ok (.istore_n 3, 1) := by decide +kernel
theorem d_Mo_stopsOf_4 : decode b_Mo_stopsOf 4 = .ok (.iload_n 3, 1) := by decide +kernel
theorem d_Mo_stopsOf_5 : decode b_Mo_stopsOf 5 = .ok (.iconst 1, 1) := by decide +kernel
theorem d_Mo_stopsOf_6 : decode b_Mo_stopsOf 6 = .ok (.iadd, 1) := by decide +kernel
theorem d_Mo_stopsOf_7 : decode b_Mo_stopsOf 7 = .ok (.aload_n 0, 1) := by decide +kernel
theorem d_Mo_stopsOf_8 : decode b_Mo_stopsOf 8 = .ok (.getfield 66, 3) := by decide +kernel
theorem d_Mo_stopsOf_11 : decode b_Mo_stopsOf 11 = .ok (.if_icmp .ge 144, 3) := by decide +kernel
theorem d_Mo_stopsOf_14 : decode b_Mo_stopsOf 14 = .ok (.iconst 0, 1) := by decide +kernel
theorem d_Mo_stopsOf_15 : decode b_Mo_stopsOf 15 = .ok (.istore 4, 2) := by decide +kernel
theorem d_Mo_stopsOf_17 : decode b_Mo_stopsOf 17 = .ok (.iload 4, 2) := by decide +kernel
theorem d_Mo_stopsOf_19 : decode b_Mo_stopsOf 19 = .ok (.iload_n 1, 1) := by decide +kernel
theorem d_Mo_stopsOf_20 : decode b_Mo_stopsOf 20 = .ok (.if_icmp .ge 129, 3) := by decide +kernel
theorem d_Mo_stopsOf_23 : decode b_Mo_stopsOf 23 = .ok (.iload_n 2, 1) := by decide +kernel
theorem d_Mo_stopsOf_24 : decode b_Mo_stopsOf 24 = .ok (.aload_n 0, 1) := by decide +kernel
theorem d_Mo_stopsOf_25 : decode b_Mo_stopsOf 25 = .ok (.getfield 44, 3) := by decide +kernel
theorem d_Mo_stopsOf_28 : decode b_Mo_stopsOf 28 = .ok (.bipush 120, 2) := by decide +kernel
theorem d_Mo_stopsOf_30 : decode b_Mo_stopsOf 30 = .ok (.iload_n 3, 1) := by decide +kernel
theorem d_Mo_stopsOf_31 : decode b_Mo_stopsOf 31 = .ok (.imul, 1) := by decide +kernel
theorem d_Mo_stopsOf_32 : decode b_Mo_stopsOf 32 = .ok (.iload 4, 2) := by decide +kernel
theorem d_Mo_stopsOf_34 : decode b_Mo_stopsOf 34 = .ok (.iadd, 1) := by decide +kernel
theorem d_Mo_stopsOf_35 : decode b_Mo_stopsOf 35 = .ok (.baload, 1) := by decide +kernel
theorem d_Mo_stopsOf_36 : decode b_Mo_stopsOf 36 = .ok (.ifCond .eq 42, 3) := by decide +kernel
theorem d_Mo_stopsOf_39 : decode b_Mo_stopsOf 39 = .ok (.aload_n 0, 1) := by decide +kernel
theorem d_Mo_stopsOf_40 : decode b_Mo_stopsOf 40 = .ok (.getfield 44, 3) := by decide +kernel
theorem d_Mo_stopsOf_43 : decode b_Mo_stopsOf 43 = .ok (.bipush 120, 2) := by decide +kernel
theorem d_Mo_stopsOf_45 : decode b_Mo_stopsOf 45 = .ok (.iload_n 3, 1) := by decide +kernel
theorem d_Mo_stopsOf_46 : decode b_Mo_stopsOf 46 = .ok (.iconst 1, 1) := by decide +kernel
theorem d_Mo_stopsOf_47 : decode b_Mo_stopsOf 47 = .ok (.iadd, 1) := by decide +kernel
theorem d_Mo_stopsOf_48 : decode b_Mo_stopsOf 48 = .ok (.imul, 1) := by decide +kernel
theorem d_Mo_stopsOf_49 : decode b_Mo_stopsOf 49 = .ok (.iload 4, 2) := by decide +kernel
theorem d_Mo_stopsOf_51 : decode b_Mo_stopsOf 51 = .ok (.aload_n 0, 1) := by decide +kernel
theorem d_Mo_stopsOf_52 : decode b_Mo_stopsOf 52 = .ok (.getfield 19, 3) := by decide +kernel
theorem d_Mo_stopsOf_55 : decode b_Mo_stopsOf 55 = .ok (.iconst 2, 1) := by decide +kernel
theorem d_Mo_stopsOf_56 : decode b_Mo_stopsOf 56 = .ok (.iload_n 3, 1) := by decide +kernel
theorem d_Mo_stopsOf_57 : decode b_Mo_stopsOf 57 = .ok (.imul, 1) := by decide +kernel
theorem d_Mo_stopsOf_58 : decode b_Mo_stopsOf 58 = .ok (.iaload, 1) := by decide +kernel
theorem d_Mo_stopsOf_59 : decode b_Mo_stopsOf 59 = .ok (.iadd, 1) := by decide +kernel
theorem d_Mo_stopsOf_60 : decode b_Mo_stopsOf 60 = .ok (.iload_n 1, 1) := by decide +kernel
theorem d_Mo_stopsOf_61 : decode b_Mo_stopsOf 61 = .ok (.irem, 1) := by decide +kernel
theorem d_Mo_stopsOf_62 : decode b_Mo_stopsOf 62 = .ok (.iadd, 1) := by decide +kernel
theorem d_Mo_stopsOf_63 : decode b_Mo_stopsOf 63 = .ok (.baload, 1) := by decide +kernel
theorem d_Mo_stopsOf_64 : decode b_Mo_stopsOf 64 = .ok (.ifCond .ne 14, 3) := by decide +kernel
theorem d_Mo_stopsOf_67 : decode b_Mo_stopsOf 67 = .ok (.aload_n 0, 1) := by decide +kernel
theorem d_Mo_stopsOf_68 : decode b_Mo_stopsOf 68 = .ok (.getfield 22, 3) := by decide +kernel
theorem d_Mo_stopsOf_71 : decode b_Mo_stopsOf 71 = .ok (.iconst 2, 1) := by decide +kernel
theorem d_Mo_stopsOf_72 : decode b_Mo_stopsOf 72 = .ok (.iload_n 3, 1) := by decide +kernel
theorem d_Mo_stopsOf_73 : decode b_Mo_stopsOf 73 = .ok (.imul, 1) := by decide +kernel
theorem d_Mo_stopsOf_74 : decode b_Mo_stopsOf 74 = .ok (.iaload, 1) := by decide +kernel
theorem d_Mo_stopsOf_75 : decode b_Mo_stopsOf 75 = .ok (.goto 4, 3) := by decide +kernel
theorem d_Mo_stopsOf_78 : decode b_Mo_stopsOf 78 = .ok (.iconst 0, 1) := by decide +kernel
theorem d_Mo_stopsOf_79 : decode b_Mo_stopsOf 79 = .ok (.iadd, 1) := by decide +kernel
theorem d_Mo_stopsOf_80 : decode b_Mo_stopsOf 80 = .ok (.istore_n 2, 1) := by decide +kernel
theorem d_Mo_stopsOf_81 : decode b_Mo_stopsOf 81 = .ok (.iload_n 2, 1) := by decide +kernel
theorem d_Mo_stopsOf_82 : decode b_Mo_stopsOf 82 = .ok (.aload_n 0, 1) := by decide +kernel
theorem d_Mo_stopsOf_83 : decode b_Mo_stopsOf 83 = .ok (.getfield 44, 3) := by decide +kernel
theorem d_Mo_stopsOf_86 : decode b_Mo_stopsOf 86 = .ok (.bipush 120, 2) := by decide +kernel
theorem d_Mo_stopsOf_88 : decode b_Mo_stopsOf 88 = .ok (.iload_n 3, 1) := by decide +kernel
theorem d_Mo_stopsOf_89 : decode b_Mo_stopsOf 89 = .ok (.iconst 1, 1) := by decide +kernel
theorem d_Mo_stopsOf_90 : decode b_Mo_stopsOf 90 = .ok (.iadd, 1) := by decide +kernel
theorem d_Mo_stopsOf_91 : decode b_Mo_stopsOf 91 = .ok (.imul, 1) := by decide +kernel
theorem d_Mo_stopsOf_92 : decode b_Mo_stopsOf 92 = .ok (.iload 4, 2) := by decide +kernel
theorem d_Mo_stopsOf_94 : decode b_Mo_stopsOf 94 = .ok (.iadd, 1) := by decide +kernel
theorem d_Mo_stopsOf_95 : decode b_Mo_stopsOf 95 = .ok (.baload, 1) := by decide +kernel
theorem d_Mo_stopsOf_96 : decode b_Mo_stopsOf 96 = .ok (.ifCond .eq 44, 3) := by decide +kernel
theorem d_Mo_stopsOf_99 : decode b_Mo_stopsOf 99 = .ok (.aload_n 0, 1) := by decide +kernel
theorem d_Mo_stopsOf_100 : decode b_Mo_stopsOf 100 = .ok (.getfield 44, 3) := by decide +kernel
theorem d_Mo_stopsOf_103 : decode b_Mo_stopsOf 103 = .ok (.bipush 120, 2) := by decide +kernel
theorem d_Mo_stopsOf_105 : decode b_Mo_stopsOf 105 = .ok (.iload_n 3, 1) := by decide +kernel
theorem d_Mo_stopsOf_106 : decode b_Mo_stopsOf 106 = .ok (.imul, 1) := by decide +kernel
theorem d_Mo_stopsOf_107 : decode b_Mo_stopsOf 107 = .ok (.iload 4, 2) := by decide +kernel
theorem d_Mo_stopsOf_109 : decode b_Mo_stopsOf 109 = .ok (.aload_n 0, 1) := by decide +kernel
theorem d_Mo_stopsOf_110 : decode b_Mo_stopsOf 110 = .ok (.getfield 19, 3) := by decide +kernel
theorem d_Mo_stopsOf_113 : decode b_Mo_stopsOf 113 = .ok (.iconst 2, 1) := by decide +kernel
theorem d_Mo_stopsOf_114 : decode b_Mo_stopsOf 114 = .ok (.iload_n 3, 1) := by decide +kernel
theorem d_Mo_stopsOf_115 : decode b_Mo_stopsOf 115 = .ok (.imul, 1) := by decide +kernel
theorem d_Mo_stopsOf_116 : decode b_Mo_stopsOf 116 = .ok (.iconst 1, 1) := by decide +kernel
theorem d_Mo_stopsOf_117 : decode b_Mo_stopsOf 117 = .ok (.iadd, 1) := by decide +kernel
theorem d_Mo_stopsOf_118 : decode b_Mo_stopsOf 118 = .ok (.iaload, 1) := by decide +kernel
theorem d_Mo_stopsOf_119 : decode b_Mo_stopsOf 119 = .ok (.iadd, 1) := by decide +kernel
theorem d_Mo_stopsOf_120 : decode b_Mo_stopsOf 120 = .ok (.iload_n 1, 1) := by decide +kernel
theorem d_Mo_stopsOf_121 : decode b_Mo_stopsOf 121 = .ok (.irem, 1) := by decide +kernel
theorem d_Mo_stopsOf_122 : decode b_Mo_stopsOf 122 = .ok (.iadd, 1) := by decide +kernel
theorem d_Mo_stopsOf_123 : decode b_Mo_stopsOf 123 = .ok (.baload, 1) := by decide +kernel
theorem d_Mo_stopsOf_124 : decode b_Mo_stopsOf 124 = .ok (.ifCond .ne 16, 3) := by decide +kernel
theorem d_Mo_stopsOf_127 : decode b_Mo_stopsOf 127 = .ok (.aload_n 0, 1) := by decide +kernel
theorem d_Mo_stopsOf_128 : decode b_Mo_stopsOf 128 = .ok (.getfield 22, 3) := by decide +kernel
theorem d_Mo_stopsOf_131 : decode b_Mo_stopsOf 131 = .ok (.iconst 2, 1) := by decide +kernel
theorem d_Mo_stopsOf_132 : decode b_Mo_stopsOf 132 = .ok (.iload_n 3, 1) := by decide +kernel
theorem d_Mo_stopsOf_133 : decode b_Mo_stopsOf 133 = .ok (.imul, 1) := by decide +kernel
theorem d_Mo_stopsOf_134 : decode b_Mo_stopsOf 134 = .ok (.iconst 1, 1) := by decide +kernel
theorem d_Mo_stopsOf_135 : decode b_Mo_stopsOf 135 = .ok (.iadd, 1) := by decide +kernel
theorem d_Mo_stopsOf_136 : decode b_Mo_stopsOf 136 = .ok (.iaload, 1) := by decide +kernel
theorem d_Mo_stopsOf_137 : decode b_Mo_stopsOf 137 = .ok (.goto 4, 3) := by decide +kernel
theorem d_Mo_stopsOf_140 : decode b_Mo_stopsOf 140 = .ok (.iconst 0, 1) := by decide +kernel
theorem d_Mo_stopsOf_141 : decode b_Mo_stopsOf 141 = .ok (.iadd, 1) := by decide +kernel
theorem d_Mo_stopsOf_142 : decode b_Mo_stopsOf 142 = .ok (.istore_n 2, 1) := by decide +kernel
theorem d_Mo_stopsOf_143 : decode b_Mo_stopsOf 143 = .ok (.iinc 4 1, 3) := by decide +kernel
theorem d_Mo_stopsOf_146 : decode b_Mo_stopsOf 146 = .ok (.goto (-129), 3) := by decide +kernel
theorem d_Mo_stopsOf_149 : decode b_Mo_stopsOf 149 = .ok (.iinc 3 1, 3) := by decide +kernel
theorem d_Mo_stopsOf_152 : decode b_Mo_stopsOf 152 = .ok (.goto (-148), 3) := by decide +kernel
theorem d_Mo_stopsOf_155 : decode b_Mo_stopsOf 155 = .ok (.iload_n 2, 1) := by decide +kernel
theorem d_Mo_stopsOf_156 : decode b_Mo_stopsOf 156 = .ok (.ireturn, 1) := by decide +kernel
theorem d_Mo_layPlan_0 : decode b_Mo_layPlan 0 = .ok (.iconst 0, 1) := by decide +kernel
theorem d_Mo_layPlan_1 : decode b_Mo_layPlan 1 = .ok (.istore_n 1, 1) := by decide +kernel
theorem d_Mo_layPlan_2 : decode b_Mo_layPlan 2 = .ok (.iload_n 1, 1) := by decide +kernel
theorem d_Mo_layPlan_3 : decode b_Mo_layPlan 3 = .ok (.aload_n 0, 1) := by decide +kernel
theorem d_Mo_layPlan_4 : decode b_Mo_layPlan 4 = .ok (.getfield 66, 3) := by decide +kernel
theorem d_Mo_layPlan_7 : decode b_Mo_layPlan 7 = .ok (.if_icmp .ge 24, 3) := by decide +kernel
theorem d_Mo_layPlan_10 : decode b_Mo_layPlan 10 = .ok (.aload_n 0, 1) := by decide +kernel
theorem d_Mo_layPlan_11 : decode b_Mo_layPlan 11 = .ok (.iload_n 1, 1) := by decide +kernel
theorem d_Mo_layPlan_12 : decode b_Mo_layPlan 12 = .ok (.aload_n 0, 1) := by decide +kernel
theorem d_Mo_layPlan_13 : decode b_Mo_layPlan 13 = .ok (.getfield 38, 3) := by decide +kernel
theorem d_Mo_layPlan_16 : decode b_Mo_layPlan 16 = .ok (.iload_n 1, 1) := by decide +kernel
theorem d_Mo_layPlan_17 : decode b_Mo_layPlan 17 = .ok (.iaload, 1) := by decide +kernel
theorem d_Mo_layPlan_18 : decode b_Mo_layPlan 18 = .ok (.aload_n 0, 1) := by decide +kernel
theorem d_Mo_layPlan_19 : decode b_Mo_layPlan 19 = .ok (.getfield 97, 3) := by decide +kernel
theorem d_Mo_layPlan_22 : decode b_Mo_layPlan 22 = .ok (.invokevirtual 100, 3) := by decide +kernel
theorem d_Mo_layPlan_25 : decode b_Mo_layPlan 25 = .ok (.iinc 1 1, 3) := by decide +kernel
theorem d_Mo_layPlan_28 : decode b_Mo_layPlan 28 = .ok (.goto (-26), 3) := by decide +kernel
theorem d_Mo_layPlan_31 : decode b_Mo_layPlan 31 = .ok (.return_, 1) := by decide +kernel
theorem d_Mo_mayBe_0 : decode b_Mo_mayBe 0 = .ok (.iconst 1, 1) := by decide +kernel
theorem d_Mo_mayBe_1 : decode b_Mo_mayBe 1 = .ok (.istore_n 2, 1) := by decide +kernel
theorem d_Mo_mayBe_2 : decode b_Mo_mayBe 2 = .ok (.iconst 0, 1) := by decide +kernel
theorem d_Mo_mayBe_3 : decode b_Mo_mayBe 3 = .ok (.istore_n 3, 1) := by decide +kernel
theorem d_Mo_mayBe_4 : decode b_Mo_mayBe 4 = .ok (.iload_n 3, 1) := by decide +kernel
theorem d_Mo_mayBe_5 : decode b_Mo_mayBe 5 = .ok (.aload_n 0, 1) := by decide +kernel
theorem d_Mo_mayBe_6 : decode b_Mo_mayBe 6 = .ok (.getfield 66, 3) := by decide +kernel
theorem d_Mo_mayBe_9 : decode b_Mo_mayBe 9 = .ok (.if_icmp .ge 29, 3) := by decide +kernel
theorem d_Mo_mayBe_12 : decode b_Mo_mayBe 12 = .ok (.iload_n 2, 1) := by decide +kernel
theorem d_Mo_mayBe_13 : decode b_Mo_mayBe 13 = .ok (.ifCond .eq 17, 3) := by decide +kernel
theorem d_Mo_mayBe_16 : decode b_Mo_mayBe 16 = .ok (.aload_n 0, 1) := by decide +kernel
theorem d_Mo_mayBe_17 : decode b_Mo_mayBe 17 = .ok (.getfield 13, 3) := by decide +kernel
theorem d_Mo_mayBe_20 : decode b_Mo_mayBe 20 = .ok (.iload_n 3, 1) := by decide +kernel
theorem d_Mo_mayBe_21 : decode b_Mo_mayBe 21 = .ok (.iaload, 1) := by decide +kernel
theorem d_Mo_mayBe_22 : decode b_Mo_mayBe 22 = .ok (.iload_n 1, 1) := by decide +kernel
theorem d_Mo_mayBe_23 : decode b_Mo_mayBe 23 = .ok (.if_icmp .gt 7, 3) := by decide +kernel
theorem d_Mo_mayBe_26 : decode b_Mo_mayBe 26 = .ok (.iconst 1, 1) := by decide +kernel
theorem d_Mo_mayBe_27 : decode b_Mo_mayBe 27 = .ok (.goto 4, 3) := by decide +kernel
theorem d_Mo_mayBe_30 : decode b_Mo_mayBe 30 = .ok (.iconst 0, 1) := by decide +kernel
theorem d_Mo_mayBe_31 : decode b_Mo_mayBe 31 = .ok (.istore_n 2, 1) := by decide +kernel
theorem d_Mo_mayBe_32 : decode b_Mo_mayBe 32 = .ok (.iinc 3 1, 3) := by decide +kernel
theorem d_Mo_mayBe_35 : decode b_Mo_mayBe 35 = .ok (.goto (-31), 3) := by decide +kernel
theorem d_Mo_mayBe_38 : decode b_Mo_mayBe 38 = .ok (.iload_n 2, 1) := by decide +kernel
theorem d_Mo_mayBe_39 : decode b_Mo_mayBe 39 = .ok (.ireturn, 1) := by decide +kernel
theorem d_Mo_rowsOf_0 : decode b_Mo_rowsOf 0 = .ok (.lconst 1, 1) := by decide +kernel
theorem d_Mo_rowsOf_1 : decode b_Mo_rowsOf 1 = .ok (.lstore_n 2, 1) := by decide +kernel
theorem d_Mo_rowsOf_2 : decode b_Mo_rowsOf 2 = .ok (.iconst 1, 1) := by decide +kernel
theorem d_Mo_rowsOf_3 : decode b_Mo_rowsOf 3 = .ok (.istore 4, 2) := by decide +kernel
theorem d_Mo_rowsOf_5 : decode b_Mo_rowsOf 5 = .ok (.iload 4, 2) := by decide +kernel
theorem d_Mo_rowsOf_7 : decode b_Mo_rowsOf 7 = .ok (.aload_n 0, 1) := by decide +kernel
theorem d_Mo_rowsOf_8 : decode b_Mo_rowsOf 8 = .ok (.getfield 66, 3) := by decide +kernel
theorem d_Mo_rowsOf_11 : decode b_Mo_rowsOf 11 = .ok (.if_icmp .ge 26, 3) := by decide +kernel
theorem d_Mo_rowsOf_14 : decode b_Mo_rowsOf 14 = .ok (.lload_n 2, 1) := by decide +kernel
theorem d_Mo_rowsOf_15 : decode b_Mo_rowsOf 15 = .ok (.iload_n 1, 1) := by decide +kernel
theorem d_Mo_rowsOf_16 : decode b_Mo_rowsOf 16 = .ok (.aload_n 0, 1) := by decide +kernel
theorem d_Mo_rowsOf_17 : decode b_Mo_rowsOf 17 = .ok (.getfield 35, 3) := by decide +kernel
theorem d_Mo_rowsOf_20 : decode b_Mo_rowsOf 20 = .ok (.iadd, 1) := by decide +kernel
theorem d_Mo_rowsOf_21 : decode b_Mo_rowsOf 21 = .ok (.iconst 1, 1) := by decide +kernel
theorem d_Mo_rowsOf_22 : decode b_Mo_rowsOf 22 = .ok (.isub, 1) := by decide +kernel
theorem d_Mo_rowsOf_23 : decode b_Mo_rowsOf 23 = .ok (.aload_n 0, 1) := by decide +kernel
theorem d_Mo_rowsOf_24 : decode b_Mo_rowsOf 24 = .ok (.getfield 35, 3) := by decide +kernel
theorem d_Mo_rowsOf_27 : decode b_Mo_rowsOf 27 = .ok (.idiv, 1) := by decide +kernel
theorem d_Mo_rowsOf_28 : decode b_Mo_rowsOf 28 = .ok (.i2l, 1) := by decide +kernel
theorem d_Mo_rowsOf_29 : decode b_Mo_rowsOf 29 = .ok (.lmul, 1) := by decide +kernel
theorem d_Mo_rowsOf_30 : decode b_Mo_rowsOf 30 = .ok (.lstore_n 2, 1) := by decide +kernel
theorem d_Mo_rowsOf_31 : decode b_Mo_rowsOf 31 = .ok (.iinc 4 1, 3) := by decide +kernel
theorem d_Mo_rowsOf_34 : decode b_Mo_rowsOf 34 = .ok (.goto (-29), 3) := by decide +kernel
theorem d_Mo_rowsOf_37 : decode b_Mo_rowsOf 37 = .ok (.lload_n 2, 1) := by decide +kernel
theorem d_Mo_rowsOf_38 : decode b_Mo_rowsOf 38 = .ok (.lreturn, 1) := by decide +kernel
theorem d_Mo_allRows_0 : decode b_Mo_allRows 0 = .ok (.lconst 0, 1) := by decide +kernel
theorem d_Mo_allRows_1 : decode b_Mo_allRows 1 = .ok (.lstore_n 1, 1) := by decide +kernel
theorem d_Mo_allRows_2 : decode b_Mo_allRows 2 = .ok (.aload_n 0, 1) := by decide +kernel
theorem d_Mo_allRows_3 : decode b_Mo_allRows 3 = .ok (.getfield 25, 3) := by decide +kernel
theorem d_Mo_allRows_6 : decode b_Mo_allRows 6 = .ok (.istore_n 3, 1) := by decide +kernel
theorem d_Mo_allRows_7 : decode b_Mo_allRows 7 = .ok (.iload_n 3, 1) := by decide +kernel
theorem d_Mo_allRows_8 : decode b_Mo_allRows 8 = .ok (.aload_n 0, 1) := by decide +kernel
theorem d_Mo_allRows_9 : decode b_Mo_allRows 9 = .ok (.getfield 29, 3) := by decide +kernel
theorem d_Mo_allRows_12 : decode b_Mo_allRows 12 = .ok (.if_icmp .gt 33, 3) := by decide +kernel
theorem d_Mo_allRows_15 : decode b_Mo_allRows 15 = .ok (.lload_n 1, 1) := by decide +kernel
theorem d_Mo_allRows_16 : decode b_Mo_allRows 16 = .ok (.aload_n 0, 1) := by decide +kernel
theorem d_Mo_allRows_17 : decode b_Mo_allRows 17 = .ok (.iload_n 3, 1) := by decide +kernel
theorem d_Mo_allRows_18 : decode b_Mo_allRows 18 = .ok (.invokevirtual 104, 3) := by decide +kernel
theorem d_Mo_allRows_21 : decode b_Mo_allRows 21 = .ok (.ifCond .eq 11, 3) := by decide +kernel
theorem d_Mo_allRows_24 : decode b_Mo_allRows 24 = .ok (.aload_n 0, 1) := by decide +kernel
theorem d_Mo_allRows_25 : decode b_Mo_allRows 25 = .ok (.iload_n 3, 1) := by decide +kernel
theorem d_Mo_allRows_26 : decode b_Mo_allRows 26 = .ok (.invokevirtual 107, 3) := by decide +kernel
theorem d_Mo_allRows_29 : decode b_Mo_allRows 29 = .ok (.goto 4, 3) := by decide +kernel
theorem d_Mo_allRows_32 : decode b_Mo_allRows 32 = .ok (.lconst 0, 1) := by decide +kernel
theorem d_Mo_allRows_33 : decode b_Mo_allRows 33 = .ok (.ladd, 1) := by decide +kernel
theorem d_Mo_allRows_34 : decode b_Mo_allRows 34 = .ok (.lstore_n 1, 1) := by decide +kernel
theorem d_Mo_allRows_35 : decode b_Mo_allRows 35 = .ok (.iload_n 3, 1) := by decide +kernel
theorem d_Mo_allRows_36 : decode b_Mo_allRows 36 = .ok (.aload_n 0, 1) := by decide +kernel
theorem d_Mo_allRows_37 : decode b_Mo_allRows 37 = .ok (.getfield 32, 3) := by decide +kernel
theorem d_Mo_allRows_40 : decode b_Mo_allRows 40 = .ok (.iadd, 1) := by decide +kernel
theorem d_Mo_allRows_41 : decode b_Mo_allRows 41 = .ok (.istore_n 3, 1) := by decide +kernel
theorem d_Mo_allRows_42 : decode b_Mo_allRows 42 = .ok (.goto (-35), 3) := by decide +kernel
theorem d_Mo_allRows_45 : decode b_Mo_allRows 45 = .ok (.aload_n 0, 1) := by decide +kernel
theorem d_Mo_allRows_46 : decode b_Mo_allRows 46 = .ok (.getfield 66, 3) := by decide +kernel
theorem d_Mo_allRows_49 : decode b_Mo_allRows 49 = .ok (.ifCond .ne 7, 3) := by decide +kernel
theorem d_Mo_allRows_52 : decode b_Mo_allRows 52 = .ok (.lconst 0, 1) := by decide +kernel
theorem d_Mo_allRows_53 : decode b_Mo_allRows 53 = .ok (.goto 4, 3) := by decide +kernel
theorem d_Mo_allRows_56 : decode b_Mo_allRows 56 = .ok (.lload_n 1, 1) := by decide +kernel
theorem d_Mo_allRows_57 : decode b_Mo_allRows 57 = .ok (.lreturn, 1) := by decide +kernel
theorem d_Mo_goesOn_0 : decode b_Mo_goesOn 0 = .ok (.aload_n 0, 1) := by decide +kernel
theorem d_Mo_goesOn_1 : decode b_Mo_goesOn 1 = .ok (.getfield 66, 3) := by decide +kernel
theorem d_Mo_goesOn_4 : decode b_Mo_goesOn 4 = .ok (.iconst 1, 1) := by decide +kernel
theorem d_Mo_goesOn_5 : decode b_Mo_goesOn 5 = .ok (.isub, 1) := by decide +kernel
theorem d_Mo_goesOn_6 : decode b_Mo_goesOn 6 = .ok (.istore_n 2, 1) := by decide +kernel
theorem d_Mo_goesOn_7 : decode b_Mo_goesOn 7 = .ok (.iload_n 2, 1) := by decide +kernel
theorem d_Mo_goesOn_8 : decode b_Mo_goesOn 8 = .ok (.ifCond .le 38, 3) := by decide +kernel
theorem d_Mo_goesOn_11 : decode b_Mo_goesOn 11 = .ok (.aload_n 0, 1) := by decide +kernel
theorem d_Mo_goesOn_12 : decode b_Mo_goesOn 12 = .ok (.getfield 41, 3) := by decide +kernel
theorem d_Mo_goesOn_15 : decode b_Mo_goesOn 15 = .ok (.iload_n 2, 1) := by decide +kernel
theorem d_Mo_goesOn_16 : decode b_Mo_goesOn 16 = .ok (.iaload, 1) := by decide +kernel
theorem d_Mo_goesOn_17 : decode b_Mo_goesOn 17 = .ok (.aload_n 0, 1) := by decide +kernel
theorem d_Mo_goesOn_18 : decode b_Mo_goesOn 18 = .ok (.getfield 35, 3) := by decide +kernel
theorem d_Mo_goesOn_21 : decode b_Mo_goesOn 21 = .ok (.iadd, 1) := by decide +kernel
theorem d_Mo_goesOn_22 : decode b_Mo_goesOn 22 = .ok (.iload_n 1, 1) := by decide +kernel
theorem d_Mo_goesOn_23 : decode b_Mo_goesOn 23 = .ok (.if_icmp .lt 23, 3) := by decide +kernel
theorem d_Mo_goesOn_26 : decode b_Mo_goesOn 26 = .ok (.aload_n 0, 1) := by decide +kernel
theorem d_Mo_goesOn_27 : decode b_Mo_goesOn 27 = .ok (.getfield 41, 3) := by decide +kernel
theorem d_Mo_goesOn_30 : decode b_Mo_goesOn 30 = .ok (.iload_n 2, 1) := by decide +kernel
theorem d_Mo_goesOn_31 : decode b_Mo_goesOn 31 = .ok (.iconst 0, 1) := by decide +kernel
theorem d_Mo_goesOn_32 : decode b_Mo_goesOn 32 = .ok (.iastore, 1) := by decide +kernel
theorem d_Mo_goesOn_33 : decode b_Mo_goesOn 33 = .ok (.aload_n 0, 1) := by decide +kernel
theorem d_Mo_goesOn_34 : decode b_Mo_goesOn 34 = .ok (.iload_n 2, 1) := by decide +kernel
theorem d_Mo_goesOn_35 : decode b_Mo_goesOn 35 = .ok (.iconst 0, 1) := by decide +kernel
theorem d_Mo_goesOn_36 : decode b_Mo_goesOn 36 = .ok (.iload_n 1, 1) := by decide +kernel
theorem d_Mo_goesOn_37 : decode b_Mo_goesOn 37 = .ok (.invokevirtual 100, 3) := by decide +kernel
theorem d_Mo_goesOn_40 : decode b_Mo_goesOn 40 = .ok (.iinc 2 (-1), 3) := by decide +kernel
theorem d_Mo_goesOn_43 : decode b_Mo_goesOn 43 = .ok (.goto (-36), 3) := by decide +kernel
theorem d_Mo_goesOn_46 : decode b_Mo_goesOn 46 = .ok (.iload_n 2, 1) := by decide +kernel
theorem d_Mo_goesOn_47 : decode b_Mo_goesOn 47 = .ok (.ifCond .ne 5, 3) := by decide +kernel
theorem d_Mo_goesOn_50 : decode b_Mo_goesOn 50 = .ok (.iconst 0, 1) := by decide +kernel
theorem d_Mo_goesOn_51 : decode b_Mo_goesOn 51 = .ok (.ireturn, 1) := by decide +kernel
theorem d_Mo_goesOn_52 : decode b_Mo_goesOn 52 = .ok (.aload_n 0, 1) := by decide +kernel
theorem d_Mo_goesOn_53 : decode b_Mo_goesOn 53 = .ok (.getfield 41, 3) := by decide +kernel
theorem d_Mo_goesOn_56 : decode b_Mo_goesOn 56 = .ok (.iload_n 2, 1) := by decide +kernel
theorem d_Mo_goesOn_57 : decode b_Mo_goesOn 57 = .ok (.dup2, 1) := by decide +kernel
theorem d_Mo_goesOn_58 : decode b_Mo_goesOn 58 = .ok (.iaload, 1) := by decide +kernel
theorem d_Mo_goesOn_59 : decode b_Mo_goesOn 59 = .ok (.aload_n 0, 1) := by decide +kernel
theorem d_Mo_goesOn_60 : decode b_Mo_goesOn 60 = .ok (.getfield 35, 3) := by decide +kernel
theorem d_Mo_goesOn_63 : decode b_Mo_goesOn 63 = .ok (.iadd, 1) := by decide +kernel
theorem d_Mo_goesOn_64 : decode b_Mo_goesOn 64 = .ok (.iastore, 1) := by decide +kernel
theorem d_Mo_goesOn_65 : decode b_Mo_goesOn 65 = .ok (.aload_n 0, 1) := by decide +kernel
theorem d_Mo_goesOn_66 : decode b_Mo_goesOn 66 = .ok (.iload_n 2, 1) := by decide +kernel
theorem d_Mo_goesOn_67 : decode b_Mo_goesOn 67 = .ok (.aload_n 0, 1) := by decide +kernel
theorem d_Mo_goesOn_68 : decode b_Mo_goesOn 68 = .ok (.getfield 41, 3) := by decide +kernel
theorem d_Mo_goesOn_71 : decode b_Mo_goesOn 71 = .ok (.iload_n 2, 1) := by decide +kernel
theorem d_Mo_goesOn_72 : decode b_Mo_goesOn 72 = .ok (.iaload, 1) := by decide +kernel
theorem d_Mo_goesOn_73 : decode b_Mo_goesOn 73 = .ok (.iload_n 1, 1) := by decide +kernel
theorem d_Mo_goesOn_74 : decode b_Mo_goesOn 74 = .ok (.invokevirtual 100, 3) := by decide +kernel
theorem d_Mo_goesOn_77 : decode b_Mo_goesOn 77 = .ok (.iconst 1, 1) := by decide +kernel
theorem d_Mo_goesOn_78 : decode b_Mo_goesOn 78 = .ok (.ireturn, 1) := by decide +kernel
theorem d_Mo_worth_0 : decode b_Mo_worth 0 = .ok (.iload_n 2, 1) := by decide +kernel
theorem d_Mo_worth_1 : decode b_Mo_worth 1 = .ok (.ifCond .ne 35, 3) := by decide +kernel
theorem d_Mo_worth_4 : decode b_Mo_worth 4 = .ok (.aload_n 0, 1) := by decide +kernel
theorem d_Mo_worth_5 : decode b_Mo_worth 5 = .ok (.iconst 0, 1) := by decide +kernel
theorem d_Mo_worth_6 : decode b_Mo_worth 6 = .ok (.iload_n 1, 1) := by decide +kernel
theorem d_Mo_worth_7 : decode b_Mo_worth 7 = .ok (.invokevirtual 111, 3) := by decide +kernel
theorem d_Mo_worth_10 : decode b_Mo_worth 10 = .ok (.i2l, 1) := by decide +kernel
theorem d_Mo_worth_11 : decode b_Mo_worth 11 = .ok (.aload_n 0, 1) := by decide +kernel
theorem d_Mo_worth_12 : decode b_Mo_worth 12 = .ok (.iconst 0, 1) := by decide +kernel
theorem d_Mo_worth_13 : decode b_Mo_worth 13 = .ok (.invokevirtual 115, 3) := by decide +kernel
theorem d_Mo_worth_16 : decode b_Mo_worth 16 = .ok (.i2l, 1) := by decide +kernel
theorem d_Mo_worth_17 : decode b_Mo_worth 17 = .ok (.lmul, 1) := by decide +kernel
theorem d_Mo_worth_18 : decode b_Mo_worth 18 = .ok (.aload_n 0, 1) := by decide +kernel
theorem d_Mo_worth_19 : decode b_Mo_worth 19 = .ok (.iconst 1, 1) := by decide +kernel
theorem d_Mo_worth_20 : decode b_Mo_worth 20 = .ok (.iload_n 1, 1) := by decide +kernel
theorem d_Mo_worth_21 : decode b_Mo_worth 21 = .ok (.invokevirtual 111, 3) := by decide +kernel
theorem d_Mo_worth_24 : decode b_Mo_worth 24 = .ok (.i2l, 1) := by decide +kernel
theorem d_Mo_worth_25 : decode b_Mo_worth 25 = .ok (.aload_n 0, 1) := by decide +kernel
theorem d_Mo_worth_26 : decode b_Mo_worth 26 = .ok (.iconst 1, 1) := by decide +kernel
theorem d_Mo_worth_27 : decode b_Mo_worth 27 = .ok (.invokevirtual 115, 3) := by decide +kernel
theorem d_Mo_worth_30 : decode b_Mo_worth 30 = .ok (.i2l, 1) := by decide +kernel
theorem d_Mo_worth_31 : decode b_Mo_worth 31 = .ok (.lmul, 1) := by decide +kernel
theorem d_Mo_worth_32 : decode b_Mo_worth 32 = .ok (.ladd, 1) := by decide +kernel
theorem d_Mo_worth_33 : decode b_Mo_worth 33 = .ok (.goto 9, 3) := by decide +kernel
theorem d_Mo_worth_36 : decode b_Mo_worth 36 = .ok (.aload_n 0, 1) := by decide +kernel
theorem d_Mo_worth_37 : decode b_Mo_worth 37 = .ok (.iload_n 1, 1) := by decide +kernel
theorem d_Mo_worth_38 : decode b_Mo_worth 38 = .ok (.invokevirtual 119, 3) := by decide +kernel
theorem d_Mo_worth_41 : decode b_Mo_worth 41 = .ok (.i2l, 1) := by decide +kernel
theorem d_Mo_worth_42 : decode b_Mo_worth 42 = .ok (.lreturn, 1) := by decide +kernel
set_option maxRecDepth 50000 in
theorem lk_415 : Cond.fieldLink R_Mo 66 "WaveOffsetsModel" "crossings" "I" ∈ lw_good := List.mem_filter.mpr ⟨List.mem_append_right _ (List.mem_of_getElem? (i := 615) (by decide +kernel)), rfl⟩
set_option maxRecDepth 50000 in
theorem lk_416 : Cond.methodLink R_Mo 69 y_Mo_isIn ∈ lw_good := List.mem_filter.mpr ⟨List.mem_append_right _ (List.mem_of_getElem? (i := 695) (by decide +kernel)), rfl⟩
set_option maxRecDepth 50000 in
theorem lk_417 : Cond.code y_Mo_isIn b_Mo_isIn 6 (some .boolean) ∈ lw_good := List.mem_filter.mpr ⟨List.mem_append_right _ (List.mem_of_getElem? (i := 697) rfl), rfl⟩
set_option maxRecDepth 50000 in
theorem lk_418 : Cond.static y_Mo_isIn ∈ lw_good := List.mem_filter.mpr ⟨List.mem_append_right _ (List.mem_of_getElem? (i := 696) (by decide +kernel)), rfl⟩
set_option maxRecDepth 50000 in
theorem lk_419 : Cond.initialized R_Mo ∈ lw_good := List.mem_filter.mpr ⟨List.mem_append_right _ (List.mem_of_getElem? (i := 10) (by decide +kernel)), rfl⟩
set_option maxRecDepth 50000 in
theorem lk_420 : Cond.constantLong R_Mo 73 5 ∈ lw_good := List.mem_filter.mpr ⟨List.mem_append_right _ (List.mem_of_getElem? (i := 693) (by decide +kernel)), rfl⟩
set_option maxRecDepth 50000 in
theorem lk_421 : Cond.constantLong R_Mo 75 90 ∈ lw_good := List.mem_filter.mpr ⟨List.mem_append_right _ (List.mem_of_getElem? (i := 694) (by decide +kernel)), rfl⟩
set_option maxRecDepth 50000 in
theorem lk_422 : Cond.constantLong R_Mo 77 10 ∈ lw_good := List.mem_filter.mpr ⟨List.mem_append_right _ (List.mem_of_getElem? (i := 698) (by decide +kernel)), rfl⟩
set_option maxRecDepth 50000 in
theorem lk_423 : Cond.constantLong R_Mo 79 120 ∈ lw_good := List.mem_filter.mpr ⟨List.mem_append_right _ (List.mem_of_getElem? (i := 699) (by decide +kernel)), rfl⟩
set_option maxRecDepth 50000 in
theorem lk_424 : Cond.fieldLink R_Mo 7 "WaveOffsetsModel" "greens" "[I" ∈ lw_good := List.mem_filter.mpr ⟨List.mem_append_right _ (List.mem_of_getElem? (i := 616) (by decide +kernel)), rfl⟩
set_option maxRecDepth 50000 in
theorem lk_425 : Cond.fieldLink R_Mo 13 "WaveOffsetsModel" "leasts" "[I" ∈ lw_good := List.mem_filter.mpr ⟨List.mem_append_right _ (List.mem_of_getElem? (i := 617) (by decide +kernel)), rfl⟩
set_option maxRecDepth 50000 in
theorem lk_426 : Cond.fieldLink R_Mo 16 "WaveOffsetsModel" "queues" "[I" ∈ lw_good := List.mem_filter.mpr ⟨List.mem_append_right _ (List.mem_of_getElem? (i := 618) (by decide +kernel)), rfl⟩
set_option maxRecDepth 50000 in
theorem lk_427 : Cond.fieldLink R_Mo 81 "WaveOffsetsModel" "has" "Z" ∈ lw_good := List.mem_filter.mpr ⟨List.mem_append_right _ (List.mem_of_getElem? (i := 625) (by decide +kernel)), rfl⟩
set_option maxRecDepth 50000 in
theorem lk_428 : Cond.fieldLink R_Mo 19 "WaveOffsetsModel" "seconds" "[I" ∈ lw_good := List.mem_filter.mpr ⟨List.mem_append_right _ (List.mem_of_getElem? (i := 619) (by decide +kernel)), rfl⟩
set_option maxRecDepth 50000 in
theorem lk_429 : Cond.fieldLink R_Mo 22 "WaveOffsetsModel" "weights" "[I" ∈ lw_good := List.mem_filter.mpr ⟨List.mem_append_right _ (List.mem_of_getElem? (i := 620) (by decide +kernel)), rfl⟩
set_option maxRecDepth 50000 in
theorem lk_430 : Cond.methodLink R_Mo 85 y_Mo_isCrossing ∈ lw_good := List.mem_filter.mpr ⟨List.mem_append_right _ (List.mem_of_getElem? (i := 704) (by decide +kernel)), rfl⟩
set_option maxRecDepth 50000 in
theorem lk_431 : Cond.code y_Mo_isCrossing b_Mo_isCrossing 2 (some .boolean) ∈ lw_good := List.mem_filter.mpr ⟨List.mem_append_right _ (List.mem_of_getElem? (i := 707) rfl), rfl⟩
set_option maxRecDepth 50000 in
theorem lk_432 : Cond.instanceMethod y_Mo_isCrossing ∈ lw_good := List.mem_filter.mpr ⟨List.mem_append_right _ (List.mem_of_getElem? (i := 706) (by decide +kernel)), rfl⟩
set_option maxRecDepth 50000 in
theorem lk_433 : Cond.selects R_Mo y_Mo_isCrossing y_Mo_isCrossing ∈ lw_good := List.mem_filter.mpr ⟨List.mem_append_left _ (List.mem_of_getElem? (i := 10) (by decide +kernel)), rfl⟩
set_option maxRecDepth 50000 in
theorem lk_434 : Cond.constantLong R_Mo 89 200 ∈ lw_good := List.mem_filter.mpr ⟨List.mem_append_right _ (List.mem_of_getElem? (i := 708) (by decide +kernel)), rfl⟩
set_option maxRecDepth 50000 in
theorem lk_435 : Cond.constantLong R_Mo 91 100 ∈ lw_good := List.mem_filter.mpr ⟨List.mem_append_right _ (List.mem_of_getElem? (i := 709) (by decide +kernel)), rfl⟩
set_option maxRecDepth 50000 in
theorem lk_436 : Cond.constantLong R_Mo 93 110 ∈ lw_good := List.mem_filter.mpr ⟨List.mem_append_right _ (List.mem_of_getElem? (i := 714) (by decide +kernel)), rfl⟩
set_option maxRecDepth 50000 in
theorem lk_437 : Cond.fieldLink R_Mo 25 "WaveOffsetsModel" "first" "I" ∈ lw_good := List.mem_filter.mpr ⟨List.mem_append_right _ (List.mem_of_getElem? (i := 621) (by decide +kernel)), rfl⟩
set_option maxRecDepth 50000 in
theorem lk_438 : Cond.fieldLink R_Mo 29 "WaveOffsetsModel" "last" "I" ∈ lw_good := List.mem_filter.mpr ⟨List.mem_append_right _ (List.mem_of_getElem? (i := 622) (by decide +kernel)), rfl⟩
set_option maxRecDepth 50000 in
theorem lk_439 : Cond.fieldLink R_Mo 32 "WaveOffsetsModel" "by" "I" ∈ lw_good := List.mem_filter.mpr ⟨List.mem_append_right _ (List.mem_of_getElem? (i := 623) (by decide +kernel)), rfl⟩
set_option maxRecDepth 50000 in
theorem lk_440 : Cond.constantLong R_Mo 95 60 ∈ lw_good := List.mem_filter.mpr ⟨List.mem_append_right _ (List.mem_of_getElem? (i := 719) (by decide +kernel)), rfl⟩
set_option maxRecDepth 50000 in
theorem lk_441 : Cond.fieldLink R_Mo 35 "WaveOffsetsModel" "step" "I" ∈ lw_good := List.mem_filter.mpr ⟨List.mem_append_right _ (List.mem_of_getElem? (i := 624) (by decide +kernel)), rfl⟩
set_option maxRecDepth 50000 in
theorem lk_442 : Cond.fieldLink R_Mo 44 "WaveOffsetsModel" "open" "[Z" ∈ lw_good := List.mem_filter.mpr ⟨List.mem_append_right _ (List.mem_of_getElem? (i := 631) (by decide +kernel)), rfl⟩
set_option maxRecDepth 50000 in
theorem lk_443 : Cond.fieldLink R_Mo 38 "WaveOffsetsModel" "offsets" "[I" ∈ lw_good := List.mem_filter.mpr ⟨List.mem_append_right _ (List.mem_of_getElem? (i := 629) (by decide +kernel)), rfl⟩
set_option maxRecDepth 50000 in
theorem lk_444 : Cond.fieldLink R_Mo 97 "WaveOffsetsModel" "cycle" "I" ∈ lw_good := List.mem_filter.mpr ⟨List.mem_append_right _ (List.mem_of_getElem? (i := 626) (by decide +kernel)), rfl⟩
set_option maxRecDepth 50000 in
theorem lk_445 : Cond.methodLink R_Mo 100 y_Mo_lay ∈ lw_good := List.mem_filter.mpr ⟨List.mem_append_right _ (List.mem_of_getElem? (i := 741) (by decide +kernel)), rfl⟩
set_option maxRecDepth 50000 in
theorem lk_446 : Cond.code y_Mo_lay b_Mo_lay 6 none ∈ lw_good := List.mem_filter.mpr ⟨List.mem_append_right _ (List.mem_of_getElem? (i := 744) rfl), rfl⟩
set_option maxRecDepth 50000 in
theorem lk_447 : Cond.instanceMethod y_Mo_lay ∈ lw_good := List.mem_filter.mpr ⟨List.mem_append_right _ (List.mem_of_getElem? (i := 743) (by decide +kernel)), rfl⟩
set_option maxRecDepth 50000 in
theorem lk_448 : Cond.selects R_Mo y_Mo_lay y_Mo_lay ∈ lw_good := List.mem_filter.mpr ⟨List.mem_append_left _ (List.mem_of_getElem? (i := 14) (by decide +kernel)), rfl⟩
set_option maxRecDepth 50000 in
theorem lk_449 : Cond.methodLink R_Mo 104 y_Mo_mayBe ∈ lw_good := List.mem_filter.mpr ⟨List.mem_append_right _ (List.mem_of_getElem? (i := 733) (by decide +kernel)), rfl⟩
set_option maxRecDepth 50000 in
theorem lk_450 : Cond.code y_Mo_mayBe b_Mo_mayBe 4 (some .boolean) ∈ lw_good := List.mem_filter.mpr ⟨List.mem_append_right _ (List.mem_of_getElem? (i := 736) rfl), rfl⟩
set_option maxRecDepth 50000 in
theorem lk_451 : Cond.instanceMethod y_Mo_mayBe ∈ lw_good := List.mem_filter.mpr ⟨List.mem_append_right _ (List.mem_of_getElem? (i := 735) (by decide +kernel)), rfl⟩
set_option maxRecDepth 50000 in
theorem lk_452 : Cond.selects R_Mo y_Mo_mayBe y_Mo_mayBe ∈ lw_good := List.mem_filter.mpr ⟨List.mem_append_left _ (List.mem_of_getElem? (i := 12) (by decide +kernel)), rfl⟩
set_option maxRecDepth 50000 in
theorem lk_453 : Cond.methodLink R_Mo 107 y_Mo_rowsOf ∈ lw_good := List.mem_filter.mpr ⟨List.mem_append_right _ (List.mem_of_getElem? (i := 737) (by decide +kernel)), rfl⟩
set_option maxRecDepth 50000 in
theorem lk_454 : Cond.code y_Mo_rowsOf b_Mo_rowsOf 5 (some .long) ∈ lw_good := List.mem_filter.mpr ⟨List.mem_append_right _ (List.mem_of_getElem? (i := 740) rfl), rfl⟩
set_option maxRecDepth 50000 in
theorem lk_455 : Cond.instanceMethod y_Mo_rowsOf ∈ lw_good := List.mem_filter.mpr ⟨List.mem_append_right _ (List.mem_of_getElem? (i := 739) (by decide +kernel)), rfl⟩
set_option maxRecDepth 50000 in
theorem lk_456 : Cond.selects R_Mo y_Mo_rowsOf y_Mo_rowsOf ∈ lw_good := List.mem_filter.mpr ⟨List.mem_append_left _ (List.mem_of_getElem? (i := 13) (by decide +kernel)), rfl⟩
set_option maxRecDepth 50000 in
theorem lk_457 : Cond.fieldLink R_Mo 41 "WaveOffsetsModel" "row" "[I" ∈ lw_good := List.mem_filter.mpr ⟨List.mem_append_right _ (List.mem_of_getElem? (i := 630) (by decide +kernel)), rfl⟩
set_option maxRecDepth 50000 in
theorem lk_458 : Cond.methodLink R_Mo 119 y_Mo_stopsOf ∈ lw_good := List.mem_filter.mpr ⟨List.mem_append_right _ (List.mem_of_getElem? (i := 757) (by decide +kernel)), rfl⟩
set_option maxRecDepth 50000 in
theorem lk_459 : Cond.code y_Mo_stopsOf b_Mo_stopsOf 5 (some .int) ∈ lw_good := List.mem_filter.mpr ⟨List.mem_append_right _ (List.mem_of_getElem? (i := 760) rfl), rfl⟩
set_option maxRecDepth 50000 in
theorem lk_460 : Cond.instanceMethod y_Mo_stopsOf ∈ lw_good := List.mem_filter.mpr ⟨List.mem_append_right _ (List.mem_of_getElem? (i := 759) (by decide +kernel)), rfl⟩
set_option maxRecDepth 50000 in
theorem lk_461 : Cond.selects R_Mo y_Mo_stopsOf y_Mo_stopsOf ∈ lw_good := List.mem_filter.mpr ⟨List.mem_append_left _ (List.mem_of_getElem? (i := 18) (by decide +kernel)), rfl⟩
set_option maxRecDepth 50000 in
theorem lk_462 : Cond.methodLink R_Mo 111 y_Mo_band ∈ lw_good := List.mem_filter.mpr ⟨List.mem_append_right _ (List.mem_of_getElem? (i := 749) (by decide +kernel)), rfl⟩
set_option maxRecDepth 50000 in
theorem lk_463 : Cond.code y_Mo_band b_Mo_band 9 (some .int) ∈ lw_good := List.mem_filter.mpr ⟨List.mem_append_right _ (List.mem_of_getElem? (i := 752) rfl), rfl⟩
set_option maxRecDepth 50000 in
theorem lk_464 : Cond.instanceMethod y_Mo_band ∈ lw_good := List.mem_filter.mpr ⟨List.mem_append_right _ (List.mem_of_getElem? (i := 751) (by decide +kernel)), rfl⟩
set_option maxRecDepth 50000 in
theorem lk_465 : Cond.selects R_Mo y_Mo_band y_Mo_band ∈ lw_good := List.mem_filter.mpr ⟨List.mem_append_left _ (List.mem_of_getElem? (i := 16) (by decide +kernel)), rfl⟩
set_option maxRecDepth 50000 in
theorem lk_466 : Cond.methodLink R_Mo 115 y_Mo_weightOf ∈ lw_good := List.mem_filter.mpr ⟨List.mem_append_right _ (List.mem_of_getElem? (i := 753) (by decide +kernel)), rfl⟩
set_option maxRecDepth 50000 in
theorem lk_467 : Cond.code y_Mo_weightOf b_Mo_weightOf 4 (some .int) ∈ lw_good := List.mem_filter.mpr ⟨List.mem_append_right _ (List.mem_of_getElem? (i := 756) rfl), rfl⟩
set_option maxRecDepth 50000 in
theorem lk_468 : Cond.instanceMethod y_Mo_weightOf ∈ lw_good := List.mem_filter.mpr ⟨List.mem_append_right _ (List.mem_of_getElem? (i := 755) (by decide +kernel)), rfl⟩
set_option maxRecDepth 50000 in
theorem lk_469 : Cond.selects R_Mo y_Mo_weightOf y_Mo_weightOf ∈ lw_good := List.mem_filter.mpr ⟨List.mem_append_left _ (List.mem_of_getElem? (i := 17) (by decide +kernel)), rfl⟩
def p_Mo_isIn (n : Nat) (x0 : Int64) (x2 : Int64) (x4 : Int64) : Option (Int32) :=
  if (lg_cmp x0 x2) < 0 then
    some (0 : Int32)
  else
    if 0 < (lg_cmp x0 x4) then
      some (0 : Int32)
    else
      some (1 : Int32)
abbrev m_Mo_isIn : Room := { frames := 0, cells := 0, slots := 0, locals := 0 }
set_option maxHeartbeats 4000000 in
set_option maxRecDepth 100000 in
theorem c_Mo_isIn (l : Launch) (G : va_G) (K : Nat → ClassId) (n : Nat) (x0 : Int64) (x2 : Int64) (x4 : Int64) (o : Int32) (hF : p_Mo_isIn n x0 x2 x4 = some o) :
    Met l y_Mo_isIn (wd y_Mo_isIn b_Mo_isIn 6 (some .boolean)) m_Mo_isIn (dk_Pp [.long x0, .long x2, .long x4] G K []) (dk_Qp (some (.int o))) 0 0 (fun _ => False) := by
  refine Met.ofW (cc := b_Mo_isIn) (maxL := 6) (ret := (some .boolean)) (by decide) rfl ?_
  intro p e s m args below meth c s₁ B hml hv
  obtain ⟨rfl, hP, hK, hN⟩ := hv
  have hx := B.exec
  have hb := B.bytes
  have hr := B.returns
  have hts : ∀ w ∈ lw_good, w.before _ s = true := fun w h => atoms_spec (ws := wd y_Mo_isIn b_Mo_isIn 6 (some .boolean)) B.pre w (List.mem_cons_of_mem _ h)
  have hown : s.vm.findClass R_Mo = some m.cls := findClass_of_methodNamed B.named
  have hlocks := B.notSynchronized
  have hfix : CallFix p m c b_Mo_isIn 6 s _ lw_good R_Mo := ⟨hx, hb, hml, hown, hts⟩
  have hl := lv_entry ([.long x0, .long x2, .long x4]) (n := 6) (Nat.le_of_ble_eq_true rfl)
  rw [lg_entry_eq]
  generalize (lg_sl ([.long x0, .long x2, .long x4]) ++ List.replicate (6 - (lg_sl ([.long x0, .long x2, .long x4])).length) Slot.unset).toArray = ls at hl ⊢
  have hl : lv_has ls 6 [(0, .long x0), (2, .long x2), (4, .long x4)] := hl
  change W p l e m_Mo_isIn s m _ below meth c s.heap [] 0 0 _ _
  unfold p_Mo_isIn at hF
  refine lv_lload_n hx hb d_Mo_isIn_0 rfl (lv_at hl 0 rfl) ?_
  refine lv_lload_n hx hb d_Mo_isIn_1 rfl (lv_at hl 1 rfl) ?_
  refine W.lcmp hx hb d_Mo_isIn_2 ?_
  refine lv_if_lt (tgt := 17) hx hb d_Mo_isIn_3 (by decide) (fun c3_1 => ?_) (fun c3_1 => ?_)
  · have hF := dk_t c3_1 hF
    refine lv_iconst (v := (0 : Int32)) hx hb d_Mo_isIn_17 (by decide) ?_
    obtain rfl := Option.some.inj hF
    exact W.zret (v := (0 : Int32)) hx hb hr rfl (fun t ht hW => ⟨rfl, ht⟩) (fun _ h => by cases h) d_Mo_isIn_18
  · have hF := dk_f c3_1 hF
    refine lv_lload_n hx hb d_Mo_isIn_6 rfl (lv_at hl 0 rfl) ?_
    refine lv_lload hx hb d_Mo_isIn_7 (lv_at hl 2 rfl) ?_
    refine W.lcmp hx hb d_Mo_isIn_9 ?_
    refine lv_if_gt (tgt := 17) hx hb d_Mo_isIn_10 (by decide) (fun c10_2 => ?_) (fun c10_2 => ?_)
    · have hF := dk_t c10_2 hF
      refine lv_iconst (v := (0 : Int32)) hx hb d_Mo_isIn_17 (by decide) ?_
      obtain rfl := Option.some.inj hF
      exact W.zret (v := (0 : Int32)) hx hb hr rfl (fun t ht hW => ⟨rfl, ht⟩) (fun _ h => by cases h) d_Mo_isIn_18
    · have hF := dk_f c10_2 hF
      refine lv_iconst (v := (1 : Int32)) hx hb d_Mo_isIn_13 (by decide) ?_
      refine lv_goto (tgt := 18) hx hb d_Mo_isIn_14 (by decide) ?_
      obtain rfl := Option.some.inj hF
      exact W.zret (v := (1 : Int32)) hx hb hr rfl (fun t ht hW => ⟨rfl, ht⟩) (fun _ h => by cases h) d_Mo_isIn_18
def p_Mo_isCrossing (n : Nat) (x1 : Int32) (v_t_crossings : Int32) : Option (Int32) :=
  (p_Mo_isIn n x1.toInt64 (0 : Int64) (v_t_crossings.toInt64 - (1 : Int64))).bind fun r10_1 =>
  if dk_bool r10_1 = true then
    some r10_1
  else none
abbrev m_Mo_isCrossing : Room := { frames := 1, cells := 0, slots := 0, locals := 25 }
set_option maxHeartbeats 4000000 in
set_option maxRecDepth 100000 in
theorem c_Mo_isCrossing (l : Launch) (G : va_G) (K : Nat → ClassId) (n : Nat) (t : Nat) (t_greens : Nat) (t_leasts : Nat) (t_queues : Nat) (t_seconds : Nat) (t_weights : Nat) (t_offsets : Nat) (t_row : Nat) (t_open : Nat) (t_places : Nat) (t_times : Nat) (t_cars : Nat) (t_hourCrossings : Nat) (t_hourCycles : Nat) (t_hourOffsets : Nat) (x1 : Int32) (v_t_crossings : Int32) (v_t_first : Int32) (v_t_last : Int32) (v_t_by : Int32) (v_t_step : Int32) (v_t_has : Int32) (v_t_cycle : Int32) (v_t_aim : Int32) (v_t_proved : Int32) (v_t_arrivals : Int32) (o : Int32) (hF : p_Mo_isCrossing n x1 v_t_crossings = some o) :
    Met l y_Mo_isCrossing (wd y_Mo_isCrossing b_Mo_isCrossing 2 (some .boolean)) m_Mo_isCrossing (dk_Pp [.ref t, .int x1] G K [(t, .inr (8, [.int v_t_crossings, .ref t_greens, .ref t_leasts, .ref t_queues, .ref t_seconds, .ref t_weights, .int v_t_first, .int v_t_last, .int v_t_by, .int v_t_step, .int v_t_has, .int v_t_cycle, .int v_t_aim, .int v_t_proved, .ref t_offsets, .ref t_row, .ref t_open, .int v_t_arrivals, .ref t_places, .ref t_times, .ref t_cars, .ref t_hourCrossings, .ref t_hourCycles, .ref t_hourOffsets]))]) (dk_Qp (some (.int o))) 0 0 (fun _ => False) := by
  refine Met.ofW (cc := b_Mo_isCrossing) (maxL := 2) (ret := (some .boolean)) (by decide) rfl ?_
  intro p e s m args below meth c s₁ B hml hv
  obtain ⟨rfl, hP, hK, hN⟩ := hv
  have hx := B.exec
  have hb := B.bytes
  have hr := B.returns
  have hts : ∀ w ∈ lw_good, w.before _ s = true := fun w h => atoms_spec (ws := wd y_Mo_isCrossing b_Mo_isCrossing 2 (some .boolean)) B.pre w (List.mem_cons_of_mem _ h)
  have hown : s.vm.findClass R_Mo = some m.cls := findClass_of_methodNamed B.named
  have hlocks := B.notSynchronized
  have hfix : CallFix p m c b_Mo_isCrossing 2 s _ lw_good R_Mo := ⟨hx, hb, hml, hown, hts⟩
  have hl := lv_entry ([.ref t, .int x1]) (n := 2) (Nat.le_of_ble_eq_true rfl)
  rw [lg_entry_eq]
  generalize (lg_sl ([.ref t, .int x1]) ++ List.replicate (2 - (lg_sl ([.ref t, .int x1])).length) Slot.unset).toArray = ls at hl ⊢
  have hl : lv_has ls 2 [(0, .ref t), (1, .int x1)] := hl
  change W p l e m_Mo_isCrossing s m _ below meth c s.heap [] 0 0 _ _
  unfold p_Mo_isCrossing at hF
  refine lv_iload_n hx hb d_Mo_isCrossing_0 rfl (lv_at hl 1 rfl) ?_
  refine lv_i2l hx hb d_Mo_isCrossing_1 rfl ?_
  refine lv_lconst (v := (0 : Int64)) hx hb d_Mo_isCrossing_2 (by decide) ?_
  refine lv_aload_n hx hb d_Mo_isCrossing_3 rfl (lv_at hl 0 rfl) ?_
  refine va_get (D := G) (ci := 8) (v := .int v_t_crossings) (C := R_Mo) (T := F_Mo) (N := 24) hx hb hts i_Mo hown hK hP 0 rfl rfl 0 (by decide) (hts _ lk_415) (fun _ h9 => h9) rfl d_Mo_isCrossing_4 ?_
  refine lv_i2l hx hb d_Mo_isCrossing_7 rfl ?_
  refine lv_lconst (v := (1 : Int64)) hx hb d_Mo_isCrossing_8 (by decide) ?_
  refine lv_lsub hx hb d_Mo_isCrossing_9 ?_
  obtain ⟨r10_1, hC, hF⟩ := dk_b hF
  refine dk_pure (va_runS (As := [.long x1.toInt64, .long (0 : Int64), .long (v_t_crossings.toInt64 - (1 : Int64))]) (rest := []) hfix (c_Mo_isIn l G K n x1.toInt64 (0 : Int64) (v_t_crossings.toInt64 - (1 : Int64)) r10_1 hC) (va_cwS 3 hts (gd_S lk_416 lk_418 lk_419 lk_417) rfl rfl rfl (by decide +kernel) ⟨Nat.le_of_ble_eq_true rfl, Nat.le_of_ble_eq_true rfl⟩) (dk_preS hK hN (hP.sub [] rfl)) rfl rfl hl.1 rfl (lv_room (Nat.le_of_ble_eq_true rfl)) d_Mo_isCrossing_10 ⟨Nat.le_of_ble_eq_true rfl, Nat.le_of_ble_eq_true rfl⟩) ?_
  obtain ⟨hbo, hF⟩ := dk_a hF
  obtain rfl := Option.some.inj hF
  exact W.zret (v := r10_1) hx hb hr (dk_bo hbo) (fun t ht hW => ⟨rfl, ht⟩) (fun _ h => by cases h) d_Mo_isCrossing_13
def p_Mo_crossing_82 (n : Nat) : Nat → Int32 → Int32 → (Nat → Int32) → (Nat → Int32) → Option ((Nat → Int32) × (Nat → Int32))
  | 0, _, _, _, _ => none
  | k + 1, z3, v_t_crossings, v_t_seconds, v_t_weights =>
    if (2 : Int32) ≤ z3 then
      some (v_t_seconds, v_t_weights)
    else
      if dk_in ((((2 : Int32) * v_t_crossings) - (2 : Int32)) + z3) 10 = true then
        if dk_in ((((2 : Int32) * v_t_crossings) - (2 : Int32)) + z3) 10 = true then
          p_Mo_crossing_82 n k (z3 + (1 : Int32)) v_t_crossings (upd v_t_seconds ((((2 : Int32) * v_t_crossings) - (2 : Int32)) + z3).toNatClampNeg (1 : Int32)) (upd v_t_weights ((((2 : Int32) * v_t_crossings) - (2 : Int32)) + z3).toNatClampNeg (0 : Int32))
        else none
      else none
theorem q_Mo_crossing_82 (n k : Nat) (z3 : Int32) (v_t_crossings : Int32) (v_t_seconds : Nat → Int32) (v_t_weights : Nat → Int32) : p_Mo_crossing_82 n (k + 1) z3 v_t_crossings v_t_seconds v_t_weights =
    if (2 : Int32) ≤ z3 then
      some (v_t_seconds, v_t_weights)
    else
      if dk_in ((((2 : Int32) * v_t_crossings) - (2 : Int32)) + z3) 10 = true then
        if dk_in ((((2 : Int32) * v_t_crossings) - (2 : Int32)) + z3) 10 = true then
          p_Mo_crossing_82 n k (z3 + (1 : Int32)) v_t_crossings (upd v_t_seconds ((((2 : Int32) * v_t_crossings) - (2 : Int32)) + z3).toNatClampNeg (1 : Int32)) (upd v_t_weights ((((2 : Int32) * v_t_crossings) - (2 : Int32)) + z3).toNatClampNeg (0 : Int32))
        else none
      else none := rfl
def p_Mo_crossing (n : Nat) (x1 : Int32) (x2 : Int32) (v_t_crossings : Int32) (v_t_has : Int32) (v_t_greens : Nat → Int32) (v_t_leasts : Nat → Int32) (v_t_queues : Nat → Int32) (v_t_seconds : Nat → Int32) (v_t_weights : Nat → Int32) : Option (Int32 × Int32 × Int32 × (Nat → Int32) × (Nat → Int32) × (Nat → Int32) × (Nat → Int32) × (Nat → Int32)) :=
  if v_t_crossings = (5 : Int32) then
    some (((-1) : Int32), v_t_crossings, v_t_has, v_t_greens, v_t_leasts, v_t_queues, v_t_seconds, v_t_weights)
  else
    (p_Mo_isIn n x1.toInt64 (5 : Int64) (90 : Int64)).bind fun r16_2 =>
    if r16_2 = 0 then
      some (((-1) : Int32), v_t_crossings, v_t_has, v_t_greens, v_t_leasts, v_t_queues, v_t_seconds, v_t_weights)
    else
      (p_Mo_isIn n x2.toInt64 (10 : Int64) (120 : Int64)).bind fun r30_4 =>
      if r30_4 = 0 then
        some (((-1) : Int32), v_t_crossings, v_t_has, v_t_greens, v_t_leasts, v_t_queues, v_t_seconds, v_t_weights)
      else
        if x1 < x2 then
          if dk_in v_t_crossings 5 = true then
            if dk_in v_t_crossings 5 = true then
              if dk_in v_t_crossings 5 = true then
                if v_t_crossings ≤ 0 then
                  some ((v_t_crossings + (1 : Int32)) - (1 : Int32), v_t_crossings + (1 : Int32), (0 : Int32), upd v_t_greens v_t_crossings.toNatClampNeg x1, upd v_t_leasts v_t_crossings.toNatClampNeg x2, upd v_t_queues v_t_crossings.toNatClampNeg (0 : Int32), v_t_seconds, v_t_weights)
                else
                  (p_Mo_crossing_82 n n (0 : Int32) v_t_crossings v_t_seconds v_t_weights).bind fun q82_9 =>
                  some ((v_t_crossings + (1 : Int32)) - (1 : Int32), v_t_crossings + (1 : Int32), (0 : Int32), upd v_t_greens v_t_crossings.toNatClampNeg x1, upd v_t_leasts v_t_crossings.toNatClampNeg x2, upd v_t_queues v_t_crossings.toNatClampNeg (0 : Int32), q82_9.1, q82_9.2)
              else none
            else none
          else none
        else
          some (((-1) : Int32), v_t_crossings, v_t_has, v_t_greens, v_t_leasts, v_t_queues, v_t_seconds, v_t_weights)
abbrev m_Mo_crossing : Room := { frames := 1, cells := 0, slots := 0, locals := 25 }
set_option maxHeartbeats 4000000 in
set_option maxRecDepth 100000 in
theorem c_Mo_crossing (l : Launch) (G : va_G) (K : Nat → ClassId) (n : Nat) (sz : Nat) (t : Nat) (t_greens : Nat) (t_leasts : Nat) (t_queues : Nat) (t_seconds : Nat) (t_weights : Nat) (t_offsets : Nat) (t_row : Nat) (t_open : Nat) (t_places : Nat) (t_times : Nat) (t_cars : Nat) (t_hourCrossings : Nat) (t_hourCycles : Nat) (t_hourOffsets : Nat) (x1 : Int32) (x2 : Int32) (v_t_crossings : Int32) (v_t_first : Int32) (v_t_last : Int32) (v_t_by : Int32) (v_t_step : Int32) (v_t_has : Int32) (v_t_cycle : Int32) (v_t_aim : Int32) (v_t_proved : Int32) (v_t_arrivals : Int32) (v_t_greens : Nat → Int32) (v_t_leasts : Nat → Int32) (v_t_queues : Nat → Int32) (v_t_seconds : Nat → Int32) (v_t_weights : Nat → Int32) (o : Int32 × Int32 × Int32 × (Nat → Int32) × (Nat → Int32) × (Nat → Int32) × (Nat → Int32) × (Nat → Int32)) (hF : p_Mo_crossing n x1 x2 v_t_crossings v_t_has v_t_greens v_t_leasts v_t_queues v_t_seconds v_t_weights = some o) :
    Met l y_Mo_crossing (wd y_Mo_crossing b_Mo_crossing 4 (some .int)) m_Mo_crossing (dk_Pm [.ref t, .int x1, .int x2] G K [(t, .inr (8, [.int v_t_crossings, .ref t_greens, .ref t_leasts, .ref t_queues, .ref t_seconds, .ref t_weights, .int v_t_first, .int v_t_last, .int v_t_by, .int v_t_step, .int v_t_has, .int v_t_cycle, .int v_t_aim, .int v_t_proved, .ref t_offsets, .ref t_row, .ref t_open, .int v_t_arrivals, .ref t_places, .ref t_times, .ref t_cars, .ref t_hourCrossings, .ref t_hourCycles, .ref t_hourOffsets])), (t_greens, .inl (K 0, 5, .inl v_t_greens)), (t_leasts, .inl (K 0, 5, .inl v_t_leasts)), (t_queues, .inl (K 0, 5, .inl v_t_queues)), (t_seconds, .inl (K 0, 10, .inl v_t_seconds)), (t_weights, .inl (K 0, 10, .inl v_t_weights))] sz) (dk_Qm (some (.int o.1)) G (fun _ : Unit => [(t, .inr (8, [.int o.2.1, .ref t_greens, .ref t_leasts, .ref t_queues, .ref t_seconds, .ref t_weights, .int v_t_first, .int v_t_last, .int v_t_by, .int v_t_step, .int o.2.2.1, .int v_t_cycle, .int v_t_aim, .int v_t_proved, .ref t_offsets, .ref t_row, .ref t_open, .int v_t_arrivals, .ref t_places, .ref t_times, .ref t_cars, .ref t_hourCrossings, .ref t_hourCycles, .ref t_hourOffsets])), (t_greens, .inl (K 0, 5, .inl o.2.2.2.1)), (t_leasts, .inl (K 0, 5, .inl o.2.2.2.2.1)), (t_queues, .inl (K 0, 5, .inl o.2.2.2.2.2.1)), (t_seconds, .inl (K 0, 10, .inl o.2.2.2.2.2.2.1)), (t_weights, .inl (K 0, 10, .inl o.2.2.2.2.2.2.2))]) (va_A [(t, .inr (8, [.int v_t_crossings, .ref t_greens, .ref t_leasts, .ref t_queues, .ref t_seconds, .ref t_weights, .int v_t_first, .int v_t_last, .int v_t_by, .int v_t_step, .int v_t_has, .int v_t_cycle, .int v_t_aim, .int v_t_proved, .ref t_offsets, .ref t_row, .ref t_open, .int v_t_arrivals, .ref t_places, .ref t_times, .ref t_cars, .ref t_hourCrossings, .ref t_hourCycles, .ref t_hourOffsets])), (t_greens, .inl (K 0, 5, .inl v_t_greens)), (t_leasts, .inl (K 0, 5, .inl v_t_leasts)), (t_queues, .inl (K 0, 5, .inl v_t_queues)), (t_seconds, .inl (K 0, 10, .inl v_t_seconds)), (t_weights, .inl (K 0, 10, .inl v_t_weights))] sz)) 0 0 (va_A [(t, .inr (8, [.int v_t_crossings, .ref t_greens, .ref t_leasts, .ref t_queues, .ref t_seconds, .ref t_weights, .int v_t_first, .int v_t_last, .int v_t_by, .int v_t_step, .int v_t_has, .int v_t_cycle, .int v_t_aim, .int v_t_proved, .ref t_offsets, .ref t_row, .ref t_open, .int v_t_arrivals, .ref t_places, .ref t_times, .ref t_cars, .ref t_hourCrossings, .ref t_hourCycles, .ref t_hourOffsets])), (t_greens, .inl (K 0, 5, .inl v_t_greens)), (t_leasts, .inl (K 0, 5, .inl v_t_leasts)), (t_queues, .inl (K 0, 5, .inl v_t_queues)), (t_seconds, .inl (K 0, 10, .inl v_t_seconds)), (t_weights, .inl (K 0, 10, .inl v_t_weights))] sz) := by
  refine Met.ofW (cc := b_Mo_crossing) (maxL := 4) (ret := (some .int)) (by decide) rfl ?_
  intro p e s m args below meth c s₁ B hml hv
  obtain ⟨rfl, hsz, hP, hK, hN, hD0⟩ := hv
  have hx := B.exec
  have hb := B.bytes
  have hr := B.returns
  have hts : ∀ w ∈ lw_good, w.before _ s = true := fun w h => atoms_spec (ws := wd y_Mo_crossing b_Mo_crossing 4 (some .int)) B.pre w (List.mem_cons_of_mem _ h)
  have hown : s.vm.findClass R_Mo = some m.cls := findClass_of_methodNamed B.named
  have hlocks := B.notSynchronized
  have hfix : CallFix p m c b_Mo_crossing 4 s _ lw_good R_Mo := ⟨hx, hb, hml, hown, hts⟩
  subst hsz
  have hD := hD0.self (sz := s.heap.size)
  generalize hAe : va_A [(t, .inr (8, [.int v_t_crossings, .ref t_greens, .ref t_leasts, .ref t_queues, .ref t_seconds, .ref t_weights, .int v_t_first, .int v_t_last, .int v_t_by, .int v_t_step, .int v_t_has, .int v_t_cycle, .int v_t_aim, .int v_t_proved, .ref t_offsets, .ref t_row, .ref t_open, .int v_t_arrivals, .ref t_places, .ref t_times, .ref t_cars, .ref t_hourCrossings, .ref t_hourCycles, .ref t_hourOffsets])), (t_greens, .inl (K 0, 5, .inl v_t_greens)), (t_leasts, .inl (K 0, 5, .inl v_t_leasts)), (t_queues, .inl (K 0, 5, .inl v_t_queues)), (t_seconds, .inl (K 0, 10, .inl v_t_seconds)), (t_weights, .inl (K 0, 10, .inl v_t_weights))] s.heap.size = A at hD ⊢
  have hA : ∀ q : Nat, s.heap.size ≤ q → A q := fun q h => by rw [← hAe]; exact Or.inr h
  have hS : va_S A s.heap s.heap [] := va_S.rf
  have hl := lv_entry ([.ref t, .int x1, .int x2]) (n := 4) (Nat.le_of_ble_eq_true rfl)
  rw [lg_entry_eq]
  generalize (lg_sl ([.ref t, .int x1, .int x2]) ++ List.replicate (4 - (lg_sl ([.ref t, .int x1, .int x2])).length) Slot.unset).toArray = ls at hl ⊢
  have hl : lv_has ls 4 [(0, .ref t), (1, .int x1), (2, .int x2)] := hl
  change W p l e m_Mo_crossing s m _ below meth c s.heap [] 0 0 _ _
  have L82 : ∀ (k : Nat) (z3 : Int32) (v_t_crossings : Int32) (v_t_has : Int32) (v_t_greens : Nat → Int32) (v_t_leasts : Nat → Int32) (v_t_queues : Nat → Int32) (v_t_seconds : Nat → Int32) (v_t_weights : Nat → Int32) (H : Heap) (locs : List Loc) (q : (Nat → Int32) × (Nat → Int32)), p_Mo_crossing_82 n k z3 v_t_crossings v_t_seconds v_t_weights = some q → va_P G classes [(t, .inr (8, [.int v_t_crossings, .ref t_greens, .ref t_leasts, .ref t_queues, .ref t_seconds, .ref t_weights, .int v_t_first, .int v_t_last, .int v_t_by, .int v_t_step, .int v_t_has, .int v_t_cycle, .int v_t_aim, .int v_t_proved, .ref t_offsets, .ref t_row, .ref t_open, .int v_t_arrivals, .ref t_places, .ref t_times, .ref t_cars, .ref t_hourCrossings, .ref t_hourCycles, .ref t_hourOffsets])), (t_greens, .inl (K 0, 5, .inl v_t_greens)), (t_leasts, .inl (K 0, 5, .inl v_t_leasts)), (t_queues, .inl (K 0, 5, .inl v_t_queues)), (t_seconds, .inl (K 0, 10, .inl v_t_seconds)), (t_weights, .inl (K 0, 10, .inl v_t_weights))] H → va_D A [(t, .inr (8, [.int v_t_crossings, .ref t_greens, .ref t_leasts, .ref t_queues, .ref t_seconds, .ref t_weights, .int v_t_first, .int v_t_last, .int v_t_by, .int v_t_step, .int v_t_has, .int v_t_cycle, .int v_t_aim, .int v_t_proved, .ref t_offsets, .ref t_row, .ref t_open, .int v_t_arrivals, .ref t_places, .ref t_times, .ref t_cars, .ref t_hourCrossings, .ref t_hourCycles, .ref t_hourOffsets])), (t_greens, .inl (K 0, 5, .inl v_t_greens)), (t_leasts, .inl (K 0, 5, .inl v_t_leasts)), (t_queues, .inl (K 0, 5, .inl v_t_queues)), (t_seconds, .inl (K 0, 10, .inl v_t_seconds)), (t_weights, .inl (K 0, 10, .inl v_t_weights))] → va_S A s.heap H locs → ∀ ls : Array Slot, lv_has ls 4 [(0, .ref t), (3, .int z3)] → (∀ (H1 : Heap) (locs1 : List Loc) (ls1 : Array Slot), va_P G classes [(t, .inr (8, [.int v_t_crossings, .ref t_greens, .ref t_leasts, .ref t_queues, .ref t_seconds, .ref t_weights, .int v_t_first, .int v_t_last, .int v_t_by, .int v_t_step, .int v_t_has, .int v_t_cycle, .int v_t_aim, .int v_t_proved, .ref t_offsets, .ref t_row, .ref t_open, .int v_t_arrivals, .ref t_places, .ref t_times, .ref t_cars, .ref t_hourCrossings, .ref t_hourCycles, .ref t_hourOffsets])), (t_greens, .inl (K 0, 5, .inl v_t_greens)), (t_leasts, .inl (K 0, 5, .inl v_t_leasts)), (t_queues, .inl (K 0, 5, .inl v_t_queues)), (t_seconds, .inl (K 0, 10, .inl q.1)), (t_weights, .inl (K 0, 10, .inl q.2))] H1 → va_D A [(t, .inr (8, [.int v_t_crossings, .ref t_greens, .ref t_leasts, .ref t_queues, .ref t_seconds, .ref t_weights, .int v_t_first, .int v_t_last, .int v_t_by, .int v_t_step, .int v_t_has, .int v_t_cycle, .int v_t_aim, .int v_t_proved, .ref t_offsets, .ref t_row, .ref t_open, .int v_t_arrivals, .ref t_places, .ref t_times, .ref t_cars, .ref t_hourCrossings, .ref t_hourCycles, .ref t_hourOffsets])), (t_greens, .inl (K 0, 5, .inl v_t_greens)), (t_leasts, .inl (K 0, 5, .inl v_t_leasts)), (t_queues, .inl (K 0, 5, .inl v_t_queues)), (t_seconds, .inl (K 0, 10, .inl q.1)), (t_weights, .inl (K 0, 10, .inl q.2))] → va_S A s.heap H1 locs1 → lv_has ls1 4 [(0, .ref t)] → W p l e m_Mo_crossing s m ([.ref t, .int x1, .int x2] : List Value).toArray below meth c H1 locs1 0 0 (MQ below (dk_Qm (some (.int o.1)) G (fun _ : Unit => [(t, .inr (8, [.int o.2.1, .ref t_greens, .ref t_leasts, .ref t_queues, .ref t_seconds, .ref t_weights, .int v_t_first, .int v_t_last, .int v_t_by, .int v_t_step, .int o.2.2.1, .int v_t_cycle, .int v_t_aim, .int v_t_proved, .ref t_offsets, .ref t_row, .ref t_open, .int v_t_arrivals, .ref t_places, .ref t_times, .ref t_cars, .ref t_hourCrossings, .ref t_hourCycles, .ref t_hourOffsets])), (t_greens, .inl (K 0, 5, .inl o.2.2.2.1)), (t_leasts, .inl (K 0, 5, .inl o.2.2.2.2.1)), (t_queues, .inl (K 0, 5, .inl o.2.2.2.2.2.1)), (t_seconds, .inl (K 0, 10, .inl o.2.2.2.2.2.2.1)), (t_weights, .inl (K 0, 10, .inl o.2.2.2.2.2.2.2))]) A) ([.ref t, .int x1, .int x2] : List Value).toArray s 0 0 A) (F0 m 125 ls1 [])) → W p l e m_Mo_crossing s m ([.ref t, .int x1, .int x2] : List Value).toArray below meth c H locs 0 0 (MQ below (dk_Qm (some (.int o.1)) G (fun _ : Unit => [(t, .inr (8, [.int o.2.1, .ref t_greens, .ref t_leasts, .ref t_queues, .ref t_seconds, .ref t_weights, .int v_t_first, .int v_t_last, .int v_t_by, .int v_t_step, .int o.2.2.1, .int v_t_cycle, .int v_t_aim, .int v_t_proved, .ref t_offsets, .ref t_row, .ref t_open, .int v_t_arrivals, .ref t_places, .ref t_times, .ref t_cars, .ref t_hourCrossings, .ref t_hourCycles, .ref t_hourOffsets])), (t_greens, .inl (K 0, 5, .inl o.2.2.2.1)), (t_leasts, .inl (K 0, 5, .inl o.2.2.2.2.1)), (t_queues, .inl (K 0, 5, .inl o.2.2.2.2.2.1)), (t_seconds, .inl (K 0, 10, .inl o.2.2.2.2.2.2.1)), (t_weights, .inl (K 0, 10, .inl o.2.2.2.2.2.2.2))]) A) ([.ref t, .int x1, .int x2] : List Value).toArray s 0 0 A) (F0 m 82 ls []) := by
    intro k
    induction k with
    | zero =>
      intro z3 v_t_crossings v_t_has v_t_greens v_t_leasts v_t_queues v_t_seconds v_t_weights H locs q hF hP hD hS ls hl hk
      exact absurd hF (by simp [p_Mo_crossing_82])
    | succ k jh =>
      intro z3 v_t_crossings v_t_has v_t_greens v_t_leasts v_t_queues v_t_seconds v_t_weights H locs q hF hP hD hS ls hl hk
      have hF := (q_Mo_crossing_82 n k z3 v_t_crossings v_t_seconds v_t_weights).symm.trans hF
      refine lv_iload_n hx hb d_Mo_crossing_82 rfl (lv_at hl 1 rfl) ?_
      refine lv_iconst (v := (2 : Int32)) hx hb d_Mo_crossing_83 (by decide) ?_
      refine lv_icmp_ge (tgt := 125) hx hb d_Mo_crossing_84 (by decide) (fun c84_8 => ?_) (fun c84_8 => ?_)
      · have hF := dk_t c84_8 hF
        obtain rfl := Option.some.inj hF
        exact hk H locs ls hP hD hS (lv_sub hl [0] rfl)
      · have hF := dk_f c84_8 hF
        refine lv_aload_n hx hb d_Mo_crossing_87 rfl (lv_at hl 0 rfl) ?_
        refine va_get (D := G) (ci := 8) (v := .ref t_seconds) (C := R_Mo) (T := F_Mo) (N := 24) hx hb hts i_Mo hown hK hP 0 rfl rfl 4 (by decide) (hts _ lk_428) (fun _ h9 => h9) rfl d_Mo_crossing_88 ?_
        refine lv_iconst (v := (2 : Int32)) hx hb d_Mo_crossing_91 (by decide) ?_
        refine lv_aload_n hx hb d_Mo_crossing_92 rfl (lv_at hl 0 rfl) ?_
        refine va_get (D := G) (ci := 8) (v := .int v_t_crossings) (C := R_Mo) (T := F_Mo) (N := 24) hx hb hts i_Mo hown hK hP 0 rfl rfl 0 (by decide) (hts _ lk_415) (fun _ h9 => h9) rfl d_Mo_crossing_93 ?_
        refine lv_imul hx hb d_Mo_crossing_96 ?_
        refine lv_iconst (v := (2 : Int32)) hx hb d_Mo_crossing_97 (by decide) ?_
        refine lv_isub hx hb d_Mo_crossing_98 ?_
        refine lv_iload_n hx hb d_Mo_crossing_99 rfl (lv_at hl 1 rfl) ?_
        refine lv_iadd hx hb d_Mo_crossing_100 ?_
        refine lv_iconst (v := (1 : Int32)) hx hb d_Mo_crossing_101 (by decide) ?_
        obtain ⟨hi, hF⟩ := dk_a hF
        refine va_iast (D := G) hx hb hK hP hD hS 4 0 rfl rfl (dk_vp hi) d_Mo_crossing_102 (fun H locs hP hD hS => ?_)
        have hP : va_P G classes [(t, .inr (8, [.int v_t_crossings, .ref t_greens, .ref t_leasts, .ref t_queues, .ref t_seconds, .ref t_weights, .int v_t_first, .int v_t_last, .int v_t_by, .int v_t_step, .int v_t_has, .int v_t_cycle, .int v_t_aim, .int v_t_proved, .ref t_offsets, .ref t_row, .ref t_open, .int v_t_arrivals, .ref t_places, .ref t_times, .ref t_cars, .ref t_hourCrossings, .ref t_hourCycles, .ref t_hourOffsets])), (t_greens, .inl (K 0, 5, .inl v_t_greens)), (t_leasts, .inl (K 0, 5, .inl v_t_leasts)), (t_queues, .inl (K 0, 5, .inl v_t_queues)), (t_seconds, .inl (K 0, 10, .inl (upd v_t_seconds ((((2 : Int32) * v_t_crossings) - (2 : Int32)) + z3).toNatClampNeg (1 : Int32)))), (t_weights, .inl (K 0, 10, .inl v_t_weights))] H := hP
        have hD : va_D A [(t, .inr (8, [.int v_t_crossings, .ref t_greens, .ref t_leasts, .ref t_queues, .ref t_seconds, .ref t_weights, .int v_t_first, .int v_t_last, .int v_t_by, .int v_t_step, .int v_t_has, .int v_t_cycle, .int v_t_aim, .int v_t_proved, .ref t_offsets, .ref t_row, .ref t_open, .int v_t_arrivals, .ref t_places, .ref t_times, .ref t_cars, .ref t_hourCrossings, .ref t_hourCycles, .ref t_hourOffsets])), (t_greens, .inl (K 0, 5, .inl v_t_greens)), (t_leasts, .inl (K 0, 5, .inl v_t_leasts)), (t_queues, .inl (K 0, 5, .inl v_t_queues)), (t_seconds, .inl (K 0, 10, .inl (upd v_t_seconds ((((2 : Int32) * v_t_crossings) - (2 : Int32)) + z3).toNatClampNeg (1 : Int32)))), (t_weights, .inl (K 0, 10, .inl v_t_weights))] := hD
        refine lv_aload_n hx hb d_Mo_crossing_103 rfl (lv_at hl 0 rfl) ?_
        refine va_get (D := G) (ci := 8) (v := .ref t_weights) (C := R_Mo) (T := F_Mo) (N := 24) hx hb hts i_Mo hown hK hP 0 rfl rfl 5 (by decide) (hts _ lk_429) (fun _ h9 => h9) rfl d_Mo_crossing_104 ?_
        refine lv_iconst (v := (2 : Int32)) hx hb d_Mo_crossing_107 (by decide) ?_
        refine lv_aload_n hx hb d_Mo_crossing_108 rfl (lv_at hl 0 rfl) ?_
        refine va_get (D := G) (ci := 8) (v := .int v_t_crossings) (C := R_Mo) (T := F_Mo) (N := 24) hx hb hts i_Mo hown hK hP 0 rfl rfl 0 (by decide) (hts _ lk_415) (fun _ h9 => h9) rfl d_Mo_crossing_109 ?_
        refine lv_imul hx hb d_Mo_crossing_112 ?_
        refine lv_iconst (v := (2 : Int32)) hx hb d_Mo_crossing_113 (by decide) ?_
        refine lv_isub hx hb d_Mo_crossing_114 ?_
        refine lv_iload_n hx hb d_Mo_crossing_115 rfl (lv_at hl 1 rfl) ?_
        refine lv_iadd hx hb d_Mo_crossing_116 ?_
        refine lv_iconst (v := (0 : Int32)) hx hb d_Mo_crossing_117 (by decide) ?_
        obtain ⟨hi, hF⟩ := dk_a hF
        refine va_iast (D := G) hx hb hK hP hD hS 5 0 rfl rfl (dk_vp hi) d_Mo_crossing_118 (fun H locs hP hD hS => ?_)
        have hP : va_P G classes [(t, .inr (8, [.int v_t_crossings, .ref t_greens, .ref t_leasts, .ref t_queues, .ref t_seconds, .ref t_weights, .int v_t_first, .int v_t_last, .int v_t_by, .int v_t_step, .int v_t_has, .int v_t_cycle, .int v_t_aim, .int v_t_proved, .ref t_offsets, .ref t_row, .ref t_open, .int v_t_arrivals, .ref t_places, .ref t_times, .ref t_cars, .ref t_hourCrossings, .ref t_hourCycles, .ref t_hourOffsets])), (t_greens, .inl (K 0, 5, .inl v_t_greens)), (t_leasts, .inl (K 0, 5, .inl v_t_leasts)), (t_queues, .inl (K 0, 5, .inl v_t_queues)), (t_seconds, .inl (K 0, 10, .inl (upd v_t_seconds ((((2 : Int32) * v_t_crossings) - (2 : Int32)) + z3).toNatClampNeg (1 : Int32)))), (t_weights, .inl (K 0, 10, .inl (upd v_t_weights ((((2 : Int32) * v_t_crossings) - (2 : Int32)) + z3).toNatClampNeg (0 : Int32))))] H := hP
        have hD : va_D A [(t, .inr (8, [.int v_t_crossings, .ref t_greens, .ref t_leasts, .ref t_queues, .ref t_seconds, .ref t_weights, .int v_t_first, .int v_t_last, .int v_t_by, .int v_t_step, .int v_t_has, .int v_t_cycle, .int v_t_aim, .int v_t_proved, .ref t_offsets, .ref t_row, .ref t_open, .int v_t_arrivals, .ref t_places, .ref t_times, .ref t_cars, .ref t_hourCrossings, .ref t_hourCycles, .ref t_hourOffsets])), (t_greens, .inl (K 0, 5, .inl v_t_greens)), (t_leasts, .inl (K 0, 5, .inl v_t_leasts)), (t_queues, .inl (K 0, 5, .inl v_t_queues)), (t_seconds, .inl (K 0, 10, .inl (upd v_t_seconds ((((2 : Int32) * v_t_crossings) - (2 : Int32)) + z3).toNatClampNeg (1 : Int32)))), (t_weights, .inl (K 0, 10, .inl (upd v_t_weights ((((2 : Int32) * v_t_crossings) - (2 : Int32)) + z3).toNatClampNeg (0 : Int32))))] := hD
        refine lv_iinc (v := z3 + (1 : Int32)) (lv' := [(3, .int (z3 + (1 : Int32))), (0, .ref t)]) hx hb d_Mo_crossing_119 hl (k := 1) rfl rfl (by decide) rfl (fun ls hl => ?_)
        refine lv_goto (tgt := 82) hx hb d_Mo_crossing_122 (by decide) ?_
        exact jh (z3 + (1 : Int32)) v_t_crossings v_t_has v_t_greens v_t_leasts v_t_queues (upd v_t_seconds ((((2 : Int32) * v_t_crossings) - (2 : Int32)) + z3).toNatClampNeg (1 : Int32)) (upd v_t_weights ((((2 : Int32) * v_t_crossings) - (2 : Int32)) + z3).toNatClampNeg (0 : Int32)) H locs q hF hP hD hS ls (lv_sub hl [1, 0] rfl) hk
  unfold p_Mo_crossing at hF
  refine lv_aload_n hx hb d_Mo_crossing_0 rfl (lv_at hl 0 rfl) ?_
  refine va_get (D := G) (ci := 8) (v := .int v_t_crossings) (C := R_Mo) (T := F_Mo) (N := 24) hx hb hts i_Mo hown hK hP 0 rfl rfl 0 (by decide) (hts _ lk_415) (fun _ h9 => h9) rfl d_Mo_crossing_1 ?_
  refine lv_iconst (v := (5 : Int32)) hx hb d_Mo_crossing_4 (by decide) ?_
  refine lv_icmp_eq (tgt := 41) hx hb d_Mo_crossing_5 (by decide) (fun c5_1 => ?_) (fun c5_1 => ?_)
  · have hF := dk_t c5_1 hF
    refine lv_iconst (v := ((-1) : Int32)) hx hb d_Mo_crossing_41 (by decide) ?_
    obtain rfl := Option.some.inj hF
    exact W.iret (v := ((-1) : Int32)) hx hb hr (fun t ht hW => ⟨⟨(), rfl, by rw [ht]; exact hP, hD⟩, hS.F ht⟩) hS.2.2 d_Mo_crossing_42
  · have hF := dk_f c5_1 hF
    refine lv_iload_n hx hb d_Mo_crossing_8 rfl (lv_at hl 1 rfl) ?_
    refine lv_i2l hx hb d_Mo_crossing_9 rfl ?_
    refine lv_ldc2 (own := R_Mo) (index := 73) (v := (5 : Int64)) hx hb hown (hts _ lk_420) d_Mo_crossing_10 ?_
    refine lv_ldc2 (own := R_Mo) (index := 75) (v := (90 : Int64)) hx hb hown (hts _ lk_421) d_Mo_crossing_13 ?_
    obtain ⟨r16_2, hC, hF⟩ := dk_b hF
    refine dk_pure (va_runS (As := [.long x1.toInt64, .long (5 : Int64), .long (90 : Int64)]) (rest := []) hfix (c_Mo_isIn l G K n x1.toInt64 (5 : Int64) (90 : Int64) r16_2 hC) (va_cwS 3 hts (gd_S lk_416 lk_418 lk_419 lk_417) rfl rfl rfl (by decide +kernel) ⟨Nat.le_of_ble_eq_true rfl, Nat.le_of_ble_eq_true rfl⟩) (dk_preS hK hN (hP.sub [] rfl)) rfl rfl hl.1 rfl (lv_room (Nat.le_of_ble_eq_true rfl)) d_Mo_crossing_16 ⟨Nat.le_of_ble_eq_true rfl, Nat.le_of_ble_eq_true rfl⟩) ?_
    refine lv_if_eq (tgt := 41) hx hb d_Mo_crossing_19 (by decide) (fun c19_3 => ?_) (fun c19_3 => ?_)
    · have hF := dk_t c19_3 hF
      refine lv_iconst (v := ((-1) : Int32)) hx hb d_Mo_crossing_41 (by decide) ?_
      obtain rfl := Option.some.inj hF
      exact W.iret (v := ((-1) : Int32)) hx hb hr (fun t ht hW => ⟨⟨(), rfl, by rw [ht]; exact hP, hD⟩, hS.F ht⟩) hS.2.2 d_Mo_crossing_42
    · have hF := dk_f c19_3 hF
      refine lv_iload_n hx hb d_Mo_crossing_22 rfl (lv_at hl 2 rfl) ?_
      refine lv_i2l hx hb d_Mo_crossing_23 rfl ?_
      refine lv_ldc2 (own := R_Mo) (index := 77) (v := (10 : Int64)) hx hb hown (hts _ lk_422) d_Mo_crossing_24 ?_
      refine lv_ldc2 (own := R_Mo) (index := 79) (v := (120 : Int64)) hx hb hown (hts _ lk_423) d_Mo_crossing_27 ?_
      obtain ⟨r30_4, hC, hF⟩ := dk_b hF
      refine dk_pure (va_runS (As := [.long x2.toInt64, .long (10 : Int64), .long (120 : Int64)]) (rest := []) hfix (c_Mo_isIn l G K n x2.toInt64 (10 : Int64) (120 : Int64) r30_4 hC) (va_cwS 3 hts (gd_S lk_416 lk_418 lk_419 lk_417) rfl rfl rfl (by decide +kernel) ⟨Nat.le_of_ble_eq_true rfl, Nat.le_of_ble_eq_true rfl⟩) (dk_preS hK hN (hP.sub [] rfl)) rfl rfl hl.1 rfl (lv_room (Nat.le_of_ble_eq_true rfl)) d_Mo_crossing_30 ⟨Nat.le_of_ble_eq_true rfl, Nat.le_of_ble_eq_true rfl⟩) ?_
      refine lv_if_eq (tgt := 41) hx hb d_Mo_crossing_33 (by decide) (fun c33_5 => ?_) (fun c33_5 => ?_)
      · have hF := dk_t c33_5 hF
        refine lv_iconst (v := ((-1) : Int32)) hx hb d_Mo_crossing_41 (by decide) ?_
        obtain rfl := Option.some.inj hF
        exact W.iret (v := ((-1) : Int32)) hx hb hr (fun t ht hW => ⟨⟨(), rfl, by rw [ht]; exact hP, hD⟩, hS.F ht⟩) hS.2.2 d_Mo_crossing_42
      · have hF := dk_f c33_5 hF
        refine lv_iload_n hx hb d_Mo_crossing_36 rfl (lv_at hl 2 rfl) ?_
        refine lv_iload_n hx hb d_Mo_crossing_37 rfl (lv_at hl 1 rfl) ?_
        refine lv_icmp_gt (tgt := 43) hx hb d_Mo_crossing_38 (by decide) (fun c38_6 => ?_) (fun c38_6 => ?_)
        · have hF := dk_t c38_6 hF
          refine lv_aload_n hx hb d_Mo_crossing_43 rfl (lv_at hl 0 rfl) ?_
          refine va_get (D := G) (ci := 8) (v := .ref t_greens) (C := R_Mo) (T := F_Mo) (N := 24) hx hb hts i_Mo hown hK hP 0 rfl rfl 1 (by decide) (hts _ lk_424) (fun _ h9 => h9) rfl d_Mo_crossing_44 ?_
          refine lv_aload_n hx hb d_Mo_crossing_47 rfl (lv_at hl 0 rfl) ?_
          refine va_get (D := G) (ci := 8) (v := .int v_t_crossings) (C := R_Mo) (T := F_Mo) (N := 24) hx hb hts i_Mo hown hK hP 0 rfl rfl 0 (by decide) (hts _ lk_415) (fun _ h9 => h9) rfl d_Mo_crossing_48 ?_
          refine lv_iload_n hx hb d_Mo_crossing_51 rfl (lv_at hl 1 rfl) ?_
          obtain ⟨hi, hF⟩ := dk_a hF
          refine va_iast (D := G) hx hb hK hP hD hS 1 0 rfl rfl (dk_vp hi) d_Mo_crossing_52 (fun H locs hP hD hS => ?_)
          have hP : va_P G classes [(t, .inr (8, [.int v_t_crossings, .ref t_greens, .ref t_leasts, .ref t_queues, .ref t_seconds, .ref t_weights, .int v_t_first, .int v_t_last, .int v_t_by, .int v_t_step, .int v_t_has, .int v_t_cycle, .int v_t_aim, .int v_t_proved, .ref t_offsets, .ref t_row, .ref t_open, .int v_t_arrivals, .ref t_places, .ref t_times, .ref t_cars, .ref t_hourCrossings, .ref t_hourCycles, .ref t_hourOffsets])), (t_greens, .inl (K 0, 5, .inl (upd v_t_greens v_t_crossings.toNatClampNeg x1))), (t_leasts, .inl (K 0, 5, .inl v_t_leasts)), (t_queues, .inl (K 0, 5, .inl v_t_queues)), (t_seconds, .inl (K 0, 10, .inl v_t_seconds)), (t_weights, .inl (K 0, 10, .inl v_t_weights))] H := hP
          have hD : va_D A [(t, .inr (8, [.int v_t_crossings, .ref t_greens, .ref t_leasts, .ref t_queues, .ref t_seconds, .ref t_weights, .int v_t_first, .int v_t_last, .int v_t_by, .int v_t_step, .int v_t_has, .int v_t_cycle, .int v_t_aim, .int v_t_proved, .ref t_offsets, .ref t_row, .ref t_open, .int v_t_arrivals, .ref t_places, .ref t_times, .ref t_cars, .ref t_hourCrossings, .ref t_hourCycles, .ref t_hourOffsets])), (t_greens, .inl (K 0, 5, .inl (upd v_t_greens v_t_crossings.toNatClampNeg x1))), (t_leasts, .inl (K 0, 5, .inl v_t_leasts)), (t_queues, .inl (K 0, 5, .inl v_t_queues)), (t_seconds, .inl (K 0, 10, .inl v_t_seconds)), (t_weights, .inl (K 0, 10, .inl v_t_weights))] := hD
          refine lv_aload_n hx hb d_Mo_crossing_53 rfl (lv_at hl 0 rfl) ?_
          refine va_get (D := G) (ci := 8) (v := .ref t_leasts) (C := R_Mo) (T := F_Mo) (N := 24) hx hb hts i_Mo hown hK hP 0 rfl rfl 2 (by decide) (hts _ lk_425) (fun _ h9 => h9) rfl d_Mo_crossing_54 ?_
          refine lv_aload_n hx hb d_Mo_crossing_57 rfl (lv_at hl 0 rfl) ?_
          refine va_get (D := G) (ci := 8) (v := .int v_t_crossings) (C := R_Mo) (T := F_Mo) (N := 24) hx hb hts i_Mo hown hK hP 0 rfl rfl 0 (by decide) (hts _ lk_415) (fun _ h9 => h9) rfl d_Mo_crossing_58 ?_
          refine lv_iload_n hx hb d_Mo_crossing_61 rfl (lv_at hl 2 rfl) ?_
          obtain ⟨hi, hF⟩ := dk_a hF
          refine va_iast (D := G) hx hb hK hP hD hS 2 0 rfl rfl (dk_vp hi) d_Mo_crossing_62 (fun H locs hP hD hS => ?_)
          have hP : va_P G classes [(t, .inr (8, [.int v_t_crossings, .ref t_greens, .ref t_leasts, .ref t_queues, .ref t_seconds, .ref t_weights, .int v_t_first, .int v_t_last, .int v_t_by, .int v_t_step, .int v_t_has, .int v_t_cycle, .int v_t_aim, .int v_t_proved, .ref t_offsets, .ref t_row, .ref t_open, .int v_t_arrivals, .ref t_places, .ref t_times, .ref t_cars, .ref t_hourCrossings, .ref t_hourCycles, .ref t_hourOffsets])), (t_greens, .inl (K 0, 5, .inl (upd v_t_greens v_t_crossings.toNatClampNeg x1))), (t_leasts, .inl (K 0, 5, .inl (upd v_t_leasts v_t_crossings.toNatClampNeg x2))), (t_queues, .inl (K 0, 5, .inl v_t_queues)), (t_seconds, .inl (K 0, 10, .inl v_t_seconds)), (t_weights, .inl (K 0, 10, .inl v_t_weights))] H := hP
          have hD : va_D A [(t, .inr (8, [.int v_t_crossings, .ref t_greens, .ref t_leasts, .ref t_queues, .ref t_seconds, .ref t_weights, .int v_t_first, .int v_t_last, .int v_t_by, .int v_t_step, .int v_t_has, .int v_t_cycle, .int v_t_aim, .int v_t_proved, .ref t_offsets, .ref t_row, .ref t_open, .int v_t_arrivals, .ref t_places, .ref t_times, .ref t_cars, .ref t_hourCrossings, .ref t_hourCycles, .ref t_hourOffsets])), (t_greens, .inl (K 0, 5, .inl (upd v_t_greens v_t_crossings.toNatClampNeg x1))), (t_leasts, .inl (K 0, 5, .inl (upd v_t_leasts v_t_crossings.toNatClampNeg x2))), (t_queues, .inl (K 0, 5, .inl v_t_queues)), (t_seconds, .inl (K 0, 10, .inl v_t_seconds)), (t_weights, .inl (K 0, 10, .inl v_t_weights))] := hD
          refine lv_aload_n hx hb d_Mo_crossing_63 rfl (lv_at hl 0 rfl) ?_
          refine va_get (D := G) (ci := 8) (v := .ref t_queues) (C := R_Mo) (T := F_Mo) (N := 24) hx hb hts i_Mo hown hK hP 0 rfl rfl 3 (by decide) (hts _ lk_426) (fun _ h9 => h9) rfl d_Mo_crossing_64 ?_
          refine lv_aload_n hx hb d_Mo_crossing_67 rfl (lv_at hl 0 rfl) ?_
          refine va_get (D := G) (ci := 8) (v := .int v_t_crossings) (C := R_Mo) (T := F_Mo) (N := 24) hx hb hts i_Mo hown hK hP 0 rfl rfl 0 (by decide) (hts _ lk_415) (fun _ h9 => h9) rfl d_Mo_crossing_68 ?_
          refine lv_iconst (v := (0 : Int32)) hx hb d_Mo_crossing_71 (by decide) ?_
          obtain ⟨hi, hF⟩ := dk_a hF
          refine va_iast (D := G) hx hb hK hP hD hS 3 0 rfl rfl (dk_vp hi) d_Mo_crossing_72 (fun H locs hP hD hS => ?_)
          have hP : va_P G classes [(t, .inr (8, [.int v_t_crossings, .ref t_greens, .ref t_leasts, .ref t_queues, .ref t_seconds, .ref t_weights, .int v_t_first, .int v_t_last, .int v_t_by, .int v_t_step, .int v_t_has, .int v_t_cycle, .int v_t_aim, .int v_t_proved, .ref t_offsets, .ref t_row, .ref t_open, .int v_t_arrivals, .ref t_places, .ref t_times, .ref t_cars, .ref t_hourCrossings, .ref t_hourCycles, .ref t_hourOffsets])), (t_greens, .inl (K 0, 5, .inl (upd v_t_greens v_t_crossings.toNatClampNeg x1))), (t_leasts, .inl (K 0, 5, .inl (upd v_t_leasts v_t_crossings.toNatClampNeg x2))), (t_queues, .inl (K 0, 5, .inl (upd v_t_queues v_t_crossings.toNatClampNeg (0 : Int32)))), (t_seconds, .inl (K 0, 10, .inl v_t_seconds)), (t_weights, .inl (K 0, 10, .inl v_t_weights))] H := hP
          have hD : va_D A [(t, .inr (8, [.int v_t_crossings, .ref t_greens, .ref t_leasts, .ref t_queues, .ref t_seconds, .ref t_weights, .int v_t_first, .int v_t_last, .int v_t_by, .int v_t_step, .int v_t_has, .int v_t_cycle, .int v_t_aim, .int v_t_proved, .ref t_offsets, .ref t_row, .ref t_open, .int v_t_arrivals, .ref t_places, .ref t_times, .ref t_cars, .ref t_hourCrossings, .ref t_hourCycles, .ref t_hourOffsets])), (t_greens, .inl (K 0, 5, .inl (upd v_t_greens v_t_crossings.toNatClampNeg x1))), (t_leasts, .inl (K 0, 5, .inl (upd v_t_leasts v_t_crossings.toNatClampNeg x2))), (t_queues, .inl (K 0, 5, .inl (upd v_t_queues v_t_crossings.toNatClampNeg (0 : Int32)))), (t_seconds, .inl (K 0, 10, .inl v_t_seconds)), (t_weights, .inl (K 0, 10, .inl v_t_weights))] := hD
          refine lv_aload_n hx hb d_Mo_crossing_73 rfl (lv_at hl 0 rfl) ?_
          refine va_get (D := G) (ci := 8) (v := .int v_t_crossings) (C := R_Mo) (T := F_Mo) (N := 24) hx hb hts i_Mo hown hK hP 0 rfl rfl 0 (by decide) (hts _ lk_415) (fun _ h9 => h9) rfl d_Mo_crossing_74 ?_
          refine lv_if_le (tgt := 125) hx hb d_Mo_crossing_77 (by decide) (fun c77_7 => ?_) (fun c77_7 => ?_)
          · have hF := dk_t c77_7 hF
            refine lv_aload_n hx hb d_Mo_crossing_125 rfl (lv_at hl 0 rfl) ?_
            refine lv_dup hx hb d_Mo_crossing_126 rfl ?_
            refine va_get (D := G) (ci := 8) (v := .int v_t_crossings) (C := R_Mo) (T := F_Mo) (N := 24) hx hb hts i_Mo hown hK hP 0 rfl rfl 0 (by decide) (hts _ lk_415) (fun _ h9 => h9) rfl d_Mo_crossing_127 ?_
            refine lv_iconst (v := (1 : Int32)) hx hb d_Mo_crossing_130 (by decide) ?_
            refine lv_iadd hx hb d_Mo_crossing_131 ?_
            refine va_put (D := G) (ci := 8) (v := .int (v_t_crossings + (1 : Int32))) (ty := .int) (C := R_Mo) (T := F_Mo) (N := 24) hx hb hts i_Mo t_Mo t_Mo_ok n_Mo hown hK hP hD hS 0 rfl rfl 0 (by decide) (hts _ lk_415) (fun _ h9 => h9) rfl (by decide +kernel) rfl rfl (Nat.le_of_ble_eq_true rfl) d_Mo_crossing_132 (fun H locs hP hD hS => ?_)
            have hP : va_P G classes [(t, .inr (8, [.int (v_t_crossings + (1 : Int32)), .ref t_greens, .ref t_leasts, .ref t_queues, .ref t_seconds, .ref t_weights, .int v_t_first, .int v_t_last, .int v_t_by, .int v_t_step, .int v_t_has, .int v_t_cycle, .int v_t_aim, .int v_t_proved, .ref t_offsets, .ref t_row, .ref t_open, .int v_t_arrivals, .ref t_places, .ref t_times, .ref t_cars, .ref t_hourCrossings, .ref t_hourCycles, .ref t_hourOffsets])), (t_greens, .inl (K 0, 5, .inl (upd v_t_greens v_t_crossings.toNatClampNeg x1))), (t_leasts, .inl (K 0, 5, .inl (upd v_t_leasts v_t_crossings.toNatClampNeg x2))), (t_queues, .inl (K 0, 5, .inl (upd v_t_queues v_t_crossings.toNatClampNeg (0 : Int32)))), (t_seconds, .inl (K 0, 10, .inl v_t_seconds)), (t_weights, .inl (K 0, 10, .inl v_t_weights))] H := hP
            have hD : va_D A [(t, .inr (8, [.int (v_t_crossings + (1 : Int32)), .ref t_greens, .ref t_leasts, .ref t_queues, .ref t_seconds, .ref t_weights, .int v_t_first, .int v_t_last, .int v_t_by, .int v_t_step, .int v_t_has, .int v_t_cycle, .int v_t_aim, .int v_t_proved, .ref t_offsets, .ref t_row, .ref t_open, .int v_t_arrivals, .ref t_places, .ref t_times, .ref t_cars, .ref t_hourCrossings, .ref t_hourCycles, .ref t_hourOffsets])), (t_greens, .inl (K 0, 5, .inl (upd v_t_greens v_t_crossings.toNatClampNeg x1))), (t_leasts, .inl (K 0, 5, .inl (upd v_t_leasts v_t_crossings.toNatClampNeg x2))), (t_queues, .inl (K 0, 5, .inl (upd v_t_queues v_t_crossings.toNatClampNeg (0 : Int32)))), (t_seconds, .inl (K 0, 10, .inl v_t_seconds)), (t_weights, .inl (K 0, 10, .inl v_t_weights))] := hD
            refine lv_aload_n hx hb d_Mo_crossing_135 rfl (lv_at hl 0 rfl) ?_
            refine lv_iconst (v := (0 : Int32)) hx hb d_Mo_crossing_136 (by decide) ?_
            refine va_put (D := G) (ci := 8) (v := .int (0 : Int32)) (ty := .boolean) (C := R_Mo) (T := F_Mo) (N := 24) hx hb hts i_Mo t_Mo t_Mo_ok n_Mo hown hK hP hD hS 0 rfl rfl 10 (by decide) (hts _ lk_427) (fun _ h9 => h9) rfl (by decide +kernel) rfl rfl (Nat.le_of_ble_eq_true rfl) d_Mo_crossing_137 (fun H locs hP hD hS => ?_)
            have hP : va_P G classes [(t, .inr (8, [.int (v_t_crossings + (1 : Int32)), .ref t_greens, .ref t_leasts, .ref t_queues, .ref t_seconds, .ref t_weights, .int v_t_first, .int v_t_last, .int v_t_by, .int v_t_step, .int (0 : Int32), .int v_t_cycle, .int v_t_aim, .int v_t_proved, .ref t_offsets, .ref t_row, .ref t_open, .int v_t_arrivals, .ref t_places, .ref t_times, .ref t_cars, .ref t_hourCrossings, .ref t_hourCycles, .ref t_hourOffsets])), (t_greens, .inl (K 0, 5, .inl (upd v_t_greens v_t_crossings.toNatClampNeg x1))), (t_leasts, .inl (K 0, 5, .inl (upd v_t_leasts v_t_crossings.toNatClampNeg x2))), (t_queues, .inl (K 0, 5, .inl (upd v_t_queues v_t_crossings.toNatClampNeg (0 : Int32)))), (t_seconds, .inl (K 0, 10, .inl v_t_seconds)), (t_weights, .inl (K 0, 10, .inl v_t_weights))] H := hP
            have hD : va_D A [(t, .inr (8, [.int (v_t_crossings + (1 : Int32)), .ref t_greens, .ref t_leasts, .ref t_queues, .ref t_seconds, .ref t_weights, .int v_t_first, .int v_t_last, .int v_t_by, .int v_t_step, .int (0 : Int32), .int v_t_cycle, .int v_t_aim, .int v_t_proved, .ref t_offsets, .ref t_row, .ref t_open, .int v_t_arrivals, .ref t_places, .ref t_times, .ref t_cars, .ref t_hourCrossings, .ref t_hourCycles, .ref t_hourOffsets])), (t_greens, .inl (K 0, 5, .inl (upd v_t_greens v_t_crossings.toNatClampNeg x1))), (t_leasts, .inl (K 0, 5, .inl (upd v_t_leasts v_t_crossings.toNatClampNeg x2))), (t_queues, .inl (K 0, 5, .inl (upd v_t_queues v_t_crossings.toNatClampNeg (0 : Int32)))), (t_seconds, .inl (K 0, 10, .inl v_t_seconds)), (t_weights, .inl (K 0, 10, .inl v_t_weights))] := hD
            refine lv_aload_n hx hb d_Mo_crossing_140 rfl (lv_at hl 0 rfl) ?_
            refine va_get (D := G) (ci := 8) (v := .int (v_t_crossings + (1 : Int32))) (C := R_Mo) (T := F_Mo) (N := 24) hx hb hts i_Mo hown hK hP 0 rfl rfl 0 (by decide) (hts _ lk_415) (fun _ h9 => h9) rfl d_Mo_crossing_141 ?_
            refine lv_iconst (v := (1 : Int32)) hx hb d_Mo_crossing_144 (by decide) ?_
            refine lv_isub hx hb d_Mo_crossing_145 ?_
            obtain rfl := Option.some.inj hF
            exact W.iret (v := (v_t_crossings + (1 : Int32)) - (1 : Int32)) hx hb hr (fun t ht hW => ⟨⟨(), rfl, by rw [ht]; exact hP, hD⟩, hS.F ht⟩) hS.2.2 d_Mo_crossing_146
          · have hF := dk_f c77_7 hF
            refine lv_iconst (v := (0 : Int32)) hx hb d_Mo_crossing_80 (by decide) ?_
            refine lv_istore_n (lv' := [(3, .int (0 : Int32)), (0, .ref t), (1, .int x1), (2, .int x2)]) hx hb d_Mo_crossing_81 rfl hl (by decide) rfl (fun ls hl => ?_)
            obtain ⟨q82_9, hC, hF⟩ := dk_b hF
            refine L82 n (0 : Int32) v_t_crossings v_t_has (upd v_t_greens v_t_crossings.toNatClampNeg x1) (upd v_t_leasts v_t_crossings.toNatClampNeg x2) (upd v_t_queues v_t_crossings.toNatClampNeg (0 : Int32)) v_t_seconds v_t_weights H locs q82_9 hC hP hD hS ls (lv_sub hl [1, 0] rfl) (fun H locs ls hP hD hS hl => ?_)
            refine lv_aload_n hx hb d_Mo_crossing_125 rfl (lv_at hl 0 rfl) ?_
            refine lv_dup hx hb d_Mo_crossing_126 rfl ?_
            refine va_get (D := G) (ci := 8) (v := .int v_t_crossings) (C := R_Mo) (T := F_Mo) (N := 24) hx hb hts i_Mo hown hK hP 0 rfl rfl 0 (by decide) (hts _ lk_415) (fun _ h9 => h9) rfl d_Mo_crossing_127 ?_
            refine lv_iconst (v := (1 : Int32)) hx hb d_Mo_crossing_130 (by decide) ?_
            refine lv_iadd hx hb d_Mo_crossing_131 ?_
            refine va_put (D := G) (ci := 8) (v := .int (v_t_crossings + (1 : Int32))) (ty := .int) (C := R_Mo) (T := F_Mo) (N := 24) hx hb hts i_Mo t_Mo t_Mo_ok n_Mo hown hK hP hD hS 0 rfl rfl 0 (by decide) (hts _ lk_415) (fun _ h9 => h9) rfl (by decide +kernel) rfl rfl (Nat.le_of_ble_eq_true rfl) d_Mo_crossing_132 (fun H locs hP hD hS => ?_)
            have hP : va_P G classes [(t, .inr (8, [.int (v_t_crossings + (1 : Int32)), .ref t_greens, .ref t_leasts, .ref t_queues, .ref t_seconds, .ref t_weights, .int v_t_first, .int v_t_last, .int v_t_by, .int v_t_step, .int v_t_has, .int v_t_cycle, .int v_t_aim, .int v_t_proved, .ref t_offsets, .ref t_row, .ref t_open, .int v_t_arrivals, .ref t_places, .ref t_times, .ref t_cars, .ref t_hourCrossings, .ref t_hourCycles, .ref t_hourOffsets])), (t_greens, .inl (K 0, 5, .inl (upd v_t_greens v_t_crossings.toNatClampNeg x1))), (t_leasts, .inl (K 0, 5, .inl (upd v_t_leasts v_t_crossings.toNatClampNeg x2))), (t_queues, .inl (K 0, 5, .inl (upd v_t_queues v_t_crossings.toNatClampNeg (0 : Int32)))), (t_seconds, .inl (K 0, 10, .inl q82_9.1)), (t_weights, .inl (K 0, 10, .inl q82_9.2))] H := hP
            have hD : va_D A [(t, .inr (8, [.int (v_t_crossings + (1 : Int32)), .ref t_greens, .ref t_leasts, .ref t_queues, .ref t_seconds, .ref t_weights, .int v_t_first, .int v_t_last, .int v_t_by, .int v_t_step, .int v_t_has, .int v_t_cycle, .int v_t_aim, .int v_t_proved, .ref t_offsets, .ref t_row, .ref t_open, .int v_t_arrivals, .ref t_places, .ref t_times, .ref t_cars, .ref t_hourCrossings, .ref t_hourCycles, .ref t_hourOffsets])), (t_greens, .inl (K 0, 5, .inl (upd v_t_greens v_t_crossings.toNatClampNeg x1))), (t_leasts, .inl (K 0, 5, .inl (upd v_t_leasts v_t_crossings.toNatClampNeg x2))), (t_queues, .inl (K 0, 5, .inl (upd v_t_queues v_t_crossings.toNatClampNeg (0 : Int32)))), (t_seconds, .inl (K 0, 10, .inl q82_9.1)), (t_weights, .inl (K 0, 10, .inl q82_9.2))] := hD
            refine lv_aload_n hx hb d_Mo_crossing_135 rfl (lv_at hl 0 rfl) ?_
            refine lv_iconst (v := (0 : Int32)) hx hb d_Mo_crossing_136 (by decide) ?_
            refine va_put (D := G) (ci := 8) (v := .int (0 : Int32)) (ty := .boolean) (C := R_Mo) (T := F_Mo) (N := 24) hx hb hts i_Mo t_Mo t_Mo_ok n_Mo hown hK hP hD hS 0 rfl rfl 10 (by decide) (hts _ lk_427) (fun _ h9 => h9) rfl (by decide +kernel) rfl rfl (Nat.le_of_ble_eq_true rfl) d_Mo_crossing_137 (fun H locs hP hD hS => ?_)
            have hP : va_P G classes [(t, .inr (8, [.int (v_t_crossings + (1 : Int32)), .ref t_greens, .ref t_leasts, .ref t_queues, .ref t_seconds, .ref t_weights, .int v_t_first, .int v_t_last, .int v_t_by, .int v_t_step, .int (0 : Int32), .int v_t_cycle, .int v_t_aim, .int v_t_proved, .ref t_offsets, .ref t_row, .ref t_open, .int v_t_arrivals, .ref t_places, .ref t_times, .ref t_cars, .ref t_hourCrossings, .ref t_hourCycles, .ref t_hourOffsets])), (t_greens, .inl (K 0, 5, .inl (upd v_t_greens v_t_crossings.toNatClampNeg x1))), (t_leasts, .inl (K 0, 5, .inl (upd v_t_leasts v_t_crossings.toNatClampNeg x2))), (t_queues, .inl (K 0, 5, .inl (upd v_t_queues v_t_crossings.toNatClampNeg (0 : Int32)))), (t_seconds, .inl (K 0, 10, .inl q82_9.1)), (t_weights, .inl (K 0, 10, .inl q82_9.2))] H := hP
            have hD : va_D A [(t, .inr (8, [.int (v_t_crossings + (1 : Int32)), .ref t_greens, .ref t_leasts, .ref t_queues, .ref t_seconds, .ref t_weights, .int v_t_first, .int v_t_last, .int v_t_by, .int v_t_step, .int (0 : Int32), .int v_t_cycle, .int v_t_aim, .int v_t_proved, .ref t_offsets, .ref t_row, .ref t_open, .int v_t_arrivals, .ref t_places, .ref t_times, .ref t_cars, .ref t_hourCrossings, .ref t_hourCycles, .ref t_hourOffsets])), (t_greens, .inl (K 0, 5, .inl (upd v_t_greens v_t_crossings.toNatClampNeg x1))), (t_leasts, .inl (K 0, 5, .inl (upd v_t_leasts v_t_crossings.toNatClampNeg x2))), (t_queues, .inl (K 0, 5, .inl (upd v_t_queues v_t_crossings.toNatClampNeg (0 : Int32)))), (t_seconds, .inl (K 0, 10, .inl q82_9.1)), (t_weights, .inl (K 0, 10, .inl q82_9.2))] := hD
            refine lv_aload_n hx hb d_Mo_crossing_140 rfl (lv_at hl 0 rfl) ?_
            refine va_get (D := G) (ci := 8) (v := .int (v_t_crossings + (1 : Int32))) (C := R_Mo) (T := F_Mo) (N := 24) hx hb hts i_Mo hown hK hP 0 rfl rfl 0 (by decide) (hts _ lk_415) (fun _ h9 => h9) rfl d_Mo_crossing_141 ?_
            refine lv_iconst (v := (1 : Int32)) hx hb d_Mo_crossing_144 (by decide) ?_
            refine lv_isub hx hb d_Mo_crossing_145 ?_
            obtain rfl := Option.some.inj hF
            exact W.iret (v := (v_t_crossings + (1 : Int32)) - (1 : Int32)) hx hb hr (fun t ht hW => ⟨⟨(), rfl, by rw [ht]; exact hP, hD⟩, hS.F ht⟩) hS.2.2 d_Mo_crossing_146
        · have hF := dk_f c38_6 hF
          refine lv_iconst (v := ((-1) : Int32)) hx hb d_Mo_crossing_41 (by decide) ?_
          obtain rfl := Option.some.inj hF
          exact W.iret (v := ((-1) : Int32)) hx hb hr (fun t ht hW => ⟨⟨(), rfl, by rw [ht]; exact hP, hD⟩, hS.F ht⟩) hS.2.2 d_Mo_crossing_42
def p_Mo_street (n : Nat) (x1 : Int32) (x2 : Int32) (x3 : Int32) (x4 : Int32) (v_t_crossings : Int32) (v_t_has : Int32) (v_t_seconds : Nat → Int32) (v_t_weights : Nat → Int32) : Option (Int32 × Int32 × (Nat → Int32) × (Nat → Int32)) :=
  (p_Mo_isCrossing n x1 v_t_crossings).bind fun r2_1 =>
  if r2_1 = 0 then
    some ((0 : Int32), v_t_has, v_t_seconds, v_t_weights)
  else
    (p_Mo_isCrossing n x2 v_t_crossings).bind fun r10_4 =>
    if r10_4 = 0 then
      some ((0 : Int32), v_t_has, v_t_seconds, v_t_weights)
    else
      if (x1 - x2) = (1 : Int32) then
        (p_Mo_isIn n x3.toInt64 (1 : Int64) (200 : Int64)).bind fun r36_8 =>
        if r36_8 = 0 then
          some ((0 : Int32), v_t_has, v_t_seconds, v_t_weights)
        else
          (p_Mo_isIn n x4.toInt64 (0 : Int64) (100 : Int64)).bind fun r49_11 =>
          if r49_11 = 0 then
            some ((0 : Int32), v_t_has, v_t_seconds, v_t_weights)
          else
            if x2 ≤ x1 then
              if dk_in (((2 : Int32) * x2) + (1 : Int32)) 10 = true then
                if dk_in (((2 : Int32) * x2) + (1 : Int32)) 10 = true then
                  some ((1 : Int32), (0 : Int32), upd v_t_seconds (((2 : Int32) * x2) + (1 : Int32)).toNatClampNeg x3, upd v_t_weights (((2 : Int32) * x2) + (1 : Int32)).toNatClampNeg x4)
                else none
              else none
            else
              if dk_in ((2 : Int32) * x1) 10 = true then
                if dk_in ((2 : Int32) * x1) 10 = true then
                  some ((1 : Int32), (0 : Int32), upd v_t_seconds ((2 : Int32) * x1).toNatClampNeg x3, upd v_t_weights ((2 : Int32) * x1).toNatClampNeg x4)
                else none
              else none
      else
        if (x2 - x1) = (1 : Int32) then
          (p_Mo_isIn n x3.toInt64 (1 : Int64) (200 : Int64)).bind fun r36_18 =>
          if r36_18 = 0 then
            some ((0 : Int32), v_t_has, v_t_seconds, v_t_weights)
          else
            (p_Mo_isIn n x4.toInt64 (0 : Int64) (100 : Int64)).bind fun r49_21 =>
            if r49_21 = 0 then
              some ((0 : Int32), v_t_has, v_t_seconds, v_t_weights)
            else
              if x2 ≤ x1 then
                if dk_in (((2 : Int32) * x2) + (1 : Int32)) 10 = true then
                  if dk_in (((2 : Int32) * x2) + (1 : Int32)) 10 = true then
                    some ((1 : Int32), (0 : Int32), upd v_t_seconds (((2 : Int32) * x2) + (1 : Int32)).toNatClampNeg x3, upd v_t_weights (((2 : Int32) * x2) + (1 : Int32)).toNatClampNeg x4)
                  else none
                else none
              else
                if dk_in ((2 : Int32) * x1) 10 = true then
                  if dk_in ((2 : Int32) * x1) 10 = true then
                    some ((1 : Int32), (0 : Int32), upd v_t_seconds ((2 : Int32) * x1).toNatClampNeg x3, upd v_t_weights ((2 : Int32) * x1).toNatClampNeg x4)
                  else none
                else none
        else
          some ((0 : Int32), v_t_has, v_t_seconds, v_t_weights)
abbrev m_Mo_street : Room := { frames := 2, cells := 0, slots := 0, locals := 46 }
set_option maxHeartbeats 4000000 in
set_option maxRecDepth 100000 in
theorem c_Mo_street (l : Launch) (G : va_G) (K : Nat → ClassId) (n : Nat) (sz : Nat) (t : Nat) (t_greens : Nat) (t_leasts : Nat) (t_queues : Nat) (t_seconds : Nat) (t_weights : Nat) (t_offsets : Nat) (t_row : Nat) (t_open : Nat) (t_places : Nat) (t_times : Nat) (t_cars : Nat) (t_hourCrossings : Nat) (t_hourCycles : Nat) (t_hourOffsets : Nat) (x1 : Int32) (x2 : Int32) (x3 : Int32) (x4 : Int32) (v_t_crossings : Int32) (v_t_first : Int32) (v_t_last : Int32) (v_t_by : Int32) (v_t_step : Int32) (v_t_has : Int32) (v_t_cycle : Int32) (v_t_aim : Int32) (v_t_proved : Int32) (v_t_arrivals : Int32) (v_t_seconds : Nat → Int32) (v_t_weights : Nat → Int32) (o : Int32 × Int32 × (Nat → Int32) × (Nat → Int32)) (hF : p_Mo_street n x1 x2 x3 x4 v_t_crossings v_t_has v_t_seconds v_t_weights = some o) :
    Met l y_Mo_street (wd y_Mo_street b_Mo_street 7 (some .boolean)) m_Mo_street (dk_Pm [.ref t, .int x1, .int x2, .int x3, .int x4] G K [(t, .inr (8, [.int v_t_crossings, .ref t_greens, .ref t_leasts, .ref t_queues, .ref t_seconds, .ref t_weights, .int v_t_first, .int v_t_last, .int v_t_by, .int v_t_step, .int v_t_has, .int v_t_cycle, .int v_t_aim, .int v_t_proved, .ref t_offsets, .ref t_row, .ref t_open, .int v_t_arrivals, .ref t_places, .ref t_times, .ref t_cars, .ref t_hourCrossings, .ref t_hourCycles, .ref t_hourOffsets])), (t_seconds, .inl (K 0, 10, .inl v_t_seconds)), (t_weights, .inl (K 0, 10, .inl v_t_weights))] sz) (dk_Qm (some (.int o.1)) G (fun _ : Unit => [(t, .inr (8, [.int v_t_crossings, .ref t_greens, .ref t_leasts, .ref t_queues, .ref t_seconds, .ref t_weights, .int v_t_first, .int v_t_last, .int v_t_by, .int v_t_step, .int o.2.1, .int v_t_cycle, .int v_t_aim, .int v_t_proved, .ref t_offsets, .ref t_row, .ref t_open, .int v_t_arrivals, .ref t_places, .ref t_times, .ref t_cars, .ref t_hourCrossings, .ref t_hourCycles, .ref t_hourOffsets])), (t_seconds, .inl (K 0, 10, .inl o.2.2.1)), (t_weights, .inl (K 0, 10, .inl o.2.2.2))]) (va_A [(t, .inr (8, [.int v_t_crossings, .ref t_greens, .ref t_leasts, .ref t_queues, .ref t_seconds, .ref t_weights, .int v_t_first, .int v_t_last, .int v_t_by, .int v_t_step, .int v_t_has, .int v_t_cycle, .int v_t_aim, .int v_t_proved, .ref t_offsets, .ref t_row, .ref t_open, .int v_t_arrivals, .ref t_places, .ref t_times, .ref t_cars, .ref t_hourCrossings, .ref t_hourCycles, .ref t_hourOffsets])), (t_seconds, .inl (K 0, 10, .inl v_t_seconds)), (t_weights, .inl (K 0, 10, .inl v_t_weights))] sz)) 0 0 (va_A [(t, .inr (8, [.int v_t_crossings, .ref t_greens, .ref t_leasts, .ref t_queues, .ref t_seconds, .ref t_weights, .int v_t_first, .int v_t_last, .int v_t_by, .int v_t_step, .int v_t_has, .int v_t_cycle, .int v_t_aim, .int v_t_proved, .ref t_offsets, .ref t_row, .ref t_open, .int v_t_arrivals, .ref t_places, .ref t_times, .ref t_cars, .ref t_hourCrossings, .ref t_hourCycles, .ref t_hourOffsets])), (t_seconds, .inl (K 0, 10, .inl v_t_seconds)), (t_weights, .inl (K 0, 10, .inl v_t_weights))] sz) := by
  refine Met.ofW (cc := b_Mo_street) (maxL := 7) (ret := (some .boolean)) (by decide) rfl ?_
  intro p e s m args below meth c s₁ B hml hv
  obtain ⟨rfl, hsz, hP, hK, hN, hD0⟩ := hv
  have hx := B.exec
  have hb := B.bytes
  have hr := B.returns
  have hts : ∀ w ∈ lw_good, w.before _ s = true := fun w h => atoms_spec (ws := wd y_Mo_street b_Mo_street 7 (some .boolean)) B.pre w (List.mem_cons_of_mem _ h)
  have hown : s.vm.findClass R_Mo = some m.cls := findClass_of_methodNamed B.named
  have hlocks := B.notSynchronized
  have hfix : CallFix p m c b_Mo_street 7 s _ lw_good R_Mo := ⟨hx, hb, hml, hown, hts⟩
  subst hsz
  have hD := hD0.self (sz := s.heap.size)
  generalize hAe : va_A [(t, .inr (8, [.int v_t_crossings, .ref t_greens, .ref t_leasts, .ref t_queues, .ref t_seconds, .ref t_weights, .int v_t_first, .int v_t_last, .int v_t_by, .int v_t_step, .int v_t_has, .int v_t_cycle, .int v_t_aim, .int v_t_proved, .ref t_offsets, .ref t_row, .ref t_open, .int v_t_arrivals, .ref t_places, .ref t_times, .ref t_cars, .ref t_hourCrossings, .ref t_hourCycles, .ref t_hourOffsets])), (t_seconds, .inl (K 0, 10, .inl v_t_seconds)), (t_weights, .inl (K 0, 10, .inl v_t_weights))] s.heap.size = A at hD ⊢
  have hA : ∀ q : Nat, s.heap.size ≤ q → A q := fun q h => by rw [← hAe]; exact Or.inr h
  have hS : va_S A s.heap s.heap [] := va_S.rf
  have hl := lv_entry ([.ref t, .int x1, .int x2, .int x3, .int x4]) (n := 7) (Nat.le_of_ble_eq_true rfl)
  rw [lg_entry_eq]
  generalize (lg_sl ([.ref t, .int x1, .int x2, .int x3, .int x4]) ++ List.replicate (7 - (lg_sl ([.ref t, .int x1, .int x2, .int x3, .int x4])).length) Slot.unset).toArray = ls at hl ⊢
  have hl : lv_has ls 7 [(0, .ref t), (1, .int x1), (2, .int x2), (3, .int x3), (4, .int x4)] := hl
  change W p l e m_Mo_street s m _ below meth c s.heap [] 0 0 _ _
  unfold p_Mo_street at hF
  refine lv_aload_n hx hb d_Mo_street_0 rfl (lv_at hl 0 rfl) ?_
  refine lv_iload_n hx hb d_Mo_street_1 rfl (lv_at hl 1 rfl) ?_
  obtain ⟨r2_1, hC, hF⟩ := dk_b hF
  refine dk_pure (va_runV (As := [.int x1]) (rest := []) hfix (c_Mo_isCrossing l G K n t t_greens t_leasts t_queues t_seconds t_weights t_offsets t_row t_open t_places t_times t_cars t_hourCrossings t_hourCycles t_hourOffsets x1 v_t_crossings v_t_first v_t_last v_t_by v_t_step v_t_has v_t_cycle v_t_aim v_t_proved v_t_arrivals r2_1 hC) (cwV 1 hts (gd_V lk_430 lk_432 lk_433 lk_419 lk_431) rfl rfl rfl (by decide +kernel) ⟨Nat.le_of_ble_eq_true rfl, Nat.le_of_ble_eq_true rfl⟩) (dk_preV hK hN (hP.sub [0] rfl) (va_recv hK hP (ci := 8) (q0 := 0) rfl rfl)) rfl rfl hl.1 rfl (lv_room (Nat.le_of_ble_eq_true rfl)) d_Mo_street_2 ⟨Nat.le_of_ble_eq_true rfl, Nat.le_of_ble_eq_true rfl⟩) ?_
  refine lv_if_eq (tgt := 59) hx hb d_Mo_street_5 (by decide) (fun c5_2 => ?_) (fun c5_2 => ?_)
  · have hF := dk_t c5_2 hF
    refine lv_iconst (v := (0 : Int32)) hx hb d_Mo_street_59 (by decide) ?_
    refine lv_istore (lv' := [(5, .int (0 : Int32)), (0, .ref t), (1, .int x1), (2, .int x2), (3, .int x3), (4, .int x4)]) hx hb d_Mo_street_60 hl (by decide) rfl (fun ls hl => ?_)
    refine lv_iload hx hb d_Mo_street_62 (lv_at hl 0 rfl) ?_
    refine lv_if_eq (tgt := 107) hx hb d_Mo_street_64 (by decide) (fun _ => ?_) (fun h => absurd h (by decide))
    refine lv_iload hx hb d_Mo_street_107 (lv_at hl 0 rfl) ?_
    obtain rfl := Option.some.inj hF
    exact W.zret (v := (0 : Int32)) hx hb hr rfl (fun t ht hW => ⟨⟨(), rfl, by rw [ht]; exact hP, hD⟩, hS.F ht⟩) hS.2.2 d_Mo_street_109
  · have hF := dk_f c5_2 hF
    refine lv_aload_n hx hb d_Mo_street_8 rfl (lv_at hl 0 rfl) ?_
    refine lv_iload_n hx hb d_Mo_street_9 rfl (lv_at hl 2 rfl) ?_
    obtain ⟨r10_4, hC, hF⟩ := dk_b hF
    refine dk_pure (va_runV (As := [.int x2]) (rest := []) hfix (c_Mo_isCrossing l G K n t t_greens t_leasts t_queues t_seconds t_weights t_offsets t_row t_open t_places t_times t_cars t_hourCrossings t_hourCycles t_hourOffsets x2 v_t_crossings v_t_first v_t_last v_t_by v_t_step v_t_has v_t_cycle v_t_aim v_t_proved v_t_arrivals r10_4 hC) (cwV 1 hts (gd_V lk_430 lk_432 lk_433 lk_419 lk_431) rfl rfl rfl (by decide +kernel) ⟨Nat.le_of_ble_eq_true rfl, Nat.le_of_ble_eq_true rfl⟩) (dk_preV hK hN (hP.sub [0] rfl) (va_recv hK hP (ci := 8) (q0 := 0) rfl rfl)) rfl rfl hl.1 rfl (lv_room (Nat.le_of_ble_eq_true rfl)) d_Mo_street_10 ⟨Nat.le_of_ble_eq_true rfl, Nat.le_of_ble_eq_true rfl⟩) ?_
    refine lv_if_eq (tgt := 59) hx hb d_Mo_street_13 (by decide) (fun c13_5 => ?_) (fun c13_5 => ?_)
    · have hF := dk_t c13_5 hF
      refine lv_iconst (v := (0 : Int32)) hx hb d_Mo_street_59 (by decide) ?_
      refine lv_istore (lv' := [(5, .int (0 : Int32)), (0, .ref t), (1, .int x1), (2, .int x2), (3, .int x3), (4, .int x4)]) hx hb d_Mo_street_60 hl (by decide) rfl (fun ls hl => ?_)
      refine lv_iload hx hb d_Mo_street_62 (lv_at hl 0 rfl) ?_
      refine lv_if_eq (tgt := 107) hx hb d_Mo_street_64 (by decide) (fun _ => ?_) (fun h => absurd h (by decide))
      refine lv_iload hx hb d_Mo_street_107 (lv_at hl 0 rfl) ?_
      obtain rfl := Option.some.inj hF
      exact W.zret (v := (0 : Int32)) hx hb hr rfl (fun t ht hW => ⟨⟨(), rfl, by rw [ht]; exact hP, hD⟩, hS.F ht⟩) hS.2.2 d_Mo_street_109
    · have hF := dk_f c13_5 hF
      refine lv_iload_n hx hb d_Mo_street_16 rfl (lv_at hl 1 rfl) ?_
      refine lv_iload_n hx hb d_Mo_street_17 rfl (lv_at hl 2 rfl) ?_
      refine lv_isub hx hb d_Mo_street_18 ?_
      refine lv_iconst (v := (1 : Int32)) hx hb d_Mo_street_19 (by decide) ?_
      refine lv_icmp_eq (tgt := 30) hx hb d_Mo_street_20 (by decide) (fun c20_7 => ?_) (fun c20_7 => ?_)
      · have hF := dk_t c20_7 hF
        refine lv_iload_n hx hb d_Mo_street_30 rfl (lv_at hl 3 rfl) ?_
        refine lv_i2l hx hb d_Mo_street_31 rfl ?_
        refine lv_lconst (v := (1 : Int64)) hx hb d_Mo_street_32 (by decide) ?_
        refine lv_ldc2 (own := R_Mo) (index := 89) (v := (200 : Int64)) hx hb hown (hts _ lk_434) d_Mo_street_33 ?_
        obtain ⟨r36_8, hC, hF⟩ := dk_b hF
        refine dk_pure (va_runS (As := [.long x3.toInt64, .long (1 : Int64), .long (200 : Int64)]) (rest := []) hfix (c_Mo_isIn l G K n x3.toInt64 (1 : Int64) (200 : Int64) r36_8 hC) (va_cwS 3 hts (gd_S lk_416 lk_418 lk_419 lk_417) rfl rfl rfl (by decide +kernel) ⟨Nat.le_of_ble_eq_true rfl, Nat.le_of_ble_eq_true rfl⟩) (dk_preS hK hN (hP.sub [] rfl)) rfl rfl hl.1 rfl (lv_room (Nat.le_of_ble_eq_true rfl)) d_Mo_street_36 ⟨Nat.le_of_ble_eq_true rfl, Nat.le_of_ble_eq_true rfl⟩) ?_
        refine lv_if_eq (tgt := 59) hx hb d_Mo_street_39 (by decide) (fun c39_9 => ?_) (fun c39_9 => ?_)
        · have hF := dk_t c39_9 hF
          refine lv_iconst (v := (0 : Int32)) hx hb d_Mo_street_59 (by decide) ?_
          refine lv_istore (lv' := [(5, .int (0 : Int32)), (0, .ref t), (1, .int x1), (2, .int x2), (3, .int x3), (4, .int x4)]) hx hb d_Mo_street_60 hl (by decide) rfl (fun ls hl => ?_)
          refine lv_iload hx hb d_Mo_street_62 (lv_at hl 0 rfl) ?_
          refine lv_if_eq (tgt := 107) hx hb d_Mo_street_64 (by decide) (fun _ => ?_) (fun h => absurd h (by decide))
          refine lv_iload hx hb d_Mo_street_107 (lv_at hl 0 rfl) ?_
          obtain rfl := Option.some.inj hF
          exact W.zret (v := (0 : Int32)) hx hb hr rfl (fun t ht hW => ⟨⟨(), rfl, by rw [ht]; exact hP, hD⟩, hS.F ht⟩) hS.2.2 d_Mo_street_109
        · have hF := dk_f c39_9 hF
          refine lv_iload hx hb d_Mo_street_42 (lv_at hl 4 rfl) ?_
          refine lv_i2l hx hb d_Mo_street_44 rfl ?_
          refine lv_lconst (v := (0 : Int64)) hx hb d_Mo_street_45 (by decide) ?_
          refine lv_ldc2 (own := R_Mo) (index := 91) (v := (100 : Int64)) hx hb hown (hts _ lk_435) d_Mo_street_46 ?_
          obtain ⟨r49_11, hC, hF⟩ := dk_b hF
          refine dk_pure (va_runS (As := [.long x4.toInt64, .long (0 : Int64), .long (100 : Int64)]) (rest := []) hfix (c_Mo_isIn l G K n x4.toInt64 (0 : Int64) (100 : Int64) r49_11 hC) (va_cwS 3 hts (gd_S lk_416 lk_418 lk_419 lk_417) rfl rfl rfl (by decide +kernel) ⟨Nat.le_of_ble_eq_true rfl, Nat.le_of_ble_eq_true rfl⟩) (dk_preS hK hN (hP.sub [] rfl)) rfl rfl hl.1 rfl (lv_room (Nat.le_of_ble_eq_true rfl)) d_Mo_street_49 ⟨Nat.le_of_ble_eq_true rfl, Nat.le_of_ble_eq_true rfl⟩) ?_
          refine lv_if_eq (tgt := 59) hx hb d_Mo_street_52 (by decide) (fun c52_12 => ?_) (fun c52_12 => ?_)
          · have hF := dk_t c52_12 hF
            refine lv_iconst (v := (0 : Int32)) hx hb d_Mo_street_59 (by decide) ?_
            refine lv_istore (lv' := [(5, .int (0 : Int32)), (0, .ref t), (1, .int x1), (2, .int x2), (3, .int x3), (4, .int x4)]) hx hb d_Mo_street_60 hl (by decide) rfl (fun ls hl => ?_)
            refine lv_iload hx hb d_Mo_street_62 (lv_at hl 0 rfl) ?_
            refine lv_if_eq (tgt := 107) hx hb d_Mo_street_64 (by decide) (fun _ => ?_) (fun h => absurd h (by decide))
            refine lv_iload hx hb d_Mo_street_107 (lv_at hl 0 rfl) ?_
            obtain rfl := Option.some.inj hF
            exact W.zret (v := (0 : Int32)) hx hb hr rfl (fun t ht hW => ⟨⟨(), rfl, by rw [ht]; exact hP, hD⟩, hS.F ht⟩) hS.2.2 d_Mo_street_109
          · have hF := dk_f c52_12 hF
            refine lv_iconst (v := (1 : Int32)) hx hb d_Mo_street_55 (by decide) ?_
            refine lv_goto (tgt := 60) hx hb d_Mo_street_56 (by decide) ?_
            refine lv_istore (lv' := [(5, .int (1 : Int32)), (0, .ref t), (1, .int x1), (2, .int x2), (3, .int x3), (4, .int x4)]) hx hb d_Mo_street_60 hl (by decide) rfl (fun ls hl => ?_)
            refine lv_iload hx hb d_Mo_street_62 (lv_at hl 0 rfl) ?_
            refine lv_if_eq (tgt := 107) hx hb d_Mo_street_64 (by decide) (fun h => absurd h (by decide)) (fun _ => ?_)
            refine lv_iload_n hx hb d_Mo_street_67 rfl (lv_at hl 2 rfl) ?_
            refine lv_iload_n hx hb d_Mo_street_68 rfl (lv_at hl 3 rfl) ?_
            refine lv_icmp_ge (tgt := 78) hx hb d_Mo_street_69 (by decide) (fun c69_15 => ?_) (fun c69_15 => ?_)
            · have hF := dk_t c69_15 hF
              refine lv_iconst (v := (2 : Int32)) hx hb d_Mo_street_78 (by decide) ?_
              refine lv_iload_n hx hb d_Mo_street_79 rfl (lv_at hl 3 rfl) ?_
              refine lv_imul hx hb d_Mo_street_80 ?_
              refine lv_iconst (v := (1 : Int32)) hx hb d_Mo_street_81 (by decide) ?_
              refine lv_iadd hx hb d_Mo_street_82 ?_
              refine lv_istore (lv' := [(6, .int (((2 : Int32) * x2) + (1 : Int32))), (5, .int (1 : Int32)), (0, .ref t), (1, .int x1), (2, .int x2), (3, .int x3), (4, .int x4)]) hx hb d_Mo_street_83 hl (by decide) rfl (fun ls hl => ?_)
              refine lv_aload_n hx hb d_Mo_street_85 rfl (lv_at hl 2 rfl) ?_
              refine va_get (D := G) (ci := 8) (v := .ref t_seconds) (C := R_Mo) (T := F_Mo) (N := 24) hx hb hts i_Mo hown hK hP 0 rfl rfl 4 (by decide) (hts _ lk_428) (fun _ h9 => h9) rfl d_Mo_street_86 ?_
              refine lv_iload hx hb d_Mo_street_89 (lv_at hl 0 rfl) ?_
              refine lv_iload_n hx hb d_Mo_street_91 rfl (lv_at hl 5 rfl) ?_
              obtain ⟨hi, hF⟩ := dk_a hF
              refine va_iast (D := G) hx hb hK hP hD hS 1 0 rfl rfl (dk_vp hi) d_Mo_street_92 (fun H locs hP hD hS => ?_)
              have hP : va_P G classes [(t, .inr (8, [.int v_t_crossings, .ref t_greens, .ref t_leasts, .ref t_queues, .ref t_seconds, .ref t_weights, .int v_t_first, .int v_t_last, .int v_t_by, .int v_t_step, .int v_t_has, .int v_t_cycle, .int v_t_aim, .int v_t_proved, .ref t_offsets, .ref t_row, .ref t_open, .int v_t_arrivals, .ref t_places, .ref t_times, .ref t_cars, .ref t_hourCrossings, .ref t_hourCycles, .ref t_hourOffsets])), (t_seconds, .inl (K 0, 10, .inl (upd v_t_seconds (((2 : Int32) * x2) + (1 : Int32)).toNatClampNeg x3))), (t_weights, .inl (K 0, 10, .inl v_t_weights))] H := hP
              have hD : va_D A [(t, .inr (8, [.int v_t_crossings, .ref t_greens, .ref t_leasts, .ref t_queues, .ref t_seconds, .ref t_weights, .int v_t_first, .int v_t_last, .int v_t_by, .int v_t_step, .int v_t_has, .int v_t_cycle, .int v_t_aim, .int v_t_proved, .ref t_offsets, .ref t_row, .ref t_open, .int v_t_arrivals, .ref t_places, .ref t_times, .ref t_cars, .ref t_hourCrossings, .ref t_hourCycles, .ref t_hourOffsets])), (t_seconds, .inl (K 0, 10, .inl (upd v_t_seconds (((2 : Int32) * x2) + (1 : Int32)).toNatClampNeg x3))), (t_weights, .inl (K 0, 10, .inl v_t_weights))] := hD
              refine lv_aload_n hx hb d_Mo_street_93 rfl (lv_at hl 2 rfl) ?_
              refine va_get (D := G) (ci := 8) (v := .ref t_weights) (C := R_Mo) (T := F_Mo) (N := 24) hx hb hts i_Mo hown hK hP 0 rfl rfl 5 (by decide) (hts _ lk_429) (fun _ h9 => h9) rfl d_Mo_street_94 ?_
              refine lv_iload hx hb d_Mo_street_97 (lv_at hl 0 rfl) ?_
              refine lv_iload hx hb d_Mo_street_99 (lv_at hl 6 rfl) ?_
              obtain ⟨hi, hF⟩ := dk_a hF
              refine va_iast (D := G) hx hb hK hP hD hS 2 0 rfl rfl (dk_vp hi) d_Mo_street_101 (fun H locs hP hD hS => ?_)
              have hP : va_P G classes [(t, .inr (8, [.int v_t_crossings, .ref t_greens, .ref t_leasts, .ref t_queues, .ref t_seconds, .ref t_weights, .int v_t_first, .int v_t_last, .int v_t_by, .int v_t_step, .int v_t_has, .int v_t_cycle, .int v_t_aim, .int v_t_proved, .ref t_offsets, .ref t_row, .ref t_open, .int v_t_arrivals, .ref t_places, .ref t_times, .ref t_cars, .ref t_hourCrossings, .ref t_hourCycles, .ref t_hourOffsets])), (t_seconds, .inl (K 0, 10, .inl (upd v_t_seconds (((2 : Int32) * x2) + (1 : Int32)).toNatClampNeg x3))), (t_weights, .inl (K 0, 10, .inl (upd v_t_weights (((2 : Int32) * x2) + (1 : Int32)).toNatClampNeg x4)))] H := hP
              have hD : va_D A [(t, .inr (8, [.int v_t_crossings, .ref t_greens, .ref t_leasts, .ref t_queues, .ref t_seconds, .ref t_weights, .int v_t_first, .int v_t_last, .int v_t_by, .int v_t_step, .int v_t_has, .int v_t_cycle, .int v_t_aim, .int v_t_proved, .ref t_offsets, .ref t_row, .ref t_open, .int v_t_arrivals, .ref t_places, .ref t_times, .ref t_cars, .ref t_hourCrossings, .ref t_hourCycles, .ref t_hourOffsets])), (t_seconds, .inl (K 0, 10, .inl (upd v_t_seconds (((2 : Int32) * x2) + (1 : Int32)).toNatClampNeg x3))), (t_weights, .inl (K 0, 10, .inl (upd v_t_weights (((2 : Int32) * x2) + (1 : Int32)).toNatClampNeg x4)))] := hD
              refine lv_aload_n hx hb d_Mo_street_102 rfl (lv_at hl 2 rfl) ?_
              refine lv_iconst (v := (0 : Int32)) hx hb d_Mo_street_103 (by decide) ?_
              refine va_put (D := G) (ci := 8) (v := .int (0 : Int32)) (ty := .boolean) (C := R_Mo) (T := F_Mo) (N := 24) hx hb hts i_Mo t_Mo t_Mo_ok n_Mo hown hK hP hD hS 0 rfl rfl 10 (by decide) (hts _ lk_427) (fun _ h9 => h9) rfl (by decide +kernel) rfl rfl (Nat.le_of_ble_eq_true rfl) d_Mo_street_104 (fun H locs hP hD hS => ?_)
              have hP : va_P G classes [(t, .inr (8, [.int v_t_crossings, .ref t_greens, .ref t_leasts, .ref t_queues, .ref t_seconds, .ref t_weights, .int v_t_first, .int v_t_last, .int v_t_by, .int v_t_step, .int (0 : Int32), .int v_t_cycle, .int v_t_aim, .int v_t_proved, .ref t_offsets, .ref t_row, .ref t_open, .int v_t_arrivals, .ref t_places, .ref t_times, .ref t_cars, .ref t_hourCrossings, .ref t_hourCycles, .ref t_hourOffsets])), (t_seconds, .inl (K 0, 10, .inl (upd v_t_seconds (((2 : Int32) * x2) + (1 : Int32)).toNatClampNeg x3))), (t_weights, .inl (K 0, 10, .inl (upd v_t_weights (((2 : Int32) * x2) + (1 : Int32)).toNatClampNeg x4)))] H := hP
              have hD : va_D A [(t, .inr (8, [.int v_t_crossings, .ref t_greens, .ref t_leasts, .ref t_queues, .ref t_seconds, .ref t_weights, .int v_t_first, .int v_t_last, .int v_t_by, .int v_t_step, .int (0 : Int32), .int v_t_cycle, .int v_t_aim, .int v_t_proved, .ref t_offsets, .ref t_row, .ref t_open, .int v_t_arrivals, .ref t_places, .ref t_times, .ref t_cars, .ref t_hourCrossings, .ref t_hourCycles, .ref t_hourOffsets])), (t_seconds, .inl (K 0, 10, .inl (upd v_t_seconds (((2 : Int32) * x2) + (1 : Int32)).toNatClampNeg x3))), (t_weights, .inl (K 0, 10, .inl (upd v_t_weights (((2 : Int32) * x2) + (1 : Int32)).toNatClampNeg x4)))] := hD
              refine lv_iload hx hb d_Mo_street_107 (lv_at hl 1 rfl) ?_
              obtain rfl := Option.some.inj hF
              exact W.zret (v := (1 : Int32)) hx hb hr rfl (fun t ht hW => ⟨⟨(), rfl, by rw [ht]; exact hP, hD⟩, hS.F ht⟩) hS.2.2 d_Mo_street_109
            · have hF := dk_f c69_15 hF
              refine lv_iconst (v := (2 : Int32)) hx hb d_Mo_street_72 (by decide) ?_
              refine lv_iload_n hx hb d_Mo_street_73 rfl (lv_at hl 2 rfl) ?_
              refine lv_imul hx hb d_Mo_street_74 ?_
              refine lv_goto (tgt := 83) hx hb d_Mo_street_75 (by decide) ?_
              refine lv_istore (lv' := [(6, .int ((2 : Int32) * x1)), (5, .int (1 : Int32)), (0, .ref t), (1, .int x1), (2, .int x2), (3, .int x3), (4, .int x4)]) hx hb d_Mo_street_83 hl (by decide) rfl (fun ls hl => ?_)
              refine lv_aload_n hx hb d_Mo_street_85 rfl (lv_at hl 2 rfl) ?_
              refine va_get (D := G) (ci := 8) (v := .ref t_seconds) (C := R_Mo) (T := F_Mo) (N := 24) hx hb hts i_Mo hown hK hP 0 rfl rfl 4 (by decide) (hts _ lk_428) (fun _ h9 => h9) rfl d_Mo_street_86 ?_
              refine lv_iload hx hb d_Mo_street_89 (lv_at hl 0 rfl) ?_
              refine lv_iload_n hx hb d_Mo_street_91 rfl (lv_at hl 5 rfl) ?_
              obtain ⟨hi, hF⟩ := dk_a hF
              refine va_iast (D := G) hx hb hK hP hD hS 1 0 rfl rfl (dk_vp hi) d_Mo_street_92 (fun H locs hP hD hS => ?_)
              have hP : va_P G classes [(t, .inr (8, [.int v_t_crossings, .ref t_greens, .ref t_leasts, .ref t_queues, .ref t_seconds, .ref t_weights, .int v_t_first, .int v_t_last, .int v_t_by, .int v_t_step, .int v_t_has, .int v_t_cycle, .int v_t_aim, .int v_t_proved, .ref t_offsets, .ref t_row, .ref t_open, .int v_t_arrivals, .ref t_places, .ref t_times, .ref t_cars, .ref t_hourCrossings, .ref t_hourCycles, .ref t_hourOffsets])), (t_seconds, .inl (K 0, 10, .inl (upd v_t_seconds ((2 : Int32) * x1).toNatClampNeg x3))), (t_weights, .inl (K 0, 10, .inl v_t_weights))] H := hP
              have hD : va_D A [(t, .inr (8, [.int v_t_crossings, .ref t_greens, .ref t_leasts, .ref t_queues, .ref t_seconds, .ref t_weights, .int v_t_first, .int v_t_last, .int v_t_by, .int v_t_step, .int v_t_has, .int v_t_cycle, .int v_t_aim, .int v_t_proved, .ref t_offsets, .ref t_row, .ref t_open, .int v_t_arrivals, .ref t_places, .ref t_times, .ref t_cars, .ref t_hourCrossings, .ref t_hourCycles, .ref t_hourOffsets])), (t_seconds, .inl (K 0, 10, .inl (upd v_t_seconds ((2 : Int32) * x1).toNatClampNeg x3))), (t_weights, .inl (K 0, 10, .inl v_t_weights))] := hD
              refine lv_aload_n hx hb d_Mo_street_93 rfl (lv_at hl 2 rfl) ?_
              refine va_get (D := G) (ci := 8) (v := .ref t_weights) (C := R_Mo) (T := F_Mo) (N := 24) hx hb hts i_Mo hown hK hP 0 rfl rfl 5 (by decide) (hts _ lk_429) (fun _ h9 => h9) rfl d_Mo_street_94 ?_
              refine lv_iload hx hb d_Mo_street_97 (lv_at hl 0 rfl) ?_
              refine lv_iload hx hb d_Mo_street_99 (lv_at hl 6 rfl) ?_
              obtain ⟨hi, hF⟩ := dk_a hF
              refine va_iast (D := G) hx hb hK hP hD hS 2 0 rfl rfl (dk_vp hi) d_Mo_street_101 (fun H locs hP hD hS => ?_)
              have hP : va_P G classes [(t, .inr (8, [.int v_t_crossings, .ref t_greens, .ref t_leasts, .ref t_queues, .ref t_seconds, .ref t_weights, .int v_t_first, .int v_t_last, .int v_t_by, .int v_t_step, .int v_t_has, .int v_t_cycle, .int v_t_aim, .int v_t_proved, .ref t_offsets, .ref t_row, .ref t_open, .int v_t_arrivals, .ref t_places, .ref t_times, .ref t_cars, .ref t_hourCrossings, .ref t_hourCycles, .ref t_hourOffsets])), (t_seconds, .inl (K 0, 10, .inl (upd v_t_seconds ((2 : Int32) * x1).toNatClampNeg x3))), (t_weights, .inl (K 0, 10, .inl (upd v_t_weights ((2 : Int32) * x1).toNatClampNeg x4)))] H := hP
              have hD : va_D A [(t, .inr (8, [.int v_t_crossings, .ref t_greens, .ref t_leasts, .ref t_queues, .ref t_seconds, .ref t_weights, .int v_t_first, .int v_t_last, .int v_t_by, .int v_t_step, .int v_t_has, .int v_t_cycle, .int v_t_aim, .int v_t_proved, .ref t_offsets, .ref t_row, .ref t_open, .int v_t_arrivals, .ref t_places, .ref t_times, .ref t_cars, .ref t_hourCrossings, .ref t_hourCycles, .ref t_hourOffsets])), (t_seconds, .inl (K 0, 10, .inl (upd v_t_seconds ((2 : Int32) * x1).toNatClampNeg x3))), (t_weights, .inl (K 0, 10, .inl (upd v_t_weights ((2 : Int32) * x1).toNatClampNeg x4)))] := hD
              refine lv_aload_n hx hb d_Mo_street_102 rfl (lv_at hl 2 rfl) ?_
              refine lv_iconst (v := (0 : Int32)) hx hb d_Mo_street_103 (by decide) ?_
              refine va_put (D := G) (ci := 8) (v := .int (0 : Int32)) (ty := .boolean) (C := R_Mo) (T := F_Mo) (N := 24) hx hb hts i_Mo t_Mo t_Mo_ok n_Mo hown hK hP hD hS 0 rfl rfl 10 (by decide) (hts _ lk_427) (fun _ h9 => h9) rfl (by decide +kernel) rfl rfl (Nat.le_of_ble_eq_true rfl) d_Mo_street_104 (fun H locs hP hD hS => ?_)
              have hP : va_P G classes [(t, .inr (8, [.int v_t_crossings, .ref t_greens, .ref t_leasts, .ref t_queues, .ref t_seconds, .ref t_weights, .int v_t_first, .int v_t_last, .int v_t_by, .int v_t_step, .int (0 : Int32), .int v_t_cycle, .int v_t_aim, .int v_t_proved, .ref t_offsets, .ref t_row, .ref t_open, .int v_t_arrivals, .ref t_places, .ref t_times, .ref t_cars, .ref t_hourCrossings, .ref t_hourCycles, .ref t_hourOffsets])), (t_seconds, .inl (K 0, 10, .inl (upd v_t_seconds ((2 : Int32) * x1).toNatClampNeg x3))), (t_weights, .inl (K 0, 10, .inl (upd v_t_weights ((2 : Int32) * x1).toNatClampNeg x4)))] H := hP
              have hD : va_D A [(t, .inr (8, [.int v_t_crossings, .ref t_greens, .ref t_leasts, .ref t_queues, .ref t_seconds, .ref t_weights, .int v_t_first, .int v_t_last, .int v_t_by, .int v_t_step, .int (0 : Int32), .int v_t_cycle, .int v_t_aim, .int v_t_proved, .ref t_offsets, .ref t_row, .ref t_open, .int v_t_arrivals, .ref t_places, .ref t_times, .ref t_cars, .ref t_hourCrossings, .ref t_hourCycles, .ref t_hourOffsets])), (t_seconds, .inl (K 0, 10, .inl (upd v_t_seconds ((2 : Int32) * x1).toNatClampNeg x3))), (t_weights, .inl (K 0, 10, .inl (upd v_t_weights ((2 : Int32) * x1).toNatClampNeg x4)))] := hD
              refine lv_iload hx hb d_Mo_street_107 (lv_at hl 1 rfl) ?_
              obtain rfl := Option.some.inj hF
              exact W.zret (v := (1 : Int32)) hx hb hr rfl (fun t ht hW => ⟨⟨(), rfl, by rw [ht]; exact hP, hD⟩, hS.F ht⟩) hS.2.2 d_Mo_street_109
      · have hF := dk_f c20_7 hF
        refine lv_iload_n hx hb d_Mo_street_23 rfl (lv_at hl 2 rfl) ?_
        refine lv_iload_n hx hb d_Mo_street_24 rfl (lv_at hl 1 rfl) ?_
        refine lv_isub hx hb d_Mo_street_25 ?_
        refine lv_iconst (v := (1 : Int32)) hx hb d_Mo_street_26 (by decide) ?_
        refine lv_icmp_ne (tgt := 59) hx hb d_Mo_street_27 (by decide) (fun c27_16 => ?_) (fun c27_16 => ?_)
        · have hF := dk_f c27_16 hF
          refine lv_iconst (v := (0 : Int32)) hx hb d_Mo_street_59 (by decide) ?_
          refine lv_istore (lv' := [(5, .int (0 : Int32)), (0, .ref t), (1, .int x1), (2, .int x2), (3, .int x3), (4, .int x4)]) hx hb d_Mo_street_60 hl (by decide) rfl (fun ls hl => ?_)
          refine lv_iload hx hb d_Mo_street_62 (lv_at hl 0 rfl) ?_
          refine lv_if_eq (tgt := 107) hx hb d_Mo_street_64 (by decide) (fun _ => ?_) (fun h => absurd h (by decide))
          refine lv_iload hx hb d_Mo_street_107 (lv_at hl 0 rfl) ?_
          obtain rfl := Option.some.inj hF
          exact W.zret (v := (0 : Int32)) hx hb hr rfl (fun t ht hW => ⟨⟨(), rfl, by rw [ht]; exact hP, hD⟩, hS.F ht⟩) hS.2.2 d_Mo_street_109
        · have hF := dk_t c27_16 hF
          refine lv_iload_n hx hb d_Mo_street_30 rfl (lv_at hl 3 rfl) ?_
          refine lv_i2l hx hb d_Mo_street_31 rfl ?_
          refine lv_lconst (v := (1 : Int64)) hx hb d_Mo_street_32 (by decide) ?_
          refine lv_ldc2 (own := R_Mo) (index := 89) (v := (200 : Int64)) hx hb hown (hts _ lk_434) d_Mo_street_33 ?_
          obtain ⟨r36_18, hC, hF⟩ := dk_b hF
          refine dk_pure (va_runS (As := [.long x3.toInt64, .long (1 : Int64), .long (200 : Int64)]) (rest := []) hfix (c_Mo_isIn l G K n x3.toInt64 (1 : Int64) (200 : Int64) r36_18 hC) (va_cwS 3 hts (gd_S lk_416 lk_418 lk_419 lk_417) rfl rfl rfl (by decide +kernel) ⟨Nat.le_of_ble_eq_true rfl, Nat.le_of_ble_eq_true rfl⟩) (dk_preS hK hN (hP.sub [] rfl)) rfl rfl hl.1 rfl (lv_room (Nat.le_of_ble_eq_true rfl)) d_Mo_street_36 ⟨Nat.le_of_ble_eq_true rfl, Nat.le_of_ble_eq_true rfl⟩) ?_
          refine lv_if_eq (tgt := 59) hx hb d_Mo_street_39 (by decide) (fun c39_19 => ?_) (fun c39_19 => ?_)
          · have hF := dk_t c39_19 hF
            refine lv_iconst (v := (0 : Int32)) hx hb d_Mo_street_59 (by decide) ?_
            refine lv_istore (lv' := [(5, .int (0 : Int32)), (0, .ref t), (1, .int x1), (2, .int x2), (3, .int x3), (4, .int x4)]) hx hb d_Mo_street_60 hl (by decide) rfl (fun ls hl => ?_)
            refine lv_iload hx hb d_Mo_street_62 (lv_at hl 0 rfl) ?_
            refine lv_if_eq (tgt := 107) hx hb d_Mo_street_64 (by decide) (fun _ => ?_) (fun h => absurd h (by decide))
            refine lv_iload hx hb d_Mo_street_107 (lv_at hl 0 rfl) ?_
            obtain rfl := Option.some.inj hF
            exact W.zret (v := (0 : Int32)) hx hb hr rfl (fun t ht hW => ⟨⟨(), rfl, by rw [ht]; exact hP, hD⟩, hS.F ht⟩) hS.2.2 d_Mo_street_109
          · have hF := dk_f c39_19 hF
            refine lv_iload hx hb d_Mo_street_42 (lv_at hl 4 rfl) ?_
            refine lv_i2l hx hb d_Mo_street_44 rfl ?_
            refine lv_lconst (v := (0 : Int64)) hx hb d_Mo_street_45 (by decide) ?_
            refine lv_ldc2 (own := R_Mo) (index := 91) (v := (100 : Int64)) hx hb hown (hts _ lk_435) d_Mo_street_46 ?_
            obtain ⟨r49_21, hC, hF⟩ := dk_b hF
            refine dk_pure (va_runS (As := [.long x4.toInt64, .long (0 : Int64), .long (100 : Int64)]) (rest := []) hfix (c_Mo_isIn l G K n x4.toInt64 (0 : Int64) (100 : Int64) r49_21 hC) (va_cwS 3 hts (gd_S lk_416 lk_418 lk_419 lk_417) rfl rfl rfl (by decide +kernel) ⟨Nat.le_of_ble_eq_true rfl, Nat.le_of_ble_eq_true rfl⟩) (dk_preS hK hN (hP.sub [] rfl)) rfl rfl hl.1 rfl (lv_room (Nat.le_of_ble_eq_true rfl)) d_Mo_street_49 ⟨Nat.le_of_ble_eq_true rfl, Nat.le_of_ble_eq_true rfl⟩) ?_
            refine lv_if_eq (tgt := 59) hx hb d_Mo_street_52 (by decide) (fun c52_22 => ?_) (fun c52_22 => ?_)
            · have hF := dk_t c52_22 hF
              refine lv_iconst (v := (0 : Int32)) hx hb d_Mo_street_59 (by decide) ?_
              refine lv_istore (lv' := [(5, .int (0 : Int32)), (0, .ref t), (1, .int x1), (2, .int x2), (3, .int x3), (4, .int x4)]) hx hb d_Mo_street_60 hl (by decide) rfl (fun ls hl => ?_)
              refine lv_iload hx hb d_Mo_street_62 (lv_at hl 0 rfl) ?_
              refine lv_if_eq (tgt := 107) hx hb d_Mo_street_64 (by decide) (fun _ => ?_) (fun h => absurd h (by decide))
              refine lv_iload hx hb d_Mo_street_107 (lv_at hl 0 rfl) ?_
              obtain rfl := Option.some.inj hF
              exact W.zret (v := (0 : Int32)) hx hb hr rfl (fun t ht hW => ⟨⟨(), rfl, by rw [ht]; exact hP, hD⟩, hS.F ht⟩) hS.2.2 d_Mo_street_109
            · have hF := dk_f c52_22 hF
              refine lv_iconst (v := (1 : Int32)) hx hb d_Mo_street_55 (by decide) ?_
              refine lv_goto (tgt := 60) hx hb d_Mo_street_56 (by decide) ?_
              refine lv_istore (lv' := [(5, .int (1 : Int32)), (0, .ref t), (1, .int x1), (2, .int x2), (3, .int x3), (4, .int x4)]) hx hb d_Mo_street_60 hl (by decide) rfl (fun ls hl => ?_)
              refine lv_iload hx hb d_Mo_street_62 (lv_at hl 0 rfl) ?_
              refine lv_if_eq (tgt := 107) hx hb d_Mo_street_64 (by decide) (fun h => absurd h (by decide)) (fun _ => ?_)
              refine lv_iload_n hx hb d_Mo_street_67 rfl (lv_at hl 2 rfl) ?_
              refine lv_iload_n hx hb d_Mo_street_68 rfl (lv_at hl 3 rfl) ?_
              refine lv_icmp_ge (tgt := 78) hx hb d_Mo_street_69 (by decide) (fun c69_25 => ?_) (fun c69_25 => ?_)
              · have hF := dk_t c69_25 hF
                refine lv_iconst (v := (2 : Int32)) hx hb d_Mo_street_78 (by decide) ?_
                refine lv_iload_n hx hb d_Mo_street_79 rfl (lv_at hl 3 rfl) ?_
                refine lv_imul hx hb d_Mo_street_80 ?_
                refine lv_iconst (v := (1 : Int32)) hx hb d_Mo_street_81 (by decide) ?_
                refine lv_iadd hx hb d_Mo_street_82 ?_
                refine lv_istore (lv' := [(6, .int (((2 : Int32) * x2) + (1 : Int32))), (5, .int (1 : Int32)), (0, .ref t), (1, .int x1), (2, .int x2), (3, .int x3), (4, .int x4)]) hx hb d_Mo_street_83 hl (by decide) rfl (fun ls hl => ?_)
                refine lv_aload_n hx hb d_Mo_street_85 rfl (lv_at hl 2 rfl) ?_
                refine va_get (D := G) (ci := 8) (v := .ref t_seconds) (C := R_Mo) (T := F_Mo) (N := 24) hx hb hts i_Mo hown hK hP 0 rfl rfl 4 (by decide) (hts _ lk_428) (fun _ h9 => h9) rfl d_Mo_street_86 ?_
                refine lv_iload hx hb d_Mo_street_89 (lv_at hl 0 rfl) ?_
                refine lv_iload_n hx hb d_Mo_street_91 rfl (lv_at hl 5 rfl) ?_
                obtain ⟨hi, hF⟩ := dk_a hF
                refine va_iast (D := G) hx hb hK hP hD hS 1 0 rfl rfl (dk_vp hi) d_Mo_street_92 (fun H locs hP hD hS => ?_)
                have hP : va_P G classes [(t, .inr (8, [.int v_t_crossings, .ref t_greens, .ref t_leasts, .ref t_queues, .ref t_seconds, .ref t_weights, .int v_t_first, .int v_t_last, .int v_t_by, .int v_t_step, .int v_t_has, .int v_t_cycle, .int v_t_aim, .int v_t_proved, .ref t_offsets, .ref t_row, .ref t_open, .int v_t_arrivals, .ref t_places, .ref t_times, .ref t_cars, .ref t_hourCrossings, .ref t_hourCycles, .ref t_hourOffsets])), (t_seconds, .inl (K 0, 10, .inl (upd v_t_seconds (((2 : Int32) * x2) + (1 : Int32)).toNatClampNeg x3))), (t_weights, .inl (K 0, 10, .inl v_t_weights))] H := hP
                have hD : va_D A [(t, .inr (8, [.int v_t_crossings, .ref t_greens, .ref t_leasts, .ref t_queues, .ref t_seconds, .ref t_weights, .int v_t_first, .int v_t_last, .int v_t_by, .int v_t_step, .int v_t_has, .int v_t_cycle, .int v_t_aim, .int v_t_proved, .ref t_offsets, .ref t_row, .ref t_open, .int v_t_arrivals, .ref t_places, .ref t_times, .ref t_cars, .ref t_hourCrossings, .ref t_hourCycles, .ref t_hourOffsets])), (t_seconds, .inl (K 0, 10, .inl (upd v_t_seconds (((2 : Int32) * x2) + (1 : Int32)).toNatClampNeg x3))), (t_weights, .inl (K 0, 10, .inl v_t_weights))] := hD
                refine lv_aload_n hx hb d_Mo_street_93 rfl (lv_at hl 2 rfl) ?_
                refine va_get (D := G) (ci := 8) (v := .ref t_weights) (C := R_Mo) (T := F_Mo) (N := 24) hx hb hts i_Mo hown hK hP 0 rfl rfl 5 (by decide) (hts _ lk_429) (fun _ h9 => h9) rfl d_Mo_street_94 ?_
                refine lv_iload hx hb d_Mo_street_97 (lv_at hl 0 rfl) ?_
                refine lv_iload hx hb d_Mo_street_99 (lv_at hl 6 rfl) ?_
                obtain ⟨hi, hF⟩ := dk_a hF
                refine va_iast (D := G) hx hb hK hP hD hS 2 0 rfl rfl (dk_vp hi) d_Mo_street_101 (fun H locs hP hD hS => ?_)
                have hP : va_P G classes [(t, .inr (8, [.int v_t_crossings, .ref t_greens, .ref t_leasts, .ref t_queues, .ref t_seconds, .ref t_weights, .int v_t_first, .int v_t_last, .int v_t_by, .int v_t_step, .int v_t_has, .int v_t_cycle, .int v_t_aim, .int v_t_proved, .ref t_offsets, .ref t_row, .ref t_open, .int v_t_arrivals, .ref t_places, .ref t_times, .ref t_cars, .ref t_hourCrossings, .ref t_hourCycles, .ref t_hourOffsets])), (t_seconds, .inl (K 0, 10, .inl (upd v_t_seconds (((2 : Int32) * x2) + (1 : Int32)).toNatClampNeg x3))), (t_weights, .inl (K 0, 10, .inl (upd v_t_weights (((2 : Int32) * x2) + (1 : Int32)).toNatClampNeg x4)))] H := hP
                have hD : va_D A [(t, .inr (8, [.int v_t_crossings, .ref t_greens, .ref t_leasts, .ref t_queues, .ref t_seconds, .ref t_weights, .int v_t_first, .int v_t_last, .int v_t_by, .int v_t_step, .int v_t_has, .int v_t_cycle, .int v_t_aim, .int v_t_proved, .ref t_offsets, .ref t_row, .ref t_open, .int v_t_arrivals, .ref t_places, .ref t_times, .ref t_cars, .ref t_hourCrossings, .ref t_hourCycles, .ref t_hourOffsets])), (t_seconds, .inl (K 0, 10, .inl (upd v_t_seconds (((2 : Int32) * x2) + (1 : Int32)).toNatClampNeg x3))), (t_weights, .inl (K 0, 10, .inl (upd v_t_weights (((2 : Int32) * x2) + (1 : Int32)).toNatClampNeg x4)))] := hD
                refine lv_aload_n hx hb d_Mo_street_102 rfl (lv_at hl 2 rfl) ?_
                refine lv_iconst (v := (0 : Int32)) hx hb d_Mo_street_103 (by decide) ?_
                refine va_put (D := G) (ci := 8) (v := .int (0 : Int32)) (ty := .boolean) (C := R_Mo) (T := F_Mo) (N := 24) hx hb hts i_Mo t_Mo t_Mo_ok n_Mo hown hK hP hD hS 0 rfl rfl 10 (by decide) (hts _ lk_427) (fun _ h9 => h9) rfl (by decide +kernel) rfl rfl (Nat.le_of_ble_eq_true rfl) d_Mo_street_104 (fun H locs hP hD hS => ?_)
                have hP : va_P G classes [(t, .inr (8, [.int v_t_crossings, .ref t_greens, .ref t_leasts, .ref t_queues, .ref t_seconds, .ref t_weights, .int v_t_first, .int v_t_last, .int v_t_by, .int v_t_step, .int (0 : Int32), .int v_t_cycle, .int v_t_aim, .int v_t_proved, .ref t_offsets, .ref t_row, .ref t_open, .int v_t_arrivals, .ref t_places, .ref t_times, .ref t_cars, .ref t_hourCrossings, .ref t_hourCycles, .ref t_hourOffsets])), (t_seconds, .inl (K 0, 10, .inl (upd v_t_seconds (((2 : Int32) * x2) + (1 : Int32)).toNatClampNeg x3))), (t_weights, .inl (K 0, 10, .inl (upd v_t_weights (((2 : Int32) * x2) + (1 : Int32)).toNatClampNeg x4)))] H := hP
                have hD : va_D A [(t, .inr (8, [.int v_t_crossings, .ref t_greens, .ref t_leasts, .ref t_queues, .ref t_seconds, .ref t_weights, .int v_t_first, .int v_t_last, .int v_t_by, .int v_t_step, .int (0 : Int32), .int v_t_cycle, .int v_t_aim, .int v_t_proved, .ref t_offsets, .ref t_row, .ref t_open, .int v_t_arrivals, .ref t_places, .ref t_times, .ref t_cars, .ref t_hourCrossings, .ref t_hourCycles, .ref t_hourOffsets])), (t_seconds, .inl (K 0, 10, .inl (upd v_t_seconds (((2 : Int32) * x2) + (1 : Int32)).toNatClampNeg x3))), (t_weights, .inl (K 0, 10, .inl (upd v_t_weights (((2 : Int32) * x2) + (1 : Int32)).toNatClampNeg x4)))] := hD
                refine lv_iload hx hb d_Mo_street_107 (lv_at hl 1 rfl) ?_
                obtain rfl := Option.some.inj hF
                exact W.zret (v := (1 : Int32)) hx hb hr rfl (fun t ht hW => ⟨⟨(), rfl, by rw [ht]; exact hP, hD⟩, hS.F ht⟩) hS.2.2 d_Mo_street_109
              · have hF := dk_f c69_25 hF
                refine lv_iconst (v := (2 : Int32)) hx hb d_Mo_street_72 (by decide) ?_
                refine lv_iload_n hx hb d_Mo_street_73 rfl (lv_at hl 2 rfl) ?_
                refine lv_imul hx hb d_Mo_street_74 ?_
                refine lv_goto (tgt := 83) hx hb d_Mo_street_75 (by decide) ?_
                refine lv_istore (lv' := [(6, .int ((2 : Int32) * x1)), (5, .int (1 : Int32)), (0, .ref t), (1, .int x1), (2, .int x2), (3, .int x3), (4, .int x4)]) hx hb d_Mo_street_83 hl (by decide) rfl (fun ls hl => ?_)
                refine lv_aload_n hx hb d_Mo_street_85 rfl (lv_at hl 2 rfl) ?_
                refine va_get (D := G) (ci := 8) (v := .ref t_seconds) (C := R_Mo) (T := F_Mo) (N := 24) hx hb hts i_Mo hown hK hP 0 rfl rfl 4 (by decide) (hts _ lk_428) (fun _ h9 => h9) rfl d_Mo_street_86 ?_
                refine lv_iload hx hb d_Mo_street_89 (lv_at hl 0 rfl) ?_
                refine lv_iload_n hx hb d_Mo_street_91 rfl (lv_at hl 5 rfl) ?_
                obtain ⟨hi, hF⟩ := dk_a hF
                refine va_iast (D := G) hx hb hK hP hD hS 1 0 rfl rfl (dk_vp hi) d_Mo_street_92 (fun H locs hP hD hS => ?_)
                have hP : va_P G classes [(t, .inr (8, [.int v_t_crossings, .ref t_greens, .ref t_leasts, .ref t_queues, .ref t_seconds, .ref t_weights, .int v_t_first, .int v_t_last, .int v_t_by, .int v_t_step, .int v_t_has, .int v_t_cycle, .int v_t_aim, .int v_t_proved, .ref t_offsets, .ref t_row, .ref t_open, .int v_t_arrivals, .ref t_places, .ref t_times, .ref t_cars, .ref t_hourCrossings, .ref t_hourCycles, .ref t_hourOffsets])), (t_seconds, .inl (K 0, 10, .inl (upd v_t_seconds ((2 : Int32) * x1).toNatClampNeg x3))), (t_weights, .inl (K 0, 10, .inl v_t_weights))] H := hP
                have hD : va_D A [(t, .inr (8, [.int v_t_crossings, .ref t_greens, .ref t_leasts, .ref t_queues, .ref t_seconds, .ref t_weights, .int v_t_first, .int v_t_last, .int v_t_by, .int v_t_step, .int v_t_has, .int v_t_cycle, .int v_t_aim, .int v_t_proved, .ref t_offsets, .ref t_row, .ref t_open, .int v_t_arrivals, .ref t_places, .ref t_times, .ref t_cars, .ref t_hourCrossings, .ref t_hourCycles, .ref t_hourOffsets])), (t_seconds, .inl (K 0, 10, .inl (upd v_t_seconds ((2 : Int32) * x1).toNatClampNeg x3))), (t_weights, .inl (K 0, 10, .inl v_t_weights))] := hD
                refine lv_aload_n hx hb d_Mo_street_93 rfl (lv_at hl 2 rfl) ?_
                refine va_get (D := G) (ci := 8) (v := .ref t_weights) (C := R_Mo) (T := F_Mo) (N := 24) hx hb hts i_Mo hown hK hP 0 rfl rfl 5 (by decide) (hts _ lk_429) (fun _ h9 => h9) rfl d_Mo_street_94 ?_
                refine lv_iload hx hb d_Mo_street_97 (lv_at hl 0 rfl) ?_
                refine lv_iload hx hb d_Mo_street_99 (lv_at hl 6 rfl) ?_
                obtain ⟨hi, hF⟩ := dk_a hF
                refine va_iast (D := G) hx hb hK hP hD hS 2 0 rfl rfl (dk_vp hi) d_Mo_street_101 (fun H locs hP hD hS => ?_)
                have hP : va_P G classes [(t, .inr (8, [.int v_t_crossings, .ref t_greens, .ref t_leasts, .ref t_queues, .ref t_seconds, .ref t_weights, .int v_t_first, .int v_t_last, .int v_t_by, .int v_t_step, .int v_t_has, .int v_t_cycle, .int v_t_aim, .int v_t_proved, .ref t_offsets, .ref t_row, .ref t_open, .int v_t_arrivals, .ref t_places, .ref t_times, .ref t_cars, .ref t_hourCrossings, .ref t_hourCycles, .ref t_hourOffsets])), (t_seconds, .inl (K 0, 10, .inl (upd v_t_seconds ((2 : Int32) * x1).toNatClampNeg x3))), (t_weights, .inl (K 0, 10, .inl (upd v_t_weights ((2 : Int32) * x1).toNatClampNeg x4)))] H := hP
                have hD : va_D A [(t, .inr (8, [.int v_t_crossings, .ref t_greens, .ref t_leasts, .ref t_queues, .ref t_seconds, .ref t_weights, .int v_t_first, .int v_t_last, .int v_t_by, .int v_t_step, .int v_t_has, .int v_t_cycle, .int v_t_aim, .int v_t_proved, .ref t_offsets, .ref t_row, .ref t_open, .int v_t_arrivals, .ref t_places, .ref t_times, .ref t_cars, .ref t_hourCrossings, .ref t_hourCycles, .ref t_hourOffsets])), (t_seconds, .inl (K 0, 10, .inl (upd v_t_seconds ((2 : Int32) * x1).toNatClampNeg x3))), (t_weights, .inl (K 0, 10, .inl (upd v_t_weights ((2 : Int32) * x1).toNatClampNeg x4)))] := hD
                refine lv_aload_n hx hb d_Mo_street_102 rfl (lv_at hl 2 rfl) ?_
                refine lv_iconst (v := (0 : Int32)) hx hb d_Mo_street_103 (by decide) ?_
                refine va_put (D := G) (ci := 8) (v := .int (0 : Int32)) (ty := .boolean) (C := R_Mo) (T := F_Mo) (N := 24) hx hb hts i_Mo t_Mo t_Mo_ok n_Mo hown hK hP hD hS 0 rfl rfl 10 (by decide) (hts _ lk_427) (fun _ h9 => h9) rfl (by decide +kernel) rfl rfl (Nat.le_of_ble_eq_true rfl) d_Mo_street_104 (fun H locs hP hD hS => ?_)
                have hP : va_P G classes [(t, .inr (8, [.int v_t_crossings, .ref t_greens, .ref t_leasts, .ref t_queues, .ref t_seconds, .ref t_weights, .int v_t_first, .int v_t_last, .int v_t_by, .int v_t_step, .int (0 : Int32), .int v_t_cycle, .int v_t_aim, .int v_t_proved, .ref t_offsets, .ref t_row, .ref t_open, .int v_t_arrivals, .ref t_places, .ref t_times, .ref t_cars, .ref t_hourCrossings, .ref t_hourCycles, .ref t_hourOffsets])), (t_seconds, .inl (K 0, 10, .inl (upd v_t_seconds ((2 : Int32) * x1).toNatClampNeg x3))), (t_weights, .inl (K 0, 10, .inl (upd v_t_weights ((2 : Int32) * x1).toNatClampNeg x4)))] H := hP
                have hD : va_D A [(t, .inr (8, [.int v_t_crossings, .ref t_greens, .ref t_leasts, .ref t_queues, .ref t_seconds, .ref t_weights, .int v_t_first, .int v_t_last, .int v_t_by, .int v_t_step, .int (0 : Int32), .int v_t_cycle, .int v_t_aim, .int v_t_proved, .ref t_offsets, .ref t_row, .ref t_open, .int v_t_arrivals, .ref t_places, .ref t_times, .ref t_cars, .ref t_hourCrossings, .ref t_hourCycles, .ref t_hourOffsets])), (t_seconds, .inl (K 0, 10, .inl (upd v_t_seconds ((2 : Int32) * x1).toNatClampNeg x3))), (t_weights, .inl (K 0, 10, .inl (upd v_t_weights ((2 : Int32) * x1).toNatClampNeg x4)))] := hD
                refine lv_iload hx hb d_Mo_street_107 (lv_at hl 1 rfl) ?_
                obtain rfl := Option.some.inj hF
                exact W.zret (v := (1 : Int32)) hx hb hr rfl (fun t ht hW => ⟨⟨(), rfl, by rw [ht]; exact hP, hD⟩, hS.F ht⟩) hS.2.2 d_Mo_street_109
def p_Mo_cycles (n : Nat) (x1 : Int32) (x2 : Int32) (x3 : Int32) (v_t_first : Int32) (v_t_last : Int32) (v_t_by : Int32) (v_t_has : Int32) : Option (Int32 × Int32 × Int32 × Int32 × Int32) :=
  if x1 < (10 : Int32) then
    some ((0 : Int32), v_t_first, v_t_last, v_t_by, v_t_has)
  else
    if x2 < x1 then
      some ((0 : Int32), v_t_first, v_t_last, v_t_by, v_t_has)
    else
      if (120 : Int32) < x2 then
        some ((0 : Int32), v_t_first, v_t_last, v_t_by, v_t_has)
      else
        (p_Mo_isIn n x3.toInt64 (1 : Int64) (110 : Int64)).bind fun r23_7 =>
        if r23_7 = 0 then
          some ((0 : Int32), v_t_first, v_t_last, v_t_by, v_t_has)
        else
          some ((1 : Int32), x1, x2, x3, (0 : Int32))
abbrev m_Mo_cycles : Room := { frames := 1, cells := 0, slots := 0, locals := 25 }
set_option maxHeartbeats 4000000 in
set_option maxRecDepth 100000 in
theorem c_Mo_cycles (l : Launch) (G : va_G) (K : Nat → ClassId) (n : Nat) (sz : Nat) (t : Nat) (t_greens : Nat) (t_leasts : Nat) (t_queues : Nat) (t_seconds : Nat) (t_weights : Nat) (t_offsets : Nat) (t_row : Nat) (t_open : Nat) (t_places : Nat) (t_times : Nat) (t_cars : Nat) (t_hourCrossings : Nat) (t_hourCycles : Nat) (t_hourOffsets : Nat) (x1 : Int32) (x2 : Int32) (x3 : Int32) (v_t_crossings : Int32) (v_t_first : Int32) (v_t_last : Int32) (v_t_by : Int32) (v_t_step : Int32) (v_t_has : Int32) (v_t_cycle : Int32) (v_t_aim : Int32) (v_t_proved : Int32) (v_t_arrivals : Int32) (o : Int32 × Int32 × Int32 × Int32 × Int32) (hF : p_Mo_cycles n x1 x2 x3 v_t_first v_t_last v_t_by v_t_has = some o) :
    Met l y_Mo_cycles (wd y_Mo_cycles b_Mo_cycles 5 (some .boolean)) m_Mo_cycles (dk_Pm [.ref t, .int x1, .int x2, .int x3] G K [(t, .inr (8, [.int v_t_crossings, .ref t_greens, .ref t_leasts, .ref t_queues, .ref t_seconds, .ref t_weights, .int v_t_first, .int v_t_last, .int v_t_by, .int v_t_step, .int v_t_has, .int v_t_cycle, .int v_t_aim, .int v_t_proved, .ref t_offsets, .ref t_row, .ref t_open, .int v_t_arrivals, .ref t_places, .ref t_times, .ref t_cars, .ref t_hourCrossings, .ref t_hourCycles, .ref t_hourOffsets]))] sz) (dk_Qm (some (.int o.1)) G (fun _ : Unit => [(t, .inr (8, [.int v_t_crossings, .ref t_greens, .ref t_leasts, .ref t_queues, .ref t_seconds, .ref t_weights, .int o.2.1, .int o.2.2.1, .int o.2.2.2.1, .int v_t_step, .int o.2.2.2.2, .int v_t_cycle, .int v_t_aim, .int v_t_proved, .ref t_offsets, .ref t_row, .ref t_open, .int v_t_arrivals, .ref t_places, .ref t_times, .ref t_cars, .ref t_hourCrossings, .ref t_hourCycles, .ref t_hourOffsets]))]) (va_A [(t, .inr (8, [.int v_t_crossings, .ref t_greens, .ref t_leasts, .ref t_queues, .ref t_seconds, .ref t_weights, .int v_t_first, .int v_t_last, .int v_t_by, .int v_t_step, .int v_t_has, .int v_t_cycle, .int v_t_aim, .int v_t_proved, .ref t_offsets, .ref t_row, .ref t_open, .int v_t_arrivals, .ref t_places, .ref t_times, .ref t_cars, .ref t_hourCrossings, .ref t_hourCycles, .ref t_hourOffsets]))] sz)) 0 0 (va_A [(t, .inr (8, [.int v_t_crossings, .ref t_greens, .ref t_leasts, .ref t_queues, .ref t_seconds, .ref t_weights, .int v_t_first, .int v_t_last, .int v_t_by, .int v_t_step, .int v_t_has, .int v_t_cycle, .int v_t_aim, .int v_t_proved, .ref t_offsets, .ref t_row, .ref t_open, .int v_t_arrivals, .ref t_places, .ref t_times, .ref t_cars, .ref t_hourCrossings, .ref t_hourCycles, .ref t_hourOffsets]))] sz) := by
  refine Met.ofW (cc := b_Mo_cycles) (maxL := 5) (ret := (some .boolean)) (by decide) rfl ?_
  intro p e s m args below meth c s₁ B hml hv
  obtain ⟨rfl, hsz, hP, hK, hN, hD0⟩ := hv
  have hx := B.exec
  have hb := B.bytes
  have hr := B.returns
  have hts : ∀ w ∈ lw_good, w.before _ s = true := fun w h => atoms_spec (ws := wd y_Mo_cycles b_Mo_cycles 5 (some .boolean)) B.pre w (List.mem_cons_of_mem _ h)
  have hown : s.vm.findClass R_Mo = some m.cls := findClass_of_methodNamed B.named
  have hlocks := B.notSynchronized
  have hfix : CallFix p m c b_Mo_cycles 5 s _ lw_good R_Mo := ⟨hx, hb, hml, hown, hts⟩
  subst hsz
  have hD := hD0.self (sz := s.heap.size)
  generalize hAe : va_A [(t, .inr (8, [.int v_t_crossings, .ref t_greens, .ref t_leasts, .ref t_queues, .ref t_seconds, .ref t_weights, .int v_t_first, .int v_t_last, .int v_t_by, .int v_t_step, .int v_t_has, .int v_t_cycle, .int v_t_aim, .int v_t_proved, .ref t_offsets, .ref t_row, .ref t_open, .int v_t_arrivals, .ref t_places, .ref t_times, .ref t_cars, .ref t_hourCrossings, .ref t_hourCycles, .ref t_hourOffsets]))] s.heap.size = A at hD ⊢
  have hA : ∀ q : Nat, s.heap.size ≤ q → A q := fun q h => by rw [← hAe]; exact Or.inr h
  have hS : va_S A s.heap s.heap [] := va_S.rf
  have hl := lv_entry ([.ref t, .int x1, .int x2, .int x3]) (n := 5) (Nat.le_of_ble_eq_true rfl)
  rw [lg_entry_eq]
  generalize (lg_sl ([.ref t, .int x1, .int x2, .int x3]) ++ List.replicate (5 - (lg_sl ([.ref t, .int x1, .int x2, .int x3])).length) Slot.unset).toArray = ls at hl ⊢
  have hl : lv_has ls 5 [(0, .ref t), (1, .int x1), (2, .int x2), (3, .int x3)] := hl
  change W p l e m_Mo_cycles s m _ below meth c s.heap [] 0 0 _ _
  unfold p_Mo_cycles at hF
  refine lv_iload_n hx hb d_Mo_cycles_0 rfl (lv_at hl 1 rfl) ?_
  refine lv_bipush (v := (10 : Int32)) hx hb d_Mo_cycles_1 (by decide) ?_
  refine lv_icmp_lt (tgt := 33) hx hb d_Mo_cycles_3 (by decide) (fun c3_1 => ?_) (fun c3_1 => ?_)
  · have hF := dk_t c3_1 hF
    refine lv_iconst (v := (0 : Int32)) hx hb d_Mo_cycles_33 (by decide) ?_
    refine lv_istore (lv' := [(4, .int (0 : Int32)), (0, .ref t), (1, .int x1), (2, .int x2), (3, .int x3)]) hx hb d_Mo_cycles_34 hl (by decide) rfl (fun ls hl => ?_)
    refine lv_iload hx hb d_Mo_cycles_36 (lv_at hl 0 rfl) ?_
    refine lv_if_eq (tgt := 61) hx hb d_Mo_cycles_38 (by decide) (fun _ => ?_) (fun h => absurd h (by decide))
    refine lv_iload hx hb d_Mo_cycles_61 (lv_at hl 0 rfl) ?_
    obtain rfl := Option.some.inj hF
    exact W.zret (v := (0 : Int32)) hx hb hr rfl (fun t ht hW => ⟨⟨(), rfl, by rw [ht]; exact hP, hD⟩, hS.F ht⟩) hS.2.2 d_Mo_cycles_63
  · have hF := dk_f c3_1 hF
    refine lv_iload_n hx hb d_Mo_cycles_6 rfl (lv_at hl 1 rfl) ?_
    refine lv_iload_n hx hb d_Mo_cycles_7 rfl (lv_at hl 2 rfl) ?_
    refine lv_icmp_gt (tgt := 33) hx hb d_Mo_cycles_8 (by decide) (fun c8_3 => ?_) (fun c8_3 => ?_)
    · have hF := dk_t c8_3 hF
      refine lv_iconst (v := (0 : Int32)) hx hb d_Mo_cycles_33 (by decide) ?_
      refine lv_istore (lv' := [(4, .int (0 : Int32)), (0, .ref t), (1, .int x1), (2, .int x2), (3, .int x3)]) hx hb d_Mo_cycles_34 hl (by decide) rfl (fun ls hl => ?_)
      refine lv_iload hx hb d_Mo_cycles_36 (lv_at hl 0 rfl) ?_
      refine lv_if_eq (tgt := 61) hx hb d_Mo_cycles_38 (by decide) (fun _ => ?_) (fun h => absurd h (by decide))
      refine lv_iload hx hb d_Mo_cycles_61 (lv_at hl 0 rfl) ?_
      obtain rfl := Option.some.inj hF
      exact W.zret (v := (0 : Int32)) hx hb hr rfl (fun t ht hW => ⟨⟨(), rfl, by rw [ht]; exact hP, hD⟩, hS.F ht⟩) hS.2.2 d_Mo_cycles_63
    · have hF := dk_f c8_3 hF
      refine lv_iload_n hx hb d_Mo_cycles_11 rfl (lv_at hl 2 rfl) ?_
      refine lv_bipush (v := (120 : Int32)) hx hb d_Mo_cycles_12 (by decide) ?_
      refine lv_icmp_gt (tgt := 33) hx hb d_Mo_cycles_14 (by decide) (fun c14_5 => ?_) (fun c14_5 => ?_)
      · have hF := dk_t c14_5 hF
        refine lv_iconst (v := (0 : Int32)) hx hb d_Mo_cycles_33 (by decide) ?_
        refine lv_istore (lv' := [(4, .int (0 : Int32)), (0, .ref t), (1, .int x1), (2, .int x2), (3, .int x3)]) hx hb d_Mo_cycles_34 hl (by decide) rfl (fun ls hl => ?_)
        refine lv_iload hx hb d_Mo_cycles_36 (lv_at hl 0 rfl) ?_
        refine lv_if_eq (tgt := 61) hx hb d_Mo_cycles_38 (by decide) (fun _ => ?_) (fun h => absurd h (by decide))
        refine lv_iload hx hb d_Mo_cycles_61 (lv_at hl 0 rfl) ?_
        obtain rfl := Option.some.inj hF
        exact W.zret (v := (0 : Int32)) hx hb hr rfl (fun t ht hW => ⟨⟨(), rfl, by rw [ht]; exact hP, hD⟩, hS.F ht⟩) hS.2.2 d_Mo_cycles_63
      · have hF := dk_f c14_5 hF
        refine lv_iload_n hx hb d_Mo_cycles_17 rfl (lv_at hl 3 rfl) ?_
        refine lv_i2l hx hb d_Mo_cycles_18 rfl ?_
        refine lv_lconst (v := (1 : Int64)) hx hb d_Mo_cycles_19 (by decide) ?_
        refine lv_ldc2 (own := R_Mo) (index := 93) (v := (110 : Int64)) hx hb hown (hts _ lk_436) d_Mo_cycles_20 ?_
        obtain ⟨r23_7, hC, hF⟩ := dk_b hF
        refine dk_pure (va_runS (As := [.long x3.toInt64, .long (1 : Int64), .long (110 : Int64)]) (rest := []) hfix (c_Mo_isIn l G K n x3.toInt64 (1 : Int64) (110 : Int64) r23_7 hC) (va_cwS 3 hts (gd_S lk_416 lk_418 lk_419 lk_417) rfl rfl rfl (by decide +kernel) ⟨Nat.le_of_ble_eq_true rfl, Nat.le_of_ble_eq_true rfl⟩) (dk_preS hK hN (hP.sub [] rfl)) rfl rfl hl.1 rfl (lv_room (Nat.le_of_ble_eq_true rfl)) d_Mo_cycles_23 ⟨Nat.le_of_ble_eq_true rfl, Nat.le_of_ble_eq_true rfl⟩) ?_
        refine lv_if_eq (tgt := 33) hx hb d_Mo_cycles_26 (by decide) (fun c26_8 => ?_) (fun c26_8 => ?_)
        · have hF := dk_t c26_8 hF
          refine lv_iconst (v := (0 : Int32)) hx hb d_Mo_cycles_33 (by decide) ?_
          refine lv_istore (lv' := [(4, .int (0 : Int32)), (0, .ref t), (1, .int x1), (2, .int x2), (3, .int x3)]) hx hb d_Mo_cycles_34 hl (by decide) rfl (fun ls hl => ?_)
          refine lv_iload hx hb d_Mo_cycles_36 (lv_at hl 0 rfl) ?_
          refine lv_if_eq (tgt := 61) hx hb d_Mo_cycles_38 (by decide) (fun _ => ?_) (fun h => absurd h (by decide))
          refine lv_iload hx hb d_Mo_cycles_61 (lv_at hl 0 rfl) ?_
          obtain rfl := Option.some.inj hF
          exact W.zret (v := (0 : Int32)) hx hb hr rfl (fun t ht hW => ⟨⟨(), rfl, by rw [ht]; exact hP, hD⟩, hS.F ht⟩) hS.2.2 d_Mo_cycles_63
        · have hF := dk_f c26_8 hF
          refine lv_iconst (v := (1 : Int32)) hx hb d_Mo_cycles_29 (by decide) ?_
          refine lv_goto (tgt := 34) hx hb d_Mo_cycles_30 (by decide) ?_
          refine lv_istore (lv' := [(4, .int (1 : Int32)), (0, .ref t), (1, .int x1), (2, .int x2), (3, .int x3)]) hx hb d_Mo_cycles_34 hl (by decide) rfl (fun ls hl => ?_)
          refine lv_iload hx hb d_Mo_cycles_36 (lv_at hl 0 rfl) ?_
          refine lv_if_eq (tgt := 61) hx hb d_Mo_cycles_38 (by decide) (fun h => absurd h (by decide)) (fun _ => ?_)
          refine lv_aload_n hx hb d_Mo_cycles_41 rfl (lv_at hl 1 rfl) ?_
          refine lv_iload_n hx hb d_Mo_cycles_42 rfl (lv_at hl 2 rfl) ?_
          refine va_put (D := G) (ci := 8) (v := .int x1) (ty := .int) (C := R_Mo) (T := F_Mo) (N := 24) hx hb hts i_Mo t_Mo t_Mo_ok n_Mo hown hK hP hD hS 0 rfl rfl 6 (by decide) (hts _ lk_437) (fun _ h9 => h9) rfl (by decide +kernel) rfl rfl (Nat.le_of_ble_eq_true rfl) d_Mo_cycles_43 (fun H locs hP hD hS => ?_)
          have hP : va_P G classes [(t, .inr (8, [.int v_t_crossings, .ref t_greens, .ref t_leasts, .ref t_queues, .ref t_seconds, .ref t_weights, .int x1, .int v_t_last, .int v_t_by, .int v_t_step, .int v_t_has, .int v_t_cycle, .int v_t_aim, .int v_t_proved, .ref t_offsets, .ref t_row, .ref t_open, .int v_t_arrivals, .ref t_places, .ref t_times, .ref t_cars, .ref t_hourCrossings, .ref t_hourCycles, .ref t_hourOffsets]))] H := hP
          have hD : va_D A [(t, .inr (8, [.int v_t_crossings, .ref t_greens, .ref t_leasts, .ref t_queues, .ref t_seconds, .ref t_weights, .int x1, .int v_t_last, .int v_t_by, .int v_t_step, .int v_t_has, .int v_t_cycle, .int v_t_aim, .int v_t_proved, .ref t_offsets, .ref t_row, .ref t_open, .int v_t_arrivals, .ref t_places, .ref t_times, .ref t_cars, .ref t_hourCrossings, .ref t_hourCycles, .ref t_hourOffsets]))] := hD
          refine lv_aload_n hx hb d_Mo_cycles_46 rfl (lv_at hl 1 rfl) ?_
          refine lv_iload_n hx hb d_Mo_cycles_47 rfl (lv_at hl 3 rfl) ?_
          refine va_put (D := G) (ci := 8) (v := .int x2) (ty := .int) (C := R_Mo) (T := F_Mo) (N := 24) hx hb hts i_Mo t_Mo t_Mo_ok n_Mo hown hK hP hD hS 0 rfl rfl 7 (by decide) (hts _ lk_438) (fun _ h9 => h9) rfl (by decide +kernel) rfl rfl (Nat.le_of_ble_eq_true rfl) d_Mo_cycles_48 (fun H locs hP hD hS => ?_)
          have hP : va_P G classes [(t, .inr (8, [.int v_t_crossings, .ref t_greens, .ref t_leasts, .ref t_queues, .ref t_seconds, .ref t_weights, .int x1, .int x2, .int v_t_by, .int v_t_step, .int v_t_has, .int v_t_cycle, .int v_t_aim, .int v_t_proved, .ref t_offsets, .ref t_row, .ref t_open, .int v_t_arrivals, .ref t_places, .ref t_times, .ref t_cars, .ref t_hourCrossings, .ref t_hourCycles, .ref t_hourOffsets]))] H := hP
          have hD : va_D A [(t, .inr (8, [.int v_t_crossings, .ref t_greens, .ref t_leasts, .ref t_queues, .ref t_seconds, .ref t_weights, .int x1, .int x2, .int v_t_by, .int v_t_step, .int v_t_has, .int v_t_cycle, .int v_t_aim, .int v_t_proved, .ref t_offsets, .ref t_row, .ref t_open, .int v_t_arrivals, .ref t_places, .ref t_times, .ref t_cars, .ref t_hourCrossings, .ref t_hourCycles, .ref t_hourOffsets]))] := hD
          refine lv_aload_n hx hb d_Mo_cycles_51 rfl (lv_at hl 1 rfl) ?_
          refine lv_iload_n hx hb d_Mo_cycles_52 rfl (lv_at hl 4 rfl) ?_
          refine va_put (D := G) (ci := 8) (v := .int x3) (ty := .int) (C := R_Mo) (T := F_Mo) (N := 24) hx hb hts i_Mo t_Mo t_Mo_ok n_Mo hown hK hP hD hS 0 rfl rfl 8 (by decide) (hts _ lk_439) (fun _ h9 => h9) rfl (by decide +kernel) rfl rfl (Nat.le_of_ble_eq_true rfl) d_Mo_cycles_53 (fun H locs hP hD hS => ?_)
          have hP : va_P G classes [(t, .inr (8, [.int v_t_crossings, .ref t_greens, .ref t_leasts, .ref t_queues, .ref t_seconds, .ref t_weights, .int x1, .int x2, .int x3, .int v_t_step, .int v_t_has, .int v_t_cycle, .int v_t_aim, .int v_t_proved, .ref t_offsets, .ref t_row, .ref t_open, .int v_t_arrivals, .ref t_places, .ref t_times, .ref t_cars, .ref t_hourCrossings, .ref t_hourCycles, .ref t_hourOffsets]))] H := hP
          have hD : va_D A [(t, .inr (8, [.int v_t_crossings, .ref t_greens, .ref t_leasts, .ref t_queues, .ref t_seconds, .ref t_weights, .int x1, .int x2, .int x3, .int v_t_step, .int v_t_has, .int v_t_cycle, .int v_t_aim, .int v_t_proved, .ref t_offsets, .ref t_row, .ref t_open, .int v_t_arrivals, .ref t_places, .ref t_times, .ref t_cars, .ref t_hourCrossings, .ref t_hourCycles, .ref t_hourOffsets]))] := hD
          refine lv_aload_n hx hb d_Mo_cycles_56 rfl (lv_at hl 1 rfl) ?_
          refine lv_iconst (v := (0 : Int32)) hx hb d_Mo_cycles_57 (by decide) ?_
          refine va_put (D := G) (ci := 8) (v := .int (0 : Int32)) (ty := .boolean) (C := R_Mo) (T := F_Mo) (N := 24) hx hb hts i_Mo t_Mo t_Mo_ok n_Mo hown hK hP hD hS 0 rfl rfl 10 (by decide) (hts _ lk_427) (fun _ h9 => h9) rfl (by decide +kernel) rfl rfl (Nat.le_of_ble_eq_true rfl) d_Mo_cycles_58 (fun H locs hP hD hS => ?_)
          have hP : va_P G classes [(t, .inr (8, [.int v_t_crossings, .ref t_greens, .ref t_leasts, .ref t_queues, .ref t_seconds, .ref t_weights, .int x1, .int x2, .int x3, .int v_t_step, .int (0 : Int32), .int v_t_cycle, .int v_t_aim, .int v_t_proved, .ref t_offsets, .ref t_row, .ref t_open, .int v_t_arrivals, .ref t_places, .ref t_times, .ref t_cars, .ref t_hourCrossings, .ref t_hourCycles, .ref t_hourOffsets]))] H := hP
          have hD : va_D A [(t, .inr (8, [.int v_t_crossings, .ref t_greens, .ref t_leasts, .ref t_queues, .ref t_seconds, .ref t_weights, .int x1, .int x2, .int x3, .int v_t_step, .int (0 : Int32), .int v_t_cycle, .int v_t_aim, .int v_t_proved, .ref t_offsets, .ref t_row, .ref t_open, .int v_t_arrivals, .ref t_places, .ref t_times, .ref t_cars, .ref t_hourCrossings, .ref t_hourCycles, .ref t_hourOffsets]))] := hD
          refine lv_iload hx hb d_Mo_cycles_61 (lv_at hl 0 rfl) ?_
          obtain rfl := Option.some.inj hF
          exact W.zret (v := (1 : Int32)) hx hb hr rfl (fun t ht hW => ⟨⟨(), rfl, by rw [ht]; exact hP, hD⟩, hS.F ht⟩) hS.2.2 d_Mo_cycles_63
def p_Mo_step (n : Nat) (x1 : Int32) (v_t_step : Int32) (v_t_has : Int32) : Option (Int32 × Int32 × Int32) :=
  (p_Mo_isIn n x1.toInt64 (1 : Int64) (60 : Int64)).bind fun r6_1 =>
  if r6_1 = 0 then
    if dk_bool r6_1 = true then
      some (r6_1, v_t_step, v_t_has)
    else none
  else
    if dk_bool r6_1 = true then
      some (r6_1, x1, (0 : Int32))
    else none
abbrev m_Mo_step : Room := { frames := 1, cells := 0, slots := 0, locals := 25 }
set_option maxHeartbeats 4000000 in
set_option maxRecDepth 100000 in
theorem c_Mo_step (l : Launch) (G : va_G) (K : Nat → ClassId) (n : Nat) (sz : Nat) (t : Nat) (t_greens : Nat) (t_leasts : Nat) (t_queues : Nat) (t_seconds : Nat) (t_weights : Nat) (t_offsets : Nat) (t_row : Nat) (t_open : Nat) (t_places : Nat) (t_times : Nat) (t_cars : Nat) (t_hourCrossings : Nat) (t_hourCycles : Nat) (t_hourOffsets : Nat) (x1 : Int32) (v_t_crossings : Int32) (v_t_first : Int32) (v_t_last : Int32) (v_t_by : Int32) (v_t_step : Int32) (v_t_has : Int32) (v_t_cycle : Int32) (v_t_aim : Int32) (v_t_proved : Int32) (v_t_arrivals : Int32) (o : Int32 × Int32 × Int32) (hF : p_Mo_step n x1 v_t_step v_t_has = some o) :
    Met l y_Mo_step (wd y_Mo_step b_Mo_step 3 (some .boolean)) m_Mo_step (dk_Pm [.ref t, .int x1] G K [(t, .inr (8, [.int v_t_crossings, .ref t_greens, .ref t_leasts, .ref t_queues, .ref t_seconds, .ref t_weights, .int v_t_first, .int v_t_last, .int v_t_by, .int v_t_step, .int v_t_has, .int v_t_cycle, .int v_t_aim, .int v_t_proved, .ref t_offsets, .ref t_row, .ref t_open, .int v_t_arrivals, .ref t_places, .ref t_times, .ref t_cars, .ref t_hourCrossings, .ref t_hourCycles, .ref t_hourOffsets]))] sz) (dk_Qm (some (.int o.1)) G (fun _ : Unit => [(t, .inr (8, [.int v_t_crossings, .ref t_greens, .ref t_leasts, .ref t_queues, .ref t_seconds, .ref t_weights, .int v_t_first, .int v_t_last, .int v_t_by, .int o.2.1, .int o.2.2, .int v_t_cycle, .int v_t_aim, .int v_t_proved, .ref t_offsets, .ref t_row, .ref t_open, .int v_t_arrivals, .ref t_places, .ref t_times, .ref t_cars, .ref t_hourCrossings, .ref t_hourCycles, .ref t_hourOffsets]))]) (va_A [(t, .inr (8, [.int v_t_crossings, .ref t_greens, .ref t_leasts, .ref t_queues, .ref t_seconds, .ref t_weights, .int v_t_first, .int v_t_last, .int v_t_by, .int v_t_step, .int v_t_has, .int v_t_cycle, .int v_t_aim, .int v_t_proved, .ref t_offsets, .ref t_row, .ref t_open, .int v_t_arrivals, .ref t_places, .ref t_times, .ref t_cars, .ref t_hourCrossings, .ref t_hourCycles, .ref t_hourOffsets]))] sz)) 0 0 (va_A [(t, .inr (8, [.int v_t_crossings, .ref t_greens, .ref t_leasts, .ref t_queues, .ref t_seconds, .ref t_weights, .int v_t_first, .int v_t_last, .int v_t_by, .int v_t_step, .int v_t_has, .int v_t_cycle, .int v_t_aim, .int v_t_proved, .ref t_offsets, .ref t_row, .ref t_open, .int v_t_arrivals, .ref t_places, .ref t_times, .ref t_cars, .ref t_hourCrossings, .ref t_hourCycles, .ref t_hourOffsets]))] sz) := by
  refine Met.ofW (cc := b_Mo_step) (maxL := 3) (ret := (some .boolean)) (by decide) rfl ?_
  intro p e s m args below meth c s₁ B hml hv
  obtain ⟨rfl, hsz, hP, hK, hN, hD0⟩ := hv
  have hx := B.exec
  have hb := B.bytes
  have hr := B.returns
  have hts : ∀ w ∈ lw_good, w.before _ s = true := fun w h => atoms_spec (ws := wd y_Mo_step b_Mo_step 3 (some .boolean)) B.pre w (List.mem_cons_of_mem _ h)
  have hown : s.vm.findClass R_Mo = some m.cls := findClass_of_methodNamed B.named
  have hlocks := B.notSynchronized
  have hfix : CallFix p m c b_Mo_step 3 s _ lw_good R_Mo := ⟨hx, hb, hml, hown, hts⟩
  subst hsz
  have hD := hD0.self (sz := s.heap.size)
  generalize hAe : va_A [(t, .inr (8, [.int v_t_crossings, .ref t_greens, .ref t_leasts, .ref t_queues, .ref t_seconds, .ref t_weights, .int v_t_first, .int v_t_last, .int v_t_by, .int v_t_step, .int v_t_has, .int v_t_cycle, .int v_t_aim, .int v_t_proved, .ref t_offsets, .ref t_row, .ref t_open, .int v_t_arrivals, .ref t_places, .ref t_times, .ref t_cars, .ref t_hourCrossings, .ref t_hourCycles, .ref t_hourOffsets]))] s.heap.size = A at hD ⊢
  have hA : ∀ q : Nat, s.heap.size ≤ q → A q := fun q h => by rw [← hAe]; exact Or.inr h
  have hS : va_S A s.heap s.heap [] := va_S.rf
  have hl := lv_entry ([.ref t, .int x1]) (n := 3) (Nat.le_of_ble_eq_true rfl)
  rw [lg_entry_eq]
  generalize (lg_sl ([.ref t, .int x1]) ++ List.replicate (3 - (lg_sl ([.ref t, .int x1])).length) Slot.unset).toArray = ls at hl ⊢
  have hl : lv_has ls 3 [(0, .ref t), (1, .int x1)] := hl
  change W p l e m_Mo_step s m _ below meth c s.heap [] 0 0 _ _
  unfold p_Mo_step at hF
  refine lv_iload_n hx hb d_Mo_step_0 rfl (lv_at hl 1 rfl) ?_
  refine lv_i2l hx hb d_Mo_step_1 rfl ?_
  refine lv_lconst (v := (1 : Int64)) hx hb d_Mo_step_2 (by decide) ?_
  refine lv_ldc2 (own := R_Mo) (index := 95) (v := (60 : Int64)) hx hb hown (hts _ lk_440) d_Mo_step_3 ?_
  obtain ⟨r6_1, hC, hF⟩ := dk_b hF
  refine dk_pure (va_runS (As := [.long x1.toInt64, .long (1 : Int64), .long (60 : Int64)]) (rest := []) hfix (c_Mo_isIn l G K n x1.toInt64 (1 : Int64) (60 : Int64) r6_1 hC) (va_cwS 3 hts (gd_S lk_416 lk_418 lk_419 lk_417) rfl rfl rfl (by decide +kernel) ⟨Nat.le_of_ble_eq_true rfl, Nat.le_of_ble_eq_true rfl⟩) (dk_preS hK hN (hP.sub [] rfl)) rfl rfl hl.1 rfl (lv_room (Nat.le_of_ble_eq_true rfl)) d_Mo_step_6 ⟨Nat.le_of_ble_eq_true rfl, Nat.le_of_ble_eq_true rfl⟩) ?_
  refine lv_istore_n (lv' := [(2, .int r6_1), (0, .ref t), (1, .int x1)]) hx hb d_Mo_step_9 rfl hl (by decide) rfl (fun ls hl => ?_)
  refine lv_iload_n hx hb d_Mo_step_10 rfl (lv_at hl 0 rfl) ?_
  refine lv_if_eq (tgt := 24) hx hb d_Mo_step_11 (by decide) (fun c11_2 => ?_) (fun c11_2 => ?_)
  · have hF := dk_t c11_2 hF
    refine lv_iload_n hx hb d_Mo_step_24 rfl (lv_at hl 0 rfl) ?_
    obtain ⟨hbo, hF⟩ := dk_a hF
    obtain rfl := Option.some.inj hF
    exact W.zret (v := r6_1) hx hb hr (dk_bo hbo) (fun t ht hW => ⟨⟨(), rfl, by rw [ht]; exact hP, hD⟩, hS.F ht⟩) hS.2.2 d_Mo_step_25
  · have hF := dk_f c11_2 hF
    refine lv_aload_n hx hb d_Mo_step_14 rfl (lv_at hl 1 rfl) ?_
    refine lv_iload_n hx hb d_Mo_step_15 rfl (lv_at hl 2 rfl) ?_
    refine va_put (D := G) (ci := 8) (v := .int x1) (ty := .int) (C := R_Mo) (T := F_Mo) (N := 24) hx hb hts i_Mo t_Mo t_Mo_ok n_Mo hown hK hP hD hS 0 rfl rfl 9 (by decide) (hts _ lk_441) (fun _ h9 => h9) rfl (by decide +kernel) rfl rfl (Nat.le_of_ble_eq_true rfl) d_Mo_step_16 (fun H locs hP hD hS => ?_)
    have hP : va_P G classes [(t, .inr (8, [.int v_t_crossings, .ref t_greens, .ref t_leasts, .ref t_queues, .ref t_seconds, .ref t_weights, .int v_t_first, .int v_t_last, .int v_t_by, .int x1, .int v_t_has, .int v_t_cycle, .int v_t_aim, .int v_t_proved, .ref t_offsets, .ref t_row, .ref t_open, .int v_t_arrivals, .ref t_places, .ref t_times, .ref t_cars, .ref t_hourCrossings, .ref t_hourCycles, .ref t_hourOffsets]))] H := hP
    have hD : va_D A [(t, .inr (8, [.int v_t_crossings, .ref t_greens, .ref t_leasts, .ref t_queues, .ref t_seconds, .ref t_weights, .int v_t_first, .int v_t_last, .int v_t_by, .int x1, .int v_t_has, .int v_t_cycle, .int v_t_aim, .int v_t_proved, .ref t_offsets, .ref t_row, .ref t_open, .int v_t_arrivals, .ref t_places, .ref t_times, .ref t_cars, .ref t_hourCrossings, .ref t_hourCycles, .ref t_hourOffsets]))] := hD
    refine lv_aload_n hx hb d_Mo_step_19 rfl (lv_at hl 1 rfl) ?_
    refine lv_iconst (v := (0 : Int32)) hx hb d_Mo_step_20 (by decide) ?_
    refine va_put (D := G) (ci := 8) (v := .int (0 : Int32)) (ty := .boolean) (C := R_Mo) (T := F_Mo) (N := 24) hx hb hts i_Mo t_Mo t_Mo_ok n_Mo hown hK hP hD hS 0 rfl rfl 10 (by decide) (hts _ lk_427) (fun _ h9 => h9) rfl (by decide +kernel) rfl rfl (Nat.le_of_ble_eq_true rfl) d_Mo_step_21 (fun H locs hP hD hS => ?_)
    have hP : va_P G classes [(t, .inr (8, [.int v_t_crossings, .ref t_greens, .ref t_leasts, .ref t_queues, .ref t_seconds, .ref t_weights, .int v_t_first, .int v_t_last, .int v_t_by, .int x1, .int (0 : Int32), .int v_t_cycle, .int v_t_aim, .int v_t_proved, .ref t_offsets, .ref t_row, .ref t_open, .int v_t_arrivals, .ref t_places, .ref t_times, .ref t_cars, .ref t_hourCrossings, .ref t_hourCycles, .ref t_hourOffsets]))] H := hP
    have hD : va_D A [(t, .inr (8, [.int v_t_crossings, .ref t_greens, .ref t_leasts, .ref t_queues, .ref t_seconds, .ref t_weights, .int v_t_first, .int v_t_last, .int v_t_by, .int x1, .int (0 : Int32), .int v_t_cycle, .int v_t_aim, .int v_t_proved, .ref t_offsets, .ref t_row, .ref t_open, .int v_t_arrivals, .ref t_places, .ref t_times, .ref t_cars, .ref t_hourCrossings, .ref t_hourCycles, .ref t_hourOffsets]))] := hD
    refine lv_iload_n hx hb d_Mo_step_24 rfl (lv_at hl 0 rfl) ?_
    obtain ⟨hbo, hF⟩ := dk_a hF
    obtain rfl := Option.some.inj hF
    exact W.zret (v := r6_1) hx hb hr (dk_bo hbo) (fun t ht hW => ⟨⟨(), rfl, by rw [ht]; exact hP, hD⟩, hS.F ht⟩) hS.2.2 d_Mo_step_25
def p_Mo_queue (n : Nat) (x1 : Int32) (x2 : Int32) (v_t_crossings : Int32) (v_t_greens : Nat → Int32) (v_t_has : Int32) (v_t_queues : Nat → Int32) : Option (Int32 × Int32 × (Nat → Int32)) :=
  (p_Mo_isCrossing n x1 v_t_crossings).bind fun r2_1 =>
  if r2_1 = 0 then
    some ((0 : Int32), v_t_has, v_t_queues)
  else
    if dk_in x1 5 = true then
      (p_Mo_isIn n x2.toInt64 (0 : Int64) (((v_t_greens x1.toNatClampNeg).toInt64) - (1 : Int64))).bind fun r20_4 =>
      if r20_4 = 0 then
        some ((0 : Int32), v_t_has, v_t_queues)
      else
        if dk_in x1 5 = true then
          some ((1 : Int32), (0 : Int32), upd v_t_queues x1.toNatClampNeg x2)
        else none
    else none
abbrev m_Mo_queue : Room := { frames := 2, cells := 0, slots := 0, locals := 46 }
set_option maxHeartbeats 4000000 in
set_option maxRecDepth 100000 in
theorem c_Mo_queue (l : Launch) (G : va_G) (K : Nat → ClassId) (n : Nat) (sz : Nat) (t : Nat) (t_greens : Nat) (t_leasts : Nat) (t_queues : Nat) (t_seconds : Nat) (t_weights : Nat) (t_offsets : Nat) (t_row : Nat) (t_open : Nat) (t_places : Nat) (t_times : Nat) (t_cars : Nat) (t_hourCrossings : Nat) (t_hourCycles : Nat) (t_hourOffsets : Nat) (x1 : Int32) (x2 : Int32) (v_t_crossings : Int32) (v_t_first : Int32) (v_t_last : Int32) (v_t_by : Int32) (v_t_step : Int32) (v_t_has : Int32) (v_t_cycle : Int32) (v_t_aim : Int32) (v_t_proved : Int32) (v_t_arrivals : Int32) (v_t_greens : Nat → Int32) (v_t_queues : Nat → Int32) (o : Int32 × Int32 × (Nat → Int32)) (hF : p_Mo_queue n x1 x2 v_t_crossings v_t_greens v_t_has v_t_queues = some o) :
    Met l y_Mo_queue (wd y_Mo_queue b_Mo_queue 4 (some .boolean)) m_Mo_queue (dk_Pm [.ref t, .int x1, .int x2] G K [(t, .inr (8, [.int v_t_crossings, .ref t_greens, .ref t_leasts, .ref t_queues, .ref t_seconds, .ref t_weights, .int v_t_first, .int v_t_last, .int v_t_by, .int v_t_step, .int v_t_has, .int v_t_cycle, .int v_t_aim, .int v_t_proved, .ref t_offsets, .ref t_row, .ref t_open, .int v_t_arrivals, .ref t_places, .ref t_times, .ref t_cars, .ref t_hourCrossings, .ref t_hourCycles, .ref t_hourOffsets])), (t_greens, .inl (K 0, 5, .inl v_t_greens)), (t_queues, .inl (K 0, 5, .inl v_t_queues))] sz) (dk_Qm (some (.int o.1)) G (fun _ : Unit => [(t, .inr (8, [.int v_t_crossings, .ref t_greens, .ref t_leasts, .ref t_queues, .ref t_seconds, .ref t_weights, .int v_t_first, .int v_t_last, .int v_t_by, .int v_t_step, .int o.2.1, .int v_t_cycle, .int v_t_aim, .int v_t_proved, .ref t_offsets, .ref t_row, .ref t_open, .int v_t_arrivals, .ref t_places, .ref t_times, .ref t_cars, .ref t_hourCrossings, .ref t_hourCycles, .ref t_hourOffsets])), (t_greens, .inl (K 0, 5, .inl v_t_greens)), (t_queues, .inl (K 0, 5, .inl o.2.2))]) (va_A [(t, .inr (8, [.int v_t_crossings, .ref t_greens, .ref t_leasts, .ref t_queues, .ref t_seconds, .ref t_weights, .int v_t_first, .int v_t_last, .int v_t_by, .int v_t_step, .int v_t_has, .int v_t_cycle, .int v_t_aim, .int v_t_proved, .ref t_offsets, .ref t_row, .ref t_open, .int v_t_arrivals, .ref t_places, .ref t_times, .ref t_cars, .ref t_hourCrossings, .ref t_hourCycles, .ref t_hourOffsets])), (t_greens, .inl (K 0, 5, .inl v_t_greens)), (t_queues, .inl (K 0, 5, .inl v_t_queues))] sz)) 0 0 (va_A [(t, .inr (8, [.int v_t_crossings, .ref t_greens, .ref t_leasts, .ref t_queues, .ref t_seconds, .ref t_weights, .int v_t_first, .int v_t_last, .int v_t_by, .int v_t_step, .int v_t_has, .int v_t_cycle, .int v_t_aim, .int v_t_proved, .ref t_offsets, .ref t_row, .ref t_open, .int v_t_arrivals, .ref t_places, .ref t_times, .ref t_cars, .ref t_hourCrossings, .ref t_hourCycles, .ref t_hourOffsets])), (t_greens, .inl (K 0, 5, .inl v_t_greens)), (t_queues, .inl (K 0, 5, .inl v_t_queues))] sz) := by
  refine Met.ofW (cc := b_Mo_queue) (maxL := 4) (ret := (some .boolean)) (by decide) rfl ?_
  intro p e s m args below meth c s₁ B hml hv
  obtain ⟨rfl, hsz, hP, hK, hN, hD0⟩ := hv
  have hx := B.exec
  have hb := B.bytes
  have hr := B.returns
  have hts : ∀ w ∈ lw_good, w.before _ s = true := fun w h => atoms_spec (ws := wd y_Mo_queue b_Mo_queue 4 (some .boolean)) B.pre w (List.mem_cons_of_mem _ h)
  have hown : s.vm.findClass R_Mo = some m.cls := findClass_of_methodNamed B.named
  have hlocks := B.notSynchronized
  have hfix : CallFix p m c b_Mo_queue 4 s _ lw_good R_Mo := ⟨hx, hb, hml, hown, hts⟩
  subst hsz
  have hD := hD0.self (sz := s.heap.size)
  generalize hAe : va_A [(t, .inr (8, [.int v_t_crossings, .ref t_greens, .ref t_leasts, .ref t_queues, .ref t_seconds, .ref t_weights, .int v_t_first, .int v_t_last, .int v_t_by, .int v_t_step, .int v_t_has, .int v_t_cycle, .int v_t_aim, .int v_t_proved, .ref t_offsets, .ref t_row, .ref t_open, .int v_t_arrivals, .ref t_places, .ref t_times, .ref t_cars, .ref t_hourCrossings, .ref t_hourCycles, .ref t_hourOffsets])), (t_greens, .inl (K 0, 5, .inl v_t_greens)), (t_queues, .inl (K 0, 5, .inl v_t_queues))] s.heap.size = A at hD ⊢
  have hA : ∀ q : Nat, s.heap.size ≤ q → A q := fun q h => by rw [← hAe]; exact Or.inr h
  have hS : va_S A s.heap s.heap [] := va_S.rf
  have hl := lv_entry ([.ref t, .int x1, .int x2]) (n := 4) (Nat.le_of_ble_eq_true rfl)
  rw [lg_entry_eq]
  generalize (lg_sl ([.ref t, .int x1, .int x2]) ++ List.replicate (4 - (lg_sl ([.ref t, .int x1, .int x2])).length) Slot.unset).toArray = ls at hl ⊢
  have hl : lv_has ls 4 [(0, .ref t), (1, .int x1), (2, .int x2)] := hl
  change W p l e m_Mo_queue s m _ below meth c s.heap [] 0 0 _ _
  unfold p_Mo_queue at hF
  refine lv_aload_n hx hb d_Mo_queue_0 rfl (lv_at hl 0 rfl) ?_
  refine lv_iload_n hx hb d_Mo_queue_1 rfl (lv_at hl 1 rfl) ?_
  obtain ⟨r2_1, hC, hF⟩ := dk_b hF
  refine dk_pure (va_runV (As := [.int x1]) (rest := []) hfix (c_Mo_isCrossing l G K n t t_greens t_leasts t_queues t_seconds t_weights t_offsets t_row t_open t_places t_times t_cars t_hourCrossings t_hourCycles t_hourOffsets x1 v_t_crossings v_t_first v_t_last v_t_by v_t_step v_t_has v_t_cycle v_t_aim v_t_proved v_t_arrivals r2_1 hC) (cwV 1 hts (gd_V lk_430 lk_432 lk_433 lk_419 lk_431) rfl rfl rfl (by decide +kernel) ⟨Nat.le_of_ble_eq_true rfl, Nat.le_of_ble_eq_true rfl⟩) (dk_preV hK hN (hP.sub [0] rfl) (va_recv hK hP (ci := 8) (q0 := 0) rfl rfl)) rfl rfl hl.1 rfl (lv_room (Nat.le_of_ble_eq_true rfl)) d_Mo_queue_2 ⟨Nat.le_of_ble_eq_true rfl, Nat.le_of_ble_eq_true rfl⟩) ?_
  refine lv_if_eq (tgt := 30) hx hb d_Mo_queue_5 (by decide) (fun c5_2 => ?_) (fun c5_2 => ?_)
  · have hF := dk_t c5_2 hF
    refine lv_iconst (v := (0 : Int32)) hx hb d_Mo_queue_30 (by decide) ?_
    refine lv_istore_n (lv' := [(3, .int (0 : Int32)), (0, .ref t), (1, .int x1), (2, .int x2)]) hx hb d_Mo_queue_31 rfl hl (by decide) rfl (fun ls hl => ?_)
    refine lv_iload_n hx hb d_Mo_queue_32 rfl (lv_at hl 0 rfl) ?_
    refine lv_if_eq (tgt := 48) hx hb d_Mo_queue_33 (by decide) (fun _ => ?_) (fun h => absurd h (by decide))
    refine lv_iload_n hx hb d_Mo_queue_48 rfl (lv_at hl 0 rfl) ?_
    obtain rfl := Option.some.inj hF
    exact W.zret (v := (0 : Int32)) hx hb hr rfl (fun t ht hW => ⟨⟨(), rfl, by rw [ht]; exact hP, hD⟩, hS.F ht⟩) hS.2.2 d_Mo_queue_49
  · have hF := dk_f c5_2 hF
    refine lv_iload_n hx hb d_Mo_queue_8 rfl (lv_at hl 2 rfl) ?_
    refine lv_i2l hx hb d_Mo_queue_9 rfl ?_
    refine lv_lconst (v := (0 : Int64)) hx hb d_Mo_queue_10 (by decide) ?_
    refine lv_aload_n hx hb d_Mo_queue_11 rfl (lv_at hl 0 rfl) ?_
    refine va_get (D := G) (ci := 8) (v := .ref t_greens) (C := R_Mo) (T := F_Mo) (N := 24) hx hb hts i_Mo hown hK hP 0 rfl rfl 1 (by decide) (hts _ lk_424) (fun _ h9 => h9) rfl d_Mo_queue_12 ?_
    refine lv_iload_n hx hb d_Mo_queue_15 rfl (lv_at hl 1 rfl) ?_
    obtain ⟨hi, hF⟩ := dk_a hF
    refine va_iald (D := G) hx hb hK hP 1 0 rfl rfl (dk_vp hi) d_Mo_queue_16 ?_
    refine lv_i2l hx hb d_Mo_queue_17 rfl ?_
    refine lv_lconst (v := (1 : Int64)) hx hb d_Mo_queue_18 (by decide) ?_
    refine lv_lsub hx hb d_Mo_queue_19 ?_
    obtain ⟨r20_4, hC, hF⟩ := dk_b hF
    refine dk_pure (va_runS (As := [.long x2.toInt64, .long (0 : Int64), .long (((v_t_greens x1.toNatClampNeg).toInt64) - (1 : Int64))]) (rest := []) hfix (c_Mo_isIn l G K n x2.toInt64 (0 : Int64) (((v_t_greens x1.toNatClampNeg).toInt64) - (1 : Int64)) r20_4 hC) (va_cwS 3 hts (gd_S lk_416 lk_418 lk_419 lk_417) rfl rfl rfl (by decide +kernel) ⟨Nat.le_of_ble_eq_true rfl, Nat.le_of_ble_eq_true rfl⟩) (dk_preS hK hN (hP.sub [] rfl)) rfl rfl hl.1 rfl (lv_room (Nat.le_of_ble_eq_true rfl)) d_Mo_queue_20 ⟨Nat.le_of_ble_eq_true rfl, Nat.le_of_ble_eq_true rfl⟩) ?_
    refine lv_if_eq (tgt := 30) hx hb d_Mo_queue_23 (by decide) (fun c23_5 => ?_) (fun c23_5 => ?_)
    · have hF := dk_t c23_5 hF
      refine lv_iconst (v := (0 : Int32)) hx hb d_Mo_queue_30 (by decide) ?_
      refine lv_istore_n (lv' := [(3, .int (0 : Int32)), (0, .ref t), (1, .int x1), (2, .int x2)]) hx hb d_Mo_queue_31 rfl hl (by decide) rfl (fun ls hl => ?_)
      refine lv_iload_n hx hb d_Mo_queue_32 rfl (lv_at hl 0 rfl) ?_
      refine lv_if_eq (tgt := 48) hx hb d_Mo_queue_33 (by decide) (fun _ => ?_) (fun h => absurd h (by decide))
      refine lv_iload_n hx hb d_Mo_queue_48 rfl (lv_at hl 0 rfl) ?_
      obtain rfl := Option.some.inj hF
      exact W.zret (v := (0 : Int32)) hx hb hr rfl (fun t ht hW => ⟨⟨(), rfl, by rw [ht]; exact hP, hD⟩, hS.F ht⟩) hS.2.2 d_Mo_queue_49
    · have hF := dk_f c23_5 hF
      refine lv_iconst (v := (1 : Int32)) hx hb d_Mo_queue_26 (by decide) ?_
      refine lv_goto (tgt := 31) hx hb d_Mo_queue_27 (by decide) ?_
      refine lv_istore_n (lv' := [(3, .int (1 : Int32)), (0, .ref t), (1, .int x1), (2, .int x2)]) hx hb d_Mo_queue_31 rfl hl (by decide) rfl (fun ls hl => ?_)
      refine lv_iload_n hx hb d_Mo_queue_32 rfl (lv_at hl 0 rfl) ?_
      refine lv_if_eq (tgt := 48) hx hb d_Mo_queue_33 (by decide) (fun h => absurd h (by decide)) (fun _ => ?_)
      refine lv_aload_n hx hb d_Mo_queue_36 rfl (lv_at hl 1 rfl) ?_
      refine va_get (D := G) (ci := 8) (v := .ref t_queues) (C := R_Mo) (T := F_Mo) (N := 24) hx hb hts i_Mo hown hK hP 0 rfl rfl 3 (by decide) (hts _ lk_426) (fun _ h9 => h9) rfl d_Mo_queue_37 ?_
      refine lv_iload_n hx hb d_Mo_queue_40 rfl (lv_at hl 2 rfl) ?_
      refine lv_iload_n hx hb d_Mo_queue_41 rfl (lv_at hl 3 rfl) ?_
      obtain ⟨hi, hF⟩ := dk_a hF
      refine va_iast (D := G) hx hb hK hP hD hS 2 0 rfl rfl (dk_vp hi) d_Mo_queue_42 (fun H locs hP hD hS => ?_)
      have hP : va_P G classes [(t, .inr (8, [.int v_t_crossings, .ref t_greens, .ref t_leasts, .ref t_queues, .ref t_seconds, .ref t_weights, .int v_t_first, .int v_t_last, .int v_t_by, .int v_t_step, .int v_t_has, .int v_t_cycle, .int v_t_aim, .int v_t_proved, .ref t_offsets, .ref t_row, .ref t_open, .int v_t_arrivals, .ref t_places, .ref t_times, .ref t_cars, .ref t_hourCrossings, .ref t_hourCycles, .ref t_hourOffsets])), (t_greens, .inl (K 0, 5, .inl v_t_greens)), (t_queues, .inl (K 0, 5, .inl (upd v_t_queues x1.toNatClampNeg x2)))] H := hP
      have hD : va_D A [(t, .inr (8, [.int v_t_crossings, .ref t_greens, .ref t_leasts, .ref t_queues, .ref t_seconds, .ref t_weights, .int v_t_first, .int v_t_last, .int v_t_by, .int v_t_step, .int v_t_has, .int v_t_cycle, .int v_t_aim, .int v_t_proved, .ref t_offsets, .ref t_row, .ref t_open, .int v_t_arrivals, .ref t_places, .ref t_times, .ref t_cars, .ref t_hourCrossings, .ref t_hourCycles, .ref t_hourOffsets])), (t_greens, .inl (K 0, 5, .inl v_t_greens)), (t_queues, .inl (K 0, 5, .inl (upd v_t_queues x1.toNatClampNeg x2)))] := hD
      refine lv_aload_n hx hb d_Mo_queue_43 rfl (lv_at hl 1 rfl) ?_
      refine lv_iconst (v := (0 : Int32)) hx hb d_Mo_queue_44 (by decide) ?_
      refine va_put (D := G) (ci := 8) (v := .int (0 : Int32)) (ty := .boolean) (C := R_Mo) (T := F_Mo) (N := 24) hx hb hts i_Mo t_Mo t_Mo_ok n_Mo hown hK hP hD hS 0 rfl rfl 10 (by decide) (hts _ lk_427) (fun _ h9 => h9) rfl (by decide +kernel) rfl rfl (Nat.le_of_ble_eq_true rfl) d_Mo_queue_45 (fun H locs hP hD hS => ?_)
      have hP : va_P G classes [(t, .inr (8, [.int v_t_crossings, .ref t_greens, .ref t_leasts, .ref t_queues, .ref t_seconds, .ref t_weights, .int v_t_first, .int v_t_last, .int v_t_by, .int v_t_step, .int (0 : Int32), .int v_t_cycle, .int v_t_aim, .int v_t_proved, .ref t_offsets, .ref t_row, .ref t_open, .int v_t_arrivals, .ref t_places, .ref t_times, .ref t_cars, .ref t_hourCrossings, .ref t_hourCycles, .ref t_hourOffsets])), (t_greens, .inl (K 0, 5, .inl v_t_greens)), (t_queues, .inl (K 0, 5, .inl (upd v_t_queues x1.toNatClampNeg x2)))] H := hP
      have hD : va_D A [(t, .inr (8, [.int v_t_crossings, .ref t_greens, .ref t_leasts, .ref t_queues, .ref t_seconds, .ref t_weights, .int v_t_first, .int v_t_last, .int v_t_by, .int v_t_step, .int (0 : Int32), .int v_t_cycle, .int v_t_aim, .int v_t_proved, .ref t_offsets, .ref t_row, .ref t_open, .int v_t_arrivals, .ref t_places, .ref t_times, .ref t_cars, .ref t_hourCrossings, .ref t_hourCycles, .ref t_hourOffsets])), (t_greens, .inl (K 0, 5, .inl v_t_greens)), (t_queues, .inl (K 0, 5, .inl (upd v_t_queues x1.toNatClampNeg x2)))] := hD
      refine lv_iload_n hx hb d_Mo_queue_48 rfl (lv_at hl 0 rfl) ?_
      obtain rfl := Option.some.inj hF
      exact W.zret (v := (1 : Int32)) hx hb hr rfl (fun t ht hW => ⟨⟨(), rfl, by rw [ht]; exact hP, hD⟩, hS.F ht⟩) hS.2.2 d_Mo_queue_49
def p_Mo_lay_3 (n : Nat) : Nat → (Nat → Int32) → (Nat → Int32) → Int32 → Int32 → Int32 → Int32 → (Nat → Int32) → Option ((Nat → Int32))
  | 0, _, _, _, _, _, _, _ => none
  | k + 1, v_t_greens, v_t_queues, z1, z2, z3, z4, v_t_open =>
    if z3 ≤ z4 then
      some v_t_open
    else
      if z3 = 0 then none else
      if dk_in z1 5 = true then
        if (v_t_greens z1.toNatClampNeg) ≤ (((z4 - z2) + z3) - ((z4 - z2) + z3) / z3 * z3) then
          if dk_in (((120 : Int32) * z1) + z4) 600 = true then
            p_Mo_lay_3 n k v_t_greens v_t_queues z1 z2 z3 (z4 + (1 : Int32)) (upd v_t_open (((120 : Int32) * z1) + z4).toNatClampNeg (vp_nar .boolean (0 : Int32)))
          else none
        else
          if dk_in z1 5 = true then
            if (((z4 - z2) + z3) - ((z4 - z2) + z3) / z3 * z3) < (v_t_queues z1.toNatClampNeg) then
              if dk_in (((120 : Int32) * z1) + z4) 600 = true then
                p_Mo_lay_3 n k v_t_greens v_t_queues z1 z2 z3 (z4 + (1 : Int32)) (upd v_t_open (((120 : Int32) * z1) + z4).toNatClampNeg (vp_nar .boolean (0 : Int32)))
              else none
            else
              if dk_in (((120 : Int32) * z1) + z4) 600 = true then
                p_Mo_lay_3 n k v_t_greens v_t_queues z1 z2 z3 (z4 + (1 : Int32)) (upd v_t_open (((120 : Int32) * z1) + z4).toNatClampNeg (vp_nar .boolean (1 : Int32)))
              else none
          else none
      else none
theorem q_Mo_lay_3 (n k : Nat) (v_t_greens : Nat → Int32) (v_t_queues : Nat → Int32) (z1 : Int32) (z2 : Int32) (z3 : Int32) (z4 : Int32) (v_t_open : Nat → Int32) : p_Mo_lay_3 n (k + 1) v_t_greens v_t_queues z1 z2 z3 z4 v_t_open =
    if z3 ≤ z4 then
      some v_t_open
    else
      if z3 = 0 then none else
      if dk_in z1 5 = true then
        if (v_t_greens z1.toNatClampNeg) ≤ (((z4 - z2) + z3) - ((z4 - z2) + z3) / z3 * z3) then
          if dk_in (((120 : Int32) * z1) + z4) 600 = true then
            p_Mo_lay_3 n k v_t_greens v_t_queues z1 z2 z3 (z4 + (1 : Int32)) (upd v_t_open (((120 : Int32) * z1) + z4).toNatClampNeg (vp_nar .boolean (0 : Int32)))
          else none
        else
          if dk_in z1 5 = true then
            if (((z4 - z2) + z3) - ((z4 - z2) + z3) / z3 * z3) < (v_t_queues z1.toNatClampNeg) then
              if dk_in (((120 : Int32) * z1) + z4) 600 = true then
                p_Mo_lay_3 n k v_t_greens v_t_queues z1 z2 z3 (z4 + (1 : Int32)) (upd v_t_open (((120 : Int32) * z1) + z4).toNatClampNeg (vp_nar .boolean (0 : Int32)))
              else none
            else
              if dk_in (((120 : Int32) * z1) + z4) 600 = true then
                p_Mo_lay_3 n k v_t_greens v_t_queues z1 z2 z3 (z4 + (1 : Int32)) (upd v_t_open (((120 : Int32) * z1) + z4).toNatClampNeg (vp_nar .boolean (1 : Int32)))
              else none
          else none
      else none := rfl
def p_Mo_lay (n : Nat) (x1 : Int32) (x2 : Int32) (x3 : Int32) (v_t_greens : Nat → Int32) (v_t_queues : Nat → Int32) (v_t_open : Nat → Int32) : Option ((Nat → Int32)) :=
  (p_Mo_lay_3 n n v_t_greens v_t_queues x1 x2 x3 (0 : Int32) v_t_open).bind fun q3_4 =>
  some q3_4
abbrev m_Mo_lay : Room := { frames := 0, cells := 0, slots := 0, locals := 0 }
set_option maxHeartbeats 4000000 in
set_option maxRecDepth 100000 in
theorem c_Mo_lay (l : Launch) (G : va_G) (K : Nat → ClassId) (n : Nat) (sz : Nat) (t : Nat) (t_greens : Nat) (t_leasts : Nat) (t_queues : Nat) (t_seconds : Nat) (t_weights : Nat) (t_offsets : Nat) (t_row : Nat) (t_open : Nat) (t_places : Nat) (t_times : Nat) (t_cars : Nat) (t_hourCrossings : Nat) (t_hourCycles : Nat) (t_hourOffsets : Nat) (x1 : Int32) (x2 : Int32) (x3 : Int32) (v_t_crossings : Int32) (v_t_first : Int32) (v_t_last : Int32) (v_t_by : Int32) (v_t_step : Int32) (v_t_has : Int32) (v_t_cycle : Int32) (v_t_aim : Int32) (v_t_proved : Int32) (v_t_arrivals : Int32) (v_t_greens : Nat → Int32) (v_t_queues : Nat → Int32) (v_t_open : Nat → Int32) (o : (Nat → Int32)) (hF : p_Mo_lay n x1 x2 x3 v_t_greens v_t_queues v_t_open = some o) :
    Met l y_Mo_lay (wd y_Mo_lay b_Mo_lay 6 none) m_Mo_lay (dk_Pm [.ref t, .int x1, .int x2, .int x3] G K [(t, .inr (8, [.int v_t_crossings, .ref t_greens, .ref t_leasts, .ref t_queues, .ref t_seconds, .ref t_weights, .int v_t_first, .int v_t_last, .int v_t_by, .int v_t_step, .int v_t_has, .int v_t_cycle, .int v_t_aim, .int v_t_proved, .ref t_offsets, .ref t_row, .ref t_open, .int v_t_arrivals, .ref t_places, .ref t_times, .ref t_cars, .ref t_hourCrossings, .ref t_hourCycles, .ref t_hourOffsets])), (t_greens, .inl (K 0, 5, .inl v_t_greens)), (t_queues, .inl (K 0, 5, .inl v_t_queues)), (t_open, .inl (K 3, 600, .inl v_t_open))] sz) (dk_Qm none G (fun _ : Unit => [(t, .inr (8, [.int v_t_crossings, .ref t_greens, .ref t_leasts, .ref t_queues, .ref t_seconds, .ref t_weights, .int v_t_first, .int v_t_last, .int v_t_by, .int v_t_step, .int v_t_has, .int v_t_cycle, .int v_t_aim, .int v_t_proved, .ref t_offsets, .ref t_row, .ref t_open, .int v_t_arrivals, .ref t_places, .ref t_times, .ref t_cars, .ref t_hourCrossings, .ref t_hourCycles, .ref t_hourOffsets])), (t_greens, .inl (K 0, 5, .inl v_t_greens)), (t_queues, .inl (K 0, 5, .inl v_t_queues)), (t_open, .inl (K 3, 600, .inl o))]) (va_A [(t, .inr (8, [.int v_t_crossings, .ref t_greens, .ref t_leasts, .ref t_queues, .ref t_seconds, .ref t_weights, .int v_t_first, .int v_t_last, .int v_t_by, .int v_t_step, .int v_t_has, .int v_t_cycle, .int v_t_aim, .int v_t_proved, .ref t_offsets, .ref t_row, .ref t_open, .int v_t_arrivals, .ref t_places, .ref t_times, .ref t_cars, .ref t_hourCrossings, .ref t_hourCycles, .ref t_hourOffsets])), (t_greens, .inl (K 0, 5, .inl v_t_greens)), (t_queues, .inl (K 0, 5, .inl v_t_queues)), (t_open, .inl (K 3, 600, .inl v_t_open))] sz)) 0 0 (va_A [(t, .inr (8, [.int v_t_crossings, .ref t_greens, .ref t_leasts, .ref t_queues, .ref t_seconds, .ref t_weights, .int v_t_first, .int v_t_last, .int v_t_by, .int v_t_step, .int v_t_has, .int v_t_cycle, .int v_t_aim, .int v_t_proved, .ref t_offsets, .ref t_row, .ref t_open, .int v_t_arrivals, .ref t_places, .ref t_times, .ref t_cars, .ref t_hourCrossings, .ref t_hourCycles, .ref t_hourOffsets])), (t_greens, .inl (K 0, 5, .inl v_t_greens)), (t_queues, .inl (K 0, 5, .inl v_t_queues)), (t_open, .inl (K 3, 600, .inl v_t_open))] sz) := by
  refine Met.ofW (cc := b_Mo_lay) (maxL := 6) (ret := none) (by decide) rfl ?_
  intro p e s m args below meth c s₁ B hml hv
  obtain ⟨rfl, hsz, hP, hK, hN, hD0⟩ := hv
  have hx := B.exec
  have hb := B.bytes
  have hr := B.returns
  have hts : ∀ w ∈ lw_good, w.before _ s = true := fun w h => atoms_spec (ws := wd y_Mo_lay b_Mo_lay 6 none) B.pre w (List.mem_cons_of_mem _ h)
  have hown : s.vm.findClass R_Mo = some m.cls := findClass_of_methodNamed B.named
  have hlocks := B.notSynchronized
  have hfix : CallFix p m c b_Mo_lay 6 s _ lw_good R_Mo := ⟨hx, hb, hml, hown, hts⟩
  subst hsz
  have hD := hD0.self (sz := s.heap.size)
  generalize hAe : va_A [(t, .inr (8, [.int v_t_crossings, .ref t_greens, .ref t_leasts, .ref t_queues, .ref t_seconds, .ref t_weights, .int v_t_first, .int v_t_last, .int v_t_by, .int v_t_step, .int v_t_has, .int v_t_cycle, .int v_t_aim, .int v_t_proved, .ref t_offsets, .ref t_row, .ref t_open, .int v_t_arrivals, .ref t_places, .ref t_times, .ref t_cars, .ref t_hourCrossings, .ref t_hourCycles, .ref t_hourOffsets])), (t_greens, .inl (K 0, 5, .inl v_t_greens)), (t_queues, .inl (K 0, 5, .inl v_t_queues)), (t_open, .inl (K 3, 600, .inl v_t_open))] s.heap.size = A at hD ⊢
  have hA : ∀ q : Nat, s.heap.size ≤ q → A q := fun q h => by rw [← hAe]; exact Or.inr h
  have hS : va_S A s.heap s.heap [] := va_S.rf
  have hl := lv_entry ([.ref t, .int x1, .int x2, .int x3]) (n := 6) (Nat.le_of_ble_eq_true rfl)
  rw [lg_entry_eq]
  generalize (lg_sl ([.ref t, .int x1, .int x2, .int x3]) ++ List.replicate (6 - (lg_sl ([.ref t, .int x1, .int x2, .int x3])).length) Slot.unset).toArray = ls at hl ⊢
  have hl : lv_has ls 6 [(0, .ref t), (1, .int x1), (2, .int x2), (3, .int x3)] := hl
  change W p l e m_Mo_lay s m _ below meth c s.heap [] 0 0 _ _
  have L3 : ∀ (k : Nat) (z1 : Int32) (z2 : Int32) (z3 : Int32) (z4 : Int32) (v_t_open : Nat → Int32) (H : Heap) (locs : List Loc) (q : (Nat → Int32)), p_Mo_lay_3 n k v_t_greens v_t_queues z1 z2 z3 z4 v_t_open = some q → va_P G classes [(t, .inr (8, [.int v_t_crossings, .ref t_greens, .ref t_leasts, .ref t_queues, .ref t_seconds, .ref t_weights, .int v_t_first, .int v_t_last, .int v_t_by, .int v_t_step, .int v_t_has, .int v_t_cycle, .int v_t_aim, .int v_t_proved, .ref t_offsets, .ref t_row, .ref t_open, .int v_t_arrivals, .ref t_places, .ref t_times, .ref t_cars, .ref t_hourCrossings, .ref t_hourCycles, .ref t_hourOffsets])), (t_greens, .inl (K 0, 5, .inl v_t_greens)), (t_queues, .inl (K 0, 5, .inl v_t_queues)), (t_open, .inl (K 3, 600, .inl v_t_open))] H → va_D A [(t, .inr (8, [.int v_t_crossings, .ref t_greens, .ref t_leasts, .ref t_queues, .ref t_seconds, .ref t_weights, .int v_t_first, .int v_t_last, .int v_t_by, .int v_t_step, .int v_t_has, .int v_t_cycle, .int v_t_aim, .int v_t_proved, .ref t_offsets, .ref t_row, .ref t_open, .int v_t_arrivals, .ref t_places, .ref t_times, .ref t_cars, .ref t_hourCrossings, .ref t_hourCycles, .ref t_hourOffsets])), (t_greens, .inl (K 0, 5, .inl v_t_greens)), (t_queues, .inl (K 0, 5, .inl v_t_queues)), (t_open, .inl (K 3, 600, .inl v_t_open))] → va_S A s.heap H locs → ∀ ls : Array Slot, lv_has ls 6 [(0, .ref t), (1, .int z1), (2, .int z2), (3, .int z3), (4, .int z4)] → (∀ (H1 : Heap) (locs1 : List Loc) (ls1 : Array Slot), va_P G classes [(t, .inr (8, [.int v_t_crossings, .ref t_greens, .ref t_leasts, .ref t_queues, .ref t_seconds, .ref t_weights, .int v_t_first, .int v_t_last, .int v_t_by, .int v_t_step, .int v_t_has, .int v_t_cycle, .int v_t_aim, .int v_t_proved, .ref t_offsets, .ref t_row, .ref t_open, .int v_t_arrivals, .ref t_places, .ref t_times, .ref t_cars, .ref t_hourCrossings, .ref t_hourCycles, .ref t_hourOffsets])), (t_greens, .inl (K 0, 5, .inl v_t_greens)), (t_queues, .inl (K 0, 5, .inl v_t_queues)), (t_open, .inl (K 3, 600, .inl q))] H1 → va_D A [(t, .inr (8, [.int v_t_crossings, .ref t_greens, .ref t_leasts, .ref t_queues, .ref t_seconds, .ref t_weights, .int v_t_first, .int v_t_last, .int v_t_by, .int v_t_step, .int v_t_has, .int v_t_cycle, .int v_t_aim, .int v_t_proved, .ref t_offsets, .ref t_row, .ref t_open, .int v_t_arrivals, .ref t_places, .ref t_times, .ref t_cars, .ref t_hourCrossings, .ref t_hourCycles, .ref t_hourOffsets])), (t_greens, .inl (K 0, 5, .inl v_t_greens)), (t_queues, .inl (K 0, 5, .inl v_t_queues)), (t_open, .inl (K 3, 600, .inl q))] → va_S A s.heap H1 locs1 → lv_has ls1 6 [] → W p l e m_Mo_lay s m ([.ref t, .int x1, .int x2, .int x3] : List Value).toArray below meth c H1 locs1 0 0 (MQ below (dk_Qm none G (fun _ : Unit => [(t, .inr (8, [.int v_t_crossings, .ref t_greens, .ref t_leasts, .ref t_queues, .ref t_seconds, .ref t_weights, .int v_t_first, .int v_t_last, .int v_t_by, .int v_t_step, .int v_t_has, .int v_t_cycle, .int v_t_aim, .int v_t_proved, .ref t_offsets, .ref t_row, .ref t_open, .int v_t_arrivals, .ref t_places, .ref t_times, .ref t_cars, .ref t_hourCrossings, .ref t_hourCycles, .ref t_hourOffsets])), (t_greens, .inl (K 0, 5, .inl v_t_greens)), (t_queues, .inl (K 0, 5, .inl v_t_queues)), (t_open, .inl (K 3, 600, .inl o))]) A) ([.ref t, .int x1, .int x2, .int x3] : List Value).toArray s 0 0 A) (F0 m 64 ls1 [])) → W p l e m_Mo_lay s m ([.ref t, .int x1, .int x2, .int x3] : List Value).toArray below meth c H locs 0 0 (MQ below (dk_Qm none G (fun _ : Unit => [(t, .inr (8, [.int v_t_crossings, .ref t_greens, .ref t_leasts, .ref t_queues, .ref t_seconds, .ref t_weights, .int v_t_first, .int v_t_last, .int v_t_by, .int v_t_step, .int v_t_has, .int v_t_cycle, .int v_t_aim, .int v_t_proved, .ref t_offsets, .ref t_row, .ref t_open, .int v_t_arrivals, .ref t_places, .ref t_times, .ref t_cars, .ref t_hourCrossings, .ref t_hourCycles, .ref t_hourOffsets])), (t_greens, .inl (K 0, 5, .inl v_t_greens)), (t_queues, .inl (K 0, 5, .inl v_t_queues)), (t_open, .inl (K 3, 600, .inl o))]) A) ([.ref t, .int x1, .int x2, .int x3] : List Value).toArray s 0 0 A) (F0 m 3 ls []) := by
    intro k
    induction k with
    | zero =>
      intro z1 z2 z3 z4 v_t_open H locs q hF hP hD hS ls hl hk
      exact absurd hF (by simp [p_Mo_lay_3])
    | succ k jh =>
      intro z1 z2 z3 z4 v_t_open H locs q hF hP hD hS ls hl hk
      have hF := (q_Mo_lay_3 n k v_t_greens v_t_queues z1 z2 z3 z4 v_t_open).symm.trans hF
      refine lv_iload hx hb d_Mo_lay_3 (lv_at hl 4 rfl) ?_
      refine lv_iload_n hx hb d_Mo_lay_5 rfl (lv_at hl 3 rfl) ?_
      refine lv_icmp_ge (tgt := 64) hx hb d_Mo_lay_6 (by decide) (fun c6_1 => ?_) (fun c6_1 => ?_)
      · have hF := dk_t c6_1 hF
        obtain rfl := Option.some.inj hF
        exact hk H locs ls hP hD hS (lv_sub hl [] rfl)
      · have hF := dk_f c6_1 hF
        refine lv_iload hx hb d_Mo_lay_9 (lv_at hl 4 rfl) ?_
        refine lv_iload_n hx hb d_Mo_lay_11 rfl (lv_at hl 2 rfl) ?_
        refine lv_isub hx hb d_Mo_lay_12 ?_
        refine lv_iload_n hx hb d_Mo_lay_13 rfl (lv_at hl 3 rfl) ?_
        refine lv_iadd hx hb d_Mo_lay_14 ?_
        refine lv_iload_n hx hb d_Mo_lay_15 rfl (lv_at hl 3 rfl) ?_
        obtain ⟨hz, hF⟩ := dk_z hF
        refine lv_irem hx hb d_Mo_lay_16 hz ?_
        refine lv_istore (lv' := [(5, .int (((z4 - z2) + z3) - ((z4 - z2) + z3) / z3 * z3)), (0, .ref t), (1, .int z1), (2, .int z2), (3, .int z3), (4, .int z4)]) hx hb d_Mo_lay_17 hl (by decide) rfl (fun ls hl => ?_)
        refine lv_aload_n hx hb d_Mo_lay_19 rfl (lv_at hl 1 rfl) ?_
        refine va_get (D := G) (ci := 8) (v := .ref t_open) (C := R_Mo) (T := F_Mo) (N := 24) hx hb hts i_Mo hown hK hP 0 rfl rfl 16 (by decide) (hts _ lk_442) (fun _ h9 => h9) rfl d_Mo_lay_20 ?_
        refine lv_bipush (v := (120 : Int32)) hx hb d_Mo_lay_23 (by decide) ?_
        refine lv_iload_n hx hb d_Mo_lay_25 rfl (lv_at hl 2 rfl) ?_
        refine lv_imul hx hb d_Mo_lay_26 ?_
        refine lv_iload hx hb d_Mo_lay_27 (lv_at hl 5 rfl) ?_
        refine lv_iadd hx hb d_Mo_lay_29 ?_
        refine lv_iload hx hb d_Mo_lay_30 (lv_at hl 0 rfl) ?_
        refine lv_aload_n hx hb d_Mo_lay_32 rfl (lv_at hl 1 rfl) ?_
        refine va_get (D := G) (ci := 8) (v := .ref t_greens) (C := R_Mo) (T := F_Mo) (N := 24) hx hb hts i_Mo hown hK hP 0 rfl rfl 1 (by decide) (hts _ lk_424) (fun _ h9 => h9) rfl d_Mo_lay_33 ?_
        refine lv_iload_n hx hb d_Mo_lay_36 rfl (lv_at hl 2 rfl) ?_
        obtain ⟨hi, hF⟩ := dk_a hF
        refine va_iald (D := G) hx hb hK hP 1 0 rfl rfl (dk_vp hi) d_Mo_lay_37 ?_
        refine lv_icmp_ge (tgt := 56) hx hb d_Mo_lay_38 (by decide) (fun c38_2 => ?_) (fun c38_2 => ?_)
        · have hF := dk_t c38_2 hF
          refine lv_iconst (v := (0 : Int32)) hx hb d_Mo_lay_56 (by decide) ?_
          obtain ⟨hi, hF⟩ := dk_a hF
          refine va_zast (D := G) hx hb hK hP hD hS 3 3 rfl rfl (dk_vp hi) d_Mo_lay_57 (fun H locs hP hD hS => ?_)
          have hP : va_P G classes [(t, .inr (8, [.int v_t_crossings, .ref t_greens, .ref t_leasts, .ref t_queues, .ref t_seconds, .ref t_weights, .int v_t_first, .int v_t_last, .int v_t_by, .int v_t_step, .int v_t_has, .int v_t_cycle, .int v_t_aim, .int v_t_proved, .ref t_offsets, .ref t_row, .ref t_open, .int v_t_arrivals, .ref t_places, .ref t_times, .ref t_cars, .ref t_hourCrossings, .ref t_hourCycles, .ref t_hourOffsets])), (t_greens, .inl (K 0, 5, .inl v_t_greens)), (t_queues, .inl (K 0, 5, .inl v_t_queues)), (t_open, .inl (K 3, 600, .inl (upd v_t_open (((120 : Int32) * z1) + z4).toNatClampNeg (vp_nar .boolean (0 : Int32)))))] H := hP
          have hD : va_D A [(t, .inr (8, [.int v_t_crossings, .ref t_greens, .ref t_leasts, .ref t_queues, .ref t_seconds, .ref t_weights, .int v_t_first, .int v_t_last, .int v_t_by, .int v_t_step, .int v_t_has, .int v_t_cycle, .int v_t_aim, .int v_t_proved, .ref t_offsets, .ref t_row, .ref t_open, .int v_t_arrivals, .ref t_places, .ref t_times, .ref t_cars, .ref t_hourCrossings, .ref t_hourCycles, .ref t_hourOffsets])), (t_greens, .inl (K 0, 5, .inl v_t_greens)), (t_queues, .inl (K 0, 5, .inl v_t_queues)), (t_open, .inl (K 3, 600, .inl (upd v_t_open (((120 : Int32) * z1) + z4).toNatClampNeg (vp_nar .boolean (0 : Int32)))))] := hD
          refine lv_iinc (v := z4 + (1 : Int32)) (lv' := [(4, .int (z4 + (1 : Int32))), (5, .int (((z4 - z2) + z3) - ((z4 - z2) + z3) / z3 * z3)), (0, .ref t), (1, .int z1), (2, .int z2), (3, .int z3)]) hx hb d_Mo_lay_58 hl (k := 5) rfl rfl (by decide) rfl (fun ls hl => ?_)
          refine lv_goto (tgt := 3) hx hb d_Mo_lay_61 (by decide) ?_
          exact jh z1 z2 z3 (z4 + (1 : Int32)) (upd v_t_open (((120 : Int32) * z1) + z4).toNatClampNeg (vp_nar .boolean (0 : Int32))) H locs q hF hP hD hS ls (lv_sub hl [2, 3, 4, 5, 0] rfl) hk
        · have hF := dk_f c38_2 hF
          refine lv_iload hx hb d_Mo_lay_41 (lv_at hl 0 rfl) ?_
          refine lv_aload_n hx hb d_Mo_lay_43 rfl (lv_at hl 1 rfl) ?_
          refine va_get (D := G) (ci := 8) (v := .ref t_queues) (C := R_Mo) (T := F_Mo) (N := 24) hx hb hts i_Mo hown hK hP 0 rfl rfl 3 (by decide) (hts _ lk_426) (fun _ h9 => h9) rfl d_Mo_lay_44 ?_
          refine lv_iload_n hx hb d_Mo_lay_47 rfl (lv_at hl 2 rfl) ?_
          obtain ⟨hi, hF⟩ := dk_a hF
          refine va_iald (D := G) hx hb hK hP 2 0 rfl rfl (dk_vp hi) d_Mo_lay_48 ?_
          refine lv_icmp_lt (tgt := 56) hx hb d_Mo_lay_49 (by decide) (fun c49_3 => ?_) (fun c49_3 => ?_)
          · have hF := dk_t c49_3 hF
            refine lv_iconst (v := (0 : Int32)) hx hb d_Mo_lay_56 (by decide) ?_
            obtain ⟨hi, hF⟩ := dk_a hF
            refine va_zast (D := G) hx hb hK hP hD hS 3 3 rfl rfl (dk_vp hi) d_Mo_lay_57 (fun H locs hP hD hS => ?_)
            have hP : va_P G classes [(t, .inr (8, [.int v_t_crossings, .ref t_greens, .ref t_leasts, .ref t_queues, .ref t_seconds, .ref t_weights, .int v_t_first, .int v_t_last, .int v_t_by, .int v_t_step, .int v_t_has, .int v_t_cycle, .int v_t_aim, .int v_t_proved, .ref t_offsets, .ref t_row, .ref t_open, .int v_t_arrivals, .ref t_places, .ref t_times, .ref t_cars, .ref t_hourCrossings, .ref t_hourCycles, .ref t_hourOffsets])), (t_greens, .inl (K 0, 5, .inl v_t_greens)), (t_queues, .inl (K 0, 5, .inl v_t_queues)), (t_open, .inl (K 3, 600, .inl (upd v_t_open (((120 : Int32) * z1) + z4).toNatClampNeg (vp_nar .boolean (0 : Int32)))))] H := hP
            have hD : va_D A [(t, .inr (8, [.int v_t_crossings, .ref t_greens, .ref t_leasts, .ref t_queues, .ref t_seconds, .ref t_weights, .int v_t_first, .int v_t_last, .int v_t_by, .int v_t_step, .int v_t_has, .int v_t_cycle, .int v_t_aim, .int v_t_proved, .ref t_offsets, .ref t_row, .ref t_open, .int v_t_arrivals, .ref t_places, .ref t_times, .ref t_cars, .ref t_hourCrossings, .ref t_hourCycles, .ref t_hourOffsets])), (t_greens, .inl (K 0, 5, .inl v_t_greens)), (t_queues, .inl (K 0, 5, .inl v_t_queues)), (t_open, .inl (K 3, 600, .inl (upd v_t_open (((120 : Int32) * z1) + z4).toNatClampNeg (vp_nar .boolean (0 : Int32)))))] := hD
            refine lv_iinc (v := z4 + (1 : Int32)) (lv' := [(4, .int (z4 + (1 : Int32))), (5, .int (((z4 - z2) + z3) - ((z4 - z2) + z3) / z3 * z3)), (0, .ref t), (1, .int z1), (2, .int z2), (3, .int z3)]) hx hb d_Mo_lay_58 hl (k := 5) rfl rfl (by decide) rfl (fun ls hl => ?_)
            refine lv_goto (tgt := 3) hx hb d_Mo_lay_61 (by decide) ?_
            exact jh z1 z2 z3 (z4 + (1 : Int32)) (upd v_t_open (((120 : Int32) * z1) + z4).toNatClampNeg (vp_nar .boolean (0 : Int32))) H locs q hF hP hD hS ls (lv_sub hl [2, 3, 4, 5, 0] rfl) hk
          · have hF := dk_f c49_3 hF
            refine lv_iconst (v := (1 : Int32)) hx hb d_Mo_lay_52 (by decide) ?_
            refine lv_goto (tgt := 57) hx hb d_Mo_lay_53 (by decide) ?_
            obtain ⟨hi, hF⟩ := dk_a hF
            refine va_zast (D := G) hx hb hK hP hD hS 3 3 rfl rfl (dk_vp hi) d_Mo_lay_57 (fun H locs hP hD hS => ?_)
            have hP : va_P G classes [(t, .inr (8, [.int v_t_crossings, .ref t_greens, .ref t_leasts, .ref t_queues, .ref t_seconds, .ref t_weights, .int v_t_first, .int v_t_last, .int v_t_by, .int v_t_step, .int v_t_has, .int v_t_cycle, .int v_t_aim, .int v_t_proved, .ref t_offsets, .ref t_row, .ref t_open, .int v_t_arrivals, .ref t_places, .ref t_times, .ref t_cars, .ref t_hourCrossings, .ref t_hourCycles, .ref t_hourOffsets])), (t_greens, .inl (K 0, 5, .inl v_t_greens)), (t_queues, .inl (K 0, 5, .inl v_t_queues)), (t_open, .inl (K 3, 600, .inl (upd v_t_open (((120 : Int32) * z1) + z4).toNatClampNeg (vp_nar .boolean (1 : Int32)))))] H := hP
            have hD : va_D A [(t, .inr (8, [.int v_t_crossings, .ref t_greens, .ref t_leasts, .ref t_queues, .ref t_seconds, .ref t_weights, .int v_t_first, .int v_t_last, .int v_t_by, .int v_t_step, .int v_t_has, .int v_t_cycle, .int v_t_aim, .int v_t_proved, .ref t_offsets, .ref t_row, .ref t_open, .int v_t_arrivals, .ref t_places, .ref t_times, .ref t_cars, .ref t_hourCrossings, .ref t_hourCycles, .ref t_hourOffsets])), (t_greens, .inl (K 0, 5, .inl v_t_greens)), (t_queues, .inl (K 0, 5, .inl v_t_queues)), (t_open, .inl (K 3, 600, .inl (upd v_t_open (((120 : Int32) * z1) + z4).toNatClampNeg (vp_nar .boolean (1 : Int32)))))] := hD
            refine lv_iinc (v := z4 + (1 : Int32)) (lv' := [(4, .int (z4 + (1 : Int32))), (5, .int (((z4 - z2) + z3) - ((z4 - z2) + z3) / z3 * z3)), (0, .ref t), (1, .int z1), (2, .int z2), (3, .int z3)]) hx hb d_Mo_lay_58 hl (k := 5) rfl rfl (by decide) rfl (fun ls hl => ?_)
            refine lv_goto (tgt := 3) hx hb d_Mo_lay_61 (by decide) ?_
            exact jh z1 z2 z3 (z4 + (1 : Int32)) (upd v_t_open (((120 : Int32) * z1) + z4).toNatClampNeg (vp_nar .boolean (1 : Int32))) H locs q hF hP hD hS ls (lv_sub hl [2, 3, 4, 5, 0] rfl) hk
  unfold p_Mo_lay at hF
  refine lv_iconst (v := (0 : Int32)) hx hb d_Mo_lay_0 (by decide) ?_
  refine lv_istore (lv' := [(4, .int (0 : Int32)), (0, .ref t), (1, .int x1), (2, .int x2), (3, .int x3)]) hx hb d_Mo_lay_1 hl (by decide) rfl (fun ls hl => ?_)
  obtain ⟨q3_4, hC, hF⟩ := dk_b hF
  refine L3 n x1 x2 x3 (0 : Int32) v_t_open s.heap [] q3_4 hC hP hD hS ls (lv_sub hl [1, 2, 3, 4, 0] rfl) (fun H locs ls hP hD hS hl => ?_)
  obtain rfl := Option.some.inj hF
  exact W.vret hx hb hr (fun t ht hW => ⟨⟨(), rfl, by rw [ht]; exact hP, hD⟩, hS.F ht⟩) hS.2.2 d_Mo_lay_64
def p_Mo_weightOf_4 (n : Nat) : Nat → Int32 → (Nat → Int32) → Int32 → Int32 → Int32 → Option (Int32)
  | 0, _, _, _, _, _ => none
  | k + 1, v_t_crossings, v_t_weights, z1, z2, z3 =>
    if v_t_crossings ≤ (z3 + (1 : Int32)) then
      some z2
    else
      if dk_in (((2 : Int32) * z3) + z1) 10 = true then
        p_Mo_weightOf_4 n k v_t_crossings v_t_weights z1 (z2 + (v_t_weights (((2 : Int32) * z3) + z1).toNatClampNeg)) (z3 + (1 : Int32))
      else none
theorem q_Mo_weightOf_4 (n k : Nat) (v_t_crossings : Int32) (v_t_weights : Nat → Int32) (z1 : Int32) (z2 : Int32) (z3 : Int32) : p_Mo_weightOf_4 n (k + 1) v_t_crossings v_t_weights z1 z2 z3 =
    if v_t_crossings ≤ (z3 + (1 : Int32)) then
      some z2
    else
      if dk_in (((2 : Int32) * z3) + z1) 10 = true then
        p_Mo_weightOf_4 n k v_t_crossings v_t_weights z1 (z2 + (v_t_weights (((2 : Int32) * z3) + z1).toNatClampNeg)) (z3 + (1 : Int32))
      else none := rfl
def p_Mo_weightOf (n : Nat) (x1 : Int32) (v_t_crossings : Int32) (v_t_weights : Nat → Int32) : Option (Int32) :=
  (p_Mo_weightOf_4 n n v_t_crossings v_t_weights x1 (0 : Int32) (0 : Int32)).bind fun q4_2 =>
  some q4_2
abbrev m_Mo_weightOf : Room := { frames := 0, cells := 0, slots := 0, locals := 0 }
set_option maxHeartbeats 4000000 in
set_option maxRecDepth 100000 in
theorem c_Mo_weightOf (l : Launch) (G : va_G) (K : Nat → ClassId) (n : Nat) (t : Nat) (t_greens : Nat) (t_leasts : Nat) (t_queues : Nat) (t_seconds : Nat) (t_weights : Nat) (t_offsets : Nat) (t_row : Nat) (t_open : Nat) (t_places : Nat) (t_times : Nat) (t_cars : Nat) (t_hourCrossings : Nat) (t_hourCycles : Nat) (t_hourOffsets : Nat) (x1 : Int32) (v_t_crossings : Int32) (v_t_first : Int32) (v_t_last : Int32) (v_t_by : Int32) (v_t_step : Int32) (v_t_has : Int32) (v_t_cycle : Int32) (v_t_aim : Int32) (v_t_proved : Int32) (v_t_arrivals : Int32) (v_t_weights : Nat → Int32) (o : Int32) (hF : p_Mo_weightOf n x1 v_t_crossings v_t_weights = some o) :
    Met l y_Mo_weightOf (wd y_Mo_weightOf b_Mo_weightOf 4 (some .int)) m_Mo_weightOf (dk_Pp [.ref t, .int x1] G K [(t, .inr (8, [.int v_t_crossings, .ref t_greens, .ref t_leasts, .ref t_queues, .ref t_seconds, .ref t_weights, .int v_t_first, .int v_t_last, .int v_t_by, .int v_t_step, .int v_t_has, .int v_t_cycle, .int v_t_aim, .int v_t_proved, .ref t_offsets, .ref t_row, .ref t_open, .int v_t_arrivals, .ref t_places, .ref t_times, .ref t_cars, .ref t_hourCrossings, .ref t_hourCycles, .ref t_hourOffsets])), (t_weights, .inl (K 0, 10, .inl v_t_weights))]) (dk_Qp (some (.int o))) 0 0 (fun _ => False) := by
  refine Met.ofW (cc := b_Mo_weightOf) (maxL := 4) (ret := (some .int)) (by decide) rfl ?_
  intro p e s m args below meth c s₁ B hml hv
  obtain ⟨rfl, hP, hK, hN⟩ := hv
  have hx := B.exec
  have hb := B.bytes
  have hr := B.returns
  have hts : ∀ w ∈ lw_good, w.before _ s = true := fun w h => atoms_spec (ws := wd y_Mo_weightOf b_Mo_weightOf 4 (some .int)) B.pre w (List.mem_cons_of_mem _ h)
  have hown : s.vm.findClass R_Mo = some m.cls := findClass_of_methodNamed B.named
  have hlocks := B.notSynchronized
  have hfix : CallFix p m c b_Mo_weightOf 4 s _ lw_good R_Mo := ⟨hx, hb, hml, hown, hts⟩
  have hl := lv_entry ([.ref t, .int x1]) (n := 4) (Nat.le_of_ble_eq_true rfl)
  rw [lg_entry_eq]
  generalize (lg_sl ([.ref t, .int x1]) ++ List.replicate (4 - (lg_sl ([.ref t, .int x1])).length) Slot.unset).toArray = ls at hl ⊢
  have hl : lv_has ls 4 [(0, .ref t), (1, .int x1)] := hl
  change W p l e m_Mo_weightOf s m _ below meth c s.heap [] 0 0 _ _
  have L4 : ∀ (k : Nat) (z1 : Int32) (z2 : Int32) (z3 : Int32) (q : Int32), p_Mo_weightOf_4 n k v_t_crossings v_t_weights z1 z2 z3 = some q → ∀ ls : Array Slot, lv_has ls 4 [(0, .ref t), (1, .int z1), (2, .int z2), (3, .int z3)] → (∀ (ls1 : Array Slot), lv_has ls1 4 [(2, .int q)] → W p l e m_Mo_weightOf s m ([.ref t, .int x1] : List Value).toArray below meth c s.heap [] 0 0 (MQ below (dk_Qp (some (.int o))) ([.ref t, .int x1] : List Value).toArray s 0 0 (fun _ => False)) (F0 m 33 ls1 [])) → W p l e m_Mo_weightOf s m ([.ref t, .int x1] : List Value).toArray below meth c s.heap [] 0 0 (MQ below (dk_Qp (some (.int o))) ([.ref t, .int x1] : List Value).toArray s 0 0 (fun _ => False)) (F0 m 4 ls []) := by
    intro k
    induction k with
    | zero =>
      intro z1 z2 z3 q hF ls hl hk
      exact absurd hF (by simp [p_Mo_weightOf_4])
    | succ k jh =>
      intro z1 z2 z3 q hF ls hl hk
      have hF := (q_Mo_weightOf_4 n k v_t_crossings v_t_weights z1 z2 z3).symm.trans hF
      refine lv_iload_n hx hb d_Mo_weightOf_4 rfl (lv_at hl 3 rfl) ?_
      refine lv_iconst (v := (1 : Int32)) hx hb d_Mo_weightOf_5 (by decide) ?_
      refine lv_iadd hx hb d_Mo_weightOf_6 ?_
      refine lv_aload_n hx hb d_Mo_weightOf_7 rfl (lv_at hl 0 rfl) ?_
      refine va_get (D := G) (ci := 8) (v := .int v_t_crossings) (C := R_Mo) (T := F_Mo) (N := 24) hx hb hts i_Mo hown hK hP 0 rfl rfl 0 (by decide) (hts _ lk_415) (fun _ h9 => h9) rfl d_Mo_weightOf_8 ?_
      refine lv_icmp_ge (tgt := 33) hx hb d_Mo_weightOf_11 (by decide) (fun c11_1 => ?_) (fun c11_1 => ?_)
      · have hF := dk_t c11_1 hF
        obtain rfl := Option.some.inj hF
        exact hk ls (lv_sub hl [2] rfl)
      · have hF := dk_f c11_1 hF
        refine lv_iload_n hx hb d_Mo_weightOf_14 rfl (lv_at hl 2 rfl) ?_
        refine lv_aload_n hx hb d_Mo_weightOf_15 rfl (lv_at hl 0 rfl) ?_
        refine va_get (D := G) (ci := 8) (v := .ref t_weights) (C := R_Mo) (T := F_Mo) (N := 24) hx hb hts i_Mo hown hK hP 0 rfl rfl 5 (by decide) (hts _ lk_429) (fun _ h9 => h9) rfl d_Mo_weightOf_16 ?_
        refine lv_iconst (v := (2 : Int32)) hx hb d_Mo_weightOf_19 (by decide) ?_
        refine lv_iload_n hx hb d_Mo_weightOf_20 rfl (lv_at hl 3 rfl) ?_
        refine lv_imul hx hb d_Mo_weightOf_21 ?_
        refine lv_iload_n hx hb d_Mo_weightOf_22 rfl (lv_at hl 1 rfl) ?_
        refine lv_iadd hx hb d_Mo_weightOf_23 ?_
        obtain ⟨hi, hF⟩ := dk_a hF
        refine va_iald (D := G) hx hb hK hP 1 0 rfl rfl (dk_vp hi) d_Mo_weightOf_24 ?_
        refine lv_iadd hx hb d_Mo_weightOf_25 ?_
        refine lv_istore_n (lv' := [(2, .int (z2 + (v_t_weights (((2 : Int32) * z3) + z1).toNatClampNeg))), (0, .ref t), (1, .int z1), (3, .int z3)]) hx hb d_Mo_weightOf_26 rfl hl (by decide) rfl (fun ls hl => ?_)
        refine lv_iinc (v := z3 + (1 : Int32)) (lv' := [(3, .int (z3 + (1 : Int32))), (2, .int (z2 + (v_t_weights (((2 : Int32) * z3) + z1).toNatClampNeg))), (0, .ref t), (1, .int z1)]) hx hb d_Mo_weightOf_27 hl (k := 3) rfl rfl (by decide) rfl (fun ls hl => ?_)
        refine lv_goto (tgt := 4) hx hb d_Mo_weightOf_30 (by decide) ?_
        exact jh z1 (z2 + (v_t_weights (((2 : Int32) * z3) + z1).toNatClampNeg)) (z3 + (1 : Int32)) q hF ls (lv_sub hl [2, 3, 1, 0] rfl) hk
  unfold p_Mo_weightOf at hF
  refine lv_iconst (v := (0 : Int32)) hx hb d_Mo_weightOf_0 (by decide) ?_
  refine lv_istore_n (lv' := [(2, .int (0 : Int32)), (0, .ref t), (1, .int x1)]) hx hb d_Mo_weightOf_1 rfl hl (by decide) rfl (fun ls hl => ?_)
  refine lv_iconst (v := (0 : Int32)) hx hb d_Mo_weightOf_2 (by decide) ?_
  refine lv_istore_n (lv' := [(3, .int (0 : Int32)), (2, .int (0 : Int32)), (0, .ref t), (1, .int x1)]) hx hb d_Mo_weightOf_3 rfl hl (by decide) rfl (fun ls hl => ?_)
  obtain ⟨q4_2, hC, hF⟩ := dk_b hF
  refine L4 n x1 (0 : Int32) (0 : Int32) q4_2 hC ls (lv_sub hl [2, 3, 1, 0] rfl) (fun ls hl => ?_)
  refine lv_iload_n hx hb d_Mo_weightOf_33 rfl (lv_at hl 0 rfl) ?_
  obtain rfl := Option.some.inj hF
  exact W.iret (v := q4_2) hx hb hr (fun t ht hW => ⟨rfl, ht⟩) (fun _ h => by cases h) d_Mo_weightOf_34
def p_Mo_band_45 (n : Nat) : Nat → (Nat → Int32) → (Nat → Int32) → Int32 → Int32 → Int32 → Int32 → Int32 → Int32 → Int32 → Option (Int32)
  | 0, _, _, _, _, _, _, _, _, _ => none
  | k + 1, v_t_open, v_t_seconds, z1, z2, z3, z4, z5, z6, z7 =>
    if z5 = z6 then
      some z5
    else
      if dk_in (((120 : Int32) * z5) + z7) 600 = true then
        if (v_t_open (((120 : Int32) * z5) + z7).toNatClampNeg) = 0 then
          some z5
        else
          if z1 = 0 then
            if z1 = 0 then
              if (z5 + (1 : Int32)) = z6 then
                p_Mo_band_45 n k v_t_open v_t_seconds z1 z2 z3 z4 (z5 + (1 : Int32)) z6 z7
              else
                if dk_in ((2 : Int32) * z5) 10 = true then
                  if z2 = 0 then none else
                  p_Mo_band_45 n k v_t_open v_t_seconds z1 z2 z3 z4 (z5 + (1 : Int32)) z6 ((z7 + (v_t_seconds ((2 : Int32) * z5).toNatClampNeg)) - (z7 + (v_t_seconds ((2 : Int32) * z5).toNatClampNeg)) / z2 * z2)
                else none
            else
              if (z5 + ((-1) : Int32)) = z6 then
                p_Mo_band_45 n k v_t_open v_t_seconds z1 z2 z3 z4 (z5 + ((-1) : Int32)) z6 z7
              else
                if dk_in ((2 : Int32) * z5) 10 = true then
                  if z2 = 0 then none else
                  p_Mo_band_45 n k v_t_open v_t_seconds z1 z2 z3 z4 (z5 + ((-1) : Int32)) z6 ((z7 + (v_t_seconds ((2 : Int32) * z5).toNatClampNeg)) - (z7 + (v_t_seconds ((2 : Int32) * z5).toNatClampNeg)) / z2 * z2)
                else none
          else
            if z1 = 0 then
              if (z5 + (1 : Int32)) = z6 then
                p_Mo_band_45 n k v_t_open v_t_seconds z1 z2 z3 z4 (z5 + (1 : Int32)) z6 z7
              else
                if dk_in (((2 : Int32) * z5) - (1 : Int32)) 10 = true then
                  if z2 = 0 then none else
                  p_Mo_band_45 n k v_t_open v_t_seconds z1 z2 z3 z4 (z5 + (1 : Int32)) z6 ((z7 + (v_t_seconds (((2 : Int32) * z5) - (1 : Int32)).toNatClampNeg)) - (z7 + (v_t_seconds (((2 : Int32) * z5) - (1 : Int32)).toNatClampNeg)) / z2 * z2)
                else none
            else
              if (z5 + ((-1) : Int32)) = z6 then
                p_Mo_band_45 n k v_t_open v_t_seconds z1 z2 z3 z4 (z5 + ((-1) : Int32)) z6 z7
              else
                if dk_in (((2 : Int32) * z5) - (1 : Int32)) 10 = true then
                  if z2 = 0 then none else
                  p_Mo_band_45 n k v_t_open v_t_seconds z1 z2 z3 z4 (z5 + ((-1) : Int32)) z6 ((z7 + (v_t_seconds (((2 : Int32) * z5) - (1 : Int32)).toNatClampNeg)) - (z7 + (v_t_seconds (((2 : Int32) * z5) - (1 : Int32)).toNatClampNeg)) / z2 * z2)
                else none
      else none
theorem q_Mo_band_45 (n k : Nat) (v_t_open : Nat → Int32) (v_t_seconds : Nat → Int32) (z1 : Int32) (z2 : Int32) (z3 : Int32) (z4 : Int32) (z5 : Int32) (z6 : Int32) (z7 : Int32) : p_Mo_band_45 n (k + 1) v_t_open v_t_seconds z1 z2 z3 z4 z5 z6 z7 =
    if z5 = z6 then
      some z5
    else
      if dk_in (((120 : Int32) * z5) + z7) 600 = true then
        if (v_t_open (((120 : Int32) * z5) + z7).toNatClampNeg) = 0 then
          some z5
        else
          if z1 = 0 then
            if z1 = 0 then
              if (z5 + (1 : Int32)) = z6 then
                p_Mo_band_45 n k v_t_open v_t_seconds z1 z2 z3 z4 (z5 + (1 : Int32)) z6 z7
              else
                if dk_in ((2 : Int32) * z5) 10 = true then
                  if z2 = 0 then none else
                  p_Mo_band_45 n k v_t_open v_t_seconds z1 z2 z3 z4 (z5 + (1 : Int32)) z6 ((z7 + (v_t_seconds ((2 : Int32) * z5).toNatClampNeg)) - (z7 + (v_t_seconds ((2 : Int32) * z5).toNatClampNeg)) / z2 * z2)
                else none
            else
              if (z5 + ((-1) : Int32)) = z6 then
                p_Mo_band_45 n k v_t_open v_t_seconds z1 z2 z3 z4 (z5 + ((-1) : Int32)) z6 z7
              else
                if dk_in ((2 : Int32) * z5) 10 = true then
                  if z2 = 0 then none else
                  p_Mo_band_45 n k v_t_open v_t_seconds z1 z2 z3 z4 (z5 + ((-1) : Int32)) z6 ((z7 + (v_t_seconds ((2 : Int32) * z5).toNatClampNeg)) - (z7 + (v_t_seconds ((2 : Int32) * z5).toNatClampNeg)) / z2 * z2)
                else none
          else
            if z1 = 0 then
              if (z5 + (1 : Int32)) = z6 then
                p_Mo_band_45 n k v_t_open v_t_seconds z1 z2 z3 z4 (z5 + (1 : Int32)) z6 z7
              else
                if dk_in (((2 : Int32) * z5) - (1 : Int32)) 10 = true then
                  if z2 = 0 then none else
                  p_Mo_band_45 n k v_t_open v_t_seconds z1 z2 z3 z4 (z5 + (1 : Int32)) z6 ((z7 + (v_t_seconds (((2 : Int32) * z5) - (1 : Int32)).toNatClampNeg)) - (z7 + (v_t_seconds (((2 : Int32) * z5) - (1 : Int32)).toNatClampNeg)) / z2 * z2)
                else none
            else
              if (z5 + ((-1) : Int32)) = z6 then
                p_Mo_band_45 n k v_t_open v_t_seconds z1 z2 z3 z4 (z5 + ((-1) : Int32)) z6 z7
              else
                if dk_in (((2 : Int32) * z5) - (1 : Int32)) 10 = true then
                  if z2 = 0 then none else
                  p_Mo_band_45 n k v_t_open v_t_seconds z1 z2 z3 z4 (z5 + ((-1) : Int32)) z6 ((z7 + (v_t_seconds (((2 : Int32) * z5) - (1 : Int32)).toNatClampNeg)) - (z7 + (v_t_seconds (((2 : Int32) * z5) - (1 : Int32)).toNatClampNeg)) / z2 * z2)
                else none
      else none := rfl
def p_Mo_band_5 (n : Nat) : Nat → Int32 → (Nat → Int32) → (Nat → Int32) → Int32 → Int32 → Int32 → Int32 → Option (Int32)
  | 0, _, _, _, _, _, _, _ => none
  | k + 1, v_t_crossings, v_t_open, v_t_seconds, z1, z2, z3, z4 =>
    if z2 ≤ z4 then
      some z3
    else
      if z1 = 0 then
        if z1 = 0 then
          (p_Mo_band_45 n n v_t_open v_t_seconds z1 z2 z3 z4 (0 : Int32) v_t_crossings z4).bind fun q45_20 =>
          if q45_20 = v_t_crossings then
            p_Mo_band_5 n k v_t_crossings v_t_open v_t_seconds z1 z2 (z3 + (1 : Int32)) (z4 + (1 : Int32))
          else
            p_Mo_band_5 n k v_t_crossings v_t_open v_t_seconds z1 z2 (z3 + (0 : Int32)) (z4 + (1 : Int32))
        else
          (p_Mo_band_45 n n v_t_open v_t_seconds z1 z2 z3 z4 (0 : Int32) ((-1) : Int32) z4).bind fun q45_18 =>
          if q45_18 = ((-1) : Int32) then
            p_Mo_band_5 n k v_t_crossings v_t_open v_t_seconds z1 z2 (z3 + (1 : Int32)) (z4 + (1 : Int32))
          else
            p_Mo_band_5 n k v_t_crossings v_t_open v_t_seconds z1 z2 (z3 + (0 : Int32)) (z4 + (1 : Int32))
      else
        if z1 = 0 then
          (p_Mo_band_45 n n v_t_open v_t_seconds z1 z2 z3 z4 (v_t_crossings - (1 : Int32)) v_t_crossings z4).bind fun q45_15 =>
          if q45_15 = v_t_crossings then
            p_Mo_band_5 n k v_t_crossings v_t_open v_t_seconds z1 z2 (z3 + (1 : Int32)) (z4 + (1 : Int32))
          else
            p_Mo_band_5 n k v_t_crossings v_t_open v_t_seconds z1 z2 (z3 + (0 : Int32)) (z4 + (1 : Int32))
        else
          (p_Mo_band_45 n n v_t_open v_t_seconds z1 z2 z3 z4 (v_t_crossings - (1 : Int32)) ((-1) : Int32) z4).bind fun q45_13 =>
          if q45_13 = ((-1) : Int32) then
            p_Mo_band_5 n k v_t_crossings v_t_open v_t_seconds z1 z2 (z3 + (1 : Int32)) (z4 + (1 : Int32))
          else
            p_Mo_band_5 n k v_t_crossings v_t_open v_t_seconds z1 z2 (z3 + (0 : Int32)) (z4 + (1 : Int32))
theorem q_Mo_band_5 (n k : Nat) (v_t_crossings : Int32) (v_t_open : Nat → Int32) (v_t_seconds : Nat → Int32) (z1 : Int32) (z2 : Int32) (z3 : Int32) (z4 : Int32) : p_Mo_band_5 n (k + 1) v_t_crossings v_t_open v_t_seconds z1 z2 z3 z4 =
    if z2 ≤ z4 then
      some z3
    else
      if z1 = 0 then
        if z1 = 0 then
          (p_Mo_band_45 n n v_t_open v_t_seconds z1 z2 z3 z4 (0 : Int32) v_t_crossings z4).bind fun q45_20 =>
          if q45_20 = v_t_crossings then
            p_Mo_band_5 n k v_t_crossings v_t_open v_t_seconds z1 z2 (z3 + (1 : Int32)) (z4 + (1 : Int32))
          else
            p_Mo_band_5 n k v_t_crossings v_t_open v_t_seconds z1 z2 (z3 + (0 : Int32)) (z4 + (1 : Int32))
        else
          (p_Mo_band_45 n n v_t_open v_t_seconds z1 z2 z3 z4 (0 : Int32) ((-1) : Int32) z4).bind fun q45_18 =>
          if q45_18 = ((-1) : Int32) then
            p_Mo_band_5 n k v_t_crossings v_t_open v_t_seconds z1 z2 (z3 + (1 : Int32)) (z4 + (1 : Int32))
          else
            p_Mo_band_5 n k v_t_crossings v_t_open v_t_seconds z1 z2 (z3 + (0 : Int32)) (z4 + (1 : Int32))
      else
        if z1 = 0 then
          (p_Mo_band_45 n n v_t_open v_t_seconds z1 z2 z3 z4 (v_t_crossings - (1 : Int32)) v_t_crossings z4).bind fun q45_15 =>
          if q45_15 = v_t_crossings then
            p_Mo_band_5 n k v_t_crossings v_t_open v_t_seconds z1 z2 (z3 + (1 : Int32)) (z4 + (1 : Int32))
          else
            p_Mo_band_5 n k v_t_crossings v_t_open v_t_seconds z1 z2 (z3 + (0 : Int32)) (z4 + (1 : Int32))
        else
          (p_Mo_band_45 n n v_t_open v_t_seconds z1 z2 z3 z4 (v_t_crossings - (1 : Int32)) ((-1) : Int32) z4).bind fun q45_13 =>
          if q45_13 = ((-1) : Int32) then
            p_Mo_band_5 n k v_t_crossings v_t_open v_t_seconds z1 z2 (z3 + (1 : Int32)) (z4 + (1 : Int32))
          else
            p_Mo_band_5 n k v_t_crossings v_t_open v_t_seconds z1 z2 (z3 + (0 : Int32)) (z4 + (1 : Int32)) := rfl
def p_Mo_band (n : Nat) (x1 : Int32) (x2 : Int32) (v_t_crossings : Int32) (v_t_open : Nat → Int32) (v_t_seconds : Nat → Int32) : Option (Int32) :=
  (p_Mo_band_5 n n v_t_crossings v_t_open v_t_seconds x1 x2 (0 : Int32) (0 : Int32)).bind fun q5_22 =>
  some q5_22
abbrev m_Mo_band : Room := { frames := 0, cells := 0, slots := 0, locals := 0 }
set_option maxHeartbeats 4000000 in
set_option maxRecDepth 100000 in
theorem c_Mo_band (l : Launch) (G : va_G) (K : Nat → ClassId) (n : Nat) (t : Nat) (t_greens : Nat) (t_leasts : Nat) (t_queues : Nat) (t_seconds : Nat) (t_weights : Nat) (t_offsets : Nat) (t_row : Nat) (t_open : Nat) (t_places : Nat) (t_times : Nat) (t_cars : Nat) (t_hourCrossings : Nat) (t_hourCycles : Nat) (t_hourOffsets : Nat) (x1 : Int32) (x2 : Int32) (v_t_crossings : Int32) (v_t_first : Int32) (v_t_last : Int32) (v_t_by : Int32) (v_t_step : Int32) (v_t_has : Int32) (v_t_cycle : Int32) (v_t_aim : Int32) (v_t_proved : Int32) (v_t_arrivals : Int32) (v_t_seconds : Nat → Int32) (v_t_open : Nat → Int32) (o : Int32) (hF : p_Mo_band n x1 x2 v_t_crossings v_t_open v_t_seconds = some o) :
    Met l y_Mo_band (wd y_Mo_band b_Mo_band 9 (some .int)) m_Mo_band (dk_Pp [.ref t, .int x1, .int x2] G K [(t, .inr (8, [.int v_t_crossings, .ref t_greens, .ref t_leasts, .ref t_queues, .ref t_seconds, .ref t_weights, .int v_t_first, .int v_t_last, .int v_t_by, .int v_t_step, .int v_t_has, .int v_t_cycle, .int v_t_aim, .int v_t_proved, .ref t_offsets, .ref t_row, .ref t_open, .int v_t_arrivals, .ref t_places, .ref t_times, .ref t_cars, .ref t_hourCrossings, .ref t_hourCycles, .ref t_hourOffsets])), (t_seconds, .inl (K 0, 10, .inl v_t_seconds)), (t_open, .inl (K 3, 600, .inl v_t_open))]) (dk_Qp (some (.int o))) 0 0 (fun _ => False) := by
  refine Met.ofW (cc := b_Mo_band) (maxL := 9) (ret := (some .int)) (by decide) rfl ?_
  intro p e s m args below meth c s₁ B hml hv
  obtain ⟨rfl, hP, hK, hN⟩ := hv
  have hx := B.exec
  have hb := B.bytes
  have hr := B.returns
  have hts : ∀ w ∈ lw_good, w.before _ s = true := fun w h => atoms_spec (ws := wd y_Mo_band b_Mo_band 9 (some .int)) B.pre w (List.mem_cons_of_mem _ h)
  have hown : s.vm.findClass R_Mo = some m.cls := findClass_of_methodNamed B.named
  have hlocks := B.notSynchronized
  have hfix : CallFix p m c b_Mo_band 9 s _ lw_good R_Mo := ⟨hx, hb, hml, hown, hts⟩
  have hl := lv_entry ([.ref t, .int x1, .int x2]) (n := 9) (Nat.le_of_ble_eq_true rfl)
  rw [lg_entry_eq]
  generalize (lg_sl ([.ref t, .int x1, .int x2]) ++ List.replicate (9 - (lg_sl ([.ref t, .int x1, .int x2])).length) Slot.unset).toArray = ls at hl ⊢
  have hl : lv_has ls 9 [(0, .ref t), (1, .int x1), (2, .int x2)] := hl
  change W p l e m_Mo_band s m _ below meth c s.heap [] 0 0 _ _
  have L45 : ∀ (k : Nat) (z1 : Int32) (z2 : Int32) (z3 : Int32) (z4 : Int32) (z5 : Int32) (z6 : Int32) (z7 : Int32) (q : Int32), p_Mo_band_45 n k v_t_open v_t_seconds z1 z2 z3 z4 z5 z6 z7 = some q → ∀ ls : Array Slot, lv_has ls 9 [(0, .ref t), (1, .int z1), (2, .int z2), (3, .int z3), (4, .int z4), (5, .int z5), (6, .int z6), (7, .int z7)] → (∀ (ls1 : Array Slot), lv_has ls1 9 [(0, .ref t), (1, .int z1), (2, .int z2), (3, .int z3), (4, .int z4), (5, .int q), (6, .int z6)] → W p l e m_Mo_band s m ([.ref t, .int x1, .int x2] : List Value).toArray below meth c s.heap [] 0 0 (MQ below (dk_Qp (some (.int o))) ([.ref t, .int x1, .int x2] : List Value).toArray s 0 0 (fun _ => False)) (F0 m 130 ls1 [])) → W p l e m_Mo_band s m ([.ref t, .int x1, .int x2] : List Value).toArray below meth c s.heap [] 0 0 (MQ below (dk_Qp (some (.int o))) ([.ref t, .int x1, .int x2] : List Value).toArray s 0 0 (fun _ => False)) (F0 m 45 ls []) := by
    intro k
    induction k with
    | zero =>
      intro z1 z2 z3 z4 z5 z6 z7 q hF ls hl hk
      exact absurd hF (by simp [p_Mo_band_45])
    | succ k jh =>
      intro z1 z2 z3 z4 z5 z6 z7 q hF ls hl hk
      have hF := (q_Mo_band_45 n k v_t_open v_t_seconds z1 z2 z3 z4 z5 z6 z7).symm.trans hF
      refine lv_iload hx hb d_Mo_band_45 (lv_at hl 5 rfl) ?_
      refine lv_iload hx hb d_Mo_band_47 (lv_at hl 6 rfl) ?_
      refine lv_icmp_eq (tgt := 130) hx hb d_Mo_band_49 (by decide) (fun c49_4 => ?_) (fun c49_4 => ?_)
      · have hF := dk_t c49_4 hF
        obtain rfl := Option.some.inj hF
        exact hk ls (lv_sub hl [0, 1, 2, 3, 4, 5, 6] rfl)
      · have hF := dk_f c49_4 hF
        refine lv_aload_n hx hb d_Mo_band_52 rfl (lv_at hl 0 rfl) ?_
        refine va_get (D := G) (ci := 8) (v := .ref t_open) (C := R_Mo) (T := F_Mo) (N := 24) hx hb hts i_Mo hown hK hP 0 rfl rfl 16 (by decide) (hts _ lk_442) (fun _ h9 => h9) rfl d_Mo_band_53 ?_
        refine lv_bipush (v := (120 : Int32)) hx hb d_Mo_band_56 (by decide) ?_
        refine lv_iload hx hb d_Mo_band_58 (lv_at hl 5 rfl) ?_
        refine lv_imul hx hb d_Mo_band_60 ?_
        refine lv_iload hx hb d_Mo_band_61 (lv_at hl 7 rfl) ?_
        refine lv_iadd hx hb d_Mo_band_63 ?_
        obtain ⟨hi, hF⟩ := dk_a hF
        refine va_zald (D := G) hx hb hK hP 2 3 rfl rfl (dk_vp hi) d_Mo_band_64 ?_
        refine lv_if_eq (tgt := 130) hx hb d_Mo_band_65 (by decide) (fun c65_5 => ?_) (fun c65_5 => ?_)
        · have hF := dk_t c65_5 hF
          obtain rfl := Option.some.inj hF
          exact hk ls (lv_sub hl [0, 1, 2, 3, 4, 5, 6] rfl)
        · have hF := dk_f c65_5 hF
          refine lv_iload_n hx hb d_Mo_band_68 rfl (lv_at hl 1 rfl) ?_
          refine lv_if_ne (tgt := 79) hx hb d_Mo_band_69 (by decide) (fun c69_6 => ?_) (fun c69_6 => ?_)
          · have hF := dk_f c69_6 hF
            refine lv_iconst (v := (2 : Int32)) hx hb d_Mo_band_79 (by decide) ?_
            refine lv_iload hx hb d_Mo_band_80 (lv_at hl 5 rfl) ?_
            refine lv_imul hx hb d_Mo_band_82 ?_
            refine lv_iconst (v := (1 : Int32)) hx hb d_Mo_band_83 (by decide) ?_
            refine lv_isub hx hb d_Mo_band_84 ?_
            refine lv_istore (lv' := [(8, .int (((2 : Int32) * z5) - (1 : Int32))), (0, .ref t), (1, .int z1), (2, .int z2), (3, .int z3), (4, .int z4), (5, .int z5), (6, .int z6), (7, .int z7)]) hx hb d_Mo_band_85 hl (by decide) rfl (fun ls hl => ?_)
            refine lv_iload hx hb d_Mo_band_87 (lv_at hl 6 rfl) ?_
            refine lv_iload_n hx hb d_Mo_band_89 rfl (lv_at hl 2 rfl) ?_
            refine lv_if_ne (tgt := 97) hx hb d_Mo_band_90 (by decide) (fun c90_7 => ?_) (fun c90_7 => ?_)
            · have hF := dk_f c90_7 hF
              refine lv_iconst (v := ((-1) : Int32)) hx hb d_Mo_band_97 (by decide) ?_
              refine lv_iadd hx hb d_Mo_band_98 ?_
              refine lv_istore (lv' := [(5, .int (z5 + ((-1) : Int32))), (8, .int (((2 : Int32) * z5) - (1 : Int32))), (0, .ref t), (1, .int z1), (2, .int z2), (3, .int z3), (4, .int z4), (6, .int z6), (7, .int z7)]) hx hb d_Mo_band_99 hl (by decide) rfl (fun ls hl => ?_)
              refine lv_iload hx hb d_Mo_band_101 (lv_at hl 0 rfl) ?_
              refine lv_iload hx hb d_Mo_band_103 (lv_at hl 7 rfl) ?_
              refine lv_icmp_ne (tgt := 113) hx hb d_Mo_band_105 (by decide) (fun c105_8 => ?_) (fun c105_8 => ?_)
              · have hF := dk_f c105_8 hF
                refine lv_iload hx hb d_Mo_band_113 (lv_at hl 8 rfl) ?_
                refine lv_aload_n hx hb d_Mo_band_115 rfl (lv_at hl 2 rfl) ?_
                refine va_get (D := G) (ci := 8) (v := .ref t_seconds) (C := R_Mo) (T := F_Mo) (N := 24) hx hb hts i_Mo hown hK hP 0 rfl rfl 4 (by decide) (hts _ lk_428) (fun _ h9 => h9) rfl d_Mo_band_116 ?_
                refine lv_iload hx hb d_Mo_band_119 (lv_at hl 1 rfl) ?_
                obtain ⟨hi, hF⟩ := dk_a hF
                refine va_iald (D := G) hx hb hK hP 1 0 rfl rfl (dk_vp hi) d_Mo_band_121 ?_
                refine lv_iadd hx hb d_Mo_band_122 ?_
                refine lv_iload_n hx hb d_Mo_band_123 rfl (lv_at hl 4 rfl) ?_
                obtain ⟨hz, hF⟩ := dk_z hF
                refine lv_irem hx hb d_Mo_band_124 hz ?_
                refine lv_istore (lv' := [(7, .int ((z7 + (v_t_seconds (((2 : Int32) * z5) - (1 : Int32)).toNatClampNeg)) - (z7 + (v_t_seconds (((2 : Int32) * z5) - (1 : Int32)).toNatClampNeg)) / z2 * z2)), (5, .int (z5 + ((-1) : Int32))), (8, .int (((2 : Int32) * z5) - (1 : Int32))), (0, .ref t), (1, .int z1), (2, .int z2), (3, .int z3), (4, .int z4), (6, .int z6)]) hx hb d_Mo_band_125 hl (by decide) rfl (fun ls hl => ?_)
                refine lv_goto (tgt := 45) hx hb d_Mo_band_127 (by decide) ?_
                exact jh z1 z2 z3 z4 (z5 + ((-1) : Int32)) z6 ((z7 + (v_t_seconds (((2 : Int32) * z5) - (1 : Int32)).toNatClampNeg)) - (z7 + (v_t_seconds (((2 : Int32) * z5) - (1 : Int32)).toNatClampNeg)) / z2 * z2) q hF ls (lv_sub hl [3, 4, 5, 6, 7, 1, 8, 0] rfl) hk
              · have hF := dk_t c105_8 hF
                refine lv_iload hx hb d_Mo_band_108 (lv_at hl 8 rfl) ?_
                refine lv_goto (tgt := 125) hx hb d_Mo_band_110 (by decide) ?_
                refine lv_istore (lv' := [(7, .int z7), (5, .int (z5 + ((-1) : Int32))), (8, .int (((2 : Int32) * z5) - (1 : Int32))), (0, .ref t), (1, .int z1), (2, .int z2), (3, .int z3), (4, .int z4), (6, .int z6)]) hx hb d_Mo_band_125 hl (by decide) rfl (fun ls hl => ?_)
                refine lv_goto (tgt := 45) hx hb d_Mo_band_127 (by decide) ?_
                exact jh z1 z2 z3 z4 (z5 + ((-1) : Int32)) z6 z7 q hF ls (lv_sub hl [3, 4, 5, 6, 7, 1, 8, 0] rfl) hk
            · have hF := dk_t c90_7 hF
              refine lv_iconst (v := (1 : Int32)) hx hb d_Mo_band_93 (by decide) ?_
              refine lv_goto (tgt := 98) hx hb d_Mo_band_94 (by decide) ?_
              refine lv_iadd hx hb d_Mo_band_98 ?_
              refine lv_istore (lv' := [(5, .int (z5 + (1 : Int32))), (8, .int (((2 : Int32) * z5) - (1 : Int32))), (0, .ref t), (1, .int z1), (2, .int z2), (3, .int z3), (4, .int z4), (6, .int z6), (7, .int z7)]) hx hb d_Mo_band_99 hl (by decide) rfl (fun ls hl => ?_)
              refine lv_iload hx hb d_Mo_band_101 (lv_at hl 0 rfl) ?_
              refine lv_iload hx hb d_Mo_band_103 (lv_at hl 7 rfl) ?_
              refine lv_icmp_ne (tgt := 113) hx hb d_Mo_band_105 (by decide) (fun c105_9 => ?_) (fun c105_9 => ?_)
              · have hF := dk_f c105_9 hF
                refine lv_iload hx hb d_Mo_band_113 (lv_at hl 8 rfl) ?_
                refine lv_aload_n hx hb d_Mo_band_115 rfl (lv_at hl 2 rfl) ?_
                refine va_get (D := G) (ci := 8) (v := .ref t_seconds) (C := R_Mo) (T := F_Mo) (N := 24) hx hb hts i_Mo hown hK hP 0 rfl rfl 4 (by decide) (hts _ lk_428) (fun _ h9 => h9) rfl d_Mo_band_116 ?_
                refine lv_iload hx hb d_Mo_band_119 (lv_at hl 1 rfl) ?_
                obtain ⟨hi, hF⟩ := dk_a hF
                refine va_iald (D := G) hx hb hK hP 1 0 rfl rfl (dk_vp hi) d_Mo_band_121 ?_
                refine lv_iadd hx hb d_Mo_band_122 ?_
                refine lv_iload_n hx hb d_Mo_band_123 rfl (lv_at hl 4 rfl) ?_
                obtain ⟨hz, hF⟩ := dk_z hF
                refine lv_irem hx hb d_Mo_band_124 hz ?_
                refine lv_istore (lv' := [(7, .int ((z7 + (v_t_seconds (((2 : Int32) * z5) - (1 : Int32)).toNatClampNeg)) - (z7 + (v_t_seconds (((2 : Int32) * z5) - (1 : Int32)).toNatClampNeg)) / z2 * z2)), (5, .int (z5 + (1 : Int32))), (8, .int (((2 : Int32) * z5) - (1 : Int32))), (0, .ref t), (1, .int z1), (2, .int z2), (3, .int z3), (4, .int z4), (6, .int z6)]) hx hb d_Mo_band_125 hl (by decide) rfl (fun ls hl => ?_)
                refine lv_goto (tgt := 45) hx hb d_Mo_band_127 (by decide) ?_
                exact jh z1 z2 z3 z4 (z5 + (1 : Int32)) z6 ((z7 + (v_t_seconds (((2 : Int32) * z5) - (1 : Int32)).toNatClampNeg)) - (z7 + (v_t_seconds (((2 : Int32) * z5) - (1 : Int32)).toNatClampNeg)) / z2 * z2) q hF ls (lv_sub hl [3, 4, 5, 6, 7, 1, 8, 0] rfl) hk
              · have hF := dk_t c105_9 hF
                refine lv_iload hx hb d_Mo_band_108 (lv_at hl 8 rfl) ?_
                refine lv_goto (tgt := 125) hx hb d_Mo_band_110 (by decide) ?_
                refine lv_istore (lv' := [(7, .int z7), (5, .int (z5 + (1 : Int32))), (8, .int (((2 : Int32) * z5) - (1 : Int32))), (0, .ref t), (1, .int z1), (2, .int z2), (3, .int z3), (4, .int z4), (6, .int z6)]) hx hb d_Mo_band_125 hl (by decide) rfl (fun ls hl => ?_)
                refine lv_goto (tgt := 45) hx hb d_Mo_band_127 (by decide) ?_
                exact jh z1 z2 z3 z4 (z5 + (1 : Int32)) z6 z7 q hF ls (lv_sub hl [3, 4, 5, 6, 7, 1, 8, 0] rfl) hk
          · have hF := dk_t c69_6 hF
            refine lv_iconst (v := (2 : Int32)) hx hb d_Mo_band_72 (by decide) ?_
            refine lv_iload hx hb d_Mo_band_73 (lv_at hl 5 rfl) ?_
            refine lv_imul hx hb d_Mo_band_75 ?_
            refine lv_goto (tgt := 85) hx hb d_Mo_band_76 (by decide) ?_
            refine lv_istore (lv' := [(8, .int ((2 : Int32) * z5)), (0, .ref t), (1, .int z1), (2, .int z2), (3, .int z3), (4, .int z4), (5, .int z5), (6, .int z6), (7, .int z7)]) hx hb d_Mo_band_85 hl (by decide) rfl (fun ls hl => ?_)
            refine lv_iload hx hb d_Mo_band_87 (lv_at hl 6 rfl) ?_
            refine lv_iload_n hx hb d_Mo_band_89 rfl (lv_at hl 2 rfl) ?_
            refine lv_if_ne (tgt := 97) hx hb d_Mo_band_90 (by decide) (fun c90_10 => ?_) (fun c90_10 => ?_)
            · have hF := dk_f c90_10 hF
              refine lv_iconst (v := ((-1) : Int32)) hx hb d_Mo_band_97 (by decide) ?_
              refine lv_iadd hx hb d_Mo_band_98 ?_
              refine lv_istore (lv' := [(5, .int (z5 + ((-1) : Int32))), (8, .int ((2 : Int32) * z5)), (0, .ref t), (1, .int z1), (2, .int z2), (3, .int z3), (4, .int z4), (6, .int z6), (7, .int z7)]) hx hb d_Mo_band_99 hl (by decide) rfl (fun ls hl => ?_)
              refine lv_iload hx hb d_Mo_band_101 (lv_at hl 0 rfl) ?_
              refine lv_iload hx hb d_Mo_band_103 (lv_at hl 7 rfl) ?_
              refine lv_icmp_ne (tgt := 113) hx hb d_Mo_band_105 (by decide) (fun c105_11 => ?_) (fun c105_11 => ?_)
              · have hF := dk_f c105_11 hF
                refine lv_iload hx hb d_Mo_band_113 (lv_at hl 8 rfl) ?_
                refine lv_aload_n hx hb d_Mo_band_115 rfl (lv_at hl 2 rfl) ?_
                refine va_get (D := G) (ci := 8) (v := .ref t_seconds) (C := R_Mo) (T := F_Mo) (N := 24) hx hb hts i_Mo hown hK hP 0 rfl rfl 4 (by decide) (hts _ lk_428) (fun _ h9 => h9) rfl d_Mo_band_116 ?_
                refine lv_iload hx hb d_Mo_band_119 (lv_at hl 1 rfl) ?_
                obtain ⟨hi, hF⟩ := dk_a hF
                refine va_iald (D := G) hx hb hK hP 1 0 rfl rfl (dk_vp hi) d_Mo_band_121 ?_
                refine lv_iadd hx hb d_Mo_band_122 ?_
                refine lv_iload_n hx hb d_Mo_band_123 rfl (lv_at hl 4 rfl) ?_
                obtain ⟨hz, hF⟩ := dk_z hF
                refine lv_irem hx hb d_Mo_band_124 hz ?_
                refine lv_istore (lv' := [(7, .int ((z7 + (v_t_seconds ((2 : Int32) * z5).toNatClampNeg)) - (z7 + (v_t_seconds ((2 : Int32) * z5).toNatClampNeg)) / z2 * z2)), (5, .int (z5 + ((-1) : Int32))), (8, .int ((2 : Int32) * z5)), (0, .ref t), (1, .int z1), (2, .int z2), (3, .int z3), (4, .int z4), (6, .int z6)]) hx hb d_Mo_band_125 hl (by decide) rfl (fun ls hl => ?_)
                refine lv_goto (tgt := 45) hx hb d_Mo_band_127 (by decide) ?_
                exact jh z1 z2 z3 z4 (z5 + ((-1) : Int32)) z6 ((z7 + (v_t_seconds ((2 : Int32) * z5).toNatClampNeg)) - (z7 + (v_t_seconds ((2 : Int32) * z5).toNatClampNeg)) / z2 * z2) q hF ls (lv_sub hl [3, 4, 5, 6, 7, 1, 8, 0] rfl) hk
              · have hF := dk_t c105_11 hF
                refine lv_iload hx hb d_Mo_band_108 (lv_at hl 8 rfl) ?_
                refine lv_goto (tgt := 125) hx hb d_Mo_band_110 (by decide) ?_
                refine lv_istore (lv' := [(7, .int z7), (5, .int (z5 + ((-1) : Int32))), (8, .int ((2 : Int32) * z5)), (0, .ref t), (1, .int z1), (2, .int z2), (3, .int z3), (4, .int z4), (6, .int z6)]) hx hb d_Mo_band_125 hl (by decide) rfl (fun ls hl => ?_)
                refine lv_goto (tgt := 45) hx hb d_Mo_band_127 (by decide) ?_
                exact jh z1 z2 z3 z4 (z5 + ((-1) : Int32)) z6 z7 q hF ls (lv_sub hl [3, 4, 5, 6, 7, 1, 8, 0] rfl) hk
            · have hF := dk_t c90_10 hF
              refine lv_iconst (v := (1 : Int32)) hx hb d_Mo_band_93 (by decide) ?_
              refine lv_goto (tgt := 98) hx hb d_Mo_band_94 (by decide) ?_
              refine lv_iadd hx hb d_Mo_band_98 ?_
              refine lv_istore (lv' := [(5, .int (z5 + (1 : Int32))), (8, .int ((2 : Int32) * z5)), (0, .ref t), (1, .int z1), (2, .int z2), (3, .int z3), (4, .int z4), (6, .int z6), (7, .int z7)]) hx hb d_Mo_band_99 hl (by decide) rfl (fun ls hl => ?_)
              refine lv_iload hx hb d_Mo_band_101 (lv_at hl 0 rfl) ?_
              refine lv_iload hx hb d_Mo_band_103 (lv_at hl 7 rfl) ?_
              refine lv_icmp_ne (tgt := 113) hx hb d_Mo_band_105 (by decide) (fun c105_12 => ?_) (fun c105_12 => ?_)
              · have hF := dk_f c105_12 hF
                refine lv_iload hx hb d_Mo_band_113 (lv_at hl 8 rfl) ?_
                refine lv_aload_n hx hb d_Mo_band_115 rfl (lv_at hl 2 rfl) ?_
                refine va_get (D := G) (ci := 8) (v := .ref t_seconds) (C := R_Mo) (T := F_Mo) (N := 24) hx hb hts i_Mo hown hK hP 0 rfl rfl 4 (by decide) (hts _ lk_428) (fun _ h9 => h9) rfl d_Mo_band_116 ?_
                refine lv_iload hx hb d_Mo_band_119 (lv_at hl 1 rfl) ?_
                obtain ⟨hi, hF⟩ := dk_a hF
                refine va_iald (D := G) hx hb hK hP 1 0 rfl rfl (dk_vp hi) d_Mo_band_121 ?_
                refine lv_iadd hx hb d_Mo_band_122 ?_
                refine lv_iload_n hx hb d_Mo_band_123 rfl (lv_at hl 4 rfl) ?_
                obtain ⟨hz, hF⟩ := dk_z hF
                refine lv_irem hx hb d_Mo_band_124 hz ?_
                refine lv_istore (lv' := [(7, .int ((z7 + (v_t_seconds ((2 : Int32) * z5).toNatClampNeg)) - (z7 + (v_t_seconds ((2 : Int32) * z5).toNatClampNeg)) / z2 * z2)), (5, .int (z5 + (1 : Int32))), (8, .int ((2 : Int32) * z5)), (0, .ref t), (1, .int z1), (2, .int z2), (3, .int z3), (4, .int z4), (6, .int z6)]) hx hb d_Mo_band_125 hl (by decide) rfl (fun ls hl => ?_)
                refine lv_goto (tgt := 45) hx hb d_Mo_band_127 (by decide) ?_
                exact jh z1 z2 z3 z4 (z5 + (1 : Int32)) z6 ((z7 + (v_t_seconds ((2 : Int32) * z5).toNatClampNeg)) - (z7 + (v_t_seconds ((2 : Int32) * z5).toNatClampNeg)) / z2 * z2) q hF ls (lv_sub hl [3, 4, 5, 6, 7, 1, 8, 0] rfl) hk
              · have hF := dk_t c105_12 hF
                refine lv_iload hx hb d_Mo_band_108 (lv_at hl 8 rfl) ?_
                refine lv_goto (tgt := 125) hx hb d_Mo_band_110 (by decide) ?_
                refine lv_istore (lv' := [(7, .int z7), (5, .int (z5 + (1 : Int32))), (8, .int ((2 : Int32) * z5)), (0, .ref t), (1, .int z1), (2, .int z2), (3, .int z3), (4, .int z4), (6, .int z6)]) hx hb d_Mo_band_125 hl (by decide) rfl (fun ls hl => ?_)
                refine lv_goto (tgt := 45) hx hb d_Mo_band_127 (by decide) ?_
                exact jh z1 z2 z3 z4 (z5 + (1 : Int32)) z6 z7 q hF ls (lv_sub hl [3, 4, 5, 6, 7, 1, 8, 0] rfl) hk
  have L5 : ∀ (k : Nat) (z1 : Int32) (z2 : Int32) (z3 : Int32) (z4 : Int32) (q : Int32), p_Mo_band_5 n k v_t_crossings v_t_open v_t_seconds z1 z2 z3 z4 = some q → ∀ ls : Array Slot, lv_has ls 9 [(0, .ref t), (1, .int z1), (2, .int z2), (3, .int z3), (4, .int z4)] → (∀ (ls1 : Array Slot), lv_has ls1 9 [(3, .int q)] → W p l e m_Mo_band s m ([.ref t, .int x1, .int x2] : List Value).toArray below meth c s.heap [] 0 0 (MQ below (dk_Qp (some (.int o))) ([.ref t, .int x1, .int x2] : List Value).toArray s 0 0 (fun _ => False)) (F0 m 151 ls1 [])) → W p l e m_Mo_band s m ([.ref t, .int x1, .int x2] : List Value).toArray below meth c s.heap [] 0 0 (MQ below (dk_Qp (some (.int o))) ([.ref t, .int x1, .int x2] : List Value).toArray s 0 0 (fun _ => False)) (F0 m 5 ls []) := by
    intro k
    induction k with
    | zero =>
      intro z1 z2 z3 z4 q hF ls hl hk
      exact absurd hF (by simp [p_Mo_band_5])
    | succ k jh =>
      intro z1 z2 z3 z4 q hF ls hl hk
      have hF := (q_Mo_band_5 n k v_t_crossings v_t_open v_t_seconds z1 z2 z3 z4).symm.trans hF
      refine lv_iload hx hb d_Mo_band_5 (lv_at hl 4 rfl) ?_
      refine lv_iload_n hx hb d_Mo_band_7 rfl (lv_at hl 2 rfl) ?_
      refine lv_icmp_ge (tgt := 151) hx hb d_Mo_band_8 (by decide) (fun c8_1 => ?_) (fun c8_1 => ?_)
      · have hF := dk_t c8_1 hF
        obtain rfl := Option.some.inj hF
        exact hk ls (lv_sub hl [3] rfl)
      · have hF := dk_f c8_1 hF
        refine lv_iload_n hx hb d_Mo_band_11 rfl (lv_at hl 1 rfl) ?_
        refine lv_if_ne (tgt := 19) hx hb d_Mo_band_12 (by decide) (fun c12_2 => ?_) (fun c12_2 => ?_)
        · have hF := dk_f c12_2 hF
          refine lv_aload_n hx hb d_Mo_band_19 rfl (lv_at hl 0 rfl) ?_
          refine va_get (D := G) (ci := 8) (v := .int v_t_crossings) (C := R_Mo) (T := F_Mo) (N := 24) hx hb hts i_Mo hown hK hP 0 rfl rfl 0 (by decide) (hts _ lk_415) (fun _ h9 => h9) rfl d_Mo_band_20 ?_
          refine lv_iconst (v := (1 : Int32)) hx hb d_Mo_band_23 (by decide) ?_
          refine lv_isub hx hb d_Mo_band_24 ?_
          refine lv_istore (lv' := [(5, .int (v_t_crossings - (1 : Int32))), (0, .ref t), (1, .int z1), (2, .int z2), (3, .int z3), (4, .int z4)]) hx hb d_Mo_band_25 hl (by decide) rfl (fun ls hl => ?_)
          refine lv_iload_n hx hb d_Mo_band_27 rfl (lv_at hl 2 rfl) ?_
          refine lv_if_ne (tgt := 38) hx hb d_Mo_band_28 (by decide) (fun c28_3 => ?_) (fun c28_3 => ?_)
          · have hF := dk_f c28_3 hF
            refine lv_iconst (v := ((-1) : Int32)) hx hb d_Mo_band_38 (by decide) ?_
            refine lv_istore (lv' := [(6, .int ((-1) : Int32)), (5, .int (v_t_crossings - (1 : Int32))), (0, .ref t), (1, .int z1), (2, .int z2), (3, .int z3), (4, .int z4)]) hx hb d_Mo_band_39 hl (by decide) rfl (fun ls hl => ?_)
            refine lv_iload hx hb d_Mo_band_41 (lv_at hl 6 rfl) ?_
            refine lv_istore (lv' := [(7, .int z4), (6, .int ((-1) : Int32)), (5, .int (v_t_crossings - (1 : Int32))), (0, .ref t), (1, .int z1), (2, .int z2), (3, .int z3), (4, .int z4)]) hx hb d_Mo_band_43 hl (by decide) rfl (fun ls hl => ?_)
            obtain ⟨q45_13, hC, hF⟩ := dk_b hF
            refine L45 n z1 z2 z3 z4 (v_t_crossings - (1 : Int32)) ((-1) : Int32) z4 q45_13 hC ls (lv_sub hl [3, 4, 5, 6, 7, 2, 1, 0] rfl) (fun ls hl => ?_)
            refine lv_iload_n hx hb d_Mo_band_130 rfl (lv_at hl 3 rfl) ?_
            refine lv_iload hx hb d_Mo_band_131 (lv_at hl 5 rfl) ?_
            refine lv_iload hx hb d_Mo_band_133 (lv_at hl 6 rfl) ?_
            refine lv_icmp_ne (tgt := 142) hx hb d_Mo_band_135 (by decide) (fun c135_14 => ?_) (fun c135_14 => ?_)
            · have hF := dk_f c135_14 hF
              refine lv_iconst (v := (0 : Int32)) hx hb d_Mo_band_142 (by decide) ?_
              refine lv_iadd hx hb d_Mo_band_143 ?_
              refine lv_istore_n (lv' := [(3, .int (z3 + (0 : Int32))), (0, .ref t), (1, .int z1), (2, .int z2), (4, .int z4), (5, .int q45_13), (6, .int ((-1) : Int32))]) hx hb d_Mo_band_144 rfl hl (by decide) rfl (fun ls hl => ?_)
              refine lv_iinc (v := z4 + (1 : Int32)) (lv' := [(4, .int (z4 + (1 : Int32))), (3, .int (z3 + (0 : Int32))), (0, .ref t), (1, .int z1), (2, .int z2), (5, .int q45_13), (6, .int ((-1) : Int32))]) hx hb d_Mo_band_145 hl (k := 4) rfl rfl (by decide) rfl (fun ls hl => ?_)
              refine lv_goto (tgt := 5) hx hb d_Mo_band_148 (by decide) ?_
              exact jh z1 z2 (z3 + (0 : Int32)) (z4 + (1 : Int32)) q hF ls (lv_sub hl [2, 3, 4, 1, 0] rfl) hk
            · have hF := dk_t c135_14 hF
              refine lv_iconst (v := (1 : Int32)) hx hb d_Mo_band_138 (by decide) ?_
              refine lv_goto (tgt := 143) hx hb d_Mo_band_139 (by decide) ?_
              refine lv_iadd hx hb d_Mo_band_143 ?_
              refine lv_istore_n (lv' := [(3, .int (z3 + (1 : Int32))), (0, .ref t), (1, .int z1), (2, .int z2), (4, .int z4), (5, .int q45_13), (6, .int ((-1) : Int32))]) hx hb d_Mo_band_144 rfl hl (by decide) rfl (fun ls hl => ?_)
              refine lv_iinc (v := z4 + (1 : Int32)) (lv' := [(4, .int (z4 + (1 : Int32))), (3, .int (z3 + (1 : Int32))), (0, .ref t), (1, .int z1), (2, .int z2), (5, .int q45_13), (6, .int ((-1) : Int32))]) hx hb d_Mo_band_145 hl (k := 4) rfl rfl (by decide) rfl (fun ls hl => ?_)
              refine lv_goto (tgt := 5) hx hb d_Mo_band_148 (by decide) ?_
              exact jh z1 z2 (z3 + (1 : Int32)) (z4 + (1 : Int32)) q hF ls (lv_sub hl [2, 3, 4, 1, 0] rfl) hk
          · have hF := dk_t c28_3 hF
            refine lv_aload_n hx hb d_Mo_band_31 rfl (lv_at hl 1 rfl) ?_
            refine va_get (D := G) (ci := 8) (v := .int v_t_crossings) (C := R_Mo) (T := F_Mo) (N := 24) hx hb hts i_Mo hown hK hP 0 rfl rfl 0 (by decide) (hts _ lk_415) (fun _ h9 => h9) rfl d_Mo_band_32 ?_
            refine lv_goto (tgt := 39) hx hb d_Mo_band_35 (by decide) ?_
            refine lv_istore (lv' := [(6, .int v_t_crossings), (5, .int (v_t_crossings - (1 : Int32))), (0, .ref t), (1, .int z1), (2, .int z2), (3, .int z3), (4, .int z4)]) hx hb d_Mo_band_39 hl (by decide) rfl (fun ls hl => ?_)
            refine lv_iload hx hb d_Mo_band_41 (lv_at hl 6 rfl) ?_
            refine lv_istore (lv' := [(7, .int z4), (6, .int v_t_crossings), (5, .int (v_t_crossings - (1 : Int32))), (0, .ref t), (1, .int z1), (2, .int z2), (3, .int z3), (4, .int z4)]) hx hb d_Mo_band_43 hl (by decide) rfl (fun ls hl => ?_)
            obtain ⟨q45_15, hC, hF⟩ := dk_b hF
            refine L45 n z1 z2 z3 z4 (v_t_crossings - (1 : Int32)) v_t_crossings z4 q45_15 hC ls (lv_sub hl [3, 4, 5, 6, 7, 2, 1, 0] rfl) (fun ls hl => ?_)
            refine lv_iload_n hx hb d_Mo_band_130 rfl (lv_at hl 3 rfl) ?_
            refine lv_iload hx hb d_Mo_band_131 (lv_at hl 5 rfl) ?_
            refine lv_iload hx hb d_Mo_band_133 (lv_at hl 6 rfl) ?_
            refine lv_icmp_ne (tgt := 142) hx hb d_Mo_band_135 (by decide) (fun c135_16 => ?_) (fun c135_16 => ?_)
            · have hF := dk_f c135_16 hF
              refine lv_iconst (v := (0 : Int32)) hx hb d_Mo_band_142 (by decide) ?_
              refine lv_iadd hx hb d_Mo_band_143 ?_
              refine lv_istore_n (lv' := [(3, .int (z3 + (0 : Int32))), (0, .ref t), (1, .int z1), (2, .int z2), (4, .int z4), (5, .int q45_15), (6, .int v_t_crossings)]) hx hb d_Mo_band_144 rfl hl (by decide) rfl (fun ls hl => ?_)
              refine lv_iinc (v := z4 + (1 : Int32)) (lv' := [(4, .int (z4 + (1 : Int32))), (3, .int (z3 + (0 : Int32))), (0, .ref t), (1, .int z1), (2, .int z2), (5, .int q45_15), (6, .int v_t_crossings)]) hx hb d_Mo_band_145 hl (k := 4) rfl rfl (by decide) rfl (fun ls hl => ?_)
              refine lv_goto (tgt := 5) hx hb d_Mo_band_148 (by decide) ?_
              exact jh z1 z2 (z3 + (0 : Int32)) (z4 + (1 : Int32)) q hF ls (lv_sub hl [2, 3, 4, 1, 0] rfl) hk
            · have hF := dk_t c135_16 hF
              refine lv_iconst (v := (1 : Int32)) hx hb d_Mo_band_138 (by decide) ?_
              refine lv_goto (tgt := 143) hx hb d_Mo_band_139 (by decide) ?_
              refine lv_iadd hx hb d_Mo_band_143 ?_
              refine lv_istore_n (lv' := [(3, .int (z3 + (1 : Int32))), (0, .ref t), (1, .int z1), (2, .int z2), (4, .int z4), (5, .int q45_15), (6, .int v_t_crossings)]) hx hb d_Mo_band_144 rfl hl (by decide) rfl (fun ls hl => ?_)
              refine lv_iinc (v := z4 + (1 : Int32)) (lv' := [(4, .int (z4 + (1 : Int32))), (3, .int (z3 + (1 : Int32))), (0, .ref t), (1, .int z1), (2, .int z2), (5, .int q45_15), (6, .int v_t_crossings)]) hx hb d_Mo_band_145 hl (k := 4) rfl rfl (by decide) rfl (fun ls hl => ?_)
              refine lv_goto (tgt := 5) hx hb d_Mo_band_148 (by decide) ?_
              exact jh z1 z2 (z3 + (1 : Int32)) (z4 + (1 : Int32)) q hF ls (lv_sub hl [2, 3, 4, 1, 0] rfl) hk
        · have hF := dk_t c12_2 hF
          refine lv_iconst (v := (0 : Int32)) hx hb d_Mo_band_15 (by decide) ?_
          refine lv_goto (tgt := 25) hx hb d_Mo_band_16 (by decide) ?_
          refine lv_istore (lv' := [(5, .int (0 : Int32)), (0, .ref t), (1, .int z1), (2, .int z2), (3, .int z3), (4, .int z4)]) hx hb d_Mo_band_25 hl (by decide) rfl (fun ls hl => ?_)
          refine lv_iload_n hx hb d_Mo_band_27 rfl (lv_at hl 2 rfl) ?_
          refine lv_if_ne (tgt := 38) hx hb d_Mo_band_28 (by decide) (fun c28_17 => ?_) (fun c28_17 => ?_)
          · have hF := dk_f c28_17 hF
            refine lv_iconst (v := ((-1) : Int32)) hx hb d_Mo_band_38 (by decide) ?_
            refine lv_istore (lv' := [(6, .int ((-1) : Int32)), (5, .int (0 : Int32)), (0, .ref t), (1, .int z1), (2, .int z2), (3, .int z3), (4, .int z4)]) hx hb d_Mo_band_39 hl (by decide) rfl (fun ls hl => ?_)
            refine lv_iload hx hb d_Mo_band_41 (lv_at hl 6 rfl) ?_
            refine lv_istore (lv' := [(7, .int z4), (6, .int ((-1) : Int32)), (5, .int (0 : Int32)), (0, .ref t), (1, .int z1), (2, .int z2), (3, .int z3), (4, .int z4)]) hx hb d_Mo_band_43 hl (by decide) rfl (fun ls hl => ?_)
            obtain ⟨q45_18, hC, hF⟩ := dk_b hF
            refine L45 n z1 z2 z3 z4 (0 : Int32) ((-1) : Int32) z4 q45_18 hC ls (lv_sub hl [3, 4, 5, 6, 7, 2, 1, 0] rfl) (fun ls hl => ?_)
            refine lv_iload_n hx hb d_Mo_band_130 rfl (lv_at hl 3 rfl) ?_
            refine lv_iload hx hb d_Mo_band_131 (lv_at hl 5 rfl) ?_
            refine lv_iload hx hb d_Mo_band_133 (lv_at hl 6 rfl) ?_
            refine lv_icmp_ne (tgt := 142) hx hb d_Mo_band_135 (by decide) (fun c135_19 => ?_) (fun c135_19 => ?_)
            · have hF := dk_f c135_19 hF
              refine lv_iconst (v := (0 : Int32)) hx hb d_Mo_band_142 (by decide) ?_
              refine lv_iadd hx hb d_Mo_band_143 ?_
              refine lv_istore_n (lv' := [(3, .int (z3 + (0 : Int32))), (0, .ref t), (1, .int z1), (2, .int z2), (4, .int z4), (5, .int q45_18), (6, .int ((-1) : Int32))]) hx hb d_Mo_band_144 rfl hl (by decide) rfl (fun ls hl => ?_)
              refine lv_iinc (v := z4 + (1 : Int32)) (lv' := [(4, .int (z4 + (1 : Int32))), (3, .int (z3 + (0 : Int32))), (0, .ref t), (1, .int z1), (2, .int z2), (5, .int q45_18), (6, .int ((-1) : Int32))]) hx hb d_Mo_band_145 hl (k := 4) rfl rfl (by decide) rfl (fun ls hl => ?_)
              refine lv_goto (tgt := 5) hx hb d_Mo_band_148 (by decide) ?_
              exact jh z1 z2 (z3 + (0 : Int32)) (z4 + (1 : Int32)) q hF ls (lv_sub hl [2, 3, 4, 1, 0] rfl) hk
            · have hF := dk_t c135_19 hF
              refine lv_iconst (v := (1 : Int32)) hx hb d_Mo_band_138 (by decide) ?_
              refine lv_goto (tgt := 143) hx hb d_Mo_band_139 (by decide) ?_
              refine lv_iadd hx hb d_Mo_band_143 ?_
              refine lv_istore_n (lv' := [(3, .int (z3 + (1 : Int32))), (0, .ref t), (1, .int z1), (2, .int z2), (4, .int z4), (5, .int q45_18), (6, .int ((-1) : Int32))]) hx hb d_Mo_band_144 rfl hl (by decide) rfl (fun ls hl => ?_)
              refine lv_iinc (v := z4 + (1 : Int32)) (lv' := [(4, .int (z4 + (1 : Int32))), (3, .int (z3 + (1 : Int32))), (0, .ref t), (1, .int z1), (2, .int z2), (5, .int q45_18), (6, .int ((-1) : Int32))]) hx hb d_Mo_band_145 hl (k := 4) rfl rfl (by decide) rfl (fun ls hl => ?_)
              refine lv_goto (tgt := 5) hx hb d_Mo_band_148 (by decide) ?_
              exact jh z1 z2 (z3 + (1 : Int32)) (z4 + (1 : Int32)) q hF ls (lv_sub hl [2, 3, 4, 1, 0] rfl) hk
          · have hF := dk_t c28_17 hF
            refine lv_aload_n hx hb d_Mo_band_31 rfl (lv_at hl 1 rfl) ?_
            refine va_get (D := G) (ci := 8) (v := .int v_t_crossings) (C := R_Mo) (T := F_Mo) (N := 24) hx hb hts i_Mo hown hK hP 0 rfl rfl 0 (by decide) (hts _ lk_415) (fun _ h9 => h9) rfl d_Mo_band_32 ?_
            refine lv_goto (tgt := 39) hx hb d_Mo_band_35 (by decide) ?_
            refine lv_istore (lv' := [(6, .int v_t_crossings), (5, .int (0 : Int32)), (0, .ref t), (1, .int z1), (2, .int z2), (3, .int z3), (4, .int z4)]) hx hb d_Mo_band_39 hl (by decide) rfl (fun ls hl => ?_)
            refine lv_iload hx hb d_Mo_band_41 (lv_at hl 6 rfl) ?_
            refine lv_istore (lv' := [(7, .int z4), (6, .int v_t_crossings), (5, .int (0 : Int32)), (0, .ref t), (1, .int z1), (2, .int z2), (3, .int z3), (4, .int z4)]) hx hb d_Mo_band_43 hl (by decide) rfl (fun ls hl => ?_)
            obtain ⟨q45_20, hC, hF⟩ := dk_b hF
            refine L45 n z1 z2 z3 z4 (0 : Int32) v_t_crossings z4 q45_20 hC ls (lv_sub hl [3, 4, 5, 6, 7, 2, 1, 0] rfl) (fun ls hl => ?_)
            refine lv_iload_n hx hb d_Mo_band_130 rfl (lv_at hl 3 rfl) ?_
            refine lv_iload hx hb d_Mo_band_131 (lv_at hl 5 rfl) ?_
            refine lv_iload hx hb d_Mo_band_133 (lv_at hl 6 rfl) ?_
            refine lv_icmp_ne (tgt := 142) hx hb d_Mo_band_135 (by decide) (fun c135_21 => ?_) (fun c135_21 => ?_)
            · have hF := dk_f c135_21 hF
              refine lv_iconst (v := (0 : Int32)) hx hb d_Mo_band_142 (by decide) ?_
              refine lv_iadd hx hb d_Mo_band_143 ?_
              refine lv_istore_n (lv' := [(3, .int (z3 + (0 : Int32))), (0, .ref t), (1, .int z1), (2, .int z2), (4, .int z4), (5, .int q45_20), (6, .int v_t_crossings)]) hx hb d_Mo_band_144 rfl hl (by decide) rfl (fun ls hl => ?_)
              refine lv_iinc (v := z4 + (1 : Int32)) (lv' := [(4, .int (z4 + (1 : Int32))), (3, .int (z3 + (0 : Int32))), (0, .ref t), (1, .int z1), (2, .int z2), (5, .int q45_20), (6, .int v_t_crossings)]) hx hb d_Mo_band_145 hl (k := 4) rfl rfl (by decide) rfl (fun ls hl => ?_)
              refine lv_goto (tgt := 5) hx hb d_Mo_band_148 (by decide) ?_
              exact jh z1 z2 (z3 + (0 : Int32)) (z4 + (1 : Int32)) q hF ls (lv_sub hl [2, 3, 4, 1, 0] rfl) hk
            · have hF := dk_t c135_21 hF
              refine lv_iconst (v := (1 : Int32)) hx hb d_Mo_band_138 (by decide) ?_
              refine lv_goto (tgt := 143) hx hb d_Mo_band_139 (by decide) ?_
              refine lv_iadd hx hb d_Mo_band_143 ?_
              refine lv_istore_n (lv' := [(3, .int (z3 + (1 : Int32))), (0, .ref t), (1, .int z1), (2, .int z2), (4, .int z4), (5, .int q45_20), (6, .int v_t_crossings)]) hx hb d_Mo_band_144 rfl hl (by decide) rfl (fun ls hl => ?_)
              refine lv_iinc (v := z4 + (1 : Int32)) (lv' := [(4, .int (z4 + (1 : Int32))), (3, .int (z3 + (1 : Int32))), (0, .ref t), (1, .int z1), (2, .int z2), (5, .int q45_20), (6, .int v_t_crossings)]) hx hb d_Mo_band_145 hl (k := 4) rfl rfl (by decide) rfl (fun ls hl => ?_)
              refine lv_goto (tgt := 5) hx hb d_Mo_band_148 (by decide) ?_
              exact jh z1 z2 (z3 + (1 : Int32)) (z4 + (1 : Int32)) q hF ls (lv_sub hl [2, 3, 4, 1, 0] rfl) hk
  unfold p_Mo_band at hF
  refine lv_iconst (v := (0 : Int32)) hx hb d_Mo_band_0 (by decide) ?_
  refine lv_istore_n (lv' := [(3, .int (0 : Int32)), (0, .ref t), (1, .int x1), (2, .int x2)]) hx hb d_Mo_band_1 rfl hl (by decide) rfl (fun ls hl => ?_)
  refine lv_iconst (v := (0 : Int32)) hx hb d_Mo_band_2 (by decide) ?_
  refine lv_istore (lv' := [(4, .int (0 : Int32)), (3, .int (0 : Int32)), (0, .ref t), (1, .int x1), (2, .int x2)]) hx hb d_Mo_band_3 hl (by decide) rfl (fun ls hl => ?_)
  obtain ⟨q5_22, hC, hF⟩ := dk_b hF
  refine L5 n x1 x2 (0 : Int32) (0 : Int32) q5_22 hC ls (lv_sub hl [2, 3, 4, 1, 0] rfl) (fun ls hl => ?_)
  refine lv_iload_n hx hb d_Mo_band_151 rfl (lv_at hl 0 rfl) ?_
  obtain rfl := Option.some.inj hF
  exact W.iret (v := q5_22) hx hb hr (fun t ht hW => ⟨rfl, ht⟩) (fun _ h => by cases h) d_Mo_band_152
def p_Mo_stopsOf_17 (n : Nat) : Nat → (Nat → Int32) → (Nat → Int32) → (Nat → Int32) → Int32 → Int32 → Int32 → Int32 → Option (Int32)
  | 0, _, _, _, _, _, _, _ => none
  | k + 1, v_t_open, v_t_seconds, v_t_weights, z1, z2, z3, z4 =>
    if z1 ≤ z4 then
      some z2
    else
      if dk_in (((120 : Int32) * z3) + z4) 600 = true then
        if (v_t_open (((120 : Int32) * z3) + z4).toNatClampNeg) = 0 then
          if dk_in (((120 : Int32) * (z3 + (1 : Int32))) + z4) 600 = true then
            if (v_t_open (((120 : Int32) * (z3 + (1 : Int32))) + z4).toNatClampNeg) = 0 then
              p_Mo_stopsOf_17 n k v_t_open v_t_seconds v_t_weights z1 ((z2 + (0 : Int32)) + (0 : Int32)) z3 (z4 + (1 : Int32))
            else
              if dk_in (((2 : Int32) * z3) + (1 : Int32)) 10 = true then
                if z1 = 0 then none else
                if dk_in (((120 : Int32) * z3) + ((z4 + (v_t_seconds (((2 : Int32) * z3) + (1 : Int32)).toNatClampNeg)) - (z4 + (v_t_seconds (((2 : Int32) * z3) + (1 : Int32)).toNatClampNeg)) / z1 * z1)) 600 = true then
                  if (v_t_open (((120 : Int32) * z3) + ((z4 + (v_t_seconds (((2 : Int32) * z3) + (1 : Int32)).toNatClampNeg)) - (z4 + (v_t_seconds (((2 : Int32) * z3) + (1 : Int32)).toNatClampNeg)) / z1 * z1)).toNatClampNeg) = 0 then
                    if dk_in (((2 : Int32) * z3) + (1 : Int32)) 10 = true then
                      p_Mo_stopsOf_17 n k v_t_open v_t_seconds v_t_weights z1 ((z2 + (0 : Int32)) + (v_t_weights (((2 : Int32) * z3) + (1 : Int32)).toNatClampNeg)) z3 (z4 + (1 : Int32))
                    else none
                  else
                    p_Mo_stopsOf_17 n k v_t_open v_t_seconds v_t_weights z1 ((z2 + (0 : Int32)) + (0 : Int32)) z3 (z4 + (1 : Int32))
                else none
              else none
          else none
        else
          if dk_in ((2 : Int32) * z3) 10 = true then
            if z1 = 0 then none else
            if dk_in (((120 : Int32) * (z3 + (1 : Int32))) + ((z4 + (v_t_seconds ((2 : Int32) * z3).toNatClampNeg)) - (z4 + (v_t_seconds ((2 : Int32) * z3).toNatClampNeg)) / z1 * z1)) 600 = true then
              if (v_t_open (((120 : Int32) * (z3 + (1 : Int32))) + ((z4 + (v_t_seconds ((2 : Int32) * z3).toNatClampNeg)) - (z4 + (v_t_seconds ((2 : Int32) * z3).toNatClampNeg)) / z1 * z1)).toNatClampNeg) = 0 then
                if dk_in ((2 : Int32) * z3) 10 = true then
                  if dk_in (((120 : Int32) * (z3 + (1 : Int32))) + z4) 600 = true then
                    if (v_t_open (((120 : Int32) * (z3 + (1 : Int32))) + z4).toNatClampNeg) = 0 then
                      p_Mo_stopsOf_17 n k v_t_open v_t_seconds v_t_weights z1 ((z2 + (v_t_weights ((2 : Int32) * z3).toNatClampNeg)) + (0 : Int32)) z3 (z4 + (1 : Int32))
                    else
                      if dk_in (((2 : Int32) * z3) + (1 : Int32)) 10 = true then
                        if z1 = 0 then none else
                        if dk_in (((120 : Int32) * z3) + ((z4 + (v_t_seconds (((2 : Int32) * z3) + (1 : Int32)).toNatClampNeg)) - (z4 + (v_t_seconds (((2 : Int32) * z3) + (1 : Int32)).toNatClampNeg)) / z1 * z1)) 600 = true then
                          if (v_t_open (((120 : Int32) * z3) + ((z4 + (v_t_seconds (((2 : Int32) * z3) + (1 : Int32)).toNatClampNeg)) - (z4 + (v_t_seconds (((2 : Int32) * z3) + (1 : Int32)).toNatClampNeg)) / z1 * z1)).toNatClampNeg) = 0 then
                            if dk_in (((2 : Int32) * z3) + (1 : Int32)) 10 = true then
                              p_Mo_stopsOf_17 n k v_t_open v_t_seconds v_t_weights z1 ((z2 + (v_t_weights ((2 : Int32) * z3).toNatClampNeg)) + (v_t_weights (((2 : Int32) * z3) + (1 : Int32)).toNatClampNeg)) z3 (z4 + (1 : Int32))
                            else none
                          else
                            p_Mo_stopsOf_17 n k v_t_open v_t_seconds v_t_weights z1 ((z2 + (v_t_weights ((2 : Int32) * z3).toNatClampNeg)) + (0 : Int32)) z3 (z4 + (1 : Int32))
                        else none
                      else none
                  else none
                else none
              else
                if dk_in (((120 : Int32) * (z3 + (1 : Int32))) + z4) 600 = true then
                  if (v_t_open (((120 : Int32) * (z3 + (1 : Int32))) + z4).toNatClampNeg) = 0 then
                    p_Mo_stopsOf_17 n k v_t_open v_t_seconds v_t_weights z1 ((z2 + (0 : Int32)) + (0 : Int32)) z3 (z4 + (1 : Int32))
                  else
                    if dk_in (((2 : Int32) * z3) + (1 : Int32)) 10 = true then
                      if z1 = 0 then none else
                      if dk_in (((120 : Int32) * z3) + ((z4 + (v_t_seconds (((2 : Int32) * z3) + (1 : Int32)).toNatClampNeg)) - (z4 + (v_t_seconds (((2 : Int32) * z3) + (1 : Int32)).toNatClampNeg)) / z1 * z1)) 600 = true then
                        if (v_t_open (((120 : Int32) * z3) + ((z4 + (v_t_seconds (((2 : Int32) * z3) + (1 : Int32)).toNatClampNeg)) - (z4 + (v_t_seconds (((2 : Int32) * z3) + (1 : Int32)).toNatClampNeg)) / z1 * z1)).toNatClampNeg) = 0 then
                          if dk_in (((2 : Int32) * z3) + (1 : Int32)) 10 = true then
                            p_Mo_stopsOf_17 n k v_t_open v_t_seconds v_t_weights z1 ((z2 + (0 : Int32)) + (v_t_weights (((2 : Int32) * z3) + (1 : Int32)).toNatClampNeg)) z3 (z4 + (1 : Int32))
                          else none
                        else
                          p_Mo_stopsOf_17 n k v_t_open v_t_seconds v_t_weights z1 ((z2 + (0 : Int32)) + (0 : Int32)) z3 (z4 + (1 : Int32))
                      else none
                    else none
                else none
            else none
          else none
      else none
theorem q_Mo_stopsOf_17 (n k : Nat) (v_t_open : Nat → Int32) (v_t_seconds : Nat → Int32) (v_t_weights : Nat → Int32) (z1 : Int32) (z2 : Int32) (z3 : Int32) (z4 : Int32) : p_Mo_stopsOf_17 n (k + 1) v_t_open v_t_seconds v_t_weights z1 z2 z3 z4 =
    if z1 ≤ z4 then
      some z2
    else
      if dk_in (((120 : Int32) * z3) + z4) 600 = true then
        if (v_t_open (((120 : Int32) * z3) + z4).toNatClampNeg) = 0 then
          if dk_in (((120 : Int32) * (z3 + (1 : Int32))) + z4) 600 = true then
            if (v_t_open (((120 : Int32) * (z3 + (1 : Int32))) + z4).toNatClampNeg) = 0 then
              p_Mo_stopsOf_17 n k v_t_open v_t_seconds v_t_weights z1 ((z2 + (0 : Int32)) + (0 : Int32)) z3 (z4 + (1 : Int32))
            else
              if dk_in (((2 : Int32) * z3) + (1 : Int32)) 10 = true then
                if z1 = 0 then none else
                if dk_in (((120 : Int32) * z3) + ((z4 + (v_t_seconds (((2 : Int32) * z3) + (1 : Int32)).toNatClampNeg)) - (z4 + (v_t_seconds (((2 : Int32) * z3) + (1 : Int32)).toNatClampNeg)) / z1 * z1)) 600 = true then
                  if (v_t_open (((120 : Int32) * z3) + ((z4 + (v_t_seconds (((2 : Int32) * z3) + (1 : Int32)).toNatClampNeg)) - (z4 + (v_t_seconds (((2 : Int32) * z3) + (1 : Int32)).toNatClampNeg)) / z1 * z1)).toNatClampNeg) = 0 then
                    if dk_in (((2 : Int32) * z3) + (1 : Int32)) 10 = true then
                      p_Mo_stopsOf_17 n k v_t_open v_t_seconds v_t_weights z1 ((z2 + (0 : Int32)) + (v_t_weights (((2 : Int32) * z3) + (1 : Int32)).toNatClampNeg)) z3 (z4 + (1 : Int32))
                    else none
                  else
                    p_Mo_stopsOf_17 n k v_t_open v_t_seconds v_t_weights z1 ((z2 + (0 : Int32)) + (0 : Int32)) z3 (z4 + (1 : Int32))
                else none
              else none
          else none
        else
          if dk_in ((2 : Int32) * z3) 10 = true then
            if z1 = 0 then none else
            if dk_in (((120 : Int32) * (z3 + (1 : Int32))) + ((z4 + (v_t_seconds ((2 : Int32) * z3).toNatClampNeg)) - (z4 + (v_t_seconds ((2 : Int32) * z3).toNatClampNeg)) / z1 * z1)) 600 = true then
              if (v_t_open (((120 : Int32) * (z3 + (1 : Int32))) + ((z4 + (v_t_seconds ((2 : Int32) * z3).toNatClampNeg)) - (z4 + (v_t_seconds ((2 : Int32) * z3).toNatClampNeg)) / z1 * z1)).toNatClampNeg) = 0 then
                if dk_in ((2 : Int32) * z3) 10 = true then
                  if dk_in (((120 : Int32) * (z3 + (1 : Int32))) + z4) 600 = true then
                    if (v_t_open (((120 : Int32) * (z3 + (1 : Int32))) + z4).toNatClampNeg) = 0 then
                      p_Mo_stopsOf_17 n k v_t_open v_t_seconds v_t_weights z1 ((z2 + (v_t_weights ((2 : Int32) * z3).toNatClampNeg)) + (0 : Int32)) z3 (z4 + (1 : Int32))
                    else
                      if dk_in (((2 : Int32) * z3) + (1 : Int32)) 10 = true then
                        if z1 = 0 then none else
                        if dk_in (((120 : Int32) * z3) + ((z4 + (v_t_seconds (((2 : Int32) * z3) + (1 : Int32)).toNatClampNeg)) - (z4 + (v_t_seconds (((2 : Int32) * z3) + (1 : Int32)).toNatClampNeg)) / z1 * z1)) 600 = true then
                          if (v_t_open (((120 : Int32) * z3) + ((z4 + (v_t_seconds (((2 : Int32) * z3) + (1 : Int32)).toNatClampNeg)) - (z4 + (v_t_seconds (((2 : Int32) * z3) + (1 : Int32)).toNatClampNeg)) / z1 * z1)).toNatClampNeg) = 0 then
                            if dk_in (((2 : Int32) * z3) + (1 : Int32)) 10 = true then
                              p_Mo_stopsOf_17 n k v_t_open v_t_seconds v_t_weights z1 ((z2 + (v_t_weights ((2 : Int32) * z3).toNatClampNeg)) + (v_t_weights (((2 : Int32) * z3) + (1 : Int32)).toNatClampNeg)) z3 (z4 + (1 : Int32))
                            else none
                          else
                            p_Mo_stopsOf_17 n k v_t_open v_t_seconds v_t_weights z1 ((z2 + (v_t_weights ((2 : Int32) * z3).toNatClampNeg)) + (0 : Int32)) z3 (z4 + (1 : Int32))
                        else none
                      else none
                  else none
                else none
              else
                if dk_in (((120 : Int32) * (z3 + (1 : Int32))) + z4) 600 = true then
                  if (v_t_open (((120 : Int32) * (z3 + (1 : Int32))) + z4).toNatClampNeg) = 0 then
                    p_Mo_stopsOf_17 n k v_t_open v_t_seconds v_t_weights z1 ((z2 + (0 : Int32)) + (0 : Int32)) z3 (z4 + (1 : Int32))
                  else
                    if dk_in (((2 : Int32) * z3) + (1 : Int32)) 10 = true then
                      if z1 = 0 then none else
                      if dk_in (((120 : Int32) * z3) + ((z4 + (v_t_seconds (((2 : Int32) * z3) + (1 : Int32)).toNatClampNeg)) - (z4 + (v_t_seconds (((2 : Int32) * z3) + (1 : Int32)).toNatClampNeg)) / z1 * z1)) 600 = true then
                        if (v_t_open (((120 : Int32) * z3) + ((z4 + (v_t_seconds (((2 : Int32) * z3) + (1 : Int32)).toNatClampNeg)) - (z4 + (v_t_seconds (((2 : Int32) * z3) + (1 : Int32)).toNatClampNeg)) / z1 * z1)).toNatClampNeg) = 0 then
                          if dk_in (((2 : Int32) * z3) + (1 : Int32)) 10 = true then
                            p_Mo_stopsOf_17 n k v_t_open v_t_seconds v_t_weights z1 ((z2 + (0 : Int32)) + (v_t_weights (((2 : Int32) * z3) + (1 : Int32)).toNatClampNeg)) z3 (z4 + (1 : Int32))
                          else none
                        else
                          p_Mo_stopsOf_17 n k v_t_open v_t_seconds v_t_weights z1 ((z2 + (0 : Int32)) + (0 : Int32)) z3 (z4 + (1 : Int32))
                      else none
                    else none
                else none
            else none
          else none
      else none := rfl
def p_Mo_stopsOf_4 (n : Nat) : Nat → Int32 → (Nat → Int32) → (Nat → Int32) → (Nat → Int32) → Int32 → Int32 → Int32 → Option (Int32)
  | 0, _, _, _, _, _, _, _ => none
  | k + 1, v_t_crossings, v_t_open, v_t_seconds, v_t_weights, z1, z2, z3 =>
    if v_t_crossings ≤ (z3 + (1 : Int32)) then
      some z2
    else
      (p_Mo_stopsOf_17 n n v_t_open v_t_seconds v_t_weights z1 z2 z3 (0 : Int32)).bind fun q17_11 =>
      p_Mo_stopsOf_4 n k v_t_crossings v_t_open v_t_seconds v_t_weights z1 q17_11 (z3 + (1 : Int32))
theorem q_Mo_stopsOf_4 (n k : Nat) (v_t_crossings : Int32) (v_t_open : Nat → Int32) (v_t_seconds : Nat → Int32) (v_t_weights : Nat → Int32) (z1 : Int32) (z2 : Int32) (z3 : Int32) : p_Mo_stopsOf_4 n (k + 1) v_t_crossings v_t_open v_t_seconds v_t_weights z1 z2 z3 =
    if v_t_crossings ≤ (z3 + (1 : Int32)) then
      some z2
    else
      (p_Mo_stopsOf_17 n n v_t_open v_t_seconds v_t_weights z1 z2 z3 (0 : Int32)).bind fun q17_11 =>
      p_Mo_stopsOf_4 n k v_t_crossings v_t_open v_t_seconds v_t_weights z1 q17_11 (z3 + (1 : Int32)) := rfl
def p_Mo_stopsOf (n : Nat) (x1 : Int32) (v_t_crossings : Int32) (v_t_open : Nat → Int32) (v_t_seconds : Nat → Int32) (v_t_weights : Nat → Int32) : Option (Int32) :=
  (p_Mo_stopsOf_4 n n v_t_crossings v_t_open v_t_seconds v_t_weights x1 (0 : Int32) (0 : Int32)).bind fun q4_12 =>
  some q4_12
abbrev m_Mo_stopsOf : Room := { frames := 0, cells := 0, slots := 0, locals := 0 }
set_option maxHeartbeats 4000000 in
set_option maxRecDepth 100000 in
theorem c_Mo_stopsOf (l : Launch) (G : va_G) (K : Nat → ClassId) (n : Nat) (t : Nat) (t_greens : Nat) (t_leasts : Nat) (t_queues : Nat) (t_seconds : Nat) (t_weights : Nat) (t_offsets : Nat) (t_row : Nat) (t_open : Nat) (t_places : Nat) (t_times : Nat) (t_cars : Nat) (t_hourCrossings : Nat) (t_hourCycles : Nat) (t_hourOffsets : Nat) (x1 : Int32) (v_t_crossings : Int32) (v_t_first : Int32) (v_t_last : Int32) (v_t_by : Int32) (v_t_step : Int32) (v_t_has : Int32) (v_t_cycle : Int32) (v_t_aim : Int32) (v_t_proved : Int32) (v_t_arrivals : Int32) (v_t_seconds : Nat → Int32) (v_t_weights : Nat → Int32) (v_t_open : Nat → Int32) (o : Int32) (hF : p_Mo_stopsOf n x1 v_t_crossings v_t_open v_t_seconds v_t_weights = some o) :
    Met l y_Mo_stopsOf (wd y_Mo_stopsOf b_Mo_stopsOf 5 (some .int)) m_Mo_stopsOf (dk_Pp [.ref t, .int x1] G K [(t, .inr (8, [.int v_t_crossings, .ref t_greens, .ref t_leasts, .ref t_queues, .ref t_seconds, .ref t_weights, .int v_t_first, .int v_t_last, .int v_t_by, .int v_t_step, .int v_t_has, .int v_t_cycle, .int v_t_aim, .int v_t_proved, .ref t_offsets, .ref t_row, .ref t_open, .int v_t_arrivals, .ref t_places, .ref t_times, .ref t_cars, .ref t_hourCrossings, .ref t_hourCycles, .ref t_hourOffsets])), (t_seconds, .inl (K 0, 10, .inl v_t_seconds)), (t_weights, .inl (K 0, 10, .inl v_t_weights)), (t_open, .inl (K 3, 600, .inl v_t_open))]) (dk_Qp (some (.int o))) 0 0 (fun _ => False) := by
  refine Met.ofW (cc := b_Mo_stopsOf) (maxL := 5) (ret := (some .int)) (by decide) rfl ?_
  intro p e s m args below meth c s₁ B hml hv
  obtain ⟨rfl, hP, hK, hN⟩ := hv
  have hx := B.exec
  have hb := B.bytes
  have hr := B.returns
  have hts : ∀ w ∈ lw_good, w.before _ s = true := fun w h => atoms_spec (ws := wd y_Mo_stopsOf b_Mo_stopsOf 5 (some .int)) B.pre w (List.mem_cons_of_mem _ h)
  have hown : s.vm.findClass R_Mo = some m.cls := findClass_of_methodNamed B.named
  have hlocks := B.notSynchronized
  have hfix : CallFix p m c b_Mo_stopsOf 5 s _ lw_good R_Mo := ⟨hx, hb, hml, hown, hts⟩
  have hl := lv_entry ([.ref t, .int x1]) (n := 5) (Nat.le_of_ble_eq_true rfl)
  rw [lg_entry_eq]
  generalize (lg_sl ([.ref t, .int x1]) ++ List.replicate (5 - (lg_sl ([.ref t, .int x1])).length) Slot.unset).toArray = ls at hl ⊢
  have hl : lv_has ls 5 [(0, .ref t), (1, .int x1)] := hl
  change W p l e m_Mo_stopsOf s m _ below meth c s.heap [] 0 0 _ _
  have L17 : ∀ (k : Nat) (z1 : Int32) (z2 : Int32) (z3 : Int32) (z4 : Int32) (q : Int32), p_Mo_stopsOf_17 n k v_t_open v_t_seconds v_t_weights z1 z2 z3 z4 = some q → ∀ ls : Array Slot, lv_has ls 5 [(0, .ref t), (1, .int z1), (2, .int z2), (3, .int z3), (4, .int z4)] → (∀ (ls1 : Array Slot), lv_has ls1 5 [(0, .ref t), (1, .int z1), (2, .int q), (3, .int z3)] → W p l e m_Mo_stopsOf s m ([.ref t, .int x1] : List Value).toArray below meth c s.heap [] 0 0 (MQ below (dk_Qp (some (.int o))) ([.ref t, .int x1] : List Value).toArray s 0 0 (fun _ => False)) (F0 m 149 ls1 [])) → W p l e m_Mo_stopsOf s m ([.ref t, .int x1] : List Value).toArray below meth c s.heap [] 0 0 (MQ below (dk_Qp (some (.int o))) ([.ref t, .int x1] : List Value).toArray s 0 0 (fun _ => False)) (F0 m 17 ls []) := by
    intro k
    induction k with
    | zero =>
      intro z1 z2 z3 z4 q hF ls hl hk
      exact absurd hF (by simp [p_Mo_stopsOf_17])
    | succ k jh =>
      intro z1 z2 z3 z4 q hF ls hl hk
      have hF := (q_Mo_stopsOf_17 n k v_t_open v_t_seconds v_t_weights z1 z2 z3 z4).symm.trans hF
      refine lv_iload hx hb d_Mo_stopsOf_17 (lv_at hl 4 rfl) ?_
      refine lv_iload_n hx hb d_Mo_stopsOf_19 rfl (lv_at hl 1 rfl) ?_
      refine lv_icmp_ge (tgt := 149) hx hb d_Mo_stopsOf_20 (by decide) (fun c20_2 => ?_) (fun c20_2 => ?_)
      · have hF := dk_t c20_2 hF
        obtain rfl := Option.some.inj hF
        exact hk ls (lv_sub hl [0, 1, 2, 3] rfl)
      · have hF := dk_f c20_2 hF
        refine lv_iload_n hx hb d_Mo_stopsOf_23 rfl (lv_at hl 2 rfl) ?_
        refine lv_aload_n hx hb d_Mo_stopsOf_24 rfl (lv_at hl 0 rfl) ?_
        refine va_get (D := G) (ci := 8) (v := .ref t_open) (C := R_Mo) (T := F_Mo) (N := 24) hx hb hts i_Mo hown hK hP 0 rfl rfl 16 (by decide) (hts _ lk_442) (fun _ h9 => h9) rfl d_Mo_stopsOf_25 ?_
        refine lv_bipush (v := (120 : Int32)) hx hb d_Mo_stopsOf_28 (by decide) ?_
        refine lv_iload_n hx hb d_Mo_stopsOf_30 rfl (lv_at hl 3 rfl) ?_
        refine lv_imul hx hb d_Mo_stopsOf_31 ?_
        refine lv_iload hx hb d_Mo_stopsOf_32 (lv_at hl 4 rfl) ?_
        refine lv_iadd hx hb d_Mo_stopsOf_34 ?_
        obtain ⟨hi, hF⟩ := dk_a hF
        refine va_zald (D := G) hx hb hK hP 3 3 rfl rfl (dk_vp hi) d_Mo_stopsOf_35 ?_
        refine lv_if_eq (tgt := 78) hx hb d_Mo_stopsOf_36 (by decide) (fun c36_3 => ?_) (fun c36_3 => ?_)
        · have hF := dk_t c36_3 hF
          refine lv_iconst (v := (0 : Int32)) hx hb d_Mo_stopsOf_78 (by decide) ?_
          refine lv_iadd hx hb d_Mo_stopsOf_79 ?_
          refine lv_istore_n (lv' := [(2, .int (z2 + (0 : Int32))), (0, .ref t), (1, .int z1), (3, .int z3), (4, .int z4)]) hx hb d_Mo_stopsOf_80 rfl hl (by decide) rfl (fun ls hl => ?_)
          refine lv_iload_n hx hb d_Mo_stopsOf_81 rfl (lv_at hl 0 rfl) ?_
          refine lv_aload_n hx hb d_Mo_stopsOf_82 rfl (lv_at hl 1 rfl) ?_
          refine va_get (D := G) (ci := 8) (v := .ref t_open) (C := R_Mo) (T := F_Mo) (N := 24) hx hb hts i_Mo hown hK hP 0 rfl rfl 16 (by decide) (hts _ lk_442) (fun _ h9 => h9) rfl d_Mo_stopsOf_83 ?_
          refine lv_bipush (v := (120 : Int32)) hx hb d_Mo_stopsOf_86 (by decide) ?_
          refine lv_iload_n hx hb d_Mo_stopsOf_88 rfl (lv_at hl 3 rfl) ?_
          refine lv_iconst (v := (1 : Int32)) hx hb d_Mo_stopsOf_89 (by decide) ?_
          refine lv_iadd hx hb d_Mo_stopsOf_90 ?_
          refine lv_imul hx hb d_Mo_stopsOf_91 ?_
          refine lv_iload hx hb d_Mo_stopsOf_92 (lv_at hl 4 rfl) ?_
          refine lv_iadd hx hb d_Mo_stopsOf_94 ?_
          obtain ⟨hi, hF⟩ := dk_a hF
          refine va_zald (D := G) hx hb hK hP 3 3 rfl rfl (dk_vp hi) d_Mo_stopsOf_95 ?_
          refine lv_if_eq (tgt := 140) hx hb d_Mo_stopsOf_96 (by decide) (fun c96_4 => ?_) (fun c96_4 => ?_)
          · have hF := dk_t c96_4 hF
            refine lv_iconst (v := (0 : Int32)) hx hb d_Mo_stopsOf_140 (by decide) ?_
            refine lv_iadd hx hb d_Mo_stopsOf_141 ?_
            refine lv_istore_n (lv' := [(2, .int ((z2 + (0 : Int32)) + (0 : Int32))), (0, .ref t), (1, .int z1), (3, .int z3), (4, .int z4)]) hx hb d_Mo_stopsOf_142 rfl hl (by decide) rfl (fun ls hl => ?_)
            refine lv_iinc (v := z4 + (1 : Int32)) (lv' := [(4, .int (z4 + (1 : Int32))), (2, .int ((z2 + (0 : Int32)) + (0 : Int32))), (0, .ref t), (1, .int z1), (3, .int z3)]) hx hb d_Mo_stopsOf_143 hl (k := 4) rfl rfl (by decide) rfl (fun ls hl => ?_)
            refine lv_goto (tgt := 17) hx hb d_Mo_stopsOf_146 (by decide) ?_
            exact jh z1 ((z2 + (0 : Int32)) + (0 : Int32)) z3 (z4 + (1 : Int32)) q hF ls (lv_sub hl [2, 3, 1, 4, 0] rfl) hk
          · have hF := dk_f c96_4 hF
            refine lv_aload_n hx hb d_Mo_stopsOf_99 rfl (lv_at hl 1 rfl) ?_
            refine va_get (D := G) (ci := 8) (v := .ref t_open) (C := R_Mo) (T := F_Mo) (N := 24) hx hb hts i_Mo hown hK hP 0 rfl rfl 16 (by decide) (hts _ lk_442) (fun _ h9 => h9) rfl d_Mo_stopsOf_100 ?_
            refine lv_bipush (v := (120 : Int32)) hx hb d_Mo_stopsOf_103 (by decide) ?_
            refine lv_iload_n hx hb d_Mo_stopsOf_105 rfl (lv_at hl 3 rfl) ?_
            refine lv_imul hx hb d_Mo_stopsOf_106 ?_
            refine lv_iload hx hb d_Mo_stopsOf_107 (lv_at hl 4 rfl) ?_
            refine lv_aload_n hx hb d_Mo_stopsOf_109 rfl (lv_at hl 1 rfl) ?_
            refine va_get (D := G) (ci := 8) (v := .ref t_seconds) (C := R_Mo) (T := F_Mo) (N := 24) hx hb hts i_Mo hown hK hP 0 rfl rfl 4 (by decide) (hts _ lk_428) (fun _ h9 => h9) rfl d_Mo_stopsOf_110 ?_
            refine lv_iconst (v := (2 : Int32)) hx hb d_Mo_stopsOf_113 (by decide) ?_
            refine lv_iload_n hx hb d_Mo_stopsOf_114 rfl (lv_at hl 3 rfl) ?_
            refine lv_imul hx hb d_Mo_stopsOf_115 ?_
            refine lv_iconst (v := (1 : Int32)) hx hb d_Mo_stopsOf_116 (by decide) ?_
            refine lv_iadd hx hb d_Mo_stopsOf_117 ?_
            obtain ⟨hi, hF⟩ := dk_a hF
            refine va_iald (D := G) hx hb hK hP 1 0 rfl rfl (dk_vp hi) d_Mo_stopsOf_118 ?_
            refine lv_iadd hx hb d_Mo_stopsOf_119 ?_
            refine lv_iload_n hx hb d_Mo_stopsOf_120 rfl (lv_at hl 2 rfl) ?_
            obtain ⟨hz, hF⟩ := dk_z hF
            refine lv_irem hx hb d_Mo_stopsOf_121 hz ?_
            refine lv_iadd hx hb d_Mo_stopsOf_122 ?_
            obtain ⟨hi, hF⟩ := dk_a hF
            refine va_zald (D := G) hx hb hK hP 3 3 rfl rfl (dk_vp hi) d_Mo_stopsOf_123 ?_
            refine lv_if_ne (tgt := 140) hx hb d_Mo_stopsOf_124 (by decide) (fun c124_5 => ?_) (fun c124_5 => ?_)
            · have hF := dk_f c124_5 hF
              refine lv_iconst (v := (0 : Int32)) hx hb d_Mo_stopsOf_140 (by decide) ?_
              refine lv_iadd hx hb d_Mo_stopsOf_141 ?_
              refine lv_istore_n (lv' := [(2, .int ((z2 + (0 : Int32)) + (0 : Int32))), (0, .ref t), (1, .int z1), (3, .int z3), (4, .int z4)]) hx hb d_Mo_stopsOf_142 rfl hl (by decide) rfl (fun ls hl => ?_)
              refine lv_iinc (v := z4 + (1 : Int32)) (lv' := [(4, .int (z4 + (1 : Int32))), (2, .int ((z2 + (0 : Int32)) + (0 : Int32))), (0, .ref t), (1, .int z1), (3, .int z3)]) hx hb d_Mo_stopsOf_143 hl (k := 4) rfl rfl (by decide) rfl (fun ls hl => ?_)
              refine lv_goto (tgt := 17) hx hb d_Mo_stopsOf_146 (by decide) ?_
              exact jh z1 ((z2 + (0 : Int32)) + (0 : Int32)) z3 (z4 + (1 : Int32)) q hF ls (lv_sub hl [2, 3, 1, 4, 0] rfl) hk
            · have hF := dk_t c124_5 hF
              refine lv_aload_n hx hb d_Mo_stopsOf_127 rfl (lv_at hl 1 rfl) ?_
              refine va_get (D := G) (ci := 8) (v := .ref t_weights) (C := R_Mo) (T := F_Mo) (N := 24) hx hb hts i_Mo hown hK hP 0 rfl rfl 5 (by decide) (hts _ lk_429) (fun _ h9 => h9) rfl d_Mo_stopsOf_128 ?_
              refine lv_iconst (v := (2 : Int32)) hx hb d_Mo_stopsOf_131 (by decide) ?_
              refine lv_iload_n hx hb d_Mo_stopsOf_132 rfl (lv_at hl 3 rfl) ?_
              refine lv_imul hx hb d_Mo_stopsOf_133 ?_
              refine lv_iconst (v := (1 : Int32)) hx hb d_Mo_stopsOf_134 (by decide) ?_
              refine lv_iadd hx hb d_Mo_stopsOf_135 ?_
              obtain ⟨hi, hF⟩ := dk_a hF
              refine va_iald (D := G) hx hb hK hP 2 0 rfl rfl (dk_vp hi) d_Mo_stopsOf_136 ?_
              refine lv_goto (tgt := 141) hx hb d_Mo_stopsOf_137 (by decide) ?_
              refine lv_iadd hx hb d_Mo_stopsOf_141 ?_
              refine lv_istore_n (lv' := [(2, .int ((z2 + (0 : Int32)) + (v_t_weights (((2 : Int32) * z3) + (1 : Int32)).toNatClampNeg))), (0, .ref t), (1, .int z1), (3, .int z3), (4, .int z4)]) hx hb d_Mo_stopsOf_142 rfl hl (by decide) rfl (fun ls hl => ?_)
              refine lv_iinc (v := z4 + (1 : Int32)) (lv' := [(4, .int (z4 + (1 : Int32))), (2, .int ((z2 + (0 : Int32)) + (v_t_weights (((2 : Int32) * z3) + (1 : Int32)).toNatClampNeg))), (0, .ref t), (1, .int z1), (3, .int z3)]) hx hb d_Mo_stopsOf_143 hl (k := 4) rfl rfl (by decide) rfl (fun ls hl => ?_)
              refine lv_goto (tgt := 17) hx hb d_Mo_stopsOf_146 (by decide) ?_
              exact jh z1 ((z2 + (0 : Int32)) + (v_t_weights (((2 : Int32) * z3) + (1 : Int32)).toNatClampNeg)) z3 (z4 + (1 : Int32)) q hF ls (lv_sub hl [2, 3, 1, 4, 0] rfl) hk
        · have hF := dk_f c36_3 hF
          refine lv_aload_n hx hb d_Mo_stopsOf_39 rfl (lv_at hl 0 rfl) ?_
          refine va_get (D := G) (ci := 8) (v := .ref t_open) (C := R_Mo) (T := F_Mo) (N := 24) hx hb hts i_Mo hown hK hP 0 rfl rfl 16 (by decide) (hts _ lk_442) (fun _ h9 => h9) rfl d_Mo_stopsOf_40 ?_
          refine lv_bipush (v := (120 : Int32)) hx hb d_Mo_stopsOf_43 (by decide) ?_
          refine lv_iload_n hx hb d_Mo_stopsOf_45 rfl (lv_at hl 3 rfl) ?_
          refine lv_iconst (v := (1 : Int32)) hx hb d_Mo_stopsOf_46 (by decide) ?_
          refine lv_iadd hx hb d_Mo_stopsOf_47 ?_
          refine lv_imul hx hb d_Mo_stopsOf_48 ?_
          refine lv_iload hx hb d_Mo_stopsOf_49 (lv_at hl 4 rfl) ?_
          refine lv_aload_n hx hb d_Mo_stopsOf_51 rfl (lv_at hl 0 rfl) ?_
          refine va_get (D := G) (ci := 8) (v := .ref t_seconds) (C := R_Mo) (T := F_Mo) (N := 24) hx hb hts i_Mo hown hK hP 0 rfl rfl 4 (by decide) (hts _ lk_428) (fun _ h9 => h9) rfl d_Mo_stopsOf_52 ?_
          refine lv_iconst (v := (2 : Int32)) hx hb d_Mo_stopsOf_55 (by decide) ?_
          refine lv_iload_n hx hb d_Mo_stopsOf_56 rfl (lv_at hl 3 rfl) ?_
          refine lv_imul hx hb d_Mo_stopsOf_57 ?_
          obtain ⟨hi, hF⟩ := dk_a hF
          refine va_iald (D := G) hx hb hK hP 1 0 rfl rfl (dk_vp hi) d_Mo_stopsOf_58 ?_
          refine lv_iadd hx hb d_Mo_stopsOf_59 ?_
          refine lv_iload_n hx hb d_Mo_stopsOf_60 rfl (lv_at hl 1 rfl) ?_
          obtain ⟨hz, hF⟩ := dk_z hF
          refine lv_irem hx hb d_Mo_stopsOf_61 hz ?_
          refine lv_iadd hx hb d_Mo_stopsOf_62 ?_
          obtain ⟨hi, hF⟩ := dk_a hF
          refine va_zald (D := G) hx hb hK hP 3 3 rfl rfl (dk_vp hi) d_Mo_stopsOf_63 ?_
          refine lv_if_ne (tgt := 78) hx hb d_Mo_stopsOf_64 (by decide) (fun c64_6 => ?_) (fun c64_6 => ?_)
          · have hF := dk_f c64_6 hF
            refine lv_iconst (v := (0 : Int32)) hx hb d_Mo_stopsOf_78 (by decide) ?_
            refine lv_iadd hx hb d_Mo_stopsOf_79 ?_
            refine lv_istore_n (lv' := [(2, .int (z2 + (0 : Int32))), (0, .ref t), (1, .int z1), (3, .int z3), (4, .int z4)]) hx hb d_Mo_stopsOf_80 rfl hl (by decide) rfl (fun ls hl => ?_)
            refine lv_iload_n hx hb d_Mo_stopsOf_81 rfl (lv_at hl 0 rfl) ?_
            refine lv_aload_n hx hb d_Mo_stopsOf_82 rfl (lv_at hl 1 rfl) ?_
            refine va_get (D := G) (ci := 8) (v := .ref t_open) (C := R_Mo) (T := F_Mo) (N := 24) hx hb hts i_Mo hown hK hP 0 rfl rfl 16 (by decide) (hts _ lk_442) (fun _ h9 => h9) rfl d_Mo_stopsOf_83 ?_
            refine lv_bipush (v := (120 : Int32)) hx hb d_Mo_stopsOf_86 (by decide) ?_
            refine lv_iload_n hx hb d_Mo_stopsOf_88 rfl (lv_at hl 3 rfl) ?_
            refine lv_iconst (v := (1 : Int32)) hx hb d_Mo_stopsOf_89 (by decide) ?_
            refine lv_iadd hx hb d_Mo_stopsOf_90 ?_
            refine lv_imul hx hb d_Mo_stopsOf_91 ?_
            refine lv_iload hx hb d_Mo_stopsOf_92 (lv_at hl 4 rfl) ?_
            refine lv_iadd hx hb d_Mo_stopsOf_94 ?_
            obtain ⟨hi, hF⟩ := dk_a hF
            refine va_zald (D := G) hx hb hK hP 3 3 rfl rfl (dk_vp hi) d_Mo_stopsOf_95 ?_
            refine lv_if_eq (tgt := 140) hx hb d_Mo_stopsOf_96 (by decide) (fun c96_7 => ?_) (fun c96_7 => ?_)
            · have hF := dk_t c96_7 hF
              refine lv_iconst (v := (0 : Int32)) hx hb d_Mo_stopsOf_140 (by decide) ?_
              refine lv_iadd hx hb d_Mo_stopsOf_141 ?_
              refine lv_istore_n (lv' := [(2, .int ((z2 + (0 : Int32)) + (0 : Int32))), (0, .ref t), (1, .int z1), (3, .int z3), (4, .int z4)]) hx hb d_Mo_stopsOf_142 rfl hl (by decide) rfl (fun ls hl => ?_)
              refine lv_iinc (v := z4 + (1 : Int32)) (lv' := [(4, .int (z4 + (1 : Int32))), (2, .int ((z2 + (0 : Int32)) + (0 : Int32))), (0, .ref t), (1, .int z1), (3, .int z3)]) hx hb d_Mo_stopsOf_143 hl (k := 4) rfl rfl (by decide) rfl (fun ls hl => ?_)
              refine lv_goto (tgt := 17) hx hb d_Mo_stopsOf_146 (by decide) ?_
              exact jh z1 ((z2 + (0 : Int32)) + (0 : Int32)) z3 (z4 + (1 : Int32)) q hF ls (lv_sub hl [2, 3, 1, 4, 0] rfl) hk
            · have hF := dk_f c96_7 hF
              refine lv_aload_n hx hb d_Mo_stopsOf_99 rfl (lv_at hl 1 rfl) ?_
              refine va_get (D := G) (ci := 8) (v := .ref t_open) (C := R_Mo) (T := F_Mo) (N := 24) hx hb hts i_Mo hown hK hP 0 rfl rfl 16 (by decide) (hts _ lk_442) (fun _ h9 => h9) rfl d_Mo_stopsOf_100 ?_
              refine lv_bipush (v := (120 : Int32)) hx hb d_Mo_stopsOf_103 (by decide) ?_
              refine lv_iload_n hx hb d_Mo_stopsOf_105 rfl (lv_at hl 3 rfl) ?_
              refine lv_imul hx hb d_Mo_stopsOf_106 ?_
              refine lv_iload hx hb d_Mo_stopsOf_107 (lv_at hl 4 rfl) ?_
              refine lv_aload_n hx hb d_Mo_stopsOf_109 rfl (lv_at hl 1 rfl) ?_
              refine va_get (D := G) (ci := 8) (v := .ref t_seconds) (C := R_Mo) (T := F_Mo) (N := 24) hx hb hts i_Mo hown hK hP 0 rfl rfl 4 (by decide) (hts _ lk_428) (fun _ h9 => h9) rfl d_Mo_stopsOf_110 ?_
              refine lv_iconst (v := (2 : Int32)) hx hb d_Mo_stopsOf_113 (by decide) ?_
              refine lv_iload_n hx hb d_Mo_stopsOf_114 rfl (lv_at hl 3 rfl) ?_
              refine lv_imul hx hb d_Mo_stopsOf_115 ?_
              refine lv_iconst (v := (1 : Int32)) hx hb d_Mo_stopsOf_116 (by decide) ?_
              refine lv_iadd hx hb d_Mo_stopsOf_117 ?_
              obtain ⟨hi, hF⟩ := dk_a hF
              refine va_iald (D := G) hx hb hK hP 1 0 rfl rfl (dk_vp hi) d_Mo_stopsOf_118 ?_
              refine lv_iadd hx hb d_Mo_stopsOf_119 ?_
              refine lv_iload_n hx hb d_Mo_stopsOf_120 rfl (lv_at hl 2 rfl) ?_
              obtain ⟨hz, hF⟩ := dk_z hF
              refine lv_irem hx hb d_Mo_stopsOf_121 hz ?_
              refine lv_iadd hx hb d_Mo_stopsOf_122 ?_
              obtain ⟨hi, hF⟩ := dk_a hF
              refine va_zald (D := G) hx hb hK hP 3 3 rfl rfl (dk_vp hi) d_Mo_stopsOf_123 ?_
              refine lv_if_ne (tgt := 140) hx hb d_Mo_stopsOf_124 (by decide) (fun c124_8 => ?_) (fun c124_8 => ?_)
              · have hF := dk_f c124_8 hF
                refine lv_iconst (v := (0 : Int32)) hx hb d_Mo_stopsOf_140 (by decide) ?_
                refine lv_iadd hx hb d_Mo_stopsOf_141 ?_
                refine lv_istore_n (lv' := [(2, .int ((z2 + (0 : Int32)) + (0 : Int32))), (0, .ref t), (1, .int z1), (3, .int z3), (4, .int z4)]) hx hb d_Mo_stopsOf_142 rfl hl (by decide) rfl (fun ls hl => ?_)
                refine lv_iinc (v := z4 + (1 : Int32)) (lv' := [(4, .int (z4 + (1 : Int32))), (2, .int ((z2 + (0 : Int32)) + (0 : Int32))), (0, .ref t), (1, .int z1), (3, .int z3)]) hx hb d_Mo_stopsOf_143 hl (k := 4) rfl rfl (by decide) rfl (fun ls hl => ?_)
                refine lv_goto (tgt := 17) hx hb d_Mo_stopsOf_146 (by decide) ?_
                exact jh z1 ((z2 + (0 : Int32)) + (0 : Int32)) z3 (z4 + (1 : Int32)) q hF ls (lv_sub hl [2, 3, 1, 4, 0] rfl) hk
              · have hF := dk_t c124_8 hF
                refine lv_aload_n hx hb d_Mo_stopsOf_127 rfl (lv_at hl 1 rfl) ?_
                refine va_get (D := G) (ci := 8) (v := .ref t_weights) (C := R_Mo) (T := F_Mo) (N := 24) hx hb hts i_Mo hown hK hP 0 rfl rfl 5 (by decide) (hts _ lk_429) (fun _ h9 => h9) rfl d_Mo_stopsOf_128 ?_
                refine lv_iconst (v := (2 : Int32)) hx hb d_Mo_stopsOf_131 (by decide) ?_
                refine lv_iload_n hx hb d_Mo_stopsOf_132 rfl (lv_at hl 3 rfl) ?_
                refine lv_imul hx hb d_Mo_stopsOf_133 ?_
                refine lv_iconst (v := (1 : Int32)) hx hb d_Mo_stopsOf_134 (by decide) ?_
                refine lv_iadd hx hb d_Mo_stopsOf_135 ?_
                obtain ⟨hi, hF⟩ := dk_a hF
                refine va_iald (D := G) hx hb hK hP 2 0 rfl rfl (dk_vp hi) d_Mo_stopsOf_136 ?_
                refine lv_goto (tgt := 141) hx hb d_Mo_stopsOf_137 (by decide) ?_
                refine lv_iadd hx hb d_Mo_stopsOf_141 ?_
                refine lv_istore_n (lv' := [(2, .int ((z2 + (0 : Int32)) + (v_t_weights (((2 : Int32) * z3) + (1 : Int32)).toNatClampNeg))), (0, .ref t), (1, .int z1), (3, .int z3), (4, .int z4)]) hx hb d_Mo_stopsOf_142 rfl hl (by decide) rfl (fun ls hl => ?_)
                refine lv_iinc (v := z4 + (1 : Int32)) (lv' := [(4, .int (z4 + (1 : Int32))), (2, .int ((z2 + (0 : Int32)) + (v_t_weights (((2 : Int32) * z3) + (1 : Int32)).toNatClampNeg))), (0, .ref t), (1, .int z1), (3, .int z3)]) hx hb d_Mo_stopsOf_143 hl (k := 4) rfl rfl (by decide) rfl (fun ls hl => ?_)
                refine lv_goto (tgt := 17) hx hb d_Mo_stopsOf_146 (by decide) ?_
                exact jh z1 ((z2 + (0 : Int32)) + (v_t_weights (((2 : Int32) * z3) + (1 : Int32)).toNatClampNeg)) z3 (z4 + (1 : Int32)) q hF ls (lv_sub hl [2, 3, 1, 4, 0] rfl) hk
          · have hF := dk_t c64_6 hF
            refine lv_aload_n hx hb d_Mo_stopsOf_67 rfl (lv_at hl 0 rfl) ?_
            refine va_get (D := G) (ci := 8) (v := .ref t_weights) (C := R_Mo) (T := F_Mo) (N := 24) hx hb hts i_Mo hown hK hP 0 rfl rfl 5 (by decide) (hts _ lk_429) (fun _ h9 => h9) rfl d_Mo_stopsOf_68 ?_
            refine lv_iconst (v := (2 : Int32)) hx hb d_Mo_stopsOf_71 (by decide) ?_
            refine lv_iload_n hx hb d_Mo_stopsOf_72 rfl (lv_at hl 3 rfl) ?_
            refine lv_imul hx hb d_Mo_stopsOf_73 ?_
            obtain ⟨hi, hF⟩ := dk_a hF
            refine va_iald (D := G) hx hb hK hP 2 0 rfl rfl (dk_vp hi) d_Mo_stopsOf_74 ?_
            refine lv_goto (tgt := 79) hx hb d_Mo_stopsOf_75 (by decide) ?_
            refine lv_iadd hx hb d_Mo_stopsOf_79 ?_
            refine lv_istore_n (lv' := [(2, .int (z2 + (v_t_weights ((2 : Int32) * z3).toNatClampNeg))), (0, .ref t), (1, .int z1), (3, .int z3), (4, .int z4)]) hx hb d_Mo_stopsOf_80 rfl hl (by decide) rfl (fun ls hl => ?_)
            refine lv_iload_n hx hb d_Mo_stopsOf_81 rfl (lv_at hl 0 rfl) ?_
            refine lv_aload_n hx hb d_Mo_stopsOf_82 rfl (lv_at hl 1 rfl) ?_
            refine va_get (D := G) (ci := 8) (v := .ref t_open) (C := R_Mo) (T := F_Mo) (N := 24) hx hb hts i_Mo hown hK hP 0 rfl rfl 16 (by decide) (hts _ lk_442) (fun _ h9 => h9) rfl d_Mo_stopsOf_83 ?_
            refine lv_bipush (v := (120 : Int32)) hx hb d_Mo_stopsOf_86 (by decide) ?_
            refine lv_iload_n hx hb d_Mo_stopsOf_88 rfl (lv_at hl 3 rfl) ?_
            refine lv_iconst (v := (1 : Int32)) hx hb d_Mo_stopsOf_89 (by decide) ?_
            refine lv_iadd hx hb d_Mo_stopsOf_90 ?_
            refine lv_imul hx hb d_Mo_stopsOf_91 ?_
            refine lv_iload hx hb d_Mo_stopsOf_92 (lv_at hl 4 rfl) ?_
            refine lv_iadd hx hb d_Mo_stopsOf_94 ?_
            obtain ⟨hi, hF⟩ := dk_a hF
            refine va_zald (D := G) hx hb hK hP 3 3 rfl rfl (dk_vp hi) d_Mo_stopsOf_95 ?_
            refine lv_if_eq (tgt := 140) hx hb d_Mo_stopsOf_96 (by decide) (fun c96_9 => ?_) (fun c96_9 => ?_)
            · have hF := dk_t c96_9 hF
              refine lv_iconst (v := (0 : Int32)) hx hb d_Mo_stopsOf_140 (by decide) ?_
              refine lv_iadd hx hb d_Mo_stopsOf_141 ?_
              refine lv_istore_n (lv' := [(2, .int ((z2 + (v_t_weights ((2 : Int32) * z3).toNatClampNeg)) + (0 : Int32))), (0, .ref t), (1, .int z1), (3, .int z3), (4, .int z4)]) hx hb d_Mo_stopsOf_142 rfl hl (by decide) rfl (fun ls hl => ?_)
              refine lv_iinc (v := z4 + (1 : Int32)) (lv' := [(4, .int (z4 + (1 : Int32))), (2, .int ((z2 + (v_t_weights ((2 : Int32) * z3).toNatClampNeg)) + (0 : Int32))), (0, .ref t), (1, .int z1), (3, .int z3)]) hx hb d_Mo_stopsOf_143 hl (k := 4) rfl rfl (by decide) rfl (fun ls hl => ?_)
              refine lv_goto (tgt := 17) hx hb d_Mo_stopsOf_146 (by decide) ?_
              exact jh z1 ((z2 + (v_t_weights ((2 : Int32) * z3).toNatClampNeg)) + (0 : Int32)) z3 (z4 + (1 : Int32)) q hF ls (lv_sub hl [2, 3, 1, 4, 0] rfl) hk
            · have hF := dk_f c96_9 hF
              refine lv_aload_n hx hb d_Mo_stopsOf_99 rfl (lv_at hl 1 rfl) ?_
              refine va_get (D := G) (ci := 8) (v := .ref t_open) (C := R_Mo) (T := F_Mo) (N := 24) hx hb hts i_Mo hown hK hP 0 rfl rfl 16 (by decide) (hts _ lk_442) (fun _ h9 => h9) rfl d_Mo_stopsOf_100 ?_
              refine lv_bipush (v := (120 : Int32)) hx hb d_Mo_stopsOf_103 (by decide) ?_
              refine lv_iload_n hx hb d_Mo_stopsOf_105 rfl (lv_at hl 3 rfl) ?_
              refine lv_imul hx hb d_Mo_stopsOf_106 ?_
              refine lv_iload hx hb d_Mo_stopsOf_107 (lv_at hl 4 rfl) ?_
              refine lv_aload_n hx hb d_Mo_stopsOf_109 rfl (lv_at hl 1 rfl) ?_
              refine va_get (D := G) (ci := 8) (v := .ref t_seconds) (C := R_Mo) (T := F_Mo) (N := 24) hx hb hts i_Mo hown hK hP 0 rfl rfl 4 (by decide) (hts _ lk_428) (fun _ h9 => h9) rfl d_Mo_stopsOf_110 ?_
              refine lv_iconst (v := (2 : Int32)) hx hb d_Mo_stopsOf_113 (by decide) ?_
              refine lv_iload_n hx hb d_Mo_stopsOf_114 rfl (lv_at hl 3 rfl) ?_
              refine lv_imul hx hb d_Mo_stopsOf_115 ?_
              refine lv_iconst (v := (1 : Int32)) hx hb d_Mo_stopsOf_116 (by decide) ?_
              refine lv_iadd hx hb d_Mo_stopsOf_117 ?_
              obtain ⟨hi, hF⟩ := dk_a hF
              refine va_iald (D := G) hx hb hK hP 1 0 rfl rfl (dk_vp hi) d_Mo_stopsOf_118 ?_
              refine lv_iadd hx hb d_Mo_stopsOf_119 ?_
              refine lv_iload_n hx hb d_Mo_stopsOf_120 rfl (lv_at hl 2 rfl) ?_
              obtain ⟨hz, hF⟩ := dk_z hF
              refine lv_irem hx hb d_Mo_stopsOf_121 hz ?_
              refine lv_iadd hx hb d_Mo_stopsOf_122 ?_
              obtain ⟨hi, hF⟩ := dk_a hF
              refine va_zald (D := G) hx hb hK hP 3 3 rfl rfl (dk_vp hi) d_Mo_stopsOf_123 ?_
              refine lv_if_ne (tgt := 140) hx hb d_Mo_stopsOf_124 (by decide) (fun c124_10 => ?_) (fun c124_10 => ?_)
              · have hF := dk_f c124_10 hF
                refine lv_iconst (v := (0 : Int32)) hx hb d_Mo_stopsOf_140 (by decide) ?_
                refine lv_iadd hx hb d_Mo_stopsOf_141 ?_
                refine lv_istore_n (lv' := [(2, .int ((z2 + (v_t_weights ((2 : Int32) * z3).toNatClampNeg)) + (0 : Int32))), (0, .ref t), (1, .int z1), (3, .int z3), (4, .int z4)]) hx hb d_Mo_stopsOf_142 rfl hl (by decide) rfl (fun ls hl => ?_)
                refine lv_iinc (v := z4 + (1 : Int32)) (lv' := [(4, .int (z4 + (1 : Int32))), (2, .int ((z2 + (v_t_weights ((2 : Int32) * z3).toNatClampNeg)) + (0 : Int32))), (0, .ref t), (1, .int z1), (3, .int z3)]) hx hb d_Mo_stopsOf_143 hl (k := 4) rfl rfl (by decide) rfl (fun ls hl => ?_)
                refine lv_goto (tgt := 17) hx hb d_Mo_stopsOf_146 (by decide) ?_
                exact jh z1 ((z2 + (v_t_weights ((2 : Int32) * z3).toNatClampNeg)) + (0 : Int32)) z3 (z4 + (1 : Int32)) q hF ls (lv_sub hl [2, 3, 1, 4, 0] rfl) hk
              · have hF := dk_t c124_10 hF
                refine lv_aload_n hx hb d_Mo_stopsOf_127 rfl (lv_at hl 1 rfl) ?_
                refine va_get (D := G) (ci := 8) (v := .ref t_weights) (C := R_Mo) (T := F_Mo) (N := 24) hx hb hts i_Mo hown hK hP 0 rfl rfl 5 (by decide) (hts _ lk_429) (fun _ h9 => h9) rfl d_Mo_stopsOf_128 ?_
                refine lv_iconst (v := (2 : Int32)) hx hb d_Mo_stopsOf_131 (by decide) ?_
                refine lv_iload_n hx hb d_Mo_stopsOf_132 rfl (lv_at hl 3 rfl) ?_
                refine lv_imul hx hb d_Mo_stopsOf_133 ?_
                refine lv_iconst (v := (1 : Int32)) hx hb d_Mo_stopsOf_134 (by decide) ?_
                refine lv_iadd hx hb d_Mo_stopsOf_135 ?_
                obtain ⟨hi, hF⟩ := dk_a hF
                refine va_iald (D := G) hx hb hK hP 2 0 rfl rfl (dk_vp hi) d_Mo_stopsOf_136 ?_
                refine lv_goto (tgt := 141) hx hb d_Mo_stopsOf_137 (by decide) ?_
                refine lv_iadd hx hb d_Mo_stopsOf_141 ?_
                refine lv_istore_n (lv' := [(2, .int ((z2 + (v_t_weights ((2 : Int32) * z3).toNatClampNeg)) + (v_t_weights (((2 : Int32) * z3) + (1 : Int32)).toNatClampNeg))), (0, .ref t), (1, .int z1), (3, .int z3), (4, .int z4)]) hx hb d_Mo_stopsOf_142 rfl hl (by decide) rfl (fun ls hl => ?_)
                refine lv_iinc (v := z4 + (1 : Int32)) (lv' := [(4, .int (z4 + (1 : Int32))), (2, .int ((z2 + (v_t_weights ((2 : Int32) * z3).toNatClampNeg)) + (v_t_weights (((2 : Int32) * z3) + (1 : Int32)).toNatClampNeg))), (0, .ref t), (1, .int z1), (3, .int z3)]) hx hb d_Mo_stopsOf_143 hl (k := 4) rfl rfl (by decide) rfl (fun ls hl => ?_)
                refine lv_goto (tgt := 17) hx hb d_Mo_stopsOf_146 (by decide) ?_
                exact jh z1 ((z2 + (v_t_weights ((2 : Int32) * z3).toNatClampNeg)) + (v_t_weights (((2 : Int32) * z3) + (1 : Int32)).toNatClampNeg)) z3 (z4 + (1 : Int32)) q hF ls (lv_sub hl [2, 3, 1, 4, 0] rfl) hk
  have L4 : ∀ (k : Nat) (z1 : Int32) (z2 : Int32) (z3 : Int32) (q : Int32), p_Mo_stopsOf_4 n k v_t_crossings v_t_open v_t_seconds v_t_weights z1 z2 z3 = some q → ∀ ls : Array Slot, lv_has ls 5 [(0, .ref t), (1, .int z1), (2, .int z2), (3, .int z3)] → (∀ (ls1 : Array Slot), lv_has ls1 5 [(2, .int q)] → W p l e m_Mo_stopsOf s m ([.ref t, .int x1] : List Value).toArray below meth c s.heap [] 0 0 (MQ below (dk_Qp (some (.int o))) ([.ref t, .int x1] : List Value).toArray s 0 0 (fun _ => False)) (F0 m 155 ls1 [])) → W p l e m_Mo_stopsOf s m ([.ref t, .int x1] : List Value).toArray below meth c s.heap [] 0 0 (MQ below (dk_Qp (some (.int o))) ([.ref t, .int x1] : List Value).toArray s 0 0 (fun _ => False)) (F0 m 4 ls []) := by
    intro k
    induction k with
    | zero =>
      intro z1 z2 z3 q hF ls hl hk
      exact absurd hF (by simp [p_Mo_stopsOf_4])
    | succ k jh =>
      intro z1 z2 z3 q hF ls hl hk
      have hF := (q_Mo_stopsOf_4 n k v_t_crossings v_t_open v_t_seconds v_t_weights z1 z2 z3).symm.trans hF
      refine lv_iload_n hx hb d_Mo_stopsOf_4 rfl (lv_at hl 3 rfl) ?_
      refine lv_iconst (v := (1 : Int32)) hx hb d_Mo_stopsOf_5 (by decide) ?_
      refine lv_iadd hx hb d_Mo_stopsOf_6 ?_
      refine lv_aload_n hx hb d_Mo_stopsOf_7 rfl (lv_at hl 0 rfl) ?_
      refine va_get (D := G) (ci := 8) (v := .int v_t_crossings) (C := R_Mo) (T := F_Mo) (N := 24) hx hb hts i_Mo hown hK hP 0 rfl rfl 0 (by decide) (hts _ lk_415) (fun _ h9 => h9) rfl d_Mo_stopsOf_8 ?_
      refine lv_icmp_ge (tgt := 155) hx hb d_Mo_stopsOf_11 (by decide) (fun c11_1 => ?_) (fun c11_1 => ?_)
      · have hF := dk_t c11_1 hF
        obtain rfl := Option.some.inj hF
        exact hk ls (lv_sub hl [2] rfl)
      · have hF := dk_f c11_1 hF
        refine lv_iconst (v := (0 : Int32)) hx hb d_Mo_stopsOf_14 (by decide) ?_
        refine lv_istore (lv' := [(4, .int (0 : Int32)), (0, .ref t), (1, .int z1), (2, .int z2), (3, .int z3)]) hx hb d_Mo_stopsOf_15 hl (by decide) rfl (fun ls hl => ?_)
        obtain ⟨q17_11, hC, hF⟩ := dk_b hF
        refine L17 n z1 z2 z3 (0 : Int32) q17_11 hC ls (lv_sub hl [1, 2, 3, 4, 0] rfl) (fun ls hl => ?_)
        refine lv_iinc (v := z3 + (1 : Int32)) (lv' := [(3, .int (z3 + (1 : Int32))), (0, .ref t), (1, .int z1), (2, .int q17_11)]) hx hb d_Mo_stopsOf_149 hl (k := 3) rfl rfl (by decide) rfl (fun ls hl => ?_)
        refine lv_goto (tgt := 4) hx hb d_Mo_stopsOf_152 (by decide) ?_
        exact jh z1 q17_11 (z3 + (1 : Int32)) q hF ls (lv_sub hl [1, 2, 3, 0] rfl) hk
  unfold p_Mo_stopsOf at hF
  refine lv_iconst (v := (0 : Int32)) hx hb d_Mo_stopsOf_0 (by decide) ?_
  refine lv_istore_n (lv' := [(2, .int (0 : Int32)), (0, .ref t), (1, .int x1)]) hx hb d_Mo_stopsOf_1 rfl hl (by decide) rfl (fun ls hl => ?_)
  refine lv_iconst (v := (0 : Int32)) hx hb d_Mo_stopsOf_2 (by decide) ?_
  refine lv_istore_n (lv' := [(3, .int (0 : Int32)), (2, .int (0 : Int32)), (0, .ref t), (1, .int x1)]) hx hb d_Mo_stopsOf_3 rfl hl (by decide) rfl (fun ls hl => ?_)
  obtain ⟨q4_12, hC, hF⟩ := dk_b hF
  refine L4 n x1 (0 : Int32) (0 : Int32) q4_12 hC ls (lv_sub hl [2, 3, 1, 0] rfl) (fun ls hl => ?_)
  refine lv_iload_n hx hb d_Mo_stopsOf_155 rfl (lv_at hl 0 rfl) ?_
  obtain rfl := Option.some.inj hF
  exact W.iret (v := q4_12) hx hb hr (fun t ht hW => ⟨rfl, ht⟩) (fun _ h => by cases h) d_Mo_stopsOf_156
def p_Mo_layPlan_2 (n : Nat) : Nat → Int32 → (Nat → Int32) → Int32 → (Nat → Int32) → (Nat → Int32) → Int32 → (Nat → Int32) → Option ((Nat → Int32))
  | 0, _, _, _, _, _, _, _ => none
  | k + 1, v_t_crossings, v_t_offsets, v_t_cycle, v_t_greens, v_t_queues, z1, v_t_open =>
    if v_t_crossings ≤ z1 then
      some v_t_open
    else
      if dk_in z1 5 = true then
        (p_Mo_lay n z1 (v_t_offsets z1.toNatClampNeg) v_t_cycle v_t_greens v_t_queues v_t_open).bind fun r22_2 =>
        p_Mo_layPlan_2 n k v_t_crossings v_t_offsets v_t_cycle v_t_greens v_t_queues (z1 + (1 : Int32)) r22_2
      else none
theorem q_Mo_layPlan_2 (n k : Nat) (v_t_crossings : Int32) (v_t_offsets : Nat → Int32) (v_t_cycle : Int32) (v_t_greens : Nat → Int32) (v_t_queues : Nat → Int32) (z1 : Int32) (v_t_open : Nat → Int32) : p_Mo_layPlan_2 n (k + 1) v_t_crossings v_t_offsets v_t_cycle v_t_greens v_t_queues z1 v_t_open =
    if v_t_crossings ≤ z1 then
      some v_t_open
    else
      if dk_in z1 5 = true then
        (p_Mo_lay n z1 (v_t_offsets z1.toNatClampNeg) v_t_cycle v_t_greens v_t_queues v_t_open).bind fun r22_2 =>
        p_Mo_layPlan_2 n k v_t_crossings v_t_offsets v_t_cycle v_t_greens v_t_queues (z1 + (1 : Int32)) r22_2
      else none := rfl
def p_Mo_layPlan (n : Nat) (v_t_crossings : Int32) (v_t_offsets : Nat → Int32) (v_t_cycle : Int32) (v_t_greens : Nat → Int32) (v_t_queues : Nat → Int32) (v_t_open : Nat → Int32) : Option ((Nat → Int32)) :=
  (p_Mo_layPlan_2 n n v_t_crossings v_t_offsets v_t_cycle v_t_greens v_t_queues (0 : Int32) v_t_open).bind fun q2_3 =>
  some q2_3
abbrev m_Mo_layPlan : Room := { frames := 1, cells := 0, slots := 0, locals := 25 }
set_option maxHeartbeats 4000000 in
set_option maxRecDepth 100000 in
theorem c_Mo_layPlan (l : Launch) (G : va_G) (K : Nat → ClassId) (n : Nat) (sz : Nat) (t : Nat) (t_greens : Nat) (t_leasts : Nat) (t_queues : Nat) (t_seconds : Nat) (t_weights : Nat) (t_offsets : Nat) (t_row : Nat) (t_open : Nat) (t_places : Nat) (t_times : Nat) (t_cars : Nat) (t_hourCrossings : Nat) (t_hourCycles : Nat) (t_hourOffsets : Nat) (v_t_crossings : Int32) (v_t_first : Int32) (v_t_last : Int32) (v_t_by : Int32) (v_t_step : Int32) (v_t_has : Int32) (v_t_cycle : Int32) (v_t_aim : Int32) (v_t_proved : Int32) (v_t_arrivals : Int32) (v_t_greens : Nat → Int32) (v_t_queues : Nat → Int32) (v_t_offsets : Nat → Int32) (v_t_open : Nat → Int32) (o : (Nat → Int32)) (hF : p_Mo_layPlan n v_t_crossings v_t_offsets v_t_cycle v_t_greens v_t_queues v_t_open = some o) :
    Met l y_Mo_layPlan (wd y_Mo_layPlan b_Mo_layPlan 2 none) m_Mo_layPlan (dk_Pm [.ref t] G K [(t, .inr (8, [.int v_t_crossings, .ref t_greens, .ref t_leasts, .ref t_queues, .ref t_seconds, .ref t_weights, .int v_t_first, .int v_t_last, .int v_t_by, .int v_t_step, .int v_t_has, .int v_t_cycle, .int v_t_aim, .int v_t_proved, .ref t_offsets, .ref t_row, .ref t_open, .int v_t_arrivals, .ref t_places, .ref t_times, .ref t_cars, .ref t_hourCrossings, .ref t_hourCycles, .ref t_hourOffsets])), (t_greens, .inl (K 0, 5, .inl v_t_greens)), (t_queues, .inl (K 0, 5, .inl v_t_queues)), (t_offsets, .inl (K 0, 5, .inl v_t_offsets)), (t_open, .inl (K 3, 600, .inl v_t_open))] sz) (dk_Qm none G (fun _ : Unit => [(t, .inr (8, [.int v_t_crossings, .ref t_greens, .ref t_leasts, .ref t_queues, .ref t_seconds, .ref t_weights, .int v_t_first, .int v_t_last, .int v_t_by, .int v_t_step, .int v_t_has, .int v_t_cycle, .int v_t_aim, .int v_t_proved, .ref t_offsets, .ref t_row, .ref t_open, .int v_t_arrivals, .ref t_places, .ref t_times, .ref t_cars, .ref t_hourCrossings, .ref t_hourCycles, .ref t_hourOffsets])), (t_greens, .inl (K 0, 5, .inl v_t_greens)), (t_queues, .inl (K 0, 5, .inl v_t_queues)), (t_offsets, .inl (K 0, 5, .inl v_t_offsets)), (t_open, .inl (K 3, 600, .inl o))]) (va_A [(t, .inr (8, [.int v_t_crossings, .ref t_greens, .ref t_leasts, .ref t_queues, .ref t_seconds, .ref t_weights, .int v_t_first, .int v_t_last, .int v_t_by, .int v_t_step, .int v_t_has, .int v_t_cycle, .int v_t_aim, .int v_t_proved, .ref t_offsets, .ref t_row, .ref t_open, .int v_t_arrivals, .ref t_places, .ref t_times, .ref t_cars, .ref t_hourCrossings, .ref t_hourCycles, .ref t_hourOffsets])), (t_greens, .inl (K 0, 5, .inl v_t_greens)), (t_queues, .inl (K 0, 5, .inl v_t_queues)), (t_offsets, .inl (K 0, 5, .inl v_t_offsets)), (t_open, .inl (K 3, 600, .inl v_t_open))] sz)) 0 0 (va_A [(t, .inr (8, [.int v_t_crossings, .ref t_greens, .ref t_leasts, .ref t_queues, .ref t_seconds, .ref t_weights, .int v_t_first, .int v_t_last, .int v_t_by, .int v_t_step, .int v_t_has, .int v_t_cycle, .int v_t_aim, .int v_t_proved, .ref t_offsets, .ref t_row, .ref t_open, .int v_t_arrivals, .ref t_places, .ref t_times, .ref t_cars, .ref t_hourCrossings, .ref t_hourCycles, .ref t_hourOffsets])), (t_greens, .inl (K 0, 5, .inl v_t_greens)), (t_queues, .inl (K 0, 5, .inl v_t_queues)), (t_offsets, .inl (K 0, 5, .inl v_t_offsets)), (t_open, .inl (K 3, 600, .inl v_t_open))] sz) := by
  refine Met.ofW (cc := b_Mo_layPlan) (maxL := 2) (ret := none) (by decide) rfl ?_
  intro p e s m args below meth c s₁ B hml hv
  obtain ⟨rfl, hsz, hP, hK, hN, hD0⟩ := hv
  have hx := B.exec
  have hb := B.bytes
  have hr := B.returns
  have hts : ∀ w ∈ lw_good, w.before _ s = true := fun w h => atoms_spec (ws := wd y_Mo_layPlan b_Mo_layPlan 2 none) B.pre w (List.mem_cons_of_mem _ h)
  have hown : s.vm.findClass R_Mo = some m.cls := findClass_of_methodNamed B.named
  have hlocks := B.notSynchronized
  have hfix : CallFix p m c b_Mo_layPlan 2 s _ lw_good R_Mo := ⟨hx, hb, hml, hown, hts⟩
  subst hsz
  have hD := hD0.self (sz := s.heap.size)
  generalize hAe : va_A [(t, .inr (8, [.int v_t_crossings, .ref t_greens, .ref t_leasts, .ref t_queues, .ref t_seconds, .ref t_weights, .int v_t_first, .int v_t_last, .int v_t_by, .int v_t_step, .int v_t_has, .int v_t_cycle, .int v_t_aim, .int v_t_proved, .ref t_offsets, .ref t_row, .ref t_open, .int v_t_arrivals, .ref t_places, .ref t_times, .ref t_cars, .ref t_hourCrossings, .ref t_hourCycles, .ref t_hourOffsets])), (t_greens, .inl (K 0, 5, .inl v_t_greens)), (t_queues, .inl (K 0, 5, .inl v_t_queues)), (t_offsets, .inl (K 0, 5, .inl v_t_offsets)), (t_open, .inl (K 3, 600, .inl v_t_open))] s.heap.size = A at hD ⊢
  have hA : ∀ q : Nat, s.heap.size ≤ q → A q := fun q h => by rw [← hAe]; exact Or.inr h
  have hS : va_S A s.heap s.heap [] := va_S.rf
  have hl := lv_entry ([.ref t]) (n := 2) (Nat.le_of_ble_eq_true rfl)
  rw [lg_entry_eq]
  generalize (lg_sl ([.ref t]) ++ List.replicate (2 - (lg_sl ([.ref t])).length) Slot.unset).toArray = ls at hl ⊢
  have hl : lv_has ls 2 [(0, .ref t)] := hl
  change W p l e m_Mo_layPlan s m _ below meth c s.heap [] 0 0 _ _
  have L2 : ∀ (k : Nat) (z1 : Int32) (v_t_open : Nat → Int32) (H : Heap) (locs : List Loc) (q : (Nat → Int32)), p_Mo_layPlan_2 n k v_t_crossings v_t_offsets v_t_cycle v_t_greens v_t_queues z1 v_t_open = some q → va_P G classes [(t, .inr (8, [.int v_t_crossings, .ref t_greens, .ref t_leasts, .ref t_queues, .ref t_seconds, .ref t_weights, .int v_t_first, .int v_t_last, .int v_t_by, .int v_t_step, .int v_t_has, .int v_t_cycle, .int v_t_aim, .int v_t_proved, .ref t_offsets, .ref t_row, .ref t_open, .int v_t_arrivals, .ref t_places, .ref t_times, .ref t_cars, .ref t_hourCrossings, .ref t_hourCycles, .ref t_hourOffsets])), (t_greens, .inl (K 0, 5, .inl v_t_greens)), (t_queues, .inl (K 0, 5, .inl v_t_queues)), (t_offsets, .inl (K 0, 5, .inl v_t_offsets)), (t_open, .inl (K 3, 600, .inl v_t_open))] H → va_D A [(t, .inr (8, [.int v_t_crossings, .ref t_greens, .ref t_leasts, .ref t_queues, .ref t_seconds, .ref t_weights, .int v_t_first, .int v_t_last, .int v_t_by, .int v_t_step, .int v_t_has, .int v_t_cycle, .int v_t_aim, .int v_t_proved, .ref t_offsets, .ref t_row, .ref t_open, .int v_t_arrivals, .ref t_places, .ref t_times, .ref t_cars, .ref t_hourCrossings, .ref t_hourCycles, .ref t_hourOffsets])), (t_greens, .inl (K 0, 5, .inl v_t_greens)), (t_queues, .inl (K 0, 5, .inl v_t_queues)), (t_offsets, .inl (K 0, 5, .inl v_t_offsets)), (t_open, .inl (K 3, 600, .inl v_t_open))] → va_S A s.heap H locs → ∀ ls : Array Slot, lv_has ls 2 [(0, .ref t), (1, .int z1)] → (∀ (H1 : Heap) (locs1 : List Loc) (ls1 : Array Slot), va_P G classes [(t, .inr (8, [.int v_t_crossings, .ref t_greens, .ref t_leasts, .ref t_queues, .ref t_seconds, .ref t_weights, .int v_t_first, .int v_t_last, .int v_t_by, .int v_t_step, .int v_t_has, .int v_t_cycle, .int v_t_aim, .int v_t_proved, .ref t_offsets, .ref t_row, .ref t_open, .int v_t_arrivals, .ref t_places, .ref t_times, .ref t_cars, .ref t_hourCrossings, .ref t_hourCycles, .ref t_hourOffsets])), (t_greens, .inl (K 0, 5, .inl v_t_greens)), (t_queues, .inl (K 0, 5, .inl v_t_queues)), (t_offsets, .inl (K 0, 5, .inl v_t_offsets)), (t_open, .inl (K 3, 600, .inl q))] H1 → va_D A [(t, .inr (8, [.int v_t_crossings, .ref t_greens, .ref t_leasts, .ref t_queues, .ref t_seconds, .ref t_weights, .int v_t_first, .int v_t_last, .int v_t_by, .int v_t_step, .int v_t_has, .int v_t_cycle, .int v_t_aim, .int v_t_proved, .ref t_offsets, .ref t_row, .ref t_open, .int v_t_arrivals, .ref t_places, .ref t_times, .ref t_cars, .ref t_hourCrossings, .ref t_hourCycles, .ref t_hourOffsets])), (t_greens, .inl (K 0, 5, .inl v_t_greens)), (t_queues, .inl (K 0, 5, .inl v_t_queues)), (t_offsets, .inl (K 0, 5, .inl v_t_offsets)), (t_open, .inl (K 3, 600, .inl q))] → va_S A s.heap H1 locs1 → lv_has ls1 2 [] → W p l e m_Mo_layPlan s m ([.ref t] : List Value).toArray below meth c H1 locs1 0 0 (MQ below (dk_Qm none G (fun _ : Unit => [(t, .inr (8, [.int v_t_crossings, .ref t_greens, .ref t_leasts, .ref t_queues, .ref t_seconds, .ref t_weights, .int v_t_first, .int v_t_last, .int v_t_by, .int v_t_step, .int v_t_has, .int v_t_cycle, .int v_t_aim, .int v_t_proved, .ref t_offsets, .ref t_row, .ref t_open, .int v_t_arrivals, .ref t_places, .ref t_times, .ref t_cars, .ref t_hourCrossings, .ref t_hourCycles, .ref t_hourOffsets])), (t_greens, .inl (K 0, 5, .inl v_t_greens)), (t_queues, .inl (K 0, 5, .inl v_t_queues)), (t_offsets, .inl (K 0, 5, .inl v_t_offsets)), (t_open, .inl (K 3, 600, .inl o))]) A) ([.ref t] : List Value).toArray s 0 0 A) (F0 m 31 ls1 [])) → W p l e m_Mo_layPlan s m ([.ref t] : List Value).toArray below meth c H locs 0 0 (MQ below (dk_Qm none G (fun _ : Unit => [(t, .inr (8, [.int v_t_crossings, .ref t_greens, .ref t_leasts, .ref t_queues, .ref t_seconds, .ref t_weights, .int v_t_first, .int v_t_last, .int v_t_by, .int v_t_step, .int v_t_has, .int v_t_cycle, .int v_t_aim, .int v_t_proved, .ref t_offsets, .ref t_row, .ref t_open, .int v_t_arrivals, .ref t_places, .ref t_times, .ref t_cars, .ref t_hourCrossings, .ref t_hourCycles, .ref t_hourOffsets])), (t_greens, .inl (K 0, 5, .inl v_t_greens)), (t_queues, .inl (K 0, 5, .inl v_t_queues)), (t_offsets, .inl (K 0, 5, .inl v_t_offsets)), (t_open, .inl (K 3, 600, .inl o))]) A) ([.ref t] : List Value).toArray s 0 0 A) (F0 m 2 ls []) := by
    intro k
    induction k with
    | zero =>
      intro z1 v_t_open H locs q hF hP hD hS ls hl hk
      exact absurd hF (by simp [p_Mo_layPlan_2])
    | succ k jh =>
      intro z1 v_t_open H locs q hF hP hD hS ls hl hk
      have hF := (q_Mo_layPlan_2 n k v_t_crossings v_t_offsets v_t_cycle v_t_greens v_t_queues z1 v_t_open).symm.trans hF
      refine lv_iload_n hx hb d_Mo_layPlan_2 rfl (lv_at hl 1 rfl) ?_
      refine lv_aload_n hx hb d_Mo_layPlan_3 rfl (lv_at hl 0 rfl) ?_
      refine va_get (D := G) (ci := 8) (v := .int v_t_crossings) (C := R_Mo) (T := F_Mo) (N := 24) hx hb hts i_Mo hown hK hP 0 rfl rfl 0 (by decide) (hts _ lk_415) (fun _ h9 => h9) rfl d_Mo_layPlan_4 ?_
      refine lv_icmp_ge (tgt := 31) hx hb d_Mo_layPlan_7 (by decide) (fun c7_1 => ?_) (fun c7_1 => ?_)
      · have hF := dk_t c7_1 hF
        obtain rfl := Option.some.inj hF
        exact hk H locs ls hP hD hS (lv_sub hl [] rfl)
      · have hF := dk_f c7_1 hF
        refine lv_aload_n hx hb d_Mo_layPlan_10 rfl (lv_at hl 0 rfl) ?_
        refine lv_iload_n hx hb d_Mo_layPlan_11 rfl (lv_at hl 1 rfl) ?_
        refine lv_aload_n hx hb d_Mo_layPlan_12 rfl (lv_at hl 0 rfl) ?_
        refine va_get (D := G) (ci := 8) (v := .ref t_offsets) (C := R_Mo) (T := F_Mo) (N := 24) hx hb hts i_Mo hown hK hP 0 rfl rfl 14 (by decide) (hts _ lk_443) (fun _ h9 => h9) rfl d_Mo_layPlan_13 ?_
        refine lv_iload_n hx hb d_Mo_layPlan_16 rfl (lv_at hl 1 rfl) ?_
        obtain ⟨hi, hF⟩ := dk_a hF
        refine va_iald (D := G) hx hb hK hP 3 0 rfl rfl (dk_vp hi) d_Mo_layPlan_17 ?_
        refine lv_aload_n hx hb d_Mo_layPlan_18 rfl (lv_at hl 0 rfl) ?_
        refine va_get (D := G) (ci := 8) (v := .int v_t_cycle) (C := R_Mo) (T := F_Mo) (N := 24) hx hb hts i_Mo hown hK hP 0 rfl rfl 11 (by decide) (hts _ lk_444) (fun _ h9 => h9) rfl d_Mo_layPlan_19 ?_
        obtain ⟨r22_2, hC, hF⟩ := dk_b hF
        refine dk_mutv (wr := [(t_offsets, .inl (K 0, 5, .inl v_t_offsets))]) (va_runV (As := [.int z1, .int (v_t_offsets z1.toNatClampNeg), .int v_t_cycle]) (rest := []) hfix (c_Mo_lay l G K n H.size t t_greens t_leasts t_queues t_seconds t_weights t_offsets t_row t_open t_places t_times t_cars t_hourCrossings t_hourCycles t_hourOffsets z1 (v_t_offsets z1.toNatClampNeg) v_t_cycle v_t_crossings v_t_first v_t_last v_t_by v_t_step v_t_has v_t_cycle v_t_aim v_t_proved v_t_arrivals v_t_greens v_t_queues v_t_open r22_2 hC) (cwV 3 hts (gd_V lk_445 lk_447 lk_448 lk_419 lk_446) rfl rfl rfl (by decide +kernel) ⟨Nat.le_of_ble_eq_true rfl, Nat.le_of_ble_eq_true rfl⟩) (dk_preVm hK hN (hP.sub [0, 1, 2, 4] rfl) (hD.sub [0, 1, 2, 4] (by decide) rfl) (va_recv hK hP (ci := 8) (q0 := 0) rfl rfl)) rfl rfl hl.1 rfl (lv_room (Nat.le_of_ble_eq_true rfl)) d_Mo_layPlan_22 ⟨Nat.le_of_ble_eq_true rfl, Nat.le_of_ble_eq_true rfl⟩) hS hA hP hD [0, 1, 2, 4] [3] rfl rfl (by decide) (by decide) (fun _ H locs hP hD hS => ?_)
        have hP : va_P G classes [(t, .inr (8, [.int v_t_crossings, .ref t_greens, .ref t_leasts, .ref t_queues, .ref t_seconds, .ref t_weights, .int v_t_first, .int v_t_last, .int v_t_by, .int v_t_step, .int v_t_has, .int v_t_cycle, .int v_t_aim, .int v_t_proved, .ref t_offsets, .ref t_row, .ref t_open, .int v_t_arrivals, .ref t_places, .ref t_times, .ref t_cars, .ref t_hourCrossings, .ref t_hourCycles, .ref t_hourOffsets])), (t_greens, .inl (K 0, 5, .inl v_t_greens)), (t_queues, .inl (K 0, 5, .inl v_t_queues)), (t_offsets, .inl (K 0, 5, .inl v_t_offsets)), (t_open, .inl (K 3, 600, .inl r22_2))] H := hP.sub [1, 2, 3, 0, 4] rfl
        have hD : va_D A [(t, .inr (8, [.int v_t_crossings, .ref t_greens, .ref t_leasts, .ref t_queues, .ref t_seconds, .ref t_weights, .int v_t_first, .int v_t_last, .int v_t_by, .int v_t_step, .int v_t_has, .int v_t_cycle, .int v_t_aim, .int v_t_proved, .ref t_offsets, .ref t_row, .ref t_open, .int v_t_arrivals, .ref t_places, .ref t_times, .ref t_cars, .ref t_hourCrossings, .ref t_hourCycles, .ref t_hourOffsets])), (t_greens, .inl (K 0, 5, .inl v_t_greens)), (t_queues, .inl (K 0, 5, .inl v_t_queues)), (t_offsets, .inl (K 0, 5, .inl v_t_offsets)), (t_open, .inl (K 3, 600, .inl r22_2))] := hD.sub [1, 2, 3, 0, 4] (by decide) rfl
        refine lv_iinc (v := z1 + (1 : Int32)) (lv' := [(1, .int (z1 + (1 : Int32))), (0, .ref t)]) hx hb d_Mo_layPlan_25 hl (k := 1) rfl rfl (by decide) rfl (fun ls hl => ?_)
        refine lv_goto (tgt := 2) hx hb d_Mo_layPlan_28 (by decide) ?_
        exact jh (z1 + (1 : Int32)) r22_2 H locs q hF hP hD hS ls (lv_sub hl [1, 0] rfl) hk
  unfold p_Mo_layPlan at hF
  refine lv_iconst (v := (0 : Int32)) hx hb d_Mo_layPlan_0 (by decide) ?_
  refine lv_istore_n (lv' := [(1, .int (0 : Int32)), (0, .ref t)]) hx hb d_Mo_layPlan_1 rfl hl (by decide) rfl (fun ls hl => ?_)
  obtain ⟨q2_3, hC, hF⟩ := dk_b hF
  refine L2 n (0 : Int32) v_t_open s.heap [] q2_3 hC hP hD hS ls (lv_sub hl [1, 0] rfl) (fun H locs ls hP hD hS hl => ?_)
  obtain rfl := Option.some.inj hF
  exact W.vret hx hb hr (fun t ht hW => ⟨⟨(), rfl, by rw [ht]; exact hP, hD⟩, hS.F ht⟩) hS.2.2 d_Mo_layPlan_31
def p_Mo_mayBe_4 (n : Nat) : Nat → Int32 → (Nat → Int32) → Int32 → Int32 → Int32 → Option (Int32)
  | 0, _, _, _, _, _ => none
  | k + 1, v_t_crossings, v_t_leasts, z1, z2, z3 =>
    if v_t_crossings ≤ z3 then
      some z2
    else
      if z2 = 0 then
        p_Mo_mayBe_4 n k v_t_crossings v_t_leasts z1 (0 : Int32) (z3 + (1 : Int32))
      else
        if dk_in z3 5 = true then
          if z1 < (v_t_leasts z3.toNatClampNeg) then
            p_Mo_mayBe_4 n k v_t_crossings v_t_leasts z1 (0 : Int32) (z3 + (1 : Int32))
          else
            p_Mo_mayBe_4 n k v_t_crossings v_t_leasts z1 (1 : Int32) (z3 + (1 : Int32))
        else none
theorem q_Mo_mayBe_4 (n k : Nat) (v_t_crossings : Int32) (v_t_leasts : Nat → Int32) (z1 : Int32) (z2 : Int32) (z3 : Int32) : p_Mo_mayBe_4 n (k + 1) v_t_crossings v_t_leasts z1 z2 z3 =
    if v_t_crossings ≤ z3 then
      some z2
    else
      if z2 = 0 then
        p_Mo_mayBe_4 n k v_t_crossings v_t_leasts z1 (0 : Int32) (z3 + (1 : Int32))
      else
        if dk_in z3 5 = true then
          if z1 < (v_t_leasts z3.toNatClampNeg) then
            p_Mo_mayBe_4 n k v_t_crossings v_t_leasts z1 (0 : Int32) (z3 + (1 : Int32))
          else
            p_Mo_mayBe_4 n k v_t_crossings v_t_leasts z1 (1 : Int32) (z3 + (1 : Int32))
        else none := rfl
def p_Mo_mayBe (n : Nat) (x1 : Int32) (v_t_crossings : Int32) (v_t_leasts : Nat → Int32) : Option (Int32) :=
  (p_Mo_mayBe_4 n n v_t_crossings v_t_leasts x1 (1 : Int32) (0 : Int32)).bind fun q4_4 =>
  if dk_bool q4_4 = true then
    some q4_4
  else none
abbrev m_Mo_mayBe : Room := { frames := 0, cells := 0, slots := 0, locals := 0 }
set_option maxHeartbeats 4000000 in
set_option maxRecDepth 100000 in
theorem c_Mo_mayBe (l : Launch) (G : va_G) (K : Nat → ClassId) (n : Nat) (t : Nat) (t_greens : Nat) (t_leasts : Nat) (t_queues : Nat) (t_seconds : Nat) (t_weights : Nat) (t_offsets : Nat) (t_row : Nat) (t_open : Nat) (t_places : Nat) (t_times : Nat) (t_cars : Nat) (t_hourCrossings : Nat) (t_hourCycles : Nat) (t_hourOffsets : Nat) (x1 : Int32) (v_t_crossings : Int32) (v_t_first : Int32) (v_t_last : Int32) (v_t_by : Int32) (v_t_step : Int32) (v_t_has : Int32) (v_t_cycle : Int32) (v_t_aim : Int32) (v_t_proved : Int32) (v_t_arrivals : Int32) (v_t_leasts : Nat → Int32) (o : Int32) (hF : p_Mo_mayBe n x1 v_t_crossings v_t_leasts = some o) :
    Met l y_Mo_mayBe (wd y_Mo_mayBe b_Mo_mayBe 4 (some .boolean)) m_Mo_mayBe (dk_Pp [.ref t, .int x1] G K [(t, .inr (8, [.int v_t_crossings, .ref t_greens, .ref t_leasts, .ref t_queues, .ref t_seconds, .ref t_weights, .int v_t_first, .int v_t_last, .int v_t_by, .int v_t_step, .int v_t_has, .int v_t_cycle, .int v_t_aim, .int v_t_proved, .ref t_offsets, .ref t_row, .ref t_open, .int v_t_arrivals, .ref t_places, .ref t_times, .ref t_cars, .ref t_hourCrossings, .ref t_hourCycles, .ref t_hourOffsets])), (t_leasts, .inl (K 0, 5, .inl v_t_leasts))]) (dk_Qp (some (.int o))) 0 0 (fun _ => False) := by
  refine Met.ofW (cc := b_Mo_mayBe) (maxL := 4) (ret := (some .boolean)) (by decide) rfl ?_
  intro p e s m args below meth c s₁ B hml hv
  obtain ⟨rfl, hP, hK, hN⟩ := hv
  have hx := B.exec
  have hb := B.bytes
  have hr := B.returns
  have hts : ∀ w ∈ lw_good, w.before _ s = true := fun w h => atoms_spec (ws := wd y_Mo_mayBe b_Mo_mayBe 4 (some .boolean)) B.pre w (List.mem_cons_of_mem _ h)
  have hown : s.vm.findClass R_Mo = some m.cls := findClass_of_methodNamed B.named
  have hlocks := B.notSynchronized
  have hfix : CallFix p m c b_Mo_mayBe 4 s _ lw_good R_Mo := ⟨hx, hb, hml, hown, hts⟩
  have hl := lv_entry ([.ref t, .int x1]) (n := 4) (Nat.le_of_ble_eq_true rfl)
  rw [lg_entry_eq]
  generalize (lg_sl ([.ref t, .int x1]) ++ List.replicate (4 - (lg_sl ([.ref t, .int x1])).length) Slot.unset).toArray = ls at hl ⊢
  have hl : lv_has ls 4 [(0, .ref t), (1, .int x1)] := hl
  change W p l e m_Mo_mayBe s m _ below meth c s.heap [] 0 0 _ _
  have L4 : ∀ (k : Nat) (z1 : Int32) (z2 : Int32) (z3 : Int32) (q : Int32), p_Mo_mayBe_4 n k v_t_crossings v_t_leasts z1 z2 z3 = some q → ∀ ls : Array Slot, lv_has ls 4 [(0, .ref t), (1, .int z1), (2, .int z2), (3, .int z3)] → (∀ (ls1 : Array Slot), lv_has ls1 4 [(2, .int q)] → W p l e m_Mo_mayBe s m ([.ref t, .int x1] : List Value).toArray below meth c s.heap [] 0 0 (MQ below (dk_Qp (some (.int o))) ([.ref t, .int x1] : List Value).toArray s 0 0 (fun _ => False)) (F0 m 38 ls1 [])) → W p l e m_Mo_mayBe s m ([.ref t, .int x1] : List Value).toArray below meth c s.heap [] 0 0 (MQ below (dk_Qp (some (.int o))) ([.ref t, .int x1] : List Value).toArray s 0 0 (fun _ => False)) (F0 m 4 ls []) := by
    intro k
    induction k with
    | zero =>
      intro z1 z2 z3 q hF ls hl hk
      exact absurd hF (by simp [p_Mo_mayBe_4])
    | succ k jh =>
      intro z1 z2 z3 q hF ls hl hk
      have hF := (q_Mo_mayBe_4 n k v_t_crossings v_t_leasts z1 z2 z3).symm.trans hF
      refine lv_iload_n hx hb d_Mo_mayBe_4 rfl (lv_at hl 3 rfl) ?_
      refine lv_aload_n hx hb d_Mo_mayBe_5 rfl (lv_at hl 0 rfl) ?_
      refine va_get (D := G) (ci := 8) (v := .int v_t_crossings) (C := R_Mo) (T := F_Mo) (N := 24) hx hb hts i_Mo hown hK hP 0 rfl rfl 0 (by decide) (hts _ lk_415) (fun _ h9 => h9) rfl d_Mo_mayBe_6 ?_
      refine lv_icmp_ge (tgt := 38) hx hb d_Mo_mayBe_9 (by decide) (fun c9_1 => ?_) (fun c9_1 => ?_)
      · have hF := dk_t c9_1 hF
        obtain rfl := Option.some.inj hF
        exact hk ls (lv_sub hl [2] rfl)
      · have hF := dk_f c9_1 hF
        refine lv_iload_n hx hb d_Mo_mayBe_12 rfl (lv_at hl 2 rfl) ?_
        refine lv_if_eq (tgt := 30) hx hb d_Mo_mayBe_13 (by decide) (fun c13_2 => ?_) (fun c13_2 => ?_)
        · have hF := dk_t c13_2 hF
          refine lv_iconst (v := (0 : Int32)) hx hb d_Mo_mayBe_30 (by decide) ?_
          refine lv_istore_n (lv' := [(2, .int (0 : Int32)), (0, .ref t), (1, .int z1), (3, .int z3)]) hx hb d_Mo_mayBe_31 rfl hl (by decide) rfl (fun ls hl => ?_)
          refine lv_iinc (v := z3 + (1 : Int32)) (lv' := [(3, .int (z3 + (1 : Int32))), (2, .int (0 : Int32)), (0, .ref t), (1, .int z1)]) hx hb d_Mo_mayBe_32 hl (k := 3) rfl rfl (by decide) rfl (fun ls hl => ?_)
          refine lv_goto (tgt := 4) hx hb d_Mo_mayBe_35 (by decide) ?_
          exact jh z1 (0 : Int32) (z3 + (1 : Int32)) q hF ls (lv_sub hl [2, 3, 1, 0] rfl) hk
        · have hF := dk_f c13_2 hF
          refine lv_aload_n hx hb d_Mo_mayBe_16 rfl (lv_at hl 0 rfl) ?_
          refine va_get (D := G) (ci := 8) (v := .ref t_leasts) (C := R_Mo) (T := F_Mo) (N := 24) hx hb hts i_Mo hown hK hP 0 rfl rfl 2 (by decide) (hts _ lk_425) (fun _ h9 => h9) rfl d_Mo_mayBe_17 ?_
          refine lv_iload_n hx hb d_Mo_mayBe_20 rfl (lv_at hl 3 rfl) ?_
          obtain ⟨hi, hF⟩ := dk_a hF
          refine va_iald (D := G) hx hb hK hP 1 0 rfl rfl (dk_vp hi) d_Mo_mayBe_21 ?_
          refine lv_iload_n hx hb d_Mo_mayBe_22 rfl (lv_at hl 1 rfl) ?_
          refine lv_icmp_gt (tgt := 30) hx hb d_Mo_mayBe_23 (by decide) (fun c23_3 => ?_) (fun c23_3 => ?_)
          · have hF := dk_t c23_3 hF
            refine lv_iconst (v := (0 : Int32)) hx hb d_Mo_mayBe_30 (by decide) ?_
            refine lv_istore_n (lv' := [(2, .int (0 : Int32)), (0, .ref t), (1, .int z1), (3, .int z3)]) hx hb d_Mo_mayBe_31 rfl hl (by decide) rfl (fun ls hl => ?_)
            refine lv_iinc (v := z3 + (1 : Int32)) (lv' := [(3, .int (z3 + (1 : Int32))), (2, .int (0 : Int32)), (0, .ref t), (1, .int z1)]) hx hb d_Mo_mayBe_32 hl (k := 3) rfl rfl (by decide) rfl (fun ls hl => ?_)
            refine lv_goto (tgt := 4) hx hb d_Mo_mayBe_35 (by decide) ?_
            exact jh z1 (0 : Int32) (z3 + (1 : Int32)) q hF ls (lv_sub hl [2, 3, 1, 0] rfl) hk
          · have hF := dk_f c23_3 hF
            refine lv_iconst (v := (1 : Int32)) hx hb d_Mo_mayBe_26 (by decide) ?_
            refine lv_goto (tgt := 31) hx hb d_Mo_mayBe_27 (by decide) ?_
            refine lv_istore_n (lv' := [(2, .int (1 : Int32)), (0, .ref t), (1, .int z1), (3, .int z3)]) hx hb d_Mo_mayBe_31 rfl hl (by decide) rfl (fun ls hl => ?_)
            refine lv_iinc (v := z3 + (1 : Int32)) (lv' := [(3, .int (z3 + (1 : Int32))), (2, .int (1 : Int32)), (0, .ref t), (1, .int z1)]) hx hb d_Mo_mayBe_32 hl (k := 3) rfl rfl (by decide) rfl (fun ls hl => ?_)
            refine lv_goto (tgt := 4) hx hb d_Mo_mayBe_35 (by decide) ?_
            exact jh z1 (1 : Int32) (z3 + (1 : Int32)) q hF ls (lv_sub hl [2, 3, 1, 0] rfl) hk
  unfold p_Mo_mayBe at hF
  refine lv_iconst (v := (1 : Int32)) hx hb d_Mo_mayBe_0 (by decide) ?_
  refine lv_istore_n (lv' := [(2, .int (1 : Int32)), (0, .ref t), (1, .int x1)]) hx hb d_Mo_mayBe_1 rfl hl (by decide) rfl (fun ls hl => ?_)
  refine lv_iconst (v := (0 : Int32)) hx hb d_Mo_mayBe_2 (by decide) ?_
  refine lv_istore_n (lv' := [(3, .int (0 : Int32)), (2, .int (1 : Int32)), (0, .ref t), (1, .int x1)]) hx hb d_Mo_mayBe_3 rfl hl (by decide) rfl (fun ls hl => ?_)
  obtain ⟨q4_4, hC, hF⟩ := dk_b hF
  refine L4 n x1 (1 : Int32) (0 : Int32) q4_4 hC ls (lv_sub hl [2, 3, 1, 0] rfl) (fun ls hl => ?_)
  refine lv_iload_n hx hb d_Mo_mayBe_38 rfl (lv_at hl 0 rfl) ?_
  obtain ⟨hbo, hF⟩ := dk_a hF
  obtain rfl := Option.some.inj hF
  exact W.zret (v := q4_4) hx hb hr (dk_bo hbo) (fun t ht hW => ⟨rfl, ht⟩) (fun _ h => by cases h) d_Mo_mayBe_39
def p_Mo_rowsOf_5 (n : Nat) : Nat → Int32 → Int32 → Int32 → Int64 → Int32 → Option (Int64)
  | 0, _, _, _, _, _ => none
  | k + 1, v_t_crossings, v_t_step, z1, z2, z4 =>
    if v_t_crossings ≤ z4 then
      some z2
    else
      if v_t_step = 0 then none else
      p_Mo_rowsOf_5 n k v_t_crossings v_t_step z1 (z2 * ((((z1 + v_t_step) - (1 : Int32)) / v_t_step).toInt64)) (z4 + (1 : Int32))
theorem q_Mo_rowsOf_5 (n k : Nat) (v_t_crossings : Int32) (v_t_step : Int32) (z1 : Int32) (z2 : Int64) (z4 : Int32) : p_Mo_rowsOf_5 n (k + 1) v_t_crossings v_t_step z1 z2 z4 =
    if v_t_crossings ≤ z4 then
      some z2
    else
      if v_t_step = 0 then none else
      p_Mo_rowsOf_5 n k v_t_crossings v_t_step z1 (z2 * ((((z1 + v_t_step) - (1 : Int32)) / v_t_step).toInt64)) (z4 + (1 : Int32)) := rfl
def p_Mo_rowsOf (n : Nat) (x1 : Int32) (v_t_crossings : Int32) (v_t_step : Int32) : Option (Int64) :=
  (p_Mo_rowsOf_5 n n v_t_crossings v_t_step x1 (1 : Int64) (1 : Int32)).bind fun q5_2 =>
  some q5_2
abbrev m_Mo_rowsOf : Room := { frames := 0, cells := 0, slots := 0, locals := 0 }
set_option maxHeartbeats 4000000 in
set_option maxRecDepth 100000 in
theorem c_Mo_rowsOf (l : Launch) (G : va_G) (K : Nat → ClassId) (n : Nat) (t : Nat) (t_greens : Nat) (t_leasts : Nat) (t_queues : Nat) (t_seconds : Nat) (t_weights : Nat) (t_offsets : Nat) (t_row : Nat) (t_open : Nat) (t_places : Nat) (t_times : Nat) (t_cars : Nat) (t_hourCrossings : Nat) (t_hourCycles : Nat) (t_hourOffsets : Nat) (x1 : Int32) (v_t_crossings : Int32) (v_t_first : Int32) (v_t_last : Int32) (v_t_by : Int32) (v_t_step : Int32) (v_t_has : Int32) (v_t_cycle : Int32) (v_t_aim : Int32) (v_t_proved : Int32) (v_t_arrivals : Int32) (o : Int64) (hF : p_Mo_rowsOf n x1 v_t_crossings v_t_step = some o) :
    Met l y_Mo_rowsOf (wd y_Mo_rowsOf b_Mo_rowsOf 5 (some .long)) m_Mo_rowsOf (dk_Pp [.ref t, .int x1] G K [(t, .inr (8, [.int v_t_crossings, .ref t_greens, .ref t_leasts, .ref t_queues, .ref t_seconds, .ref t_weights, .int v_t_first, .int v_t_last, .int v_t_by, .int v_t_step, .int v_t_has, .int v_t_cycle, .int v_t_aim, .int v_t_proved, .ref t_offsets, .ref t_row, .ref t_open, .int v_t_arrivals, .ref t_places, .ref t_times, .ref t_cars, .ref t_hourCrossings, .ref t_hourCycles, .ref t_hourOffsets]))]) (dk_Qp (some (.long o))) 0 0 (fun _ => False) := by
  refine Met.ofW (cc := b_Mo_rowsOf) (maxL := 5) (ret := (some .long)) (by decide) rfl ?_
  intro p e s m args below meth c s₁ B hml hv
  obtain ⟨rfl, hP, hK, hN⟩ := hv
  have hx := B.exec
  have hb := B.bytes
  have hr := B.returns
  have hts : ∀ w ∈ lw_good, w.before _ s = true := fun w h => atoms_spec (ws := wd y_Mo_rowsOf b_Mo_rowsOf 5 (some .long)) B.pre w (List.mem_cons_of_mem _ h)
  have hown : s.vm.findClass R_Mo = some m.cls := findClass_of_methodNamed B.named
  have hlocks := B.notSynchronized
  have hfix : CallFix p m c b_Mo_rowsOf 5 s _ lw_good R_Mo := ⟨hx, hb, hml, hown, hts⟩
  have hl := lv_entry ([.ref t, .int x1]) (n := 5) (Nat.le_of_ble_eq_true rfl)
  rw [lg_entry_eq]
  generalize (lg_sl ([.ref t, .int x1]) ++ List.replicate (5 - (lg_sl ([.ref t, .int x1])).length) Slot.unset).toArray = ls at hl ⊢
  have hl : lv_has ls 5 [(0, .ref t), (1, .int x1)] := hl
  change W p l e m_Mo_rowsOf s m _ below meth c s.heap [] 0 0 _ _
  have L5 : ∀ (k : Nat) (z1 : Int32) (z2 : Int64) (z4 : Int32) (q : Int64), p_Mo_rowsOf_5 n k v_t_crossings v_t_step z1 z2 z4 = some q → ∀ ls : Array Slot, lv_has ls 5 [(0, .ref t), (1, .int z1), (2, .long z2), (4, .int z4)] → (∀ (ls1 : Array Slot), lv_has ls1 5 [(2, .long q)] → W p l e m_Mo_rowsOf s m ([.ref t, .int x1] : List Value).toArray below meth c s.heap [] 0 0 (MQ below (dk_Qp (some (.long o))) ([.ref t, .int x1] : List Value).toArray s 0 0 (fun _ => False)) (F0 m 37 ls1 [])) → W p l e m_Mo_rowsOf s m ([.ref t, .int x1] : List Value).toArray below meth c s.heap [] 0 0 (MQ below (dk_Qp (some (.long o))) ([.ref t, .int x1] : List Value).toArray s 0 0 (fun _ => False)) (F0 m 5 ls []) := by
    intro k
    induction k with
    | zero =>
      intro z1 z2 z4 q hF ls hl hk
      exact absurd hF (by simp [p_Mo_rowsOf_5])
    | succ k jh =>
      intro z1 z2 z4 q hF ls hl hk
      have hF := (q_Mo_rowsOf_5 n k v_t_crossings v_t_step z1 z2 z4).symm.trans hF
      refine lv_iload hx hb d_Mo_rowsOf_5 (lv_at hl 3 rfl) ?_
      refine lv_aload_n hx hb d_Mo_rowsOf_7 rfl (lv_at hl 0 rfl) ?_
      refine va_get (D := G) (ci := 8) (v := .int v_t_crossings) (C := R_Mo) (T := F_Mo) (N := 24) hx hb hts i_Mo hown hK hP 0 rfl rfl 0 (by decide) (hts _ lk_415) (fun _ h9 => h9) rfl d_Mo_rowsOf_8 ?_
      refine lv_icmp_ge (tgt := 37) hx hb d_Mo_rowsOf_11 (by decide) (fun c11_1 => ?_) (fun c11_1 => ?_)
      · have hF := dk_t c11_1 hF
        obtain rfl := Option.some.inj hF
        exact hk ls (lv_sub hl [2] rfl)
      · have hF := dk_f c11_1 hF
        refine lv_lload_n hx hb d_Mo_rowsOf_14 rfl (lv_at hl 2 rfl) ?_
        refine lv_iload_n hx hb d_Mo_rowsOf_15 rfl (lv_at hl 1 rfl) ?_
        refine lv_aload_n hx hb d_Mo_rowsOf_16 rfl (lv_at hl 0 rfl) ?_
        refine va_get (D := G) (ci := 8) (v := .int v_t_step) (C := R_Mo) (T := F_Mo) (N := 24) hx hb hts i_Mo hown hK hP 0 rfl rfl 9 (by decide) (hts _ lk_441) (fun _ h9 => h9) rfl d_Mo_rowsOf_17 ?_
        refine lv_iadd hx hb d_Mo_rowsOf_20 ?_
        refine lv_iconst (v := (1 : Int32)) hx hb d_Mo_rowsOf_21 (by decide) ?_
        refine lv_isub hx hb d_Mo_rowsOf_22 ?_
        refine lv_aload_n hx hb d_Mo_rowsOf_23 rfl (lv_at hl 0 rfl) ?_
        refine va_get (D := G) (ci := 8) (v := .int v_t_step) (C := R_Mo) (T := F_Mo) (N := 24) hx hb hts i_Mo hown hK hP 0 rfl rfl 9 (by decide) (hts _ lk_441) (fun _ h9 => h9) rfl d_Mo_rowsOf_24 ?_
        obtain ⟨hz, hF⟩ := dk_z hF
        refine lv_idiv hx hb d_Mo_rowsOf_27 hz ?_
        refine lv_i2l hx hb d_Mo_rowsOf_28 rfl ?_
        refine lv_lmul hx hb d_Mo_rowsOf_29 ?_
        refine lv_lstore_n (lv' := [(2, .long (z2 * ((((z1 + v_t_step) - (1 : Int32)) / v_t_step).toInt64))), (0, .ref t), (1, .int z1), (4, .int z4)]) hx hb d_Mo_rowsOf_30 rfl hl (by decide) rfl (fun ls hl => ?_)
        refine lv_iinc (v := z4 + (1 : Int32)) (lv' := [(4, .int (z4 + (1 : Int32))), (2, .long (z2 * ((((z1 + v_t_step) - (1 : Int32)) / v_t_step).toInt64))), (0, .ref t), (1, .int z1)]) hx hb d_Mo_rowsOf_31 hl (k := 3) rfl rfl (by decide) rfl (fun ls hl => ?_)
        refine lv_goto (tgt := 5) hx hb d_Mo_rowsOf_34 (by decide) ?_
        exact jh z1 (z2 * ((((z1 + v_t_step) - (1 : Int32)) / v_t_step).toInt64)) (z4 + (1 : Int32)) q hF ls (lv_sub hl [2, 3, 1, 0] rfl) hk
  unfold p_Mo_rowsOf at hF
  refine lv_lconst (v := (1 : Int64)) hx hb d_Mo_rowsOf_0 (by decide) ?_
  refine lv_lstore_n (lv' := [(2, .long (1 : Int64)), (0, .ref t), (1, .int x1)]) hx hb d_Mo_rowsOf_1 rfl hl (by decide) rfl (fun ls hl => ?_)
  refine lv_iconst (v := (1 : Int32)) hx hb d_Mo_rowsOf_2 (by decide) ?_
  refine lv_istore (lv' := [(4, .int (1 : Int32)), (2, .long (1 : Int64)), (0, .ref t), (1, .int x1)]) hx hb d_Mo_rowsOf_3 hl (by decide) rfl (fun ls hl => ?_)
  obtain ⟨q5_2, hC, hF⟩ := dk_b hF
  refine L5 n x1 (1 : Int64) (1 : Int32) q5_2 hC ls (lv_sub hl [2, 3, 1, 0] rfl) (fun ls hl => ?_)
  refine lv_lload_n hx hb d_Mo_rowsOf_37 rfl (lv_at hl 0 rfl) ?_
  obtain rfl := Option.some.inj hF
  exact W.lret (v := q5_2) hx hb hr (fun t ht hW => ⟨rfl, ht⟩) (fun _ h => by cases h) d_Mo_rowsOf_38
def p_Mo_allRows_7 (n : Nat) : Nat → Int32 → Int32 → (Nat → Int32) → Int32 → Int32 → Int64 → Int32 → Option (Int64)
  | 0, _, _, _, _, _, _, _ => none
  | k + 1, v_t_last, v_t_crossings, v_t_leasts, v_t_by, v_t_step, z1, z3 =>
    if v_t_last < z3 then
      some z1
    else
      (p_Mo_mayBe n z3 v_t_crossings v_t_leasts).bind fun r18_2 =>
      if r18_2 = 0 then
        p_Mo_allRows_7 n k v_t_last v_t_crossings v_t_leasts v_t_by v_t_step (z1 + (0 : Int64)) (z3 + v_t_by)
      else
        (p_Mo_rowsOf n z3 v_t_crossings v_t_step).bind fun r26_4 =>
        p_Mo_allRows_7 n k v_t_last v_t_crossings v_t_leasts v_t_by v_t_step (z1 + r26_4) (z3 + v_t_by)
theorem q_Mo_allRows_7 (n k : Nat) (v_t_last : Int32) (v_t_crossings : Int32) (v_t_leasts : Nat → Int32) (v_t_by : Int32) (v_t_step : Int32) (z1 : Int64) (z3 : Int32) : p_Mo_allRows_7 n (k + 1) v_t_last v_t_crossings v_t_leasts v_t_by v_t_step z1 z3 =
    if v_t_last < z3 then
      some z1
    else
      (p_Mo_mayBe n z3 v_t_crossings v_t_leasts).bind fun r18_2 =>
      if r18_2 = 0 then
        p_Mo_allRows_7 n k v_t_last v_t_crossings v_t_leasts v_t_by v_t_step (z1 + (0 : Int64)) (z3 + v_t_by)
      else
        (p_Mo_rowsOf n z3 v_t_crossings v_t_step).bind fun r26_4 =>
        p_Mo_allRows_7 n k v_t_last v_t_crossings v_t_leasts v_t_by v_t_step (z1 + r26_4) (z3 + v_t_by) := rfl
def p_Mo_allRows (n : Nat) (v_t_first : Int32) (v_t_last : Int32) (v_t_crossings : Int32) (v_t_leasts : Nat → Int32) (v_t_by : Int32) (v_t_step : Int32) : Option (Int64) :=
  (p_Mo_allRows_7 n n v_t_last v_t_crossings v_t_leasts v_t_by v_t_step (0 : Int64) v_t_first).bind fun q7_5 =>
  if v_t_crossings = 0 then
    some (0 : Int64)
  else
    some q7_5
abbrev m_Mo_allRows : Room := { frames := 1, cells := 0, slots := 0, locals := 24 }
set_option maxHeartbeats 4000000 in
set_option maxRecDepth 100000 in
theorem c_Mo_allRows (l : Launch) (G : va_G) (K : Nat → ClassId) (n : Nat) (t : Nat) (t_greens : Nat) (t_leasts : Nat) (t_queues : Nat) (t_seconds : Nat) (t_weights : Nat) (t_offsets : Nat) (t_row : Nat) (t_open : Nat) (t_places : Nat) (t_times : Nat) (t_cars : Nat) (t_hourCrossings : Nat) (t_hourCycles : Nat) (t_hourOffsets : Nat) (v_t_crossings : Int32) (v_t_first : Int32) (v_t_last : Int32) (v_t_by : Int32) (v_t_step : Int32) (v_t_has : Int32) (v_t_cycle : Int32) (v_t_aim : Int32) (v_t_proved : Int32) (v_t_arrivals : Int32) (v_t_leasts : Nat → Int32) (o : Int64) (hF : p_Mo_allRows n v_t_first v_t_last v_t_crossings v_t_leasts v_t_by v_t_step = some o) :
    Met l y_Mo_allRows (wd y_Mo_allRows b_Mo_allRows 4 (some .long)) m_Mo_allRows (dk_Pp [.ref t] G K [(t, .inr (8, [.int v_t_crossings, .ref t_greens, .ref t_leasts, .ref t_queues, .ref t_seconds, .ref t_weights, .int v_t_first, .int v_t_last, .int v_t_by, .int v_t_step, .int v_t_has, .int v_t_cycle, .int v_t_aim, .int v_t_proved, .ref t_offsets, .ref t_row, .ref t_open, .int v_t_arrivals, .ref t_places, .ref t_times, .ref t_cars, .ref t_hourCrossings, .ref t_hourCycles, .ref t_hourOffsets])), (t_leasts, .inl (K 0, 5, .inl v_t_leasts))]) (dk_Qp (some (.long o))) 0 0 (fun _ => False) := by
  refine Met.ofW (cc := b_Mo_allRows) (maxL := 4) (ret := (some .long)) (by decide) rfl ?_
  intro p e s m args below meth c s₁ B hml hv
  obtain ⟨rfl, hP, hK, hN⟩ := hv
  have hx := B.exec
  have hb := B.bytes
  have hr := B.returns
  have hts : ∀ w ∈ lw_good, w.before _ s = true := fun w h => atoms_spec (ws := wd y_Mo_allRows b_Mo_allRows 4 (some .long)) B.pre w (List.mem_cons_of_mem _ h)
  have hown : s.vm.findClass R_Mo = some m.cls := findClass_of_methodNamed B.named
  have hlocks := B.notSynchronized
  have hfix : CallFix p m c b_Mo_allRows 4 s _ lw_good R_Mo := ⟨hx, hb, hml, hown, hts⟩
  have hl := lv_entry ([.ref t]) (n := 4) (Nat.le_of_ble_eq_true rfl)
  rw [lg_entry_eq]
  generalize (lg_sl ([.ref t]) ++ List.replicate (4 - (lg_sl ([.ref t])).length) Slot.unset).toArray = ls at hl ⊢
  have hl : lv_has ls 4 [(0, .ref t)] := hl
  change W p l e m_Mo_allRows s m _ below meth c s.heap [] 0 0 _ _
  have L7 : ∀ (k : Nat) (z1 : Int64) (z3 : Int32) (q : Int64), p_Mo_allRows_7 n k v_t_last v_t_crossings v_t_leasts v_t_by v_t_step z1 z3 = some q → ∀ ls : Array Slot, lv_has ls 4 [(0, .ref t), (1, .long z1), (3, .int z3)] → (∀ (ls1 : Array Slot), lv_has ls1 4 [(0, .ref t), (1, .long q)] → W p l e m_Mo_allRows s m ([.ref t] : List Value).toArray below meth c s.heap [] 0 0 (MQ below (dk_Qp (some (.long o))) ([.ref t] : List Value).toArray s 0 0 (fun _ => False)) (F0 m 45 ls1 [])) → W p l e m_Mo_allRows s m ([.ref t] : List Value).toArray below meth c s.heap [] 0 0 (MQ below (dk_Qp (some (.long o))) ([.ref t] : List Value).toArray s 0 0 (fun _ => False)) (F0 m 7 ls []) := by
    intro k
    induction k with
    | zero =>
      intro z1 z3 q hF ls hl hk
      exact absurd hF (by simp [p_Mo_allRows_7])
    | succ k jh =>
      intro z1 z3 q hF ls hl hk
      have hF := (q_Mo_allRows_7 n k v_t_last v_t_crossings v_t_leasts v_t_by v_t_step z1 z3).symm.trans hF
      refine lv_iload_n hx hb d_Mo_allRows_7 rfl (lv_at hl 2 rfl) ?_
      refine lv_aload_n hx hb d_Mo_allRows_8 rfl (lv_at hl 0 rfl) ?_
      refine va_get (D := G) (ci := 8) (v := .int v_t_last) (C := R_Mo) (T := F_Mo) (N := 24) hx hb hts i_Mo hown hK hP 0 rfl rfl 7 (by decide) (hts _ lk_438) (fun _ h9 => h9) rfl d_Mo_allRows_9 ?_
      refine lv_icmp_gt (tgt := 45) hx hb d_Mo_allRows_12 (by decide) (fun c12_1 => ?_) (fun c12_1 => ?_)
      · have hF := dk_t c12_1 hF
        obtain rfl := Option.some.inj hF
        exact hk ls (lv_sub hl [0, 1] rfl)
      · have hF := dk_f c12_1 hF
        refine lv_lload_n hx hb d_Mo_allRows_15 rfl (lv_at hl 1 rfl) ?_
        refine lv_aload_n hx hb d_Mo_allRows_16 rfl (lv_at hl 0 rfl) ?_
        refine lv_iload_n hx hb d_Mo_allRows_17 rfl (lv_at hl 2 rfl) ?_
        obtain ⟨r18_2, hC, hF⟩ := dk_b hF
        refine dk_pure (va_runV (As := [.int z3]) (rest := [.long z1]) hfix (c_Mo_mayBe l G K n t t_greens t_leasts t_queues t_seconds t_weights t_offsets t_row t_open t_places t_times t_cars t_hourCrossings t_hourCycles t_hourOffsets z3 v_t_crossings v_t_first v_t_last v_t_by v_t_step v_t_has v_t_cycle v_t_aim v_t_proved v_t_arrivals v_t_leasts r18_2 hC) (cwV 1 hts (gd_V lk_449 lk_451 lk_452 lk_419 lk_450) rfl rfl rfl (by decide +kernel) ⟨Nat.le_of_ble_eq_true rfl, Nat.le_of_ble_eq_true rfl⟩) (dk_preV hK hN (hP.sub [0, 1] rfl) (va_recv hK hP (ci := 8) (q0 := 0) rfl rfl)) rfl rfl hl.1 rfl (lv_room (Nat.le_of_ble_eq_true rfl)) d_Mo_allRows_18 ⟨Nat.le_of_ble_eq_true rfl, Nat.le_of_ble_eq_true rfl⟩) ?_
        refine lv_if_eq (tgt := 32) hx hb d_Mo_allRows_21 (by decide) (fun c21_3 => ?_) (fun c21_3 => ?_)
        · have hF := dk_t c21_3 hF
          refine lv_lconst (v := (0 : Int64)) hx hb d_Mo_allRows_32 (by decide) ?_
          refine lv_ladd hx hb d_Mo_allRows_33 ?_
          refine lv_lstore_n (lv' := [(1, .long (z1 + (0 : Int64))), (0, .ref t), (3, .int z3)]) hx hb d_Mo_allRows_34 rfl hl (by decide) rfl (fun ls hl => ?_)
          refine lv_iload_n hx hb d_Mo_allRows_35 rfl (lv_at hl 2 rfl) ?_
          refine lv_aload_n hx hb d_Mo_allRows_36 rfl (lv_at hl 1 rfl) ?_
          refine va_get (D := G) (ci := 8) (v := .int v_t_by) (C := R_Mo) (T := F_Mo) (N := 24) hx hb hts i_Mo hown hK hP 0 rfl rfl 8 (by decide) (hts _ lk_439) (fun _ h9 => h9) rfl d_Mo_allRows_37 ?_
          refine lv_iadd hx hb d_Mo_allRows_40 ?_
          refine lv_istore_n (lv' := [(3, .int (z3 + v_t_by)), (1, .long (z1 + (0 : Int64))), (0, .ref t)]) hx hb d_Mo_allRows_41 rfl hl (by decide) rfl (fun ls hl => ?_)
          refine lv_goto (tgt := 7) hx hb d_Mo_allRows_42 (by decide) ?_
          exact jh (z1 + (0 : Int64)) (z3 + v_t_by) q hF ls (lv_sub hl [2, 1, 0] rfl) hk
        · have hF := dk_f c21_3 hF
          refine lv_aload_n hx hb d_Mo_allRows_24 rfl (lv_at hl 0 rfl) ?_
          refine lv_iload_n hx hb d_Mo_allRows_25 rfl (lv_at hl 2 rfl) ?_
          obtain ⟨r26_4, hC, hF⟩ := dk_b hF
          refine dk_pure (va_runV (As := [.int z3]) (rest := [.long z1]) hfix (c_Mo_rowsOf l G K n t t_greens t_leasts t_queues t_seconds t_weights t_offsets t_row t_open t_places t_times t_cars t_hourCrossings t_hourCycles t_hourOffsets z3 v_t_crossings v_t_first v_t_last v_t_by v_t_step v_t_has v_t_cycle v_t_aim v_t_proved v_t_arrivals r26_4 hC) (cwV 1 hts (gd_V lk_453 lk_455 lk_456 lk_419 lk_454) rfl rfl rfl (by decide +kernel) ⟨Nat.le_of_ble_eq_true rfl, Nat.le_of_ble_eq_true rfl⟩) (dk_preV hK hN (hP.sub [0] rfl) (va_recv hK hP (ci := 8) (q0 := 0) rfl rfl)) rfl rfl hl.1 rfl (lv_room (Nat.le_of_ble_eq_true rfl)) d_Mo_allRows_26 ⟨Nat.le_of_ble_eq_true rfl, Nat.le_of_ble_eq_true rfl⟩) ?_
          refine lv_goto (tgt := 33) hx hb d_Mo_allRows_29 (by decide) ?_
          refine lv_ladd hx hb d_Mo_allRows_33 ?_
          refine lv_lstore_n (lv' := [(1, .long (z1 + r26_4)), (0, .ref t), (3, .int z3)]) hx hb d_Mo_allRows_34 rfl hl (by decide) rfl (fun ls hl => ?_)
          refine lv_iload_n hx hb d_Mo_allRows_35 rfl (lv_at hl 2 rfl) ?_
          refine lv_aload_n hx hb d_Mo_allRows_36 rfl (lv_at hl 1 rfl) ?_
          refine va_get (D := G) (ci := 8) (v := .int v_t_by) (C := R_Mo) (T := F_Mo) (N := 24) hx hb hts i_Mo hown hK hP 0 rfl rfl 8 (by decide) (hts _ lk_439) (fun _ h9 => h9) rfl d_Mo_allRows_37 ?_
          refine lv_iadd hx hb d_Mo_allRows_40 ?_
          refine lv_istore_n (lv' := [(3, .int (z3 + v_t_by)), (1, .long (z1 + r26_4)), (0, .ref t)]) hx hb d_Mo_allRows_41 rfl hl (by decide) rfl (fun ls hl => ?_)
          refine lv_goto (tgt := 7) hx hb d_Mo_allRows_42 (by decide) ?_
          exact jh (z1 + r26_4) (z3 + v_t_by) q hF ls (lv_sub hl [2, 1, 0] rfl) hk
  unfold p_Mo_allRows at hF
  refine lv_lconst (v := (0 : Int64)) hx hb d_Mo_allRows_0 (by decide) ?_
  refine lv_lstore_n (lv' := [(1, .long (0 : Int64)), (0, .ref t)]) hx hb d_Mo_allRows_1 rfl hl (by decide) rfl (fun ls hl => ?_)
  refine lv_aload_n hx hb d_Mo_allRows_2 rfl (lv_at hl 1 rfl) ?_
  refine va_get (D := G) (ci := 8) (v := .int v_t_first) (C := R_Mo) (T := F_Mo) (N := 24) hx hb hts i_Mo hown hK hP 0 rfl rfl 6 (by decide) (hts _ lk_437) (fun _ h9 => h9) rfl d_Mo_allRows_3 ?_
  refine lv_istore_n (lv' := [(3, .int v_t_first), (1, .long (0 : Int64)), (0, .ref t)]) hx hb d_Mo_allRows_6 rfl hl (by decide) rfl (fun ls hl => ?_)
  obtain ⟨q7_5, hC, hF⟩ := dk_b hF
  refine L7 n (0 : Int64) v_t_first q7_5 hC ls (lv_sub hl [2, 1, 0] rfl) (fun ls hl => ?_)
  refine lv_aload_n hx hb d_Mo_allRows_45 rfl (lv_at hl 0 rfl) ?_
  refine va_get (D := G) (ci := 8) (v := .int v_t_crossings) (C := R_Mo) (T := F_Mo) (N := 24) hx hb hts i_Mo hown hK hP 0 rfl rfl 0 (by decide) (hts _ lk_415) (fun _ h9 => h9) rfl d_Mo_allRows_46 ?_
  refine lv_if_ne (tgt := 56) hx hb d_Mo_allRows_49 (by decide) (fun c49_6 => ?_) (fun c49_6 => ?_)
  · have hF := dk_f c49_6 hF
    refine lv_lload_n hx hb d_Mo_allRows_56 rfl (lv_at hl 1 rfl) ?_
    obtain rfl := Option.some.inj hF
    exact W.lret (v := q7_5) hx hb hr (fun t ht hW => ⟨rfl, ht⟩) (fun _ h => by cases h) d_Mo_allRows_57
  · have hF := dk_t c49_6 hF
    refine lv_lconst (v := (0 : Int64)) hx hb d_Mo_allRows_52 (by decide) ?_
    refine lv_goto (tgt := 57) hx hb d_Mo_allRows_53 (by decide) ?_
    obtain rfl := Option.some.inj hF
    exact W.lret (v := (0 : Int64)) hx hb hr (fun t ht hW => ⟨rfl, ht⟩) (fun _ h => by cases h) d_Mo_allRows_57
def p_Mo_goesOn_7 (n : Nat) : Nat → Int32 → (Nat → Int32) → (Nat → Int32) → Int32 → Int32 → (Nat → Int32) → (Nat → Int32) → Option (Int32 × (Nat → Int32) × (Nat → Int32))
  | 0, _, _, _, _, _, _, _ => none
  | k + 1, v_t_step, v_t_greens, v_t_queues, z1, z2, v_t_row, v_t_open =>
    if z2 ≤ 0 then
      some (z2, v_t_row, v_t_open)
    else
      if dk_in z2 5 = true then
        if ((v_t_row z2.toNatClampNeg) + v_t_step) < z1 then
          some (z2, v_t_row, v_t_open)
        else
          if dk_in z2 5 = true then
            (p_Mo_lay n z2 (0 : Int32) z1 v_t_greens v_t_queues v_t_open).bind fun r37_3 =>
            p_Mo_goesOn_7 n k v_t_step v_t_greens v_t_queues z1 (z2 + ((-1) : Int32)) (upd v_t_row z2.toNatClampNeg (0 : Int32)) r37_3
          else none
      else none
theorem q_Mo_goesOn_7 (n k : Nat) (v_t_step : Int32) (v_t_greens : Nat → Int32) (v_t_queues : Nat → Int32) (z1 : Int32) (z2 : Int32) (v_t_row : Nat → Int32) (v_t_open : Nat → Int32) : p_Mo_goesOn_7 n (k + 1) v_t_step v_t_greens v_t_queues z1 z2 v_t_row v_t_open =
    if z2 ≤ 0 then
      some (z2, v_t_row, v_t_open)
    else
      if dk_in z2 5 = true then
        if ((v_t_row z2.toNatClampNeg) + v_t_step) < z1 then
          some (z2, v_t_row, v_t_open)
        else
          if dk_in z2 5 = true then
            (p_Mo_lay n z2 (0 : Int32) z1 v_t_greens v_t_queues v_t_open).bind fun r37_3 =>
            p_Mo_goesOn_7 n k v_t_step v_t_greens v_t_queues z1 (z2 + ((-1) : Int32)) (upd v_t_row z2.toNatClampNeg (0 : Int32)) r37_3
          else none
      else none := rfl
def p_Mo_goesOn (n : Nat) (x1 : Int32) (v_t_crossings : Int32) (v_t_step : Int32) (v_t_greens : Nat → Int32) (v_t_queues : Nat → Int32) (v_t_row : Nat → Int32) (v_t_open : Nat → Int32) : Option (Int32 × (Nat → Int32) × (Nat → Int32)) :=
  (p_Mo_goesOn_7 n n v_t_step v_t_greens v_t_queues x1 (v_t_crossings - (1 : Int32)) v_t_row v_t_open).bind fun q7_4 =>
  if q7_4.1 = 0 then
    some ((0 : Int32), q7_4.2.1, q7_4.2.2)
  else
    if dk_in q7_4.1 5 = true then
      if dk_in q7_4.1 5 = true then
        if dk_in q7_4.1 5 = true then
          (p_Mo_lay n q7_4.1 ((upd q7_4.2.1 q7_4.1.toNatClampNeg ((q7_4.2.1 q7_4.1.toNatClampNeg) + v_t_step)) q7_4.1.toNatClampNeg) x1 v_t_greens v_t_queues q7_4.2.2).bind fun r74_6 =>
          some ((1 : Int32), upd q7_4.2.1 q7_4.1.toNatClampNeg ((q7_4.2.1 q7_4.1.toNatClampNeg) + v_t_step), r74_6)
        else none
      else none
    else none
abbrev m_Mo_goesOn : Room := { frames := 1, cells := 0, slots := 0, locals := 25 }
set_option maxHeartbeats 4000000 in
set_option maxRecDepth 100000 in
theorem c_Mo_goesOn (l : Launch) (G : va_G) (K : Nat → ClassId) (n : Nat) (sz : Nat) (t : Nat) (t_greens : Nat) (t_leasts : Nat) (t_queues : Nat) (t_seconds : Nat) (t_weights : Nat) (t_offsets : Nat) (t_row : Nat) (t_open : Nat) (t_places : Nat) (t_times : Nat) (t_cars : Nat) (t_hourCrossings : Nat) (t_hourCycles : Nat) (t_hourOffsets : Nat) (x1 : Int32) (v_t_crossings : Int32) (v_t_first : Int32) (v_t_last : Int32) (v_t_by : Int32) (v_t_step : Int32) (v_t_has : Int32) (v_t_cycle : Int32) (v_t_aim : Int32) (v_t_proved : Int32) (v_t_arrivals : Int32) (v_t_greens : Nat → Int32) (v_t_queues : Nat → Int32) (v_t_row : Nat → Int32) (v_t_open : Nat → Int32) (o : Int32 × (Nat → Int32) × (Nat → Int32)) (hF : p_Mo_goesOn n x1 v_t_crossings v_t_step v_t_greens v_t_queues v_t_row v_t_open = some o) :
    Met l y_Mo_goesOn (wd y_Mo_goesOn b_Mo_goesOn 3 (some .boolean)) m_Mo_goesOn (dk_Pm [.ref t, .int x1] G K [(t, .inr (8, [.int v_t_crossings, .ref t_greens, .ref t_leasts, .ref t_queues, .ref t_seconds, .ref t_weights, .int v_t_first, .int v_t_last, .int v_t_by, .int v_t_step, .int v_t_has, .int v_t_cycle, .int v_t_aim, .int v_t_proved, .ref t_offsets, .ref t_row, .ref t_open, .int v_t_arrivals, .ref t_places, .ref t_times, .ref t_cars, .ref t_hourCrossings, .ref t_hourCycles, .ref t_hourOffsets])), (t_greens, .inl (K 0, 5, .inl v_t_greens)), (t_queues, .inl (K 0, 5, .inl v_t_queues)), (t_row, .inl (K 0, 5, .inl v_t_row)), (t_open, .inl (K 3, 600, .inl v_t_open))] sz) (dk_Qm (some (.int o.1)) G (fun _ : Unit => [(t, .inr (8, [.int v_t_crossings, .ref t_greens, .ref t_leasts, .ref t_queues, .ref t_seconds, .ref t_weights, .int v_t_first, .int v_t_last, .int v_t_by, .int v_t_step, .int v_t_has, .int v_t_cycle, .int v_t_aim, .int v_t_proved, .ref t_offsets, .ref t_row, .ref t_open, .int v_t_arrivals, .ref t_places, .ref t_times, .ref t_cars, .ref t_hourCrossings, .ref t_hourCycles, .ref t_hourOffsets])), (t_greens, .inl (K 0, 5, .inl v_t_greens)), (t_queues, .inl (K 0, 5, .inl v_t_queues)), (t_row, .inl (K 0, 5, .inl o.2.1)), (t_open, .inl (K 3, 600, .inl o.2.2))]) (va_A [(t, .inr (8, [.int v_t_crossings, .ref t_greens, .ref t_leasts, .ref t_queues, .ref t_seconds, .ref t_weights, .int v_t_first, .int v_t_last, .int v_t_by, .int v_t_step, .int v_t_has, .int v_t_cycle, .int v_t_aim, .int v_t_proved, .ref t_offsets, .ref t_row, .ref t_open, .int v_t_arrivals, .ref t_places, .ref t_times, .ref t_cars, .ref t_hourCrossings, .ref t_hourCycles, .ref t_hourOffsets])), (t_greens, .inl (K 0, 5, .inl v_t_greens)), (t_queues, .inl (K 0, 5, .inl v_t_queues)), (t_row, .inl (K 0, 5, .inl v_t_row)), (t_open, .inl (K 3, 600, .inl v_t_open))] sz)) 0 0 (va_A [(t, .inr (8, [.int v_t_crossings, .ref t_greens, .ref t_leasts, .ref t_queues, .ref t_seconds, .ref t_weights, .int v_t_first, .int v_t_last, .int v_t_by, .int v_t_step, .int v_t_has, .int v_t_cycle, .int v_t_aim, .int v_t_proved, .ref t_offsets, .ref t_row, .ref t_open, .int v_t_arrivals, .ref t_places, .ref t_times, .ref t_cars, .ref t_hourCrossings, .ref t_hourCycles, .ref t_hourOffsets])), (t_greens, .inl (K 0, 5, .inl v_t_greens)), (t_queues, .inl (K 0, 5, .inl v_t_queues)), (t_row, .inl (K 0, 5, .inl v_t_row)), (t_open, .inl (K 3, 600, .inl v_t_open))] sz) := by
  refine Met.ofW (cc := b_Mo_goesOn) (maxL := 3) (ret := (some .boolean)) (by decide) rfl ?_
  intro p e s m args below meth c s₁ B hml hv
  obtain ⟨rfl, hsz, hP, hK, hN, hD0⟩ := hv
  have hx := B.exec
  have hb := B.bytes
  have hr := B.returns
  have hts : ∀ w ∈ lw_good, w.before _ s = true := fun w h => atoms_spec (ws := wd y_Mo_goesOn b_Mo_goesOn 3 (some .boolean)) B.pre w (List.mem_cons_of_mem _ h)
  have hown : s.vm.findClass R_Mo = some m.cls := findClass_of_methodNamed B.named
  have hlocks := B.notSynchronized
  have hfix : CallFix p m c b_Mo_goesOn 3 s _ lw_good R_Mo := ⟨hx, hb, hml, hown, hts⟩
  subst hsz
  have hD := hD0.self (sz := s.heap.size)
  generalize hAe : va_A [(t, .inr (8, [.int v_t_crossings, .ref t_greens, .ref t_leasts, .ref t_queues, .ref t_seconds, .ref t_weights, .int v_t_first, .int v_t_last, .int v_t_by, .int v_t_step, .int v_t_has, .int v_t_cycle, .int v_t_aim, .int v_t_proved, .ref t_offsets, .ref t_row, .ref t_open, .int v_t_arrivals, .ref t_places, .ref t_times, .ref t_cars, .ref t_hourCrossings, .ref t_hourCycles, .ref t_hourOffsets])), (t_greens, .inl (K 0, 5, .inl v_t_greens)), (t_queues, .inl (K 0, 5, .inl v_t_queues)), (t_row, .inl (K 0, 5, .inl v_t_row)), (t_open, .inl (K 3, 600, .inl v_t_open))] s.heap.size = A at hD ⊢
  have hA : ∀ q : Nat, s.heap.size ≤ q → A q := fun q h => by rw [← hAe]; exact Or.inr h
  have hS : va_S A s.heap s.heap [] := va_S.rf
  have hl := lv_entry ([.ref t, .int x1]) (n := 3) (Nat.le_of_ble_eq_true rfl)
  rw [lg_entry_eq]
  generalize (lg_sl ([.ref t, .int x1]) ++ List.replicate (3 - (lg_sl ([.ref t, .int x1])).length) Slot.unset).toArray = ls at hl ⊢
  have hl : lv_has ls 3 [(0, .ref t), (1, .int x1)] := hl
  change W p l e m_Mo_goesOn s m _ below meth c s.heap [] 0 0 _ _
  have L7 : ∀ (k : Nat) (z1 : Int32) (z2 : Int32) (v_t_row : Nat → Int32) (v_t_open : Nat → Int32) (H : Heap) (locs : List Loc) (q : Int32 × (Nat → Int32) × (Nat → Int32)), p_Mo_goesOn_7 n k v_t_step v_t_greens v_t_queues z1 z2 v_t_row v_t_open = some q → va_P G classes [(t, .inr (8, [.int v_t_crossings, .ref t_greens, .ref t_leasts, .ref t_queues, .ref t_seconds, .ref t_weights, .int v_t_first, .int v_t_last, .int v_t_by, .int v_t_step, .int v_t_has, .int v_t_cycle, .int v_t_aim, .int v_t_proved, .ref t_offsets, .ref t_row, .ref t_open, .int v_t_arrivals, .ref t_places, .ref t_times, .ref t_cars, .ref t_hourCrossings, .ref t_hourCycles, .ref t_hourOffsets])), (t_greens, .inl (K 0, 5, .inl v_t_greens)), (t_queues, .inl (K 0, 5, .inl v_t_queues)), (t_row, .inl (K 0, 5, .inl v_t_row)), (t_open, .inl (K 3, 600, .inl v_t_open))] H → va_D A [(t, .inr (8, [.int v_t_crossings, .ref t_greens, .ref t_leasts, .ref t_queues, .ref t_seconds, .ref t_weights, .int v_t_first, .int v_t_last, .int v_t_by, .int v_t_step, .int v_t_has, .int v_t_cycle, .int v_t_aim, .int v_t_proved, .ref t_offsets, .ref t_row, .ref t_open, .int v_t_arrivals, .ref t_places, .ref t_times, .ref t_cars, .ref t_hourCrossings, .ref t_hourCycles, .ref t_hourOffsets])), (t_greens, .inl (K 0, 5, .inl v_t_greens)), (t_queues, .inl (K 0, 5, .inl v_t_queues)), (t_row, .inl (K 0, 5, .inl v_t_row)), (t_open, .inl (K 3, 600, .inl v_t_open))] → va_S A s.heap H locs → ∀ ls : Array Slot, lv_has ls 3 [(0, .ref t), (1, .int z1), (2, .int z2)] → (∀ (H1 : Heap) (locs1 : List Loc) (ls1 : Array Slot), va_P G classes [(t, .inr (8, [.int v_t_crossings, .ref t_greens, .ref t_leasts, .ref t_queues, .ref t_seconds, .ref t_weights, .int v_t_first, .int v_t_last, .int v_t_by, .int v_t_step, .int v_t_has, .int v_t_cycle, .int v_t_aim, .int v_t_proved, .ref t_offsets, .ref t_row, .ref t_open, .int v_t_arrivals, .ref t_places, .ref t_times, .ref t_cars, .ref t_hourCrossings, .ref t_hourCycles, .ref t_hourOffsets])), (t_greens, .inl (K 0, 5, .inl v_t_greens)), (t_queues, .inl (K 0, 5, .inl v_t_queues)), (t_row, .inl (K 0, 5, .inl q.2.1)), (t_open, .inl (K 3, 600, .inl q.2.2))] H1 → va_D A [(t, .inr (8, [.int v_t_crossings, .ref t_greens, .ref t_leasts, .ref t_queues, .ref t_seconds, .ref t_weights, .int v_t_first, .int v_t_last, .int v_t_by, .int v_t_step, .int v_t_has, .int v_t_cycle, .int v_t_aim, .int v_t_proved, .ref t_offsets, .ref t_row, .ref t_open, .int v_t_arrivals, .ref t_places, .ref t_times, .ref t_cars, .ref t_hourCrossings, .ref t_hourCycles, .ref t_hourOffsets])), (t_greens, .inl (K 0, 5, .inl v_t_greens)), (t_queues, .inl (K 0, 5, .inl v_t_queues)), (t_row, .inl (K 0, 5, .inl q.2.1)), (t_open, .inl (K 3, 600, .inl q.2.2))] → va_S A s.heap H1 locs1 → lv_has ls1 3 [(0, .ref t), (1, .int z1), (2, .int q.1)] → W p l e m_Mo_goesOn s m ([.ref t, .int x1] : List Value).toArray below meth c H1 locs1 0 0 (MQ below (dk_Qm (some (.int o.1)) G (fun _ : Unit => [(t, .inr (8, [.int v_t_crossings, .ref t_greens, .ref t_leasts, .ref t_queues, .ref t_seconds, .ref t_weights, .int v_t_first, .int v_t_last, .int v_t_by, .int v_t_step, .int v_t_has, .int v_t_cycle, .int v_t_aim, .int v_t_proved, .ref t_offsets, .ref t_row, .ref t_open, .int v_t_arrivals, .ref t_places, .ref t_times, .ref t_cars, .ref t_hourCrossings, .ref t_hourCycles, .ref t_hourOffsets])), (t_greens, .inl (K 0, 5, .inl v_t_greens)), (t_queues, .inl (K 0, 5, .inl v_t_queues)), (t_row, .inl (K 0, 5, .inl o.2.1)), (t_open, .inl (K 3, 600, .inl o.2.2))]) A) ([.ref t, .int x1] : List Value).toArray s 0 0 A) (F0 m 46 ls1 [])) → W p l e m_Mo_goesOn s m ([.ref t, .int x1] : List Value).toArray below meth c H locs 0 0 (MQ below (dk_Qm (some (.int o.1)) G (fun _ : Unit => [(t, .inr (8, [.int v_t_crossings, .ref t_greens, .ref t_leasts, .ref t_queues, .ref t_seconds, .ref t_weights, .int v_t_first, .int v_t_last, .int v_t_by, .int v_t_step, .int v_t_has, .int v_t_cycle, .int v_t_aim, .int v_t_proved, .ref t_offsets, .ref t_row, .ref t_open, .int v_t_arrivals, .ref t_places, .ref t_times, .ref t_cars, .ref t_hourCrossings, .ref t_hourCycles, .ref t_hourOffsets])), (t_greens, .inl (K 0, 5, .inl v_t_greens)), (t_queues, .inl (K 0, 5, .inl v_t_queues)), (t_row, .inl (K 0, 5, .inl o.2.1)), (t_open, .inl (K 3, 600, .inl o.2.2))]) A) ([.ref t, .int x1] : List Value).toArray s 0 0 A) (F0 m 7 ls []) := by
    intro k
    induction k with
    | zero =>
      intro z1 z2 v_t_row v_t_open H locs q hF hP hD hS ls hl hk
      exact absurd hF (by simp [p_Mo_goesOn_7])
    | succ k jh =>
      intro z1 z2 v_t_row v_t_open H locs q hF hP hD hS ls hl hk
      have hF := (q_Mo_goesOn_7 n k v_t_step v_t_greens v_t_queues z1 z2 v_t_row v_t_open).symm.trans hF
      refine lv_iload_n hx hb d_Mo_goesOn_7 rfl (lv_at hl 2 rfl) ?_
      refine lv_if_le (tgt := 46) hx hb d_Mo_goesOn_8 (by decide) (fun c8_1 => ?_) (fun c8_1 => ?_)
      · have hF := dk_t c8_1 hF
        obtain rfl := Option.some.inj hF
        exact hk H locs ls hP hD hS (lv_sub hl [0, 1, 2] rfl)
      · have hF := dk_f c8_1 hF
        refine lv_aload_n hx hb d_Mo_goesOn_11 rfl (lv_at hl 0 rfl) ?_
        refine va_get (D := G) (ci := 8) (v := .ref t_row) (C := R_Mo) (T := F_Mo) (N := 24) hx hb hts i_Mo hown hK hP 0 rfl rfl 15 (by decide) (hts _ lk_457) (fun _ h9 => h9) rfl d_Mo_goesOn_12 ?_
        refine lv_iload_n hx hb d_Mo_goesOn_15 rfl (lv_at hl 2 rfl) ?_
        obtain ⟨hi, hF⟩ := dk_a hF
        refine va_iald (D := G) hx hb hK hP 3 0 rfl rfl (dk_vp hi) d_Mo_goesOn_16 ?_
        refine lv_aload_n hx hb d_Mo_goesOn_17 rfl (lv_at hl 0 rfl) ?_
        refine va_get (D := G) (ci := 8) (v := .int v_t_step) (C := R_Mo) (T := F_Mo) (N := 24) hx hb hts i_Mo hown hK hP 0 rfl rfl 9 (by decide) (hts _ lk_441) (fun _ h9 => h9) rfl d_Mo_goesOn_18 ?_
        refine lv_iadd hx hb d_Mo_goesOn_21 ?_
        refine lv_iload_n hx hb d_Mo_goesOn_22 rfl (lv_at hl 1 rfl) ?_
        refine lv_icmp_lt (tgt := 46) hx hb d_Mo_goesOn_23 (by decide) (fun c23_2 => ?_) (fun c23_2 => ?_)
        · have hF := dk_t c23_2 hF
          obtain rfl := Option.some.inj hF
          exact hk H locs ls hP hD hS (lv_sub hl [0, 1, 2] rfl)
        · have hF := dk_f c23_2 hF
          refine lv_aload_n hx hb d_Mo_goesOn_26 rfl (lv_at hl 0 rfl) ?_
          refine va_get (D := G) (ci := 8) (v := .ref t_row) (C := R_Mo) (T := F_Mo) (N := 24) hx hb hts i_Mo hown hK hP 0 rfl rfl 15 (by decide) (hts _ lk_457) (fun _ h9 => h9) rfl d_Mo_goesOn_27 ?_
          refine lv_iload_n hx hb d_Mo_goesOn_30 rfl (lv_at hl 2 rfl) ?_
          refine lv_iconst (v := (0 : Int32)) hx hb d_Mo_goesOn_31 (by decide) ?_
          obtain ⟨hi, hF⟩ := dk_a hF
          refine va_iast (D := G) hx hb hK hP hD hS 3 0 rfl rfl (dk_vp hi) d_Mo_goesOn_32 (fun H locs hP hD hS => ?_)
          have hP : va_P G classes [(t, .inr (8, [.int v_t_crossings, .ref t_greens, .ref t_leasts, .ref t_queues, .ref t_seconds, .ref t_weights, .int v_t_first, .int v_t_last, .int v_t_by, .int v_t_step, .int v_t_has, .int v_t_cycle, .int v_t_aim, .int v_t_proved, .ref t_offsets, .ref t_row, .ref t_open, .int v_t_arrivals, .ref t_places, .ref t_times, .ref t_cars, .ref t_hourCrossings, .ref t_hourCycles, .ref t_hourOffsets])), (t_greens, .inl (K 0, 5, .inl v_t_greens)), (t_queues, .inl (K 0, 5, .inl v_t_queues)), (t_row, .inl (K 0, 5, .inl (upd v_t_row z2.toNatClampNeg (0 : Int32)))), (t_open, .inl (K 3, 600, .inl v_t_open))] H := hP
          have hD : va_D A [(t, .inr (8, [.int v_t_crossings, .ref t_greens, .ref t_leasts, .ref t_queues, .ref t_seconds, .ref t_weights, .int v_t_first, .int v_t_last, .int v_t_by, .int v_t_step, .int v_t_has, .int v_t_cycle, .int v_t_aim, .int v_t_proved, .ref t_offsets, .ref t_row, .ref t_open, .int v_t_arrivals, .ref t_places, .ref t_times, .ref t_cars, .ref t_hourCrossings, .ref t_hourCycles, .ref t_hourOffsets])), (t_greens, .inl (K 0, 5, .inl v_t_greens)), (t_queues, .inl (K 0, 5, .inl v_t_queues)), (t_row, .inl (K 0, 5, .inl (upd v_t_row z2.toNatClampNeg (0 : Int32)))), (t_open, .inl (K 3, 600, .inl v_t_open))] := hD
          refine lv_aload_n hx hb d_Mo_goesOn_33 rfl (lv_at hl 0 rfl) ?_
          refine lv_iload_n hx hb d_Mo_goesOn_34 rfl (lv_at hl 2 rfl) ?_
          refine lv_iconst (v := (0 : Int32)) hx hb d_Mo_goesOn_35 (by decide) ?_
          refine lv_iload_n hx hb d_Mo_goesOn_36 rfl (lv_at hl 1 rfl) ?_
          obtain ⟨r37_3, hC, hF⟩ := dk_b hF
          refine dk_mutv (wr := [(t_row, .inl (K 0, 5, .inl (upd v_t_row z2.toNatClampNeg (0 : Int32))))]) (va_runV (As := [.int z2, .int (0 : Int32), .int z1]) (rest := []) hfix (c_Mo_lay l G K n H.size t t_greens t_leasts t_queues t_seconds t_weights t_offsets t_row t_open t_places t_times t_cars t_hourCrossings t_hourCycles t_hourOffsets z2 (0 : Int32) z1 v_t_crossings v_t_first v_t_last v_t_by v_t_step v_t_has v_t_cycle v_t_aim v_t_proved v_t_arrivals v_t_greens v_t_queues v_t_open r37_3 hC) (cwV 3 hts (gd_V lk_445 lk_447 lk_448 lk_419 lk_446) rfl rfl rfl (by decide +kernel) ⟨Nat.le_of_ble_eq_true rfl, Nat.le_of_ble_eq_true rfl⟩) (dk_preVm hK hN (hP.sub [0, 1, 2, 4] rfl) (hD.sub [0, 1, 2, 4] (by decide) rfl) (va_recv hK hP (ci := 8) (q0 := 0) rfl rfl)) rfl rfl hl.1 rfl (lv_room (Nat.le_of_ble_eq_true rfl)) d_Mo_goesOn_37 ⟨Nat.le_of_ble_eq_true rfl, Nat.le_of_ble_eq_true rfl⟩) hS hA hP hD [0, 1, 2, 4] [3] rfl rfl (by decide) (by decide) (fun _ H locs hP hD hS => ?_)
          have hP : va_P G classes [(t, .inr (8, [.int v_t_crossings, .ref t_greens, .ref t_leasts, .ref t_queues, .ref t_seconds, .ref t_weights, .int v_t_first, .int v_t_last, .int v_t_by, .int v_t_step, .int v_t_has, .int v_t_cycle, .int v_t_aim, .int v_t_proved, .ref t_offsets, .ref t_row, .ref t_open, .int v_t_arrivals, .ref t_places, .ref t_times, .ref t_cars, .ref t_hourCrossings, .ref t_hourCycles, .ref t_hourOffsets])), (t_greens, .inl (K 0, 5, .inl v_t_greens)), (t_queues, .inl (K 0, 5, .inl v_t_queues)), (t_row, .inl (K 0, 5, .inl (upd v_t_row z2.toNatClampNeg (0 : Int32)))), (t_open, .inl (K 3, 600, .inl r37_3))] H := hP.sub [1, 2, 3, 0, 4] rfl
          have hD : va_D A [(t, .inr (8, [.int v_t_crossings, .ref t_greens, .ref t_leasts, .ref t_queues, .ref t_seconds, .ref t_weights, .int v_t_first, .int v_t_last, .int v_t_by, .int v_t_step, .int v_t_has, .int v_t_cycle, .int v_t_aim, .int v_t_proved, .ref t_offsets, .ref t_row, .ref t_open, .int v_t_arrivals, .ref t_places, .ref t_times, .ref t_cars, .ref t_hourCrossings, .ref t_hourCycles, .ref t_hourOffsets])), (t_greens, .inl (K 0, 5, .inl v_t_greens)), (t_queues, .inl (K 0, 5, .inl v_t_queues)), (t_row, .inl (K 0, 5, .inl (upd v_t_row z2.toNatClampNeg (0 : Int32)))), (t_open, .inl (K 3, 600, .inl r37_3))] := hD.sub [1, 2, 3, 0, 4] (by decide) rfl
          refine lv_iinc (v := z2 + ((-1) : Int32)) (lv' := [(2, .int (z2 + ((-1) : Int32))), (0, .ref t), (1, .int z1)]) hx hb d_Mo_goesOn_40 hl (k := 2) rfl rfl (by decide) rfl (fun ls hl => ?_)
          refine lv_goto (tgt := 7) hx hb d_Mo_goesOn_43 (by decide) ?_
          exact jh z1 (z2 + ((-1) : Int32)) (upd v_t_row z2.toNatClampNeg (0 : Int32)) r37_3 H locs q hF hP hD hS ls (lv_sub hl [1, 2, 0] rfl) hk
  unfold p_Mo_goesOn at hF
  refine lv_aload_n hx hb d_Mo_goesOn_0 rfl (lv_at hl 0 rfl) ?_
  refine va_get (D := G) (ci := 8) (v := .int v_t_crossings) (C := R_Mo) (T := F_Mo) (N := 24) hx hb hts i_Mo hown hK hP 0 rfl rfl 0 (by decide) (hts _ lk_415) (fun _ h9 => h9) rfl d_Mo_goesOn_1 ?_
  refine lv_iconst (v := (1 : Int32)) hx hb d_Mo_goesOn_4 (by decide) ?_
  refine lv_isub hx hb d_Mo_goesOn_5 ?_
  refine lv_istore_n (lv' := [(2, .int (v_t_crossings - (1 : Int32))), (0, .ref t), (1, .int x1)]) hx hb d_Mo_goesOn_6 rfl hl (by decide) rfl (fun ls hl => ?_)
  obtain ⟨q7_4, hC, hF⟩ := dk_b hF
  refine L7 n x1 (v_t_crossings - (1 : Int32)) v_t_row v_t_open s.heap [] q7_4 hC hP hD hS ls (lv_sub hl [1, 2, 0] rfl) (fun H locs ls hP hD hS hl => ?_)
  refine lv_iload_n hx hb d_Mo_goesOn_46 rfl (lv_at hl 2 rfl) ?_
  refine lv_if_ne (tgt := 52) hx hb d_Mo_goesOn_47 (by decide) (fun c47_5 => ?_) (fun c47_5 => ?_)
  · have hF := dk_f c47_5 hF
    refine lv_aload_n hx hb d_Mo_goesOn_52 rfl (lv_at hl 0 rfl) ?_
    refine va_get (D := G) (ci := 8) (v := .ref t_row) (C := R_Mo) (T := F_Mo) (N := 24) hx hb hts i_Mo hown hK hP 0 rfl rfl 15 (by decide) (hts _ lk_457) (fun _ h9 => h9) rfl d_Mo_goesOn_53 ?_
    refine lv_iload_n hx hb d_Mo_goesOn_56 rfl (lv_at hl 2 rfl) ?_
    refine lv_dup2_11 hx hb d_Mo_goesOn_57 rfl rfl ?_
    obtain ⟨hi, hF⟩ := dk_a hF
    refine va_iald (D := G) hx hb hK hP 3 0 rfl rfl (dk_vp hi) d_Mo_goesOn_58 ?_
    refine lv_aload_n hx hb d_Mo_goesOn_59 rfl (lv_at hl 0 rfl) ?_
    refine va_get (D := G) (ci := 8) (v := .int v_t_step) (C := R_Mo) (T := F_Mo) (N := 24) hx hb hts i_Mo hown hK hP 0 rfl rfl 9 (by decide) (hts _ lk_441) (fun _ h9 => h9) rfl d_Mo_goesOn_60 ?_
    refine lv_iadd hx hb d_Mo_goesOn_63 ?_
    obtain ⟨hi, hF⟩ := dk_a hF
    refine va_iast (D := G) hx hb hK hP hD hS 3 0 rfl rfl (dk_vp hi) d_Mo_goesOn_64 (fun H locs hP hD hS => ?_)
    have hP : va_P G classes [(t, .inr (8, [.int v_t_crossings, .ref t_greens, .ref t_leasts, .ref t_queues, .ref t_seconds, .ref t_weights, .int v_t_first, .int v_t_last, .int v_t_by, .int v_t_step, .int v_t_has, .int v_t_cycle, .int v_t_aim, .int v_t_proved, .ref t_offsets, .ref t_row, .ref t_open, .int v_t_arrivals, .ref t_places, .ref t_times, .ref t_cars, .ref t_hourCrossings, .ref t_hourCycles, .ref t_hourOffsets])), (t_greens, .inl (K 0, 5, .inl v_t_greens)), (t_queues, .inl (K 0, 5, .inl v_t_queues)), (t_row, .inl (K 0, 5, .inl (upd q7_4.2.1 q7_4.1.toNatClampNeg ((q7_4.2.1 q7_4.1.toNatClampNeg) + v_t_step)))), (t_open, .inl (K 3, 600, .inl q7_4.2.2))] H := hP
    have hD : va_D A [(t, .inr (8, [.int v_t_crossings, .ref t_greens, .ref t_leasts, .ref t_queues, .ref t_seconds, .ref t_weights, .int v_t_first, .int v_t_last, .int v_t_by, .int v_t_step, .int v_t_has, .int v_t_cycle, .int v_t_aim, .int v_t_proved, .ref t_offsets, .ref t_row, .ref t_open, .int v_t_arrivals, .ref t_places, .ref t_times, .ref t_cars, .ref t_hourCrossings, .ref t_hourCycles, .ref t_hourOffsets])), (t_greens, .inl (K 0, 5, .inl v_t_greens)), (t_queues, .inl (K 0, 5, .inl v_t_queues)), (t_row, .inl (K 0, 5, .inl (upd q7_4.2.1 q7_4.1.toNatClampNeg ((q7_4.2.1 q7_4.1.toNatClampNeg) + v_t_step)))), (t_open, .inl (K 3, 600, .inl q7_4.2.2))] := hD
    refine lv_aload_n hx hb d_Mo_goesOn_65 rfl (lv_at hl 0 rfl) ?_
    refine lv_iload_n hx hb d_Mo_goesOn_66 rfl (lv_at hl 2 rfl) ?_
    refine lv_aload_n hx hb d_Mo_goesOn_67 rfl (lv_at hl 0 rfl) ?_
    refine va_get (D := G) (ci := 8) (v := .ref t_row) (C := R_Mo) (T := F_Mo) (N := 24) hx hb hts i_Mo hown hK hP 0 rfl rfl 15 (by decide) (hts _ lk_457) (fun _ h9 => h9) rfl d_Mo_goesOn_68 ?_
    refine lv_iload_n hx hb d_Mo_goesOn_71 rfl (lv_at hl 2 rfl) ?_
    obtain ⟨hi, hF⟩ := dk_a hF
    refine va_iald (D := G) hx hb hK hP 3 0 rfl rfl (dk_vp hi) d_Mo_goesOn_72 ?_
    refine lv_iload_n hx hb d_Mo_goesOn_73 rfl (lv_at hl 1 rfl) ?_
    obtain ⟨r74_6, hC, hF⟩ := dk_b hF
    refine dk_mutv (wr := [(t_row, .inl (K 0, 5, .inl (upd q7_4.2.1 q7_4.1.toNatClampNeg ((q7_4.2.1 q7_4.1.toNatClampNeg) + v_t_step))))]) (va_runV (As := [.int q7_4.1, .int ((upd q7_4.2.1 q7_4.1.toNatClampNeg ((q7_4.2.1 q7_4.1.toNatClampNeg) + v_t_step)) q7_4.1.toNatClampNeg), .int x1]) (rest := []) hfix (c_Mo_lay l G K n H.size t t_greens t_leasts t_queues t_seconds t_weights t_offsets t_row t_open t_places t_times t_cars t_hourCrossings t_hourCycles t_hourOffsets q7_4.1 ((upd q7_4.2.1 q7_4.1.toNatClampNeg ((q7_4.2.1 q7_4.1.toNatClampNeg) + v_t_step)) q7_4.1.toNatClampNeg) x1 v_t_crossings v_t_first v_t_last v_t_by v_t_step v_t_has v_t_cycle v_t_aim v_t_proved v_t_arrivals v_t_greens v_t_queues q7_4.2.2 r74_6 hC) (cwV 3 hts (gd_V lk_445 lk_447 lk_448 lk_419 lk_446) rfl rfl rfl (by decide +kernel) ⟨Nat.le_of_ble_eq_true rfl, Nat.le_of_ble_eq_true rfl⟩) (dk_preVm hK hN (hP.sub [0, 1, 2, 4] rfl) (hD.sub [0, 1, 2, 4] (by decide) rfl) (va_recv hK hP (ci := 8) (q0 := 0) rfl rfl)) rfl rfl hl.1 rfl (lv_room (Nat.le_of_ble_eq_true rfl)) d_Mo_goesOn_74 ⟨Nat.le_of_ble_eq_true rfl, Nat.le_of_ble_eq_true rfl⟩) hS hA hP hD [0, 1, 2, 4] [3] rfl rfl (by decide) (by decide) (fun _ H locs hP hD hS => ?_)
    have hP : va_P G classes [(t, .inr (8, [.int v_t_crossings, .ref t_greens, .ref t_leasts, .ref t_queues, .ref t_seconds, .ref t_weights, .int v_t_first, .int v_t_last, .int v_t_by, .int v_t_step, .int v_t_has, .int v_t_cycle, .int v_t_aim, .int v_t_proved, .ref t_offsets, .ref t_row, .ref t_open, .int v_t_arrivals, .ref t_places, .ref t_times, .ref t_cars, .ref t_hourCrossings, .ref t_hourCycles, .ref t_hourOffsets])), (t_greens, .inl (K 0, 5, .inl v_t_greens)), (t_queues, .inl (K 0, 5, .inl v_t_queues)), (t_row, .inl (K 0, 5, .inl (upd q7_4.2.1 q7_4.1.toNatClampNeg ((q7_4.2.1 q7_4.1.toNatClampNeg) + v_t_step)))), (t_open, .inl (K 3, 600, .inl r74_6))] H := hP.sub [1, 2, 3, 0, 4] rfl
    have hD : va_D A [(t, .inr (8, [.int v_t_crossings, .ref t_greens, .ref t_leasts, .ref t_queues, .ref t_seconds, .ref t_weights, .int v_t_first, .int v_t_last, .int v_t_by, .int v_t_step, .int v_t_has, .int v_t_cycle, .int v_t_aim, .int v_t_proved, .ref t_offsets, .ref t_row, .ref t_open, .int v_t_arrivals, .ref t_places, .ref t_times, .ref t_cars, .ref t_hourCrossings, .ref t_hourCycles, .ref t_hourOffsets])), (t_greens, .inl (K 0, 5, .inl v_t_greens)), (t_queues, .inl (K 0, 5, .inl v_t_queues)), (t_row, .inl (K 0, 5, .inl (upd q7_4.2.1 q7_4.1.toNatClampNeg ((q7_4.2.1 q7_4.1.toNatClampNeg) + v_t_step)))), (t_open, .inl (K 3, 600, .inl r74_6))] := hD.sub [1, 2, 3, 0, 4] (by decide) rfl
    refine lv_iconst (v := (1 : Int32)) hx hb d_Mo_goesOn_77 (by decide) ?_
    obtain rfl := Option.some.inj hF
    exact W.zret (v := (1 : Int32)) hx hb hr rfl (fun t ht hW => ⟨⟨(), rfl, by rw [ht]; exact hP, hD⟩, hS.F ht⟩) hS.2.2 d_Mo_goesOn_78
  · have hF := dk_t c47_5 hF
    refine lv_iconst (v := (0 : Int32)) hx hb d_Mo_goesOn_50 (by decide) ?_
    obtain rfl := Option.some.inj hF
    exact W.zret (v := (0 : Int32)) hx hb hr rfl (fun t ht hW => ⟨⟨(), rfl, by rw [ht]; exact hP, hD⟩, hS.F ht⟩) hS.2.2 d_Mo_goesOn_51
def p_Mo_worth (n : Nat) (x1 : Int32) (x2 : Int32) (v_t_crossings : Int32) (v_t_open : Nat → Int32) (v_t_seconds : Nat → Int32) (v_t_weights : Nat → Int32) : Option (Int64) :=
  if x2 = 0 then
    (p_Mo_band n (0 : Int32) x1 v_t_crossings v_t_open v_t_seconds).bind fun r7_3 =>
    (p_Mo_weightOf n (0 : Int32) v_t_crossings v_t_weights).bind fun r13_4 =>
    (p_Mo_band n (1 : Int32) x1 v_t_crossings v_t_open v_t_seconds).bind fun r21_5 =>
    (p_Mo_weightOf n (1 : Int32) v_t_crossings v_t_weights).bind fun r27_6 =>
    some ((r7_3.toInt64 * r13_4.toInt64) + (r21_5.toInt64 * r27_6.toInt64))
  else
    (p_Mo_stopsOf n x1 v_t_crossings v_t_open v_t_seconds v_t_weights).bind fun r38_2 =>
    some r38_2.toInt64
abbrev m_Mo_worth : Room := { frames := 1, cells := 0, slots := 0, locals := 28 }
set_option maxHeartbeats 4000000 in
set_option maxRecDepth 100000 in
theorem c_Mo_worth (l : Launch) (G : va_G) (K : Nat → ClassId) (n : Nat) (t : Nat) (t_greens : Nat) (t_leasts : Nat) (t_queues : Nat) (t_seconds : Nat) (t_weights : Nat) (t_offsets : Nat) (t_row : Nat) (t_open : Nat) (t_places : Nat) (t_times : Nat) (t_cars : Nat) (t_hourCrossings : Nat) (t_hourCycles : Nat) (t_hourOffsets : Nat) (x1 : Int32) (x2 : Int32) (v_t_crossings : Int32) (v_t_first : Int32) (v_t_last : Int32) (v_t_by : Int32) (v_t_step : Int32) (v_t_has : Int32) (v_t_cycle : Int32) (v_t_aim : Int32) (v_t_proved : Int32) (v_t_arrivals : Int32) (v_t_seconds : Nat → Int32) (v_t_weights : Nat → Int32) (v_t_open : Nat → Int32) (o : Int64) (hF : p_Mo_worth n x1 x2 v_t_crossings v_t_open v_t_seconds v_t_weights = some o) :
    Met l y_Mo_worth (wd y_Mo_worth b_Mo_worth 3 (some .long)) m_Mo_worth (dk_Pp [.ref t, .int x1, .int x2] G K [(t, .inr (8, [.int v_t_crossings, .ref t_greens, .ref t_leasts, .ref t_queues, .ref t_seconds, .ref t_weights, .int v_t_first, .int v_t_last, .int v_t_by, .int v_t_step, .int v_t_has, .int v_t_cycle, .int v_t_aim, .int v_t_proved, .ref t_offsets, .ref t_row, .ref t_open, .int v_t_arrivals, .ref t_places, .ref t_times, .ref t_cars, .ref t_hourCrossings, .ref t_hourCycles, .ref t_hourOffsets])), (t_seconds, .inl (K 0, 10, .inl v_t_seconds)), (t_weights, .inl (K 0, 10, .inl v_t_weights)), (t_open, .inl (K 3, 600, .inl v_t_open))]) (dk_Qp (some (.long o))) 0 0 (fun _ => False) := by
  refine Met.ofW (cc := b_Mo_worth) (maxL := 3) (ret := (some .long)) (by decide) rfl ?_
  intro p e s m args below meth c s₁ B hml hv
  obtain ⟨rfl, hP, hK, hN⟩ := hv
  have hx := B.exec
  have hb := B.bytes
  have hr := B.returns
  have hts : ∀ w ∈ lw_good, w.before _ s = true := fun w h => atoms_spec (ws := wd y_Mo_worth b_Mo_worth 3 (some .long)) B.pre w (List.mem_cons_of_mem _ h)
  have hown : s.vm.findClass R_Mo = some m.cls := findClass_of_methodNamed B.named
  have hlocks := B.notSynchronized
  have hfix : CallFix p m c b_Mo_worth 3 s _ lw_good R_Mo := ⟨hx, hb, hml, hown, hts⟩
  have hl := lv_entry ([.ref t, .int x1, .int x2]) (n := 3) (Nat.le_of_ble_eq_true rfl)
  rw [lg_entry_eq]
  generalize (lg_sl ([.ref t, .int x1, .int x2]) ++ List.replicate (3 - (lg_sl ([.ref t, .int x1, .int x2])).length) Slot.unset).toArray = ls at hl ⊢
  have hl : lv_has ls 3 [(0, .ref t), (1, .int x1), (2, .int x2)] := hl
  change W p l e m_Mo_worth s m _ below meth c s.heap [] 0 0 _ _
  unfold p_Mo_worth at hF
  refine lv_iload_n hx hb d_Mo_worth_0 rfl (lv_at hl 2 rfl) ?_
  refine lv_if_ne (tgt := 36) hx hb d_Mo_worth_1 (by decide) (fun c1_1 => ?_) (fun c1_1 => ?_)
  · have hF := dk_f c1_1 hF
    refine lv_aload_n hx hb d_Mo_worth_36 rfl (lv_at hl 0 rfl) ?_
    refine lv_iload_n hx hb d_Mo_worth_37 rfl (lv_at hl 1 rfl) ?_
    obtain ⟨r38_2, hC, hF⟩ := dk_b hF
    refine dk_pure (va_runV (As := [.int x1]) (rest := []) hfix (c_Mo_stopsOf l G K n t t_greens t_leasts t_queues t_seconds t_weights t_offsets t_row t_open t_places t_times t_cars t_hourCrossings t_hourCycles t_hourOffsets x1 v_t_crossings v_t_first v_t_last v_t_by v_t_step v_t_has v_t_cycle v_t_aim v_t_proved v_t_arrivals v_t_seconds v_t_weights v_t_open r38_2 hC) (cwV 1 hts (gd_V lk_458 lk_460 lk_461 lk_419 lk_459) rfl rfl rfl (by decide +kernel) ⟨Nat.le_of_ble_eq_true rfl, Nat.le_of_ble_eq_true rfl⟩) (dk_preV hK hN (hP.sub [0, 1, 2, 3] rfl) (va_recv hK hP (ci := 8) (q0 := 0) rfl rfl)) rfl rfl hl.1 rfl (lv_room (Nat.le_of_ble_eq_true rfl)) d_Mo_worth_38 ⟨Nat.le_of_ble_eq_true rfl, Nat.le_of_ble_eq_true rfl⟩) ?_
    refine lv_i2l hx hb d_Mo_worth_41 rfl ?_
    obtain rfl := Option.some.inj hF
    exact W.lret (v := r38_2.toInt64) hx hb hr (fun t ht hW => ⟨rfl, ht⟩) (fun _ h => by cases h) d_Mo_worth_42
  · have hF := dk_t c1_1 hF
    refine lv_aload_n hx hb d_Mo_worth_4 rfl (lv_at hl 0 rfl) ?_
    refine lv_iconst (v := (0 : Int32)) hx hb d_Mo_worth_5 (by decide) ?_
    refine lv_iload_n hx hb d_Mo_worth_6 rfl (lv_at hl 1 rfl) ?_
    obtain ⟨r7_3, hC, hF⟩ := dk_b hF
    refine dk_pure (va_runV (As := [.int (0 : Int32), .int x1]) (rest := []) hfix (c_Mo_band l G K n t t_greens t_leasts t_queues t_seconds t_weights t_offsets t_row t_open t_places t_times t_cars t_hourCrossings t_hourCycles t_hourOffsets (0 : Int32) x1 v_t_crossings v_t_first v_t_last v_t_by v_t_step v_t_has v_t_cycle v_t_aim v_t_proved v_t_arrivals v_t_seconds v_t_open r7_3 hC) (cwV 2 hts (gd_V lk_462 lk_464 lk_465 lk_419 lk_463) rfl rfl rfl (by decide +kernel) ⟨Nat.le_of_ble_eq_true rfl, Nat.le_of_ble_eq_true rfl⟩) (dk_preV hK hN (hP.sub [0, 1, 3] rfl) (va_recv hK hP (ci := 8) (q0 := 0) rfl rfl)) rfl rfl hl.1 rfl (lv_room (Nat.le_of_ble_eq_true rfl)) d_Mo_worth_7 ⟨Nat.le_of_ble_eq_true rfl, Nat.le_of_ble_eq_true rfl⟩) ?_
    refine lv_i2l hx hb d_Mo_worth_10 rfl ?_
    refine lv_aload_n hx hb d_Mo_worth_11 rfl (lv_at hl 0 rfl) ?_
    refine lv_iconst (v := (0 : Int32)) hx hb d_Mo_worth_12 (by decide) ?_
    obtain ⟨r13_4, hC, hF⟩ := dk_b hF
    refine dk_pure (va_runV (As := [.int (0 : Int32)]) (rest := [.long r7_3.toInt64]) hfix (c_Mo_weightOf l G K n t t_greens t_leasts t_queues t_seconds t_weights t_offsets t_row t_open t_places t_times t_cars t_hourCrossings t_hourCycles t_hourOffsets (0 : Int32) v_t_crossings v_t_first v_t_last v_t_by v_t_step v_t_has v_t_cycle v_t_aim v_t_proved v_t_arrivals v_t_weights r13_4 hC) (cwV 1 hts (gd_V lk_466 lk_468 lk_469 lk_419 lk_467) rfl rfl rfl (by decide +kernel) ⟨Nat.le_of_ble_eq_true rfl, Nat.le_of_ble_eq_true rfl⟩) (dk_preV hK hN (hP.sub [0, 2] rfl) (va_recv hK hP (ci := 8) (q0 := 0) rfl rfl)) rfl rfl hl.1 rfl (lv_room (Nat.le_of_ble_eq_true rfl)) d_Mo_worth_13 ⟨Nat.le_of_ble_eq_true rfl, Nat.le_of_ble_eq_true rfl⟩) ?_
    refine lv_i2l hx hb d_Mo_worth_16 rfl ?_
    refine lv_lmul hx hb d_Mo_worth_17 ?_
    refine lv_aload_n hx hb d_Mo_worth_18 rfl (lv_at hl 0 rfl) ?_
    refine lv_iconst (v := (1 : Int32)) hx hb d_Mo_worth_19 (by decide) ?_
    refine lv_iload_n hx hb d_Mo_worth_20 rfl (lv_at hl 1 rfl) ?_
    obtain ⟨r21_5, hC, hF⟩ := dk_b hF
    refine dk_pure (va_runV (As := [.int (1 : Int32), .int x1]) (rest := [.long (r7_3.toInt64 * r13_4.toInt64)]) hfix (c_Mo_band l G K n t t_greens t_leasts t_queues t_seconds t_weights t_offsets t_row t_open t_places t_times t_cars t_hourCrossings t_hourCycles t_hourOffsets (1 : Int32) x1 v_t_crossings v_t_first v_t_last v_t_by v_t_step v_t_has v_t_cycle v_t_aim v_t_proved v_t_arrivals v_t_seconds v_t_open r21_5 hC) (cwV 2 hts (gd_V lk_462 lk_464 lk_465 lk_419 lk_463) rfl rfl rfl (by decide +kernel) ⟨Nat.le_of_ble_eq_true rfl, Nat.le_of_ble_eq_true rfl⟩) (dk_preV hK hN (hP.sub [0, 1, 3] rfl) (va_recv hK hP (ci := 8) (q0 := 0) rfl rfl)) rfl rfl hl.1 rfl (lv_room (Nat.le_of_ble_eq_true rfl)) d_Mo_worth_21 ⟨Nat.le_of_ble_eq_true rfl, Nat.le_of_ble_eq_true rfl⟩) ?_
    refine lv_i2l hx hb d_Mo_worth_24 rfl ?_
    refine lv_aload_n hx hb d_Mo_worth_25 rfl (lv_at hl 0 rfl) ?_
    refine lv_iconst (v := (1 : Int32)) hx hb d_Mo_worth_26 (by decide) ?_
    obtain ⟨r27_6, hC, hF⟩ := dk_b hF
    refine dk_pure (va_runV (As := [.int (1 : Int32)]) (rest := [.long r21_5.toInt64, .long (r7_3.toInt64 * r13_4.toInt64)]) hfix (c_Mo_weightOf l G K n t t_greens t_leasts t_queues t_seconds t_weights t_offsets t_row t_open t_places t_times t_cars t_hourCrossings t_hourCycles t_hourOffsets (1 : Int32) v_t_crossings v_t_first v_t_last v_t_by v_t_step v_t_has v_t_cycle v_t_aim v_t_proved v_t_arrivals v_t_weights r27_6 hC) (cwV 1 hts (gd_V lk_466 lk_468 lk_469 lk_419 lk_467) rfl rfl rfl (by decide +kernel) ⟨Nat.le_of_ble_eq_true rfl, Nat.le_of_ble_eq_true rfl⟩) (dk_preV hK hN (hP.sub [0, 2] rfl) (va_recv hK hP (ci := 8) (q0 := 0) rfl rfl)) rfl rfl hl.1 rfl (lv_room (Nat.le_of_ble_eq_true rfl)) d_Mo_worth_27 ⟨Nat.le_of_ble_eq_true rfl, Nat.le_of_ble_eq_true rfl⟩) ?_
    refine lv_i2l hx hb d_Mo_worth_30 rfl ?_
    refine lv_lmul hx hb d_Mo_worth_31 ?_
    refine lv_ladd hx hb d_Mo_worth_32 ?_
    refine lv_goto (tgt := 42) hx hb d_Mo_worth_33 (by decide) ?_
    obtain rfl := Option.some.inj hF
    exact W.lret (v := (r7_3.toInt64 * r13_4.toInt64) + (r21_5.toInt64 * r27_6.toInt64)) hx hb hr (fun t ht hW => ⟨rfl, ht⟩) (fun _ h => by cases h) d_Mo_worth_42
