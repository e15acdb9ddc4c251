theorem d_WO_isPlanned_0 : decode b_WO_isPlanned 0 = .ok (.aload_n 0, 1) := by decide +kernel
theorem d_WO_isPlanned_1 : decode b_WO_isPlanned 1 = .ok (.getfield 10, 3) := by decide +kernel
theorem d_WO_isPlanned_4 : decode b_WO_isPlanned 4 = .ok (.iload_n 1, 1) := by decide +kernel
theorem d_WO_isPlanned_5 : decode b_WO_isPlanned 5 = .ok (.invokevirtual 67, 3) := by decide +kernel
theorem d_WO_isPlanned_8 : decode b_WO_isPlanned 8 = .ok (.ifCond .eq 17, 3) := by decide +kernel
theorem d_WO_isPlanned_11 : decode b_WO_isPlanned 11 = .ok (.aload_n 0, 1) := by decide +kernel
theorem d_WO_isPlanned_12 : decode b_WO_isPlanned 12 = .ok (.getfield 26, 3) := by decide +kernel
theorem d_WO_isPlanned_15 : decode b_WO_isPlanned 15 = .ok (.invokevirtual 116, 3) := by decide +kernel
theorem d_WO_isPlanned_18 : decode b_WO_isPlanned 18 = .ok (.ifCond .eq 7, 3) := by decide +kernel
theorem d_WO_isPlanned_21 : decode b_WO_isPlanned 21 = .ok (.iconst 1, 1) := by decide +kernel
theorem d_WO_isPlanned_22 : decode b_WO_isPlanned 22 = .ok (.goto 4, 3) := by decide +kernel
theorem d_WO_isPlanned_25 : decode b_WO_isPlanned 25 = .ok (.iconst 0, 1) := by decide +kernel
theorem d_WO_isPlanned_26 : decode b_WO_isPlanned 26 = .ok (.ireturn, 1) := by decide +kernel
theorem d_WO_bandOf_0 : decode b_WO_bandOf 0 = .ok (.ldc2_w 126, 3) := by decide +kernel
theorem d_WO_bandOf_3 : decode b_WO_bandOf 3 = .ok (.lstore_n 2, 1) := by decide +kernel
theorem d_WO_bandOf_4 : decode b_WO_bandOf 4 = .ok (.ldc2_w 126, 3) := by decide +kernel
theorem d_WO_bandOf_7 : decode b_WO_bandOf 7 = .ok (.lstore 4, 2) := by decide +kernel
theorem d_WO_bandOf_9 : decode b_WO_bandOf 9 = .ok (.iconst 0, 1) := by decide +kernel
theorem d_WO_bandOf_10 : decode b_WO_bandOf 10 = .ok (.istore 6, 2) := by decide +kernel
theorem d_WO_bandOf_12 : decode b_WO_bandOf 12 = .ok (.iload 6, 2) := by decide +kernel
theorem d_WO_bandOf_14 : decode b_WO_bandOf 14 = .ok (.aload_n 0, 1) := by decide +kernel
theorem d_WO_bandOf_15 : decode b_WO_bandOf 15 = .ok (.getfield 10, 3) := by decide +kernel
theorem d_WO_bandOf_18 : decode b_WO_bandOf 18 = .ok (.invokevirtual 101, 3) := by decide +kernel
theorem d_WO_bandOf_21 : decode b_WO_bandOf 21 = .ok (.if_icmp .ge 90, 3) := by decide +kernel
theorem d_WO_bandOf_24 : decode b_WO_bandOf 24 = .ok (.aload_n 0, 1) := by decide +kernel
theorem d_WO_bandOf_25 : decode b_WO_bandOf 25 = .ok (.getfield 10, 3) := by decide +kernel
theorem d_WO_bandOf_28 : decode b_WO_bandOf 28 = .ok (.iload 6, 2) := by decide +kernel
theorem d_WO_bandOf_30 : decode b_WO_bandOf 30 = .ok (.iload_n 1, 1) := by decide +kernel
theorem d_WO_bandOf_31 : decode b_WO_bandOf 31 = .ok (.aload_n 0, 1) := by decide +kernel
theorem d_WO_bandOf_32 : decode b_WO_bandOf 32 = .ok (.getfield 26, 3) := by decide +kernel
theorem d_WO_bandOf_35 : decode b_WO_bandOf 35 = .ok (.iload 6, 2) := by decide +kernel
theorem d_WO_bandOf_37 : decode b_WO_bandOf 37 = .ok (.invokevirtual 141, 3) := by decide +kernel
theorem d_WO_bandOf_40 : decode b_WO_bandOf 40 = .ok (.aload_n 0, 1) := by decide +kernel
theorem d_WO_bandOf_41 : decode b_WO_bandOf 41 = .ok (.getfield 26, 3) := by decide +kernel
theorem d_WO_bandOf_44 : decode b_WO_bandOf 44 = .ok (.getfield 112, 3) := by decide +kernel
theorem d_WO_bandOf_47 : decode b_WO_bandOf 47 = .ok (.invokevirtual 201, 3) := by decide +kernel
theorem d_WO_bandOf_50 : decode b_WO_bandOf 50 = .ok (.istore 7, 2) := by decide +kernel
theorem d_WO_bandOf_52 : decode b_WO_bandOf 52 = .ok (.lload_n 2, 1) := by decide +kernel
theorem d_WO_bandOf_53 : decode b_WO_bandOf 53 = .ok (.iload 7, 2) := by decide +kernel
theorem d_WO_bandOf_55 : decode b_WO_bandOf 55 = .ok (.aload_n 0, 1) := by decide +kernel
theorem d_WO_bandOf_56 : decode b_WO_bandOf 56 = .ok (.getfield 10, 3) := by decide +kernel
theorem d_WO_bandOf_59 : decode b_WO_bandOf 59 = .ok (.iload 6, 2) := by decide +kernel
theorem d_WO_bandOf_61 : decode b_WO_bandOf 61 = .ok (.invokevirtual 205, 3) := by decide +kernel
theorem d_WO_bandOf_64 : decode b_WO_bandOf 64 = .ok (.aload_n 0, 1) := by decide +kernel
theorem d_WO_bandOf_65 : decode b_WO_bandOf 65 = .ok (.getfield 26, 3) := by decide +kernel
theorem d_WO_bandOf_68 : decode b_WO_bandOf 68 = .ok (.getfield 112, 3) := by decide +kernel
theorem d_WO_bandOf_71 : decode b_WO_bandOf 71 = .ok (.iconst 0, 1) := by decide +kernel
theorem d_WO_bandOf_72 : decode b_WO_bandOf 72 = .ok (.invokestatic 208, 3) := by decide +kernel
theorem d_WO_bandOf_75 : decode b_WO_bandOf 75 = .ok (.land, 1) := by decide +kernel
theorem d_WO_bandOf_76 : decode b_WO_bandOf 76 = .ok (.lstore_n 2, 1) := by decide +kernel
theorem d_WO_bandOf_77 : decode b_WO_bandOf 77 = .ok (.lload 4, 2) := by decide +kernel
theorem d_WO_bandOf_79 : decode b_WO_bandOf 79 = .ok (.iload 7, 2) := by decide +kernel
theorem d_WO_bandOf_81 : decode b_WO_bandOf 81 = .ok (.aload_n 0, 1) := by decide +kernel
theorem d_WO_bandOf_82 : decode b_WO_bandOf 82 = .ok (.getfield 10, 3) := by decide +kernel
theorem d_WO_bandOf_85 : decode b_WO_bandOf 85 = .ok (.iload 6, 2) := by decide +kernel
theorem d_WO_bandOf_87 : decode b_WO_bandOf 87 = .ok (.invokevirtual 205, 3) := by decide +kernel
theorem d_WO_bandOf_90 : decode b_WO_bandOf 90 = .ok (.aload_n 0, 1) := by decide +kernel
theorem d_WO_bandOf_91 : decode b_WO_bandOf 91 = .ok (.getfield 26, 3) := by decide +kernel
theorem d_WO_bandOf_94 : decode b_WO_bandOf 94 = .ok (.getfield 112, 3) := by decide +kernel
theorem d_WO_bandOf_97 : decode b_WO_bandOf 97 = .ok (.bipush 60, 2) := by decide +kernel
theorem d_WO_bandOf_99 : decode b_WO_bandOf 99 = .ok (.invokestatic 208, 3) := by decide +kernel
theorem d_WO_bandOf_102 : decode b_WO_bandOf 102 = .ok (.land, 1) := by decide +kernel
theorem d_WO_bandOf_103 : decode b_WO_bandOf 103 = .ok (.lstore 4, 2) := by decide +kernel
theorem d_WO_bandOf_105 : decode b_WO_bandOf 105 = .ok (.iinc 6 1, 3) := by decide +kernel
theorem d_WO_bandOf_108 : decode b_WO_bandOf 108 = .ok (.goto (-96), 3) := by decide +kernel
theorem d_WO_bandOf_111 : decode b_WO_bandOf 111 = .ok (.lload_n 2, 1) := by decide +kernel
theorem d_WO_bandOf_112 : decode b_WO_bandOf 112 = .ok (.invokestatic 212, 3) := by decide +kernel
theorem d_WO_bandOf_115 : decode b_WO_bandOf 115 = .ok (.lload 4, 2) := by decide +kernel
theorem d_WO_bandOf_117 : decode b_WO_bandOf 117 = .ok (.invokestatic 212, 3) := by decide +kernel
theorem d_WO_bandOf_120 : decode b_WO_bandOf 120 = .ok (.iadd, 1) := by decide +kernel
theorem d_WO_bandOf_121 : decode b_WO_bandOf 121 = .ok (.ireturn, 1) := by decide +kernel
theorem d_WO_allStops_0 : decode b_WO_allStops 0 = .ok (.lconst 0, 1) := by decide +kernel
theorem d_WO_allStops_1 : decode b_WO_allStops 1 = .ok (.lstore_n 1, 1) := by decide +kernel
theorem d_WO_allStops_2 : decode b_WO_allStops 2 = .ok (.iconst 1, 1) := by decide +kernel
theorem d_WO_allStops_3 : decode b_WO_allStops 3 = .ok (.istore_n 3, 1) := by decide +kernel
theorem d_WO_allStops_4 : decode b_WO_allStops 4 = .ok (.iload_n 3, 1) := by decide +kernel
theorem d_WO_allStops_5 : decode b_WO_allStops 5 = .ok (.aload_n 0, 1) := by decide +kernel
theorem d_WO_allStops_6 : decode b_WO_allStops 6 = .ok (.getfield 10, 3) := by decide +kernel
theorem d_WO_allStops_9 : decode b_WO_allStops 9 = .ok (.invokevirtual 101, 3) := by decide +kernel
theorem d_WO_allStops_12 : decode b_WO_allStops 12 = .ok (.if_icmp .ge 51, 3) := by decide +kernel
theorem d_WO_allStops_15 : decode b_WO_allStops 15 = .ok (.aload_n 0, 1) := by decide +kernel
theorem d_WO_allStops_16 : decode b_WO_allStops 16 = .ok (.getfield 26, 3) := by decide +kernel
theorem d_WO_allStops_19 : decode b_WO_allStops 19 = .ok (.iload_n 3, 1) := by decide +kernel
theorem d_WO_allStops_20 : decode b_WO_allStops 20 = .ok (.invokevirtual 141, 3) := by decide +kernel
theorem d_WO_allStops_23 : decode b_WO_allStops 23 = .ok (.aload_n 0, 1) := by decide +kernel
theorem d_WO_allStops_24 : decode b_WO_allStops 24 = .ok (.getfield 26, 3) := by decide +kernel
theorem d_WO_allStops_27 : decode b_WO_allStops 27 = .ok (.iload_n 3, 1) := by decide +kernel
theorem d_WO_allStops_28 : decode b_WO_allStops 28 = .ok (.iconst 1, 1) := by decide +kernel
theorem d_WO_allStops_29 : decode b_WO_allStops 29 = .ok (.isub, 1) := by decide +kernel
theorem d_WO_allStops_30 : decode b_WO_allStops 30 = .ok (.invokevirtual 141, 3) := by decide +kernel
theorem d_WO_allStops_33 : decode b_WO_allStops 33 = .ok (.isub, 1) := by decide +kernel
theorem d_WO_allStops_34 : decode b_WO_allStops 34 = .ok (.istore 4, 2) := by decide +kernel
theorem d_WO_allStops_36 : decode b_WO_allStops 36 = .ok (.lload_n 1, 1) := by decide +kernel
theorem d_WO_allStops_37 : decode b_WO_allStops 37 = .ok (.aload_n 0, 1) := by decide +kernel
theorem d_WO_allStops_38 : decode b_WO_allStops 38 = .ok (.getfield 10, 3) := by decide +kernel
theorem d_WO_allStops_41 : decode b_WO_allStops 41 = .ok (.iload_n 3, 1) := by decide +kernel
theorem d_WO_allStops_42 : decode b_WO_allStops 42 = .ok (.iload 4, 2) := by decide +kernel
theorem d_WO_allStops_44 : decode b_WO_allStops 44 = .ok (.aload_n 0, 1) := by decide +kernel
theorem d_WO_allStops_45 : decode b_WO_allStops 45 = .ok (.getfield 26, 3) := by decide +kernel
theorem d_WO_allStops_48 : decode b_WO_allStops 48 = .ok (.getfield 112, 3) := by decide +kernel
theorem d_WO_allStops_51 : decode b_WO_allStops 51 = .ok (.invokevirtual 218, 3) := by decide +kernel
theorem d_WO_allStops_54 : decode b_WO_allStops 54 = .ok (.i2l, 1) := by decide +kernel
theorem d_WO_allStops_55 : decode b_WO_allStops 55 = .ok (.ladd, 1) := by decide +kernel
theorem d_WO_allStops_56 : decode b_WO_allStops 56 = .ok (.lstore_n 1, 1) := by decide +kernel
theorem d_WO_allStops_57 : decode b_WO_allStops 57 = .ok (.iinc 3 1, 3) := by decide +kernel
theorem d_WO_allStops_60 : decode b_WO_allStops 60 = .ok (.goto (-56), 3) := by decide +kernel
theorem d_WO_allStops_63 : decode b_WO_allStops 63 = .ok (.lload_n 1, 1) := by decide +kernel
theorem d_WO_allStops_64 : decode b_WO_allStops 64 = .ok (.lreturn, 1) := by decide +kernel
theorem d_WO_crossing_0 : decode b_WO_crossing 0 = .ok (.iload_n 1, 1) := by decide +kernel
theorem d_WO_crossing_1 : decode b_WO_crossing 1 = .ok (.i2l, 1) := by decide +kernel
theorem d_WO_crossing_2 : decode b_WO_crossing 2 = .ok (.ldc2_w 44, 3) := by decide +kernel
theorem d_WO_crossing_5 : decode b_WO_crossing 5 = .ok (.ldc2_w 46, 3) := by decide +kernel
theorem d_WO_crossing_8 : decode b_WO_crossing 8 = .ok (.invokestatic 48, 3) := by decide +kernel
theorem d_WO_crossing_11 : decode b_WO_crossing 11 = .ok (.ifCond .eq 32, 3) := by decide +kernel
theorem d_WO_crossing_14 : decode b_WO_crossing 14 = .ok (.iload_n 2, 1) := by decide +kernel
theorem d_WO_crossing_15 : decode b_WO_crossing 15 = .ok (.iload_n 1, 1) := by decide +kernel
theorem d_WO_crossing_16 : decode b_WO_crossing 16 = .ok (.if_icmp .le 27, 3) := by decide +kernel
theorem d_WO_crossing_19 : decode b_WO_crossing 19 = .ok (.iload_n 2, 1) := by decide +kernel
theorem d_WO_crossing_20 : decode b_WO_crossing 20 = .ok (.i2l, 1) := by decide +kernel
theorem d_WO_crossing_21 : decode b_WO_crossing 21 = .ok (.ldc2_w 52, 3) := by decide +kernel
theorem d_WO_crossing_24 : decode b_WO_crossing 24 = .ok (.ldc2_w 54, 3) := by decide +kernel
theorem d_WO_crossing_27 : decode b_WO_crossing 27 = .ok (.invokestatic 48, 3) := by decide +kernel
theorem d_WO_crossing_30 : decode b_WO_crossing 30 = .ok (.ifCond .eq 13, 3) := by decide +kernel
theorem d_WO_crossing_33 : decode b_WO_crossing 33 = .ok (.aload_n 0, 1) := by decide +kernel
theorem d_WO_crossing_34 : decode b_WO_crossing 34 = .ok (.getfield 10, 3) := by decide +kernel
theorem d_WO_crossing_37 : decode b_WO_crossing 37 = .ok (.invokevirtual 56, 3) := by decide +kernel
theorem d_WO_crossing_40 : decode b_WO_crossing 40 = .ok (.ifCond .eq 5, 3) := by decide +kernel
theorem d_WO_crossing_43 : decode b_WO_crossing 43 = .ok (.iconst (-1), 1) := by decide +kernel
theorem d_WO_crossing_44 : decode b_WO_crossing 44 = .ok (.ireturn, 1) := by decide +kernel
theorem d_WO_crossing_45 : decode b_WO_crossing 45 = .ok (.aload_n 0, 1) := by decide +kernel
theorem d_WO_crossing_46 : decode b_WO_crossing 46 = .ok (.getfield 26, 3) := by decide +kernel
theorem d_WO_crossing_49 : decode b_WO_crossing 49 = .ok (.invokevirtual 60, 3) := by decide +kernel
theorem d_WO_crossing_52 : decode b_WO_crossing 52 = .ok (.aload_n 0, 1) := by decide +kernel
theorem d_WO_crossing_53 : decode b_WO_crossing 53 = .ok (.getfield 10, 3) := by decide +kernel
theorem d_WO_crossing_56 : decode b_WO_crossing 56 = .ok (.iload_n 1, 1) := by decide +kernel
theorem d_WO_crossing_57 : decode b_WO_crossing 57 = .ok (.iload_n 2, 1) := by decide +kernel
theorem d_WO_crossing_58 : decode b_WO_crossing 58 = .ok (.invokevirtual 63, 3) := by decide +kernel
theorem d_WO_crossing_61 : decode b_WO_crossing 61 = .ok (.ireturn, 1) := by decide +kernel
theorem d_WO_street_0 : decode b_WO_street 0 = .ok (.aload_n 0, 1) := by decide +kernel
theorem d_WO_street_1 : decode b_WO_street 1 = .ok (.getfield 10, 3) := by decide +kernel
theorem d_WO_street_4 : decode b_WO_street 4 = .ok (.iload_n 1, 1) := by decide +kernel
theorem d_WO_street_5 : decode b_WO_street 5 = .ok (.invokevirtual 67, 3) := by decide +kernel
theorem d_WO_street_8 : decode b_WO_street 8 = .ok (.ifCond .eq 39, 3) := by decide +kernel
theorem d_WO_street_11 : decode b_WO_street 11 = .ok (.aload_n 0, 1) := by decide +kernel
theorem d_WO_street_12 : decode b_WO_street 12 = .ok (.getfield 10, 3) := by decide +kernel
theorem d_WO_street_15 : decode b_WO_street 15 = .ok (.iload_n 2, 1) := by decide +kernel
theorem d_WO_street_16 : decode b_WO_street 16 = .ok (.invokevirtual 67, 3) := by decide +kernel
theorem d_WO_street_19 : decode b_WO_street 19 = .ok (.ifCond .eq 28, 3) := by decide +kernel
theorem d_WO_street_22 : decode b_WO_street 22 = .ok (.iload_n 3, 1) := by decide +kernel
theorem d_WO_street_23 : decode b_WO_street 23 = .ok (.i2l, 1) := by decide +kernel
theorem d_WO_street_24 : decode b_WO_street 24 = .ok (.lconst 1, 1) := by decide +kernel
theorem d_WO_street_25 : decode b_WO_street 25 = .ok (.ldc2_w 71, 3) := by decide +kernel
theorem d_WO_street_28 : decode b_WO_street 28 = .ok (.invokestatic 48, 3) := by decide +kernel
theorem d_WO_street_31 : decode b_WO_street 31 = .ok (.ifCond .eq 16, 3) := by decide +kernel
theorem d_WO_street_34 : decode b_WO_street 34 = .ok (.iload 4, 2) := by decide +kernel
theorem d_WO_street_36 : decode b_WO_street 36 = .ok (.i2l, 1) := by decide +kernel
theorem d_WO_street_37 : decode b_WO_street 37 = .ok (.lconst 0, 1) := by decide +kernel
theorem d_WO_street_38 : decode b_WO_street 38 = .ok (.ldc2_w 73, 3) := by decide +kernel
theorem d_WO_street_41 : decode b_WO_street 41 = .ok (.invokestatic 48, 3) := by decide +kernel
theorem d_WO_street_44 : decode b_WO_street 44 = .ok (.ifCond .ne 5, 3) := by decide +kernel
theorem d_WO_street_47 : decode b_WO_street 47 = .ok (.iconst 0, 1) := by decide +kernel
theorem d_WO_street_48 : decode b_WO_street 48 = .ok (.ireturn, 1) := by decide +kernel
theorem d_WO_street_49 : decode b_WO_street 49 = .ok (.iload_n 2, 1) := by decide +kernel
theorem d_WO_street_50 : decode b_WO_street 50 = .ok (.iload_n 1, 1) := by decide +kernel
theorem d_WO_street_51 : decode b_WO_street 51 = .ok (.iconst 1, 1) := by decide +kernel
theorem d_WO_street_52 : decode b_WO_street 52 = .ok (.iadd, 1) := by decide +kernel
theorem d_WO_street_53 : decode b_WO_street 53 = .ok (.if_icmp .ne 18, 3) := by decide +kernel
theorem d_WO_street_56 : decode b_WO_street 56 = .ok (.aload_n 0, 1) := by decide +kernel
theorem d_WO_street_57 : decode b_WO_street 57 = .ok (.getfield 10, 3) := by decide +kernel
theorem d_WO_street_60 : decode b_WO_street 60 = .ok (.iconst 0, 1) := by decide +kernel
theorem d_WO_street_61 : decode b_WO_street 61 = .ok (.iload_n 1, 1) := by decide +kernel
theorem d_WO_street_62 : decode b_WO_street 62 = .ok (.iload_n 3, 1) := by decide +kernel
theorem d_WO_street_63 : decode b_WO_street 63 = .ok (.iload 4, 2) := by decide +kernel
theorem d_WO_street_65 : decode b_WO_street 65 = .ok (.invokevirtual 75, 3) := by decide +kernel
theorem d_WO_street_68 : decode b_WO_street 68 = .ok (.goto 27, 3) := by decide +kernel
theorem d_WO_street_71 : decode b_WO_street 71 = .ok (.iload_n 2, 1) := by decide +kernel
theorem d_WO_street_72 : decode b_WO_street 72 = .ok (.iload_n 1, 1) := by decide +kernel
theorem d_WO_street_73 : decode b_WO_street 73 = .ok (.iconst 1, 1) := by decide +kernel
theorem d_WO_street_74 : decode b_WO_street 74 = .ok (.isub, 1) := by decide +kernel
theorem d_WO_street_75 : decode b_WO_street 75 = .ok (.if_icmp .ne 18, 3) := by decide +kernel
theorem d_WO_street_78 : decode b_WO_street 78 = .ok (.aload_n 0, 1) := by decide +kernel
theorem d_WO_street_79 : decode b_WO_street 79 = .ok (.getfield 10, 3) := by decide +kernel
theorem d_WO_street_82 : decode b_WO_street 82 = .ok (.iconst 1, 1) := by decide +kernel
theorem d_WO_street_83 : decode b_WO_street 83 = .ok (.iload_n 1, 1) := by decide +kernel
theorem d_WO_street_84 : decode b_WO_street 84 = .ok (.iload_n 3, 1) := by decide +kernel
theorem d_WO_street_85 : decode b_WO_street 85 = .ok (.iload 4, 2) := by decide +kernel
theorem d_WO_street_87 : decode b_WO_street 87 = .ok (.invokevirtual 75, 3) := by decide +kernel
theorem d_WO_street_90 : decode b_WO_street 90 = .ok (.goto 5, 3) := by decide +kernel
theorem d_WO_street_93 : decode b_WO_street 93 = .ok (.iconst 0, 1) := by decide +kernel
theorem d_WO_street_94 : decode b_WO_street 94 = .ok (.ireturn, 1) := by decide +kernel
theorem d_WO_street_95 : decode b_WO_street 95 = .ok (.aload_n 0, 1) := by decide +kernel
theorem d_WO_street_96 : decode b_WO_street 96 = .ok (.getfield 26, 3) := by decide +kernel
theorem d_WO_street_99 : decode b_WO_street 99 = .ok (.invokevirtual 60, 3) := by decide +kernel
theorem d_WO_street_102 : decode b_WO_street 102 = .ok (.iconst 1, 1) := by decide +kernel
theorem d_WO_street_103 : decode b_WO_street 103 = .ok (.ireturn, 1) := by decide +kernel
theorem d_WO_cycles_0 : decode b_WO_cycles 0 = .ok (.iload_n 1, 1) := by decide +kernel
theorem d_WO_cycles_1 : decode b_WO_cycles 1 = .ok (.bipush 10, 2) := by decide +kernel
theorem d_WO_cycles_3 : decode b_WO_cycles 3 = .ok (.if_icmp .lt 26, 3) := by decide +kernel
theorem d_WO_cycles_6 : decode b_WO_cycles 6 = .ok (.iload_n 1, 1) := by decide +kernel
theorem d_WO_cycles_7 : decode b_WO_cycles 7 = .ok (.iload_n 2, 1) := by decide +kernel
theorem d_WO_cycles_8 : decode b_WO_cycles 8 = .ok (.if_icmp .gt 21, 3) := by decide +kernel
theorem d_WO_cycles_11 : decode b_WO_cycles 11 = .ok (.iload_n 2, 1) := by decide +kernel
theorem d_WO_cycles_12 : decode b_WO_cycles 12 = .ok (.bipush 120, 2) := by decide +kernel
theorem d_WO_cycles_14 : decode b_WO_cycles 14 = .ok (.if_icmp .gt 15, 3) := by decide +kernel
theorem d_WO_cycles_17 : decode b_WO_cycles 17 = .ok (.iload_n 3, 1) := by decide +kernel
theorem d_WO_cycles_18 : decode b_WO_cycles 18 = .ok (.i2l, 1) := by decide +kernel
theorem d_WO_cycles_19 : decode b_WO_cycles 19 = .ok (.lconst 1, 1) := by decide +kernel
theorem d_WO_cycles_20 : decode b_WO_cycles 20 = .ok (.ldc2_w 79, 3) := by decide +kernel
theorem d_WO_cycles_23 : decode b_WO_cycles 23 = .ok (.invokestatic 48, 3) := by decide +kernel
theorem d_WO_cycles_26 : decode b_WO_cycles 26 = .ok (.ifCond .ne 5, 3) := by decide +kernel
theorem d_WO_cycles_29 : decode b_WO_cycles 29 = .ok (.iconst 0, 1) := by decide +kernel
theorem d_WO_cycles_30 : decode b_WO_cycles 30 = .ok (.ireturn, 1) := by decide +kernel
theorem d_WO_cycles_31 : decode b_WO_cycles 31 = .ok (.aload_n 0, 1) := by decide +kernel
theorem d_WO_cycles_32 : decode b_WO_cycles 32 = .ok (.getfield 10, 3) := by decide +kernel
theorem d_WO_cycles_35 : decode b_WO_cycles 35 = .ok (.iload_n 1, 1) := by decide +kernel
theorem d_WO_cycles_36 : decode b_WO_cycles 36 = .ok (.iload_n 2, 1) := by decide +kernel
theorem d_WO_cycles_37 : decode b_WO_cycles 37 = .ok (.iload_n 3, 1) := by decide +kernel
theorem d_WO_cycles_38 : decode b_WO_cycles 38 = .ok (.invokevirtual 81, 3) := by decide +kernel
theorem d_WO_cycles_41 : decode b_WO_cycles 41 = .ok (.aload_n 0, 1) := by decide +kernel
theorem d_WO_cycles_42 : decode b_WO_cycles 42 = .ok (.getfield 26, 3) := by decide +kernel
theorem d_WO_cycles_45 : decode b_WO_cycles 45 = .ok (.invokevirtual 60, 3) := by decide +kernel
theorem d_WO_cycles_48 : decode b_WO_cycles 48 = .ok (.iconst 1, 1) := by decide +kernel
theorem d_WO_cycles_49 : decode b_WO_cycles 49 = .ok (.ireturn, 1) := by decide +kernel
theorem d_WO_step_0 : decode b_WO_step 0 = .ok (.iload_n 1, 1) := by decide +kernel
theorem d_WO_step_1 : decode b_WO_step 1 = .ok (.i2l, 1) := by decide +kernel
theorem d_WO_step_2 : decode b_WO_step 2 = .ok (.lconst 1, 1) := by decide +kernel
theorem d_WO_step_3 : decode b_WO_step 3 = .ok (.ldc2_w 85, 3) := by decide +kernel
theorem d_WO_step_6 : decode b_WO_step 6 = .ok (.invokestatic 48, 3) := by decide +kernel
theorem d_WO_step_9 : decode b_WO_step 9 = .ok (.ifCond .ne 5, 3) := by decide +kernel
theorem d_WO_step_12 : decode b_WO_step 12 = .ok (.iconst 0, 1) := by decide +kernel
theorem d_WO_step_13 : decode b_WO_step 13 = .ok (.ireturn, 1) := by decide +kernel
theorem d_WO_step_14 : decode b_WO_step 14 = .ok (.aload_n 0, 1) := by decide +kernel
theorem d_WO_step_15 : decode b_WO_step 15 = .ok (.getfield 10, 3) := by decide +kernel
theorem d_WO_step_18 : decode b_WO_step 18 = .ok (.iload_n 1, 1) := by decide +kernel
theorem d_WO_step_19 : decode b_WO_step 19 = .ok (.invokevirtual 87, 3) := by decide +kernel
theorem d_WO_step_22 : decode b_WO_step 22 = .ok (.aload_n 0, 1) := by decide +kernel
theorem d_WO_step_23 : decode b_WO_step 23 = .ok (.getfield 26, 3) := by decide +kernel
theorem d_WO_step_26 : decode b_WO_step 26 = .ok (.invokevirtual 60, 3) := by decide +kernel
theorem d_WO_step_29 : decode b_WO_step 29 = .ok (.iconst 1, 1) := by decide +kernel
theorem d_WO_step_30 : decode b_WO_step 30 = .ok (.ireturn, 1) := by decide +kernel
theorem d_WO_queue_0 : decode b_WO_queue 0 = .ok (.aload_n 0, 1) := by decide +kernel
theorem d_WO_queue_1 : decode b_WO_queue 1 = .ok (.getfield 10, 3) := by decide +kernel
theorem d_WO_queue_4 : decode b_WO_queue 4 = .ok (.iload_n 1, 1) := by decide +kernel
theorem d_WO_queue_5 : decode b_WO_queue 5 = .ok (.invokevirtual 67, 3) := by decide +kernel
theorem d_WO_queue_8 : decode b_WO_queue 8 = .ok (.ifCond .eq 23, 3) := by decide +kernel
theorem d_WO_queue_11 : decode b_WO_queue 11 = .ok (.iload_n 2, 1) := by decide +kernel
theorem d_WO_queue_12 : decode b_WO_queue 12 = .ok (.i2l, 1) := by decide +kernel
theorem d_WO_queue_13 : decode b_WO_queue 13 = .ok (.lconst 0, 1) := by decide +kernel
theorem d_WO_queue_14 : decode b_WO_queue 14 = .ok (.aload_n 0, 1) := by decide +kernel
theorem d_WO_queue_15 : decode b_WO_queue 15 = .ok (.getfield 10, 3) := by decide +kernel
theorem d_WO_queue_18 : decode b_WO_queue 18 = .ok (.iload_n 1, 1) := by decide +kernel
theorem d_WO_queue_19 : decode b_WO_queue 19 = .ok (.invokevirtual 91, 3) := by decide +kernel
theorem d_WO_queue_22 : decode b_WO_queue 22 = .ok (.iconst 1, 1) := by decide +kernel
theorem d_WO_queue_23 : decode b_WO_queue 23 = .ok (.isub, 1) := by decide +kernel
theorem d_WO_queue_24 : decode b_WO_queue 24 = .ok (.i2l, 1) := by decide +kernel
theorem d_WO_queue_25 : decode b_WO_queue 25 = .ok (.invokestatic 48, 3) := by decide +kernel
theorem d_WO_queue_28 : decode b_WO_queue 28 = .ok (.ifCond .ne 5, 3) := by decide +kernel
theorem d_WO_queue_31 : decode b_WO_queue 31 = .ok (.iconst 0, 1) := by decide +kernel
theorem d_WO_queue_32 : decode b_WO_queue 32 = .ok (.ireturn, 1) := by decide +kernel
theorem d_WO_queue_33 : decode b_WO_queue 33 = .ok (.aload_n 0, 1) := by decide +kernel
theorem d_WO_queue_34 : decode b_WO_queue 34 = .ok (.getfield 10, 3) := by decide +kernel
theorem d_WO_queue_37 : decode b_WO_queue 37 = .ok (.iload_n 1, 1) := by decide +kernel
theorem d_WO_queue_38 : decode b_WO_queue 38 = .ok (.iload_n 2, 1) := by decide +kernel
theorem d_WO_queue_39 : decode b_WO_queue 39 = .ok (.invokevirtual 95, 3) := by decide +kernel
theorem d_WO_queue_42 : decode b_WO_queue 42 = .ok (.aload_n 0, 1) := by decide +kernel
theorem d_WO_queue_43 : decode b_WO_queue 43 = .ok (.getfield 26, 3) := by decide +kernel
theorem d_WO_queue_46 : decode b_WO_queue 46 = .ok (.invokevirtual 60, 3) := by decide +kernel
theorem d_WO_queue_49 : decode b_WO_queue 49 = .ok (.iconst 1, 1) := by decide +kernel
theorem d_WO_queue_50 : decode b_WO_queue 50 = .ok (.ireturn, 1) := by decide +kernel
theorem d_WO_run_0 : decode b_WO_run 0 = .ok (.iload_n 1, 1) := by decide +kernel
theorem d_WO_run_1 : decode b_WO_run 1 = .ok (.i2l, 1) := by decide +kernel
theorem d_WO_run_2 : decode b_WO_run 2 = .ok (.lconst 0, 1) := by decide +kernel
theorem d_WO_run_3 : decode b_WO_run 3 = .ok (.lconst 1, 1) := by decide +kernel
theorem d_WO_run_4 : decode b_WO_run 4 = .ok (.invokestatic 48, 3) := by decide +kernel
theorem d_WO_run_7 : decode b_WO_run 7 = .ok (.ifCond .eq 35, 3) := by decide +kernel
theorem d_WO_run_10 : decode b_WO_run 10 = .ok (.lload_n 2, 1) := by decide +kernel
theorem d_WO_run_11 : decode b_WO_run 11 = .ok (.lconst 1, 1) := by decide +kernel
theorem d_WO_run_12 : decode b_WO_run 12 = .ok (.ldc2_w 99, 3) := by decide +kernel
theorem d_WO_run_15 : decode b_WO_run 15 = .ok (.invokestatic 48, 3) := by decide +kernel
theorem d_WO_run_18 : decode b_WO_run 18 = .ok (.ifCond .eq 24, 3) := by decide +kernel
theorem d_WO_run_21 : decode b_WO_run 21 = .ok (.aload_n 0, 1) := by decide +kernel
theorem d_WO_run_22 : decode b_WO_run 22 = .ok (.getfield 10, 3) := by decide +kernel
theorem d_WO_run_25 : decode b_WO_run 25 = .ok (.invokevirtual 101, 3) := by decide +kernel
theorem d_WO_run_28 : decode b_WO_run 28 = .ok (.iconst 2, 1) := by decide +kernel
theorem d_WO_run_29 : decode b_WO_run 29 = .ok (.if_icmp .lt 13, 3) := by decide +kernel
theorem d_WO_run_32 : decode b_WO_run 32 = .ok (.aload_n 0, 1) := by decide +kernel
theorem d_WO_run_33 : decode b_WO_run 33 = .ok (.getfield 10, 3) := by decide +kernel
theorem d_WO_run_36 : decode b_WO_run 36 = .ok (.invokevirtual 105, 3) := by decide +kernel
theorem d_WO_run_39 : decode b_WO_run 39 = .ok (.ifCond .ne 5, 3) := by decide +kernel
theorem d_WO_run_42 : decode b_WO_run 42 = .ok (.iconst (-1), 1) := by decide +kernel
theorem d_WO_run_43 : decode b_WO_run 43 = .ok (.ireturn, 1) := by decide +kernel
theorem d_WO_run_44 : decode b_WO_run 44 = .ok (.aload_n 0, 1) := by decide +kernel
theorem d_WO_run_45 : decode b_WO_run 45 = .ok (.getfield 19, 3) := by decide +kernel
theorem d_WO_run_48 : decode b_WO_run 48 = .ok (.aload_n 0, 1) := by decide +kernel
theorem d_WO_run_49 : decode b_WO_run 49 = .ok (.getfield 10, 3) := by decide +kernel
theorem d_WO_run_52 : decode b_WO_run 52 = .ok (.iload_n 1, 1) := by decide +kernel
theorem d_WO_run_53 : decode b_WO_run 53 = .ok (.lload_n 2, 1) := by decide +kernel
theorem d_WO_run_54 : decode b_WO_run 54 = .ok (.aload_n 0, 1) := by decide +kernel
theorem d_WO_run_55 : decode b_WO_run 55 = .ok (.getfield 26, 3) := by decide +kernel
theorem d_WO_run_58 : decode b_WO_run 58 = .ok (.invokevirtual 108, 3) := by decide +kernel
theorem d_WO_run_61 : decode b_WO_run 61 = .ok (.aload_n 0, 1) := by decide +kernel
theorem d_WO_run_62 : decode b_WO_run 62 = .ok (.getfield 26, 3) := by decide +kernel
theorem d_WO_run_65 : decode b_WO_run 65 = .ok (.getfield 112, 3) := by decide +kernel
theorem d_WO_run_68 : decode b_WO_run 68 = .ok (.ireturn, 1) := by decide +kernel
theorem d_WO_proved_0 : decode b_WO_proved 0 = .ok (.aload_n 0, 1) := by decide +kernel
theorem d_WO_proved_1 : decode b_WO_proved 1 = .ok (.getfield 26, 3) := by decide +kernel
theorem d_WO_proved_4 : decode b_WO_proved 4 = .ok (.invokevirtual 116, 3) := by decide +kernel
theorem d_WO_proved_7 : decode b_WO_proved 7 = .ok (.ifCond .eq 17, 3) := by decide +kernel
theorem d_WO_proved_10 : decode b_WO_proved 10 = .ok (.aload_n 0, 1) := by decide +kernel
theorem d_WO_proved_11 : decode b_WO_proved 11 = .ok (.getfield 26, 3) := by decide +kernel
theorem d_WO_proved_14 : decode b_WO_proved 14 = .ok (.getfield 119, 3) := by decide +kernel
theorem d_WO_proved_17 : decode b_WO_proved 17 = .ok (.ifCond .eq 7, 3) := by decide +kernel
theorem d_WO_proved_20 : decode b_WO_proved 20 = .ok (.iconst 1, 1) := by decide +kernel
theorem d_WO_proved_21 : decode b_WO_proved 21 = .ok (.goto 4, 3) := by decide +kernel
theorem d_WO_proved_24 : decode b_WO_proved 24 = .ok (.iconst 0, 1) := by decide +kernel
theorem d_WO_proved_25 : decode b_WO_proved 25 = .ok (.ireturn, 1) := by decide +kernel
theorem d_WO_bound_0 : decode b_WO_bound 0 = .ok (.iload_n 1, 1) := by decide +kernel
theorem d_WO_bound_1 : decode b_WO_bound 1 = .ok (.invokestatic 123, 3) := by decide +kernel
theorem d_WO_bound_4 : decode b_WO_bound 4 = .ok (.ifCond .eq 14, 3) := by decide +kernel
theorem d_WO_bound_7 : decode b_WO_bound 7 = .ok (.aload_n 0, 1) := by decide +kernel
theorem d_WO_bound_8 : decode b_WO_bound 8 = .ok (.getfield 10, 3) := by decide +kernel
theorem d_WO_bound_11 : decode b_WO_bound 11 = .ok (.invokevirtual 101, 3) := by decide +kernel
theorem d_WO_bound_14 : decode b_WO_bound 14 = .ok (.iconst 2, 1) := by decide +kernel
theorem d_WO_bound_15 : decode b_WO_bound 15 = .ok (.if_icmp .ge 7, 3) := by decide +kernel
theorem d_WO_bound_18 : decode b_WO_bound 18 = .ok (.ldc2_w 126, 3) := by decide +kernel
theorem d_WO_bound_21 : decode b_WO_bound 21 = .ok (.lreturn, 1) := by decide +kernel
theorem d_WO_bound_22 : decode b_WO_bound 22 = .ok (.aload_n 0, 1) := by decide +kernel
theorem d_WO_bound_23 : decode b_WO_bound 23 = .ok (.getfield 10, 3) := by decide +kernel
theorem d_WO_bound_26 : decode b_WO_bound 26 = .ok (.invokevirtual 105, 3) := by decide +kernel
theorem d_WO_bound_29 : decode b_WO_bound 29 = .ok (.istore_n 2, 1) := by decide +kernel
theorem d_WO_bound_30 : decode b_WO_bound 30 = .ok (.iload_n 2, 1) := by decide +kernel
theorem d_WO_bound_31 : decode b_WO_bound 31 = .ok (.ifCond .ne 10, 3) := by decide +kernel
theorem d_WO_bound_34 : decode b_WO_bound 34 = .ok (.lconst 0, 1) := by decide +kernel
theorem d_WO_bound_35 : decode b_WO_bound 35 = .ok (.lconst 1, 1) := by decide +kernel
theorem d_WO_bound_36 : decode b_WO_bound 36 = .ok (.iload_n 1, 1) := by decide +kernel
theorem d_WO_bound_37 : decode b_WO_bound 37 = .ok (.invokestatic 128, 3) := by decide +kernel
theorem d_WO_bound_40 : decode b_WO_bound 40 = .ok (.lreturn, 1) := by decide +kernel
theorem d_WO_bound_41 : decode b_WO_bound 41 = .ok (.aload_n 0, 1) := by decide +kernel
theorem d_WO_bound_42 : decode b_WO_bound 42 = .ok (.getfield 10, 3) := by decide +kernel
theorem d_WO_bound_45 : decode b_WO_bound 45 = .ok (.iconst 0, 1) := by decide +kernel
theorem d_WO_bound_46 : decode b_WO_bound 46 = .ok (.invokevirtual 132, 3) := by decide +kernel
theorem d_WO_bound_49 : decode b_WO_bound 49 = .ok (.aload_n 0, 1) := by decide +kernel
theorem d_WO_bound_50 : decode b_WO_bound 50 = .ok (.getfield 10, 3) := by decide +kernel
theorem d_WO_bound_53 : decode b_WO_bound 53 = .ok (.iconst 1, 1) := by decide +kernel
theorem d_WO_bound_54 : decode b_WO_bound 54 = .ok (.invokevirtual 132, 3) := by decide +kernel
theorem d_WO_bound_57 : decode b_WO_bound 57 = .ok (.iadd, 1) := by decide +kernel
theorem d_WO_bound_58 : decode b_WO_bound 58 = .ok (.i2l, 1) := by decide +kernel
theorem d_WO_bound_59 : decode b_WO_bound 59 = .ok (.lstore_n 3, 1) := by decide +kernel
theorem d_WO_bound_60 : decode b_WO_bound 60 = .ok (.lload_n 3, 1) := by decide +kernel
theorem d_WO_bound_61 : decode b_WO_bound 61 = .ok (.aload_n 0, 1) := by decide +kernel
theorem d_WO_bound_62 : decode b_WO_bound 62 = .ok (.getfield 10, 3) := by decide +kernel
theorem d_WO_bound_65 : decode b_WO_bound 65 = .ok (.invokevirtual 135, 3) := by decide +kernel
theorem d_WO_bound_68 : decode b_WO_bound 68 = .ok (.i2l, 1) := by decide +kernel
theorem d_WO_bound_69 : decode b_WO_bound 69 = .ok (.lmul, 1) := by decide +kernel
theorem d_WO_bound_70 : decode b_WO_bound 70 = .ok (.iload_n 2, 1) := by decide +kernel
theorem d_WO_bound_71 : decode b_WO_bound 71 = .ok (.i2l, 1) := by decide +kernel
theorem d_WO_bound_72 : decode b_WO_bound 72 = .ok (.iload_n 1, 1) := by decide +kernel
theorem d_WO_bound_73 : decode b_WO_bound 73 = .ok (.invokestatic 128, 3) := by decide +kernel
theorem d_WO_bound_76 : decode b_WO_bound 76 = .ok (.lreturn, 1) := by decide +kernel
theorem d_WO_offset_0 : decode b_WO_offset 0 = .ok (.aload_n 0, 1) := by decide +kernel
theorem d_WO_offset_1 : decode b_WO_offset 1 = .ok (.iload_n 1, 1) := by decide +kernel
theorem d_WO_offset_2 : decode b_WO_offset 2 = .ok (.invokevirtual 138, 3) := by decide +kernel
theorem d_WO_offset_5 : decode b_WO_offset 5 = .ok (.ifCond .eq 14, 3) := by decide +kernel
theorem d_WO_offset_8 : decode b_WO_offset 8 = .ok (.aload_n 0, 1) := by decide +kernel
theorem d_WO_offset_9 : decode b_WO_offset 9 = .ok (.getfield 26, 3) := by decide +kernel
theorem d_WO_offset_12 : decode b_WO_offset 12 = .ok (.iload_n 1, 1) := by decide +kernel
theorem d_WO_offset_13 : decode b_WO_offset 13 = .ok (.invokevirtual 141, 3) := by decide +kernel
theorem d_WO_offset_16 : decode b_WO_offset 16 = .ok (.goto 4, 3) := by decide +kernel
theorem d_WO_offset_19 : decode b_WO_offset 19 = .ok (.iconst (-1), 1) := by decide +kernel
theorem d_WO_offset_20 : decode b_WO_offset 20 = .ok (.ireturn, 1) := by decide +kernel
theorem d_WO_green_0 : decode b_WO_green 0 = .ok (.aload_n 0, 1) := by decide +kernel
theorem d_WO_green_1 : decode b_WO_green 1 = .ok (.iload_n 1, 1) := by decide +kernel
theorem d_WO_green_2 : decode b_WO_green 2 = .ok (.invokevirtual 138, 3) := by decide +kernel
theorem d_WO_green_5 : decode b_WO_green 5 = .ok (.ifCond .ne 5, 3) := by decide +kernel
theorem d_WO_green_8 : decode b_WO_green 8 = .ok (.iconst (-1), 1) := by decide +kernel
theorem d_WO_green_9 : decode b_WO_green 9 = .ok (.ireturn, 1) := by decide +kernel
theorem d_WO_green_10 : decode b_WO_green 10 = .ok (.aload_n 0, 1) := by decide +kernel
theorem d_WO_green_11 : decode b_WO_green 11 = .ok (.getfield 26, 3) := by decide +kernel
theorem d_WO_green_14 : decode b_WO_green 14 = .ok (.iload_n 1, 1) := by decide +kernel
theorem d_WO_green_15 : decode b_WO_green 15 = .ok (.invokevirtual 141, 3) := by decide +kernel
theorem d_WO_green_18 : decode b_WO_green 18 = .ok (.istore_n 3, 1) := by decide +kernel
theorem d_WO_green_19 : decode b_WO_green 19 = .ok (.iload_n 2, 1) := by decide +kernel
theorem d_WO_green_20 : decode b_WO_green 20 = .ok (.tableswitch 82 0 2 #[28, 40, 61], 28) := by decide +kernel
theorem d_WO_green_48 : decode b_WO_green 48 = .ok (.iload_n 3, 1) := by decide +kernel
theorem d_WO_green_49 : decode b_WO_green 49 = .ok (.aload_n 0, 1) := by decide +kernel
theorem d_WO_green_50 : decode b_WO_green 50 = .ok (.getfield 26, 3) := by decide +kernel
theorem d_WO_green_53 : decode b_WO_green 53 = .ok (.getfield 112, 3) := by decide +kernel
theorem d_WO_green_56 : decode b_WO_green 56 = .ok (.invokestatic 144, 3) := by decide +kernel
theorem d_WO_green_59 : decode b_WO_green 59 = .ok (.ireturn, 1) := by decide +kernel
theorem d_WO_green_60 : decode b_WO_green 60 = .ok (.iload_n 3, 1) := by decide +kernel
theorem d_WO_green_61 : decode b_WO_green 61 = .ok (.aload_n 0, 1) := by decide +kernel
theorem d_WO_green_62 : decode b_WO_green 62 = .ok (.getfield 10, 3) := by decide +kernel
theorem d_WO_green_65 : decode b_WO_green 65 = .ok (.iload_n 1, 1) := by decide +kernel
theorem d_WO_green_66 : decode b_WO_green 66 = .ok (.invokevirtual 91, 3) := by decide +kernel
theorem d_WO_green_69 : decode b_WO_green 69 = .ok (.iadd, 1) := by decide +kernel
theorem d_WO_green_70 : decode b_WO_green 70 = .ok (.aload_n 0, 1) := by decide +kernel
theorem d_WO_green_71 : decode b_WO_green 71 = .ok (.getfield 26, 3) := by decide +kernel
theorem d_WO_green_74 : decode b_WO_green 74 = .ok (.getfield 112, 3) := by decide +kernel
theorem d_WO_green_77 : decode b_WO_green 77 = .ok (.invokestatic 144, 3) := by decide +kernel
theorem d_WO_green_80 : decode b_WO_green 80 = .ok (.ireturn, 1) := by decide +kernel
theorem d_WO_green_81 : decode b_WO_green 81 = .ok (.iload_n 3, 1) := by decide +kernel
theorem d_WO_green_82 : decode b_WO_green 82 = .ok (.aload_n 0, 1) := by decide +kernel
theorem d_WO_green_83 : decode b_WO_green 83 = .ok (.getfield 10, 3) := by decide +kernel
theorem d_WO_green_86 : decode b_WO_green 86 = .ok (.iload_n 1, 1) := by decide +kernel
theorem d_WO_green_87 : decode b_WO_green 87 = .ok (.invokevirtual 147, 3) := by decide +kernel
theorem d_WO_green_90 : decode b_WO_green 90 = .ok (.iadd, 1) := by decide +kernel
theorem d_WO_green_91 : decode b_WO_green 91 = .ok (.aload_n 0, 1) := by decide +kernel
theorem d_WO_green_92 : decode b_WO_green 92 = .ok (.getfield 26, 3) := by decide +kernel
theorem d_WO_green_95 : decode b_WO_green 95 = .ok (.getfield 112, 3) := by decide +kernel
theorem d_WO_green_98 : decode b_WO_green 98 = .ok (.invokestatic 144, 3) := by decide +kernel
theorem d_WO_green_101 : decode b_WO_green 101 = .ok (.ireturn, 1) := by decide +kernel
theorem d_WO_green_102 : decode b_WO_green 102 = .ok (.iconst (-1), 1) := by decide +kernel
theorem d_WO_green_103 : decode b_WO_green 103 = .ok (.ireturn, 1) := by decide +kernel
theorem d_WO_width_0 : decode b_WO_width 0 = .ok (.iload_n 1, 1) := by decide +kernel
theorem d_WO_width_1 : decode b_WO_width 1 = .ok (.i2l, 1) := by decide +kernel
theorem d_WO_width_2 : decode b_WO_width 2 = .ok (.lconst 0, 1) := by decide +kernel
theorem d_WO_width_3 : decode b_WO_width 3 = .ok (.lconst 1, 1) := by decide +kernel
theorem d_WO_width_4 : decode b_WO_width 4 = .ok (.invokestatic 48, 3) := by decide +kernel
theorem d_WO_width_7 : decode b_WO_width 7 = .ok (.ifCond .eq 20, 3) := by decide +kernel
theorem d_WO_width_10 : decode b_WO_width 10 = .ok (.iload_n 2, 1) := by decide +kernel
theorem d_WO_width_11 : decode b_WO_width 11 = .ok (.invokestatic 123, 3) := by decide +kernel
theorem d_WO_width_14 : decode b_WO_width 14 = .ok (.ifCond .eq 13, 3) := by decide +kernel
theorem d_WO_width_17 : decode b_WO_width 17 = .ok (.aload_n 0, 1) := by decide +kernel
theorem d_WO_width_18 : decode b_WO_width 18 = .ok (.getfield 26, 3) := by decide +kernel
theorem d_WO_width_21 : decode b_WO_width 21 = .ok (.invokevirtual 116, 3) := by decide +kernel
theorem d_WO_width_24 : decode b_WO_width 24 = .ok (.ifCond .ne 7, 3) := by decide +kernel
theorem d_WO_width_27 : decode b_WO_width 27 = .ok (.ldc2_w 126, 3) := by decide +kernel
theorem d_WO_width_30 : decode b_WO_width 30 = .ok (.lreturn, 1) := by decide +kernel
theorem d_WO_width_31 : decode b_WO_width 31 = .ok (.aload_n 0, 1) := by decide +kernel
theorem d_WO_width_32 : decode b_WO_width 32 = .ok (.iload_n 1, 1) := by decide +kernel
theorem d_WO_width_33 : decode b_WO_width 33 = .ok (.invokevirtual 150, 3) := by decide +kernel
theorem d_WO_width_36 : decode b_WO_width 36 = .ok (.i2l, 1) := by decide +kernel
theorem d_WO_width_37 : decode b_WO_width 37 = .ok (.aload_n 0, 1) := by decide +kernel
theorem d_WO_width_38 : decode b_WO_width 38 = .ok (.getfield 26, 3) := by decide +kernel
theorem d_WO_width_41 : decode b_WO_width 41 = .ok (.getfield 112, 3) := by decide +kernel
theorem d_WO_width_44 : decode b_WO_width 44 = .ok (.i2l, 1) := by decide +kernel
theorem d_WO_width_45 : decode b_WO_width 45 = .ok (.iload_n 2, 1) := by decide +kernel
theorem d_WO_width_46 : decode b_WO_width 46 = .ok (.invokestatic 128, 3) := by decide +kernel
theorem d_WO_width_49 : decode b_WO_width 49 = .ok (.lreturn, 1) := by decide +kernel
theorem d_WO_stops_0 : decode b_WO_stops 0 = .ok (.iload_n 1, 1) := by decide +kernel
theorem d_WO_stops_1 : decode b_WO_stops 1 = .ok (.invokestatic 123, 3) := by decide +kernel
theorem d_WO_stops_4 : decode b_WO_stops 4 = .ok (.ifCond .eq 13, 3) := by decide +kernel
theorem d_WO_stops_7 : decode b_WO_stops 7 = .ok (.aload_n 0, 1) := by decide +kernel
theorem d_WO_stops_8 : decode b_WO_stops 8 = .ok (.getfield 26, 3) := by decide +kernel
theorem d_WO_stops_11 : decode b_WO_stops 11 = .ok (.invokevirtual 116, 3) := by decide +kernel
theorem d_WO_stops_14 : decode b_WO_stops 14 = .ok (.ifCond .ne 7, 3) := by decide +kernel
theorem d_WO_stops_17 : decode b_WO_stops 17 = .ok (.ldc2_w 126, 3) := by decide +kernel
theorem d_WO_stops_20 : decode b_WO_stops 20 = .ok (.lreturn, 1) := by decide +kernel
theorem d_WO_stops_21 : decode b_WO_stops 21 = .ok (.aload_n 0, 1) := by decide +kernel
theorem d_WO_stops_22 : decode b_WO_stops 22 = .ok (.invokevirtual 153, 3) := by decide +kernel
theorem d_WO_stops_25 : decode b_WO_stops 25 = .ok (.aload_n 0, 1) := by decide +kernel
theorem d_WO_stops_26 : decode b_WO_stops 26 = .ok (.getfield 26, 3) := by decide +kernel
theorem d_WO_stops_29 : decode b_WO_stops 29 = .ok (.getfield 112, 3) := by decide +kernel
theorem d_WO_stops_32 : decode b_WO_stops 32 = .ok (.i2l, 1) := by decide +kernel
theorem d_WO_stops_33 : decode b_WO_stops 33 = .ok (.iload_n 1, 1) := by decide +kernel
theorem d_WO_stops_34 : decode b_WO_stops 34 = .ok (.invokestatic 128, 3) := by decide +kernel
theorem d_WO_stops_37 : decode b_WO_stops 37 = .ok (.lreturn, 1) := by decide +kernel
theorem d_WO_arrive_0 : decode b_WO_arrive 0 = .ok (.aload_n 0, 1) := by decide +kernel
theorem d_WO_arrive_1 : decode b_WO_arrive 1 = .ok (.getfield 10, 3) := by decide +kernel
theorem d_WO_arrive_4 : decode b_WO_arrive 4 = .ok (.iload_n 1, 1) := by decide +kernel
theorem d_WO_arrive_5 : decode b_WO_arrive 5 = .ok (.invokevirtual 67, 3) := by decide +kernel
theorem d_WO_arrive_8 : decode b_WO_arrive 8 = .ok (.ifCond .eq 38, 3) := by decide +kernel
theorem d_WO_arrive_11 : decode b_WO_arrive 11 = .ok (.iload_n 2, 1) := by decide +kernel
theorem d_WO_arrive_12 : decode b_WO_arrive 12 = .ok (.i2l, 1) := by decide +kernel
theorem d_WO_arrive_13 : decode b_WO_arrive 13 = .ok (.lconst 0, 1) := by decide +kernel
theorem d_WO_arrive_14 : decode b_WO_arrive 14 = .ok (.lconst 1, 1) := by decide +kernel
theorem d_WO_arrive_15 : decode b_WO_arrive 15 = .ok (.invokestatic 48, 3) := by decide +kernel
theorem d_WO_arrive_18 : decode b_WO_arrive 18 = .ok (.ifCond .eq 28, 3) := by decide +kernel
theorem d_WO_arrive_21 : decode b_WO_arrive 21 = .ok (.iload_n 3, 1) := by decide +kernel
theorem d_WO_arrive_22 : decode b_WO_arrive 22 = .ok (.i2l, 1) := by decide +kernel
theorem d_WO_arrive_23 : decode b_WO_arrive 23 = .ok (.lconst 0, 1) := by decide +kernel
theorem d_WO_arrive_24 : decode b_WO_arrive 24 = .ok (.ldc2_w 157, 3) := by decide +kernel
theorem d_WO_arrive_27 : decode b_WO_arrive 27 = .ok (.invokestatic 48, 3) := by decide +kernel
theorem d_WO_arrive_30 : decode b_WO_arrive 30 = .ok (.ifCond .eq 16, 3) := by decide +kernel
theorem d_WO_arrive_33 : decode b_WO_arrive 33 = .ok (.iload 4, 2) := by decide +kernel
theorem d_WO_arrive_35 : decode b_WO_arrive 35 = .ok (.i2l, 1) := by decide +kernel
theorem d_WO_arrive_36 : decode b_WO_arrive 36 = .ok (.lconst 1, 1) := by decide +kernel
theorem d_WO_arrive_37 : decode b_WO_arrive 37 = .ok (.ldc2_w 159, 3) := by decide +kernel
theorem d_WO_arrive_40 : decode b_WO_arrive 40 = .ok (.invokestatic 48, 3) := by decide +kernel
theorem d_WO_arrive_43 : decode b_WO_arrive 43 = .ok (.ifCond .ne 5, 3) := by decide +kernel
theorem d_WO_arrive_46 : decode b_WO_arrive 46 = .ok (.iconst 0, 1) := by decide +kernel
theorem d_WO_arrive_47 : decode b_WO_arrive 47 = .ok (.ireturn, 1) := by decide +kernel
theorem d_WO_arrive_48 : decode b_WO_arrive 48 = .ok (.iload_n 2, 1) := by decide +kernel
theorem d_WO_arrive_49 : decode b_WO_arrive 49 = .ok (.ifCond .ne 9, 3) := by decide +kernel
theorem d_WO_arrive_52 : decode b_WO_arrive 52 = .ok (.iload_n 1, 1) := by decide +kernel
theorem d_WO_arrive_53 : decode b_WO_arrive 53 = .ok (.iconst 1, 1) := by decide +kernel
theorem d_WO_arrive_54 : decode b_WO_arrive 54 = .ok (.iadd, 1) := by decide +kernel
theorem d_WO_arrive_55 : decode b_WO_arrive 55 = .ok (.goto 6, 3) := by decide +kernel
theorem d_WO_arrive_58 : decode b_WO_arrive 58 = .ok (.iload_n 1, 1) := by decide +kernel
theorem d_WO_arrive_59 : decode b_WO_arrive 59 = .ok (.iconst 1, 1) := by decide +kernel
theorem d_WO_arrive_60 : decode b_WO_arrive 60 = .ok (.isub, 1) := by decide +kernel
theorem d_WO_arrive_61 : decode b_WO_arrive 61 = .ok (.istore 5, 2) := by decide +kernel
theorem d_WO_arrive_63 : decode b_WO_arrive 63 = .ok (.aload_n 0, 1) := by decide +kernel
theorem d_WO_arrive_64 : decode b_WO_arrive 64 = .ok (.getfield 10, 3) := by decide +kernel
theorem d_WO_arrive_67 : decode b_WO_arrive 67 = .ok (.iload 5, 2) := by decide +kernel
theorem d_WO_arrive_69 : decode b_WO_arrive 69 = .ok (.invokevirtual 67, 3) := by decide +kernel
theorem d_WO_arrive_72 : decode b_WO_arrive 72 = .ok (.ifCond .eq 22, 3) := by decide +kernel
theorem d_WO_arrive_75 : decode b_WO_arrive 75 = .ok (.aload_n 0, 1) := by decide +kernel
theorem d_WO_arrive_76 : decode b_WO_arrive 76 = .ok (.getfield 40, 3) := by decide +kernel
theorem d_WO_arrive_79 : decode b_WO_arrive 79 = .ok (.iload 5, 2) := by decide +kernel
theorem d_WO_arrive_81 : decode b_WO_arrive 81 = .ok (.iload_n 3, 1) := by decide +kernel
theorem d_WO_arrive_82 : decode b_WO_arrive 82 = .ok (.iload 4, 2) := by decide +kernel
theorem d_WO_arrive_84 : decode b_WO_arrive 84 = .ok (.invokevirtual 161, 3) := by decide +kernel
theorem d_WO_arrive_87 : decode b_WO_arrive 87 = .ok (.ifCond .eq 7, 3) := by decide +kernel
theorem d_WO_arrive_90 : decode b_WO_arrive 90 = .ok (.iconst 1, 1) := by decide +kernel
theorem d_WO_arrive_91 : decode b_WO_arrive 91 = .ok (.goto 4, 3) := by decide +kernel
theorem d_WO_arrive_94 : decode b_WO_arrive 94 = .ok (.iconst 0, 1) := by decide +kernel
theorem d_WO_arrive_95 : decode b_WO_arrive 95 = .ok (.ireturn, 1) := by decide +kernel
theorem d_WO_delay_0 : decode b_WO_delay 0 = .ok (.iload_n 1, 1) := by decide +kernel
theorem d_WO_delay_1 : decode b_WO_delay 1 = .ok (.invokestatic 123, 3) := by decide +kernel
theorem d_WO_delay_4 : decode b_WO_delay 4 = .ok (.ifCond .eq 13, 3) := by decide +kernel
theorem d_WO_delay_7 : decode b_WO_delay 7 = .ok (.aload_n 0, 1) := by decide +kernel
theorem d_WO_delay_8 : decode b_WO_delay 8 = .ok (.getfield 26, 3) := by decide +kernel
theorem d_WO_delay_11 : decode b_WO_delay 11 = .ok (.invokevirtual 116, 3) := by decide +kernel
theorem d_WO_delay_14 : decode b_WO_delay 14 = .ok (.ifCond .ne 7, 3) := by decide +kernel
theorem d_WO_delay_17 : decode b_WO_delay 17 = .ok (.ldc2_w 126, 3) := by decide +kernel
theorem d_WO_delay_20 : decode b_WO_delay 20 = .ok (.lreturn, 1) := by decide +kernel
theorem d_WO_delay_21 : decode b_WO_delay 21 = .ok (.iload_n 1, 1) := by decide +kernel
theorem d_WO_delay_22 : decode b_WO_delay 22 = .ok (.ifCond .ne 21, 3) := by decide +kernel
theorem d_WO_delay_25 : decode b_WO_delay 25 = .ok (.aload_n 0, 1) := by decide +kernel
theorem d_WO_delay_26 : decode b_WO_delay 26 = .ok (.getfield 40, 3) := by decide +kernel
theorem d_WO_delay_29 : decode b_WO_delay 29 = .ok (.aload_n 0, 1) := by decide +kernel
theorem d_WO_delay_30 : decode b_WO_delay 30 = .ok (.getfield 10, 3) := by decide +kernel
theorem d_WO_delay_33 : decode b_WO_delay 33 = .ok (.aload_n 0, 1) := by decide +kernel
theorem d_WO_delay_34 : decode b_WO_delay 34 = .ok (.getfield 26, 3) := by decide +kernel
theorem d_WO_delay_37 : decode b_WO_delay 37 = .ok (.invokevirtual 165, 3) := by decide +kernel
theorem d_WO_delay_40 : decode b_WO_delay 40 = .ok (.goto 18, 3) := by decide +kernel
theorem d_WO_delay_43 : decode b_WO_delay 43 = .ok (.aload_n 0, 1) := by decide +kernel
theorem d_WO_delay_44 : decode b_WO_delay 44 = .ok (.getfield 40, 3) := by decide +kernel
theorem d_WO_delay_47 : decode b_WO_delay 47 = .ok (.aload_n 0, 1) := by decide +kernel
theorem d_WO_delay_48 : decode b_WO_delay 48 = .ok (.getfield 10, 3) := by decide +kernel
theorem d_WO_delay_51 : decode b_WO_delay 51 = .ok (.aload_n 0, 1) := by decide +kernel
theorem d_WO_delay_52 : decode b_WO_delay 52 = .ok (.getfield 26, 3) := by decide +kernel
theorem d_WO_delay_55 : decode b_WO_delay 55 = .ok (.invokevirtual 169, 3) := by decide +kernel
theorem d_WO_delay_58 : decode b_WO_delay 58 = .ok (.lreturn, 1) := by decide +kernel
theorem d_WO_command_0 : decode b_WO_command 0 = .ok (.aload_n 0, 1) := by decide +kernel
theorem d_WO_command_1 : decode b_WO_command 1 = .ok (.iload_n 1, 1) := by decide +kernel
theorem d_WO_command_2 : decode b_WO_command 2 = .ok (.invokevirtual 138, 3) := by decide +kernel
theorem d_WO_command_5 : decode b_WO_command 5 = .ok (.ifCond .eq 15, 3) := by decide +kernel
theorem d_WO_command_8 : decode b_WO_command 8 = .ok (.iload_n 2, 1) := by decide +kernel
theorem d_WO_command_9 : decode b_WO_command 9 = .ok (.i2l, 1) := by decide +kernel
theorem d_WO_command_10 : decode b_WO_command 10 = .ok (.lconst 0, 1) := by decide +kernel
theorem d_WO_command_11 : decode b_WO_command 11 = .ok (.ldc2_w 157, 3) := by decide +kernel
theorem d_WO_command_14 : decode b_WO_command 14 = .ok (.invokestatic 48, 3) := by decide +kernel
theorem d_WO_command_17 : decode b_WO_command 17 = .ok (.ifCond .ne 5, 3) := by decide +kernel
theorem d_WO_command_20 : decode b_WO_command 20 = .ok (.iconst (-1), 1) := by decide +kernel
theorem d_WO_command_21 : decode b_WO_command 21 = .ok (.ireturn, 1) := by decide +kernel
theorem d_WO_command_22 : decode b_WO_command 22 = .ok (.aload_n 0, 1) := by decide +kernel
theorem d_WO_command_23 : decode b_WO_command 23 = .ok (.getfield 26, 3) := by decide +kernel
theorem d_WO_command_26 : decode b_WO_command 26 = .ok (.iload_n 1, 1) := by decide +kernel
theorem d_WO_command_27 : decode b_WO_command 27 = .ok (.invokevirtual 141, 3) := by decide +kernel
theorem d_WO_command_30 : decode b_WO_command 30 = .ok (.iload_n 2, 1) := by decide +kernel
theorem d_WO_command_31 : decode b_WO_command 31 = .ok (.iconst 1, 1) := by decide +kernel
theorem d_WO_command_32 : decode b_WO_command 32 = .ok (.ishr, 1) := by decide +kernel
theorem d_WO_command_33 : decode b_WO_command 33 = .ok (.aload_n 0, 1) := by decide +kernel
theorem d_WO_command_34 : decode b_WO_command 34 = .ok (.getfield 26, 3) := by decide +kernel
theorem d_WO_command_37 : decode b_WO_command 37 = .ok (.getfield 112, 3) := by decide +kernel
theorem d_WO_command_40 : decode b_WO_command 40 = .ok (.imul, 1) := by decide +kernel
theorem d_WO_command_41 : decode b_WO_command 41 = .ok (.iadd, 1) := by decide +kernel
theorem d_WO_command_42 : decode b_WO_command 42 = .ok (.istore_n 3, 1) := by decide +kernel
theorem d_WO_command_43 : decode b_WO_command 43 = .ok (.iload_n 2, 1) := by decide +kernel
theorem d_WO_command_44 : decode b_WO_command 44 = .ok (.iconst 1, 1) := by decide +kernel
theorem d_WO_command_45 : decode b_WO_command 45 = .ok (.iand, 1) := by decide +kernel
theorem d_WO_command_46 : decode b_WO_command 46 = .ok (.ifCond .ne 7, 3) := by decide +kernel
theorem d_WO_command_49 : decode b_WO_command 49 = .ok (.iload_n 3, 1) := by decide +kernel
theorem d_WO_command_50 : decode b_WO_command 50 = .ok (.goto 13, 3) := by decide +kernel
theorem d_WO_command_53 : decode b_WO_command 53 = .ok (.iload_n 3, 1) := by decide +kernel
theorem d_WO_command_54 : decode b_WO_command 54 = .ok (.aload_n 0, 1) := by decide +kernel
theorem d_WO_command_55 : decode b_WO_command 55 = .ok (.getfield 10, 3) := by decide +kernel
theorem d_WO_command_58 : decode b_WO_command 58 = .ok (.iload_n 1, 1) := by decide +kernel
theorem d_WO_command_59 : decode b_WO_command 59 = .ok (.invokevirtual 91, 3) := by decide +kernel
theorem d_WO_command_62 : decode b_WO_command 62 = .ok (.iadd, 1) := by decide +kernel
theorem d_WO_command_63 : decode b_WO_command 63 = .ok (.ireturn, 1) := by decide +kernel
theorem d_WO_fits_0 : decode b_WO_fits 0 = .ok (.aload_n 0, 1) := by decide +kernel
theorem d_WO_fits_1 : decode b_WO_fits 1 = .ok (.iload_n 1, 1) := by decide +kernel
theorem d_WO_fits_2 : decode b_WO_fits 2 = .ok (.invokevirtual 138, 3) := by decide +kernel
theorem d_WO_fits_5 : decode b_WO_fits 5 = .ok (.ifCond .eq 25, 3) := by decide +kernel
theorem d_WO_fits_8 : decode b_WO_fits 8 = .ok (.aload_n 0, 1) := by decide +kernel
theorem d_WO_fits_9 : decode b_WO_fits 9 = .ok (.getfield 10, 3) := by decide +kernel
theorem d_WO_fits_12 : decode b_WO_fits 12 = .ok (.iload_n 1, 1) := by decide +kernel
theorem d_WO_fits_13 : decode b_WO_fits 13 = .ok (.invokevirtual 189, 3) := by decide +kernel
theorem d_WO_fits_16 : decode b_WO_fits 16 = .ok (.aload_n 0, 1) := by decide +kernel
theorem d_WO_fits_17 : decode b_WO_fits 17 = .ok (.getfield 26, 3) := by decide +kernel
theorem d_WO_fits_20 : decode b_WO_fits 20 = .ok (.getfield 112, 3) := by decide +kernel
theorem d_WO_fits_23 : decode b_WO_fits 23 = .ok (.if_icmp .gt 7, 3) := by decide +kernel
theorem d_WO_fits_26 : decode b_WO_fits 26 = .ok (.iconst 1, 1) := by decide +kernel
theorem d_WO_fits_27 : decode b_WO_fits 27 = .ok (.goto 4, 3) := by decide +kernel
theorem d_WO_fits_30 : decode b_WO_fits 30 = .ok (.iconst 0, 1) := by decide +kernel
theorem d_WO_fits_31 : decode b_WO_fits 31 = .ok (.ireturn, 1) := by decide +kernel
set_option maxRecDepth 50000 in
theorem lk_228 : Cond.fieldLink R_WO 10 "WaveOffsets" "road" "LWaveOffsets$Road;" ∈ lw_good := List.mem_filter.mpr ⟨List.mem_append_right _ (List.mem_of_getElem? (i := 205) (by decide +kernel)), rfl⟩
set_option maxRecDepth 50000 in
theorem lk_229 : Cond.methodLink R_WO 67 y_Road_has ∈ lw_good := List.mem_filter.mpr ⟨List.mem_append_right _ (List.mem_of_getElem? (i := 249) (by decide +kernel)), rfl⟩
set_option maxRecDepth 50000 in
theorem lk_230 : Cond.fieldLink R_WO 26 "WaveOffsets" "atHand" "LWaveOffsets$Plan;" ∈ lw_good := List.mem_filter.mpr ⟨List.mem_append_right _ (List.mem_of_getElem? (i := 207) (by decide +kernel)), rfl⟩
set_option maxRecDepth 50000 in
theorem lk_231 : Cond.methodLink R_WO 116 y_Plan_isMade ∈ lw_good := List.mem_filter.mpr ⟨List.mem_append_right _ (List.mem_of_getElem? (i := 453) (by decide +kernel)), rfl⟩
set_option maxRecDepth 50000 in
theorem lk_232 : Cond.methodLink R_WO 101 y_Road_size ∈ lw_good := List.mem_filter.mpr ⟨List.mem_append_right _ (List.mem_of_getElem? (i := 298) (by decide +kernel)), rfl⟩
set_option maxRecDepth 50000 in
theorem lk_233 : Cond.methodLink R_WO 141 y_Plan_offsetOf ∈ lw_good := List.mem_filter.mpr ⟨List.mem_append_right _ (List.mem_of_getElem? (i := 481) (by decide +kernel)), rfl⟩
set_option maxRecDepth 50000 in
theorem lk_234 : Cond.fieldLinkNest R_WO 112 "WaveOffsets$Plan" "cycle" "I" "WaveOffsets" ∈ lw_nest := List.mem_filter.mpr ⟨List.mem_append_right _ (List.mem_of_getElem? (i := 156) (by decide +kernel)), rfl⟩
set_option maxRecDepth 50000 in
theorem lk_235 : Cond.methodLink R_WO 201 y_Road_openFrom ∈ lw_good := List.mem_filter.mpr ⟨List.mem_append_right _ (List.mem_of_getElem? (i := 499) (by decide +kernel)), rfl⟩
set_option maxRecDepth 50000 in
theorem lk_236 : Cond.methodLink R_WO 205 y_Road_openOf ∈ lw_good := List.mem_filter.mpr ⟨List.mem_append_right _ (List.mem_of_getElem? (i := 500) (by decide +kernel)), rfl⟩
set_option maxRecDepth 50000 in
theorem lk_237 : Cond.methodLink R_WO 208 y_WO_arcBits ∈ lw_good := List.mem_filter.mpr ⟨List.mem_append_right _ (List.mem_of_getElem? (i := 501) (by decide +kernel)), rfl⟩
set_option maxRecDepth 50000 in
theorem lk_238 : Cond.methodLink R_WO 212 y_Long_bitCount ∈ lw_good := List.mem_filter.mpr ⟨List.mem_append_right _ (List.mem_of_getElem? (i := 502) (by decide +kernel)), rfl⟩
set_option maxRecDepth 50000 in
theorem lk_239 : Cond.methodLink R_WO 218 y_Road_stopsBefore ∈ lw_good := List.mem_filter.mpr ⟨List.mem_append_right _ (List.mem_of_getElem? (i := 511) (by decide +kernel)), rfl⟩
set_option maxRecDepth 50000 in
theorem lk_240 : Cond.constantLong R_WO 44 5 ∈ lw_good := List.mem_filter.mpr ⟨List.mem_append_right _ (List.mem_of_getElem? (i := 225) (by decide +kernel)), rfl⟩
set_option maxRecDepth 50000 in
theorem lk_241 : Cond.constantLong R_WO 46 90 ∈ lw_good := List.mem_filter.mpr ⟨List.mem_append_right _ (List.mem_of_getElem? (i := 226) (by decide +kernel)), rfl⟩
set_option maxRecDepth 50000 in
theorem lk_242 : Cond.methodLink R_WO 48 y_WO_within ∈ lw_good := List.mem_filter.mpr ⟨List.mem_append_right _ (List.mem_of_getElem? (i := 227) (by decide +kernel)), rfl⟩
set_option maxRecDepth 50000 in
theorem lk_243 : Cond.constantLong R_WO 52 10 ∈ lw_good := List.mem_filter.mpr ⟨List.mem_append_right _ (List.mem_of_getElem? (i := 230) (by decide +kernel)), rfl⟩
set_option maxRecDepth 50000 in
theorem lk_244 : Cond.constantLong R_WO 54 120 ∈ lw_good := List.mem_filter.mpr ⟨List.mem_append_right _ (List.mem_of_getElem? (i := 231) (by decide +kernel)), rfl⟩
set_option maxRecDepth 50000 in
theorem lk_245 : Cond.methodLink R_WO 56 y_Road_isFull ∈ lw_good := List.mem_filter.mpr ⟨List.mem_append_right _ (List.mem_of_getElem? (i := 232) (by decide +kernel)), rfl⟩
set_option maxRecDepth 50000 in
theorem lk_246 : Cond.methodLink R_WO 60 y_Plan_clear ∈ lw_good := List.mem_filter.mpr ⟨List.mem_append_right _ (List.mem_of_getElem? (i := 236) (by decide +kernel)), rfl⟩
set_option maxRecDepth 50000 in
theorem lk_247 : Cond.methodLink R_WO 63 y_Road_addCrossing ∈ lw_good := List.mem_filter.mpr ⟨List.mem_append_right _ (List.mem_of_getElem? (i := 240) (by decide +kernel)), rfl⟩
set_option maxRecDepth 50000 in
theorem lk_248 : Cond.code y_Road_addCrossing b_Road_addCrossing 3 (some .int) ∈ lw_good := List.mem_filter.mpr ⟨List.mem_append_right _ (List.mem_of_getElem? (i := 243) rfl), rfl⟩
set_option maxRecDepth 50000 in
theorem lk_249 : Cond.instanceMethod y_Road_addCrossing ∈ lw_good := List.mem_filter.mpr ⟨List.mem_append_right _ (List.mem_of_getElem? (i := 241) (by decide +kernel)), rfl⟩
set_option maxRecDepth 50000 in
theorem lk_250 : Cond.selects R_Road y_Road_addCrossing y_Road_addCrossing ∈ lw_good := List.mem_filter.mpr ⟨List.mem_append_right _ (List.mem_of_getElem? (i := 242) (by decide +kernel)), rfl⟩
set_option maxRecDepth 50000 in
theorem lk_251 : Cond.constantLong R_WO 71 200 ∈ lw_good := List.mem_filter.mpr ⟨List.mem_append_right _ (List.mem_of_getElem? (i := 253) (by decide +kernel)), rfl⟩
set_option maxRecDepth 50000 in
theorem lk_252 : Cond.constantLong R_WO 73 100 ∈ lw_good := List.mem_filter.mpr ⟨List.mem_append_right _ (List.mem_of_getElem? (i := 254) (by decide +kernel)), rfl⟩
set_option maxRecDepth 50000 in
theorem lk_253 : Cond.methodLink R_WO 75 y_Road_tellStreet ∈ lw_good := List.mem_filter.mpr ⟨List.mem_append_right _ (List.mem_of_getElem? (i := 255) (by decide +kernel)), rfl⟩
set_option maxRecDepth 50000 in
theorem lk_254 : Cond.code y_Road_tellStreet b_Road_tellStreet 5 none ∈ lw_good := List.mem_filter.mpr ⟨List.mem_append_right _ (List.mem_of_getElem? (i := 258) rfl), rfl⟩
set_option maxRecDepth 50000 in
theorem lk_255 : Cond.instanceMethod y_Road_tellStreet ∈ lw_good := List.mem_filter.mpr ⟨List.mem_append_right _ (List.mem_of_getElem? (i := 256) (by decide +kernel)), rfl⟩
set_option maxRecDepth 50000 in
theorem lk_256 : Cond.selects R_Road y_Road_tellStreet y_Road_tellStreet ∈ lw_good := List.mem_filter.mpr ⟨List.mem_append_right _ (List.mem_of_getElem? (i := 257) (by decide +kernel)), rfl⟩
set_option maxRecDepth 50000 in
theorem lk_257 : Cond.constantLong R_WO 79 110 ∈ lw_good := List.mem_filter.mpr ⟨List.mem_append_right _ (List.mem_of_getElem? (i := 267) (by decide +kernel)), rfl⟩
set_option maxRecDepth 50000 in
theorem lk_258 : Cond.methodLink R_WO 81 y_Road_tellCycles ∈ lw_good := List.mem_filter.mpr ⟨List.mem_append_right _ (List.mem_of_getElem? (i := 268) (by decide +kernel)), rfl⟩
set_option maxRecDepth 50000 in
theorem lk_259 : Cond.code y_Road_tellCycles b_Road_tellCycles 4 none ∈ lw_good := List.mem_filter.mpr ⟨List.mem_append_right _ (List.mem_of_getElem? (i := 271) rfl), rfl⟩
set_option maxRecDepth 50000 in
theorem lk_260 : Cond.instanceMethod y_Road_tellCycles ∈ lw_good := List.mem_filter.mpr ⟨List.mem_append_right _ (List.mem_of_getElem? (i := 269) (by decide +kernel)), rfl⟩
set_option maxRecDepth 50000 in
theorem lk_261 : Cond.selects R_Road y_Road_tellCycles y_Road_tellCycles ∈ lw_good := List.mem_filter.mpr ⟨List.mem_append_right _ (List.mem_of_getElem? (i := 270) (by decide +kernel)), rfl⟩
set_option maxRecDepth 50000 in
theorem lk_262 : Cond.constantLong R_WO 85 60 ∈ lw_good := List.mem_filter.mpr ⟨List.mem_append_right _ (List.mem_of_getElem? (i := 276) (by decide +kernel)), rfl⟩
set_option maxRecDepth 50000 in
theorem lk_263 : Cond.methodLink R_WO 87 y_Road_tellStep ∈ lw_good := List.mem_filter.mpr ⟨List.mem_append_right _ (List.mem_of_getElem? (i := 277) (by decide +kernel)), rfl⟩
set_option maxRecDepth 50000 in
theorem lk_264 : Cond.code y_Road_tellStep b_Road_tellStep 2 none ∈ lw_good := List.mem_filter.mpr ⟨List.mem_append_right _ (List.mem_of_getElem? (i := 280) rfl), rfl⟩
set_option maxRecDepth 50000 in
theorem lk_265 : Cond.instanceMethod y_Road_tellStep ∈ lw_good := List.mem_filter.mpr ⟨List.mem_append_right _ (List.mem_of_getElem? (i := 278) (by decide +kernel)), rfl⟩
set_option maxRecDepth 50000 in
theorem lk_266 : Cond.selects R_Road y_Road_tellStep y_Road_tellStep ∈ lw_good := List.mem_filter.mpr ⟨List.mem_append_right _ (List.mem_of_getElem? (i := 279) (by decide +kernel)), rfl⟩
set_option maxRecDepth 50000 in
theorem lk_267 : Cond.methodLink R_WO 91 y_Road_greenOf ∈ lw_good := List.mem_filter.mpr ⟨List.mem_append_right _ (List.mem_of_getElem? (i := 285) (by decide +kernel)), rfl⟩
set_option maxRecDepth 50000 in
theorem lk_268 : Cond.methodLink R_WO 95 y_Road_tellQueue ∈ lw_good := List.mem_filter.mpr ⟨List.mem_append_right _ (List.mem_of_getElem? (i := 289) (by decide +kernel)), rfl⟩
set_option maxRecDepth 50000 in
theorem lk_269 : Cond.code y_Road_tellQueue b_Road_tellQueue 3 none ∈ lw_good := List.mem_filter.mpr ⟨List.mem_append_right _ (List.mem_of_getElem? (i := 292) rfl), rfl⟩
set_option maxRecDepth 50000 in
theorem lk_270 : Cond.instanceMethod y_Road_tellQueue ∈ lw_good := List.mem_filter.mpr ⟨List.mem_append_right _ (List.mem_of_getElem? (i := 290) (by decide +kernel)), rfl⟩
set_option maxRecDepth 50000 in
theorem lk_271 : Cond.selects R_Road y_Road_tellQueue y_Road_tellQueue ∈ lw_good := List.mem_filter.mpr ⟨List.mem_append_right _ (List.mem_of_getElem? (i := 291) (by decide +kernel)), rfl⟩
set_option maxRecDepth 50000 in
theorem lk_272 : Cond.constantLong R_WO 99 200000 ∈ lw_good := List.mem_filter.mpr ⟨List.mem_append_right _ (List.mem_of_getElem? (i := 297) (by decide +kernel)), rfl⟩
set_option maxRecDepth 50000 in
theorem lk_273 : Cond.methodLink R_WO 105 y_Road_shortestCycle ∈ lw_good := List.mem_filter.mpr ⟨List.mem_append_right _ (List.mem_of_getElem? (i := 302) (by decide +kernel)), rfl⟩
set_option maxRecDepth 50000 in
theorem lk_274 : Cond.code y_Road_shortestCycle b_Road_shortestCycle 2 (some .int) ∈ lw_good := List.mem_filter.mpr ⟨List.mem_append_right _ (List.mem_of_getElem? (i := 305) rfl), rfl⟩
set_option maxRecDepth 50000 in
theorem lk_275 : Cond.instanceMethod y_Road_shortestCycle ∈ lw_good := List.mem_filter.mpr ⟨List.mem_append_right _ (List.mem_of_getElem? (i := 303) (by decide +kernel)), rfl⟩
set_option maxRecDepth 50000 in
theorem lk_276 : Cond.selects R_Road y_Road_shortestCycle y_Road_shortestCycle ∈ lw_good := List.mem_filter.mpr ⟨List.mem_append_right _ (List.mem_of_getElem? (i := 304) (by decide +kernel)), rfl⟩
set_option maxRecDepth 50000 in
theorem lk_277 : Cond.fieldLink R_WO 19 "WaveOffsets" "search" "LWaveOffsets$Search;" ∈ lw_good := List.mem_filter.mpr ⟨List.mem_append_right _ (List.mem_of_getElem? (i := 206) (by decide +kernel)), rfl⟩
set_option maxRecDepth 50000 in
theorem lk_278 : Cond.methodLink R_WO 108 y_Srch_findBest ∈ lw_good := List.mem_filter.mpr ⟨List.mem_append_right _ (List.mem_of_getElem? (i := 316) (by decide +kernel)), rfl⟩
set_option maxRecDepth 50000 in
theorem lk_279 : Cond.code y_Srch_findBest b_Srch_findBest 8 none ∈ lw_good := List.mem_filter.mpr ⟨List.mem_append_right _ (List.mem_of_getElem? (i := 319) rfl), rfl⟩
set_option maxRecDepth 50000 in
theorem lk_280 : Cond.instanceMethod y_Srch_findBest ∈ lw_good := List.mem_filter.mpr ⟨List.mem_append_right _ (List.mem_of_getElem? (i := 317) (by decide +kernel)), rfl⟩
set_option maxRecDepth 50000 in
theorem lk_281 : Cond.selects R_Srch y_Srch_findBest y_Srch_findBest ∈ lw_good := List.mem_filter.mpr ⟨List.mem_append_right _ (List.mem_of_getElem? (i := 318) (by decide +kernel)), rfl⟩
set_option maxRecDepth 50000 in
theorem lk_282 : Cond.fieldLinkNest R_WO 119 "WaveOffsets$Plan" "sawAll" "Z" "WaveOffsets" ∈ lw_nest := List.mem_filter.mpr ⟨List.mem_append_right _ (List.mem_of_getElem? (i := 162) (by decide +kernel)), rfl⟩
set_option maxRecDepth 50000 in
theorem lk_283 : Cond.methodLink R_WO 123 y_WO_isPart ∈ lw_good := List.mem_filter.mpr ⟨List.mem_append_right _ (List.mem_of_getElem? (i := 458) (by decide +kernel)), rfl⟩
set_option maxRecDepth 50000 in
theorem lk_284 : Cond.code y_WO_isPart b_WO_isPart 1 (some .boolean) ∈ lw_good := List.mem_filter.mpr ⟨List.mem_append_right _ (List.mem_of_getElem? (i := 460) rfl), rfl⟩
set_option maxRecDepth 50000 in
theorem lk_285 : Cond.static y_WO_isPart ∈ lw_good := List.mem_filter.mpr ⟨List.mem_append_right _ (List.mem_of_getElem? (i := 459) (by decide +kernel)), rfl⟩
set_option maxRecDepth 50000 in
theorem lk_286 : Cond.methodLink R_WO 132 y_Road_weightOf ∈ lw_good := List.mem_filter.mpr ⟨List.mem_append_right _ (List.mem_of_getElem? (i := 467) (by decide +kernel)), rfl⟩
set_option maxRecDepth 50000 in
theorem lk_287 : Cond.methodLink R_WO 135 y_Road_leastOpen ∈ lw_good := List.mem_filter.mpr ⟨List.mem_append_right _ (List.mem_of_getElem? (i := 468) (by decide +kernel)), rfl⟩
set_option maxRecDepth 50000 in
theorem lk_288 : Cond.code y_Road_leastOpen b_Road_leastOpen 3 (some .int) ∈ lw_good := List.mem_filter.mpr ⟨List.mem_append_right _ (List.mem_of_getElem? (i := 471) rfl), rfl⟩
set_option maxRecDepth 50000 in
theorem lk_289 : Cond.instanceMethod y_Road_leastOpen ∈ lw_good := List.mem_filter.mpr ⟨List.mem_append_right _ (List.mem_of_getElem? (i := 469) (by decide +kernel)), rfl⟩
set_option maxRecDepth 50000 in
theorem lk_290 : Cond.selects R_Road y_Road_leastOpen y_Road_leastOpen ∈ lw_good := List.mem_filter.mpr ⟨List.mem_append_right _ (List.mem_of_getElem? (i := 470) (by decide +kernel)), rfl⟩
set_option maxRecDepth 50000 in
theorem lk_291 : Cond.methodLink R_WO 128 y_WO_leastTerms ∈ lw_good := List.mem_filter.mpr ⟨List.mem_append_right _ (List.mem_of_getElem? (i := 461) (by decide +kernel)), rfl⟩
set_option maxRecDepth 50000 in
theorem lk_292 : Cond.code y_WO_leastTerms b_WO_leastTerms 7 (some .long) ∈ lw_good := List.mem_filter.mpr ⟨List.mem_append_right _ (List.mem_of_getElem? (i := 463) rfl), rfl⟩
set_option maxRecDepth 50000 in
theorem lk_293 : Cond.static y_WO_leastTerms ∈ lw_good := List.mem_filter.mpr ⟨List.mem_append_right _ (List.mem_of_getElem? (i := 462) (by decide +kernel)), rfl⟩
set_option maxRecDepth 50000 in
theorem lk_294 : Cond.methodLink R_WO 138 y_WO_isPlanned ∈ lw_good := List.mem_filter.mpr ⟨List.mem_append_right _ (List.mem_of_getElem? (i := 477) (by decide +kernel)), rfl⟩
set_option maxRecDepth 50000 in
theorem lk_295 : Cond.code y_WO_isPlanned b_WO_isPlanned 2 (some .boolean) ∈ lw_good := List.mem_filter.mpr ⟨List.mem_append_right _ (List.mem_of_getElem? (i := 480) rfl), rfl⟩
set_option maxRecDepth 50000 in
theorem lk_296 : Cond.instanceMethod y_WO_isPlanned ∈ lw_good := List.mem_filter.mpr ⟨List.mem_append_right _ (List.mem_of_getElem? (i := 479) (by decide +kernel)), rfl⟩
set_option maxRecDepth 50000 in
theorem lk_297 : Cond.selects R_WO y_WO_isPlanned y_WO_isPlanned ∈ lw_good := List.mem_filter.mpr ⟨List.mem_append_left _ (List.mem_of_getElem? (i := 5) (by decide +kernel)), rfl⟩
set_option maxRecDepth 50000 in
theorem lk_298 : Cond.methodLink R_WO 144 y_WO_wrap ∈ lw_good := List.mem_filter.mpr ⟨List.mem_append_right _ (List.mem_of_getElem? (i := 489) (by decide +kernel)), rfl⟩
set_option maxRecDepth 50000 in
theorem lk_299 : Cond.methodLink R_WO 147 y_Road_queueOf ∈ lw_good := List.mem_filter.mpr ⟨List.mem_append_right _ (List.mem_of_getElem? (i := 490) (by decide +kernel)), rfl⟩
set_option maxRecDepth 50000 in
theorem lk_300 : Cond.methodLink R_WO 150 y_WO_bandOf ∈ lw_good := List.mem_filter.mpr ⟨List.mem_append_right _ (List.mem_of_getElem? (i := 495) (by decide +kernel)), rfl⟩
set_option maxRecDepth 50000 in
theorem lk_301 : Cond.code y_WO_bandOf b_WO_bandOf 8 (some .int) ∈ lw_good := List.mem_filter.mpr ⟨List.mem_append_right _ (List.mem_of_getElem? (i := 498) rfl), rfl⟩
set_option maxRecDepth 50000 in
theorem lk_302 : Cond.instanceMethod y_WO_bandOf ∈ lw_good := List.mem_filter.mpr ⟨List.mem_append_right _ (List.mem_of_getElem? (i := 497) (by decide +kernel)), rfl⟩
set_option maxRecDepth 50000 in
theorem lk_303 : Cond.selects R_WO y_WO_bandOf y_WO_bandOf ∈ lw_good := List.mem_filter.mpr ⟨List.mem_append_left _ (List.mem_of_getElem? (i := 6) (by decide +kernel)), rfl⟩
set_option maxRecDepth 50000 in
theorem lk_304 : Cond.methodLink R_WO 153 y_WO_allStops ∈ lw_good := List.mem_filter.mpr ⟨List.mem_append_right _ (List.mem_of_getElem? (i := 507) (by decide +kernel)), rfl⟩
set_option maxRecDepth 50000 in
theorem lk_305 : Cond.code y_WO_allStops b_WO_allStops 5 (some .long) ∈ lw_good := List.mem_filter.mpr ⟨List.mem_append_right _ (List.mem_of_getElem? (i := 510) rfl), rfl⟩
set_option maxRecDepth 50000 in
theorem lk_306 : Cond.instanceMethod y_WO_allStops ∈ lw_good := List.mem_filter.mpr ⟨List.mem_append_right _ (List.mem_of_getElem? (i := 509) (by decide +kernel)), rfl⟩
set_option maxRecDepth 50000 in
theorem lk_307 : Cond.selects R_WO y_WO_allStops y_WO_allStops ∈ lw_good := List.mem_filter.mpr ⟨List.mem_append_left _ (List.mem_of_getElem? (i := 7) (by decide +kernel)), rfl⟩
set_option maxRecDepth 50000 in
theorem lk_308 : Cond.constantLong R_WO 157 10000 ∈ lw_good := List.mem_filter.mpr ⟨List.mem_append_right _ (List.mem_of_getElem? (i := 516) (by decide +kernel)), rfl⟩
set_option maxRecDepth 50000 in
theorem lk_309 : Cond.constantLong R_WO 159 1000 ∈ lw_good := List.mem_filter.mpr ⟨List.mem_append_right _ (List.mem_of_getElem? (i := 517) (by decide +kernel)), rfl⟩
set_option maxRecDepth 50000 in
theorem lk_310 : Cond.fieldLink R_WO 40 "WaveOffsets" "arrivals" "LWaveOffsets$Arrivals;" ∈ lw_good := List.mem_filter.mpr ⟨List.mem_append_right _ (List.mem_of_getElem? (i := 209) (by decide +kernel)), rfl⟩
set_option maxRecDepth 50000 in
theorem lk_311 : Cond.methodLink R_WO 161 y_Arr_add ∈ lw_good := List.mem_filter.mpr ⟨List.mem_append_right _ (List.mem_of_getElem? (i := 518) (by decide +kernel)), rfl⟩
set_option maxRecDepth 50000 in
theorem lk_312 : Cond.code y_Arr_add b_Arr_add 4 (some .boolean) ∈ lw_good := List.mem_filter.mpr ⟨List.mem_append_right _ (List.mem_of_getElem? (i := 521) rfl), rfl⟩
set_option maxRecDepth 50000 in
theorem lk_313 : Cond.instanceMethod y_Arr_add ∈ lw_good := List.mem_filter.mpr ⟨List.mem_append_right _ (List.mem_of_getElem? (i := 519) (by decide +kernel)), rfl⟩
set_option maxRecDepth 50000 in
theorem lk_314 : Cond.selects R_Arr y_Arr_add y_Arr_add ∈ lw_good := List.mem_filter.mpr ⟨List.mem_append_right _ (List.mem_of_getElem? (i := 520) (by decide +kernel)), rfl⟩
set_option maxRecDepth 50000 in
theorem lk_315 : Cond.methodLink R_WO 169 y_Arr_carsThrough ∈ lw_good := List.mem_filter.mpr ⟨List.mem_append_right _ (List.mem_of_getElem? (i := 538) (by decide +kernel)), rfl⟩
set_option maxRecDepth 50000 in
theorem lk_316 : Cond.code y_Arr_carsThrough b_Arr_carsThrough 6 (some .long) ∈ lw_good := List.mem_filter.mpr ⟨List.mem_append_right _ (List.mem_of_getElem? (i := 541) rfl), rfl⟩
set_option maxRecDepth 50000 in
theorem lk_317 : Cond.instanceMethod y_Arr_carsThrough ∈ lw_good := List.mem_filter.mpr ⟨List.mem_append_right _ (List.mem_of_getElem? (i := 539) (by decide +kernel)), rfl⟩
set_option maxRecDepth 50000 in
theorem lk_318 : Cond.selects R_Arr y_Arr_carsThrough y_Arr_carsThrough ∈ lw_good := List.mem_filter.mpr ⟨List.mem_append_right _ (List.mem_of_getElem? (i := 540) (by decide +kernel)), rfl⟩
set_option maxRecDepth 50000 in
theorem lk_319 : Cond.methodLink R_WO 165 y_Arr_secondsWaited ∈ lw_good := List.mem_filter.mpr ⟨List.mem_append_right _ (List.mem_of_getElem? (i := 526) (by decide +kernel)), rfl⟩
set_option maxRecDepth 50000 in
theorem lk_320 : Cond.code y_Arr_secondsWaited b_Arr_secondsWaited 6 (some .long) ∈ lw_good := List.mem_filter.mpr ⟨List.mem_append_right _ (List.mem_of_getElem? (i := 529) rfl), rfl⟩
set_option maxRecDepth 50000 in
theorem lk_321 : Cond.instanceMethod y_Arr_secondsWaited ∈ lw_good := List.mem_filter.mpr ⟨List.mem_append_right _ (List.mem_of_getElem? (i := 527) (by decide +kernel)), rfl⟩
set_option maxRecDepth 50000 in
theorem lk_322 : Cond.selects R_Arr y_Arr_secondsWaited y_Arr_secondsWaited ∈ lw_good := List.mem_filter.mpr ⟨List.mem_append_right _ (List.mem_of_getElem? (i := 528) (by decide +kernel)), rfl⟩
set_option maxRecDepth 50000 in
theorem lk_323 : Cond.methodLink R_WO 189 y_Road_leastOf ∈ lw_good := List.mem_filter.mpr ⟨List.mem_append_right _ (List.mem_of_getElem? (i := 596) (by decide +kernel)), rfl⟩
set_option maxRecDepth 50000 in
theorem lk_324 : Cond.code y_Road_leastOf b_Road_leastOf 2 (some .int) ∈ lw_good := List.mem_filter.mpr ⟨List.mem_append_right _ (List.mem_of_getElem? (i := 599) rfl), rfl⟩
set_option maxRecDepth 50000 in
theorem lk_325 : Cond.instanceMethod y_Road_leastOf ∈ lw_good := List.mem_filter.mpr ⟨List.mem_append_right _ (List.mem_of_getElem? (i := 597) (by decide +kernel)), rfl⟩
set_option maxRecDepth 50000 in
theorem lk_326 : Cond.selects R_Road y_Road_leastOf y_Road_leastOf ∈ lw_good := List.mem_filter.mpr ⟨List.mem_append_right _ (List.mem_of_getElem? (i := 598) (by decide +kernel)), rfl⟩
def p_WO_isPlanned (n : Nat) (x1 : Int32) (v_t_road_size : Int32) (v_t_atHand_cycle : Int32) : Option (Int32) :=
  (p_Road_has n x1 v_t_road_size).bind fun r5_1 =>
  if r5_1 = 0 then
    some (0 : Int32)
  else
    (p_Plan_isMade n v_t_atHand_cycle).bind fun r15_3 =>
    if r15_3 = 0 then
      some (0 : Int32)
    else
      some (1 : Int32)
abbrev m_WO_isPlanned : Room := { frames := 1, cells := 0, slots := 0, locals := 21 }
set_option maxHeartbeats 4000000 in
set_option maxRecDepth 100000 in
theorem c_WO_isPlanned (l : Launch) (G : va_G) (K : Nat → ClassId) (n : Nat) (t : Nat) (t_road : Nat) (t_search : Nat) (t_atHand : Nat) (t_timetable : Nat) (t_arrivals : Nat) (t_road_greens : Nat) (t_road_leasts : Nat) (t_road_queues : Nat) (t_road_seconds : Nat) (t_road_weights : Nat) (t_atHand_offsets : Nat) (x1 : Int32) (v_t_road_size : Int32) (v_t_road_firstCycle : Int32) (v_t_road_lastCycle : Int32) (v_t_road_cycleBy : Int32) (v_t_road_stepSeconds : Int32) (v_t_atHand_cycle : Int32) (v_t_atHand_size : Int32) (v_t_atHand_aim : Int32) (v_t_atHand_sawAll : Int32) (o : Int32) (hF : p_WO_isPlanned n x1 v_t_road_size v_t_atHand_cycle = some o) :
    Met l y_WO_isPlanned (wd y_WO_isPlanned b_WO_isPlanned 2 (some .boolean)) m_WO_isPlanned (dk_Pp [.ref t, .int x1] G K [(t, .inr (0, [.ref t_road, .ref t_search, .ref t_atHand, .ref t_timetable, .ref t_arrivals])), (t_road, .inr (1, [.ref t_road_greens, .ref t_road_leasts, .ref t_road_queues, .ref t_road_seconds, .ref t_road_weights, .int v_t_road_size, .int v_t_road_firstCycle, .int v_t_road_lastCycle, .int v_t_road_cycleBy, .int v_t_road_stepSeconds])), (t_atHand, .inr (2, [.ref t_atHand_offsets, .int v_t_atHand_cycle, .int v_t_atHand_size, .int v_t_atHand_aim, .int v_t_atHand_sawAll]))]) (dk_Qp (some (.int o))) 0 0 (fun _ => False) := by
  refine Met.ofW (cc := b_WO_isPlanned) (maxL := 2) (ret := (some .boolean)) (by decide) rfl ?_
  intro p e s m args below meth c s₁ B hml hv
  obtain ⟨rfl, hP, hK, hN⟩ := hv
  have hx := B.exec
  have hb := B.bytes
  have hr := B.returns
  have hts : ∀ w ∈ lw_good, w.before _ s = true := fun w h => atoms_spec (ws := wd y_WO_isPlanned b_WO_isPlanned 2 (some .boolean)) B.pre w (List.mem_cons_of_mem _ h)
  have hown : s.vm.findClass R_WO = some m.cls := findClass_of_methodNamed B.named
  have hlocks := B.notSynchronized
  have hfix : CallFix p m c b_WO_isPlanned 2 s _ lw_good R_WO := ⟨hx, hb, hml, hown, hts⟩
  have hl := lv_entry ([.ref t, .int x1]) (n := 2) (Nat.le_of_ble_eq_true rfl)
  rw [lg_entry_eq]
  generalize (lg_sl ([.ref t, .int x1]) ++ List.replicate (2 - (lg_sl ([.ref t, .int x1])).length) Slot.unset).toArray = ls at hl ⊢
  have hl : lv_has ls 2 [(0, .ref t), (1, .int x1)] := hl
  change W p l e m_WO_isPlanned s m _ below meth c s.heap [] 0 0 _ _
  unfold p_WO_isPlanned at hF
  refine lv_aload_n hx hb d_WO_isPlanned_0 rfl (lv_at hl 0 rfl) ?_
  refine va_get (D := G) (ci := 0) (v := .ref t_road) (C := R_WO) (T := F_WO) (N := 5) hx hb hts i_WO hown hK hP 0 rfl rfl 0 (by decide) (hts _ lk_228) (fun _ h9 => h9) rfl d_WO_isPlanned_1 ?_
  refine lv_iload_n hx hb d_WO_isPlanned_4 rfl (lv_at hl 1 rfl) ?_
  obtain ⟨r5_1, hC, hF⟩ := dk_b hF
  refine dk_pure (va_runV (As := [.int x1]) (rest := []) hfix (c_Road_has l G K n t_road t_road_greens t_road_leasts t_road_queues t_road_seconds t_road_weights x1 v_t_road_size v_t_road_firstCycle v_t_road_lastCycle v_t_road_cycleBy v_t_road_stepSeconds r5_1 hC) (cwV 1 hts (gd_V lk_229 lk_34 lk_35 lk_29 lk_33) rfl rfl rfl (by decide +kernel) ⟨Nat.le_of_ble_eq_true rfl, Nat.le_of_ble_eq_true rfl⟩) (dk_preV hK hN (hP.sub [1] rfl) (va_recv hK hP (ci := 1) (q0 := 1) rfl rfl)) rfl rfl hl.1 rfl (lv_room (Nat.le_of_ble_eq_true rfl)) d_WO_isPlanned_5 ⟨Nat.le_of_ble_eq_true rfl, Nat.le_of_ble_eq_true rfl⟩) ?_
  refine lv_if_eq (tgt := 25) hx hb d_WO_isPlanned_8 (by decide) (fun c8_2 => ?_) (fun c8_2 => ?_)
  · have hF := dk_t c8_2 hF
    refine lv_iconst (v := (0 : Int32)) hx hb d_WO_isPlanned_25 (by decide) ?_
    obtain rfl := Option.some.inj hF
    exact W.zret (v := (0 : Int32)) hx hb hr rfl (fun t ht hW => ⟨rfl, ht⟩) (fun _ h => by cases h) d_WO_isPlanned_26
  · have hF := dk_f c8_2 hF
    refine lv_aload_n hx hb d_WO_isPlanned_11 rfl (lv_at hl 0 rfl) ?_
    refine va_get (D := G) (ci := 0) (v := .ref t_atHand) (C := R_WO) (T := F_WO) (N := 5) hx hb hts i_WO hown hK hP 0 rfl rfl 2 (by decide) (hts _ lk_230) (fun _ h9 => h9) rfl d_WO_isPlanned_12 ?_
    obtain ⟨r15_3, hC, hF⟩ := dk_b hF
    refine dk_pure (va_runV (As := []) (rest := []) hfix (c_Plan_isMade l G K n t_atHand t_atHand_offsets v_t_atHand_cycle v_t_atHand_size v_t_atHand_aim v_t_atHand_sawAll r15_3 hC) (cwV 0 hts (gd_V lk_231 lk_162 lk_163 lk_94 lk_161) rfl rfl rfl (by decide +kernel) ⟨Nat.le_of_ble_eq_true rfl, Nat.le_of_ble_eq_true rfl⟩) (dk_preV hK hN (hP.sub [2] rfl) (va_recv hK hP (ci := 2) (q0 := 2) rfl rfl)) rfl rfl hl.1 rfl (lv_room (Nat.le_of_ble_eq_true rfl)) d_WO_isPlanned_15 ⟨Nat.le_of_ble_eq_true rfl, Nat.le_of_ble_eq_true rfl⟩) ?_
    refine lv_if_eq (tgt := 25) hx hb d_WO_isPlanned_18 (by decide) (fun c18_4 => ?_) (fun c18_4 => ?_)
    · have hF := dk_t c18_4 hF
      refine lv_iconst (v := (0 : Int32)) hx hb d_WO_isPlanned_25 (by decide) ?_
      obtain rfl := Option.some.inj hF
      exact W.zret (v := (0 : Int32)) hx hb hr rfl (fun t ht hW => ⟨rfl, ht⟩) (fun _ h => by cases h) d_WO_isPlanned_26
    · have hF := dk_f c18_4 hF
      refine lv_iconst (v := (1 : Int32)) hx hb d_WO_isPlanned_21 (by decide) ?_
      refine lv_goto (tgt := 26) hx hb d_WO_isPlanned_22 (by decide) ?_
      obtain rfl := Option.some.inj hF
      exact W.zret (v := (1 : Int32)) hx hb hr rfl (fun t ht hW => ⟨rfl, ht⟩) (fun _ h => by cases h) d_WO_isPlanned_26
def p_WO_bandOf_12 (n : Nat) : Nat → Int32 → (Nat → Int32) → Int32 → (Nat → Int32) → (Nat → Int32) → (Nat → Int32) → Int32 → Int64 → Int64 → Int32 → Option (Int64 × Int64)
  | 0, _, _, _, _, _, _, _, _, _, _ => none
  | k + 1, v_t_road_size, v_t_atHand_offsets, v_t_atHand_cycle, v_t_road_queues, v_t_road_seconds, v_t_road_greens, z1, z2, z4, z6 =>
    (p_Road_size n v_t_road_size).bind fun r18_1 =>
    if r18_1 ≤ z6 then
      some (z2, z4)
    else
      (p_Plan_offsetOf n z6 v_t_atHand_offsets).bind fun r37_3 =>
      (p_Road_openFrom n z6 z1 r37_3 v_t_atHand_cycle v_t_road_size v_t_road_queues v_t_road_seconds).bind fun r47_4 =>
      (p_Road_openOf n z6 v_t_road_size v_t_road_greens v_t_road_queues).bind fun r61_5 =>
      (p_WO_arcBits n r47_4 r61_5 v_t_atHand_cycle (0 : Int32)).bind fun r72_6 =>
      (p_Road_openOf n z6 v_t_road_size v_t_road_greens v_t_road_queues).bind fun r87_7 =>
      (p_WO_arcBits n r47_4 r87_7 v_t_atHand_cycle (60 : Int32)).bind fun r99_8 =>
      p_WO_bandOf_12 n k v_t_road_size v_t_atHand_offsets v_t_atHand_cycle v_t_road_queues v_t_road_seconds v_t_road_greens z1 (z2 &&& r72_6) (z4 &&& r99_8) (z6 + (1 : Int32))
theorem q_WO_bandOf_12 (n k : Nat) (v_t_road_size : Int32) (v_t_atHand_offsets : Nat → Int32) (v_t_atHand_cycle : Int32) (v_t_road_queues : Nat → Int32) (v_t_road_seconds : Nat → Int32) (v_t_road_greens : Nat → Int32) (z1 : Int32) (z2 : Int64) (z4 : Int64) (z6 : Int32) : p_WO_bandOf_12 n (k + 1) v_t_road_size v_t_atHand_offsets v_t_atHand_cycle v_t_road_queues v_t_road_seconds v_t_road_greens z1 z2 z4 z6 =
    (p_Road_size n v_t_road_size).bind fun r18_1 =>
    if r18_1 ≤ z6 then
      some (z2, z4)
    else
      (p_Plan_offsetOf n z6 v_t_atHand_offsets).bind fun r37_3 =>
      (p_Road_openFrom n z6 z1 r37_3 v_t_atHand_cycle v_t_road_size v_t_road_queues v_t_road_seconds).bind fun r47_4 =>
      (p_Road_openOf n z6 v_t_road_size v_t_road_greens v_t_road_queues).bind fun r61_5 =>
      (p_WO_arcBits n r47_4 r61_5 v_t_atHand_cycle (0 : Int32)).bind fun r72_6 =>
      (p_Road_openOf n z6 v_t_road_size v_t_road_greens v_t_road_queues).bind fun r87_7 =>
      (p_WO_arcBits n r47_4 r87_7 v_t_atHand_cycle (60 : Int32)).bind fun r99_8 =>
      p_WO_bandOf_12 n k v_t_road_size v_t_atHand_offsets v_t_atHand_cycle v_t_road_queues v_t_road_seconds v_t_road_greens z1 (z2 &&& r72_6) (z4 &&& r99_8) (z6 + (1 : Int32)) := rfl
def p_WO_bandOf (n : Nat) (x1 : Int32) (v_t_road_size : Int32) (v_t_atHand_offsets : Nat → Int32) (v_t_atHand_cycle : Int32) (v_t_road_queues : Nat → Int32) (v_t_road_seconds : Nat → Int32) (v_t_road_greens : Nat → Int32) : Option (Int32) :=
  (p_WO_bandOf_12 n n v_t_road_size v_t_atHand_offsets v_t_atHand_cycle v_t_road_queues v_t_road_seconds v_t_road_greens x1 ((-1) : Int64) ((-1) : Int64) (0 : Int32)).bind fun q12_9 =>
  (p_Long_bitCount n q12_9.1).bind fun r112_10 =>
  (p_Long_bitCount n q12_9.2).bind fun r117_11 =>
  some (r112_10 + r117_11)
abbrev m_WO_bandOf : Room := { frames := 4, cells := 0, slots := 0, locals := 87 }
set_option maxHeartbeats 4000000 in
set_option maxRecDepth 100000 in
theorem c_WO_bandOf (l : Launch) (G : va_G) (K : Nat → ClassId) (n : Nat) (t : Nat) (t_road : Nat) (t_search : Nat) (t_atHand : Nat) (t_timetable : Nat) (t_arrivals : Nat) (t_road_greens : Nat) (t_road_leasts : Nat) (t_road_queues : Nat) (t_road_seconds : Nat) (t_road_weights : Nat) (t_atHand_offsets : Nat) (x1 : Int32) (v_t_road_size : Int32) (v_t_road_firstCycle : Int32) (v_t_road_lastCycle : Int32) (v_t_road_cycleBy : Int32) (v_t_road_stepSeconds : Int32) (v_t_road_greens : Nat → Int32) (v_t_road_queues : Nat → Int32) (v_t_road_seconds : Nat → Int32) (v_t_atHand_cycle : Int32) (v_t_atHand_size : Int32) (v_t_atHand_aim : Int32) (v_t_atHand_sawAll : Int32) (v_t_atHand_offsets : Nat → Int32) (o : Int32) (hF : p_WO_bandOf n x1 v_t_road_size v_t_atHand_offsets v_t_atHand_cycle v_t_road_queues v_t_road_seconds v_t_road_greens = some o) :
    Met l y_WO_bandOf (wd y_WO_bandOf b_WO_bandOf 8 (some .int)) m_WO_bandOf (dk_Pp [.ref t, .int x1] G K [(t, .inr (0, [.ref t_road, .ref t_search, .ref t_atHand, .ref t_timetable, .ref t_arrivals])), (t_road, .inr (1, [.ref t_road_greens, .ref t_road_leasts, .ref t_road_queues, .ref t_road_seconds, .ref t_road_weights, .int v_t_road_size, .int v_t_road_firstCycle, .int v_t_road_lastCycle, .int v_t_road_cycleBy, .int v_t_road_stepSeconds])), (t_road_greens, .inl (K 0, 5, .inl v_t_road_greens)), (t_road_queues, .inl (K 0, 5, .inl v_t_road_queues)), (t_road_seconds, .inl (K 0, 10, .inl v_t_road_seconds)), (t_atHand, .inr (2, [.ref t_atHand_offsets, .int v_t_atHand_cycle, .int v_t_atHand_size, .int v_t_atHand_aim, .int v_t_atHand_sawAll])), (t_atHand_offsets, .inl (K 0, 5, .inl v_t_atHand_offsets))]) (dk_Qp (some (.int o))) 0 0 (fun _ => False) := by
  refine Met.ofW (cc := b_WO_bandOf) (maxL := 8) (ret := (some .int)) (by decide) rfl ?_
  intro p e s m args below meth c s₁ B hml hv
  obtain ⟨rfl, hP, hK, hN⟩ := hv
  have hx := B.exec
  have hb := B.bytes
  have hr := B.returns
  have hts : ∀ w ∈ lw_good, w.before _ s = true := fun w h => atoms_spec (ws := wd y_WO_bandOf b_WO_bandOf 8 (some .int)) B.pre w (List.mem_cons_of_mem _ h)
  have hown : s.vm.findClass R_WO = some m.cls := findClass_of_methodNamed B.named
  have hlocks := B.notSynchronized
  have hfix : CallFix p m c b_WO_bandOf 8 s _ lw_good R_WO := ⟨hx, hb, hml, hown, hts⟩
  have hl := lv_entry ([.ref t, .int x1]) (n := 8) (Nat.le_of_ble_eq_true rfl)
  rw [lg_entry_eq]
  generalize (lg_sl ([.ref t, .int x1]) ++ List.replicate (8 - (lg_sl ([.ref t, .int x1])).length) Slot.unset).toArray = ls at hl ⊢
  have hl : lv_has ls 8 [(0, .ref t), (1, .int x1)] := hl
  change W p l e m_WO_bandOf s m _ below meth c s.heap [] 0 0 _ _
  have L12 : ∀ (k : Nat) (z1 : Int32) (z2 : Int64) (z4 : Int64) (z6 : Int32) (q : Int64 × Int64), p_WO_bandOf_12 n k v_t_road_size v_t_atHand_offsets v_t_atHand_cycle v_t_road_queues v_t_road_seconds v_t_road_greens z1 z2 z4 z6 = some q → ∀ ls : Array Slot, lv_has ls 8 [(0, .ref t), (1, .int z1), (2, .long z2), (4, .long z4), (6, .int z6)] → (∀ (ls1 : Array Slot), lv_has ls1 8 [(2, .long q.1), (4, .long q.2)] → W p l e m_WO_bandOf s m ([.ref t, .int x1] : List Value).toArray below meth c s.heap [] 0 0 (MQ below (dk_Qp (some (.int o))) ([.ref t, .int x1] : List Value).toArray s 0 0 (fun _ => False)) (F0 m 111 ls1 [])) → W p l e m_WO_bandOf s m ([.ref t, .int x1] : List Value).toArray below meth c s.heap [] 0 0 (MQ below (dk_Qp (some (.int o))) ([.ref t, .int x1] : List Value).toArray s 0 0 (fun _ => False)) (F0 m 12 ls []) := by
    intro k
    induction k with
    | zero =>
      intro z1 z2 z4 z6 q hF ls hl hk
      exact absurd hF (by simp [p_WO_bandOf_12])
    | succ k jh =>
      intro z1 z2 z4 z6 q hF ls hl hk
      have hF := (q_WO_bandOf_12 n k v_t_road_size v_t_atHand_offsets v_t_atHand_cycle v_t_road_queues v_t_road_seconds v_t_road_greens z1 z2 z4 z6).symm.trans hF
      refine lv_iload hx hb d_WO_bandOf_12 (lv_at hl 4 rfl) ?_
      refine lv_aload_n hx hb d_WO_bandOf_14 rfl (lv_at hl 0 rfl) ?_
      refine va_get (D := G) (ci := 0) (v := .ref t_road) (C := R_WO) (T := F_WO) (N := 5) hx hb hts i_WO hown hK hP 0 rfl rfl 0 (by decide) (hts _ lk_228) (fun _ h9 => h9) rfl d_WO_bandOf_15 ?_
      obtain ⟨r18_1, hC, hF⟩ := dk_b hF
      refine dk_pure (va_runV (As := []) (rest := [.int z6]) hfix (c_Road_size l G K n t_road t_road_greens t_road_leasts t_road_queues t_road_seconds t_road_weights v_t_road_size v_t_road_firstCycle v_t_road_lastCycle v_t_road_cycleBy v_t_road_stepSeconds r18_1 hC) (cwV 0 hts (gd_V lk_232 lk_127 lk_128 lk_29 lk_126) rfl rfl rfl (by decide +kernel) ⟨Nat.le_of_ble_eq_true rfl, Nat.le_of_ble_eq_true rfl⟩) (dk_preV hK hN (hP.sub [1] rfl) (va_recv hK hP (ci := 1) (q0 := 1) rfl rfl)) rfl rfl hl.1 rfl (lv_room (Nat.le_of_ble_eq_true rfl)) d_WO_bandOf_18 ⟨Nat.le_of_ble_eq_true rfl, Nat.le_of_ble_eq_true rfl⟩) ?_
      refine lv_icmp_ge (tgt := 111) hx hb d_WO_bandOf_21 (by decide) (fun c21_2 => ?_) (fun c21_2 => ?_)
      · have hF := dk_t c21_2 hF
        obtain rfl := Option.some.inj hF
        exact hk ls (lv_sub hl [2, 3] rfl)
      · have hF := dk_f c21_2 hF
        refine lv_aload_n hx hb d_WO_bandOf_24 rfl (lv_at hl 0 rfl) ?_
        refine va_get (D := G) (ci := 0) (v := .ref t_road) (C := R_WO) (T := F_WO) (N := 5) hx hb hts i_WO hown hK hP 0 rfl rfl 0 (by decide) (hts _ lk_228) (fun _ h9 => h9) rfl d_WO_bandOf_25 ?_
        refine lv_iload hx hb d_WO_bandOf_28 (lv_at hl 4 rfl) ?_
        refine lv_iload_n hx hb d_WO_bandOf_30 rfl (lv_at hl 1 rfl) ?_
        refine lv_aload_n hx hb d_WO_bandOf_31 rfl (lv_at hl 0 rfl) ?_
        refine va_get (D := G) (ci := 0) (v := .ref t_atHand) (C := R_WO) (T := F_WO) (N := 5) hx hb hts i_WO hown hK hP 0 rfl rfl 2 (by decide) (hts _ lk_230) (fun _ h9 => h9) rfl d_WO_bandOf_32 ?_
        refine lv_iload hx hb d_WO_bandOf_35 (lv_at hl 4 rfl) ?_
        obtain ⟨r37_3, hC, hF⟩ := dk_b hF
        refine dk_pure (va_runV (As := [.int z6]) (rest := [.int z1, .int z6, .ref t_road]) hfix (c_Plan_offsetOf l G K n t_atHand t_atHand_offsets z6 v_t_atHand_cycle v_t_atHand_size v_t_atHand_aim v_t_atHand_sawAll v_t_atHand_offsets r37_3 hC) (cwV 1 hts (gd_V lk_233 lk_92 lk_93 lk_94 lk_91) rfl rfl rfl (by decide +kernel) ⟨Nat.le_of_ble_eq_true rfl, Nat.le_of_ble_eq_true rfl⟩) (dk_preV hK hN (hP.sub [5, 6] rfl) (va_recv hK hP (ci := 2) (q0 := 5) rfl rfl)) rfl rfl hl.1 rfl (lv_room (Nat.le_of_ble_eq_true rfl)) d_WO_bandOf_37 ⟨Nat.le_of_ble_eq_true rfl, Nat.le_of_ble_eq_true rfl⟩) ?_
        refine lv_aload_n hx hb d_WO_bandOf_40 rfl (lv_at hl 0 rfl) ?_
        refine va_get (D := G) (ci := 0) (v := .ref t_atHand) (C := R_WO) (T := F_WO) (N := 5) hx hb hts i_WO hown hK hP 0 rfl rfl 2 (by decide) (hts _ lk_230) (fun _ h9 => h9) rfl d_WO_bandOf_41 ?_
        refine va_getN (D := G) (ci := 2) (v := .int v_t_atHand_cycle) (C := R_Plan) (T := F_Plan) (N := 5) hx hb hts i_Plan hown hK hP 5 rfl rfl 1 (by decide) (va_Nw.use rfl (hN.1 _ lk_234)) (fun _ h9 => h9) rfl d_WO_bandOf_44 ?_
        obtain ⟨r47_4, hC, hF⟩ := dk_b hF
        refine dk_pure (va_runV (As := [.int z6, .int z1, .int r37_3, .int v_t_atHand_cycle]) (rest := []) hfix (c_Road_openFrom l G K n t_road t_road_greens t_road_leasts t_road_queues t_road_seconds t_road_weights z6 z1 r37_3 v_t_atHand_cycle v_t_road_size v_t_road_firstCycle v_t_road_lastCycle v_t_road_cycleBy v_t_road_stepSeconds v_t_road_queues v_t_road_seconds r47_4 hC) (cwV 4 hts (gd_V lk_235 lk_107 lk_108 lk_29 lk_106) rfl rfl rfl (by decide +kernel) ⟨Nat.le_of_ble_eq_true rfl, Nat.le_of_ble_eq_true rfl⟩) (dk_preV hK hN (hP.sub [1, 3, 4] rfl) (va_recv hK hP (ci := 1) (q0 := 1) rfl rfl)) rfl rfl hl.1 rfl (lv_room (Nat.le_of_ble_eq_true rfl)) d_WO_bandOf_47 ⟨Nat.le_of_ble_eq_true rfl, Nat.le_of_ble_eq_true rfl⟩) ?_
        refine lv_istore (lv' := [(7, .int r47_4), (0, .ref t), (1, .int z1), (2, .long z2), (4, .long z4), (6, .int z6)]) hx hb d_WO_bandOf_50 hl (by decide) rfl (fun ls hl => ?_)
        refine lv_lload_n hx hb d_WO_bandOf_52 rfl (lv_at hl 3 rfl) ?_
        refine lv_iload hx hb d_WO_bandOf_53 (lv_at hl 0 rfl) ?_
        refine lv_aload_n hx hb d_WO_bandOf_55 rfl (lv_at hl 1 rfl) ?_
        refine va_get (D := G) (ci := 0) (v := .ref t_road) (C := R_WO) (T := F_WO) (N := 5) hx hb hts i_WO hown hK hP 0 rfl rfl 0 (by decide) (hts _ lk_228) (fun _ h9 => h9) rfl d_WO_bandOf_56 ?_
        refine lv_iload hx hb d_WO_bandOf_59 (lv_at hl 5 rfl) ?_
        obtain ⟨r61_5, hC, hF⟩ := dk_b hF
        refine dk_pure (va_runV (As := [.int z6]) (rest := [.int r47_4, .long z2]) hfix (c_Road_openOf l G K n t_road t_road_greens t_road_leasts t_road_queues t_road_seconds t_road_weights z6 v_t_road_size v_t_road_firstCycle v_t_road_lastCycle v_t_road_cycleBy v_t_road_stepSeconds v_t_road_greens v_t_road_queues r61_5 hC) (cwV 1 hts (gd_V lk_236 lk_56 lk_57 lk_29 lk_55) rfl rfl rfl (by decide +kernel) ⟨Nat.le_of_ble_eq_true rfl, Nat.le_of_ble_eq_true rfl⟩) (dk_preV hK hN (hP.sub [1, 2, 3] rfl) (va_recv hK hP (ci := 1) (q0 := 1) rfl rfl)) rfl rfl hl.1 rfl (lv_room (Nat.le_of_ble_eq_true rfl)) d_WO_bandOf_61 ⟨Nat.le_of_ble_eq_true rfl, Nat.le_of_ble_eq_true rfl⟩) ?_
        refine lv_aload_n hx hb d_WO_bandOf_64 rfl (lv_at hl 1 rfl) ?_
        refine va_get (D := G) (ci := 0) (v := .ref t_atHand) (C := R_WO) (T := F_WO) (N := 5) hx hb hts i_WO hown hK hP 0 rfl rfl 2 (by decide) (hts _ lk_230) (fun _ h9 => h9) rfl d_WO_bandOf_65 ?_
        refine va_getN (D := G) (ci := 2) (v := .int v_t_atHand_cycle) (C := R_Plan) (T := F_Plan) (N := 5) hx hb hts i_Plan hown hK hP 5 rfl rfl 1 (by decide) (va_Nw.use rfl (hN.1 _ lk_234)) (fun _ h9 => h9) rfl d_WO_bandOf_68 ?_
        refine lv_iconst (v := (0 : Int32)) hx hb d_WO_bandOf_71 (by decide) ?_
        obtain ⟨r72_6, hC, hF⟩ := dk_b hF
        refine dk_pure (va_runS (As := [.int r47_4, .int r61_5, .int v_t_atHand_cycle, .int (0 : Int32)]) (rest := [.long z2]) hfix (c_WO_arcBits l G K n r47_4 r61_5 v_t_atHand_cycle (0 : Int32) r72_6 hC) (va_cwS 4 hts (gd_S lk_237 lk_113 lk_16 lk_112) rfl rfl rfl (by decide +kernel) ⟨Nat.le_of_ble_eq_true rfl, Nat.le_of_ble_eq_true rfl⟩) (dk_preS hK hN (hP.sub [] rfl)) rfl rfl hl.1 rfl (lv_room (Nat.le_of_ble_eq_true rfl)) d_WO_bandOf_72 ⟨Nat.le_of_ble_eq_true rfl, Nat.le_of_ble_eq_true rfl⟩) ?_
        refine lv_land hx hb d_WO_bandOf_75 ?_
        refine lv_lstore_n (lv' := [(2, .long (z2 &&& r72_6)), (7, .int r47_4), (0, .ref t), (1, .int z1), (4, .long z4), (6, .int z6)]) hx hb d_WO_bandOf_76 rfl hl (by decide) rfl (fun ls hl => ?_)
        refine lv_lload hx hb d_WO_bandOf_77 (lv_at hl 4 rfl) ?_
        refine lv_iload hx hb d_WO_bandOf_79 (lv_at hl 1 rfl) ?_
        refine lv_aload_n hx hb d_WO_bandOf_81 rfl (lv_at hl 2 rfl) ?_
        refine va_get (D := G) (ci := 0) (v := .ref t_road) (C := R_WO) (T := F_WO) (N := 5) hx hb hts i_WO hown hK hP 0 rfl rfl 0 (by decide) (hts _ lk_228) (fun _ h9 => h9) rfl d_WO_bandOf_82 ?_
        refine lv_iload hx hb d_WO_bandOf_85 (lv_at hl 5 rfl) ?_
        obtain ⟨r87_7, hC, hF⟩ := dk_b hF
        refine dk_pure (va_runV (As := [.int z6]) (rest := [.int r47_4, .long z4]) hfix (c_Road_openOf l G K n t_road t_road_greens t_road_leasts t_road_queues t_road_seconds t_road_weights z6 v_t_road_size v_t_road_firstCycle v_t_road_lastCycle v_t_road_cycleBy v_t_road_stepSeconds v_t_road_greens v_t_road_queues r87_7 hC) (cwV 1 hts (gd_V lk_236 lk_56 lk_57 lk_29 lk_55) rfl rfl rfl (by decide +kernel) ⟨Nat.le_of_ble_eq_true rfl, Nat.le_of_ble_eq_true rfl⟩) (dk_preV hK hN (hP.sub [1, 2, 3] rfl) (va_recv hK hP (ci := 1) (q0 := 1) rfl rfl)) rfl rfl hl.1 rfl (lv_room (Nat.le_of_ble_eq_true rfl)) d_WO_bandOf_87 ⟨Nat.le_of_ble_eq_true rfl, Nat.le_of_ble_eq_true rfl⟩) ?_
        refine lv_aload_n hx hb d_WO_bandOf_90 rfl (lv_at hl 2 rfl) ?_
        refine va_get (D := G) (ci := 0) (v := .ref t_atHand) (C := R_WO) (T := F_WO) (N := 5) hx hb hts i_WO hown hK hP 0 rfl rfl 2 (by decide) (hts _ lk_230) (fun _ h9 => h9) rfl d_WO_bandOf_91 ?_
        refine va_getN (D := G) (ci := 2) (v := .int v_t_atHand_cycle) (C := R_Plan) (T := F_Plan) (N := 5) hx hb hts i_Plan hown hK hP 5 rfl rfl 1 (by decide) (va_Nw.use rfl (hN.1 _ lk_234)) (fun _ h9 => h9) rfl d_WO_bandOf_94 ?_
        refine lv_bipush (v := (60 : Int32)) hx hb d_WO_bandOf_97 (by decide) ?_
        obtain ⟨r99_8, hC, hF⟩ := dk_b hF
        refine dk_pure (va_runS (As := [.int r47_4, .int r87_7, .int v_t_atHand_cycle, .int (60 : Int32)]) (rest := [.long z4]) hfix (c_WO_arcBits l G K n r47_4 r87_7 v_t_atHand_cycle (60 : Int32) r99_8 hC) (va_cwS 4 hts (gd_S lk_237 lk_113 lk_16 lk_112) rfl rfl rfl (by decide +kernel) ⟨Nat.le_of_ble_eq_true rfl, Nat.le_of_ble_eq_true rfl⟩) (dk_preS hK hN (hP.sub [] rfl)) rfl rfl hl.1 rfl (lv_room (Nat.le_of_ble_eq_true rfl)) d_WO_bandOf_99 ⟨Nat.le_of_ble_eq_true rfl, Nat.le_of_ble_eq_true rfl⟩) ?_
        refine lv_land hx hb d_WO_bandOf_102 ?_
        refine lv_lstore (lv' := [(4, .long (z4 &&& r99_8)), (2, .long (z2 &&& r72_6)), (7, .int r47_4), (0, .ref t), (1, .int z1), (6, .int z6)]) hx hb d_WO_bandOf_103 hl (by decide) rfl (fun ls hl => ?_)
        refine lv_iinc (v := z6 + (1 : Int32)) (lv' := [(6, .int (z6 + (1 : Int32))), (4, .long (z4 &&& r99_8)), (2, .long (z2 &&& r72_6)), (7, .int r47_4), (0, .ref t), (1, .int z1)]) hx hb d_WO_bandOf_105 hl (k := 5) rfl rfl (by decide) rfl (fun ls hl => ?_)
        refine lv_goto (tgt := 12) hx hb d_WO_bandOf_108 (by decide) ?_
        exact jh z1 (z2 &&& r72_6) (z4 &&& r99_8) (z6 + (1 : Int32)) q hF ls (lv_sub hl [4, 5, 2, 1, 0] rfl) hk
  unfold p_WO_bandOf at hF
  refine lv_ldc2 (own := R_WO) (index := 126) (v := ((-1) : Int64)) hx hb hown (hts _ lk_17) d_WO_bandOf_0 ?_
  refine lv_lstore_n (lv' := [(2, .long ((-1) : Int64)), (0, .ref t), (1, .int x1)]) hx hb d_WO_bandOf_3 rfl hl (by decide) rfl (fun ls hl => ?_)
  refine lv_ldc2 (own := R_WO) (index := 126) (v := ((-1) : Int64)) hx hb hown (hts _ lk_17) d_WO_bandOf_4 ?_
  refine lv_lstore (lv' := [(4, .long ((-1) : Int64)), (2, .long ((-1) : Int64)), (0, .ref t), (1, .int x1)]) hx hb d_WO_bandOf_7 hl (by decide) rfl (fun ls hl => ?_)
  refine lv_iconst (v := (0 : Int32)) hx hb d_WO_bandOf_9 (by decide) ?_
  refine lv_istore (lv' := [(6, .int (0 : Int32)), (4, .long ((-1) : Int64)), (2, .long ((-1) : Int64)), (0, .ref t), (1, .int x1)]) hx hb d_WO_bandOf_10 hl (by decide) rfl (fun ls hl => ?_)
  obtain ⟨q12_9, hC, hF⟩ := dk_b hF
  refine L12 n x1 ((-1) : Int64) ((-1) : Int64) (0 : Int32) q12_9 hC ls (lv_sub hl [3, 4, 2, 1, 0] rfl) (fun ls hl => ?_)
  refine lv_lload_n hx hb d_WO_bandOf_111 rfl (lv_at hl 0 rfl) ?_
  obtain ⟨r112_10, hC, hF⟩ := dk_b hF
  refine dk_pure (va_runS (As := [.long q12_9.1]) (rest := []) hfix (c_Long_bitCount l G K n q12_9.1 r112_10 hC) (va_cwS 1 hts (gd_S lk_238 lk_143 lk_144 lk_142) rfl rfl rfl (by decide +kernel) ⟨Nat.le_of_ble_eq_true rfl, Nat.le_of_ble_eq_true rfl⟩) (dk_preS hK hN (hP.sub [] rfl)) rfl rfl hl.1 rfl (lv_room (Nat.le_of_ble_eq_true rfl)) d_WO_bandOf_112 ⟨Nat.le_of_ble_eq_true rfl, Nat.le_of_ble_eq_true rfl⟩) ?_
  refine lv_lload hx hb d_WO_bandOf_115 (lv_at hl 1 rfl) ?_
  obtain ⟨r117_11, hC, hF⟩ := dk_b hF
  refine dk_pure (va_runS (As := [.long q12_9.2]) (rest := [.int r112_10]) hfix (c_Long_bitCount l G K n q12_9.2 r117_11 hC) (va_cwS 1 hts (gd_S lk_238 lk_143 lk_144 lk_142) rfl rfl rfl (by decide +kernel) ⟨Nat.le_of_ble_eq_true rfl, Nat.le_of_ble_eq_true rfl⟩) (dk_preS hK hN (hP.sub [] rfl)) rfl rfl hl.1 rfl (lv_room (Nat.le_of_ble_eq_true rfl)) d_WO_bandOf_117 ⟨Nat.le_of_ble_eq_true rfl, Nat.le_of_ble_eq_true rfl⟩) ?_
  refine lv_iadd hx hb d_WO_bandOf_120 ?_
  obtain rfl := Option.some.inj hF
  exact W.iret (v := r112_10 + r117_11) hx hb hr (fun t ht hW => ⟨rfl, ht⟩) (fun _ h => by cases h) d_WO_bandOf_121
def p_WO_allStops_4 (n : Nat) : Nat → Int32 → (Nat → Int32) → Int32 → (Nat → Int32) → (Nat → Int32) → (Nat → Int32) → (Nat → Int32) → Int64 → Int32 → Option (Int64)
  | 0, _, _, _, _, _, _, _, _, _ => none
  | k + 1, v_t_road_size, v_t_atHand_offsets, v_t_atHand_cycle, v_t_road_queues, v_t_road_seconds, v_t_road_greens, v_t_road_weights, z1, z3 =>
    (p_Road_size n v_t_road_size).bind fun r9_1 =>
    if r9_1 ≤ z3 then
      some z1
    else
      (p_Plan_offsetOf n z3 v_t_atHand_offsets).bind fun r20_3 =>
      (p_Plan_offsetOf n (z3 - (1 : Int32)) v_t_atHand_offsets).bind fun r30_4 =>
      (p_Road_stopsBefore n z3 (r20_3 - r30_4) v_t_atHand_cycle v_t_road_size v_t_road_queues v_t_road_seconds v_t_road_greens v_t_road_weights).bind fun r51_5 =>
      p_WO_allStops_4 n k v_t_road_size v_t_atHand_offsets v_t_atHand_cycle v_t_road_queues v_t_road_seconds v_t_road_greens v_t_road_weights (z1 + r51_5.toInt64) (z3 + (1 : Int32))
theorem q_WO_allStops_4 (n k : Nat) (v_t_road_size : Int32) (v_t_atHand_offsets : Nat → Int32) (v_t_atHand_cycle : Int32) (v_t_road_queues : Nat → Int32) (v_t_road_seconds : Nat → Int32) (v_t_road_greens : Nat → Int32) (v_t_road_weights : Nat → Int32) (z1 : Int64) (z3 : Int32) : p_WO_allStops_4 n (k + 1) v_t_road_size v_t_atHand_offsets v_t_atHand_cycle v_t_road_queues v_t_road_seconds v_t_road_greens v_t_road_weights z1 z3 =
    (p_Road_size n v_t_road_size).bind fun r9_1 =>
    if r9_1 ≤ z3 then
      some z1
    else
      (p_Plan_offsetOf n z3 v_t_atHand_offsets).bind fun r20_3 =>
      (p_Plan_offsetOf n (z3 - (1 : Int32)) v_t_atHand_offsets).bind fun r30_4 =>
      (p_Road_stopsBefore n z3 (r20_3 - r30_4) v_t_atHand_cycle v_t_road_size v_t_road_queues v_t_road_seconds v_t_road_greens v_t_road_weights).bind fun r51_5 =>
      p_WO_allStops_4 n k v_t_road_size v_t_atHand_offsets v_t_atHand_cycle v_t_road_queues v_t_road_seconds v_t_road_greens v_t_road_weights (z1 + r51_5.toInt64) (z3 + (1 : Int32)) := rfl
def p_WO_allStops (n : Nat) (v_t_road_size : Int32) (v_t_atHand_offsets : Nat → Int32) (v_t_atHand_cycle : Int32) (v_t_road_queues : Nat → Int32) (v_t_road_seconds : Nat → Int32) (v_t_road_greens : Nat → Int32) (v_t_road_weights : Nat → Int32) : Option (Int64) :=
  (p_WO_allStops_4 n n v_t_road_size v_t_atHand_offsets v_t_atHand_cycle v_t_road_queues v_t_road_seconds v_t_road_greens v_t_road_weights (0 : Int64) (1 : Int32)).bind fun q4_6 =>
  some q4_6
abbrev m_WO_allStops : Room := { frames := 4, cells := 0, slots := 0, locals := 94 }
set_option maxHeartbeats 4000000 in
set_option maxRecDepth 100000 in
theorem c_WO_allStops (l : Launch) (G : va_G) (K : Nat → ClassId) (n : Nat) (t : Nat) (t_road : Nat) (t_search : Nat) (t_atHand : Nat) (t_timetable : Nat) (t_arrivals : Nat) (t_road_greens : Nat) (t_road_leasts : Nat) (t_road_queues : Nat) (t_road_seconds : Nat) (t_road_weights : Nat) (t_atHand_offsets : Nat) (v_t_road_size : Int32) (v_t_road_firstCycle : Int32) (v_t_road_lastCycle : Int32) (v_t_road_cycleBy : Int32) (v_t_road_stepSeconds : Int32) (v_t_road_greens : Nat → Int32) (v_t_road_queues : Nat → Int32) (v_t_road_seconds : Nat → Int32) (v_t_road_weights : Nat → Int32) (v_t_atHand_cycle : Int32) (v_t_atHand_size : Int32) (v_t_atHand_aim : Int32) (v_t_atHand_sawAll : Int32) (v_t_atHand_offsets : Nat → Int32) (o : Int64) (hF : p_WO_allStops n v_t_road_size v_t_atHand_offsets v_t_atHand_cycle v_t_road_queues v_t_road_seconds v_t_road_greens v_t_road_weights = some o) :
    Met l y_WO_allStops (wd y_WO_allStops b_WO_allStops 5 (some .long)) m_WO_allStops (dk_Pp [.ref t] G K [(t, .inr (0, [.ref t_road, .ref t_search, .ref t_atHand, .ref t_timetable, .ref t_arrivals])), (t_road, .inr (1, [.ref t_road_greens, .ref t_road_leasts, .ref t_road_queues, .ref t_road_seconds, .ref t_road_weights, .int v_t_road_size, .int v_t_road_firstCycle, .int v_t_road_lastCycle, .int v_t_road_cycleBy, .int v_t_road_stepSeconds])), (t_road_greens, .inl (K 0, 5, .inl v_t_road_greens)), (t_road_queues, .inl (K 0, 5, .inl v_t_road_queues)), (t_road_seconds, .inl (K 0, 10, .inl v_t_road_seconds)), (t_road_weights, .inl (K 0, 10, .inl v_t_road_weights)), (t_atHand, .inr (2, [.ref t_atHand_offsets, .int v_t_atHand_cycle, .int v_t_atHand_size, .int v_t_atHand_aim, .int v_t_atHand_sawAll])), (t_atHand_offsets, .inl (K 0, 5, .inl v_t_atHand_offsets))]) (dk_Qp (some (.long o))) 0 0 (fun _ => False) := by
  refine Met.ofW (cc := b_WO_allStops) (maxL := 5) (ret := (some .long)) (by decide) rfl ?_
  intro p e s m args below meth c s₁ B hml hv
  obtain ⟨rfl, hP, hK, hN⟩ := hv
  have hx := B.exec
  have hb := B.bytes
  have hr := B.returns
  have hts : ∀ w ∈ lw_good, w.before _ s = true := fun w h => atoms_spec (ws := wd y_WO_allStops b_WO_allStops 5 (some .long)) B.pre w (List.mem_cons_of_mem _ h)
  have hown : s.vm.findClass R_WO = some m.cls := findClass_of_methodNamed B.named
  have hlocks := B.notSynchronized
  have hfix : CallFix p m c b_WO_allStops 5 s _ lw_good R_WO := ⟨hx, hb, hml, hown, hts⟩
  have hl := lv_entry ([.ref t]) (n := 5) (Nat.le_of_ble_eq_true rfl)
  rw [lg_entry_eq]
  generalize (lg_sl ([.ref t]) ++ List.replicate (5 - (lg_sl ([.ref t])).length) Slot.unset).toArray = ls at hl ⊢
  have hl : lv_has ls 5 [(0, .ref t)] := hl
  change W p l e m_WO_allStops s m _ below meth c s.heap [] 0 0 _ _
  have L4 : ∀ (k : Nat) (z1 : Int64) (z3 : Int32) (q : Int64), p_WO_allStops_4 n k v_t_road_size v_t_atHand_offsets v_t_atHand_cycle v_t_road_queues v_t_road_seconds v_t_road_greens v_t_road_weights z1 z3 = some q → ∀ ls : Array Slot, lv_has ls 5 [(0, .ref t), (1, .long z1), (3, .int z3)] → (∀ (ls1 : Array Slot), lv_has ls1 5 [(1, .long q)] → W p l e m_WO_allStops s m ([.ref t] : List Value).toArray below meth c s.heap [] 0 0 (MQ below (dk_Qp (some (.long o))) ([.ref t] : List Value).toArray s 0 0 (fun _ => False)) (F0 m 63 ls1 [])) → W p l e m_WO_allStops s m ([.ref t] : List Value).toArray below meth c s.heap [] 0 0 (MQ below (dk_Qp (some (.long o))) ([.ref t] : List Value).toArray s 0 0 (fun _ => False)) (F0 m 4 ls []) := by
    intro k
    induction k with
    | zero =>
      intro z1 z3 q hF ls hl hk
      exact absurd hF (by simp [p_WO_allStops_4])
    | succ k jh =>
      intro z1 z3 q hF ls hl hk
      have hF := (q_WO_allStops_4 n k v_t_road_size v_t_atHand_offsets v_t_atHand_cycle v_t_road_queues v_t_road_seconds v_t_road_greens v_t_road_weights z1 z3).symm.trans hF
      refine lv_iload_n hx hb d_WO_allStops_4 rfl (lv_at hl 2 rfl) ?_
      refine lv_aload_n hx hb d_WO_allStops_5 rfl (lv_at hl 0 rfl) ?_
      refine va_get (D := G) (ci := 0) (v := .ref t_road) (C := R_WO) (T := F_WO) (N := 5) hx hb hts i_WO hown hK hP 0 rfl rfl 0 (by decide) (hts _ lk_228) (fun _ h9 => h9) rfl d_WO_allStops_6 ?_
      obtain ⟨r9_1, hC, hF⟩ := dk_b hF
      refine dk_pure (va_runV (As := []) (rest := [.int z3]) hfix (c_Road_size l G K n t_road t_road_greens t_road_leasts t_road_queues t_road_seconds t_road_weights v_t_road_size v_t_road_firstCycle v_t_road_lastCycle v_t_road_cycleBy v_t_road_stepSeconds r9_1 hC) (cwV 0 hts (gd_V lk_232 lk_127 lk_128 lk_29 lk_126) rfl rfl rfl (by decide +kernel) ⟨Nat.le_of_ble_eq_true rfl, Nat.le_of_ble_eq_true rfl⟩) (dk_preV hK hN (hP.sub [1] rfl) (va_recv hK hP (ci := 1) (q0 := 1) rfl rfl)) rfl rfl hl.1 rfl (lv_room (Nat.le_of_ble_eq_true rfl)) d_WO_allStops_9 ⟨Nat.le_of_ble_eq_true rfl, Nat.le_of_ble_eq_true rfl⟩) ?_
      refine lv_icmp_ge (tgt := 63) hx hb d_WO_allStops_12 (by decide) (fun c12_2 => ?_) (fun c12_2 => ?_)
      · have hF := dk_t c12_2 hF
        obtain rfl := Option.some.inj hF
        exact hk ls (lv_sub hl [1] rfl)
      · have hF := dk_f c12_2 hF
        refine lv_aload_n hx hb d_WO_allStops_15 rfl (lv_at hl 0 rfl) ?_
        refine va_get (D := G) (ci := 0) (v := .ref t_atHand) (C := R_WO) (T := F_WO) (N := 5) hx hb hts i_WO hown hK hP 0 rfl rfl 2 (by decide) (hts _ lk_230) (fun _ h9 => h9) rfl d_WO_allStops_16 ?_
        refine lv_iload_n hx hb d_WO_allStops_19 rfl (lv_at hl 2 rfl) ?_
        obtain ⟨r20_3, hC, hF⟩ := dk_b hF
        refine dk_pure (va_runV (As := [.int z3]) (rest := []) hfix (c_Plan_offsetOf l G K n t_atHand t_atHand_offsets z3 v_t_atHand_cycle v_t_atHand_size v_t_atHand_aim v_t_atHand_sawAll v_t_atHand_offsets r20_3 hC) (cwV 1 hts (gd_V lk_233 lk_92 lk_93 lk_94 lk_91) rfl rfl rfl (by decide +kernel) ⟨Nat.le_of_ble_eq_true rfl, Nat.le_of_ble_eq_true rfl⟩) (dk_preV hK hN (hP.sub [6, 7] rfl) (va_recv hK hP (ci := 2) (q0 := 6) rfl rfl)) rfl rfl hl.1 rfl (lv_room (Nat.le_of_ble_eq_true rfl)) d_WO_allStops_20 ⟨Nat.le_of_ble_eq_true rfl, Nat.le_of_ble_eq_true rfl⟩) ?_
        refine lv_aload_n hx hb d_WO_allStops_23 rfl (lv_at hl 0 rfl) ?_
        refine va_get (D := G) (ci := 0) (v := .ref t_atHand) (C := R_WO) (T := F_WO) (N := 5) hx hb hts i_WO hown hK hP 0 rfl rfl 2 (by decide) (hts _ lk_230) (fun _ h9 => h9) rfl d_WO_allStops_24 ?_
        refine lv_iload_n hx hb d_WO_allStops_27 rfl (lv_at hl 2 rfl) ?_
        refine lv_iconst (v := (1 : Int32)) hx hb d_WO_allStops_28 (by decide) ?_
        refine lv_isub hx hb d_WO_allStops_29 ?_
        obtain ⟨r30_4, hC, hF⟩ := dk_b hF
        refine dk_pure (va_runV (As := [.int (z3 - (1 : Int32))]) (rest := [.int r20_3]) hfix (c_Plan_offsetOf l G K n t_atHand t_atHand_offsets (z3 - (1 : Int32)) v_t_atHand_cycle v_t_atHand_size v_t_atHand_aim v_t_atHand_sawAll v_t_atHand_offsets r30_4 hC) (cwV 1 hts (gd_V lk_233 lk_92 lk_93 lk_94 lk_91) rfl rfl rfl (by decide +kernel) ⟨Nat.le_of_ble_eq_true rfl, Nat.le_of_ble_eq_true rfl⟩) (dk_preV hK hN (hP.sub [6, 7] rfl) (va_recv hK hP (ci := 2) (q0 := 6) rfl rfl)) rfl rfl hl.1 rfl (lv_room (Nat.le_of_ble_eq_true rfl)) d_WO_allStops_30 ⟨Nat.le_of_ble_eq_true rfl, Nat.le_of_ble_eq_true rfl⟩) ?_
        refine lv_isub hx hb d_WO_allStops_33 ?_
        refine lv_istore (lv' := [(4, .int (r20_3 - r30_4)), (0, .ref t), (1, .long z1), (3, .int z3)]) hx hb d_WO_allStops_34 hl (by decide) rfl (fun ls hl => ?_)
        refine lv_lload_n hx hb d_WO_allStops_36 rfl (lv_at hl 2 rfl) ?_
        refine lv_aload_n hx hb d_WO_allStops_37 rfl (lv_at hl 1 rfl) ?_
        refine va_get (D := G) (ci := 0) (v := .ref t_road) (C := R_WO) (T := F_WO) (N := 5) hx hb hts i_WO hown hK hP 0 rfl rfl 0 (by decide) (hts _ lk_228) (fun _ h9 => h9) rfl d_WO_allStops_38 ?_
        refine lv_iload_n hx hb d_WO_allStops_41 rfl (lv_at hl 3 rfl) ?_
        refine lv_iload hx hb d_WO_allStops_42 (lv_at hl 0 rfl) ?_
        refine lv_aload_n hx hb d_WO_allStops_44 rfl (lv_at hl 1 rfl) ?_
        refine va_get (D := G) (ci := 0) (v := .ref t_atHand) (C := R_WO) (T := F_WO) (N := 5) hx hb hts i_WO hown hK hP 0 rfl rfl 2 (by decide) (hts _ lk_230) (fun _ h9 => h9) rfl d_WO_allStops_45 ?_
        refine va_getN (D := G) (ci := 2) (v := .int v_t_atHand_cycle) (C := R_Plan) (T := F_Plan) (N := 5) hx hb hts i_Plan hown hK hP 6 rfl rfl 1 (by decide) (va_Nw.use rfl (hN.1 _ lk_234)) (fun _ h9 => h9) rfl d_WO_allStops_48 ?_
        obtain ⟨r51_5, hC, hF⟩ := dk_b hF
        refine dk_pure (va_runV (As := [.int z3, .int (r20_3 - r30_4), .int v_t_atHand_cycle]) (rest := [.long z1]) hfix (c_Road_stopsBefore l G K n t_road t_road_greens t_road_leasts t_road_queues t_road_seconds t_road_weights z3 (r20_3 - r30_4) v_t_atHand_cycle v_t_road_size v_t_road_firstCycle v_t_road_lastCycle v_t_road_cycleBy v_t_road_stepSeconds v_t_road_greens v_t_road_queues v_t_road_seconds v_t_road_weights r51_5 hC) (cwV 3 hts (gd_V lk_239 lk_152 lk_153 lk_29 lk_151) rfl rfl rfl (by decide +kernel) ⟨Nat.le_of_ble_eq_true rfl, Nat.le_of_ble_eq_true rfl⟩) (dk_preV hK hN (hP.sub [1, 2, 3, 4, 5] rfl) (va_recv hK hP (ci := 1) (q0 := 1) rfl rfl)) rfl rfl hl.1 rfl (lv_room (Nat.le_of_ble_eq_true rfl)) d_WO_allStops_51 ⟨Nat.le_of_ble_eq_true rfl, Nat.le_of_ble_eq_true rfl⟩) ?_
        refine lv_i2l hx hb d_WO_allStops_54 rfl ?_
        refine lv_ladd hx hb d_WO_allStops_55 ?_
        refine lv_lstore_n (lv' := [(1, .long (z1 + r51_5.toInt64)), (4, .int (r20_3 - r30_4)), (0, .ref t), (3, .int z3)]) hx hb d_WO_allStops_56 rfl hl (by decide) rfl (fun ls hl => ?_)
        refine lv_iinc (v := z3 + (1 : Int32)) (lv' := [(3, .int (z3 + (1 : Int32))), (1, .long (z1 + r51_5.toInt64)), (4, .int (r20_3 - r30_4)), (0, .ref t)]) hx hb d_WO_allStops_57 hl (k := 3) rfl rfl (by decide) rfl (fun ls hl => ?_)
        refine lv_goto (tgt := 4) hx hb d_WO_allStops_60 (by decide) ?_
        exact jh (z1 + r51_5.toInt64) (z3 + (1 : Int32)) q hF ls (lv_sub hl [3, 1, 0] rfl) hk
  unfold p_WO_allStops at hF
  refine lv_lconst (v := (0 : Int64)) hx hb d_WO_allStops_0 (by decide) ?_
  refine lv_lstore_n (lv' := [(1, .long (0 : Int64)), (0, .ref t)]) hx hb d_WO_allStops_1 rfl hl (by decide) rfl (fun ls hl => ?_)
  refine lv_iconst (v := (1 : Int32)) hx hb d_WO_allStops_2 (by decide) ?_
  refine lv_istore_n (lv' := [(3, .int (1 : Int32)), (1, .long (0 : Int64)), (0, .ref t)]) hx hb d_WO_allStops_3 rfl hl (by decide) rfl (fun ls hl => ?_)
  obtain ⟨q4_6, hC, hF⟩ := dk_b hF
  refine L4 n (0 : Int64) (1 : Int32) q4_6 hC ls (lv_sub hl [2, 1, 0] rfl) (fun ls hl => ?_)
  refine lv_lload_n hx hb d_WO_allStops_63 rfl (lv_at hl 0 rfl) ?_
  obtain rfl := Option.some.inj hF
  exact W.lret (v := q4_6) hx hb hr (fun t ht hW => ⟨rfl, ht⟩) (fun _ h => by cases h) d_WO_allStops_64
def p_WO_crossing (n : Nat) (x1 : Int32) (x2 : Int32) (v_t_road_size : Int32) (v_t_road_greens : Nat → Int32) (v_t_road_leasts : Nat → Int32) (v_t_atHand_cycle : Int32) : Option (Int32 × Int32 × (Nat → Int32) × (Nat → Int32) × Int32) :=
  (p_WO_within n x1.toInt64 (5 : Int64) (90 : Int64)).bind fun r8_1 =>
  if r8_1 = 0 then
    some (((-1) : Int32), v_t_road_size, v_t_road_greens, v_t_road_leasts, v_t_atHand_cycle)
  else
    if x2 ≤ x1 then
      some (((-1) : Int32), v_t_road_size, v_t_road_greens, v_t_road_leasts, v_t_atHand_cycle)
    else
      (p_WO_within n x2.toInt64 (10 : Int64) (120 : Int64)).bind fun r27_4 =>
      if r27_4 = 0 then
        some (((-1) : Int32), v_t_road_size, v_t_road_greens, v_t_road_leasts, v_t_atHand_cycle)
      else
        (p_Road_isFull n v_t_road_size).bind fun r37_6 =>
        if r37_6 = 0 then
          (p_Plan_clear n v_t_atHand_cycle).bind fun r49_8 =>
          (p_Road_addCrossing n x1 x2 v_t_road_size v_t_road_greens v_t_road_leasts).bind fun r58_9 =>
          some (r58_9.1, r58_9.2.1, r58_9.2.2.1, r58_9.2.2.2, r49_8)
        else
          some (((-1) : Int32), v_t_road_size, v_t_road_greens, v_t_road_leasts, v_t_atHand_cycle)
abbrev m_WO_crossing : Room := { frames := 2, cells := 0, slots := 0, locals := 42 }
set_option maxHeartbeats 4000000 in
set_option maxRecDepth 100000 in
theorem c_WO_crossing (l : Launch) (G : va_G) (K : Nat → ClassId) (n : Nat) (sz : Nat) (t : Nat) (t_road : Nat) (t_search : Nat) (t_atHand : Nat) (t_timetable : Nat) (t_arrivals : Nat) (t_road_greens : Nat) (t_road_leasts : Nat) (t_road_queues : Nat) (t_road_seconds : Nat) (t_road_weights : Nat) (t_atHand_offsets : Nat) (x1 : Int32) (x2 : Int32) (v_t_road_size : Int32) (v_t_road_firstCycle : Int32) (v_t_road_lastCycle : Int32) (v_t_road_cycleBy : Int32) (v_t_road_stepSeconds : Int32) (v_t_road_greens : Nat → Int32) (v_t_road_leasts : Nat → Int32) (v_t_atHand_cycle : Int32) (v_t_atHand_size : Int32) (v_t_atHand_aim : Int32) (v_t_atHand_sawAll : Int32) (o : Int32 × Int32 × (Nat → Int32) × (Nat → Int32) × Int32) (hF : p_WO_crossing n x1 x2 v_t_road_size v_t_road_greens v_t_road_leasts v_t_atHand_cycle = some o) :
    Met l y_WO_crossing (wd y_WO_crossing b_WO_crossing 3 (some .int)) m_WO_crossing (dk_Pm [.ref t, .int x1, .int x2] G K [(t, .inr (0, [.ref t_road, .ref t_search, .ref t_atHand, .ref t_timetable, .ref t_arrivals])), (t_road, .inr (1, [.ref t_road_greens, .ref t_road_leasts, .ref t_road_queues, .ref t_road_seconds, .ref t_road_weights, .int v_t_road_size, .int v_t_road_firstCycle, .int v_t_road_lastCycle, .int v_t_road_cycleBy, .int v_t_road_stepSeconds])), (t_road_greens, .inl (K 0, 5, .inl v_t_road_greens)), (t_road_leasts, .inl (K 0, 5, .inl v_t_road_leasts)), (t_atHand, .inr (2, [.ref t_atHand_offsets, .int v_t_atHand_cycle, .int v_t_atHand_size, .int v_t_atHand_aim, .int v_t_atHand_sawAll]))] sz) (dk_Qm (some (.int o.1)) G (fun _ : Unit => [(t, .inr (0, [.ref t_road, .ref t_search, .ref t_atHand, .ref t_timetable, .ref t_arrivals])), (t_road, .inr (1, [.ref t_road_greens, .ref t_road_leasts, .ref t_road_queues, .ref t_road_seconds, .ref t_road_weights, .int o.2.1, .int v_t_road_firstCycle, .int v_t_road_lastCycle, .int v_t_road_cycleBy, .int v_t_road_stepSeconds])), (t_road_greens, .inl (K 0, 5, .inl o.2.2.1)), (t_road_leasts, .inl (K 0, 5, .inl o.2.2.2.1)), (t_atHand, .inr (2, [.ref t_atHand_offsets, .int o.2.2.2.2, .int v_t_atHand_size, .int v_t_atHand_aim, .int v_t_atHand_sawAll]))]) (va_A [(t, .inr (0, [.ref t_road, .ref t_search, .ref t_atHand, .ref t_timetable, .ref t_arrivals])), (t_road, .inr (1, [.ref t_road_greens, .ref t_road_leasts, .ref t_road_queues, .ref t_road_seconds, .ref t_road_weights, .int v_t_road_size, .int v_t_road_firstCycle, .int v_t_road_lastCycle, .int v_t_road_cycleBy, .int v_t_road_stepSeconds])), (t_road_greens, .inl (K 0, 5, .inl v_t_road_greens)), (t_road_leasts, .inl (K 0, 5, .inl v_t_road_leasts)), (t_atHand, .inr (2, [.ref t_atHand_offsets, .int v_t_atHand_cycle, .int v_t_atHand_size, .int v_t_atHand_aim, .int v_t_atHand_sawAll]))] sz)) 0 0 (va_A [(t, .inr (0, [.ref t_road, .ref t_search, .ref t_atHand, .ref t_timetable, .ref t_arrivals])), (t_road, .inr (1, [.ref t_road_greens, .ref t_road_leasts, .ref t_road_queues, .ref t_road_seconds, .ref t_road_weights, .int v_t_road_size, .int v_t_road_firstCycle, .int v_t_road_lastCycle, .int v_t_road_cycleBy, .int v_t_road_stepSeconds])), (t_road_greens, .inl (K 0, 5, .inl v_t_road_greens)), (t_road_leasts, .inl (K 0, 5, .inl v_t_road_leasts)), (t_atHand, .inr (2, [.ref t_atHand_offsets, .int v_t_atHand_cycle, .int v_t_atHand_size, .int v_t_atHand_aim, .int v_t_atHand_sawAll]))] sz) := by
  refine Met.ofW (cc := b_WO_crossing) (maxL := 3) (ret := (some .int)) (by decide) rfl ?_
  intro p e s m args below meth c s₁ B hml hv
  obtain ⟨rfl, hsz, hP, hK, hN, hD0⟩ := hv
  have hx := B.exec
  have hb := B.bytes
  have hr := B.returns
  have hts : ∀ w ∈ lw_good, w.before _ s = true := fun w h => atoms_spec (ws := wd y_WO_crossing b_WO_crossing 3 (some .int)) B.pre w (List.mem_cons_of_mem _ h)
  have hown : s.vm.findClass R_WO = some m.cls := findClass_of_methodNamed B.named
  have hlocks := B.notSynchronized
  have hfix : CallFix p m c b_WO_crossing 3 s _ lw_good R_WO := ⟨hx, hb, hml, hown, hts⟩
  subst hsz
  have hD := hD0.self (sz := s.heap.size)
  generalize hAe : va_A [(t, .inr (0, [.ref t_road, .ref t_search, .ref t_atHand, .ref t_timetable, .ref t_arrivals])), (t_road, .inr (1, [.ref t_road_greens, .ref t_road_leasts, .ref t_road_queues, .ref t_road_seconds, .ref t_road_weights, .int v_t_road_size, .int v_t_road_firstCycle, .int v_t_road_lastCycle, .int v_t_road_cycleBy, .int v_t_road_stepSeconds])), (t_road_greens, .inl (K 0, 5, .inl v_t_road_greens)), (t_road_leasts, .inl (K 0, 5, .inl v_t_road_leasts)), (t_atHand, .inr (2, [.ref t_atHand_offsets, .int v_t_atHand_cycle, .int v_t_atHand_size, .int v_t_atHand_aim, .int v_t_atHand_sawAll]))] s.heap.size = A at hD ⊢
  have hA : ∀ q : Nat, s.heap.size ≤ q → A q := fun q h => by rw [← hAe]; exact Or.inr h
  have hS : va_S A s.heap s.heap [] := va_S.rf
  have hl := lv_entry ([.ref t, .int x1, .int x2]) (n := 3) (Nat.le_of_ble_eq_true rfl)
  rw [lg_entry_eq]
  generalize (lg_sl ([.ref t, .int x1, .int x2]) ++ List.replicate (3 - (lg_sl ([.ref t, .int x1, .int x2])).length) Slot.unset).toArray = ls at hl ⊢
  have hl : lv_has ls 3 [(0, .ref t), (1, .int x1), (2, .int x2)] := hl
  change W p l e m_WO_crossing s m _ below meth c s.heap [] 0 0 _ _
  unfold p_WO_crossing at hF
  refine lv_iload_n hx hb d_WO_crossing_0 rfl (lv_at hl 1 rfl) ?_
  refine lv_i2l hx hb d_WO_crossing_1 rfl ?_
  refine lv_ldc2 (own := R_WO) (index := 44) (v := (5 : Int64)) hx hb hown (hts _ lk_240) d_WO_crossing_2 ?_
  refine lv_ldc2 (own := R_WO) (index := 46) (v := (90 : Int64)) hx hb hown (hts _ lk_241) d_WO_crossing_5 ?_
  obtain ⟨r8_1, hC, hF⟩ := dk_b hF
  refine dk_pure (va_runS (As := [.long x1.toInt64, .long (5 : Int64), .long (90 : Int64)]) (rest := []) hfix (c_WO_within l G K n x1.toInt64 (5 : Int64) (90 : Int64) r8_1 hC) (va_cwS 3 hts (gd_S lk_242 lk_137 lk_16 lk_136) rfl rfl rfl (by decide +kernel) ⟨Nat.le_of_ble_eq_true rfl, Nat.le_of_ble_eq_true rfl⟩) (dk_preS hK hN (hP.sub [] rfl)) rfl rfl hl.1 rfl (lv_room (Nat.le_of_ble_eq_true rfl)) d_WO_crossing_8 ⟨Nat.le_of_ble_eq_true rfl, Nat.le_of_ble_eq_true rfl⟩) ?_
  refine lv_if_eq (tgt := 43) hx hb d_WO_crossing_11 (by decide) (fun c11_2 => ?_) (fun c11_2 => ?_)
  · have hF := dk_t c11_2 hF
    refine lv_iconst (v := ((-1) : Int32)) hx hb d_WO_crossing_43 (by decide) ?_
    obtain rfl := Option.some.inj hF
    exact W.iret (v := ((-1) : Int32)) hx hb hr (fun t ht hW => ⟨⟨(), rfl, by rw [ht]; exact hP, hD⟩, hS.F ht⟩) hS.2.2 d_WO_crossing_44
  · have hF := dk_f c11_2 hF
    refine lv_iload_n hx hb d_WO_crossing_14 rfl (lv_at hl 2 rfl) ?_
    refine lv_iload_n hx hb d_WO_crossing_15 rfl (lv_at hl 1 rfl) ?_
    refine lv_icmp_le (tgt := 43) hx hb d_WO_crossing_16 (by decide) (fun c16_3 => ?_) (fun c16_3 => ?_)
    · have hF := dk_t c16_3 hF
      refine lv_iconst (v := ((-1) : Int32)) hx hb d_WO_crossing_43 (by decide) ?_
      obtain rfl := Option.some.inj hF
      exact W.iret (v := ((-1) : Int32)) hx hb hr (fun t ht hW => ⟨⟨(), rfl, by rw [ht]; exact hP, hD⟩, hS.F ht⟩) hS.2.2 d_WO_crossing_44
    · have hF := dk_f c16_3 hF
      refine lv_iload_n hx hb d_WO_crossing_19 rfl (lv_at hl 2 rfl) ?_
      refine lv_i2l hx hb d_WO_crossing_20 rfl ?_
      refine lv_ldc2 (own := R_WO) (index := 52) (v := (10 : Int64)) hx hb hown (hts _ lk_243) d_WO_crossing_21 ?_
      refine lv_ldc2 (own := R_WO) (index := 54) (v := (120 : Int64)) hx hb hown (hts _ lk_244) d_WO_crossing_24 ?_
      obtain ⟨r27_4, hC, hF⟩ := dk_b hF
      refine dk_pure (va_runS (As := [.long x2.toInt64, .long (10 : Int64), .long (120 : Int64)]) (rest := []) hfix (c_WO_within l G K n x2.toInt64 (10 : Int64) (120 : Int64) r27_4 hC) (va_cwS 3 hts (gd_S lk_242 lk_137 lk_16 lk_136) rfl rfl rfl (by decide +kernel) ⟨Nat.le_of_ble_eq_true rfl, Nat.le_of_ble_eq_true rfl⟩) (dk_preS hK hN (hP.sub [] rfl)) rfl rfl hl.1 rfl (lv_room (Nat.le_of_ble_eq_true rfl)) d_WO_crossing_27 ⟨Nat.le_of_ble_eq_true rfl, Nat.le_of_ble_eq_true rfl⟩) ?_
      refine lv_if_eq (tgt := 43) hx hb d_WO_crossing_30 (by decide) (fun c30_5 => ?_) (fun c30_5 => ?_)
      · have hF := dk_t c30_5 hF
        refine lv_iconst (v := ((-1) : Int32)) hx hb d_WO_crossing_43 (by decide) ?_
        obtain rfl := Option.some.inj hF
        exact W.iret (v := ((-1) : Int32)) hx hb hr (fun t ht hW => ⟨⟨(), rfl, by rw [ht]; exact hP, hD⟩, hS.F ht⟩) hS.2.2 d_WO_crossing_44
      · have hF := dk_f c30_5 hF
        refine lv_aload_n hx hb d_WO_crossing_33 rfl (lv_at hl 0 rfl) ?_
        refine va_get (D := G) (ci := 0) (v := .ref t_road) (C := R_WO) (T := F_WO) (N := 5) hx hb hts i_WO hown hK hP 0 rfl rfl 0 (by decide) (hts _ lk_228) (fun _ h9 => h9) rfl d_WO_crossing_34 ?_
        obtain ⟨r37_6, hC, hF⟩ := dk_b hF
        refine dk_pure (va_runV (As := []) (rest := []) hfix (c_Road_isFull l G K n t_road t_road_greens t_road_leasts t_road_queues t_road_seconds t_road_weights v_t_road_size v_t_road_firstCycle v_t_road_lastCycle v_t_road_cycleBy v_t_road_stepSeconds r37_6 hC) (cwV 0 hts (gd_V lk_245 lk_27 lk_28 lk_29 lk_26) rfl rfl rfl (by decide +kernel) ⟨Nat.le_of_ble_eq_true rfl, Nat.le_of_ble_eq_true rfl⟩) (dk_preV hK hN (hP.sub [1] rfl) (va_recv hK hP (ci := 1) (q0 := 1) rfl rfl)) rfl rfl hl.1 rfl (lv_room (Nat.le_of_ble_eq_true rfl)) d_WO_crossing_37 ⟨Nat.le_of_ble_eq_true rfl, Nat.le_of_ble_eq_true rfl⟩) ?_
        refine lv_if_eq (tgt := 45) hx hb d_WO_crossing_40 (by decide) (fun c40_7 => ?_) (fun c40_7 => ?_)
        · have hF := dk_t c40_7 hF
          refine lv_aload_n hx hb d_WO_crossing_45 rfl (lv_at hl 0 rfl) ?_
          refine va_get (D := G) (ci := 0) (v := .ref t_atHand) (C := R_WO) (T := F_WO) (N := 5) hx hb hts i_WO hown hK hP 0 rfl rfl 2 (by decide) (hts _ lk_230) (fun _ h9 => h9) rfl d_WO_crossing_46 ?_
          obtain ⟨r49_8, hC, hF⟩ := dk_b hF
          refine dk_mutv (wr := [(t, .inr (0, [.ref t_road, .ref t_search, .ref t_atHand, .ref t_timetable, .ref t_arrivals])), (t_road, .inr (1, [.ref t_road_greens, .ref t_road_leasts, .ref t_road_queues, .ref t_road_seconds, .ref t_road_weights, .int v_t_road_size, .int v_t_road_firstCycle, .int v_t_road_lastCycle, .int v_t_road_cycleBy, .int v_t_road_stepSeconds])), (t_road_greens, .inl (K 0, 5, .inl v_t_road_greens)), (t_road_leasts, .inl (K 0, 5, .inl v_t_road_leasts))]) (va_runV (As := []) (rest := []) hfix (c_Plan_clear l G K n s.heap.size t_atHand t_atHand_offsets v_t_atHand_cycle v_t_atHand_size v_t_atHand_aim v_t_atHand_sawAll r49_8 hC) (cwV 0 hts (gd_V lk_246 lk_205 lk_206 lk_94 lk_204) rfl rfl rfl (by decide +kernel) ⟨Nat.le_of_ble_eq_true rfl, Nat.le_of_ble_eq_true rfl⟩) (dk_preVm hK hN (hP.sub [4] rfl) (hD.sub [4] (by decide) rfl) (va_recv hK hP (ci := 2) (q0 := 4) rfl rfl)) rfl rfl hl.1 rfl (lv_room (Nat.le_of_ble_eq_true rfl)) d_WO_crossing_49 ⟨Nat.le_of_ble_eq_true rfl, Nat.le_of_ble_eq_true rfl⟩) hS hA hP hD [4] [0, 1, 2, 3] rfl rfl (by decide) (by decide) (fun _ H locs hP hD hS => ?_)
          have hP : va_P G classes [(t, .inr (0, [.ref t_road, .ref t_search, .ref t_atHand, .ref t_timetable, .ref t_arrivals])), (t_road, .inr (1, [.ref t_road_greens, .ref t_road_leasts, .ref t_road_queues, .ref t_road_seconds, .ref t_road_weights, .int v_t_road_size, .int v_t_road_firstCycle, .int v_t_road_lastCycle, .int v_t_road_cycleBy, .int v_t_road_stepSeconds])), (t_road_greens, .inl (K 0, 5, .inl v_t_road_greens)), (t_road_leasts, .inl (K 0, 5, .inl v_t_road_leasts)), (t_atHand, .inr (2, [.ref t_atHand_offsets, .int r49_8, .int v_t_atHand_size, .int v_t_atHand_aim, .int v_t_atHand_sawAll]))] H := hP.sub [0, 1, 2, 3, 4] rfl
          have hD : va_D A [(t, .inr (0, [.ref t_road, .ref t_search, .ref t_atHand, .ref t_timetable, .ref t_arrivals])), (t_road, .inr (1, [.ref t_road_greens, .ref t_road_leasts, .ref t_road_queues, .ref t_road_seconds, .ref t_road_weights, .int v_t_road_size, .int v_t_road_firstCycle, .int v_t_road_lastCycle, .int v_t_road_cycleBy, .int v_t_road_stepSeconds])), (t_road_greens, .inl (K 0, 5, .inl v_t_road_greens)), (t_road_leasts, .inl (K 0, 5, .inl v_t_road_leasts)), (t_atHand, .inr (2, [.ref t_atHand_offsets, .int r49_8, .int v_t_atHand_size, .int v_t_atHand_aim, .int v_t_atHand_sawAll]))] := hD.sub [0, 1, 2, 3, 4] (by decide) rfl
          refine lv_aload_n hx hb d_WO_crossing_52 rfl (lv_at hl 0 rfl) ?_
          refine va_get (D := G) (ci := 0) (v := .ref t_road) (C := R_WO) (T := F_WO) (N := 5) hx hb hts i_WO hown hK hP 0 rfl rfl 0 (by decide) (hts _ lk_228) (fun _ h9 => h9) rfl d_WO_crossing_53 ?_
          refine lv_iload_n hx hb d_WO_crossing_56 rfl (lv_at hl 1 rfl) ?_
          refine lv_iload_n hx hb d_WO_crossing_57 rfl (lv_at hl 2 rfl) ?_
          obtain ⟨r58_9, hC, hF⟩ := dk_b hF
          refine dk_mut (wr := [(t, .inr (0, [.ref t_road, .ref t_search, .ref t_atHand, .ref t_timetable, .ref t_arrivals])), (t_atHand, .inr (2, [.ref t_atHand_offsets, .int r49_8, .int v_t_atHand_size, .int v_t_atHand_aim, .int v_t_atHand_sawAll]))]) (va_runV (As := [.int x1, .int x2]) (rest := []) hfix (c_Road_addCrossing l G K n H.size t_road t_road_greens t_road_leasts t_road_queues t_road_seconds t_road_weights x1 x2 v_t_road_size v_t_road_firstCycle v_t_road_lastCycle v_t_road_cycleBy v_t_road_stepSeconds v_t_road_greens v_t_road_leasts r58_9 hC) (cwV 2 hts (gd_V lk_247 lk_249 lk_250 lk_29 lk_248) rfl rfl rfl (by decide +kernel) ⟨Nat.le_of_ble_eq_true rfl, Nat.le_of_ble_eq_true rfl⟩) (dk_preVm hK hN (hP.sub [1, 2, 3] rfl) (hD.sub [1, 2, 3] (by decide) rfl) (va_recv hK hP (ci := 1) (q0 := 1) rfl rfl)) rfl rfl hl.1 rfl (lv_room (Nat.le_of_ble_eq_true rfl)) d_WO_crossing_58 ⟨Nat.le_of_ble_eq_true rfl, Nat.le_of_ble_eq_true rfl⟩) hS hA hP hD [1, 2, 3] [0, 4] rfl rfl (by decide) (by decide) (fun _ H locs hP hD hS => ?_)
          have hP : va_P G classes [(t, .inr (0, [.ref t_road, .ref t_search, .ref t_atHand, .ref t_timetable, .ref t_arrivals])), (t_road, .inr (1, [.ref t_road_greens, .ref t_road_leasts, .ref t_road_queues, .ref t_road_seconds, .ref t_road_weights, .int r58_9.2.1, .int v_t_road_firstCycle, .int v_t_road_lastCycle, .int v_t_road_cycleBy, .int v_t_road_stepSeconds])), (t_road_greens, .inl (K 0, 5, .inl r58_9.2.2.1)), (t_road_leasts, .inl (K 0, 5, .inl r58_9.2.2.2)), (t_atHand, .inr (2, [.ref t_atHand_offsets, .int r49_8, .int v_t_atHand_size, .int v_t_atHand_aim, .int v_t_atHand_sawAll]))] H := hP.sub [0, 2, 3, 4, 1] rfl
          have hD : va_D A [(t, .inr (0, [.ref t_road, .ref t_search, .ref t_atHand, .ref t_timetable, .ref t_arrivals])), (t_road, .inr (1, [.ref t_road_greens, .ref t_road_leasts, .ref t_road_queues, .ref t_road_seconds, .ref t_road_weights, .int r58_9.2.1, .int v_t_road_firstCycle, .int v_t_road_lastCycle, .int v_t_road_cycleBy, .int v_t_road_stepSeconds])), (t_road_greens, .inl (K 0, 5, .inl r58_9.2.2.1)), (t_road_leasts, .inl (K 0, 5, .inl r58_9.2.2.2)), (t_atHand, .inr (2, [.ref t_atHand_offsets, .int r49_8, .int v_t_atHand_size, .int v_t_atHand_aim, .int v_t_atHand_sawAll]))] := hD.sub [0, 2, 3, 4, 1] (by decide) rfl
          obtain rfl := Option.some.inj hF
          exact W.iret (v := r58_9.1) hx hb hr (fun t ht hW => ⟨⟨(), rfl, by rw [ht]; exact hP, hD⟩, hS.F ht⟩) hS.2.2 d_WO_crossing_61
        · have hF := dk_f c40_7 hF
          refine lv_iconst (v := ((-1) : Int32)) hx hb d_WO_crossing_43 (by decide) ?_
          obtain rfl := Option.some.inj hF
          exact W.iret (v := ((-1) : Int32)) hx hb hr (fun t ht hW => ⟨⟨(), rfl, by rw [ht]; exact hP, hD⟩, hS.F ht⟩) hS.2.2 d_WO_crossing_44
def p_WO_street (n : Nat) (x1 : Int32) (x2 : Int32) (x3 : Int32) (x4 : Int32) (v_t_road_size : Int32) (v_t_road_seconds : Nat → Int32) (v_t_road_weights : Nat → Int32) (v_t_atHand_cycle : Int32) : Option (Int32 × (Nat → Int32) × (Nat → Int32) × Int32) :=
  (p_Road_has n x1 v_t_road_size).bind fun r5_1 =>
  if r5_1 = 0 then
    some ((0 : Int32), v_t_road_seconds, v_t_road_weights, v_t_atHand_cycle)
  else
    (p_Road_has n x2 v_t_road_size).bind fun r16_3 =>
    if r16_3 = 0 then
      some ((0 : Int32), v_t_road_seconds, v_t_road_weights, v_t_atHand_cycle)
    else
      (p_WO_within n x3.toInt64 (1 : Int64) (200 : Int64)).bind fun r28_5 =>
      if r28_5 = 0 then
        some ((0 : Int32), v_t_road_seconds, v_t_road_weights, v_t_atHand_cycle)
      else
        (p_WO_within n x4.toInt64 (0 : Int64) (100 : Int64)).bind fun r41_7 =>
        if r41_7 = 0 then
          some ((0 : Int32), v_t_road_seconds, v_t_road_weights, v_t_atHand_cycle)
        else
          if x2 = (x1 + (1 : Int32)) then
            (p_Road_tellStreet n (0 : Int32) x1 x3 x4 v_t_road_size v_t_road_seconds v_t_road_weights).bind fun r65_13 =>
            (p_Plan_clear n v_t_atHand_cycle).bind fun r99_14 =>
            some ((1 : Int32), r65_13.1, r65_13.2, r99_14)
          else
            if x2 = (x1 - (1 : Int32)) then
              (p_Road_tellStreet n (1 : Int32) x1 x3 x4 v_t_road_size v_t_road_seconds v_t_road_weights).bind fun r87_11 =>
              (p_Plan_clear n v_t_atHand_cycle).bind fun r99_12 =>
              some ((1 : Int32), r87_11.1, r87_11.2, r99_12)
            else
              some ((0 : Int32), v_t_road_seconds, v_t_road_weights, v_t_atHand_cycle)
abbrev m_WO_street : Room := { frames := 2, cells := 0, slots := 0, locals := 45 }
set_option maxHeartbeats 4000000 in
set_option maxRecDepth 100000 in
theorem c_WO_street (l : Launch) (G : va_G) (K : Nat → ClassId) (n : Nat) (sz : Nat) (t : Nat) (t_road : Nat) (t_search : Nat) (t_atHand : Nat) (t_timetable : Nat) (t_arrivals : Nat) (t_road_greens : Nat) (t_road_leasts : Nat) (t_road_queues : Nat) (t_road_seconds : Nat) (t_road_weights : Nat) (t_atHand_offsets : Nat) (x1 : Int32) (x2 : Int32) (x3 : Int32) (x4 : Int32) (v_t_road_size : Int32) (v_t_road_firstCycle : Int32) (v_t_road_lastCycle : Int32) (v_t_road_cycleBy : Int32) (v_t_road_stepSeconds : Int32) (v_t_road_seconds : Nat → Int32) (v_t_road_weights : Nat → Int32) (v_t_atHand_cycle : Int32) (v_t_atHand_size : Int32) (v_t_atHand_aim : Int32) (v_t_atHand_sawAll : Int32) (o : Int32 × (Nat → Int32) × (Nat → Int32) × Int32) (hF : p_WO_street n x1 x2 x3 x4 v_t_road_size v_t_road_seconds v_t_road_weights v_t_atHand_cycle = some o) :
    Met l y_WO_street (wd y_WO_street b_WO_street 5 (some .boolean)) m_WO_street (dk_Pm [.ref t, .int x1, .int x2, .int x3, .int x4] G K [(t, .inr (0, [.ref t_road, .ref t_search, .ref t_atHand, .ref t_timetable, .ref t_arrivals])), (t_road, .inr (1, [.ref t_road_greens, .ref t_road_leasts, .ref t_road_queues, .ref t_road_seconds, .ref t_road_weights, .int v_t_road_size, .int v_t_road_firstCycle, .int v_t_road_lastCycle, .int v_t_road_cycleBy, .int v_t_road_stepSeconds])), (t_road_seconds, .inl (K 0, 10, .inl v_t_road_seconds)), (t_road_weights, .inl (K 0, 10, .inl v_t_road_weights)), (t_atHand, .inr (2, [.ref t_atHand_offsets, .int v_t_atHand_cycle, .int v_t_atHand_size, .int v_t_atHand_aim, .int v_t_atHand_sawAll]))] sz) (dk_Qm (some (.int o.1)) G (fun _ : Unit => [(t, .inr (0, [.ref t_road, .ref t_search, .ref t_atHand, .ref t_timetable, .ref t_arrivals])), (t_road, .inr (1, [.ref t_road_greens, .ref t_road_leasts, .ref t_road_queues, .ref t_road_seconds, .ref t_road_weights, .int v_t_road_size, .int v_t_road_firstCycle, .int v_t_road_lastCycle, .int v_t_road_cycleBy, .int v_t_road_stepSeconds])), (t_road_seconds, .inl (K 0, 10, .inl o.2.1)), (t_road_weights, .inl (K 0, 10, .inl o.2.2.1)), (t_atHand, .inr (2, [.ref t_atHand_offsets, .int o.2.2.2, .int v_t_atHand_size, .int v_t_atHand_aim, .int v_t_atHand_sawAll]))]) (va_A [(t, .inr (0, [.ref t_road, .ref t_search, .ref t_atHand, .ref t_timetable, .ref t_arrivals])), (t_road, .inr (1, [.ref t_road_greens, .ref t_road_leasts, .ref t_road_queues, .ref t_road_seconds, .ref t_road_weights, .int v_t_road_size, .int v_t_road_firstCycle, .int v_t_road_lastCycle, .int v_t_road_cycleBy, .int v_t_road_stepSeconds])), (t_road_seconds, .inl (K 0, 10, .inl v_t_road_seconds)), (t_road_weights, .inl (K 0, 10, .inl v_t_road_weights)), (t_atHand, .inr (2, [.ref t_atHand_offsets, .int v_t_atHand_cycle, .int v_t_atHand_size, .int v_t_atHand_aim, .int v_t_atHand_sawAll]))] sz)) 0 0 (va_A [(t, .inr (0, [.ref t_road, .ref t_search, .ref t_atHand, .ref t_timetable, .ref t_arrivals])), (t_road, .inr (1, [.ref t_road_greens, .ref t_road_leasts, .ref t_road_queues, .ref t_road_seconds, .ref t_road_weights, .int v_t_road_size, .int v_t_road_firstCycle, .int v_t_road_lastCycle, .int v_t_road_cycleBy, .int v_t_road_stepSeconds])), (t_road_seconds, .inl (K 0, 10, .inl v_t_road_seconds)), (t_road_weights, .inl (K 0, 10, .inl v_t_road_weights)), (t_atHand, .inr (2, [.ref t_atHand_offsets, .int v_t_atHand_cycle, .int v_t_atHand_size, .int v_t_atHand_aim, .int v_t_atHand_sawAll]))] sz) := by
  refine Met.ofW (cc := b_WO_street) (maxL := 5) (ret := (some .boolean)) (by decide) rfl ?_
  intro p e s m args below meth c s₁ B hml hv
  obtain ⟨rfl, hsz, hP, hK, hN, hD0⟩ := hv
  have hx := B.exec
  have hb := B.bytes
  have hr := B.returns
  have hts : ∀ w ∈ lw_good, w.before _ s = true := fun w h => atoms_spec (ws := wd y_WO_street b_WO_street 5 (some .boolean)) B.pre w (List.mem_cons_of_mem _ h)
  have hown : s.vm.findClass R_WO = some m.cls := findClass_of_methodNamed B.named
  have hlocks := B.notSynchronized
  have hfix : CallFix p m c b_WO_street 5 s _ lw_good R_WO := ⟨hx, hb, hml, hown, hts⟩
  subst hsz
  have hD := hD0.self (sz := s.heap.size)
  generalize hAe : va_A [(t, .inr (0, [.ref t_road, .ref t_search, .ref t_atHand, .ref t_timetable, .ref t_arrivals])), (t_road, .inr (1, [.ref t_road_greens, .ref t_road_leasts, .ref t_road_queues, .ref t_road_seconds, .ref t_road_weights, .int v_t_road_size, .int v_t_road_firstCycle, .int v_t_road_lastCycle, .int v_t_road_cycleBy, .int v_t_road_stepSeconds])), (t_road_seconds, .inl (K 0, 10, .inl v_t_road_seconds)), (t_road_weights, .inl (K 0, 10, .inl v_t_road_weights)), (t_atHand, .inr (2, [.ref t_atHand_offsets, .int v_t_atHand_cycle, .int v_t_atHand_size, .int v_t_atHand_aim, .int v_t_atHand_sawAll]))] s.heap.size = A at hD ⊢
  have hA : ∀ q : Nat, s.heap.size ≤ q → A q := fun q h => by rw [← hAe]; exact Or.inr h
  have hS : va_S A s.heap s.heap [] := va_S.rf
  have hl := lv_entry ([.ref t, .int x1, .int x2, .int x3, .int x4]) (n := 5) (Nat.le_of_ble_eq_true rfl)
  rw [lg_entry_eq]
  generalize (lg_sl ([.ref t, .int x1, .int x2, .int x3, .int x4]) ++ List.replicate (5 - (lg_sl ([.ref t, .int x1, .int x2, .int x3, .int x4])).length) Slot.unset).toArray = ls at hl ⊢
  have hl : lv_has ls 5 [(0, .ref t), (1, .int x1), (2, .int x2), (3, .int x3), (4, .int x4)] := hl
  change W p l e m_WO_street s m _ below meth c s.heap [] 0 0 _ _
  unfold p_WO_street at hF
  refine lv_aload_n hx hb d_WO_street_0 rfl (lv_at hl 0 rfl) ?_
  refine va_get (D := G) (ci := 0) (v := .ref t_road) (C := R_WO) (T := F_WO) (N := 5) hx hb hts i_WO hown hK hP 0 rfl rfl 0 (by decide) (hts _ lk_228) (fun _ h9 => h9) rfl d_WO_street_1 ?_
  refine lv_iload_n hx hb d_WO_street_4 rfl (lv_at hl 1 rfl) ?_
  obtain ⟨r5_1, hC, hF⟩ := dk_b hF
  refine dk_pure (va_runV (As := [.int x1]) (rest := []) hfix (c_Road_has l G K n t_road t_road_greens t_road_leasts t_road_queues t_road_seconds t_road_weights x1 v_t_road_size v_t_road_firstCycle v_t_road_lastCycle v_t_road_cycleBy v_t_road_stepSeconds r5_1 hC) (cwV 1 hts (gd_V lk_229 lk_34 lk_35 lk_29 lk_33) rfl rfl rfl (by decide +kernel) ⟨Nat.le_of_ble_eq_true rfl, Nat.le_of_ble_eq_true rfl⟩) (dk_preV hK hN (hP.sub [1] rfl) (va_recv hK hP (ci := 1) (q0 := 1) rfl rfl)) rfl rfl hl.1 rfl (lv_room (Nat.le_of_ble_eq_true rfl)) d_WO_street_5 ⟨Nat.le_of_ble_eq_true rfl, Nat.le_of_ble_eq_true rfl⟩) ?_
  refine lv_if_eq (tgt := 47) hx hb d_WO_street_8 (by decide) (fun c8_2 => ?_) (fun c8_2 => ?_)
  · have hF := dk_t c8_2 hF
    refine lv_iconst (v := (0 : Int32)) hx hb d_WO_street_47 (by decide) ?_
    obtain rfl := Option.some.inj hF
    exact W.zret (v := (0 : Int32)) hx hb hr rfl (fun t ht hW => ⟨⟨(), rfl, by rw [ht]; exact hP, hD⟩, hS.F ht⟩) hS.2.2 d_WO_street_48
  · have hF := dk_f c8_2 hF
    refine lv_aload_n hx hb d_WO_street_11 rfl (lv_at hl 0 rfl) ?_
    refine va_get (D := G) (ci := 0) (v := .ref t_road) (C := R_WO) (T := F_WO) (N := 5) hx hb hts i_WO hown hK hP 0 rfl rfl 0 (by decide) (hts _ lk_228) (fun _ h9 => h9) rfl d_WO_street_12 ?_
    refine lv_iload_n hx hb d_WO_street_15 rfl (lv_at hl 2 rfl) ?_
    obtain ⟨r16_3, hC, hF⟩ := dk_b hF
    refine dk_pure (va_runV (As := [.int x2]) (rest := []) hfix (c_Road_has l G K n t_road t_road_greens t_road_leasts t_road_queues t_road_seconds t_road_weights x2 v_t_road_size v_t_road_firstCycle v_t_road_lastCycle v_t_road_cycleBy v_t_road_stepSeconds r16_3 hC) (cwV 1 hts (gd_V lk_229 lk_34 lk_35 lk_29 lk_33) rfl rfl rfl (by decide +kernel) ⟨Nat.le_of_ble_eq_true rfl, Nat.le_of_ble_eq_true rfl⟩) (dk_preV hK hN (hP.sub [1] rfl) (va_recv hK hP (ci := 1) (q0 := 1) rfl rfl)) rfl rfl hl.1 rfl (lv_room (Nat.le_of_ble_eq_true rfl)) d_WO_street_16 ⟨Nat.le_of_ble_eq_true rfl, Nat.le_of_ble_eq_true rfl⟩) ?_
    refine lv_if_eq (tgt := 47) hx hb d_WO_street_19 (by decide) (fun c19_4 => ?_) (fun c19_4 => ?_)
    · have hF := dk_t c19_4 hF
      refine lv_iconst (v := (0 : Int32)) hx hb d_WO_street_47 (by decide) ?_
      obtain rfl := Option.some.inj hF
      exact W.zret (v := (0 : Int32)) hx hb hr rfl (fun t ht hW => ⟨⟨(), rfl, by rw [ht]; exact hP, hD⟩, hS.F ht⟩) hS.2.2 d_WO_street_48
    · have hF := dk_f c19_4 hF
      refine lv_iload_n hx hb d_WO_street_22 rfl (lv_at hl 3 rfl) ?_
      refine lv_i2l hx hb d_WO_street_23 rfl ?_
      refine lv_lconst (v := (1 : Int64)) hx hb d_WO_street_24 (by decide) ?_
      refine lv_ldc2 (own := R_WO) (index := 71) (v := (200 : Int64)) hx hb hown (hts _ lk_251) d_WO_street_25 ?_
      obtain ⟨r28_5, hC, hF⟩ := dk_b hF
      refine dk_pure (va_runS (As := [.long x3.toInt64, .long (1 : Int64), .long (200 : Int64)]) (rest := []) hfix (c_WO_within l G K n x3.toInt64 (1 : Int64) (200 : Int64) r28_5 hC) (va_cwS 3 hts (gd_S lk_242 lk_137 lk_16 lk_136) rfl rfl rfl (by decide +kernel) ⟨Nat.le_of_ble_eq_true rfl, Nat.le_of_ble_eq_true rfl⟩) (dk_preS hK hN (hP.sub [] rfl)) rfl rfl hl.1 rfl (lv_room (Nat.le_of_ble_eq_true rfl)) d_WO_street_28 ⟨Nat.le_of_ble_eq_true rfl, Nat.le_of_ble_eq_true rfl⟩) ?_
      refine lv_if_eq (tgt := 47) hx hb d_WO_street_31 (by decide) (fun c31_6 => ?_) (fun c31_6 => ?_)
      · have hF := dk_t c31_6 hF
        refine lv_iconst (v := (0 : Int32)) hx hb d_WO_street_47 (by decide) ?_
        obtain rfl := Option.some.inj hF
        exact W.zret (v := (0 : Int32)) hx hb hr rfl (fun t ht hW => ⟨⟨(), rfl, by rw [ht]; exact hP, hD⟩, hS.F ht⟩) hS.2.2 d_WO_street_48
      · have hF := dk_f c31_6 hF
        refine lv_iload hx hb d_WO_street_34 (lv_at hl 4 rfl) ?_
        refine lv_i2l hx hb d_WO_street_36 rfl ?_
        refine lv_lconst (v := (0 : Int64)) hx hb d_WO_street_37 (by decide) ?_
        refine lv_ldc2 (own := R_WO) (index := 73) (v := (100 : Int64)) hx hb hown (hts _ lk_252) d_WO_street_38 ?_
        obtain ⟨r41_7, hC, hF⟩ := dk_b hF
        refine dk_pure (va_runS (As := [.long x4.toInt64, .long (0 : Int64), .long (100 : Int64)]) (rest := []) hfix (c_WO_within l G K n x4.toInt64 (0 : Int64) (100 : Int64) r41_7 hC) (va_cwS 3 hts (gd_S lk_242 lk_137 lk_16 lk_136) rfl rfl rfl (by decide +kernel) ⟨Nat.le_of_ble_eq_true rfl, Nat.le_of_ble_eq_true rfl⟩) (dk_preS hK hN (hP.sub [] rfl)) rfl rfl hl.1 rfl (lv_room (Nat.le_of_ble_eq_true rfl)) d_WO_street_41 ⟨Nat.le_of_ble_eq_true rfl, Nat.le_of_ble_eq_true rfl⟩) ?_
        refine lv_if_ne (tgt := 49) hx hb d_WO_street_44 (by decide) (fun c44_8 => ?_) (fun c44_8 => ?_)
        · have hF := dk_f c44_8 hF
          refine lv_iload_n hx hb d_WO_street_49 rfl (lv_at hl 2 rfl) ?_
          refine lv_iload_n hx hb d_WO_street_50 rfl (lv_at hl 1 rfl) ?_
          refine lv_iconst (v := (1 : Int32)) hx hb d_WO_street_51 (by decide) ?_
          refine lv_iadd hx hb d_WO_street_52 ?_
          refine lv_icmp_ne (tgt := 71) hx hb d_WO_street_53 (by decide) (fun c53_9 => ?_) (fun c53_9 => ?_)
          · have hF := dk_f c53_9 hF
            refine lv_iload_n hx hb d_WO_street_71 rfl (lv_at hl 2 rfl) ?_
            refine lv_iload_n hx hb d_WO_street_72 rfl (lv_at hl 1 rfl) ?_
            refine lv_iconst (v := (1 : Int32)) hx hb d_WO_street_73 (by decide) ?_
            refine lv_isub hx hb d_WO_street_74 ?_
            refine lv_icmp_ne (tgt := 93) hx hb d_WO_street_75 (by decide) (fun c75_10 => ?_) (fun c75_10 => ?_)
            · have hF := dk_f c75_10 hF
              refine lv_iconst (v := (0 : Int32)) hx hb d_WO_street_93 (by decide) ?_
              obtain rfl := Option.some.inj hF
              exact W.zret (v := (0 : Int32)) hx hb hr rfl (fun t ht hW => ⟨⟨(), rfl, by rw [ht]; exact hP, hD⟩, hS.F ht⟩) hS.2.2 d_WO_street_94
            · have hF := dk_t c75_10 hF
              refine lv_aload_n hx hb d_WO_street_78 rfl (lv_at hl 0 rfl) ?_
              refine va_get (D := G) (ci := 0) (v := .ref t_road) (C := R_WO) (T := F_WO) (N := 5) hx hb hts i_WO hown hK hP 0 rfl rfl 0 (by decide) (hts _ lk_228) (fun _ h9 => h9) rfl d_WO_street_79 ?_
              refine lv_iconst (v := (1 : Int32)) hx hb d_WO_street_82 (by decide) ?_
              refine lv_iload_n hx hb d_WO_street_83 rfl (lv_at hl 1 rfl) ?_
              refine lv_iload_n hx hb d_WO_street_84 rfl (lv_at hl 3 rfl) ?_
              refine lv_iload hx hb d_WO_street_85 (lv_at hl 4 rfl) ?_
              obtain ⟨r87_11, hC, hF⟩ := dk_b hF
              refine dk_mutv (wr := [(t, .inr (0, [.ref t_road, .ref t_search, .ref t_atHand, .ref t_timetable, .ref t_arrivals])), (t_atHand, .inr (2, [.ref t_atHand_offsets, .int v_t_atHand_cycle, .int v_t_atHand_size, .int v_t_atHand_aim, .int v_t_atHand_sawAll]))]) (va_runV (As := [.int (1 : Int32), .int x1, .int x3, .int x4]) (rest := []) hfix (c_Road_tellStreet l G K n s.heap.size t_road t_road_greens t_road_leasts t_road_queues t_road_seconds t_road_weights (1 : Int32) x1 x3 x4 v_t_road_size v_t_road_firstCycle v_t_road_lastCycle v_t_road_cycleBy v_t_road_stepSeconds v_t_road_seconds v_t_road_weights r87_11 hC) (cwV 4 hts (gd_V lk_253 lk_255 lk_256 lk_29 lk_254) rfl rfl rfl (by decide +kernel) ⟨Nat.le_of_ble_eq_true rfl, Nat.le_of_ble_eq_true rfl⟩) (dk_preVm hK hN (hP.sub [1, 2, 3] rfl) (hD.sub [1, 2, 3] (by decide) rfl) (va_recv hK hP (ci := 1) (q0 := 1) rfl rfl)) rfl rfl hl.1 rfl (lv_room (Nat.le_of_ble_eq_true rfl)) d_WO_street_87 ⟨Nat.le_of_ble_eq_true rfl, Nat.le_of_ble_eq_true rfl⟩) hS hA hP hD [1, 2, 3] [0, 4] rfl rfl (by decide) (by decide) (fun _ H locs hP hD hS => ?_)
              have hP : va_P G classes [(t, .inr (0, [.ref t_road, .ref t_search, .ref t_atHand, .ref t_timetable, .ref t_arrivals])), (t_road, .inr (1, [.ref t_road_greens, .ref t_road_leasts, .ref t_road_queues, .ref t_road_seconds, .ref t_road_weights, .int v_t_road_size, .int v_t_road_firstCycle, .int v_t_road_lastCycle, .int v_t_road_cycleBy, .int v_t_road_stepSeconds])), (t_road_seconds, .inl (K 0, 10, .inl r87_11.1)), (t_road_weights, .inl (K 0, 10, .inl r87_11.2)), (t_atHand, .inr (2, [.ref t_atHand_offsets, .int v_t_atHand_cycle, .int v_t_atHand_size, .int v_t_atHand_aim, .int v_t_atHand_sawAll]))] H := hP.sub [0, 2, 3, 4, 1] rfl
              have hD : va_D A [(t, .inr (0, [.ref t_road, .ref t_search, .ref t_atHand, .ref t_timetable, .ref t_arrivals])), (t_road, .inr (1, [.ref t_road_greens, .ref t_road_leasts, .ref t_road_queues, .ref t_road_seconds, .ref t_road_weights, .int v_t_road_size, .int v_t_road_firstCycle, .int v_t_road_lastCycle, .int v_t_road_cycleBy, .int v_t_road_stepSeconds])), (t_road_seconds, .inl (K 0, 10, .inl r87_11.1)), (t_road_weights, .inl (K 0, 10, .inl r87_11.2)), (t_atHand, .inr (2, [.ref t_atHand_offsets, .int v_t_atHand_cycle, .int v_t_atHand_size, .int v_t_atHand_aim, .int v_t_atHand_sawAll]))] := hD.sub [0, 2, 3, 4, 1] (by decide) rfl
              refine lv_goto (tgt := 95) hx hb d_WO_street_90 (by decide) ?_
              refine lv_aload_n hx hb d_WO_street_95 rfl (lv_at hl 0 rfl) ?_
              refine va_get (D := G) (ci := 0) (v := .ref t_atHand) (C := R_WO) (T := F_WO) (N := 5) hx hb hts i_WO hown hK hP 0 rfl rfl 2 (by decide) (hts _ lk_230) (fun _ h9 => h9) rfl d_WO_street_96 ?_
              obtain ⟨r99_12, hC, hF⟩ := dk_b hF
              refine dk_mutv (wr := [(t, .inr (0, [.ref t_road, .ref t_search, .ref t_atHand, .ref t_timetable, .ref t_arrivals])), (t_road, .inr (1, [.ref t_road_greens, .ref t_road_leasts, .ref t_road_queues, .ref t_road_seconds, .ref t_road_weights, .int v_t_road_size, .int v_t_road_firstCycle, .int v_t_road_lastCycle, .int v_t_road_cycleBy, .int v_t_road_stepSeconds])), (t_road_seconds, .inl (K 0, 10, .inl r87_11.1)), (t_road_weights, .inl (K 0, 10, .inl r87_11.2))]) (va_runV (As := []) (rest := []) hfix (c_Plan_clear l G K n H.size t_atHand t_atHand_offsets v_t_atHand_cycle v_t_atHand_size v_t_atHand_aim v_t_atHand_sawAll r99_12 hC) (cwV 0 hts (gd_V lk_246 lk_205 lk_206 lk_94 lk_204) rfl rfl rfl (by decide +kernel) ⟨Nat.le_of_ble_eq_true rfl, Nat.le_of_ble_eq_true rfl⟩) (dk_preVm hK hN (hP.sub [4] rfl) (hD.sub [4] (by decide) rfl) (va_recv hK hP (ci := 2) (q0 := 4) rfl rfl)) rfl rfl hl.1 rfl (lv_room (Nat.le_of_ble_eq_true rfl)) d_WO_street_99 ⟨Nat.le_of_ble_eq_true rfl, Nat.le_of_ble_eq_true rfl⟩) hS hA hP hD [4] [0, 1, 2, 3] rfl rfl (by decide) (by decide) (fun _ H locs hP hD hS => ?_)
              have hP : va_P G classes [(t, .inr (0, [.ref t_road, .ref t_search, .ref t_atHand, .ref t_timetable, .ref t_arrivals])), (t_road, .inr (1, [.ref t_road_greens, .ref t_road_leasts, .ref t_road_queues, .ref t_road_seconds, .ref t_road_weights, .int v_t_road_size, .int v_t_road_firstCycle, .int v_t_road_lastCycle, .int v_t_road_cycleBy, .int v_t_road_stepSeconds])), (t_road_seconds, .inl (K 0, 10, .inl r87_11.1)), (t_road_weights, .inl (K 0, 10, .inl r87_11.2)), (t_atHand, .inr (2, [.ref t_atHand_offsets, .int r99_12, .int v_t_atHand_size, .int v_t_atHand_aim, .int v_t_atHand_sawAll]))] H := hP.sub [0, 1, 2, 3, 4] rfl
              have hD : va_D A [(t, .inr (0, [.ref t_road, .ref t_search, .ref t_atHand, .ref t_timetable, .ref t_arrivals])), (t_road, .inr (1, [.ref t_road_greens, .ref t_road_leasts, .ref t_road_queues, .ref t_road_seconds, .ref t_road_weights, .int v_t_road_size, .int v_t_road_firstCycle, .int v_t_road_lastCycle, .int v_t_road_cycleBy, .int v_t_road_stepSeconds])), (t_road_seconds, .inl (K 0, 10, .inl r87_11.1)), (t_road_weights, .inl (K 0, 10, .inl r87_11.2)), (t_atHand, .inr (2, [.ref t_atHand_offsets, .int r99_12, .int v_t_atHand_size, .int v_t_atHand_aim, .int v_t_atHand_sawAll]))] := hD.sub [0, 1, 2, 3, 4] (by decide) rfl
              refine lv_iconst (v := (1 : Int32)) hx hb d_WO_street_102 (by decide) ?_
              obtain rfl := Option.some.inj hF
              exact W.zret (v := (1 : Int32)) hx hb hr rfl (fun t ht hW => ⟨⟨(), rfl, by rw [ht]; exact hP, hD⟩, hS.F ht⟩) hS.2.2 d_WO_street_103
          · have hF := dk_t c53_9 hF
            refine lv_aload_n hx hb d_WO_street_56 rfl (lv_at hl 0 rfl) ?_
            refine va_get (D := G) (ci := 0) (v := .ref t_road) (C := R_WO) (T := F_WO) (N := 5) hx hb hts i_WO hown hK hP 0 rfl rfl 0 (by decide) (hts _ lk_228) (fun _ h9 => h9) rfl d_WO_street_57 ?_
            refine lv_iconst (v := (0 : Int32)) hx hb d_WO_street_60 (by decide) ?_
            refine lv_iload_n hx hb d_WO_street_61 rfl (lv_at hl 1 rfl) ?_
            refine lv_iload_n hx hb d_WO_street_62 rfl (lv_at hl 3 rfl) ?_
            refine lv_iload hx hb d_WO_street_63 (lv_at hl 4 rfl) ?_
            obtain ⟨r65_13, hC, hF⟩ := dk_b hF
            refine dk_mutv (wr := [(t, .inr (0, [.ref t_road, .ref t_search, .ref t_atHand, .ref t_timetable, .ref t_arrivals])), (t_atHand, .inr (2, [.ref t_atHand_offsets, .int v_t_atHand_cycle, .int v_t_atHand_size, .int v_t_atHand_aim, .int v_t_atHand_sawAll]))]) (va_runV (As := [.int (0 : Int32), .int x1, .int x3, .int x4]) (rest := []) hfix (c_Road_tellStreet l G K n s.heap.size t_road t_road_greens t_road_leasts t_road_queues t_road_seconds t_road_weights (0 : Int32) x1 x3 x4 v_t_road_size v_t_road_firstCycle v_t_road_lastCycle v_t_road_cycleBy v_t_road_stepSeconds v_t_road_seconds v_t_road_weights r65_13 hC) (cwV 4 hts (gd_V lk_253 lk_255 lk_256 lk_29 lk_254) rfl rfl rfl (by decide +kernel) ⟨Nat.le_of_ble_eq_true rfl, Nat.le_of_ble_eq_true rfl⟩) (dk_preVm hK hN (hP.sub [1, 2, 3] rfl) (hD.sub [1, 2, 3] (by decide) rfl) (va_recv hK hP (ci := 1) (q0 := 1) rfl rfl)) rfl rfl hl.1 rfl (lv_room (Nat.le_of_ble_eq_true rfl)) d_WO_street_65 ⟨Nat.le_of_ble_eq_true rfl, Nat.le_of_ble_eq_true rfl⟩) hS hA hP hD [1, 2, 3] [0, 4] rfl rfl (by decide) (by decide) (fun _ H locs hP hD hS => ?_)
            have hP : va_P G classes [(t, .inr (0, [.ref t_road, .ref t_search, .ref t_atHand, .ref t_timetable, .ref t_arrivals])), (t_road, .inr (1, [.ref t_road_greens, .ref t_road_leasts, .ref t_road_queues, .ref t_road_seconds, .ref t_road_weights, .int v_t_road_size, .int v_t_road_firstCycle, .int v_t_road_lastCycle, .int v_t_road_cycleBy, .int v_t_road_stepSeconds])), (t_road_seconds, .inl (K 0, 10, .inl r65_13.1)), (t_road_weights, .inl (K 0, 10, .inl r65_13.2)), (t_atHand, .inr (2, [.ref t_atHand_offsets, .int v_t_atHand_cycle, .int v_t_atHand_size, .int v_t_atHand_aim, .int v_t_atHand_sawAll]))] H := hP.sub [0, 2, 3, 4, 1] rfl
            have hD : va_D A [(t, .inr (0, [.ref t_road, .ref t_search, .ref t_atHand, .ref t_timetable, .ref t_arrivals])), (t_road, .inr (1, [.ref t_road_greens, .ref t_road_leasts, .ref t_road_queues, .ref t_road_seconds, .ref t_road_weights, .int v_t_road_size, .int v_t_road_firstCycle, .int v_t_road_lastCycle, .int v_t_road_cycleBy, .int v_t_road_stepSeconds])), (t_road_seconds, .inl (K 0, 10, .inl r65_13.1)), (t_road_weights, .inl (K 0, 10, .inl r65_13.2)), (t_atHand, .inr (2, [.ref t_atHand_offsets, .int v_t_atHand_cycle, .int v_t_atHand_size, .int v_t_atHand_aim, .int v_t_atHand_sawAll]))] := hD.sub [0, 2, 3, 4, 1] (by decide) rfl
            refine lv_goto (tgt := 95) hx hb d_WO_street_68 (by decide) ?_
            refine lv_aload_n hx hb d_WO_street_95 rfl (lv_at hl 0 rfl) ?_
            refine va_get (D := G) (ci := 0) (v := .ref t_atHand) (C := R_WO) (T := F_WO) (N := 5) hx hb hts i_WO hown hK hP 0 rfl rfl 2 (by decide) (hts _ lk_230) (fun _ h9 => h9) rfl d_WO_street_96 ?_
            obtain ⟨r99_14, hC, hF⟩ := dk_b hF
            refine dk_mutv (wr := [(t, .inr (0, [.ref t_road, .ref t_search, .ref t_atHand, .ref t_timetable, .ref t_arrivals])), (t_road, .inr (1, [.ref t_road_greens, .ref t_road_leasts, .ref t_road_queues, .ref t_road_seconds, .ref t_road_weights, .int v_t_road_size, .int v_t_road_firstCycle, .int v_t_road_lastCycle, .int v_t_road_cycleBy, .int v_t_road_stepSeconds])), (t_road_seconds, .inl (K 0, 10, .inl r65_13.1)), (t_road_weights, .inl (K 0, 10, .inl r65_13.2))]) (va_runV (As := []) (rest := []) hfix (c_Plan_clear l G K n H.size t_atHand t_atHand_offsets v_t_atHand_cycle v_t_atHand_size v_t_atHand_aim v_t_atHand_sawAll r99_14 hC) (cwV 0 hts (gd_V lk_246 lk_205 lk_206 lk_94 lk_204) rfl rfl rfl (by decide +kernel) ⟨Nat.le_of_ble_eq_true rfl, Nat.le_of_ble_eq_true rfl⟩) (dk_preVm hK hN (hP.sub [4] rfl) (hD.sub [4] (by decide) rfl) (va_recv hK hP (ci := 2) (q0 := 4) rfl rfl)) rfl rfl hl.1 rfl (lv_room (Nat.le_of_ble_eq_true rfl)) d_WO_street_99 ⟨Nat.le_of_ble_eq_true rfl, Nat.le_of_ble_eq_true rfl⟩) hS hA hP hD [4] [0, 1, 2, 3] rfl rfl (by decide) (by decide) (fun _ H locs hP hD hS => ?_)
            have hP : va_P G classes [(t, .inr (0, [.ref t_road, .ref t_search, .ref t_atHand, .ref t_timetable, .ref t_arrivals])), (t_road, .inr (1, [.ref t_road_greens, .ref t_road_leasts, .ref t_road_queues, .ref t_road_seconds, .ref t_road_weights, .int v_t_road_size, .int v_t_road_firstCycle, .int v_t_road_lastCycle, .int v_t_road_cycleBy, .int v_t_road_stepSeconds])), (t_road_seconds, .inl (K 0, 10, .inl r65_13.1)), (t_road_weights, .inl (K 0, 10, .inl r65_13.2)), (t_atHand, .inr (2, [.ref t_atHand_offsets, .int r99_14, .int v_t_atHand_size, .int v_t_atHand_aim, .int v_t_atHand_sawAll]))] H := hP.sub [0, 1, 2, 3, 4] rfl
            have hD : va_D A [(t, .inr (0, [.ref t_road, .ref t_search, .ref t_atHand, .ref t_timetable, .ref t_arrivals])), (t_road, .inr (1, [.ref t_road_greens, .ref t_road_leasts, .ref t_road_queues, .ref t_road_seconds, .ref t_road_weights, .int v_t_road_size, .int v_t_road_firstCycle, .int v_t_road_lastCycle, .int v_t_road_cycleBy, .int v_t_road_stepSeconds])), (t_road_seconds, .inl (K 0, 10, .inl r65_13.1)), (t_road_weights, .inl (K 0, 10, .inl r65_13.2)), (t_atHand, .inr (2, [.ref t_atHand_offsets, .int r99_14, .int v_t_atHand_size, .int v_t_atHand_aim, .int v_t_atHand_sawAll]))] := hD.sub [0, 1, 2, 3, 4] (by decide) rfl
            refine lv_iconst (v := (1 : Int32)) hx hb d_WO_street_102 (by decide) ?_
            obtain rfl := Option.some.inj hF
            exact W.zret (v := (1 : Int32)) hx hb hr rfl (fun t ht hW => ⟨⟨(), rfl, by rw [ht]; exact hP, hD⟩, hS.F ht⟩) hS.2.2 d_WO_street_103
        · have hF := dk_t c44_8 hF
          refine lv_iconst (v := (0 : Int32)) hx hb d_WO_street_47 (by decide) ?_
          obtain rfl := Option.some.inj hF
          exact W.zret (v := (0 : Int32)) hx hb hr rfl (fun t ht hW => ⟨⟨(), rfl, by rw [ht]; exact hP, hD⟩, hS.F ht⟩) hS.2.2 d_WO_street_48
def p_WO_cycles (n : Nat) (x1 : Int32) (x2 : Int32) (x3 : Int32) (v_t_road_firstCycle : Int32) (v_t_road_lastCycle : Int32) (v_t_road_cycleBy : Int32) (v_t_atHand_cycle : Int32) : Option (Int32 × Int32 × Int32 × Int32 × Int32) :=
  if x1 < (10 : Int32) then
    some ((0 : Int32), v_t_road_firstCycle, v_t_road_lastCycle, v_t_road_cycleBy, v_t_atHand_cycle)
  else
    if x2 < x1 then
      some ((0 : Int32), v_t_road_firstCycle, v_t_road_lastCycle, v_t_road_cycleBy, v_t_atHand_cycle)
    else
      if (120 : Int32) < x2 then
        some ((0 : Int32), v_t_road_firstCycle, v_t_road_lastCycle, v_t_road_cycleBy, v_t_atHand_cycle)
      else
        (p_WO_within n x3.toInt64 (1 : Int64) (110 : Int64)).bind fun r23_4 =>
        if r23_4 = 0 then
          some ((0 : Int32), v_t_road_firstCycle, v_t_road_lastCycle, v_t_road_cycleBy, v_t_atHand_cycle)
        else
          (p_Road_tellCycles n x1 x2 x3 v_t_road_firstCycle v_t_road_lastCycle v_t_road_cycleBy).bind fun r38_6 =>
          (p_Plan_clear n v_t_atHand_cycle).bind fun r45_7 =>
          some ((1 : Int32), r38_6.1, r38_6.2.1, r38_6.2.2, r45_7)
abbrev m_WO_cycles : Room := { frames := 1, cells := 0, slots := 0, locals := 25 }
set_option maxHeartbeats 4000000 in
set_option maxRecDepth 100000 in
theorem c_WO_cycles (l : Launch) (G : va_G) (K : Nat → ClassId) (n : Nat) (sz : Nat) (t : Nat) (t_road : Nat) (t_search : Nat) (t_atHand : Nat) (t_timetable : Nat) (t_arrivals : Nat) (t_road_greens : Nat) (t_road_leasts : Nat) (t_road_queues : Nat) (t_road_seconds : Nat) (t_road_weights : Nat) (t_atHand_offsets : Nat) (x1 : Int32) (x2 : Int32) (x3 : Int32) (v_t_road_size : Int32) (v_t_road_firstCycle : Int32) (v_t_road_lastCycle : Int32) (v_t_road_cycleBy : Int32) (v_t_road_stepSeconds : Int32) (v_t_atHand_cycle : Int32) (v_t_atHand_size : Int32) (v_t_atHand_aim : Int32) (v_t_atHand_sawAll : Int32) (o : Int32 × Int32 × Int32 × Int32 × Int32) (hF : p_WO_cycles n x1 x2 x3 v_t_road_firstCycle v_t_road_lastCycle v_t_road_cycleBy v_t_atHand_cycle = some o) :
    Met l y_WO_cycles (wd y_WO_cycles b_WO_cycles 4 (some .boolean)) m_WO_cycles (dk_Pm [.ref t, .int x1, .int x2, .int x3] G K [(t, .inr (0, [.ref t_road, .ref t_search, .ref t_atHand, .ref t_timetable, .ref t_arrivals])), (t_road, .inr (1, [.ref t_road_greens, .ref t_road_leasts, .ref t_road_queues, .ref t_road_seconds, .ref t_road_weights, .int v_t_road_size, .int v_t_road_firstCycle, .int v_t_road_lastCycle, .int v_t_road_cycleBy, .int v_t_road_stepSeconds])), (t_atHand, .inr (2, [.ref t_atHand_offsets, .int v_t_atHand_cycle, .int v_t_atHand_size, .int v_t_atHand_aim, .int v_t_atHand_sawAll]))] sz) (dk_Qm (some (.int o.1)) G (fun _ : Unit => [(t, .inr (0, [.ref t_road, .ref t_search, .ref t_atHand, .ref t_timetable, .ref t_arrivals])), (t_road, .inr (1, [.ref t_road_greens, .ref t_road_leasts, .ref t_road_queues, .ref t_road_seconds, .ref t_road_weights, .int v_t_road_size, .int o.2.1, .int o.2.2.1, .int o.2.2.2.1, .int v_t_road_stepSeconds])), (t_atHand, .inr (2, [.ref t_atHand_offsets, .int o.2.2.2.2, .int v_t_atHand_size, .int v_t_atHand_aim, .int v_t_atHand_sawAll]))]) (va_A [(t, .inr (0, [.ref t_road, .ref t_search, .ref t_atHand, .ref t_timetable, .ref t_arrivals])), (t_road, .inr (1, [.ref t_road_greens, .ref t_road_leasts, .ref t_road_queues, .ref t_road_seconds, .ref t_road_weights, .int v_t_road_size, .int v_t_road_firstCycle, .int v_t_road_lastCycle, .int v_t_road_cycleBy, .int v_t_road_stepSeconds])), (t_atHand, .inr (2, [.ref t_atHand_offsets, .int v_t_atHand_cycle, .int v_t_atHand_size, .int v_t_atHand_aim, .int v_t_atHand_sawAll]))] sz)) 0 0 (va_A [(t, .inr (0, [.ref t_road, .ref t_search, .ref t_atHand, .ref t_timetable, .ref t_arrivals])), (t_road, .inr (1, [.ref t_road_greens, .ref t_road_leasts, .ref t_road_queues, .ref t_road_seconds, .ref t_road_weights, .int v_t_road_size, .int v_t_road_firstCycle, .int v_t_road_lastCycle, .int v_t_road_cycleBy, .int v_t_road_stepSeconds])), (t_atHand, .inr (2, [.ref t_atHand_offsets, .int v_t_atHand_cycle, .int v_t_atHand_size, .int v_t_atHand_aim, .int v_t_atHand_sawAll]))] sz) := by
  refine Met.ofW (cc := b_WO_cycles) (maxL := 4) (ret := (some .boolean)) (by decide) rfl ?_
  intro p e s m args below meth c s₁ B hml hv
  obtain ⟨rfl, hsz, hP, hK, hN, hD0⟩ := hv
  have hx := B.exec
  have hb := B.bytes
  have hr := B.returns
  have hts : ∀ w ∈ lw_good, w.before _ s = true := fun w h => atoms_spec (ws := wd y_WO_cycles b_WO_cycles 4 (some .boolean)) B.pre w (List.mem_cons_of_mem _ h)
  have hown : s.vm.findClass R_WO = some m.cls := findClass_of_methodNamed B.named
  have hlocks := B.notSynchronized
  have hfix : CallFix p m c b_WO_cycles 4 s _ lw_good R_WO := ⟨hx, hb, hml, hown, hts⟩
  subst hsz
  have hD := hD0.self (sz := s.heap.size)
  generalize hAe : va_A [(t, .inr (0, [.ref t_road, .ref t_search, .ref t_atHand, .ref t_timetable, .ref t_arrivals])), (t_road, .inr (1, [.ref t_road_greens, .ref t_road_leasts, .ref t_road_queues, .ref t_road_seconds, .ref t_road_weights, .int v_t_road_size, .int v_t_road_firstCycle, .int v_t_road_lastCycle, .int v_t_road_cycleBy, .int v_t_road_stepSeconds])), (t_atHand, .inr (2, [.ref t_atHand_offsets, .int v_t_atHand_cycle, .int v_t_atHand_size, .int v_t_atHand_aim, .int v_t_atHand_sawAll]))] s.heap.size = A at hD ⊢
  have hA : ∀ q : Nat, s.heap.size ≤ q → A q := fun q h => by rw [← hAe]; exact Or.inr h
  have hS : va_S A s.heap s.heap [] := va_S.rf
  have hl := lv_entry ([.ref t, .int x1, .int x2, .int x3]) (n := 4) (Nat.le_of_ble_eq_true rfl)
  rw [lg_entry_eq]
  generalize (lg_sl ([.ref t, .int x1, .int x2, .int x3]) ++ List.replicate (4 - (lg_sl ([.ref t, .int x1, .int x2, .int x3])).length) Slot.unset).toArray = ls at hl ⊢
  have hl : lv_has ls 4 [(0, .ref t), (1, .int x1), (2, .int x2), (3, .int x3)] := hl
  change W p l e m_WO_cycles s m _ below meth c s.heap [] 0 0 _ _
  unfold p_WO_cycles at hF
  refine lv_iload_n hx hb d_WO_cycles_0 rfl (lv_at hl 1 rfl) ?_
  refine lv_bipush (v := (10 : Int32)) hx hb d_WO_cycles_1 (by decide) ?_
  refine lv_icmp_lt (tgt := 29) hx hb d_WO_cycles_3 (by decide) (fun c3_1 => ?_) (fun c3_1 => ?_)
  · have hF := dk_t c3_1 hF
    refine lv_iconst (v := (0 : Int32)) hx hb d_WO_cycles_29 (by decide) ?_
    obtain rfl := Option.some.inj hF
    exact W.zret (v := (0 : Int32)) hx hb hr rfl (fun t ht hW => ⟨⟨(), rfl, by rw [ht]; exact hP, hD⟩, hS.F ht⟩) hS.2.2 d_WO_cycles_30
  · have hF := dk_f c3_1 hF
    refine lv_iload_n hx hb d_WO_cycles_6 rfl (lv_at hl 1 rfl) ?_
    refine lv_iload_n hx hb d_WO_cycles_7 rfl (lv_at hl 2 rfl) ?_
    refine lv_icmp_gt (tgt := 29) hx hb d_WO_cycles_8 (by decide) (fun c8_2 => ?_) (fun c8_2 => ?_)
    · have hF := dk_t c8_2 hF
      refine lv_iconst (v := (0 : Int32)) hx hb d_WO_cycles_29 (by decide) ?_
      obtain rfl := Option.some.inj hF
      exact W.zret (v := (0 : Int32)) hx hb hr rfl (fun t ht hW => ⟨⟨(), rfl, by rw [ht]; exact hP, hD⟩, hS.F ht⟩) hS.2.2 d_WO_cycles_30
    · have hF := dk_f c8_2 hF
      refine lv_iload_n hx hb d_WO_cycles_11 rfl (lv_at hl 2 rfl) ?_
      refine lv_bipush (v := (120 : Int32)) hx hb d_WO_cycles_12 (by decide) ?_
      refine lv_icmp_gt (tgt := 29) hx hb d_WO_cycles_14 (by decide) (fun c14_3 => ?_) (fun c14_3 => ?_)
      · have hF := dk_t c14_3 hF
        refine lv_iconst (v := (0 : Int32)) hx hb d_WO_cycles_29 (by decide) ?_
        obtain rfl := Option.some.inj hF
        exact W.zret (v := (0 : Int32)) hx hb hr rfl (fun t ht hW => ⟨⟨(), rfl, by rw [ht]; exact hP, hD⟩, hS.F ht⟩) hS.2.2 d_WO_cycles_30
      · have hF := dk_f c14_3 hF
        refine lv_iload_n hx hb d_WO_cycles_17 rfl (lv_at hl 3 rfl) ?_
        refine lv_i2l hx hb d_WO_cycles_18 rfl ?_
        refine lv_lconst (v := (1 : Int64)) hx hb d_WO_cycles_19 (by decide) ?_
        refine lv_ldc2 (own := R_WO) (index := 79) (v := (110 : Int64)) hx hb hown (hts _ lk_257) d_WO_cycles_20 ?_
        obtain ⟨r23_4, hC, hF⟩ := dk_b hF
        refine dk_pure (va_runS (As := [.long x3.toInt64, .long (1 : Int64), .long (110 : Int64)]) (rest := []) hfix (c_WO_within l G K n x3.toInt64 (1 : Int64) (110 : Int64) r23_4 hC) (va_cwS 3 hts (gd_S lk_242 lk_137 lk_16 lk_136) rfl rfl rfl (by decide +kernel) ⟨Nat.le_of_ble_eq_true rfl, Nat.le_of_ble_eq_true rfl⟩) (dk_preS hK hN (hP.sub [] rfl)) rfl rfl hl.1 rfl (lv_room (Nat.le_of_ble_eq_true rfl)) d_WO_cycles_23 ⟨Nat.le_of_ble_eq_true rfl, Nat.le_of_ble_eq_true rfl⟩) ?_
        refine lv_if_ne (tgt := 31) hx hb d_WO_cycles_26 (by decide) (fun c26_5 => ?_) (fun c26_5 => ?_)
        · have hF := dk_f c26_5 hF
          refine lv_aload_n hx hb d_WO_cycles_31 rfl (lv_at hl 0 rfl) ?_
          refine va_get (D := G) (ci := 0) (v := .ref t_road) (C := R_WO) (T := F_WO) (N := 5) hx hb hts i_WO hown hK hP 0 rfl rfl 0 (by decide) (hts _ lk_228) (fun _ h9 => h9) rfl d_WO_cycles_32 ?_
          refine lv_iload_n hx hb d_WO_cycles_35 rfl (lv_at hl 1 rfl) ?_
          refine lv_iload_n hx hb d_WO_cycles_36 rfl (lv_at hl 2 rfl) ?_
          refine lv_iload_n hx hb d_WO_cycles_37 rfl (lv_at hl 3 rfl) ?_
          obtain ⟨r38_6, hC, hF⟩ := dk_b hF
          refine dk_mutv (wr := [(t, .inr (0, [.ref t_road, .ref t_search, .ref t_atHand, .ref t_timetable, .ref t_arrivals])), (t_atHand, .inr (2, [.ref t_atHand_offsets, .int v_t_atHand_cycle, .int v_t_atHand_size, .int v_t_atHand_aim, .int v_t_atHand_sawAll]))]) (va_runV (As := [.int x1, .int x2, .int x3]) (rest := []) hfix (c_Road_tellCycles l G K n s.heap.size t_road t_road_greens t_road_leasts t_road_queues t_road_seconds t_road_weights x1 x2 x3 v_t_road_size v_t_road_firstCycle v_t_road_lastCycle v_t_road_cycleBy v_t_road_stepSeconds r38_6 hC) (cwV 3 hts (gd_V lk_258 lk_260 lk_261 lk_29 lk_259) rfl rfl rfl (by decide +kernel) ⟨Nat.le_of_ble_eq_true rfl, Nat.le_of_ble_eq_true rfl⟩) (dk_preVm hK hN (hP.sub [1] rfl) (hD.sub [1] (by decide) rfl) (va_recv hK hP (ci := 1) (q0 := 1) rfl rfl)) rfl rfl hl.1 rfl (lv_room (Nat.le_of_ble_eq_true rfl)) d_WO_cycles_38 ⟨Nat.le_of_ble_eq_true rfl, Nat.le_of_ble_eq_true rfl⟩) hS hA hP hD [1] [0, 2] rfl rfl (by decide) (by decide) (fun _ H locs hP hD hS => ?_)
          have hP : va_P G classes [(t, .inr (0, [.ref t_road, .ref t_search, .ref t_atHand, .ref t_timetable, .ref t_arrivals])), (t_road, .inr (1, [.ref t_road_greens, .ref t_road_leasts, .ref t_road_queues, .ref t_road_seconds, .ref t_road_weights, .int v_t_road_size, .int r38_6.1, .int r38_6.2.1, .int r38_6.2.2, .int v_t_road_stepSeconds])), (t_atHand, .inr (2, [.ref t_atHand_offsets, .int v_t_atHand_cycle, .int v_t_atHand_size, .int v_t_atHand_aim, .int v_t_atHand_sawAll]))] H := hP.sub [0, 2, 1] rfl
          have hD : va_D A [(t, .inr (0, [.ref t_road, .ref t_search, .ref t_atHand, .ref t_timetable, .ref t_arrivals])), (t_road, .inr (1, [.ref t_road_greens, .ref t_road_leasts, .ref t_road_queues, .ref t_road_seconds, .ref t_road_weights, .int v_t_road_size, .int r38_6.1, .int r38_6.2.1, .int r38_6.2.2, .int v_t_road_stepSeconds])), (t_atHand, .inr (2, [.ref t_atHand_offsets, .int v_t_atHand_cycle, .int v_t_atHand_size, .int v_t_atHand_aim, .int v_t_atHand_sawAll]))] := hD.sub [0, 2, 1] (by decide) rfl
          refine lv_aload_n hx hb d_WO_cycles_41 rfl (lv_at hl 0 rfl) ?_
          refine va_get (D := G) (ci := 0) (v := .ref t_atHand) (C := R_WO) (T := F_WO) (N := 5) hx hb hts i_WO hown hK hP 0 rfl rfl 2 (by decide) (hts _ lk_230) (fun _ h9 => h9) rfl d_WO_cycles_42 ?_
          obtain ⟨r45_7, hC, hF⟩ := dk_b hF
          refine dk_mutv (wr := [(t, .inr (0, [.ref t_road, .ref t_search, .ref t_atHand, .ref t_timetable, .ref t_arrivals])), (t_road, .inr (1, [.ref t_road_greens, .ref t_road_leasts, .ref t_road_queues, .ref t_road_seconds, .ref t_road_weights, .int v_t_road_size, .int r38_6.1, .int r38_6.2.1, .int r38_6.2.2, .int v_t_road_stepSeconds]))]) (va_runV (As := []) (rest := []) hfix (c_Plan_clear l G K n H.size t_atHand t_atHand_offsets v_t_atHand_cycle v_t_atHand_size v_t_atHand_aim v_t_atHand_sawAll r45_7 hC) (cwV 0 hts (gd_V lk_246 lk_205 lk_206 lk_94 lk_204) rfl rfl rfl (by decide +kernel) ⟨Nat.le_of_ble_eq_true rfl, Nat.le_of_ble_eq_true rfl⟩) (dk_preVm hK hN (hP.sub [2] rfl) (hD.sub [2] (by decide) rfl) (va_recv hK hP (ci := 2) (q0 := 2) rfl rfl)) rfl rfl hl.1 rfl (lv_room (Nat.le_of_ble_eq_true rfl)) d_WO_cycles_45 ⟨Nat.le_of_ble_eq_true rfl, Nat.le_of_ble_eq_true rfl⟩) hS hA hP hD [2] [0, 1] rfl rfl (by decide) (by decide) (fun _ H locs hP hD hS => ?_)
          have hP : va_P G classes [(t, .inr (0, [.ref t_road, .ref t_search, .ref t_atHand, .ref t_timetable, .ref t_arrivals])), (t_road, .inr (1, [.ref t_road_greens, .ref t_road_leasts, .ref t_road_queues, .ref t_road_seconds, .ref t_road_weights, .int v_t_road_size, .int r38_6.1, .int r38_6.2.1, .int r38_6.2.2, .int v_t_road_stepSeconds])), (t_atHand, .inr (2, [.ref t_atHand_offsets, .int r45_7, .int v_t_atHand_size, .int v_t_atHand_aim, .int v_t_atHand_sawAll]))] H := hP.sub [0, 1, 2] rfl
          have hD : va_D A [(t, .inr (0, [.ref t_road, .ref t_search, .ref t_atHand, .ref t_timetable, .ref t_arrivals])), (t_road, .inr (1, [.ref t_road_greens, .ref t_road_leasts, .ref t_road_queues, .ref t_road_seconds, .ref t_road_weights, .int v_t_road_size, .int r38_6.1, .int r38_6.2.1, .int r38_6.2.2, .int v_t_road_stepSeconds])), (t_atHand, .inr (2, [.ref t_atHand_offsets, .int r45_7, .int v_t_atHand_size, .int v_t_atHand_aim, .int v_t_atHand_sawAll]))] := hD.sub [0, 1, 2] (by decide) rfl
          refine lv_iconst (v := (1 : Int32)) hx hb d_WO_cycles_48 (by decide) ?_
          obtain rfl := Option.some.inj hF
          exact W.zret (v := (1 : Int32)) hx hb hr rfl (fun t ht hW => ⟨⟨(), rfl, by rw [ht]; exact hP, hD⟩, hS.F ht⟩) hS.2.2 d_WO_cycles_49
        · have hF := dk_t c26_5 hF
          refine lv_iconst (v := (0 : Int32)) hx hb d_WO_cycles_29 (by decide) ?_
          obtain rfl := Option.some.inj hF
          exact W.zret (v := (0 : Int32)) hx hb hr rfl (fun t ht hW => ⟨⟨(), rfl, by rw [ht]; exact hP, hD⟩, hS.F ht⟩) hS.2.2 d_WO_cycles_30
def p_WO_step (n : Nat) (x1 : Int32) (v_t_road_stepSeconds : Int32) (v_t_atHand_cycle : Int32) : Option (Int32 × Int32 × Int32) :=
  (p_WO_within n x1.toInt64 (1 : Int64) (60 : Int64)).bind fun r6_1 =>
  if r6_1 = 0 then
    some ((0 : Int32), v_t_road_stepSeconds, v_t_atHand_cycle)
  else
    (p_Road_tellStep n x1 v_t_road_stepSeconds).bind fun r19_3 =>
    (p_Plan_clear n v_t_atHand_cycle).bind fun r26_4 =>
    some ((1 : Int32), r19_3, r26_4)
abbrev m_WO_step : Room := { frames := 1, cells := 0, slots := 0, locals := 25 }
set_option maxHeartbeats 4000000 in
set_option maxRecDepth 100000 in
theorem c_WO_step (l : Launch) (G : va_G) (K : Nat → ClassId) (n : Nat) (sz : Nat) (t : Nat) (t_road : Nat) (t_search : Nat) (t_atHand : Nat) (t_timetable : Nat) (t_arrivals : Nat) (t_road_greens : Nat) (t_road_leasts : Nat) (t_road_queues : Nat) (t_road_seconds : Nat) (t_road_weights : Nat) (t_atHand_offsets : Nat) (x1 : Int32) (v_t_road_size : Int32) (v_t_road_firstCycle : Int32) (v_t_road_lastCycle : Int32) (v_t_road_cycleBy : Int32) (v_t_road_stepSeconds : Int32) (v_t_atHand_cycle : Int32) (v_t_atHand_size : Int32) (v_t_atHand_aim : Int32) (v_t_atHand_sawAll : Int32) (o : Int32 × Int32 × Int32) (hF : p_WO_step n x1 v_t_road_stepSeconds v_t_atHand_cycle = some o) :
    Met l y_WO_step (wd y_WO_step b_WO_step 2 (some .boolean)) m_WO_step (dk_Pm [.ref t, .int x1] G K [(t, .inr (0, [.ref t_road, .ref t_search, .ref t_atHand, .ref t_timetable, .ref t_arrivals])), (t_road, .inr (1, [.ref t_road_greens, .ref t_road_leasts, .ref t_road_queues, .ref t_road_seconds, .ref t_road_weights, .int v_t_road_size, .int v_t_road_firstCycle, .int v_t_road_lastCycle, .int v_t_road_cycleBy, .int v_t_road_stepSeconds])), (t_atHand, .inr (2, [.ref t_atHand_offsets, .int v_t_atHand_cycle, .int v_t_atHand_size, .int v_t_atHand_aim, .int v_t_atHand_sawAll]))] sz) (dk_Qm (some (.int o.1)) G (fun _ : Unit => [(t, .inr (0, [.ref t_road, .ref t_search, .ref t_atHand, .ref t_timetable, .ref t_arrivals])), (t_road, .inr (1, [.ref t_road_greens, .ref t_road_leasts, .ref t_road_queues, .ref t_road_seconds, .ref t_road_weights, .int v_t_road_size, .int v_t_road_firstCycle, .int v_t_road_lastCycle, .int v_t_road_cycleBy, .int o.2.1])), (t_atHand, .inr (2, [.ref t_atHand_offsets, .int o.2.2, .int v_t_atHand_size, .int v_t_atHand_aim, .int v_t_atHand_sawAll]))]) (va_A [(t, .inr (0, [.ref t_road, .ref t_search, .ref t_atHand, .ref t_timetable, .ref t_arrivals])), (t_road, .inr (1, [.ref t_road_greens, .ref t_road_leasts, .ref t_road_queues, .ref t_road_seconds, .ref t_road_weights, .int v_t_road_size, .int v_t_road_firstCycle, .int v_t_road_lastCycle, .int v_t_road_cycleBy, .int v_t_road_stepSeconds])), (t_atHand, .inr (2, [.ref t_atHand_offsets, .int v_t_atHand_cycle, .int v_t_atHand_size, .int v_t_atHand_aim, .int v_t_atHand_sawAll]))] sz)) 0 0 (va_A [(t, .inr (0, [.ref t_road, .ref t_search, .ref t_atHand, .ref t_timetable, .ref t_arrivals])), (t_road, .inr (1, [.ref t_road_greens, .ref t_road_leasts, .ref t_road_queues, .ref t_road_seconds, .ref t_road_weights, .int v_t_road_size, .int v_t_road_firstCycle, .int v_t_road_lastCycle, .int v_t_road_cycleBy, .int v_t_road_stepSeconds])), (t_atHand, .inr (2, [.ref t_atHand_offsets, .int v_t_atHand_cycle, .int v_t_atHand_size, .int v_t_atHand_aim, .int v_t_atHand_sawAll]))] sz) := by
  refine Met.ofW (cc := b_WO_step) (maxL := 2) (ret := (some .boolean)) (by decide) rfl ?_
  intro p e s m args below meth c s₁ B hml hv
  obtain ⟨rfl, hsz, hP, hK, hN, hD0⟩ := hv
  have hx := B.exec
  have hb := B.bytes
  have hr := B.returns
  have hts : ∀ w ∈ lw_good, w.before _ s = true := fun w h => atoms_spec (ws := wd y_WO_step b_WO_step 2 (some .boolean)) B.pre w (List.mem_cons_of_mem _ h)
  have hown : s.vm.findClass R_WO = some m.cls := findClass_of_methodNamed B.named
  have hlocks := B.notSynchronized
  have hfix : CallFix p m c b_WO_step 2 s _ lw_good R_WO := ⟨hx, hb, hml, hown, hts⟩
  subst hsz
  have hD := hD0.self (sz := s.heap.size)
  generalize hAe : va_A [(t, .inr (0, [.ref t_road, .ref t_search, .ref t_atHand, .ref t_timetable, .ref t_arrivals])), (t_road, .inr (1, [.ref t_road_greens, .ref t_road_leasts, .ref t_road_queues, .ref t_road_seconds, .ref t_road_weights, .int v_t_road_size, .int v_t_road_firstCycle, .int v_t_road_lastCycle, .int v_t_road_cycleBy, .int v_t_road_stepSeconds])), (t_atHand, .inr (2, [.ref t_atHand_offsets, .int v_t_atHand_cycle, .int v_t_atHand_size, .int v_t_atHand_aim, .int v_t_atHand_sawAll]))] s.heap.size = A at hD ⊢
  have hA : ∀ q : Nat, s.heap.size ≤ q → A q := fun q h => by rw [← hAe]; exact Or.inr h
  have hS : va_S A s.heap s.heap [] := va_S.rf
  have hl := lv_entry ([.ref t, .int x1]) (n := 2) (Nat.le_of_ble_eq_true rfl)
  rw [lg_entry_eq]
  generalize (lg_sl ([.ref t, .int x1]) ++ List.replicate (2 - (lg_sl ([.ref t, .int x1])).length) Slot.unset).toArray = ls at hl ⊢
  have hl : lv_has ls 2 [(0, .ref t), (1, .int x1)] := hl
  change W p l e m_WO_step s m _ below meth c s.heap [] 0 0 _ _
  unfold p_WO_step at hF
  refine lv_iload_n hx hb d_WO_step_0 rfl (lv_at hl 1 rfl) ?_
  refine lv_i2l hx hb d_WO_step_1 rfl ?_
  refine lv_lconst (v := (1 : Int64)) hx hb d_WO_step_2 (by decide) ?_
  refine lv_ldc2 (own := R_WO) (index := 85) (v := (60 : Int64)) hx hb hown (hts _ lk_262) d_WO_step_3 ?_
  obtain ⟨r6_1, hC, hF⟩ := dk_b hF
  refine dk_pure (va_runS (As := [.long x1.toInt64, .long (1 : Int64), .long (60 : Int64)]) (rest := []) hfix (c_WO_within l G K n x1.toInt64 (1 : Int64) (60 : Int64) r6_1 hC) (va_cwS 3 hts (gd_S lk_242 lk_137 lk_16 lk_136) rfl rfl rfl (by decide +kernel) ⟨Nat.le_of_ble_eq_true rfl, Nat.le_of_ble_eq_true rfl⟩) (dk_preS hK hN (hP.sub [] rfl)) rfl rfl hl.1 rfl (lv_room (Nat.le_of_ble_eq_true rfl)) d_WO_step_6 ⟨Nat.le_of_ble_eq_true rfl, Nat.le_of_ble_eq_true rfl⟩) ?_
  refine lv_if_ne (tgt := 14) hx hb d_WO_step_9 (by decide) (fun c9_2 => ?_) (fun c9_2 => ?_)
  · have hF := dk_f c9_2 hF
    refine lv_aload_n hx hb d_WO_step_14 rfl (lv_at hl 0 rfl) ?_
    refine va_get (D := G) (ci := 0) (v := .ref t_road) (C := R_WO) (T := F_WO) (N := 5) hx hb hts i_WO hown hK hP 0 rfl rfl 0 (by decide) (hts _ lk_228) (fun _ h9 => h9) rfl d_WO_step_15 ?_
    refine lv_iload_n hx hb d_WO_step_18 rfl (lv_at hl 1 rfl) ?_
    obtain ⟨r19_3, hC, hF⟩ := dk_b hF
    refine dk_mutv (wr := [(t, .inr (0, [.ref t_road, .ref t_search, .ref t_atHand, .ref t_timetable, .ref t_arrivals])), (t_atHand, .inr (2, [.ref t_atHand_offsets, .int v_t_atHand_cycle, .int v_t_atHand_size, .int v_t_atHand_aim, .int v_t_atHand_sawAll]))]) (va_runV (As := [.int x1]) (rest := []) hfix (c_Road_tellStep l G K n s.heap.size t_road t_road_greens t_road_leasts t_road_queues t_road_seconds t_road_weights x1 v_t_road_size v_t_road_firstCycle v_t_road_lastCycle v_t_road_cycleBy v_t_road_stepSeconds r19_3 hC) (cwV 1 hts (gd_V lk_263 lk_265 lk_266 lk_29 lk_264) rfl rfl rfl (by decide +kernel) ⟨Nat.le_of_ble_eq_true rfl, Nat.le_of_ble_eq_true rfl⟩) (dk_preVm hK hN (hP.sub [1] rfl) (hD.sub [1] (by decide) rfl) (va_recv hK hP (ci := 1) (q0 := 1) rfl rfl)) rfl rfl hl.1 rfl (lv_room (Nat.le_of_ble_eq_true rfl)) d_WO_step_19 ⟨Nat.le_of_ble_eq_true rfl, Nat.le_of_ble_eq_true rfl⟩) hS hA hP hD [1] [0, 2] rfl rfl (by decide) (by decide) (fun _ H locs hP hD hS => ?_)
    have hP : va_P G classes [(t, .inr (0, [.ref t_road, .ref t_search, .ref t_atHand, .ref t_timetable, .ref t_arrivals])), (t_road, .inr (1, [.ref t_road_greens, .ref t_road_leasts, .ref t_road_queues, .ref t_road_seconds, .ref t_road_weights, .int v_t_road_size, .int v_t_road_firstCycle, .int v_t_road_lastCycle, .int v_t_road_cycleBy, .int r19_3])), (t_atHand, .inr (2, [.ref t_atHand_offsets, .int v_t_atHand_cycle, .int v_t_atHand_size, .int v_t_atHand_aim, .int v_t_atHand_sawAll]))] H := hP.sub [0, 2, 1] rfl
    have hD : va_D A [(t, .inr (0, [.ref t_road, .ref t_search, .ref t_atHand, .ref t_timetable, .ref t_arrivals])), (t_road, .inr (1, [.ref t_road_greens, .ref t_road_leasts, .ref t_road_queues, .ref t_road_seconds, .ref t_road_weights, .int v_t_road_size, .int v_t_road_firstCycle, .int v_t_road_lastCycle, .int v_t_road_cycleBy, .int r19_3])), (t_atHand, .inr (2, [.ref t_atHand_offsets, .int v_t_atHand_cycle, .int v_t_atHand_size, .int v_t_atHand_aim, .int v_t_atHand_sawAll]))] := hD.sub [0, 2, 1] (by decide) rfl
    refine lv_aload_n hx hb d_WO_step_22 rfl (lv_at hl 0 rfl) ?_
    refine va_get (D := G) (ci := 0) (v := .ref t_atHand) (C := R_WO) (T := F_WO) (N := 5) hx hb hts i_WO hown hK hP 0 rfl rfl 2 (by decide) (hts _ lk_230) (fun _ h9 => h9) rfl d_WO_step_23 ?_
    obtain ⟨r26_4, hC, hF⟩ := dk_b hF
    refine dk_mutv (wr := [(t, .inr (0, [.ref t_road, .ref t_search, .ref t_atHand, .ref t_timetable, .ref t_arrivals])), (t_road, .inr (1, [.ref t_road_greens, .ref t_road_leasts, .ref t_road_queues, .ref t_road_seconds, .ref t_road_weights, .int v_t_road_size, .int v_t_road_firstCycle, .int v_t_road_lastCycle, .int v_t_road_cycleBy, .int r19_3]))]) (va_runV (As := []) (rest := []) hfix (c_Plan_clear l G K n H.size t_atHand t_atHand_offsets v_t_atHand_cycle v_t_atHand_size v_t_atHand_aim v_t_atHand_sawAll r26_4 hC) (cwV 0 hts (gd_V lk_246 lk_205 lk_206 lk_94 lk_204) rfl rfl rfl (by decide +kernel) ⟨Nat.le_of_ble_eq_true rfl, Nat.le_of_ble_eq_true rfl⟩) (dk_preVm hK hN (hP.sub [2] rfl) (hD.sub [2] (by decide) rfl) (va_recv hK hP (ci := 2) (q0 := 2) rfl rfl)) rfl rfl hl.1 rfl (lv_room (Nat.le_of_ble_eq_true rfl)) d_WO_step_26 ⟨Nat.le_of_ble_eq_true rfl, Nat.le_of_ble_eq_true rfl⟩) hS hA hP hD [2] [0, 1] rfl rfl (by decide) (by decide) (fun _ H locs hP hD hS => ?_)
    have hP : va_P G classes [(t, .inr (0, [.ref t_road, .ref t_search, .ref t_atHand, .ref t_timetable, .ref t_arrivals])), (t_road, .inr (1, [.ref t_road_greens, .ref t_road_leasts, .ref t_road_queues, .ref t_road_seconds, .ref t_road_weights, .int v_t_road_size, .int v_t_road_firstCycle, .int v_t_road_lastCycle, .int v_t_road_cycleBy, .int r19_3])), (t_atHand, .inr (2, [.ref t_atHand_offsets, .int r26_4, .int v_t_atHand_size, .int v_t_atHand_aim, .int v_t_atHand_sawAll]))] H := hP.sub [0, 1, 2] rfl
    have hD : va_D A [(t, .inr (0, [.ref t_road, .ref t_search, .ref t_atHand, .ref t_timetable, .ref t_arrivals])), (t_road, .inr (1, [.ref t_road_greens, .ref t_road_leasts, .ref t_road_queues, .ref t_road_seconds, .ref t_road_weights, .int v_t_road_size, .int v_t_road_firstCycle, .int v_t_road_lastCycle, .int v_t_road_cycleBy, .int r19_3])), (t_atHand, .inr (2, [.ref t_atHand_offsets, .int r26_4, .int v_t_atHand_size, .int v_t_atHand_aim, .int v_t_atHand_sawAll]))] := hD.sub [0, 1, 2] (by decide) rfl
    refine lv_iconst (v := (1 : Int32)) hx hb d_WO_step_29 (by decide) ?_
    obtain rfl := Option.some.inj hF
    exact W.zret (v := (1 : Int32)) hx hb hr rfl (fun t ht hW => ⟨⟨(), rfl, by rw [ht]; exact hP, hD⟩, hS.F ht⟩) hS.2.2 d_WO_step_30
  · have hF := dk_t c9_2 hF
    refine lv_iconst (v := (0 : Int32)) hx hb d_WO_step_12 (by decide) ?_
    obtain rfl := Option.some.inj hF
    exact W.zret (v := (0 : Int32)) hx hb hr rfl (fun t ht hW => ⟨⟨(), rfl, by rw [ht]; exact hP, hD⟩, hS.F ht⟩) hS.2.2 d_WO_step_13
def p_WO_queue (n : Nat) (x1 : Int32) (x2 : Int32) (v_t_road_size : Int32) (v_t_road_greens : Nat → Int32) (v_t_road_queues : Nat → Int32) (v_t_atHand_cycle : Int32) : Option (Int32 × (Nat → Int32) × Int32) :=
  (p_Road_has n x1 v_t_road_size).bind fun r5_1 =>
  if r5_1 = 0 then
    some ((0 : Int32), v_t_road_queues, v_t_atHand_cycle)
  else
    (p_Road_greenOf n x1 v_t_road_size v_t_road_greens).bind fun r19_3 =>
    (p_WO_within n x2.toInt64 (0 : Int64) ((r19_3 - (1 : Int32)).toInt64)).bind fun r25_4 =>
    if r25_4 = 0 then
      some ((0 : Int32), v_t_road_queues, v_t_atHand_cycle)
    else
      (p_Road_tellQueue n x1 x2 v_t_road_size v_t_road_queues).bind fun r39_6 =>
      (p_Plan_clear n v_t_atHand_cycle).bind fun r46_7 =>
      some ((1 : Int32), r39_6, r46_7)
abbrev m_WO_queue : Room := { frames := 2, cells := 0, slots := 0, locals := 43 }
set_option maxHeartbeats 4000000 in
set_option maxRecDepth 100000 in
theorem c_WO_queue (l : Launch) (G : va_G) (K : Nat → ClassId) (n : Nat) (sz : Nat) (t : Nat) (t_road : Nat) (t_search : Nat) (t_atHand : Nat) (t_timetable : Nat) (t_arrivals : Nat) (t_road_greens : Nat) (t_road_leasts : Nat) (t_road_queues : Nat) (t_road_seconds : Nat) (t_road_weights : Nat) (t_atHand_offsets : Nat) (x1 : Int32) (x2 : Int32) (v_t_road_size : Int32) (v_t_road_firstCycle : Int32) (v_t_road_lastCycle : Int32) (v_t_road_cycleBy : Int32) (v_t_road_stepSeconds : Int32) (v_t_road_greens : Nat → Int32) (v_t_road_queues : Nat → Int32) (v_t_atHand_cycle : Int32) (v_t_atHand_size : Int32) (v_t_atHand_aim : Int32) (v_t_atHand_sawAll : Int32) (o : Int32 × (Nat → Int32) × Int32) (hF : p_WO_queue n x1 x2 v_t_road_size v_t_road_greens v_t_road_queues v_t_atHand_cycle = some o) :
    Met l y_WO_queue (wd y_WO_queue b_WO_queue 3 (some .boolean)) m_WO_queue (dk_Pm [.ref t, .int x1, .int x2] G K [(t, .inr (0, [.ref t_road, .ref t_search, .ref t_atHand, .ref t_timetable, .ref t_arrivals])), (t_road, .inr (1, [.ref t_road_greens, .ref t_road_leasts, .ref t_road_queues, .ref t_road_seconds, .ref t_road_weights, .int v_t_road_size, .int v_t_road_firstCycle, .int v_t_road_lastCycle, .int v_t_road_cycleBy, .int v_t_road_stepSeconds])), (t_road_greens, .inl (K 0, 5, .inl v_t_road_greens)), (t_road_queues, .inl (K 0, 5, .inl v_t_road_queues)), (t_atHand, .inr (2, [.ref t_atHand_offsets, .int v_t_atHand_cycle, .int v_t_atHand_size, .int v_t_atHand_aim, .int v_t_atHand_sawAll]))] sz) (dk_Qm (some (.int o.1)) G (fun _ : Unit => [(t, .inr (0, [.ref t_road, .ref t_search, .ref t_atHand, .ref t_timetable, .ref t_arrivals])), (t_road, .inr (1, [.ref t_road_greens, .ref t_road_leasts, .ref t_road_queues, .ref t_road_seconds, .ref t_road_weights, .int v_t_road_size, .int v_t_road_firstCycle, .int v_t_road_lastCycle, .int v_t_road_cycleBy, .int v_t_road_stepSeconds])), (t_road_greens, .inl (K 0, 5, .inl v_t_road_greens)), (t_road_queues, .inl (K 0, 5, .inl o.2.1)), (t_atHand, .inr (2, [.ref t_atHand_offsets, .int o.2.2, .int v_t_atHand_size, .int v_t_atHand_aim, .int v_t_atHand_sawAll]))]) (va_A [(t, .inr (0, [.ref t_road, .ref t_search, .ref t_atHand, .ref t_timetable, .ref t_arrivals])), (t_road, .inr (1, [.ref t_road_greens, .ref t_road_leasts, .ref t_road_queues, .ref t_road_seconds, .ref t_road_weights, .int v_t_road_size, .int v_t_road_firstCycle, .int v_t_road_lastCycle, .int v_t_road_cycleBy, .int v_t_road_stepSeconds])), (t_road_greens, .inl (K 0, 5, .inl v_t_road_greens)), (t_road_queues, .inl (K 0, 5, .inl v_t_road_queues)), (t_atHand, .inr (2, [.ref t_atHand_offsets, .int v_t_atHand_cycle, .int v_t_atHand_size, .int v_t_atHand_aim, .int v_t_atHand_sawAll]))] sz)) 0 0 (va_A [(t, .inr (0, [.ref t_road, .ref t_search, .ref t_atHand, .ref t_timetable, .ref t_arrivals])), (t_road, .inr (1, [.ref t_road_greens, .ref t_road_leasts, .ref t_road_queues, .ref t_road_seconds, .ref t_road_weights, .int v_t_road_size, .int v_t_road_firstCycle, .int v_t_road_lastCycle, .int v_t_road_cycleBy, .int v_t_road_stepSeconds])), (t_road_greens, .inl (K 0, 5, .inl v_t_road_greens)), (t_road_queues, .inl (K 0, 5, .inl v_t_road_queues)), (t_atHand, .inr (2, [.ref t_atHand_offsets, .int v_t_atHand_cycle, .int v_t_atHand_size, .int v_t_atHand_aim, .int v_t_atHand_sawAll]))] sz) := by
  refine Met.ofW (cc := b_WO_queue) (maxL := 3) (ret := (some .boolean)) (by decide) rfl ?_
  intro p e s m args below meth c s₁ B hml hv
  obtain ⟨rfl, hsz, hP, hK, hN, hD0⟩ := hv
  have hx := B.exec
  have hb := B.bytes
  have hr := B.returns
  have hts : ∀ w ∈ lw_good, w.before _ s = true := fun w h => atoms_spec (ws := wd y_WO_queue b_WO_queue 3 (some .boolean)) B.pre w (List.mem_cons_of_mem _ h)
  have hown : s.vm.findClass R_WO = some m.cls := findClass_of_methodNamed B.named
  have hlocks := B.notSynchronized
  have hfix : CallFix p m c b_WO_queue 3 s _ lw_good R_WO := ⟨hx, hb, hml, hown, hts⟩
  subst hsz
  have hD := hD0.self (sz := s.heap.size)
  generalize hAe : va_A [(t, .inr (0, [.ref t_road, .ref t_search, .ref t_atHand, .ref t_timetable, .ref t_arrivals])), (t_road, .inr (1, [.ref t_road_greens, .ref t_road_leasts, .ref t_road_queues, .ref t_road_seconds, .ref t_road_weights, .int v_t_road_size, .int v_t_road_firstCycle, .int v_t_road_lastCycle, .int v_t_road_cycleBy, .int v_t_road_stepSeconds])), (t_road_greens, .inl (K 0, 5, .inl v_t_road_greens)), (t_road_queues, .inl (K 0, 5, .inl v_t_road_queues)), (t_atHand, .inr (2, [.ref t_atHand_offsets, .int v_t_atHand_cycle, .int v_t_atHand_size, .int v_t_atHand_aim, .int v_t_atHand_sawAll]))] s.heap.size = A at hD ⊢
  have hA : ∀ q : Nat, s.heap.size ≤ q → A q := fun q h => by rw [← hAe]; exact Or.inr h
  have hS : va_S A s.heap s.heap [] := va_S.rf
  have hl := lv_entry ([.ref t, .int x1, .int x2]) (n := 3) (Nat.le_of_ble_eq_true rfl)
  rw [lg_entry_eq]
  generalize (lg_sl ([.ref t, .int x1, .int x2]) ++ List.replicate (3 - (lg_sl ([.ref t, .int x1, .int x2])).length) Slot.unset).toArray = ls at hl ⊢
  have hl : lv_has ls 3 [(0, .ref t), (1, .int x1), (2, .int x2)] := hl
  change W p l e m_WO_queue s m _ below meth c s.heap [] 0 0 _ _
  unfold p_WO_queue at hF
  refine lv_aload_n hx hb d_WO_queue_0 rfl (lv_at hl 0 rfl) ?_
  refine va_get (D := G) (ci := 0) (v := .ref t_road) (C := R_WO) (T := F_WO) (N := 5) hx hb hts i_WO hown hK hP 0 rfl rfl 0 (by decide) (hts _ lk_228) (fun _ h9 => h9) rfl d_WO_queue_1 ?_
  refine lv_iload_n hx hb d_WO_queue_4 rfl (lv_at hl 1 rfl) ?_
  obtain ⟨r5_1, hC, hF⟩ := dk_b hF
  refine dk_pure (va_runV (As := [.int x1]) (rest := []) hfix (c_Road_has l G K n t_road t_road_greens t_road_leasts t_road_queues t_road_seconds t_road_weights x1 v_t_road_size v_t_road_firstCycle v_t_road_lastCycle v_t_road_cycleBy v_t_road_stepSeconds r5_1 hC) (cwV 1 hts (gd_V lk_229 lk_34 lk_35 lk_29 lk_33) rfl rfl rfl (by decide +kernel) ⟨Nat.le_of_ble_eq_true rfl, Nat.le_of_ble_eq_true rfl⟩) (dk_preV hK hN (hP.sub [1] rfl) (va_recv hK hP (ci := 1) (q0 := 1) rfl rfl)) rfl rfl hl.1 rfl (lv_room (Nat.le_of_ble_eq_true rfl)) d_WO_queue_5 ⟨Nat.le_of_ble_eq_true rfl, Nat.le_of_ble_eq_true rfl⟩) ?_
  refine lv_if_eq (tgt := 31) hx hb d_WO_queue_8 (by decide) (fun c8_2 => ?_) (fun c8_2 => ?_)
  · have hF := dk_t c8_2 hF
    refine lv_iconst (v := (0 : Int32)) hx hb d_WO_queue_31 (by decide) ?_
    obtain rfl := Option.some.inj hF
    exact W.zret (v := (0 : Int32)) hx hb hr rfl (fun t ht hW => ⟨⟨(), rfl, by rw [ht]; exact hP, hD⟩, hS.F ht⟩) hS.2.2 d_WO_queue_32
  · have hF := dk_f c8_2 hF
    refine lv_iload_n hx hb d_WO_queue_11 rfl (lv_at hl 2 rfl) ?_
    refine lv_i2l hx hb d_WO_queue_12 rfl ?_
    refine lv_lconst (v := (0 : Int64)) hx hb d_WO_queue_13 (by decide) ?_
    refine lv_aload_n hx hb d_WO_queue_14 rfl (lv_at hl 0 rfl) ?_
    refine va_get (D := G) (ci := 0) (v := .ref t_road) (C := R_WO) (T := F_WO) (N := 5) hx hb hts i_WO hown hK hP 0 rfl rfl 0 (by decide) (hts _ lk_228) (fun _ h9 => h9) rfl d_WO_queue_15 ?_
    refine lv_iload_n hx hb d_WO_queue_18 rfl (lv_at hl 1 rfl) ?_
    obtain ⟨r19_3, hC, hF⟩ := dk_b hF
    refine dk_pure (va_runV (As := [.int x1]) (rest := [.long (0 : Int64), .long x2.toInt64]) hfix (c_Road_greenOf l G K n t_road t_road_greens t_road_leasts t_road_queues t_road_seconds t_road_weights x1 v_t_road_size v_t_road_firstCycle v_t_road_lastCycle v_t_road_cycleBy v_t_road_stepSeconds v_t_road_greens r19_3 hC) (cwV 1 hts (gd_V lk_267 lk_48 lk_49 lk_29 lk_47) rfl rfl rfl (by decide +kernel) ⟨Nat.le_of_ble_eq_true rfl, Nat.le_of_ble_eq_true rfl⟩) (dk_preV hK hN (hP.sub [1, 2] rfl) (va_recv hK hP (ci := 1) (q0 := 1) rfl rfl)) rfl rfl hl.1 rfl (lv_room (Nat.le_of_ble_eq_true rfl)) d_WO_queue_19 ⟨Nat.le_of_ble_eq_true rfl, Nat.le_of_ble_eq_true rfl⟩) ?_
    refine lv_iconst (v := (1 : Int32)) hx hb d_WO_queue_22 (by decide) ?_
    refine lv_isub hx hb d_WO_queue_23 ?_
    refine lv_i2l hx hb d_WO_queue_24 rfl ?_
    obtain ⟨r25_4, hC, hF⟩ := dk_b hF
    refine dk_pure (va_runS (As := [.long x2.toInt64, .long (0 : Int64), .long ((r19_3 - (1 : Int32)).toInt64)]) (rest := []) hfix (c_WO_within l G K n x2.toInt64 (0 : Int64) ((r19_3 - (1 : Int32)).toInt64) r25_4 hC) (va_cwS 3 hts (gd_S lk_242 lk_137 lk_16 lk_136) rfl rfl rfl (by decide +kernel) ⟨Nat.le_of_ble_eq_true rfl, Nat.le_of_ble_eq_true rfl⟩) (dk_preS hK hN (hP.sub [] rfl)) rfl rfl hl.1 rfl (lv_room (Nat.le_of_ble_eq_true rfl)) d_WO_queue_25 ⟨Nat.le_of_ble_eq_true rfl, Nat.le_of_ble_eq_true rfl⟩) ?_
    refine lv_if_ne (tgt := 33) hx hb d_WO_queue_28 (by decide) (fun c28_5 => ?_) (fun c28_5 => ?_)
    · have hF := dk_f c28_5 hF
      refine lv_aload_n hx hb d_WO_queue_33 rfl (lv_at hl 0 rfl) ?_
      refine va_get (D := G) (ci := 0) (v := .ref t_road) (C := R_WO) (T := F_WO) (N := 5) hx hb hts i_WO hown hK hP 0 rfl rfl 0 (by decide) (hts _ lk_228) (fun _ h9 => h9) rfl d_WO_queue_34 ?_
      refine lv_iload_n hx hb d_WO_queue_37 rfl (lv_at hl 1 rfl) ?_
      refine lv_iload_n hx hb d_WO_queue_38 rfl (lv_at hl 2 rfl) ?_
      obtain ⟨r39_6, hC, hF⟩ := dk_b hF
      refine dk_mutv (wr := [(t, .inr (0, [.ref t_road, .ref t_search, .ref t_atHand, .ref t_timetable, .ref t_arrivals])), (t_road_greens, .inl (K 0, 5, .inl v_t_road_greens)), (t_atHand, .inr (2, [.ref t_atHand_offsets, .int v_t_atHand_cycle, .int v_t_atHand_size, .int v_t_atHand_aim, .int v_t_atHand_sawAll]))]) (va_runV (As := [.int x1, .int x2]) (rest := []) hfix (c_Road_tellQueue l G K n s.heap.size t_road t_road_greens t_road_leasts t_road_queues t_road_seconds t_road_weights x1 x2 v_t_road_size v_t_road_firstCycle v_t_road_lastCycle v_t_road_cycleBy v_t_road_stepSeconds v_t_road_queues r39_6 hC) (cwV 2 hts (gd_V lk_268 lk_270 lk_271 lk_29 lk_269) rfl rfl rfl (by decide +kernel) ⟨Nat.le_of_ble_eq_true rfl, Nat.le_of_ble_eq_true rfl⟩) (dk_preVm hK hN (hP.sub [1, 3] rfl) (hD.sub [1, 3] (by decide) rfl) (va_recv hK hP (ci := 1) (q0 := 1) rfl rfl)) rfl rfl hl.1 rfl (lv_room (Nat.le_of_ble_eq_true rfl)) d_WO_queue_39 ⟨Nat.le_of_ble_eq_true rfl, Nat.le_of_ble_eq_true rfl⟩) hS hA hP hD [1, 3] [0, 2, 4] rfl rfl (by decide) (by decide) (fun _ H locs hP hD hS => ?_)
      have hP : va_P G classes [(t, .inr (0, [.ref t_road, .ref t_search, .ref t_atHand, .ref t_timetable, .ref t_arrivals])), (t_road, .inr (1, [.ref t_road_greens, .ref t_road_leasts, .ref t_road_queues, .ref t_road_seconds, .ref t_road_weights, .int v_t_road_size, .int v_t_road_firstCycle, .int v_t_road_lastCycle, .int v_t_road_cycleBy, .int v_t_road_stepSeconds])), (t_road_greens, .inl (K 0, 5, .inl v_t_road_greens)), (t_road_queues, .inl (K 0, 5, .inl r39_6)), (t_atHand, .inr (2, [.ref t_atHand_offsets, .int v_t_atHand_cycle, .int v_t_atHand_size, .int v_t_atHand_aim, .int v_t_atHand_sawAll]))] H := hP.sub [0, 3, 1, 4, 2] rfl
      have hD : va_D A [(t, .inr (0, [.ref t_road, .ref t_search, .ref t_atHand, .ref t_timetable, .ref t_arrivals])), (t_road, .inr (1, [.ref t_road_greens, .ref t_road_leasts, .ref t_road_queues, .ref t_road_seconds, .ref t_road_weights, .int v_t_road_size, .int v_t_road_firstCycle, .int v_t_road_lastCycle, .int v_t_road_cycleBy, .int v_t_road_stepSeconds])), (t_road_greens, .inl (K 0, 5, .inl v_t_road_greens)), (t_road_queues, .inl (K 0, 5, .inl r39_6)), (t_atHand, .inr (2, [.ref t_atHand_offsets, .int v_t_atHand_cycle, .int v_t_atHand_size, .int v_t_atHand_aim, .int v_t_atHand_sawAll]))] := hD.sub [0, 3, 1, 4, 2] (by decide) rfl
      refine lv_aload_n hx hb d_WO_queue_42 rfl (lv_at hl 0 rfl) ?_
      refine va_get (D := G) (ci := 0) (v := .ref t_atHand) (C := R_WO) (T := F_WO) (N := 5) hx hb hts i_WO hown hK hP 0 rfl rfl 2 (by decide) (hts _ lk_230) (fun _ h9 => h9) rfl d_WO_queue_43 ?_
      obtain ⟨r46_7, hC, hF⟩ := dk_b hF
      refine dk_mutv (wr := [(t, .inr (0, [.ref t_road, .ref t_search, .ref t_atHand, .ref t_timetable, .ref t_arrivals])), (t_road, .inr (1, [.ref t_road_greens, .ref t_road_leasts, .ref t_road_queues, .ref t_road_seconds, .ref t_road_weights, .int v_t_road_size, .int v_t_road_firstCycle, .int v_t_road_lastCycle, .int v_t_road_cycleBy, .int v_t_road_stepSeconds])), (t_road_greens, .inl (K 0, 5, .inl v_t_road_greens)), (t_road_queues, .inl (K 0, 5, .inl r39_6))]) (va_runV (As := []) (rest := []) hfix (c_Plan_clear l G K n H.size t_atHand t_atHand_offsets v_t_atHand_cycle v_t_atHand_size v_t_atHand_aim v_t_atHand_sawAll r46_7 hC) (cwV 0 hts (gd_V lk_246 lk_205 lk_206 lk_94 lk_204) rfl rfl rfl (by decide +kernel) ⟨Nat.le_of_ble_eq_true rfl, Nat.le_of_ble_eq_true rfl⟩) (dk_preVm hK hN (hP.sub [4] rfl) (hD.sub [4] (by decide) rfl) (va_recv hK hP (ci := 2) (q0 := 4) rfl rfl)) rfl rfl hl.1 rfl (lv_room (Nat.le_of_ble_eq_true rfl)) d_WO_queue_46 ⟨Nat.le_of_ble_eq_true rfl, Nat.le_of_ble_eq_true rfl⟩) hS hA hP hD [4] [0, 1, 2, 3] rfl rfl (by decide) (by decide) (fun _ H locs hP hD hS => ?_)
      have hP : va_P G classes [(t, .inr (0, [.ref t_road, .ref t_search, .ref t_atHand, .ref t_timetable, .ref t_arrivals])), (t_road, .inr (1, [.ref t_road_greens, .ref t_road_leasts, .ref t_road_queues, .ref t_road_seconds, .ref t_road_weights, .int v_t_road_size, .int v_t_road_firstCycle, .int v_t_road_lastCycle, .int v_t_road_cycleBy, .int v_t_road_stepSeconds])), (t_road_greens, .inl (K 0, 5, .inl v_t_road_greens)), (t_road_queues, .inl (K 0, 5, .inl r39_6)), (t_atHand, .inr (2, [.ref t_atHand_offsets, .int r46_7, .int v_t_atHand_size, .int v_t_atHand_aim, .int v_t_atHand_sawAll]))] H := hP.sub [0, 1, 2, 3, 4] rfl
      have hD : va_D A [(t, .inr (0, [.ref t_road, .ref t_search, .ref t_atHand, .ref t_timetable, .ref t_arrivals])), (t_road, .inr (1, [.ref t_road_greens, .ref t_road_leasts, .ref t_road_queues, .ref t_road_seconds, .ref t_road_weights, .int v_t_road_size, .int v_t_road_firstCycle, .int v_t_road_lastCycle, .int v_t_road_cycleBy, .int v_t_road_stepSeconds])), (t_road_greens, .inl (K 0, 5, .inl v_t_road_greens)), (t_road_queues, .inl (K 0, 5, .inl r39_6)), (t_atHand, .inr (2, [.ref t_atHand_offsets, .int r46_7, .int v_t_atHand_size, .int v_t_atHand_aim, .int v_t_atHand_sawAll]))] := hD.sub [0, 1, 2, 3, 4] (by decide) rfl
      refine lv_iconst (v := (1 : Int32)) hx hb d_WO_queue_49 (by decide) ?_
      obtain rfl := Option.some.inj hF
      exact W.zret (v := (1 : Int32)) hx hb hr rfl (fun t ht hW => ⟨⟨(), rfl, by rw [ht]; exact hP, hD⟩, hS.F ht⟩) hS.2.2 d_WO_queue_50
    · have hF := dk_t c28_5 hF
      refine lv_iconst (v := (0 : Int32)) hx hb d_WO_queue_31 (by decide) ?_
      obtain rfl := Option.some.inj hF
      exact W.zret (v := (0 : Int32)) hx hb hr rfl (fun t ht hW => ⟨⟨(), rfl, by rw [ht]; exact hP, hD⟩, hS.F ht⟩) hS.2.2 d_WO_queue_32
def p_WO_run (n : Nat) (x1 : Int32) (x2 : Int64) (v_t_road_size : Int32) (v_t_road_firstCycle : Int32) (v_t_road_lastCycle : Int32) (v_t_road_cycleBy : Int32) (v_t_road_leasts : Nat → Int32) (v_t_road_stepSeconds : Int32) (v_t_road_queues : Nat → Int32) (v_t_road_seconds : Nat → Int32) (v_t_road_greens : Nat → Int32) (v_t_road_weights : Nat → Int32) (v_t_search_size : Int32) (v_t_search_cycle : Int32) (v_t_search_choices : Int32) (v_t_search_stepSeconds : Int32) (v_t_search_rowsLeft : Int64) (v_t_search_bestScore : Int64) (v_t_search_bandWorth_openLow : Nat → Int64) (v_t_search_bandWorth_openHigh : Nat → Int64) (v_t_search_bandWorth_bandLow : Nat → Int64) (v_t_search_bandWorth_bandHigh : Nat → Int64) (v_t_search_bandWorth_wayWeights : Nat → Int32) (v_t_search_stopWorth_cycle : Int32) (v_t_search_stopWorth_stepSeconds : Int32) (v_t_search_stopWorth_stopsApart : Nat → Int32) (v_t_search_stopWorth_stopsTo : Nat → Int64) (v_t_search_stopWorth_offsets : Nat → Int32) (v_t_search_row : Nat → Int32) (v_t_search_rowsBehind : Nat → Int64) (v_t_atHand_cycle : Int32) (v_t_atHand_size : Int32) (v_t_atHand_aim : Int32) (v_t_atHand_sawAll : Int32) (v_t_atHand_offsets : Nat → Int32) : Option (Int32 × Int32 × Int32 × Int32 × Int32 × Int64 × Int64 × (Nat → Int64) × (Nat → Int64) × (Nat → Int64) × (Nat → Int64) × (Nat → Int32) × Int32 × Int32 × (Nat → Int32) × (Nat → Int64) × (Nat → Int32) × (Nat → Int32) × (Nat → Int64) × Int32 × Int32 × Int32 × Int32 × (Nat → Int32)) :=
  (p_WO_within n x1.toInt64 (0 : Int64) (1 : Int64)).bind fun r4_1 =>
  if r4_1 = 0 then
    some (((-1) : Int32), v_t_search_size, v_t_search_cycle, v_t_search_choices, v_t_search_stepSeconds, v_t_search_rowsLeft, v_t_search_bestScore, v_t_search_bandWorth_openLow, v_t_search_bandWorth_openHigh, v_t_search_bandWorth_bandLow, v_t_search_bandWorth_bandHigh, v_t_search_bandWorth_wayWeights, v_t_search_stopWorth_cycle, v_t_search_stopWorth_stepSeconds, v_t_search_stopWorth_stopsApart, v_t_search_stopWorth_stopsTo, v_t_search_stopWorth_offsets, v_t_search_row, v_t_search_rowsBehind, v_t_atHand_cycle, v_t_atHand_size, v_t_atHand_aim, v_t_atHand_sawAll, v_t_atHand_offsets)
  else
    (p_WO_within n x2 (1 : Int64) (200000 : Int64)).bind fun r15_3 =>
    if r15_3 = 0 then
      some (((-1) : Int32), v_t_search_size, v_t_search_cycle, v_t_search_choices, v_t_search_stepSeconds, v_t_search_rowsLeft, v_t_search_bestScore, v_t_search_bandWorth_openLow, v_t_search_bandWorth_openHigh, v_t_search_bandWorth_bandLow, v_t_search_bandWorth_bandHigh, v_t_search_bandWorth_wayWeights, v_t_search_stopWorth_cycle, v_t_search_stopWorth_stepSeconds, v_t_search_stopWorth_stopsApart, v_t_search_stopWorth_stopsTo, v_t_search_stopWorth_offsets, v_t_search_row, v_t_search_rowsBehind, v_t_atHand_cycle, v_t_atHand_size, v_t_atHand_aim, v_t_atHand_sawAll, v_t_atHand_offsets)
    else
      (p_Road_size n v_t_road_size).bind fun r25_5 =>
      if r25_5 < (2 : Int32) then
        some (((-1) : Int32), v_t_search_size, v_t_search_cycle, v_t_search_choices, v_t_search_stepSeconds, v_t_search_rowsLeft, v_t_search_bestScore, v_t_search_bandWorth_openLow, v_t_search_bandWorth_openHigh, v_t_search_bandWorth_bandLow, v_t_search_bandWorth_bandHigh, v_t_search_bandWorth_wayWeights, v_t_search_stopWorth_cycle, v_t_search_stopWorth_stepSeconds, v_t_search_stopWorth_stopsApart, v_t_search_stopWorth_stopsTo, v_t_search_stopWorth_offsets, v_t_search_row, v_t_search_rowsBehind, v_t_atHand_cycle, v_t_atHand_size, v_t_atHand_aim, v_t_atHand_sawAll, v_t_atHand_offsets)
      else
        (p_Road_shortestCycle n v_t_road_firstCycle v_t_road_lastCycle v_t_road_cycleBy v_t_road_size v_t_road_leasts).bind fun r36_7 =>
        if r36_7 = 0 then
          some (((-1) : Int32), v_t_search_size, v_t_search_cycle, v_t_search_choices, v_t_search_stepSeconds, v_t_search_rowsLeft, v_t_search_bestScore, v_t_search_bandWorth_openLow, v_t_search_bandWorth_openHigh, v_t_search_bandWorth_bandLow, v_t_search_bandWorth_bandHigh, v_t_search_bandWorth_wayWeights, v_t_search_stopWorth_cycle, v_t_search_stopWorth_stepSeconds, v_t_search_stopWorth_stopsApart, v_t_search_stopWorth_stopsTo, v_t_search_stopWorth_offsets, v_t_search_row, v_t_search_rowsBehind, v_t_atHand_cycle, v_t_atHand_size, v_t_atHand_aim, v_t_atHand_sawAll, v_t_atHand_offsets)
        else
          (p_Srch_findBest n x1 x2 v_t_road_size v_t_road_firstCycle v_t_road_lastCycle v_t_road_cycleBy v_t_road_leasts v_t_road_stepSeconds v_t_road_queues v_t_road_seconds v_t_road_greens v_t_road_weights v_t_search_size v_t_search_cycle v_t_search_choices v_t_search_stepSeconds v_t_search_rowsLeft v_t_search_bestScore v_t_search_bandWorth_openLow v_t_search_bandWorth_openHigh v_t_search_bandWorth_bandLow v_t_search_bandWorth_bandHigh v_t_search_bandWorth_wayWeights v_t_search_stopWorth_cycle v_t_search_stopWorth_stepSeconds v_t_search_stopWorth_stopsApart v_t_search_stopWorth_stopsTo v_t_search_stopWorth_offsets v_t_search_row v_t_search_rowsBehind v_t_atHand_cycle v_t_atHand_size v_t_atHand_aim v_t_atHand_sawAll v_t_atHand_offsets).bind fun r58_9 =>
          some (r58_9.2.2.2.2.2.2.2.2.2.2.2.2.2.2.2.2.2.2.1, r58_9.1, r58_9.2.1, r58_9.2.2.1, r58_9.2.2.2.1, r58_9.2.2.2.2.1, r58_9.2.2.2.2.2.1, r58_9.2.2.2.2.2.2.1, r58_9.2.2.2.2.2.2.2.1, r58_9.2.2.2.2.2.2.2.2.1, r58_9.2.2.2.2.2.2.2.2.2.1, r58_9.2.2.2.2.2.2.2.2.2.2.1, r58_9.2.2.2.2.2.2.2.2.2.2.2.1, r58_9.2.2.2.2.2.2.2.2.2.2.2.2.1, r58_9.2.2.2.2.2.2.2.2.2.2.2.2.2.1, r58_9.2.2.2.2.2.2.2.2.2.2.2.2.2.2.1, r58_9.2.2.2.2.2.2.2.2.2.2.2.2.2.2.2.1, r58_9.2.2.2.2.2.2.2.2.2.2.2.2.2.2.2.2.1, r58_9.2.2.2.2.2.2.2.2.2.2.2.2.2.2.2.2.2.1, r58_9.2.2.2.2.2.2.2.2.2.2.2.2.2.2.2.2.2.2.1, r58_9.2.2.2.2.2.2.2.2.2.2.2.2.2.2.2.2.2.2.2.1, r58_9.2.2.2.2.2.2.2.2.2.2.2.2.2.2.2.2.2.2.2.2.1, r58_9.2.2.2.2.2.2.2.2.2.2.2.2.2.2.2.2.2.2.2.2.2.1, r58_9.2.2.2.2.2.2.2.2.2.2.2.2.2.2.2.2.2.2.2.2.2.2)
abbrev m_WO_run : Room := { frames := 11, cells := 0, slots := 0, locals := 282 }
set_option maxHeartbeats 4000000 in
set_option maxRecDepth 100000 in
theorem c_WO_run (l : Launch) (G : va_G) (K : Nat → ClassId) (n : Nat) (sz : Nat) (t : Nat) (t_road : Nat) (t_search : Nat) (t_atHand : Nat) (t_timetable : Nat) (t_arrivals : Nat) (t_road_greens : Nat) (t_road_leasts : Nat) (t_road_queues : Nat) (t_road_seconds : Nat) (t_road_weights : Nat) (t_search_bandWorth : Nat) (t_search_stopWorth : Nat) (t_search_row : Nat) (t_search_rowsBehind : Nat) (t_search_bandWorth_openLow : Nat) (t_search_bandWorth_openHigh : Nat) (t_search_bandWorth_bandLow : Nat) (t_search_bandWorth_bandHigh : Nat) (t_search_bandWorth_wayWeights : Nat) (t_search_stopWorth_stopsApart : Nat) (t_search_stopWorth_stopsTo : Nat) (t_search_stopWorth_offsets : Nat) (t_atHand_offsets : Nat) (x1 : Int32) (x2 : Int64) (v_t_road_size : Int32) (v_t_road_firstCycle : Int32) (v_t_road_lastCycle : Int32) (v_t_road_cycleBy : Int32) (v_t_road_stepSeconds : Int32) (v_t_road_greens : Nat → Int32) (v_t_road_leasts : Nat → Int32) (v_t_road_queues : Nat → Int32) (v_t_road_seconds : Nat → Int32) (v_t_road_weights : Nat → Int32) (v_t_search_size : Int32) (v_t_search_cycle : Int32) (v_t_search_choices : Int32) (v_t_search_stepSeconds : Int32) (v_t_search_rowsLeft : Int64) (v_t_search_bestScore : Int64) (v_t_search_bandWorth_openLow : Nat → Int64) (v_t_search_bandWorth_openHigh : Nat → Int64) (v_t_search_bandWorth_bandLow : Nat → Int64) (v_t_search_bandWorth_bandHigh : Nat → Int64) (v_t_search_bandWorth_wayWeights : Nat → Int32) (v_t_search_stopWorth_cycle : Int32) (v_t_search_stopWorth_stepSeconds : Int32) (v_t_search_stopWorth_stopsApart : Nat → Int32) (v_t_search_stopWorth_stopsTo : Nat → Int64) (v_t_search_stopWorth_offsets : Nat → Int32) (v_t_search_row : Nat → Int32) (v_t_search_rowsBehind : Nat → Int64) (v_t_atHand_cycle : Int32) (v_t_atHand_size : Int32) (v_t_atHand_aim : Int32) (v_t_atHand_sawAll : Int32) (v_t_atHand_offsets : Nat → Int32) (o : Int32 × Int32 × Int32 × Int32 × Int32 × Int64 × Int64 × (Nat → Int64) × (Nat → Int64) × (Nat → Int64) × (Nat → Int64) × (Nat → Int32) × Int32 × Int32 × (Nat → Int32) × (Nat → Int64) × (Nat → Int32) × (Nat → Int32) × (Nat → Int64) × Int32 × Int32 × Int32 × Int32 × (Nat → Int32)) (hF : p_WO_run n x1 x2 v_t_road_size v_t_road_firstCycle v_t_road_lastCycle v_t_road_cycleBy v_t_road_leasts v_t_road_stepSeconds v_t_road_queues v_t_road_seconds v_t_road_greens v_t_road_weights v_t_search_size v_t_search_cycle v_t_search_choices v_t_search_stepSeconds v_t_search_rowsLeft v_t_search_bestScore v_t_search_bandWorth_openLow v_t_search_bandWorth_openHigh v_t_search_bandWorth_bandLow v_t_search_bandWorth_bandHigh v_t_search_bandWorth_wayWeights v_t_search_stopWorth_cycle v_t_search_stopWorth_stepSeconds v_t_search_stopWorth_stopsApart v_t_search_stopWorth_stopsTo v_t_search_stopWorth_offsets v_t_search_row v_t_search_rowsBehind v_t_atHand_cycle v_t_atHand_size v_t_atHand_aim v_t_atHand_sawAll v_t_atHand_offsets = some o) :
    Met l y_WO_run (wd y_WO_run b_WO_run 4 (some .int)) m_WO_run (dk_Pm [.ref t, .int x1, .long x2] G K [(t, .inr (0, [.ref t_road, .ref t_search, .ref t_atHand, .ref t_timetable, .ref t_arrivals])), (t_road, .inr (1, [.ref t_road_greens, .ref t_road_leasts, .ref t_road_queues, .ref t_road_seconds, .ref t_road_weights, .int v_t_road_size, .int v_t_road_firstCycle, .int v_t_road_lastCycle, .int v_t_road_cycleBy, .int v_t_road_stepSeconds])), (t_road_greens, .inl (K 0, 5, .inl v_t_road_greens)), (t_road_leasts, .inl (K 0, 5, .inl v_t_road_leasts)), (t_road_queues, .inl (K 0, 5, .inl v_t_road_queues)), (t_road_seconds, .inl (K 0, 10, .inl v_t_road_seconds)), (t_road_weights, .inl (K 0, 10, .inl v_t_road_weights)), (t_search, .inr (5, [.ref t_search_bandWorth, .ref t_search_stopWorth, .ref t_search_row, .ref t_search_rowsBehind, .int v_t_search_size, .int v_t_search_cycle, .int v_t_search_choices, .int v_t_search_stepSeconds, .long v_t_search_rowsLeft, .long v_t_search_bestScore])), (t_search_bandWorth, .inr (3, [.ref t_search_bandWorth_openLow, .ref t_search_bandWorth_openHigh, .ref t_search_bandWorth_bandLow, .ref t_search_bandWorth_bandHigh, .ref t_search_bandWorth_wayWeights])), (t_search_bandWorth_openLow, .inl (K 1, 1200, .inr (.inl v_t_search_bandWorth_openLow))), (t_search_bandWorth_openHigh, .inl (K 1, 1200, .inr (.inl v_t_search_bandWorth_openHigh))), (t_search_bandWorth_bandLow, .inl (K 1, 10, .inr (.inl v_t_search_bandWorth_bandLow))), (t_search_bandWorth_bandHigh, .inl (K 1, 10, .inr (.inl v_t_search_bandWorth_bandHigh))), (t_search_bandWorth_wayWeights, .inl (K 0, 2, .inl v_t_search_bandWorth_wayWeights)), (t_search_stopWorth, .inr (4, [.ref t_search_stopWorth_stopsApart, .ref t_search_stopWorth_stopsTo, .ref t_search_stopWorth_offsets, .int v_t_search_stopWorth_cycle, .int v_t_search_stopWorth_stepSeconds])), (t_search_stopWorth_stopsApart, .inl (K 0, 600, .inl v_t_search_stopWorth_stopsApart)), (t_search_stopWorth_stopsTo, .inl (K 1, 5, .inr (.inl v_t_search_stopWorth_stopsTo))), (t_search_stopWorth_offsets, .inl (K 0, 5, .inl v_t_search_stopWorth_offsets)), (t_search_row, .inl (K 0, 5, .inl v_t_search_row)), (t_search_rowsBehind, .inl (K 1, 5, .inr (.inl v_t_search_rowsBehind))), (t_atHand, .inr (2, [.ref t_atHand_offsets, .int v_t_atHand_cycle, .int v_t_atHand_size, .int v_t_atHand_aim, .int v_t_atHand_sawAll])), (t_atHand_offsets, .inl (K 0, 5, .inl v_t_atHand_offsets))] sz) (dk_Qm (some (.int o.1)) G (fun _ : Unit => [(t, .inr (0, [.ref t_road, .ref t_search, .ref t_atHand, .ref t_timetable, .ref t_arrivals])), (t_road, .inr (1, [.ref t_road_greens, .ref t_road_leasts, .ref t_road_queues, .ref t_road_seconds, .ref t_road_weights, .int v_t_road_size, .int v_t_road_firstCycle, .int v_t_road_lastCycle, .int v_t_road_cycleBy, .int v_t_road_stepSeconds])), (t_road_greens, .inl (K 0, 5, .inl v_t_road_greens)), (t_road_leasts, .inl (K 0, 5, .inl v_t_road_leasts)), (t_road_queues, .inl (K 0, 5, .inl v_t_road_queues)), (t_road_seconds, .inl (K 0, 10, .inl v_t_road_seconds)), (t_road_weights, .inl (K 0, 10, .inl v_t_road_weights)), (t_search, .inr (5, [.ref t_search_bandWorth, .ref t_search_stopWorth, .ref t_search_row, .ref t_search_rowsBehind, .int o.2.1, .int o.2.2.1, .int o.2.2.2.1, .int o.2.2.2.2.1, .long o.2.2.2.2.2.1, .long o.2.2.2.2.2.2.1])), (t_search_bandWorth, .inr (3, [.ref t_search_bandWorth_openLow, .ref t_search_bandWorth_openHigh, .ref t_search_bandWorth_bandLow, .ref t_search_bandWorth_bandHigh, .ref t_search_bandWorth_wayWeights])), (t_search_bandWorth_openLow, .inl (K 1, 1200, .inr (.inl o.2.2.2.2.2.2.2.1))), (t_search_bandWorth_openHigh, .inl (K 1, 1200, .inr (.inl o.2.2.2.2.2.2.2.2.1))), (t_search_bandWorth_bandLow, .inl (K 1, 10, .inr (.inl o.2.2.2.2.2.2.2.2.2.1))), (t_search_bandWorth_bandHigh, .inl (K 1, 10, .inr (.inl o.2.2.2.2.2.2.2.2.2.2.1))), (t_search_bandWorth_wayWeights, .inl (K 0, 2, .inl o.2.2.2.2.2.2.2.2.2.2.2.1)), (t_search_stopWorth, .inr (4, [.ref t_search_stopWorth_stopsApart, .ref t_search_stopWorth_stopsTo, .ref t_search_stopWorth_offsets, .int o.2.2.2.2.2.2.2.2.2.2.2.2.1, .int o.2.2.2.2.2.2.2.2.2.2.2.2.2.1])), (t_search_stopWorth_stopsApart, .inl (K 0, 600, .inl o.2.2.2.2.2.2.2.2.2.2.2.2.2.2.1)), (t_search_stopWorth_stopsTo, .inl (K 1, 5, .inr (.inl o.2.2.2.2.2.2.2.2.2.2.2.2.2.2.2.1))), (t_search_stopWorth_offsets, .inl (K 0, 5, .inl o.2.2.2.2.2.2.2.2.2.2.2.2.2.2.2.2.1)), (t_search_row, .inl (K 0, 5, .inl o.2.2.2.2.2.2.2.2.2.2.2.2.2.2.2.2.2.1)), (t_search_rowsBehind, .inl (K 1, 5, .inr (.inl o.2.2.2.2.2.2.2.2.2.2.2.2.2.2.2.2.2.2.1))), (t_atHand, .inr (2, [.ref t_atHand_offsets, .int o.2.2.2.2.2.2.2.2.2.2.2.2.2.2.2.2.2.2.2.1, .int o.2.2.2.2.2.2.2.2.2.2.2.2.2.2.2.2.2.2.2.2.1, .int o.2.2.2.2.2.2.2.2.2.2.2.2.2.2.2.2.2.2.2.2.2.1, .int o.2.2.2.2.2.2.2.2.2.2.2.2.2.2.2.2.2.2.2.2.2.2.1])), (t_atHand_offsets, .inl (K 0, 5, .inl o.2.2.2.2.2.2.2.2.2.2.2.2.2.2.2.2.2.2.2.2.2.2.2))]) (va_A [(t, .inr (0, [.ref t_road, .ref t_search, .ref t_atHand, .ref t_timetable, .ref t_arrivals])), (t_road, .inr (1, [.ref t_road_greens, .ref t_road_leasts, .ref t_road_queues, .ref t_road_seconds, .ref t_road_weights, .int v_t_road_size, .int v_t_road_firstCycle, .int v_t_road_lastCycle, .int v_t_road_cycleBy, .int v_t_road_stepSeconds])), (t_road_greens, .inl (K 0, 5, .inl v_t_road_greens)), (t_road_leasts, .inl (K 0, 5, .inl v_t_road_leasts)), (t_road_queues, .inl (K 0, 5, .inl v_t_road_queues)), (t_road_seconds, .inl (K 0, 10, .inl v_t_road_seconds)), (t_road_weights, .inl (K 0, 10, .inl v_t_road_weights)), (t_search, .inr (5, [.ref t_search_bandWorth, .ref t_search_stopWorth, .ref t_search_row, .ref t_search_rowsBehind, .int v_t_search_size, .int v_t_search_cycle, .int v_t_search_choices, .int v_t_search_stepSeconds, .long v_t_search_rowsLeft, .long v_t_search_bestScore])), (t_search_bandWorth, .inr (3, [.ref t_search_bandWorth_openLow, .ref t_search_bandWorth_openHigh, .ref t_search_bandWorth_bandLow, .ref t_search_bandWorth_bandHigh, .ref t_search_bandWorth_wayWeights])), (t_search_bandWorth_openLow, .inl (K 1, 1200, .inr (.inl v_t_search_bandWorth_openLow))), (t_search_bandWorth_openHigh, .inl (K 1, 1200, .inr (.inl v_t_search_bandWorth_openHigh))), (t_search_bandWorth_bandLow, .inl (K 1, 10, .inr (.inl v_t_search_bandWorth_bandLow))), (t_search_bandWorth_bandHigh, .inl (K 1, 10, .inr (.inl v_t_search_bandWorth_bandHigh))), (t_search_bandWorth_wayWeights, .inl (K 0, 2, .inl v_t_search_bandWorth_wayWeights)), (t_search_stopWorth, .inr (4, [.ref t_search_stopWorth_stopsApart, .ref t_search_stopWorth_stopsTo, .ref t_search_stopWorth_offsets, .int v_t_search_stopWorth_cycle, .int v_t_search_stopWorth_stepSeconds])), (t_search_stopWorth_stopsApart, .inl (K 0, 600, .inl v_t_search_stopWorth_stopsApart)), (t_search_stopWorth_stopsTo, .inl (K 1, 5, .inr (.inl v_t_search_stopWorth_stopsTo))), (t_search_stopWorth_offsets, .inl (K 0, 5, .inl v_t_search_stopWorth_offsets)), (t_search_row, .inl (K 0, 5, .inl v_t_search_row)), (t_search_rowsBehind, .inl (K 1, 5, .inr (.inl v_t_search_rowsBehind))), (t_atHand, .inr (2, [.ref t_atHand_offsets, .int v_t_atHand_cycle, .int v_t_atHand_size, .int v_t_atHand_aim, .int v_t_atHand_sawAll])), (t_atHand_offsets, .inl (K 0, 5, .inl v_t_atHand_offsets))] sz)) 0 0 (va_A [(t, .inr (0, [.ref t_road, .ref t_search, .ref t_atHand, .ref t_timetable, .ref t_arrivals])), (t_road, .inr (1, [.ref t_road_greens, .ref t_road_leasts, .ref t_road_queues, .ref t_road_seconds, .ref t_road_weights, .int v_t_road_size, .int v_t_road_firstCycle, .int v_t_road_lastCycle, .int v_t_road_cycleBy, .int v_t_road_stepSeconds])), (t_road_greens, .inl (K 0, 5, .inl v_t_road_greens)), (t_road_leasts, .inl (K 0, 5, .inl v_t_road_leasts)), (t_road_queues, .inl (K 0, 5, .inl v_t_road_queues)), (t_road_seconds, .inl (K 0, 10, .inl v_t_road_seconds)), (t_road_weights, .inl (K 0, 10, .inl v_t_road_weights)), (t_search, .inr (5, [.ref t_search_bandWorth, .ref t_search_stopWorth, .ref t_search_row, .ref t_search_rowsBehind, .int v_t_search_size, .int v_t_search_cycle, .int v_t_search_choices, .int v_t_search_stepSeconds, .long v_t_search_rowsLeft, .long v_t_search_bestScore])), (t_search_bandWorth, .inr (3, [.ref t_search_bandWorth_openLow, .ref t_search_bandWorth_openHigh, .ref t_search_bandWorth_bandLow, .ref t_search_bandWorth_bandHigh, .ref t_search_bandWorth_wayWeights])), (t_search_bandWorth_openLow, .inl (K 1, 1200, .inr (.inl v_t_search_bandWorth_openLow))), (t_search_bandWorth_openHigh, .inl (K 1, 1200, .inr (.inl v_t_search_bandWorth_openHigh))), (t_search_bandWorth_bandLow, .inl (K 1, 10, .inr (.inl v_t_search_bandWorth_bandLow))), (t_search_bandWorth_bandHigh, .inl (K 1, 10, .inr (.inl v_t_search_bandWorth_bandHigh))), (t_search_bandWorth_wayWeights, .inl (K 0, 2, .inl v_t_search_bandWorth_wayWeights)), (t_search_stopWorth, .inr (4, [.ref t_search_stopWorth_stopsApart, .ref t_search_stopWorth_stopsTo, .ref t_search_stopWorth_offsets, .int v_t_search_stopWorth_cycle, .int v_t_search_stopWorth_stepSeconds])), (t_search_stopWorth_stopsApart, .inl (K 0, 600, .inl v_t_search_stopWorth_stopsApart)), (t_search_stopWorth_stopsTo, .inl (K 1, 5, .inr (.inl v_t_search_stopWorth_stopsTo))), (t_search_stopWorth_offsets, .inl (K 0, 5, .inl v_t_search_stopWorth_offsets)), (t_search_row, .inl (K 0, 5, .inl v_t_search_row)), (t_search_rowsBehind, .inl (K 1, 5, .inr (.inl v_t_search_rowsBehind))), (t_atHand, .inr (2, [.ref t_atHand_offsets, .int v_t_atHand_cycle, .int v_t_atHand_size, .int v_t_atHand_aim, .int v_t_atHand_sawAll])), (t_atHand_offsets, .inl (K 0, 5, .inl v_t_atHand_offsets))] sz) := by
  refine Met.ofW (cc := b_WO_run) (maxL := 4) (ret := (some .int)) (by decide) rfl ?_
  intro p e s m args below meth c s₁ B hml hv
  obtain ⟨rfl, hsz, hP, hK, hN, hD0⟩ := hv
  have hx := B.exec
  have hb := B.bytes
  have hr := B.returns
  have hts : ∀ w ∈ lw_good, w.before _ s = true := fun w h => atoms_spec (ws := wd y_WO_run b_WO_run 4 (some .int)) B.pre w (List.mem_cons_of_mem _ h)
  have hown : s.vm.findClass R_WO = some m.cls := findClass_of_methodNamed B.named
  have hlocks := B.notSynchronized
  have hfix : CallFix p m c b_WO_run 4 s _ lw_good R_WO := ⟨hx, hb, hml, hown, hts⟩
  subst hsz
  have hD := hD0.self (sz := s.heap.size)
  generalize hAe : va_A [(t, .inr (0, [.ref t_road, .ref t_search, .ref t_atHand, .ref t_timetable, .ref t_arrivals])), (t_road, .inr (1, [.ref t_road_greens, .ref t_road_leasts, .ref t_road_queues, .ref t_road_seconds, .ref t_road_weights, .int v_t_road_size, .int v_t_road_firstCycle, .int v_t_road_lastCycle, .int v_t_road_cycleBy, .int v_t_road_stepSeconds])), (t_road_greens, .inl (K 0, 5, .inl v_t_road_greens)), (t_road_leasts, .inl (K 0, 5, .inl v_t_road_leasts)), (t_road_queues, .inl (K 0, 5, .inl v_t_road_queues)), (t_road_seconds, .inl (K 0, 10, .inl v_t_road_seconds)), (t_road_weights, .inl (K 0, 10, .inl v_t_road_weights)), (t_search, .inr (5, [.ref t_search_bandWorth, .ref t_search_stopWorth, .ref t_search_row, .ref t_search_rowsBehind, .int v_t_search_size, .int v_t_search_cycle, .int v_t_search_choices, .int v_t_search_stepSeconds, .long v_t_search_rowsLeft, .long v_t_search_bestScore])), (t_search_bandWorth, .inr (3, [.ref t_search_bandWorth_openLow, .ref t_search_bandWorth_openHigh, .ref t_search_bandWorth_bandLow, .ref t_search_bandWorth_bandHigh, .ref t_search_bandWorth_wayWeights])), (t_search_bandWorth_openLow, .inl (K 1, 1200, .inr (.inl v_t_search_bandWorth_openLow))), (t_search_bandWorth_openHigh, .inl (K 1, 1200, .inr (.inl v_t_search_bandWorth_openHigh))), (t_search_bandWorth_bandLow, .inl (K 1, 10, .inr (.inl v_t_search_bandWorth_bandLow))), (t_search_bandWorth_bandHigh, .inl (K 1, 10, .inr (.inl v_t_search_bandWorth_bandHigh))), (t_search_bandWorth_wayWeights, .inl (K 0, 2, .inl v_t_search_bandWorth_wayWeights)), (t_search_stopWorth, .inr (4, [.ref t_search_stopWorth_stopsApart, .ref t_search_stopWorth_stopsTo, .ref t_search_stopWorth_offsets, .int v_t_search_stopWorth_cycle, .int v_t_search_stopWorth_stepSeconds])), (t_search_stopWorth_stopsApart, .inl (K 0, 600, .inl v_t_search_stopWorth_stopsApart)), (t_search_stopWorth_stopsTo, .inl (K 1, 5, .inr (.inl v_t_search_stopWorth_stopsTo))), (t_search_stopWorth_offsets, .inl (K 0, 5, .inl v_t_search_stopWorth_offsets)), (t_search_row, .inl (K 0, 5, .inl v_t_search_row)), (t_search_rowsBehind, .inl (K 1, 5, .inr (.inl v_t_search_rowsBehind))), (t_atHand, .inr (2, [.ref t_atHand_offsets, .int v_t_atHand_cycle, .int v_t_atHand_size, .int v_t_atHand_aim, .int v_t_atHand_sawAll])), (t_atHand_offsets, .inl (K 0, 5, .inl v_t_atHand_offsets))] s.heap.size = A at hD ⊢
  have hA : ∀ q : Nat, s.heap.size ≤ q → A q := fun q h => by rw [← hAe]; exact Or.inr h
  have hS : va_S A s.heap s.heap [] := va_S.rf
  have hl := lv_entry ([.ref t, .int x1, .long x2]) (n := 4) (Nat.le_of_ble_eq_true rfl)
  rw [lg_entry_eq]
  generalize (lg_sl ([.ref t, .int x1, .long x2]) ++ List.replicate (4 - (lg_sl ([.ref t, .int x1, .long x2])).length) Slot.unset).toArray = ls at hl ⊢
  have hl : lv_has ls 4 [(0, .ref t), (1, .int x1), (2, .long x2)] := hl
  change W p l e m_WO_run s m _ below meth c s.heap [] 0 0 _ _
  unfold p_WO_run at hF
  refine lv_iload_n hx hb d_WO_run_0 rfl (lv_at hl 1 rfl) ?_
  refine lv_i2l hx hb d_WO_run_1 rfl ?_
  refine lv_lconst (v := (0 : Int64)) hx hb d_WO_run_2 (by decide) ?_
  refine lv_lconst (v := (1 : Int64)) hx hb d_WO_run_3 (by decide) ?_
  obtain ⟨r4_1, hC, hF⟩ := dk_b hF
  refine dk_pure (va_runS (As := [.long x1.toInt64, .long (0 : Int64), .long (1 : Int64)]) (rest := []) hfix (c_WO_within l G K n x1.toInt64 (0 : Int64) (1 : Int64) r4_1 hC) (va_cwS 3 hts (gd_S lk_242 lk_137 lk_16 lk_136) rfl rfl rfl (by decide +kernel) ⟨Nat.le_of_ble_eq_true rfl, Nat.le_of_ble_eq_true rfl⟩) (dk_preS hK hN (hP.sub [] rfl)) rfl rfl hl.1 rfl (lv_room (Nat.le_of_ble_eq_true rfl)) d_WO_run_4 ⟨Nat.le_of_ble_eq_true rfl, Nat.le_of_ble_eq_true rfl⟩) ?_
  refine lv_if_eq (tgt := 42) hx hb d_WO_run_7 (by decide) (fun c7_2 => ?_) (fun c7_2 => ?_)
  · have hF := dk_t c7_2 hF
    refine lv_iconst (v := ((-1) : Int32)) hx hb d_WO_run_42 (by decide) ?_
    obtain rfl := Option.some.inj hF
    exact W.iret (v := ((-1) : Int32)) hx hb hr (fun t ht hW => ⟨⟨(), rfl, by rw [ht]; exact hP, hD⟩, hS.F ht⟩) hS.2.2 d_WO_run_43
  · have hF := dk_f c7_2 hF
    refine lv_lload_n hx hb d_WO_run_10 rfl (lv_at hl 2 rfl) ?_
    refine lv_lconst (v := (1 : Int64)) hx hb d_WO_run_11 (by decide) ?_
    refine lv_ldc2 (own := R_WO) (index := 99) (v := (200000 : Int64)) hx hb hown (hts _ lk_272) d_WO_run_12 ?_
    obtain ⟨r15_3, hC, hF⟩ := dk_b hF
    refine dk_pure (va_runS (As := [.long x2, .long (1 : Int64), .long (200000 : Int64)]) (rest := []) hfix (c_WO_within l G K n x2 (1 : Int64) (200000 : Int64) r15_3 hC) (va_cwS 3 hts (gd_S lk_242 lk_137 lk_16 lk_136) rfl rfl rfl (by decide +kernel) ⟨Nat.le_of_ble_eq_true rfl, Nat.le_of_ble_eq_true rfl⟩) (dk_preS hK hN (hP.sub [] rfl)) rfl rfl hl.1 rfl (lv_room (Nat.le_of_ble_eq_true rfl)) d_WO_run_15 ⟨Nat.le_of_ble_eq_true rfl, Nat.le_of_ble_eq_true rfl⟩) ?_
    refine lv_if_eq (tgt := 42) hx hb d_WO_run_18 (by decide) (fun c18_4 => ?_) (fun c18_4 => ?_)
    · have hF := dk_t c18_4 hF
      refine lv_iconst (v := ((-1) : Int32)) hx hb d_WO_run_42 (by decide) ?_
      obtain rfl := Option.some.inj hF
      exact W.iret (v := ((-1) : Int32)) hx hb hr (fun t ht hW => ⟨⟨(), rfl, by rw [ht]; exact hP, hD⟩, hS.F ht⟩) hS.2.2 d_WO_run_43
    · have hF := dk_f c18_4 hF
      refine lv_aload_n hx hb d_WO_run_21 rfl (lv_at hl 0 rfl) ?_
      refine va_get (D := G) (ci := 0) (v := .ref t_road) (C := R_WO) (T := F_WO) (N := 5) hx hb hts i_WO hown hK hP 0 rfl rfl 0 (by decide) (hts _ lk_228) (fun _ h9 => h9) rfl d_WO_run_22 ?_
      obtain ⟨r25_5, hC, hF⟩ := dk_b hF
      refine dk_pure (va_runV (As := []) (rest := []) hfix (c_Road_size l G K n t_road t_road_greens t_road_leasts t_road_queues t_road_seconds t_road_weights v_t_road_size v_t_road_firstCycle v_t_road_lastCycle v_t_road_cycleBy v_t_road_stepSeconds r25_5 hC) (cwV 0 hts (gd_V lk_232 lk_127 lk_128 lk_29 lk_126) rfl rfl rfl (by decide +kernel) ⟨Nat.le_of_ble_eq_true rfl, Nat.le_of_ble_eq_true rfl⟩) (dk_preV hK hN (hP.sub [1] rfl) (va_recv hK hP (ci := 1) (q0 := 1) rfl rfl)) rfl rfl hl.1 rfl (lv_room (Nat.le_of_ble_eq_true rfl)) d_WO_run_25 ⟨Nat.le_of_ble_eq_true rfl, Nat.le_of_ble_eq_true rfl⟩) ?_
      refine lv_iconst (v := (2 : Int32)) hx hb d_WO_run_28 (by decide) ?_
      refine lv_icmp_lt (tgt := 42) hx hb d_WO_run_29 (by decide) (fun c29_6 => ?_) (fun c29_6 => ?_)
      · have hF := dk_t c29_6 hF
        refine lv_iconst (v := ((-1) : Int32)) hx hb d_WO_run_42 (by decide) ?_
        obtain rfl := Option.some.inj hF
        exact W.iret (v := ((-1) : Int32)) hx hb hr (fun t ht hW => ⟨⟨(), rfl, by rw [ht]; exact hP, hD⟩, hS.F ht⟩) hS.2.2 d_WO_run_43
      · have hF := dk_f c29_6 hF
        refine lv_aload_n hx hb d_WO_run_32 rfl (lv_at hl 0 rfl) ?_
        refine va_get (D := G) (ci := 0) (v := .ref t_road) (C := R_WO) (T := F_WO) (N := 5) hx hb hts i_WO hown hK hP 0 rfl rfl 0 (by decide) (hts _ lk_228) (fun _ h9 => h9) rfl d_WO_run_33 ?_
        obtain ⟨r36_7, hC, hF⟩ := dk_b hF
        refine dk_pure (va_runV (As := []) (rest := []) hfix (c_Road_shortestCycle l G K n t_road t_road_greens t_road_leasts t_road_queues t_road_seconds t_road_weights v_t_road_size v_t_road_firstCycle v_t_road_lastCycle v_t_road_cycleBy v_t_road_stepSeconds v_t_road_leasts r36_7 hC) (cwV 0 hts (gd_V lk_273 lk_275 lk_276 lk_29 lk_274) rfl rfl rfl (by decide +kernel) ⟨Nat.le_of_ble_eq_true rfl, Nat.le_of_ble_eq_true rfl⟩) (dk_preV hK hN (hP.sub [1, 3] rfl) (va_recv hK hP (ci := 1) (q0 := 1) rfl rfl)) rfl rfl hl.1 rfl (lv_room (Nat.le_of_ble_eq_true rfl)) d_WO_run_36 ⟨Nat.le_of_ble_eq_true rfl, Nat.le_of_ble_eq_true rfl⟩) ?_
        refine lv_if_ne (tgt := 44) hx hb d_WO_run_39 (by decide) (fun c39_8 => ?_) (fun c39_8 => ?_)
        · have hF := dk_f c39_8 hF
          refine lv_aload_n hx hb d_WO_run_44 rfl (lv_at hl 0 rfl) ?_
          refine va_get (D := G) (ci := 0) (v := .ref t_search) (C := R_WO) (T := F_WO) (N := 5) hx hb hts i_WO hown hK hP 0 rfl rfl 1 (by decide) (hts _ lk_277) (fun _ h9 => h9) rfl d_WO_run_45 ?_
          refine lv_aload_n hx hb d_WO_run_48 rfl (lv_at hl 0 rfl) ?_
          refine va_get (D := G) (ci := 0) (v := .ref t_road) (C := R_WO) (T := F_WO) (N := 5) hx hb hts i_WO hown hK hP 0 rfl rfl 0 (by decide) (hts _ lk_228) (fun _ h9 => h9) rfl d_WO_run_49 ?_
          refine lv_iload_n hx hb d_WO_run_52 rfl (lv_at hl 1 rfl) ?_
          refine lv_lload_n hx hb d_WO_run_53 rfl (lv_at hl 2 rfl) ?_
          refine lv_aload_n hx hb d_WO_run_54 rfl (lv_at hl 0 rfl) ?_
          refine va_get (D := G) (ci := 0) (v := .ref t_atHand) (C := R_WO) (T := F_WO) (N := 5) hx hb hts i_WO hown hK hP 0 rfl rfl 2 (by decide) (hts _ lk_230) (fun _ h9 => h9) rfl d_WO_run_55 ?_
          obtain ⟨r58_9, hC, hF⟩ := dk_b hF
          refine dk_mutv (wr := [(t, .inr (0, [.ref t_road, .ref t_search, .ref t_atHand, .ref t_timetable, .ref t_arrivals]))]) (va_runV (As := [.ref t_road, .int x1, .long x2, .ref t_atHand]) (rest := []) hfix (c_Srch_findBest l G K n s.heap.size t_search t_search_bandWorth t_search_stopWorth t_search_row t_search_rowsBehind t_search_bandWorth_openLow t_search_bandWorth_openHigh t_search_bandWorth_bandLow t_search_bandWorth_bandHigh t_search_bandWorth_wayWeights t_search_stopWorth_stopsApart t_search_stopWorth_stopsTo t_search_stopWorth_offsets t_road t_road_greens t_road_leasts t_road_queues t_road_seconds t_road_weights t_atHand t_atHand_offsets x1 x2 v_t_search_size v_t_search_cycle v_t_search_choices v_t_search_stepSeconds v_t_search_rowsLeft v_t_search_bestScore v_t_search_bandWorth_openLow v_t_search_bandWorth_openHigh v_t_search_bandWorth_bandLow v_t_search_bandWorth_bandHigh v_t_search_bandWorth_wayWeights v_t_search_stopWorth_cycle v_t_search_stopWorth_stepSeconds v_t_search_stopWorth_stopsApart v_t_search_stopWorth_stopsTo v_t_search_stopWorth_offsets v_t_search_row v_t_search_rowsBehind v_t_road_size v_t_road_firstCycle v_t_road_lastCycle v_t_road_cycleBy v_t_road_stepSeconds v_t_road_greens v_t_road_leasts v_t_road_queues v_t_road_seconds v_t_road_weights v_t_atHand_cycle v_t_atHand_size v_t_atHand_aim v_t_atHand_sawAll v_t_atHand_offsets r58_9 hC) (cwV 4 hts (gd_V lk_278 lk_280 lk_281 lk_189 lk_279) rfl rfl rfl (by decide +kernel) ⟨Nat.le_of_ble_eq_true rfl, Nat.le_of_ble_eq_true rfl⟩) (dk_preVm hK hN (hP.sub [7, 8, 9, 10, 11, 12, 13, 14, 15, 16, 17, 18, 19, 1, 2, 3, 4, 5, 6, 20, 21] rfl) (hD.sub [7, 8, 9, 10, 11, 12, 13, 14, 15, 16, 17, 18, 19, 1, 2, 3, 4, 5, 6, 20, 21] (by decide) rfl) (va_recv hK hP (ci := 5) (q0 := 7) rfl rfl)) rfl rfl hl.1 rfl (lv_room (Nat.le_of_ble_eq_true rfl)) d_WO_run_58 ⟨Nat.le_of_ble_eq_true rfl, Nat.le_of_ble_eq_true rfl⟩) hS hA hP hD [7, 8, 9, 10, 11, 12, 13, 14, 15, 16, 17, 18, 19, 1, 2, 3, 4, 5, 6, 20, 21] [0] rfl rfl (by decide) (by decide) (fun _ H locs hP hD hS => ?_)
          have hP : va_P G classes [(t, .inr (0, [.ref t_road, .ref t_search, .ref t_atHand, .ref t_timetable, .ref t_arrivals])), (t_road, .inr (1, [.ref t_road_greens, .ref t_road_leasts, .ref t_road_queues, .ref t_road_seconds, .ref t_road_weights, .int v_t_road_size, .int v_t_road_firstCycle, .int v_t_road_lastCycle, .int v_t_road_cycleBy, .int v_t_road_stepSeconds])), (t_road_greens, .inl (K 0, 5, .inl v_t_road_greens)), (t_road_leasts, .inl (K 0, 5, .inl v_t_road_leasts)), (t_road_queues, .inl (K 0, 5, .inl v_t_road_queues)), (t_road_seconds, .inl (K 0, 10, .inl v_t_road_seconds)), (t_road_weights, .inl (K 0, 10, .inl v_t_road_weights)), (t_search, .inr (5, [.ref t_search_bandWorth, .ref t_search_stopWorth, .ref t_search_row, .ref t_search_rowsBehind, .int r58_9.1, .int r58_9.2.1, .int r58_9.2.2.1, .int r58_9.2.2.2.1, .long r58_9.2.2.2.2.1, .long r58_9.2.2.2.2.2.1])), (t_search_bandWorth, .inr (3, [.ref t_search_bandWorth_openLow, .ref t_search_bandWorth_openHigh, .ref t_search_bandWorth_bandLow, .ref t_search_bandWorth_bandHigh, .ref t_search_bandWorth_wayWeights])), (t_search_bandWorth_openLow, .inl (K 1, 1200, .inr (.inl r58_9.2.2.2.2.2.2.1))), (t_search_bandWorth_openHigh, .inl (K 1, 1200, .inr (.inl r58_9.2.2.2.2.2.2.2.1))), (t_search_bandWorth_bandLow, .inl (K 1, 10, .inr (.inl r58_9.2.2.2.2.2.2.2.2.1))), (t_search_bandWorth_bandHigh, .inl (K 1, 10, .inr (.inl r58_9.2.2.2.2.2.2.2.2.2.1))), (t_search_bandWorth_wayWeights, .inl (K 0, 2, .inl r58_9.2.2.2.2.2.2.2.2.2.2.1)), (t_search_stopWorth, .inr (4, [.ref t_search_stopWorth_stopsApart, .ref t_search_stopWorth_stopsTo, .ref t_search_stopWorth_offsets, .int r58_9.2.2.2.2.2.2.2.2.2.2.2.1, .int r58_9.2.2.2.2.2.2.2.2.2.2.2.2.1])), (t_search_stopWorth_stopsApart, .inl (K 0, 600, .inl r58_9.2.2.2.2.2.2.2.2.2.2.2.2.2.1)), (t_search_stopWorth_stopsTo, .inl (K 1, 5, .inr (.inl r58_9.2.2.2.2.2.2.2.2.2.2.2.2.2.2.1))), (t_search_stopWorth_offsets, .inl (K 0, 5, .inl r58_9.2.2.2.2.2.2.2.2.2.2.2.2.2.2.2.1)), (t_search_row, .inl (K 0, 5, .inl r58_9.2.2.2.2.2.2.2.2.2.2.2.2.2.2.2.2.1)), (t_search_rowsBehind, .inl (K 1, 5, .inr (.inl r58_9.2.2.2.2.2.2.2.2.2.2.2.2.2.2.2.2.2.1))), (t_atHand, .inr (2, [.ref t_atHand_offsets, .int r58_9.2.2.2.2.2.2.2.2.2.2.2.2.2.2.2.2.2.2.1, .int r58_9.2.2.2.2.2.2.2.2.2.2.2.2.2.2.2.2.2.2.2.1, .int r58_9.2.2.2.2.2.2.2.2.2.2.2.2.2.2.2.2.2.2.2.2.1, .int r58_9.2.2.2.2.2.2.2.2.2.2.2.2.2.2.2.2.2.2.2.2.2.1])), (t_atHand_offsets, .inl (K 0, 5, .inl r58_9.2.2.2.2.2.2.2.2.2.2.2.2.2.2.2.2.2.2.2.2.2.2))] H := hP.sub [0, 14, 15, 16, 17, 18, 19, 1, 2, 3, 4, 5, 6, 7, 8, 9, 10, 11, 12, 13, 20, 21] rfl
          have hD : va_D A [(t, .inr (0, [.ref t_road, .ref t_search, .ref t_atHand, .ref t_timetable, .ref t_arrivals])), (t_road, .inr (1, [.ref t_road_greens, .ref t_road_leasts, .ref t_road_queues, .ref t_road_seconds, .ref t_road_weights, .int v_t_road_size, .int v_t_road_firstCycle, .int v_t_road_lastCycle, .int v_t_road_cycleBy, .int v_t_road_stepSeconds])), (t_road_greens, .inl (K 0, 5, .inl v_t_road_greens)), (t_road_leasts, .inl (K 0, 5, .inl v_t_road_leasts)), (t_road_queues, .inl (K 0, 5, .inl v_t_road_queues)), (t_road_seconds, .inl (K 0, 10, .inl v_t_road_seconds)), (t_road_weights, .inl (K 0, 10, .inl v_t_road_weights)), (t_search, .inr (5, [.ref t_search_bandWorth, .ref t_search_stopWorth, .ref t_search_row, .ref t_search_rowsBehind, .int r58_9.1, .int r58_9.2.1, .int r58_9.2.2.1, .int r58_9.2.2.2.1, .long r58_9.2.2.2.2.1, .long r58_9.2.2.2.2.2.1])), (t_search_bandWorth, .inr (3, [.ref t_search_bandWorth_openLow, .ref t_search_bandWorth_openHigh, .ref t_search_bandWorth_bandLow, .ref t_search_bandWorth_bandHigh, .ref t_search_bandWorth_wayWeights])), (t_search_bandWorth_openLow, .inl (K 1, 1200, .inr (.inl r58_9.2.2.2.2.2.2.1))), (t_search_bandWorth_openHigh, .inl (K 1, 1200, .inr (.inl r58_9.2.2.2.2.2.2.2.1))), (t_search_bandWorth_bandLow, .inl (K 1, 10, .inr (.inl r58_9.2.2.2.2.2.2.2.2.1))), (t_search_bandWorth_bandHigh, .inl (K 1, 10, .inr (.inl r58_9.2.2.2.2.2.2.2.2.2.1))), (t_search_bandWorth_wayWeights, .inl (K 0, 2, .inl r58_9.2.2.2.2.2.2.2.2.2.2.1)), (t_search_stopWorth, .inr (4, [.ref t_search_stopWorth_stopsApart, .ref t_search_stopWorth_stopsTo, .ref t_search_stopWorth_offsets, .int r58_9.2.2.2.2.2.2.2.2.2.2.2.1, .int r58_9.2.2.2.2.2.2.2.2.2.2.2.2.1])), (t_search_stopWorth_stopsApart, .inl (K 0, 600, .inl r58_9.2.2.2.2.2.2.2.2.2.2.2.2.2.1)), (t_search_stopWorth_stopsTo, .inl (K 1, 5, .inr (.inl r58_9.2.2.2.2.2.2.2.2.2.2.2.2.2.2.1))), (t_search_stopWorth_offsets, .inl (K 0, 5, .inl r58_9.2.2.2.2.2.2.2.2.2.2.2.2.2.2.2.1)), (t_search_row, .inl (K 0, 5, .inl r58_9.2.2.2.2.2.2.2.2.2.2.2.2.2.2.2.2.1)), (t_search_rowsBehind, .inl (K 1, 5, .inr (.inl r58_9.2.2.2.2.2.2.2.2.2.2.2.2.2.2.2.2.2.1))), (t_atHand, .inr (2, [.ref t_atHand_offsets, .int r58_9.2.2.2.2.2.2.2.2.2.2.2.2.2.2.2.2.2.2.1, .int r58_9.2.2.2.2.2.2.2.2.2.2.2.2.2.2.2.2.2.2.2.1, .int r58_9.2.2.2.2.2.2.2.2.2.2.2.2.2.2.2.2.2.2.2.2.1, .int r58_9.2.2.2.2.2.2.2.2.2.2.2.2.2.2.2.2.2.2.2.2.2.1])), (t_atHand_offsets, .inl (K 0, 5, .inl r58_9.2.2.2.2.2.2.2.2.2.2.2.2.2.2.2.2.2.2.2.2.2.2))] := hD.sub [0, 14, 15, 16, 17, 18, 19, 1, 2, 3, 4, 5, 6, 7, 8, 9, 10, 11, 12, 13, 20, 21] (by decide) rfl
          refine lv_aload_n hx hb d_WO_run_61 rfl (lv_at hl 0 rfl) ?_
          refine va_get (D := G) (ci := 0) (v := .ref t_atHand) (C := R_WO) (T := F_WO) (N := 5) hx hb hts i_WO hown hK hP 0 rfl rfl 2 (by decide) (hts _ lk_230) (fun _ h9 => h9) rfl d_WO_run_62 ?_
          refine va_getN (D := G) (ci := 2) (v := .int r58_9.2.2.2.2.2.2.2.2.2.2.2.2.2.2.2.2.2.2.1) (C := R_Plan) (T := F_Plan) (N := 5) hx hb hts i_Plan hown hK hP 20 rfl rfl 1 (by decide) (va_Nw.use rfl (hN.1 _ lk_234)) (fun _ h9 => h9) rfl d_WO_run_65 ?_
          obtain rfl := Option.some.inj hF
          exact W.iret (v := r58_9.2.2.2.2.2.2.2.2.2.2.2.2.2.2.2.2.2.2.1) hx hb hr (fun t ht hW => ⟨⟨(), rfl, by rw [ht]; exact hP, hD⟩, hS.F ht⟩) hS.2.2 d_WO_run_68
        · have hF := dk_t c39_8 hF
          refine lv_iconst (v := ((-1) : Int32)) hx hb d_WO_run_42 (by decide) ?_
          obtain rfl := Option.some.inj hF
          exact W.iret (v := ((-1) : Int32)) hx hb hr (fun t ht hW => ⟨⟨(), rfl, by rw [ht]; exact hP, hD⟩, hS.F ht⟩) hS.2.2 d_WO_run_43
def p_WO_proved (n : Nat) (v_t_atHand_cycle : Int32) (v_t_atHand_sawAll : Int32) : Option (Int32) :=
  (p_Plan_isMade n v_t_atHand_cycle).bind fun r4_1 =>
  if r4_1 = 0 then
    some (0 : Int32)
  else
    if v_t_atHand_sawAll = 0 then
      some (0 : Int32)
    else
      some (1 : Int32)
abbrev m_WO_proved : Room := { frames := 1, cells := 0, slots := 0, locals := 20 }
set_option maxHeartbeats 4000000 in
set_option maxRecDepth 100000 in
theorem c_WO_proved (l : Launch) (G : va_G) (K : Nat → ClassId) (n : Nat) (t : Nat) (t_road : Nat) (t_search : Nat) (t_atHand : Nat) (t_timetable : Nat) (t_arrivals : Nat) (t_atHand_offsets : Nat) (v_t_atHand_cycle : Int32) (v_t_atHand_size : Int32) (v_t_atHand_aim : Int32) (v_t_atHand_sawAll : Int32) (o : Int32) (hF : p_WO_proved n v_t_atHand_cycle v_t_atHand_sawAll = some o) :
    Met l y_WO_proved (wd y_WO_proved b_WO_proved 1 (some .boolean)) m_WO_proved (dk_Pp [.ref t] G K [(t, .inr (0, [.ref t_road, .ref t_search, .ref t_atHand, .ref t_timetable, .ref t_arrivals])), (t_atHand, .inr (2, [.ref t_atHand_offsets, .int v_t_atHand_cycle, .int v_t_atHand_size, .int v_t_atHand_aim, .int v_t_atHand_sawAll]))]) (dk_Qp (some (.int o))) 0 0 (fun _ => False) := by
  refine Met.ofW (cc := b_WO_proved) (maxL := 1) (ret := (some .boolean)) (by decide) rfl ?_
  intro p e s m args below meth c s₁ B hml hv
  obtain ⟨rfl, hP, hK, hN⟩ := hv
  have hx := B.exec
  have hb := B.bytes
  have hr := B.returns
  have hts : ∀ w ∈ lw_good, w.before _ s = true := fun w h => atoms_spec (ws := wd y_WO_proved b_WO_proved 1 (some .boolean)) B.pre w (List.mem_cons_of_mem _ h)
  have hown : s.vm.findClass R_WO = some m.cls := findClass_of_methodNamed B.named
  have hlocks := B.notSynchronized
  have hfix : CallFix p m c b_WO_proved 1 s _ lw_good R_WO := ⟨hx, hb, hml, hown, hts⟩
  have hl := lv_entry ([.ref t]) (n := 1) (Nat.le_of_ble_eq_true rfl)
  rw [lg_entry_eq]
  generalize (lg_sl ([.ref t]) ++ List.replicate (1 - (lg_sl ([.ref t])).length) Slot.unset).toArray = ls at hl ⊢
  have hl : lv_has ls 1 [(0, .ref t)] := hl
  change W p l e m_WO_proved s m _ below meth c s.heap [] 0 0 _ _
  unfold p_WO_proved at hF
  refine lv_aload_n hx hb d_WO_proved_0 rfl (lv_at hl 0 rfl) ?_
  refine va_get (D := G) (ci := 0) (v := .ref t_atHand) (C := R_WO) (T := F_WO) (N := 5) hx hb hts i_WO hown hK hP 0 rfl rfl 2 (by decide) (hts _ lk_230) (fun _ h9 => h9) rfl d_WO_proved_1 ?_
  obtain ⟨r4_1, hC, hF⟩ := dk_b hF
  refine dk_pure (va_runV (As := []) (rest := []) hfix (c_Plan_isMade l G K n t_atHand t_atHand_offsets v_t_atHand_cycle v_t_atHand_size v_t_atHand_aim v_t_atHand_sawAll r4_1 hC) (cwV 0 hts (gd_V lk_231 lk_162 lk_163 lk_94 lk_161) rfl rfl rfl (by decide +kernel) ⟨Nat.le_of_ble_eq_true rfl, Nat.le_of_ble_eq_true rfl⟩) (dk_preV hK hN (hP.sub [1] rfl) (va_recv hK hP (ci := 2) (q0 := 1) rfl rfl)) rfl rfl hl.1 rfl (lv_room (Nat.le_of_ble_eq_true rfl)) d_WO_proved_4 ⟨Nat.le_of_ble_eq_true rfl, Nat.le_of_ble_eq_true rfl⟩) ?_
  refine lv_if_eq (tgt := 24) hx hb d_WO_proved_7 (by decide) (fun c7_2 => ?_) (fun c7_2 => ?_)
  · have hF := dk_t c7_2 hF
    refine lv_iconst (v := (0 : Int32)) hx hb d_WO_proved_24 (by decide) ?_
    obtain rfl := Option.some.inj hF
    exact W.zret (v := (0 : Int32)) hx hb hr rfl (fun t ht hW => ⟨rfl, ht⟩) (fun _ h => by cases h) d_WO_proved_25
  · have hF := dk_f c7_2 hF
    refine lv_aload_n hx hb d_WO_proved_10 rfl (lv_at hl 0 rfl) ?_
    refine va_get (D := G) (ci := 0) (v := .ref t_atHand) (C := R_WO) (T := F_WO) (N := 5) hx hb hts i_WO hown hK hP 0 rfl rfl 2 (by decide) (hts _ lk_230) (fun _ h9 => h9) rfl d_WO_proved_11 ?_
    refine va_getN (D := G) (ci := 2) (v := .int v_t_atHand_sawAll) (C := R_Plan) (T := F_Plan) (N := 5) hx hb hts i_Plan hown hK hP 1 rfl rfl 4 (by decide) (va_Nw.use rfl (hN.1 _ lk_282)) (fun _ h9 => h9) rfl d_WO_proved_14 ?_
    refine lv_if_eq (tgt := 24) hx hb d_WO_proved_17 (by decide) (fun c17_3 => ?_) (fun c17_3 => ?_)
    · have hF := dk_t c17_3 hF
      refine lv_iconst (v := (0 : Int32)) hx hb d_WO_proved_24 (by decide) ?_
      obtain rfl := Option.some.inj hF
      exact W.zret (v := (0 : Int32)) hx hb hr rfl (fun t ht hW => ⟨rfl, ht⟩) (fun _ h => by cases h) d_WO_proved_25
    · have hF := dk_f c17_3 hF
      refine lv_iconst (v := (1 : Int32)) hx hb d_WO_proved_20 (by decide) ?_
      refine lv_goto (tgt := 25) hx hb d_WO_proved_21 (by decide) ?_
      obtain rfl := Option.some.inj hF
      exact W.zret (v := (1 : Int32)) hx hb hr rfl (fun t ht hW => ⟨rfl, ht⟩) (fun _ h => by cases h) d_WO_proved_25
def p_WO_bound (n : Nat) (x1 : Int32) (v_t_road_size : Int32) (v_t_road_firstCycle : Int32) (v_t_road_lastCycle : Int32) (v_t_road_cycleBy : Int32) (v_t_road_leasts : Nat → Int32) (v_t_road_weights : Nat → Int32) (v_t_road_greens : Nat → Int32) (v_t_road_queues : Nat → Int32) : Option (Int64) :=
  (p_WO_isPart n x1).bind fun r1_1 =>
  if r1_1 = 0 then
    some ((-1) : Int64)
  else
    (p_Road_size n v_t_road_size).bind fun r11_3 =>
    if (2 : Int32) ≤ r11_3 then
      (p_Road_shortestCycle n v_t_road_firstCycle v_t_road_lastCycle v_t_road_cycleBy v_t_road_size v_t_road_leasts).bind fun r26_5 =>
      if r26_5 = 0 then
        (p_WO_leastTerms n (0 : Int64) (1 : Int64) x1).bind fun r37_11 =>
        some r37_11
      else
        (p_Road_weightOf n (0 : Int32) v_t_road_size v_t_road_weights).bind fun r46_7 =>
        (p_Road_weightOf n (1 : Int32) v_t_road_size v_t_road_weights).bind fun r54_8 =>
        (p_Road_leastOpen n v_t_road_size v_t_road_greens v_t_road_queues).bind fun r65_9 =>
        (p_WO_leastTerms n (((r46_7 + r54_8).toInt64) * r65_9.toInt64) r26_5.toInt64 x1).bind fun r73_10 =>
        some r73_10
    else
      some ((-1) : Int64)
abbrev m_WO_bound : Room := { frames := 4, cells := 0, slots := 0, locals := 86 }
set_option maxHeartbeats 4000000 in
set_option maxRecDepth 100000 in
theorem c_WO_bound (l : Launch) (G : va_G) (K : Nat → ClassId) (n : Nat) (t : Nat) (t_road : Nat) (t_search : Nat) (t_atHand : Nat) (t_timetable : Nat) (t_arrivals : Nat) (t_road_greens : Nat) (t_road_leasts : Nat) (t_road_queues : Nat) (t_road_seconds : Nat) (t_road_weights : Nat) (x1 : Int32) (v_t_road_size : Int32) (v_t_road_firstCycle : Int32) (v_t_road_lastCycle : Int32) (v_t_road_cycleBy : Int32) (v_t_road_stepSeconds : Int32) (v_t_road_greens : Nat → Int32) (v_t_road_leasts : Nat → Int32) (v_t_road_queues : Nat → Int32) (v_t_road_weights : Nat → Int32) (o : Int64) (hF : p_WO_bound n x1 v_t_road_size v_t_road_firstCycle v_t_road_lastCycle v_t_road_cycleBy v_t_road_leasts v_t_road_weights v_t_road_greens v_t_road_queues = some o) :
    Met l y_WO_bound (wd y_WO_bound b_WO_bound 5 (some .long)) m_WO_bound (dk_Pp [.ref t, .int x1] G K [(t, .inr (0, [.ref t_road, .ref t_search, .ref t_atHand, .ref t_timetable, .ref t_arrivals])), (t_road, .inr (1, [.ref t_road_greens, .ref t_road_leasts, .ref t_road_queues, .ref t_road_seconds, .ref t_road_weights, .int v_t_road_size, .int v_t_road_firstCycle, .int v_t_road_lastCycle, .int v_t_road_cycleBy, .int v_t_road_stepSeconds])), (t_road_greens, .inl (K 0, 5, .inl v_t_road_greens)), (t_road_leasts, .inl (K 0, 5, .inl v_t_road_leasts)), (t_road_queues, .inl (K 0, 5, .inl v_t_road_queues)), (t_road_weights, .inl (K 0, 10, .inl v_t_road_weights))]) (dk_Qp (some (.long o))) 0 0 (fun _ => False) := by
  refine Met.ofW (cc := b_WO_bound) (maxL := 5) (ret := (some .long)) (by decide) rfl ?_
  intro p e s m args below meth c s₁ B hml hv
  obtain ⟨rfl, hP, hK, hN⟩ := hv
  have hx := B.exec
  have hb := B.bytes
  have hr := B.returns
  have hts : ∀ w ∈ lw_good, w.before _ s = true := fun w h => atoms_spec (ws := wd y_WO_bound b_WO_bound 5 (some .long)) B.pre w (List.mem_cons_of_mem _ h)
  have hown : s.vm.findClass R_WO = some m.cls := findClass_of_methodNamed B.named
  have hlocks := B.notSynchronized
  have hfix : CallFix p m c b_WO_bound 5 s _ lw_good R_WO := ⟨hx, hb, hml, hown, hts⟩
  have hl := lv_entry ([.ref t, .int x1]) (n := 5) (Nat.le_of_ble_eq_true rfl)
  rw [lg_entry_eq]
  generalize (lg_sl ([.ref t, .int x1]) ++ List.replicate (5 - (lg_sl ([.ref t, .int x1])).length) Slot.unset).toArray = ls at hl ⊢
  have hl : lv_has ls 5 [(0, .ref t), (1, .int x1)] := hl
  change W p l e m_WO_bound s m _ below meth c s.heap [] 0 0 _ _
  unfold p_WO_bound at hF
  refine lv_iload_n hx hb d_WO_bound_0 rfl (lv_at hl 1 rfl) ?_
  obtain ⟨r1_1, hC, hF⟩ := dk_b hF
  refine dk_pure (va_runS (As := [.int x1]) (rest := []) hfix (c_WO_isPart l G K n x1 r1_1 hC) (va_cwS 1 hts (gd_S lk_283 lk_285 lk_16 lk_284) rfl rfl rfl (by decide +kernel) ⟨Nat.le_of_ble_eq_true rfl, Nat.le_of_ble_eq_true rfl⟩) (dk_preS hK hN (hP.sub [] rfl)) rfl rfl hl.1 rfl (lv_room (Nat.le_of_ble_eq_true rfl)) d_WO_bound_1 ⟨Nat.le_of_ble_eq_true rfl, Nat.le_of_ble_eq_true rfl⟩) ?_
  refine lv_if_eq (tgt := 18) hx hb d_WO_bound_4 (by decide) (fun c4_2 => ?_) (fun c4_2 => ?_)
  · have hF := dk_t c4_2 hF
    refine lv_ldc2 (own := R_WO) (index := 126) (v := ((-1) : Int64)) hx hb hown (hts _ lk_17) d_WO_bound_18 ?_
    obtain rfl := Option.some.inj hF
    exact W.lret (v := ((-1) : Int64)) hx hb hr (fun t ht hW => ⟨rfl, ht⟩) (fun _ h => by cases h) d_WO_bound_21
  · have hF := dk_f c4_2 hF
    refine lv_aload_n hx hb d_WO_bound_7 rfl (lv_at hl 0 rfl) ?_
    refine va_get (D := G) (ci := 0) (v := .ref t_road) (C := R_WO) (T := F_WO) (N := 5) hx hb hts i_WO hown hK hP 0 rfl rfl 0 (by decide) (hts _ lk_228) (fun _ h9 => h9) rfl d_WO_bound_8 ?_
    obtain ⟨r11_3, hC, hF⟩ := dk_b hF
    refine dk_pure (va_runV (As := []) (rest := []) hfix (c_Road_size l G K n t_road t_road_greens t_road_leasts t_road_queues t_road_seconds t_road_weights v_t_road_size v_t_road_firstCycle v_t_road_lastCycle v_t_road_cycleBy v_t_road_stepSeconds r11_3 hC) (cwV 0 hts (gd_V lk_232 lk_127 lk_128 lk_29 lk_126) rfl rfl rfl (by decide +kernel) ⟨Nat.le_of_ble_eq_true rfl, Nat.le_of_ble_eq_true rfl⟩) (dk_preV hK hN (hP.sub [1] rfl) (va_recv hK hP (ci := 1) (q0 := 1) rfl rfl)) rfl rfl hl.1 rfl (lv_room (Nat.le_of_ble_eq_true rfl)) d_WO_bound_11 ⟨Nat.le_of_ble_eq_true rfl, Nat.le_of_ble_eq_true rfl⟩) ?_
    refine lv_iconst (v := (2 : Int32)) hx hb d_WO_bound_14 (by decide) ?_
    refine lv_icmp_ge (tgt := 22) hx hb d_WO_bound_15 (by decide) (fun c15_4 => ?_) (fun c15_4 => ?_)
    · have hF := dk_t c15_4 hF
      refine lv_aload_n hx hb d_WO_bound_22 rfl (lv_at hl 0 rfl) ?_
      refine va_get (D := G) (ci := 0) (v := .ref t_road) (C := R_WO) (T := F_WO) (N := 5) hx hb hts i_WO hown hK hP 0 rfl rfl 0 (by decide) (hts _ lk_228) (fun _ h9 => h9) rfl d_WO_bound_23 ?_
      obtain ⟨r26_5, hC, hF⟩ := dk_b hF
      refine dk_pure (va_runV (As := []) (rest := []) hfix (c_Road_shortestCycle l G K n t_road t_road_greens t_road_leasts t_road_queues t_road_seconds t_road_weights v_t_road_size v_t_road_firstCycle v_t_road_lastCycle v_t_road_cycleBy v_t_road_stepSeconds v_t_road_leasts r26_5 hC) (cwV 0 hts (gd_V lk_273 lk_275 lk_276 lk_29 lk_274) rfl rfl rfl (by decide +kernel) ⟨Nat.le_of_ble_eq_true rfl, Nat.le_of_ble_eq_true rfl⟩) (dk_preV hK hN (hP.sub [1, 3] rfl) (va_recv hK hP (ci := 1) (q0 := 1) rfl rfl)) rfl rfl hl.1 rfl (lv_room (Nat.le_of_ble_eq_true rfl)) d_WO_bound_26 ⟨Nat.le_of_ble_eq_true rfl, Nat.le_of_ble_eq_true rfl⟩) ?_
      refine lv_istore_n (lv' := [(2, .int r26_5), (0, .ref t), (1, .int x1)]) hx hb d_WO_bound_29 rfl hl (by decide) rfl (fun ls hl => ?_)
      refine lv_iload_n hx hb d_WO_bound_30 rfl (lv_at hl 0 rfl) ?_
      refine lv_if_ne (tgt := 41) hx hb d_WO_bound_31 (by decide) (fun c31_6 => ?_) (fun c31_6 => ?_)
      · have hF := dk_f c31_6 hF
        refine lv_aload_n hx hb d_WO_bound_41 rfl (lv_at hl 1 rfl) ?_
        refine va_get (D := G) (ci := 0) (v := .ref t_road) (C := R_WO) (T := F_WO) (N := 5) hx hb hts i_WO hown hK hP 0 rfl rfl 0 (by decide) (hts _ lk_228) (fun _ h9 => h9) rfl d_WO_bound_42 ?_
        refine lv_iconst (v := (0 : Int32)) hx hb d_WO_bound_45 (by decide) ?_
        obtain ⟨r46_7, hC, hF⟩ := dk_b hF
        refine dk_pure (va_runV (As := [.int (0 : Int32)]) (rest := []) hfix (c_Road_weightOf l G K n t_road t_road_greens t_road_leasts t_road_queues t_road_seconds t_road_weights (0 : Int32) v_t_road_size v_t_road_firstCycle v_t_road_lastCycle v_t_road_cycleBy v_t_road_stepSeconds v_t_road_weights r46_7 hC) (cwV 1 hts (gd_V lk_286 lk_123 lk_124 lk_29 lk_122) rfl rfl rfl (by decide +kernel) ⟨Nat.le_of_ble_eq_true rfl, Nat.le_of_ble_eq_true rfl⟩) (dk_preV hK hN (hP.sub [1, 5] rfl) (va_recv hK hP (ci := 1) (q0 := 1) rfl rfl)) rfl rfl hl.1 rfl (lv_room (Nat.le_of_ble_eq_true rfl)) d_WO_bound_46 ⟨Nat.le_of_ble_eq_true rfl, Nat.le_of_ble_eq_true rfl⟩) ?_
        refine lv_aload_n hx hb d_WO_bound_49 rfl (lv_at hl 1 rfl) ?_
        refine va_get (D := G) (ci := 0) (v := .ref t_road) (C := R_WO) (T := F_WO) (N := 5) hx hb hts i_WO hown hK hP 0 rfl rfl 0 (by decide) (hts _ lk_228) (fun _ h9 => h9) rfl d_WO_bound_50 ?_
        refine lv_iconst (v := (1 : Int32)) hx hb d_WO_bound_53 (by decide) ?_
        obtain ⟨r54_8, hC, hF⟩ := dk_b hF
        refine dk_pure (va_runV (As := [.int (1 : Int32)]) (rest := [.int r46_7]) hfix (c_Road_weightOf l G K n t_road t_road_greens t_road_leasts t_road_queues t_road_seconds t_road_weights (1 : Int32) v_t_road_size v_t_road_firstCycle v_t_road_lastCycle v_t_road_cycleBy v_t_road_stepSeconds v_t_road_weights r54_8 hC) (cwV 1 hts (gd_V lk_286 lk_123 lk_124 lk_29 lk_122) rfl rfl rfl (by decide +kernel) ⟨Nat.le_of_ble_eq_true rfl, Nat.le_of_ble_eq_true rfl⟩) (dk_preV hK hN (hP.sub [1, 5] rfl) (va_recv hK hP (ci := 1) (q0 := 1) rfl rfl)) rfl rfl hl.1 rfl (lv_room (Nat.le_of_ble_eq_true rfl)) d_WO_bound_54 ⟨Nat.le_of_ble_eq_true rfl, Nat.le_of_ble_eq_true rfl⟩) ?_
        refine lv_iadd hx hb d_WO_bound_57 ?_
        refine lv_i2l hx hb d_WO_bound_58 rfl ?_
        refine lv_lstore_n (lv' := [(3, .long ((r46_7 + r54_8).toInt64)), (2, .int r26_5), (0, .ref t), (1, .int x1)]) hx hb d_WO_bound_59 rfl hl (by decide) rfl (fun ls hl => ?_)
        refine lv_lload_n hx hb d_WO_bound_60 rfl (lv_at hl 0 rfl) ?_
        refine lv_aload_n hx hb d_WO_bound_61 rfl (lv_at hl 2 rfl) ?_
        refine va_get (D := G) (ci := 0) (v := .ref t_road) (C := R_WO) (T := F_WO) (N := 5) hx hb hts i_WO hown hK hP 0 rfl rfl 0 (by decide) (hts _ lk_228) (fun _ h9 => h9) rfl d_WO_bound_62 ?_
        obtain ⟨r65_9, hC, hF⟩ := dk_b hF
        refine dk_pure (va_runV (As := []) (rest := [.long ((r46_7 + r54_8).toInt64)]) hfix (c_Road_leastOpen l G K n t_road t_road_greens t_road_leasts t_road_queues t_road_seconds t_road_weights v_t_road_size v_t_road_firstCycle v_t_road_lastCycle v_t_road_cycleBy v_t_road_stepSeconds v_t_road_greens v_t_road_queues r65_9 hC) (cwV 0 hts (gd_V lk_287 lk_289 lk_290 lk_29 lk_288) rfl rfl rfl (by decide +kernel) ⟨Nat.le_of_ble_eq_true rfl, Nat.le_of_ble_eq_true rfl⟩) (dk_preV hK hN (hP.sub [1, 2, 4] rfl) (va_recv hK hP (ci := 1) (q0 := 1) rfl rfl)) rfl rfl hl.1 rfl (lv_room (Nat.le_of_ble_eq_true rfl)) d_WO_bound_65 ⟨Nat.le_of_ble_eq_true rfl, Nat.le_of_ble_eq_true rfl⟩) ?_
        refine lv_i2l hx hb d_WO_bound_68 rfl ?_
        refine lv_lmul hx hb d_WO_bound_69 ?_
        refine lv_iload_n hx hb d_WO_bound_70 rfl (lv_at hl 1 rfl) ?_
        refine lv_i2l hx hb d_WO_bound_71 rfl ?_
        refine lv_iload_n hx hb d_WO_bound_72 rfl (lv_at hl 3 rfl) ?_
        obtain ⟨r73_10, hC, hF⟩ := dk_b hF
        refine dk_pure (va_runS (As := [.long (((r46_7 + r54_8).toInt64) * r65_9.toInt64), .long r26_5.toInt64, .int x1]) (rest := []) hfix (c_WO_leastTerms l G K n (((r46_7 + r54_8).toInt64) * r65_9.toInt64) r26_5.toInt64 x1 r73_10 hC) (va_cwS 3 hts (gd_S lk_291 lk_293 lk_16 lk_292) rfl rfl rfl (by decide +kernel) ⟨Nat.le_of_ble_eq_true rfl, Nat.le_of_ble_eq_true rfl⟩) (dk_preS hK hN (hP.sub [] rfl)) rfl rfl hl.1 rfl (lv_room (Nat.le_of_ble_eq_true rfl)) d_WO_bound_73 ⟨Nat.le_of_ble_eq_true rfl, Nat.le_of_ble_eq_true rfl⟩) ?_
        obtain rfl := Option.some.inj hF
        exact W.lret (v := r73_10) hx hb hr (fun t ht hW => ⟨rfl, ht⟩) (fun _ h => by cases h) d_WO_bound_76
      · have hF := dk_t c31_6 hF
        refine lv_lconst (v := (0 : Int64)) hx hb d_WO_bound_34 (by decide) ?_
        refine lv_lconst (v := (1 : Int64)) hx hb d_WO_bound_35 (by decide) ?_
        refine lv_iload_n hx hb d_WO_bound_36 rfl (lv_at hl 2 rfl) ?_
        obtain ⟨r37_11, hC, hF⟩ := dk_b hF
        refine dk_pure (va_runS (As := [.long (0 : Int64), .long (1 : Int64), .int x1]) (rest := []) hfix (c_WO_leastTerms l G K n (0 : Int64) (1 : Int64) x1 r37_11 hC) (va_cwS 3 hts (gd_S lk_291 lk_293 lk_16 lk_292) rfl rfl rfl (by decide +kernel) ⟨Nat.le_of_ble_eq_true rfl, Nat.le_of_ble_eq_true rfl⟩) (dk_preS hK hN (hP.sub [] rfl)) rfl rfl hl.1 rfl (lv_room (Nat.le_of_ble_eq_true rfl)) d_WO_bound_37 ⟨Nat.le_of_ble_eq_true rfl, Nat.le_of_ble_eq_true rfl⟩) ?_
        obtain rfl := Option.some.inj hF
        exact W.lret (v := r37_11) hx hb hr (fun t ht hW => ⟨rfl, ht⟩) (fun _ h => by cases h) d_WO_bound_40
    · have hF := dk_f c15_4 hF
      refine lv_ldc2 (own := R_WO) (index := 126) (v := ((-1) : Int64)) hx hb hown (hts _ lk_17) d_WO_bound_18 ?_
      obtain rfl := Option.some.inj hF
      exact W.lret (v := ((-1) : Int64)) hx hb hr (fun t ht hW => ⟨rfl, ht⟩) (fun _ h => by cases h) d_WO_bound_21
def p_WO_offset (n : Nat) (x1 : Int32) (v_t_road_size : Int32) (v_t_atHand_cycle : Int32) (v_t_atHand_offsets : Nat → Int32) : Option (Int32) :=
  (p_WO_isPlanned n x1 v_t_road_size v_t_atHand_cycle).bind fun r2_1 =>
  if r2_1 = 0 then
    some ((-1) : Int32)
  else
    (p_Plan_offsetOf n x1 v_t_atHand_offsets).bind fun r13_3 =>
    some r13_3
abbrev m_WO_offset : Room := { frames := 2, cells := 0, slots := 0, locals := 42 }
set_option maxHeartbeats 4000000 in
set_option maxRecDepth 100000 in
theorem c_WO_offset (l : Launch) (G : va_G) (K : Nat → ClassId) (n : Nat) (t : Nat) (t_road : Nat) (t_search : Nat) (t_atHand : Nat) (t_timetable : Nat) (t_arrivals : Nat) (t_road_greens : Nat) (t_road_leasts : Nat) (t_road_queues : Nat) (t_road_seconds : Nat) (t_road_weights : Nat) (t_atHand_offsets : Nat) (x1 : Int32) (v_t_road_size : Int32) (v_t_road_firstCycle : Int32) (v_t_road_lastCycle : Int32) (v_t_road_cycleBy : Int32) (v_t_road_stepSeconds : Int32) (v_t_atHand_cycle : Int32) (v_t_atHand_size : Int32) (v_t_atHand_aim : Int32) (v_t_atHand_sawAll : Int32) (v_t_atHand_offsets : Nat → Int32) (o : Int32) (hF : p_WO_offset n x1 v_t_road_size v_t_atHand_cycle v_t_atHand_offsets = some o) :
    Met l y_WO_offset (wd y_WO_offset b_WO_offset 2 (some .int)) m_WO_offset (dk_Pp [.ref t, .int x1] G K [(t, .inr (0, [.ref t_road, .ref t_search, .ref t_atHand, .ref t_timetable, .ref t_arrivals])), (t_road, .inr (1, [.ref t_road_greens, .ref t_road_leasts, .ref t_road_queues, .ref t_road_seconds, .ref t_road_weights, .int v_t_road_size, .int v_t_road_firstCycle, .int v_t_road_lastCycle, .int v_t_road_cycleBy, .int v_t_road_stepSeconds])), (t_atHand, .inr (2, [.ref t_atHand_offsets, .int v_t_atHand_cycle, .int v_t_atHand_size, .int v_t_atHand_aim, .int v_t_atHand_sawAll])), (t_atHand_offsets, .inl (K 0, 5, .inl v_t_atHand_offsets))]) (dk_Qp (some (.int o))) 0 0 (fun _ => False) := by
  refine Met.ofW (cc := b_WO_offset) (maxL := 2) (ret := (some .int)) (by decide) rfl ?_
  intro p e s m args below meth c s₁ B hml hv
  obtain ⟨rfl, hP, hK, hN⟩ := hv
  have hx := B.exec
  have hb := B.bytes
  have hr := B.returns
  have hts : ∀ w ∈ lw_good, w.before _ s = true := fun w h => atoms_spec (ws := wd y_WO_offset b_WO_offset 2 (some .int)) B.pre w (List.mem_cons_of_mem _ h)
  have hown : s.vm.findClass R_WO = some m.cls := findClass_of_methodNamed B.named
  have hlocks := B.notSynchronized
  have hfix : CallFix p m c b_WO_offset 2 s _ lw_good R_WO := ⟨hx, hb, hml, hown, hts⟩
  have hl := lv_entry ([.ref t, .int x1]) (n := 2) (Nat.le_of_ble_eq_true rfl)
  rw [lg_entry_eq]
  generalize (lg_sl ([.ref t, .int x1]) ++ List.replicate (2 - (lg_sl ([.ref t, .int x1])).length) Slot.unset).toArray = ls at hl ⊢
  have hl : lv_has ls 2 [(0, .ref t), (1, .int x1)] := hl
  change W p l e m_WO_offset s m _ below meth c s.heap [] 0 0 _ _
  unfold p_WO_offset at hF
  refine lv_aload_n hx hb d_WO_offset_0 rfl (lv_at hl 0 rfl) ?_
  refine lv_iload_n hx hb d_WO_offset_1 rfl (lv_at hl 1 rfl) ?_
  obtain ⟨r2_1, hC, hF⟩ := dk_b hF
  refine dk_pure (va_runV (As := [.int x1]) (rest := []) hfix (c_WO_isPlanned l G K n t t_road t_search t_atHand t_timetable t_arrivals t_road_greens t_road_leasts t_road_queues t_road_seconds t_road_weights t_atHand_offsets x1 v_t_road_size v_t_road_firstCycle v_t_road_lastCycle v_t_road_cycleBy v_t_road_stepSeconds v_t_atHand_cycle v_t_atHand_size v_t_atHand_aim v_t_atHand_sawAll r2_1 hC) (cwV 1 hts (gd_V lk_294 lk_296 lk_297 lk_16 lk_295) rfl rfl rfl (by decide +kernel) ⟨Nat.le_of_ble_eq_true rfl, Nat.le_of_ble_eq_true rfl⟩) (dk_preV hK hN (hP.sub [0, 1, 2] rfl) (va_recv hK hP (ci := 0) (q0 := 0) rfl rfl)) rfl rfl hl.1 rfl (lv_room (Nat.le_of_ble_eq_true rfl)) d_WO_offset_2 ⟨Nat.le_of_ble_eq_true rfl, Nat.le_of_ble_eq_true rfl⟩) ?_
  refine lv_if_eq (tgt := 19) hx hb d_WO_offset_5 (by decide) (fun c5_2 => ?_) (fun c5_2 => ?_)
  · have hF := dk_t c5_2 hF
    refine lv_iconst (v := ((-1) : Int32)) hx hb d_WO_offset_19 (by decide) ?_
    obtain rfl := Option.some.inj hF
    exact W.iret (v := ((-1) : Int32)) hx hb hr (fun t ht hW => ⟨rfl, ht⟩) (fun _ h => by cases h) d_WO_offset_20
  · have hF := dk_f c5_2 hF
    refine lv_aload_n hx hb d_WO_offset_8 rfl (lv_at hl 0 rfl) ?_
    refine va_get (D := G) (ci := 0) (v := .ref t_atHand) (C := R_WO) (T := F_WO) (N := 5) hx hb hts i_WO hown hK hP 0 rfl rfl 2 (by decide) (hts _ lk_230) (fun _ h9 => h9) rfl d_WO_offset_9 ?_
    refine lv_iload_n hx hb d_WO_offset_12 rfl (lv_at hl 1 rfl) ?_
    obtain ⟨r13_3, hC, hF⟩ := dk_b hF
    refine dk_pure (va_runV (As := [.int x1]) (rest := []) hfix (c_Plan_offsetOf l G K n t_atHand t_atHand_offsets x1 v_t_atHand_cycle v_t_atHand_size v_t_atHand_aim v_t_atHand_sawAll v_t_atHand_offsets r13_3 hC) (cwV 1 hts (gd_V lk_233 lk_92 lk_93 lk_94 lk_91) rfl rfl rfl (by decide +kernel) ⟨Nat.le_of_ble_eq_true rfl, Nat.le_of_ble_eq_true rfl⟩) (dk_preV hK hN (hP.sub [2, 3] rfl) (va_recv hK hP (ci := 2) (q0 := 2) rfl rfl)) rfl rfl hl.1 rfl (lv_room (Nat.le_of_ble_eq_true rfl)) d_WO_offset_13 ⟨Nat.le_of_ble_eq_true rfl, Nat.le_of_ble_eq_true rfl⟩) ?_
    refine lv_goto (tgt := 20) hx hb d_WO_offset_16 (by decide) ?_
    obtain rfl := Option.some.inj hF
    exact W.iret (v := r13_3) hx hb hr (fun t ht hW => ⟨rfl, ht⟩) (fun _ h => by cases h) d_WO_offset_20
def p_WO_green (n : Nat) (x1 : Int32) (x2 : Int32) (v_t_road_size : Int32) (v_t_atHand_cycle : Int32) (v_t_atHand_offsets : Nat → Int32) (v_t_road_greens : Nat → Int32) (v_t_road_queues : Nat → Int32) : Option (Int32) :=
  (p_WO_isPlanned n x1 v_t_road_size v_t_atHand_cycle).bind fun r2_1 =>
  if r2_1 = 0 then
    some ((-1) : Int32)
  else
    (p_Plan_offsetOf n x1 v_t_atHand_offsets).bind fun r15_3 =>
    if x2 = (0 : Int32) then
      (p_WO_wrap n r15_3 v_t_atHand_cycle).bind fun r56_5 =>
      some r56_5
    else
      if x2 = (1 : Int32) then
        (p_Road_greenOf n x1 v_t_road_size v_t_road_greens).bind fun r66_7 =>
        (p_WO_wrap n (r15_3 + r66_7) v_t_atHand_cycle).bind fun r77_8 =>
        some r77_8
      else
        if x2 = (2 : Int32) then
          (p_Road_queueOf n x1 v_t_road_size v_t_road_queues).bind fun r87_10 =>
          (p_WO_wrap n (r15_3 + r87_10) v_t_atHand_cycle).bind fun r98_11 =>
          some r98_11
        else
          some ((-1) : Int32)
abbrev m_WO_green : Room := { frames := 2, cells := 0, slots := 0, locals := 43 }
set_option maxHeartbeats 4000000 in
set_option maxRecDepth 100000 in
theorem c_WO_green (l : Launch) (G : va_G) (K : Nat → ClassId) (n : Nat) (t : Nat) (t_road : Nat) (t_search : Nat) (t_atHand : Nat) (t_timetable : Nat) (t_arrivals : Nat) (t_road_greens : Nat) (t_road_leasts : Nat) (t_road_queues : Nat) (t_road_seconds : Nat) (t_road_weights : Nat) (t_atHand_offsets : Nat) (x1 : Int32) (x2 : Int32) (v_t_road_size : Int32) (v_t_road_firstCycle : Int32) (v_t_road_lastCycle : Int32) (v_t_road_cycleBy : Int32) (v_t_road_stepSeconds : Int32) (v_t_road_greens : Nat → Int32) (v_t_road_queues : Nat → Int32) (v_t_atHand_cycle : Int32) (v_t_atHand_size : Int32) (v_t_atHand_aim : Int32) (v_t_atHand_sawAll : Int32) (v_t_atHand_offsets : Nat → Int32) (o : Int32) (hF : p_WO_green n x1 x2 v_t_road_size v_t_atHand_cycle v_t_atHand_offsets v_t_road_greens v_t_road_queues = some o) :
    Met l y_WO_green (wd y_WO_green b_WO_green 4 (some .int)) m_WO_green (dk_Pp [.ref t, .int x1, .int x2] G K [(t, .inr (0, [.ref t_road, .ref t_search, .ref t_atHand, .ref t_timetable, .ref t_arrivals])), (t_road, .inr (1, [.ref t_road_greens, .ref t_road_leasts, .ref t_road_queues, .ref t_road_seconds, .ref t_road_weights, .int v_t_road_size, .int v_t_road_firstCycle, .int v_t_road_lastCycle, .int v_t_road_cycleBy, .int v_t_road_stepSeconds])), (t_road_greens, .inl (K 0, 5, .inl v_t_road_greens)), (t_road_queues, .inl (K 0, 5, .inl v_t_road_queues)), (t_atHand, .inr (2, [.ref t_atHand_offsets, .int v_t_atHand_cycle, .int v_t_atHand_size, .int v_t_atHand_aim, .int v_t_atHand_sawAll])), (t_atHand_offsets, .inl (K 0, 5, .inl v_t_atHand_offsets))]) (dk_Qp (some (.int o))) 0 0 (fun _ => False) := by
  refine Met.ofW (cc := b_WO_green) (maxL := 4) (ret := (some .int)) (by decide) rfl ?_
  intro p e s m args below meth c s₁ B hml hv
  obtain ⟨rfl, hP, hK, hN⟩ := hv
  have hx := B.exec
  have hb := B.bytes
  have hr := B.returns
  have hts : ∀ w ∈ lw_good, w.before _ s = true := fun w h => atoms_spec (ws := wd y_WO_green b_WO_green 4 (some .int)) B.pre w (List.mem_cons_of_mem _ h)
  have hown : s.vm.findClass R_WO = some m.cls := findClass_of_methodNamed B.named
  have hlocks := B.notSynchronized
  have hfix : CallFix p m c b_WO_green 4 s _ lw_good R_WO := ⟨hx, hb, hml, hown, hts⟩
  have hl := lv_entry ([.ref t, .int x1, .int x2]) (n := 4) (Nat.le_of_ble_eq_true rfl)
  rw [lg_entry_eq]
  generalize (lg_sl ([.ref t, .int x1, .int x2]) ++ List.replicate (4 - (lg_sl ([.ref t, .int x1, .int x2])).length) Slot.unset).toArray = ls at hl ⊢
  have hl : lv_has ls 4 [(0, .ref t), (1, .int x1), (2, .int x2)] := hl
  change W p l e m_WO_green s m _ below meth c s.heap [] 0 0 _ _
  unfold p_WO_green at hF
  refine lv_aload_n hx hb d_WO_green_0 rfl (lv_at hl 0 rfl) ?_
  refine lv_iload_n hx hb d_WO_green_1 rfl (lv_at hl 1 rfl) ?_
  obtain ⟨r2_1, hC, hF⟩ := dk_b hF
  refine dk_pure (va_runV (As := [.int x1]) (rest := []) hfix (c_WO_isPlanned l G K n t t_road t_search t_atHand t_timetable t_arrivals t_road_greens t_road_leasts t_road_queues t_road_seconds t_road_weights t_atHand_offsets x1 v_t_road_size v_t_road_firstCycle v_t_road_lastCycle v_t_road_cycleBy v_t_road_stepSeconds v_t_atHand_cycle v_t_atHand_size v_t_atHand_aim v_t_atHand_sawAll r2_1 hC) (cwV 1 hts (gd_V lk_294 lk_296 lk_297 lk_16 lk_295) rfl rfl rfl (by decide +kernel) ⟨Nat.le_of_ble_eq_true rfl, Nat.le_of_ble_eq_true rfl⟩) (dk_preV hK hN (hP.sub [0, 1, 4] rfl) (va_recv hK hP (ci := 0) (q0 := 0) rfl rfl)) rfl rfl hl.1 rfl (lv_room (Nat.le_of_ble_eq_true rfl)) d_WO_green_2 ⟨Nat.le_of_ble_eq_true rfl, Nat.le_of_ble_eq_true rfl⟩) ?_
  refine lv_if_ne (tgt := 10) hx hb d_WO_green_5 (by decide) (fun c5_2 => ?_) (fun c5_2 => ?_)
  · have hF := dk_f c5_2 hF
    refine lv_aload_n hx hb d_WO_green_10 rfl (lv_at hl 0 rfl) ?_
    refine va_get (D := G) (ci := 0) (v := .ref t_atHand) (C := R_WO) (T := F_WO) (N := 5) hx hb hts i_WO hown hK hP 0 rfl rfl 2 (by decide) (hts _ lk_230) (fun _ h9 => h9) rfl d_WO_green_11 ?_
    refine lv_iload_n hx hb d_WO_green_14 rfl (lv_at hl 1 rfl) ?_
    obtain ⟨r15_3, hC, hF⟩ := dk_b hF
    refine dk_pure (va_runV (As := [.int x1]) (rest := []) hfix (c_Plan_offsetOf l G K n t_atHand t_atHand_offsets x1 v_t_atHand_cycle v_t_atHand_size v_t_atHand_aim v_t_atHand_sawAll v_t_atHand_offsets r15_3 hC) (cwV 1 hts (gd_V lk_233 lk_92 lk_93 lk_94 lk_91) rfl rfl rfl (by decide +kernel) ⟨Nat.le_of_ble_eq_true rfl, Nat.le_of_ble_eq_true rfl⟩) (dk_preV hK hN (hP.sub [4, 5] rfl) (va_recv hK hP (ci := 2) (q0 := 4) rfl rfl)) rfl rfl hl.1 rfl (lv_room (Nat.le_of_ble_eq_true rfl)) d_WO_green_15 ⟨Nat.le_of_ble_eq_true rfl, Nat.le_of_ble_eq_true rfl⟩) ?_
    refine lv_istore_n (lv' := [(3, .int r15_3), (0, .ref t), (1, .int x1), (2, .int x2)]) hx hb d_WO_green_18 rfl hl (by decide) rfl (fun ls hl => ?_)
    refine lv_iload_n hx hb d_WO_green_19 rfl (lv_at hl 3 rfl) ?_
    by_cases c20_4 : x2 = (0 : Int32)
    · have hF := dk_t c20_4 hF
      refine lv_tableIn (off := 28) (tgt := 48) hx hb d_WO_green_20 (by rw [c20_4]; decide) (by rw [c20_4]; decide) (by rw [c20_4]; rfl) (by decide) ?_
      refine lv_iload_n hx hb d_WO_green_48 rfl (lv_at hl 0 rfl) ?_
      refine lv_aload_n hx hb d_WO_green_49 rfl (lv_at hl 1 rfl) ?_
      refine va_get (D := G) (ci := 0) (v := .ref t_atHand) (C := R_WO) (T := F_WO) (N := 5) hx hb hts i_WO hown hK hP 0 rfl rfl 2 (by decide) (hts _ lk_230) (fun _ h9 => h9) rfl d_WO_green_50 ?_
      refine va_getN (D := G) (ci := 2) (v := .int v_t_atHand_cycle) (C := R_Plan) (T := F_Plan) (N := 5) hx hb hts i_Plan hown hK hP 4 rfl rfl 1 (by decide) (va_Nw.use rfl (hN.1 _ lk_234)) (fun _ h9 => h9) rfl d_WO_green_53 ?_
      obtain ⟨r56_5, hC, hF⟩ := dk_b hF
      refine dk_pure (va_runS (As := [.int r15_3, .int v_t_atHand_cycle]) (rest := []) hfix (c_WO_wrap l G K n r15_3 v_t_atHand_cycle r56_5 hC) (va_cwS 2 hts (gd_S lk_298 lk_61 lk_16 lk_60) rfl rfl rfl (by decide +kernel) ⟨Nat.le_of_ble_eq_true rfl, Nat.le_of_ble_eq_true rfl⟩) (dk_preS hK hN (hP.sub [] rfl)) rfl rfl hl.1 rfl (lv_room (Nat.le_of_ble_eq_true rfl)) d_WO_green_56 ⟨Nat.le_of_ble_eq_true rfl, Nat.le_of_ble_eq_true rfl⟩) ?_
      obtain rfl := Option.some.inj hF
      exact W.iret (v := r56_5) hx hb hr (fun t ht hW => ⟨rfl, ht⟩) (fun _ h => by cases h) d_WO_green_59
    have hF := dk_f c20_4 hF
    by_cases c20_6 : x2 = (1 : Int32)
    · have hF := dk_t c20_6 hF
      refine lv_tableIn (off := 40) (tgt := 60) hx hb d_WO_green_20 (by rw [c20_6]; decide) (by rw [c20_6]; decide) (by rw [c20_6]; rfl) (by decide) ?_
      refine lv_iload_n hx hb d_WO_green_60 rfl (lv_at hl 0 rfl) ?_
      refine lv_aload_n hx hb d_WO_green_61 rfl (lv_at hl 1 rfl) ?_
      refine va_get (D := G) (ci := 0) (v := .ref t_road) (C := R_WO) (T := F_WO) (N := 5) hx hb hts i_WO hown hK hP 0 rfl rfl 0 (by decide) (hts _ lk_228) (fun _ h9 => h9) rfl d_WO_green_62 ?_
      refine lv_iload_n hx hb d_WO_green_65 rfl (lv_at hl 2 rfl) ?_
      obtain ⟨r66_7, hC, hF⟩ := dk_b hF
      refine dk_pure (va_runV (As := [.int x1]) (rest := [.int r15_3]) hfix (c_Road_greenOf l G K n t_road t_road_greens t_road_leasts t_road_queues t_road_seconds t_road_weights x1 v_t_road_size v_t_road_firstCycle v_t_road_lastCycle v_t_road_cycleBy v_t_road_stepSeconds v_t_road_greens r66_7 hC) (cwV 1 hts (gd_V lk_267 lk_48 lk_49 lk_29 lk_47) rfl rfl rfl (by decide +kernel) ⟨Nat.le_of_ble_eq_true rfl, Nat.le_of_ble_eq_true rfl⟩) (dk_preV hK hN (hP.sub [1, 2] rfl) (va_recv hK hP (ci := 1) (q0 := 1) rfl rfl)) rfl rfl hl.1 rfl (lv_room (Nat.le_of_ble_eq_true rfl)) d_WO_green_66 ⟨Nat.le_of_ble_eq_true rfl, Nat.le_of_ble_eq_true rfl⟩) ?_
      refine lv_iadd hx hb d_WO_green_69 ?_
      refine lv_aload_n hx hb d_WO_green_70 rfl (lv_at hl 1 rfl) ?_
      refine va_get (D := G) (ci := 0) (v := .ref t_atHand) (C := R_WO) (T := F_WO) (N := 5) hx hb hts i_WO hown hK hP 0 rfl rfl 2 (by decide) (hts _ lk_230) (fun _ h9 => h9) rfl d_WO_green_71 ?_
      refine va_getN (D := G) (ci := 2) (v := .int v_t_atHand_cycle) (C := R_Plan) (T := F_Plan) (N := 5) hx hb hts i_Plan hown hK hP 4 rfl rfl 1 (by decide) (va_Nw.use rfl (hN.1 _ lk_234)) (fun _ h9 => h9) rfl d_WO_green_74 ?_
      obtain ⟨r77_8, hC, hF⟩ := dk_b hF
      refine dk_pure (va_runS (As := [.int (r15_3 + r66_7), .int v_t_atHand_cycle]) (rest := []) hfix (c_WO_wrap l G K n (r15_3 + r66_7) v_t_atHand_cycle r77_8 hC) (va_cwS 2 hts (gd_S lk_298 lk_61 lk_16 lk_60) rfl rfl rfl (by decide +kernel) ⟨Nat.le_of_ble_eq_true rfl, Nat.le_of_ble_eq_true rfl⟩) (dk_preS hK hN (hP.sub [] rfl)) rfl rfl hl.1 rfl (lv_room (Nat.le_of_ble_eq_true rfl)) d_WO_green_77 ⟨Nat.le_of_ble_eq_true rfl, Nat.le_of_ble_eq_true rfl⟩) ?_
      obtain rfl := Option.some.inj hF
      exact W.iret (v := r77_8) hx hb hr (fun t ht hW => ⟨rfl, ht⟩) (fun _ h => by cases h) d_WO_green_80
    have hF := dk_f c20_6 hF
    by_cases c20_9 : x2 = (2 : Int32)
    · have hF := dk_t c20_9 hF
      refine lv_tableIn (off := 61) (tgt := 81) hx hb d_WO_green_20 (by rw [c20_9]; decide) (by rw [c20_9]; decide) (by rw [c20_9]; rfl) (by decide) ?_
      refine lv_iload_n hx hb d_WO_green_81 rfl (lv_at hl 0 rfl) ?_
      refine lv_aload_n hx hb d_WO_green_82 rfl (lv_at hl 1 rfl) ?_
      refine va_get (D := G) (ci := 0) (v := .ref t_road) (C := R_WO) (T := F_WO) (N := 5) hx hb hts i_WO hown hK hP 0 rfl rfl 0 (by decide) (hts _ lk_228) (fun _ h9 => h9) rfl d_WO_green_83 ?_
      refine lv_iload_n hx hb d_WO_green_86 rfl (lv_at hl 2 rfl) ?_
      obtain ⟨r87_10, hC, hF⟩ := dk_b hF
      refine dk_pure (va_runV (As := [.int x1]) (rest := [.int r15_3]) hfix (c_Road_queueOf l G K n t_road t_road_greens t_road_leasts t_road_queues t_road_seconds t_road_weights x1 v_t_road_size v_t_road_firstCycle v_t_road_lastCycle v_t_road_cycleBy v_t_road_stepSeconds v_t_road_queues r87_10 hC) (cwV 1 hts (gd_V lk_299 lk_52 lk_53 lk_29 lk_51) rfl rfl rfl (by decide +kernel) ⟨Nat.le_of_ble_eq_true rfl, Nat.le_of_ble_eq_true rfl⟩) (dk_preV hK hN (hP.sub [1, 3] rfl) (va_recv hK hP (ci := 1) (q0 := 1) rfl rfl)) rfl rfl hl.1 rfl (lv_room (Nat.le_of_ble_eq_true rfl)) d_WO_green_87 ⟨Nat.le_of_ble_eq_true rfl, Nat.le_of_ble_eq_true rfl⟩) ?_
      refine lv_iadd hx hb d_WO_green_90 ?_
      refine lv_aload_n hx hb d_WO_green_91 rfl (lv_at hl 1 rfl) ?_
      refine va_get (D := G) (ci := 0) (v := .ref t_atHand) (C := R_WO) (T := F_WO) (N := 5) hx hb hts i_WO hown hK hP 0 rfl rfl 2 (by decide) (hts _ lk_230) (fun _ h9 => h9) rfl d_WO_green_92 ?_
      refine va_getN (D := G) (ci := 2) (v := .int v_t_atHand_cycle) (C := R_Plan) (T := F_Plan) (N := 5) hx hb hts i_Plan hown hK hP 4 rfl rfl 1 (by decide) (va_Nw.use rfl (hN.1 _ lk_234)) (fun _ h9 => h9) rfl d_WO_green_95 ?_
      obtain ⟨r98_11, hC, hF⟩ := dk_b hF
      refine dk_pure (va_runS (As := [.int (r15_3 + r87_10), .int v_t_atHand_cycle]) (rest := []) hfix (c_WO_wrap l G K n (r15_3 + r87_10) v_t_atHand_cycle r98_11 hC) (va_cwS 2 hts (gd_S lk_298 lk_61 lk_16 lk_60) rfl rfl rfl (by decide +kernel) ⟨Nat.le_of_ble_eq_true rfl, Nat.le_of_ble_eq_true rfl⟩) (dk_preS hK hN (hP.sub [] rfl)) rfl rfl hl.1 rfl (lv_room (Nat.le_of_ble_eq_true rfl)) d_WO_green_98 ⟨Nat.le_of_ble_eq_true rfl, Nat.le_of_ble_eq_true rfl⟩) ?_
      obtain rfl := Option.some.inj hF
      exact W.iret (v := r98_11) hx hb hr (fun t ht hW => ⟨rfl, ht⟩) (fun _ h => by cases h) d_WO_green_101
    have hF := dk_f c20_9 hF
    have e_c20_4 : ¬ Int32.toInt x2 = 0 := fun h => c20_4 (Int32.toInt_inj.mp (h.trans (by decide)))
    have e_c20_6 : ¬ Int32.toInt x2 = 1 := fun h => c20_6 (Int32.toInt_inj.mp (h.trans (by decide)))
    have e_c20_9 : ¬ Int32.toInt x2 = 2 := fun h => c20_9 (Int32.toInt_inj.mp (h.trans (by decide)))
    refine lv_tableOut (tgt := 102) hx hb d_WO_green_20 (by omega) (by decide) ?_
    refine lv_iconst (v := ((-1) : Int32)) hx hb d_WO_green_102 (by decide) ?_
    obtain rfl := Option.some.inj hF
    exact W.iret (v := ((-1) : Int32)) hx hb hr (fun t ht hW => ⟨rfl, ht⟩) (fun _ h => by cases h) d_WO_green_103
  · have hF := dk_t c5_2 hF
    refine lv_iconst (v := ((-1) : Int32)) hx hb d_WO_green_8 (by decide) ?_
    obtain rfl := Option.some.inj hF
    exact W.iret (v := ((-1) : Int32)) hx hb hr (fun t ht hW => ⟨rfl, ht⟩) (fun _ h => by cases h) d_WO_green_9
def p_WO_width (n : Nat) (x1 : Int32) (x2 : Int32) (v_t_atHand_cycle : Int32) (v_t_road_size : Int32) (v_t_atHand_offsets : Nat → Int32) (v_t_road_queues : Nat → Int32) (v_t_road_seconds : Nat → Int32) (v_t_road_greens : Nat → Int32) : Option (Int64) :=
  (p_WO_within n x1.toInt64 (0 : Int64) (1 : Int64)).bind fun r4_1 =>
  if r4_1 = 0 then
    some ((-1) : Int64)
  else
    (p_WO_isPart n x2).bind fun r11_3 =>
    if r11_3 = 0 then
      some ((-1) : Int64)
    else
      (p_Plan_isMade n v_t_atHand_cycle).bind fun r21_5 =>
      if r21_5 = 0 then
        some ((-1) : Int64)
      else
        (p_WO_bandOf n x1 v_t_road_size v_t_atHand_offsets v_t_atHand_cycle v_t_road_queues v_t_road_seconds v_t_road_greens).bind fun r33_7 =>
        (p_WO_leastTerms n r33_7.toInt64 v_t_atHand_cycle.toInt64 x2).bind fun r46_8 =>
        some r46_8
abbrev m_WO_width : Room := { frames := 5, cells := 0, slots := 0, locals := 114 }
set_option maxHeartbeats 4000000 in
set_option maxRecDepth 100000 in
theorem c_WO_width (l : Launch) (G : va_G) (K : Nat → ClassId) (n : Nat) (t : Nat) (t_road : Nat) (t_search : Nat) (t_atHand : Nat) (t_timetable : Nat) (t_arrivals : Nat) (t_road_greens : Nat) (t_road_leasts : Nat) (t_road_queues : Nat) (t_road_seconds : Nat) (t_road_weights : Nat) (t_atHand_offsets : Nat) (x1 : Int32) (x2 : Int32) (v_t_road_size : Int32) (v_t_road_firstCycle : Int32) (v_t_road_lastCycle : Int32) (v_t_road_cycleBy : Int32) (v_t_road_stepSeconds : Int32) (v_t_road_greens : Nat → Int32) (v_t_road_queues : Nat → Int32) (v_t_road_seconds : Nat → Int32) (v_t_atHand_cycle : Int32) (v_t_atHand_size : Int32) (v_t_atHand_aim : Int32) (v_t_atHand_sawAll : Int32) (v_t_atHand_offsets : Nat → Int32) (o : Int64) (hF : p_WO_width n x1 x2 v_t_atHand_cycle v_t_road_size v_t_atHand_offsets v_t_road_queues v_t_road_seconds v_t_road_greens = some o) :
    Met l y_WO_width (wd y_WO_width b_WO_width 3 (some .long)) m_WO_width (dk_Pp [.ref t, .int x1, .int x2] G K [(t, .inr (0, [.ref t_road, .ref t_search, .ref t_atHand, .ref t_timetable, .ref t_arrivals])), (t_road, .inr (1, [.ref t_road_greens, .ref t_road_leasts, .ref t_road_queues, .ref t_road_seconds, .ref t_road_weights, .int v_t_road_size, .int v_t_road_firstCycle, .int v_t_road_lastCycle, .int v_t_road_cycleBy, .int v_t_road_stepSeconds])), (t_road_greens, .inl (K 0, 5, .inl v_t_road_greens)), (t_road_queues, .inl (K 0, 5, .inl v_t_road_queues)), (t_road_seconds, .inl (K 0, 10, .inl v_t_road_seconds)), (t_atHand, .inr (2, [.ref t_atHand_offsets, .int v_t_atHand_cycle, .int v_t_atHand_size, .int v_t_atHand_aim, .int v_t_atHand_sawAll])), (t_atHand_offsets, .inl (K 0, 5, .inl v_t_atHand_offsets))]) (dk_Qp (some (.long o))) 0 0 (fun _ => False) := by
  refine Met.ofW (cc := b_WO_width) (maxL := 3) (ret := (some .long)) (by decide) rfl ?_
  intro p e s m args below meth c s₁ B hml hv
  obtain ⟨rfl, hP, hK, hN⟩ := hv
  have hx := B.exec
  have hb := B.bytes
  have hr := B.returns
  have hts : ∀ w ∈ lw_good, w.before _ s = true := fun w h => atoms_spec (ws := wd y_WO_width b_WO_width 3 (some .long)) B.pre w (List.mem_cons_of_mem _ h)
  have hown : s.vm.findClass R_WO = some m.cls := findClass_of_methodNamed B.named
  have hlocks := B.notSynchronized
  have hfix : CallFix p m c b_WO_width 3 s _ lw_good R_WO := ⟨hx, hb, hml, hown, hts⟩
  have hl := lv_entry ([.ref t, .int x1, .int x2]) (n := 3) (Nat.le_of_ble_eq_true rfl)
  rw [lg_entry_eq]
  generalize (lg_sl ([.ref t, .int x1, .int x2]) ++ List.replicate (3 - (lg_sl ([.ref t, .int x1, .int x2])).length) Slot.unset).toArray = ls at hl ⊢
  have hl : lv_has ls 3 [(0, .ref t), (1, .int x1), (2, .int x2)] := hl
  change W p l e m_WO_width s m _ below meth c s.heap [] 0 0 _ _
  unfold p_WO_width at hF
  refine lv_iload_n hx hb d_WO_width_0 rfl (lv_at hl 1 rfl) ?_
  refine lv_i2l hx hb d_WO_width_1 rfl ?_
  refine lv_lconst (v := (0 : Int64)) hx hb d_WO_width_2 (by decide) ?_
  refine lv_lconst (v := (1 : Int64)) hx hb d_WO_width_3 (by decide) ?_
  obtain ⟨r4_1, hC, hF⟩ := dk_b hF
  refine dk_pure (va_runS (As := [.long x1.toInt64, .long (0 : Int64), .long (1 : Int64)]) (rest := []) hfix (c_WO_within l G K n x1.toInt64 (0 : Int64) (1 : Int64) r4_1 hC) (va_cwS 3 hts (gd_S lk_242 lk_137 lk_16 lk_136) rfl rfl rfl (by decide +kernel) ⟨Nat.le_of_ble_eq_true rfl, Nat.le_of_ble_eq_true rfl⟩) (dk_preS hK hN (hP.sub [] rfl)) rfl rfl hl.1 rfl (lv_room (Nat.le_of_ble_eq_true rfl)) d_WO_width_4 ⟨Nat.le_of_ble_eq_true rfl, Nat.le_of_ble_eq_true rfl⟩) ?_
  refine lv_if_eq (tgt := 27) hx hb d_WO_width_7 (by decide) (fun c7_2 => ?_) (fun c7_2 => ?_)
  · have hF := dk_t c7_2 hF
    refine lv_ldc2 (own := R_WO) (index := 126) (v := ((-1) : Int64)) hx hb hown (hts _ lk_17) d_WO_width_27 ?_
    obtain rfl := Option.some.inj hF
    exact W.lret (v := ((-1) : Int64)) hx hb hr (fun t ht hW => ⟨rfl, ht⟩) (fun _ h => by cases h) d_WO_width_30
  · have hF := dk_f c7_2 hF
    refine lv_iload_n hx hb d_WO_width_10 rfl (lv_at hl 2 rfl) ?_
    obtain ⟨r11_3, hC, hF⟩ := dk_b hF
    refine dk_pure (va_runS (As := [.int x2]) (rest := []) hfix (c_WO_isPart l G K n x2 r11_3 hC) (va_cwS 1 hts (gd_S lk_283 lk_285 lk_16 lk_284) rfl rfl rfl (by decide +kernel) ⟨Nat.le_of_ble_eq_true rfl, Nat.le_of_ble_eq_true rfl⟩) (dk_preS hK hN (hP.sub [] rfl)) rfl rfl hl.1 rfl (lv_room (Nat.le_of_ble_eq_true rfl)) d_WO_width_11 ⟨Nat.le_of_ble_eq_true rfl, Nat.le_of_ble_eq_true rfl⟩) ?_
    refine lv_if_eq (tgt := 27) hx hb d_WO_width_14 (by decide) (fun c14_4 => ?_) (fun c14_4 => ?_)
    · have hF := dk_t c14_4 hF
      refine lv_ldc2 (own := R_WO) (index := 126) (v := ((-1) : Int64)) hx hb hown (hts _ lk_17) d_WO_width_27 ?_
      obtain rfl := Option.some.inj hF
      exact W.lret (v := ((-1) : Int64)) hx hb hr (fun t ht hW => ⟨rfl, ht⟩) (fun _ h => by cases h) d_WO_width_30
    · have hF := dk_f c14_4 hF
      refine lv_aload_n hx hb d_WO_width_17 rfl (lv_at hl 0 rfl) ?_
      refine va_get (D := G) (ci := 0) (v := .ref t_atHand) (C := R_WO) (T := F_WO) (N := 5) hx hb hts i_WO hown hK hP 0 rfl rfl 2 (by decide) (hts _ lk_230) (fun _ h9 => h9) rfl d_WO_width_18 ?_
      obtain ⟨r21_5, hC, hF⟩ := dk_b hF
      refine dk_pure (va_runV (As := []) (rest := []) hfix (c_Plan_isMade l G K n t_atHand t_atHand_offsets v_t_atHand_cycle v_t_atHand_size v_t_atHand_aim v_t_atHand_sawAll r21_5 hC) (cwV 0 hts (gd_V lk_231 lk_162 lk_163 lk_94 lk_161) rfl rfl rfl (by decide +kernel) ⟨Nat.le_of_ble_eq_true rfl, Nat.le_of_ble_eq_true rfl⟩) (dk_preV hK hN (hP.sub [5] rfl) (va_recv hK hP (ci := 2) (q0 := 5) rfl rfl)) rfl rfl hl.1 rfl (lv_room (Nat.le_of_ble_eq_true rfl)) d_WO_width_21 ⟨Nat.le_of_ble_eq_true rfl, Nat.le_of_ble_eq_true rfl⟩) ?_
      refine lv_if_ne (tgt := 31) hx hb d_WO_width_24 (by decide) (fun c24_6 => ?_) (fun c24_6 => ?_)
      · have hF := dk_f c24_6 hF
        refine lv_aload_n hx hb d_WO_width_31 rfl (lv_at hl 0 rfl) ?_
        refine lv_iload_n hx hb d_WO_width_32 rfl (lv_at hl 1 rfl) ?_
        obtain ⟨r33_7, hC, hF⟩ := dk_b hF
        refine dk_pure (va_runV (As := [.int x1]) (rest := []) hfix (c_WO_bandOf l G K n t t_road t_search t_atHand t_timetable t_arrivals t_road_greens t_road_leasts t_road_queues t_road_seconds t_road_weights t_atHand_offsets x1 v_t_road_size v_t_road_firstCycle v_t_road_lastCycle v_t_road_cycleBy v_t_road_stepSeconds v_t_road_greens v_t_road_queues v_t_road_seconds v_t_atHand_cycle v_t_atHand_size v_t_atHand_aim v_t_atHand_sawAll v_t_atHand_offsets r33_7 hC) (cwV 1 hts (gd_V lk_300 lk_302 lk_303 lk_16 lk_301) rfl rfl rfl (by decide +kernel) ⟨Nat.le_of_ble_eq_true rfl, Nat.le_of_ble_eq_true rfl⟩) (dk_preV hK hN (hP.sub [0, 1, 2, 3, 4, 5, 6] rfl) (va_recv hK hP (ci := 0) (q0 := 0) rfl rfl)) rfl rfl hl.1 rfl (lv_room (Nat.le_of_ble_eq_true rfl)) d_WO_width_33 ⟨Nat.le_of_ble_eq_true rfl, Nat.le_of_ble_eq_true rfl⟩) ?_
        refine lv_i2l hx hb d_WO_width_36 rfl ?_
        refine lv_aload_n hx hb d_WO_width_37 rfl (lv_at hl 0 rfl) ?_
        refine va_get (D := G) (ci := 0) (v := .ref t_atHand) (C := R_WO) (T := F_WO) (N := 5) hx hb hts i_WO hown hK hP 0 rfl rfl 2 (by decide) (hts _ lk_230) (fun _ h9 => h9) rfl d_WO_width_38 ?_
        refine va_getN (D := G) (ci := 2) (v := .int v_t_atHand_cycle) (C := R_Plan) (T := F_Plan) (N := 5) hx hb hts i_Plan hown hK hP 5 rfl rfl 1 (by decide) (va_Nw.use rfl (hN.1 _ lk_234)) (fun _ h9 => h9) rfl d_WO_width_41 ?_
        refine lv_i2l hx hb d_WO_width_44 rfl ?_
        refine lv_iload_n hx hb d_WO_width_45 rfl (lv_at hl 2 rfl) ?_
        obtain ⟨r46_8, hC, hF⟩ := dk_b hF
        refine dk_pure (va_runS (As := [.long r33_7.toInt64, .long v_t_atHand_cycle.toInt64, .int x2]) (rest := []) hfix (c_WO_leastTerms l G K n r33_7.toInt64 v_t_atHand_cycle.toInt64 x2 r46_8 hC) (va_cwS 3 hts (gd_S lk_291 lk_293 lk_16 lk_292) rfl rfl rfl (by decide +kernel) ⟨Nat.le_of_ble_eq_true rfl, Nat.le_of_ble_eq_true rfl⟩) (dk_preS hK hN (hP.sub [] rfl)) rfl rfl hl.1 rfl (lv_room (Nat.le_of_ble_eq_true rfl)) d_WO_width_46 ⟨Nat.le_of_ble_eq_true rfl, Nat.le_of_ble_eq_true rfl⟩) ?_
        obtain rfl := Option.some.inj hF
        exact W.lret (v := r46_8) hx hb hr (fun t ht hW => ⟨rfl, ht⟩) (fun _ h => by cases h) d_WO_width_49
      · have hF := dk_t c24_6 hF
        refine lv_ldc2 (own := R_WO) (index := 126) (v := ((-1) : Int64)) hx hb hown (hts _ lk_17) d_WO_width_27 ?_
        obtain rfl := Option.some.inj hF
        exact W.lret (v := ((-1) : Int64)) hx hb hr (fun t ht hW => ⟨rfl, ht⟩) (fun _ h => by cases h) d_WO_width_30
def p_WO_stops (n : Nat) (x1 : Int32) (v_t_atHand_cycle : Int32) (v_t_road_size : Int32) (v_t_atHand_offsets : Nat → Int32) (v_t_road_queues : Nat → Int32) (v_t_road_seconds : Nat → Int32) (v_t_road_greens : Nat → Int32) (v_t_road_weights : Nat → Int32) : Option (Int64) :=
  (p_WO_isPart n x1).bind fun r1_1 =>
  if r1_1 = 0 then
    some ((-1) : Int64)
  else
    (p_Plan_isMade n v_t_atHand_cycle).bind fun r11_3 =>
    if r11_3 = 0 then
      some ((-1) : Int64)
    else
      (p_WO_allStops n v_t_road_size v_t_atHand_offsets v_t_atHand_cycle v_t_road_queues v_t_road_seconds v_t_road_greens v_t_road_weights).bind fun r22_5 =>
      (p_WO_leastTerms n r22_5 v_t_atHand_cycle.toInt64 x1).bind fun r34_6 =>
      some r34_6
abbrev m_WO_stops : Room := { frames := 5, cells := 0, slots := 0, locals := 118 }
set_option maxHeartbeats 4000000 in
set_option maxRecDepth 100000 in
theorem c_WO_stops (l : Launch) (G : va_G) (K : Nat → ClassId) (n : Nat) (t : Nat) (t_road : Nat) (t_search : Nat) (t_atHand : Nat) (t_timetable : Nat) (t_arrivals : Nat) (t_road_greens : Nat) (t_road_leasts : Nat) (t_road_queues : Nat) (t_road_seconds : Nat) (t_road_weights : Nat) (t_atHand_offsets : Nat) (x1 : Int32) (v_t_road_size : Int32) (v_t_road_firstCycle : Int32) (v_t_road_lastCycle : Int32) (v_t_road_cycleBy : Int32) (v_t_road_stepSeconds : Int32) (v_t_road_greens : Nat → Int32) (v_t_road_queues : Nat → Int32) (v_t_road_seconds : Nat → Int32) (v_t_road_weights : Nat → Int32) (v_t_atHand_cycle : Int32) (v_t_atHand_size : Int32) (v_t_atHand_aim : Int32) (v_t_atHand_sawAll : Int32) (v_t_atHand_offsets : Nat → Int32) (o : Int64) (hF : p_WO_stops n x1 v_t_atHand_cycle v_t_road_size v_t_atHand_offsets v_t_road_queues v_t_road_seconds v_t_road_greens v_t_road_weights = some o) :
    Met l y_WO_stops (wd y_WO_stops b_WO_stops 2 (some .long)) m_WO_stops (dk_Pp [.ref t, .int x1] G K [(t, .inr (0, [.ref t_road, .ref t_search, .ref t_atHand, .ref t_timetable, .ref t_arrivals])), (t_road, .inr (1, [.ref t_road_greens, .ref t_road_leasts, .ref t_road_queues, .ref t_road_seconds, .ref t_road_weights, .int v_t_road_size, .int v_t_road_firstCycle, .int v_t_road_lastCycle, .int v_t_road_cycleBy, .int v_t_road_stepSeconds])), (t_road_greens, .inl (K 0, 5, .inl v_t_road_greens)), (t_road_queues, .inl (K 0, 5, .inl v_t_road_queues)), (t_road_seconds, .inl (K 0, 10, .inl v_t_road_seconds)), (t_road_weights, .inl (K 0, 10, .inl v_t_road_weights)), (t_atHand, .inr (2, [.ref t_atHand_offsets, .int v_t_atHand_cycle, .int v_t_atHand_size, .int v_t_atHand_aim, .int v_t_atHand_sawAll])), (t_atHand_offsets, .inl (K 0, 5, .inl v_t_atHand_offsets))]) (dk_Qp (some (.long o))) 0 0 (fun _ => False) := by
  refine Met.ofW (cc := b_WO_stops) (maxL := 2) (ret := (some .long)) (by decide) rfl ?_
  intro p e s m args below meth c s₁ B hml hv
  obtain ⟨rfl, hP, hK, hN⟩ := hv
  have hx := B.exec
  have hb := B.bytes
  have hr := B.returns
  have hts : ∀ w ∈ lw_good, w.before _ s = true := fun w h => atoms_spec (ws := wd y_WO_stops b_WO_stops 2 (some .long)) B.pre w (List.mem_cons_of_mem _ h)
  have hown : s.vm.findClass R_WO = some m.cls := findClass_of_methodNamed B.named
  have hlocks := B.notSynchronized
  have hfix : CallFix p m c b_WO_stops 2 s _ lw_good R_WO := ⟨hx, hb, hml, hown, hts⟩
  have hl := lv_entry ([.ref t, .int x1]) (n := 2) (Nat.le_of_ble_eq_true rfl)
  rw [lg_entry_eq]
  generalize (lg_sl ([.ref t, .int x1]) ++ List.replicate (2 - (lg_sl ([.ref t, .int x1])).length) Slot.unset).toArray = ls at hl ⊢
  have hl : lv_has ls 2 [(0, .ref t), (1, .int x1)] := hl
  change W p l e m_WO_stops s m _ below meth c s.heap [] 0 0 _ _
  unfold p_WO_stops at hF
  refine lv_iload_n hx hb d_WO_stops_0 rfl (lv_at hl 1 rfl) ?_
  obtain ⟨r1_1, hC, hF⟩ := dk_b hF
  refine dk_pure (va_runS (As := [.int x1]) (rest := []) hfix (c_WO_isPart l G K n x1 r1_1 hC) (va_cwS 1 hts (gd_S lk_283 lk_285 lk_16 lk_284) rfl rfl rfl (by decide +kernel) ⟨Nat.le_of_ble_eq_true rfl, Nat.le_of_ble_eq_true rfl⟩) (dk_preS hK hN (hP.sub [] rfl)) rfl rfl hl.1 rfl (lv_room (Nat.le_of_ble_eq_true rfl)) d_WO_stops_1 ⟨Nat.le_of_ble_eq_true rfl, Nat.le_of_ble_eq_true rfl⟩) ?_
  refine lv_if_eq (tgt := 17) hx hb d_WO_stops_4 (by decide) (fun c4_2 => ?_) (fun c4_2 => ?_)
  · have hF := dk_t c4_2 hF
    refine lv_ldc2 (own := R_WO) (index := 126) (v := ((-1) : Int64)) hx hb hown (hts _ lk_17) d_WO_stops_17 ?_
    obtain rfl := Option.some.inj hF
    exact W.lret (v := ((-1) : Int64)) hx hb hr (fun t ht hW => ⟨rfl, ht⟩) (fun _ h => by cases h) d_WO_stops_20
  · have hF := dk_f c4_2 hF
    refine lv_aload_n hx hb d_WO_stops_7 rfl (lv_at hl 0 rfl) ?_
    refine va_get (D := G) (ci := 0) (v := .ref t_atHand) (C := R_WO) (T := F_WO) (N := 5) hx hb hts i_WO hown hK hP 0 rfl rfl 2 (by decide) (hts _ lk_230) (fun _ h9 => h9) rfl d_WO_stops_8 ?_
    obtain ⟨r11_3, hC, hF⟩ := dk_b hF
    refine dk_pure (va_runV (As := []) (rest := []) hfix (c_Plan_isMade l G K n t_atHand t_atHand_offsets v_t_atHand_cycle v_t_atHand_size v_t_atHand_aim v_t_atHand_sawAll r11_3 hC) (cwV 0 hts (gd_V lk_231 lk_162 lk_163 lk_94 lk_161) rfl rfl rfl (by decide +kernel) ⟨Nat.le_of_ble_eq_true rfl, Nat.le_of_ble_eq_true rfl⟩) (dk_preV hK hN (hP.sub [6] rfl) (va_recv hK hP (ci := 2) (q0 := 6) rfl rfl)) rfl rfl hl.1 rfl (lv_room (Nat.le_of_ble_eq_true rfl)) d_WO_stops_11 ⟨Nat.le_of_ble_eq_true rfl, Nat.le_of_ble_eq_true rfl⟩) ?_
    refine lv_if_ne (tgt := 21) hx hb d_WO_stops_14 (by decide) (fun c14_4 => ?_) (fun c14_4 => ?_)
    · have hF := dk_f c14_4 hF
      refine lv_aload_n hx hb d_WO_stops_21 rfl (lv_at hl 0 rfl) ?_
      obtain ⟨r22_5, hC, hF⟩ := dk_b hF
      refine dk_pure (va_runV (As := []) (rest := []) hfix (c_WO_allStops l G K n t t_road t_search t_atHand t_timetable t_arrivals t_road_greens t_road_leasts t_road_queues t_road_seconds t_road_weights t_atHand_offsets v_t_road_size v_t_road_firstCycle v_t_road_lastCycle v_t_road_cycleBy v_t_road_stepSeconds v_t_road_greens v_t_road_queues v_t_road_seconds v_t_road_weights v_t_atHand_cycle v_t_atHand_size v_t_atHand_aim v_t_atHand_sawAll v_t_atHand_offsets r22_5 hC) (cwV 0 hts (gd_V lk_304 lk_306 lk_307 lk_16 lk_305) rfl rfl rfl (by decide +kernel) ⟨Nat.le_of_ble_eq_true rfl, Nat.le_of_ble_eq_true rfl⟩) (dk_preV hK hN (hP.sub [0, 1, 2, 3, 4, 5, 6, 7] rfl) (va_recv hK hP (ci := 0) (q0 := 0) rfl rfl)) rfl rfl hl.1 rfl (lv_room (Nat.le_of_ble_eq_true rfl)) d_WO_stops_22 ⟨Nat.le_of_ble_eq_true rfl, Nat.le_of_ble_eq_true rfl⟩) ?_
      refine lv_aload_n hx hb d_WO_stops_25 rfl (lv_at hl 0 rfl) ?_
      refine va_get (D := G) (ci := 0) (v := .ref t_atHand) (C := R_WO) (T := F_WO) (N := 5) hx hb hts i_WO hown hK hP 0 rfl rfl 2 (by decide) (hts _ lk_230) (fun _ h9 => h9) rfl d_WO_stops_26 ?_
      refine va_getN (D := G) (ci := 2) (v := .int v_t_atHand_cycle) (C := R_Plan) (T := F_Plan) (N := 5) hx hb hts i_Plan hown hK hP 6 rfl rfl 1 (by decide) (va_Nw.use rfl (hN.1 _ lk_234)) (fun _ h9 => h9) rfl d_WO_stops_29 ?_
      refine lv_i2l hx hb d_WO_stops_32 rfl ?_
      refine lv_iload_n hx hb d_WO_stops_33 rfl (lv_at hl 1 rfl) ?_
      obtain ⟨r34_6, hC, hF⟩ := dk_b hF
      refine dk_pure (va_runS (As := [.long r22_5, .long v_t_atHand_cycle.toInt64, .int x1]) (rest := []) hfix (c_WO_leastTerms l G K n r22_5 v_t_atHand_cycle.toInt64 x1 r34_6 hC) (va_cwS 3 hts (gd_S lk_291 lk_293 lk_16 lk_292) rfl rfl rfl (by decide +kernel) ⟨Nat.le_of_ble_eq_true rfl, Nat.le_of_ble_eq_true rfl⟩) (dk_preS hK hN (hP.sub [] rfl)) rfl rfl hl.1 rfl (lv_room (Nat.le_of_ble_eq_true rfl)) d_WO_stops_34 ⟨Nat.le_of_ble_eq_true rfl, Nat.le_of_ble_eq_true rfl⟩) ?_
      obtain rfl := Option.some.inj hF
      exact W.lret (v := r34_6) hx hb hr (fun t ht hW => ⟨rfl, ht⟩) (fun _ h => by cases h) d_WO_stops_37
    · have hF := dk_t c14_4 hF
      refine lv_ldc2 (own := R_WO) (index := 126) (v := ((-1) : Int64)) hx hb hown (hts _ lk_17) d_WO_stops_17 ?_
      obtain rfl := Option.some.inj hF
      exact W.lret (v := ((-1) : Int64)) hx hb hr (fun t ht hW => ⟨rfl, ht⟩) (fun _ h => by cases h) d_WO_stops_20
def p_WO_arrive (n : Nat) (x1 : Int32) (x2 : Int32) (x3 : Int32) (x4 : Int32) (v_t_road_size : Int32) (v_t_arrivals_size : Int32) (v_t_arrivals_crossings : Nat → Int32) (v_t_arrivals_seconds : Nat → Int32) (v_t_arrivals_cars : Nat → Int32) : Option (Int32 × Int32 × (Nat → Int32) × (Nat → Int32) × (Nat → Int32)) :=
  (p_Road_has n x1 v_t_road_size).bind fun r5_1 =>
  if r5_1 = 0 then
    some ((0 : Int32), v_t_arrivals_size, v_t_arrivals_crossings, v_t_arrivals_seconds, v_t_arrivals_cars)
  else
    (p_WO_within n x2.toInt64 (0 : Int64) (1 : Int64)).bind fun r15_3 =>
    if r15_3 = 0 then
      some ((0 : Int32), v_t_arrivals_size, v_t_arrivals_crossings, v_t_arrivals_seconds, v_t_arrivals_cars)
    else
      (p_WO_within n x3.toInt64 (0 : Int64) (10000 : Int64)).bind fun r27_5 =>
      if r27_5 = 0 then
        some ((0 : Int32), v_t_arrivals_size, v_t_arrivals_crossings, v_t_arrivals_seconds, v_t_arrivals_cars)
      else
        (p_WO_within n x4.toInt64 (1 : Int64) (1000 : Int64)).bind fun r40_7 =>
        if r40_7 = 0 then
          some ((0 : Int32), v_t_arrivals_size, v_t_arrivals_crossings, v_t_arrivals_seconds, v_t_arrivals_cars)
        else
          if x2 = 0 then
            (p_Road_has n (x1 + (1 : Int32)) v_t_road_size).bind fun r69_14 =>
            if r69_14 = 0 then
              some ((0 : Int32), v_t_arrivals_size, v_t_arrivals_crossings, v_t_arrivals_seconds, v_t_arrivals_cars)
            else
              (p_Arr_add n (x1 + (1 : Int32)) x3 x4 v_t_arrivals_size v_t_arrivals_crossings v_t_arrivals_seconds v_t_arrivals_cars).bind fun r84_16 =>
              if r84_16.1 = 0 then
                some ((0 : Int32), r84_16.2.1, r84_16.2.2.1, r84_16.2.2.2.1, r84_16.2.2.2.2)
              else
                some ((1 : Int32), r84_16.2.1, r84_16.2.2.1, r84_16.2.2.2.1, r84_16.2.2.2.2)
          else
            (p_Road_has n (x1 - (1 : Int32)) v_t_road_size).bind fun r69_10 =>
            if r69_10 = 0 then
              some ((0 : Int32), v_t_arrivals_size, v_t_arrivals_crossings, v_t_arrivals_seconds, v_t_arrivals_cars)
            else
              (p_Arr_add n (x1 - (1 : Int32)) x3 x4 v_t_arrivals_size v_t_arrivals_crossings v_t_arrivals_seconds v_t_arrivals_cars).bind fun r84_12 =>
              if r84_12.1 = 0 then
                some ((0 : Int32), r84_12.2.1, r84_12.2.2.1, r84_12.2.2.2.1, r84_12.2.2.2.2)
              else
                some ((1 : Int32), r84_12.2.1, r84_12.2.2.1, r84_12.2.2.2.1, r84_12.2.2.2.2)
abbrev m_WO_arrive : Room := { frames := 1, cells := 0, slots := 0, locals := 25 }
set_option maxHeartbeats 4000000 in
set_option maxRecDepth 100000 in
theorem c_WO_arrive (l : Launch) (G : va_G) (K : Nat → ClassId) (n : Nat) (sz : Nat) (t : Nat) (t_road : Nat) (t_search : Nat) (t_atHand : Nat) (t_timetable : Nat) (t_arrivals : Nat) (t_road_greens : Nat) (t_road_leasts : Nat) (t_road_queues : Nat) (t_road_seconds : Nat) (t_road_weights : Nat) (t_arrivals_crossings : Nat) (t_arrivals_seconds : Nat) (t_arrivals_cars : Nat) (x1 : Int32) (x2 : Int32) (x3 : Int32) (x4 : Int32) (v_t_road_size : Int32) (v_t_road_firstCycle : Int32) (v_t_road_lastCycle : Int32) (v_t_road_cycleBy : Int32) (v_t_road_stepSeconds : Int32) (v_t_arrivals_size : Int32) (v_t_arrivals_crossings : Nat → Int32) (v_t_arrivals_seconds : Nat → Int32) (v_t_arrivals_cars : Nat → Int32) (o : Int32 × Int32 × (Nat → Int32) × (Nat → Int32) × (Nat → Int32)) (hF : p_WO_arrive n x1 x2 x3 x4 v_t_road_size v_t_arrivals_size v_t_arrivals_crossings v_t_arrivals_seconds v_t_arrivals_cars = some o) :
    Met l y_WO_arrive (wd y_WO_arrive b_WO_arrive 6 (some .boolean)) m_WO_arrive (dk_Pm [.ref t, .int x1, .int x2, .int x3, .int x4] G K [(t, .inr (0, [.ref t_road, .ref t_search, .ref t_atHand, .ref t_timetable, .ref t_arrivals])), (t_road, .inr (1, [.ref t_road_greens, .ref t_road_leasts, .ref t_road_queues, .ref t_road_seconds, .ref t_road_weights, .int v_t_road_size, .int v_t_road_firstCycle, .int v_t_road_lastCycle, .int v_t_road_cycleBy, .int v_t_road_stepSeconds])), (t_arrivals, .inr (7, [.ref t_arrivals_crossings, .ref t_arrivals_seconds, .ref t_arrivals_cars, .int v_t_arrivals_size])), (t_arrivals_crossings, .inl (K 0, 40, .inl v_t_arrivals_crossings)), (t_arrivals_seconds, .inl (K 0, 40, .inl v_t_arrivals_seconds)), (t_arrivals_cars, .inl (K 0, 40, .inl v_t_arrivals_cars))] sz) (dk_Qm (some (.int o.1)) G (fun _ : Unit => [(t, .inr (0, [.ref t_road, .ref t_search, .ref t_atHand, .ref t_timetable, .ref t_arrivals])), (t_road, .inr (1, [.ref t_road_greens, .ref t_road_leasts, .ref t_road_queues, .ref t_road_seconds, .ref t_road_weights, .int v_t_road_size, .int v_t_road_firstCycle, .int v_t_road_lastCycle, .int v_t_road_cycleBy, .int v_t_road_stepSeconds])), (t_arrivals, .inr (7, [.ref t_arrivals_crossings, .ref t_arrivals_seconds, .ref t_arrivals_cars, .int o.2.1])), (t_arrivals_crossings, .inl (K 0, 40, .inl o.2.2.1)), (t_arrivals_seconds, .inl (K 0, 40, .inl o.2.2.2.1)), (t_arrivals_cars, .inl (K 0, 40, .inl o.2.2.2.2))]) (va_A [(t, .inr (0, [.ref t_road, .ref t_search, .ref t_atHand, .ref t_timetable, .ref t_arrivals])), (t_road, .inr (1, [.ref t_road_greens, .ref t_road_leasts, .ref t_road_queues, .ref t_road_seconds, .ref t_road_weights, .int v_t_road_size, .int v_t_road_firstCycle, .int v_t_road_lastCycle, .int v_t_road_cycleBy, .int v_t_road_stepSeconds])), (t_arrivals, .inr (7, [.ref t_arrivals_crossings, .ref t_arrivals_seconds, .ref t_arrivals_cars, .int v_t_arrivals_size])), (t_arrivals_crossings, .inl (K 0, 40, .inl v_t_arrivals_crossings)), (t_arrivals_seconds, .inl (K 0, 40, .inl v_t_arrivals_seconds)), (t_arrivals_cars, .inl (K 0, 40, .inl v_t_arrivals_cars))] sz)) 0 0 (va_A [(t, .inr (0, [.ref t_road, .ref t_search, .ref t_atHand, .ref t_timetable, .ref t_arrivals])), (t_road, .inr (1, [.ref t_road_greens, .ref t_road_leasts, .ref t_road_queues, .ref t_road_seconds, .ref t_road_weights, .int v_t_road_size, .int v_t_road_firstCycle, .int v_t_road_lastCycle, .int v_t_road_cycleBy, .int v_t_road_stepSeconds])), (t_arrivals, .inr (7, [.ref t_arrivals_crossings, .ref t_arrivals_seconds, .ref t_arrivals_cars, .int v_t_arrivals_size])), (t_arrivals_crossings, .inl (K 0, 40, .inl v_t_arrivals_crossings)), (t_arrivals_seconds, .inl (K 0, 40, .inl v_t_arrivals_seconds)), (t_arrivals_cars, .inl (K 0, 40, .inl v_t_arrivals_cars))] sz) := by
  refine Met.ofW (cc := b_WO_arrive) (maxL := 6) (ret := (some .boolean)) (by decide) rfl ?_
  intro p e s m args below meth c s₁ B hml hv
  obtain ⟨rfl, hsz, hP, hK, hN, hD0⟩ := hv
  have hx := B.exec
  have hb := B.bytes
  have hr := B.returns
  have hts : ∀ w ∈ lw_good, w.before _ s = true := fun w h => atoms_spec (ws := wd y_WO_arrive b_WO_arrive 6 (some .boolean)) B.pre w (List.mem_cons_of_mem _ h)
  have hown : s.vm.findClass R_WO = some m.cls := findClass_of_methodNamed B.named
  have hlocks := B.notSynchronized
  have hfix : CallFix p m c b_WO_arrive 6 s _ lw_good R_WO := ⟨hx, hb, hml, hown, hts⟩
  subst hsz
  have hD := hD0.self (sz := s.heap.size)
  generalize hAe : va_A [(t, .inr (0, [.ref t_road, .ref t_search, .ref t_atHand, .ref t_timetable, .ref t_arrivals])), (t_road, .inr (1, [.ref t_road_greens, .ref t_road_leasts, .ref t_road_queues, .ref t_road_seconds, .ref t_road_weights, .int v_t_road_size, .int v_t_road_firstCycle, .int v_t_road_lastCycle, .int v_t_road_cycleBy, .int v_t_road_stepSeconds])), (t_arrivals, .inr (7, [.ref t_arrivals_crossings, .ref t_arrivals_seconds, .ref t_arrivals_cars, .int v_t_arrivals_size])), (t_arrivals_crossings, .inl (K 0, 40, .inl v_t_arrivals_crossings)), (t_arrivals_seconds, .inl (K 0, 40, .inl v_t_arrivals_seconds)), (t_arrivals_cars, .inl (K 0, 40, .inl v_t_arrivals_cars))] s.heap.size = A at hD ⊢
  have hA : ∀ q : Nat, s.heap.size ≤ q → A q := fun q h => by rw [← hAe]; exact Or.inr h
  have hS : va_S A s.heap s.heap [] := va_S.rf
  have hl := lv_entry ([.ref t, .int x1, .int x2, .int x3, .int x4]) (n := 6) (Nat.le_of_ble_eq_true rfl)
  rw [lg_entry_eq]
  generalize (lg_sl ([.ref t, .int x1, .int x2, .int x3, .int x4]) ++ List.replicate (6 - (lg_sl ([.ref t, .int x1, .int x2, .int x3, .int x4])).length) Slot.unset).toArray = ls at hl ⊢
  have hl : lv_has ls 6 [(0, .ref t), (1, .int x1), (2, .int x2), (3, .int x3), (4, .int x4)] := hl
  change W p l e m_WO_arrive s m _ below meth c s.heap [] 0 0 _ _
  unfold p_WO_arrive at hF
  refine lv_aload_n hx hb d_WO_arrive_0 rfl (lv_at hl 0 rfl) ?_
  refine va_get (D := G) (ci := 0) (v := .ref t_road) (C := R_WO) (T := F_WO) (N := 5) hx hb hts i_WO hown hK hP 0 rfl rfl 0 (by decide) (hts _ lk_228) (fun _ h9 => h9) rfl d_WO_arrive_1 ?_
  refine lv_iload_n hx hb d_WO_arrive_4 rfl (lv_at hl 1 rfl) ?_
  obtain ⟨r5_1, hC, hF⟩ := dk_b hF
  refine dk_pure (va_runV (As := [.int x1]) (rest := []) hfix (c_Road_has l G K n t_road t_road_greens t_road_leasts t_road_queues t_road_seconds t_road_weights x1 v_t_road_size v_t_road_firstCycle v_t_road_lastCycle v_t_road_cycleBy v_t_road_stepSeconds r5_1 hC) (cwV 1 hts (gd_V lk_229 lk_34 lk_35 lk_29 lk_33) rfl rfl rfl (by decide +kernel) ⟨Nat.le_of_ble_eq_true rfl, Nat.le_of_ble_eq_true rfl⟩) (dk_preV hK hN (hP.sub [1] rfl) (va_recv hK hP (ci := 1) (q0 := 1) rfl rfl)) rfl rfl hl.1 rfl (lv_room (Nat.le_of_ble_eq_true rfl)) d_WO_arrive_5 ⟨Nat.le_of_ble_eq_true rfl, Nat.le_of_ble_eq_true rfl⟩) ?_
  refine lv_if_eq (tgt := 46) hx hb d_WO_arrive_8 (by decide) (fun c8_2 => ?_) (fun c8_2 => ?_)
  · have hF := dk_t c8_2 hF
    refine lv_iconst (v := (0 : Int32)) hx hb d_WO_arrive_46 (by decide) ?_
    obtain rfl := Option.some.inj hF
    exact W.zret (v := (0 : Int32)) hx hb hr rfl (fun t ht hW => ⟨⟨(), rfl, by rw [ht]; exact hP, hD⟩, hS.F ht⟩) hS.2.2 d_WO_arrive_47
  · have hF := dk_f c8_2 hF
    refine lv_iload_n hx hb d_WO_arrive_11 rfl (lv_at hl 2 rfl) ?_
    refine lv_i2l hx hb d_WO_arrive_12 rfl ?_
    refine lv_lconst (v := (0 : Int64)) hx hb d_WO_arrive_13 (by decide) ?_
    refine lv_lconst (v := (1 : Int64)) hx hb d_WO_arrive_14 (by decide) ?_
    obtain ⟨r15_3, hC, hF⟩ := dk_b hF
    refine dk_pure (va_runS (As := [.long x2.toInt64, .long (0 : Int64), .long (1 : Int64)]) (rest := []) hfix (c_WO_within l G K n x2.toInt64 (0 : Int64) (1 : Int64) r15_3 hC) (va_cwS 3 hts (gd_S lk_242 lk_137 lk_16 lk_136) rfl rfl rfl (by decide +kernel) ⟨Nat.le_of_ble_eq_true rfl, Nat.le_of_ble_eq_true rfl⟩) (dk_preS hK hN (hP.sub [] rfl)) rfl rfl hl.1 rfl (lv_room (Nat.le_of_ble_eq_true rfl)) d_WO_arrive_15 ⟨Nat.le_of_ble_eq_true rfl, Nat.le_of_ble_eq_true rfl⟩) ?_
    refine lv_if_eq (tgt := 46) hx hb d_WO_arrive_18 (by decide) (fun c18_4 => ?_) (fun c18_4 => ?_)
    · have hF := dk_t c18_4 hF
      refine lv_iconst (v := (0 : Int32)) hx hb d_WO_arrive_46 (by decide) ?_
      obtain rfl := Option.some.inj hF
      exact W.zret (v := (0 : Int32)) hx hb hr rfl (fun t ht hW => ⟨⟨(), rfl, by rw [ht]; exact hP, hD⟩, hS.F ht⟩) hS.2.2 d_WO_arrive_47
    · have hF := dk_f c18_4 hF
      refine lv_iload_n hx hb d_WO_arrive_21 rfl (lv_at hl 3 rfl) ?_
      refine lv_i2l hx hb d_WO_arrive_22 rfl ?_
      refine lv_lconst (v := (0 : Int64)) hx hb d_WO_arrive_23 (by decide) ?_
      refine lv_ldc2 (own := R_WO) (index := 157) (v := (10000 : Int64)) hx hb hown (hts _ lk_308) d_WO_arrive_24 ?_
      obtain ⟨r27_5, hC, hF⟩ := dk_b hF
      refine dk_pure (va_runS (As := [.long x3.toInt64, .long (0 : Int64), .long (10000 : Int64)]) (rest := []) hfix (c_WO_within l G K n x3.toInt64 (0 : Int64) (10000 : Int64) r27_5 hC) (va_cwS 3 hts (gd_S lk_242 lk_137 lk_16 lk_136) rfl rfl rfl (by decide +kernel) ⟨Nat.le_of_ble_eq_true rfl, Nat.le_of_ble_eq_true rfl⟩) (dk_preS hK hN (hP.sub [] rfl)) rfl rfl hl.1 rfl (lv_room (Nat.le_of_ble_eq_true rfl)) d_WO_arrive_27 ⟨Nat.le_of_ble_eq_true rfl, Nat.le_of_ble_eq_true rfl⟩) ?_
      refine lv_if_eq (tgt := 46) hx hb d_WO_arrive_30 (by decide) (fun c30_6 => ?_) (fun c30_6 => ?_)
      · have hF := dk_t c30_6 hF
        refine lv_iconst (v := (0 : Int32)) hx hb d_WO_arrive_46 (by decide) ?_
        obtain rfl := Option.some.inj hF
        exact W.zret (v := (0 : Int32)) hx hb hr rfl (fun t ht hW => ⟨⟨(), rfl, by rw [ht]; exact hP, hD⟩, hS.F ht⟩) hS.2.2 d_WO_arrive_47
      · have hF := dk_f c30_6 hF
        refine lv_iload hx hb d_WO_arrive_33 (lv_at hl 4 rfl) ?_
        refine lv_i2l hx hb d_WO_arrive_35 rfl ?_
        refine lv_lconst (v := (1 : Int64)) hx hb d_WO_arrive_36 (by decide) ?_
        refine lv_ldc2 (own := R_WO) (index := 159) (v := (1000 : Int64)) hx hb hown (hts _ lk_309) d_WO_arrive_37 ?_
        obtain ⟨r40_7, hC, hF⟩ := dk_b hF
        refine dk_pure (va_runS (As := [.long x4.toInt64, .long (1 : Int64), .long (1000 : Int64)]) (rest := []) hfix (c_WO_within l G K n x4.toInt64 (1 : Int64) (1000 : Int64) r40_7 hC) (va_cwS 3 hts (gd_S lk_242 lk_137 lk_16 lk_136) rfl rfl rfl (by decide +kernel) ⟨Nat.le_of_ble_eq_true rfl, Nat.le_of_ble_eq_true rfl⟩) (dk_preS hK hN (hP.sub [] rfl)) rfl rfl hl.1 rfl (lv_room (Nat.le_of_ble_eq_true rfl)) d_WO_arrive_40 ⟨Nat.le_of_ble_eq_true rfl, Nat.le_of_ble_eq_true rfl⟩) ?_
        refine lv_if_ne (tgt := 48) hx hb d_WO_arrive_43 (by decide) (fun c43_8 => ?_) (fun c43_8 => ?_)
        · have hF := dk_f c43_8 hF
          refine lv_iload_n hx hb d_WO_arrive_48 rfl (lv_at hl 2 rfl) ?_
          refine lv_if_ne (tgt := 58) hx hb d_WO_arrive_49 (by decide) (fun c49_9 => ?_) (fun c49_9 => ?_)
          · have hF := dk_f c49_9 hF
            refine lv_iload_n hx hb d_WO_arrive_58 rfl (lv_at hl 1 rfl) ?_
            refine lv_iconst (v := (1 : Int32)) hx hb d_WO_arrive_59 (by decide) ?_
            refine lv_isub hx hb d_WO_arrive_60 ?_
            refine lv_istore (lv' := [(5, .int (x1 - (1 : Int32))), (0, .ref t), (1, .int x1), (2, .int x2), (3, .int x3), (4, .int x4)]) hx hb d_WO_arrive_61 hl (by decide) rfl (fun ls hl => ?_)
            refine lv_aload_n hx hb d_WO_arrive_63 rfl (lv_at hl 1 rfl) ?_
            refine va_get (D := G) (ci := 0) (v := .ref t_road) (C := R_WO) (T := F_WO) (N := 5) hx hb hts i_WO hown hK hP 0 rfl rfl 0 (by decide) (hts _ lk_228) (fun _ h9 => h9) rfl d_WO_arrive_64 ?_
            refine lv_iload hx hb d_WO_arrive_67 (lv_at hl 0 rfl) ?_
            obtain ⟨r69_10, hC, hF⟩ := dk_b hF
            refine dk_pure (va_runV (As := [.int (x1 - (1 : Int32))]) (rest := []) hfix (c_Road_has l G K n t_road t_road_greens t_road_leasts t_road_queues t_road_seconds t_road_weights (x1 - (1 : Int32)) v_t_road_size v_t_road_firstCycle v_t_road_lastCycle v_t_road_cycleBy v_t_road_stepSeconds r69_10 hC) (cwV 1 hts (gd_V lk_229 lk_34 lk_35 lk_29 lk_33) rfl rfl rfl (by decide +kernel) ⟨Nat.le_of_ble_eq_true rfl, Nat.le_of_ble_eq_true rfl⟩) (dk_preV hK hN (hP.sub [1] rfl) (va_recv hK hP (ci := 1) (q0 := 1) rfl rfl)) rfl rfl hl.1 rfl (lv_room (Nat.le_of_ble_eq_true rfl)) d_WO_arrive_69 ⟨Nat.le_of_ble_eq_true rfl, Nat.le_of_ble_eq_true rfl⟩) ?_
            refine lv_if_eq (tgt := 94) hx hb d_WO_arrive_72 (by decide) (fun c72_11 => ?_) (fun c72_11 => ?_)
            · have hF := dk_t c72_11 hF
              refine lv_iconst (v := (0 : Int32)) hx hb d_WO_arrive_94 (by decide) ?_
              obtain rfl := Option.some.inj hF
              exact W.zret (v := (0 : Int32)) hx hb hr rfl (fun t ht hW => ⟨⟨(), rfl, by rw [ht]; exact hP, hD⟩, hS.F ht⟩) hS.2.2 d_WO_arrive_95
            · have hF := dk_f c72_11 hF
              refine lv_aload_n hx hb d_WO_arrive_75 rfl (lv_at hl 1 rfl) ?_
              refine va_get (D := G) (ci := 0) (v := .ref t_arrivals) (C := R_WO) (T := F_WO) (N := 5) hx hb hts i_WO hown hK hP 0 rfl rfl 4 (by decide) (hts _ lk_310) (fun _ h9 => h9) rfl d_WO_arrive_76 ?_
              refine lv_iload hx hb d_WO_arrive_79 (lv_at hl 0 rfl) ?_
              refine lv_iload_n hx hb d_WO_arrive_81 rfl (lv_at hl 4 rfl) ?_
              refine lv_iload hx hb d_WO_arrive_82 (lv_at hl 5 rfl) ?_
              obtain ⟨r84_12, hC, hF⟩ := dk_b hF
              refine dk_mut (wr := [(t, .inr (0, [.ref t_road, .ref t_search, .ref t_atHand, .ref t_timetable, .ref t_arrivals])), (t_road, .inr (1, [.ref t_road_greens, .ref t_road_leasts, .ref t_road_queues, .ref t_road_seconds, .ref t_road_weights, .int v_t_road_size, .int v_t_road_firstCycle, .int v_t_road_lastCycle, .int v_t_road_cycleBy, .int v_t_road_stepSeconds]))]) (va_runV (As := [.int (x1 - (1 : Int32)), .int x3, .int x4]) (rest := []) hfix (c_Arr_add l G K n s.heap.size t_arrivals t_arrivals_crossings t_arrivals_seconds t_arrivals_cars (x1 - (1 : Int32)) x3 x4 v_t_arrivals_size v_t_arrivals_crossings v_t_arrivals_seconds v_t_arrivals_cars r84_12 hC) (cwV 3 hts (gd_V lk_311 lk_313 lk_314 lk_103 lk_312) rfl rfl rfl (by decide +kernel) ⟨Nat.le_of_ble_eq_true rfl, Nat.le_of_ble_eq_true rfl⟩) (dk_preVm hK hN (hP.sub [2, 3, 4, 5] rfl) (hD.sub [2, 3, 4, 5] (by decide) rfl) (va_recv hK hP (ci := 7) (q0 := 2) rfl rfl)) rfl rfl hl.1 rfl (lv_room (Nat.le_of_ble_eq_true rfl)) d_WO_arrive_84 ⟨Nat.le_of_ble_eq_true rfl, Nat.le_of_ble_eq_true rfl⟩) hS hA hP hD [2, 3, 4, 5] [0, 1] rfl rfl (by decide) (by decide) (fun _ H locs hP hD hS => ?_)
              have hP : va_P G classes [(t, .inr (0, [.ref t_road, .ref t_search, .ref t_atHand, .ref t_timetable, .ref t_arrivals])), (t_road, .inr (1, [.ref t_road_greens, .ref t_road_leasts, .ref t_road_queues, .ref t_road_seconds, .ref t_road_weights, .int v_t_road_size, .int v_t_road_firstCycle, .int v_t_road_lastCycle, .int v_t_road_cycleBy, .int v_t_road_stepSeconds])), (t_arrivals, .inr (7, [.ref t_arrivals_crossings, .ref t_arrivals_seconds, .ref t_arrivals_cars, .int r84_12.2.1])), (t_arrivals_crossings, .inl (K 0, 40, .inl r84_12.2.2.1)), (t_arrivals_seconds, .inl (K 0, 40, .inl r84_12.2.2.2.1)), (t_arrivals_cars, .inl (K 0, 40, .inl r84_12.2.2.2.2))] H := hP.sub [0, 1, 2, 3, 4, 5] rfl
              have hD : va_D A [(t, .inr (0, [.ref t_road, .ref t_search, .ref t_atHand, .ref t_timetable, .ref t_arrivals])), (t_road, .inr (1, [.ref t_road_greens, .ref t_road_leasts, .ref t_road_queues, .ref t_road_seconds, .ref t_road_weights, .int v_t_road_size, .int v_t_road_firstCycle, .int v_t_road_lastCycle, .int v_t_road_cycleBy, .int v_t_road_stepSeconds])), (t_arrivals, .inr (7, [.ref t_arrivals_crossings, .ref t_arrivals_seconds, .ref t_arrivals_cars, .int r84_12.2.1])), (t_arrivals_crossings, .inl (K 0, 40, .inl r84_12.2.2.1)), (t_arrivals_seconds, .inl (K 0, 40, .inl r84_12.2.2.2.1)), (t_arrivals_cars, .inl (K 0, 40, .inl r84_12.2.2.2.2))] := hD.sub [0, 1, 2, 3, 4, 5] (by decide) rfl
              refine lv_if_eq (tgt := 94) hx hb d_WO_arrive_87 (by decide) (fun c87_13 => ?_) (fun c87_13 => ?_)
              · have hF := dk_t c87_13 hF
                refine lv_iconst (v := (0 : Int32)) hx hb d_WO_arrive_94 (by decide) ?_
                obtain rfl := Option.some.inj hF
                exact W.zret (v := (0 : Int32)) hx hb hr rfl (fun t ht hW => ⟨⟨(), rfl, by rw [ht]; exact hP, hD⟩, hS.F ht⟩) hS.2.2 d_WO_arrive_95
              · have hF := dk_f c87_13 hF
                refine lv_iconst (v := (1 : Int32)) hx hb d_WO_arrive_90 (by decide) ?_
                refine lv_goto (tgt := 95) hx hb d_WO_arrive_91 (by decide) ?_
                obtain rfl := Option.some.inj hF
                exact W.zret (v := (1 : Int32)) hx hb hr rfl (fun t ht hW => ⟨⟨(), rfl, by rw [ht]; exact hP, hD⟩, hS.F ht⟩) hS.2.2 d_WO_arrive_95
          · have hF := dk_t c49_9 hF
            refine lv_iload_n hx hb d_WO_arrive_52 rfl (lv_at hl 1 rfl) ?_
            refine lv_iconst (v := (1 : Int32)) hx hb d_WO_arrive_53 (by decide) ?_
            refine lv_iadd hx hb d_WO_arrive_54 ?_
            refine lv_goto (tgt := 61) hx hb d_WO_arrive_55 (by decide) ?_
            refine lv_istore (lv' := [(5, .int (x1 + (1 : Int32))), (0, .ref t), (1, .int x1), (2, .int x2), (3, .int x3), (4, .int x4)]) hx hb d_WO_arrive_61 hl (by decide) rfl (fun ls hl => ?_)
            refine lv_aload_n hx hb d_WO_arrive_63 rfl (lv_at hl 1 rfl) ?_
            refine va_get (D := G) (ci := 0) (v := .ref t_road) (C := R_WO) (T := F_WO) (N := 5) hx hb hts i_WO hown hK hP 0 rfl rfl 0 (by decide) (hts _ lk_228) (fun _ h9 => h9) rfl d_WO_arrive_64 ?_
            refine lv_iload hx hb d_WO_arrive_67 (lv_at hl 0 rfl) ?_
            obtain ⟨r69_14, hC, hF⟩ := dk_b hF
            refine dk_pure (va_runV (As := [.int (x1 + (1 : Int32))]) (rest := []) hfix (c_Road_has l G K n t_road t_road_greens t_road_leasts t_road_queues t_road_seconds t_road_weights (x1 + (1 : Int32)) v_t_road_size v_t_road_firstCycle v_t_road_lastCycle v_t_road_cycleBy v_t_road_stepSeconds r69_14 hC) (cwV 1 hts (gd_V lk_229 lk_34 lk_35 lk_29 lk_33) rfl rfl rfl (by decide +kernel) ⟨Nat.le_of_ble_eq_true rfl, Nat.le_of_ble_eq_true rfl⟩) (dk_preV hK hN (hP.sub [1] rfl) (va_recv hK hP (ci := 1) (q0 := 1) rfl rfl)) rfl rfl hl.1 rfl (lv_room (Nat.le_of_ble_eq_true rfl)) d_WO_arrive_69 ⟨Nat.le_of_ble_eq_true rfl, Nat.le_of_ble_eq_true rfl⟩) ?_
            refine lv_if_eq (tgt := 94) hx hb d_WO_arrive_72 (by decide) (fun c72_15 => ?_) (fun c72_15 => ?_)
            · have hF := dk_t c72_15 hF
              refine lv_iconst (v := (0 : Int32)) hx hb d_WO_arrive_94 (by decide) ?_
              obtain rfl := Option.some.inj hF
              exact W.zret (v := (0 : Int32)) hx hb hr rfl (fun t ht hW => ⟨⟨(), rfl, by rw [ht]; exact hP, hD⟩, hS.F ht⟩) hS.2.2 d_WO_arrive_95
            · have hF := dk_f c72_15 hF
              refine lv_aload_n hx hb d_WO_arrive_75 rfl (lv_at hl 1 rfl) ?_
              refine va_get (D := G) (ci := 0) (v := .ref t_arrivals) (C := R_WO) (T := F_WO) (N := 5) hx hb hts i_WO hown hK hP 0 rfl rfl 4 (by decide) (hts _ lk_310) (fun _ h9 => h9) rfl d_WO_arrive_76 ?_
              refine lv_iload hx hb d_WO_arrive_79 (lv_at hl 0 rfl) ?_
              refine lv_iload_n hx hb d_WO_arrive_81 rfl (lv_at hl 4 rfl) ?_
              refine lv_iload hx hb d_WO_arrive_82 (lv_at hl 5 rfl) ?_
              obtain ⟨r84_16, hC, hF⟩ := dk_b hF
              refine dk_mut (wr := [(t, .inr (0, [.ref t_road, .ref t_search, .ref t_atHand, .ref t_timetable, .ref t_arrivals])), (t_road, .inr (1, [.ref t_road_greens, .ref t_road_leasts, .ref t_road_queues, .ref t_road_seconds, .ref t_road_weights, .int v_t_road_size, .int v_t_road_firstCycle, .int v_t_road_lastCycle, .int v_t_road_cycleBy, .int v_t_road_stepSeconds]))]) (va_runV (As := [.int (x1 + (1 : Int32)), .int x3, .int x4]) (rest := []) hfix (c_Arr_add l G K n s.heap.size t_arrivals t_arrivals_crossings t_arrivals_seconds t_arrivals_cars (x1 + (1 : Int32)) x3 x4 v_t_arrivals_size v_t_arrivals_crossings v_t_arrivals_seconds v_t_arrivals_cars r84_16 hC) (cwV 3 hts (gd_V lk_311 lk_313 lk_314 lk_103 lk_312) rfl rfl rfl (by decide +kernel) ⟨Nat.le_of_ble_eq_true rfl, Nat.le_of_ble_eq_true rfl⟩) (dk_preVm hK hN (hP.sub [2, 3, 4, 5] rfl) (hD.sub [2, 3, 4, 5] (by decide) rfl) (va_recv hK hP (ci := 7) (q0 := 2) rfl rfl)) rfl rfl hl.1 rfl (lv_room (Nat.le_of_ble_eq_true rfl)) d_WO_arrive_84 ⟨Nat.le_of_ble_eq_true rfl, Nat.le_of_ble_eq_true rfl⟩) hS hA hP hD [2, 3, 4, 5] [0, 1] rfl rfl (by decide) (by decide) (fun _ H locs hP hD hS => ?_)
              have hP : va_P G classes [(t, .inr (0, [.ref t_road, .ref t_search, .ref t_atHand, .ref t_timetable, .ref t_arrivals])), (t_road, .inr (1, [.ref t_road_greens, .ref t_road_leasts, .ref t_road_queues, .ref t_road_seconds, .ref t_road_weights, .int v_t_road_size, .int v_t_road_firstCycle, .int v_t_road_lastCycle, .int v_t_road_cycleBy, .int v_t_road_stepSeconds])), (t_arrivals, .inr (7, [.ref t_arrivals_crossings, .ref t_arrivals_seconds, .ref t_arrivals_cars, .int r84_16.2.1])), (t_arrivals_crossings, .inl (K 0, 40, .inl r84_16.2.2.1)), (t_arrivals_seconds, .inl (K 0, 40, .inl r84_16.2.2.2.1)), (t_arrivals_cars, .inl (K 0, 40, .inl r84_16.2.2.2.2))] H := hP.sub [0, 1, 2, 3, 4, 5] rfl
              have hD : va_D A [(t, .inr (0, [.ref t_road, .ref t_search, .ref t_atHand, .ref t_timetable, .ref t_arrivals])), (t_road, .inr (1, [.ref t_road_greens, .ref t_road_leasts, .ref t_road_queues, .ref t_road_seconds, .ref t_road_weights, .int v_t_road_size, .int v_t_road_firstCycle, .int v_t_road_lastCycle, .int v_t_road_cycleBy, .int v_t_road_stepSeconds])), (t_arrivals, .inr (7, [.ref t_arrivals_crossings, .ref t_arrivals_seconds, .ref t_arrivals_cars, .int r84_16.2.1])), (t_arrivals_crossings, .inl (K 0, 40, .inl r84_16.2.2.1)), (t_arrivals_seconds, .inl (K 0, 40, .inl r84_16.2.2.2.1)), (t_arrivals_cars, .inl (K 0, 40, .inl r84_16.2.2.2.2))] := hD.sub [0, 1, 2, 3, 4, 5] (by decide) rfl
              refine lv_if_eq (tgt := 94) hx hb d_WO_arrive_87 (by decide) (fun c87_17 => ?_) (fun c87_17 => ?_)
              · have hF := dk_t c87_17 hF
                refine lv_iconst (v := (0 : Int32)) hx hb d_WO_arrive_94 (by decide) ?_
                obtain rfl := Option.some.inj hF
                exact W.zret (v := (0 : Int32)) hx hb hr rfl (fun t ht hW => ⟨⟨(), rfl, by rw [ht]; exact hP, hD⟩, hS.F ht⟩) hS.2.2 d_WO_arrive_95
              · have hF := dk_f c87_17 hF
                refine lv_iconst (v := (1 : Int32)) hx hb d_WO_arrive_90 (by decide) ?_
                refine lv_goto (tgt := 95) hx hb d_WO_arrive_91 (by decide) ?_
                obtain rfl := Option.some.inj hF
                exact W.zret (v := (1 : Int32)) hx hb hr rfl (fun t ht hW => ⟨⟨(), rfl, by rw [ht]; exact hP, hD⟩, hS.F ht⟩) hS.2.2 d_WO_arrive_95
        · have hF := dk_t c43_8 hF
          refine lv_iconst (v := (0 : Int32)) hx hb d_WO_arrive_46 (by decide) ?_
          obtain rfl := Option.some.inj hF
          exact W.zret (v := (0 : Int32)) hx hb hr rfl (fun t ht hW => ⟨⟨(), rfl, by rw [ht]; exact hP, hD⟩, hS.F ht⟩) hS.2.2 d_WO_arrive_47
def p_WO_delay (n : Nat) (x1 : Int32) (v_t_atHand_cycle : Int32) (v_t_arrivals_size : Int32) (v_t_arrivals_crossings : Nat → Int32) (v_t_atHand_offsets : Nat → Int32) (v_t_road_size : Int32) (v_t_road_queues : Nat → Int32) (v_t_arrivals_seconds : Nat → Int32) (v_t_road_greens : Nat → Int32) (v_t_arrivals_cars : Nat → Int32) : Option (Int64) :=
  (p_WO_isPart n x1).bind fun r1_1 =>
  if r1_1 = 0 then
    some ((-1) : Int64)
  else
    (p_Plan_isMade n v_t_atHand_cycle).bind fun r11_3 =>
    if r11_3 = 0 then
      some ((-1) : Int64)
    else
      if x1 = 0 then
        (p_Arr_secondsWaited n v_t_arrivals_size v_t_arrivals_cars v_t_arrivals_crossings v_t_atHand_offsets v_t_road_size v_t_road_queues v_t_arrivals_seconds v_t_atHand_cycle v_t_road_greens).bind fun r37_7 =>
        some r37_7
      else
        (p_Arr_carsThrough n v_t_arrivals_size v_t_arrivals_crossings v_t_atHand_offsets v_t_road_size v_t_road_queues v_t_arrivals_seconds v_t_atHand_cycle v_t_road_greens v_t_arrivals_cars).bind fun r55_6 =>
        some r55_6
abbrev m_WO_delay : Room := { frames := 5, cells := 0, slots := 0, locals := 114 }
set_option maxHeartbeats 4000000 in
set_option maxRecDepth 100000 in
theorem c_WO_delay (l : Launch) (G : va_G) (K : Nat → ClassId) (n : Nat) (t : Nat) (t_road : Nat) (t_search : Nat) (t_atHand : Nat) (t_timetable : Nat) (t_arrivals : Nat) (t_road_greens : Nat) (t_road_leasts : Nat) (t_road_queues : Nat) (t_road_seconds : Nat) (t_road_weights : Nat) (t_atHand_offsets : Nat) (t_arrivals_crossings : Nat) (t_arrivals_seconds : Nat) (t_arrivals_cars : Nat) (x1 : Int32) (v_t_road_size : Int32) (v_t_road_firstCycle : Int32) (v_t_road_lastCycle : Int32) (v_t_road_cycleBy : Int32) (v_t_road_stepSeconds : Int32) (v_t_road_greens : Nat → Int32) (v_t_road_queues : Nat → Int32) (v_t_atHand_cycle : Int32) (v_t_atHand_size : Int32) (v_t_atHand_aim : Int32) (v_t_atHand_sawAll : Int32) (v_t_atHand_offsets : Nat → Int32) (v_t_arrivals_size : Int32) (v_t_arrivals_crossings : Nat → Int32) (v_t_arrivals_seconds : Nat → Int32) (v_t_arrivals_cars : Nat → Int32) (o : Int64) (hF : p_WO_delay n x1 v_t_atHand_cycle v_t_arrivals_size v_t_arrivals_crossings v_t_atHand_offsets v_t_road_size v_t_road_queues v_t_arrivals_seconds v_t_road_greens v_t_arrivals_cars = some o) :
    Met l y_WO_delay (wd y_WO_delay b_WO_delay 2 (some .long)) m_WO_delay (dk_Pp [.ref t, .int x1] G K [(t, .inr (0, [.ref t_road, .ref t_search, .ref t_atHand, .ref t_timetable, .ref t_arrivals])), (t_road, .inr (1, [.ref t_road_greens, .ref t_road_leasts, .ref t_road_queues, .ref t_road_seconds, .ref t_road_weights, .int v_t_road_size, .int v_t_road_firstCycle, .int v_t_road_lastCycle, .int v_t_road_cycleBy, .int v_t_road_stepSeconds])), (t_road_greens, .inl (K 0, 5, .inl v_t_road_greens)), (t_road_queues, .inl (K 0, 5, .inl v_t_road_queues)), (t_atHand, .inr (2, [.ref t_atHand_offsets, .int v_t_atHand_cycle, .int v_t_atHand_size, .int v_t_atHand_aim, .int v_t_atHand_sawAll])), (t_atHand_offsets, .inl (K 0, 5, .inl v_t_atHand_offsets)), (t_arrivals, .inr (7, [.ref t_arrivals_crossings, .ref t_arrivals_seconds, .ref t_arrivals_cars, .int v_t_arrivals_size])), (t_arrivals_crossings, .inl (K 0, 40, .inl v_t_arrivals_crossings)), (t_arrivals_seconds, .inl (K 0, 40, .inl v_t_arrivals_seconds)), (t_arrivals_cars, .inl (K 0, 40, .inl v_t_arrivals_cars))]) (dk_Qp (some (.long o))) 0 0 (fun _ => False) := by
  refine Met.ofW (cc := b_WO_delay) (maxL := 2) (ret := (some .long)) (by decide) rfl ?_
  intro p e s m args below meth c s₁ B hml hv
  obtain ⟨rfl, hP, hK, hN⟩ := hv
  have hx := B.exec
  have hb := B.bytes
  have hr := B.returns
  have hts : ∀ w ∈ lw_good, w.before _ s = true := fun w h => atoms_spec (ws := wd y_WO_delay b_WO_delay 2 (some .long)) B.pre w (List.mem_cons_of_mem _ h)
  have hown : s.vm.findClass R_WO = some m.cls := findClass_of_methodNamed B.named
  have hlocks := B.notSynchronized
  have hfix : CallFix p m c b_WO_delay 2 s _ lw_good R_WO := ⟨hx, hb, hml, hown, hts⟩
  have hl := lv_entry ([.ref t, .int x1]) (n := 2) (Nat.le_of_ble_eq_true rfl)
  rw [lg_entry_eq]
  generalize (lg_sl ([.ref t, .int x1]) ++ List.replicate (2 - (lg_sl ([.ref t, .int x1])).length) Slot.unset).toArray = ls at hl ⊢
  have hl : lv_has ls 2 [(0, .ref t), (1, .int x1)] := hl
  change W p l e m_WO_delay s m _ below meth c s.heap [] 0 0 _ _
  unfold p_WO_delay at hF
  refine lv_iload_n hx hb d_WO_delay_0 rfl (lv_at hl 1 rfl) ?_
  obtain ⟨r1_1, hC, hF⟩ := dk_b hF
  refine dk_pure (va_runS (As := [.int x1]) (rest := []) hfix (c_WO_isPart l G K n x1 r1_1 hC) (va_cwS 1 hts (gd_S lk_283 lk_285 lk_16 lk_284) rfl rfl rfl (by decide +kernel) ⟨Nat.le_of_ble_eq_true rfl, Nat.le_of_ble_eq_true rfl⟩) (dk_preS hK hN (hP.sub [] rfl)) rfl rfl hl.1 rfl (lv_room (Nat.le_of_ble_eq_true rfl)) d_WO_delay_1 ⟨Nat.le_of_ble_eq_true rfl, Nat.le_of_ble_eq_true rfl⟩) ?_
  refine lv_if_eq (tgt := 17) hx hb d_WO_delay_4 (by decide) (fun c4_2 => ?_) (fun c4_2 => ?_)
  · have hF := dk_t c4_2 hF
    refine lv_ldc2 (own := R_WO) (index := 126) (v := ((-1) : Int64)) hx hb hown (hts _ lk_17) d_WO_delay_17 ?_
    obtain rfl := Option.some.inj hF
    exact W.lret (v := ((-1) : Int64)) hx hb hr (fun t ht hW => ⟨rfl, ht⟩) (fun _ h => by cases h) d_WO_delay_20
  · have hF := dk_f c4_2 hF
    refine lv_aload_n hx hb d_WO_delay_7 rfl (lv_at hl 0 rfl) ?_
    refine va_get (D := G) (ci := 0) (v := .ref t_atHand) (C := R_WO) (T := F_WO) (N := 5) hx hb hts i_WO hown hK hP 0 rfl rfl 2 (by decide) (hts _ lk_230) (fun _ h9 => h9) rfl d_WO_delay_8 ?_
    obtain ⟨r11_3, hC, hF⟩ := dk_b hF
    refine dk_pure (va_runV (As := []) (rest := []) hfix (c_Plan_isMade l G K n t_atHand t_atHand_offsets v_t_atHand_cycle v_t_atHand_size v_t_atHand_aim v_t_atHand_sawAll r11_3 hC) (cwV 0 hts (gd_V lk_231 lk_162 lk_163 lk_94 lk_161) rfl rfl rfl (by decide +kernel) ⟨Nat.le_of_ble_eq_true rfl, Nat.le_of_ble_eq_true rfl⟩) (dk_preV hK hN (hP.sub [4] rfl) (va_recv hK hP (ci := 2) (q0 := 4) rfl rfl)) rfl rfl hl.1 rfl (lv_room (Nat.le_of_ble_eq_true rfl)) d_WO_delay_11 ⟨Nat.le_of_ble_eq_true rfl, Nat.le_of_ble_eq_true rfl⟩) ?_
    refine lv_if_ne (tgt := 21) hx hb d_WO_delay_14 (by decide) (fun c14_4 => ?_) (fun c14_4 => ?_)
    · have hF := dk_f c14_4 hF
      refine lv_iload_n hx hb d_WO_delay_21 rfl (lv_at hl 1 rfl) ?_
      refine lv_if_ne (tgt := 43) hx hb d_WO_delay_22 (by decide) (fun c22_5 => ?_) (fun c22_5 => ?_)
      · have hF := dk_f c22_5 hF
        refine lv_aload_n hx hb d_WO_delay_43 rfl (lv_at hl 0 rfl) ?_
        refine va_get (D := G) (ci := 0) (v := .ref t_arrivals) (C := R_WO) (T := F_WO) (N := 5) hx hb hts i_WO hown hK hP 0 rfl rfl 4 (by decide) (hts _ lk_310) (fun _ h9 => h9) rfl d_WO_delay_44 ?_
        refine lv_aload_n hx hb d_WO_delay_47 rfl (lv_at hl 0 rfl) ?_
        refine va_get (D := G) (ci := 0) (v := .ref t_road) (C := R_WO) (T := F_WO) (N := 5) hx hb hts i_WO hown hK hP 0 rfl rfl 0 (by decide) (hts _ lk_228) (fun _ h9 => h9) rfl d_WO_delay_48 ?_
        refine lv_aload_n hx hb d_WO_delay_51 rfl (lv_at hl 0 rfl) ?_
        refine va_get (D := G) (ci := 0) (v := .ref t_atHand) (C := R_WO) (T := F_WO) (N := 5) hx hb hts i_WO hown hK hP 0 rfl rfl 2 (by decide) (hts _ lk_230) (fun _ h9 => h9) rfl d_WO_delay_52 ?_
        obtain ⟨r55_6, hC, hF⟩ := dk_b hF
        refine dk_pure (va_runV (As := [.ref t_road, .ref t_atHand]) (rest := []) hfix (c_Arr_carsThrough l G K n t_arrivals t_arrivals_crossings t_arrivals_seconds t_arrivals_cars t_road t_road_greens t_road_leasts t_road_queues t_road_seconds t_road_weights t_atHand t_atHand_offsets v_t_arrivals_size v_t_arrivals_crossings v_t_arrivals_seconds v_t_arrivals_cars v_t_road_size v_t_road_firstCycle v_t_road_lastCycle v_t_road_cycleBy v_t_road_stepSeconds v_t_road_greens v_t_road_queues v_t_atHand_cycle v_t_atHand_size v_t_atHand_aim v_t_atHand_sawAll v_t_atHand_offsets r55_6 hC) (cwV 2 hts (gd_V lk_315 lk_317 lk_318 lk_103 lk_316) rfl rfl rfl (by decide +kernel) ⟨Nat.le_of_ble_eq_true rfl, Nat.le_of_ble_eq_true rfl⟩) (dk_preV hK hN (hP.sub [6, 7, 8, 9, 1, 2, 3, 4, 5] rfl) (va_recv hK hP (ci := 7) (q0 := 6) rfl rfl)) rfl rfl hl.1 rfl (lv_room (Nat.le_of_ble_eq_true rfl)) d_WO_delay_55 ⟨Nat.le_of_ble_eq_true rfl, Nat.le_of_ble_eq_true rfl⟩) ?_
        obtain rfl := Option.some.inj hF
        exact W.lret (v := r55_6) hx hb hr (fun t ht hW => ⟨rfl, ht⟩) (fun _ h => by cases h) d_WO_delay_58
      · have hF := dk_t c22_5 hF
        refine lv_aload_n hx hb d_WO_delay_25 rfl (lv_at hl 0 rfl) ?_
        refine va_get (D := G) (ci := 0) (v := .ref t_arrivals) (C := R_WO) (T := F_WO) (N := 5) hx hb hts i_WO hown hK hP 0 rfl rfl 4 (by decide) (hts _ lk_310) (fun _ h9 => h9) rfl d_WO_delay_26 ?_
        refine lv_aload_n hx hb d_WO_delay_29 rfl (lv_at hl 0 rfl) ?_
        refine va_get (D := G) (ci := 0) (v := .ref t_road) (C := R_WO) (T := F_WO) (N := 5) hx hb hts i_WO hown hK hP 0 rfl rfl 0 (by decide) (hts _ lk_228) (fun _ h9 => h9) rfl d_WO_delay_30 ?_
        refine lv_aload_n hx hb d_WO_delay_33 rfl (lv_at hl 0 rfl) ?_
        refine va_get (D := G) (ci := 0) (v := .ref t_atHand) (C := R_WO) (T := F_WO) (N := 5) hx hb hts i_WO hown hK hP 0 rfl rfl 2 (by decide) (hts _ lk_230) (fun _ h9 => h9) rfl d_WO_delay_34 ?_
        obtain ⟨r37_7, hC, hF⟩ := dk_b hF
        refine dk_pure (va_runV (As := [.ref t_road, .ref t_atHand]) (rest := []) hfix (c_Arr_secondsWaited l G K n t_arrivals t_arrivals_crossings t_arrivals_seconds t_arrivals_cars t_road t_road_greens t_road_leasts t_road_queues t_road_seconds t_road_weights t_atHand t_atHand_offsets v_t_arrivals_size v_t_arrivals_crossings v_t_arrivals_seconds v_t_arrivals_cars v_t_road_size v_t_road_firstCycle v_t_road_lastCycle v_t_road_cycleBy v_t_road_stepSeconds v_t_road_greens v_t_road_queues v_t_atHand_cycle v_t_atHand_size v_t_atHand_aim v_t_atHand_sawAll v_t_atHand_offsets r37_7 hC) (cwV 2 hts (gd_V lk_319 lk_321 lk_322 lk_103 lk_320) rfl rfl rfl (by decide +kernel) ⟨Nat.le_of_ble_eq_true rfl, Nat.le_of_ble_eq_true rfl⟩) (dk_preV hK hN (hP.sub [6, 7, 8, 9, 1, 2, 3, 4, 5] rfl) (va_recv hK hP (ci := 7) (q0 := 6) rfl rfl)) rfl rfl hl.1 rfl (lv_room (Nat.le_of_ble_eq_true rfl)) d_WO_delay_37 ⟨Nat.le_of_ble_eq_true rfl, Nat.le_of_ble_eq_true rfl⟩) ?_
        refine lv_goto (tgt := 58) hx hb d_WO_delay_40 (by decide) ?_
        obtain rfl := Option.some.inj hF
        exact W.lret (v := r37_7) hx hb hr (fun t ht hW => ⟨rfl, ht⟩) (fun _ h => by cases h) d_WO_delay_58
    · have hF := dk_t c14_4 hF
      refine lv_ldc2 (own := R_WO) (index := 126) (v := ((-1) : Int64)) hx hb hown (hts _ lk_17) d_WO_delay_17 ?_
      obtain rfl := Option.some.inj hF
      exact W.lret (v := ((-1) : Int64)) hx hb hr (fun t ht hW => ⟨rfl, ht⟩) (fun _ h => by cases h) d_WO_delay_20
def p_WO_command (n : Nat) (x1 : Int32) (x2 : Int32) (v_t_road_size : Int32) (v_t_atHand_cycle : Int32) (v_t_atHand_offsets : Nat → Int32) (v_t_road_greens : Nat → Int32) : Option (Int32) :=
  (p_WO_isPlanned n x1 v_t_road_size v_t_atHand_cycle).bind fun r2_1 =>
  if r2_1 = 0 then
    some ((-1) : Int32)
  else
    (p_WO_within n x2.toInt64 (0 : Int64) (10000 : Int64)).bind fun r14_3 =>
    if r14_3 = 0 then
      some ((-1) : Int32)
    else
      (p_Plan_offsetOf n x1 v_t_atHand_offsets).bind fun r27_5 =>
      if (x2 &&& (1 : Int32)) = 0 then
        some (r27_5 + ((x2 >>> ((1 : Int32) &&& 31)) * v_t_atHand_cycle))
      else
        (p_Road_greenOf n x1 v_t_road_size v_t_road_greens).bind fun r59_7 =>
        some ((r27_5 + ((x2 >>> ((1 : Int32) &&& 31)) * v_t_atHand_cycle)) + r59_7)
abbrev m_WO_command : Room := { frames := 2, cells := 0, slots := 0, locals := 42 }
set_option maxHeartbeats 4000000 in
set_option maxRecDepth 100000 in
theorem c_WO_command (l : Launch) (G : va_G) (K : Nat → ClassId) (n : Nat) (t : Nat) (t_road : Nat) (t_search : Nat) (t_atHand : Nat) (t_timetable : Nat) (t_arrivals : Nat) (t_road_greens : Nat) (t_road_leasts : Nat) (t_road_queues : Nat) (t_road_seconds : Nat) (t_road_weights : Nat) (t_atHand_offsets : Nat) (x1 : Int32) (x2 : Int32) (v_t_road_size : Int32) (v_t_road_firstCycle : Int32) (v_t_road_lastCycle : Int32) (v_t_road_cycleBy : Int32) (v_t_road_stepSeconds : Int32) (v_t_road_greens : Nat → Int32) (v_t_atHand_cycle : Int32) (v_t_atHand_size : Int32) (v_t_atHand_aim : Int32) (v_t_atHand_sawAll : Int32) (v_t_atHand_offsets : Nat → Int32) (o : Int32) (hF : p_WO_command n x1 x2 v_t_road_size v_t_atHand_cycle v_t_atHand_offsets v_t_road_greens = some o) :
    Met l y_WO_command (wd y_WO_command b_WO_command 4 (some .int)) m_WO_command (dk_Pp [.ref t, .int x1, .int x2] G K [(t, .inr (0, [.ref t_road, .ref t_search, .ref t_atHand, .ref t_timetable, .ref t_arrivals])), (t_road, .inr (1, [.ref t_road_greens, .ref t_road_leasts, .ref t_road_queues, .ref t_road_seconds, .ref t_road_weights, .int v_t_road_size, .int v_t_road_firstCycle, .int v_t_road_lastCycle, .int v_t_road_cycleBy, .int v_t_road_stepSeconds])), (t_road_greens, .inl (K 0, 5, .inl v_t_road_greens)), (t_atHand, .inr (2, [.ref t_atHand_offsets, .int v_t_atHand_cycle, .int v_t_atHand_size, .int v_t_atHand_aim, .int v_t_atHand_sawAll])), (t_atHand_offsets, .inl (K 0, 5, .inl v_t_atHand_offsets))]) (dk_Qp (some (.int o))) 0 0 (fun _ => False) := by
  refine Met.ofW (cc := b_WO_command) (maxL := 4) (ret := (some .int)) (by decide) rfl ?_
  intro p e s m args below meth c s₁ B hml hv
  obtain ⟨rfl, hP, hK, hN⟩ := hv
  have hx := B.exec
  have hb := B.bytes
  have hr := B.returns
  have hts : ∀ w ∈ lw_good, w.before _ s = true := fun w h => atoms_spec (ws := wd y_WO_command b_WO_command 4 (some .int)) B.pre w (List.mem_cons_of_mem _ h)
  have hown : s.vm.findClass R_WO = some m.cls := findClass_of_methodNamed B.named
  have hlocks := B.notSynchronized
  have hfix : CallFix p m c b_WO_command 4 s _ lw_good R_WO := ⟨hx, hb, hml, hown, hts⟩
  have hl := lv_entry ([.ref t, .int x1, .int x2]) (n := 4) (Nat.le_of_ble_eq_true rfl)
  rw [lg_entry_eq]
  generalize (lg_sl ([.ref t, .int x1, .int x2]) ++ List.replicate (4 - (lg_sl ([.ref t, .int x1, .int x2])).length) Slot.unset).toArray = ls at hl ⊢
  have hl : lv_has ls 4 [(0, .ref t), (1, .int x1), (2, .int x2)] := hl
  change W p l e m_WO_command s m _ below meth c s.heap [] 0 0 _ _
  unfold p_WO_command at hF
  refine lv_aload_n hx hb d_WO_command_0 rfl (lv_at hl 0 rfl) ?_
  refine lv_iload_n hx hb d_WO_command_1 rfl (lv_at hl 1 rfl) ?_
  obtain ⟨r2_1, hC, hF⟩ := dk_b hF
  refine dk_pure (va_runV (As := [.int x1]) (rest := []) hfix (c_WO_isPlanned l G K n t t_road t_search t_atHand t_timetable t_arrivals t_road_greens t_road_leasts t_road_queues t_road_seconds t_road_weights t_atHand_offsets x1 v_t_road_size v_t_road_firstCycle v_t_road_lastCycle v_t_road_cycleBy v_t_road_stepSeconds v_t_atHand_cycle v_t_atHand_size v_t_atHand_aim v_t_atHand_sawAll r2_1 hC) (cwV 1 hts (gd_V lk_294 lk_296 lk_297 lk_16 lk_295) rfl rfl rfl (by decide +kernel) ⟨Nat.le_of_ble_eq_true rfl, Nat.le_of_ble_eq_true rfl⟩) (dk_preV hK hN (hP.sub [0, 1, 3] rfl) (va_recv hK hP (ci := 0) (q0 := 0) rfl rfl)) rfl rfl hl.1 rfl (lv_room (Nat.le_of_ble_eq_true rfl)) d_WO_command_2 ⟨Nat.le_of_ble_eq_true rfl, Nat.le_of_ble_eq_true rfl⟩) ?_
  refine lv_if_eq (tgt := 20) hx hb d_WO_command_5 (by decide) (fun c5_2 => ?_) (fun c5_2 => ?_)
  · have hF := dk_t c5_2 hF
    refine lv_iconst (v := ((-1) : Int32)) hx hb d_WO_command_20 (by decide) ?_
    obtain rfl := Option.some.inj hF
    exact W.iret (v := ((-1) : Int32)) hx hb hr (fun t ht hW => ⟨rfl, ht⟩) (fun _ h => by cases h) d_WO_command_21
  · have hF := dk_f c5_2 hF
    refine lv_iload_n hx hb d_WO_command_8 rfl (lv_at hl 2 rfl) ?_
    refine lv_i2l hx hb d_WO_command_9 rfl ?_
    refine lv_lconst (v := (0 : Int64)) hx hb d_WO_command_10 (by decide) ?_
    refine lv_ldc2 (own := R_WO) (index := 157) (v := (10000 : Int64)) hx hb hown (hts _ lk_308) d_WO_command_11 ?_
    obtain ⟨r14_3, hC, hF⟩ := dk_b hF
    refine dk_pure (va_runS (As := [.long x2.toInt64, .long (0 : Int64), .long (10000 : Int64)]) (rest := []) hfix (c_WO_within l G K n x2.toInt64 (0 : Int64) (10000 : Int64) r14_3 hC) (va_cwS 3 hts (gd_S lk_242 lk_137 lk_16 lk_136) rfl rfl rfl (by decide +kernel) ⟨Nat.le_of_ble_eq_true rfl, Nat.le_of_ble_eq_true rfl⟩) (dk_preS hK hN (hP.sub [] rfl)) rfl rfl hl.1 rfl (lv_room (Nat.le_of_ble_eq_true rfl)) d_WO_command_14 ⟨Nat.le_of_ble_eq_true rfl, Nat.le_of_ble_eq_true rfl⟩) ?_
    refine lv_if_ne (tgt := 22) hx hb d_WO_command_17 (by decide) (fun c17_4 => ?_) (fun c17_4 => ?_)
    · have hF := dk_f c17_4 hF
      refine lv_aload_n hx hb d_WO_command_22 rfl (lv_at hl 0 rfl) ?_
      refine va_get (D := G) (ci := 0) (v := .ref t_atHand) (C := R_WO) (T := F_WO) (N := 5) hx hb hts i_WO hown hK hP 0 rfl rfl 2 (by decide) (hts _ lk_230) (fun _ h9 => h9) rfl d_WO_command_23 ?_
      refine lv_iload_n hx hb d_WO_command_26 rfl (lv_at hl 1 rfl) ?_
      obtain ⟨r27_5, hC, hF⟩ := dk_b hF
      refine dk_pure (va_runV (As := [.int x1]) (rest := []) hfix (c_Plan_offsetOf l G K n t_atHand t_atHand_offsets x1 v_t_atHand_cycle v_t_atHand_size v_t_atHand_aim v_t_atHand_sawAll v_t_atHand_offsets r27_5 hC) (cwV 1 hts (gd_V lk_233 lk_92 lk_93 lk_94 lk_91) rfl rfl rfl (by decide +kernel) ⟨Nat.le_of_ble_eq_true rfl, Nat.le_of_ble_eq_true rfl⟩) (dk_preV hK hN (hP.sub [3, 4] rfl) (va_recv hK hP (ci := 2) (q0 := 3) rfl rfl)) rfl rfl hl.1 rfl (lv_room (Nat.le_of_ble_eq_true rfl)) d_WO_command_27 ⟨Nat.le_of_ble_eq_true rfl, Nat.le_of_ble_eq_true rfl⟩) ?_
      refine lv_iload_n hx hb d_WO_command_30 rfl (lv_at hl 2 rfl) ?_
      refine lv_iconst (v := (1 : Int32)) hx hb d_WO_command_31 (by decide) ?_
      refine lv_ishr hx hb d_WO_command_32 ?_
      refine lv_aload_n hx hb d_WO_command_33 rfl (lv_at hl 0 rfl) ?_
      refine va_get (D := G) (ci := 0) (v := .ref t_atHand) (C := R_WO) (T := F_WO) (N := 5) hx hb hts i_WO hown hK hP 0 rfl rfl 2 (by decide) (hts _ lk_230) (fun _ h9 => h9) rfl d_WO_command_34 ?_
      refine va_getN (D := G) (ci := 2) (v := .int v_t_atHand_cycle) (C := R_Plan) (T := F_Plan) (N := 5) hx hb hts i_Plan hown hK hP 3 rfl rfl 1 (by decide) (va_Nw.use rfl (hN.1 _ lk_234)) (fun _ h9 => h9) rfl d_WO_command_37 ?_
      refine lv_imul hx hb d_WO_command_40 ?_
      refine lv_iadd hx hb d_WO_command_41 ?_
      refine lv_istore_n (lv' := [(3, .int (r27_5 + ((x2 >>> ((1 : Int32) &&& 31)) * v_t_atHand_cycle))), (0, .ref t), (1, .int x1), (2, .int x2)]) hx hb d_WO_command_42 rfl hl (by decide) rfl (fun ls hl => ?_)
      refine lv_iload_n hx hb d_WO_command_43 rfl (lv_at hl 3 rfl) ?_
      refine lv_iconst (v := (1 : Int32)) hx hb d_WO_command_44 (by decide) ?_
      refine lv_iand hx hb d_WO_command_45 ?_
      refine lv_if_ne (tgt := 53) hx hb d_WO_command_46 (by decide) (fun c46_6 => ?_) (fun c46_6 => ?_)
      · have hF := dk_f c46_6 hF
        refine lv_iload_n hx hb d_WO_command_53 rfl (lv_at hl 0 rfl) ?_
        refine lv_aload_n hx hb d_WO_command_54 rfl (lv_at hl 1 rfl) ?_
        refine va_get (D := G) (ci := 0) (v := .ref t_road) (C := R_WO) (T := F_WO) (N := 5) hx hb hts i_WO hown hK hP 0 rfl rfl 0 (by decide) (hts _ lk_228) (fun _ h9 => h9) rfl d_WO_command_55 ?_
        refine lv_iload_n hx hb d_WO_command_58 rfl (lv_at hl 2 rfl) ?_
        obtain ⟨r59_7, hC, hF⟩ := dk_b hF
        refine dk_pure (va_runV (As := [.int x1]) (rest := [.int (r27_5 + ((x2 >>> ((1 : Int32) &&& 31)) * v_t_atHand_cycle))]) hfix (c_Road_greenOf l G K n t_road t_road_greens t_road_leasts t_road_queues t_road_seconds t_road_weights x1 v_t_road_size v_t_road_firstCycle v_t_road_lastCycle v_t_road_cycleBy v_t_road_stepSeconds v_t_road_greens r59_7 hC) (cwV 1 hts (gd_V lk_267 lk_48 lk_49 lk_29 lk_47) rfl rfl rfl (by decide +kernel) ⟨Nat.le_of_ble_eq_true rfl, Nat.le_of_ble_eq_true rfl⟩) (dk_preV hK hN (hP.sub [1, 2] rfl) (va_recv hK hP (ci := 1) (q0 := 1) rfl rfl)) rfl rfl hl.1 rfl (lv_room (Nat.le_of_ble_eq_true rfl)) d_WO_command_59 ⟨Nat.le_of_ble_eq_true rfl, Nat.le_of_ble_eq_true rfl⟩) ?_
        refine lv_iadd hx hb d_WO_command_62 ?_
        obtain rfl := Option.some.inj hF
        exact W.iret (v := (r27_5 + ((x2 >>> ((1 : Int32) &&& 31)) * v_t_atHand_cycle)) + r59_7) hx hb hr (fun t ht hW => ⟨rfl, ht⟩) (fun _ h => by cases h) d_WO_command_63
      · have hF := dk_t c46_6 hF
        refine lv_iload_n hx hb d_WO_command_49 rfl (lv_at hl 0 rfl) ?_
        refine lv_goto (tgt := 63) hx hb d_WO_command_50 (by decide) ?_
        obtain rfl := Option.some.inj hF
        exact W.iret (v := r27_5 + ((x2 >>> ((1 : Int32) &&& 31)) * v_t_atHand_cycle)) hx hb hr (fun t ht hW => ⟨rfl, ht⟩) (fun _ h => by cases h) d_WO_command_63
    · have hF := dk_t c17_4 hF
      refine lv_iconst (v := ((-1) : Int32)) hx hb d_WO_command_20 (by decide) ?_
      obtain rfl := Option.some.inj hF
      exact W.iret (v := ((-1) : Int32)) hx hb hr (fun t ht hW => ⟨rfl, ht⟩) (fun _ h => by cases h) d_WO_command_21
def p_WO_fits (n : Nat) (x1 : Int32) (v_t_road_size : Int32) (v_t_atHand_cycle : Int32) (v_t_road_leasts : Nat → Int32) : Option (Int32) :=
  (p_WO_isPlanned n x1 v_t_road_size v_t_atHand_cycle).bind fun r2_1 =>
  if r2_1 = 0 then
    some (0 : Int32)
  else
    (p_Road_leastOf n x1 v_t_road_size v_t_road_leasts).bind fun r13_3 =>
    if v_t_atHand_cycle < r13_3 then
      some (0 : Int32)
    else
      some (1 : Int32)
abbrev m_WO_fits : Room := { frames := 2, cells := 0, slots := 0, locals := 42 }
set_option maxHeartbeats 4000000 in
set_option maxRecDepth 100000 in
theorem c_WO_fits (l : Launch) (G : va_G) (K : Nat → ClassId) (n : Nat) (t : Nat) (t_road : Nat) (t_search : Nat) (t_atHand : Nat) (t_timetable : Nat) (t_arrivals : Nat) (t_road_greens : Nat) (t_road_leasts : Nat) (t_road_queues : Nat) (t_road_seconds : Nat) (t_road_weights : Nat) (t_atHand_offsets : Nat) (x1 : Int32) (v_t_road_size : Int32) (v_t_road_firstCycle : Int32) (v_t_road_lastCycle : Int32) (v_t_road_cycleBy : Int32) (v_t_road_stepSeconds : Int32) (v_t_road_leasts : Nat → Int32) (v_t_atHand_cycle : Int32) (v_t_atHand_size : Int32) (v_t_atHand_aim : Int32) (v_t_atHand_sawAll : Int32) (o : Int32) (hF : p_WO_fits n x1 v_t_road_size v_t_atHand_cycle v_t_road_leasts = some o) :
    Met l y_WO_fits (wd y_WO_fits b_WO_fits 2 (some .boolean)) m_WO_fits (dk_Pp [.ref t, .int x1] G K [(t, .inr (0, [.ref t_road, .ref t_search, .ref t_atHand, .ref t_timetable, .ref t_arrivals])), (t_road, .inr (1, [.ref t_road_greens, .ref t_road_leasts, .ref t_road_queues, .ref t_road_seconds, .ref t_road_weights, .int v_t_road_size, .int v_t_road_firstCycle, .int v_t_road_lastCycle, .int v_t_road_cycleBy, .int v_t_road_stepSeconds])), (t_road_leasts, .inl (K 0, 5, .inl v_t_road_leasts)), (t_atHand, .inr (2, [.ref t_atHand_offsets, .int v_t_atHand_cycle, .int v_t_atHand_size, .int v_t_atHand_aim, .int v_t_atHand_sawAll]))]) (dk_Qp (some (.int o))) 0 0 (fun _ => False) := by
  refine Met.ofW (cc := b_WO_fits) (maxL := 2) (ret := (some .boolean)) (by decide) rfl ?_
  intro p e s m args below meth c s₁ B hml hv
  obtain ⟨rfl, hP, hK, hN⟩ := hv
  have hx := B.exec
  have hb := B.bytes
  have hr := B.returns
  have hts : ∀ w ∈ lw_good, w.before _ s = true := fun w h => atoms_spec (ws := wd y_WO_fits b_WO_fits 2 (some .boolean)) B.pre w (List.mem_cons_of_mem _ h)
  have hown : s.vm.findClass R_WO = some m.cls := findClass_of_methodNamed B.named
  have hlocks := B.notSynchronized
  have hfix : CallFix p m c b_WO_fits 2 s _ lw_good R_WO := ⟨hx, hb, hml, hown, hts⟩
  have hl := lv_entry ([.ref t, .int x1]) (n := 2) (Nat.le_of_ble_eq_true rfl)
  rw [lg_entry_eq]
  generalize (lg_sl ([.ref t, .int x1]) ++ List.replicate (2 - (lg_sl ([.ref t, .int x1])).length) Slot.unset).toArray = ls at hl ⊢
  have hl : lv_has ls 2 [(0, .ref t), (1, .int x1)] := hl
  change W p l e m_WO_fits s m _ below meth c s.heap [] 0 0 _ _
  unfold p_WO_fits at hF
  refine lv_aload_n hx hb d_WO_fits_0 rfl (lv_at hl 0 rfl) ?_
  refine lv_iload_n hx hb d_WO_fits_1 rfl (lv_at hl 1 rfl) ?_
  obtain ⟨r2_1, hC, hF⟩ := dk_b hF
  refine dk_pure (va_runV (As := [.int x1]) (rest := []) hfix (c_WO_isPlanned l G K n t t_road t_search t_atHand t_timetable t_arrivals t_road_greens t_road_leasts t_road_queues t_road_seconds t_road_weights t_atHand_offsets x1 v_t_road_size v_t_road_firstCycle v_t_road_lastCycle v_t_road_cycleBy v_t_road_stepSeconds v_t_atHand_cycle v_t_atHand_size v_t_atHand_aim v_t_atHand_sawAll r2_1 hC) (cwV 1 hts (gd_V lk_294 lk_296 lk_297 lk_16 lk_295) rfl rfl rfl (by decide +kernel) ⟨Nat.le_of_ble_eq_true rfl, Nat.le_of_ble_eq_true rfl⟩) (dk_preV hK hN (hP.sub [0, 1, 3] rfl) (va_recv hK hP (ci := 0) (q0 := 0) rfl rfl)) rfl rfl hl.1 rfl (lv_room (Nat.le_of_ble_eq_true rfl)) d_WO_fits_2 ⟨Nat.le_of_ble_eq_true rfl, Nat.le_of_ble_eq_true rfl⟩) ?_
  refine lv_if_eq (tgt := 30) hx hb d_WO_fits_5 (by decide) (fun c5_2 => ?_) (fun c5_2 => ?_)
  · have hF := dk_t c5_2 hF
    refine lv_iconst (v := (0 : Int32)) hx hb d_WO_fits_30 (by decide) ?_
    obtain rfl := Option.some.inj hF
    exact W.zret (v := (0 : Int32)) hx hb hr rfl (fun t ht hW => ⟨rfl, ht⟩) (fun _ h => by cases h) d_WO_fits_31
  · have hF := dk_f c5_2 hF
    refine lv_aload_n hx hb d_WO_fits_8 rfl (lv_at hl 0 rfl) ?_
    refine va_get (D := G) (ci := 0) (v := .ref t_road) (C := R_WO) (T := F_WO) (N := 5) hx hb hts i_WO hown hK hP 0 rfl rfl 0 (by decide) (hts _ lk_228) (fun _ h9 => h9) rfl d_WO_fits_9 ?_
    refine lv_iload_n hx hb d_WO_fits_12 rfl (lv_at hl 1 rfl) ?_
    obtain ⟨r13_3, hC, hF⟩ := dk_b hF
    refine dk_pure (va_runV (As := [.int x1]) (rest := []) hfix (c_Road_leastOf l G K n t_road t_road_greens t_road_leasts t_road_queues t_road_seconds t_road_weights x1 v_t_road_size v_t_road_firstCycle v_t_road_lastCycle v_t_road_cycleBy v_t_road_stepSeconds v_t_road_leasts r13_3 hC) (cwV 1 hts (gd_V lk_323 lk_325 lk_326 lk_29 lk_324) rfl rfl rfl (by decide +kernel) ⟨Nat.le_of_ble_eq_true rfl, Nat.le_of_ble_eq_true rfl⟩) (dk_preV hK hN (hP.sub [1, 2] rfl) (va_recv hK hP (ci := 1) (q0 := 1) rfl rfl)) rfl rfl hl.1 rfl (lv_room (Nat.le_of_ble_eq_true rfl)) d_WO_fits_13 ⟨Nat.le_of_ble_eq_true rfl, Nat.le_of_ble_eq_true rfl⟩) ?_
    refine lv_aload_n hx hb d_WO_fits_16 rfl (lv_at hl 0 rfl) ?_
    refine va_get (D := G) (ci := 0) (v := .ref t_atHand) (C := R_WO) (T := F_WO) (N := 5) hx hb hts i_WO hown hK hP 0 rfl rfl 2 (by decide) (hts _ lk_230) (fun _ h9 => h9) rfl d_WO_fits_17 ?_
    refine va_getN (D := G) (ci := 2) (v := .int v_t_atHand_cycle) (C := R_Plan) (T := F_Plan) (N := 5) hx hb hts i_Plan hown hK hP 3 rfl rfl 1 (by decide) (va_Nw.use rfl (hN.1 _ lk_234)) (fun _ h9 => h9) rfl d_WO_fits_20 ?_
    refine lv_icmp_gt (tgt := 30) hx hb d_WO_fits_23 (by decide) (fun c23_4 => ?_) (fun c23_4 => ?_)
    · have hF := dk_t c23_4 hF
      refine lv_iconst (v := (0 : Int32)) hx hb d_WO_fits_30 (by decide) ?_
      obtain rfl := Option.some.inj hF
      exact W.zret (v := (0 : Int32)) hx hb hr rfl (fun t ht hW => ⟨rfl, ht⟩) (fun _ h => by cases h) d_WO_fits_31
    · have hF := dk_f c23_4 hF
      refine lv_iconst (v := (1 : Int32)) hx hb d_WO_fits_26 (by decide) ?_
      refine lv_goto (tgt := 31) hx hb d_WO_fits_27 (by decide) ?_
      obtain rfl := Option.some.inj hF
      exact W.zret (v := (1 : Int32)) hx hb hr rfl (fun t ht hW => ⟨rfl, ht⟩) (fun _ h => by cases h) d_WO_fits_31
