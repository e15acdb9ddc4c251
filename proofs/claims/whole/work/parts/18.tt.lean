theorem d_Tt_planned_0 : decode b_Tt_planned 0 = .ok (.iconst 0, 1) := by decide +kernel
theorem d_Tt_planned_1 : decode b_Tt_planned 1 = .ok (.istore_n 1, 1) := by decide +kernel
theorem d_Tt_planned_2 : decode b_Tt_planned 2 = .ok (.iconst 0, 1) := by decide +kernel
theorem d_Tt_planned_3 : decode b_Tt_planned 3 = .ok (.istore_n 2, 1) := by decide +kernel
theorem d_Tt_planned_4 : decode b_Tt_planned 4 = .ok (.iload_n 2, 1) := by decide +kernel
theorem d_Tt_planned_5 : decode b_Tt_planned 5 = .ok (.bipush 24, 2) := by decide +kernel
theorem d_Tt_planned_7 : decode b_Tt_planned 7 = .ok (.if_icmp .ge 26, 3) := by decide +kernel
theorem d_Tt_planned_10 : decode b_Tt_planned 10 = .ok (.iload_n 1, 1) := by decide +kernel
theorem d_Tt_planned_11 : decode b_Tt_planned 11 = .ok (.aload_n 0, 1) := by decide +kernel
theorem d_Tt_planned_12 : decode b_Tt_planned 12 = .ok (.getfield 11, 3) := by decide +kernel
theorem d_Tt_planned_15 : decode b_Tt_planned 15 = .ok (.iload_n 2, 1) := by decide +kernel
theorem d_Tt_planned_16 : decode b_Tt_planned 16 = .ok (.aaload, 1) := by decide +kernel
theorem d_Tt_planned_17 : decode b_Tt_planned 17 = .ok (.ifnonnull 7, 3) := by decide +kernel
theorem d_Tt_planned_20 : decode b_Tt_planned 20 = .ok (.iconst 0, 1) := by decide +kernel
theorem d_Tt_planned_21 : decode b_Tt_planned 21 = .ok (.goto 4, 3) := by decide +kernel
theorem d_Tt_planned_24 : decode b_Tt_planned 24 = .ok (.iconst 1, 1) := by decide +kernel
theorem d_Tt_planned_25 : decode b_Tt_planned 25 = .ok (.iadd, 1) := by decide +kernel
theorem d_Tt_planned_26 : decode b_Tt_planned 26 = .ok (.istore_n 1, 1) := by decide +kernel
theorem d_Tt_planned_27 : decode b_Tt_planned 27 = .ok (.iinc 2 1, 3) := by decide +kernel
theorem d_Tt_planned_30 : decode b_Tt_planned 30 = .ok (.goto (-26), 3) := by decide +kernel
theorem d_Tt_planned_33 : decode b_Tt_planned 33 = .ok (.iload_n 1, 1) := by decide +kernel
theorem d_Tt_planned_34 : decode b_Tt_planned 34 = .ok (.ireturn, 1) := by decide +kernel
theorem d_Tt_lastPlanned_0 : decode b_Tt_lastPlanned 0 = .ok (.iconst (-1), 1) := by decide +kernel
theorem d_Tt_lastPlanned_1 : decode b_Tt_lastPlanned 1 = .ok (.istore_n 1, 1) := by decide +kernel
theorem d_Tt_lastPlanned_2 : decode b_Tt_lastPlanned 2 = .ok (.iconst 0, 1) := by decide +kernel
theorem d_Tt_lastPlanned_3 : decode b_Tt_lastPlanned 3 = .ok (.istore_n 2, 1) := by decide +kernel
theorem d_Tt_lastPlanned_4 : decode b_Tt_lastPlanned 4 = .ok (.iload_n 2, 1) := by decide +kernel
theorem d_Tt_lastPlanned_5 : decode b_Tt_lastPlanned 5 = .ok (.bipush 24, 2) := by decide +kernel
theorem d_Tt_lastPlanned_7 : decode b_Tt_lastPlanned 7 = .ok (.if_icmp .ge 24, 3) := by decide +kernel
theorem d_Tt_lastPlanned_10 : decode b_Tt_lastPlanned 10 = .ok (.aload_n 0, 1) := by decide +kernel
theorem d_Tt_lastPlanned_11 : decode b_Tt_lastPlanned 11 = .ok (.getfield 11, 3) := by decide +kernel
theorem d_Tt_lastPlanned_14 : decode b_Tt_lastPlanned 14 = .ok (.iload_n 2, 1) := by decide +kernel
theorem d_Tt_lastPlanned_15 : decode b_Tt_lastPlanned 15 = .ok (.aaload, 1) := by decide +kernel
theorem d_Tt_lastPlanned_16 : decode b_Tt_lastPlanned 16 = .ok (.ifnonnull 7, 3) := by decide +kernel
theorem d_Tt_lastPlanned_19 : decode b_Tt_lastPlanned 19 = .ok (.iload_n 1, 1) := by decide +kernel
theorem d_Tt_lastPlanned_20 : decode b_Tt_lastPlanned 20 = .ok (.goto 4, 3) := by decide +kernel
theorem d_Tt_lastPlanned_23 : decode b_Tt_lastPlanned 23 = .ok (.iload_n 2, 1) := by decide +kernel
theorem d_Tt_lastPlanned_24 : decode b_Tt_lastPlanned 24 = .ok (.istore_n 1, 1) := by decide +kernel
theorem d_Tt_lastPlanned_25 : decode b_Tt_lastPlanned 25 = .ok (.iinc 2 1, 3) := by decide +kernel
theorem d_Tt_lastPlanned_28 : decode b_Tt_lastPlanned 28 = .ok (.goto (-24), 3) := by decide +kernel
theorem d_Tt_lastPlanned_31 : decode b_Tt_lastPlanned 31 = .ok (.iload_n 1, 1) := by decide +kernel
theorem d_Tt_lastPlanned_32 : decode b_Tt_lastPlanned 32 = .ok (.ireturn, 1) := by decide +kernel
theorem d_Tt_changeCost_0 : decode b_Tt_changeCost 0 = .ok (.iload_n 1, 1) := by decide +kernel
theorem d_Tt_changeCost_1 : decode b_Tt_changeCost 1 = .ok (.i2l, 1) := by decide +kernel
theorem d_Tt_changeCost_2 : decode b_Tt_changeCost 2 = .ok (.lconst 0, 1) := by decide +kernel
theorem d_Tt_changeCost_3 : decode b_Tt_changeCost 3 = .ok (.ldc2_w 17, 3) := by decide +kernel
theorem d_Tt_changeCost_6 : decode b_Tt_changeCost 6 = .ok (.invokestatic 19, 3) := by decide +kernel
theorem d_Tt_changeCost_9 : decode b_Tt_changeCost 9 = .ok (.ifCond .eq 15, 3) := by decide +kernel
theorem d_Tt_changeCost_12 : decode b_Tt_changeCost 12 = .ok (.iload_n 2, 1) := by decide +kernel
theorem d_Tt_changeCost_13 : decode b_Tt_changeCost 13 = .ok (.i2l, 1) := by decide +kernel
theorem d_Tt_changeCost_14 : decode b_Tt_changeCost 14 = .ok (.lconst 0, 1) := by decide +kernel
theorem d_Tt_changeCost_15 : decode b_Tt_changeCost 15 = .ok (.ldc2_w 17, 3) := by decide +kernel
theorem d_Tt_changeCost_18 : decode b_Tt_changeCost 18 = .ok (.invokestatic 19, 3) := by decide +kernel
theorem d_Tt_changeCost_21 : decode b_Tt_changeCost 21 = .ok (.ifCond .ne 7, 3) := by decide +kernel
theorem d_Tt_changeCost_24 : decode b_Tt_changeCost 24 = .ok (.ldc2_w 39, 3) := by decide +kernel
theorem d_Tt_changeCost_27 : decode b_Tt_changeCost 27 = .ok (.lreturn, 1) := by decide +kernel
theorem d_Tt_changeCost_28 : decode b_Tt_changeCost 28 = .ok (.aload_n 0, 1) := by decide +kernel
theorem d_Tt_changeCost_29 : decode b_Tt_changeCost 29 = .ok (.getfield 11, 3) := by decide +kernel
theorem d_Tt_changeCost_32 : decode b_Tt_changeCost 32 = .ok (.iload_n 1, 1) := by decide +kernel
theorem d_Tt_changeCost_33 : decode b_Tt_changeCost 33 = .ok (.aaload, 1) := by decide +kernel
theorem d_Tt_changeCost_34 : decode b_Tt_changeCost 34 = .ok (.astore 4, 2) := by decide +kernel
theorem d_Tt_changeCost_36 : decode b_Tt_changeCost 36 = .ok (.aload_n 0, 1) := by decide +kernel
theorem d_Tt_changeCost_37 : decode b_Tt_changeCost 37 = .ok (.getfield 11, 3) := by decide +kernel
theorem d_Tt_changeCost_40 : decode b_Tt_changeCost 40 = .ok (.iload_n 2, 1) := by decide +kernel
theorem d_Tt_changeCost_41 : decode b_Tt_changeCost 41 = .ok (.aaload, 1) := by decide +kernel
theorem d_Tt_changeCost_42 : decode b_Tt_changeCost 42 = .ok (.astore 5, 2) := by decide +kernel
theorem d_Tt_changeCost_44 : decode b_Tt_changeCost 44 = .ok (.aload 4, 2) := by decide +kernel
theorem d_Tt_changeCost_46 : decode b_Tt_changeCost 46 = .ok (.ifnull 26, 3) := by decide +kernel
theorem d_Tt_changeCost_49 : decode b_Tt_changeCost 49 = .ok (.aload 5, 2) := by decide +kernel
theorem d_Tt_changeCost_51 : decode b_Tt_changeCost 51 = .ok (.ifnull 21, 3) := by decide +kernel
theorem d_Tt_changeCost_54 : decode b_Tt_changeCost 54 = .ok (.aload 4, 2) := by decide +kernel
theorem d_Tt_changeCost_56 : decode b_Tt_changeCost 56 = .ok (.getfield 28, 3) := by decide +kernel
theorem d_Tt_changeCost_59 : decode b_Tt_changeCost 59 = .ok (.iload_n 3, 1) := by decide +kernel
theorem d_Tt_changeCost_60 : decode b_Tt_changeCost 60 = .ok (.if_icmp .ne 12, 3) := by decide +kernel
theorem d_Tt_changeCost_63 : decode b_Tt_changeCost 63 = .ok (.aload 5, 2) := by decide +kernel
theorem d_Tt_changeCost_65 : decode b_Tt_changeCost 65 = .ok (.getfield 28, 3) := by decide +kernel
theorem d_Tt_changeCost_68 : decode b_Tt_changeCost 68 = .ok (.iload_n 3, 1) := by decide +kernel
theorem d_Tt_changeCost_69 : decode b_Tt_changeCost 69 = .ok (.if_icmp .eq 7, 3) := by decide +kernel
theorem d_Tt_changeCost_72 : decode b_Tt_changeCost 72 = .ok (.ldc2_w 39, 3) := by decide +kernel
theorem d_Tt_changeCost_75 : decode b_Tt_changeCost 75 = .ok (.lreturn, 1) := by decide +kernel
theorem d_Tt_changeCost_76 : decode b_Tt_changeCost 76 = .ok (.aload 4, 2) := by decide +kernel
theorem d_Tt_changeCost_78 : decode b_Tt_changeCost 78 = .ok (.aload 5, 2) := by decide +kernel
theorem d_Tt_changeCost_80 : decode b_Tt_changeCost 80 = .ok (.invokevirtual 41, 3) := by decide +kernel
theorem d_Tt_changeCost_83 : decode b_Tt_changeCost 83 = .ok (.aload 4, 2) := by decide +kernel
theorem d_Tt_changeCost_85 : decode b_Tt_changeCost 85 = .ok (.getfield 24, 3) := by decide +kernel
theorem d_Tt_changeCost_88 : decode b_Tt_changeCost 88 = .ok (.aload 5, 2) := by decide +kernel
theorem d_Tt_changeCost_90 : decode b_Tt_changeCost 90 = .ok (.getfield 24, 3) := by decide +kernel
theorem d_Tt_changeCost_93 : decode b_Tt_changeCost 93 = .ok (.if_icmp .ne 7, 3) := by decide +kernel
theorem d_Tt_changeCost_96 : decode b_Tt_changeCost 96 = .ok (.iconst 0, 1) := by decide +kernel
theorem d_Tt_changeCost_97 : decode b_Tt_changeCost 97 = .ok (.goto 5, 3) := by decide +kernel
theorem d_Tt_changeCost_100 : decode b_Tt_changeCost 100 = .ok (.bipush 100, 2) := by decide +kernel
theorem d_Tt_changeCost_102 : decode b_Tt_changeCost 102 = .ok (.iadd, 1) := by decide +kernel
theorem d_Tt_changeCost_103 : decode b_Tt_changeCost 103 = .ok (.i2l, 1) := by decide +kernel
theorem d_Tt_changeCost_104 : decode b_Tt_changeCost 104 = .ok (.lreturn, 1) := by decide +kernel
theorem d_Tt_dayCost_0 : decode b_Tt_dayCost 0 = .ok (.aload_n 0, 1) := by decide +kernel
theorem d_Tt_dayCost_1 : decode b_Tt_dayCost 1 = .ok (.invokevirtual 45, 3) := by decide +kernel
theorem d_Tt_dayCost_4 : decode b_Tt_dayCost 4 = .ok (.iconst 2, 1) := by decide +kernel
theorem d_Tt_dayCost_5 : decode b_Tt_dayCost 5 = .ok (.if_icmp .ge 5, 3) := by decide +kernel
theorem d_Tt_dayCost_8 : decode b_Tt_dayCost 8 = .ok (.lconst 0, 1) := by decide +kernel
theorem d_Tt_dayCost_9 : decode b_Tt_dayCost 9 = .ok (.lreturn, 1) := by decide +kernel
theorem d_Tt_dayCost_10 : decode b_Tt_dayCost 10 = .ok (.lconst 0, 1) := by decide +kernel
theorem d_Tt_dayCost_11 : decode b_Tt_dayCost 11 = .ok (.lstore_n 2, 1) := by decide +kernel
theorem d_Tt_dayCost_12 : decode b_Tt_dayCost 12 = .ok (.aload_n 0, 1) := by decide +kernel
theorem d_Tt_dayCost_13 : decode b_Tt_dayCost 13 = .ok (.invokevirtual 49, 3) := by decide +kernel
theorem d_Tt_dayCost_16 : decode b_Tt_dayCost 16 = .ok (.istore 4, 2) := by decide +kernel
theorem d_Tt_dayCost_18 : decode b_Tt_dayCost 18 = .ok (.iconst 0, 1) := by decide +kernel
theorem d_Tt_dayCost_19 : decode b_Tt_dayCost 19 = .ok (.istore 5, 2) := by decide +kernel
theorem d_Tt_dayCost_21 : decode b_Tt_dayCost 21 = .ok (.iload 5, 2) := by decide +kernel
theorem d_Tt_dayCost_23 : decode b_Tt_dayCost 23 = .ok (.bipush 24, 2) := by decide +kernel
theorem d_Tt_dayCost_25 : decode b_Tt_dayCost 25 = .ok (.if_icmp .ge 52, 3) := by decide +kernel
theorem d_Tt_dayCost_28 : decode b_Tt_dayCost 28 = .ok (.aload_n 0, 1) := by decide +kernel
theorem d_Tt_dayCost_29 : decode b_Tt_dayCost 29 = .ok (.getfield 11, 3) := by decide +kernel
theorem d_Tt_dayCost_32 : decode b_Tt_dayCost 32 = .ok (.iload 5, 2) := by decide +kernel
theorem d_Tt_dayCost_34 : decode b_Tt_dayCost 34 = .ok (.aaload, 1) := by decide +kernel
theorem d_Tt_dayCost_35 : decode b_Tt_dayCost 35 = .ok (.ifnull 36, 3) := by decide +kernel
theorem d_Tt_dayCost_38 : decode b_Tt_dayCost 38 = .ok (.aload_n 0, 1) := by decide +kernel
theorem d_Tt_dayCost_39 : decode b_Tt_dayCost 39 = .ok (.iload 4, 2) := by decide +kernel
theorem d_Tt_dayCost_41 : decode b_Tt_dayCost 41 = .ok (.iload 5, 2) := by decide +kernel
theorem d_Tt_dayCost_43 : decode b_Tt_dayCost 43 = .ok (.iload_n 1, 1) := by decide +kernel
theorem d_Tt_dayCost_44 : decode b_Tt_dayCost 44 = .ok (.invokevirtual 52, 3) := by decide +kernel
theorem d_Tt_dayCost_47 : decode b_Tt_dayCost 47 = .ok (.lstore 6, 2) := by decide +kernel
theorem d_Tt_dayCost_49 : decode b_Tt_dayCost 49 = .ok (.lload 6, 2) := by decide +kernel
theorem d_Tt_dayCost_51 : decode b_Tt_dayCost 51 = .ok (.ldc2_w 39, 3) := by decide +kernel
theorem d_Tt_dayCost_54 : decode b_Tt_dayCost 54 = .ok (.lcmp, 1) := by decide +kernel
theorem d_Tt_dayCost_55 : decode b_Tt_dayCost 55 = .ok (.ifCond .ne 7, 3) := by decide +kernel
theorem d_Tt_dayCost_58 : decode b_Tt_dayCost 58 = .ok (.ldc2_w 39, 3) := by decide +kernel
theorem d_Tt_dayCost_61 : decode b_Tt_dayCost 61 = .ok (.lreturn, 1) := by decide +kernel
theorem d_Tt_dayCost_62 : decode b_Tt_dayCost 62 = .ok (.lload_n 2, 1) := by decide +kernel
theorem d_Tt_dayCost_63 : decode b_Tt_dayCost 63 = .ok (.lload 6, 2) := by decide +kernel
theorem d_Tt_dayCost_65 : decode b_Tt_dayCost 65 = .ok (.ladd, 1) := by decide +kernel
theorem d_Tt_dayCost_66 : decode b_Tt_dayCost 66 = .ok (.lstore_n 2, 1) := by decide +kernel
theorem d_Tt_dayCost_67 : decode b_Tt_dayCost 67 = .ok (.iload 5, 2) := by decide +kernel
theorem d_Tt_dayCost_69 : decode b_Tt_dayCost 69 = .ok (.istore 4, 2) := by decide +kernel
theorem d_Tt_dayCost_71 : decode b_Tt_dayCost 71 = .ok (.iinc 5 1, 3) := by decide +kernel
theorem d_Tt_dayCost_74 : decode b_Tt_dayCost 74 = .ok (.goto (-53), 3) := by decide +kernel
theorem d_Tt_dayCost_77 : decode b_Tt_dayCost 77 = .ok (.lload_n 2, 1) := by decide +kernel
theorem d_Tt_dayCost_78 : decode b_Tt_dayCost 78 = .ok (.lreturn, 1) := by decide +kernel
theorem d_WO_change_0 : decode b_WO_change 0 = .ok (.aload_n 0, 1) := by decide +kernel
theorem d_WO_change_1 : decode b_WO_change 1 = .ok (.getfield 33, 3) := by decide +kernel
theorem d_WO_change_4 : decode b_WO_change 4 = .ok (.iload_n 1, 1) := by decide +kernel
theorem d_WO_change_5 : decode b_WO_change 5 = .ok (.iload_n 2, 1) := by decide +kernel
theorem d_WO_change_6 : decode b_WO_change 6 = .ok (.aload_n 0, 1) := by decide +kernel
theorem d_WO_change_7 : decode b_WO_change 7 = .ok (.getfield 10, 3) := by decide +kernel
theorem d_WO_change_10 : decode b_WO_change 10 = .ok (.invokevirtual 101, 3) := by decide +kernel
theorem d_WO_change_13 : decode b_WO_change 13 = .ok (.invokevirtual 181, 3) := by decide +kernel
theorem d_WO_change_16 : decode b_WO_change 16 = .ok (.lreturn, 1) := by decide +kernel
theorem d_WO_day_0 : decode b_WO_day 0 = .ok (.aload_n 0, 1) := by decide +kernel
theorem d_WO_day_1 : decode b_WO_day 1 = .ok (.getfield 33, 3) := by decide +kernel
theorem d_WO_day_4 : decode b_WO_day 4 = .ok (.aload_n 0, 1) := by decide +kernel
theorem d_WO_day_5 : decode b_WO_day 5 = .ok (.getfield 10, 3) := by decide +kernel
theorem d_WO_day_8 : decode b_WO_day 8 = .ok (.invokevirtual 101, 3) := by decide +kernel
theorem d_WO_day_11 : decode b_WO_day 11 = .ok (.invokevirtual 185, 3) := by decide +kernel
theorem d_WO_day_14 : decode b_WO_day 14 = .ok (.lreturn, 1) := by decide +kernel
theorem d_WO_count_0 : decode b_WO_count 0 = .ok (.iload_n 1, 1) := by decide +kernel
theorem d_WO_count_1 : decode b_WO_count 1 = .ok (.tableswitch 95 0 4 #[35, 44, 52, 61, 70], 35) := by decide +kernel
theorem d_WO_count_36 : decode b_WO_count 36 = .ok (.aload_n 0, 1) := by decide +kernel
theorem d_WO_count_37 : decode b_WO_count 37 = .ok (.getfield 10, 3) := by decide +kernel
theorem d_WO_count_40 : decode b_WO_count 40 = .ok (.invokevirtual 101, 3) := by decide +kernel
theorem d_WO_count_43 : decode b_WO_count 43 = .ok (.i2l, 1) := by decide +kernel
theorem d_WO_count_44 : decode b_WO_count 44 = .ok (.lreturn, 1) := by decide +kernel
theorem d_WO_count_45 : decode b_WO_count 45 = .ok (.aload_n 0, 1) := by decide +kernel
theorem d_WO_count_46 : decode b_WO_count 46 = .ok (.getfield 10, 3) := by decide +kernel
theorem d_WO_count_49 : decode b_WO_count 49 = .ok (.invokevirtual 192, 3) := by decide +kernel
theorem d_WO_count_52 : decode b_WO_count 52 = .ok (.lreturn, 1) := by decide +kernel
theorem d_WO_count_53 : decode b_WO_count 53 = .ok (.aload_n 0, 1) := by decide +kernel
theorem d_WO_count_54 : decode b_WO_count 54 = .ok (.getfield 40, 3) := by decide +kernel
theorem d_WO_count_57 : decode b_WO_count 57 = .ok (.invokevirtual 195, 3) := by decide +kernel
theorem d_WO_count_60 : decode b_WO_count 60 = .ok (.i2l, 1) := by decide +kernel
theorem d_WO_count_61 : decode b_WO_count 61 = .ok (.lreturn, 1) := by decide +kernel
theorem d_WO_count_62 : decode b_WO_count 62 = .ok (.aload_n 0, 1) := by decide +kernel
theorem d_WO_count_63 : decode b_WO_count 63 = .ok (.getfield 33, 3) := by decide +kernel
theorem d_WO_count_66 : decode b_WO_count 66 = .ok (.invokevirtual 178, 3) := by decide +kernel
theorem d_WO_count_69 : decode b_WO_count 69 = .ok (.i2l, 1) := by decide +kernel
theorem d_WO_count_70 : decode b_WO_count 70 = .ok (.lreturn, 1) := by decide +kernel
theorem d_WO_count_71 : decode b_WO_count 71 = .ok (.aload_n 0, 1) := by decide +kernel
theorem d_WO_count_72 : decode b_WO_count 72 = .ok (.getfield 26, 3) := by decide +kernel
theorem d_WO_count_75 : decode b_WO_count 75 = .ok (.invokevirtual 116, 3) := by decide +kernel
theorem d_WO_count_78 : decode b_WO_count 78 = .ok (.ifCond .eq 14, 3) := by decide +kernel
theorem d_WO_count_81 : decode b_WO_count 81 = .ok (.aload_n 0, 1) := by decide +kernel
theorem d_WO_count_82 : decode b_WO_count 82 = .ok (.getfield 26, 3) := by decide +kernel
theorem d_WO_count_85 : decode b_WO_count 85 = .ok (.getfield 198, 3) := by decide +kernel
theorem d_WO_count_88 : decode b_WO_count 88 = .ok (.i2l, 1) := by decide +kernel
theorem d_WO_count_89 : decode b_WO_count 89 = .ok (.goto 6, 3) := by decide +kernel
theorem d_WO_count_92 : decode b_WO_count 92 = .ok (.ldc2_w 126, 3) := by decide +kernel
theorem d_WO_count_95 : decode b_WO_count 95 = .ok (.lreturn, 1) := by decide +kernel
theorem d_WO_count_96 : decode b_WO_count 96 = .ok (.ldc2_w 126, 3) := by decide +kernel
theorem d_WO_count_99 : decode b_WO_count 99 = .ok (.lreturn, 1) := by decide +kernel
set_option maxRecDepth 50000 in
theorem lk_327 : Cond.fieldLink R_Tt 11 "WaveOffsets$Timetable" "plans" "[LWaveOffsets$Plan;" ∈ lw_good := List.mem_filter.mpr ⟨List.mem_append_right _ (List.mem_of_getElem? (i := 182) (by decide +kernel)), rfl⟩
set_option maxRecDepth 50000 in
theorem lk_328 : Cond.constantLong R_Tt 17 23 ∈ lw_good := List.mem_filter.mpr ⟨List.mem_append_right _ (List.mem_of_getElem? (i := 551) (by decide +kernel)), rfl⟩
set_option maxRecDepth 50000 in
theorem lk_329 : Cond.methodLinkNest R_Tt 19 y_WO_within "WaveOffsets" ∈ lw_nest := List.mem_filter.mpr ⟨List.mem_append_right _ (List.mem_of_getElem? (i := 552) (by decide +kernel)), rfl⟩
set_option maxRecDepth 50000 in
theorem lk_330 : Cond.constantLong R_Tt 39 (-1) ∈ lw_good := List.mem_filter.mpr ⟨List.mem_append_right _ (List.mem_of_getElem? (i := 567) (by decide +kernel)), rfl⟩
set_option maxRecDepth 50000 in
theorem lk_331 : Cond.fieldLinkNest R_Tt 28 "WaveOffsets$Plan" "size" "I" "WaveOffsets" ∈ lw_nest := List.mem_filter.mpr ⟨List.mem_append_right _ (List.mem_of_getElem? (i := 157) (by decide +kernel)), rfl⟩
set_option maxRecDepth 50000 in
theorem lk_332 : Cond.methodLink R_Tt 41 y_Plan_turnsTo ∈ lw_good := List.mem_filter.mpr ⟨List.mem_append_right _ (List.mem_of_getElem? (i := 568) (by decide +kernel)), rfl⟩
set_option maxRecDepth 50000 in
theorem lk_333 : Cond.code y_Plan_turnsTo b_Plan_turnsTo 5 (some .int) ∈ lw_good := List.mem_filter.mpr ⟨List.mem_append_right _ (List.mem_of_getElem? (i := 571) rfl), rfl⟩
set_option maxRecDepth 50000 in
theorem lk_334 : Cond.instanceMethod y_Plan_turnsTo ∈ lw_good := List.mem_filter.mpr ⟨List.mem_append_right _ (List.mem_of_getElem? (i := 569) (by decide +kernel)), rfl⟩
set_option maxRecDepth 50000 in
theorem lk_335 : Cond.selects R_Plan y_Plan_turnsTo y_Plan_turnsTo ∈ lw_good := List.mem_filter.mpr ⟨List.mem_append_right _ (List.mem_of_getElem? (i := 570) (by decide +kernel)), rfl⟩
set_option maxRecDepth 50000 in
theorem lk_336 : Cond.fieldLinkNest R_Tt 24 "WaveOffsets$Plan" "cycle" "I" "WaveOffsets" ∈ lw_nest := List.mem_filter.mpr ⟨List.mem_append_right _ (List.mem_of_getElem? (i := 153) (by decide +kernel)), rfl⟩
set_option maxRecDepth 50000 in
theorem lk_337 : Cond.methodLink R_Tt 45 y_Tt_planned ∈ lw_good := List.mem_filter.mpr ⟨List.mem_append_right _ (List.mem_of_getElem? (i := 582) (by decide +kernel)), rfl⟩
set_option maxRecDepth 50000 in
theorem lk_338 : Cond.code y_Tt_planned b_Tt_planned 3 (some .int) ∈ lw_good := List.mem_filter.mpr ⟨List.mem_append_right _ (List.mem_of_getElem? (i := 558) rfl), rfl⟩
set_option maxRecDepth 50000 in
theorem lk_339 : Cond.instanceMethod y_Tt_planned ∈ lw_good := List.mem_filter.mpr ⟨List.mem_append_right _ (List.mem_of_getElem? (i := 556) (by decide +kernel)), rfl⟩
set_option maxRecDepth 50000 in
theorem lk_340 : Cond.selects R_Tt y_Tt_planned y_Tt_planned ∈ lw_good := List.mem_filter.mpr ⟨List.mem_append_right _ (List.mem_of_getElem? (i := 557) (by decide +kernel)), rfl⟩
set_option maxRecDepth 50000 in
theorem lk_341 : Cond.initialized R_Tt ∈ lw_good := List.mem_filter.mpr ⟨List.mem_append_right _ (List.mem_of_getElem? (i := 8) (by decide +kernel)), rfl⟩
set_option maxRecDepth 50000 in
theorem lk_342 : Cond.methodLink R_Tt 49 y_Tt_lastPlanned ∈ lw_good := List.mem_filter.mpr ⟨List.mem_append_right _ (List.mem_of_getElem? (i := 583) (by decide +kernel)), rfl⟩
set_option maxRecDepth 50000 in
theorem lk_343 : Cond.code y_Tt_lastPlanned b_Tt_lastPlanned 3 (some .int) ∈ lw_good := List.mem_filter.mpr ⟨List.mem_append_right _ (List.mem_of_getElem? (i := 586) rfl), rfl⟩
set_option maxRecDepth 50000 in
theorem lk_344 : Cond.instanceMethod y_Tt_lastPlanned ∈ lw_good := List.mem_filter.mpr ⟨List.mem_append_right _ (List.mem_of_getElem? (i := 585) (by decide +kernel)), rfl⟩
set_option maxRecDepth 50000 in
theorem lk_345 : Cond.selects R_Tt y_Tt_lastPlanned y_Tt_lastPlanned ∈ lw_good := List.mem_filter.mpr ⟨List.mem_append_left _ (List.mem_of_getElem? (i := 9) (by decide +kernel)), rfl⟩
set_option maxRecDepth 50000 in
theorem lk_346 : Cond.methodLink R_Tt 52 y_Tt_changeCost ∈ lw_good := List.mem_filter.mpr ⟨List.mem_append_right _ (List.mem_of_getElem? (i := 587) (by decide +kernel)), rfl⟩
set_option maxRecDepth 50000 in
theorem lk_347 : Cond.code y_Tt_changeCost b_Tt_changeCost 6 (some .long) ∈ lw_good := List.mem_filter.mpr ⟨List.mem_append_right _ (List.mem_of_getElem? (i := 566) rfl), rfl⟩
set_option maxRecDepth 50000 in
theorem lk_348 : Cond.instanceMethod y_Tt_changeCost ∈ lw_good := List.mem_filter.mpr ⟨List.mem_append_right _ (List.mem_of_getElem? (i := 564) (by decide +kernel)), rfl⟩
set_option maxRecDepth 50000 in
theorem lk_349 : Cond.selects R_Tt y_Tt_changeCost y_Tt_changeCost ∈ lw_good := List.mem_filter.mpr ⟨List.mem_append_right _ (List.mem_of_getElem? (i := 565) (by decide +kernel)), rfl⟩
set_option maxRecDepth 50000 in
theorem lk_350 : Cond.fieldLink R_WO 33 "WaveOffsets" "timetable" "LWaveOffsets$Timetable;" ∈ lw_good := List.mem_filter.mpr ⟨List.mem_append_right _ (List.mem_of_getElem? (i := 208) (by decide +kernel)), rfl⟩
set_option maxRecDepth 50000 in
theorem lk_351 : Cond.methodLink R_WO 181 y_Tt_changeCost ∈ lw_good := List.mem_filter.mpr ⟨List.mem_append_right _ (List.mem_of_getElem? (i := 563) (by decide +kernel)), rfl⟩
set_option maxRecDepth 50000 in
theorem lk_352 : Cond.methodLink R_WO 185 y_Tt_dayCost ∈ lw_good := List.mem_filter.mpr ⟨List.mem_append_right _ (List.mem_of_getElem? (i := 578) (by decide +kernel)), rfl⟩
set_option maxRecDepth 50000 in
theorem lk_353 : Cond.code y_Tt_dayCost b_Tt_dayCost 8 (some .long) ∈ lw_good := List.mem_filter.mpr ⟨List.mem_append_right _ (List.mem_of_getElem? (i := 581) rfl), rfl⟩
set_option maxRecDepth 50000 in
theorem lk_354 : Cond.instanceMethod y_Tt_dayCost ∈ lw_good := List.mem_filter.mpr ⟨List.mem_append_right _ (List.mem_of_getElem? (i := 579) (by decide +kernel)), rfl⟩
set_option maxRecDepth 50000 in
theorem lk_355 : Cond.selects R_Tt y_Tt_dayCost y_Tt_dayCost ∈ lw_good := List.mem_filter.mpr ⟨List.mem_append_right _ (List.mem_of_getElem? (i := 580) (by decide +kernel)), rfl⟩
set_option maxRecDepth 50000 in
theorem lk_356 : Cond.methodLink R_WO 192 y_Road_allRows ∈ lw_good := List.mem_filter.mpr ⟨List.mem_append_right _ (List.mem_of_getElem? (i := 604) (by decide +kernel)), rfl⟩
set_option maxRecDepth 50000 in
theorem lk_357 : Cond.methodLink R_WO 195 y_Arr_told ∈ lw_good := List.mem_filter.mpr ⟨List.mem_append_right _ (List.mem_of_getElem? (i := 605) (by decide +kernel)), rfl⟩
set_option maxRecDepth 50000 in
theorem lk_358 : Cond.code y_Arr_told b_Arr_told 1 (some .int) ∈ lw_good := List.mem_filter.mpr ⟨List.mem_append_right _ (List.mem_of_getElem? (i := 608) rfl), rfl⟩
set_option maxRecDepth 50000 in
theorem lk_359 : Cond.instanceMethod y_Arr_told ∈ lw_good := List.mem_filter.mpr ⟨List.mem_append_right _ (List.mem_of_getElem? (i := 606) (by decide +kernel)), rfl⟩
set_option maxRecDepth 50000 in
theorem lk_360 : Cond.selects R_Arr y_Arr_told y_Arr_told ∈ lw_good := List.mem_filter.mpr ⟨List.mem_append_right _ (List.mem_of_getElem? (i := 607) (by decide +kernel)), rfl⟩
set_option maxRecDepth 50000 in
theorem lk_361 : Cond.methodLink R_WO 178 y_Tt_planned ∈ lw_good := List.mem_filter.mpr ⟨List.mem_append_right _ (List.mem_of_getElem? (i := 555) (by decide +kernel)), rfl⟩
set_option maxRecDepth 50000 in
theorem lk_362 : Cond.fieldLinkNest R_WO 198 "WaveOffsets$Plan" "aim" "I" "WaveOffsets" ∈ lw_nest := List.mem_filter.mpr ⟨List.mem_append_right _ (List.mem_of_getElem? (i := 160) (by decide +kernel)), rfl⟩
def p_Tt_planned_4 (n : Nat) : Nat → (Nat → Option (Int32 × Int32 × (Nat → Int32))) → Int32 → Int32 → Option (Int32)
  | 0, _, _, _ => none
  | k + 1, T, z1, z2 =>
    if (24 : Int32) ≤ z2 then
      some z1
    else
      if dk_in z2 24 = true then
        (T z2.toNatClampNeg).elim (
          p_Tt_planned_4 n k T (z1 + (0 : Int32)) (z2 + (1 : Int32))) (fun h16_2 =>
          p_Tt_planned_4 n k T (z1 + (1 : Int32)) (z2 + (1 : Int32)))
      else none
theorem q_Tt_planned_4 (n k : Nat) (T : Nat → Option (Int32 × Int32 × (Nat → Int32))) (z1 : Int32) (z2 : Int32) : p_Tt_planned_4 n (k + 1) T z1 z2 =
    if (24 : Int32) ≤ z2 then
      some z1
    else
      if dk_in z2 24 = true then
        (T z2.toNatClampNeg).elim (
          p_Tt_planned_4 n k T (z1 + (0 : Int32)) (z2 + (1 : Int32))) (fun h16_2 =>
          p_Tt_planned_4 n k T (z1 + (1 : Int32)) (z2 + (1 : Int32)))
      else none := rfl
def p_Tt_planned (n : Nat) (T : Nat → Option (Int32 × Int32 × (Nat → Int32))) : Option (Int32) :=
  (p_Tt_planned_4 n n T (0 : Int32) (0 : Int32)).bind fun q4_3 =>
  some q4_3
abbrev m_Tt_planned : Room := { frames := 0, cells := 0, slots := 0, locals := 0 }
set_option maxHeartbeats 4000000 in
set_option maxRecDepth 100000 in
theorem c_Tt_planned (l : Launch) (G : va_G) (K : Nat → ClassId) (n : Nat) (t : Nat) (t_plans : Nat) (g : Nat → Option Nat) (T : Nat → Option (Int32 × Int32 × (Nat → Int32))) (PL : va_W) (hT : tp K T g PL) (o : Int32) (hF : p_Tt_planned n T = some o) :
    Met l y_Tt_planned (wd y_Tt_planned b_Tt_planned 3 (some .int)) m_Tt_planned (dk_Pp [.ref t] G K ([(t, .inr (6, [.ref t_plans])), (t_plans, .inl (K 2, 24, .inr (.inr (.inr (.inr g)))))] ++ PL)) (dk_Qp (some (.int o))) 0 0 (fun _ => False) := by
  refine Met.ofW (cc := b_Tt_planned) (maxL := 3) (ret := (some .int)) (by decide) rfl ?_
  intro p e s m args below meth c s₁ B hml hv
  obtain ⟨rfl, hP, hK, hN⟩ := hv
  have hx := B.exec
  have hb := B.bytes
  have hr := B.returns
  have hts : ∀ w ∈ lw_good, w.before _ s = true := fun w h => atoms_spec (ws := wd y_Tt_planned b_Tt_planned 3 (some .int)) B.pre w (List.mem_cons_of_mem _ h)
  have hown : s.vm.findClass R_Tt = some m.cls := findClass_of_methodNamed B.named
  have hlocks := B.notSynchronized
  have hfix : CallFix p m c b_Tt_planned 3 s _ lw_good R_Tt := ⟨hx, hb, hml, hown, hts⟩
  have hP0 := hP
  have hPT := tp_pl hP
  have hP : va_P G classes [(t, .inr (6, [.ref t_plans])), (t_plans, .inl (K 2, 24, .inr (.inr (.inr (.inr g)))))] s.heap := tp_x hP
  have hl := lv_entry ([.ref t]) (n := 3) (Nat.le_of_ble_eq_true rfl)
  rw [lg_entry_eq]
  generalize (lg_sl ([.ref t]) ++ List.replicate (3 - (lg_sl ([.ref t])).length) Slot.unset).toArray = ls at hl ⊢
  have hl : lv_has ls 3 [(0, .ref t)] := hl
  change W p l e m_Tt_planned s m _ below meth c s.heap [] 0 0 _ _
  have L4 : ∀ (k : Nat) (z1 : Int32) (z2 : Int32) (q : Int32), p_Tt_planned_4 n k T z1 z2 = some q → ∀ ls : Array Slot, lv_has ls 3 [(0, .ref t), (1, .int z1), (2, .int z2)] → (∀ (ls1 : Array Slot), lv_has ls1 3 [(1, .int q)] → W p l e m_Tt_planned s m ([.ref t] : List Value).toArray below meth c s.heap [] 0 0 (MQ below (dk_Qp (some (.int o))) ([.ref t] : List Value).toArray s 0 0 (fun _ => False)) (F0 m 33 ls1 [])) → W p l e m_Tt_planned s m ([.ref t] : List Value).toArray below meth c s.heap [] 0 0 (MQ below (dk_Qp (some (.int o))) ([.ref t] : List Value).toArray s 0 0 (fun _ => False)) (F0 m 4 ls []) := by
    intro k
    induction k with
    | zero =>
      intro z1 z2 q hF ls hl hk
      exact absurd hF (by simp [p_Tt_planned_4])
    | succ k jh =>
      intro z1 z2 q hF ls hl hk
      have hF := (q_Tt_planned_4 n k T z1 z2).symm.trans hF
      refine lv_iload_n hx hb d_Tt_planned_4 rfl (lv_at hl 2 rfl) ?_
      refine lv_bipush (v := (24 : Int32)) hx hb d_Tt_planned_5 (by decide) ?_
      refine lv_icmp_ge (tgt := 33) hx hb d_Tt_planned_7 (by decide) (fun c7_1 => ?_) (fun c7_1 => ?_)
      · have hF := dk_t c7_1 hF
        obtain rfl := Option.some.inj hF
        exact hk ls (lv_sub hl [1] rfl)
      · have hF := dk_f c7_1 hF
        refine lv_iload_n hx hb d_Tt_planned_10 rfl (lv_at hl 1 rfl) ?_
        refine lv_aload_n hx hb d_Tt_planned_11 rfl (lv_at hl 0 rfl) ?_
        refine va_get (D := G) (ci := 6) (v := .ref t_plans) (C := R_Tt) (T := F_Tt) (N := 1) hx hb hts i_Tt hown hK hP 0 rfl rfl 0 (by decide) (hts _ lk_327) (fun _ h9 => h9) rfl d_Tt_planned_12 ?_
        refine lv_iload_n hx hb d_Tt_planned_15 rfl (lv_at hl 2 rfl) ?_
        obtain ⟨hi, hF⟩ := dk_a hF
        refine va_aldq (D := G) hx hb hK hP 1 2 rfl rfl (dk_vp hi) d_Tt_planned_16 ?_
        rcases tp_at hT hi with ⟨eT, eg⟩ | ⟨h16_2, h16_2_am, h16_2_sw, h16_2_a, h16_2_o, eT, eg, m1, m2⟩
        · rw [eg]
          refine W.eq (g2 := F0 m 17 ls [.null, .int z1]) rfl ?_
          have hF := tp_n eT hF
          refine lv_ifnonnullN hx hb d_Tt_planned_17 ?_
          refine lv_iconst (v := (0 : Int32)) hx hb d_Tt_planned_20 (by decide) ?_
          refine lv_goto (tgt := 25) hx hb d_Tt_planned_21 (by decide) ?_
          refine lv_iadd hx hb d_Tt_planned_25 ?_
          refine lv_istore_n (lv' := [(1, .int (z1 + (0 : Int32))), (0, .ref t), (2, .int z2)]) hx hb d_Tt_planned_26 rfl hl (by decide) rfl (fun ls hl => ?_)
          refine lv_iinc (v := z2 + (1 : Int32)) (lv' := [(2, .int (z2 + (1 : Int32))), (1, .int (z1 + (0 : Int32))), (0, .ref t)]) hx hb d_Tt_planned_27 hl (k := 2) rfl rfl (by decide) rfl (fun ls hl => ?_)
          refine lv_goto (tgt := 4) hx hb d_Tt_planned_30 (by decide) ?_
          exact jh (z1 + (0 : Int32)) (z2 + (1 : Int32)) q hF ls (lv_sub hl [2, 1, 0] rfl) hk
        · rw [eg]
          refine W.eq (g2 := F0 m 17 ls [.ref h16_2_a, .int z1]) rfl ?_
          have hF := tp_s eT hF
          have hP : va_P G classes [(t, .inr (6, [.ref t_plans])), (t_plans, .inl (K 2, 24, .inr (.inr (.inr (.inr g))))), (h16_2_a, .inr (2, [.ref h16_2_o, .int h16_2.1, .int h16_2.2.1, .int h16_2_am, .int h16_2_sw])), (h16_2_o, .inl (K 0, 5, .inl h16_2.2.2))] s.heap := hP.app (tp_two hPT m1 m2)
          refine lv_ifnonnull (tgt := 24) hx hb d_Tt_planned_17 (by decide) ?_
          refine lv_iconst (v := (1 : Int32)) hx hb d_Tt_planned_24 (by decide) ?_
          refine lv_iadd hx hb d_Tt_planned_25 ?_
          refine lv_istore_n (lv' := [(1, .int (z1 + (1 : Int32))), (0, .ref t), (2, .int z2)]) hx hb d_Tt_planned_26 rfl hl (by decide) rfl (fun ls hl => ?_)
          refine lv_iinc (v := z2 + (1 : Int32)) (lv' := [(2, .int (z2 + (1 : Int32))), (1, .int (z1 + (1 : Int32))), (0, .ref t)]) hx hb d_Tt_planned_27 hl (k := 2) rfl rfl (by decide) rfl (fun ls hl => ?_)
          refine lv_goto (tgt := 4) hx hb d_Tt_planned_30 (by decide) ?_
          exact jh (z1 + (1 : Int32)) (z2 + (1 : Int32)) q hF ls (lv_sub hl [2, 1, 0] rfl) hk
  unfold p_Tt_planned at hF
  refine lv_iconst (v := (0 : Int32)) hx hb d_Tt_planned_0 (by decide) ?_
  refine lv_istore_n (lv' := [(1, .int (0 : Int32)), (0, .ref t)]) hx hb d_Tt_planned_1 rfl hl (by decide) rfl (fun ls hl => ?_)
  refine lv_iconst (v := (0 : Int32)) hx hb d_Tt_planned_2 (by decide) ?_
  refine lv_istore_n (lv' := [(2, .int (0 : Int32)), (1, .int (0 : Int32)), (0, .ref t)]) hx hb d_Tt_planned_3 rfl hl (by decide) rfl (fun ls hl => ?_)
  obtain ⟨q4_3, hC, hF⟩ := dk_b hF
  refine L4 n (0 : Int32) (0 : Int32) q4_3 hC ls (lv_sub hl [2, 1, 0] rfl) (fun ls hl => ?_)
  refine lv_iload_n hx hb d_Tt_planned_33 rfl (lv_at hl 0 rfl) ?_
  obtain rfl := Option.some.inj hF
  exact W.iret (v := q4_3) hx hb hr (fun t ht hW => ⟨rfl, ht⟩) (fun _ h => by cases h) d_Tt_planned_34
def p_Tt_lastPlanned_4 (n : Nat) : Nat → (Nat → Option (Int32 × Int32 × (Nat → Int32))) → Int32 → Int32 → Option (Int32)
  | 0, _, _, _ => none
  | k + 1, T, z1, z2 =>
    if (24 : Int32) ≤ z2 then
      some z1
    else
      if dk_in z2 24 = true then
        (T z2.toNatClampNeg).elim (
          p_Tt_lastPlanned_4 n k T z1 (z2 + (1 : Int32))) (fun h15_2 =>
          p_Tt_lastPlanned_4 n k T z2 (z2 + (1 : Int32)))
      else none
theorem q_Tt_lastPlanned_4 (n k : Nat) (T : Nat → Option (Int32 × Int32 × (Nat → Int32))) (z1 : Int32) (z2 : Int32) : p_Tt_lastPlanned_4 n (k + 1) T z1 z2 =
    if (24 : Int32) ≤ z2 then
      some z1
    else
      if dk_in z2 24 = true then
        (T z2.toNatClampNeg).elim (
          p_Tt_lastPlanned_4 n k T z1 (z2 + (1 : Int32))) (fun h15_2 =>
          p_Tt_lastPlanned_4 n k T z2 (z2 + (1 : Int32)))
      else none := rfl
def p_Tt_lastPlanned (n : Nat) (T : Nat → Option (Int32 × Int32 × (Nat → Int32))) : Option (Int32) :=
  (p_Tt_lastPlanned_4 n n T ((-1) : Int32) (0 : Int32)).bind fun q4_3 =>
  some q4_3
abbrev m_Tt_lastPlanned : Room := { frames := 0, cells := 0, slots := 0, locals := 0 }
set_option maxHeartbeats 4000000 in
set_option maxRecDepth 100000 in
theorem c_Tt_lastPlanned (l : Launch) (G : va_G) (K : Nat → ClassId) (n : Nat) (t : Nat) (t_plans : Nat) (g : Nat → Option Nat) (T : Nat → Option (Int32 × Int32 × (Nat → Int32))) (PL : va_W) (hT : tp K T g PL) (o : Int32) (hF : p_Tt_lastPlanned n T = some o) :
    Met l y_Tt_lastPlanned (wd y_Tt_lastPlanned b_Tt_lastPlanned 3 (some .int)) m_Tt_lastPlanned (dk_Pp [.ref t] G K ([(t, .inr (6, [.ref t_plans])), (t_plans, .inl (K 2, 24, .inr (.inr (.inr (.inr g)))))] ++ PL)) (dk_Qp (some (.int o))) 0 0 (fun _ => False) := by
  refine Met.ofW (cc := b_Tt_lastPlanned) (maxL := 3) (ret := (some .int)) (by decide) rfl ?_
  intro p e s m args below meth c s₁ B hml hv
  obtain ⟨rfl, hP, hK, hN⟩ := hv
  have hx := B.exec
  have hb := B.bytes
  have hr := B.returns
  have hts : ∀ w ∈ lw_good, w.before _ s = true := fun w h => atoms_spec (ws := wd y_Tt_lastPlanned b_Tt_lastPlanned 3 (some .int)) B.pre w (List.mem_cons_of_mem _ h)
  have hown : s.vm.findClass R_Tt = some m.cls := findClass_of_methodNamed B.named
  have hlocks := B.notSynchronized
  have hfix : CallFix p m c b_Tt_lastPlanned 3 s _ lw_good R_Tt := ⟨hx, hb, hml, hown, hts⟩
  have hP0 := hP
  have hPT := tp_pl hP
  have hP : va_P G classes [(t, .inr (6, [.ref t_plans])), (t_plans, .inl (K 2, 24, .inr (.inr (.inr (.inr g)))))] s.heap := tp_x hP
  have hl := lv_entry ([.ref t]) (n := 3) (Nat.le_of_ble_eq_true rfl)
  rw [lg_entry_eq]
  generalize (lg_sl ([.ref t]) ++ List.replicate (3 - (lg_sl ([.ref t])).length) Slot.unset).toArray = ls at hl ⊢
  have hl : lv_has ls 3 [(0, .ref t)] := hl
  change W p l e m_Tt_lastPlanned s m _ below meth c s.heap [] 0 0 _ _
  have L4 : ∀ (k : Nat) (z1 : Int32) (z2 : Int32) (q : Int32), p_Tt_lastPlanned_4 n k T z1 z2 = some q → ∀ ls : Array Slot, lv_has ls 3 [(0, .ref t), (1, .int z1), (2, .int z2)] → (∀ (ls1 : Array Slot), lv_has ls1 3 [(1, .int q)] → W p l e m_Tt_lastPlanned s m ([.ref t] : List Value).toArray below meth c s.heap [] 0 0 (MQ below (dk_Qp (some (.int o))) ([.ref t] : List Value).toArray s 0 0 (fun _ => False)) (F0 m 31 ls1 [])) → W p l e m_Tt_lastPlanned s m ([.ref t] : List Value).toArray below meth c s.heap [] 0 0 (MQ below (dk_Qp (some (.int o))) ([.ref t] : List Value).toArray s 0 0 (fun _ => False)) (F0 m 4 ls []) := by
    intro k
    induction k with
    | zero =>
      intro z1 z2 q hF ls hl hk
      exact absurd hF (by simp [p_Tt_lastPlanned_4])
    | succ k jh =>
      intro z1 z2 q hF ls hl hk
      have hF := (q_Tt_lastPlanned_4 n k T z1 z2).symm.trans hF
      refine lv_iload_n hx hb d_Tt_lastPlanned_4 rfl (lv_at hl 2 rfl) ?_
      refine lv_bipush (v := (24 : Int32)) hx hb d_Tt_lastPlanned_5 (by decide) ?_
      refine lv_icmp_ge (tgt := 31) hx hb d_Tt_lastPlanned_7 (by decide) (fun c7_1 => ?_) (fun c7_1 => ?_)
      · have hF := dk_t c7_1 hF
        obtain rfl := Option.some.inj hF
        exact hk ls (lv_sub hl [1] rfl)
      · have hF := dk_f c7_1 hF
        refine lv_aload_n hx hb d_Tt_lastPlanned_10 rfl (lv_at hl 0 rfl) ?_
        refine va_get (D := G) (ci := 6) (v := .ref t_plans) (C := R_Tt) (T := F_Tt) (N := 1) hx hb hts i_Tt hown hK hP 0 rfl rfl 0 (by decide) (hts _ lk_327) (fun _ h9 => h9) rfl d_Tt_lastPlanned_11 ?_
        refine lv_iload_n hx hb d_Tt_lastPlanned_14 rfl (lv_at hl 2 rfl) ?_
        obtain ⟨hi, hF⟩ := dk_a hF
        refine va_aldq (D := G) hx hb hK hP 1 2 rfl rfl (dk_vp hi) d_Tt_lastPlanned_15 ?_
        rcases tp_at hT hi with ⟨eT, eg⟩ | ⟨h15_2, h15_2_am, h15_2_sw, h15_2_a, h15_2_o, eT, eg, m1, m2⟩
        · rw [eg]
          refine W.eq (g2 := F0 m 16 ls [.null]) rfl ?_
          have hF := tp_n eT hF
          refine lv_ifnonnullN hx hb d_Tt_lastPlanned_16 ?_
          refine lv_iload_n hx hb d_Tt_lastPlanned_19 rfl (lv_at hl 1 rfl) ?_
          refine lv_goto (tgt := 24) hx hb d_Tt_lastPlanned_20 (by decide) ?_
          refine lv_istore_n (lv' := [(1, .int z1), (0, .ref t), (2, .int z2)]) hx hb d_Tt_lastPlanned_24 rfl hl (by decide) rfl (fun ls hl => ?_)
          refine lv_iinc (v := z2 + (1 : Int32)) (lv' := [(2, .int (z2 + (1 : Int32))), (1, .int z1), (0, .ref t)]) hx hb d_Tt_lastPlanned_25 hl (k := 2) rfl rfl (by decide) rfl (fun ls hl => ?_)
          refine lv_goto (tgt := 4) hx hb d_Tt_lastPlanned_28 (by decide) ?_
          exact jh z1 (z2 + (1 : Int32)) q hF ls (lv_sub hl [2, 1, 0] rfl) hk
        · rw [eg]
          refine W.eq (g2 := F0 m 16 ls [.ref h15_2_a]) rfl ?_
          have hF := tp_s eT hF
          have hP : va_P G classes [(t, .inr (6, [.ref t_plans])), (t_plans, .inl (K 2, 24, .inr (.inr (.inr (.inr g))))), (h15_2_a, .inr (2, [.ref h15_2_o, .int h15_2.1, .int h15_2.2.1, .int h15_2_am, .int h15_2_sw])), (h15_2_o, .inl (K 0, 5, .inl h15_2.2.2))] s.heap := hP.app (tp_two hPT m1 m2)
          refine lv_ifnonnull (tgt := 23) hx hb d_Tt_lastPlanned_16 (by decide) ?_
          refine lv_iload_n hx hb d_Tt_lastPlanned_23 rfl (lv_at hl 2 rfl) ?_
          refine lv_istore_n (lv' := [(1, .int z2), (0, .ref t), (2, .int z2)]) hx hb d_Tt_lastPlanned_24 rfl hl (by decide) rfl (fun ls hl => ?_)
          refine lv_iinc (v := z2 + (1 : Int32)) (lv' := [(2, .int (z2 + (1 : Int32))), (1, .int z2), (0, .ref t)]) hx hb d_Tt_lastPlanned_25 hl (k := 2) rfl rfl (by decide) rfl (fun ls hl => ?_)
          refine lv_goto (tgt := 4) hx hb d_Tt_lastPlanned_28 (by decide) ?_
          exact jh z2 (z2 + (1 : Int32)) q hF ls (lv_sub hl [2, 1, 0] rfl) hk
  unfold p_Tt_lastPlanned at hF
  refine lv_iconst (v := ((-1) : Int32)) hx hb d_Tt_lastPlanned_0 (by decide) ?_
  refine lv_istore_n (lv' := [(1, .int ((-1) : Int32)), (0, .ref t)]) hx hb d_Tt_lastPlanned_1 rfl hl (by decide) rfl (fun ls hl => ?_)
  refine lv_iconst (v := (0 : Int32)) hx hb d_Tt_lastPlanned_2 (by decide) ?_
  refine lv_istore_n (lv' := [(2, .int (0 : Int32)), (1, .int ((-1) : Int32)), (0, .ref t)]) hx hb d_Tt_lastPlanned_3 rfl hl (by decide) rfl (fun ls hl => ?_)
  obtain ⟨q4_3, hC, hF⟩ := dk_b hF
  refine L4 n ((-1) : Int32) (0 : Int32) q4_3 hC ls (lv_sub hl [2, 1, 0] rfl) (fun ls hl => ?_)
  refine lv_iload_n hx hb d_Tt_lastPlanned_31 rfl (lv_at hl 0 rfl) ?_
  obtain rfl := Option.some.inj hF
  exact W.iret (v := q4_3) hx hb hr (fun t ht hW => ⟨rfl, ht⟩) (fun _ h => by cases h) d_Tt_lastPlanned_32
def p_Tt_changeCost (n : Nat) (x1 : Int32) (x2 : Int32) (x3 : Int32) (T : Nat → Option (Int32 × Int32 × (Nat → Int32))) : Option (Int64) :=
  (p_WO_within n x1.toInt64 (0 : Int64) (23 : Int64)).bind fun r6_1 =>
  if r6_1 = 0 then
    some ((-1) : Int64)
  else
    (p_WO_within n x2.toInt64 (0 : Int64) (23 : Int64)).bind fun r18_3 =>
    if r18_3 = 0 then
      some ((-1) : Int64)
    else
      if dk_in x1 24 = true then
        (T x1.toNatClampNeg).elim (
          if dk_in x2 24 = true then
            (T x2.toNatClampNeg).elim (
              some ((-1) : Int64)) (fun h41_6 =>
              some ((-1) : Int64))
          else none) (fun h33_5 =>
          if dk_in x2 24 = true then
            (T x2.toNatClampNeg).elim (
              some ((-1) : Int64)) (fun h41_7 =>
              if h33_5.2.1 = x3 then
                if h41_7.2.1 = x3 then
                  (p_Plan_turnsTo n h33_5.2.1 h41_7.2.2 h33_5.2.2 h41_7.1).bind fun r80_10 =>
                  if h33_5.1 = h41_7.1 then
                    some ((r80_10 + (0 : Int32)).toInt64)
                  else
                    some ((r80_10 + (100 : Int32)).toInt64)
                else
                  some ((-1) : Int64)
              else
                some ((-1) : Int64))
          else none)
      else none
abbrev m_Tt_changeCost : Room := { frames := 3, cells := 0, slots := 0, locals := 67 }
set_option maxHeartbeats 4000000 in
set_option maxRecDepth 100000 in
theorem c_Tt_changeCost (l : Launch) (G : va_G) (K : Nat → ClassId) (n : Nat) (t : Nat) (t_plans : Nat) (g : Nat → Option Nat) (T : Nat → Option (Int32 × Int32 × (Nat → Int32))) (PL : va_W) (hT : tp K T g PL) (x1 : Int32) (x2 : Int32) (x3 : Int32) (o : Int64) (hF : p_Tt_changeCost n x1 x2 x3 T = some o) :
    Met l y_Tt_changeCost (wd y_Tt_changeCost b_Tt_changeCost 6 (some .long)) m_Tt_changeCost (dk_Pp [.ref t, .int x1, .int x2, .int x3] G K ([(t, .inr (6, [.ref t_plans])), (t_plans, .inl (K 2, 24, .inr (.inr (.inr (.inr g)))))] ++ PL)) (dk_Qp (some (.long o))) 0 0 (fun _ => False) := by
  refine Met.ofW (cc := b_Tt_changeCost) (maxL := 6) (ret := (some .long)) (by decide) rfl ?_
  intro p e s m args below meth c s₁ B hml hv
  obtain ⟨rfl, hP, hK, hN⟩ := hv
  have hx := B.exec
  have hb := B.bytes
  have hr := B.returns
  have hts : ∀ w ∈ lw_good, w.before _ s = true := fun w h => atoms_spec (ws := wd y_Tt_changeCost b_Tt_changeCost 6 (some .long)) B.pre w (List.mem_cons_of_mem _ h)
  have hown : s.vm.findClass R_Tt = some m.cls := findClass_of_methodNamed B.named
  have hlocks := B.notSynchronized
  have hfix : CallFix p m c b_Tt_changeCost 6 s _ lw_good R_Tt := ⟨hx, hb, hml, hown, hts⟩
  have hP0 := hP
  have hPT := tp_pl hP
  have hP : va_P G classes [(t, .inr (6, [.ref t_plans])), (t_plans, .inl (K 2, 24, .inr (.inr (.inr (.inr g)))))] s.heap := tp_x hP
  have hl := lv_entry ([.ref t, .int x1, .int x2, .int x3]) (n := 6) (Nat.le_of_ble_eq_true rfl)
  rw [lg_entry_eq]
  generalize (lg_sl ([.ref t, .int x1, .int x2, .int x3]) ++ List.replicate (6 - (lg_sl ([.ref t, .int x1, .int x2, .int x3])).length) Slot.unset).toArray = ls at hl ⊢
  have hl : lv_has ls 6 [(0, .ref t), (1, .int x1), (2, .int x2), (3, .int x3)] := hl
  change W p l e m_Tt_changeCost s m _ below meth c s.heap [] 0 0 _ _
  unfold p_Tt_changeCost at hF
  refine lv_iload_n hx hb d_Tt_changeCost_0 rfl (lv_at hl 1 rfl) ?_
  refine lv_i2l hx hb d_Tt_changeCost_1 rfl ?_
  refine lv_lconst (v := (0 : Int64)) hx hb d_Tt_changeCost_2 (by decide) ?_
  refine lv_ldc2 (own := R_Tt) (index := 17) (v := (23 : Int64)) hx hb hown (hts _ lk_328) d_Tt_changeCost_3 ?_
  obtain ⟨r6_1, hC, hF⟩ := dk_b hF
  refine dk_pure (va_runSN (As := [.long x1.toInt64, .long (0 : Int64), .long (23 : Int64)]) (rest := []) hfix (c_WO_within l G K n x1.toInt64 (0 : Int64) (23 : Int64) r6_1 hC) (⟨va_cnB 3 hts (gd_w lk_136) rfl rfl rfl (hN.1 _ lk_329) (hts _ lk_16) (by decide +kernel) ⟨Nat.le_of_ble_eq_true rfl, Nat.le_of_ble_eq_true rfl⟩, hts _ lk_137, trivial⟩) (dk_preS hK hN (hP.sub [] rfl)) rfl rfl hl.1 rfl (lv_room (Nat.le_of_ble_eq_true rfl)) d_Tt_changeCost_6 ⟨Nat.le_of_ble_eq_true rfl, Nat.le_of_ble_eq_true rfl⟩) ?_
  refine lv_if_eq (tgt := 24) hx hb d_Tt_changeCost_9 (by decide) (fun c9_2 => ?_) (fun c9_2 => ?_)
  · have hF := dk_t c9_2 hF
    refine lv_ldc2 (own := R_Tt) (index := 39) (v := ((-1) : Int64)) hx hb hown (hts _ lk_330) d_Tt_changeCost_24 ?_
    obtain rfl := Option.some.inj hF
    exact W.lret (v := ((-1) : Int64)) hx hb hr (fun t ht hW => ⟨rfl, ht⟩) (fun _ h => by cases h) d_Tt_changeCost_27
  · have hF := dk_f c9_2 hF
    refine lv_iload_n hx hb d_Tt_changeCost_12 rfl (lv_at hl 2 rfl) ?_
    refine lv_i2l hx hb d_Tt_changeCost_13 rfl ?_
    refine lv_lconst (v := (0 : Int64)) hx hb d_Tt_changeCost_14 (by decide) ?_
    refine lv_ldc2 (own := R_Tt) (index := 17) (v := (23 : Int64)) hx hb hown (hts _ lk_328) d_Tt_changeCost_15 ?_
    obtain ⟨r18_3, hC, hF⟩ := dk_b hF
    refine dk_pure (va_runSN (As := [.long x2.toInt64, .long (0 : Int64), .long (23 : Int64)]) (rest := []) hfix (c_WO_within l G K n x2.toInt64 (0 : Int64) (23 : Int64) r18_3 hC) (⟨va_cnB 3 hts (gd_w lk_136) rfl rfl rfl (hN.1 _ lk_329) (hts _ lk_16) (by decide +kernel) ⟨Nat.le_of_ble_eq_true rfl, Nat.le_of_ble_eq_true rfl⟩, hts _ lk_137, trivial⟩) (dk_preS hK hN (hP.sub [] rfl)) rfl rfl hl.1 rfl (lv_room (Nat.le_of_ble_eq_true rfl)) d_Tt_changeCost_18 ⟨Nat.le_of_ble_eq_true rfl, Nat.le_of_ble_eq_true rfl⟩) ?_
    refine lv_if_ne (tgt := 28) hx hb d_Tt_changeCost_21 (by decide) (fun c21_4 => ?_) (fun c21_4 => ?_)
    · have hF := dk_f c21_4 hF
      refine lv_aload_n hx hb d_Tt_changeCost_28 rfl (lv_at hl 0 rfl) ?_
      refine va_get (D := G) (ci := 6) (v := .ref t_plans) (C := R_Tt) (T := F_Tt) (N := 1) hx hb hts i_Tt hown hK hP 0 rfl rfl 0 (by decide) (hts _ lk_327) (fun _ h9 => h9) rfl d_Tt_changeCost_29 ?_
      refine lv_iload_n hx hb d_Tt_changeCost_32 rfl (lv_at hl 1 rfl) ?_
      obtain ⟨hi, hF⟩ := dk_a hF
      refine va_aldq (D := G) hx hb hK hP 1 2 rfl rfl (dk_vp hi) d_Tt_changeCost_33 ?_
      rcases tp_at hT hi with ⟨eT, eg⟩ | ⟨h33_5, h33_5_am, h33_5_sw, h33_5_a, h33_5_o, eT, eg, m1, m2⟩
      · rw [eg]
        refine W.eq (g2 := F0 m 34 ls [.null]) rfl ?_
        have hF := tp_n eT hF
        refine lv_astoreN (lv' := [(4, .null), (0, .ref t), (1, .int x1), (2, .int x2), (3, .int x3)]) hx hb d_Tt_changeCost_34 hl (by decide) rfl (fun ls hl => ?_)
        refine lv_aload_n hx hb d_Tt_changeCost_36 rfl (lv_at hl 1 rfl) ?_
        refine va_get (D := G) (ci := 6) (v := .ref t_plans) (C := R_Tt) (T := F_Tt) (N := 1) hx hb hts i_Tt hown hK hP 0 rfl rfl 0 (by decide) (hts _ lk_327) (fun _ h9 => h9) rfl d_Tt_changeCost_37 ?_
        refine lv_iload_n hx hb d_Tt_changeCost_40 rfl (lv_at hl 3 rfl) ?_
        obtain ⟨hi, hF⟩ := dk_a hF
        refine va_aldq (D := G) hx hb hK hP 1 2 rfl rfl (dk_vp hi) d_Tt_changeCost_41 ?_
        rcases tp_at hT hi with ⟨eT, eg⟩ | ⟨h41_6, h41_6_am, h41_6_sw, h41_6_a, h41_6_o, eT, eg, m1, m2⟩
        · rw [eg]
          refine W.eq (g2 := F0 m 42 ls [.null]) rfl ?_
          have hF := tp_n eT hF
          refine lv_astoreN (lv' := [(5, .null), (4, .null), (0, .ref t), (1, .int x1), (2, .int x2), (3, .int x3)]) hx hb d_Tt_changeCost_42 hl (by decide) rfl (fun ls hl => ?_)
          refine lv_aloadN hx hb d_Tt_changeCost_44 (lv_at hl 1 rfl) ?_
          refine lv_ifnullN (tgt := 72) hx hb d_Tt_changeCost_46 (by decide) ?_
          refine lv_ldc2 (own := R_Tt) (index := 39) (v := ((-1) : Int64)) hx hb hown (hts _ lk_330) d_Tt_changeCost_72 ?_
          obtain rfl := Option.some.inj hF
          exact W.lret (v := ((-1) : Int64)) hx hb hr (fun t ht hW => ⟨rfl, ht⟩) (fun _ h => by cases h) d_Tt_changeCost_75
        · rw [eg]
          refine W.eq (g2 := F0 m 42 ls [.ref h41_6_a]) rfl ?_
          have hF := tp_s eT hF
          have hP : va_P G classes [(t, .inr (6, [.ref t_plans])), (t_plans, .inl (K 2, 24, .inr (.inr (.inr (.inr g))))), (h41_6_a, .inr (2, [.ref h41_6_o, .int h41_6.1, .int h41_6.2.1, .int h41_6_am, .int h41_6_sw])), (h41_6_o, .inl (K 0, 5, .inl h41_6.2.2))] s.heap := hP.app (tp_two hPT m1 m2)
          refine lv_astore (lv' := [(5, .ref h41_6_a), (4, .null), (0, .ref t), (1, .int x1), (2, .int x2), (3, .int x3)]) hx hb d_Tt_changeCost_42 hl (by decide) rfl (fun ls hl => ?_)
          refine lv_aloadN hx hb d_Tt_changeCost_44 (lv_at hl 1 rfl) ?_
          refine lv_ifnullN (tgt := 72) hx hb d_Tt_changeCost_46 (by decide) ?_
          refine lv_ldc2 (own := R_Tt) (index := 39) (v := ((-1) : Int64)) hx hb hown (hts _ lk_330) d_Tt_changeCost_72 ?_
          obtain rfl := Option.some.inj hF
          exact W.lret (v := ((-1) : Int64)) hx hb hr (fun t ht hW => ⟨rfl, ht⟩) (fun _ h => by cases h) d_Tt_changeCost_75
      · rw [eg]
        refine W.eq (g2 := F0 m 34 ls [.ref h33_5_a]) rfl ?_
        have hF := tp_s eT hF
        have hP : va_P G classes [(t, .inr (6, [.ref t_plans])), (t_plans, .inl (K 2, 24, .inr (.inr (.inr (.inr g))))), (h33_5_a, .inr (2, [.ref h33_5_o, .int h33_5.1, .int h33_5.2.1, .int h33_5_am, .int h33_5_sw])), (h33_5_o, .inl (K 0, 5, .inl h33_5.2.2))] s.heap := hP.app (tp_two hPT m1 m2)
        refine lv_astore (lv' := [(4, .ref h33_5_a), (0, .ref t), (1, .int x1), (2, .int x2), (3, .int x3)]) hx hb d_Tt_changeCost_34 hl (by decide) rfl (fun ls hl => ?_)
        refine lv_aload_n hx hb d_Tt_changeCost_36 rfl (lv_at hl 1 rfl) ?_
        refine va_get (D := G) (ci := 6) (v := .ref t_plans) (C := R_Tt) (T := F_Tt) (N := 1) hx hb hts i_Tt hown hK hP 0 rfl rfl 0 (by decide) (hts _ lk_327) (fun _ h9 => h9) rfl d_Tt_changeCost_37 ?_
        refine lv_iload_n hx hb d_Tt_changeCost_40 rfl (lv_at hl 3 rfl) ?_
        obtain ⟨hi, hF⟩ := dk_a hF
        refine va_aldq (D := G) hx hb hK hP 1 2 rfl rfl (dk_vp hi) d_Tt_changeCost_41 ?_
        rcases tp_at hT hi with ⟨eT, eg⟩ | ⟨h41_7, h41_7_am, h41_7_sw, h41_7_a, h41_7_o, eT, eg, m1, m2⟩
        · rw [eg]
          refine W.eq (g2 := F0 m 42 ls [.null]) rfl ?_
          have hF := tp_n eT hF
          refine lv_astoreN (lv' := [(5, .null), (4, .ref h33_5_a), (0, .ref t), (1, .int x1), (2, .int x2), (3, .int x3)]) hx hb d_Tt_changeCost_42 hl (by decide) rfl (fun ls hl => ?_)
          refine lv_aload hx hb d_Tt_changeCost_44 (lv_at hl 1 rfl) ?_
          refine lv_ifnull hx hb d_Tt_changeCost_46 ?_
          refine lv_aloadN hx hb d_Tt_changeCost_49 (lv_at hl 0 rfl) ?_
          refine lv_ifnullN (tgt := 72) hx hb d_Tt_changeCost_51 (by decide) ?_
          refine lv_ldc2 (own := R_Tt) (index := 39) (v := ((-1) : Int64)) hx hb hown (hts _ lk_330) d_Tt_changeCost_72 ?_
          obtain rfl := Option.some.inj hF
          exact W.lret (v := ((-1) : Int64)) hx hb hr (fun t ht hW => ⟨rfl, ht⟩) (fun _ h => by cases h) d_Tt_changeCost_75
        · rw [eg]
          refine W.eq (g2 := F0 m 42 ls [.ref h41_7_a]) rfl ?_
          have hF := tp_s eT hF
          have hP : va_P G classes [(t, .inr (6, [.ref t_plans])), (t_plans, .inl (K 2, 24, .inr (.inr (.inr (.inr g))))), (h33_5_a, .inr (2, [.ref h33_5_o, .int h33_5.1, .int h33_5.2.1, .int h33_5_am, .int h33_5_sw])), (h33_5_o, .inl (K 0, 5, .inl h33_5.2.2)), (h41_7_a, .inr (2, [.ref h41_7_o, .int h41_7.1, .int h41_7.2.1, .int h41_7_am, .int h41_7_sw])), (h41_7_o, .inl (K 0, 5, .inl h41_7.2.2))] s.heap := hP.app (tp_two hPT m1 m2)
          refine lv_astore (lv' := [(5, .ref h41_7_a), (4, .ref h33_5_a), (0, .ref t), (1, .int x1), (2, .int x2), (3, .int x3)]) hx hb d_Tt_changeCost_42 hl (by decide) rfl (fun ls hl => ?_)
          refine lv_aload hx hb d_Tt_changeCost_44 (lv_at hl 1 rfl) ?_
          refine lv_ifnull hx hb d_Tt_changeCost_46 ?_
          refine lv_aload hx hb d_Tt_changeCost_49 (lv_at hl 0 rfl) ?_
          refine lv_ifnull hx hb d_Tt_changeCost_51 ?_
          refine lv_aload hx hb d_Tt_changeCost_54 (lv_at hl 1 rfl) ?_
          refine va_getN (D := G) (ci := 2) (v := .int h33_5.2.1) (C := R_Plan) (T := F_Plan) (N := 5) hx hb hts i_Plan hown hK hP 2 rfl rfl 2 (by decide) (va_Nw.use rfl (hN.1 _ lk_331)) (fun _ h9 => h9) rfl d_Tt_changeCost_56 ?_
          refine lv_iload_n hx hb d_Tt_changeCost_59 rfl (lv_at hl 5 rfl) ?_
          refine lv_icmp_ne (tgt := 72) hx hb d_Tt_changeCost_60 (by decide) (fun c60_8 => ?_) (fun c60_8 => ?_)
          · have hF := dk_f c60_8 hF
            refine lv_ldc2 (own := R_Tt) (index := 39) (v := ((-1) : Int64)) hx hb hown (hts _ lk_330) d_Tt_changeCost_72 ?_
            obtain rfl := Option.some.inj hF
            exact W.lret (v := ((-1) : Int64)) hx hb hr (fun t ht hW => ⟨rfl, ht⟩) (fun _ h => by cases h) d_Tt_changeCost_75
          · have hF := dk_t c60_8 hF
            refine lv_aload hx hb d_Tt_changeCost_63 (lv_at hl 0 rfl) ?_
            refine va_getN (D := G) (ci := 2) (v := .int h41_7.2.1) (C := R_Plan) (T := F_Plan) (N := 5) hx hb hts i_Plan hown hK hP 4 rfl rfl 2 (by decide) (va_Nw.use rfl (hN.1 _ lk_331)) (fun _ h9 => h9) rfl d_Tt_changeCost_65 ?_
            refine lv_iload_n hx hb d_Tt_changeCost_68 rfl (lv_at hl 5 rfl) ?_
            refine lv_icmp_eq (tgt := 76) hx hb d_Tt_changeCost_69 (by decide) (fun c69_9 => ?_) (fun c69_9 => ?_)
            · have hF := dk_t c69_9 hF
              refine lv_aload hx hb d_Tt_changeCost_76 (lv_at hl 1 rfl) ?_
              refine lv_aload hx hb d_Tt_changeCost_78 (lv_at hl 0 rfl) ?_
              obtain ⟨r80_10, hC, hF⟩ := dk_b hF
              refine dk_pure (va_runV (As := [.ref h41_7_a]) (rest := []) hfix (c_Plan_turnsTo l G K n h33_5_a h33_5_o h41_7_a h41_7_o h33_5.1 h33_5.2.1 h33_5_am h33_5_sw h33_5.2.2 h41_7.1 h41_7.2.1 h41_7_am h41_7_sw h41_7.2.2 r80_10 hC) (cwV 1 hts (gd_V lk_332 lk_334 lk_335 lk_94 lk_333) rfl rfl rfl (by decide +kernel) ⟨Nat.le_of_ble_eq_true rfl, Nat.le_of_ble_eq_true rfl⟩) (dk_preV hK hN (hP.sub [2, 3, 4, 5] rfl) (va_recv hK hP (ci := 2) (q0 := 2) rfl rfl)) rfl rfl hl.1 rfl (lv_room (Nat.le_of_ble_eq_true rfl)) d_Tt_changeCost_80 ⟨Nat.le_of_ble_eq_true rfl, Nat.le_of_ble_eq_true rfl⟩) ?_
              refine lv_aload hx hb d_Tt_changeCost_83 (lv_at hl 1 rfl) ?_
              refine va_getN (D := G) (ci := 2) (v := .int h33_5.1) (C := R_Plan) (T := F_Plan) (N := 5) hx hb hts i_Plan hown hK hP 2 rfl rfl 1 (by decide) (va_Nw.use rfl (hN.1 _ lk_336)) (fun _ h9 => h9) rfl d_Tt_changeCost_85 ?_
              refine lv_aload hx hb d_Tt_changeCost_88 (lv_at hl 0 rfl) ?_
              refine va_getN (D := G) (ci := 2) (v := .int h41_7.1) (C := R_Plan) (T := F_Plan) (N := 5) hx hb hts i_Plan hown hK hP 4 rfl rfl 1 (by decide) (va_Nw.use rfl (hN.1 _ lk_336)) (fun _ h9 => h9) rfl d_Tt_changeCost_90 ?_
              refine lv_icmp_ne (tgt := 100) hx hb d_Tt_changeCost_93 (by decide) (fun c93_11 => ?_) (fun c93_11 => ?_)
              · have hF := dk_f c93_11 hF
                refine lv_bipush (v := (100 : Int32)) hx hb d_Tt_changeCost_100 (by decide) ?_
                refine lv_iadd hx hb d_Tt_changeCost_102 ?_
                refine lv_i2l hx hb d_Tt_changeCost_103 rfl ?_
                obtain rfl := Option.some.inj hF
                exact W.lret (v := (r80_10 + (100 : Int32)).toInt64) hx hb hr (fun t ht hW => ⟨rfl, ht⟩) (fun _ h => by cases h) d_Tt_changeCost_104
              · have hF := dk_t c93_11 hF
                refine lv_iconst (v := (0 : Int32)) hx hb d_Tt_changeCost_96 (by decide) ?_
                refine lv_goto (tgt := 102) hx hb d_Tt_changeCost_97 (by decide) ?_
                refine lv_iadd hx hb d_Tt_changeCost_102 ?_
                refine lv_i2l hx hb d_Tt_changeCost_103 rfl ?_
                obtain rfl := Option.some.inj hF
                exact W.lret (v := (r80_10 + (0 : Int32)).toInt64) hx hb hr (fun t ht hW => ⟨rfl, ht⟩) (fun _ h => by cases h) d_Tt_changeCost_104
            · have hF := dk_f c69_9 hF
              refine lv_ldc2 (own := R_Tt) (index := 39) (v := ((-1) : Int64)) hx hb hown (hts _ lk_330) d_Tt_changeCost_72 ?_
              obtain rfl := Option.some.inj hF
              exact W.lret (v := ((-1) : Int64)) hx hb hr (fun t ht hW => ⟨rfl, ht⟩) (fun _ h => by cases h) d_Tt_changeCost_75
    · have hF := dk_t c21_4 hF
      refine lv_ldc2 (own := R_Tt) (index := 39) (v := ((-1) : Int64)) hx hb hown (hts _ lk_330) d_Tt_changeCost_24 ?_
      obtain rfl := Option.some.inj hF
      exact W.lret (v := ((-1) : Int64)) hx hb hr (fun t ht hW => ⟨rfl, ht⟩) (fun _ h => by cases h) d_Tt_changeCost_27
def p_Tt_dayCost_21 (n : Nat) : Nat → (Nat → Option (Int32 × Int32 × (Nat → Int32))) → Int32 → Int64 → Int32 → Int32 → Option (Int64)
  | 0, _, _, _, _, _ => none
  | k + 1, T, z1, z2, z4, z5 =>
    if (24 : Int32) ≤ z5 then
      some z2
    else
      if dk_in z5 24 = true then
        (T z5.toNatClampNeg).elim (
          p_Tt_dayCost_21 n k T z1 z2 z4 (z5 + (1 : Int32))) (fun h34_5 =>
          (p_Tt_changeCost n z4 z5 z1 T).bind fun r44_6 =>
          if (lg_cmp r44_6 ((-1) : Int64)) = 0 then
            some ((-1) : Int64)
          else
            p_Tt_dayCost_21 n k T z1 (z2 + r44_6) z5 (z5 + (1 : Int32)))
      else none
theorem q_Tt_dayCost_21 (n k : Nat) (T : Nat → Option (Int32 × Int32 × (Nat → Int32))) (z1 : Int32) (z2 : Int64) (z4 : Int32) (z5 : Int32) : p_Tt_dayCost_21 n (k + 1) T z1 z2 z4 z5 =
    if (24 : Int32) ≤ z5 then
      some z2
    else
      if dk_in z5 24 = true then
        (T z5.toNatClampNeg).elim (
          p_Tt_dayCost_21 n k T z1 z2 z4 (z5 + (1 : Int32))) (fun h34_5 =>
          (p_Tt_changeCost n z4 z5 z1 T).bind fun r44_6 =>
          if (lg_cmp r44_6 ((-1) : Int64)) = 0 then
            some ((-1) : Int64)
          else
            p_Tt_dayCost_21 n k T z1 (z2 + r44_6) z5 (z5 + (1 : Int32)))
      else none := rfl
def p_Tt_dayCost (n : Nat) (x1 : Int32) (T : Nat → Option (Int32 × Int32 × (Nat → Int32))) : Option (Int64) :=
  (p_Tt_planned n T).bind fun r1_1 =>
  if (2 : Int32) ≤ r1_1 then
    (p_Tt_lastPlanned n T).bind fun r13_3 =>
    p_Tt_dayCost_21 n n T x1 (0 : Int64) r13_3 (0 : Int32)
  else
    some (0 : Int64)
abbrev m_Tt_dayCost : Room := { frames := 4, cells := 0, slots := 0, locals := 92 }
set_option maxHeartbeats 4000000 in
set_option maxRecDepth 100000 in
theorem c_Tt_dayCost (l : Launch) (G : va_G) (K : Nat → ClassId) (n : Nat) (t : Nat) (t_plans : Nat) (g : Nat → Option Nat) (T : Nat → Option (Int32 × Int32 × (Nat → Int32))) (PL : va_W) (hT : tp K T g PL) (x1 : Int32) (o : Int64) (hF : p_Tt_dayCost n x1 T = some o) :
    Met l y_Tt_dayCost (wd y_Tt_dayCost b_Tt_dayCost 8 (some .long)) m_Tt_dayCost (dk_Pp [.ref t, .int x1] G K ([(t, .inr (6, [.ref t_plans])), (t_plans, .inl (K 2, 24, .inr (.inr (.inr (.inr g)))))] ++ PL)) (dk_Qp (some (.long o))) 0 0 (fun _ => False) := by
  refine Met.ofW (cc := b_Tt_dayCost) (maxL := 8) (ret := (some .long)) (by decide) rfl ?_
  intro p e s m args below meth c s₁ B hml hv
  obtain ⟨rfl, hP, hK, hN⟩ := hv
  have hx := B.exec
  have hb := B.bytes
  have hr := B.returns
  have hts : ∀ w ∈ lw_good, w.before _ s = true := fun w h => atoms_spec (ws := wd y_Tt_dayCost b_Tt_dayCost 8 (some .long)) B.pre w (List.mem_cons_of_mem _ h)
  have hown : s.vm.findClass R_Tt = some m.cls := findClass_of_methodNamed B.named
  have hlocks := B.notSynchronized
  have hfix : CallFix p m c b_Tt_dayCost 8 s _ lw_good R_Tt := ⟨hx, hb, hml, hown, hts⟩
  have hP0 := hP
  have hPT := tp_pl hP
  have hP : va_P G classes [(t, .inr (6, [.ref t_plans])), (t_plans, .inl (K 2, 24, .inr (.inr (.inr (.inr g)))))] s.heap := tp_x hP
  have hl := lv_entry ([.ref t, .int x1]) (n := 8) (Nat.le_of_ble_eq_true rfl)
  rw [lg_entry_eq]
  generalize (lg_sl ([.ref t, .int x1]) ++ List.replicate (8 - (lg_sl ([.ref t, .int x1])).length) Slot.unset).toArray = ls at hl ⊢
  have hl : lv_has ls 8 [(0, .ref t), (1, .int x1)] := hl
  change W p l e m_Tt_dayCost s m _ below meth c s.heap [] 0 0 _ _
  have L21 : ∀ (k : Nat) (z1 : Int32) (z2 : Int64) (z4 : Int32) (z5 : Int32), p_Tt_dayCost_21 n k T z1 z2 z4 z5 = some o → ∀ ls : Array Slot, lv_has ls 8 [(0, .ref t), (1, .int z1), (2, .long z2), (4, .int z4), (5, .int z5)] → W p l e m_Tt_dayCost s m ([.ref t, .int x1] : List Value).toArray below meth c s.heap [] 0 0 (MQ below (dk_Qp (some (.long o))) ([.ref t, .int x1] : List Value).toArray s 0 0 (fun _ => False)) (F0 m 21 ls []) := by
    intro k
    induction k with
    | zero =>
      intro z1 z2 z4 z5 hF ls hl
      exact absurd hF (by simp [p_Tt_dayCost_21])
    | succ k jh =>
      intro z1 z2 z4 z5 hF ls hl
      have hF := (q_Tt_dayCost_21 n k T z1 z2 z4 z5).symm.trans hF
      refine lv_iload hx hb d_Tt_dayCost_21 (lv_at hl 4 rfl) ?_
      refine lv_bipush (v := (24 : Int32)) hx hb d_Tt_dayCost_23 (by decide) ?_
      refine lv_icmp_ge (tgt := 77) hx hb d_Tt_dayCost_25 (by decide) (fun c25_4 => ?_) (fun c25_4 => ?_)
      · have hF := dk_t c25_4 hF
        refine lv_lload_n hx hb d_Tt_dayCost_77 rfl (lv_at hl 2 rfl) ?_
        obtain rfl := Option.some.inj hF
        exact W.lret (v := z2) hx hb hr (fun t ht hW => ⟨rfl, ht⟩) (fun _ h => by cases h) d_Tt_dayCost_78
      · have hF := dk_f c25_4 hF
        refine lv_aload_n hx hb d_Tt_dayCost_28 rfl (lv_at hl 0 rfl) ?_
        refine va_get (D := G) (ci := 6) (v := .ref t_plans) (C := R_Tt) (T := F_Tt) (N := 1) hx hb hts i_Tt hown hK hP 0 rfl rfl 0 (by decide) (hts _ lk_327) (fun _ h9 => h9) rfl d_Tt_dayCost_29 ?_
        refine lv_iload hx hb d_Tt_dayCost_32 (lv_at hl 4 rfl) ?_
        obtain ⟨hi, hF⟩ := dk_a hF
        refine va_aldq (D := G) hx hb hK hP 1 2 rfl rfl (dk_vp hi) d_Tt_dayCost_34 ?_
        rcases tp_at hT hi with ⟨eT, eg⟩ | ⟨h34_5, h34_5_am, h34_5_sw, h34_5_a, h34_5_o, eT, eg, m1, m2⟩
        · rw [eg]
          refine W.eq (g2 := F0 m 35 ls [.null]) rfl ?_
          have hF := tp_n eT hF
          refine lv_ifnullN (tgt := 71) hx hb d_Tt_dayCost_35 (by decide) ?_
          refine lv_iinc (v := z5 + (1 : Int32)) (lv' := [(5, .int (z5 + (1 : Int32))), (0, .ref t), (1, .int z1), (2, .long z2), (4, .int z4)]) hx hb d_Tt_dayCost_71 hl (k := 4) rfl rfl (by decide) rfl (fun ls hl => ?_)
          refine lv_goto (tgt := 21) hx hb d_Tt_dayCost_74 (by decide) ?_
          exact jh z1 z2 z4 (z5 + (1 : Int32)) hF ls (lv_sub hl [1, 2, 3, 4, 0] rfl)
        · rw [eg]
          refine W.eq (g2 := F0 m 35 ls [.ref h34_5_a]) rfl ?_
          have hF := tp_s eT hF
          have hP : va_P G classes [(t, .inr (6, [.ref t_plans])), (t_plans, .inl (K 2, 24, .inr (.inr (.inr (.inr g))))), (h34_5_a, .inr (2, [.ref h34_5_o, .int h34_5.1, .int h34_5.2.1, .int h34_5_am, .int h34_5_sw])), (h34_5_o, .inl (K 0, 5, .inl h34_5.2.2))] s.heap := hP.app (tp_two hPT m1 m2)
          refine lv_ifnull hx hb d_Tt_dayCost_35 ?_
          refine lv_aload_n hx hb d_Tt_dayCost_38 rfl (lv_at hl 0 rfl) ?_
          refine lv_iload hx hb d_Tt_dayCost_39 (lv_at hl 3 rfl) ?_
          refine lv_iload hx hb d_Tt_dayCost_41 (lv_at hl 4 rfl) ?_
          refine lv_iload_n hx hb d_Tt_dayCost_43 rfl (lv_at hl 1 rfl) ?_
          obtain ⟨r44_6, hC, hF⟩ := dk_b hF
          refine dk_pure (va_runV (As := [.int z4, .int z5, .int z1]) (rest := []) hfix (c_Tt_changeCost l G K n t t_plans g T PL hT z4 z5 z1 r44_6 hC) (cwV 3 hts (gd_V lk_346 lk_348 lk_349 lk_341 lk_347) rfl rfl rfl (by decide +kernel) ⟨Nat.le_of_ble_eq_true rfl, Nat.le_of_ble_eq_true rfl⟩) (dk_preV hK hN (hP0.part [0, 1] rfl) (va_recv hK hP (ci := 6) (q0 := 0) rfl rfl)) rfl rfl hl.1 rfl (lv_room (Nat.le_of_ble_eq_true rfl)) d_Tt_dayCost_44 ⟨Nat.le_of_ble_eq_true rfl, Nat.le_of_ble_eq_true rfl⟩) ?_
          refine lv_lstore (lv' := [(6, .long r44_6), (0, .ref t), (1, .int z1), (2, .long z2), (4, .int z4), (5, .int z5)]) hx hb d_Tt_dayCost_47 hl (by decide) rfl (fun ls hl => ?_)
          refine lv_lload hx hb d_Tt_dayCost_49 (lv_at hl 0 rfl) ?_
          refine lv_ldc2 (own := R_Tt) (index := 39) (v := ((-1) : Int64)) hx hb hown (hts _ lk_330) d_Tt_dayCost_51 ?_
          refine W.lcmp hx hb d_Tt_dayCost_54 ?_
          refine lv_if_ne (tgt := 62) hx hb d_Tt_dayCost_55 (by decide) (fun c55_7 => ?_) (fun c55_7 => ?_)
          · have hF := dk_f c55_7 hF
            refine lv_lload_n hx hb d_Tt_dayCost_62 rfl (lv_at hl 3 rfl) ?_
            refine lv_lload hx hb d_Tt_dayCost_63 (lv_at hl 0 rfl) ?_
            refine lv_ladd hx hb d_Tt_dayCost_65 ?_
            refine lv_lstore_n (lv' := [(2, .long (z2 + r44_6)), (6, .long r44_6), (0, .ref t), (1, .int z1), (4, .int z4), (5, .int z5)]) hx hb d_Tt_dayCost_66 rfl hl (by decide) rfl (fun ls hl => ?_)
            refine lv_iload hx hb d_Tt_dayCost_67 (lv_at hl 5 rfl) ?_
            refine lv_istore (lv' := [(4, .int z5), (2, .long (z2 + r44_6)), (6, .long r44_6), (0, .ref t), (1, .int z1), (5, .int z5)]) hx hb d_Tt_dayCost_69 hl (by decide) rfl (fun ls hl => ?_)
            refine lv_iinc (v := z5 + (1 : Int32)) (lv' := [(5, .int (z5 + (1 : Int32))), (4, .int z5), (2, .long (z2 + r44_6)), (6, .long r44_6), (0, .ref t), (1, .int z1)]) hx hb d_Tt_dayCost_71 hl (k := 5) rfl rfl (by decide) rfl (fun ls hl => ?_)
            refine lv_goto (tgt := 21) hx hb d_Tt_dayCost_74 (by decide) ?_
            exact jh z1 (z2 + r44_6) z5 (z5 + (1 : Int32)) hF ls (lv_sub hl [4, 5, 2, 1, 0] rfl)
          · have hF := dk_t c55_7 hF
            refine lv_ldc2 (own := R_Tt) (index := 39) (v := ((-1) : Int64)) hx hb hown (hts _ lk_330) d_Tt_dayCost_58 ?_
            obtain rfl := Option.some.inj hF
            exact W.lret (v := ((-1) : Int64)) hx hb hr (fun t ht hW => ⟨rfl, ht⟩) (fun _ h => by cases h) d_Tt_dayCost_61
  unfold p_Tt_dayCost at hF
  refine lv_aload_n hx hb d_Tt_dayCost_0 rfl (lv_at hl 0 rfl) ?_
  obtain ⟨r1_1, hC, hF⟩ := dk_b hF
  refine dk_pure (va_runV (As := []) (rest := []) hfix (c_Tt_planned l G K n t t_plans g T PL hT r1_1 hC) (cwV 0 hts (gd_V lk_337 lk_339 lk_340 lk_341 lk_338) rfl rfl rfl (by decide +kernel) ⟨Nat.le_of_ble_eq_true rfl, Nat.le_of_ble_eq_true rfl⟩) (dk_preV hK hN (hP0.part [0, 1] rfl) (va_recv hK hP (ci := 6) (q0 := 0) rfl rfl)) rfl rfl hl.1 rfl (lv_room (Nat.le_of_ble_eq_true rfl)) d_Tt_dayCost_1 ⟨Nat.le_of_ble_eq_true rfl, Nat.le_of_ble_eq_true rfl⟩) ?_
  refine lv_iconst (v := (2 : Int32)) hx hb d_Tt_dayCost_4 (by decide) ?_
  refine lv_icmp_ge (tgt := 10) hx hb d_Tt_dayCost_5 (by decide) (fun c5_2 => ?_) (fun c5_2 => ?_)
  · have hF := dk_t c5_2 hF
    refine lv_lconst (v := (0 : Int64)) hx hb d_Tt_dayCost_10 (by decide) ?_
    refine lv_lstore_n (lv' := [(2, .long (0 : Int64)), (0, .ref t), (1, .int x1)]) hx hb d_Tt_dayCost_11 rfl hl (by decide) rfl (fun ls hl => ?_)
    refine lv_aload_n hx hb d_Tt_dayCost_12 rfl (lv_at hl 1 rfl) ?_
    obtain ⟨r13_3, hC, hF⟩ := dk_b hF
    refine dk_pure (va_runV (As := []) (rest := []) hfix (c_Tt_lastPlanned l G K n t t_plans g T PL hT r13_3 hC) (cwV 0 hts (gd_V lk_342 lk_344 lk_345 lk_341 lk_343) rfl rfl rfl (by decide +kernel) ⟨Nat.le_of_ble_eq_true rfl, Nat.le_of_ble_eq_true rfl⟩) (dk_preV hK hN (hP0.part [0, 1] rfl) (va_recv hK hP (ci := 6) (q0 := 0) rfl rfl)) rfl rfl hl.1 rfl (lv_room (Nat.le_of_ble_eq_true rfl)) d_Tt_dayCost_13 ⟨Nat.le_of_ble_eq_true rfl, Nat.le_of_ble_eq_true rfl⟩) ?_
    refine lv_istore (lv' := [(4, .int r13_3), (2, .long (0 : Int64)), (0, .ref t), (1, .int x1)]) hx hb d_Tt_dayCost_16 hl (by decide) rfl (fun ls hl => ?_)
    refine lv_iconst (v := (0 : Int32)) hx hb d_Tt_dayCost_18 (by decide) ?_
    refine lv_istore (lv' := [(5, .int (0 : Int32)), (4, .int r13_3), (2, .long (0 : Int64)), (0, .ref t), (1, .int x1)]) hx hb d_Tt_dayCost_19 hl (by decide) rfl (fun ls hl => ?_)
    exact L21 n x1 (0 : Int64) r13_3 (0 : Int32) hF ls (lv_sub hl [3, 4, 2, 1, 0] rfl)
  · have hF := dk_f c5_2 hF
    refine lv_lconst (v := (0 : Int64)) hx hb d_Tt_dayCost_8 (by decide) ?_
    obtain rfl := Option.some.inj hF
    exact W.lret (v := (0 : Int64)) hx hb hr (fun t ht hW => ⟨rfl, ht⟩) (fun _ h => by cases h) d_Tt_dayCost_9
def p_WO_change (n : Nat) (x1 : Int32) (x2 : Int32) (v_t_road_size : Int32) (T : Nat → Option (Int32 × Int32 × (Nat → Int32))) : Option (Int64) :=
  (p_Road_size n v_t_road_size).bind fun r10_1 =>
  (p_Tt_changeCost n x1 x2 r10_1 T).bind fun r13_2 =>
  some r13_2
abbrev m_WO_change : Room := { frames := 4, cells := 0, slots := 0, locals := 92 }
set_option maxHeartbeats 4000000 in
set_option maxRecDepth 100000 in
theorem c_WO_change (l : Launch) (G : va_G) (K : Nat → ClassId) (n : Nat) (t : Nat) (t_road : Nat) (t_search : Nat) (t_atHand : Nat) (t_timetable : Nat) (t_arrivals : Nat) (t_road_greens : Nat) (t_road_leasts : Nat) (t_road_queues : Nat) (t_road_seconds : Nat) (t_road_weights : Nat) (t_timetable_plans : Nat) (g : Nat → Option Nat) (T : Nat → Option (Int32 × Int32 × (Nat → Int32))) (PL : va_W) (hT : tp K T g PL) (x1 : Int32) (x2 : Int32) (v_t_road_size : Int32) (v_t_road_firstCycle : Int32) (v_t_road_lastCycle : Int32) (v_t_road_cycleBy : Int32) (v_t_road_stepSeconds : Int32) (o : Int64) (hF : p_WO_change n x1 x2 v_t_road_size T = some o) :
    Met l y_WO_change (wd y_WO_change b_WO_change 3 (some .long)) m_WO_change (dk_Pp [.ref t, .int x1, .int x2] G K ([(t, .inr (0, [.ref t_road, .ref t_search, .ref t_atHand, .ref t_timetable, .ref t_arrivals])), (t_road, .inr (1, [.ref t_road_greens, .ref t_road_leasts, .ref t_road_queues, .ref t_road_seconds, .ref t_road_weights, .int v_t_road_size, .int v_t_road_firstCycle, .int v_t_road_lastCycle, .int v_t_road_cycleBy, .int v_t_road_stepSeconds])), (t_timetable, .inr (6, [.ref t_timetable_plans])), (t_timetable_plans, .inl (K 2, 24, .inr (.inr (.inr (.inr g)))))] ++ PL)) (dk_Qp (some (.long o))) 0 0 (fun _ => False) := by
  refine Met.ofW (cc := b_WO_change) (maxL := 3) (ret := (some .long)) (by decide) rfl ?_
  intro p e s m args below meth c s₁ B hml hv
  obtain ⟨rfl, hP, hK, hN⟩ := hv
  have hx := B.exec
  have hb := B.bytes
  have hr := B.returns
  have hts : ∀ w ∈ lw_good, w.before _ s = true := fun w h => atoms_spec (ws := wd y_WO_change b_WO_change 3 (some .long)) B.pre w (List.mem_cons_of_mem _ h)
  have hown : s.vm.findClass R_WO = some m.cls := findClass_of_methodNamed B.named
  have hlocks := B.notSynchronized
  have hfix : CallFix p m c b_WO_change 3 s _ lw_good R_WO := ⟨hx, hb, hml, hown, hts⟩
  have hP0 := hP
  have hPT := tp_pl hP
  have hP : va_P G classes [(t, .inr (0, [.ref t_road, .ref t_search, .ref t_atHand, .ref t_timetable, .ref t_arrivals])), (t_road, .inr (1, [.ref t_road_greens, .ref t_road_leasts, .ref t_road_queues, .ref t_road_seconds, .ref t_road_weights, .int v_t_road_size, .int v_t_road_firstCycle, .int v_t_road_lastCycle, .int v_t_road_cycleBy, .int v_t_road_stepSeconds])), (t_timetable, .inr (6, [.ref t_timetable_plans])), (t_timetable_plans, .inl (K 2, 24, .inr (.inr (.inr (.inr g)))))] s.heap := tp_x hP
  have hl := lv_entry ([.ref t, .int x1, .int x2]) (n := 3) (Nat.le_of_ble_eq_true rfl)
  rw [lg_entry_eq]
  generalize (lg_sl ([.ref t, .int x1, .int x2]) ++ List.replicate (3 - (lg_sl ([.ref t, .int x1, .int x2])).length) Slot.unset).toArray = ls at hl ⊢
  have hl : lv_has ls 3 [(0, .ref t), (1, .int x1), (2, .int x2)] := hl
  change W p l e m_WO_change s m _ below meth c s.heap [] 0 0 _ _
  unfold p_WO_change at hF
  refine lv_aload_n hx hb d_WO_change_0 rfl (lv_at hl 0 rfl) ?_
  refine va_get (D := G) (ci := 0) (v := .ref t_timetable) (C := R_WO) (T := F_WO) (N := 5) hx hb hts i_WO hown hK hP 0 rfl rfl 3 (by decide) (hts _ lk_350) (fun _ h9 => h9) rfl d_WO_change_1 ?_
  refine lv_iload_n hx hb d_WO_change_4 rfl (lv_at hl 1 rfl) ?_
  refine lv_iload_n hx hb d_WO_change_5 rfl (lv_at hl 2 rfl) ?_
  refine lv_aload_n hx hb d_WO_change_6 rfl (lv_at hl 0 rfl) ?_
  refine va_get (D := G) (ci := 0) (v := .ref t_road) (C := R_WO) (T := F_WO) (N := 5) hx hb hts i_WO hown hK hP 0 rfl rfl 0 (by decide) (hts _ lk_228) (fun _ h9 => h9) rfl d_WO_change_7 ?_
  obtain ⟨r10_1, hC, hF⟩ := dk_b hF
  refine dk_pure (va_runV (As := []) (rest := [.int x2, .int x1, .ref t_timetable]) hfix (c_Road_size l G K n t_road t_road_greens t_road_leasts t_road_queues t_road_seconds t_road_weights v_t_road_size v_t_road_firstCycle v_t_road_lastCycle v_t_road_cycleBy v_t_road_stepSeconds r10_1 hC) (cwV 0 hts (gd_V lk_232 lk_127 lk_128 lk_29 lk_126) rfl rfl rfl (by decide +kernel) ⟨Nat.le_of_ble_eq_true rfl, Nat.le_of_ble_eq_true rfl⟩) (dk_preV hK hN (hP.sub [1] rfl) (va_recv hK hP (ci := 1) (q0 := 1) rfl rfl)) rfl rfl hl.1 rfl (lv_room (Nat.le_of_ble_eq_true rfl)) d_WO_change_10 ⟨Nat.le_of_ble_eq_true rfl, Nat.le_of_ble_eq_true rfl⟩) ?_
  obtain ⟨r13_2, hC, hF⟩ := dk_b hF
  refine dk_pure (va_runV (As := [.int x1, .int x2, .int r10_1]) (rest := []) hfix (c_Tt_changeCost l G K n t_timetable t_timetable_plans g T PL hT x1 x2 r10_1 r13_2 hC) (cwV 3 hts (gd_V lk_351 lk_348 lk_349 lk_341 lk_347) rfl rfl rfl (by decide +kernel) ⟨Nat.le_of_ble_eq_true rfl, Nat.le_of_ble_eq_true rfl⟩) (dk_preV hK hN (hP0.part [2, 3] rfl) (va_recv hK hP (ci := 6) (q0 := 2) rfl rfl)) rfl rfl hl.1 rfl (lv_room (Nat.le_of_ble_eq_true rfl)) d_WO_change_13 ⟨Nat.le_of_ble_eq_true rfl, Nat.le_of_ble_eq_true rfl⟩) ?_
  obtain rfl := Option.some.inj hF
  exact W.lret (v := r13_2) hx hb hr (fun t ht hW => ⟨rfl, ht⟩) (fun _ h => by cases h) d_WO_change_16
def p_WO_day (n : Nat) (v_t_road_size : Int32) (T : Nat → Option (Int32 × Int32 × (Nat → Int32))) : Option (Int64) :=
  (p_Road_size n v_t_road_size).bind fun r8_1 =>
  (p_Tt_dayCost n r8_1 T).bind fun r11_2 =>
  some r11_2
abbrev m_WO_day : Room := { frames := 5, cells := 0, slots := 0, locals := 119 }
set_option maxHeartbeats 4000000 in
set_option maxRecDepth 100000 in
theorem c_WO_day (l : Launch) (G : va_G) (K : Nat → ClassId) (n : Nat) (t : Nat) (t_road : Nat) (t_search : Nat) (t_atHand : Nat) (t_timetable : Nat) (t_arrivals : Nat) (t_road_greens : Nat) (t_road_leasts : Nat) (t_road_queues : Nat) (t_road_seconds : Nat) (t_road_weights : Nat) (t_timetable_plans : Nat) (g : Nat → Option Nat) (T : Nat → Option (Int32 × Int32 × (Nat → Int32))) (PL : va_W) (hT : tp K T g PL) (v_t_road_size : Int32) (v_t_road_firstCycle : Int32) (v_t_road_lastCycle : Int32) (v_t_road_cycleBy : Int32) (v_t_road_stepSeconds : Int32) (o : Int64) (hF : p_WO_day n v_t_road_size T = some o) :
    Met l y_WO_day (wd y_WO_day b_WO_day 1 (some .long)) m_WO_day (dk_Pp [.ref t] G K ([(t, .inr (0, [.ref t_road, .ref t_search, .ref t_atHand, .ref t_timetable, .ref t_arrivals])), (t_road, .inr (1, [.ref t_road_greens, .ref t_road_leasts, .ref t_road_queues, .ref t_road_seconds, .ref t_road_weights, .int v_t_road_size, .int v_t_road_firstCycle, .int v_t_road_lastCycle, .int v_t_road_cycleBy, .int v_t_road_stepSeconds])), (t_timetable, .inr (6, [.ref t_timetable_plans])), (t_timetable_plans, .inl (K 2, 24, .inr (.inr (.inr (.inr g)))))] ++ PL)) (dk_Qp (some (.long o))) 0 0 (fun _ => False) := by
  refine Met.ofW (cc := b_WO_day) (maxL := 1) (ret := (some .long)) (by decide) rfl ?_
  intro p e s m args below meth c s₁ B hml hv
  obtain ⟨rfl, hP, hK, hN⟩ := hv
  have hx := B.exec
  have hb := B.bytes
  have hr := B.returns
  have hts : ∀ w ∈ lw_good, w.before _ s = true := fun w h => atoms_spec (ws := wd y_WO_day b_WO_day 1 (some .long)) B.pre w (List.mem_cons_of_mem _ h)
  have hown : s.vm.findClass R_WO = some m.cls := findClass_of_methodNamed B.named
  have hlocks := B.notSynchronized
  have hfix : CallFix p m c b_WO_day 1 s _ lw_good R_WO := ⟨hx, hb, hml, hown, hts⟩
  have hP0 := hP
  have hPT := tp_pl hP
  have hP : va_P G classes [(t, .inr (0, [.ref t_road, .ref t_search, .ref t_atHand, .ref t_timetable, .ref t_arrivals])), (t_road, .inr (1, [.ref t_road_greens, .ref t_road_leasts, .ref t_road_queues, .ref t_road_seconds, .ref t_road_weights, .int v_t_road_size, .int v_t_road_firstCycle, .int v_t_road_lastCycle, .int v_t_road_cycleBy, .int v_t_road_stepSeconds])), (t_timetable, .inr (6, [.ref t_timetable_plans])), (t_timetable_plans, .inl (K 2, 24, .inr (.inr (.inr (.inr g)))))] s.heap := tp_x hP
  have hl := lv_entry ([.ref t]) (n := 1) (Nat.le_of_ble_eq_true rfl)
  rw [lg_entry_eq]
  generalize (lg_sl ([.ref t]) ++ List.replicate (1 - (lg_sl ([.ref t])).length) Slot.unset).toArray = ls at hl ⊢
  have hl : lv_has ls 1 [(0, .ref t)] := hl
  change W p l e m_WO_day s m _ below meth c s.heap [] 0 0 _ _
  unfold p_WO_day at hF
  refine lv_aload_n hx hb d_WO_day_0 rfl (lv_at hl 0 rfl) ?_
  refine va_get (D := G) (ci := 0) (v := .ref t_timetable) (C := R_WO) (T := F_WO) (N := 5) hx hb hts i_WO hown hK hP 0 rfl rfl 3 (by decide) (hts _ lk_350) (fun _ h9 => h9) rfl d_WO_day_1 ?_
  refine lv_aload_n hx hb d_WO_day_4 rfl (lv_at hl 0 rfl) ?_
  refine va_get (D := G) (ci := 0) (v := .ref t_road) (C := R_WO) (T := F_WO) (N := 5) hx hb hts i_WO hown hK hP 0 rfl rfl 0 (by decide) (hts _ lk_228) (fun _ h9 => h9) rfl d_WO_day_5 ?_
  obtain ⟨r8_1, hC, hF⟩ := dk_b hF
  refine dk_pure (va_runV (As := []) (rest := [.ref t_timetable]) hfix (c_Road_size l G K n t_road t_road_greens t_road_leasts t_road_queues t_road_seconds t_road_weights v_t_road_size v_t_road_firstCycle v_t_road_lastCycle v_t_road_cycleBy v_t_road_stepSeconds r8_1 hC) (cwV 0 hts (gd_V lk_232 lk_127 lk_128 lk_29 lk_126) rfl rfl rfl (by decide +kernel) ⟨Nat.le_of_ble_eq_true rfl, Nat.le_of_ble_eq_true rfl⟩) (dk_preV hK hN (hP.sub [1] rfl) (va_recv hK hP (ci := 1) (q0 := 1) rfl rfl)) rfl rfl hl.1 rfl (lv_room (Nat.le_of_ble_eq_true rfl)) d_WO_day_8 ⟨Nat.le_of_ble_eq_true rfl, Nat.le_of_ble_eq_true rfl⟩) ?_
  obtain ⟨r11_2, hC, hF⟩ := dk_b hF
  refine dk_pure (va_runV (As := [.int r8_1]) (rest := []) hfix (c_Tt_dayCost l G K n t_timetable t_timetable_plans g T PL hT r8_1 r11_2 hC) (cwV 1 hts (gd_V lk_352 lk_354 lk_355 lk_341 lk_353) rfl rfl rfl (by decide +kernel) ⟨Nat.le_of_ble_eq_true rfl, Nat.le_of_ble_eq_true rfl⟩) (dk_preV hK hN (hP0.part [2, 3] rfl) (va_recv hK hP (ci := 6) (q0 := 2) rfl rfl)) rfl rfl hl.1 rfl (lv_room (Nat.le_of_ble_eq_true rfl)) d_WO_day_11 ⟨Nat.le_of_ble_eq_true rfl, Nat.le_of_ble_eq_true rfl⟩) ?_
  obtain rfl := Option.some.inj hF
  exact W.lret (v := r11_2) hx hb hr (fun t ht hW => ⟨rfl, ht⟩) (fun _ h => by cases h) d_WO_day_14
def p_WO_count (n : Nat) (x1 : Int32) (v_t_road_size : Int32) (v_t_road_firstCycle : Int32) (v_t_road_lastCycle : Int32) (v_t_road_cycleBy : Int32) (v_t_road_leasts : Nat → Int32) (v_t_road_stepSeconds : Int32) (v_t_arrivals_size : Int32) (v_t_atHand_cycle : Int32) (v_t_atHand_aim : Int32) (T : Nat → Option (Int32 × Int32 × (Nat → Int32))) : Option (Int64) :=
  if x1 = (0 : Int32) then
    (p_Road_size n v_t_road_size).bind fun r40_2 =>
    some r40_2.toInt64
  else
    if x1 = (1 : Int32) then
      (p_Road_allRows n v_t_road_size v_t_road_firstCycle v_t_road_lastCycle v_t_road_cycleBy v_t_road_leasts v_t_road_stepSeconds).bind fun r49_4 =>
      some r49_4
    else
      if x1 = (2 : Int32) then
        (p_Arr_told n v_t_arrivals_size).bind fun r57_6 =>
        some r57_6.toInt64
      else
        if x1 = (3 : Int32) then
          (p_Tt_planned n T).bind fun r66_8 =>
          some r66_8.toInt64
        else
          if x1 = (4 : Int32) then
            (p_Plan_isMade n v_t_atHand_cycle).bind fun r75_10 =>
            if r75_10 = 0 then
              some ((-1) : Int64)
            else
              some v_t_atHand_aim.toInt64
          else
            some ((-1) : Int64)
abbrev m_WO_count : Room := { frames := 4, cells := 0, slots := 0, locals := 88 }
set_option maxHeartbeats 4000000 in
set_option maxRecDepth 100000 in
theorem c_WO_count (l : Launch) (G : va_G) (K : Nat → ClassId) (n : Nat) (t : Nat) (t_road : Nat) (t_search : Nat) (t_atHand : Nat) (t_timetable : Nat) (t_arrivals : Nat) (t_road_greens : Nat) (t_road_leasts : Nat) (t_road_queues : Nat) (t_road_seconds : Nat) (t_road_weights : Nat) (t_atHand_offsets : Nat) (t_timetable_plans : Nat) (t_arrivals_crossings : Nat) (t_arrivals_seconds : Nat) (t_arrivals_cars : Nat) (g : Nat → Option Nat) (T : Nat → Option (Int32 × Int32 × (Nat → Int32))) (PL : va_W) (hT : tp K T g PL) (x1 : Int32) (v_t_road_size : Int32) (v_t_road_firstCycle : Int32) (v_t_road_lastCycle : Int32) (v_t_road_cycleBy : Int32) (v_t_road_stepSeconds : Int32) (v_t_road_leasts : Nat → Int32) (v_t_atHand_cycle : Int32) (v_t_atHand_size : Int32) (v_t_atHand_aim : Int32) (v_t_atHand_sawAll : Int32) (v_t_arrivals_size : Int32) (o : Int64) (hF : p_WO_count n x1 v_t_road_size v_t_road_firstCycle v_t_road_lastCycle v_t_road_cycleBy v_t_road_leasts v_t_road_stepSeconds v_t_arrivals_size v_t_atHand_cycle v_t_atHand_aim T = some o) :
    Met l y_WO_count (wd y_WO_count b_WO_count 2 (some .long)) m_WO_count (dk_Pp [.ref t, .int x1] G K ([(t, .inr (0, [.ref t_road, .ref t_search, .ref t_atHand, .ref t_timetable, .ref t_arrivals])), (t_road, .inr (1, [.ref t_road_greens, .ref t_road_leasts, .ref t_road_queues, .ref t_road_seconds, .ref t_road_weights, .int v_t_road_size, .int v_t_road_firstCycle, .int v_t_road_lastCycle, .int v_t_road_cycleBy, .int v_t_road_stepSeconds])), (t_road_leasts, .inl (K 0, 5, .inl v_t_road_leasts)), (t_atHand, .inr (2, [.ref t_atHand_offsets, .int v_t_atHand_cycle, .int v_t_atHand_size, .int v_t_atHand_aim, .int v_t_atHand_sawAll])), (t_timetable, .inr (6, [.ref t_timetable_plans])), (t_timetable_plans, .inl (K 2, 24, .inr (.inr (.inr (.inr g))))), (t_arrivals, .inr (7, [.ref t_arrivals_crossings, .ref t_arrivals_seconds, .ref t_arrivals_cars, .int v_t_arrivals_size]))] ++ PL)) (dk_Qp (some (.long o))) 0 0 (fun _ => False) := by
  refine Met.ofW (cc := b_WO_count) (maxL := 2) (ret := (some .long)) (by decide) rfl ?_
  intro p e s m args below meth c s₁ B hml hv
  obtain ⟨rfl, hP, hK, hN⟩ := hv
  have hx := B.exec
  have hb := B.bytes
  have hr := B.returns
  have hts : ∀ w ∈ lw_good, w.before _ s = true := fun w h => atoms_spec (ws := wd y_WO_count b_WO_count 2 (some .long)) B.pre w (List.mem_cons_of_mem _ h)
  have hown : s.vm.findClass R_WO = some m.cls := findClass_of_methodNamed B.named
  have hlocks := B.notSynchronized
  have hfix : CallFix p m c b_WO_count 2 s _ lw_good R_WO := ⟨hx, hb, hml, hown, hts⟩
  have hP0 := hP
  have hPT := tp_pl hP
  have hP : va_P G classes [(t, .inr (0, [.ref t_road, .ref t_search, .ref t_atHand, .ref t_timetable, .ref t_arrivals])), (t_road, .inr (1, [.ref t_road_greens, .ref t_road_leasts, .ref t_road_queues, .ref t_road_seconds, .ref t_road_weights, .int v_t_road_size, .int v_t_road_firstCycle, .int v_t_road_lastCycle, .int v_t_road_cycleBy, .int v_t_road_stepSeconds])), (t_road_leasts, .inl (K 0, 5, .inl v_t_road_leasts)), (t_atHand, .inr (2, [.ref t_atHand_offsets, .int v_t_atHand_cycle, .int v_t_atHand_size, .int v_t_atHand_aim, .int v_t_atHand_sawAll])), (t_timetable, .inr (6, [.ref t_timetable_plans])), (t_timetable_plans, .inl (K 2, 24, .inr (.inr (.inr (.inr g))))), (t_arrivals, .inr (7, [.ref t_arrivals_crossings, .ref t_arrivals_seconds, .ref t_arrivals_cars, .int v_t_arrivals_size]))] s.heap := tp_x hP
  have hl := lv_entry ([.ref t, .int x1]) (n := 2) (Nat.le_of_ble_eq_true rfl)
  rw [lg_entry_eq]
  generalize (lg_sl ([.ref t, .int x1]) ++ List.replicate (2 - (lg_sl ([.ref t, .int x1])).length) Slot.unset).toArray = ls at hl ⊢
  have hl : lv_has ls 2 [(0, .ref t), (1, .int x1)] := hl
  change W p l e m_WO_count s m _ below meth c s.heap [] 0 0 _ _
  unfold p_WO_count at hF
  refine lv_iload_n hx hb d_WO_count_0 rfl (lv_at hl 1 rfl) ?_
  by_cases c1_1 : x1 = (0 : Int32)
  · have hF := dk_t c1_1 hF
    refine lv_tableIn (off := 35) (tgt := 36) hx hb d_WO_count_1 (by rw [c1_1]; decide) (by rw [c1_1]; decide) (by rw [c1_1]; rfl) (by decide) ?_
    refine lv_aload_n hx hb d_WO_count_36 rfl (lv_at hl 0 rfl) ?_
    refine va_get (D := G) (ci := 0) (v := .ref t_road) (C := R_WO) (T := F_WO) (N := 5) hx hb hts i_WO hown hK hP 0 rfl rfl 0 (by decide) (hts _ lk_228) (fun _ h9 => h9) rfl d_WO_count_37 ?_
    obtain ⟨r40_2, hC, hF⟩ := dk_b hF
    refine dk_pure (va_runV (As := []) (rest := []) hfix (c_Road_size l G K n t_road t_road_greens t_road_leasts t_road_queues t_road_seconds t_road_weights v_t_road_size v_t_road_firstCycle v_t_road_lastCycle v_t_road_cycleBy v_t_road_stepSeconds r40_2 hC) (cwV 0 hts (gd_V lk_232 lk_127 lk_128 lk_29 lk_126) rfl rfl rfl (by decide +kernel) ⟨Nat.le_of_ble_eq_true rfl, Nat.le_of_ble_eq_true rfl⟩) (dk_preV hK hN (hP.sub [1] rfl) (va_recv hK hP (ci := 1) (q0 := 1) rfl rfl)) rfl rfl hl.1 rfl (lv_room (Nat.le_of_ble_eq_true rfl)) d_WO_count_40 ⟨Nat.le_of_ble_eq_true rfl, Nat.le_of_ble_eq_true rfl⟩) ?_
    refine lv_i2l hx hb d_WO_count_43 rfl ?_
    obtain rfl := Option.some.inj hF
    exact W.lret (v := r40_2.toInt64) hx hb hr (fun t ht hW => ⟨rfl, ht⟩) (fun _ h => by cases h) d_WO_count_44
  have hF := dk_f c1_1 hF
  by_cases c1_3 : x1 = (1 : Int32)
  · have hF := dk_t c1_3 hF
    refine lv_tableIn (off := 44) (tgt := 45) hx hb d_WO_count_1 (by rw [c1_3]; decide) (by rw [c1_3]; decide) (by rw [c1_3]; rfl) (by decide) ?_
    refine lv_aload_n hx hb d_WO_count_45 rfl (lv_at hl 0 rfl) ?_
    refine va_get (D := G) (ci := 0) (v := .ref t_road) (C := R_WO) (T := F_WO) (N := 5) hx hb hts i_WO hown hK hP 0 rfl rfl 0 (by decide) (hts _ lk_228) (fun _ h9 => h9) rfl d_WO_count_46 ?_
    obtain ⟨r49_4, hC, hF⟩ := dk_b hF
    refine dk_pure (va_runV (As := []) (rest := []) hfix (c_Road_allRows l G K n t_road t_road_greens t_road_leasts t_road_queues t_road_seconds t_road_weights v_t_road_size v_t_road_firstCycle v_t_road_lastCycle v_t_road_cycleBy v_t_road_stepSeconds v_t_road_leasts r49_4 hC) (cwV 0 hts (gd_V lk_356 lk_210 lk_211 lk_29 lk_209) rfl rfl rfl (by decide +kernel) ⟨Nat.le_of_ble_eq_true rfl, Nat.le_of_ble_eq_true rfl⟩) (dk_preV hK hN (hP.sub [1, 2] rfl) (va_recv hK hP (ci := 1) (q0 := 1) rfl rfl)) rfl rfl hl.1 rfl (lv_room (Nat.le_of_ble_eq_true rfl)) d_WO_count_49 ⟨Nat.le_of_ble_eq_true rfl, Nat.le_of_ble_eq_true rfl⟩) ?_
    obtain rfl := Option.some.inj hF
    exact W.lret (v := r49_4) hx hb hr (fun t ht hW => ⟨rfl, ht⟩) (fun _ h => by cases h) d_WO_count_52
  have hF := dk_f c1_3 hF
  by_cases c1_5 : x1 = (2 : Int32)
  · have hF := dk_t c1_5 hF
    refine lv_tableIn (off := 52) (tgt := 53) hx hb d_WO_count_1 (by rw [c1_5]; decide) (by rw [c1_5]; decide) (by rw [c1_5]; rfl) (by decide) ?_
    refine lv_aload_n hx hb d_WO_count_53 rfl (lv_at hl 0 rfl) ?_
    refine va_get (D := G) (ci := 0) (v := .ref t_arrivals) (C := R_WO) (T := F_WO) (N := 5) hx hb hts i_WO hown hK hP 0 rfl rfl 4 (by decide) (hts _ lk_310) (fun _ h9 => h9) rfl d_WO_count_54 ?_
    obtain ⟨r57_6, hC, hF⟩ := dk_b hF
    refine dk_pure (va_runV (As := []) (rest := []) hfix (c_Arr_told l G K n t_arrivals t_arrivals_crossings t_arrivals_seconds t_arrivals_cars v_t_arrivals_size r57_6 hC) (cwV 0 hts (gd_V lk_357 lk_359 lk_360 lk_103 lk_358) rfl rfl rfl (by decide +kernel) ⟨Nat.le_of_ble_eq_true rfl, Nat.le_of_ble_eq_true rfl⟩) (dk_preV hK hN (hP.sub [6] rfl) (va_recv hK hP (ci := 7) (q0 := 6) rfl rfl)) rfl rfl hl.1 rfl (lv_room (Nat.le_of_ble_eq_true rfl)) d_WO_count_57 ⟨Nat.le_of_ble_eq_true rfl, Nat.le_of_ble_eq_true rfl⟩) ?_
    refine lv_i2l hx hb d_WO_count_60 rfl ?_
    obtain rfl := Option.some.inj hF
    exact W.lret (v := r57_6.toInt64) hx hb hr (fun t ht hW => ⟨rfl, ht⟩) (fun _ h => by cases h) d_WO_count_61
  have hF := dk_f c1_5 hF
  by_cases c1_7 : x1 = (3 : Int32)
  · have hF := dk_t c1_7 hF
    refine lv_tableIn (off := 61) (tgt := 62) hx hb d_WO_count_1 (by rw [c1_7]; decide) (by rw [c1_7]; decide) (by rw [c1_7]; rfl) (by decide) ?_
    refine lv_aload_n hx hb d_WO_count_62 rfl (lv_at hl 0 rfl) ?_
    refine va_get (D := G) (ci := 0) (v := .ref t_timetable) (C := R_WO) (T := F_WO) (N := 5) hx hb hts i_WO hown hK hP 0 rfl rfl 3 (by decide) (hts _ lk_350) (fun _ h9 => h9) rfl d_WO_count_63 ?_
    obtain ⟨r66_8, hC, hF⟩ := dk_b hF
    refine dk_pure (va_runV (As := []) (rest := []) hfix (c_Tt_planned l G K n t_timetable t_timetable_plans g T PL hT r66_8 hC) (cwV 0 hts (gd_V lk_361 lk_339 lk_340 lk_341 lk_338) rfl rfl rfl (by decide +kernel) ⟨Nat.le_of_ble_eq_true rfl, Nat.le_of_ble_eq_true rfl⟩) (dk_preV hK hN (hP0.part [4, 5] rfl) (va_recv hK hP (ci := 6) (q0 := 4) rfl rfl)) rfl rfl hl.1 rfl (lv_room (Nat.le_of_ble_eq_true rfl)) d_WO_count_66 ⟨Nat.le_of_ble_eq_true rfl, Nat.le_of_ble_eq_true rfl⟩) ?_
    refine lv_i2l hx hb d_WO_count_69 rfl ?_
    obtain rfl := Option.some.inj hF
    exact W.lret (v := r66_8.toInt64) hx hb hr (fun t ht hW => ⟨rfl, ht⟩) (fun _ h => by cases h) d_WO_count_70
  have hF := dk_f c1_7 hF
  by_cases c1_9 : x1 = (4 : Int32)
  · have hF := dk_t c1_9 hF
    refine lv_tableIn (off := 70) (tgt := 71) hx hb d_WO_count_1 (by rw [c1_9]; decide) (by rw [c1_9]; decide) (by rw [c1_9]; rfl) (by decide) ?_
    refine lv_aload_n hx hb d_WO_count_71 rfl (lv_at hl 0 rfl) ?_
    refine va_get (D := G) (ci := 0) (v := .ref t_atHand) (C := R_WO) (T := F_WO) (N := 5) hx hb hts i_WO hown hK hP 0 rfl rfl 2 (by decide) (hts _ lk_230) (fun _ h9 => h9) rfl d_WO_count_72 ?_
    obtain ⟨r75_10, hC, hF⟩ := dk_b hF
    refine dk_pure (va_runV (As := []) (rest := []) hfix (c_Plan_isMade l G K n t_atHand t_atHand_offsets v_t_atHand_cycle v_t_atHand_size v_t_atHand_aim v_t_atHand_sawAll r75_10 hC) (cwV 0 hts (gd_V lk_231 lk_162 lk_163 lk_94 lk_161) rfl rfl rfl (by decide +kernel) ⟨Nat.le_of_ble_eq_true rfl, Nat.le_of_ble_eq_true rfl⟩) (dk_preV hK hN (hP.sub [3] rfl) (va_recv hK hP (ci := 2) (q0 := 3) rfl rfl)) rfl rfl hl.1 rfl (lv_room (Nat.le_of_ble_eq_true rfl)) d_WO_count_75 ⟨Nat.le_of_ble_eq_true rfl, Nat.le_of_ble_eq_true rfl⟩) ?_
    refine lv_if_eq (tgt := 92) hx hb d_WO_count_78 (by decide) (fun c78_11 => ?_) (fun c78_11 => ?_)
    · have hF := dk_t c78_11 hF
      refine lv_ldc2 (own := R_WO) (index := 126) (v := ((-1) : Int64)) hx hb hown (hts _ lk_17) d_WO_count_92 ?_
      obtain rfl := Option.some.inj hF
      exact W.lret (v := ((-1) : Int64)) hx hb hr (fun t ht hW => ⟨rfl, ht⟩) (fun _ h => by cases h) d_WO_count_95
    · have hF := dk_f c78_11 hF
      refine lv_aload_n hx hb d_WO_count_81 rfl (lv_at hl 0 rfl) ?_
      refine va_get (D := G) (ci := 0) (v := .ref t_atHand) (C := R_WO) (T := F_WO) (N := 5) hx hb hts i_WO hown hK hP 0 rfl rfl 2 (by decide) (hts _ lk_230) (fun _ h9 => h9) rfl d_WO_count_82 ?_
      refine va_getN (D := G) (ci := 2) (v := .int v_t_atHand_aim) (C := R_Plan) (T := F_Plan) (N := 5) hx hb hts i_Plan hown hK hP 3 rfl rfl 3 (by decide) (va_Nw.use rfl (hN.1 _ lk_362)) (fun _ h9 => h9) rfl d_WO_count_85 ?_
      refine lv_i2l hx hb d_WO_count_88 rfl ?_
      refine lv_goto (tgt := 95) hx hb d_WO_count_89 (by decide) ?_
      obtain rfl := Option.some.inj hF
      exact W.lret (v := v_t_atHand_aim.toInt64) hx hb hr (fun t ht hW => ⟨rfl, ht⟩) (fun _ h => by cases h) d_WO_count_95
  have hF := dk_f c1_9 hF
  have e_c1_1 : ¬ Int32.toInt x1 = 0 := fun h => c1_1 (Int32.toInt_inj.mp (h.trans (by decide)))
  have e_c1_3 : ¬ Int32.toInt x1 = 1 := fun h => c1_3 (Int32.toInt_inj.mp (h.trans (by decide)))
  have e_c1_5 : ¬ Int32.toInt x1 = 2 := fun h => c1_5 (Int32.toInt_inj.mp (h.trans (by decide)))
  have e_c1_7 : ¬ Int32.toInt x1 = 3 := fun h => c1_7 (Int32.toInt_inj.mp (h.trans (by decide)))
  have e_c1_9 : ¬ Int32.toInt x1 = 4 := fun h => c1_9 (Int32.toInt_inj.mp (h.trans (by decide)))
  refine lv_tableOut (tgt := 96) hx hb d_WO_count_1 (by omega) (by decide) ?_
  refine lv_ldc2 (own := R_WO) (index := 126) (v := ((-1) : Int64)) hx hb hown (hts _ lk_17) d_WO_count_96 ?_
  obtain rfl := Option.some.inj hF
  exact W.lret (v := ((-1) : Int64)) hx hb hr (fun t ht hW => ⟨rfl, ht⟩) (fun _ h => by cases h) d_WO_count_99
