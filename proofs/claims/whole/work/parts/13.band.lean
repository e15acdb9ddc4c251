theorem d_Band_fillOpen_0 : decode b_Band_fillOpen 0 = .ok (.aload_n 1, 1) := by decide +kernel
theorem d_Band_fillOpen_1 : decode b_Band_fillOpen 1 = .ok (.iload_n 2, 1) := by decide +kernel
theorem d_Band_fillOpen_2 : decode b_Band_fillOpen 2 = .ok (.invokevirtual 42, 3) := by decide +kernel
theorem d_Band_fillOpen_5 : decode b_Band_fillOpen 5 = .ok (.istore 5, 2) := by decide +kernel
theorem d_Band_fillOpen_7 : decode b_Band_fillOpen 7 = .ok (.aload_n 1, 1) := by decide +kernel
theorem d_Band_fillOpen_8 : decode b_Band_fillOpen 8 = .ok (.iload_n 2, 1) := by decide +kernel
theorem d_Band_fillOpen_9 : decode b_Band_fillOpen 9 = .ok (.iload_n 3, 1) := by decide +kernel
theorem d_Band_fillOpen_10 : decode b_Band_fillOpen 10 = .ok (.iconst 0, 1) := by decide +kernel
theorem d_Band_fillOpen_11 : decode b_Band_fillOpen 11 = .ok (.iload 4, 2) := by decide +kernel
theorem d_Band_fillOpen_13 : decode b_Band_fillOpen 13 = .ok (.invokevirtual 45, 3) := by decide +kernel
theorem d_Band_fillOpen_16 : decode b_Band_fillOpen 16 = .ok (.istore 6, 2) := by decide +kernel
theorem d_Band_fillOpen_18 : decode b_Band_fillOpen 18 = .ok (.iload_n 2, 1) := by decide +kernel
theorem d_Band_fillOpen_19 : decode b_Band_fillOpen 19 = .ok (.iconst 2, 1) := by decide +kernel
theorem d_Band_fillOpen_20 : decode b_Band_fillOpen 20 = .ok (.imul, 1) := by decide +kernel
theorem d_Band_fillOpen_21 : decode b_Band_fillOpen 21 = .ok (.iload_n 3, 1) := by decide +kernel
theorem d_Band_fillOpen_22 : decode b_Band_fillOpen 22 = .ok (.iadd, 1) := by decide +kernel
theorem d_Band_fillOpen_23 : decode b_Band_fillOpen 23 = .ok (.bipush 120, 2) := by decide +kernel
theorem d_Band_fillOpen_25 : decode b_Band_fillOpen 25 = .ok (.imul, 1) := by decide +kernel
theorem d_Band_fillOpen_26 : decode b_Band_fillOpen 26 = .ok (.istore 7, 2) := by decide +kernel
theorem d_Band_fillOpen_28 : decode b_Band_fillOpen 28 = .ok (.aload_n 1, 1) := by decide +kernel
theorem d_Band_fillOpen_29 : decode b_Band_fillOpen 29 = .ok (.iload 4, 2) := by decide +kernel
theorem d_Band_fillOpen_31 : decode b_Band_fillOpen 31 = .ok (.invokevirtual 49, 3) := by decide +kernel
theorem d_Band_fillOpen_34 : decode b_Band_fillOpen 34 = .ok (.istore 8, 2) := by decide +kernel
theorem d_Band_fillOpen_36 : decode b_Band_fillOpen 36 = .ok (.iconst 0, 1) := by decide +kernel
theorem d_Band_fillOpen_37 : decode b_Band_fillOpen 37 = .ok (.istore 9, 2) := by decide +kernel
theorem d_Band_fillOpen_39 : decode b_Band_fillOpen 39 = .ok (.iload 9, 2) := by decide +kernel
theorem d_Band_fillOpen_41 : decode b_Band_fillOpen 41 = .ok (.iload 8, 2) := by decide +kernel
theorem d_Band_fillOpen_43 : decode b_Band_fillOpen 43 = .ok (.if_icmp .ge 71, 3) := by decide +kernel
theorem d_Band_fillOpen_46 : decode b_Band_fillOpen 46 = .ok (.iload 9, 2) := by decide +kernel
theorem d_Band_fillOpen_48 : decode b_Band_fillOpen 48 = .ok (.bipush 120, 2) := by decide +kernel
theorem d_Band_fillOpen_50 : decode b_Band_fillOpen 50 = .ok (.if_icmp .ge 64, 3) := by decide +kernel
theorem d_Band_fillOpen_53 : decode b_Band_fillOpen 53 = .ok (.aload_n 0, 1) := by decide +kernel
theorem d_Band_fillOpen_54 : decode b_Band_fillOpen 54 = .ok (.getfield 9, 3) := by decide +kernel
theorem d_Band_fillOpen_57 : decode b_Band_fillOpen 57 = .ok (.iload 7, 2) := by decide +kernel
theorem d_Band_fillOpen_59 : decode b_Band_fillOpen 59 = .ok (.iload 9, 2) := by decide +kernel
theorem d_Band_fillOpen_61 : decode b_Band_fillOpen 61 = .ok (.iadd, 1) := by decide +kernel
theorem d_Band_fillOpen_62 : decode b_Band_fillOpen 62 = .ok (.iload 6, 2) := by decide +kernel
theorem d_Band_fillOpen_64 : decode b_Band_fillOpen 64 = .ok (.iload 5, 2) := by decide +kernel
theorem d_Band_fillOpen_66 : decode b_Band_fillOpen 66 = .ok (.iload 4, 2) := by decide +kernel
theorem d_Band_fillOpen_68 : decode b_Band_fillOpen 68 = .ok (.iconst 0, 1) := by decide +kernel
theorem d_Band_fillOpen_69 : decode b_Band_fillOpen 69 = .ok (.invokestatic 52, 3) := by decide +kernel
theorem d_Band_fillOpen_72 : decode b_Band_fillOpen 72 = .ok (.lastore, 1) := by decide +kernel
theorem d_Band_fillOpen_73 : decode b_Band_fillOpen 73 = .ok (.aload_n 0, 1) := by decide +kernel
theorem d_Band_fillOpen_74 : decode b_Band_fillOpen 74 = .ok (.getfield 15, 3) := by decide +kernel
theorem d_Band_fillOpen_77 : decode b_Band_fillOpen 77 = .ok (.iload 7, 2) := by decide +kernel
theorem d_Band_fillOpen_79 : decode b_Band_fillOpen 79 = .ok (.iload 9, 2) := by decide +kernel
theorem d_Band_fillOpen_81 : decode b_Band_fillOpen 81 = .ok (.iadd, 1) := by decide +kernel
theorem d_Band_fillOpen_82 : decode b_Band_fillOpen 82 = .ok (.iload 6, 2) := by decide +kernel
theorem d_Band_fillOpen_84 : decode b_Band_fillOpen 84 = .ok (.iload 5, 2) := by decide +kernel
theorem d_Band_fillOpen_86 : decode b_Band_fillOpen 86 = .ok (.iload 4, 2) := by decide +kernel
theorem d_Band_fillOpen_88 : decode b_Band_fillOpen 88 = .ok (.bipush 60, 2) := by decide +kernel
theorem d_Band_fillOpen_90 : decode b_Band_fillOpen 90 = .ok (.invokestatic 52, 3) := by decide +kernel
theorem d_Band_fillOpen_93 : decode b_Band_fillOpen 93 = .ok (.lastore, 1) := by decide +kernel
theorem d_Band_fillOpen_94 : decode b_Band_fillOpen 94 = .ok (.iload 6, 2) := by decide +kernel
theorem d_Band_fillOpen_96 : decode b_Band_fillOpen 96 = .ok (.aload_n 1, 1) := by decide +kernel
theorem d_Band_fillOpen_97 : decode b_Band_fillOpen 97 = .ok (.invokevirtual 56, 3) := by decide +kernel
theorem d_Band_fillOpen_100 : decode b_Band_fillOpen 100 = .ok (.iadd, 1) := by decide +kernel
theorem d_Band_fillOpen_101 : decode b_Band_fillOpen 101 = .ok (.iload 4, 2) := by decide +kernel
theorem d_Band_fillOpen_103 : decode b_Band_fillOpen 103 = .ok (.invokestatic 59, 3) := by decide +kernel
theorem d_Band_fillOpen_106 : decode b_Band_fillOpen 106 = .ok (.istore 6, 2) := by decide +kernel
theorem d_Band_fillOpen_108 : decode b_Band_fillOpen 108 = .ok (.iinc 9 1, 3) := by decide +kernel
theorem d_Band_fillOpen_111 : decode b_Band_fillOpen 111 = .ok (.goto (-72), 3) := by decide +kernel
theorem d_Band_fillOpen_114 : decode b_Band_fillOpen 114 = .ok (.return_, 1) := by decide +kernel
theorem d_Band_begin_0 : decode b_Band_begin 0 = .ok (.iconst 0, 1) := by decide +kernel
theorem d_Band_begin_1 : decode b_Band_begin 1 = .ok (.istore_n 3, 1) := by decide +kernel
theorem d_Band_begin_2 : decode b_Band_begin 2 = .ok (.iload_n 3, 1) := by decide +kernel
theorem d_Band_begin_3 : decode b_Band_begin 3 = .ok (.iconst 2, 1) := by decide +kernel
theorem d_Band_begin_4 : decode b_Band_begin 4 = .ok (.if_icmp .ge 53, 3) := by decide +kernel
theorem d_Band_begin_7 : decode b_Band_begin 7 = .ok (.aload_n 0, 1) := by decide +kernel
theorem d_Band_begin_8 : decode b_Band_begin 8 = .ok (.getfield 24, 3) := by decide +kernel
theorem d_Band_begin_11 : decode b_Band_begin 11 = .ok (.iload_n 3, 1) := by decide +kernel
theorem d_Band_begin_12 : decode b_Band_begin 12 = .ok (.aload_n 1, 1) := by decide +kernel
theorem d_Band_begin_13 : decode b_Band_begin 13 = .ok (.iload_n 3, 1) := by decide +kernel
theorem d_Band_begin_14 : decode b_Band_begin 14 = .ok (.invokevirtual 28, 3) := by decide +kernel
theorem d_Band_begin_17 : decode b_Band_begin 17 = .ok (.iastore, 1) := by decide +kernel
theorem d_Band_begin_18 : decode b_Band_begin 18 = .ok (.iconst 0, 1) := by decide +kernel
theorem d_Band_begin_19 : decode b_Band_begin 19 = .ok (.istore 4, 2) := by decide +kernel
theorem d_Band_begin_21 : decode b_Band_begin 21 = .ok (.iload 4, 2) := by decide +kernel
theorem d_Band_begin_23 : decode b_Band_begin 23 = .ok (.aload_n 1, 1) := by decide +kernel
theorem d_Band_begin_24 : decode b_Band_begin 24 = .ok (.invokevirtual 34, 3) := by decide +kernel
theorem d_Band_begin_27 : decode b_Band_begin 27 = .ok (.if_icmp .ge 24, 3) := by decide +kernel
theorem d_Band_begin_30 : decode b_Band_begin 30 = .ok (.iload 4, 2) := by decide +kernel
theorem d_Band_begin_32 : decode b_Band_begin 32 = .ok (.iconst 5, 1) := by decide +kernel
theorem d_Band_begin_33 : decode b_Band_begin 33 = .ok (.if_icmp .ge 18, 3) := by decide +kernel
theorem d_Band_begin_36 : decode b_Band_begin 36 = .ok (.aload_n 0, 1) := by decide +kernel
theorem d_Band_begin_37 : decode b_Band_begin 37 = .ok (.aload_n 1, 1) := by decide +kernel
theorem d_Band_begin_38 : decode b_Band_begin 38 = .ok (.iload 4, 2) := by decide +kernel
theorem d_Band_begin_40 : decode b_Band_begin 40 = .ok (.iload_n 3, 1) := by decide +kernel
theorem d_Band_begin_41 : decode b_Band_begin 41 = .ok (.iload_n 2, 1) := by decide +kernel
theorem d_Band_begin_42 : decode b_Band_begin 42 = .ok (.invokevirtual 38, 3) := by decide +kernel
theorem d_Band_begin_45 : decode b_Band_begin 45 = .ok (.iinc 4 1, 3) := by decide +kernel
theorem d_Band_begin_48 : decode b_Band_begin 48 = .ok (.goto (-27), 3) := by decide +kernel
theorem d_Band_begin_51 : decode b_Band_begin 51 = .ok (.iinc 3 1, 3) := by decide +kernel
theorem d_Band_begin_54 : decode b_Band_begin 54 = .ok (.goto (-52), 3) := by decide +kernel
theorem d_Band_begin_57 : decode b_Band_begin 57 = .ok (.return_, 1) := by decide +kernel
theorem d_Band_put_0 : decode b_Band_put 0 = .ok (.iload_n 1, 1) := by decide +kernel
theorem d_Band_put_1 : decode b_Band_put 1 = .ok (.i2l, 1) := by decide +kernel
theorem d_Band_put_2 : decode b_Band_put 2 = .ok (.lconst 0, 1) := by decide +kernel
theorem d_Band_put_3 : decode b_Band_put 3 = .ok (.ldc2_w 63, 3) := by decide +kernel
theorem d_Band_put_6 : decode b_Band_put 6 = .ok (.invokestatic 65, 3) := by decide +kernel
theorem d_Band_put_9 : decode b_Band_put 9 = .ok (.ifCond .eq 15, 3) := by decide +kernel
theorem d_Band_put_12 : decode b_Band_put 12 = .ok (.iload_n 2, 1) := by decide +kernel
theorem d_Band_put_13 : decode b_Band_put 13 = .ok (.i2l, 1) := by decide +kernel
theorem d_Band_put_14 : decode b_Band_put 14 = .ok (.lconst 0, 1) := by decide +kernel
theorem d_Band_put_15 : decode b_Band_put 15 = .ok (.ldc2_w 69, 3) := by decide +kernel
theorem d_Band_put_18 : decode b_Band_put 18 = .ok (.invokestatic 65, 3) := by decide +kernel
theorem d_Band_put_21 : decode b_Band_put 21 = .ok (.ifCond .ne 5, 3) := by decide +kernel
theorem d_Band_put_24 : decode b_Band_put 24 = .ok (.lconst 0, 1) := by decide +kernel
theorem d_Band_put_25 : decode b_Band_put 25 = .ok (.lreturn, 1) := by decide +kernel
theorem d_Band_put_26 : decode b_Band_put 26 = .ok (.lconst 0, 1) := by decide +kernel
theorem d_Band_put_27 : decode b_Band_put 27 = .ok (.lstore_n 3, 1) := by decide +kernel
theorem d_Band_put_28 : decode b_Band_put 28 = .ok (.iconst 0, 1) := by decide +kernel
theorem d_Band_put_29 : decode b_Band_put 29 = .ok (.istore 5, 2) := by decide +kernel
theorem d_Band_put_31 : decode b_Band_put 31 = .ok (.iload 5, 2) := by decide +kernel
theorem d_Band_put_33 : decode b_Band_put 33 = .ok (.iconst 2, 1) := by decide +kernel
theorem d_Band_put_34 : decode b_Band_put 34 = .ok (.if_icmp .ge 119, 3) := by decide +kernel
theorem d_Band_put_37 : decode b_Band_put 37 = .ok (.iload_n 1, 1) := by decide +kernel
theorem d_Band_put_38 : decode b_Band_put 38 = .ok (.iconst 2, 1) := by decide +kernel
theorem d_Band_put_39 : decode b_Band_put 39 = .ok (.imul, 1) := by decide +kernel
theorem d_Band_put_40 : decode b_Band_put 40 = .ok (.iload 5, 2) := by decide +kernel
theorem d_Band_put_42 : decode b_Band_put 42 = .ok (.iadd, 1) := by decide +kernel
theorem d_Band_put_43 : decode b_Band_put 43 = .ok (.istore 6, 2) := by decide +kernel
theorem d_Band_put_45 : decode b_Band_put 45 = .ok (.aload_n 0, 1) := by decide +kernel
theorem d_Band_put_46 : decode b_Band_put 46 = .ok (.getfield 9, 3) := by decide +kernel
theorem d_Band_put_49 : decode b_Band_put 49 = .ok (.iload 6, 2) := by decide +kernel
theorem d_Band_put_51 : decode b_Band_put 51 = .ok (.bipush 120, 2) := by decide +kernel
theorem d_Band_put_53 : decode b_Band_put 53 = .ok (.imul, 1) := by decide +kernel
theorem d_Band_put_54 : decode b_Band_put 54 = .ok (.iload_n 2, 1) := by decide +kernel
theorem d_Band_put_55 : decode b_Band_put 55 = .ok (.iadd, 1) := by decide +kernel
theorem d_Band_put_56 : decode b_Band_put 56 = .ok (.laload, 1) := by decide +kernel
theorem d_Band_put_57 : decode b_Band_put 57 = .ok (.lstore 7, 2) := by decide +kernel
theorem d_Band_put_59 : decode b_Band_put 59 = .ok (.aload_n 0, 1) := by decide +kernel
theorem d_Band_put_60 : decode b_Band_put 60 = .ok (.getfield 15, 3) := by decide +kernel
theorem d_Band_put_63 : decode b_Band_put 63 = .ok (.iload 6, 2) := by decide +kernel
theorem d_Band_put_65 : decode b_Band_put 65 = .ok (.bipush 120, 2) := by decide +kernel
theorem d_Band_put_67 : decode b_Band_put 67 = .ok (.imul, 1) := by decide +kernel
theorem d_Band_put_68 : decode b_Band_put 68 = .ok (.iload_n 2, 1) := by decide +kernel
theorem d_Band_put_69 : decode b_Band_put 69 = .ok (.iadd, 1) := by decide +kernel
theorem d_Band_put_70 : decode b_Band_put 70 = .ok (.laload, 1) := by decide +kernel
theorem d_Band_put_71 : decode b_Band_put 71 = .ok (.lstore 9, 2) := by decide +kernel
theorem d_Band_put_73 : decode b_Band_put 73 = .ok (.iload_n 1, 1) := by decide +kernel
theorem d_Band_put_74 : decode b_Band_put 74 = .ok (.ifCond .le 31, 3) := by decide +kernel
theorem d_Band_put_77 : decode b_Band_put 77 = .ok (.lload 7, 2) := by decide +kernel
theorem d_Band_put_79 : decode b_Band_put 79 = .ok (.aload_n 0, 1) := by decide +kernel
theorem d_Band_put_80 : decode b_Band_put 80 = .ok (.getfield 18, 3) := by decide +kernel
theorem d_Band_put_83 : decode b_Band_put 83 = .ok (.iload 6, 2) := by decide +kernel
theorem d_Band_put_85 : decode b_Band_put 85 = .ok (.iconst 2, 1) := by decide +kernel
theorem d_Band_put_86 : decode b_Band_put 86 = .ok (.isub, 1) := by decide +kernel
theorem d_Band_put_87 : decode b_Band_put 87 = .ok (.laload, 1) := by decide +kernel
theorem d_Band_put_88 : decode b_Band_put 88 = .ok (.land, 1) := by decide +kernel
theorem d_Band_put_89 : decode b_Band_put 89 = .ok (.lstore 7, 2) := by decide +kernel
theorem d_Band_put_91 : decode b_Band_put 91 = .ok (.lload 9, 2) := by decide +kernel
theorem d_Band_put_93 : decode b_Band_put 93 = .ok (.aload_n 0, 1) := by decide +kernel
theorem d_Band_put_94 : decode b_Band_put 94 = .ok (.getfield 21, 3) := by decide +kernel
theorem d_Band_put_97 : decode b_Band_put 97 = .ok (.iload 6, 2) := by decide +kernel
theorem d_Band_put_99 : decode b_Band_put 99 = .ok (.iconst 2, 1) := by decide +kernel
theorem d_Band_put_100 : decode b_Band_put 100 = .ok (.isub, 1) := by decide +kernel
theorem d_Band_put_101 : decode b_Band_put 101 = .ok (.laload, 1) := by decide +kernel
theorem d_Band_put_102 : decode b_Band_put 102 = .ok (.land, 1) := by decide +kernel
theorem d_Band_put_103 : decode b_Band_put 103 = .ok (.lstore 9, 2) := by decide +kernel
theorem d_Band_put_105 : decode b_Band_put 105 = .ok (.aload_n 0, 1) := by decide +kernel
theorem d_Band_put_106 : decode b_Band_put 106 = .ok (.getfield 18, 3) := by decide +kernel
theorem d_Band_put_109 : decode b_Band_put 109 = .ok (.iload 6, 2) := by decide +kernel
theorem d_Band_put_111 : decode b_Band_put 111 = .ok (.lload 7, 2) := by decide +kernel
theorem d_Band_put_113 : decode b_Band_put 113 = .ok (.lastore, 1) := by decide +kernel
theorem d_Band_put_114 : decode b_Band_put 114 = .ok (.aload_n 0, 1) := by decide +kernel
theorem d_Band_put_115 : decode b_Band_put 115 = .ok (.getfield 21, 3) := by decide +kernel
theorem d_Band_put_118 : decode b_Band_put 118 = .ok (.iload 6, 2) := by decide +kernel
theorem d_Band_put_120 : decode b_Band_put 120 = .ok (.lload 9, 2) := by decide +kernel
theorem d_Band_put_122 : decode b_Band_put 122 = .ok (.lastore, 1) := by decide +kernel
theorem d_Band_put_123 : decode b_Band_put 123 = .ok (.lload_n 3, 1) := by decide +kernel
theorem d_Band_put_124 : decode b_Band_put 124 = .ok (.aload_n 0, 1) := by decide +kernel
theorem d_Band_put_125 : decode b_Band_put 125 = .ok (.getfield 24, 3) := by decide +kernel
theorem d_Band_put_128 : decode b_Band_put 128 = .ok (.iload 5, 2) := by decide +kernel
theorem d_Band_put_130 : decode b_Band_put 130 = .ok (.iaload, 1) := by decide +kernel
theorem d_Band_put_131 : decode b_Band_put 131 = .ok (.i2l, 1) := by decide +kernel
theorem d_Band_put_132 : decode b_Band_put 132 = .ok (.lload 7, 2) := by decide +kernel
theorem d_Band_put_134 : decode b_Band_put 134 = .ok (.invokestatic 71, 3) := by decide +kernel
theorem d_Band_put_137 : decode b_Band_put 137 = .ok (.lload 9, 2) := by decide +kernel
theorem d_Band_put_139 : decode b_Band_put 139 = .ok (.invokestatic 71, 3) := by decide +kernel
theorem d_Band_put_142 : decode b_Band_put 142 = .ok (.iadd, 1) := by decide +kernel
theorem d_Band_put_143 : decode b_Band_put 143 = .ok (.i2l, 1) := by decide +kernel
theorem d_Band_put_144 : decode b_Band_put 144 = .ok (.lmul, 1) := by decide +kernel
theorem d_Band_put_145 : decode b_Band_put 145 = .ok (.ladd, 1) := by decide +kernel
theorem d_Band_put_146 : decode b_Band_put 146 = .ok (.lstore_n 3, 1) := by decide +kernel
theorem d_Band_put_147 : decode b_Band_put 147 = .ok (.iinc 5 1, 3) := by decide +kernel
theorem d_Band_put_150 : decode b_Band_put 150 = .ok (.goto (-119), 3) := by decide +kernel
theorem d_Band_put_153 : decode b_Band_put 153 = .ok (.lload_n 3, 1) := by decide +kernel
theorem d_Band_put_154 : decode b_Band_put 154 = .ok (.lreturn, 1) := by decide +kernel
set_option maxRecDepth 50000 in
theorem lk_104 : Cond.methodLink R_Band 42 y_Road_openOf ∈ lw_good := List.mem_filter.mpr ⟨List.mem_append_right _ (List.mem_of_getElem? (i := 360) (by decide +kernel)), rfl⟩
set_option maxRecDepth 50000 in
theorem lk_105 : Cond.methodLink R_Band 45 y_Road_openFrom ∈ lw_good := List.mem_filter.mpr ⟨List.mem_append_right _ (List.mem_of_getElem? (i := 369) (by decide +kernel)), rfl⟩
set_option maxRecDepth 50000 in
theorem lk_106 : Cond.code y_Road_openFrom b_Road_openFrom 5 (some .int) ∈ lw_good := List.mem_filter.mpr ⟨List.mem_append_right _ (List.mem_of_getElem? (i := 372) rfl), rfl⟩
set_option maxRecDepth 50000 in
theorem lk_107 : Cond.instanceMethod y_Road_openFrom ∈ lw_good := List.mem_filter.mpr ⟨List.mem_append_right _ (List.mem_of_getElem? (i := 370) (by decide +kernel)), rfl⟩
set_option maxRecDepth 50000 in
theorem lk_108 : Cond.selects R_Road y_Road_openFrom y_Road_openFrom ∈ lw_good := List.mem_filter.mpr ⟨List.mem_append_right _ (List.mem_of_getElem? (i := 371) (by decide +kernel)), rfl⟩
set_option maxRecDepth 50000 in
theorem lk_109 : Cond.methodLink R_Band 49 y_Road_choices ∈ lw_good := List.mem_filter.mpr ⟨List.mem_append_right _ (List.mem_of_getElem? (i := 377) (by decide +kernel)), rfl⟩
set_option maxRecDepth 50000 in
theorem lk_110 : Cond.fieldLink R_Band 9 "WaveOffsets$BandWorth" "openLow" "[J" ∈ lw_good := List.mem_filter.mpr ⟨List.mem_append_right _ (List.mem_of_getElem? (i := 74) (by decide +kernel)), rfl⟩
set_option maxRecDepth 50000 in
theorem lk_111 : Cond.methodLinkNest R_Band 52 y_WO_arcBits "WaveOffsets" ∈ lw_nest := List.mem_filter.mpr ⟨List.mem_append_right _ (List.mem_of_getElem? (i := 378) (by decide +kernel)), rfl⟩
set_option maxRecDepth 50000 in
theorem lk_112 : Cond.code y_WO_arcBits b_WO_arcBits 5 (some .long) ∈ lw_good := List.mem_filter.mpr ⟨List.mem_append_right _ (List.mem_of_getElem? (i := 380) rfl), rfl⟩
set_option maxRecDepth 50000 in
theorem lk_113 : Cond.static y_WO_arcBits ∈ lw_good := List.mem_filter.mpr ⟨List.mem_append_right _ (List.mem_of_getElem? (i := 379) (by decide +kernel)), rfl⟩
set_option maxRecDepth 50000 in
theorem lk_114 : Cond.fieldLink R_Band 15 "WaveOffsets$BandWorth" "openHigh" "[J" ∈ lw_good := List.mem_filter.mpr ⟨List.mem_append_right _ (List.mem_of_getElem? (i := 75) (by decide +kernel)), rfl⟩
set_option maxRecDepth 50000 in
theorem lk_115 : Cond.methodLink R_Band 56 y_Road_stepOf ∈ lw_good := List.mem_filter.mpr ⟨List.mem_append_right _ (List.mem_of_getElem? (i := 394) (by decide +kernel)), rfl⟩
set_option maxRecDepth 50000 in
theorem lk_116 : Cond.code y_Road_stepOf b_Road_stepOf 1 (some .int) ∈ lw_good := List.mem_filter.mpr ⟨List.mem_append_right _ (List.mem_of_getElem? (i := 343) rfl), rfl⟩
set_option maxRecDepth 50000 in
theorem lk_117 : Cond.instanceMethod y_Road_stepOf ∈ lw_good := List.mem_filter.mpr ⟨List.mem_append_right _ (List.mem_of_getElem? (i := 341) (by decide +kernel)), rfl⟩
set_option maxRecDepth 50000 in
theorem lk_118 : Cond.selects R_Road y_Road_stepOf y_Road_stepOf ∈ lw_good := List.mem_filter.mpr ⟨List.mem_append_right _ (List.mem_of_getElem? (i := 342) (by decide +kernel)), rfl⟩
set_option maxRecDepth 50000 in
theorem lk_119 : Cond.methodLinkNest R_Band 59 y_WO_wrap "WaveOffsets" ∈ lw_nest := List.mem_filter.mpr ⟨List.mem_append_right _ (List.mem_of_getElem? (i := 395) (by decide +kernel)), rfl⟩
set_option maxRecDepth 50000 in
theorem lk_120 : Cond.fieldLink R_Band 24 "WaveOffsets$BandWorth" "wayWeights" "[I" ∈ lw_good := List.mem_filter.mpr ⟨List.mem_append_right _ (List.mem_of_getElem? (i := 78) (by decide +kernel)), rfl⟩
set_option maxRecDepth 50000 in
theorem lk_121 : Cond.methodLink R_Band 28 y_Road_weightOf ∈ lw_good := List.mem_filter.mpr ⟨List.mem_append_right _ (List.mem_of_getElem? (i := 351) (by decide +kernel)), rfl⟩
set_option maxRecDepth 50000 in
theorem lk_122 : Cond.code y_Road_weightOf b_Road_weightOf 4 (some .int) ∈ lw_good := List.mem_filter.mpr ⟨List.mem_append_right _ (List.mem_of_getElem? (i := 354) rfl), rfl⟩
set_option maxRecDepth 50000 in
theorem lk_123 : Cond.instanceMethod y_Road_weightOf ∈ lw_good := List.mem_filter.mpr ⟨List.mem_append_right _ (List.mem_of_getElem? (i := 352) (by decide +kernel)), rfl⟩
set_option maxRecDepth 50000 in
theorem lk_124 : Cond.selects R_Road y_Road_weightOf y_Road_weightOf ∈ lw_good := List.mem_filter.mpr ⟨List.mem_append_right _ (List.mem_of_getElem? (i := 353) (by decide +kernel)), rfl⟩
set_option maxRecDepth 50000 in
theorem lk_125 : Cond.methodLink R_Band 34 y_Road_size ∈ lw_good := List.mem_filter.mpr ⟨List.mem_append_right _ (List.mem_of_getElem? (i := 355) (by decide +kernel)), rfl⟩
set_option maxRecDepth 50000 in
theorem lk_126 : Cond.code y_Road_size b_Road_size 1 (some .int) ∈ lw_good := List.mem_filter.mpr ⟨List.mem_append_right _ (List.mem_of_getElem? (i := 301) rfl), rfl⟩
set_option maxRecDepth 50000 in
theorem lk_127 : Cond.instanceMethod y_Road_size ∈ lw_good := List.mem_filter.mpr ⟨List.mem_append_right _ (List.mem_of_getElem? (i := 299) (by decide +kernel)), rfl⟩
set_option maxRecDepth 50000 in
theorem lk_128 : Cond.selects R_Road y_Road_size y_Road_size ∈ lw_good := List.mem_filter.mpr ⟨List.mem_append_right _ (List.mem_of_getElem? (i := 300) (by decide +kernel)), rfl⟩
set_option maxRecDepth 50000 in
theorem lk_129 : Cond.methodLink R_Band 38 y_Band_fillOpen ∈ lw_good := List.mem_filter.mpr ⟨List.mem_append_right _ (List.mem_of_getElem? (i := 356) (by decide +kernel)), rfl⟩
set_option maxRecDepth 50000 in
theorem lk_130 : Cond.code y_Band_fillOpen b_Band_fillOpen 10 none ∈ lw_good := List.mem_filter.mpr ⟨List.mem_append_right _ (List.mem_of_getElem? (i := 359) rfl), rfl⟩
set_option maxRecDepth 50000 in
theorem lk_131 : Cond.instanceMethod y_Band_fillOpen ∈ lw_good := List.mem_filter.mpr ⟨List.mem_append_right _ (List.mem_of_getElem? (i := 358) (by decide +kernel)), rfl⟩
set_option maxRecDepth 50000 in
theorem lk_132 : Cond.selects R_Band y_Band_fillOpen y_Band_fillOpen ∈ lw_good := List.mem_filter.mpr ⟨List.mem_append_left _ (List.mem_of_getElem? (i := 1) (by decide +kernel)), rfl⟩
set_option maxRecDepth 50000 in
theorem lk_133 : Cond.initialized R_Band ∈ lw_good := List.mem_filter.mpr ⟨List.mem_append_right _ (List.mem_of_getElem? (i := 5) (by decide +kernel)), rfl⟩
set_option maxRecDepth 50000 in
theorem lk_134 : Cond.constantLong R_Band 63 4 ∈ lw_good := List.mem_filter.mpr ⟨List.mem_append_right _ (List.mem_of_getElem? (i := 421) (by decide +kernel)), rfl⟩
set_option maxRecDepth 50000 in
theorem lk_135 : Cond.methodLinkNest R_Band 65 y_WO_within "WaveOffsets" ∈ lw_nest := List.mem_filter.mpr ⟨List.mem_append_right _ (List.mem_of_getElem? (i := 422) (by decide +kernel)), rfl⟩
set_option maxRecDepth 50000 in
theorem lk_136 : Cond.code y_WO_within b_WO_within 6 (some .boolean) ∈ lw_good := List.mem_filter.mpr ⟨List.mem_append_right _ (List.mem_of_getElem? (i := 229) rfl), rfl⟩
set_option maxRecDepth 50000 in
theorem lk_137 : Cond.static y_WO_within ∈ lw_good := List.mem_filter.mpr ⟨List.mem_append_right _ (List.mem_of_getElem? (i := 228) (by decide +kernel)), rfl⟩
set_option maxRecDepth 50000 in
theorem lk_138 : Cond.constantLong R_Band 69 119 ∈ lw_good := List.mem_filter.mpr ⟨List.mem_append_right _ (List.mem_of_getElem? (i := 423) (by decide +kernel)), rfl⟩
set_option maxRecDepth 50000 in
theorem lk_139 : Cond.fieldLink R_Band 18 "WaveOffsets$BandWorth" "bandLow" "[J" ∈ lw_good := List.mem_filter.mpr ⟨List.mem_append_right _ (List.mem_of_getElem? (i := 76) (by decide +kernel)), rfl⟩
set_option maxRecDepth 50000 in
theorem lk_140 : Cond.fieldLink R_Band 21 "WaveOffsets$BandWorth" "bandHigh" "[J" ∈ lw_good := List.mem_filter.mpr ⟨List.mem_append_right _ (List.mem_of_getElem? (i := 77) (by decide +kernel)), rfl⟩
set_option maxRecDepth 50000 in
theorem lk_141 : Cond.methodLink R_Band 71 y_Long_bitCount ∈ lw_good := List.mem_filter.mpr ⟨List.mem_append_right _ (List.mem_of_getElem? (i := 424) (by decide +kernel)), rfl⟩
set_option maxRecDepth 50000 in
theorem lk_142 : Cond.code y_Long_bitCount b_Long_bitCount 2 (some .int) ∈ lw_good := List.mem_filter.mpr ⟨List.mem_append_right _ (List.mem_of_getElem? (i := 426) rfl), rfl⟩
set_option maxRecDepth 50000 in
theorem lk_143 : Cond.static y_Long_bitCount ∈ lw_good := List.mem_filter.mpr ⟨List.mem_append_right _ (List.mem_of_getElem? (i := 425) (by decide +kernel)), rfl⟩
set_option maxRecDepth 50000 in
theorem lk_144 : Cond.initialized R_Long ∈ lw_good := List.mem_filter.mpr ⟨List.mem_append_right _ (List.mem_of_getElem? (i := 12) (by decide +kernel)), rfl⟩
def p_Band_fillOpen_39 (n : Nat) : Nat → Int32 → Int32 → Int32 → Int32 → Int32 → Int32 → Int32 → (Nat → Int64) → (Nat → Int64) → Option ((Nat → Int64) × (Nat → Int64))
  | 0, _, _, _, _, _, _, _, _, _ => none
  | k + 1, v_u1_stepSeconds, z4, z5, z6, z7, z8, z9, v_t_openLow, v_t_openHigh =>
    if z8 ≤ z9 then
      some (v_t_openLow, v_t_openHigh)
    else
      if (120 : Int32) ≤ z9 then
        some (v_t_openLow, v_t_openHigh)
      else
        (p_WO_arcBits n z6 z5 z4 (0 : Int32)).bind fun r69_6 =>
        if dk_in (z7 + z9) 1200 = true then
          (p_WO_arcBits n z6 z5 z4 (60 : Int32)).bind fun r90_7 =>
          if dk_in (z7 + z9) 1200 = true then
            (p_Road_stepOf n v_u1_stepSeconds).bind fun r97_8 =>
            (p_WO_wrap n (z6 + r97_8) z4).bind fun r103_9 =>
            p_Band_fillOpen_39 n k v_u1_stepSeconds z4 z5 r103_9 z7 z8 (z9 + (1 : Int32)) (vp_updL v_t_openLow (z7 + z9).toNatClampNeg r69_6) (vp_updL v_t_openHigh (z7 + z9).toNatClampNeg r90_7)
          else none
        else none
theorem q_Band_fillOpen_39 (n k : Nat) (v_u1_stepSeconds : Int32) (z4 : Int32) (z5 : Int32) (z6 : Int32) (z7 : Int32) (z8 : Int32) (z9 : Int32) (v_t_openLow : Nat → Int64) (v_t_openHigh : Nat → Int64) : p_Band_fillOpen_39 n (k + 1) v_u1_stepSeconds z4 z5 z6 z7 z8 z9 v_t_openLow v_t_openHigh =
    if z8 ≤ z9 then
      some (v_t_openLow, v_t_openHigh)
    else
      if (120 : Int32) ≤ z9 then
        some (v_t_openLow, v_t_openHigh)
      else
        (p_WO_arcBits n z6 z5 z4 (0 : Int32)).bind fun r69_6 =>
        if dk_in (z7 + z9) 1200 = true then
          (p_WO_arcBits n z6 z5 z4 (60 : Int32)).bind fun r90_7 =>
          if dk_in (z7 + z9) 1200 = true then
            (p_Road_stepOf n v_u1_stepSeconds).bind fun r97_8 =>
            (p_WO_wrap n (z6 + r97_8) z4).bind fun r103_9 =>
            p_Band_fillOpen_39 n k v_u1_stepSeconds z4 z5 r103_9 z7 z8 (z9 + (1 : Int32)) (vp_updL v_t_openLow (z7 + z9).toNatClampNeg r69_6) (vp_updL v_t_openHigh (z7 + z9).toNatClampNeg r90_7)
          else none
        else none := rfl
def p_Band_fillOpen (n : Nat) (x2 : Int32) (x3 : Int32) (x4 : Int32) (v_u1_size : Int32) (v_u1_greens : Nat → Int32) (v_u1_queues : Nat → Int32) (v_u1_seconds : Nat → Int32) (v_u1_stepSeconds : Int32) (v_t_openLow : Nat → Int64) (v_t_openHigh : Nat → Int64) : Option ((Nat → Int64) × (Nat → Int64)) :=
  (p_Road_openOf n x2 v_u1_size v_u1_greens v_u1_queues).bind fun r2_1 =>
  (p_Road_openFrom n x2 x3 (0 : Int32) x4 v_u1_size v_u1_queues v_u1_seconds).bind fun r13_2 =>
  (p_Road_choices n x4 v_u1_stepSeconds).bind fun r31_3 =>
  (p_Band_fillOpen_39 n n v_u1_stepSeconds x4 r2_1 r13_2 (((x2 * (2 : Int32)) + x3) * (120 : Int32)) r31_3 (0 : Int32) v_t_openLow v_t_openHigh).bind fun q39_10 =>
  some (q39_10.1, q39_10.2)
abbrev m_Band_fillOpen : Room := { frames := 4, cells := 0, slots := 0, locals := 87 }
set_option maxHeartbeats 4000000 in
set_option maxRecDepth 100000 in
theorem c_Band_fillOpen (l : Launch) (G : va_G) (K : Nat → ClassId) (n : Nat) (sz : Nat) (t : Nat) (t_openLow : Nat) (t_openHigh : Nat) (t_bandLow : Nat) (t_bandHigh : Nat) (t_wayWeights : Nat) (u1 : Nat) (u1_greens : Nat) (u1_leasts : Nat) (u1_queues : Nat) (u1_seconds : Nat) (u1_weights : Nat) (x2 : Int32) (x3 : Int32) (x4 : Int32) (v_t_openLow : Nat → Int64) (v_t_openHigh : Nat → Int64) (v_u1_size : Int32) (v_u1_firstCycle : Int32) (v_u1_lastCycle : Int32) (v_u1_cycleBy : Int32) (v_u1_stepSeconds : Int32) (v_u1_greens : Nat → Int32) (v_u1_queues : Nat → Int32) (v_u1_seconds : Nat → Int32) (o : (Nat → Int64) × (Nat → Int64)) (hF : p_Band_fillOpen n x2 x3 x4 v_u1_size v_u1_greens v_u1_queues v_u1_seconds v_u1_stepSeconds v_t_openLow v_t_openHigh = some o) :
    Met l y_Band_fillOpen (wd y_Band_fillOpen b_Band_fillOpen 10 none) m_Band_fillOpen (dk_Pm [.ref t, .ref u1, .int x2, .int x3, .int x4] G K [(t, .inr (3, [.ref t_openLow, .ref t_openHigh, .ref t_bandLow, .ref t_bandHigh, .ref t_wayWeights])), (t_openLow, .inl (K 1, 1200, .inr (.inl v_t_openLow))), (t_openHigh, .inl (K 1, 1200, .inr (.inl v_t_openHigh))), (u1, .inr (1, [.ref u1_greens, .ref u1_leasts, .ref u1_queues, .ref u1_seconds, .ref u1_weights, .int v_u1_size, .int v_u1_firstCycle, .int v_u1_lastCycle, .int v_u1_cycleBy, .int v_u1_stepSeconds])), (u1_greens, .inl (K 0, 5, .inl v_u1_greens)), (u1_queues, .inl (K 0, 5, .inl v_u1_queues)), (u1_seconds, .inl (K 0, 10, .inl v_u1_seconds))] sz) (dk_Qm none G (fun _ : Unit => [(t, .inr (3, [.ref t_openLow, .ref t_openHigh, .ref t_bandLow, .ref t_bandHigh, .ref t_wayWeights])), (t_openLow, .inl (K 1, 1200, .inr (.inl o.1))), (t_openHigh, .inl (K 1, 1200, .inr (.inl o.2))), (u1, .inr (1, [.ref u1_greens, .ref u1_leasts, .ref u1_queues, .ref u1_seconds, .ref u1_weights, .int v_u1_size, .int v_u1_firstCycle, .int v_u1_lastCycle, .int v_u1_cycleBy, .int v_u1_stepSeconds])), (u1_greens, .inl (K 0, 5, .inl v_u1_greens)), (u1_queues, .inl (K 0, 5, .inl v_u1_queues)), (u1_seconds, .inl (K 0, 10, .inl v_u1_seconds))]) (va_A [(t, .inr (3, [.ref t_openLow, .ref t_openHigh, .ref t_bandLow, .ref t_bandHigh, .ref t_wayWeights])), (t_openLow, .inl (K 1, 1200, .inr (.inl v_t_openLow))), (t_openHigh, .inl (K 1, 1200, .inr (.inl v_t_openHigh))), (u1, .inr (1, [.ref u1_greens, .ref u1_leasts, .ref u1_queues, .ref u1_seconds, .ref u1_weights, .int v_u1_size, .int v_u1_firstCycle, .int v_u1_lastCycle, .int v_u1_cycleBy, .int v_u1_stepSeconds])), (u1_greens, .inl (K 0, 5, .inl v_u1_greens)), (u1_queues, .inl (K 0, 5, .inl v_u1_queues)), (u1_seconds, .inl (K 0, 10, .inl v_u1_seconds))] sz)) 0 0 (va_A [(t, .inr (3, [.ref t_openLow, .ref t_openHigh, .ref t_bandLow, .ref t_bandHigh, .ref t_wayWeights])), (t_openLow, .inl (K 1, 1200, .inr (.inl v_t_openLow))), (t_openHigh, .inl (K 1, 1200, .inr (.inl v_t_openHigh))), (u1, .inr (1, [.ref u1_greens, .ref u1_leasts, .ref u1_queues, .ref u1_seconds, .ref u1_weights, .int v_u1_size, .int v_u1_firstCycle, .int v_u1_lastCycle, .int v_u1_cycleBy, .int v_u1_stepSeconds])), (u1_greens, .inl (K 0, 5, .inl v_u1_greens)), (u1_queues, .inl (K 0, 5, .inl v_u1_queues)), (u1_seconds, .inl (K 0, 10, .inl v_u1_seconds))] sz) := by
  refine Met.ofW (cc := b_Band_fillOpen) (maxL := 10) (ret := none) (by decide) rfl ?_
  intro p e s m args below meth c s₁ B hml hv
  obtain ⟨rfl, hsz, hP, hK, hN, hD0⟩ := hv
  have hx := B.exec
  have hb := B.bytes
  have hr := B.returns
  have hts : ∀ w ∈ lw_good, w.before _ s = true := fun w h => atoms_spec (ws := wd y_Band_fillOpen b_Band_fillOpen 10 none) B.pre w (List.mem_cons_of_mem _ h)
  have hown : s.vm.findClass R_Band = some m.cls := findClass_of_methodNamed B.named
  have hlocks := B.notSynchronized
  have hfix : CallFix p m c b_Band_fillOpen 10 s _ lw_good R_Band := ⟨hx, hb, hml, hown, hts⟩
  subst hsz
  have hD := hD0.self (sz := s.heap.size)
  generalize hAe : va_A [(t, .inr (3, [.ref t_openLow, .ref t_openHigh, .ref t_bandLow, .ref t_bandHigh, .ref t_wayWeights])), (t_openLow, .inl (K 1, 1200, .inr (.inl v_t_openLow))), (t_openHigh, .inl (K 1, 1200, .inr (.inl v_t_openHigh))), (u1, .inr (1, [.ref u1_greens, .ref u1_leasts, .ref u1_queues, .ref u1_seconds, .ref u1_weights, .int v_u1_size, .int v_u1_firstCycle, .int v_u1_lastCycle, .int v_u1_cycleBy, .int v_u1_stepSeconds])), (u1_greens, .inl (K 0, 5, .inl v_u1_greens)), (u1_queues, .inl (K 0, 5, .inl v_u1_queues)), (u1_seconds, .inl (K 0, 10, .inl v_u1_seconds))] s.heap.size = A at hD ⊢
  have hA : ∀ q : Nat, s.heap.size ≤ q → A q := fun q h => by rw [← hAe]; exact Or.inr h
  have hS : va_S A s.heap s.heap [] := va_S.rf
  have hl := lv_entry ([.ref t, .ref u1, .int x2, .int x3, .int x4]) (n := 10) (Nat.le_of_ble_eq_true rfl)
  rw [lg_entry_eq]
  generalize (lg_sl ([.ref t, .ref u1, .int x2, .int x3, .int x4]) ++ List.replicate (10 - (lg_sl ([.ref t, .ref u1, .int x2, .int x3, .int x4])).length) Slot.unset).toArray = ls at hl ⊢
  have hl : lv_has ls 10 [(0, .ref t), (1, .ref u1), (2, .int x2), (3, .int x3), (4, .int x4)] := hl
  change W p l e m_Band_fillOpen s m _ below meth c s.heap [] 0 0 _ _
  have L39 : ∀ (k : Nat) (z4 : Int32) (z5 : Int32) (z6 : Int32) (z7 : Int32) (z8 : Int32) (z9 : Int32) (v_t_openLow : Nat → Int64) (v_t_openHigh : Nat → Int64) (H : Heap) (locs : List Loc) (q : (Nat → Int64) × (Nat → Int64)), p_Band_fillOpen_39 n k v_u1_stepSeconds z4 z5 z6 z7 z8 z9 v_t_openLow v_t_openHigh = some q → va_P G classes [(t, .inr (3, [.ref t_openLow, .ref t_openHigh, .ref t_bandLow, .ref t_bandHigh, .ref t_wayWeights])), (t_openLow, .inl (K 1, 1200, .inr (.inl v_t_openLow))), (t_openHigh, .inl (K 1, 1200, .inr (.inl v_t_openHigh))), (u1, .inr (1, [.ref u1_greens, .ref u1_leasts, .ref u1_queues, .ref u1_seconds, .ref u1_weights, .int v_u1_size, .int v_u1_firstCycle, .int v_u1_lastCycle, .int v_u1_cycleBy, .int v_u1_stepSeconds])), (u1_greens, .inl (K 0, 5, .inl v_u1_greens)), (u1_queues, .inl (K 0, 5, .inl v_u1_queues)), (u1_seconds, .inl (K 0, 10, .inl v_u1_seconds))] H → va_D A [(t, .inr (3, [.ref t_openLow, .ref t_openHigh, .ref t_bandLow, .ref t_bandHigh, .ref t_wayWeights])), (t_openLow, .inl (K 1, 1200, .inr (.inl v_t_openLow))), (t_openHigh, .inl (K 1, 1200, .inr (.inl v_t_openHigh))), (u1, .inr (1, [.ref u1_greens, .ref u1_leasts, .ref u1_queues, .ref u1_seconds, .ref u1_weights, .int v_u1_size, .int v_u1_firstCycle, .int v_u1_lastCycle, .int v_u1_cycleBy, .int v_u1_stepSeconds])), (u1_greens, .inl (K 0, 5, .inl v_u1_greens)), (u1_queues, .inl (K 0, 5, .inl v_u1_queues)), (u1_seconds, .inl (K 0, 10, .inl v_u1_seconds))] → va_S A s.heap H locs → ∀ ls : Array Slot, lv_has ls 10 [(0, .ref t), (1, .ref u1), (4, .int z4), (5, .int z5), (6, .int z6), (7, .int z7), (8, .int z8), (9, .int z9)] → (∀ (H1 : Heap) (locs1 : List Loc) (ls1 : Array Slot), va_P G classes [(t, .inr (3, [.ref t_openLow, .ref t_openHigh, .ref t_bandLow, .ref t_bandHigh, .ref t_wayWeights])), (t_openLow, .inl (K 1, 1200, .inr (.inl q.1))), (t_openHigh, .inl (K 1, 1200, .inr (.inl q.2))), (u1, .inr (1, [.ref u1_greens, .ref u1_leasts, .ref u1_queues, .ref u1_seconds, .ref u1_weights, .int v_u1_size, .int v_u1_firstCycle, .int v_u1_lastCycle, .int v_u1_cycleBy, .int v_u1_stepSeconds])), (u1_greens, .inl (K 0, 5, .inl v_u1_greens)), (u1_queues, .inl (K 0, 5, .inl v_u1_queues)), (u1_seconds, .inl (K 0, 10, .inl v_u1_seconds))] H1 → va_D A [(t, .inr (3, [.ref t_openLow, .ref t_openHigh, .ref t_bandLow, .ref t_bandHigh, .ref t_wayWeights])), (t_openLow, .inl (K 1, 1200, .inr (.inl q.1))), (t_openHigh, .inl (K 1, 1200, .inr (.inl q.2))), (u1, .inr (1, [.ref u1_greens, .ref u1_leasts, .ref u1_queues, .ref u1_seconds, .ref u1_weights, .int v_u1_size, .int v_u1_firstCycle, .int v_u1_lastCycle, .int v_u1_cycleBy, .int v_u1_stepSeconds])), (u1_greens, .inl (K 0, 5, .inl v_u1_greens)), (u1_queues, .inl (K 0, 5, .inl v_u1_queues)), (u1_seconds, .inl (K 0, 10, .inl v_u1_seconds))] → va_S A s.heap H1 locs1 → lv_has ls1 10 [] → W p l e m_Band_fillOpen s m ([.ref t, .ref u1, .int x2, .int x3, .int x4] : List Value).toArray below meth c H1 locs1 0 0 (MQ below (dk_Qm none G (fun _ : Unit => [(t, .inr (3, [.ref t_openLow, .ref t_openHigh, .ref t_bandLow, .ref t_bandHigh, .ref t_wayWeights])), (t_openLow, .inl (K 1, 1200, .inr (.inl o.1))), (t_openHigh, .inl (K 1, 1200, .inr (.inl o.2))), (u1, .inr (1, [.ref u1_greens, .ref u1_leasts, .ref u1_queues, .ref u1_seconds, .ref u1_weights, .int v_u1_size, .int v_u1_firstCycle, .int v_u1_lastCycle, .int v_u1_cycleBy, .int v_u1_stepSeconds])), (u1_greens, .inl (K 0, 5, .inl v_u1_greens)), (u1_queues, .inl (K 0, 5, .inl v_u1_queues)), (u1_seconds, .inl (K 0, 10, .inl v_u1_seconds))]) A) ([.ref t, .ref u1, .int x2, .int x3, .int x4] : List Value).toArray s 0 0 A) (F0 m 114 ls1 [])) → W p l e m_Band_fillOpen s m ([.ref t, .ref u1, .int x2, .int x3, .int x4] : List Value).toArray below meth c H locs 0 0 (MQ below (dk_Qm none G (fun _ : Unit => [(t, .inr (3, [.ref t_openLow, .ref t_openHigh, .ref t_bandLow, .ref t_bandHigh, .ref t_wayWeights])), (t_openLow, .inl (K 1, 1200, .inr (.inl o.1))), (t_openHigh, .inl (K 1, 1200, .inr (.inl o.2))), (u1, .inr (1, [.ref u1_greens, .ref u1_leasts, .ref u1_queues, .ref u1_seconds, .ref u1_weights, .int v_u1_size, .int v_u1_firstCycle, .int v_u1_lastCycle, .int v_u1_cycleBy, .int v_u1_stepSeconds])), (u1_greens, .inl (K 0, 5, .inl v_u1_greens)), (u1_queues, .inl (K 0, 5, .inl v_u1_queues)), (u1_seconds, .inl (K 0, 10, .inl v_u1_seconds))]) A) ([.ref t, .ref u1, .int x2, .int x3, .int x4] : List Value).toArray s 0 0 A) (F0 m 39 ls []) := by
    intro k
    induction k with
    | zero =>
      intro z4 z5 z6 z7 z8 z9 v_t_openLow v_t_openHigh H locs q hF hP hD hS ls hl hk
      exact absurd hF (by simp [p_Band_fillOpen_39])
    | succ k jh =>
      intro z4 z5 z6 z7 z8 z9 v_t_openLow v_t_openHigh H locs q hF hP hD hS ls hl hk
      have hF := (q_Band_fillOpen_39 n k v_u1_stepSeconds z4 z5 z6 z7 z8 z9 v_t_openLow v_t_openHigh).symm.trans hF
      refine lv_iload hx hb d_Band_fillOpen_39 (lv_at hl 7 rfl) ?_
      refine lv_iload hx hb d_Band_fillOpen_41 (lv_at hl 6 rfl) ?_
      refine lv_icmp_ge (tgt := 114) hx hb d_Band_fillOpen_43 (by decide) (fun c43_4 => ?_) (fun c43_4 => ?_)
      · have hF := dk_t c43_4 hF
        obtain rfl := Option.some.inj hF
        exact hk H locs ls hP hD hS (lv_sub hl [] rfl)
      · have hF := dk_f c43_4 hF
        refine lv_iload hx hb d_Band_fillOpen_46 (lv_at hl 7 rfl) ?_
        refine lv_bipush (v := (120 : Int32)) hx hb d_Band_fillOpen_48 (by decide) ?_
        refine lv_icmp_ge (tgt := 114) hx hb d_Band_fillOpen_50 (by decide) (fun c50_5 => ?_) (fun c50_5 => ?_)
        · have hF := dk_t c50_5 hF
          obtain rfl := Option.some.inj hF
          exact hk H locs ls hP hD hS (lv_sub hl [] rfl)
        · have hF := dk_f c50_5 hF
          refine lv_aload_n hx hb d_Band_fillOpen_53 rfl (lv_at hl 0 rfl) ?_
          refine va_get (D := G) (ci := 3) (v := .ref t_openLow) (C := R_Band) (T := F_Band) (N := 5) hx hb hts i_Band hown hK hP 0 rfl rfl 0 (by decide) (hts _ lk_110) (fun _ h9 => h9) rfl d_Band_fillOpen_54 ?_
          refine lv_iload hx hb d_Band_fillOpen_57 (lv_at hl 5 rfl) ?_
          refine lv_iload hx hb d_Band_fillOpen_59 (lv_at hl 7 rfl) ?_
          refine lv_iadd hx hb d_Band_fillOpen_61 ?_
          refine lv_iload hx hb d_Band_fillOpen_62 (lv_at hl 4 rfl) ?_
          refine lv_iload hx hb d_Band_fillOpen_64 (lv_at hl 3 rfl) ?_
          refine lv_iload hx hb d_Band_fillOpen_66 (lv_at hl 2 rfl) ?_
          refine lv_iconst (v := (0 : Int32)) hx hb d_Band_fillOpen_68 (by decide) ?_
          obtain ⟨r69_6, hC, hF⟩ := dk_b hF
          refine dk_pure (va_runSN (As := [.int z6, .int z5, .int z4, .int (0 : Int32)]) (rest := [.int (z7 + z9), .ref t_openLow]) hfix (c_WO_arcBits l G K n z6 z5 z4 (0 : Int32) r69_6 hC) (⟨va_cnB 4 hts (gd_w lk_112) rfl rfl rfl (hN.1 _ lk_111) (hts _ lk_16) (by decide +kernel) ⟨Nat.le_of_ble_eq_true rfl, Nat.le_of_ble_eq_true rfl⟩, hts _ lk_113, trivial⟩) (dk_preS hK hN (hP.sub [] rfl)) rfl rfl hl.1 rfl (lv_room (Nat.le_of_ble_eq_true rfl)) d_Band_fillOpen_69 ⟨Nat.le_of_ble_eq_true rfl, Nat.le_of_ble_eq_true rfl⟩) ?_
          obtain ⟨hi, hF⟩ := dk_a hF
          refine va_last (D := G) hx hb hK hP hD hS 1 1 rfl rfl (dk_vp hi) d_Band_fillOpen_72 (fun H locs hP hD hS => ?_)
          have hP : va_P G classes [(t, .inr (3, [.ref t_openLow, .ref t_openHigh, .ref t_bandLow, .ref t_bandHigh, .ref t_wayWeights])), (t_openLow, .inl (K 1, 1200, .inr (.inl (vp_updL v_t_openLow (z7 + z9).toNatClampNeg r69_6)))), (t_openHigh, .inl (K 1, 1200, .inr (.inl v_t_openHigh))), (u1, .inr (1, [.ref u1_greens, .ref u1_leasts, .ref u1_queues, .ref u1_seconds, .ref u1_weights, .int v_u1_size, .int v_u1_firstCycle, .int v_u1_lastCycle, .int v_u1_cycleBy, .int v_u1_stepSeconds])), (u1_greens, .inl (K 0, 5, .inl v_u1_greens)), (u1_queues, .inl (K 0, 5, .inl v_u1_queues)), (u1_seconds, .inl (K 0, 10, .inl v_u1_seconds))] H := hP
          have hD : va_D A [(t, .inr (3, [.ref t_openLow, .ref t_openHigh, .ref t_bandLow, .ref t_bandHigh, .ref t_wayWeights])), (t_openLow, .inl (K 1, 1200, .inr (.inl (vp_updL v_t_openLow (z7 + z9).toNatClampNeg r69_6)))), (t_openHigh, .inl (K 1, 1200, .inr (.inl v_t_openHigh))), (u1, .inr (1, [.ref u1_greens, .ref u1_leasts, .ref u1_queues, .ref u1_seconds, .ref u1_weights, .int v_u1_size, .int v_u1_firstCycle, .int v_u1_lastCycle, .int v_u1_cycleBy, .int v_u1_stepSeconds])), (u1_greens, .inl (K 0, 5, .inl v_u1_greens)), (u1_queues, .inl (K 0, 5, .inl v_u1_queues)), (u1_seconds, .inl (K 0, 10, .inl v_u1_seconds))] := hD
          refine lv_aload_n hx hb d_Band_fillOpen_73 rfl (lv_at hl 0 rfl) ?_
          refine va_get (D := G) (ci := 3) (v := .ref t_openHigh) (C := R_Band) (T := F_Band) (N := 5) hx hb hts i_Band hown hK hP 0 rfl rfl 1 (by decide) (hts _ lk_114) (fun _ h9 => h9) rfl d_Band_fillOpen_74 ?_
          refine lv_iload hx hb d_Band_fillOpen_77 (lv_at hl 5 rfl) ?_
          refine lv_iload hx hb d_Band_fillOpen_79 (lv_at hl 7 rfl) ?_
          refine lv_iadd hx hb d_Band_fillOpen_81 ?_
          refine lv_iload hx hb d_Band_fillOpen_82 (lv_at hl 4 rfl) ?_
          refine lv_iload hx hb d_Band_fillOpen_84 (lv_at hl 3 rfl) ?_
          refine lv_iload hx hb d_Band_fillOpen_86 (lv_at hl 2 rfl) ?_
          refine lv_bipush (v := (60 : Int32)) hx hb d_Band_fillOpen_88 (by decide) ?_
          obtain ⟨r90_7, hC, hF⟩ := dk_b hF
          refine dk_pure (va_runSN (As := [.int z6, .int z5, .int z4, .int (60 : Int32)]) (rest := [.int (z7 + z9), .ref t_openHigh]) hfix (c_WO_arcBits l G K n z6 z5 z4 (60 : Int32) r90_7 hC) (⟨va_cnB 4 hts (gd_w lk_112) rfl rfl rfl (hN.1 _ lk_111) (hts _ lk_16) (by decide +kernel) ⟨Nat.le_of_ble_eq_true rfl, Nat.le_of_ble_eq_true rfl⟩, hts _ lk_113, trivial⟩) (dk_preS hK hN (hP.sub [] rfl)) rfl rfl hl.1 rfl (lv_room (Nat.le_of_ble_eq_true rfl)) d_Band_fillOpen_90 ⟨Nat.le_of_ble_eq_true rfl, Nat.le_of_ble_eq_true rfl⟩) ?_
          obtain ⟨hi, hF⟩ := dk_a hF
          refine va_last (D := G) hx hb hK hP hD hS 2 1 rfl rfl (dk_vp hi) d_Band_fillOpen_93 (fun H locs hP hD hS => ?_)
          have hP : va_P G classes [(t, .inr (3, [.ref t_openLow, .ref t_openHigh, .ref t_bandLow, .ref t_bandHigh, .ref t_wayWeights])), (t_openLow, .inl (K 1, 1200, .inr (.inl (vp_updL v_t_openLow (z7 + z9).toNatClampNeg r69_6)))), (t_openHigh, .inl (K 1, 1200, .inr (.inl (vp_updL v_t_openHigh (z7 + z9).toNatClampNeg r90_7)))), (u1, .inr (1, [.ref u1_greens, .ref u1_leasts, .ref u1_queues, .ref u1_seconds, .ref u1_weights, .int v_u1_size, .int v_u1_firstCycle, .int v_u1_lastCycle, .int v_u1_cycleBy, .int v_u1_stepSeconds])), (u1_greens, .inl (K 0, 5, .inl v_u1_greens)), (u1_queues, .inl (K 0, 5, .inl v_u1_queues)), (u1_seconds, .inl (K 0, 10, .inl v_u1_seconds))] H := hP
          have hD : va_D A [(t, .inr (3, [.ref t_openLow, .ref t_openHigh, .ref t_bandLow, .ref t_bandHigh, .ref t_wayWeights])), (t_openLow, .inl (K 1, 1200, .inr (.inl (vp_updL v_t_openLow (z7 + z9).toNatClampNeg r69_6)))), (t_openHigh, .inl (K 1, 1200, .inr (.inl (vp_updL v_t_openHigh (z7 + z9).toNatClampNeg r90_7)))), (u1, .inr (1, [.ref u1_greens, .ref u1_leasts, .ref u1_queues, .ref u1_seconds, .ref u1_weights, .int v_u1_size, .int v_u1_firstCycle, .int v_u1_lastCycle, .int v_u1_cycleBy, .int v_u1_stepSeconds])), (u1_greens, .inl (K 0, 5, .inl v_u1_greens)), (u1_queues, .inl (K 0, 5, .inl v_u1_queues)), (u1_seconds, .inl (K 0, 10, .inl v_u1_seconds))] := hD
          refine lv_iload hx hb d_Band_fillOpen_94 (lv_at hl 4 rfl) ?_
          refine lv_aload_n hx hb d_Band_fillOpen_96 rfl (lv_at hl 1 rfl) ?_
          obtain ⟨r97_8, hC, hF⟩ := dk_b hF
          refine dk_pure (va_runV (As := []) (rest := [.int z6]) hfix (c_Road_stepOf l G K n u1 u1_greens u1_leasts u1_queues u1_seconds u1_weights v_u1_size v_u1_firstCycle v_u1_lastCycle v_u1_cycleBy v_u1_stepSeconds r97_8 hC) (cwV 0 hts (gd_V lk_115 lk_117 lk_118 lk_29 lk_116) rfl rfl rfl (by decide +kernel) ⟨Nat.le_of_ble_eq_true rfl, Nat.le_of_ble_eq_true rfl⟩) (dk_preV hK hN (hP.sub [3] rfl) (va_recv hK hP (ci := 1) (q0 := 3) rfl rfl)) rfl rfl hl.1 rfl (lv_room (Nat.le_of_ble_eq_true rfl)) d_Band_fillOpen_97 ⟨Nat.le_of_ble_eq_true rfl, Nat.le_of_ble_eq_true rfl⟩) ?_
          refine lv_iadd hx hb d_Band_fillOpen_100 ?_
          refine lv_iload hx hb d_Band_fillOpen_101 (lv_at hl 2 rfl) ?_
          obtain ⟨r103_9, hC, hF⟩ := dk_b hF
          refine dk_pure (va_runSN (As := [.int (z6 + r97_8), .int z4]) (rest := []) hfix (c_WO_wrap l G K n (z6 + r97_8) z4 r103_9 hC) (⟨va_cnB 2 hts (gd_w lk_60) rfl rfl rfl (hN.1 _ lk_119) (hts _ lk_16) (by decide +kernel) ⟨Nat.le_of_ble_eq_true rfl, Nat.le_of_ble_eq_true rfl⟩, hts _ lk_61, trivial⟩) (dk_preS hK hN (hP.sub [] rfl)) rfl rfl hl.1 rfl (lv_room (Nat.le_of_ble_eq_true rfl)) d_Band_fillOpen_103 ⟨Nat.le_of_ble_eq_true rfl, Nat.le_of_ble_eq_true rfl⟩) ?_
          refine lv_istore (lv' := [(6, .int r103_9), (0, .ref t), (1, .ref u1), (4, .int z4), (5, .int z5), (7, .int z7), (8, .int z8), (9, .int z9)]) hx hb d_Band_fillOpen_106 hl (by decide) rfl (fun ls hl => ?_)
          refine lv_iinc (v := z9 + (1 : Int32)) (lv' := [(9, .int (z9 + (1 : Int32))), (6, .int r103_9), (0, .ref t), (1, .ref u1), (4, .int z4), (5, .int z5), (7, .int z7), (8, .int z8)]) hx hb d_Band_fillOpen_108 hl (k := 7) rfl rfl (by decide) rfl (fun ls hl => ?_)
          refine lv_goto (tgt := 39) hx hb d_Band_fillOpen_111 (by decide) ?_
          exact jh z4 z5 r103_9 z7 z8 (z9 + (1 : Int32)) (vp_updL v_t_openLow (z7 + z9).toNatClampNeg r69_6) (vp_updL v_t_openHigh (z7 + z9).toNatClampNeg r90_7) H locs q hF hP hD hS ls (lv_sub hl [2, 3, 4, 5, 1, 6, 7, 0] rfl) hk
  unfold p_Band_fillOpen at hF
  refine lv_aload_n hx hb d_Band_fillOpen_0 rfl (lv_at hl 1 rfl) ?_
  refine lv_iload_n hx hb d_Band_fillOpen_1 rfl (lv_at hl 2 rfl) ?_
  obtain ⟨r2_1, hC, hF⟩ := dk_b hF
  refine dk_pure (va_runV (As := [.int x2]) (rest := []) hfix (c_Road_openOf l G K n u1 u1_greens u1_leasts u1_queues u1_seconds u1_weights x2 v_u1_size v_u1_firstCycle v_u1_lastCycle v_u1_cycleBy v_u1_stepSeconds v_u1_greens v_u1_queues r2_1 hC) (cwV 1 hts (gd_V lk_104 lk_56 lk_57 lk_29 lk_55) rfl rfl rfl (by decide +kernel) ⟨Nat.le_of_ble_eq_true rfl, Nat.le_of_ble_eq_true rfl⟩) (dk_preV hK hN (hP.sub [3, 4, 5] rfl) (va_recv hK hP (ci := 1) (q0 := 3) rfl rfl)) rfl rfl hl.1 rfl (lv_room (Nat.le_of_ble_eq_true rfl)) d_Band_fillOpen_2 ⟨Nat.le_of_ble_eq_true rfl, Nat.le_of_ble_eq_true rfl⟩) ?_
  refine lv_istore (lv' := [(5, .int r2_1), (0, .ref t), (1, .ref u1), (2, .int x2), (3, .int x3), (4, .int x4)]) hx hb d_Band_fillOpen_5 hl (by decide) rfl (fun ls hl => ?_)
  refine lv_aload_n hx hb d_Band_fillOpen_7 rfl (lv_at hl 2 rfl) ?_
  refine lv_iload_n hx hb d_Band_fillOpen_8 rfl (lv_at hl 3 rfl) ?_
  refine lv_iload_n hx hb d_Band_fillOpen_9 rfl (lv_at hl 4 rfl) ?_
  refine lv_iconst (v := (0 : Int32)) hx hb d_Band_fillOpen_10 (by decide) ?_
  refine lv_iload hx hb d_Band_fillOpen_11 (lv_at hl 5 rfl) ?_
  obtain ⟨r13_2, hC, hF⟩ := dk_b hF
  refine dk_pure (va_runV (As := [.int x2, .int x3, .int (0 : Int32), .int x4]) (rest := []) hfix (c_Road_openFrom l G K n u1 u1_greens u1_leasts u1_queues u1_seconds u1_weights x2 x3 (0 : Int32) x4 v_u1_size v_u1_firstCycle v_u1_lastCycle v_u1_cycleBy v_u1_stepSeconds v_u1_queues v_u1_seconds r13_2 hC) (cwV 4 hts (gd_V lk_105 lk_107 lk_108 lk_29 lk_106) rfl rfl rfl (by decide +kernel) ⟨Nat.le_of_ble_eq_true rfl, Nat.le_of_ble_eq_true rfl⟩) (dk_preV hK hN (hP.sub [3, 5, 6] rfl) (va_recv hK hP (ci := 1) (q0 := 3) rfl rfl)) rfl rfl hl.1 rfl (lv_room (Nat.le_of_ble_eq_true rfl)) d_Band_fillOpen_13 ⟨Nat.le_of_ble_eq_true rfl, Nat.le_of_ble_eq_true rfl⟩) ?_
  refine lv_istore (lv' := [(6, .int r13_2), (5, .int r2_1), (0, .ref t), (1, .ref u1), (2, .int x2), (3, .int x3), (4, .int x4)]) hx hb d_Band_fillOpen_16 hl (by decide) rfl (fun ls hl => ?_)
  refine lv_iload_n hx hb d_Band_fillOpen_18 rfl (lv_at hl 4 rfl) ?_
  refine lv_iconst (v := (2 : Int32)) hx hb d_Band_fillOpen_19 (by decide) ?_
  refine lv_imul hx hb d_Band_fillOpen_20 ?_
  refine lv_iload_n hx hb d_Band_fillOpen_21 rfl (lv_at hl 5 rfl) ?_
  refine lv_iadd hx hb d_Band_fillOpen_22 ?_
  refine lv_bipush (v := (120 : Int32)) hx hb d_Band_fillOpen_23 (by decide) ?_
  refine lv_imul hx hb d_Band_fillOpen_25 ?_
  refine lv_istore (lv' := [(7, .int (((x2 * (2 : Int32)) + x3) * (120 : Int32))), (6, .int r13_2), (5, .int r2_1), (0, .ref t), (1, .ref u1), (2, .int x2), (3, .int x3), (4, .int x4)]) hx hb d_Band_fillOpen_26 hl (by decide) rfl (fun ls hl => ?_)
  refine lv_aload_n hx hb d_Band_fillOpen_28 rfl (lv_at hl 4 rfl) ?_
  refine lv_iload hx hb d_Band_fillOpen_29 (lv_at hl 7 rfl) ?_
  obtain ⟨r31_3, hC, hF⟩ := dk_b hF
  refine dk_pure (va_runV (As := [.int x4]) (rest := []) hfix (c_Road_choices l G K n u1 u1_greens u1_leasts u1_queues u1_seconds u1_weights x4 v_u1_size v_u1_firstCycle v_u1_lastCycle v_u1_cycleBy v_u1_stepSeconds r31_3 hC) (cwV 1 hts (gd_V lk_109 lk_68 lk_69 lk_29 lk_67) rfl rfl rfl (by decide +kernel) ⟨Nat.le_of_ble_eq_true rfl, Nat.le_of_ble_eq_true rfl⟩) (dk_preV hK hN (hP.sub [3] rfl) (va_recv hK hP (ci := 1) (q0 := 3) rfl rfl)) rfl rfl hl.1 rfl (lv_room (Nat.le_of_ble_eq_true rfl)) d_Band_fillOpen_31 ⟨Nat.le_of_ble_eq_true rfl, Nat.le_of_ble_eq_true rfl⟩) ?_
  refine lv_istore (lv' := [(8, .int r31_3), (7, .int (((x2 * (2 : Int32)) + x3) * (120 : Int32))), (6, .int r13_2), (5, .int r2_1), (0, .ref t), (1, .ref u1), (2, .int x2), (3, .int x3), (4, .int x4)]) hx hb d_Band_fillOpen_34 hl (by decide) rfl (fun ls hl => ?_)
  refine lv_iconst (v := (0 : Int32)) hx hb d_Band_fillOpen_36 (by decide) ?_
  refine lv_istore (lv' := [(9, .int (0 : Int32)), (8, .int r31_3), (7, .int (((x2 * (2 : Int32)) + x3) * (120 : Int32))), (6, .int r13_2), (5, .int r2_1), (0, .ref t), (1, .ref u1), (2, .int x2), (3, .int x3), (4, .int x4)]) hx hb d_Band_fillOpen_37 hl (by decide) rfl (fun ls hl => ?_)
  obtain ⟨q39_10, hC, hF⟩ := dk_b hF
  refine L39 n x4 r2_1 r13_2 (((x2 * (2 : Int32)) + x3) * (120 : Int32)) r31_3 (0 : Int32) v_t_openLow v_t_openHigh s.heap [] q39_10 hC hP hD hS ls (lv_sub hl [5, 6, 9, 4, 3, 2, 1, 0] rfl) (fun H locs ls hP hD hS hl => ?_)
  obtain rfl := Option.some.inj hF
  exact W.vret hx hb hr (fun t ht hW => ⟨⟨(), rfl, by rw [ht]; exact hP, hD⟩, hS.F ht⟩) hS.2.2 d_Band_fillOpen_114
def p_Band_begin_21 (n : Nat) : Nat → Int32 → (Nat → Int32) → (Nat → Int32) → (Nat → Int32) → Int32 → Int32 → Int32 → Int32 → (Nat → Int64) → (Nat → Int64) → Option ((Nat → Int64) × (Nat → Int64))
  | 0, _, _, _, _, _, _, _, _, _, _ => none
  | k + 1, v_u1_size, v_u1_greens, v_u1_queues, v_u1_seconds, v_u1_stepSeconds, z2, z3, z4, v_t_openLow, v_t_openHigh =>
    (p_Road_size n v_u1_size).bind fun r24_3 =>
    if r24_3 ≤ z4 then
      some (v_t_openLow, v_t_openHigh)
    else
      if (5 : Int32) ≤ z4 then
        some (v_t_openLow, v_t_openHigh)
      else
        (p_Band_fillOpen n z4 z3 z2 v_u1_size v_u1_greens v_u1_queues v_u1_seconds v_u1_stepSeconds v_t_openLow v_t_openHigh).bind fun r42_6 =>
        p_Band_begin_21 n k v_u1_size v_u1_greens v_u1_queues v_u1_seconds v_u1_stepSeconds z2 z3 (z4 + (1 : Int32)) r42_6.1 r42_6.2
theorem q_Band_begin_21 (n k : Nat) (v_u1_size : Int32) (v_u1_greens : Nat → Int32) (v_u1_queues : Nat → Int32) (v_u1_seconds : Nat → Int32) (v_u1_stepSeconds : Int32) (z2 : Int32) (z3 : Int32) (z4 : Int32) (v_t_openLow : Nat → Int64) (v_t_openHigh : Nat → Int64) : p_Band_begin_21 n (k + 1) v_u1_size v_u1_greens v_u1_queues v_u1_seconds v_u1_stepSeconds z2 z3 z4 v_t_openLow v_t_openHigh =
    (p_Road_size n v_u1_size).bind fun r24_3 =>
    if r24_3 ≤ z4 then
      some (v_t_openLow, v_t_openHigh)
    else
      if (5 : Int32) ≤ z4 then
        some (v_t_openLow, v_t_openHigh)
      else
        (p_Band_fillOpen n z4 z3 z2 v_u1_size v_u1_greens v_u1_queues v_u1_seconds v_u1_stepSeconds v_t_openLow v_t_openHigh).bind fun r42_6 =>
        p_Band_begin_21 n k v_u1_size v_u1_greens v_u1_queues v_u1_seconds v_u1_stepSeconds z2 z3 (z4 + (1 : Int32)) r42_6.1 r42_6.2 := rfl
def p_Band_begin_2 (n : Nat) : Nat → Int32 → (Nat → Int32) → (Nat → Int32) → (Nat → Int32) → (Nat → Int32) → Int32 → Int32 → Int32 → (Nat → Int64) → (Nat → Int64) → (Nat → Int32) → Option ((Nat → Int64) × (Nat → Int64) × (Nat → Int32))
  | 0, _, _, _, _, _, _, _, _, _, _, _ => none
  | k + 1, v_u1_size, v_u1_weights, v_u1_greens, v_u1_queues, v_u1_seconds, v_u1_stepSeconds, z2, z3, v_t_openLow, v_t_openHigh, v_t_wayWeights =>
    if (2 : Int32) ≤ z3 then
      some (v_t_openLow, v_t_openHigh, v_t_wayWeights)
    else
      (p_Road_weightOf n z3 v_u1_size v_u1_weights).bind fun r14_2 =>
      if dk_in z3 2 = true then
        (p_Band_begin_21 n n v_u1_size v_u1_greens v_u1_queues v_u1_seconds v_u1_stepSeconds z2 z3 (0 : Int32) v_t_openLow v_t_openHigh).bind fun q21_7 =>
        p_Band_begin_2 n k v_u1_size v_u1_weights v_u1_greens v_u1_queues v_u1_seconds v_u1_stepSeconds z2 (z3 + (1 : Int32)) q21_7.1 q21_7.2 (upd v_t_wayWeights z3.toNatClampNeg r14_2)
      else none
theorem q_Band_begin_2 (n k : Nat) (v_u1_size : Int32) (v_u1_weights : Nat → Int32) (v_u1_greens : Nat → Int32) (v_u1_queues : Nat → Int32) (v_u1_seconds : Nat → Int32) (v_u1_stepSeconds : Int32) (z2 : Int32) (z3 : Int32) (v_t_openLow : Nat → Int64) (v_t_openHigh : Nat → Int64) (v_t_wayWeights : Nat → Int32) : p_Band_begin_2 n (k + 1) v_u1_size v_u1_weights v_u1_greens v_u1_queues v_u1_seconds v_u1_stepSeconds z2 z3 v_t_openLow v_t_openHigh v_t_wayWeights =
    if (2 : Int32) ≤ z3 then
      some (v_t_openLow, v_t_openHigh, v_t_wayWeights)
    else
      (p_Road_weightOf n z3 v_u1_size v_u1_weights).bind fun r14_2 =>
      if dk_in z3 2 = true then
        (p_Band_begin_21 n n v_u1_size v_u1_greens v_u1_queues v_u1_seconds v_u1_stepSeconds z2 z3 (0 : Int32) v_t_openLow v_t_openHigh).bind fun q21_7 =>
        p_Band_begin_2 n k v_u1_size v_u1_weights v_u1_greens v_u1_queues v_u1_seconds v_u1_stepSeconds z2 (z3 + (1 : Int32)) q21_7.1 q21_7.2 (upd v_t_wayWeights z3.toNatClampNeg r14_2)
      else none := rfl
def p_Band_begin (n : Nat) (x2 : Int32) (v_u1_size : Int32) (v_u1_weights : Nat → Int32) (v_u1_greens : Nat → Int32) (v_u1_queues : Nat → Int32) (v_u1_seconds : Nat → Int32) (v_u1_stepSeconds : Int32) (v_t_openLow : Nat → Int64) (v_t_openHigh : Nat → Int64) (v_t_wayWeights : Nat → Int32) : Option ((Nat → Int64) × (Nat → Int64) × (Nat → Int32)) :=
  (p_Band_begin_2 n n v_u1_size v_u1_weights v_u1_greens v_u1_queues v_u1_seconds v_u1_stepSeconds x2 (0 : Int32) v_t_openLow v_t_openHigh v_t_wayWeights).bind fun q2_8 =>
  some (q2_8.1, q2_8.2.1, q2_8.2.2)
abbrev m_Band_begin : Room := { frames := 5, cells := 0, slots := 0, locals := 116 }
set_option maxHeartbeats 4000000 in
set_option maxRecDepth 100000 in
theorem c_Band_begin (l : Launch) (G : va_G) (K : Nat → ClassId) (n : Nat) (sz : Nat) (t : Nat) (t_openLow : Nat) (t_openHigh : Nat) (t_bandLow : Nat) (t_bandHigh : Nat) (t_wayWeights : Nat) (u1 : Nat) (u1_greens : Nat) (u1_leasts : Nat) (u1_queues : Nat) (u1_seconds : Nat) (u1_weights : Nat) (x2 : Int32) (v_t_openLow : Nat → Int64) (v_t_openHigh : Nat → Int64) (v_t_wayWeights : Nat → Int32) (v_u1_size : Int32) (v_u1_firstCycle : Int32) (v_u1_lastCycle : Int32) (v_u1_cycleBy : Int32) (v_u1_stepSeconds : Int32) (v_u1_greens : Nat → Int32) (v_u1_queues : Nat → Int32) (v_u1_seconds : Nat → Int32) (v_u1_weights : Nat → Int32) (o : (Nat → Int64) × (Nat → Int64) × (Nat → Int32)) (hF : p_Band_begin n x2 v_u1_size v_u1_weights v_u1_greens v_u1_queues v_u1_seconds v_u1_stepSeconds v_t_openLow v_t_openHigh v_t_wayWeights = some o) :
    Met l y_Band_begin (wd y_Band_begin b_Band_begin 5 none) m_Band_begin (dk_Pm [.ref t, .ref u1, .int x2] G K [(t, .inr (3, [.ref t_openLow, .ref t_openHigh, .ref t_bandLow, .ref t_bandHigh, .ref t_wayWeights])), (t_openLow, .inl (K 1, 1200, .inr (.inl v_t_openLow))), (t_openHigh, .inl (K 1, 1200, .inr (.inl v_t_openHigh))), (t_wayWeights, .inl (K 0, 2, .inl v_t_wayWeights)), (u1, .inr (1, [.ref u1_greens, .ref u1_leasts, .ref u1_queues, .ref u1_seconds, .ref u1_weights, .int v_u1_size, .int v_u1_firstCycle, .int v_u1_lastCycle, .int v_u1_cycleBy, .int v_u1_stepSeconds])), (u1_greens, .inl (K 0, 5, .inl v_u1_greens)), (u1_queues, .inl (K 0, 5, .inl v_u1_queues)), (u1_seconds, .inl (K 0, 10, .inl v_u1_seconds)), (u1_weights, .inl (K 0, 10, .inl v_u1_weights))] sz) (dk_Qm none G (fun _ : Unit => [(t, .inr (3, [.ref t_openLow, .ref t_openHigh, .ref t_bandLow, .ref t_bandHigh, .ref t_wayWeights])), (t_openLow, .inl (K 1, 1200, .inr (.inl o.1))), (t_openHigh, .inl (K 1, 1200, .inr (.inl o.2.1))), (t_wayWeights, .inl (K 0, 2, .inl o.2.2)), (u1, .inr (1, [.ref u1_greens, .ref u1_leasts, .ref u1_queues, .ref u1_seconds, .ref u1_weights, .int v_u1_size, .int v_u1_firstCycle, .int v_u1_lastCycle, .int v_u1_cycleBy, .int v_u1_stepSeconds])), (u1_greens, .inl (K 0, 5, .inl v_u1_greens)), (u1_queues, .inl (K 0, 5, .inl v_u1_queues)), (u1_seconds, .inl (K 0, 10, .inl v_u1_seconds)), (u1_weights, .inl (K 0, 10, .inl v_u1_weights))]) (va_A [(t, .inr (3, [.ref t_openLow, .ref t_openHigh, .ref t_bandLow, .ref t_bandHigh, .ref t_wayWeights])), (t_openLow, .inl (K 1, 1200, .inr (.inl v_t_openLow))), (t_openHigh, .inl (K 1, 1200, .inr (.inl v_t_openHigh))), (t_wayWeights, .inl (K 0, 2, .inl v_t_wayWeights)), (u1, .inr (1, [.ref u1_greens, .ref u1_leasts, .ref u1_queues, .ref u1_seconds, .ref u1_weights, .int v_u1_size, .int v_u1_firstCycle, .int v_u1_lastCycle, .int v_u1_cycleBy, .int v_u1_stepSeconds])), (u1_greens, .inl (K 0, 5, .inl v_u1_greens)), (u1_queues, .inl (K 0, 5, .inl v_u1_queues)), (u1_seconds, .inl (K 0, 10, .inl v_u1_seconds)), (u1_weights, .inl (K 0, 10, .inl v_u1_weights))] sz)) 0 0 (va_A [(t, .inr (3, [.ref t_openLow, .ref t_openHigh, .ref t_bandLow, .ref t_bandHigh, .ref t_wayWeights])), (t_openLow, .inl (K 1, 1200, .inr (.inl v_t_openLow))), (t_openHigh, .inl (K 1, 1200, .inr (.inl v_t_openHigh))), (t_wayWeights, .inl (K 0, 2, .inl v_t_wayWeights)), (u1, .inr (1, [.ref u1_greens, .ref u1_leasts, .ref u1_queues, .ref u1_seconds, .ref u1_weights, .int v_u1_size, .int v_u1_firstCycle, .int v_u1_lastCycle, .int v_u1_cycleBy, .int v_u1_stepSeconds])), (u1_greens, .inl (K 0, 5, .inl v_u1_greens)), (u1_queues, .inl (K 0, 5, .inl v_u1_queues)), (u1_seconds, .inl (K 0, 10, .inl v_u1_seconds)), (u1_weights, .inl (K 0, 10, .inl v_u1_weights))] sz) := by
  refine Met.ofW (cc := b_Band_begin) (maxL := 5) (ret := none) (by decide) rfl ?_
  intro p e s m args below meth c s₁ B hml hv
  obtain ⟨rfl, hsz, hP, hK, hN, hD0⟩ := hv
  have hx := B.exec
  have hb := B.bytes
  have hr := B.returns
  have hts : ∀ w ∈ lw_good, w.before _ s = true := fun w h => atoms_spec (ws := wd y_Band_begin b_Band_begin 5 none) B.pre w (List.mem_cons_of_mem _ h)
  have hown : s.vm.findClass R_Band = some m.cls := findClass_of_methodNamed B.named
  have hlocks := B.notSynchronized
  have hfix : CallFix p m c b_Band_begin 5 s _ lw_good R_Band := ⟨hx, hb, hml, hown, hts⟩
  subst hsz
  have hD := hD0.self (sz := s.heap.size)
  generalize hAe : va_A [(t, .inr (3, [.ref t_openLow, .ref t_openHigh, .ref t_bandLow, .ref t_bandHigh, .ref t_wayWeights])), (t_openLow, .inl (K 1, 1200, .inr (.inl v_t_openLow))), (t_openHigh, .inl (K 1, 1200, .inr (.inl v_t_openHigh))), (t_wayWeights, .inl (K 0, 2, .inl v_t_wayWeights)), (u1, .inr (1, [.ref u1_greens, .ref u1_leasts, .ref u1_queues, .ref u1_seconds, .ref u1_weights, .int v_u1_size, .int v_u1_firstCycle, .int v_u1_lastCycle, .int v_u1_cycleBy, .int v_u1_stepSeconds])), (u1_greens, .inl (K 0, 5, .inl v_u1_greens)), (u1_queues, .inl (K 0, 5, .inl v_u1_queues)), (u1_seconds, .inl (K 0, 10, .inl v_u1_seconds)), (u1_weights, .inl (K 0, 10, .inl v_u1_weights))] s.heap.size = A at hD ⊢
  have hA : ∀ q : Nat, s.heap.size ≤ q → A q := fun q h => by rw [← hAe]; exact Or.inr h
  have hS : va_S A s.heap s.heap [] := va_S.rf
  have hl := lv_entry ([.ref t, .ref u1, .int x2]) (n := 5) (Nat.le_of_ble_eq_true rfl)
  rw [lg_entry_eq]
  generalize (lg_sl ([.ref t, .ref u1, .int x2]) ++ List.replicate (5 - (lg_sl ([.ref t, .ref u1, .int x2])).length) Slot.unset).toArray = ls at hl ⊢
  have hl : lv_has ls 5 [(0, .ref t), (1, .ref u1), (2, .int x2)] := hl
  change W p l e m_Band_begin s m _ below meth c s.heap [] 0 0 _ _
  have L21 : ∀ (k : Nat) (z2 : Int32) (z3 : Int32) (z4 : Int32) (v_t_openLow : Nat → Int64) (v_t_openHigh : Nat → Int64) (v_t_wayWeights : Nat → Int32) (H : Heap) (locs : List Loc) (q : (Nat → Int64) × (Nat → Int64)), p_Band_begin_21 n k v_u1_size v_u1_greens v_u1_queues v_u1_seconds v_u1_stepSeconds z2 z3 z4 v_t_openLow v_t_openHigh = some q → va_P G classes [(t, .inr (3, [.ref t_openLow, .ref t_openHigh, .ref t_bandLow, .ref t_bandHigh, .ref t_wayWeights])), (t_openLow, .inl (K 1, 1200, .inr (.inl v_t_openLow))), (t_openHigh, .inl (K 1, 1200, .inr (.inl v_t_openHigh))), (t_wayWeights, .inl (K 0, 2, .inl v_t_wayWeights)), (u1, .inr (1, [.ref u1_greens, .ref u1_leasts, .ref u1_queues, .ref u1_seconds, .ref u1_weights, .int v_u1_size, .int v_u1_firstCycle, .int v_u1_lastCycle, .int v_u1_cycleBy, .int v_u1_stepSeconds])), (u1_greens, .inl (K 0, 5, .inl v_u1_greens)), (u1_queues, .inl (K 0, 5, .inl v_u1_queues)), (u1_seconds, .inl (K 0, 10, .inl v_u1_seconds)), (u1_weights, .inl (K 0, 10, .inl v_u1_weights))] H → va_D A [(t, .inr (3, [.ref t_openLow, .ref t_openHigh, .ref t_bandLow, .ref t_bandHigh, .ref t_wayWeights])), (t_openLow, .inl (K 1, 1200, .inr (.inl v_t_openLow))), (t_openHigh, .inl (K 1, 1200, .inr (.inl v_t_openHigh))), (t_wayWeights, .inl (K 0, 2, .inl v_t_wayWeights)), (u1, .inr (1, [.ref u1_greens, .ref u1_leasts, .ref u1_queues, .ref u1_seconds, .ref u1_weights, .int v_u1_size, .int v_u1_firstCycle, .int v_u1_lastCycle, .int v_u1_cycleBy, .int v_u1_stepSeconds])), (u1_greens, .inl (K 0, 5, .inl v_u1_greens)), (u1_queues, .inl (K 0, 5, .inl v_u1_queues)), (u1_seconds, .inl (K 0, 10, .inl v_u1_seconds)), (u1_weights, .inl (K 0, 10, .inl v_u1_weights))] → va_S A s.heap H locs → ∀ ls : Array Slot, lv_has ls 5 [(0, .ref t), (1, .ref u1), (2, .int z2), (3, .int z3), (4, .int z4)] → (∀ (H1 : Heap) (locs1 : List Loc) (ls1 : Array Slot), va_P G classes [(t, .inr (3, [.ref t_openLow, .ref t_openHigh, .ref t_bandLow, .ref t_bandHigh, .ref t_wayWeights])), (t_openLow, .inl (K 1, 1200, .inr (.inl q.1))), (t_openHigh, .inl (K 1, 1200, .inr (.inl q.2))), (t_wayWeights, .inl (K 0, 2, .inl v_t_wayWeights)), (u1, .inr (1, [.ref u1_greens, .ref u1_leasts, .ref u1_queues, .ref u1_seconds, .ref u1_weights, .int v_u1_size, .int v_u1_firstCycle, .int v_u1_lastCycle, .int v_u1_cycleBy, .int v_u1_stepSeconds])), (u1_greens, .inl (K 0, 5, .inl v_u1_greens)), (u1_queues, .inl (K 0, 5, .inl v_u1_queues)), (u1_seconds, .inl (K 0, 10, .inl v_u1_seconds)), (u1_weights, .inl (K 0, 10, .inl v_u1_weights))] H1 → va_D A [(t, .inr (3, [.ref t_openLow, .ref t_openHigh, .ref t_bandLow, .ref t_bandHigh, .ref t_wayWeights])), (t_openLow, .inl (K 1, 1200, .inr (.inl q.1))), (t_openHigh, .inl (K 1, 1200, .inr (.inl q.2))), (t_wayWeights, .inl (K 0, 2, .inl v_t_wayWeights)), (u1, .inr (1, [.ref u1_greens, .ref u1_leasts, .ref u1_queues, .ref u1_seconds, .ref u1_weights, .int v_u1_size, .int v_u1_firstCycle, .int v_u1_lastCycle, .int v_u1_cycleBy, .int v_u1_stepSeconds])), (u1_greens, .inl (K 0, 5, .inl v_u1_greens)), (u1_queues, .inl (K 0, 5, .inl v_u1_queues)), (u1_seconds, .inl (K 0, 10, .inl v_u1_seconds)), (u1_weights, .inl (K 0, 10, .inl v_u1_weights))] → va_S A s.heap H1 locs1 → lv_has ls1 5 [(0, .ref t), (1, .ref u1), (2, .int z2), (3, .int z3)] → W p l e m_Band_begin s m ([.ref t, .ref u1, .int x2] : List Value).toArray below meth c H1 locs1 0 0 (MQ below (dk_Qm none G (fun _ : Unit => [(t, .inr (3, [.ref t_openLow, .ref t_openHigh, .ref t_bandLow, .ref t_bandHigh, .ref t_wayWeights])), (t_openLow, .inl (K 1, 1200, .inr (.inl o.1))), (t_openHigh, .inl (K 1, 1200, .inr (.inl o.2.1))), (t_wayWeights, .inl (K 0, 2, .inl o.2.2)), (u1, .inr (1, [.ref u1_greens, .ref u1_leasts, .ref u1_queues, .ref u1_seconds, .ref u1_weights, .int v_u1_size, .int v_u1_firstCycle, .int v_u1_lastCycle, .int v_u1_cycleBy, .int v_u1_stepSeconds])), (u1_greens, .inl (K 0, 5, .inl v_u1_greens)), (u1_queues, .inl (K 0, 5, .inl v_u1_queues)), (u1_seconds, .inl (K 0, 10, .inl v_u1_seconds)), (u1_weights, .inl (K 0, 10, .inl v_u1_weights))]) A) ([.ref t, .ref u1, .int x2] : List Value).toArray s 0 0 A) (F0 m 51 ls1 [])) → W p l e m_Band_begin s m ([.ref t, .ref u1, .int x2] : List Value).toArray below meth c H locs 0 0 (MQ below (dk_Qm none G (fun _ : Unit => [(t, .inr (3, [.ref t_openLow, .ref t_openHigh, .ref t_bandLow, .ref t_bandHigh, .ref t_wayWeights])), (t_openLow, .inl (K 1, 1200, .inr (.inl o.1))), (t_openHigh, .inl (K 1, 1200, .inr (.inl o.2.1))), (t_wayWeights, .inl (K 0, 2, .inl o.2.2)), (u1, .inr (1, [.ref u1_greens, .ref u1_leasts, .ref u1_queues, .ref u1_seconds, .ref u1_weights, .int v_u1_size, .int v_u1_firstCycle, .int v_u1_lastCycle, .int v_u1_cycleBy, .int v_u1_stepSeconds])), (u1_greens, .inl (K 0, 5, .inl v_u1_greens)), (u1_queues, .inl (K 0, 5, .inl v_u1_queues)), (u1_seconds, .inl (K 0, 10, .inl v_u1_seconds)), (u1_weights, .inl (K 0, 10, .inl v_u1_weights))]) A) ([.ref t, .ref u1, .int x2] : List Value).toArray s 0 0 A) (F0 m 21 ls []) := by
    intro k
    induction k with
    | zero =>
      intro z2 z3 z4 v_t_openLow v_t_openHigh v_t_wayWeights H locs q hF hP hD hS ls hl hk
      exact absurd hF (by simp [p_Band_begin_21])
    | succ k jh =>
      intro z2 z3 z4 v_t_openLow v_t_openHigh v_t_wayWeights H locs q hF hP hD hS ls hl hk
      have hF := (q_Band_begin_21 n k v_u1_size v_u1_greens v_u1_queues v_u1_seconds v_u1_stepSeconds z2 z3 z4 v_t_openLow v_t_openHigh).symm.trans hF
      refine lv_iload hx hb d_Band_begin_21 (lv_at hl 4 rfl) ?_
      refine lv_aload_n hx hb d_Band_begin_23 rfl (lv_at hl 1 rfl) ?_
      obtain ⟨r24_3, hC, hF⟩ := dk_b hF
      refine dk_pure (va_runV (As := []) (rest := [.int z4]) hfix (c_Road_size l G K n u1 u1_greens u1_leasts u1_queues u1_seconds u1_weights v_u1_size v_u1_firstCycle v_u1_lastCycle v_u1_cycleBy v_u1_stepSeconds r24_3 hC) (cwV 0 hts (gd_V lk_125 lk_127 lk_128 lk_29 lk_126) rfl rfl rfl (by decide +kernel) ⟨Nat.le_of_ble_eq_true rfl, Nat.le_of_ble_eq_true rfl⟩) (dk_preV hK hN (hP.sub [4] rfl) (va_recv hK hP (ci := 1) (q0 := 4) rfl rfl)) rfl rfl hl.1 rfl (lv_room (Nat.le_of_ble_eq_true rfl)) d_Band_begin_24 ⟨Nat.le_of_ble_eq_true rfl, Nat.le_of_ble_eq_true rfl⟩) ?_
      refine lv_icmp_ge (tgt := 51) hx hb d_Band_begin_27 (by decide) (fun c27_4 => ?_) (fun c27_4 => ?_)
      · have hF := dk_t c27_4 hF
        obtain rfl := Option.some.inj hF
        exact hk H locs ls hP hD hS (lv_sub hl [0, 1, 2, 3] rfl)
      · have hF := dk_f c27_4 hF
        refine lv_iload hx hb d_Band_begin_30 (lv_at hl 4 rfl) ?_
        refine lv_iconst (v := (5 : Int32)) hx hb d_Band_begin_32 (by decide) ?_
        refine lv_icmp_ge (tgt := 51) hx hb d_Band_begin_33 (by decide) (fun c33_5 => ?_) (fun c33_5 => ?_)
        · have hF := dk_t c33_5 hF
          obtain rfl := Option.some.inj hF
          exact hk H locs ls hP hD hS (lv_sub hl [0, 1, 2, 3] rfl)
        · have hF := dk_f c33_5 hF
          refine lv_aload_n hx hb d_Band_begin_36 rfl (lv_at hl 0 rfl) ?_
          refine lv_aload_n hx hb d_Band_begin_37 rfl (lv_at hl 1 rfl) ?_
          refine lv_iload hx hb d_Band_begin_38 (lv_at hl 4 rfl) ?_
          refine lv_iload_n hx hb d_Band_begin_40 rfl (lv_at hl 3 rfl) ?_
          refine lv_iload_n hx hb d_Band_begin_41 rfl (lv_at hl 2 rfl) ?_
          obtain ⟨r42_6, hC, hF⟩ := dk_b hF
          refine dk_mutv (wr := [(t_wayWeights, .inl (K 0, 2, .inl v_t_wayWeights)), (u1_weights, .inl (K 0, 10, .inl v_u1_weights))]) (va_runV (As := [.ref u1, .int z4, .int z3, .int z2]) (rest := []) hfix (c_Band_fillOpen l G K n H.size t t_openLow t_openHigh t_bandLow t_bandHigh t_wayWeights u1 u1_greens u1_leasts u1_queues u1_seconds u1_weights z4 z3 z2 v_t_openLow v_t_openHigh v_u1_size v_u1_firstCycle v_u1_lastCycle v_u1_cycleBy v_u1_stepSeconds v_u1_greens v_u1_queues v_u1_seconds r42_6 hC) (cwV 4 hts (gd_V lk_129 lk_131 lk_132 lk_133 lk_130) rfl rfl rfl (by decide +kernel) ⟨Nat.le_of_ble_eq_true rfl, Nat.le_of_ble_eq_true rfl⟩) (dk_preVm hK hN (hP.sub [0, 1, 2, 4, 5, 6, 7] rfl) (hD.sub [0, 1, 2, 4, 5, 6, 7] (by decide) rfl) (va_recv hK hP (ci := 3) (q0 := 0) rfl rfl)) rfl rfl hl.1 rfl (lv_room (Nat.le_of_ble_eq_true rfl)) d_Band_begin_42 ⟨Nat.le_of_ble_eq_true rfl, Nat.le_of_ble_eq_true rfl⟩) hS hA hP hD [0, 1, 2, 4, 5, 6, 7] [3, 8] rfl rfl (by decide) (by decide) (fun _ H locs hP hD hS => ?_)
          have hP : va_P G classes [(t, .inr (3, [.ref t_openLow, .ref t_openHigh, .ref t_bandLow, .ref t_bandHigh, .ref t_wayWeights])), (t_openLow, .inl (K 1, 1200, .inr (.inl r42_6.1))), (t_openHigh, .inl (K 1, 1200, .inr (.inl r42_6.2))), (t_wayWeights, .inl (K 0, 2, .inl v_t_wayWeights)), (u1, .inr (1, [.ref u1_greens, .ref u1_leasts, .ref u1_queues, .ref u1_seconds, .ref u1_weights, .int v_u1_size, .int v_u1_firstCycle, .int v_u1_lastCycle, .int v_u1_cycleBy, .int v_u1_stepSeconds])), (u1_greens, .inl (K 0, 5, .inl v_u1_greens)), (u1_queues, .inl (K 0, 5, .inl v_u1_queues)), (u1_seconds, .inl (K 0, 10, .inl v_u1_seconds)), (u1_weights, .inl (K 0, 10, .inl v_u1_weights))] H := hP.sub [2, 3, 4, 0, 5, 6, 7, 8, 1] rfl
          have hD : va_D A [(t, .inr (3, [.ref t_openLow, .ref t_openHigh, .ref t_bandLow, .ref t_bandHigh, .ref t_wayWeights])), (t_openLow, .inl (K 1, 1200, .inr (.inl r42_6.1))), (t_openHigh, .inl (K 1, 1200, .inr (.inl r42_6.2))), (t_wayWeights, .inl (K 0, 2, .inl v_t_wayWeights)), (u1, .inr (1, [.ref u1_greens, .ref u1_leasts, .ref u1_queues, .ref u1_seconds, .ref u1_weights, .int v_u1_size, .int v_u1_firstCycle, .int v_u1_lastCycle, .int v_u1_cycleBy, .int v_u1_stepSeconds])), (u1_greens, .inl (K 0, 5, .inl v_u1_greens)), (u1_queues, .inl (K 0, 5, .inl v_u1_queues)), (u1_seconds, .inl (K 0, 10, .inl v_u1_seconds)), (u1_weights, .inl (K 0, 10, .inl v_u1_weights))] := hD.sub [2, 3, 4, 0, 5, 6, 7, 8, 1] (by decide) rfl
          refine lv_iinc (v := z4 + (1 : Int32)) (lv' := [(4, .int (z4 + (1 : Int32))), (0, .ref t), (1, .ref u1), (2, .int z2), (3, .int z3)]) hx hb d_Band_begin_45 hl (k := 4) rfl rfl (by decide) rfl (fun ls hl => ?_)
          refine lv_goto (tgt := 21) hx hb d_Band_begin_48 (by decide) ?_
          exact jh z2 z3 (z4 + (1 : Int32)) r42_6.1 r42_6.2 v_t_wayWeights H locs q hF hP hD hS ls (lv_sub hl [1, 2, 3, 4, 0] rfl) hk
  have L2 : ∀ (k : Nat) (z2 : Int32) (z3 : Int32) (v_t_openLow : Nat → Int64) (v_t_openHigh : Nat → Int64) (v_t_wayWeights : Nat → Int32) (H : Heap) (locs : List Loc) (q : (Nat → Int64) × (Nat → Int64) × (Nat → Int32)), p_Band_begin_2 n k v_u1_size v_u1_weights v_u1_greens v_u1_queues v_u1_seconds v_u1_stepSeconds z2 z3 v_t_openLow v_t_openHigh v_t_wayWeights = some q → va_P G classes [(t, .inr (3, [.ref t_openLow, .ref t_openHigh, .ref t_bandLow, .ref t_bandHigh, .ref t_wayWeights])), (t_openLow, .inl (K 1, 1200, .inr (.inl v_t_openLow))), (t_openHigh, .inl (K 1, 1200, .inr (.inl v_t_openHigh))), (t_wayWeights, .inl (K 0, 2, .inl v_t_wayWeights)), (u1, .inr (1, [.ref u1_greens, .ref u1_leasts, .ref u1_queues, .ref u1_seconds, .ref u1_weights, .int v_u1_size, .int v_u1_firstCycle, .int v_u1_lastCycle, .int v_u1_cycleBy, .int v_u1_stepSeconds])), (u1_greens, .inl (K 0, 5, .inl v_u1_greens)), (u1_queues, .inl (K 0, 5, .inl v_u1_queues)), (u1_seconds, .inl (K 0, 10, .inl v_u1_seconds)), (u1_weights, .inl (K 0, 10, .inl v_u1_weights))] H → va_D A [(t, .inr (3, [.ref t_openLow, .ref t_openHigh, .ref t_bandLow, .ref t_bandHigh, .ref t_wayWeights])), (t_openLow, .inl (K 1, 1200, .inr (.inl v_t_openLow))), (t_openHigh, .inl (K 1, 1200, .inr (.inl v_t_openHigh))), (t_wayWeights, .inl (K 0, 2, .inl v_t_wayWeights)), (u1, .inr (1, [.ref u1_greens, .ref u1_leasts, .ref u1_queues, .ref u1_seconds, .ref u1_weights, .int v_u1_size, .int v_u1_firstCycle, .int v_u1_lastCycle, .int v_u1_cycleBy, .int v_u1_stepSeconds])), (u1_greens, .inl (K 0, 5, .inl v_u1_greens)), (u1_queues, .inl (K 0, 5, .inl v_u1_queues)), (u1_seconds, .inl (K 0, 10, .inl v_u1_seconds)), (u1_weights, .inl (K 0, 10, .inl v_u1_weights))] → va_S A s.heap H locs → ∀ ls : Array Slot, lv_has ls 5 [(0, .ref t), (1, .ref u1), (2, .int z2), (3, .int z3)] → (∀ (H1 : Heap) (locs1 : List Loc) (ls1 : Array Slot), va_P G classes [(t, .inr (3, [.ref t_openLow, .ref t_openHigh, .ref t_bandLow, .ref t_bandHigh, .ref t_wayWeights])), (t_openLow, .inl (K 1, 1200, .inr (.inl q.1))), (t_openHigh, .inl (K 1, 1200, .inr (.inl q.2.1))), (t_wayWeights, .inl (K 0, 2, .inl q.2.2)), (u1, .inr (1, [.ref u1_greens, .ref u1_leasts, .ref u1_queues, .ref u1_seconds, .ref u1_weights, .int v_u1_size, .int v_u1_firstCycle, .int v_u1_lastCycle, .int v_u1_cycleBy, .int v_u1_stepSeconds])), (u1_greens, .inl (K 0, 5, .inl v_u1_greens)), (u1_queues, .inl (K 0, 5, .inl v_u1_queues)), (u1_seconds, .inl (K 0, 10, .inl v_u1_seconds)), (u1_weights, .inl (K 0, 10, .inl v_u1_weights))] H1 → va_D A [(t, .inr (3, [.ref t_openLow, .ref t_openHigh, .ref t_bandLow, .ref t_bandHigh, .ref t_wayWeights])), (t_openLow, .inl (K 1, 1200, .inr (.inl q.1))), (t_openHigh, .inl (K 1, 1200, .inr (.inl q.2.1))), (t_wayWeights, .inl (K 0, 2, .inl q.2.2)), (u1, .inr (1, [.ref u1_greens, .ref u1_leasts, .ref u1_queues, .ref u1_seconds, .ref u1_weights, .int v_u1_size, .int v_u1_firstCycle, .int v_u1_lastCycle, .int v_u1_cycleBy, .int v_u1_stepSeconds])), (u1_greens, .inl (K 0, 5, .inl v_u1_greens)), (u1_queues, .inl (K 0, 5, .inl v_u1_queues)), (u1_seconds, .inl (K 0, 10, .inl v_u1_seconds)), (u1_weights, .inl (K 0, 10, .inl v_u1_weights))] → va_S A s.heap H1 locs1 → lv_has ls1 5 [] → W p l e m_Band_begin s m ([.ref t, .ref u1, .int x2] : List Value).toArray below meth c H1 locs1 0 0 (MQ below (dk_Qm none G (fun _ : Unit => [(t, .inr (3, [.ref t_openLow, .ref t_openHigh, .ref t_bandLow, .ref t_bandHigh, .ref t_wayWeights])), (t_openLow, .inl (K 1, 1200, .inr (.inl o.1))), (t_openHigh, .inl (K 1, 1200, .inr (.inl o.2.1))), (t_wayWeights, .inl (K 0, 2, .inl o.2.2)), (u1, .inr (1, [.ref u1_greens, .ref u1_leasts, .ref u1_queues, .ref u1_seconds, .ref u1_weights, .int v_u1_size, .int v_u1_firstCycle, .int v_u1_lastCycle, .int v_u1_cycleBy, .int v_u1_stepSeconds])), (u1_greens, .inl (K 0, 5, .inl v_u1_greens)), (u1_queues, .inl (K 0, 5, .inl v_u1_queues)), (u1_seconds, .inl (K 0, 10, .inl v_u1_seconds)), (u1_weights, .inl (K 0, 10, .inl v_u1_weights))]) A) ([.ref t, .ref u1, .int x2] : List Value).toArray s 0 0 A) (F0 m 57 ls1 [])) → W p l e m_Band_begin s m ([.ref t, .ref u1, .int x2] : List Value).toArray below meth c H locs 0 0 (MQ below (dk_Qm none G (fun _ : Unit => [(t, .inr (3, [.ref t_openLow, .ref t_openHigh, .ref t_bandLow, .ref t_bandHigh, .ref t_wayWeights])), (t_openLow, .inl (K 1, 1200, .inr (.inl o.1))), (t_openHigh, .inl (K 1, 1200, .inr (.inl o.2.1))), (t_wayWeights, .inl (K 0, 2, .inl o.2.2)), (u1, .inr (1, [.ref u1_greens, .ref u1_leasts, .ref u1_queues, .ref u1_seconds, .ref u1_weights, .int v_u1_size, .int v_u1_firstCycle, .int v_u1_lastCycle, .int v_u1_cycleBy, .int v_u1_stepSeconds])), (u1_greens, .inl (K 0, 5, .inl v_u1_greens)), (u1_queues, .inl (K 0, 5, .inl v_u1_queues)), (u1_seconds, .inl (K 0, 10, .inl v_u1_seconds)), (u1_weights, .inl (K 0, 10, .inl v_u1_weights))]) A) ([.ref t, .ref u1, .int x2] : List Value).toArray s 0 0 A) (F0 m 2 ls []) := by
    intro k
    induction k with
    | zero =>
      intro z2 z3 v_t_openLow v_t_openHigh v_t_wayWeights H locs q hF hP hD hS ls hl hk
      exact absurd hF (by simp [p_Band_begin_2])
    | succ k jh =>
      intro z2 z3 v_t_openLow v_t_openHigh v_t_wayWeights H locs q hF hP hD hS ls hl hk
      have hF := (q_Band_begin_2 n k v_u1_size v_u1_weights v_u1_greens v_u1_queues v_u1_seconds v_u1_stepSeconds z2 z3 v_t_openLow v_t_openHigh v_t_wayWeights).symm.trans hF
      refine lv_iload_n hx hb d_Band_begin_2 rfl (lv_at hl 3 rfl) ?_
      refine lv_iconst (v := (2 : Int32)) hx hb d_Band_begin_3 (by decide) ?_
      refine lv_icmp_ge (tgt := 57) hx hb d_Band_begin_4 (by decide) (fun c4_1 => ?_) (fun c4_1 => ?_)
      · have hF := dk_t c4_1 hF
        obtain rfl := Option.some.inj hF
        exact hk H locs ls hP hD hS (lv_sub hl [] rfl)
      · have hF := dk_f c4_1 hF
        refine lv_aload_n hx hb d_Band_begin_7 rfl (lv_at hl 0 rfl) ?_
        refine va_get (D := G) (ci := 3) (v := .ref t_wayWeights) (C := R_Band) (T := F_Band) (N := 5) hx hb hts i_Band hown hK hP 0 rfl rfl 4 (by decide) (hts _ lk_120) (fun _ h9 => h9) rfl d_Band_begin_8 ?_
        refine lv_iload_n hx hb d_Band_begin_11 rfl (lv_at hl 3 rfl) ?_
        refine lv_aload_n hx hb d_Band_begin_12 rfl (lv_at hl 1 rfl) ?_
        refine lv_iload_n hx hb d_Band_begin_13 rfl (lv_at hl 3 rfl) ?_
        obtain ⟨r14_2, hC, hF⟩ := dk_b hF
        refine dk_pure (va_runV (As := [.int z3]) (rest := [.int z3, .ref t_wayWeights]) hfix (c_Road_weightOf l G K n u1 u1_greens u1_leasts u1_queues u1_seconds u1_weights z3 v_u1_size v_u1_firstCycle v_u1_lastCycle v_u1_cycleBy v_u1_stepSeconds v_u1_weights r14_2 hC) (cwV 1 hts (gd_V lk_121 lk_123 lk_124 lk_29 lk_122) rfl rfl rfl (by decide +kernel) ⟨Nat.le_of_ble_eq_true rfl, Nat.le_of_ble_eq_true rfl⟩) (dk_preV hK hN (hP.sub [4, 8] rfl) (va_recv hK hP (ci := 1) (q0 := 4) rfl rfl)) rfl rfl hl.1 rfl (lv_room (Nat.le_of_ble_eq_true rfl)) d_Band_begin_14 ⟨Nat.le_of_ble_eq_true rfl, Nat.le_of_ble_eq_true rfl⟩) ?_
        obtain ⟨hi, hF⟩ := dk_a hF
        refine va_iast (D := G) hx hb hK hP hD hS 3 0 rfl rfl (dk_vp hi) d_Band_begin_17 (fun H locs hP hD hS => ?_)
        have hP : va_P G classes [(t, .inr (3, [.ref t_openLow, .ref t_openHigh, .ref t_bandLow, .ref t_bandHigh, .ref t_wayWeights])), (t_openLow, .inl (K 1, 1200, .inr (.inl v_t_openLow))), (t_openHigh, .inl (K 1, 1200, .inr (.inl v_t_openHigh))), (t_wayWeights, .inl (K 0, 2, .inl (upd v_t_wayWeights z3.toNatClampNeg r14_2))), (u1, .inr (1, [.ref u1_greens, .ref u1_leasts, .ref u1_queues, .ref u1_seconds, .ref u1_weights, .int v_u1_size, .int v_u1_firstCycle, .int v_u1_lastCycle, .int v_u1_cycleBy, .int v_u1_stepSeconds])), (u1_greens, .inl (K 0, 5, .inl v_u1_greens)), (u1_queues, .inl (K 0, 5, .inl v_u1_queues)), (u1_seconds, .inl (K 0, 10, .inl v_u1_seconds)), (u1_weights, .inl (K 0, 10, .inl v_u1_weights))] H := hP
        have hD : va_D A [(t, .inr (3, [.ref t_openLow, .ref t_openHigh, .ref t_bandLow, .ref t_bandHigh, .ref t_wayWeights])), (t_openLow, .inl (K 1, 1200, .inr (.inl v_t_openLow))), (t_openHigh, .inl (K 1, 1200, .inr (.inl v_t_openHigh))), (t_wayWeights, .inl (K 0, 2, .inl (upd v_t_wayWeights z3.toNatClampNeg r14_2))), (u1, .inr (1, [.ref u1_greens, .ref u1_leasts, .ref u1_queues, .ref u1_seconds, .ref u1_weights, .int v_u1_size, .int v_u1_firstCycle, .int v_u1_lastCycle, .int v_u1_cycleBy, .int v_u1_stepSeconds])), (u1_greens, .inl (K 0, 5, .inl v_u1_greens)), (u1_queues, .inl (K 0, 5, .inl v_u1_queues)), (u1_seconds, .inl (K 0, 10, .inl v_u1_seconds)), (u1_weights, .inl (K 0, 10, .inl v_u1_weights))] := hD
        refine lv_iconst (v := (0 : Int32)) hx hb d_Band_begin_18 (by decide) ?_
        refine lv_istore (lv' := [(4, .int (0 : Int32)), (0, .ref t), (1, .ref u1), (2, .int z2), (3, .int z3)]) hx hb d_Band_begin_19 hl (by decide) rfl (fun ls hl => ?_)
        obtain ⟨q21_7, hC, hF⟩ := dk_b hF
        refine L21 n z2 z3 (0 : Int32) v_t_openLow v_t_openHigh (upd v_t_wayWeights z3.toNatClampNeg r14_2) H locs q21_7 hC hP hD hS ls (lv_sub hl [1, 2, 3, 4, 0] rfl) (fun H locs ls hP hD hS hl => ?_)
        refine lv_iinc (v := z3 + (1 : Int32)) (lv' := [(3, .int (z3 + (1 : Int32))), (0, .ref t), (1, .ref u1), (2, .int z2)]) hx hb d_Band_begin_51 hl (k := 3) rfl rfl (by decide) rfl (fun ls hl => ?_)
        refine lv_goto (tgt := 2) hx hb d_Band_begin_54 (by decide) ?_
        exact jh z2 (z3 + (1 : Int32)) q21_7.1 q21_7.2 (upd v_t_wayWeights z3.toNatClampNeg r14_2) H locs q hF hP hD hS ls (lv_sub hl [1, 2, 3, 0] rfl) hk
  unfold p_Band_begin at hF
  refine lv_iconst (v := (0 : Int32)) hx hb d_Band_begin_0 (by decide) ?_
  refine lv_istore_n (lv' := [(3, .int (0 : Int32)), (0, .ref t), (1, .ref u1), (2, .int x2)]) hx hb d_Band_begin_1 rfl hl (by decide) rfl (fun ls hl => ?_)
  obtain ⟨q2_8, hC, hF⟩ := dk_b hF
  refine L2 n x2 (0 : Int32) v_t_openLow v_t_openHigh v_t_wayWeights s.heap [] q2_8 hC hP hD hS ls (lv_sub hl [1, 2, 3, 0] rfl) (fun H locs ls hP hD hS hl => ?_)
  obtain rfl := Option.some.inj hF
  exact W.vret hx hb hr (fun t ht hW => ⟨⟨(), rfl, by rw [ht]; exact hP, hD⟩, hS.F ht⟩) hS.2.2 d_Band_begin_57
def p_Band_put_31 (n : Nat) : Nat → (Nat → Int64) → (Nat → Int64) → (Nat → Int32) → Int32 → Int32 → Int64 → Int32 → (Nat → Int64) → (Nat → Int64) → Option (Int64 × (Nat → Int64) × (Nat → Int64))
  | 0, _, _, _, _, _, _, _, _, _ => none
  | k + 1, v_t_openLow, v_t_openHigh, v_t_wayWeights, z1, z2, z3, z5, v_t_bandLow, v_t_bandHigh =>
    if (2 : Int32) ≤ z5 then
      some (z3, v_t_bandLow, v_t_bandHigh)
    else
      if dk_in ((((z1 * (2 : Int32)) + z5) * (120 : Int32)) + z2) 1200 = true then
        if dk_in ((((z1 * (2 : Int32)) + z5) * (120 : Int32)) + z2) 1200 = true then
          if z1 ≤ 0 then
            if dk_in ((z1 * (2 : Int32)) + z5) 10 = true then
              if dk_in ((z1 * (2 : Int32)) + z5) 10 = true then
                if dk_in z5 2 = true then
                  (p_Long_bitCount n (v_t_openLow ((((z1 * (2 : Int32)) + z5) * (120 : Int32)) + z2).toNatClampNeg)).bind fun r134_7 =>
                  (p_Long_bitCount n (v_t_openHigh ((((z1 * (2 : Int32)) + z5) * (120 : Int32)) + z2).toNatClampNeg)).bind fun r139_8 =>
                  p_Band_put_31 n k v_t_openLow v_t_openHigh v_t_wayWeights z1 z2 (z3 + (((v_t_wayWeights z5.toNatClampNeg).toInt64) * ((r134_7 + r139_8).toInt64))) (z5 + (1 : Int32)) (vp_updL v_t_bandLow ((z1 * (2 : Int32)) + z5).toNatClampNeg (v_t_openLow ((((z1 * (2 : Int32)) + z5) * (120 : Int32)) + z2).toNatClampNeg)) (vp_updL v_t_bandHigh ((z1 * (2 : Int32)) + z5).toNatClampNeg (v_t_openHigh ((((z1 * (2 : Int32)) + z5) * (120 : Int32)) + z2).toNatClampNeg))
                else none
              else none
            else none
          else
            if dk_in (((z1 * (2 : Int32)) + z5) - (2 : Int32)) 10 = true then
              if dk_in (((z1 * (2 : Int32)) + z5) - (2 : Int32)) 10 = true then
                if dk_in ((z1 * (2 : Int32)) + z5) 10 = true then
                  if dk_in ((z1 * (2 : Int32)) + z5) 10 = true then
                    if dk_in z5 2 = true then
                      (p_Long_bitCount n ((v_t_openLow ((((z1 * (2 : Int32)) + z5) * (120 : Int32)) + z2).toNatClampNeg) &&& (v_t_bandLow (((z1 * (2 : Int32)) + z5) - (2 : Int32)).toNatClampNeg))).bind fun r134_9 =>
                      (p_Long_bitCount n ((v_t_openHigh ((((z1 * (2 : Int32)) + z5) * (120 : Int32)) + z2).toNatClampNeg) &&& (v_t_bandHigh (((z1 * (2 : Int32)) + z5) - (2 : Int32)).toNatClampNeg))).bind fun r139_10 =>
                      p_Band_put_31 n k v_t_openLow v_t_openHigh v_t_wayWeights z1 z2 (z3 + (((v_t_wayWeights z5.toNatClampNeg).toInt64) * ((r134_9 + r139_10).toInt64))) (z5 + (1 : Int32)) (vp_updL v_t_bandLow ((z1 * (2 : Int32)) + z5).toNatClampNeg ((v_t_openLow ((((z1 * (2 : Int32)) + z5) * (120 : Int32)) + z2).toNatClampNeg) &&& (v_t_bandLow (((z1 * (2 : Int32)) + z5) - (2 : Int32)).toNatClampNeg))) (vp_updL v_t_bandHigh ((z1 * (2 : Int32)) + z5).toNatClampNeg ((v_t_openHigh ((((z1 * (2 : Int32)) + z5) * (120 : Int32)) + z2).toNatClampNeg) &&& (v_t_bandHigh (((z1 * (2 : Int32)) + z5) - (2 : Int32)).toNatClampNeg)))
                    else none
                  else none
                else none
              else none
            else none
        else none
      else none
theorem q_Band_put_31 (n k : Nat) (v_t_openLow : Nat → Int64) (v_t_openHigh : Nat → Int64) (v_t_wayWeights : Nat → Int32) (z1 : Int32) (z2 : Int32) (z3 : Int64) (z5 : Int32) (v_t_bandLow : Nat → Int64) (v_t_bandHigh : Nat → Int64) : p_Band_put_31 n (k + 1) v_t_openLow v_t_openHigh v_t_wayWeights z1 z2 z3 z5 v_t_bandLow v_t_bandHigh =
    if (2 : Int32) ≤ z5 then
      some (z3, v_t_bandLow, v_t_bandHigh)
    else
      if dk_in ((((z1 * (2 : Int32)) + z5) * (120 : Int32)) + z2) 1200 = true then
        if dk_in ((((z1 * (2 : Int32)) + z5) * (120 : Int32)) + z2) 1200 = true then
          if z1 ≤ 0 then
            if dk_in ((z1 * (2 : Int32)) + z5) 10 = true then
              if dk_in ((z1 * (2 : Int32)) + z5) 10 = true then
                if dk_in z5 2 = true then
                  (p_Long_bitCount n (v_t_openLow ((((z1 * (2 : Int32)) + z5) * (120 : Int32)) + z2).toNatClampNeg)).bind fun r134_7 =>
                  (p_Long_bitCount n (v_t_openHigh ((((z1 * (2 : Int32)) + z5) * (120 : Int32)) + z2).toNatClampNeg)).bind fun r139_8 =>
                  p_Band_put_31 n k v_t_openLow v_t_openHigh v_t_wayWeights z1 z2 (z3 + (((v_t_wayWeights z5.toNatClampNeg).toInt64) * ((r134_7 + r139_8).toInt64))) (z5 + (1 : Int32)) (vp_updL v_t_bandLow ((z1 * (2 : Int32)) + z5).toNatClampNeg (v_t_openLow ((((z1 * (2 : Int32)) + z5) * (120 : Int32)) + z2).toNatClampNeg)) (vp_updL v_t_bandHigh ((z1 * (2 : Int32)) + z5).toNatClampNeg (v_t_openHigh ((((z1 * (2 : Int32)) + z5) * (120 : Int32)) + z2).toNatClampNeg))
                else none
              else none
            else none
          else
            if dk_in (((z1 * (2 : Int32)) + z5) - (2 : Int32)) 10 = true then
              if dk_in (((z1 * (2 : Int32)) + z5) - (2 : Int32)) 10 = true then
                if dk_in ((z1 * (2 : Int32)) + z5) 10 = true then
                  if dk_in ((z1 * (2 : Int32)) + z5) 10 = true then
                    if dk_in z5 2 = true then
                      (p_Long_bitCount n ((v_t_openLow ((((z1 * (2 : Int32)) + z5) * (120 : Int32)) + z2).toNatClampNeg) &&& (v_t_bandLow (((z1 * (2 : Int32)) + z5) - (2 : Int32)).toNatClampNeg))).bind fun r134_9 =>
                      (p_Long_bitCount n ((v_t_openHigh ((((z1 * (2 : Int32)) + z5) * (120 : Int32)) + z2).toNatClampNeg) &&& (v_t_bandHigh (((z1 * (2 : Int32)) + z5) - (2 : Int32)).toNatClampNeg))).bind fun r139_10 =>
                      p_Band_put_31 n k v_t_openLow v_t_openHigh v_t_wayWeights z1 z2 (z3 + (((v_t_wayWeights z5.toNatClampNeg).toInt64) * ((r134_9 + r139_10).toInt64))) (z5 + (1 : Int32)) (vp_updL v_t_bandLow ((z1 * (2 : Int32)) + z5).toNatClampNeg ((v_t_openLow ((((z1 * (2 : Int32)) + z5) * (120 : Int32)) + z2).toNatClampNeg) &&& (v_t_bandLow (((z1 * (2 : Int32)) + z5) - (2 : Int32)).toNatClampNeg))) (vp_updL v_t_bandHigh ((z1 * (2 : Int32)) + z5).toNatClampNeg ((v_t_openHigh ((((z1 * (2 : Int32)) + z5) * (120 : Int32)) + z2).toNatClampNeg) &&& (v_t_bandHigh (((z1 * (2 : Int32)) + z5) - (2 : Int32)).toNatClampNeg)))
                    else none
                  else none
                else none
              else none
            else none
        else none
      else none := rfl
def p_Band_put (n : Nat) (x1 : Int32) (x2 : Int32) (v_t_openLow : Nat → Int64) (v_t_openHigh : Nat → Int64) (v_t_wayWeights : Nat → Int32) (v_t_bandLow : Nat → Int64) (v_t_bandHigh : Nat → Int64) : Option (Int64 × (Nat → Int64) × (Nat → Int64)) :=
  (p_WO_within n x1.toInt64 (0 : Int64) (4 : Int64)).bind fun r6_1 =>
  if r6_1 = 0 then
    some ((0 : Int64), v_t_bandLow, v_t_bandHigh)
  else
    (p_WO_within n x2.toInt64 (0 : Int64) (119 : Int64)).bind fun r18_3 =>
    if r18_3 = 0 then
      some ((0 : Int64), v_t_bandLow, v_t_bandHigh)
    else
      (p_Band_put_31 n n v_t_openLow v_t_openHigh v_t_wayWeights x1 x2 (0 : Int64) (0 : Int32) v_t_bandLow v_t_bandHigh).bind fun q31_11 =>
      some (q31_11.1, q31_11.2.1, q31_11.2.2)
abbrev m_Band_put : Room := { frames := 1, cells := 0, slots := 0, locals := 25 }
set_option maxHeartbeats 4000000 in
set_option maxRecDepth 100000 in
theorem c_Band_put (l : Launch) (G : va_G) (K : Nat → ClassId) (n : Nat) (sz : Nat) (t : Nat) (t_openLow : Nat) (t_openHigh : Nat) (t_bandLow : Nat) (t_bandHigh : Nat) (t_wayWeights : Nat) (x1 : Int32) (x2 : Int32) (v_t_openLow : Nat → Int64) (v_t_openHigh : Nat → Int64) (v_t_bandLow : Nat → Int64) (v_t_bandHigh : Nat → Int64) (v_t_wayWeights : Nat → Int32) (o : Int64 × (Nat → Int64) × (Nat → Int64)) (hF : p_Band_put n x1 x2 v_t_openLow v_t_openHigh v_t_wayWeights v_t_bandLow v_t_bandHigh = some o) :
    Met l y_Band_put (wd y_Band_put b_Band_put 11 (some .long)) m_Band_put (dk_Pm [.ref t, .int x1, .int x2] G K [(t, .inr (3, [.ref t_openLow, .ref t_openHigh, .ref t_bandLow, .ref t_bandHigh, .ref t_wayWeights])), (t_openLow, .inl (K 1, 1200, .inr (.inl v_t_openLow))), (t_openHigh, .inl (K 1, 1200, .inr (.inl v_t_openHigh))), (t_bandLow, .inl (K 1, 10, .inr (.inl v_t_bandLow))), (t_bandHigh, .inl (K 1, 10, .inr (.inl v_t_bandHigh))), (t_wayWeights, .inl (K 0, 2, .inl v_t_wayWeights))] sz) (dk_Qm (some (.long o.1)) G (fun _ : Unit => [(t, .inr (3, [.ref t_openLow, .ref t_openHigh, .ref t_bandLow, .ref t_bandHigh, .ref t_wayWeights])), (t_openLow, .inl (K 1, 1200, .inr (.inl v_t_openLow))), (t_openHigh, .inl (K 1, 1200, .inr (.inl v_t_openHigh))), (t_bandLow, .inl (K 1, 10, .inr (.inl o.2.1))), (t_bandHigh, .inl (K 1, 10, .inr (.inl o.2.2))), (t_wayWeights, .inl (K 0, 2, .inl v_t_wayWeights))]) (va_A [(t, .inr (3, [.ref t_openLow, .ref t_openHigh, .ref t_bandLow, .ref t_bandHigh, .ref t_wayWeights])), (t_openLow, .inl (K 1, 1200, .inr (.inl v_t_openLow))), (t_openHigh, .inl (K 1, 1200, .inr (.inl v_t_openHigh))), (t_bandLow, .inl (K 1, 10, .inr (.inl v_t_bandLow))), (t_bandHigh, .inl (K 1, 10, .inr (.inl v_t_bandHigh))), (t_wayWeights, .inl (K 0, 2, .inl v_t_wayWeights))] sz)) 0 0 (va_A [(t, .inr (3, [.ref t_openLow, .ref t_openHigh, .ref t_bandLow, .ref t_bandHigh, .ref t_wayWeights])), (t_openLow, .inl (K 1, 1200, .inr (.inl v_t_openLow))), (t_openHigh, .inl (K 1, 1200, .inr (.inl v_t_openHigh))), (t_bandLow, .inl (K 1, 10, .inr (.inl v_t_bandLow))), (t_bandHigh, .inl (K 1, 10, .inr (.inl v_t_bandHigh))), (t_wayWeights, .inl (K 0, 2, .inl v_t_wayWeights))] sz) := by
  refine Met.ofW (cc := b_Band_put) (maxL := 11) (ret := (some .long)) (by decide) rfl ?_
  intro p e s m args below meth c s₁ B hml hv
  obtain ⟨rfl, hsz, hP, hK, hN, hD0⟩ := hv
  have hx := B.exec
  have hb := B.bytes
  have hr := B.returns
  have hts : ∀ w ∈ lw_good, w.before _ s = true := fun w h => atoms_spec (ws := wd y_Band_put b_Band_put 11 (some .long)) B.pre w (List.mem_cons_of_mem _ h)
  have hown : s.vm.findClass R_Band = some m.cls := findClass_of_methodNamed B.named
  have hlocks := B.notSynchronized
  have hfix : CallFix p m c b_Band_put 11 s _ lw_good R_Band := ⟨hx, hb, hml, hown, hts⟩
  subst hsz
  have hD := hD0.self (sz := s.heap.size)
  generalize hAe : va_A [(t, .inr (3, [.ref t_openLow, .ref t_openHigh, .ref t_bandLow, .ref t_bandHigh, .ref t_wayWeights])), (t_openLow, .inl (K 1, 1200, .inr (.inl v_t_openLow))), (t_openHigh, .inl (K 1, 1200, .inr (.inl v_t_openHigh))), (t_bandLow, .inl (K 1, 10, .inr (.inl v_t_bandLow))), (t_bandHigh, .inl (K 1, 10, .inr (.inl v_t_bandHigh))), (t_wayWeights, .inl (K 0, 2, .inl v_t_wayWeights))] s.heap.size = A at hD ⊢
  have hA : ∀ q : Nat, s.heap.size ≤ q → A q := fun q h => by rw [← hAe]; exact Or.inr h
  have hS : va_S A s.heap s.heap [] := va_S.rf
  have hl := lv_entry ([.ref t, .int x1, .int x2]) (n := 11) (Nat.le_of_ble_eq_true rfl)
  rw [lg_entry_eq]
  generalize (lg_sl ([.ref t, .int x1, .int x2]) ++ List.replicate (11 - (lg_sl ([.ref t, .int x1, .int x2])).length) Slot.unset).toArray = ls at hl ⊢
  have hl : lv_has ls 11 [(0, .ref t), (1, .int x1), (2, .int x2)] := hl
  change W p l e m_Band_put s m _ below meth c s.heap [] 0 0 _ _
  have L31 : ∀ (k : Nat) (z1 : Int32) (z2 : Int32) (z3 : Int64) (z5 : Int32) (v_t_bandLow : Nat → Int64) (v_t_bandHigh : Nat → Int64) (H : Heap) (locs : List Loc) (q : Int64 × (Nat → Int64) × (Nat → Int64)), p_Band_put_31 n k v_t_openLow v_t_openHigh v_t_wayWeights z1 z2 z3 z5 v_t_bandLow v_t_bandHigh = some q → va_P G classes [(t, .inr (3, [.ref t_openLow, .ref t_openHigh, .ref t_bandLow, .ref t_bandHigh, .ref t_wayWeights])), (t_openLow, .inl (K 1, 1200, .inr (.inl v_t_openLow))), (t_openHigh, .inl (K 1, 1200, .inr (.inl v_t_openHigh))), (t_bandLow, .inl (K 1, 10, .inr (.inl v_t_bandLow))), (t_bandHigh, .inl (K 1, 10, .inr (.inl v_t_bandHigh))), (t_wayWeights, .inl (K 0, 2, .inl v_t_wayWeights))] H → va_D A [(t, .inr (3, [.ref t_openLow, .ref t_openHigh, .ref t_bandLow, .ref t_bandHigh, .ref t_wayWeights])), (t_openLow, .inl (K 1, 1200, .inr (.inl v_t_openLow))), (t_openHigh, .inl (K 1, 1200, .inr (.inl v_t_openHigh))), (t_bandLow, .inl (K 1, 10, .inr (.inl v_t_bandLow))), (t_bandHigh, .inl (K 1, 10, .inr (.inl v_t_bandHigh))), (t_wayWeights, .inl (K 0, 2, .inl v_t_wayWeights))] → va_S A s.heap H locs → ∀ ls : Array Slot, lv_has ls 11 [(0, .ref t), (1, .int z1), (2, .int z2), (3, .long z3), (5, .int z5)] → (∀ (H1 : Heap) (locs1 : List Loc) (ls1 : Array Slot), va_P G classes [(t, .inr (3, [.ref t_openLow, .ref t_openHigh, .ref t_bandLow, .ref t_bandHigh, .ref t_wayWeights])), (t_openLow, .inl (K 1, 1200, .inr (.inl v_t_openLow))), (t_openHigh, .inl (K 1, 1200, .inr (.inl v_t_openHigh))), (t_bandLow, .inl (K 1, 10, .inr (.inl q.2.1))), (t_bandHigh, .inl (K 1, 10, .inr (.inl q.2.2))), (t_wayWeights, .inl (K 0, 2, .inl v_t_wayWeights))] H1 → va_D A [(t, .inr (3, [.ref t_openLow, .ref t_openHigh, .ref t_bandLow, .ref t_bandHigh, .ref t_wayWeights])), (t_openLow, .inl (K 1, 1200, .inr (.inl v_t_openLow))), (t_openHigh, .inl (K 1, 1200, .inr (.inl v_t_openHigh))), (t_bandLow, .inl (K 1, 10, .inr (.inl q.2.1))), (t_bandHigh, .inl (K 1, 10, .inr (.inl q.2.2))), (t_wayWeights, .inl (K 0, 2, .inl v_t_wayWeights))] → va_S A s.heap H1 locs1 → lv_has ls1 11 [(3, .long q.1)] → W p l e m_Band_put s m ([.ref t, .int x1, .int x2] : List Value).toArray below meth c H1 locs1 0 0 (MQ below (dk_Qm (some (.long o.1)) G (fun _ : Unit => [(t, .inr (3, [.ref t_openLow, .ref t_openHigh, .ref t_bandLow, .ref t_bandHigh, .ref t_wayWeights])), (t_openLow, .inl (K 1, 1200, .inr (.inl v_t_openLow))), (t_openHigh, .inl (K 1, 1200, .inr (.inl v_t_openHigh))), (t_bandLow, .inl (K 1, 10, .inr (.inl o.2.1))), (t_bandHigh, .inl (K 1, 10, .inr (.inl o.2.2))), (t_wayWeights, .inl (K 0, 2, .inl v_t_wayWeights))]) A) ([.ref t, .int x1, .int x2] : List Value).toArray s 0 0 A) (F0 m 153 ls1 [])) → W p l e m_Band_put s m ([.ref t, .int x1, .int x2] : List Value).toArray below meth c H locs 0 0 (MQ below (dk_Qm (some (.long o.1)) G (fun _ : Unit => [(t, .inr (3, [.ref t_openLow, .ref t_openHigh, .ref t_bandLow, .ref t_bandHigh, .ref t_wayWeights])), (t_openLow, .inl (K 1, 1200, .inr (.inl v_t_openLow))), (t_openHigh, .inl (K 1, 1200, .inr (.inl v_t_openHigh))), (t_bandLow, .inl (K 1, 10, .inr (.inl o.2.1))), (t_bandHigh, .inl (K 1, 10, .inr (.inl o.2.2))), (t_wayWeights, .inl (K 0, 2, .inl v_t_wayWeights))]) A) ([.ref t, .int x1, .int x2] : List Value).toArray s 0 0 A) (F0 m 31 ls []) := by
    intro k
    induction k with
    | zero =>
      intro z1 z2 z3 z5 v_t_bandLow v_t_bandHigh H locs q hF hP hD hS ls hl hk
      exact absurd hF (by simp [p_Band_put_31])
    | succ k jh =>
      intro z1 z2 z3 z5 v_t_bandLow v_t_bandHigh H locs q hF hP hD hS ls hl hk
      have hF := (q_Band_put_31 n k v_t_openLow v_t_openHigh v_t_wayWeights z1 z2 z3 z5 v_t_bandLow v_t_bandHigh).symm.trans hF
      refine lv_iload hx hb d_Band_put_31 (lv_at hl 4 rfl) ?_
      refine lv_iconst (v := (2 : Int32)) hx hb d_Band_put_33 (by decide) ?_
      refine lv_icmp_ge (tgt := 153) hx hb d_Band_put_34 (by decide) (fun c34_5 => ?_) (fun c34_5 => ?_)
      · have hF := dk_t c34_5 hF
        obtain rfl := Option.some.inj hF
        exact hk H locs ls hP hD hS (lv_sub hl [3] rfl)
      · have hF := dk_f c34_5 hF
        refine lv_iload_n hx hb d_Band_put_37 rfl (lv_at hl 1 rfl) ?_
        refine lv_iconst (v := (2 : Int32)) hx hb d_Band_put_38 (by decide) ?_
        refine lv_imul hx hb d_Band_put_39 ?_
        refine lv_iload hx hb d_Band_put_40 (lv_at hl 4 rfl) ?_
        refine lv_iadd hx hb d_Band_put_42 ?_
        refine lv_istore (lv' := [(6, .int ((z1 * (2 : Int32)) + z5)), (0, .ref t), (1, .int z1), (2, .int z2), (3, .long z3), (5, .int z5)]) hx hb d_Band_put_43 hl (by decide) rfl (fun ls hl => ?_)
        refine lv_aload_n hx hb d_Band_put_45 rfl (lv_at hl 1 rfl) ?_
        refine va_get (D := G) (ci := 3) (v := .ref t_openLow) (C := R_Band) (T := F_Band) (N := 5) hx hb hts i_Band hown hK hP 0 rfl rfl 0 (by decide) (hts _ lk_110) (fun _ h9 => h9) rfl d_Band_put_46 ?_
        refine lv_iload hx hb d_Band_put_49 (lv_at hl 0 rfl) ?_
        refine lv_bipush (v := (120 : Int32)) hx hb d_Band_put_51 (by decide) ?_
        refine lv_imul hx hb d_Band_put_53 ?_
        refine lv_iload_n hx hb d_Band_put_54 rfl (lv_at hl 3 rfl) ?_
        refine lv_iadd hx hb d_Band_put_55 ?_
        obtain ⟨hi, hF⟩ := dk_a hF
        refine va_lald (D := G) hx hb hK hP 1 1 rfl rfl (dk_vp hi) d_Band_put_56 ?_
        refine lv_lstore (lv' := [(7, .long (v_t_openLow ((((z1 * (2 : Int32)) + z5) * (120 : Int32)) + z2).toNatClampNeg)), (6, .int ((z1 * (2 : Int32)) + z5)), (0, .ref t), (1, .int z1), (2, .int z2), (3, .long z3), (5, .int z5)]) hx hb d_Band_put_57 hl (by decide) rfl (fun ls hl => ?_)
        refine lv_aload_n hx hb d_Band_put_59 rfl (lv_at hl 2 rfl) ?_
        refine va_get (D := G) (ci := 3) (v := .ref t_openHigh) (C := R_Band) (T := F_Band) (N := 5) hx hb hts i_Band hown hK hP 0 rfl rfl 1 (by decide) (hts _ lk_114) (fun _ h9 => h9) rfl d_Band_put_60 ?_
        refine lv_iload hx hb d_Band_put_63 (lv_at hl 1 rfl) ?_
        refine lv_bipush (v := (120 : Int32)) hx hb d_Band_put_65 (by decide) ?_
        refine lv_imul hx hb d_Band_put_67 ?_
        refine lv_iload_n hx hb d_Band_put_68 rfl (lv_at hl 4 rfl) ?_
        refine lv_iadd hx hb d_Band_put_69 ?_
        obtain ⟨hi, hF⟩ := dk_a hF
        refine va_lald (D := G) hx hb hK hP 2 1 rfl rfl (dk_vp hi) d_Band_put_70 ?_
        refine lv_lstore (lv' := [(9, .long (v_t_openHigh ((((z1 * (2 : Int32)) + z5) * (120 : Int32)) + z2).toNatClampNeg)), (7, .long (v_t_openLow ((((z1 * (2 : Int32)) + z5) * (120 : Int32)) + z2).toNatClampNeg)), (6, .int ((z1 * (2 : Int32)) + z5)), (0, .ref t), (1, .int z1), (2, .int z2), (3, .long z3), (5, .int z5)]) hx hb d_Band_put_71 hl (by decide) rfl (fun ls hl => ?_)
        refine lv_iload_n hx hb d_Band_put_73 rfl (lv_at hl 4 rfl) ?_
        refine lv_if_le (tgt := 105) hx hb d_Band_put_74 (by decide) (fun c74_6 => ?_) (fun c74_6 => ?_)
        · have hF := dk_t c74_6 hF
          refine lv_aload_n hx hb d_Band_put_105 rfl (lv_at hl 3 rfl) ?_
          refine va_get (D := G) (ci := 3) (v := .ref t_bandLow) (C := R_Band) (T := F_Band) (N := 5) hx hb hts i_Band hown hK hP 0 rfl rfl 2 (by decide) (hts _ lk_139) (fun _ h9 => h9) rfl d_Band_put_106 ?_
          refine lv_iload hx hb d_Band_put_109 (lv_at hl 2 rfl) ?_
          refine lv_lload hx hb d_Band_put_111 (lv_at hl 1 rfl) ?_
          obtain ⟨hi, hF⟩ := dk_a hF
          refine va_last (D := G) hx hb hK hP hD hS 3 1 rfl rfl (dk_vp hi) d_Band_put_113 (fun H locs hP hD hS => ?_)
          have hP : va_P G classes [(t, .inr (3, [.ref t_openLow, .ref t_openHigh, .ref t_bandLow, .ref t_bandHigh, .ref t_wayWeights])), (t_openLow, .inl (K 1, 1200, .inr (.inl v_t_openLow))), (t_openHigh, .inl (K 1, 1200, .inr (.inl v_t_openHigh))), (t_bandLow, .inl (K 1, 10, .inr (.inl (vp_updL v_t_bandLow ((z1 * (2 : Int32)) + z5).toNatClampNeg (v_t_openLow ((((z1 * (2 : Int32)) + z5) * (120 : Int32)) + z2).toNatClampNeg))))), (t_bandHigh, .inl (K 1, 10, .inr (.inl v_t_bandHigh))), (t_wayWeights, .inl (K 0, 2, .inl v_t_wayWeights))] H := hP
          have hD : va_D A [(t, .inr (3, [.ref t_openLow, .ref t_openHigh, .ref t_bandLow, .ref t_bandHigh, .ref t_wayWeights])), (t_openLow, .inl (K 1, 1200, .inr (.inl v_t_openLow))), (t_openHigh, .inl (K 1, 1200, .inr (.inl v_t_openHigh))), (t_bandLow, .inl (K 1, 10, .inr (.inl (vp_updL v_t_bandLow ((z1 * (2 : Int32)) + z5).toNatClampNeg (v_t_openLow ((((z1 * (2 : Int32)) + z5) * (120 : Int32)) + z2).toNatClampNeg))))), (t_bandHigh, .inl (K 1, 10, .inr (.inl v_t_bandHigh))), (t_wayWeights, .inl (K 0, 2, .inl v_t_wayWeights))] := hD
          refine lv_aload_n hx hb d_Band_put_114 rfl (lv_at hl 3 rfl) ?_
          refine va_get (D := G) (ci := 3) (v := .ref t_bandHigh) (C := R_Band) (T := F_Band) (N := 5) hx hb hts i_Band hown hK hP 0 rfl rfl 3 (by decide) (hts _ lk_140) (fun _ h9 => h9) rfl d_Band_put_115 ?_
          refine lv_iload hx hb d_Band_put_118 (lv_at hl 2 rfl) ?_
          refine lv_lload hx hb d_Band_put_120 (lv_at hl 0 rfl) ?_
          obtain ⟨hi, hF⟩ := dk_a hF
          refine va_last (D := G) hx hb hK hP hD hS 4 1 rfl rfl (dk_vp hi) d_Band_put_122 (fun H locs hP hD hS => ?_)
          have hP : va_P G classes [(t, .inr (3, [.ref t_openLow, .ref t_openHigh, .ref t_bandLow, .ref t_bandHigh, .ref t_wayWeights])), (t_openLow, .inl (K 1, 1200, .inr (.inl v_t_openLow))), (t_openHigh, .inl (K 1, 1200, .inr (.inl v_t_openHigh))), (t_bandLow, .inl (K 1, 10, .inr (.inl (vp_updL v_t_bandLow ((z1 * (2 : Int32)) + z5).toNatClampNeg (v_t_openLow ((((z1 * (2 : Int32)) + z5) * (120 : Int32)) + z2).toNatClampNeg))))), (t_bandHigh, .inl (K 1, 10, .inr (.inl (vp_updL v_t_bandHigh ((z1 * (2 : Int32)) + z5).toNatClampNeg (v_t_openHigh ((((z1 * (2 : Int32)) + z5) * (120 : Int32)) + z2).toNatClampNeg))))), (t_wayWeights, .inl (K 0, 2, .inl v_t_wayWeights))] H := hP
          have hD : va_D A [(t, .inr (3, [.ref t_openLow, .ref t_openHigh, .ref t_bandLow, .ref t_bandHigh, .ref t_wayWeights])), (t_openLow, .inl (K 1, 1200, .inr (.inl v_t_openLow))), (t_openHigh, .inl (K 1, 1200, .inr (.inl v_t_openHigh))), (t_bandLow, .inl (K 1, 10, .inr (.inl (vp_updL v_t_bandLow ((z1 * (2 : Int32)) + z5).toNatClampNeg (v_t_openLow ((((z1 * (2 : Int32)) + z5) * (120 : Int32)) + z2).toNatClampNeg))))), (t_bandHigh, .inl (K 1, 10, .inr (.inl (vp_updL v_t_bandHigh ((z1 * (2 : Int32)) + z5).toNatClampNeg (v_t_openHigh ((((z1 * (2 : Int32)) + z5) * (120 : Int32)) + z2).toNatClampNeg))))), (t_wayWeights, .inl (K 0, 2, .inl v_t_wayWeights))] := hD
          refine lv_lload_n hx hb d_Band_put_123 rfl (lv_at hl 6 rfl) ?_
          refine lv_aload_n hx hb d_Band_put_124 rfl (lv_at hl 3 rfl) ?_
          refine va_get (D := G) (ci := 3) (v := .ref t_wayWeights) (C := R_Band) (T := F_Band) (N := 5) hx hb hts i_Band hown hK hP 0 rfl rfl 4 (by decide) (hts _ lk_120) (fun _ h9 => h9) rfl d_Band_put_125 ?_
          refine lv_iload hx hb d_Band_put_128 (lv_at hl 7 rfl) ?_
          obtain ⟨hi, hF⟩ := dk_a hF
          refine va_iald (D := G) hx hb hK hP 5 0 rfl rfl (dk_vp hi) d_Band_put_130 ?_
          refine lv_i2l hx hb d_Band_put_131 rfl ?_
          refine lv_lload hx hb d_Band_put_132 (lv_at hl 1 rfl) ?_
          obtain ⟨r134_7, hC, hF⟩ := dk_b hF
          refine dk_pure (va_runS (As := [.long (v_t_openLow ((((z1 * (2 : Int32)) + z5) * (120 : Int32)) + z2).toNatClampNeg)]) (rest := [.long ((v_t_wayWeights z5.toNatClampNeg).toInt64), .long z3]) hfix (c_Long_bitCount l G K n (v_t_openLow ((((z1 * (2 : Int32)) + z5) * (120 : Int32)) + z2).toNatClampNeg) r134_7 hC) (va_cwS 1 hts (gd_S lk_141 lk_143 lk_144 lk_142) rfl rfl rfl (by decide +kernel) ⟨Nat.le_of_ble_eq_true rfl, Nat.le_of_ble_eq_true rfl⟩) (dk_preS hK hN (hP.sub [] rfl)) rfl rfl hl.1 rfl (lv_room (Nat.le_of_ble_eq_true rfl)) d_Band_put_134 ⟨Nat.le_of_ble_eq_true rfl, Nat.le_of_ble_eq_true rfl⟩) ?_
          refine lv_lload hx hb d_Band_put_137 (lv_at hl 0 rfl) ?_
          obtain ⟨r139_8, hC, hF⟩ := dk_b hF
          refine dk_pure (va_runS (As := [.long (v_t_openHigh ((((z1 * (2 : Int32)) + z5) * (120 : Int32)) + z2).toNatClampNeg)]) (rest := [.int r134_7, .long ((v_t_wayWeights z5.toNatClampNeg).toInt64), .long z3]) hfix (c_Long_bitCount l G K n (v_t_openHigh ((((z1 * (2 : Int32)) + z5) * (120 : Int32)) + z2).toNatClampNeg) r139_8 hC) (va_cwS 1 hts (gd_S lk_141 lk_143 lk_144 lk_142) rfl rfl rfl (by decide +kernel) ⟨Nat.le_of_ble_eq_true rfl, Nat.le_of_ble_eq_true rfl⟩) (dk_preS hK hN (hP.sub [] rfl)) rfl rfl hl.1 rfl (lv_room (Nat.le_of_ble_eq_true rfl)) d_Band_put_139 ⟨Nat.le_of_ble_eq_true rfl, Nat.le_of_ble_eq_true rfl⟩) ?_
          refine lv_iadd hx hb d_Band_put_142 ?_
          refine lv_i2l hx hb d_Band_put_143 rfl ?_
          refine lv_lmul hx hb d_Band_put_144 ?_
          refine lv_ladd hx hb d_Band_put_145 ?_
          refine lv_lstore_n (lv' := [(3, .long (z3 + (((v_t_wayWeights z5.toNatClampNeg).toInt64) * ((r134_7 + r139_8).toInt64)))), (9, .long (v_t_openHigh ((((z1 * (2 : Int32)) + z5) * (120 : Int32)) + z2).toNatClampNeg)), (7, .long (v_t_openLow ((((z1 * (2 : Int32)) + z5) * (120 : Int32)) + z2).toNatClampNeg)), (6, .int ((z1 * (2 : Int32)) + z5)), (0, .ref t), (1, .int z1), (2, .int z2), (5, .int z5)]) hx hb d_Band_put_146 rfl hl (by decide) rfl (fun ls hl => ?_)
          refine lv_iinc (v := z5 + (1 : Int32)) (lv' := [(5, .int (z5 + (1 : Int32))), (3, .long (z3 + (((v_t_wayWeights z5.toNatClampNeg).toInt64) * ((r134_7 + r139_8).toInt64)))), (9, .long (v_t_openHigh ((((z1 * (2 : Int32)) + z5) * (120 : Int32)) + z2).toNatClampNeg)), (7, .long (v_t_openLow ((((z1 * (2 : Int32)) + z5) * (120 : Int32)) + z2).toNatClampNeg)), (6, .int ((z1 * (2 : Int32)) + z5)), (0, .ref t), (1, .int z1), (2, .int z2)]) hx hb d_Band_put_147 hl (k := 7) rfl rfl (by decide) rfl (fun ls hl => ?_)
          refine lv_goto (tgt := 31) hx hb d_Band_put_150 (by decide) ?_
          exact jh z1 z2 (z3 + (((v_t_wayWeights z5.toNatClampNeg).toInt64) * ((r134_7 + r139_8).toInt64))) (z5 + (1 : Int32)) (vp_updL v_t_bandLow ((z1 * (2 : Int32)) + z5).toNatClampNeg (v_t_openLow ((((z1 * (2 : Int32)) + z5) * (120 : Int32)) + z2).toNatClampNeg)) (vp_updL v_t_bandHigh ((z1 * (2 : Int32)) + z5).toNatClampNeg (v_t_openHigh ((((z1 * (2 : Int32)) + z5) * (120 : Int32)) + z2).toNatClampNeg)) H locs q hF hP hD hS ls (lv_sub hl [5, 6, 7, 1, 0] rfl) hk
        · have hF := dk_f c74_6 hF
          refine lv_lload hx hb d_Band_put_77 (lv_at hl 1 rfl) ?_
          refine lv_aload_n hx hb d_Band_put_79 rfl (lv_at hl 3 rfl) ?_
          refine va_get (D := G) (ci := 3) (v := .ref t_bandLow) (C := R_Band) (T := F_Band) (N := 5) hx hb hts i_Band hown hK hP 0 rfl rfl 2 (by decide) (hts _ lk_139) (fun _ h9 => h9) rfl d_Band_put_80 ?_
          refine lv_iload hx hb d_Band_put_83 (lv_at hl 2 rfl) ?_
          refine lv_iconst (v := (2 : Int32)) hx hb d_Band_put_85 (by decide) ?_
          refine lv_isub hx hb d_Band_put_86 ?_
          obtain ⟨hi, hF⟩ := dk_a hF
          refine va_lald (D := G) hx hb hK hP 3 1 rfl rfl (dk_vp hi) d_Band_put_87 ?_
          refine lv_land hx hb d_Band_put_88 ?_
          refine lv_lstore (lv' := [(7, .long ((v_t_openLow ((((z1 * (2 : Int32)) + z5) * (120 : Int32)) + z2).toNatClampNeg) &&& (v_t_bandLow (((z1 * (2 : Int32)) + z5) - (2 : Int32)).toNatClampNeg))), (9, .long (v_t_openHigh ((((z1 * (2 : Int32)) + z5) * (120 : Int32)) + z2).toNatClampNeg)), (6, .int ((z1 * (2 : Int32)) + z5)), (0, .ref t), (1, .int z1), (2, .int z2), (3, .long z3), (5, .int z5)]) hx hb d_Band_put_89 hl (by decide) rfl (fun ls hl => ?_)
          refine lv_lload hx hb d_Band_put_91 (lv_at hl 1 rfl) ?_
          refine lv_aload_n hx hb d_Band_put_93 rfl (lv_at hl 3 rfl) ?_
          refine va_get (D := G) (ci := 3) (v := .ref t_bandHigh) (C := R_Band) (T := F_Band) (N := 5) hx hb hts i_Band hown hK hP 0 rfl rfl 3 (by decide) (hts _ lk_140) (fun _ h9 => h9) rfl d_Band_put_94 ?_
          refine lv_iload hx hb d_Band_put_97 (lv_at hl 2 rfl) ?_
          refine lv_iconst (v := (2 : Int32)) hx hb d_Band_put_99 (by decide) ?_
          refine lv_isub hx hb d_Band_put_100 ?_
          obtain ⟨hi, hF⟩ := dk_a hF
          refine va_lald (D := G) hx hb hK hP 4 1 rfl rfl (dk_vp hi) d_Band_put_101 ?_
          refine lv_land hx hb d_Band_put_102 ?_
          refine lv_lstore (lv' := [(9, .long ((v_t_openHigh ((((z1 * (2 : Int32)) + z5) * (120 : Int32)) + z2).toNatClampNeg) &&& (v_t_bandHigh (((z1 * (2 : Int32)) + z5) - (2 : Int32)).toNatClampNeg))), (7, .long ((v_t_openLow ((((z1 * (2 : Int32)) + z5) * (120 : Int32)) + z2).toNatClampNeg) &&& (v_t_bandLow (((z1 * (2 : Int32)) + z5) - (2 : Int32)).toNatClampNeg))), (6, .int ((z1 * (2 : Int32)) + z5)), (0, .ref t), (1, .int z1), (2, .int z2), (3, .long z3), (5, .int z5)]) hx hb d_Band_put_103 hl (by decide) rfl (fun ls hl => ?_)
          refine lv_aload_n hx hb d_Band_put_105 rfl (lv_at hl 3 rfl) ?_
          refine va_get (D := G) (ci := 3) (v := .ref t_bandLow) (C := R_Band) (T := F_Band) (N := 5) hx hb hts i_Band hown hK hP 0 rfl rfl 2 (by decide) (hts _ lk_139) (fun _ h9 => h9) rfl d_Band_put_106 ?_
          refine lv_iload hx hb d_Band_put_109 (lv_at hl 2 rfl) ?_
          refine lv_lload hx hb d_Band_put_111 (lv_at hl 1 rfl) ?_
          obtain ⟨hi, hF⟩ := dk_a hF
          refine va_last (D := G) hx hb hK hP hD hS 3 1 rfl rfl (dk_vp hi) d_Band_put_113 (fun H locs hP hD hS => ?_)
          have hP : va_P G classes [(t, .inr (3, [.ref t_openLow, .ref t_openHigh, .ref t_bandLow, .ref t_bandHigh, .ref t_wayWeights])), (t_openLow, .inl (K 1, 1200, .inr (.inl v_t_openLow))), (t_openHigh, .inl (K 1, 1200, .inr (.inl v_t_openHigh))), (t_bandLow, .inl (K 1, 10, .inr (.inl (vp_updL v_t_bandLow ((z1 * (2 : Int32)) + z5).toNatClampNeg ((v_t_openLow ((((z1 * (2 : Int32)) + z5) * (120 : Int32)) + z2).toNatClampNeg) &&& (v_t_bandLow (((z1 * (2 : Int32)) + z5) - (2 : Int32)).toNatClampNeg)))))), (t_bandHigh, .inl (K 1, 10, .inr (.inl v_t_bandHigh))), (t_wayWeights, .inl (K 0, 2, .inl v_t_wayWeights))] H := hP
          have hD : va_D A [(t, .inr (3, [.ref t_openLow, .ref t_openHigh, .ref t_bandLow, .ref t_bandHigh, .ref t_wayWeights])), (t_openLow, .inl (K 1, 1200, .inr (.inl v_t_openLow))), (t_openHigh, .inl (K 1, 1200, .inr (.inl v_t_openHigh))), (t_bandLow, .inl (K 1, 10, .inr (.inl (vp_updL v_t_bandLow ((z1 * (2 : Int32)) + z5).toNatClampNeg ((v_t_openLow ((((z1 * (2 : Int32)) + z5) * (120 : Int32)) + z2).toNatClampNeg) &&& (v_t_bandLow (((z1 * (2 : Int32)) + z5) - (2 : Int32)).toNatClampNeg)))))), (t_bandHigh, .inl (K 1, 10, .inr (.inl v_t_bandHigh))), (t_wayWeights, .inl (K 0, 2, .inl v_t_wayWeights))] := hD
          refine lv_aload_n hx hb d_Band_put_114 rfl (lv_at hl 3 rfl) ?_
          refine va_get (D := G) (ci := 3) (v := .ref t_bandHigh) (C := R_Band) (T := F_Band) (N := 5) hx hb hts i_Band hown hK hP 0 rfl rfl 3 (by decide) (hts _ lk_140) (fun _ h9 => h9) rfl d_Band_put_115 ?_
          refine lv_iload hx hb d_Band_put_118 (lv_at hl 2 rfl) ?_
          refine lv_lload hx hb d_Band_put_120 (lv_at hl 0 rfl) ?_
          obtain ⟨hi, hF⟩ := dk_a hF
          refine va_last (D := G) hx hb hK hP hD hS 4 1 rfl rfl (dk_vp hi) d_Band_put_122 (fun H locs hP hD hS => ?_)
          have hP : va_P G classes [(t, .inr (3, [.ref t_openLow, .ref t_openHigh, .ref t_bandLow, .ref t_bandHigh, .ref t_wayWeights])), (t_openLow, .inl (K 1, 1200, .inr (.inl v_t_openLow))), (t_openHigh, .inl (K 1, 1200, .inr (.inl v_t_openHigh))), (t_bandLow, .inl (K 1, 10, .inr (.inl (vp_updL v_t_bandLow ((z1 * (2 : Int32)) + z5).toNatClampNeg ((v_t_openLow ((((z1 * (2 : Int32)) + z5) * (120 : Int32)) + z2).toNatClampNeg) &&& (v_t_bandLow (((z1 * (2 : Int32)) + z5) - (2 : Int32)).toNatClampNeg)))))), (t_bandHigh, .inl (K 1, 10, .inr (.inl (vp_updL v_t_bandHigh ((z1 * (2 : Int32)) + z5).toNatClampNeg ((v_t_openHigh ((((z1 * (2 : Int32)) + z5) * (120 : Int32)) + z2).toNatClampNeg) &&& (v_t_bandHigh (((z1 * (2 : Int32)) + z5) - (2 : Int32)).toNatClampNeg)))))), (t_wayWeights, .inl (K 0, 2, .inl v_t_wayWeights))] H := hP
          have hD : va_D A [(t, .inr (3, [.ref t_openLow, .ref t_openHigh, .ref t_bandLow, .ref t_bandHigh, .ref t_wayWeights])), (t_openLow, .inl (K 1, 1200, .inr (.inl v_t_openLow))), (t_openHigh, .inl (K 1, 1200, .inr (.inl v_t_openHigh))), (t_bandLow, .inl (K 1, 10, .inr (.inl (vp_updL v_t_bandLow ((z1 * (2 : Int32)) + z5).toNatClampNeg ((v_t_openLow ((((z1 * (2 : Int32)) + z5) * (120 : Int32)) + z2).toNatClampNeg) &&& (v_t_bandLow (((z1 * (2 : Int32)) + z5) - (2 : Int32)).toNatClampNeg)))))), (t_bandHigh, .inl (K 1, 10, .inr (.inl (vp_updL v_t_bandHigh ((z1 * (2 : Int32)) + z5).toNatClampNeg ((v_t_openHigh ((((z1 * (2 : Int32)) + z5) * (120 : Int32)) + z2).toNatClampNeg) &&& (v_t_bandHigh (((z1 * (2 : Int32)) + z5) - (2 : Int32)).toNatClampNeg)))))), (t_wayWeights, .inl (K 0, 2, .inl v_t_wayWeights))] := hD
          refine lv_lload_n hx hb d_Band_put_123 rfl (lv_at hl 6 rfl) ?_
          refine lv_aload_n hx hb d_Band_put_124 rfl (lv_at hl 3 rfl) ?_
          refine va_get (D := G) (ci := 3) (v := .ref t_wayWeights) (C := R_Band) (T := F_Band) (N := 5) hx hb hts i_Band hown hK hP 0 rfl rfl 4 (by decide) (hts _ lk_120) (fun _ h9 => h9) rfl d_Band_put_125 ?_
          refine lv_iload hx hb d_Band_put_128 (lv_at hl 7 rfl) ?_
          obtain ⟨hi, hF⟩ := dk_a hF
          refine va_iald (D := G) hx hb hK hP 5 0 rfl rfl (dk_vp hi) d_Band_put_130 ?_
          refine lv_i2l hx hb d_Band_put_131 rfl ?_
          refine lv_lload hx hb d_Band_put_132 (lv_at hl 1 rfl) ?_
          obtain ⟨r134_9, hC, hF⟩ := dk_b hF
          refine dk_pure (va_runS (As := [.long ((v_t_openLow ((((z1 * (2 : Int32)) + z5) * (120 : Int32)) + z2).toNatClampNeg) &&& (v_t_bandLow (((z1 * (2 : Int32)) + z5) - (2 : Int32)).toNatClampNeg))]) (rest := [.long ((v_t_wayWeights z5.toNatClampNeg).toInt64), .long z3]) hfix (c_Long_bitCount l G K n ((v_t_openLow ((((z1 * (2 : Int32)) + z5) * (120 : Int32)) + z2).toNatClampNeg) &&& (v_t_bandLow (((z1 * (2 : Int32)) + z5) - (2 : Int32)).toNatClampNeg)) r134_9 hC) (va_cwS 1 hts (gd_S lk_141 lk_143 lk_144 lk_142) rfl rfl rfl (by decide +kernel) ⟨Nat.le_of_ble_eq_true rfl, Nat.le_of_ble_eq_true rfl⟩) (dk_preS hK hN (hP.sub [] rfl)) rfl rfl hl.1 rfl (lv_room (Nat.le_of_ble_eq_true rfl)) d_Band_put_134 ⟨Nat.le_of_ble_eq_true rfl, Nat.le_of_ble_eq_true rfl⟩) ?_
          refine lv_lload hx hb d_Band_put_137 (lv_at hl 0 rfl) ?_
          obtain ⟨r139_10, hC, hF⟩ := dk_b hF
          refine dk_pure (va_runS (As := [.long ((v_t_openHigh ((((z1 * (2 : Int32)) + z5) * (120 : Int32)) + z2).toNatClampNeg) &&& (v_t_bandHigh (((z1 * (2 : Int32)) + z5) - (2 : Int32)).toNatClampNeg))]) (rest := [.int r134_9, .long ((v_t_wayWeights z5.toNatClampNeg).toInt64), .long z3]) hfix (c_Long_bitCount l G K n ((v_t_openHigh ((((z1 * (2 : Int32)) + z5) * (120 : Int32)) + z2).toNatClampNeg) &&& (v_t_bandHigh (((z1 * (2 : Int32)) + z5) - (2 : Int32)).toNatClampNeg)) r139_10 hC) (va_cwS 1 hts (gd_S lk_141 lk_143 lk_144 lk_142) rfl rfl rfl (by decide +kernel) ⟨Nat.le_of_ble_eq_true rfl, Nat.le_of_ble_eq_true rfl⟩) (dk_preS hK hN (hP.sub [] rfl)) rfl rfl hl.1 rfl (lv_room (Nat.le_of_ble_eq_true rfl)) d_Band_put_139 ⟨Nat.le_of_ble_eq_true rfl, Nat.le_of_ble_eq_true rfl⟩) ?_
          refine lv_iadd hx hb d_Band_put_142 ?_
          refine lv_i2l hx hb d_Band_put_143 rfl ?_
          refine lv_lmul hx hb d_Band_put_144 ?_
          refine lv_ladd hx hb d_Band_put_145 ?_
          refine lv_lstore_n (lv' := [(3, .long (z3 + (((v_t_wayWeights z5.toNatClampNeg).toInt64) * ((r134_9 + r139_10).toInt64)))), (9, .long ((v_t_openHigh ((((z1 * (2 : Int32)) + z5) * (120 : Int32)) + z2).toNatClampNeg) &&& (v_t_bandHigh (((z1 * (2 : Int32)) + z5) - (2 : Int32)).toNatClampNeg))), (7, .long ((v_t_openLow ((((z1 * (2 : Int32)) + z5) * (120 : Int32)) + z2).toNatClampNeg) &&& (v_t_bandLow (((z1 * (2 : Int32)) + z5) - (2 : Int32)).toNatClampNeg))), (6, .int ((z1 * (2 : Int32)) + z5)), (0, .ref t), (1, .int z1), (2, .int z2), (5, .int z5)]) hx hb d_Band_put_146 rfl hl (by decide) rfl (fun ls hl => ?_)
          refine lv_iinc (v := z5 + (1 : Int32)) (lv' := [(5, .int (z5 + (1 : Int32))), (3, .long (z3 + (((v_t_wayWeights z5.toNatClampNeg).toInt64) * ((r134_9 + r139_10).toInt64)))), (9, .long ((v_t_openHigh ((((z1 * (2 : Int32)) + z5) * (120 : Int32)) + z2).toNatClampNeg) &&& (v_t_bandHigh (((z1 * (2 : Int32)) + z5) - (2 : Int32)).toNatClampNeg))), (7, .long ((v_t_openLow ((((z1 * (2 : Int32)) + z5) * (120 : Int32)) + z2).toNatClampNeg) &&& (v_t_bandLow (((z1 * (2 : Int32)) + z5) - (2 : Int32)).toNatClampNeg))), (6, .int ((z1 * (2 : Int32)) + z5)), (0, .ref t), (1, .int z1), (2, .int z2)]) hx hb d_Band_put_147 hl (k := 7) rfl rfl (by decide) rfl (fun ls hl => ?_)
          refine lv_goto (tgt := 31) hx hb d_Band_put_150 (by decide) ?_
          exact jh z1 z2 (z3 + (((v_t_wayWeights z5.toNatClampNeg).toInt64) * ((r134_9 + r139_10).toInt64))) (z5 + (1 : Int32)) (vp_updL v_t_bandLow ((z1 * (2 : Int32)) + z5).toNatClampNeg ((v_t_openLow ((((z1 * (2 : Int32)) + z5) * (120 : Int32)) + z2).toNatClampNeg) &&& (v_t_bandLow (((z1 * (2 : Int32)) + z5) - (2 : Int32)).toNatClampNeg))) (vp_updL v_t_bandHigh ((z1 * (2 : Int32)) + z5).toNatClampNeg ((v_t_openHigh ((((z1 * (2 : Int32)) + z5) * (120 : Int32)) + z2).toNatClampNeg) &&& (v_t_bandHigh (((z1 * (2 : Int32)) + z5) - (2 : Int32)).toNatClampNeg))) H locs q hF hP hD hS ls (lv_sub hl [5, 6, 7, 1, 0] rfl) hk
  unfold p_Band_put at hF
  refine lv_iload_n hx hb d_Band_put_0 rfl (lv_at hl 1 rfl) ?_
  refine lv_i2l hx hb d_Band_put_1 rfl ?_
  refine lv_lconst (v := (0 : Int64)) hx hb d_Band_put_2 (by decide) ?_
  refine lv_ldc2 (own := R_Band) (index := 63) (v := (4 : Int64)) hx hb hown (hts _ lk_134) d_Band_put_3 ?_
  obtain ⟨r6_1, hC, hF⟩ := dk_b hF
  refine dk_pure (va_runSN (As := [.long x1.toInt64, .long (0 : Int64), .long (4 : Int64)]) (rest := []) hfix (c_WO_within l G K n x1.toInt64 (0 : Int64) (4 : Int64) r6_1 hC) (⟨va_cnB 3 hts (gd_w lk_136) rfl rfl rfl (hN.1 _ lk_135) (hts _ lk_16) (by decide +kernel) ⟨Nat.le_of_ble_eq_true rfl, Nat.le_of_ble_eq_true rfl⟩, hts _ lk_137, trivial⟩) (dk_preS hK hN (hP.sub [] rfl)) rfl rfl hl.1 rfl (lv_room (Nat.le_of_ble_eq_true rfl)) d_Band_put_6 ⟨Nat.le_of_ble_eq_true rfl, Nat.le_of_ble_eq_true rfl⟩) ?_
  refine lv_if_eq (tgt := 24) hx hb d_Band_put_9 (by decide) (fun c9_2 => ?_) (fun c9_2 => ?_)
  · have hF := dk_t c9_2 hF
    refine lv_lconst (v := (0 : Int64)) hx hb d_Band_put_24 (by decide) ?_
    obtain rfl := Option.some.inj hF
    exact W.lret (v := (0 : Int64)) hx hb hr (fun t ht hW => ⟨⟨(), rfl, by rw [ht]; exact hP, hD⟩, hS.F ht⟩) hS.2.2 d_Band_put_25
  · have hF := dk_f c9_2 hF
    refine lv_iload_n hx hb d_Band_put_12 rfl (lv_at hl 2 rfl) ?_
    refine lv_i2l hx hb d_Band_put_13 rfl ?_
    refine lv_lconst (v := (0 : Int64)) hx hb d_Band_put_14 (by decide) ?_
    refine lv_ldc2 (own := R_Band) (index := 69) (v := (119 : Int64)) hx hb hown (hts _ lk_138) d_Band_put_15 ?_
    obtain ⟨r18_3, hC, hF⟩ := dk_b hF
    refine dk_pure (va_runSN (As := [.long x2.toInt64, .long (0 : Int64), .long (119 : Int64)]) (rest := []) hfix (c_WO_within l G K n x2.toInt64 (0 : Int64) (119 : Int64) r18_3 hC) (⟨va_cnB 3 hts (gd_w lk_136) rfl rfl rfl (hN.1 _ lk_135) (hts _ lk_16) (by decide +kernel) ⟨Nat.le_of_ble_eq_true rfl, Nat.le_of_ble_eq_true rfl⟩, hts _ lk_137, trivial⟩) (dk_preS hK hN (hP.sub [] rfl)) rfl rfl hl.1 rfl (lv_room (Nat.le_of_ble_eq_true rfl)) d_Band_put_18 ⟨Nat.le_of_ble_eq_true rfl, Nat.le_of_ble_eq_true rfl⟩) ?_
    refine lv_if_ne (tgt := 26) hx hb d_Band_put_21 (by decide) (fun c21_4 => ?_) (fun c21_4 => ?_)
    · have hF := dk_f c21_4 hF
      refine lv_lconst (v := (0 : Int64)) hx hb d_Band_put_26 (by decide) ?_
      refine lv_lstore_n (lv' := [(3, .long (0 : Int64)), (0, .ref t), (1, .int x1), (2, .int x2)]) hx hb d_Band_put_27 rfl hl (by decide) rfl (fun ls hl => ?_)
      refine lv_iconst (v := (0 : Int32)) hx hb d_Band_put_28 (by decide) ?_
      refine lv_istore (lv' := [(5, .int (0 : Int32)), (3, .long (0 : Int64)), (0, .ref t), (1, .int x1), (2, .int x2)]) hx hb d_Band_put_29 hl (by decide) rfl (fun ls hl => ?_)
      obtain ⟨q31_11, hC, hF⟩ := dk_b hF
      refine L31 n x1 x2 (0 : Int64) (0 : Int32) v_t_bandLow v_t_bandHigh s.heap [] q31_11 hC hP hD hS ls (lv_sub hl [2, 3, 4, 1, 0] rfl) (fun H locs ls hP hD hS hl => ?_)
      refine lv_lload_n hx hb d_Band_put_153 rfl (lv_at hl 0 rfl) ?_
      obtain rfl := Option.some.inj hF
      exact W.lret (v := q31_11.1) hx hb hr (fun t ht hW => ⟨⟨(), rfl, by rw [ht]; exact hP, hD⟩, hS.F ht⟩) hS.2.2 d_Band_put_154
    · have hF := dk_t c21_4 hF
      refine lv_lconst (v := (0 : Int64)) hx hb d_Band_put_24 (by decide) ?_
      obtain rfl := Option.some.inj hF
      exact W.lret (v := (0 : Int64)) hx hb hr (fun t ht hW => ⟨⟨(), rfl, by rw [ht]; exact hP, hD⟩, hS.F ht⟩) hS.2.2 d_Band_put_25
