theorem d_Srch_beats_0 : decode b_Srch_beats 0 = .ok (.aload_n 3, 1) := by decide +kernel
theorem d_Srch_beats_1 : decode b_Srch_beats 1 = .ok (.invokevirtual 115, 3) := by decide +kernel
theorem d_Srch_beats_4 : decode b_Srch_beats 4 = .ok (.ifCond .eq 24, 3) := by decide +kernel
theorem d_Srch_beats_7 : decode b_Srch_beats 7 = .ok (.lload_n 1, 1) := by decide +kernel
theorem d_Srch_beats_8 : decode b_Srch_beats 8 = .ok (.aload_n 3, 1) := by decide +kernel
theorem d_Srch_beats_9 : decode b_Srch_beats 9 = .ok (.getfield 119, 3) := by decide +kernel
theorem d_Srch_beats_12 : decode b_Srch_beats 12 = .ok (.i2l, 1) := by decide +kernel
theorem d_Srch_beats_13 : decode b_Srch_beats 13 = .ok (.lmul, 1) := by decide +kernel
theorem d_Srch_beats_14 : decode b_Srch_beats 14 = .ok (.aload_n 0, 1) := by decide +kernel
theorem d_Srch_beats_15 : decode b_Srch_beats 15 = .ok (.getfield 112, 3) := by decide +kernel
theorem d_Srch_beats_18 : decode b_Srch_beats 18 = .ok (.aload_n 0, 1) := by decide +kernel
theorem d_Srch_beats_19 : decode b_Srch_beats 19 = .ok (.getfield 77, 3) := by decide +kernel
theorem d_Srch_beats_22 : decode b_Srch_beats 22 = .ok (.i2l, 1) := by decide +kernel
theorem d_Srch_beats_23 : decode b_Srch_beats 23 = .ok (.lmul, 1) := by decide +kernel
theorem d_Srch_beats_24 : decode b_Srch_beats 24 = .ok (.lcmp, 1) := by decide +kernel
theorem d_Srch_beats_25 : decode b_Srch_beats 25 = .ok (.ifCond .le 7, 3) := by decide +kernel
theorem d_Srch_beats_28 : decode b_Srch_beats 28 = .ok (.iconst 1, 1) := by decide +kernel
theorem d_Srch_beats_29 : decode b_Srch_beats 29 = .ok (.goto 4, 3) := by decide +kernel
theorem d_Srch_beats_32 : decode b_Srch_beats 32 = .ok (.iconst 0, 1) := by decide +kernel
theorem d_Srch_beats_33 : decode b_Srch_beats 33 = .ok (.ireturn, 1) := by decide +kernel
theorem d_Srch_begin_0 : decode b_Srch_begin 0 = .ok (.aload_n 0, 1) := by decide +kernel
theorem d_Srch_begin_1 : decode b_Srch_begin 1 = .ok (.aload_n 1, 1) := by decide +kernel
theorem d_Srch_begin_2 : decode b_Srch_begin 2 = .ok (.invokevirtual 71, 3) := by decide +kernel
theorem d_Srch_begin_5 : decode b_Srch_begin 5 = .ok (.putfield 75, 3) := by decide +kernel
theorem d_Srch_begin_8 : decode b_Srch_begin 8 = .ok (.aload_n 0, 1) := by decide +kernel
theorem d_Srch_begin_9 : decode b_Srch_begin 9 = .ok (.iload_n 2, 1) := by decide +kernel
theorem d_Srch_begin_10 : decode b_Srch_begin 10 = .ok (.putfield 77, 3) := by decide +kernel
theorem d_Srch_begin_13 : decode b_Srch_begin 13 = .ok (.aload_n 0, 1) := by decide +kernel
theorem d_Srch_begin_14 : decode b_Srch_begin 14 = .ok (.aload_n 1, 1) := by decide +kernel
theorem d_Srch_begin_15 : decode b_Srch_begin 15 = .ok (.iload_n 2, 1) := by decide +kernel
theorem d_Srch_begin_16 : decode b_Srch_begin 16 = .ok (.invokevirtual 80, 3) := by decide +kernel
theorem d_Srch_begin_19 : decode b_Srch_begin 19 = .ok (.putfield 84, 3) := by decide +kernel
theorem d_Srch_begin_22 : decode b_Srch_begin 22 = .ok (.aload_n 0, 1) := by decide +kernel
theorem d_Srch_begin_23 : decode b_Srch_begin 23 = .ok (.aload_n 1, 1) := by decide +kernel
theorem d_Srch_begin_24 : decode b_Srch_begin 24 = .ok (.invokevirtual 86, 3) := by decide +kernel
theorem d_Srch_begin_27 : decode b_Srch_begin 27 = .ok (.putfield 89, 3) := by decide +kernel
theorem d_Srch_begin_30 : decode b_Srch_begin 30 = .ok (.iconst 0, 1) := by decide +kernel
theorem d_Srch_begin_31 : decode b_Srch_begin 31 = .ok (.istore_n 3, 1) := by decide +kernel
theorem d_Srch_begin_32 : decode b_Srch_begin 32 = .ok (.iload_n 3, 1) := by decide +kernel
theorem d_Srch_begin_33 : decode b_Srch_begin 33 = .ok (.iconst 5, 1) := by decide +kernel
theorem d_Srch_begin_34 : decode b_Srch_begin 34 = .ok (.if_icmp .ge 21, 3) := by decide +kernel
theorem d_Srch_begin_37 : decode b_Srch_begin 37 = .ok (.aload_n 0, 1) := by decide +kernel
theorem d_Srch_begin_38 : decode b_Srch_begin 38 = .ok (.getfield 29, 3) := by decide +kernel
theorem d_Srch_begin_41 : decode b_Srch_begin 41 = .ok (.iload_n 3, 1) := by decide +kernel
theorem d_Srch_begin_42 : decode b_Srch_begin 42 = .ok (.aload_n 1, 1) := by decide +kernel
theorem d_Srch_begin_43 : decode b_Srch_begin 43 = .ok (.iload_n 3, 1) := by decide +kernel
theorem d_Srch_begin_44 : decode b_Srch_begin 44 = .ok (.iload_n 2, 1) := by decide +kernel
theorem d_Srch_begin_45 : decode b_Srch_begin 45 = .ok (.invokevirtual 92, 3) := by decide +kernel
theorem d_Srch_begin_48 : decode b_Srch_begin 48 = .ok (.lastore, 1) := by decide +kernel
theorem d_Srch_begin_49 : decode b_Srch_begin 49 = .ok (.iinc 3 1, 3) := by decide +kernel
theorem d_Srch_begin_52 : decode b_Srch_begin 52 = .ok (.goto (-20), 3) := by decide +kernel
theorem d_Srch_begin_55 : decode b_Srch_begin 55 = .ok (.return_, 1) := by decide +kernel
theorem d_Srch_putFrom_0 : decode b_Srch_putFrom 0 = .ok (.iload_n 1, 1) := by decide +kernel
theorem d_Srch_putFrom_1 : decode b_Srch_putFrom 1 = .ok (.i2l, 1) := by decide +kernel
theorem d_Srch_putFrom_2 : decode b_Srch_putFrom 2 = .ok (.lconst 0, 1) := by decide +kernel
theorem d_Srch_putFrom_3 : decode b_Srch_putFrom 3 = .ok (.ldc2_w 95, 3) := by decide +kernel
theorem d_Srch_putFrom_6 : decode b_Srch_putFrom 6 = .ok (.invokestatic 97, 3) := by decide +kernel
theorem d_Srch_putFrom_9 : decode b_Srch_putFrom 9 = .ok (.ifCond .ne 4, 3) := by decide +kernel
theorem d_Srch_putFrom_12 : decode b_Srch_putFrom 12 = .ok (.return_, 1) := by decide +kernel
theorem d_Srch_putFrom_13 : decode b_Srch_putFrom 13 = .ok (.iload_n 1, 1) := by decide +kernel
theorem d_Srch_putFrom_14 : decode b_Srch_putFrom 14 = .ok (.ifCond .ne 7, 3) := by decide +kernel
theorem d_Srch_putFrom_17 : decode b_Srch_putFrom 17 = .ok (.iconst 1, 1) := by decide +kernel
theorem d_Srch_putFrom_18 : decode b_Srch_putFrom 18 = .ok (.goto 7, 3) := by decide +kernel
theorem d_Srch_putFrom_21 : decode b_Srch_putFrom 21 = .ok (.aload_n 0, 1) := by decide +kernel
theorem d_Srch_putFrom_22 : decode b_Srch_putFrom 22 = .ok (.getfield 84, 3) := by decide +kernel
theorem d_Srch_putFrom_25 : decode b_Srch_putFrom 25 = .ok (.istore 4, 2) := by decide +kernel
theorem d_Srch_putFrom_27 : decode b_Srch_putFrom 27 = .ok (.iconst 0, 1) := by decide +kernel
theorem d_Srch_putFrom_28 : decode b_Srch_putFrom 28 = .ok (.istore 5, 2) := by decide +kernel
theorem d_Srch_putFrom_30 : decode b_Srch_putFrom 30 = .ok (.iload 5, 2) := by decide +kernel
theorem d_Srch_putFrom_32 : decode b_Srch_putFrom 32 = .ok (.iload 4, 2) := by decide +kernel
theorem d_Srch_putFrom_34 : decode b_Srch_putFrom 34 = .ok (.if_icmp .ge 122, 3) := by decide +kernel
theorem d_Srch_putFrom_37 : decode b_Srch_putFrom 37 = .ok (.aload_n 0, 1) := by decide +kernel
theorem d_Srch_putFrom_38 : decode b_Srch_putFrom 38 = .ok (.getfield 52, 3) := by decide +kernel
theorem d_Srch_putFrom_41 : decode b_Srch_putFrom 41 = .ok (.lconst 0, 1) := by decide +kernel
theorem d_Srch_putFrom_42 : decode b_Srch_putFrom 42 = .ok (.lcmp, 1) := by decide +kernel
theorem d_Srch_putFrom_43 : decode b_Srch_putFrom 43 = .ok (.ifCond .le 113, 3) := by decide +kernel
theorem d_Srch_putFrom_46 : decode b_Srch_putFrom 46 = .ok (.aload_n 0, 1) := by decide +kernel
theorem d_Srch_putFrom_47 : decode b_Srch_putFrom 47 = .ok (.getfield 25, 3) := by decide +kernel
theorem d_Srch_putFrom_50 : decode b_Srch_putFrom 50 = .ok (.iload_n 1, 1) := by decide +kernel
theorem d_Srch_putFrom_51 : decode b_Srch_putFrom 51 = .ok (.iload 5, 2) := by decide +kernel
theorem d_Srch_putFrom_53 : decode b_Srch_putFrom 53 = .ok (.aload_n 0, 1) := by decide +kernel
theorem d_Srch_putFrom_54 : decode b_Srch_putFrom 54 = .ok (.getfield 89, 3) := by decide +kernel
theorem d_Srch_putFrom_57 : decode b_Srch_putFrom 57 = .ok (.imul, 1) := by decide +kernel
theorem d_Srch_putFrom_58 : decode b_Srch_putFrom 58 = .ok (.iastore, 1) := by decide +kernel
theorem d_Srch_putFrom_59 : decode b_Srch_putFrom 59 = .ok (.aload_n 2, 1) := by decide +kernel
theorem d_Srch_putFrom_60 : decode b_Srch_putFrom 60 = .ok (.iload_n 1, 1) := by decide +kernel
theorem d_Srch_putFrom_61 : decode b_Srch_putFrom 61 = .ok (.iload 5, 2) := by decide +kernel
theorem d_Srch_putFrom_63 : decode b_Srch_putFrom 63 = .ok (.invokevirtual 101, 3) := by decide +kernel
theorem d_Srch_putFrom_66 : decode b_Srch_putFrom 66 = .ok (.lstore 6, 2) := by decide +kernel
theorem d_Srch_putFrom_68 : decode b_Srch_putFrom 68 = .ok (.aload_n 0, 1) := by decide +kernel
theorem d_Srch_putFrom_69 : decode b_Srch_putFrom 69 = .ok (.lload 6, 2) := by decide +kernel
theorem d_Srch_putFrom_71 : decode b_Srch_putFrom 71 = .ok (.aload_n 3, 1) := by decide +kernel
theorem d_Srch_putFrom_72 : decode b_Srch_putFrom 72 = .ok (.invokevirtual 104, 3) := by decide +kernel
theorem d_Srch_putFrom_75 : decode b_Srch_putFrom 75 = .ok (.ifCond .ne 21, 3) := by decide +kernel
theorem d_Srch_putFrom_78 : decode b_Srch_putFrom 78 = .ok (.aload_n 0, 1) := by decide +kernel
theorem d_Srch_putFrom_79 : decode b_Srch_putFrom 79 = .ok (.dup, 1) := by decide +kernel
theorem d_Srch_putFrom_80 : decode b_Srch_putFrom 80 = .ok (.getfield 52, 3) := by decide +kernel
theorem d_Srch_putFrom_83 : decode b_Srch_putFrom 83 = .ok (.aload_n 0, 1) := by decide +kernel
theorem d_Srch_putFrom_84 : decode b_Srch_putFrom 84 = .ok (.getfield 29, 3) := by decide +kernel
theorem d_Srch_putFrom_87 : decode b_Srch_putFrom 87 = .ok (.iload_n 1, 1) := by decide +kernel
theorem d_Srch_putFrom_88 : decode b_Srch_putFrom 88 = .ok (.laload, 1) := by decide +kernel
theorem d_Srch_putFrom_89 : decode b_Srch_putFrom 89 = .ok (.lsub, 1) := by decide +kernel
theorem d_Srch_putFrom_90 : decode b_Srch_putFrom 90 = .ok (.putfield 52, 3) := by decide +kernel
theorem d_Srch_putFrom_93 : decode b_Srch_putFrom 93 = .ok (.goto 57, 3) := by decide +kernel
theorem d_Srch_putFrom_96 : decode b_Srch_putFrom 96 = .ok (.iload_n 1, 1) := by decide +kernel
theorem d_Srch_putFrom_97 : decode b_Srch_putFrom 97 = .ok (.aload_n 0, 1) := by decide +kernel
theorem d_Srch_putFrom_98 : decode b_Srch_putFrom 98 = .ok (.getfield 75, 3) := by decide +kernel
theorem d_Srch_putFrom_101 : decode b_Srch_putFrom 101 = .ok (.iconst 1, 1) := by decide +kernel
theorem d_Srch_putFrom_102 : decode b_Srch_putFrom 102 = .ok (.isub, 1) := by decide +kernel
theorem d_Srch_putFrom_103 : decode b_Srch_putFrom 103 = .ok (.if_icmp .ge 15, 3) := by decide +kernel
theorem d_Srch_putFrom_106 : decode b_Srch_putFrom 106 = .ok (.aload_n 0, 1) := by decide +kernel
theorem d_Srch_putFrom_107 : decode b_Srch_putFrom 107 = .ok (.iload_n 1, 1) := by decide +kernel
theorem d_Srch_putFrom_108 : decode b_Srch_putFrom 108 = .ok (.iconst 1, 1) := by decide +kernel
theorem d_Srch_putFrom_109 : decode b_Srch_putFrom 109 = .ok (.iadd, 1) := by decide +kernel
theorem d_Srch_putFrom_110 : decode b_Srch_putFrom 110 = .ok (.aload_n 2, 1) := by decide +kernel
theorem d_Srch_putFrom_111 : decode b_Srch_putFrom 111 = .ok (.aload_n 3, 1) := by decide +kernel
theorem d_Srch_putFrom_112 : decode b_Srch_putFrom 112 = .ok (.invokevirtual 67, 3) := by decide +kernel
theorem d_Srch_putFrom_115 : decode b_Srch_putFrom 115 = .ok (.goto 35, 3) := by decide +kernel
theorem d_Srch_putFrom_118 : decode b_Srch_putFrom 118 = .ok (.aload_n 0, 1) := by decide +kernel
theorem d_Srch_putFrom_119 : decode b_Srch_putFrom 119 = .ok (.dup, 1) := by decide +kernel
theorem d_Srch_putFrom_120 : decode b_Srch_putFrom 120 = .ok (.getfield 52, 3) := by decide +kernel
theorem d_Srch_putFrom_123 : decode b_Srch_putFrom 123 = .ok (.lconst 1, 1) := by decide +kernel
theorem d_Srch_putFrom_124 : decode b_Srch_putFrom 124 = .ok (.lsub, 1) := by decide +kernel
theorem d_Srch_putFrom_125 : decode b_Srch_putFrom 125 = .ok (.putfield 52, 3) := by decide +kernel
theorem d_Srch_putFrom_128 : decode b_Srch_putFrom 128 = .ok (.aload_n 3, 1) := by decide +kernel
theorem d_Srch_putFrom_129 : decode b_Srch_putFrom 129 = .ok (.aload_n 0, 1) := by decide +kernel
theorem d_Srch_putFrom_130 : decode b_Srch_putFrom 130 = .ok (.getfield 77, 3) := by decide +kernel
theorem d_Srch_putFrom_133 : decode b_Srch_putFrom 133 = .ok (.aload_n 0, 1) := by decide +kernel
theorem d_Srch_putFrom_134 : decode b_Srch_putFrom 134 = .ok (.getfield 75, 3) := by decide +kernel
theorem d_Srch_putFrom_137 : decode b_Srch_putFrom 137 = .ok (.aload_n 0, 1) := by decide +kernel
theorem d_Srch_putFrom_138 : decode b_Srch_putFrom 138 = .ok (.getfield 25, 3) := by decide +kernel
theorem d_Srch_putFrom_141 : decode b_Srch_putFrom 141 = .ok (.invokevirtual 108, 3) := by decide +kernel
theorem d_Srch_putFrom_144 : decode b_Srch_putFrom 144 = .ok (.aload_n 0, 1) := by decide +kernel
theorem d_Srch_putFrom_145 : decode b_Srch_putFrom 145 = .ok (.lload 6, 2) := by decide +kernel
theorem d_Srch_putFrom_147 : decode b_Srch_putFrom 147 = .ok (.putfield 112, 3) := by decide +kernel
theorem d_Srch_putFrom_150 : decode b_Srch_putFrom 150 = .ok (.iinc 5 1, 3) := by decide +kernel
theorem d_Srch_putFrom_153 : decode b_Srch_putFrom 153 = .ok (.goto (-123), 3) := by decide +kernel
theorem d_Srch_putFrom_156 : decode b_Srch_putFrom 156 = .ok (.return_, 1) := by decide +kernel
set_option maxRecDepth 50000 in
theorem lk_160 : Cond.methodLink R_Srch 115 y_Plan_isMade ∈ lw_good := List.mem_filter.mpr ⟨List.mem_append_right _ (List.mem_of_getElem? (i := 441) (by decide +kernel)), rfl⟩
set_option maxRecDepth 50000 in
theorem lk_161 : Cond.code y_Plan_isMade b_Plan_isMade 1 (some .boolean) ∈ lw_good := List.mem_filter.mpr ⟨List.mem_append_right _ (List.mem_of_getElem? (i := 444) rfl), rfl⟩
set_option maxRecDepth 50000 in
theorem lk_162 : Cond.instanceMethod y_Plan_isMade ∈ lw_good := List.mem_filter.mpr ⟨List.mem_append_right _ (List.mem_of_getElem? (i := 442) (by decide +kernel)), rfl⟩
set_option maxRecDepth 50000 in
theorem lk_163 : Cond.selects R_Plan y_Plan_isMade y_Plan_isMade ∈ lw_good := List.mem_filter.mpr ⟨List.mem_append_right _ (List.mem_of_getElem? (i := 443) (by decide +kernel)), rfl⟩
set_option maxRecDepth 50000 in
theorem lk_164 : Cond.fieldLinkNest R_Srch 119 "WaveOffsets$Plan" "cycle" "I" "WaveOffsets" ∈ lw_nest := List.mem_filter.mpr ⟨List.mem_append_right _ (List.mem_of_getElem? (i := 154) (by decide +kernel)), rfl⟩
set_option maxRecDepth 50000 in
theorem lk_165 : Cond.fieldLink R_Srch 112 "WaveOffsets$Search" "bestScore" "J" ∈ lw_good := List.mem_filter.mpr ⟨List.mem_append_right _ (List.mem_of_getElem? (i := 122) (by decide +kernel)), rfl⟩
set_option maxRecDepth 50000 in
theorem lk_166 : Cond.fieldLink R_Srch 77 "WaveOffsets$Search" "cycle" "I" ∈ lw_good := List.mem_filter.mpr ⟨List.mem_append_right _ (List.mem_of_getElem? (i := 118) (by decide +kernel)), rfl⟩
set_option maxRecDepth 50000 in
theorem lk_167 : Cond.methodLink R_Srch 71 y_Road_size ∈ lw_good := List.mem_filter.mpr ⟨List.mem_append_right _ (List.mem_of_getElem? (i := 338) (by decide +kernel)), rfl⟩
set_option maxRecDepth 50000 in
theorem lk_168 : Cond.fieldLink R_Srch 75 "WaveOffsets$Search" "size" "I" ∈ lw_good := List.mem_filter.mpr ⟨List.mem_append_right _ (List.mem_of_getElem? (i := 117) (by decide +kernel)), rfl⟩
set_option maxRecDepth 50000 in
theorem lk_169 : Cond.methodLink R_Srch 80 y_Road_choices ∈ lw_good := List.mem_filter.mpr ⟨List.mem_append_right _ (List.mem_of_getElem? (i := 339) (by decide +kernel)), rfl⟩
set_option maxRecDepth 50000 in
theorem lk_170 : Cond.fieldLink R_Srch 84 "WaveOffsets$Search" "choices" "I" ∈ lw_good := List.mem_filter.mpr ⟨List.mem_append_right _ (List.mem_of_getElem? (i := 119) (by decide +kernel)), rfl⟩
set_option maxRecDepth 50000 in
theorem lk_171 : Cond.methodLink R_Srch 86 y_Road_stepOf ∈ lw_good := List.mem_filter.mpr ⟨List.mem_append_right _ (List.mem_of_getElem? (i := 340) (by decide +kernel)), rfl⟩
set_option maxRecDepth 50000 in
theorem lk_172 : Cond.fieldLink R_Srch 89 "WaveOffsets$Search" "stepSeconds" "I" ∈ lw_good := List.mem_filter.mpr ⟨List.mem_append_right _ (List.mem_of_getElem? (i := 120) (by decide +kernel)), rfl⟩
set_option maxRecDepth 50000 in
theorem lk_173 : Cond.fieldLink R_Srch 29 "WaveOffsets$Search" "rowsBehind" "[J" ∈ lw_good := List.mem_filter.mpr ⟨List.mem_append_right _ (List.mem_of_getElem? (i := 116) (by decide +kernel)), rfl⟩
set_option maxRecDepth 50000 in
theorem lk_174 : Cond.methodLink R_Srch 92 y_Road_rowsBehind ∈ lw_good := List.mem_filter.mpr ⟨List.mem_append_right _ (List.mem_of_getElem? (i := 344) (by decide +kernel)), rfl⟩
set_option maxRecDepth 50000 in
theorem lk_175 : Cond.constantLong R_Srch 95 4 ∈ lw_good := List.mem_filter.mpr ⟨List.mem_append_right _ (List.mem_of_getElem? (i := 413) (by decide +kernel)), rfl⟩
set_option maxRecDepth 50000 in
theorem lk_176 : Cond.methodLinkNest R_Srch 97 y_WO_within "WaveOffsets" ∈ lw_nest := List.mem_filter.mpr ⟨List.mem_append_right _ (List.mem_of_getElem? (i := 414) (by decide +kernel)), rfl⟩
set_option maxRecDepth 50000 in
theorem lk_177 : Cond.fieldLink R_Srch 52 "WaveOffsets$Search" "rowsLeft" "J" ∈ lw_good := List.mem_filter.mpr ⟨List.mem_append_right _ (List.mem_of_getElem? (i := 121) (by decide +kernel)), rfl⟩
set_option maxRecDepth 50000 in
theorem lk_178 : Cond.fieldLink R_Srch 25 "WaveOffsets$Search" "row" "[I" ∈ lw_good := List.mem_filter.mpr ⟨List.mem_append_right _ (List.mem_of_getElem? (i := 115) (by decide +kernel)), rfl⟩
set_option maxRecDepth 50000 in
theorem lk_179 : Cond.methodLink R_Srch 101 y_Worth_put ∈ lw_good := List.mem_filter.mpr ⟨List.mem_append_right _ (List.mem_of_getElem? (i := 415) (by decide +kernel)), rfl⟩
set_option maxRecDepth 50000 in
theorem lk_180 : Cond.code y_Band_put b_Band_put 11 (some .long) ∈ lw_good := List.mem_filter.mpr ⟨List.mem_append_right _ (List.mem_of_getElem? (i := 420) rfl), rfl⟩
set_option maxRecDepth 50000 in
theorem lk_181 : Cond.sameMethod y_Worth_put.cls R_Worth y_Worth_put.name y_Worth_put.desc ∈ lw_good := List.mem_filter.mpr ⟨List.mem_append_right _ (List.mem_of_getElem? (i := 417) (by decide +kernel)), rfl⟩
set_option maxRecDepth 50000 in
theorem lk_182 : Cond.selects R_Band y_Worth_put y_Band_put ∈ lw_good := List.mem_filter.mpr ⟨List.mem_append_right _ (List.mem_of_getElem? (i := 418) (by decide +kernel)), rfl⟩
set_option maxRecDepth 50000 in
theorem lk_183 : Cond.instanceMethod y_Band_put ∈ lw_good := List.mem_filter.mpr ⟨List.mem_append_right _ (List.mem_of_getElem? (i := 419) (by decide +kernel)), rfl⟩
set_option maxRecDepth 50000 in
theorem lk_184 : Cond.declares y_Worth_put ∈ lw_nest := List.mem_filter.mpr ⟨List.mem_append_right _ (List.mem_of_getElem? (i := 416) (by decide +kernel)), rfl⟩
set_option maxRecDepth 50000 in
theorem lk_185 : Cond.methodLink R_Srch 104 y_Srch_beats ∈ lw_good := List.mem_filter.mpr ⟨List.mem_append_right _ (List.mem_of_getElem? (i := 437) (by decide +kernel)), rfl⟩
set_option maxRecDepth 50000 in
theorem lk_186 : Cond.code y_Srch_beats b_Srch_beats 4 (some .boolean) ∈ lw_good := List.mem_filter.mpr ⟨List.mem_append_right _ (List.mem_of_getElem? (i := 440) rfl), rfl⟩
set_option maxRecDepth 50000 in
theorem lk_187 : Cond.instanceMethod y_Srch_beats ∈ lw_good := List.mem_filter.mpr ⟨List.mem_append_right _ (List.mem_of_getElem? (i := 439) (by decide +kernel)), rfl⟩
set_option maxRecDepth 50000 in
theorem lk_188 : Cond.selects R_Srch y_Srch_beats y_Srch_beats ∈ lw_good := List.mem_filter.mpr ⟨List.mem_append_left _ (List.mem_of_getElem? (i := 4) (by decide +kernel)), rfl⟩
set_option maxRecDepth 50000 in
theorem lk_189 : Cond.initialized R_Srch ∈ lw_good := List.mem_filter.mpr ⟨List.mem_append_right _ (List.mem_of_getElem? (i := 3) (by decide +kernel)), rfl⟩
set_option maxRecDepth 50000 in
theorem lk_190 : Cond.methodLink R_Srch 108 y_Plan_set ∈ lw_good := List.mem_filter.mpr ⟨List.mem_append_right _ (List.mem_of_getElem? (i := 445) (by decide +kernel)), rfl⟩
set_option maxRecDepth 50000 in
theorem lk_191 : Cond.code y_Plan_set b_Plan_set 5 none ∈ lw_good := List.mem_filter.mpr ⟨List.mem_append_right _ (List.mem_of_getElem? (i := 448) rfl), rfl⟩
set_option maxRecDepth 50000 in
theorem lk_192 : Cond.instanceMethod y_Plan_set ∈ lw_good := List.mem_filter.mpr ⟨List.mem_append_right _ (List.mem_of_getElem? (i := 446) (by decide +kernel)), rfl⟩
set_option maxRecDepth 50000 in
theorem lk_193 : Cond.selects R_Plan y_Plan_set y_Plan_set ∈ lw_good := List.mem_filter.mpr ⟨List.mem_append_right _ (List.mem_of_getElem? (i := 447) (by decide +kernel)), rfl⟩
set_option maxRecDepth 50000 in
theorem lk_194 : Cond.methodLink R_Srch 67 y_Srch_putFrom ∈ lw_good := List.mem_filter.mpr ⟨List.mem_append_right _ (List.mem_of_getElem? (i := 409) (by decide +kernel)), rfl⟩
set_option maxRecDepth 50000 in
theorem lk_195 : Cond.code y_Srch_putFrom b_Srch_putFrom 8 none ∈ lw_good := List.mem_filter.mpr ⟨List.mem_append_right _ (List.mem_of_getElem? (i := 412) rfl), rfl⟩
set_option maxRecDepth 50000 in
theorem lk_196 : Cond.instanceMethod y_Srch_putFrom ∈ lw_good := List.mem_filter.mpr ⟨List.mem_append_right _ (List.mem_of_getElem? (i := 411) (by decide +kernel)), rfl⟩
set_option maxRecDepth 50000 in
theorem lk_197 : Cond.selects R_Srch y_Srch_putFrom y_Srch_putFrom ∈ lw_good := List.mem_filter.mpr ⟨List.mem_append_left _ (List.mem_of_getElem? (i := 3) (by decide +kernel)), rfl⟩
set_option maxRecDepth 50000 in
theorem lk_198 : Cond.code y_Stop_put b_Stop_put 4 (some .long) ∈ lw_good := List.mem_filter.mpr ⟨List.mem_append_right _ (List.mem_of_getElem? (i := 432) rfl), rfl⟩
set_option maxRecDepth 50000 in
theorem lk_199 : Cond.selects R_Stop y_Worth_put y_Stop_put ∈ lw_good := List.mem_filter.mpr ⟨List.mem_append_right _ (List.mem_of_getElem? (i := 430) (by decide +kernel)), rfl⟩
set_option maxRecDepth 50000 in
theorem lk_200 : Cond.instanceMethod y_Stop_put ∈ lw_good := List.mem_filter.mpr ⟨List.mem_append_right _ (List.mem_of_getElem? (i := 431) (by decide +kernel)), rfl⟩
set_option maxRecDepth 50000 in
theorem lk_201 : Cond.initialized R_Stop ∈ lw_good := List.mem_filter.mpr ⟨List.mem_append_right _ (List.mem_of_getElem? (i := 6) (by decide +kernel)), rfl⟩
def p_Srch_beats (n : Nat) (x1 : Int64) (v_u3_cycle : Int32) (v_t_bestScore : Int64) (v_t_cycle : Int32) : Option (Int32) :=
  (p_Plan_isMade n v_u3_cycle).bind fun r1_1 =>
  if r1_1 = 0 then
    some (1 : Int32)
  else
    if (lg_cmp (x1 * v_u3_cycle.toInt64) (v_t_bestScore * v_t_cycle.toInt64)) ≤ 0 then
      some (0 : Int32)
    else
      some (1 : Int32)
abbrev m_Srch_beats : Room := { frames := 1, cells := 0, slots := 0, locals := 20 }
set_option maxHeartbeats 4000000 in
set_option maxRecDepth 100000 in
theorem c_Srch_beats (l : Launch) (G : va_G) (K : Nat → ClassId) (n : Nat) (t : Nat) (t_bandWorth : Nat) (t_stopWorth : Nat) (t_row : Nat) (t_rowsBehind : Nat) (u3 : Nat) (u3_offsets : Nat) (x1 : Int64) (v_t_size : Int32) (v_t_cycle : Int32) (v_t_choices : Int32) (v_t_stepSeconds : Int32) (v_t_rowsLeft : Int64) (v_t_bestScore : Int64) (v_u3_cycle : Int32) (v_u3_size : Int32) (v_u3_aim : Int32) (v_u3_sawAll : Int32) (o : Int32) (hF : p_Srch_beats n x1 v_u3_cycle v_t_bestScore v_t_cycle = some o) :
    Met l y_Srch_beats (wd y_Srch_beats b_Srch_beats 4 (some .boolean)) m_Srch_beats (dk_Pp [.ref t, .long x1, .ref u3] G K [(t, .inr (5, [.ref t_bandWorth, .ref t_stopWorth, .ref t_row, .ref t_rowsBehind, .int v_t_size, .int v_t_cycle, .int v_t_choices, .int v_t_stepSeconds, .long v_t_rowsLeft, .long v_t_bestScore])), (u3, .inr (2, [.ref u3_offsets, .int v_u3_cycle, .int v_u3_size, .int v_u3_aim, .int v_u3_sawAll]))]) (dk_Qp (some (.int o))) 0 0 (fun _ => False) := by
  refine Met.ofW (cc := b_Srch_beats) (maxL := 4) (ret := (some .boolean)) (by decide) rfl ?_
  intro p e s m args below meth c s₁ B hml hv
  obtain ⟨rfl, hP, hK, hN⟩ := hv
  have hx := B.exec
  have hb := B.bytes
  have hr := B.returns
  have hts : ∀ w ∈ lw_good, w.before _ s = true := fun w h => atoms_spec (ws := wd y_Srch_beats b_Srch_beats 4 (some .boolean)) B.pre w (List.mem_cons_of_mem _ h)
  have hown : s.vm.findClass R_Srch = some m.cls := findClass_of_methodNamed B.named
  have hlocks := B.notSynchronized
  have hfix : CallFix p m c b_Srch_beats 4 s _ lw_good R_Srch := ⟨hx, hb, hml, hown, hts⟩
  have hl := lv_entry ([.ref t, .long x1, .ref u3]) (n := 4) (Nat.le_of_ble_eq_true rfl)
  rw [lg_entry_eq]
  generalize (lg_sl ([.ref t, .long x1, .ref u3]) ++ List.replicate (4 - (lg_sl ([.ref t, .long x1, .ref u3])).length) Slot.unset).toArray = ls at hl ⊢
  have hl : lv_has ls 4 [(0, .ref t), (1, .long x1), (3, .ref u3)] := hl
  change W p l e m_Srch_beats s m _ below meth c s.heap [] 0 0 _ _
  unfold p_Srch_beats at hF
  refine lv_aload_n hx hb d_Srch_beats_0 rfl (lv_at hl 2 rfl) ?_
  obtain ⟨r1_1, hC, hF⟩ := dk_b hF
  refine dk_pure (va_runV (As := []) (rest := []) hfix (c_Plan_isMade l G K n u3 u3_offsets v_u3_cycle v_u3_size v_u3_aim v_u3_sawAll r1_1 hC) (cwV 0 hts (gd_V lk_160 lk_162 lk_163 lk_94 lk_161) rfl rfl rfl (by decide +kernel) ⟨Nat.le_of_ble_eq_true rfl, Nat.le_of_ble_eq_true rfl⟩) (dk_preV hK hN (hP.sub [1] rfl) (va_recv hK hP (ci := 2) (q0 := 1) rfl rfl)) rfl rfl hl.1 rfl (lv_room (Nat.le_of_ble_eq_true rfl)) d_Srch_beats_1 ⟨Nat.le_of_ble_eq_true rfl, Nat.le_of_ble_eq_true rfl⟩) ?_
  refine lv_if_eq (tgt := 28) hx hb d_Srch_beats_4 (by decide) (fun c4_2 => ?_) (fun c4_2 => ?_)
  · have hF := dk_t c4_2 hF
    refine lv_iconst (v := (1 : Int32)) hx hb d_Srch_beats_28 (by decide) ?_
    refine lv_goto (tgt := 33) hx hb d_Srch_beats_29 (by decide) ?_
    obtain rfl := Option.some.inj hF
    exact W.zret (v := (1 : Int32)) hx hb hr rfl (fun t ht hW => ⟨rfl, ht⟩) (fun _ h => by cases h) d_Srch_beats_33
  · have hF := dk_f c4_2 hF
    refine lv_lload_n hx hb d_Srch_beats_7 rfl (lv_at hl 1 rfl) ?_
    refine lv_aload_n hx hb d_Srch_beats_8 rfl (lv_at hl 2 rfl) ?_
    refine va_getN (D := G) (ci := 2) (v := .int v_u3_cycle) (C := R_Plan) (T := F_Plan) (N := 5) hx hb hts i_Plan hown hK hP 1 rfl rfl 1 (by decide) (va_Nw.use rfl (hN.1 _ lk_164)) (fun _ h9 => h9) rfl d_Srch_beats_9 ?_
    refine lv_i2l hx hb d_Srch_beats_12 rfl ?_
    refine lv_lmul hx hb d_Srch_beats_13 ?_
    refine lv_aload_n hx hb d_Srch_beats_14 rfl (lv_at hl 0 rfl) ?_
    refine va_get (D := G) (ci := 5) (v := .long v_t_bestScore) (C := R_Srch) (T := F_Srch) (N := 10) hx hb hts i_Srch hown hK hP 0 rfl rfl 9 (by decide) (hts _ lk_165) (fun _ h9 => h9) rfl d_Srch_beats_15 ?_
    refine lv_aload_n hx hb d_Srch_beats_18 rfl (lv_at hl 0 rfl) ?_
    refine va_get (D := G) (ci := 5) (v := .int v_t_cycle) (C := R_Srch) (T := F_Srch) (N := 10) hx hb hts i_Srch hown hK hP 0 rfl rfl 5 (by decide) (hts _ lk_166) (fun _ h9 => h9) rfl d_Srch_beats_19 ?_
    refine lv_i2l hx hb d_Srch_beats_22 rfl ?_
    refine lv_lmul hx hb d_Srch_beats_23 ?_
    refine W.lcmp hx hb d_Srch_beats_24 ?_
    refine lv_if_le (tgt := 32) hx hb d_Srch_beats_25 (by decide) (fun c25_3 => ?_) (fun c25_3 => ?_)
    · have hF := dk_t c25_3 hF
      refine lv_iconst (v := (0 : Int32)) hx hb d_Srch_beats_32 (by decide) ?_
      obtain rfl := Option.some.inj hF
      exact W.zret (v := (0 : Int32)) hx hb hr rfl (fun t ht hW => ⟨rfl, ht⟩) (fun _ h => by cases h) d_Srch_beats_33
    · have hF := dk_f c25_3 hF
      refine lv_iconst (v := (1 : Int32)) hx hb d_Srch_beats_28 (by decide) ?_
      refine lv_goto (tgt := 33) hx hb d_Srch_beats_29 (by decide) ?_
      obtain rfl := Option.some.inj hF
      exact W.zret (v := (1 : Int32)) hx hb hr rfl (fun t ht hW => ⟨rfl, ht⟩) (fun _ h => by cases h) d_Srch_beats_33
def p_Srch_begin_32 (n : Nat) : Nat → Int32 → Int32 → Int32 → Int32 → (Nat → Int64) → Option ((Nat → Int64))
  | 0, _, _, _, _, _ => none
  | k + 1, v_u1_size, v_u1_stepSeconds, z2, z3, v_t_rowsBehind =>
    if (5 : Int32) ≤ z3 then
      some v_t_rowsBehind
    else
      (p_Road_rowsBehind n z3 z2 v_u1_size v_u1_stepSeconds).bind fun r45_5 =>
      if dk_in z3 5 = true then
        p_Srch_begin_32 n k v_u1_size v_u1_stepSeconds z2 (z3 + (1 : Int32)) (vp_updL v_t_rowsBehind z3.toNatClampNeg r45_5)
      else none
theorem q_Srch_begin_32 (n k : Nat) (v_u1_size : Int32) (v_u1_stepSeconds : Int32) (z2 : Int32) (z3 : Int32) (v_t_rowsBehind : Nat → Int64) : p_Srch_begin_32 n (k + 1) v_u1_size v_u1_stepSeconds z2 z3 v_t_rowsBehind =
    if (5 : Int32) ≤ z3 then
      some v_t_rowsBehind
    else
      (p_Road_rowsBehind n z3 z2 v_u1_size v_u1_stepSeconds).bind fun r45_5 =>
      if dk_in z3 5 = true then
        p_Srch_begin_32 n k v_u1_size v_u1_stepSeconds z2 (z3 + (1 : Int32)) (vp_updL v_t_rowsBehind z3.toNatClampNeg r45_5)
      else none := rfl
def p_Srch_begin (n : Nat) (x2 : Int32) (v_u1_size : Int32) (v_u1_stepSeconds : Int32) (v_t_size : Int32) (v_t_cycle : Int32) (v_t_choices : Int32) (v_t_stepSeconds : Int32) (v_t_rowsBehind : Nat → Int64) : Option (Int32 × Int32 × Int32 × Int32 × (Nat → Int64)) :=
  (p_Road_size n v_u1_size).bind fun r2_1 =>
  (p_Road_choices n x2 v_u1_stepSeconds).bind fun r16_2 =>
  (p_Road_stepOf n v_u1_stepSeconds).bind fun r24_3 =>
  (p_Srch_begin_32 n n v_u1_size v_u1_stepSeconds x2 (0 : Int32) v_t_rowsBehind).bind fun q32_6 =>
  some (r2_1, x2, r16_2, r24_3, q32_6)
abbrev m_Srch_begin : Room := { frames := 2, cells := 0, slots := 0, locals := 46 }
set_option maxHeartbeats 4000000 in
set_option maxRecDepth 100000 in
theorem c_Srch_begin (l : Launch) (G : va_G) (K : Nat → ClassId) (n : Nat) (sz : Nat) (t : Nat) (t_bandWorth : Nat) (t_stopWorth : Nat) (t_row : Nat) (t_rowsBehind : Nat) (u1 : Nat) (u1_greens : Nat) (u1_leasts : Nat) (u1_queues : Nat) (u1_seconds : Nat) (u1_weights : Nat) (x2 : Int32) (v_t_size : Int32) (v_t_cycle : Int32) (v_t_choices : Int32) (v_t_stepSeconds : Int32) (v_t_rowsLeft : Int64) (v_t_bestScore : Int64) (v_t_rowsBehind : Nat → Int64) (v_u1_size : Int32) (v_u1_firstCycle : Int32) (v_u1_lastCycle : Int32) (v_u1_cycleBy : Int32) (v_u1_stepSeconds : Int32) (o : Int32 × Int32 × Int32 × Int32 × (Nat → Int64)) (hF : p_Srch_begin n x2 v_u1_size v_u1_stepSeconds v_t_size v_t_cycle v_t_choices v_t_stepSeconds v_t_rowsBehind = some o) :
    Met l y_Srch_begin (wd y_Srch_begin b_Srch_begin 4 none) m_Srch_begin (dk_Pm [.ref t, .ref u1, .int x2] G K [(t, .inr (5, [.ref t_bandWorth, .ref t_stopWorth, .ref t_row, .ref t_rowsBehind, .int v_t_size, .int v_t_cycle, .int v_t_choices, .int v_t_stepSeconds, .long v_t_rowsLeft, .long v_t_bestScore])), (t_rowsBehind, .inl (K 1, 5, .inr (.inl v_t_rowsBehind))), (u1, .inr (1, [.ref u1_greens, .ref u1_leasts, .ref u1_queues, .ref u1_seconds, .ref u1_weights, .int v_u1_size, .int v_u1_firstCycle, .int v_u1_lastCycle, .int v_u1_cycleBy, .int v_u1_stepSeconds]))] sz) (dk_Qm none G (fun _ : Unit => [(t, .inr (5, [.ref t_bandWorth, .ref t_stopWorth, .ref t_row, .ref t_rowsBehind, .int o.1, .int o.2.1, .int o.2.2.1, .int o.2.2.2.1, .long v_t_rowsLeft, .long v_t_bestScore])), (t_rowsBehind, .inl (K 1, 5, .inr (.inl o.2.2.2.2))), (u1, .inr (1, [.ref u1_greens, .ref u1_leasts, .ref u1_queues, .ref u1_seconds, .ref u1_weights, .int v_u1_size, .int v_u1_firstCycle, .int v_u1_lastCycle, .int v_u1_cycleBy, .int v_u1_stepSeconds]))]) (va_A [(t, .inr (5, [.ref t_bandWorth, .ref t_stopWorth, .ref t_row, .ref t_rowsBehind, .int v_t_size, .int v_t_cycle, .int v_t_choices, .int v_t_stepSeconds, .long v_t_rowsLeft, .long v_t_bestScore])), (t_rowsBehind, .inl (K 1, 5, .inr (.inl v_t_rowsBehind))), (u1, .inr (1, [.ref u1_greens, .ref u1_leasts, .ref u1_queues, .ref u1_seconds, .ref u1_weights, .int v_u1_size, .int v_u1_firstCycle, .int v_u1_lastCycle, .int v_u1_cycleBy, .int v_u1_stepSeconds]))] sz)) 0 0 (va_A [(t, .inr (5, [.ref t_bandWorth, .ref t_stopWorth, .ref t_row, .ref t_rowsBehind, .int v_t_size, .int v_t_cycle, .int v_t_choices, .int v_t_stepSeconds, .long v_t_rowsLeft, .long v_t_bestScore])), (t_rowsBehind, .inl (K 1, 5, .inr (.inl v_t_rowsBehind))), (u1, .inr (1, [.ref u1_greens, .ref u1_leasts, .ref u1_queues, .ref u1_seconds, .ref u1_weights, .int v_u1_size, .int v_u1_firstCycle, .int v_u1_lastCycle, .int v_u1_cycleBy, .int v_u1_stepSeconds]))] sz) := by
  refine Met.ofW (cc := b_Srch_begin) (maxL := 4) (ret := none) (by decide) rfl ?_
  intro p e s m args below meth c s₁ B hml hv
  obtain ⟨rfl, hsz, hP, hK, hN, hD0⟩ := hv
  have hx := B.exec
  have hb := B.bytes
  have hr := B.returns
  have hts : ∀ w ∈ lw_good, w.before _ s = true := fun w h => atoms_spec (ws := wd y_Srch_begin b_Srch_begin 4 none) B.pre w (List.mem_cons_of_mem _ h)
  have hown : s.vm.findClass R_Srch = some m.cls := findClass_of_methodNamed B.named
  have hlocks := B.notSynchronized
  have hfix : CallFix p m c b_Srch_begin 4 s _ lw_good R_Srch := ⟨hx, hb, hml, hown, hts⟩
  subst hsz
  have hD := hD0.self (sz := s.heap.size)
  generalize hAe : va_A [(t, .inr (5, [.ref t_bandWorth, .ref t_stopWorth, .ref t_row, .ref t_rowsBehind, .int v_t_size, .int v_t_cycle, .int v_t_choices, .int v_t_stepSeconds, .long v_t_rowsLeft, .long v_t_bestScore])), (t_rowsBehind, .inl (K 1, 5, .inr (.inl v_t_rowsBehind))), (u1, .inr (1, [.ref u1_greens, .ref u1_leasts, .ref u1_queues, .ref u1_seconds, .ref u1_weights, .int v_u1_size, .int v_u1_firstCycle, .int v_u1_lastCycle, .int v_u1_cycleBy, .int v_u1_stepSeconds]))] s.heap.size = A at hD ⊢
  have hA : ∀ q : Nat, s.heap.size ≤ q → A q := fun q h => by rw [← hAe]; exact Or.inr h
  have hS : va_S A s.heap s.heap [] := va_S.rf
  have hl := lv_entry ([.ref t, .ref u1, .int x2]) (n := 4) (Nat.le_of_ble_eq_true rfl)
  rw [lg_entry_eq]
  generalize (lg_sl ([.ref t, .ref u1, .int x2]) ++ List.replicate (4 - (lg_sl ([.ref t, .ref u1, .int x2])).length) Slot.unset).toArray = ls at hl ⊢
  have hl : lv_has ls 4 [(0, .ref t), (1, .ref u1), (2, .int x2)] := hl
  change W p l e m_Srch_begin s m _ below meth c s.heap [] 0 0 _ _
  have L32 : ∀ (k : Nat) (z2 : Int32) (z3 : Int32) (v_t_size : Int32) (v_t_cycle : Int32) (v_t_choices : Int32) (v_t_stepSeconds : Int32) (v_t_rowsBehind : Nat → Int64) (H : Heap) (locs : List Loc) (q : (Nat → Int64)), p_Srch_begin_32 n k v_u1_size v_u1_stepSeconds z2 z3 v_t_rowsBehind = some q → va_P G classes [(t, .inr (5, [.ref t_bandWorth, .ref t_stopWorth, .ref t_row, .ref t_rowsBehind, .int v_t_size, .int v_t_cycle, .int v_t_choices, .int v_t_stepSeconds, .long v_t_rowsLeft, .long v_t_bestScore])), (t_rowsBehind, .inl (K 1, 5, .inr (.inl v_t_rowsBehind))), (u1, .inr (1, [.ref u1_greens, .ref u1_leasts, .ref u1_queues, .ref u1_seconds, .ref u1_weights, .int v_u1_size, .int v_u1_firstCycle, .int v_u1_lastCycle, .int v_u1_cycleBy, .int v_u1_stepSeconds]))] H → va_D A [(t, .inr (5, [.ref t_bandWorth, .ref t_stopWorth, .ref t_row, .ref t_rowsBehind, .int v_t_size, .int v_t_cycle, .int v_t_choices, .int v_t_stepSeconds, .long v_t_rowsLeft, .long v_t_bestScore])), (t_rowsBehind, .inl (K 1, 5, .inr (.inl v_t_rowsBehind))), (u1, .inr (1, [.ref u1_greens, .ref u1_leasts, .ref u1_queues, .ref u1_seconds, .ref u1_weights, .int v_u1_size, .int v_u1_firstCycle, .int v_u1_lastCycle, .int v_u1_cycleBy, .int v_u1_stepSeconds]))] → va_S A s.heap H locs → ∀ ls : Array Slot, lv_has ls 4 [(0, .ref t), (1, .ref u1), (2, .int z2), (3, .int z3)] → (∀ (H1 : Heap) (locs1 : List Loc) (ls1 : Array Slot), va_P G classes [(t, .inr (5, [.ref t_bandWorth, .ref t_stopWorth, .ref t_row, .ref t_rowsBehind, .int v_t_size, .int v_t_cycle, .int v_t_choices, .int v_t_stepSeconds, .long v_t_rowsLeft, .long v_t_bestScore])), (t_rowsBehind, .inl (K 1, 5, .inr (.inl q))), (u1, .inr (1, [.ref u1_greens, .ref u1_leasts, .ref u1_queues, .ref u1_seconds, .ref u1_weights, .int v_u1_size, .int v_u1_firstCycle, .int v_u1_lastCycle, .int v_u1_cycleBy, .int v_u1_stepSeconds]))] H1 → va_D A [(t, .inr (5, [.ref t_bandWorth, .ref t_stopWorth, .ref t_row, .ref t_rowsBehind, .int v_t_size, .int v_t_cycle, .int v_t_choices, .int v_t_stepSeconds, .long v_t_rowsLeft, .long v_t_bestScore])), (t_rowsBehind, .inl (K 1, 5, .inr (.inl q))), (u1, .inr (1, [.ref u1_greens, .ref u1_leasts, .ref u1_queues, .ref u1_seconds, .ref u1_weights, .int v_u1_size, .int v_u1_firstCycle, .int v_u1_lastCycle, .int v_u1_cycleBy, .int v_u1_stepSeconds]))] → va_S A s.heap H1 locs1 → lv_has ls1 4 [] → W p l e m_Srch_begin s m ([.ref t, .ref u1, .int x2] : List Value).toArray below meth c H1 locs1 0 0 (MQ below (dk_Qm none G (fun _ : Unit => [(t, .inr (5, [.ref t_bandWorth, .ref t_stopWorth, .ref t_row, .ref t_rowsBehind, .int o.1, .int o.2.1, .int o.2.2.1, .int o.2.2.2.1, .long v_t_rowsLeft, .long v_t_bestScore])), (t_rowsBehind, .inl (K 1, 5, .inr (.inl o.2.2.2.2))), (u1, .inr (1, [.ref u1_greens, .ref u1_leasts, .ref u1_queues, .ref u1_seconds, .ref u1_weights, .int v_u1_size, .int v_u1_firstCycle, .int v_u1_lastCycle, .int v_u1_cycleBy, .int v_u1_stepSeconds]))]) A) ([.ref t, .ref u1, .int x2] : List Value).toArray s 0 0 A) (F0 m 55 ls1 [])) → W p l e m_Srch_begin s m ([.ref t, .ref u1, .int x2] : List Value).toArray below meth c H locs 0 0 (MQ below (dk_Qm none G (fun _ : Unit => [(t, .inr (5, [.ref t_bandWorth, .ref t_stopWorth, .ref t_row, .ref t_rowsBehind, .int o.1, .int o.2.1, .int o.2.2.1, .int o.2.2.2.1, .long v_t_rowsLeft, .long v_t_bestScore])), (t_rowsBehind, .inl (K 1, 5, .inr (.inl o.2.2.2.2))), (u1, .inr (1, [.ref u1_greens, .ref u1_leasts, .ref u1_queues, .ref u1_seconds, .ref u1_weights, .int v_u1_size, .int v_u1_firstCycle, .int v_u1_lastCycle, .int v_u1_cycleBy, .int v_u1_stepSeconds]))]) A) ([.ref t, .ref u1, .int x2] : List Value).toArray s 0 0 A) (F0 m 32 ls []) := by
    intro k
    induction k with
    | zero =>
      intro z2 z3 v_t_size v_t_cycle v_t_choices v_t_stepSeconds v_t_rowsBehind H locs q hF hP hD hS ls hl hk
      exact absurd hF (by simp [p_Srch_begin_32])
    | succ k jh =>
      intro z2 z3 v_t_size v_t_cycle v_t_choices v_t_stepSeconds v_t_rowsBehind H locs q hF hP hD hS ls hl hk
      have hF := (q_Srch_begin_32 n k v_u1_size v_u1_stepSeconds z2 z3 v_t_rowsBehind).symm.trans hF
      refine lv_iload_n hx hb d_Srch_begin_32 rfl (lv_at hl 3 rfl) ?_
      refine lv_iconst (v := (5 : Int32)) hx hb d_Srch_begin_33 (by decide) ?_
      refine lv_icmp_ge (tgt := 55) hx hb d_Srch_begin_34 (by decide) (fun c34_4 => ?_) (fun c34_4 => ?_)
      · have hF := dk_t c34_4 hF
        obtain rfl := Option.some.inj hF
        exact hk H locs ls hP hD hS (lv_sub hl [] rfl)
      · have hF := dk_f c34_4 hF
        refine lv_aload_n hx hb d_Srch_begin_37 rfl (lv_at hl 0 rfl) ?_
        refine va_get (D := G) (ci := 5) (v := .ref t_rowsBehind) (C := R_Srch) (T := F_Srch) (N := 10) hx hb hts i_Srch hown hK hP 0 rfl rfl 3 (by decide) (hts _ lk_173) (fun _ h9 => h9) rfl d_Srch_begin_38 ?_
        refine lv_iload_n hx hb d_Srch_begin_41 rfl (lv_at hl 3 rfl) ?_
        refine lv_aload_n hx hb d_Srch_begin_42 rfl (lv_at hl 1 rfl) ?_
        refine lv_iload_n hx hb d_Srch_begin_43 rfl (lv_at hl 3 rfl) ?_
        refine lv_iload_n hx hb d_Srch_begin_44 rfl (lv_at hl 2 rfl) ?_
        obtain ⟨r45_5, hC, hF⟩ := dk_b hF
        refine dk_pure (va_runV (As := [.int z3, .int z2]) (rest := [.int z3, .ref t_rowsBehind]) hfix (c_Road_rowsBehind l G K n u1 u1_greens u1_leasts u1_queues u1_seconds u1_weights z3 z2 v_u1_size v_u1_firstCycle v_u1_lastCycle v_u1_cycleBy v_u1_stepSeconds r45_5 hC) (cwV 2 hts (gd_V lk_174 lk_72 lk_73 lk_29 lk_71) rfl rfl rfl (by decide +kernel) ⟨Nat.le_of_ble_eq_true rfl, Nat.le_of_ble_eq_true rfl⟩) (dk_preV hK hN (hP.sub [2] rfl) (va_recv hK hP (ci := 1) (q0 := 2) rfl rfl)) rfl rfl hl.1 rfl (lv_room (Nat.le_of_ble_eq_true rfl)) d_Srch_begin_45 ⟨Nat.le_of_ble_eq_true rfl, Nat.le_of_ble_eq_true rfl⟩) ?_
        obtain ⟨hi, hF⟩ := dk_a hF
        refine va_last (D := G) hx hb hK hP hD hS 1 1 rfl rfl (dk_vp hi) d_Srch_begin_48 (fun H locs hP hD hS => ?_)
        have hP : va_P G classes [(t, .inr (5, [.ref t_bandWorth, .ref t_stopWorth, .ref t_row, .ref t_rowsBehind, .int v_t_size, .int v_t_cycle, .int v_t_choices, .int v_t_stepSeconds, .long v_t_rowsLeft, .long v_t_bestScore])), (t_rowsBehind, .inl (K 1, 5, .inr (.inl (vp_updL v_t_rowsBehind z3.toNatClampNeg r45_5)))), (u1, .inr (1, [.ref u1_greens, .ref u1_leasts, .ref u1_queues, .ref u1_seconds, .ref u1_weights, .int v_u1_size, .int v_u1_firstCycle, .int v_u1_lastCycle, .int v_u1_cycleBy, .int v_u1_stepSeconds]))] H := hP
        have hD : va_D A [(t, .inr (5, [.ref t_bandWorth, .ref t_stopWorth, .ref t_row, .ref t_rowsBehind, .int v_t_size, .int v_t_cycle, .int v_t_choices, .int v_t_stepSeconds, .long v_t_rowsLeft, .long v_t_bestScore])), (t_rowsBehind, .inl (K 1, 5, .inr (.inl (vp_updL v_t_rowsBehind z3.toNatClampNeg r45_5)))), (u1, .inr (1, [.ref u1_greens, .ref u1_leasts, .ref u1_queues, .ref u1_seconds, .ref u1_weights, .int v_u1_size, .int v_u1_firstCycle, .int v_u1_lastCycle, .int v_u1_cycleBy, .int v_u1_stepSeconds]))] := hD
        refine lv_iinc (v := z3 + (1 : Int32)) (lv' := [(3, .int (z3 + (1 : Int32))), (0, .ref t), (1, .ref u1), (2, .int z2)]) hx hb d_Srch_begin_49 hl (k := 3) rfl rfl (by decide) rfl (fun ls hl => ?_)
        refine lv_goto (tgt := 32) hx hb d_Srch_begin_52 (by decide) ?_
        exact jh z2 (z3 + (1 : Int32)) v_t_size v_t_cycle v_t_choices v_t_stepSeconds (vp_updL v_t_rowsBehind z3.toNatClampNeg r45_5) H locs q hF hP hD hS ls (lv_sub hl [1, 2, 3, 0] rfl) hk
  unfold p_Srch_begin at hF
  refine lv_aload_n hx hb d_Srch_begin_0 rfl (lv_at hl 0 rfl) ?_
  refine lv_aload_n hx hb d_Srch_begin_1 rfl (lv_at hl 1 rfl) ?_
  obtain ⟨r2_1, hC, hF⟩ := dk_b hF
  refine dk_pure (va_runV (As := []) (rest := [.ref t]) hfix (c_Road_size l G K n u1 u1_greens u1_leasts u1_queues u1_seconds u1_weights v_u1_size v_u1_firstCycle v_u1_lastCycle v_u1_cycleBy v_u1_stepSeconds r2_1 hC) (cwV 0 hts (gd_V lk_167 lk_127 lk_128 lk_29 lk_126) rfl rfl rfl (by decide +kernel) ⟨Nat.le_of_ble_eq_true rfl, Nat.le_of_ble_eq_true rfl⟩) (dk_preV hK hN (hP.sub [2] rfl) (va_recv hK hP (ci := 1) (q0 := 2) rfl rfl)) rfl rfl hl.1 rfl (lv_room (Nat.le_of_ble_eq_true rfl)) d_Srch_begin_2 ⟨Nat.le_of_ble_eq_true rfl, Nat.le_of_ble_eq_true rfl⟩) ?_
  refine va_put (D := G) (ci := 5) (v := .int r2_1) (ty := .int) (C := R_Srch) (T := F_Srch) (N := 10) hx hb hts i_Srch t_Srch t_Srch_ok n_Srch hown hK hP hD hS 0 rfl rfl 4 (by decide) (hts _ lk_168) (fun _ h9 => h9) rfl (by decide +kernel) rfl rfl (Nat.le_of_ble_eq_true rfl) d_Srch_begin_5 (fun H locs hP hD hS => ?_)
  have hP : va_P G classes [(t, .inr (5, [.ref t_bandWorth, .ref t_stopWorth, .ref t_row, .ref t_rowsBehind, .int r2_1, .int v_t_cycle, .int v_t_choices, .int v_t_stepSeconds, .long v_t_rowsLeft, .long v_t_bestScore])), (t_rowsBehind, .inl (K 1, 5, .inr (.inl v_t_rowsBehind))), (u1, .inr (1, [.ref u1_greens, .ref u1_leasts, .ref u1_queues, .ref u1_seconds, .ref u1_weights, .int v_u1_size, .int v_u1_firstCycle, .int v_u1_lastCycle, .int v_u1_cycleBy, .int v_u1_stepSeconds]))] H := hP
  have hD : va_D A [(t, .inr (5, [.ref t_bandWorth, .ref t_stopWorth, .ref t_row, .ref t_rowsBehind, .int r2_1, .int v_t_cycle, .int v_t_choices, .int v_t_stepSeconds, .long v_t_rowsLeft, .long v_t_bestScore])), (t_rowsBehind, .inl (K 1, 5, .inr (.inl v_t_rowsBehind))), (u1, .inr (1, [.ref u1_greens, .ref u1_leasts, .ref u1_queues, .ref u1_seconds, .ref u1_weights, .int v_u1_size, .int v_u1_firstCycle, .int v_u1_lastCycle, .int v_u1_cycleBy, .int v_u1_stepSeconds]))] := hD
  refine lv_aload_n hx hb d_Srch_begin_8 rfl (lv_at hl 0 rfl) ?_
  refine lv_iload_n hx hb d_Srch_begin_9 rfl (lv_at hl 2 rfl) ?_
  refine va_put (D := G) (ci := 5) (v := .int x2) (ty := .int) (C := R_Srch) (T := F_Srch) (N := 10) hx hb hts i_Srch t_Srch t_Srch_ok n_Srch hown hK hP hD hS 0 rfl rfl 5 (by decide) (hts _ lk_166) (fun _ h9 => h9) rfl (by decide +kernel) rfl rfl (Nat.le_of_ble_eq_true rfl) d_Srch_begin_10 (fun H locs hP hD hS => ?_)
  have hP : va_P G classes [(t, .inr (5, [.ref t_bandWorth, .ref t_stopWorth, .ref t_row, .ref t_rowsBehind, .int r2_1, .int x2, .int v_t_choices, .int v_t_stepSeconds, .long v_t_rowsLeft, .long v_t_bestScore])), (t_rowsBehind, .inl (K 1, 5, .inr (.inl v_t_rowsBehind))), (u1, .inr (1, [.ref u1_greens, .ref u1_leasts, .ref u1_queues, .ref u1_seconds, .ref u1_weights, .int v_u1_size, .int v_u1_firstCycle, .int v_u1_lastCycle, .int v_u1_cycleBy, .int v_u1_stepSeconds]))] H := hP
  have hD : va_D A [(t, .inr (5, [.ref t_bandWorth, .ref t_stopWorth, .ref t_row, .ref t_rowsBehind, .int r2_1, .int x2, .int v_t_choices, .int v_t_stepSeconds, .long v_t_rowsLeft, .long v_t_bestScore])), (t_rowsBehind, .inl (K 1, 5, .inr (.inl v_t_rowsBehind))), (u1, .inr (1, [.ref u1_greens, .ref u1_leasts, .ref u1_queues, .ref u1_seconds, .ref u1_weights, .int v_u1_size, .int v_u1_firstCycle, .int v_u1_lastCycle, .int v_u1_cycleBy, .int v_u1_stepSeconds]))] := hD
  refine lv_aload_n hx hb d_Srch_begin_13 rfl (lv_at hl 0 rfl) ?_
  refine lv_aload_n hx hb d_Srch_begin_14 rfl (lv_at hl 1 rfl) ?_
  refine lv_iload_n hx hb d_Srch_begin_15 rfl (lv_at hl 2 rfl) ?_
  obtain ⟨r16_2, hC, hF⟩ := dk_b hF
  refine dk_pure (va_runV (As := [.int x2]) (rest := [.ref t]) hfix (c_Road_choices l G K n u1 u1_greens u1_leasts u1_queues u1_seconds u1_weights x2 v_u1_size v_u1_firstCycle v_u1_lastCycle v_u1_cycleBy v_u1_stepSeconds r16_2 hC) (cwV 1 hts (gd_V lk_169 lk_68 lk_69 lk_29 lk_67) rfl rfl rfl (by decide +kernel) ⟨Nat.le_of_ble_eq_true rfl, Nat.le_of_ble_eq_true rfl⟩) (dk_preV hK hN (hP.sub [2] rfl) (va_recv hK hP (ci := 1) (q0 := 2) rfl rfl)) rfl rfl hl.1 rfl (lv_room (Nat.le_of_ble_eq_true rfl)) d_Srch_begin_16 ⟨Nat.le_of_ble_eq_true rfl, Nat.le_of_ble_eq_true rfl⟩) ?_
  refine va_put (D := G) (ci := 5) (v := .int r16_2) (ty := .int) (C := R_Srch) (T := F_Srch) (N := 10) hx hb hts i_Srch t_Srch t_Srch_ok n_Srch hown hK hP hD hS 0 rfl rfl 6 (by decide) (hts _ lk_170) (fun _ h9 => h9) rfl (by decide +kernel) rfl rfl (Nat.le_of_ble_eq_true rfl) d_Srch_begin_19 (fun H locs hP hD hS => ?_)
  have hP : va_P G classes [(t, .inr (5, [.ref t_bandWorth, .ref t_stopWorth, .ref t_row, .ref t_rowsBehind, .int r2_1, .int x2, .int r16_2, .int v_t_stepSeconds, .long v_t_rowsLeft, .long v_t_bestScore])), (t_rowsBehind, .inl (K 1, 5, .inr (.inl v_t_rowsBehind))), (u1, .inr (1, [.ref u1_greens, .ref u1_leasts, .ref u1_queues, .ref u1_seconds, .ref u1_weights, .int v_u1_size, .int v_u1_firstCycle, .int v_u1_lastCycle, .int v_u1_cycleBy, .int v_u1_stepSeconds]))] H := hP
  have hD : va_D A [(t, .inr (5, [.ref t_bandWorth, .ref t_stopWorth, .ref t_row, .ref t_rowsBehind, .int r2_1, .int x2, .int r16_2, .int v_t_stepSeconds, .long v_t_rowsLeft, .long v_t_bestScore])), (t_rowsBehind, .inl (K 1, 5, .inr (.inl v_t_rowsBehind))), (u1, .inr (1, [.ref u1_greens, .ref u1_leasts, .ref u1_queues, .ref u1_seconds, .ref u1_weights, .int v_u1_size, .int v_u1_firstCycle, .int v_u1_lastCycle, .int v_u1_cycleBy, .int v_u1_stepSeconds]))] := hD
  refine lv_aload_n hx hb d_Srch_begin_22 rfl (lv_at hl 0 rfl) ?_
  refine lv_aload_n hx hb d_Srch_begin_23 rfl (lv_at hl 1 rfl) ?_
  obtain ⟨r24_3, hC, hF⟩ := dk_b hF
  refine dk_pure (va_runV (As := []) (rest := [.ref t]) hfix (c_Road_stepOf l G K n u1 u1_greens u1_leasts u1_queues u1_seconds u1_weights v_u1_size v_u1_firstCycle v_u1_lastCycle v_u1_cycleBy v_u1_stepSeconds r24_3 hC) (cwV 0 hts (gd_V lk_171 lk_117 lk_118 lk_29 lk_116) rfl rfl rfl (by decide +kernel) ⟨Nat.le_of_ble_eq_true rfl, Nat.le_of_ble_eq_true rfl⟩) (dk_preV hK hN (hP.sub [2] rfl) (va_recv hK hP (ci := 1) (q0 := 2) rfl rfl)) rfl rfl hl.1 rfl (lv_room (Nat.le_of_ble_eq_true rfl)) d_Srch_begin_24 ⟨Nat.le_of_ble_eq_true rfl, Nat.le_of_ble_eq_true rfl⟩) ?_
  refine va_put (D := G) (ci := 5) (v := .int r24_3) (ty := .int) (C := R_Srch) (T := F_Srch) (N := 10) hx hb hts i_Srch t_Srch t_Srch_ok n_Srch hown hK hP hD hS 0 rfl rfl 7 (by decide) (hts _ lk_172) (fun _ h9 => h9) rfl (by decide +kernel) rfl rfl (Nat.le_of_ble_eq_true rfl) d_Srch_begin_27 (fun H locs hP hD hS => ?_)
  have hP : va_P G classes [(t, .inr (5, [.ref t_bandWorth, .ref t_stopWorth, .ref t_row, .ref t_rowsBehind, .int r2_1, .int x2, .int r16_2, .int r24_3, .long v_t_rowsLeft, .long v_t_bestScore])), (t_rowsBehind, .inl (K 1, 5, .inr (.inl v_t_rowsBehind))), (u1, .inr (1, [.ref u1_greens, .ref u1_leasts, .ref u1_queues, .ref u1_seconds, .ref u1_weights, .int v_u1_size, .int v_u1_firstCycle, .int v_u1_lastCycle, .int v_u1_cycleBy, .int v_u1_stepSeconds]))] H := hP
  have hD : va_D A [(t, .inr (5, [.ref t_bandWorth, .ref t_stopWorth, .ref t_row, .ref t_rowsBehind, .int r2_1, .int x2, .int r16_2, .int r24_3, .long v_t_rowsLeft, .long v_t_bestScore])), (t_rowsBehind, .inl (K 1, 5, .inr (.inl v_t_rowsBehind))), (u1, .inr (1, [.ref u1_greens, .ref u1_leasts, .ref u1_queues, .ref u1_seconds, .ref u1_weights, .int v_u1_size, .int v_u1_firstCycle, .int v_u1_lastCycle, .int v_u1_cycleBy, .int v_u1_stepSeconds]))] := hD
  refine lv_iconst (v := (0 : Int32)) hx hb d_Srch_begin_30 (by decide) ?_
  refine lv_istore_n (lv' := [(3, .int (0 : Int32)), (0, .ref t), (1, .ref u1), (2, .int x2)]) hx hb d_Srch_begin_31 rfl hl (by decide) rfl (fun ls hl => ?_)
  obtain ⟨q32_6, hC, hF⟩ := dk_b hF
  refine L32 n x2 (0 : Int32) r2_1 x2 r16_2 r24_3 v_t_rowsBehind H locs q32_6 hC hP hD hS ls (lv_sub hl [1, 2, 3, 0] rfl) (fun H locs ls hP hD hS hl => ?_)
  obtain rfl := Option.some.inj hF
  exact W.vret hx hb hr (fun t ht hW => ⟨⟨(), rfl, by rw [ht]; exact hP, hD⟩, hS.F ht⟩) hS.2.2 d_Srch_begin_55
def p_Srch_putFrom_band_30 (n : Nat) (rc : Int32 → Int32 → Int32 → (Nat → Int64) → (Nat → Int64) → (Nat → Int32) → Int32 → Int32 → (Nat → Int64) → Int64 → Int64 → (Nat → Int64) → (Nat → Int64) → (Nat → Int32) → Int32 → Int32 → (Nat → Int32) → Option (Int64 × Int64 × (Nat → Int64) × (Nat → Int64) × (Nat → Int32) × Int32 × Int32 × (Nat → Int32))) : Nat → Int32 → Int32 → (Nat → Int64) → (Nat → Int64) → (Nat → Int32) → Int32 → Int32 → (Nat → Int64) → Int32 → Int32 → Int32 → Int64 → Int64 → (Nat → Int64) → (Nat → Int64) → (Nat → Int32) → Int32 → Int32 → (Nat → Int32) → Option (Int64 × Int64 × (Nat → Int64) × (Nat → Int64) × (Nat → Int32) × Int32 × Int32 × (Nat → Int32))
  | 0, _, _, _, _, _, _, _, _, _, _, _, _, _, _, _, _, _, _, _ => none
  | k + 1, v_t_choices, v_t_stepSeconds, v_t_bandWorth_openLow, v_t_bandWorth_openHigh, v_t_bandWorth_wayWeights, v_t_cycle, v_t_size, v_t_rowsBehind, z1, z4, z5, v_t_rowsLeft, v_t_bestScore, v_t_bandWorth_bandLow, v_t_bandWorth_bandHigh, v_t_row, v_u3_cycle, v_u3_size, v_u3_offsets =>
    if z4 ≤ z5 then
      some (v_t_rowsLeft, v_t_bestScore, v_t_bandWorth_bandLow, v_t_bandWorth_bandHigh, v_t_row, v_u3_cycle, v_u3_size, v_u3_offsets)
    else
      if (lg_cmp v_t_rowsLeft (0 : Int64)) ≤ 0 then
        some (v_t_rowsLeft, v_t_bestScore, v_t_bandWorth_bandLow, v_t_bandWorth_bandHigh, v_t_row, v_u3_cycle, v_u3_size, v_u3_offsets)
      else
        if dk_in z1 5 = true then
          (p_Band_put n z1 z5 v_t_bandWorth_openLow v_t_bandWorth_openHigh v_t_bandWorth_wayWeights v_t_bandWorth_bandLow v_t_bandWorth_bandHigh).bind fun r63_6 =>
          (p_Srch_beats n r63_6.1 v_u3_cycle v_t_bestScore v_t_cycle).bind fun r72_7 =>
          if r72_7 = 0 then
            if dk_in z1 5 = true then
              p_Srch_putFrom_band_30 n rc k v_t_choices v_t_stepSeconds v_t_bandWorth_openLow v_t_bandWorth_openHigh v_t_bandWorth_wayWeights v_t_cycle v_t_size v_t_rowsBehind z1 z4 (z5 + (1 : Int32)) (v_t_rowsLeft - (v_t_rowsBehind z1.toNatClampNeg)) v_t_bestScore r63_6.2.1 r63_6.2.2 (upd v_t_row z1.toNatClampNeg (z5 * v_t_stepSeconds)) v_u3_cycle v_u3_size v_u3_offsets
            else none
          else
            if (v_t_size - (1 : Int32)) ≤ z1 then
              (p_Plan_set n v_t_cycle v_t_size (upd v_t_row z1.toNatClampNeg (z5 * v_t_stepSeconds)) v_u3_cycle v_u3_size v_u3_offsets).bind fun r141_10 =>
              p_Srch_putFrom_band_30 n rc k v_t_choices v_t_stepSeconds v_t_bandWorth_openLow v_t_bandWorth_openHigh v_t_bandWorth_wayWeights v_t_cycle v_t_size v_t_rowsBehind z1 z4 (z5 + (1 : Int32)) (v_t_rowsLeft - (1 : Int64)) r63_6.1 r63_6.2.1 r63_6.2.2 (upd v_t_row z1.toNatClampNeg (z5 * v_t_stepSeconds)) r141_10.1 r141_10.2.1 r141_10.2.2
            else
              (rc (z1 + (1 : Int32)) v_t_choices v_t_stepSeconds v_t_bandWorth_openLow v_t_bandWorth_openHigh v_t_bandWorth_wayWeights v_t_cycle v_t_size v_t_rowsBehind v_t_rowsLeft v_t_bestScore r63_6.2.1 r63_6.2.2 (upd v_t_row z1.toNatClampNeg (z5 * v_t_stepSeconds)) v_u3_cycle v_u3_size v_u3_offsets).bind fun r112_11 =>
              p_Srch_putFrom_band_30 n rc k v_t_choices v_t_stepSeconds v_t_bandWorth_openLow v_t_bandWorth_openHigh v_t_bandWorth_wayWeights v_t_cycle v_t_size v_t_rowsBehind z1 z4 (z5 + (1 : Int32)) r112_11.1 r112_11.2.1 r112_11.2.2.1 r112_11.2.2.2.1 r112_11.2.2.2.2.1 r112_11.2.2.2.2.2.1 r112_11.2.2.2.2.2.2.1 r112_11.2.2.2.2.2.2.2
        else none
theorem q_Srch_putFrom_band_30 (n : Nat) (rc : Int32 → Int32 → Int32 → (Nat → Int64) → (Nat → Int64) → (Nat → Int32) → Int32 → Int32 → (Nat → Int64) → Int64 → Int64 → (Nat → Int64) → (Nat → Int64) → (Nat → Int32) → Int32 → Int32 → (Nat → Int32) → Option (Int64 × Int64 × (Nat → Int64) × (Nat → Int64) × (Nat → Int32) × Int32 × Int32 × (Nat → Int32))) (k : Nat) (v_t_choices : Int32) (v_t_stepSeconds : Int32) (v_t_bandWorth_openLow : Nat → Int64) (v_t_bandWorth_openHigh : Nat → Int64) (v_t_bandWorth_wayWeights : Nat → Int32) (v_t_cycle : Int32) (v_t_size : Int32) (v_t_rowsBehind : Nat → Int64) (z1 : Int32) (z4 : Int32) (z5 : Int32) (v_t_rowsLeft : Int64) (v_t_bestScore : Int64) (v_t_bandWorth_bandLow : Nat → Int64) (v_t_bandWorth_bandHigh : Nat → Int64) (v_t_row : Nat → Int32) (v_u3_cycle : Int32) (v_u3_size : Int32) (v_u3_offsets : Nat → Int32) : p_Srch_putFrom_band_30 n rc (k + 1) v_t_choices v_t_stepSeconds v_t_bandWorth_openLow v_t_bandWorth_openHigh v_t_bandWorth_wayWeights v_t_cycle v_t_size v_t_rowsBehind z1 z4 z5 v_t_rowsLeft v_t_bestScore v_t_bandWorth_bandLow v_t_bandWorth_bandHigh v_t_row v_u3_cycle v_u3_size v_u3_offsets =
    if z4 ≤ z5 then
      some (v_t_rowsLeft, v_t_bestScore, v_t_bandWorth_bandLow, v_t_bandWorth_bandHigh, v_t_row, v_u3_cycle, v_u3_size, v_u3_offsets)
    else
      if (lg_cmp v_t_rowsLeft (0 : Int64)) ≤ 0 then
        some (v_t_rowsLeft, v_t_bestScore, v_t_bandWorth_bandLow, v_t_bandWorth_bandHigh, v_t_row, v_u3_cycle, v_u3_size, v_u3_offsets)
      else
        if dk_in z1 5 = true then
          (p_Band_put n z1 z5 v_t_bandWorth_openLow v_t_bandWorth_openHigh v_t_bandWorth_wayWeights v_t_bandWorth_bandLow v_t_bandWorth_bandHigh).bind fun r63_6 =>
          (p_Srch_beats n r63_6.1 v_u3_cycle v_t_bestScore v_t_cycle).bind fun r72_7 =>
          if r72_7 = 0 then
            if dk_in z1 5 = true then
              p_Srch_putFrom_band_30 n rc k v_t_choices v_t_stepSeconds v_t_bandWorth_openLow v_t_bandWorth_openHigh v_t_bandWorth_wayWeights v_t_cycle v_t_size v_t_rowsBehind z1 z4 (z5 + (1 : Int32)) (v_t_rowsLeft - (v_t_rowsBehind z1.toNatClampNeg)) v_t_bestScore r63_6.2.1 r63_6.2.2 (upd v_t_row z1.toNatClampNeg (z5 * v_t_stepSeconds)) v_u3_cycle v_u3_size v_u3_offsets
            else none
          else
            if (v_t_size - (1 : Int32)) ≤ z1 then
              (p_Plan_set n v_t_cycle v_t_size (upd v_t_row z1.toNatClampNeg (z5 * v_t_stepSeconds)) v_u3_cycle v_u3_size v_u3_offsets).bind fun r141_10 =>
              p_Srch_putFrom_band_30 n rc k v_t_choices v_t_stepSeconds v_t_bandWorth_openLow v_t_bandWorth_openHigh v_t_bandWorth_wayWeights v_t_cycle v_t_size v_t_rowsBehind z1 z4 (z5 + (1 : Int32)) (v_t_rowsLeft - (1 : Int64)) r63_6.1 r63_6.2.1 r63_6.2.2 (upd v_t_row z1.toNatClampNeg (z5 * v_t_stepSeconds)) r141_10.1 r141_10.2.1 r141_10.2.2
            else
              (rc (z1 + (1 : Int32)) v_t_choices v_t_stepSeconds v_t_bandWorth_openLow v_t_bandWorth_openHigh v_t_bandWorth_wayWeights v_t_cycle v_t_size v_t_rowsBehind v_t_rowsLeft v_t_bestScore r63_6.2.1 r63_6.2.2 (upd v_t_row z1.toNatClampNeg (z5 * v_t_stepSeconds)) v_u3_cycle v_u3_size v_u3_offsets).bind fun r112_11 =>
              p_Srch_putFrom_band_30 n rc k v_t_choices v_t_stepSeconds v_t_bandWorth_openLow v_t_bandWorth_openHigh v_t_bandWorth_wayWeights v_t_cycle v_t_size v_t_rowsBehind z1 z4 (z5 + (1 : Int32)) r112_11.1 r112_11.2.1 r112_11.2.2.1 r112_11.2.2.2.1 r112_11.2.2.2.2.1 r112_11.2.2.2.2.2.1 r112_11.2.2.2.2.2.2.1 r112_11.2.2.2.2.2.2.2
        else none := rfl
def p_Srch_putFrom_band (n : Nat) : Nat → Int32 → Int32 → Int32 → (Nat → Int64) → (Nat → Int64) → (Nat → Int32) → Int32 → Int32 → (Nat → Int64) → Int64 → Int64 → (Nat → Int64) → (Nat → Int64) → (Nat → Int32) → Int32 → Int32 → (Nat → Int32) → Option (Int64 × Int64 × (Nat → Int64) × (Nat → Int64) × (Nat → Int32) × Int32 × Int32 × (Nat → Int32))
  | 0, _, _, _, _, _, _, _, _, _, _, _, _, _, _, _, _, _ => none
  | d + 1, x1, v_t_choices, v_t_stepSeconds, v_t_bandWorth_openLow, v_t_bandWorth_openHigh, v_t_bandWorth_wayWeights, v_t_cycle, v_t_size, v_t_rowsBehind, v_t_rowsLeft, v_t_bestScore, v_t_bandWorth_bandLow, v_t_bandWorth_bandHigh, v_t_row, v_u3_cycle, v_u3_size, v_u3_offsets =>
    (p_WO_within n x1.toInt64 (0 : Int64) (4 : Int64)).bind fun r6_1 =>
    if r6_1 = 0 then
      some (v_t_rowsLeft, v_t_bestScore, v_t_bandWorth_bandLow, v_t_bandWorth_bandHigh, v_t_row, v_u3_cycle, v_u3_size, v_u3_offsets)
    else
      if x1 = 0 then
        (p_Srch_putFrom_band_30 n (p_Srch_putFrom_band n d) n v_t_choices v_t_stepSeconds v_t_bandWorth_openLow v_t_bandWorth_openHigh v_t_bandWorth_wayWeights v_t_cycle v_t_size v_t_rowsBehind x1 (1 : Int32) (0 : Int32) v_t_rowsLeft v_t_bestScore v_t_bandWorth_bandLow v_t_bandWorth_bandHigh v_t_row v_u3_cycle v_u3_size v_u3_offsets).bind fun q30_13 =>
        some (q30_13.1, q30_13.2.1, q30_13.2.2.1, q30_13.2.2.2.1, q30_13.2.2.2.2.1, q30_13.2.2.2.2.2.1, q30_13.2.2.2.2.2.2.1, q30_13.2.2.2.2.2.2.2)
      else
        (p_Srch_putFrom_band_30 n (p_Srch_putFrom_band n d) n v_t_choices v_t_stepSeconds v_t_bandWorth_openLow v_t_bandWorth_openHigh v_t_bandWorth_wayWeights v_t_cycle v_t_size v_t_rowsBehind x1 v_t_choices (0 : Int32) v_t_rowsLeft v_t_bestScore v_t_bandWorth_bandLow v_t_bandWorth_bandHigh v_t_row v_u3_cycle v_u3_size v_u3_offsets).bind fun q30_12 =>
        some (q30_12.1, q30_12.2.1, q30_12.2.2.1, q30_12.2.2.2.1, q30_12.2.2.2.2.1, q30_12.2.2.2.2.2.1, q30_12.2.2.2.2.2.2.1, q30_12.2.2.2.2.2.2.2)
theorem q_Srch_putFrom_band (n d : Nat) (x1 : Int32) (v_t_choices : Int32) (v_t_stepSeconds : Int32) (v_t_bandWorth_openLow : Nat → Int64) (v_t_bandWorth_openHigh : Nat → Int64) (v_t_bandWorth_wayWeights : Nat → Int32) (v_t_cycle : Int32) (v_t_size : Int32) (v_t_rowsBehind : Nat → Int64) (v_t_rowsLeft : Int64) (v_t_bestScore : Int64) (v_t_bandWorth_bandLow : Nat → Int64) (v_t_bandWorth_bandHigh : Nat → Int64) (v_t_row : Nat → Int32) (v_u3_cycle : Int32) (v_u3_size : Int32) (v_u3_offsets : Nat → Int32) : p_Srch_putFrom_band n (d + 1) x1 v_t_choices v_t_stepSeconds v_t_bandWorth_openLow v_t_bandWorth_openHigh v_t_bandWorth_wayWeights v_t_cycle v_t_size v_t_rowsBehind v_t_rowsLeft v_t_bestScore v_t_bandWorth_bandLow v_t_bandWorth_bandHigh v_t_row v_u3_cycle v_u3_size v_u3_offsets =
    (p_WO_within n x1.toInt64 (0 : Int64) (4 : Int64)).bind fun r6_1 =>
    if r6_1 = 0 then
      some (v_t_rowsLeft, v_t_bestScore, v_t_bandWorth_bandLow, v_t_bandWorth_bandHigh, v_t_row, v_u3_cycle, v_u3_size, v_u3_offsets)
    else
      if x1 = 0 then
        (p_Srch_putFrom_band_30 n (p_Srch_putFrom_band n d) n v_t_choices v_t_stepSeconds v_t_bandWorth_openLow v_t_bandWorth_openHigh v_t_bandWorth_wayWeights v_t_cycle v_t_size v_t_rowsBehind x1 (1 : Int32) (0 : Int32) v_t_rowsLeft v_t_bestScore v_t_bandWorth_bandLow v_t_bandWorth_bandHigh v_t_row v_u3_cycle v_u3_size v_u3_offsets).bind fun q30_13 =>
        some (q30_13.1, q30_13.2.1, q30_13.2.2.1, q30_13.2.2.2.1, q30_13.2.2.2.2.1, q30_13.2.2.2.2.2.1, q30_13.2.2.2.2.2.2.1, q30_13.2.2.2.2.2.2.2)
      else
        (p_Srch_putFrom_band_30 n (p_Srch_putFrom_band n d) n v_t_choices v_t_stepSeconds v_t_bandWorth_openLow v_t_bandWorth_openHigh v_t_bandWorth_wayWeights v_t_cycle v_t_size v_t_rowsBehind x1 v_t_choices (0 : Int32) v_t_rowsLeft v_t_bestScore v_t_bandWorth_bandLow v_t_bandWorth_bandHigh v_t_row v_u3_cycle v_u3_size v_u3_offsets).bind fun q30_12 =>
        some (q30_12.1, q30_12.2.1, q30_12.2.2.1, q30_12.2.2.2.1, q30_12.2.2.2.2.1, q30_12.2.2.2.2.2.1, q30_12.2.2.2.2.2.2.1, q30_12.2.2.2.2.2.2.2) := rfl
abbrev m_Srch_putFrom_band (d : Nat) : Room := { frames := 2 + d, cells := 0, slots := 0, locals := 55 + d * 27 }
set_option maxHeartbeats 4000000 in
set_option maxRecDepth 100000 in
theorem c_Srch_putFrom_band (l : Launch) (G : va_G) (K : Nat → ClassId) (n : Nat) (t : Nat) (t_bandWorth : Nat) (t_stopWorth : Nat) (t_row : Nat) (t_rowsBehind : Nat) (t_bandWorth_openLow : Nat) (t_bandWorth_openHigh : Nat) (t_bandWorth_bandLow : Nat) (t_bandWorth_bandHigh : Nat) (t_bandWorth_wayWeights : Nat) (u3 : Nat) (u3_offsets : Nat) : ∀ (d : Nat) (sz : Nat) (x1 : Int32) (v_t_size : Int32) (v_t_cycle : Int32) (v_t_choices : Int32) (v_t_stepSeconds : Int32) (v_t_rowsLeft : Int64) (v_t_bestScore : Int64) (v_t_bandWorth_openLow : Nat → Int64) (v_t_bandWorth_openHigh : Nat → Int64) (v_t_bandWorth_bandLow : Nat → Int64) (v_t_bandWorth_bandHigh : Nat → Int64) (v_t_bandWorth_wayWeights : Nat → Int32) (v_t_row : Nat → Int32) (v_t_rowsBehind : Nat → Int64) (v_u3_cycle : Int32) (v_u3_size : Int32) (v_u3_aim : Int32) (v_u3_sawAll : Int32) (v_u3_offsets : Nat → Int32) (o : Int64 × Int64 × (Nat → Int64) × (Nat → Int64) × (Nat → Int32) × Int32 × Int32 × (Nat → Int32)), p_Srch_putFrom_band n d x1 v_t_choices v_t_stepSeconds v_t_bandWorth_openLow v_t_bandWorth_openHigh v_t_bandWorth_wayWeights v_t_cycle v_t_size v_t_rowsBehind v_t_rowsLeft v_t_bestScore v_t_bandWorth_bandLow v_t_bandWorth_bandHigh v_t_row v_u3_cycle v_u3_size v_u3_offsets = some o →
    Met l y_Srch_putFrom (wd y_Srch_putFrom b_Srch_putFrom 8 none) (m_Srch_putFrom_band d) (dk_Pm [.ref t, .int x1, .ref t_bandWorth, .ref u3] G K [(t, .inr (5, [.ref t_bandWorth, .ref t_stopWorth, .ref t_row, .ref t_rowsBehind, .int v_t_size, .int v_t_cycle, .int v_t_choices, .int v_t_stepSeconds, .long v_t_rowsLeft, .long v_t_bestScore])), (t_bandWorth, .inr (3, [.ref t_bandWorth_openLow, .ref t_bandWorth_openHigh, .ref t_bandWorth_bandLow, .ref t_bandWorth_bandHigh, .ref t_bandWorth_wayWeights])), (t_bandWorth_openLow, .inl (K 1, 1200, .inr (.inl v_t_bandWorth_openLow))), (t_bandWorth_openHigh, .inl (K 1, 1200, .inr (.inl v_t_bandWorth_openHigh))), (t_bandWorth_bandLow, .inl (K 1, 10, .inr (.inl v_t_bandWorth_bandLow))), (t_bandWorth_bandHigh, .inl (K 1, 10, .inr (.inl v_t_bandWorth_bandHigh))), (t_bandWorth_wayWeights, .inl (K 0, 2, .inl v_t_bandWorth_wayWeights)), (t_row, .inl (K 0, 5, .inl v_t_row)), (t_rowsBehind, .inl (K 1, 5, .inr (.inl v_t_rowsBehind))), (u3, .inr (2, [.ref u3_offsets, .int v_u3_cycle, .int v_u3_size, .int v_u3_aim, .int v_u3_sawAll])), (u3_offsets, .inl (K 0, 5, .inl v_u3_offsets))] sz) (dk_Qm none G (fun _ : Unit => [(t, .inr (5, [.ref t_bandWorth, .ref t_stopWorth, .ref t_row, .ref t_rowsBehind, .int v_t_size, .int v_t_cycle, .int v_t_choices, .int v_t_stepSeconds, .long o.1, .long o.2.1])), (t_bandWorth, .inr (3, [.ref t_bandWorth_openLow, .ref t_bandWorth_openHigh, .ref t_bandWorth_bandLow, .ref t_bandWorth_bandHigh, .ref t_bandWorth_wayWeights])), (t_bandWorth_openLow, .inl (K 1, 1200, .inr (.inl v_t_bandWorth_openLow))), (t_bandWorth_openHigh, .inl (K 1, 1200, .inr (.inl v_t_bandWorth_openHigh))), (t_bandWorth_bandLow, .inl (K 1, 10, .inr (.inl o.2.2.1))), (t_bandWorth_bandHigh, .inl (K 1, 10, .inr (.inl o.2.2.2.1))), (t_bandWorth_wayWeights, .inl (K 0, 2, .inl v_t_bandWorth_wayWeights)), (t_row, .inl (K 0, 5, .inl o.2.2.2.2.1)), (t_rowsBehind, .inl (K 1, 5, .inr (.inl v_t_rowsBehind))), (u3, .inr (2, [.ref u3_offsets, .int o.2.2.2.2.2.1, .int o.2.2.2.2.2.2.1, .int v_u3_aim, .int v_u3_sawAll])), (u3_offsets, .inl (K 0, 5, .inl o.2.2.2.2.2.2.2))]) (va_A [(t, .inr (5, [.ref t_bandWorth, .ref t_stopWorth, .ref t_row, .ref t_rowsBehind, .int v_t_size, .int v_t_cycle, .int v_t_choices, .int v_t_stepSeconds, .long v_t_rowsLeft, .long v_t_bestScore])), (t_bandWorth, .inr (3, [.ref t_bandWorth_openLow, .ref t_bandWorth_openHigh, .ref t_bandWorth_bandLow, .ref t_bandWorth_bandHigh, .ref t_bandWorth_wayWeights])), (t_bandWorth_openLow, .inl (K 1, 1200, .inr (.inl v_t_bandWorth_openLow))), (t_bandWorth_openHigh, .inl (K 1, 1200, .inr (.inl v_t_bandWorth_openHigh))), (t_bandWorth_bandLow, .inl (K 1, 10, .inr (.inl v_t_bandWorth_bandLow))), (t_bandWorth_bandHigh, .inl (K 1, 10, .inr (.inl v_t_bandWorth_bandHigh))), (t_bandWorth_wayWeights, .inl (K 0, 2, .inl v_t_bandWorth_wayWeights)), (t_row, .inl (K 0, 5, .inl v_t_row)), (t_rowsBehind, .inl (K 1, 5, .inr (.inl v_t_rowsBehind))), (u3, .inr (2, [.ref u3_offsets, .int v_u3_cycle, .int v_u3_size, .int v_u3_aim, .int v_u3_sawAll])), (u3_offsets, .inl (K 0, 5, .inl v_u3_offsets))] sz)) 0 0 (va_A [(t, .inr (5, [.ref t_bandWorth, .ref t_stopWorth, .ref t_row, .ref t_rowsBehind, .int v_t_size, .int v_t_cycle, .int v_t_choices, .int v_t_stepSeconds, .long v_t_rowsLeft, .long v_t_bestScore])), (t_bandWorth, .inr (3, [.ref t_bandWorth_openLow, .ref t_bandWorth_openHigh, .ref t_bandWorth_bandLow, .ref t_bandWorth_bandHigh, .ref t_bandWorth_wayWeights])), (t_bandWorth_openLow, .inl (K 1, 1200, .inr (.inl v_t_bandWorth_openLow))), (t_bandWorth_openHigh, .inl (K 1, 1200, .inr (.inl v_t_bandWorth_openHigh))), (t_bandWorth_bandLow, .inl (K 1, 10, .inr (.inl v_t_bandWorth_bandLow))), (t_bandWorth_bandHigh, .inl (K 1, 10, .inr (.inl v_t_bandWorth_bandHigh))), (t_bandWorth_wayWeights, .inl (K 0, 2, .inl v_t_bandWorth_wayWeights)), (t_row, .inl (K 0, 5, .inl v_t_row)), (t_rowsBehind, .inl (K 1, 5, .inr (.inl v_t_rowsBehind))), (u3, .inr (2, [.ref u3_offsets, .int v_u3_cycle, .int v_u3_size, .int v_u3_aim, .int v_u3_sawAll])), (u3_offsets, .inl (K 0, 5, .inl v_u3_offsets))] sz) := by
  intro d
  induction d with
  | zero =>
    intro sz x1 v_t_size v_t_cycle v_t_choices v_t_stepSeconds v_t_rowsLeft v_t_bestScore v_t_bandWorth_openLow v_t_bandWorth_openHigh v_t_bandWorth_bandLow v_t_bandWorth_bandHigh v_t_bandWorth_wayWeights v_t_row v_t_rowsBehind v_u3_cycle v_u3_size v_u3_aim v_u3_sawAll v_u3_offsets o hF
    exact absurd hF (by simp [p_Srch_putFrom_band])
  | succ d ih =>
    intro sz x1 v_t_size v_t_cycle v_t_choices v_t_stepSeconds v_t_rowsLeft v_t_bestScore v_t_bandWorth_openLow v_t_bandWorth_openHigh v_t_bandWorth_bandLow v_t_bandWorth_bandHigh v_t_bandWorth_wayWeights v_t_row v_t_rowsBehind v_u3_cycle v_u3_size v_u3_aim v_u3_sawAll v_u3_offsets o hF
    refine Met.ofW (cc := b_Srch_putFrom) (maxL := 8) (ret := none) (by decide) rfl ?_
    intro p e s m args below meth c s₁ B hml hv
    obtain ⟨rfl, hsz, hP, hK, hN, hD0⟩ := hv
    have hx := B.exec
    have hb := B.bytes
    have hr := B.returns
    have hts : ∀ w ∈ lw_good, w.before _ s = true := fun w h => atoms_spec (ws := wd y_Srch_putFrom b_Srch_putFrom 8 none) B.pre w (List.mem_cons_of_mem _ h)
    have hown : s.vm.findClass R_Srch = some m.cls := findClass_of_methodNamed B.named
    have hlocks := B.notSynchronized
    have hfix : CallFix p m c b_Srch_putFrom 8 s _ lw_good R_Srch := ⟨hx, hb, hml, hown, hts⟩
    subst hsz
    have hD := hD0.self (sz := s.heap.size)
    generalize hAe : va_A [(t, .inr (5, [.ref t_bandWorth, .ref t_stopWorth, .ref t_row, .ref t_rowsBehind, .int v_t_size, .int v_t_cycle, .int v_t_choices, .int v_t_stepSeconds, .long v_t_rowsLeft, .long v_t_bestScore])), (t_bandWorth, .inr (3, [.ref t_bandWorth_openLow, .ref t_bandWorth_openHigh, .ref t_bandWorth_bandLow, .ref t_bandWorth_bandHigh, .ref t_bandWorth_wayWeights])), (t_bandWorth_openLow, .inl (K 1, 1200, .inr (.inl v_t_bandWorth_openLow))), (t_bandWorth_openHigh, .inl (K 1, 1200, .inr (.inl v_t_bandWorth_openHigh))), (t_bandWorth_bandLow, .inl (K 1, 10, .inr (.inl v_t_bandWorth_bandLow))), (t_bandWorth_bandHigh, .inl (K 1, 10, .inr (.inl v_t_bandWorth_bandHigh))), (t_bandWorth_wayWeights, .inl (K 0, 2, .inl v_t_bandWorth_wayWeights)), (t_row, .inl (K 0, 5, .inl v_t_row)), (t_rowsBehind, .inl (K 1, 5, .inr (.inl v_t_rowsBehind))), (u3, .inr (2, [.ref u3_offsets, .int v_u3_cycle, .int v_u3_size, .int v_u3_aim, .int v_u3_sawAll])), (u3_offsets, .inl (K 0, 5, .inl v_u3_offsets))] s.heap.size = A at hD ⊢
    have hA : ∀ q : Nat, s.heap.size ≤ q → A q := fun q h => by rw [← hAe]; exact Or.inr h
    have hS : va_S A s.heap s.heap [] := va_S.rf
    have hl := lv_entry ([.ref t, .int x1, .ref t_bandWorth, .ref u3]) (n := 8) (Nat.le_of_ble_eq_true rfl)
    rw [lg_entry_eq]
    generalize (lg_sl ([.ref t, .int x1, .ref t_bandWorth, .ref u3]) ++ List.replicate (8 - (lg_sl ([.ref t, .int x1, .ref t_bandWorth, .ref u3])).length) Slot.unset).toArray = ls at hl ⊢
    have hl : lv_has ls 8 [(0, .ref t), (1, .int x1), (2, .ref t_bandWorth), (3, .ref u3)] := hl
    change W p l e (m_Srch_putFrom_band (d + 1)) s m _ below meth c s.heap [] 0 0 _ _
    have L30 : ∀ (k : Nat) (z1 : Int32) (z4 : Int32) (z5 : Int32) (v_t_rowsLeft : Int64) (v_t_bestScore : Int64) (v_t_bandWorth_bandLow : Nat → Int64) (v_t_bandWorth_bandHigh : Nat → Int64) (v_t_row : Nat → Int32) (v_u3_cycle : Int32) (v_u3_size : Int32) (v_u3_offsets : Nat → Int32) (H : Heap) (locs : List Loc) (q : Int64 × Int64 × (Nat → Int64) × (Nat → Int64) × (Nat → Int32) × Int32 × Int32 × (Nat → Int32)), p_Srch_putFrom_band_30 n (p_Srch_putFrom_band n d) k v_t_choices v_t_stepSeconds v_t_bandWorth_openLow v_t_bandWorth_openHigh v_t_bandWorth_wayWeights v_t_cycle v_t_size v_t_rowsBehind z1 z4 z5 v_t_rowsLeft v_t_bestScore v_t_bandWorth_bandLow v_t_bandWorth_bandHigh v_t_row v_u3_cycle v_u3_size v_u3_offsets = some q → va_P G classes [(t, .inr (5, [.ref t_bandWorth, .ref t_stopWorth, .ref t_row, .ref t_rowsBehind, .int v_t_size, .int v_t_cycle, .int v_t_choices, .int v_t_stepSeconds, .long v_t_rowsLeft, .long v_t_bestScore])), (t_bandWorth, .inr (3, [.ref t_bandWorth_openLow, .ref t_bandWorth_openHigh, .ref t_bandWorth_bandLow, .ref t_bandWorth_bandHigh, .ref t_bandWorth_wayWeights])), (t_bandWorth_openLow, .inl (K 1, 1200, .inr (.inl v_t_bandWorth_openLow))), (t_bandWorth_openHigh, .inl (K 1, 1200, .inr (.inl v_t_bandWorth_openHigh))), (t_bandWorth_bandLow, .inl (K 1, 10, .inr (.inl v_t_bandWorth_bandLow))), (t_bandWorth_bandHigh, .inl (K 1, 10, .inr (.inl v_t_bandWorth_bandHigh))), (t_bandWorth_wayWeights, .inl (K 0, 2, .inl v_t_bandWorth_wayWeights)), (t_row, .inl (K 0, 5, .inl v_t_row)), (t_rowsBehind, .inl (K 1, 5, .inr (.inl v_t_rowsBehind))), (u3, .inr (2, [.ref u3_offsets, .int v_u3_cycle, .int v_u3_size, .int v_u3_aim, .int v_u3_sawAll])), (u3_offsets, .inl (K 0, 5, .inl v_u3_offsets))] H → va_D A [(t, .inr (5, [.ref t_bandWorth, .ref t_stopWorth, .ref t_row, .ref t_rowsBehind, .int v_t_size, .int v_t_cycle, .int v_t_choices, .int v_t_stepSeconds, .long v_t_rowsLeft, .long v_t_bestScore])), (t_bandWorth, .inr (3, [.ref t_bandWorth_openLow, .ref t_bandWorth_openHigh, .ref t_bandWorth_bandLow, .ref t_bandWorth_bandHigh, .ref t_bandWorth_wayWeights])), (t_bandWorth_openLow, .inl (K 1, 1200, .inr (.inl v_t_bandWorth_openLow))), (t_bandWorth_openHigh, .inl (K 1, 1200, .inr (.inl v_t_bandWorth_openHigh))), (t_bandWorth_bandLow, .inl (K 1, 10, .inr (.inl v_t_bandWorth_bandLow))), (t_bandWorth_bandHigh, .inl (K 1, 10, .inr (.inl v_t_bandWorth_bandHigh))), (t_bandWorth_wayWeights, .inl (K 0, 2, .inl v_t_bandWorth_wayWeights)), (t_row, .inl (K 0, 5, .inl v_t_row)), (t_rowsBehind, .inl (K 1, 5, .inr (.inl v_t_rowsBehind))), (u3, .inr (2, [.ref u3_offsets, .int v_u3_cycle, .int v_u3_size, .int v_u3_aim, .int v_u3_sawAll])), (u3_offsets, .inl (K 0, 5, .inl v_u3_offsets))] → va_S A s.heap H locs → ∀ ls : Array Slot, lv_has ls 8 [(0, .ref t), (1, .int z1), (2, .ref t_bandWorth), (3, .ref u3), (4, .int z4), (5, .int z5)] → (∀ (H1 : Heap) (locs1 : List Loc) (ls1 : Array Slot), va_P G classes [(t, .inr (5, [.ref t_bandWorth, .ref t_stopWorth, .ref t_row, .ref t_rowsBehind, .int v_t_size, .int v_t_cycle, .int v_t_choices, .int v_t_stepSeconds, .long q.1, .long q.2.1])), (t_bandWorth, .inr (3, [.ref t_bandWorth_openLow, .ref t_bandWorth_openHigh, .ref t_bandWorth_bandLow, .ref t_bandWorth_bandHigh, .ref t_bandWorth_wayWeights])), (t_bandWorth_openLow, .inl (K 1, 1200, .inr (.inl v_t_bandWorth_openLow))), (t_bandWorth_openHigh, .inl (K 1, 1200, .inr (.inl v_t_bandWorth_openHigh))), (t_bandWorth_bandLow, .inl (K 1, 10, .inr (.inl q.2.2.1))), (t_bandWorth_bandHigh, .inl (K 1, 10, .inr (.inl q.2.2.2.1))), (t_bandWorth_wayWeights, .inl (K 0, 2, .inl v_t_bandWorth_wayWeights)), (t_row, .inl (K 0, 5, .inl q.2.2.2.2.1)), (t_rowsBehind, .inl (K 1, 5, .inr (.inl v_t_rowsBehind))), (u3, .inr (2, [.ref u3_offsets, .int q.2.2.2.2.2.1, .int q.2.2.2.2.2.2.1, .int v_u3_aim, .int v_u3_sawAll])), (u3_offsets, .inl (K 0, 5, .inl q.2.2.2.2.2.2.2))] H1 → va_D A [(t, .inr (5, [.ref t_bandWorth, .ref t_stopWorth, .ref t_row, .ref t_rowsBehind, .int v_t_size, .int v_t_cycle, .int v_t_choices, .int v_t_stepSeconds, .long q.1, .long q.2.1])), (t_bandWorth, .inr (3, [.ref t_bandWorth_openLow, .ref t_bandWorth_openHigh, .ref t_bandWorth_bandLow, .ref t_bandWorth_bandHigh, .ref t_bandWorth_wayWeights])), (t_bandWorth_openLow, .inl (K 1, 1200, .inr (.inl v_t_bandWorth_openLow))), (t_bandWorth_openHigh, .inl (K 1, 1200, .inr (.inl v_t_bandWorth_openHigh))), (t_bandWorth_bandLow, .inl (K 1, 10, .inr (.inl q.2.2.1))), (t_bandWorth_bandHigh, .inl (K 1, 10, .inr (.inl q.2.2.2.1))), (t_bandWorth_wayWeights, .inl (K 0, 2, .inl v_t_bandWorth_wayWeights)), (t_row, .inl (K 0, 5, .inl q.2.2.2.2.1)), (t_rowsBehind, .inl (K 1, 5, .inr (.inl v_t_rowsBehind))), (u3, .inr (2, [.ref u3_offsets, .int q.2.2.2.2.2.1, .int q.2.2.2.2.2.2.1, .int v_u3_aim, .int v_u3_sawAll])), (u3_offsets, .inl (K 0, 5, .inl q.2.2.2.2.2.2.2))] → va_S A s.heap H1 locs1 → lv_has ls1 8 [] → W p l e (m_Srch_putFrom_band (d + 1)) s m ([.ref t, .int x1, .ref t_bandWorth, .ref u3] : List Value).toArray below meth c H1 locs1 0 0 (MQ below (dk_Qm none G (fun _ : Unit => [(t, .inr (5, [.ref t_bandWorth, .ref t_stopWorth, .ref t_row, .ref t_rowsBehind, .int v_t_size, .int v_t_cycle, .int v_t_choices, .int v_t_stepSeconds, .long o.1, .long o.2.1])), (t_bandWorth, .inr (3, [.ref t_bandWorth_openLow, .ref t_bandWorth_openHigh, .ref t_bandWorth_bandLow, .ref t_bandWorth_bandHigh, .ref t_bandWorth_wayWeights])), (t_bandWorth_openLow, .inl (K 1, 1200, .inr (.inl v_t_bandWorth_openLow))), (t_bandWorth_openHigh, .inl (K 1, 1200, .inr (.inl v_t_bandWorth_openHigh))), (t_bandWorth_bandLow, .inl (K 1, 10, .inr (.inl o.2.2.1))), (t_bandWorth_bandHigh, .inl (K 1, 10, .inr (.inl o.2.2.2.1))), (t_bandWorth_wayWeights, .inl (K 0, 2, .inl v_t_bandWorth_wayWeights)), (t_row, .inl (K 0, 5, .inl o.2.2.2.2.1)), (t_rowsBehind, .inl (K 1, 5, .inr (.inl v_t_rowsBehind))), (u3, .inr (2, [.ref u3_offsets, .int o.2.2.2.2.2.1, .int o.2.2.2.2.2.2.1, .int v_u3_aim, .int v_u3_sawAll])), (u3_offsets, .inl (K 0, 5, .inl o.2.2.2.2.2.2.2))]) A) ([.ref t, .int x1, .ref t_bandWorth, .ref u3] : List Value).toArray s 0 0 A) (F0 m 156 ls1 [])) → W p l e (m_Srch_putFrom_band (d + 1)) s m ([.ref t, .int x1, .ref t_bandWorth, .ref u3] : List Value).toArray below meth c H locs 0 0 (MQ below (dk_Qm none G (fun _ : Unit => [(t, .inr (5, [.ref t_bandWorth, .ref t_stopWorth, .ref t_row, .ref t_rowsBehind, .int v_t_size, .int v_t_cycle, .int v_t_choices, .int v_t_stepSeconds, .long o.1, .long o.2.1])), (t_bandWorth, .inr (3, [.ref t_bandWorth_openLow, .ref t_bandWorth_openHigh, .ref t_bandWorth_bandLow, .ref t_bandWorth_bandHigh, .ref t_bandWorth_wayWeights])), (t_bandWorth_openLow, .inl (K 1, 1200, .inr (.inl v_t_bandWorth_openLow))), (t_bandWorth_openHigh, .inl (K 1, 1200, .inr (.inl v_t_bandWorth_openHigh))), (t_bandWorth_bandLow, .inl (K 1, 10, .inr (.inl o.2.2.1))), (t_bandWorth_bandHigh, .inl (K 1, 10, .inr (.inl o.2.2.2.1))), (t_bandWorth_wayWeights, .inl (K 0, 2, .inl v_t_bandWorth_wayWeights)), (t_row, .inl (K 0, 5, .inl o.2.2.2.2.1)), (t_rowsBehind, .inl (K 1, 5, .inr (.inl v_t_rowsBehind))), (u3, .inr (2, [.ref u3_offsets, .int o.2.2.2.2.2.1, .int o.2.2.2.2.2.2.1, .int v_u3_aim, .int v_u3_sawAll])), (u3_offsets, .inl (K 0, 5, .inl o.2.2.2.2.2.2.2))]) A) ([.ref t, .int x1, .ref t_bandWorth, .ref u3] : List Value).toArray s 0 0 A) (F0 m 30 ls []) := by
      intro k
      induction k with
      | zero =>
        intro z1 z4 z5 v_t_rowsLeft v_t_bestScore v_t_bandWorth_bandLow v_t_bandWorth_bandHigh v_t_row v_u3_cycle v_u3_size v_u3_offsets H locs q hF hP hD hS ls hl hk
        exact absurd hF (by simp [p_Srch_putFrom_band_30])
      | succ k jh =>
        intro z1 z4 z5 v_t_rowsLeft v_t_bestScore v_t_bandWorth_bandLow v_t_bandWorth_bandHigh v_t_row v_u3_cycle v_u3_size v_u3_offsets H locs q hF hP hD hS ls hl hk
        have hF := (q_Srch_putFrom_band_30 n (p_Srch_putFrom_band n d) k v_t_choices v_t_stepSeconds v_t_bandWorth_openLow v_t_bandWorth_openHigh v_t_bandWorth_wayWeights v_t_cycle v_t_size v_t_rowsBehind z1 z4 z5 v_t_rowsLeft v_t_bestScore v_t_bandWorth_bandLow v_t_bandWorth_bandHigh v_t_row v_u3_cycle v_u3_size v_u3_offsets).symm.trans hF
        refine lv_iload hx hb d_Srch_putFrom_30 (lv_at hl 5 rfl) ?_
        refine lv_iload hx hb d_Srch_putFrom_32 (lv_at hl 4 rfl) ?_
        refine lv_icmp_ge (tgt := 156) hx hb d_Srch_putFrom_34 (by decide) (fun c34_4 => ?_) (fun c34_4 => ?_)
        · have hF := dk_t c34_4 hF
          obtain rfl := Option.some.inj hF
          exact hk H locs ls hP hD hS (lv_sub hl [] rfl)
        · have hF := dk_f c34_4 hF
          refine lv_aload_n hx hb d_Srch_putFrom_37 rfl (lv_at hl 0 rfl) ?_
          refine va_get (D := G) (ci := 5) (v := .long v_t_rowsLeft) (C := R_Srch) (T := F_Srch) (N := 10) hx hb hts i_Srch hown hK hP 0 rfl rfl 8 (by decide) (hts _ lk_177) (fun _ h9 => h9) rfl d_Srch_putFrom_38 ?_
          refine lv_lconst (v := (0 : Int64)) hx hb d_Srch_putFrom_41 (by decide) ?_
          refine W.lcmp hx hb d_Srch_putFrom_42 ?_
          refine lv_if_le (tgt := 156) hx hb d_Srch_putFrom_43 (by decide) (fun c43_5 => ?_) (fun c43_5 => ?_)
          · have hF := dk_t c43_5 hF
            obtain rfl := Option.some.inj hF
            exact hk H locs ls hP hD hS (lv_sub hl [] rfl)
          · have hF := dk_f c43_5 hF
            refine lv_aload_n hx hb d_Srch_putFrom_46 rfl (lv_at hl 0 rfl) ?_
            refine va_get (D := G) (ci := 5) (v := .ref t_row) (C := R_Srch) (T := F_Srch) (N := 10) hx hb hts i_Srch hown hK hP 0 rfl rfl 2 (by decide) (hts _ lk_178) (fun _ h9 => h9) rfl d_Srch_putFrom_47 ?_
            refine lv_iload_n hx hb d_Srch_putFrom_50 rfl (lv_at hl 1 rfl) ?_
            refine lv_iload hx hb d_Srch_putFrom_51 (lv_at hl 5 rfl) ?_
            refine lv_aload_n hx hb d_Srch_putFrom_53 rfl (lv_at hl 0 rfl) ?_
            refine va_get (D := G) (ci := 5) (v := .int v_t_stepSeconds) (C := R_Srch) (T := F_Srch) (N := 10) hx hb hts i_Srch hown hK hP 0 rfl rfl 7 (by decide) (hts _ lk_172) (fun _ h9 => h9) rfl d_Srch_putFrom_54 ?_
            refine lv_imul hx hb d_Srch_putFrom_57 ?_
            obtain ⟨hi, hF⟩ := dk_a hF
            refine va_iast (D := G) hx hb hK hP hD hS 7 0 rfl rfl (dk_vp hi) d_Srch_putFrom_58 (fun H locs hP hD hS => ?_)
            have hP : va_P G classes [(t, .inr (5, [.ref t_bandWorth, .ref t_stopWorth, .ref t_row, .ref t_rowsBehind, .int v_t_size, .int v_t_cycle, .int v_t_choices, .int v_t_stepSeconds, .long v_t_rowsLeft, .long v_t_bestScore])), (t_bandWorth, .inr (3, [.ref t_bandWorth_openLow, .ref t_bandWorth_openHigh, .ref t_bandWorth_bandLow, .ref t_bandWorth_bandHigh, .ref t_bandWorth_wayWeights])), (t_bandWorth_openLow, .inl (K 1, 1200, .inr (.inl v_t_bandWorth_openLow))), (t_bandWorth_openHigh, .inl (K 1, 1200, .inr (.inl v_t_bandWorth_openHigh))), (t_bandWorth_bandLow, .inl (K 1, 10, .inr (.inl v_t_bandWorth_bandLow))), (t_bandWorth_bandHigh, .inl (K 1, 10, .inr (.inl v_t_bandWorth_bandHigh))), (t_bandWorth_wayWeights, .inl (K 0, 2, .inl v_t_bandWorth_wayWeights)), (t_row, .inl (K 0, 5, .inl (upd v_t_row z1.toNatClampNeg (z5 * v_t_stepSeconds)))), (t_rowsBehind, .inl (K 1, 5, .inr (.inl v_t_rowsBehind))), (u3, .inr (2, [.ref u3_offsets, .int v_u3_cycle, .int v_u3_size, .int v_u3_aim, .int v_u3_sawAll])), (u3_offsets, .inl (K 0, 5, .inl v_u3_offsets))] H := hP
            have hD : va_D A [(t, .inr (5, [.ref t_bandWorth, .ref t_stopWorth, .ref t_row, .ref t_rowsBehind, .int v_t_size, .int v_t_cycle, .int v_t_choices, .int v_t_stepSeconds, .long v_t_rowsLeft, .long v_t_bestScore])), (t_bandWorth, .inr (3, [.ref t_bandWorth_openLow, .ref t_bandWorth_openHigh, .ref t_bandWorth_bandLow, .ref t_bandWorth_bandHigh, .ref t_bandWorth_wayWeights])), (t_bandWorth_openLow, .inl (K 1, 1200, .inr (.inl v_t_bandWorth_openLow))), (t_bandWorth_openHigh, .inl (K 1, 1200, .inr (.inl v_t_bandWorth_openHigh))), (t_bandWorth_bandLow, .inl (K 1, 10, .inr (.inl v_t_bandWorth_bandLow))), (t_bandWorth_bandHigh, .inl (K 1, 10, .inr (.inl v_t_bandWorth_bandHigh))), (t_bandWorth_wayWeights, .inl (K 0, 2, .inl v_t_bandWorth_wayWeights)), (t_row, .inl (K 0, 5, .inl (upd v_t_row z1.toNatClampNeg (z5 * v_t_stepSeconds)))), (t_rowsBehind, .inl (K 1, 5, .inr (.inl v_t_rowsBehind))), (u3, .inr (2, [.ref u3_offsets, .int v_u3_cycle, .int v_u3_size, .int v_u3_aim, .int v_u3_sawAll])), (u3_offsets, .inl (K 0, 5, .inl v_u3_offsets))] := hD
            refine lv_aload_n hx hb d_Srch_putFrom_59 rfl (lv_at hl 2 rfl) ?_
            refine lv_iload_n hx hb d_Srch_putFrom_60 rfl (lv_at hl 1 rfl) ?_
            refine lv_iload hx hb d_Srch_putFrom_61 (lv_at hl 5 rfl) ?_
            obtain ⟨r63_6, hC, hF⟩ := dk_b hF
            refine dk_mut (wr := [(t, .inr (5, [.ref t_bandWorth, .ref t_stopWorth, .ref t_row, .ref t_rowsBehind, .int v_t_size, .int v_t_cycle, .int v_t_choices, .int v_t_stepSeconds, .long v_t_rowsLeft, .long v_t_bestScore])), (t_row, .inl (K 0, 5, .inl (upd v_t_row z1.toNatClampNeg (z5 * v_t_stepSeconds)))), (t_rowsBehind, .inl (K 1, 5, .inr (.inl v_t_rowsBehind))), (u3, .inr (2, [.ref u3_offsets, .int v_u3_cycle, .int v_u3_size, .int v_u3_aim, .int v_u3_sawAll])), (u3_offsets, .inl (K 0, 5, .inl v_u3_offsets))]) (va_runU (As := [.int z1, .int z5]) (rest := []) hfix (c_Band_put l G K n H.size t_bandWorth t_bandWorth_openLow t_bandWorth_openHigh t_bandWorth_bandLow t_bandWorth_bandHigh t_bandWorth_wayWeights z1 z5 v_t_bandWorth_openLow v_t_bandWorth_openHigh v_t_bandWorth_bandLow v_t_bandWorth_bandHigh v_t_bandWorth_wayWeights r63_6 hC) (va_cwA 2 hts (gd_U lk_179 lk_181 lk_182 lk_183 lk_133 lk_180) rfl rfl rfl (hN.1 _ lk_184) (by decide +kernel) ⟨by dsimp only [m_Srch_putFrom_band, m_Band_put]; omega, by dsimp only [m_Srch_putFrom_band, m_Band_put]; omega⟩) (dk_preVm hK hN (hP.sub [1, 2, 3, 4, 5, 6] rfl) (hD.sub [1, 2, 3, 4, 5, 6] (by decide) rfl) (va_recv hK hP (ci := 3) (q0 := 1) rfl rfl)) rfl rfl hl.1 rfl (lv_room (Nat.le_of_ble_eq_true rfl)) d_Srch_putFrom_63 ⟨Nat.le_of_ble_eq_true rfl, Nat.le_of_ble_eq_true rfl⟩) hS hA hP hD [1, 2, 3, 4, 5, 6] [0, 7, 8, 9, 10] rfl rfl (by decide) (by decide) (fun _ H locs hP hD hS => ?_)
            have hP : va_P G classes [(t, .inr (5, [.ref t_bandWorth, .ref t_stopWorth, .ref t_row, .ref t_rowsBehind, .int v_t_size, .int v_t_cycle, .int v_t_choices, .int v_t_stepSeconds, .long v_t_rowsLeft, .long v_t_bestScore])), (t_bandWorth, .inr (3, [.ref t_bandWorth_openLow, .ref t_bandWorth_openHigh, .ref t_bandWorth_bandLow, .ref t_bandWorth_bandHigh, .ref t_bandWorth_wayWeights])), (t_bandWorth_openLow, .inl (K 1, 1200, .inr (.inl v_t_bandWorth_openLow))), (t_bandWorth_openHigh, .inl (K 1, 1200, .inr (.inl v_t_bandWorth_openHigh))), (t_bandWorth_bandLow, .inl (K 1, 10, .inr (.inl r63_6.2.1))), (t_bandWorth_bandHigh, .inl (K 1, 10, .inr (.inl r63_6.2.2))), (t_bandWorth_wayWeights, .inl (K 0, 2, .inl v_t_bandWorth_wayWeights)), (t_row, .inl (K 0, 5, .inl (upd v_t_row z1.toNatClampNeg (z5 * v_t_stepSeconds)))), (t_rowsBehind, .inl (K 1, 5, .inr (.inl v_t_rowsBehind))), (u3, .inr (2, [.ref u3_offsets, .int v_u3_cycle, .int v_u3_size, .int v_u3_aim, .int v_u3_sawAll])), (u3_offsets, .inl (K 0, 5, .inl v_u3_offsets))] H := hP.sub [0, 5, 6, 7, 8, 9, 10, 1, 2, 3, 4] rfl
            have hD : va_D A [(t, .inr (5, [.ref t_bandWorth, .ref t_stopWorth, .ref t_row, .ref t_rowsBehind, .int v_t_size, .int v_t_cycle, .int v_t_choices, .int v_t_stepSeconds, .long v_t_rowsLeft, .long v_t_bestScore])), (t_bandWorth, .inr (3, [.ref t_bandWorth_openLow, .ref t_bandWorth_openHigh, .ref t_bandWorth_bandLow, .ref t_bandWorth_bandHigh, .ref t_bandWorth_wayWeights])), (t_bandWorth_openLow, .inl (K 1, 1200, .inr (.inl v_t_bandWorth_openLow))), (t_bandWorth_openHigh, .inl (K 1, 1200, .inr (.inl v_t_bandWorth_openHigh))), (t_bandWorth_bandLow, .inl (K 1, 10, .inr (.inl r63_6.2.1))), (t_bandWorth_bandHigh, .inl (K 1, 10, .inr (.inl r63_6.2.2))), (t_bandWorth_wayWeights, .inl (K 0, 2, .inl v_t_bandWorth_wayWeights)), (t_row, .inl (K 0, 5, .inl (upd v_t_row z1.toNatClampNeg (z5 * v_t_stepSeconds)))), (t_rowsBehind, .inl (K 1, 5, .inr (.inl v_t_rowsBehind))), (u3, .inr (2, [.ref u3_offsets, .int v_u3_cycle, .int v_u3_size, .int v_u3_aim, .int v_u3_sawAll])), (u3_offsets, .inl (K 0, 5, .inl v_u3_offsets))] := hD.sub [0, 5, 6, 7, 8, 9, 10, 1, 2, 3, 4] (by decide) rfl
            refine lv_lstore (lv' := [(6, .long r63_6.1), (0, .ref t), (1, .int z1), (2, .ref t_bandWorth), (3, .ref u3), (4, .int z4), (5, .int z5)]) hx hb d_Srch_putFrom_66 hl (by decide) rfl (fun ls hl => ?_)
            refine lv_aload_n hx hb d_Srch_putFrom_68 rfl (lv_at hl 1 rfl) ?_
            refine lv_lload hx hb d_Srch_putFrom_69 (lv_at hl 0 rfl) ?_
            refine lv_aload_n hx hb d_Srch_putFrom_71 rfl (lv_at hl 4 rfl) ?_
            obtain ⟨r72_7, hC, hF⟩ := dk_b hF
            refine dk_pure (va_runV (As := [.long r63_6.1, .ref u3]) (rest := []) hfix (c_Srch_beats l G K n t t_bandWorth t_stopWorth t_row t_rowsBehind u3 u3_offsets r63_6.1 v_t_size v_t_cycle v_t_choices v_t_stepSeconds v_t_rowsLeft v_t_bestScore v_u3_cycle v_u3_size v_u3_aim v_u3_sawAll r72_7 hC) (cwV 2 hts (gd_V lk_185 lk_187 lk_188 lk_189 lk_186) rfl rfl rfl (by decide +kernel) ⟨by dsimp only [m_Srch_putFrom_band, m_Srch_beats]; omega, by dsimp only [m_Srch_putFrom_band, m_Srch_beats]; omega⟩) (dk_preV hK hN (hP.sub [0, 9] rfl) (va_recv hK hP (ci := 5) (q0 := 0) rfl rfl)) rfl rfl hl.1 rfl (lv_room (Nat.le_of_ble_eq_true rfl)) d_Srch_putFrom_72 ⟨Nat.le_of_ble_eq_true rfl, Nat.le_of_ble_eq_true rfl⟩) ?_
            refine lv_if_ne (tgt := 96) hx hb d_Srch_putFrom_75 (by decide) (fun c75_8 => ?_) (fun c75_8 => ?_)
            · have hF := dk_f c75_8 hF
              refine lv_iload_n hx hb d_Srch_putFrom_96 rfl (lv_at hl 2 rfl) ?_
              refine lv_aload_n hx hb d_Srch_putFrom_97 rfl (lv_at hl 1 rfl) ?_
              refine va_get (D := G) (ci := 5) (v := .int v_t_size) (C := R_Srch) (T := F_Srch) (N := 10) hx hb hts i_Srch hown hK hP 0 rfl rfl 4 (by decide) (hts _ lk_168) (fun _ h9 => h9) rfl d_Srch_putFrom_98 ?_
              refine lv_iconst (v := (1 : Int32)) hx hb d_Srch_putFrom_101 (by decide) ?_
              refine lv_isub hx hb d_Srch_putFrom_102 ?_
              refine lv_icmp_ge (tgt := 118) hx hb d_Srch_putFrom_103 (by decide) (fun c103_9 => ?_) (fun c103_9 => ?_)
              · have hF := dk_t c103_9 hF
                refine lv_aload_n hx hb d_Srch_putFrom_118 rfl (lv_at hl 1 rfl) ?_
                refine lv_dup hx hb d_Srch_putFrom_119 rfl ?_
                refine va_get (D := G) (ci := 5) (v := .long v_t_rowsLeft) (C := R_Srch) (T := F_Srch) (N := 10) hx hb hts i_Srch hown hK hP 0 rfl rfl 8 (by decide) (hts _ lk_177) (fun _ h9 => h9) rfl d_Srch_putFrom_120 ?_
                refine lv_lconst (v := (1 : Int64)) hx hb d_Srch_putFrom_123 (by decide) ?_
                refine lv_lsub hx hb d_Srch_putFrom_124 ?_
                refine va_put (D := G) (ci := 5) (v := .long (v_t_rowsLeft - (1 : Int64))) (ty := .long) (C := R_Srch) (T := F_Srch) (N := 10) hx hb hts i_Srch t_Srch t_Srch_ok n_Srch hown hK hP hD hS 0 rfl rfl 8 (by decide) (hts _ lk_177) (fun _ h9 => h9) rfl (by decide +kernel) rfl rfl (Nat.le_of_ble_eq_true rfl) d_Srch_putFrom_125 (fun H locs hP hD hS => ?_)
                have hP : va_P G classes [(t, .inr (5, [.ref t_bandWorth, .ref t_stopWorth, .ref t_row, .ref t_rowsBehind, .int v_t_size, .int v_t_cycle, .int v_t_choices, .int v_t_stepSeconds, .long (v_t_rowsLeft - (1 : Int64)), .long v_t_bestScore])), (t_bandWorth, .inr (3, [.ref t_bandWorth_openLow, .ref t_bandWorth_openHigh, .ref t_bandWorth_bandLow, .ref t_bandWorth_bandHigh, .ref t_bandWorth_wayWeights])), (t_bandWorth_openLow, .inl (K 1, 1200, .inr (.inl v_t_bandWorth_openLow))), (t_bandWorth_openHigh, .inl (K 1, 1200, .inr (.inl v_t_bandWorth_openHigh))), (t_bandWorth_bandLow, .inl (K 1, 10, .inr (.inl r63_6.2.1))), (t_bandWorth_bandHigh, .inl (K 1, 10, .inr (.inl r63_6.2.2))), (t_bandWorth_wayWeights, .inl (K 0, 2, .inl v_t_bandWorth_wayWeights)), (t_row, .inl (K 0, 5, .inl (upd v_t_row z1.toNatClampNeg (z5 * v_t_stepSeconds)))), (t_rowsBehind, .inl (K 1, 5, .inr (.inl v_t_rowsBehind))), (u3, .inr (2, [.ref u3_offsets, .int v_u3_cycle, .int v_u3_size, .int v_u3_aim, .int v_u3_sawAll])), (u3_offsets, .inl (K 0, 5, .inl v_u3_offsets))] H := hP
                have hD : va_D A [(t, .inr (5, [.ref t_bandWorth, .ref t_stopWorth, .ref t_row, .ref t_rowsBehind, .int v_t_size, .int v_t_cycle, .int v_t_choices, .int v_t_stepSeconds, .long (v_t_rowsLeft - (1 : Int64)), .long v_t_bestScore])), (t_bandWorth, .inr (3, [.ref t_bandWorth_openLow, .ref t_bandWorth_openHigh, .ref t_bandWorth_bandLow, .ref t_bandWorth_bandHigh, .ref t_bandWorth_wayWeights])), (t_bandWorth_openLow, .inl (K 1, 1200, .inr (.inl v_t_bandWorth_openLow))), (t_bandWorth_openHigh, .inl (K 1, 1200, .inr (.inl v_t_bandWorth_openHigh))), (t_bandWorth_bandLow, .inl (K 1, 10, .inr (.inl r63_6.2.1))), (t_bandWorth_bandHigh, .inl (K 1, 10, .inr (.inl r63_6.2.2))), (t_bandWorth_wayWeights, .inl (K 0, 2, .inl v_t_bandWorth_wayWeights)), (t_row, .inl (K 0, 5, .inl (upd v_t_row z1.toNatClampNeg (z5 * v_t_stepSeconds)))), (t_rowsBehind, .inl (K 1, 5, .inr (.inl v_t_rowsBehind))), (u3, .inr (2, [.ref u3_offsets, .int v_u3_cycle, .int v_u3_size, .int v_u3_aim, .int v_u3_sawAll])), (u3_offsets, .inl (K 0, 5, .inl v_u3_offsets))] := hD
                refine lv_aload_n hx hb d_Srch_putFrom_128 rfl (lv_at hl 4 rfl) ?_
                refine lv_aload_n hx hb d_Srch_putFrom_129 rfl (lv_at hl 1 rfl) ?_
                refine va_get (D := G) (ci := 5) (v := .int v_t_cycle) (C := R_Srch) (T := F_Srch) (N := 10) hx hb hts i_Srch hown hK hP 0 rfl rfl 5 (by decide) (hts _ lk_166) (fun _ h9 => h9) rfl d_Srch_putFrom_130 ?_
                refine lv_aload_n hx hb d_Srch_putFrom_133 rfl (lv_at hl 1 rfl) ?_
                refine va_get (D := G) (ci := 5) (v := .int v_t_size) (C := R_Srch) (T := F_Srch) (N := 10) hx hb hts i_Srch hown hK hP 0 rfl rfl 4 (by decide) (hts _ lk_168) (fun _ h9 => h9) rfl d_Srch_putFrom_134 ?_
                refine lv_aload_n hx hb d_Srch_putFrom_137 rfl (lv_at hl 1 rfl) ?_
                refine va_get (D := G) (ci := 5) (v := .ref t_row) (C := R_Srch) (T := F_Srch) (N := 10) hx hb hts i_Srch hown hK hP 0 rfl rfl 2 (by decide) (hts _ lk_178) (fun _ h9 => h9) rfl d_Srch_putFrom_138 ?_
                obtain ⟨r141_10, hC, hF⟩ := dk_b hF
                refine dk_mutv (wr := [(t, .inr (5, [.ref t_bandWorth, .ref t_stopWorth, .ref t_row, .ref t_rowsBehind, .int v_t_size, .int v_t_cycle, .int v_t_choices, .int v_t_stepSeconds, .long (v_t_rowsLeft - (1 : Int64)), .long v_t_bestScore])), (t_bandWorth, .inr (3, [.ref t_bandWorth_openLow, .ref t_bandWorth_openHigh, .ref t_bandWorth_bandLow, .ref t_bandWorth_bandHigh, .ref t_bandWorth_wayWeights])), (t_bandWorth_openLow, .inl (K 1, 1200, .inr (.inl v_t_bandWorth_openLow))), (t_bandWorth_openHigh, .inl (K 1, 1200, .inr (.inl v_t_bandWorth_openHigh))), (t_bandWorth_bandLow, .inl (K 1, 10, .inr (.inl r63_6.2.1))), (t_bandWorth_bandHigh, .inl (K 1, 10, .inr (.inl r63_6.2.2))), (t_bandWorth_wayWeights, .inl (K 0, 2, .inl v_t_bandWorth_wayWeights)), (t_rowsBehind, .inl (K 1, 5, .inr (.inl v_t_rowsBehind)))]) (va_runV (As := [.int v_t_cycle, .int v_t_size, .ref t_row]) (rest := []) hfix (c_Plan_set l G K n H.size u3 u3_offsets t_row v_t_cycle v_t_size v_u3_cycle v_u3_size v_u3_aim v_u3_sawAll v_u3_offsets (upd v_t_row z1.toNatClampNeg (z5 * v_t_stepSeconds)) r141_10 hC) (cwV 3 hts (gd_V lk_190 lk_192 lk_193 lk_94 lk_191) rfl rfl rfl (by decide +kernel) ⟨by dsimp only [m_Srch_putFrom_band, m_Plan_set]; omega, by dsimp only [m_Srch_putFrom_band, m_Plan_set]; omega⟩) (dk_preVm hK hN (hP.sub [9, 10, 7] rfl) (hD.sub [9, 10, 7] (by decide) rfl) (va_recv hK hP (ci := 2) (q0 := 9) rfl rfl)) rfl rfl hl.1 rfl (lv_room (Nat.le_of_ble_eq_true rfl)) d_Srch_putFrom_141 ⟨Nat.le_of_ble_eq_true rfl, Nat.le_of_ble_eq_true rfl⟩) hS hA hP hD [9, 10, 7] [0, 1, 2, 3, 4, 5, 6, 8] rfl rfl (by decide) (by decide) (fun _ H locs hP hD hS => ?_)
                have hP : va_P G classes [(t, .inr (5, [.ref t_bandWorth, .ref t_stopWorth, .ref t_row, .ref t_rowsBehind, .int v_t_size, .int v_t_cycle, .int v_t_choices, .int v_t_stepSeconds, .long (v_t_rowsLeft - (1 : Int64)), .long v_t_bestScore])), (t_bandWorth, .inr (3, [.ref t_bandWorth_openLow, .ref t_bandWorth_openHigh, .ref t_bandWorth_bandLow, .ref t_bandWorth_bandHigh, .ref t_bandWorth_wayWeights])), (t_bandWorth_openLow, .inl (K 1, 1200, .inr (.inl v_t_bandWorth_openLow))), (t_bandWorth_openHigh, .inl (K 1, 1200, .inr (.inl v_t_bandWorth_openHigh))), (t_bandWorth_bandLow, .inl (K 1, 10, .inr (.inl r63_6.2.1))), (t_bandWorth_bandHigh, .inl (K 1, 10, .inr (.inl r63_6.2.2))), (t_bandWorth_wayWeights, .inl (K 0, 2, .inl v_t_bandWorth_wayWeights)), (t_row, .inl (K 0, 5, .inl (upd v_t_row z1.toNatClampNeg (z5 * v_t_stepSeconds)))), (t_rowsBehind, .inl (K 1, 5, .inr (.inl v_t_rowsBehind))), (u3, .inr (2, [.ref u3_offsets, .int r141_10.1, .int r141_10.2.1, .int v_u3_aim, .int v_u3_sawAll])), (u3_offsets, .inl (K 0, 5, .inl r141_10.2.2))] H := hP.sub [0, 1, 2, 3, 4, 5, 6, 10, 7, 8, 9] rfl
                have hD : va_D A [(t, .inr (5, [.ref t_bandWorth, .ref t_stopWorth, .ref t_row, .ref t_rowsBehind, .int v_t_size, .int v_t_cycle, .int v_t_choices, .int v_t_stepSeconds, .long (v_t_rowsLeft - (1 : Int64)), .long v_t_bestScore])), (t_bandWorth, .inr (3, [.ref t_bandWorth_openLow, .ref t_bandWorth_openHigh, .ref t_bandWorth_bandLow, .ref t_bandWorth_bandHigh, .ref t_bandWorth_wayWeights])), (t_bandWorth_openLow, .inl (K 1, 1200, .inr (.inl v_t_bandWorth_openLow))), (t_bandWorth_openHigh, .inl (K 1, 1200, .inr (.inl v_t_bandWorth_openHigh))), (t_bandWorth_bandLow, .inl (K 1, 10, .inr (.inl r63_6.2.1))), (t_bandWorth_bandHigh, .inl (K 1, 10, .inr (.inl r63_6.2.2))), (t_bandWorth_wayWeights, .inl (K 0, 2, .inl v_t_bandWorth_wayWeights)), (t_row, .inl (K 0, 5, .inl (upd v_t_row z1.toNatClampNeg (z5 * v_t_stepSeconds)))), (t_rowsBehind, .inl (K 1, 5, .inr (.inl v_t_rowsBehind))), (u3, .inr (2, [.ref u3_offsets, .int r141_10.1, .int r141_10.2.1, .int v_u3_aim, .int v_u3_sawAll])), (u3_offsets, .inl (K 0, 5, .inl r141_10.2.2))] := hD.sub [0, 1, 2, 3, 4, 5, 6, 10, 7, 8, 9] (by decide) rfl
                refine lv_aload_n hx hb d_Srch_putFrom_144 rfl (lv_at hl 1 rfl) ?_
                refine lv_lload hx hb d_Srch_putFrom_145 (lv_at hl 0 rfl) ?_
                refine va_put (D := G) (ci := 5) (v := .long r63_6.1) (ty := .long) (C := R_Srch) (T := F_Srch) (N := 10) hx hb hts i_Srch t_Srch t_Srch_ok n_Srch hown hK hP hD hS 0 rfl rfl 9 (by decide) (hts _ lk_165) (fun _ h9 => h9) rfl (by decide +kernel) rfl rfl (Nat.le_of_ble_eq_true rfl) d_Srch_putFrom_147 (fun H locs hP hD hS => ?_)
                have hP : va_P G classes [(t, .inr (5, [.ref t_bandWorth, .ref t_stopWorth, .ref t_row, .ref t_rowsBehind, .int v_t_size, .int v_t_cycle, .int v_t_choices, .int v_t_stepSeconds, .long (v_t_rowsLeft - (1 : Int64)), .long r63_6.1])), (t_bandWorth, .inr (3, [.ref t_bandWorth_openLow, .ref t_bandWorth_openHigh, .ref t_bandWorth_bandLow, .ref t_bandWorth_bandHigh, .ref t_bandWorth_wayWeights])), (t_bandWorth_openLow, .inl (K 1, 1200, .inr (.inl v_t_bandWorth_openLow))), (t_bandWorth_openHigh, .inl (K 1, 1200, .inr (.inl v_t_bandWorth_openHigh))), (t_bandWorth_bandLow, .inl (K 1, 10, .inr (.inl r63_6.2.1))), (t_bandWorth_bandHigh, .inl (K 1, 10, .inr (.inl r63_6.2.2))), (t_bandWorth_wayWeights, .inl (K 0, 2, .inl v_t_bandWorth_wayWeights)), (t_row, .inl (K 0, 5, .inl (upd v_t_row z1.toNatClampNeg (z5 * v_t_stepSeconds)))), (t_rowsBehind, .inl (K 1, 5, .inr (.inl v_t_rowsBehind))), (u3, .inr (2, [.ref u3_offsets, .int r141_10.1, .int r141_10.2.1, .int v_u3_aim, .int v_u3_sawAll])), (u3_offsets, .inl (K 0, 5, .inl r141_10.2.2))] H := hP
                have hD : va_D A [(t, .inr (5, [.ref t_bandWorth, .ref t_stopWorth, .ref t_row, .ref t_rowsBehind, .int v_t_size, .int v_t_cycle, .int v_t_choices, .int v_t_stepSeconds, .long (v_t_rowsLeft - (1 : Int64)), .long r63_6.1])), (t_bandWorth, .inr (3, [.ref t_bandWorth_openLow, .ref t_bandWorth_openHigh, .ref t_bandWorth_bandLow, .ref t_bandWorth_bandHigh, .ref t_bandWorth_wayWeights])), (t_bandWorth_openLow, .inl (K 1, 1200, .inr (.inl v_t_bandWorth_openLow))), (t_bandWorth_openHigh, .inl (K 1, 1200, .inr (.inl v_t_bandWorth_openHigh))), (t_bandWorth_bandLow, .inl (K 1, 10, .inr (.inl r63_6.2.1))), (t_bandWorth_bandHigh, .inl (K 1, 10, .inr (.inl r63_6.2.2))), (t_bandWorth_wayWeights, .inl (K 0, 2, .inl v_t_bandWorth_wayWeights)), (t_row, .inl (K 0, 5, .inl (upd v_t_row z1.toNatClampNeg (z5 * v_t_stepSeconds)))), (t_rowsBehind, .inl (K 1, 5, .inr (.inl v_t_rowsBehind))), (u3, .inr (2, [.ref u3_offsets, .int r141_10.1, .int r141_10.2.1, .int v_u3_aim, .int v_u3_sawAll])), (u3_offsets, .inl (K 0, 5, .inl r141_10.2.2))] := hD
                refine lv_iinc (v := z5 + (1 : Int32)) (lv' := [(5, .int (z5 + (1 : Int32))), (6, .long r63_6.1), (0, .ref t), (1, .int z1), (2, .ref t_bandWorth), (3, .ref u3), (4, .int z4)]) hx hb d_Srch_putFrom_150 hl (k := 6) rfl rfl (by decide) rfl (fun ls hl => ?_)
                refine lv_goto (tgt := 30) hx hb d_Srch_putFrom_153 (by decide) ?_
                exact jh z1 z4 (z5 + (1 : Int32)) (v_t_rowsLeft - (1 : Int64)) r63_6.1 r63_6.2.1 r63_6.2.2 (upd v_t_row z1.toNatClampNeg (z5 * v_t_stepSeconds)) r141_10.1 r141_10.2.1 r141_10.2.2 H locs q hF hP hD hS ls (lv_sub hl [2, 3, 4, 5, 6, 0] rfl) hk
              · have hF := dk_f c103_9 hF
                refine lv_aload_n hx hb d_Srch_putFrom_106 rfl (lv_at hl 1 rfl) ?_
                refine lv_iload_n hx hb d_Srch_putFrom_107 rfl (lv_at hl 2 rfl) ?_
                refine lv_iconst (v := (1 : Int32)) hx hb d_Srch_putFrom_108 (by decide) ?_
                refine lv_iadd hx hb d_Srch_putFrom_109 ?_
                refine lv_aload_n hx hb d_Srch_putFrom_110 rfl (lv_at hl 3 rfl) ?_
                refine lv_aload_n hx hb d_Srch_putFrom_111 rfl (lv_at hl 4 rfl) ?_
                obtain ⟨r112_11, hC, hF⟩ := dk_b hF
                refine dk_mutv (wr := []) (va_runV (As := [.int (z1 + (1 : Int32)), .ref t_bandWorth, .ref u3]) (rest := []) hfix (ih H.size (z1 + (1 : Int32)) v_t_size v_t_cycle v_t_choices v_t_stepSeconds v_t_rowsLeft v_t_bestScore v_t_bandWorth_openLow v_t_bandWorth_openHigh r63_6.2.1 r63_6.2.2 v_t_bandWorth_wayWeights (upd v_t_row z1.toNatClampNeg (z5 * v_t_stepSeconds)) v_t_rowsBehind v_u3_cycle v_u3_size v_u3_aim v_u3_sawAll v_u3_offsets r112_11 hC) (cwV 3 hts (gd_V lk_194 lk_196 lk_197 lk_189 lk_195) rfl rfl rfl (by decide +kernel) ⟨by dsimp only [m_Srch_putFrom_band, m_Srch_putFrom_band]; omega, by dsimp only [m_Srch_putFrom_band, m_Srch_putFrom_band]; omega⟩) (dk_preVm hK hN (hP.sub [0, 1, 2, 3, 4, 5, 6, 7, 8, 9, 10] rfl) (hD.sub [0, 1, 2, 3, 4, 5, 6, 7, 8, 9, 10] (by decide) rfl) (va_recv hK hP (ci := 5) (q0 := 0) rfl rfl)) rfl rfl hl.1 rfl (lv_room (Nat.le_of_ble_eq_true rfl)) d_Srch_putFrom_112 ⟨Nat.le_of_ble_eq_true rfl, Nat.le_of_ble_eq_true rfl⟩) hS hA hP hD [0, 1, 2, 3, 4, 5, 6, 7, 8, 9, 10] [] rfl rfl (by decide) (by decide) (fun _ H locs hP hD hS => ?_)
                have hP : va_P G classes [(t, .inr (5, [.ref t_bandWorth, .ref t_stopWorth, .ref t_row, .ref t_rowsBehind, .int v_t_size, .int v_t_cycle, .int v_t_choices, .int v_t_stepSeconds, .long r112_11.1, .long r112_11.2.1])), (t_bandWorth, .inr (3, [.ref t_bandWorth_openLow, .ref t_bandWorth_openHigh, .ref t_bandWorth_bandLow, .ref t_bandWorth_bandHigh, .ref t_bandWorth_wayWeights])), (t_bandWorth_openLow, .inl (K 1, 1200, .inr (.inl v_t_bandWorth_openLow))), (t_bandWorth_openHigh, .inl (K 1, 1200, .inr (.inl v_t_bandWorth_openHigh))), (t_bandWorth_bandLow, .inl (K 1, 10, .inr (.inl r112_11.2.2.1))), (t_bandWorth_bandHigh, .inl (K 1, 10, .inr (.inl r112_11.2.2.2.1))), (t_bandWorth_wayWeights, .inl (K 0, 2, .inl v_t_bandWorth_wayWeights)), (t_row, .inl (K 0, 5, .inl r112_11.2.2.2.2.1)), (t_rowsBehind, .inl (K 1, 5, .inr (.inl v_t_rowsBehind))), (u3, .inr (2, [.ref u3_offsets, .int r112_11.2.2.2.2.2.1, .int r112_11.2.2.2.2.2.2.1, .int v_u3_aim, .int v_u3_sawAll])), (u3_offsets, .inl (K 0, 5, .inl r112_11.2.2.2.2.2.2.2))] H := hP.sub [0, 1, 2, 3, 4, 5, 6, 7, 8, 9, 10] rfl
                have hD : va_D A [(t, .inr (5, [.ref t_bandWorth, .ref t_stopWorth, .ref t_row, .ref t_rowsBehind, .int v_t_size, .int v_t_cycle, .int v_t_choices, .int v_t_stepSeconds, .long r112_11.1, .long r112_11.2.1])), (t_bandWorth, .inr (3, [.ref t_bandWorth_openLow, .ref t_bandWorth_openHigh, .ref t_bandWorth_bandLow, .ref t_bandWorth_bandHigh, .ref t_bandWorth_wayWeights])), (t_bandWorth_openLow, .inl (K 1, 1200, .inr (.inl v_t_bandWorth_openLow))), (t_bandWorth_openHigh, .inl (K 1, 1200, .inr (.inl v_t_bandWorth_openHigh))), (t_bandWorth_bandLow, .inl (K 1, 10, .inr (.inl r112_11.2.2.1))), (t_bandWorth_bandHigh, .inl (K 1, 10, .inr (.inl r112_11.2.2.2.1))), (t_bandWorth_wayWeights, .inl (K 0, 2, .inl v_t_bandWorth_wayWeights)), (t_row, .inl (K 0, 5, .inl r112_11.2.2.2.2.1)), (t_rowsBehind, .inl (K 1, 5, .inr (.inl v_t_rowsBehind))), (u3, .inr (2, [.ref u3_offsets, .int r112_11.2.2.2.2.2.1, .int r112_11.2.2.2.2.2.2.1, .int v_u3_aim, .int v_u3_sawAll])), (u3_offsets, .inl (K 0, 5, .inl r112_11.2.2.2.2.2.2.2))] := hD.sub [0, 1, 2, 3, 4, 5, 6, 7, 8, 9, 10] (by decide) rfl
                refine lv_goto (tgt := 150) hx hb d_Srch_putFrom_115 (by decide) ?_
                refine lv_iinc (v := z5 + (1 : Int32)) (lv' := [(5, .int (z5 + (1 : Int32))), (6, .long r63_6.1), (0, .ref t), (1, .int z1), (2, .ref t_bandWorth), (3, .ref u3), (4, .int z4)]) hx hb d_Srch_putFrom_150 hl (k := 6) rfl rfl (by decide) rfl (fun ls hl => ?_)
                refine lv_goto (tgt := 30) hx hb d_Srch_putFrom_153 (by decide) ?_
                exact jh z1 z4 (z5 + (1 : Int32)) r112_11.1 r112_11.2.1 r112_11.2.2.1 r112_11.2.2.2.1 r112_11.2.2.2.2.1 r112_11.2.2.2.2.2.1 r112_11.2.2.2.2.2.2.1 r112_11.2.2.2.2.2.2.2 H locs q hF hP hD hS ls (lv_sub hl [2, 3, 4, 5, 6, 0] rfl) hk
            · have hF := dk_t c75_8 hF
              refine lv_aload_n hx hb d_Srch_putFrom_78 rfl (lv_at hl 1 rfl) ?_
              refine lv_dup hx hb d_Srch_putFrom_79 rfl ?_
              refine va_get (D := G) (ci := 5) (v := .long v_t_rowsLeft) (C := R_Srch) (T := F_Srch) (N := 10) hx hb hts i_Srch hown hK hP 0 rfl rfl 8 (by decide) (hts _ lk_177) (fun _ h9 => h9) rfl d_Srch_putFrom_80 ?_
              refine lv_aload_n hx hb d_Srch_putFrom_83 rfl (lv_at hl 1 rfl) ?_
              refine va_get (D := G) (ci := 5) (v := .ref t_rowsBehind) (C := R_Srch) (T := F_Srch) (N := 10) hx hb hts i_Srch hown hK hP 0 rfl rfl 3 (by decide) (hts _ lk_173) (fun _ h9 => h9) rfl d_Srch_putFrom_84 ?_
              refine lv_iload_n hx hb d_Srch_putFrom_87 rfl (lv_at hl 2 rfl) ?_
              obtain ⟨hi, hF⟩ := dk_a hF
              refine va_lald (D := G) hx hb hK hP 8 1 rfl rfl (dk_vp hi) d_Srch_putFrom_88 ?_
              refine lv_lsub hx hb d_Srch_putFrom_89 ?_
              refine va_put (D := G) (ci := 5) (v := .long (v_t_rowsLeft - (v_t_rowsBehind z1.toNatClampNeg))) (ty := .long) (C := R_Srch) (T := F_Srch) (N := 10) hx hb hts i_Srch t_Srch t_Srch_ok n_Srch hown hK hP hD hS 0 rfl rfl 8 (by decide) (hts _ lk_177) (fun _ h9 => h9) rfl (by decide +kernel) rfl rfl (Nat.le_of_ble_eq_true rfl) d_Srch_putFrom_90 (fun H locs hP hD hS => ?_)
              have hP : va_P G classes [(t, .inr (5, [.ref t_bandWorth, .ref t_stopWorth, .ref t_row, .ref t_rowsBehind, .int v_t_size, .int v_t_cycle, .int v_t_choices, .int v_t_stepSeconds, .long (v_t_rowsLeft - (v_t_rowsBehind z1.toNatClampNeg)), .long v_t_bestScore])), (t_bandWorth, .inr (3, [.ref t_bandWorth_openLow, .ref t_bandWorth_openHigh, .ref t_bandWorth_bandLow, .ref t_bandWorth_bandHigh, .ref t_bandWorth_wayWeights])), (t_bandWorth_openLow, .inl (K 1, 1200, .inr (.inl v_t_bandWorth_openLow))), (t_bandWorth_openHigh, .inl (K 1, 1200, .inr (.inl v_t_bandWorth_openHigh))), (t_bandWorth_bandLow, .inl (K 1, 10, .inr (.inl r63_6.2.1))), (t_bandWorth_bandHigh, .inl (K 1, 10, .inr (.inl r63_6.2.2))), (t_bandWorth_wayWeights, .inl (K 0, 2, .inl v_t_bandWorth_wayWeights)), (t_row, .inl (K 0, 5, .inl (upd v_t_row z1.toNatClampNeg (z5 * v_t_stepSeconds)))), (t_rowsBehind, .inl (K 1, 5, .inr (.inl v_t_rowsBehind))), (u3, .inr (2, [.ref u3_offsets, .int v_u3_cycle, .int v_u3_size, .int v_u3_aim, .int v_u3_sawAll])), (u3_offsets, .inl (K 0, 5, .inl v_u3_offsets))] H := hP
              have hD : va_D A [(t, .inr (5, [.ref t_bandWorth, .ref t_stopWorth, .ref t_row, .ref t_rowsBehind, .int v_t_size, .int v_t_cycle, .int v_t_choices, .int v_t_stepSeconds, .long (v_t_rowsLeft - (v_t_rowsBehind z1.toNatClampNeg)), .long v_t_bestScore])), (t_bandWorth, .inr (3, [.ref t_bandWorth_openLow, .ref t_bandWorth_openHigh, .ref t_bandWorth_bandLow, .ref t_bandWorth_bandHigh, .ref t_bandWorth_wayWeights])), (t_bandWorth_openLow, .inl (K 1, 1200, .inr (.inl v_t_bandWorth_openLow))), (t_bandWorth_openHigh, .inl (K 1, 1200, .inr (.inl v_t_bandWorth_openHigh))), (t_bandWorth_bandLow, .inl (K 1, 10, .inr (.inl r63_6.2.1))), (t_bandWorth_bandHigh, .inl (K 1, 10, .inr (.inl r63_6.2.2))), (t_bandWorth_wayWeights, .inl (K 0, 2, .inl v_t_bandWorth_wayWeights)), (t_row, .inl (K 0, 5, .inl (upd v_t_row z1.toNatClampNeg (z5 * v_t_stepSeconds)))), (t_rowsBehind, .inl (K 1, 5, .inr (.inl v_t_rowsBehind))), (u3, .inr (2, [.ref u3_offsets, .int v_u3_cycle, .int v_u3_size, .int v_u3_aim, .int v_u3_sawAll])), (u3_offsets, .inl (K 0, 5, .inl v_u3_offsets))] := hD
              refine lv_goto (tgt := 150) hx hb d_Srch_putFrom_93 (by decide) ?_
              refine lv_iinc (v := z5 + (1 : Int32)) (lv' := [(5, .int (z5 + (1 : Int32))), (6, .long r63_6.1), (0, .ref t), (1, .int z1), (2, .ref t_bandWorth), (3, .ref u3), (4, .int z4)]) hx hb d_Srch_putFrom_150 hl (k := 6) rfl rfl (by decide) rfl (fun ls hl => ?_)
              refine lv_goto (tgt := 30) hx hb d_Srch_putFrom_153 (by decide) ?_
              exact jh z1 z4 (z5 + (1 : Int32)) (v_t_rowsLeft - (v_t_rowsBehind z1.toNatClampNeg)) v_t_bestScore r63_6.2.1 r63_6.2.2 (upd v_t_row z1.toNatClampNeg (z5 * v_t_stepSeconds)) v_u3_cycle v_u3_size v_u3_offsets H locs q hF hP hD hS ls (lv_sub hl [2, 3, 4, 5, 6, 0] rfl) hk
    have hF := (q_Srch_putFrom_band n d x1 v_t_choices v_t_stepSeconds v_t_bandWorth_openLow v_t_bandWorth_openHigh v_t_bandWorth_wayWeights v_t_cycle v_t_size v_t_rowsBehind v_t_rowsLeft v_t_bestScore v_t_bandWorth_bandLow v_t_bandWorth_bandHigh v_t_row v_u3_cycle v_u3_size v_u3_offsets).symm.trans hF
    refine lv_iload_n hx hb d_Srch_putFrom_0 rfl (lv_at hl 1 rfl) ?_
    refine lv_i2l hx hb d_Srch_putFrom_1 rfl ?_
    refine lv_lconst (v := (0 : Int64)) hx hb d_Srch_putFrom_2 (by decide) ?_
    refine lv_ldc2 (own := R_Srch) (index := 95) (v := (4 : Int64)) hx hb hown (hts _ lk_175) d_Srch_putFrom_3 ?_
    obtain ⟨r6_1, hC, hF⟩ := dk_b hF
    refine dk_pure (va_runSN (As := [.long x1.toInt64, .long (0 : Int64), .long (4 : Int64)]) (rest := []) hfix (c_WO_within l G K n x1.toInt64 (0 : Int64) (4 : Int64) r6_1 hC) (⟨va_cnB 3 hts (gd_w lk_136) rfl rfl rfl (hN.1 _ lk_176) (hts _ lk_16) (by decide +kernel) ⟨by dsimp only [m_Srch_putFrom_band, m_WO_within]; omega, by dsimp only [m_Srch_putFrom_band, m_WO_within]; omega⟩, hts _ lk_137, trivial⟩) (dk_preS hK hN (hP.sub [] rfl)) rfl rfl hl.1 rfl (lv_room (Nat.le_of_ble_eq_true rfl)) d_Srch_putFrom_6 ⟨Nat.le_of_ble_eq_true rfl, Nat.le_of_ble_eq_true rfl⟩) ?_
    refine lv_if_ne (tgt := 13) hx hb d_Srch_putFrom_9 (by decide) (fun c9_2 => ?_) (fun c9_2 => ?_)
    · have hF := dk_f c9_2 hF
      refine lv_iload_n hx hb d_Srch_putFrom_13 rfl (lv_at hl 1 rfl) ?_
      refine lv_if_ne (tgt := 21) hx hb d_Srch_putFrom_14 (by decide) (fun c14_3 => ?_) (fun c14_3 => ?_)
      · have hF := dk_f c14_3 hF
        refine lv_aload_n hx hb d_Srch_putFrom_21 rfl (lv_at hl 0 rfl) ?_
        refine va_get (D := G) (ci := 5) (v := .int v_t_choices) (C := R_Srch) (T := F_Srch) (N := 10) hx hb hts i_Srch hown hK hP 0 rfl rfl 6 (by decide) (hts _ lk_170) (fun _ h9 => h9) rfl d_Srch_putFrom_22 ?_
        refine lv_istore (lv' := [(4, .int v_t_choices), (0, .ref t), (1, .int x1), (2, .ref t_bandWorth), (3, .ref u3)]) hx hb d_Srch_putFrom_25 hl (by decide) rfl (fun ls hl => ?_)
        refine lv_iconst (v := (0 : Int32)) hx hb d_Srch_putFrom_27 (by decide) ?_
        refine lv_istore (lv' := [(5, .int (0 : Int32)), (4, .int v_t_choices), (0, .ref t), (1, .int x1), (2, .ref t_bandWorth), (3, .ref u3)]) hx hb d_Srch_putFrom_28 hl (by decide) rfl (fun ls hl => ?_)
        obtain ⟨q30_12, hC, hF⟩ := dk_b hF
        refine L30 n x1 v_t_choices (0 : Int32) v_t_rowsLeft v_t_bestScore v_t_bandWorth_bandLow v_t_bandWorth_bandHigh v_t_row v_u3_cycle v_u3_size v_u3_offsets s.heap [] q30_12 hC hP hD hS ls (lv_sub hl [2, 3, 4, 5, 1, 0] rfl) (fun H locs ls hP hD hS hl => ?_)
        obtain rfl := Option.some.inj hF
        exact W.vret hx hb hr (fun t ht hW => ⟨⟨(), rfl, by rw [ht]; exact hP, hD⟩, hS.F ht⟩) hS.2.2 d_Srch_putFrom_156
      · have hF := dk_t c14_3 hF
        refine lv_iconst (v := (1 : Int32)) hx hb d_Srch_putFrom_17 (by decide) ?_
        refine lv_goto (tgt := 25) hx hb d_Srch_putFrom_18 (by decide) ?_
        refine lv_istore (lv' := [(4, .int (1 : Int32)), (0, .ref t), (1, .int x1), (2, .ref t_bandWorth), (3, .ref u3)]) hx hb d_Srch_putFrom_25 hl (by decide) rfl (fun ls hl => ?_)
        refine lv_iconst (v := (0 : Int32)) hx hb d_Srch_putFrom_27 (by decide) ?_
        refine lv_istore (lv' := [(5, .int (0 : Int32)), (4, .int (1 : Int32)), (0, .ref t), (1, .int x1), (2, .ref t_bandWorth), (3, .ref u3)]) hx hb d_Srch_putFrom_28 hl (by decide) rfl (fun ls hl => ?_)
        obtain ⟨q30_13, hC, hF⟩ := dk_b hF
        refine L30 n x1 (1 : Int32) (0 : Int32) v_t_rowsLeft v_t_bestScore v_t_bandWorth_bandLow v_t_bandWorth_bandHigh v_t_row v_u3_cycle v_u3_size v_u3_offsets s.heap [] q30_13 hC hP hD hS ls (lv_sub hl [2, 3, 4, 5, 1, 0] rfl) (fun H locs ls hP hD hS hl => ?_)
        obtain rfl := Option.some.inj hF
        exact W.vret hx hb hr (fun t ht hW => ⟨⟨(), rfl, by rw [ht]; exact hP, hD⟩, hS.F ht⟩) hS.2.2 d_Srch_putFrom_156
    · have hF := dk_t c9_2 hF
      obtain rfl := Option.some.inj hF
      exact W.vret hx hb hr (fun t ht hW => ⟨⟨(), rfl, by rw [ht]; exact hP, hD⟩, hS.F ht⟩) hS.2.2 d_Srch_putFrom_12
def p_Srch_putFrom_stop_30 (n : Nat) (rc : Int32 → Int32 → Int32 → Int32 → Int32 → (Nat → Int32) → Int32 → Int32 → (Nat → Int64) → Int64 → Int64 → (Nat → Int64) → (Nat → Int32) → (Nat → Int32) → Int32 → Int32 → (Nat → Int32) → Option (Int64 × Int64 × (Nat → Int64) × (Nat → Int32) × (Nat → Int32) × Int32 × Int32 × (Nat → Int32))) : Nat → Int32 → Int32 → Int32 → Int32 → (Nat → Int32) → Int32 → Int32 → (Nat → Int64) → Int32 → Int32 → Int32 → Int64 → Int64 → (Nat → Int64) → (Nat → Int32) → (Nat → Int32) → Int32 → Int32 → (Nat → Int32) → Option (Int64 × Int64 × (Nat → Int64) × (Nat → Int32) × (Nat → Int32) × Int32 × Int32 × (Nat → Int32))
  | 0, _, _, _, _, _, _, _, _, _, _, _, _, _, _, _, _, _, _, _ => none
  | k + 1, v_t_choices, v_t_stepSeconds, v_t_stopWorth_stepSeconds, v_t_stopWorth_cycle, v_t_stopWorth_stopsApart, v_t_cycle, v_t_size, v_t_rowsBehind, z1, z4, z5, v_t_rowsLeft, v_t_bestScore, v_t_stopWorth_stopsTo, v_t_stopWorth_offsets, v_t_row, v_u3_cycle, v_u3_size, v_u3_offsets =>
    if z4 ≤ z5 then
      some (v_t_rowsLeft, v_t_bestScore, v_t_stopWorth_stopsTo, v_t_stopWorth_offsets, v_t_row, v_u3_cycle, v_u3_size, v_u3_offsets)
    else
      if (lg_cmp v_t_rowsLeft (0 : Int64)) ≤ 0 then
        some (v_t_rowsLeft, v_t_bestScore, v_t_stopWorth_stopsTo, v_t_stopWorth_offsets, v_t_row, v_u3_cycle, v_u3_size, v_u3_offsets)
      else
        if dk_in z1 5 = true then
          (p_Stop_put n z1 z5 v_t_stopWorth_stepSeconds v_t_stopWorth_cycle v_t_stopWorth_stopsApart v_t_stopWorth_stopsTo v_t_stopWorth_offsets).bind fun r63_6 =>
          (p_Srch_beats n r63_6.1 v_u3_cycle v_t_bestScore v_t_cycle).bind fun r72_7 =>
          if r72_7 = 0 then
            if dk_in z1 5 = true then
              p_Srch_putFrom_stop_30 n rc k v_t_choices v_t_stepSeconds v_t_stopWorth_stepSeconds v_t_stopWorth_cycle v_t_stopWorth_stopsApart v_t_cycle v_t_size v_t_rowsBehind z1 z4 (z5 + (1 : Int32)) (v_t_rowsLeft - (v_t_rowsBehind z1.toNatClampNeg)) v_t_bestScore r63_6.2.1 r63_6.2.2 (upd v_t_row z1.toNatClampNeg (z5 * v_t_stepSeconds)) v_u3_cycle v_u3_size v_u3_offsets
            else none
          else
            if (v_t_size - (1 : Int32)) ≤ z1 then
              (p_Plan_set n v_t_cycle v_t_size (upd v_t_row z1.toNatClampNeg (z5 * v_t_stepSeconds)) v_u3_cycle v_u3_size v_u3_offsets).bind fun r141_10 =>
              p_Srch_putFrom_stop_30 n rc k v_t_choices v_t_stepSeconds v_t_stopWorth_stepSeconds v_t_stopWorth_cycle v_t_stopWorth_stopsApart v_t_cycle v_t_size v_t_rowsBehind z1 z4 (z5 + (1 : Int32)) (v_t_rowsLeft - (1 : Int64)) r63_6.1 r63_6.2.1 r63_6.2.2 (upd v_t_row z1.toNatClampNeg (z5 * v_t_stepSeconds)) r141_10.1 r141_10.2.1 r141_10.2.2
            else
              (rc (z1 + (1 : Int32)) v_t_choices v_t_stepSeconds v_t_stopWorth_stepSeconds v_t_stopWorth_cycle v_t_stopWorth_stopsApart v_t_cycle v_t_size v_t_rowsBehind v_t_rowsLeft v_t_bestScore r63_6.2.1 r63_6.2.2 (upd v_t_row z1.toNatClampNeg (z5 * v_t_stepSeconds)) v_u3_cycle v_u3_size v_u3_offsets).bind fun r112_11 =>
              p_Srch_putFrom_stop_30 n rc k v_t_choices v_t_stepSeconds v_t_stopWorth_stepSeconds v_t_stopWorth_cycle v_t_stopWorth_stopsApart v_t_cycle v_t_size v_t_rowsBehind z1 z4 (z5 + (1 : Int32)) r112_11.1 r112_11.2.1 r112_11.2.2.1 r112_11.2.2.2.1 r112_11.2.2.2.2.1 r112_11.2.2.2.2.2.1 r112_11.2.2.2.2.2.2.1 r112_11.2.2.2.2.2.2.2
        else none
theorem q_Srch_putFrom_stop_30 (n : Nat) (rc : Int32 → Int32 → Int32 → Int32 → Int32 → (Nat → Int32) → Int32 → Int32 → (Nat → Int64) → Int64 → Int64 → (Nat → Int64) → (Nat → Int32) → (Nat → Int32) → Int32 → Int32 → (Nat → Int32) → Option (Int64 × Int64 × (Nat → Int64) × (Nat → Int32) × (Nat → Int32) × Int32 × Int32 × (Nat → Int32))) (k : Nat) (v_t_choices : Int32) (v_t_stepSeconds : Int32) (v_t_stopWorth_stepSeconds : Int32) (v_t_stopWorth_cycle : Int32) (v_t_stopWorth_stopsApart : Nat → Int32) (v_t_cycle : Int32) (v_t_size : Int32) (v_t_rowsBehind : Nat → Int64) (z1 : Int32) (z4 : Int32) (z5 : Int32) (v_t_rowsLeft : Int64) (v_t_bestScore : Int64) (v_t_stopWorth_stopsTo : Nat → Int64) (v_t_stopWorth_offsets : Nat → Int32) (v_t_row : Nat → Int32) (v_u3_cycle : Int32) (v_u3_size : Int32) (v_u3_offsets : Nat → Int32) : p_Srch_putFrom_stop_30 n rc (k + 1) v_t_choices v_t_stepSeconds v_t_stopWorth_stepSeconds v_t_stopWorth_cycle v_t_stopWorth_stopsApart v_t_cycle v_t_size v_t_rowsBehind z1 z4 z5 v_t_rowsLeft v_t_bestScore v_t_stopWorth_stopsTo v_t_stopWorth_offsets v_t_row v_u3_cycle v_u3_size v_u3_offsets =
    if z4 ≤ z5 then
      some (v_t_rowsLeft, v_t_bestScore, v_t_stopWorth_stopsTo, v_t_stopWorth_offsets, v_t_row, v_u3_cycle, v_u3_size, v_u3_offsets)
    else
      if (lg_cmp v_t_rowsLeft (0 : Int64)) ≤ 0 then
        some (v_t_rowsLeft, v_t_bestScore, v_t_stopWorth_stopsTo, v_t_stopWorth_offsets, v_t_row, v_u3_cycle, v_u3_size, v_u3_offsets)
      else
        if dk_in z1 5 = true then
          (p_Stop_put n z1 z5 v_t_stopWorth_stepSeconds v_t_stopWorth_cycle v_t_stopWorth_stopsApart v_t_stopWorth_stopsTo v_t_stopWorth_offsets).bind fun r63_6 =>
          (p_Srch_beats n r63_6.1 v_u3_cycle v_t_bestScore v_t_cycle).bind fun r72_7 =>
          if r72_7 = 0 then
            if dk_in z1 5 = true then
              p_Srch_putFrom_stop_30 n rc k v_t_choices v_t_stepSeconds v_t_stopWorth_stepSeconds v_t_stopWorth_cycle v_t_stopWorth_stopsApart v_t_cycle v_t_size v_t_rowsBehind z1 z4 (z5 + (1 : Int32)) (v_t_rowsLeft - (v_t_rowsBehind z1.toNatClampNeg)) v_t_bestScore r63_6.2.1 r63_6.2.2 (upd v_t_row z1.toNatClampNeg (z5 * v_t_stepSeconds)) v_u3_cycle v_u3_size v_u3_offsets
            else none
          else
            if (v_t_size - (1 : Int32)) ≤ z1 then
              (p_Plan_set n v_t_cycle v_t_size (upd v_t_row z1.toNatClampNeg (z5 * v_t_stepSeconds)) v_u3_cycle v_u3_size v_u3_offsets).bind fun r141_10 =>
              p_Srch_putFrom_stop_30 n rc k v_t_choices v_t_stepSeconds v_t_stopWorth_stepSeconds v_t_stopWorth_cycle v_t_stopWorth_stopsApart v_t_cycle v_t_size v_t_rowsBehind z1 z4 (z5 + (1 : Int32)) (v_t_rowsLeft - (1 : Int64)) r63_6.1 r63_6.2.1 r63_6.2.2 (upd v_t_row z1.toNatClampNeg (z5 * v_t_stepSeconds)) r141_10.1 r141_10.2.1 r141_10.2.2
            else
              (rc (z1 + (1 : Int32)) v_t_choices v_t_stepSeconds v_t_stopWorth_stepSeconds v_t_stopWorth_cycle v_t_stopWorth_stopsApart v_t_cycle v_t_size v_t_rowsBehind v_t_rowsLeft v_t_bestScore r63_6.2.1 r63_6.2.2 (upd v_t_row z1.toNatClampNeg (z5 * v_t_stepSeconds)) v_u3_cycle v_u3_size v_u3_offsets).bind fun r112_11 =>
              p_Srch_putFrom_stop_30 n rc k v_t_choices v_t_stepSeconds v_t_stopWorth_stepSeconds v_t_stopWorth_cycle v_t_stopWorth_stopsApart v_t_cycle v_t_size v_t_rowsBehind z1 z4 (z5 + (1 : Int32)) r112_11.1 r112_11.2.1 r112_11.2.2.1 r112_11.2.2.2.1 r112_11.2.2.2.2.1 r112_11.2.2.2.2.2.1 r112_11.2.2.2.2.2.2.1 r112_11.2.2.2.2.2.2.2
        else none := rfl
def p_Srch_putFrom_stop (n : Nat) : Nat → Int32 → Int32 → Int32 → Int32 → Int32 → (Nat → Int32) → Int32 → Int32 → (Nat → Int64) → Int64 → Int64 → (Nat → Int64) → (Nat → Int32) → (Nat → Int32) → Int32 → Int32 → (Nat → Int32) → Option (Int64 × Int64 × (Nat → Int64) × (Nat → Int32) × (Nat → Int32) × Int32 × Int32 × (Nat → Int32))
  | 0, _, _, _, _, _, _, _, _, _, _, _, _, _, _, _, _, _ => none
  | d + 1, x1, v_t_choices, v_t_stepSeconds, v_t_stopWorth_stepSeconds, v_t_stopWorth_cycle, v_t_stopWorth_stopsApart, v_t_cycle, v_t_size, v_t_rowsBehind, v_t_rowsLeft, v_t_bestScore, v_t_stopWorth_stopsTo, v_t_stopWorth_offsets, v_t_row, v_u3_cycle, v_u3_size, v_u3_offsets =>
    (p_WO_within n x1.toInt64 (0 : Int64) (4 : Int64)).bind fun r6_1 =>
    if r6_1 = 0 then
      some (v_t_rowsLeft, v_t_bestScore, v_t_stopWorth_stopsTo, v_t_stopWorth_offsets, v_t_row, v_u3_cycle, v_u3_size, v_u3_offsets)
    else
      if x1 = 0 then
        (p_Srch_putFrom_stop_30 n (p_Srch_putFrom_stop n d) n v_t_choices v_t_stepSeconds v_t_stopWorth_stepSeconds v_t_stopWorth_cycle v_t_stopWorth_stopsApart v_t_cycle v_t_size v_t_rowsBehind x1 (1 : Int32) (0 : Int32) v_t_rowsLeft v_t_bestScore v_t_stopWorth_stopsTo v_t_stopWorth_offsets v_t_row v_u3_cycle v_u3_size v_u3_offsets).bind fun q30_13 =>
        some (q30_13.1, q30_13.2.1, q30_13.2.2.1, q30_13.2.2.2.1, q30_13.2.2.2.2.1, q30_13.2.2.2.2.2.1, q30_13.2.2.2.2.2.2.1, q30_13.2.2.2.2.2.2.2)
      else
        (p_Srch_putFrom_stop_30 n (p_Srch_putFrom_stop n d) n v_t_choices v_t_stepSeconds v_t_stopWorth_stepSeconds v_t_stopWorth_cycle v_t_stopWorth_stopsApart v_t_cycle v_t_size v_t_rowsBehind x1 v_t_choices (0 : Int32) v_t_rowsLeft v_t_bestScore v_t_stopWorth_stopsTo v_t_stopWorth_offsets v_t_row v_u3_cycle v_u3_size v_u3_offsets).bind fun q30_12 =>
        some (q30_12.1, q30_12.2.1, q30_12.2.2.1, q30_12.2.2.2.1, q30_12.2.2.2.2.1, q30_12.2.2.2.2.2.1, q30_12.2.2.2.2.2.2.1, q30_12.2.2.2.2.2.2.2)
theorem q_Srch_putFrom_stop (n d : Nat) (x1 : Int32) (v_t_choices : Int32) (v_t_stepSeconds : Int32) (v_t_stopWorth_stepSeconds : Int32) (v_t_stopWorth_cycle : Int32) (v_t_stopWorth_stopsApart : Nat → Int32) (v_t_cycle : Int32) (v_t_size : Int32) (v_t_rowsBehind : Nat → Int64) (v_t_rowsLeft : Int64) (v_t_bestScore : Int64) (v_t_stopWorth_stopsTo : Nat → Int64) (v_t_stopWorth_offsets : Nat → Int32) (v_t_row : Nat → Int32) (v_u3_cycle : Int32) (v_u3_size : Int32) (v_u3_offsets : Nat → Int32) : p_Srch_putFrom_stop n (d + 1) x1 v_t_choices v_t_stepSeconds v_t_stopWorth_stepSeconds v_t_stopWorth_cycle v_t_stopWorth_stopsApart v_t_cycle v_t_size v_t_rowsBehind v_t_rowsLeft v_t_bestScore v_t_stopWorth_stopsTo v_t_stopWorth_offsets v_t_row v_u3_cycle v_u3_size v_u3_offsets =
    (p_WO_within n x1.toInt64 (0 : Int64) (4 : Int64)).bind fun r6_1 =>
    if r6_1 = 0 then
      some (v_t_rowsLeft, v_t_bestScore, v_t_stopWorth_stopsTo, v_t_stopWorth_offsets, v_t_row, v_u3_cycle, v_u3_size, v_u3_offsets)
    else
      if x1 = 0 then
        (p_Srch_putFrom_stop_30 n (p_Srch_putFrom_stop n d) n v_t_choices v_t_stepSeconds v_t_stopWorth_stepSeconds v_t_stopWorth_cycle v_t_stopWorth_stopsApart v_t_cycle v_t_size v_t_rowsBehind x1 (1 : Int32) (0 : Int32) v_t_rowsLeft v_t_bestScore v_t_stopWorth_stopsTo v_t_stopWorth_offsets v_t_row v_u3_cycle v_u3_size v_u3_offsets).bind fun q30_13 =>
        some (q30_13.1, q30_13.2.1, q30_13.2.2.1, q30_13.2.2.2.1, q30_13.2.2.2.2.1, q30_13.2.2.2.2.2.1, q30_13.2.2.2.2.2.2.1, q30_13.2.2.2.2.2.2.2)
      else
        (p_Srch_putFrom_stop_30 n (p_Srch_putFrom_stop n d) n v_t_choices v_t_stepSeconds v_t_stopWorth_stepSeconds v_t_stopWorth_cycle v_t_stopWorth_stopsApart v_t_cycle v_t_size v_t_rowsBehind x1 v_t_choices (0 : Int32) v_t_rowsLeft v_t_bestScore v_t_stopWorth_stopsTo v_t_stopWorth_offsets v_t_row v_u3_cycle v_u3_size v_u3_offsets).bind fun q30_12 =>
        some (q30_12.1, q30_12.2.1, q30_12.2.2.1, q30_12.2.2.2.1, q30_12.2.2.2.2.1, q30_12.2.2.2.2.2.1, q30_12.2.2.2.2.2.2.1, q30_12.2.2.2.2.2.2.2) := rfl
abbrev m_Srch_putFrom_stop (d : Nat) : Room := { frames := 3 + d, cells := 0, slots := 0, locals := 66 + d * 27 }
set_option maxHeartbeats 4000000 in
set_option maxRecDepth 100000 in
theorem c_Srch_putFrom_stop (l : Launch) (G : va_G) (K : Nat → ClassId) (n : Nat) (t : Nat) (t_bandWorth : Nat) (t_stopWorth : Nat) (t_row : Nat) (t_rowsBehind : Nat) (t_stopWorth_stopsApart : Nat) (t_stopWorth_stopsTo : Nat) (t_stopWorth_offsets : Nat) (u3 : Nat) (u3_offsets : Nat) : ∀ (d : Nat) (sz : Nat) (x1 : Int32) (v_t_size : Int32) (v_t_cycle : Int32) (v_t_choices : Int32) (v_t_stepSeconds : Int32) (v_t_rowsLeft : Int64) (v_t_bestScore : Int64) (v_t_stopWorth_cycle : Int32) (v_t_stopWorth_stepSeconds : Int32) (v_t_stopWorth_stopsApart : Nat → Int32) (v_t_stopWorth_stopsTo : Nat → Int64) (v_t_stopWorth_offsets : Nat → Int32) (v_t_row : Nat → Int32) (v_t_rowsBehind : Nat → Int64) (v_u3_cycle : Int32) (v_u3_size : Int32) (v_u3_aim : Int32) (v_u3_sawAll : Int32) (v_u3_offsets : Nat → Int32) (o : Int64 × Int64 × (Nat → Int64) × (Nat → Int32) × (Nat → Int32) × Int32 × Int32 × (Nat → Int32)), p_Srch_putFrom_stop n d x1 v_t_choices v_t_stepSeconds v_t_stopWorth_stepSeconds v_t_stopWorth_cycle v_t_stopWorth_stopsApart v_t_cycle v_t_size v_t_rowsBehind v_t_rowsLeft v_t_bestScore v_t_stopWorth_stopsTo v_t_stopWorth_offsets v_t_row v_u3_cycle v_u3_size v_u3_offsets = some o →
    Met l y_Srch_putFrom (wd y_Srch_putFrom b_Srch_putFrom 8 none) (m_Srch_putFrom_stop d) (dk_Pm [.ref t, .int x1, .ref t_stopWorth, .ref u3] G K [(t, .inr (5, [.ref t_bandWorth, .ref t_stopWorth, .ref t_row, .ref t_rowsBehind, .int v_t_size, .int v_t_cycle, .int v_t_choices, .int v_t_stepSeconds, .long v_t_rowsLeft, .long v_t_bestScore])), (t_stopWorth, .inr (4, [.ref t_stopWorth_stopsApart, .ref t_stopWorth_stopsTo, .ref t_stopWorth_offsets, .int v_t_stopWorth_cycle, .int v_t_stopWorth_stepSeconds])), (t_stopWorth_stopsApart, .inl (K 0, 600, .inl v_t_stopWorth_stopsApart)), (t_stopWorth_stopsTo, .inl (K 1, 5, .inr (.inl v_t_stopWorth_stopsTo))), (t_stopWorth_offsets, .inl (K 0, 5, .inl v_t_stopWorth_offsets)), (t_row, .inl (K 0, 5, .inl v_t_row)), (t_rowsBehind, .inl (K 1, 5, .inr (.inl v_t_rowsBehind))), (u3, .inr (2, [.ref u3_offsets, .int v_u3_cycle, .int v_u3_size, .int v_u3_aim, .int v_u3_sawAll])), (u3_offsets, .inl (K 0, 5, .inl v_u3_offsets))] sz) (dk_Qm none G (fun _ : Unit => [(t, .inr (5, [.ref t_bandWorth, .ref t_stopWorth, .ref t_row, .ref t_rowsBehind, .int v_t_size, .int v_t_cycle, .int v_t_choices, .int v_t_stepSeconds, .long o.1, .long o.2.1])), (t_stopWorth, .inr (4, [.ref t_stopWorth_stopsApart, .ref t_stopWorth_stopsTo, .ref t_stopWorth_offsets, .int v_t_stopWorth_cycle, .int v_t_stopWorth_stepSeconds])), (t_stopWorth_stopsApart, .inl (K 0, 600, .inl v_t_stopWorth_stopsApart)), (t_stopWorth_stopsTo, .inl (K 1, 5, .inr (.inl o.2.2.1))), (t_stopWorth_offsets, .inl (K 0, 5, .inl o.2.2.2.1)), (t_row, .inl (K 0, 5, .inl o.2.2.2.2.1)), (t_rowsBehind, .inl (K 1, 5, .inr (.inl v_t_rowsBehind))), (u3, .inr (2, [.ref u3_offsets, .int o.2.2.2.2.2.1, .int o.2.2.2.2.2.2.1, .int v_u3_aim, .int v_u3_sawAll])), (u3_offsets, .inl (K 0, 5, .inl o.2.2.2.2.2.2.2))]) (va_A [(t, .inr (5, [.ref t_bandWorth, .ref t_stopWorth, .ref t_row, .ref t_rowsBehind, .int v_t_size, .int v_t_cycle, .int v_t_choices, .int v_t_stepSeconds, .long v_t_rowsLeft, .long v_t_bestScore])), (t_stopWorth, .inr (4, [.ref t_stopWorth_stopsApart, .ref t_stopWorth_stopsTo, .ref t_stopWorth_offsets, .int v_t_stopWorth_cycle, .int v_t_stopWorth_stepSeconds])), (t_stopWorth_stopsApart, .inl (K 0, 600, .inl v_t_stopWorth_stopsApart)), (t_stopWorth_stopsTo, .inl (K 1, 5, .inr (.inl v_t_stopWorth_stopsTo))), (t_stopWorth_offsets, .inl (K 0, 5, .inl v_t_stopWorth_offsets)), (t_row, .inl (K 0, 5, .inl v_t_row)), (t_rowsBehind, .inl (K 1, 5, .inr (.inl v_t_rowsBehind))), (u3, .inr (2, [.ref u3_offsets, .int v_u3_cycle, .int v_u3_size, .int v_u3_aim, .int v_u3_sawAll])), (u3_offsets, .inl (K 0, 5, .inl v_u3_offsets))] sz)) 0 0 (va_A [(t, .inr (5, [.ref t_bandWorth, .ref t_stopWorth, .ref t_row, .ref t_rowsBehind, .int v_t_size, .int v_t_cycle, .int v_t_choices, .int v_t_stepSeconds, .long v_t_rowsLeft, .long v_t_bestScore])), (t_stopWorth, .inr (4, [.ref t_stopWorth_stopsApart, .ref t_stopWorth_stopsTo, .ref t_stopWorth_offsets, .int v_t_stopWorth_cycle, .int v_t_stopWorth_stepSeconds])), (t_stopWorth_stopsApart, .inl (K 0, 600, .inl v_t_stopWorth_stopsApart)), (t_stopWorth_stopsTo, .inl (K 1, 5, .inr (.inl v_t_stopWorth_stopsTo))), (t_stopWorth_offsets, .inl (K 0, 5, .inl v_t_stopWorth_offsets)), (t_row, .inl (K 0, 5, .inl v_t_row)), (t_rowsBehind, .inl (K 1, 5, .inr (.inl v_t_rowsBehind))), (u3, .inr (2, [.ref u3_offsets, .int v_u3_cycle, .int v_u3_size, .int v_u3_aim, .int v_u3_sawAll])), (u3_offsets, .inl (K 0, 5, .inl v_u3_offsets))] sz) := by
  intro d
  induction d with
  | zero =>
    intro sz x1 v_t_size v_t_cycle v_t_choices v_t_stepSeconds v_t_rowsLeft v_t_bestScore v_t_stopWorth_cycle v_t_stopWorth_stepSeconds v_t_stopWorth_stopsApart v_t_stopWorth_stopsTo v_t_stopWorth_offsets v_t_row v_t_rowsBehind v_u3_cycle v_u3_size v_u3_aim v_u3_sawAll v_u3_offsets o hF
    exact absurd hF (by simp [p_Srch_putFrom_stop])
  | succ d ih =>
    intro sz x1 v_t_size v_t_cycle v_t_choices v_t_stepSeconds v_t_rowsLeft v_t_bestScore v_t_stopWorth_cycle v_t_stopWorth_stepSeconds v_t_stopWorth_stopsApart v_t_stopWorth_stopsTo v_t_stopWorth_offsets v_t_row v_t_rowsBehind v_u3_cycle v_u3_size v_u3_aim v_u3_sawAll v_u3_offsets o hF
    refine Met.ofW (cc := b_Srch_putFrom) (maxL := 8) (ret := none) (by decide) rfl ?_
    intro p e s m args below meth c s₁ B hml hv
    obtain ⟨rfl, hsz, hP, hK, hN, hD0⟩ := hv
    have hx := B.exec
    have hb := B.bytes
    have hr := B.returns
    have hts : ∀ w ∈ lw_good, w.before _ s = true := fun w h => atoms_spec (ws := wd y_Srch_putFrom b_Srch_putFrom 8 none) B.pre w (List.mem_cons_of_mem _ h)
    have hown : s.vm.findClass R_Srch = some m.cls := findClass_of_methodNamed B.named
    have hlocks := B.notSynchronized
    have hfix : CallFix p m c b_Srch_putFrom 8 s _ lw_good R_Srch := ⟨hx, hb, hml, hown, hts⟩
    subst hsz
    have hD := hD0.self (sz := s.heap.size)
    generalize hAe : va_A [(t, .inr (5, [.ref t_bandWorth, .ref t_stopWorth, .ref t_row, .ref t_rowsBehind, .int v_t_size, .int v_t_cycle, .int v_t_choices, .int v_t_stepSeconds, .long v_t_rowsLeft, .long v_t_bestScore])), (t_stopWorth, .inr (4, [.ref t_stopWorth_stopsApart, .ref t_stopWorth_stopsTo, .ref t_stopWorth_offsets, .int v_t_stopWorth_cycle, .int v_t_stopWorth_stepSeconds])), (t_stopWorth_stopsApart, .inl (K 0, 600, .inl v_t_stopWorth_stopsApart)), (t_stopWorth_stopsTo, .inl (K 1, 5, .inr (.inl v_t_stopWorth_stopsTo))), (t_stopWorth_offsets, .inl (K 0, 5, .inl v_t_stopWorth_offsets)), (t_row, .inl (K 0, 5, .inl v_t_row)), (t_rowsBehind, .inl (K 1, 5, .inr (.inl v_t_rowsBehind))), (u3, .inr (2, [.ref u3_offsets, .int v_u3_cycle, .int v_u3_size, .int v_u3_aim, .int v_u3_sawAll])), (u3_offsets, .inl (K 0, 5, .inl v_u3_offsets))] s.heap.size = A at hD ⊢
    have hA : ∀ q : Nat, s.heap.size ≤ q → A q := fun q h => by rw [← hAe]; exact Or.inr h
    have hS : va_S A s.heap s.heap [] := va_S.rf
    have hl := lv_entry ([.ref t, .int x1, .ref t_stopWorth, .ref u3]) (n := 8) (Nat.le_of_ble_eq_true rfl)
    rw [lg_entry_eq]
    generalize (lg_sl ([.ref t, .int x1, .ref t_stopWorth, .ref u3]) ++ List.replicate (8 - (lg_sl ([.ref t, .int x1, .ref t_stopWorth, .ref u3])).length) Slot.unset).toArray = ls at hl ⊢
    have hl : lv_has ls 8 [(0, .ref t), (1, .int x1), (2, .ref t_stopWorth), (3, .ref u3)] := hl
    change W p l e (m_Srch_putFrom_stop (d + 1)) s m _ below meth c s.heap [] 0 0 _ _
    have L30 : ∀ (k : Nat) (z1 : Int32) (z4 : Int32) (z5 : Int32) (v_t_rowsLeft : Int64) (v_t_bestScore : Int64) (v_t_stopWorth_stopsTo : Nat → Int64) (v_t_stopWorth_offsets : Nat → Int32) (v_t_row : Nat → Int32) (v_u3_cycle : Int32) (v_u3_size : Int32) (v_u3_offsets : Nat → Int32) (H : Heap) (locs : List Loc) (q : Int64 × Int64 × (Nat → Int64) × (Nat → Int32) × (Nat → Int32) × Int32 × Int32 × (Nat → Int32)), p_Srch_putFrom_stop_30 n (p_Srch_putFrom_stop n d) k v_t_choices v_t_stepSeconds v_t_stopWorth_stepSeconds v_t_stopWorth_cycle v_t_stopWorth_stopsApart v_t_cycle v_t_size v_t_rowsBehind z1 z4 z5 v_t_rowsLeft v_t_bestScore v_t_stopWorth_stopsTo v_t_stopWorth_offsets v_t_row v_u3_cycle v_u3_size v_u3_offsets = some q → va_P G classes [(t, .inr (5, [.ref t_bandWorth, .ref t_stopWorth, .ref t_row, .ref t_rowsBehind, .int v_t_size, .int v_t_cycle, .int v_t_choices, .int v_t_stepSeconds, .long v_t_rowsLeft, .long v_t_bestScore])), (t_stopWorth, .inr (4, [.ref t_stopWorth_stopsApart, .ref t_stopWorth_stopsTo, .ref t_stopWorth_offsets, .int v_t_stopWorth_cycle, .int v_t_stopWorth_stepSeconds])), (t_stopWorth_stopsApart, .inl (K 0, 600, .inl v_t_stopWorth_stopsApart)), (t_stopWorth_stopsTo, .inl (K 1, 5, .inr (.inl v_t_stopWorth_stopsTo))), (t_stopWorth_offsets, .inl (K 0, 5, .inl v_t_stopWorth_offsets)), (t_row, .inl (K 0, 5, .inl v_t_row)), (t_rowsBehind, .inl (K 1, 5, .inr (.inl v_t_rowsBehind))), (u3, .inr (2, [.ref u3_offsets, .int v_u3_cycle, .int v_u3_size, .int v_u3_aim, .int v_u3_sawAll])), (u3_offsets, .inl (K 0, 5, .inl v_u3_offsets))] H → va_D A [(t, .inr (5, [.ref t_bandWorth, .ref t_stopWorth, .ref t_row, .ref t_rowsBehind, .int v_t_size, .int v_t_cycle, .int v_t_choices, .int v_t_stepSeconds, .long v_t_rowsLeft, .long v_t_bestScore])), (t_stopWorth, .inr (4, [.ref t_stopWorth_stopsApart, .ref t_stopWorth_stopsTo, .ref t_stopWorth_offsets, .int v_t_stopWorth_cycle, .int v_t_stopWorth_stepSeconds])), (t_stopWorth_stopsApart, .inl (K 0, 600, .inl v_t_stopWorth_stopsApart)), (t_stopWorth_stopsTo, .inl (K 1, 5, .inr (.inl v_t_stopWorth_stopsTo))), (t_stopWorth_offsets, .inl (K 0, 5, .inl v_t_stopWorth_offsets)), (t_row, .inl (K 0, 5, .inl v_t_row)), (t_rowsBehind, .inl (K 1, 5, .inr (.inl v_t_rowsBehind))), (u3, .inr (2, [.ref u3_offsets, .int v_u3_cycle, .int v_u3_size, .int v_u3_aim, .int v_u3_sawAll])), (u3_offsets, .inl (K 0, 5, .inl v_u3_offsets))] → va_S A s.heap H locs → ∀ ls : Array Slot, lv_has ls 8 [(0, .ref t), (1, .int z1), (2, .ref t_stopWorth), (3, .ref u3), (4, .int z4), (5, .int z5)] → (∀ (H1 : Heap) (locs1 : List Loc) (ls1 : Array Slot), va_P G classes [(t, .inr (5, [.ref t_bandWorth, .ref t_stopWorth, .ref t_row, .ref t_rowsBehind, .int v_t_size, .int v_t_cycle, .int v_t_choices, .int v_t_stepSeconds, .long q.1, .long q.2.1])), (t_stopWorth, .inr (4, [.ref t_stopWorth_stopsApart, .ref t_stopWorth_stopsTo, .ref t_stopWorth_offsets, .int v_t_stopWorth_cycle, .int v_t_stopWorth_stepSeconds])), (t_stopWorth_stopsApart, .inl (K 0, 600, .inl v_t_stopWorth_stopsApart)), (t_stopWorth_stopsTo, .inl (K 1, 5, .inr (.inl q.2.2.1))), (t_stopWorth_offsets, .inl (K 0, 5, .inl q.2.2.2.1)), (t_row, .inl (K 0, 5, .inl q.2.2.2.2.1)), (t_rowsBehind, .inl (K 1, 5, .inr (.inl v_t_rowsBehind))), (u3, .inr (2, [.ref u3_offsets, .int q.2.2.2.2.2.1, .int q.2.2.2.2.2.2.1, .int v_u3_aim, .int v_u3_sawAll])), (u3_offsets, .inl (K 0, 5, .inl q.2.2.2.2.2.2.2))] H1 → va_D A [(t, .inr (5, [.ref t_bandWorth, .ref t_stopWorth, .ref t_row, .ref t_rowsBehind, .int v_t_size, .int v_t_cycle, .int v_t_choices, .int v_t_stepSeconds, .long q.1, .long q.2.1])), (t_stopWorth, .inr (4, [.ref t_stopWorth_stopsApart, .ref t_stopWorth_stopsTo, .ref t_stopWorth_offsets, .int v_t_stopWorth_cycle, .int v_t_stopWorth_stepSeconds])), (t_stopWorth_stopsApart, .inl (K 0, 600, .inl v_t_stopWorth_stopsApart)), (t_stopWorth_stopsTo, .inl (K 1, 5, .inr (.inl q.2.2.1))), (t_stopWorth_offsets, .inl (K 0, 5, .inl q.2.2.2.1)), (t_row, .inl (K 0, 5, .inl q.2.2.2.2.1)), (t_rowsBehind, .inl (K 1, 5, .inr (.inl v_t_rowsBehind))), (u3, .inr (2, [.ref u3_offsets, .int q.2.2.2.2.2.1, .int q.2.2.2.2.2.2.1, .int v_u3_aim, .int v_u3_sawAll])), (u3_offsets, .inl (K 0, 5, .inl q.2.2.2.2.2.2.2))] → va_S A s.heap H1 locs1 → lv_has ls1 8 [] → W p l e (m_Srch_putFrom_stop (d + 1)) s m ([.ref t, .int x1, .ref t_stopWorth, .ref u3] : List Value).toArray below meth c H1 locs1 0 0 (MQ below (dk_Qm none G (fun _ : Unit => [(t, .inr (5, [.ref t_bandWorth, .ref t_stopWorth, .ref t_row, .ref t_rowsBehind, .int v_t_size, .int v_t_cycle, .int v_t_choices, .int v_t_stepSeconds, .long o.1, .long o.2.1])), (t_stopWorth, .inr (4, [.ref t_stopWorth_stopsApart, .ref t_stopWorth_stopsTo, .ref t_stopWorth_offsets, .int v_t_stopWorth_cycle, .int v_t_stopWorth_stepSeconds])), (t_stopWorth_stopsApart, .inl (K 0, 600, .inl v_t_stopWorth_stopsApart)), (t_stopWorth_stopsTo, .inl (K 1, 5, .inr (.inl o.2.2.1))), (t_stopWorth_offsets, .inl (K 0, 5, .inl o.2.2.2.1)), (t_row, .inl (K 0, 5, .inl o.2.2.2.2.1)), (t_rowsBehind, .inl (K 1, 5, .inr (.inl v_t_rowsBehind))), (u3, .inr (2, [.ref u3_offsets, .int o.2.2.2.2.2.1, .int o.2.2.2.2.2.2.1, .int v_u3_aim, .int v_u3_sawAll])), (u3_offsets, .inl (K 0, 5, .inl o.2.2.2.2.2.2.2))]) A) ([.ref t, .int x1, .ref t_stopWorth, .ref u3] : List Value).toArray s 0 0 A) (F0 m 156 ls1 [])) → W p l e (m_Srch_putFrom_stop (d + 1)) s m ([.ref t, .int x1, .ref t_stopWorth, .ref u3] : List Value).toArray below meth c H locs 0 0 (MQ below (dk_Qm none G (fun _ : Unit => [(t, .inr (5, [.ref t_bandWorth, .ref t_stopWorth, .ref t_row, .ref t_rowsBehind, .int v_t_size, .int v_t_cycle, .int v_t_choices, .int v_t_stepSeconds, .long o.1, .long o.2.1])), (t_stopWorth, .inr (4, [.ref t_stopWorth_stopsApart, .ref t_stopWorth_stopsTo, .ref t_stopWorth_offsets, .int v_t_stopWorth_cycle, .int v_t_stopWorth_stepSeconds])), (t_stopWorth_stopsApart, .inl (K 0, 600, .inl v_t_stopWorth_stopsApart)), (t_stopWorth_stopsTo, .inl (K 1, 5, .inr (.inl o.2.2.1))), (t_stopWorth_offsets, .inl (K 0, 5, .inl o.2.2.2.1)), (t_row, .inl (K 0, 5, .inl o.2.2.2.2.1)), (t_rowsBehind, .inl (K 1, 5, .inr (.inl v_t_rowsBehind))), (u3, .inr (2, [.ref u3_offsets, .int o.2.2.2.2.2.1, .int o.2.2.2.2.2.2.1, .int v_u3_aim, .int v_u3_sawAll])), (u3_offsets, .inl (K 0, 5, .inl o.2.2.2.2.2.2.2))]) A) ([.ref t, .int x1, .ref t_stopWorth, .ref u3] : List Value).toArray s 0 0 A) (F0 m 30 ls []) := by
      intro k
      induction k with
      | zero =>
        intro z1 z4 z5 v_t_rowsLeft v_t_bestScore v_t_stopWorth_stopsTo v_t_stopWorth_offsets v_t_row v_u3_cycle v_u3_size v_u3_offsets H locs q hF hP hD hS ls hl hk
        exact absurd hF (by simp [p_Srch_putFrom_stop_30])
      | succ k jh =>
        intro z1 z4 z5 v_t_rowsLeft v_t_bestScore v_t_stopWorth_stopsTo v_t_stopWorth_offsets v_t_row v_u3_cycle v_u3_size v_u3_offsets H locs q hF hP hD hS ls hl hk
        have hF := (q_Srch_putFrom_stop_30 n (p_Srch_putFrom_stop n d) k v_t_choices v_t_stepSeconds v_t_stopWorth_stepSeconds v_t_stopWorth_cycle v_t_stopWorth_stopsApart v_t_cycle v_t_size v_t_rowsBehind z1 z4 z5 v_t_rowsLeft v_t_bestScore v_t_stopWorth_stopsTo v_t_stopWorth_offsets v_t_row v_u3_cycle v_u3_size v_u3_offsets).symm.trans hF
        refine lv_iload hx hb d_Srch_putFrom_30 (lv_at hl 5 rfl) ?_
        refine lv_iload hx hb d_Srch_putFrom_32 (lv_at hl 4 rfl) ?_
        refine lv_icmp_ge (tgt := 156) hx hb d_Srch_putFrom_34 (by decide) (fun c34_4 => ?_) (fun c34_4 => ?_)
        · have hF := dk_t c34_4 hF
          obtain rfl := Option.some.inj hF
          exact hk H locs ls hP hD hS (lv_sub hl [] rfl)
        · have hF := dk_f c34_4 hF
          refine lv_aload_n hx hb d_Srch_putFrom_37 rfl (lv_at hl 0 rfl) ?_
          refine va_get (D := G) (ci := 5) (v := .long v_t_rowsLeft) (C := R_Srch) (T := F_Srch) (N := 10) hx hb hts i_Srch hown hK hP 0 rfl rfl 8 (by decide) (hts _ lk_177) (fun _ h9 => h9) rfl d_Srch_putFrom_38 ?_
          refine lv_lconst (v := (0 : Int64)) hx hb d_Srch_putFrom_41 (by decide) ?_
          refine W.lcmp hx hb d_Srch_putFrom_42 ?_
          refine lv_if_le (tgt := 156) hx hb d_Srch_putFrom_43 (by decide) (fun c43_5 => ?_) (fun c43_5 => ?_)
          · have hF := dk_t c43_5 hF
            obtain rfl := Option.some.inj hF
            exact hk H locs ls hP hD hS (lv_sub hl [] rfl)
          · have hF := dk_f c43_5 hF
            refine lv_aload_n hx hb d_Srch_putFrom_46 rfl (lv_at hl 0 rfl) ?_
            refine va_get (D := G) (ci := 5) (v := .ref t_row) (C := R_Srch) (T := F_Srch) (N := 10) hx hb hts i_Srch hown hK hP 0 rfl rfl 2 (by decide) (hts _ lk_178) (fun _ h9 => h9) rfl d_Srch_putFrom_47 ?_
            refine lv_iload_n hx hb d_Srch_putFrom_50 rfl (lv_at hl 1 rfl) ?_
            refine lv_iload hx hb d_Srch_putFrom_51 (lv_at hl 5 rfl) ?_
            refine lv_aload_n hx hb d_Srch_putFrom_53 rfl (lv_at hl 0 rfl) ?_
            refine va_get (D := G) (ci := 5) (v := .int v_t_stepSeconds) (C := R_Srch) (T := F_Srch) (N := 10) hx hb hts i_Srch hown hK hP 0 rfl rfl 7 (by decide) (hts _ lk_172) (fun _ h9 => h9) rfl d_Srch_putFrom_54 ?_
            refine lv_imul hx hb d_Srch_putFrom_57 ?_
            obtain ⟨hi, hF⟩ := dk_a hF
            refine va_iast (D := G) hx hb hK hP hD hS 5 0 rfl rfl (dk_vp hi) d_Srch_putFrom_58 (fun H locs hP hD hS => ?_)
            have hP : va_P G classes [(t, .inr (5, [.ref t_bandWorth, .ref t_stopWorth, .ref t_row, .ref t_rowsBehind, .int v_t_size, .int v_t_cycle, .int v_t_choices, .int v_t_stepSeconds, .long v_t_rowsLeft, .long v_t_bestScore])), (t_stopWorth, .inr (4, [.ref t_stopWorth_stopsApart, .ref t_stopWorth_stopsTo, .ref t_stopWorth_offsets, .int v_t_stopWorth_cycle, .int v_t_stopWorth_stepSeconds])), (t_stopWorth_stopsApart, .inl (K 0, 600, .inl v_t_stopWorth_stopsApart)), (t_stopWorth_stopsTo, .inl (K 1, 5, .inr (.inl v_t_stopWorth_stopsTo))), (t_stopWorth_offsets, .inl (K 0, 5, .inl v_t_stopWorth_offsets)), (t_row, .inl (K 0, 5, .inl (upd v_t_row z1.toNatClampNeg (z5 * v_t_stepSeconds)))), (t_rowsBehind, .inl (K 1, 5, .inr (.inl v_t_rowsBehind))), (u3, .inr (2, [.ref u3_offsets, .int v_u3_cycle, .int v_u3_size, .int v_u3_aim, .int v_u3_sawAll])), (u3_offsets, .inl (K 0, 5, .inl v_u3_offsets))] H := hP
            have hD : va_D A [(t, .inr (5, [.ref t_bandWorth, .ref t_stopWorth, .ref t_row, .ref t_rowsBehind, .int v_t_size, .int v_t_cycle, .int v_t_choices, .int v_t_stepSeconds, .long v_t_rowsLeft, .long v_t_bestScore])), (t_stopWorth, .inr (4, [.ref t_stopWorth_stopsApart, .ref t_stopWorth_stopsTo, .ref t_stopWorth_offsets, .int v_t_stopWorth_cycle, .int v_t_stopWorth_stepSeconds])), (t_stopWorth_stopsApart, .inl (K 0, 600, .inl v_t_stopWorth_stopsApart)), (t_stopWorth_stopsTo, .inl (K 1, 5, .inr (.inl v_t_stopWorth_stopsTo))), (t_stopWorth_offsets, .inl (K 0, 5, .inl v_t_stopWorth_offsets)), (t_row, .inl (K 0, 5, .inl (upd v_t_row z1.toNatClampNeg (z5 * v_t_stepSeconds)))), (t_rowsBehind, .inl (K 1, 5, .inr (.inl v_t_rowsBehind))), (u3, .inr (2, [.ref u3_offsets, .int v_u3_cycle, .int v_u3_size, .int v_u3_aim, .int v_u3_sawAll])), (u3_offsets, .inl (K 0, 5, .inl v_u3_offsets))] := hD
            refine lv_aload_n hx hb d_Srch_putFrom_59 rfl (lv_at hl 2 rfl) ?_
            refine lv_iload_n hx hb d_Srch_putFrom_60 rfl (lv_at hl 1 rfl) ?_
            refine lv_iload hx hb d_Srch_putFrom_61 (lv_at hl 5 rfl) ?_
            obtain ⟨r63_6, hC, hF⟩ := dk_b hF
            refine dk_mut (wr := [(t, .inr (5, [.ref t_bandWorth, .ref t_stopWorth, .ref t_row, .ref t_rowsBehind, .int v_t_size, .int v_t_cycle, .int v_t_choices, .int v_t_stepSeconds, .long v_t_rowsLeft, .long v_t_bestScore])), (t_row, .inl (K 0, 5, .inl (upd v_t_row z1.toNatClampNeg (z5 * v_t_stepSeconds)))), (t_rowsBehind, .inl (K 1, 5, .inr (.inl v_t_rowsBehind))), (u3, .inr (2, [.ref u3_offsets, .int v_u3_cycle, .int v_u3_size, .int v_u3_aim, .int v_u3_sawAll])), (u3_offsets, .inl (K 0, 5, .inl v_u3_offsets))]) (va_runU (As := [.int z1, .int z5]) (rest := []) hfix (c_Stop_put l G K n H.size t_stopWorth t_stopWorth_stopsApart t_stopWorth_stopsTo t_stopWorth_offsets z1 z5 v_t_stopWorth_cycle v_t_stopWorth_stepSeconds v_t_stopWorth_stopsApart v_t_stopWorth_stopsTo v_t_stopWorth_offsets r63_6 hC) (va_cwA 2 hts (gd_U lk_179 lk_181 lk_199 lk_200 lk_201 lk_198) rfl rfl rfl (hN.1 _ lk_184) (by decide +kernel) ⟨by dsimp only [m_Srch_putFrom_stop, m_Stop_put]; omega, by dsimp only [m_Srch_putFrom_stop, m_Stop_put]; omega⟩) (dk_preVm hK hN (hP.sub [1, 2, 3, 4] rfl) (hD.sub [1, 2, 3, 4] (by decide) rfl) (va_recv hK hP (ci := 4) (q0 := 1) rfl rfl)) rfl rfl hl.1 rfl (lv_room (Nat.le_of_ble_eq_true rfl)) d_Srch_putFrom_63 ⟨Nat.le_of_ble_eq_true rfl, Nat.le_of_ble_eq_true rfl⟩) hS hA hP hD [1, 2, 3, 4] [0, 5, 6, 7, 8] rfl rfl (by decide) (by decide) (fun _ H locs hP hD hS => ?_)
            have hP : va_P G classes [(t, .inr (5, [.ref t_bandWorth, .ref t_stopWorth, .ref t_row, .ref t_rowsBehind, .int v_t_size, .int v_t_cycle, .int v_t_choices, .int v_t_stepSeconds, .long v_t_rowsLeft, .long v_t_bestScore])), (t_stopWorth, .inr (4, [.ref t_stopWorth_stopsApart, .ref t_stopWorth_stopsTo, .ref t_stopWorth_offsets, .int v_t_stopWorth_cycle, .int v_t_stopWorth_stepSeconds])), (t_stopWorth_stopsApart, .inl (K 0, 600, .inl v_t_stopWorth_stopsApart)), (t_stopWorth_stopsTo, .inl (K 1, 5, .inr (.inl r63_6.2.1))), (t_stopWorth_offsets, .inl (K 0, 5, .inl r63_6.2.2)), (t_row, .inl (K 0, 5, .inl (upd v_t_row z1.toNatClampNeg (z5 * v_t_stepSeconds)))), (t_rowsBehind, .inl (K 1, 5, .inr (.inl v_t_rowsBehind))), (u3, .inr (2, [.ref u3_offsets, .int v_u3_cycle, .int v_u3_size, .int v_u3_aim, .int v_u3_sawAll])), (u3_offsets, .inl (K 0, 5, .inl v_u3_offsets))] H := hP.sub [0, 5, 6, 7, 8, 1, 2, 3, 4] rfl
            have hD : va_D A [(t, .inr (5, [.ref t_bandWorth, .ref t_stopWorth, .ref t_row, .ref t_rowsBehind, .int v_t_size, .int v_t_cycle, .int v_t_choices, .int v_t_stepSeconds, .long v_t_rowsLeft, .long v_t_bestScore])), (t_stopWorth, .inr (4, [.ref t_stopWorth_stopsApart, .ref t_stopWorth_stopsTo, .ref t_stopWorth_offsets, .int v_t_stopWorth_cycle, .int v_t_stopWorth_stepSeconds])), (t_stopWorth_stopsApart, .inl (K 0, 600, .inl v_t_stopWorth_stopsApart)), (t_stopWorth_stopsTo, .inl (K 1, 5, .inr (.inl r63_6.2.1))), (t_stopWorth_offsets, .inl (K 0, 5, .inl r63_6.2.2)), (t_row, .inl (K 0, 5, .inl (upd v_t_row z1.toNatClampNeg (z5 * v_t_stepSeconds)))), (t_rowsBehind, .inl (K 1, 5, .inr (.inl v_t_rowsBehind))), (u3, .inr (2, [.ref u3_offsets, .int v_u3_cycle, .int v_u3_size, .int v_u3_aim, .int v_u3_sawAll])), (u3_offsets, .inl (K 0, 5, .inl v_u3_offsets))] := hD.sub [0, 5, 6, 7, 8, 1, 2, 3, 4] (by decide) rfl
            refine lv_lstore (lv' := [(6, .long r63_6.1), (0, .ref t), (1, .int z1), (2, .ref t_stopWorth), (3, .ref u3), (4, .int z4), (5, .int z5)]) hx hb d_Srch_putFrom_66 hl (by decide) rfl (fun ls hl => ?_)
            refine lv_aload_n hx hb d_Srch_putFrom_68 rfl (lv_at hl 1 rfl) ?_
            refine lv_lload hx hb d_Srch_putFrom_69 (lv_at hl 0 rfl) ?_
            refine lv_aload_n hx hb d_Srch_putFrom_71 rfl (lv_at hl 4 rfl) ?_
            obtain ⟨r72_7, hC, hF⟩ := dk_b hF
            refine dk_pure (va_runV (As := [.long r63_6.1, .ref u3]) (rest := []) hfix (c_Srch_beats l G K n t t_bandWorth t_stopWorth t_row t_rowsBehind u3 u3_offsets r63_6.1 v_t_size v_t_cycle v_t_choices v_t_stepSeconds v_t_rowsLeft v_t_bestScore v_u3_cycle v_u3_size v_u3_aim v_u3_sawAll r72_7 hC) (cwV 2 hts (gd_V lk_185 lk_187 lk_188 lk_189 lk_186) rfl rfl rfl (by decide +kernel) ⟨by dsimp only [m_Srch_putFrom_stop, m_Srch_beats]; omega, by dsimp only [m_Srch_putFrom_stop, m_Srch_beats]; omega⟩) (dk_preV hK hN (hP.sub [0, 7] rfl) (va_recv hK hP (ci := 5) (q0 := 0) rfl rfl)) rfl rfl hl.1 rfl (lv_room (Nat.le_of_ble_eq_true rfl)) d_Srch_putFrom_72 ⟨Nat.le_of_ble_eq_true rfl, Nat.le_of_ble_eq_true rfl⟩) ?_
            refine lv_if_ne (tgt := 96) hx hb d_Srch_putFrom_75 (by decide) (fun c75_8 => ?_) (fun c75_8 => ?_)
            · have hF := dk_f c75_8 hF
              refine lv_iload_n hx hb d_Srch_putFrom_96 rfl (lv_at hl 2 rfl) ?_
              refine lv_aload_n hx hb d_Srch_putFrom_97 rfl (lv_at hl 1 rfl) ?_
              refine va_get (D := G) (ci := 5) (v := .int v_t_size) (C := R_Srch) (T := F_Srch) (N := 10) hx hb hts i_Srch hown hK hP 0 rfl rfl 4 (by decide) (hts _ lk_168) (fun _ h9 => h9) rfl d_Srch_putFrom_98 ?_
              refine lv_iconst (v := (1 : Int32)) hx hb d_Srch_putFrom_101 (by decide) ?_
              refine lv_isub hx hb d_Srch_putFrom_102 ?_
              refine lv_icmp_ge (tgt := 118) hx hb d_Srch_putFrom_103 (by decide) (fun c103_9 => ?_) (fun c103_9 => ?_)
              · have hF := dk_t c103_9 hF
                refine lv_aload_n hx hb d_Srch_putFrom_118 rfl (lv_at hl 1 rfl) ?_
                refine lv_dup hx hb d_Srch_putFrom_119 rfl ?_
                refine va_get (D := G) (ci := 5) (v := .long v_t_rowsLeft) (C := R_Srch) (T := F_Srch) (N := 10) hx hb hts i_Srch hown hK hP 0 rfl rfl 8 (by decide) (hts _ lk_177) (fun _ h9 => h9) rfl d_Srch_putFrom_120 ?_
                refine lv_lconst (v := (1 : Int64)) hx hb d_Srch_putFrom_123 (by decide) ?_
                refine lv_lsub hx hb d_Srch_putFrom_124 ?_
                refine va_put (D := G) (ci := 5) (v := .long (v_t_rowsLeft - (1 : Int64))) (ty := .long) (C := R_Srch) (T := F_Srch) (N := 10) hx hb hts i_Srch t_Srch t_Srch_ok n_Srch hown hK hP hD hS 0 rfl rfl 8 (by decide) (hts _ lk_177) (fun _ h9 => h9) rfl (by decide +kernel) rfl rfl (Nat.le_of_ble_eq_true rfl) d_Srch_putFrom_125 (fun H locs hP hD hS => ?_)
                have hP : va_P G classes [(t, .inr (5, [.ref t_bandWorth, .ref t_stopWorth, .ref t_row, .ref t_rowsBehind, .int v_t_size, .int v_t_cycle, .int v_t_choices, .int v_t_stepSeconds, .long (v_t_rowsLeft - (1 : Int64)), .long v_t_bestScore])), (t_stopWorth, .inr (4, [.ref t_stopWorth_stopsApart, .ref t_stopWorth_stopsTo, .ref t_stopWorth_offsets, .int v_t_stopWorth_cycle, .int v_t_stopWorth_stepSeconds])), (t_stopWorth_stopsApart, .inl (K 0, 600, .inl v_t_stopWorth_stopsApart)), (t_stopWorth_stopsTo, .inl (K 1, 5, .inr (.inl r63_6.2.1))), (t_stopWorth_offsets, .inl (K 0, 5, .inl r63_6.2.2)), (t_row, .inl (K 0, 5, .inl (upd v_t_row z1.toNatClampNeg (z5 * v_t_stepSeconds)))), (t_rowsBehind, .inl (K 1, 5, .inr (.inl v_t_rowsBehind))), (u3, .inr (2, [.ref u3_offsets, .int v_u3_cycle, .int v_u3_size, .int v_u3_aim, .int v_u3_sawAll])), (u3_offsets, .inl (K 0, 5, .inl v_u3_offsets))] H := hP
                have hD : va_D A [(t, .inr (5, [.ref t_bandWorth, .ref t_stopWorth, .ref t_row, .ref t_rowsBehind, .int v_t_size, .int v_t_cycle, .int v_t_choices, .int v_t_stepSeconds, .long (v_t_rowsLeft - (1 : Int64)), .long v_t_bestScore])), (t_stopWorth, .inr (4, [.ref t_stopWorth_stopsApart, .ref t_stopWorth_stopsTo, .ref t_stopWorth_offsets, .int v_t_stopWorth_cycle, .int v_t_stopWorth_stepSeconds])), (t_stopWorth_stopsApart, .inl (K 0, 600, .inl v_t_stopWorth_stopsApart)), (t_stopWorth_stopsTo, .inl (K 1, 5, .inr (.inl r63_6.2.1))), (t_stopWorth_offsets, .inl (K 0, 5, .inl r63_6.2.2)), (t_row, .inl (K 0, 5, .inl (upd v_t_row z1.toNatClampNeg (z5 * v_t_stepSeconds)))), (t_rowsBehind, .inl (K 1, 5, .inr (.inl v_t_rowsBehind))), (u3, .inr (2, [.ref u3_offsets, .int v_u3_cycle, .int v_u3_size, .int v_u3_aim, .int v_u3_sawAll])), (u3_offsets, .inl (K 0, 5, .inl v_u3_offsets))] := hD
                refine lv_aload_n hx hb d_Srch_putFrom_128 rfl (lv_at hl 4 rfl) ?_
                refine lv_aload_n hx hb d_Srch_putFrom_129 rfl (lv_at hl 1 rfl) ?_
                refine va_get (D := G) (ci := 5) (v := .int v_t_cycle) (C := R_Srch) (T := F_Srch) (N := 10) hx hb hts i_Srch hown hK hP 0 rfl rfl 5 (by decide) (hts _ lk_166) (fun _ h9 => h9) rfl d_Srch_putFrom_130 ?_
                refine lv_aload_n hx hb d_Srch_putFrom_133 rfl (lv_at hl 1 rfl) ?_
                refine va_get (D := G) (ci := 5) (v := .int v_t_size) (C := R_Srch) (T := F_Srch) (N := 10) hx hb hts i_Srch hown hK hP 0 rfl rfl 4 (by decide) (hts _ lk_168) (fun _ h9 => h9) rfl d_Srch_putFrom_134 ?_
                refine lv_aload_n hx hb d_Srch_putFrom_137 rfl (lv_at hl 1 rfl) ?_
                refine va_get (D := G) (ci := 5) (v := .ref t_row) (C := R_Srch) (T := F_Srch) (N := 10) hx hb hts i_Srch hown hK hP 0 rfl rfl 2 (by decide) (hts _ lk_178) (fun _ h9 => h9) rfl d_Srch_putFrom_138 ?_
                obtain ⟨r141_10, hC, hF⟩ := dk_b hF
                refine dk_mutv (wr := [(t, .inr (5, [.ref t_bandWorth, .ref t_stopWorth, .ref t_row, .ref t_rowsBehind, .int v_t_size, .int v_t_cycle, .int v_t_choices, .int v_t_stepSeconds, .long (v_t_rowsLeft - (1 : Int64)), .long v_t_bestScore])), (t_stopWorth, .inr (4, [.ref t_stopWorth_stopsApart, .ref t_stopWorth_stopsTo, .ref t_stopWorth_offsets, .int v_t_stopWorth_cycle, .int v_t_stopWorth_stepSeconds])), (t_stopWorth_stopsApart, .inl (K 0, 600, .inl v_t_stopWorth_stopsApart)), (t_stopWorth_stopsTo, .inl (K 1, 5, .inr (.inl r63_6.2.1))), (t_stopWorth_offsets, .inl (K 0, 5, .inl r63_6.2.2)), (t_rowsBehind, .inl (K 1, 5, .inr (.inl v_t_rowsBehind)))]) (va_runV (As := [.int v_t_cycle, .int v_t_size, .ref t_row]) (rest := []) hfix (c_Plan_set l G K n H.size u3 u3_offsets t_row v_t_cycle v_t_size v_u3_cycle v_u3_size v_u3_aim v_u3_sawAll v_u3_offsets (upd v_t_row z1.toNatClampNeg (z5 * v_t_stepSeconds)) r141_10 hC) (cwV 3 hts (gd_V lk_190 lk_192 lk_193 lk_94 lk_191) rfl rfl rfl (by decide +kernel) ⟨by dsimp only [m_Srch_putFrom_stop, m_Plan_set]; omega, by dsimp only [m_Srch_putFrom_stop, m_Plan_set]; omega⟩) (dk_preVm hK hN (hP.sub [7, 8, 5] rfl) (hD.sub [7, 8, 5] (by decide) rfl) (va_recv hK hP (ci := 2) (q0 := 7) rfl rfl)) rfl rfl hl.1 rfl (lv_room (Nat.le_of_ble_eq_true rfl)) d_Srch_putFrom_141 ⟨Nat.le_of_ble_eq_true rfl, Nat.le_of_ble_eq_true rfl⟩) hS hA hP hD [7, 8, 5] [0, 1, 2, 3, 4, 6] rfl rfl (by decide) (by decide) (fun _ H locs hP hD hS => ?_)
                have hP : va_P G classes [(t, .inr (5, [.ref t_bandWorth, .ref t_stopWorth, .ref t_row, .ref t_rowsBehind, .int v_t_size, .int v_t_cycle, .int v_t_choices, .int v_t_stepSeconds, .long (v_t_rowsLeft - (1 : Int64)), .long v_t_bestScore])), (t_stopWorth, .inr (4, [.ref t_stopWorth_stopsApart, .ref t_stopWorth_stopsTo, .ref t_stopWorth_offsets, .int v_t_stopWorth_cycle, .int v_t_stopWorth_stepSeconds])), (t_stopWorth_stopsApart, .inl (K 0, 600, .inl v_t_stopWorth_stopsApart)), (t_stopWorth_stopsTo, .inl (K 1, 5, .inr (.inl r63_6.2.1))), (t_stopWorth_offsets, .inl (K 0, 5, .inl r63_6.2.2)), (t_row, .inl (K 0, 5, .inl (upd v_t_row z1.toNatClampNeg (z5 * v_t_stepSeconds)))), (t_rowsBehind, .inl (K 1, 5, .inr (.inl v_t_rowsBehind))), (u3, .inr (2, [.ref u3_offsets, .int r141_10.1, .int r141_10.2.1, .int v_u3_aim, .int v_u3_sawAll])), (u3_offsets, .inl (K 0, 5, .inl r141_10.2.2))] H := hP.sub [0, 1, 2, 3, 4, 8, 5, 6, 7] rfl
                have hD : va_D A [(t, .inr (5, [.ref t_bandWorth, .ref t_stopWorth, .ref t_row, .ref t_rowsBehind, .int v_t_size, .int v_t_cycle, .int v_t_choices, .int v_t_stepSeconds, .long (v_t_rowsLeft - (1 : Int64)), .long v_t_bestScore])), (t_stopWorth, .inr (4, [.ref t_stopWorth_stopsApart, .ref t_stopWorth_stopsTo, .ref t_stopWorth_offsets, .int v_t_stopWorth_cycle, .int v_t_stopWorth_stepSeconds])), (t_stopWorth_stopsApart, .inl (K 0, 600, .inl v_t_stopWorth_stopsApart)), (t_stopWorth_stopsTo, .inl (K 1, 5, .inr (.inl r63_6.2.1))), (t_stopWorth_offsets, .inl (K 0, 5, .inl r63_6.2.2)), (t_row, .inl (K 0, 5, .inl (upd v_t_row z1.toNatClampNeg (z5 * v_t_stepSeconds)))), (t_rowsBehind, .inl (K 1, 5, .inr (.inl v_t_rowsBehind))), (u3, .inr (2, [.ref u3_offsets, .int r141_10.1, .int r141_10.2.1, .int v_u3_aim, .int v_u3_sawAll])), (u3_offsets, .inl (K 0, 5, .inl r141_10.2.2))] := hD.sub [0, 1, 2, 3, 4, 8, 5, 6, 7] (by decide) rfl
                refine lv_aload_n hx hb d_Srch_putFrom_144 rfl (lv_at hl 1 rfl) ?_
                refine lv_lload hx hb d_Srch_putFrom_145 (lv_at hl 0 rfl) ?_
                refine va_put (D := G) (ci := 5) (v := .long r63_6.1) (ty := .long) (C := R_Srch) (T := F_Srch) (N := 10) hx hb hts i_Srch t_Srch t_Srch_ok n_Srch hown hK hP hD hS 0 rfl rfl 9 (by decide) (hts _ lk_165) (fun _ h9 => h9) rfl (by decide +kernel) rfl rfl (Nat.le_of_ble_eq_true rfl) d_Srch_putFrom_147 (fun H locs hP hD hS => ?_)
                have hP : va_P G classes [(t, .inr (5, [.ref t_bandWorth, .ref t_stopWorth, .ref t_row, .ref t_rowsBehind, .int v_t_size, .int v_t_cycle, .int v_t_choices, .int v_t_stepSeconds, .long (v_t_rowsLeft - (1 : Int64)), .long r63_6.1])), (t_stopWorth, .inr (4, [.ref t_stopWorth_stopsApart, .ref t_stopWorth_stopsTo, .ref t_stopWorth_offsets, .int v_t_stopWorth_cycle, .int v_t_stopWorth_stepSeconds])), (t_stopWorth_stopsApart, .inl (K 0, 600, .inl v_t_stopWorth_stopsApart)), (t_stopWorth_stopsTo, .inl (K 1, 5, .inr (.inl r63_6.2.1))), (t_stopWorth_offsets, .inl (K 0, 5, .inl r63_6.2.2)), (t_row, .inl (K 0, 5, .inl (upd v_t_row z1.toNatClampNeg (z5 * v_t_stepSeconds)))), (t_rowsBehind, .inl (K 1, 5, .inr (.inl v_t_rowsBehind))), (u3, .inr (2, [.ref u3_offsets, .int r141_10.1, .int r141_10.2.1, .int v_u3_aim, .int v_u3_sawAll])), (u3_offsets, .inl (K 0, 5, .inl r141_10.2.2))] H := hP
                have hD : va_D A [(t, .inr (5, [.ref t_bandWorth, .ref t_stopWorth, .ref t_row, .ref t_rowsBehind, .int v_t_size, .int v_t_cycle, .int v_t_choices, .int v_t_stepSeconds, .long (v_t_rowsLeft - (1 : Int64)), .long r63_6.1])), (t_stopWorth, .inr (4, [.ref t_stopWorth_stopsApart, .ref t_stopWorth_stopsTo, .ref t_stopWorth_offsets, .int v_t_stopWorth_cycle, .int v_t_stopWorth_stepSeconds])), (t_stopWorth_stopsApart, .inl (K 0, 600, .inl v_t_stopWorth_stopsApart)), (t_stopWorth_stopsTo, .inl (K 1, 5, .inr (.inl r63_6.2.1))), (t_stopWorth_offsets, .inl (K 0, 5, .inl r63_6.2.2)), (t_row, .inl (K 0, 5, .inl (upd v_t_row z1.toNatClampNeg (z5 * v_t_stepSeconds)))), (t_rowsBehind, .inl (K 1, 5, .inr (.inl v_t_rowsBehind))), (u3, .inr (2, [.ref u3_offsets, .int r141_10.1, .int r141_10.2.1, .int v_u3_aim, .int v_u3_sawAll])), (u3_offsets, .inl (K 0, 5, .inl r141_10.2.2))] := hD
                refine lv_iinc (v := z5 + (1 : Int32)) (lv' := [(5, .int (z5 + (1 : Int32))), (6, .long r63_6.1), (0, .ref t), (1, .int z1), (2, .ref t_stopWorth), (3, .ref u3), (4, .int z4)]) hx hb d_Srch_putFrom_150 hl (k := 6) rfl rfl (by decide) rfl (fun ls hl => ?_)
                refine lv_goto (tgt := 30) hx hb d_Srch_putFrom_153 (by decide) ?_
                exact jh z1 z4 (z5 + (1 : Int32)) (v_t_rowsLeft - (1 : Int64)) r63_6.1 r63_6.2.1 r63_6.2.2 (upd v_t_row z1.toNatClampNeg (z5 * v_t_stepSeconds)) r141_10.1 r141_10.2.1 r141_10.2.2 H locs q hF hP hD hS ls (lv_sub hl [2, 3, 4, 5, 6, 0] rfl) hk
              · have hF := dk_f c103_9 hF
                refine lv_aload_n hx hb d_Srch_putFrom_106 rfl (lv_at hl 1 rfl) ?_
                refine lv_iload_n hx hb d_Srch_putFrom_107 rfl (lv_at hl 2 rfl) ?_
                refine lv_iconst (v := (1 : Int32)) hx hb d_Srch_putFrom_108 (by decide) ?_
                refine lv_iadd hx hb d_Srch_putFrom_109 ?_
                refine lv_aload_n hx hb d_Srch_putFrom_110 rfl (lv_at hl 3 rfl) ?_
                refine lv_aload_n hx hb d_Srch_putFrom_111 rfl (lv_at hl 4 rfl) ?_
                obtain ⟨r112_11, hC, hF⟩ := dk_b hF
                refine dk_mutv (wr := []) (va_runV (As := [.int (z1 + (1 : Int32)), .ref t_stopWorth, .ref u3]) (rest := []) hfix (ih H.size (z1 + (1 : Int32)) v_t_size v_t_cycle v_t_choices v_t_stepSeconds v_t_rowsLeft v_t_bestScore v_t_stopWorth_cycle v_t_stopWorth_stepSeconds v_t_stopWorth_stopsApart r63_6.2.1 r63_6.2.2 (upd v_t_row z1.toNatClampNeg (z5 * v_t_stepSeconds)) v_t_rowsBehind v_u3_cycle v_u3_size v_u3_aim v_u3_sawAll v_u3_offsets r112_11 hC) (cwV 3 hts (gd_V lk_194 lk_196 lk_197 lk_189 lk_195) rfl rfl rfl (by decide +kernel) ⟨by dsimp only [m_Srch_putFrom_stop, m_Srch_putFrom_stop]; omega, by dsimp only [m_Srch_putFrom_stop, m_Srch_putFrom_stop]; omega⟩) (dk_preVm hK hN (hP.sub [0, 1, 2, 3, 4, 5, 6, 7, 8] rfl) (hD.sub [0, 1, 2, 3, 4, 5, 6, 7, 8] (by decide) rfl) (va_recv hK hP (ci := 5) (q0 := 0) rfl rfl)) rfl rfl hl.1 rfl (lv_room (Nat.le_of_ble_eq_true rfl)) d_Srch_putFrom_112 ⟨Nat.le_of_ble_eq_true rfl, Nat.le_of_ble_eq_true rfl⟩) hS hA hP hD [0, 1, 2, 3, 4, 5, 6, 7, 8] [] rfl rfl (by decide) (by decide) (fun _ H locs hP hD hS => ?_)
                have hP : va_P G classes [(t, .inr (5, [.ref t_bandWorth, .ref t_stopWorth, .ref t_row, .ref t_rowsBehind, .int v_t_size, .int v_t_cycle, .int v_t_choices, .int v_t_stepSeconds, .long r112_11.1, .long r112_11.2.1])), (t_stopWorth, .inr (4, [.ref t_stopWorth_stopsApart, .ref t_stopWorth_stopsTo, .ref t_stopWorth_offsets, .int v_t_stopWorth_cycle, .int v_t_stopWorth_stepSeconds])), (t_stopWorth_stopsApart, .inl (K 0, 600, .inl v_t_stopWorth_stopsApart)), (t_stopWorth_stopsTo, .inl (K 1, 5, .inr (.inl r112_11.2.2.1))), (t_stopWorth_offsets, .inl (K 0, 5, .inl r112_11.2.2.2.1)), (t_row, .inl (K 0, 5, .inl r112_11.2.2.2.2.1)), (t_rowsBehind, .inl (K 1, 5, .inr (.inl v_t_rowsBehind))), (u3, .inr (2, [.ref u3_offsets, .int r112_11.2.2.2.2.2.1, .int r112_11.2.2.2.2.2.2.1, .int v_u3_aim, .int v_u3_sawAll])), (u3_offsets, .inl (K 0, 5, .inl r112_11.2.2.2.2.2.2.2))] H := hP.sub [0, 1, 2, 3, 4, 5, 6, 7, 8] rfl
                have hD : va_D A [(t, .inr (5, [.ref t_bandWorth, .ref t_stopWorth, .ref t_row, .ref t_rowsBehind, .int v_t_size, .int v_t_cycle, .int v_t_choices, .int v_t_stepSeconds, .long r112_11.1, .long r112_11.2.1])), (t_stopWorth, .inr (4, [.ref t_stopWorth_stopsApart, .ref t_stopWorth_stopsTo, .ref t_stopWorth_offsets, .int v_t_stopWorth_cycle, .int v_t_stopWorth_stepSeconds])), (t_stopWorth_stopsApart, .inl (K 0, 600, .inl v_t_stopWorth_stopsApart)), (t_stopWorth_stopsTo, .inl (K 1, 5, .inr (.inl r112_11.2.2.1))), (t_stopWorth_offsets, .inl (K 0, 5, .inl r112_11.2.2.2.1)), (t_row, .inl (K 0, 5, .inl r112_11.2.2.2.2.1)), (t_rowsBehind, .inl (K 1, 5, .inr (.inl v_t_rowsBehind))), (u3, .inr (2, [.ref u3_offsets, .int r112_11.2.2.2.2.2.1, .int r112_11.2.2.2.2.2.2.1, .int v_u3_aim, .int v_u3_sawAll])), (u3_offsets, .inl (K 0, 5, .inl r112_11.2.2.2.2.2.2.2))] := hD.sub [0, 1, 2, 3, 4, 5, 6, 7, 8] (by decide) rfl
                refine lv_goto (tgt := 150) hx hb d_Srch_putFrom_115 (by decide) ?_
                refine lv_iinc (v := z5 + (1 : Int32)) (lv' := [(5, .int (z5 + (1 : Int32))), (6, .long r63_6.1), (0, .ref t), (1, .int z1), (2, .ref t_stopWorth), (3, .ref u3), (4, .int z4)]) hx hb d_Srch_putFrom_150 hl (k := 6) rfl rfl (by decide) rfl (fun ls hl => ?_)
                refine lv_goto (tgt := 30) hx hb d_Srch_putFrom_153 (by decide) ?_
                exact jh z1 z4 (z5 + (1 : Int32)) r112_11.1 r112_11.2.1 r112_11.2.2.1 r112_11.2.2.2.1 r112_11.2.2.2.2.1 r112_11.2.2.2.2.2.1 r112_11.2.2.2.2.2.2.1 r112_11.2.2.2.2.2.2.2 H locs q hF hP hD hS ls (lv_sub hl [2, 3, 4, 5, 6, 0] rfl) hk
            · have hF := dk_t c75_8 hF
              refine lv_aload_n hx hb d_Srch_putFrom_78 rfl (lv_at hl 1 rfl) ?_
              refine lv_dup hx hb d_Srch_putFrom_79 rfl ?_
              refine va_get (D := G) (ci := 5) (v := .long v_t_rowsLeft) (C := R_Srch) (T := F_Srch) (N := 10) hx hb hts i_Srch hown hK hP 0 rfl rfl 8 (by decide) (hts _ lk_177) (fun _ h9 => h9) rfl d_Srch_putFrom_80 ?_
              refine lv_aload_n hx hb d_Srch_putFrom_83 rfl (lv_at hl 1 rfl) ?_
              refine va_get (D := G) (ci := 5) (v := .ref t_rowsBehind) (C := R_Srch) (T := F_Srch) (N := 10) hx hb hts i_Srch hown hK hP 0 rfl rfl 3 (by decide) (hts _ lk_173) (fun _ h9 => h9) rfl d_Srch_putFrom_84 ?_
              refine lv_iload_n hx hb d_Srch_putFrom_87 rfl (lv_at hl 2 rfl) ?_
              obtain ⟨hi, hF⟩ := dk_a hF
              refine va_lald (D := G) hx hb hK hP 6 1 rfl rfl (dk_vp hi) d_Srch_putFrom_88 ?_
              refine lv_lsub hx hb d_Srch_putFrom_89 ?_
              refine va_put (D := G) (ci := 5) (v := .long (v_t_rowsLeft - (v_t_rowsBehind z1.toNatClampNeg))) (ty := .long) (C := R_Srch) (T := F_Srch) (N := 10) hx hb hts i_Srch t_Srch t_Srch_ok n_Srch hown hK hP hD hS 0 rfl rfl 8 (by decide) (hts _ lk_177) (fun _ h9 => h9) rfl (by decide +kernel) rfl rfl (Nat.le_of_ble_eq_true rfl) d_Srch_putFrom_90 (fun H locs hP hD hS => ?_)
              have hP : va_P G classes [(t, .inr (5, [.ref t_bandWorth, .ref t_stopWorth, .ref t_row, .ref t_rowsBehind, .int v_t_size, .int v_t_cycle, .int v_t_choices, .int v_t_stepSeconds, .long (v_t_rowsLeft - (v_t_rowsBehind z1.toNatClampNeg)), .long v_t_bestScore])), (t_stopWorth, .inr (4, [.ref t_stopWorth_stopsApart, .ref t_stopWorth_stopsTo, .ref t_stopWorth_offsets, .int v_t_stopWorth_cycle, .int v_t_stopWorth_stepSeconds])), (t_stopWorth_stopsApart, .inl (K 0, 600, .inl v_t_stopWorth_stopsApart)), (t_stopWorth_stopsTo, .inl (K 1, 5, .inr (.inl r63_6.2.1))), (t_stopWorth_offsets, .inl (K 0, 5, .inl r63_6.2.2)), (t_row, .inl (K 0, 5, .inl (upd v_t_row z1.toNatClampNeg (z5 * v_t_stepSeconds)))), (t_rowsBehind, .inl (K 1, 5, .inr (.inl v_t_rowsBehind))), (u3, .inr (2, [.ref u3_offsets, .int v_u3_cycle, .int v_u3_size, .int v_u3_aim, .int v_u3_sawAll])), (u3_offsets, .inl (K 0, 5, .inl v_u3_offsets))] H := hP
              have hD : va_D A [(t, .inr (5, [.ref t_bandWorth, .ref t_stopWorth, .ref t_row, .ref t_rowsBehind, .int v_t_size, .int v_t_cycle, .int v_t_choices, .int v_t_stepSeconds, .long (v_t_rowsLeft - (v_t_rowsBehind z1.toNatClampNeg)), .long v_t_bestScore])), (t_stopWorth, .inr (4, [.ref t_stopWorth_stopsApart, .ref t_stopWorth_stopsTo, .ref t_stopWorth_offsets, .int v_t_stopWorth_cycle, .int v_t_stopWorth_stepSeconds])), (t_stopWorth_stopsApart, .inl (K 0, 600, .inl v_t_stopWorth_stopsApart)), (t_stopWorth_stopsTo, .inl (K 1, 5, .inr (.inl r63_6.2.1))), (t_stopWorth_offsets, .inl (K 0, 5, .inl r63_6.2.2)), (t_row, .inl (K 0, 5, .inl (upd v_t_row z1.toNatClampNeg (z5 * v_t_stepSeconds)))), (t_rowsBehind, .inl (K 1, 5, .inr (.inl v_t_rowsBehind))), (u3, .inr (2, [.ref u3_offsets, .int v_u3_cycle, .int v_u3_size, .int v_u3_aim, .int v_u3_sawAll])), (u3_offsets, .inl (K 0, 5, .inl v_u3_offsets))] := hD
              refine lv_goto (tgt := 150) hx hb d_Srch_putFrom_93 (by decide) ?_
              refine lv_iinc (v := z5 + (1 : Int32)) (lv' := [(5, .int (z5 + (1 : Int32))), (6, .long r63_6.1), (0, .ref t), (1, .int z1), (2, .ref t_stopWorth), (3, .ref u3), (4, .int z4)]) hx hb d_Srch_putFrom_150 hl (k := 6) rfl rfl (by decide) rfl (fun ls hl => ?_)
              refine lv_goto (tgt := 30) hx hb d_Srch_putFrom_153 (by decide) ?_
              exact jh z1 z4 (z5 + (1 : Int32)) (v_t_rowsLeft - (v_t_rowsBehind z1.toNatClampNeg)) v_t_bestScore r63_6.2.1 r63_6.2.2 (upd v_t_row z1.toNatClampNeg (z5 * v_t_stepSeconds)) v_u3_cycle v_u3_size v_u3_offsets H locs q hF hP hD hS ls (lv_sub hl [2, 3, 4, 5, 6, 0] rfl) hk
    have hF := (q_Srch_putFrom_stop n d x1 v_t_choices v_t_stepSeconds v_t_stopWorth_stepSeconds v_t_stopWorth_cycle v_t_stopWorth_stopsApart v_t_cycle v_t_size v_t_rowsBehind v_t_rowsLeft v_t_bestScore v_t_stopWorth_stopsTo v_t_stopWorth_offsets v_t_row v_u3_cycle v_u3_size v_u3_offsets).symm.trans hF
    refine lv_iload_n hx hb d_Srch_putFrom_0 rfl (lv_at hl 1 rfl) ?_
    refine lv_i2l hx hb d_Srch_putFrom_1 rfl ?_
    refine lv_lconst (v := (0 : Int64)) hx hb d_Srch_putFrom_2 (by decide) ?_
    refine lv_ldc2 (own := R_Srch) (index := 95) (v := (4 : Int64)) hx hb hown (hts _ lk_175) d_Srch_putFrom_3 ?_
    obtain ⟨r6_1, hC, hF⟩ := dk_b hF
    refine dk_pure (va_runSN (As := [.long x1.toInt64, .long (0 : Int64), .long (4 : Int64)]) (rest := []) hfix (c_WO_within l G K n x1.toInt64 (0 : Int64) (4 : Int64) r6_1 hC) (⟨va_cnB 3 hts (gd_w lk_136) rfl rfl rfl (hN.1 _ lk_176) (hts _ lk_16) (by decide +kernel) ⟨by dsimp only [m_Srch_putFrom_stop, m_WO_within]; omega, by dsimp only [m_Srch_putFrom_stop, m_WO_within]; omega⟩, hts _ lk_137, trivial⟩) (dk_preS hK hN (hP.sub [] rfl)) rfl rfl hl.1 rfl (lv_room (Nat.le_of_ble_eq_true rfl)) d_Srch_putFrom_6 ⟨Nat.le_of_ble_eq_true rfl, Nat.le_of_ble_eq_true rfl⟩) ?_
    refine lv_if_ne (tgt := 13) hx hb d_Srch_putFrom_9 (by decide) (fun c9_2 => ?_) (fun c9_2 => ?_)
    · have hF := dk_f c9_2 hF
      refine lv_iload_n hx hb d_Srch_putFrom_13 rfl (lv_at hl 1 rfl) ?_
      refine lv_if_ne (tgt := 21) hx hb d_Srch_putFrom_14 (by decide) (fun c14_3 => ?_) (fun c14_3 => ?_)
      · have hF := dk_f c14_3 hF
        refine lv_aload_n hx hb d_Srch_putFrom_21 rfl (lv_at hl 0 rfl) ?_
        refine va_get (D := G) (ci := 5) (v := .int v_t_choices) (C := R_Srch) (T := F_Srch) (N := 10) hx hb hts i_Srch hown hK hP 0 rfl rfl 6 (by decide) (hts _ lk_170) (fun _ h9 => h9) rfl d_Srch_putFrom_22 ?_
        refine lv_istore (lv' := [(4, .int v_t_choices), (0, .ref t), (1, .int x1), (2, .ref t_stopWorth), (3, .ref u3)]) hx hb d_Srch_putFrom_25 hl (by decide) rfl (fun ls hl => ?_)
        refine lv_iconst (v := (0 : Int32)) hx hb d_Srch_putFrom_27 (by decide) ?_
        refine lv_istore (lv' := [(5, .int (0 : Int32)), (4, .int v_t_choices), (0, .ref t), (1, .int x1), (2, .ref t_stopWorth), (3, .ref u3)]) hx hb d_Srch_putFrom_28 hl (by decide) rfl (fun ls hl => ?_)
        obtain ⟨q30_12, hC, hF⟩ := dk_b hF
        refine L30 n x1 v_t_choices (0 : Int32) v_t_rowsLeft v_t_bestScore v_t_stopWorth_stopsTo v_t_stopWorth_offsets v_t_row v_u3_cycle v_u3_size v_u3_offsets s.heap [] q30_12 hC hP hD hS ls (lv_sub hl [2, 3, 4, 5, 1, 0] rfl) (fun H locs ls hP hD hS hl => ?_)
        obtain rfl := Option.some.inj hF
        exact W.vret hx hb hr (fun t ht hW => ⟨⟨(), rfl, by rw [ht]; exact hP, hD⟩, hS.F ht⟩) hS.2.2 d_Srch_putFrom_156
      · have hF := dk_t c14_3 hF
        refine lv_iconst (v := (1 : Int32)) hx hb d_Srch_putFrom_17 (by decide) ?_
        refine lv_goto (tgt := 25) hx hb d_Srch_putFrom_18 (by decide) ?_
        refine lv_istore (lv' := [(4, .int (1 : Int32)), (0, .ref t), (1, .int x1), (2, .ref t_stopWorth), (3, .ref u3)]) hx hb d_Srch_putFrom_25 hl (by decide) rfl (fun ls hl => ?_)
        refine lv_iconst (v := (0 : Int32)) hx hb d_Srch_putFrom_27 (by decide) ?_
        refine lv_istore (lv' := [(5, .int (0 : Int32)), (4, .int (1 : Int32)), (0, .ref t), (1, .int x1), (2, .ref t_stopWorth), (3, .ref u3)]) hx hb d_Srch_putFrom_28 hl (by decide) rfl (fun ls hl => ?_)
        obtain ⟨q30_13, hC, hF⟩ := dk_b hF
        refine L30 n x1 (1 : Int32) (0 : Int32) v_t_rowsLeft v_t_bestScore v_t_stopWorth_stopsTo v_t_stopWorth_offsets v_t_row v_u3_cycle v_u3_size v_u3_offsets s.heap [] q30_13 hC hP hD hS ls (lv_sub hl [2, 3, 4, 5, 1, 0] rfl) (fun H locs ls hP hD hS hl => ?_)
        obtain rfl := Option.some.inj hF
        exact W.vret hx hb hr (fun t ht hW => ⟨⟨(), rfl, by rw [ht]; exact hP, hD⟩, hS.F ht⟩) hS.2.2 d_Srch_putFrom_156
    · have hF := dk_t c9_2 hF
      obtain rfl := Option.some.inj hF
      exact W.vret hx hb hr (fun t ht hW => ⟨⟨(), rfl, by rw [ht]; exact hP, hD⟩, hS.F ht⟩) hS.2.2 d_Srch_putFrom_12
