theorem d_Stop_begin_0 : decode b_Stop_begin 0 = .ok (.aload_n 0, 1) := by decide +kernel
theorem d_Stop_begin_1 : decode b_Stop_begin 1 = .ok (.iload_n 2, 1) := by decide +kernel
theorem d_Stop_begin_2 : decode b_Stop_begin 2 = .ok (.putfield 22, 3) := by decide +kernel
theorem d_Stop_begin_5 : decode b_Stop_begin 5 = .ok (.aload_n 0, 1) := by decide +kernel
theorem d_Stop_begin_6 : decode b_Stop_begin 6 = .ok (.aload_n 1, 1) := by decide +kernel
theorem d_Stop_begin_7 : decode b_Stop_begin 7 = .ok (.invokevirtual 26, 3) := by decide +kernel
theorem d_Stop_begin_10 : decode b_Stop_begin 10 = .ok (.putfield 32, 3) := by decide +kernel
theorem d_Stop_begin_13 : decode b_Stop_begin 13 = .ok (.iconst 1, 1) := by decide +kernel
theorem d_Stop_begin_14 : decode b_Stop_begin 14 = .ok (.istore_n 3, 1) := by decide +kernel
theorem d_Stop_begin_15 : decode b_Stop_begin 15 = .ok (.iload_n 3, 1) := by decide +kernel
theorem d_Stop_begin_16 : decode b_Stop_begin 16 = .ok (.aload_n 1, 1) := by decide +kernel
theorem d_Stop_begin_17 : decode b_Stop_begin 17 = .ok (.invokevirtual 35, 3) := by decide +kernel
theorem d_Stop_begin_20 : decode b_Stop_begin 20 = .ok (.if_icmp .ge 62, 3) := by decide +kernel
theorem d_Stop_begin_23 : decode b_Stop_begin 23 = .ok (.iload_n 3, 1) := by decide +kernel
theorem d_Stop_begin_24 : decode b_Stop_begin 24 = .ok (.iconst 5, 1) := by decide +kernel
theorem d_Stop_begin_25 : decode b_Stop_begin 25 = .ok (.if_icmp .ge 57, 3) := by decide +kernel
theorem d_Stop_begin_28 : decode b_Stop_begin 28 = .ok (.iconst 0, 1) := by decide +kernel
theorem d_Stop_begin_29 : decode b_Stop_begin 29 = .ok (.istore 4, 2) := by decide +kernel
theorem d_Stop_begin_31 : decode b_Stop_begin 31 = .ok (.iload 4, 2) := by decide +kernel
theorem d_Stop_begin_33 : decode b_Stop_begin 33 = .ok (.aload_n 0, 1) := by decide +kernel
theorem d_Stop_begin_34 : decode b_Stop_begin 34 = .ok (.getfield 22, 3) := by decide +kernel
theorem d_Stop_begin_37 : decode b_Stop_begin 37 = .ok (.if_icmp .ge 39, 3) := by decide +kernel
theorem d_Stop_begin_40 : decode b_Stop_begin 40 = .ok (.iload 4, 2) := by decide +kernel
theorem d_Stop_begin_42 : decode b_Stop_begin 42 = .ok (.bipush 120, 2) := by decide +kernel
theorem d_Stop_begin_44 : decode b_Stop_begin 44 = .ok (.if_icmp .ge 32, 3) := by decide +kernel
theorem d_Stop_begin_47 : decode b_Stop_begin 47 = .ok (.aload_n 0, 1) := by decide +kernel
theorem d_Stop_begin_48 : decode b_Stop_begin 48 = .ok (.getfield 9, 3) := by decide +kernel
theorem d_Stop_begin_51 : decode b_Stop_begin 51 = .ok (.iload_n 3, 1) := by decide +kernel
theorem d_Stop_begin_52 : decode b_Stop_begin 52 = .ok (.bipush 120, 2) := by decide +kernel
theorem d_Stop_begin_54 : decode b_Stop_begin 54 = .ok (.imul, 1) := by decide +kernel
theorem d_Stop_begin_55 : decode b_Stop_begin 55 = .ok (.iload 4, 2) := by decide +kernel
theorem d_Stop_begin_57 : decode b_Stop_begin 57 = .ok (.iadd, 1) := by decide +kernel
theorem d_Stop_begin_58 : decode b_Stop_begin 58 = .ok (.aload_n 1, 1) := by decide +kernel
theorem d_Stop_begin_59 : decode b_Stop_begin 59 = .ok (.iload_n 3, 1) := by decide +kernel
theorem d_Stop_begin_60 : decode b_Stop_begin 60 = .ok (.iload 4, 2) := by decide +kernel
theorem d_Stop_begin_62 : decode b_Stop_begin 62 = .ok (.aload_n 0, 1) := by decide +kernel
theorem d_Stop_begin_63 : decode b_Stop_begin 63 = .ok (.getfield 22, 3) := by decide +kernel
theorem d_Stop_begin_66 : decode b_Stop_begin 66 = .ok (.invokevirtual 38, 3) := by decide +kernel
theorem d_Stop_begin_69 : decode b_Stop_begin 69 = .ok (.iastore, 1) := by decide +kernel
theorem d_Stop_begin_70 : decode b_Stop_begin 70 = .ok (.iinc 4 1, 3) := by decide +kernel
theorem d_Stop_begin_73 : decode b_Stop_begin 73 = .ok (.goto (-42), 3) := by decide +kernel
theorem d_Stop_begin_76 : decode b_Stop_begin 76 = .ok (.iinc 3 1, 3) := by decide +kernel
theorem d_Stop_begin_79 : decode b_Stop_begin 79 = .ok (.goto (-64), 3) := by decide +kernel
theorem d_Stop_begin_82 : decode b_Stop_begin 82 = .ok (.return_, 1) := by decide +kernel
theorem d_Stop_put_0 : decode b_Stop_put 0 = .ok (.iload_n 1, 1) := by decide +kernel
theorem d_Stop_put_1 : decode b_Stop_put 1 = .ok (.i2l, 1) := by decide +kernel
theorem d_Stop_put_2 : decode b_Stop_put 2 = .ok (.lconst 0, 1) := by decide +kernel
theorem d_Stop_put_3 : decode b_Stop_put 3 = .ok (.ldc2_w 42, 3) := by decide +kernel
theorem d_Stop_put_6 : decode b_Stop_put 6 = .ok (.invokestatic 44, 3) := by decide +kernel
theorem d_Stop_put_9 : decode b_Stop_put 9 = .ok (.ifCond .ne 5, 3) := by decide +kernel
theorem d_Stop_put_12 : decode b_Stop_put 12 = .ok (.lconst 0, 1) := by decide +kernel
theorem d_Stop_put_13 : decode b_Stop_put 13 = .ok (.lreturn, 1) := by decide +kernel
theorem d_Stop_put_14 : decode b_Stop_put 14 = .ok (.aload_n 0, 1) := by decide +kernel
theorem d_Stop_put_15 : decode b_Stop_put 15 = .ok (.getfield 19, 3) := by decide +kernel
theorem d_Stop_put_18 : decode b_Stop_put 18 = .ok (.iload_n 1, 1) := by decide +kernel
theorem d_Stop_put_19 : decode b_Stop_put 19 = .ok (.iload_n 2, 1) := by decide +kernel
theorem d_Stop_put_20 : decode b_Stop_put 20 = .ok (.aload_n 0, 1) := by decide +kernel
theorem d_Stop_put_21 : decode b_Stop_put 21 = .ok (.getfield 32, 3) := by decide +kernel
theorem d_Stop_put_24 : decode b_Stop_put 24 = .ok (.imul, 1) := by decide +kernel
theorem d_Stop_put_25 : decode b_Stop_put 25 = .ok (.iastore, 1) := by decide +kernel
theorem d_Stop_put_26 : decode b_Stop_put 26 = .ok (.iload_n 1, 1) := by decide +kernel
theorem d_Stop_put_27 : decode b_Stop_put 27 = .ok (.ifCond .ne 13, 3) := by decide +kernel
theorem d_Stop_put_30 : decode b_Stop_put 30 = .ok (.aload_n 0, 1) := by decide +kernel
theorem d_Stop_put_31 : decode b_Stop_put 31 = .ok (.getfield 15, 3) := by decide +kernel
theorem d_Stop_put_34 : decode b_Stop_put 34 = .ok (.iload_n 1, 1) := by decide +kernel
theorem d_Stop_put_35 : decode b_Stop_put 35 = .ok (.lconst 0, 1) := by decide +kernel
theorem d_Stop_put_36 : decode b_Stop_put 36 = .ok (.lastore, 1) := by decide +kernel
theorem d_Stop_put_37 : decode b_Stop_put 37 = .ok (.goto 58, 3) := by decide +kernel
theorem d_Stop_put_40 : decode b_Stop_put 40 = .ok (.aload_n 0, 1) := by decide +kernel
theorem d_Stop_put_41 : decode b_Stop_put 41 = .ok (.getfield 19, 3) := by decide +kernel
theorem d_Stop_put_44 : decode b_Stop_put 44 = .ok (.iload_n 1, 1) := by decide +kernel
theorem d_Stop_put_45 : decode b_Stop_put 45 = .ok (.iaload, 1) := by decide +kernel
theorem d_Stop_put_46 : decode b_Stop_put 46 = .ok (.aload_n 0, 1) := by decide +kernel
theorem d_Stop_put_47 : decode b_Stop_put 47 = .ok (.getfield 19, 3) := by decide +kernel
theorem d_Stop_put_50 : decode b_Stop_put 50 = .ok (.iload_n 1, 1) := by decide +kernel
theorem d_Stop_put_51 : decode b_Stop_put 51 = .ok (.iconst 1, 1) := by decide +kernel
theorem d_Stop_put_52 : decode b_Stop_put 52 = .ok (.isub, 1) := by decide +kernel
theorem d_Stop_put_53 : decode b_Stop_put 53 = .ok (.iaload, 1) := by decide +kernel
theorem d_Stop_put_54 : decode b_Stop_put 54 = .ok (.isub, 1) := by decide +kernel
theorem d_Stop_put_55 : decode b_Stop_put 55 = .ok (.aload_n 0, 1) := by decide +kernel
theorem d_Stop_put_56 : decode b_Stop_put 56 = .ok (.getfield 22, 3) := by decide +kernel
theorem d_Stop_put_59 : decode b_Stop_put 59 = .ok (.bipush 120, 2) := by decide +kernel
theorem d_Stop_put_61 : decode b_Stop_put 61 = .ok (.invokestatic 48, 3) := by decide +kernel
theorem d_Stop_put_64 : decode b_Stop_put 64 = .ok (.invokestatic 54, 3) := by decide +kernel
theorem d_Stop_put_67 : decode b_Stop_put 67 = .ok (.istore_n 3, 1) := by decide +kernel
theorem d_Stop_put_68 : decode b_Stop_put 68 = .ok (.aload_n 0, 1) := by decide +kernel
theorem d_Stop_put_69 : decode b_Stop_put 69 = .ok (.getfield 15, 3) := by decide +kernel
theorem d_Stop_put_72 : decode b_Stop_put 72 = .ok (.iload_n 1, 1) := by decide +kernel
theorem d_Stop_put_73 : decode b_Stop_put 73 = .ok (.aload_n 0, 1) := by decide +kernel
theorem d_Stop_put_74 : decode b_Stop_put 74 = .ok (.getfield 15, 3) := by decide +kernel
theorem d_Stop_put_77 : decode b_Stop_put 77 = .ok (.iload_n 1, 1) := by decide +kernel
theorem d_Stop_put_78 : decode b_Stop_put 78 = .ok (.iconst 1, 1) := by decide +kernel
theorem d_Stop_put_79 : decode b_Stop_put 79 = .ok (.isub, 1) := by decide +kernel
theorem d_Stop_put_80 : decode b_Stop_put 80 = .ok (.laload, 1) := by decide +kernel
theorem d_Stop_put_81 : decode b_Stop_put 81 = .ok (.aload_n 0, 1) := by decide +kernel
theorem d_Stop_put_82 : decode b_Stop_put 82 = .ok (.getfield 9, 3) := by decide +kernel
theorem d_Stop_put_85 : decode b_Stop_put 85 = .ok (.iload_n 1, 1) := by decide +kernel
theorem d_Stop_put_86 : decode b_Stop_put 86 = .ok (.bipush 120, 2) := by decide +kernel
theorem d_Stop_put_88 : decode b_Stop_put 88 = .ok (.imul, 1) := by decide +kernel
theorem d_Stop_put_89 : decode b_Stop_put 89 = .ok (.iload_n 3, 1) := by decide +kernel
theorem d_Stop_put_90 : decode b_Stop_put 90 = .ok (.iadd, 1) := by decide +kernel
theorem d_Stop_put_91 : decode b_Stop_put 91 = .ok (.iaload, 1) := by decide +kernel
theorem d_Stop_put_92 : decode b_Stop_put 92 = .ok (.i2l, 1) := by decide +kernel
theorem d_Stop_put_93 : decode b_Stop_put 93 = .ok (.ladd, 1) := by decide +kernel
theorem d_Stop_put_94 : decode b_Stop_put 94 = .ok (.lastore, 1) := by decide +kernel
theorem d_Stop_put_95 : decode b_Stop_put 95 = .ok (.aload_n 0, 1) := by decide +kernel
theorem d_Stop_put_96 : decode b_Stop_put 96 = .ok (.getfield 15, 3) := by decide +kernel
theorem d_Stop_put_99 : decode b_Stop_put 99 = .ok (.iload_n 1, 1) := by decide +kernel
theorem d_Stop_put_100 : decode b_Stop_put 100 = .ok (.laload, 1) := by decide +kernel
theorem d_Stop_put_101 : decode b_Stop_put 101 = .ok (.lneg, 1) := by decide +kernel
theorem d_Stop_put_102 : decode b_Stop_put 102 = .ok (.lreturn, 1) := by decide +kernel
set_option maxRecDepth 50000 in
theorem lk_145 : Cond.fieldLink R_Stop 22 "WaveOffsets$StopWorth" "cycle" "I" ∈ lw_good := List.mem_filter.mpr ⟨List.mem_append_right _ (List.mem_of_getElem? (i := 100) (by decide +kernel)), rfl⟩
set_option maxRecDepth 50000 in
theorem lk_146 : Cond.methodLink R_Stop 26 y_Road_stepOf ∈ lw_good := List.mem_filter.mpr ⟨List.mem_append_right _ (List.mem_of_getElem? (i := 399) (by decide +kernel)), rfl⟩
set_option maxRecDepth 50000 in
theorem lk_147 : Cond.fieldLink R_Stop 32 "WaveOffsets$StopWorth" "stepSeconds" "I" ∈ lw_good := List.mem_filter.mpr ⟨List.mem_append_right _ (List.mem_of_getElem? (i := 101) (by decide +kernel)), rfl⟩
set_option maxRecDepth 50000 in
theorem lk_148 : Cond.methodLink R_Stop 35 y_Road_size ∈ lw_good := List.mem_filter.mpr ⟨List.mem_append_right _ (List.mem_of_getElem? (i := 400) (by decide +kernel)), rfl⟩
set_option maxRecDepth 50000 in
theorem lk_149 : Cond.fieldLink R_Stop 9 "WaveOffsets$StopWorth" "stopsApart" "[I" ∈ lw_good := List.mem_filter.mpr ⟨List.mem_append_right _ (List.mem_of_getElem? (i := 97) (by decide +kernel)), rfl⟩
set_option maxRecDepth 50000 in
theorem lk_150 : Cond.methodLink R_Stop 38 y_Road_stopsBefore ∈ lw_good := List.mem_filter.mpr ⟨List.mem_append_right _ (List.mem_of_getElem? (i := 401) (by decide +kernel)), rfl⟩
set_option maxRecDepth 50000 in
theorem lk_151 : Cond.code y_Road_stopsBefore b_Road_stopsBefore 12 (some .int) ∈ lw_good := List.mem_filter.mpr ⟨List.mem_append_right _ (List.mem_of_getElem? (i := 404) rfl), rfl⟩
set_option maxRecDepth 50000 in
theorem lk_152 : Cond.instanceMethod y_Road_stopsBefore ∈ lw_good := List.mem_filter.mpr ⟨List.mem_append_right _ (List.mem_of_getElem? (i := 402) (by decide +kernel)), rfl⟩
set_option maxRecDepth 50000 in
theorem lk_153 : Cond.selects R_Road y_Road_stopsBefore y_Road_stopsBefore ∈ lw_good := List.mem_filter.mpr ⟨List.mem_append_right _ (List.mem_of_getElem? (i := 403) (by decide +kernel)), rfl⟩
set_option maxRecDepth 50000 in
theorem lk_154 : Cond.constantLong R_Stop 42 4 ∈ lw_good := List.mem_filter.mpr ⟨List.mem_append_right _ (List.mem_of_getElem? (i := 433) (by decide +kernel)), rfl⟩
set_option maxRecDepth 50000 in
theorem lk_155 : Cond.methodLinkNest R_Stop 44 y_WO_within "WaveOffsets" ∈ lw_nest := List.mem_filter.mpr ⟨List.mem_append_right _ (List.mem_of_getElem? (i := 434) (by decide +kernel)), rfl⟩
set_option maxRecDepth 50000 in
theorem lk_156 : Cond.fieldLink R_Stop 19 "WaveOffsets$StopWorth" "offsets" "[I" ∈ lw_good := List.mem_filter.mpr ⟨List.mem_append_right _ (List.mem_of_getElem? (i := 99) (by decide +kernel)), rfl⟩
set_option maxRecDepth 50000 in
theorem lk_157 : Cond.methodLink R_Stop 48 y_Math_min ∈ lw_good := List.mem_filter.mpr ⟨List.mem_append_right _ (List.mem_of_getElem? (i := 435) (by decide +kernel)), rfl⟩
set_option maxRecDepth 50000 in
theorem lk_158 : Cond.methodLinkNest R_Stop 54 y_WO_wrap "WaveOffsets" ∈ lw_nest := List.mem_filter.mpr ⟨List.mem_append_right _ (List.mem_of_getElem? (i := 436) (by decide +kernel)), rfl⟩
set_option maxRecDepth 50000 in
theorem lk_159 : Cond.fieldLink R_Stop 15 "WaveOffsets$StopWorth" "stopsTo" "[J" ∈ lw_good := List.mem_filter.mpr ⟨List.mem_append_right _ (List.mem_of_getElem? (i := 98) (by decide +kernel)), rfl⟩
def p_Stop_begin_31 (n : Nat) : Nat → Int32 → (Nat → Int32) → (Nat → Int32) → (Nat → Int32) → (Nat → Int32) → Int32 → Int32 → Int32 → (Nat → Int32) → Option ((Nat → Int32))
  | 0, _, _, _, _, _, _, _, _, _ => none
  | k + 1, v_u1_size, v_u1_queues, v_u1_seconds, v_u1_greens, v_u1_weights, z3, z4, v_t_cycle, v_t_stopsApart =>
    if v_t_cycle ≤ z4 then
      some v_t_stopsApart
    else
      if (120 : Int32) ≤ z4 then
        some v_t_stopsApart
      else
        (p_Road_stopsBefore n z3 z4 v_t_cycle v_u1_size v_u1_queues v_u1_seconds v_u1_greens v_u1_weights).bind fun r66_7 =>
        if dk_in ((z3 * (120 : Int32)) + z4) 600 = true then
          p_Stop_begin_31 n k v_u1_size v_u1_queues v_u1_seconds v_u1_greens v_u1_weights z3 (z4 + (1 : Int32)) v_t_cycle (upd v_t_stopsApart ((z3 * (120 : Int32)) + z4).toNatClampNeg r66_7)
        else none
theorem q_Stop_begin_31 (n k : Nat) (v_u1_size : Int32) (v_u1_queues : Nat → Int32) (v_u1_seconds : Nat → Int32) (v_u1_greens : Nat → Int32) (v_u1_weights : Nat → Int32) (z3 : Int32) (z4 : Int32) (v_t_cycle : Int32) (v_t_stopsApart : Nat → Int32) : p_Stop_begin_31 n (k + 1) v_u1_size v_u1_queues v_u1_seconds v_u1_greens v_u1_weights z3 z4 v_t_cycle v_t_stopsApart =
    if v_t_cycle ≤ z4 then
      some v_t_stopsApart
    else
      if (120 : Int32) ≤ z4 then
        some v_t_stopsApart
      else
        (p_Road_stopsBefore n z3 z4 v_t_cycle v_u1_size v_u1_queues v_u1_seconds v_u1_greens v_u1_weights).bind fun r66_7 =>
        if dk_in ((z3 * (120 : Int32)) + z4) 600 = true then
          p_Stop_begin_31 n k v_u1_size v_u1_queues v_u1_seconds v_u1_greens v_u1_weights z3 (z4 + (1 : Int32)) v_t_cycle (upd v_t_stopsApart ((z3 * (120 : Int32)) + z4).toNatClampNeg r66_7)
        else none := rfl
def p_Stop_begin_15 (n : Nat) : Nat → Int32 → (Nat → Int32) → (Nat → Int32) → (Nat → Int32) → (Nat → Int32) → Int32 → Int32 → (Nat → Int32) → Option ((Nat → Int32))
  | 0, _, _, _, _, _, _, _, _ => none
  | k + 1, v_u1_size, v_u1_queues, v_u1_seconds, v_u1_greens, v_u1_weights, z3, v_t_cycle, v_t_stopsApart =>
    (p_Road_size n v_u1_size).bind fun r17_2 =>
    if r17_2 ≤ z3 then
      some v_t_stopsApart
    else
      if (5 : Int32) ≤ z3 then
        some v_t_stopsApart
      else
        (p_Stop_begin_31 n n v_u1_size v_u1_queues v_u1_seconds v_u1_greens v_u1_weights z3 (0 : Int32) v_t_cycle v_t_stopsApart).bind fun q31_8 =>
        p_Stop_begin_15 n k v_u1_size v_u1_queues v_u1_seconds v_u1_greens v_u1_weights (z3 + (1 : Int32)) v_t_cycle q31_8
theorem q_Stop_begin_15 (n k : Nat) (v_u1_size : Int32) (v_u1_queues : Nat → Int32) (v_u1_seconds : Nat → Int32) (v_u1_greens : Nat → Int32) (v_u1_weights : Nat → Int32) (z3 : Int32) (v_t_cycle : Int32) (v_t_stopsApart : Nat → Int32) : p_Stop_begin_15 n (k + 1) v_u1_size v_u1_queues v_u1_seconds v_u1_greens v_u1_weights z3 v_t_cycle v_t_stopsApart =
    (p_Road_size n v_u1_size).bind fun r17_2 =>
    if r17_2 ≤ z3 then
      some v_t_stopsApart
    else
      if (5 : Int32) ≤ z3 then
        some v_t_stopsApart
      else
        (p_Stop_begin_31 n n v_u1_size v_u1_queues v_u1_seconds v_u1_greens v_u1_weights z3 (0 : Int32) v_t_cycle v_t_stopsApart).bind fun q31_8 =>
        p_Stop_begin_15 n k v_u1_size v_u1_queues v_u1_seconds v_u1_greens v_u1_weights (z3 + (1 : Int32)) v_t_cycle q31_8 := rfl
def p_Stop_begin (n : Nat) (x2 : Int32) (v_u1_stepSeconds : Int32) (v_u1_size : Int32) (v_u1_queues : Nat → Int32) (v_u1_seconds : Nat → Int32) (v_u1_greens : Nat → Int32) (v_u1_weights : Nat → Int32) (v_t_cycle : Int32) (v_t_stepSeconds : Int32) (v_t_stopsApart : Nat → Int32) : Option (Int32 × Int32 × (Nat → Int32)) :=
  (p_Road_stepOf n v_u1_stepSeconds).bind fun r7_1 =>
  (p_Stop_begin_15 n n v_u1_size v_u1_queues v_u1_seconds v_u1_greens v_u1_weights (1 : Int32) x2 v_t_stopsApart).bind fun q15_9 =>
  some (x2, r7_1, q15_9)
abbrev m_Stop_begin : Room := { frames := 4, cells := 0, slots := 0, locals := 94 }
set_option maxHeartbeats 4000000 in
set_option maxRecDepth 100000 in
theorem c_Stop_begin (l : Launch) (G : va_G) (K : Nat → ClassId) (n : Nat) (sz : Nat) (t : Nat) (t_stopsApart : Nat) (t_stopsTo : Nat) (t_offsets : Nat) (u1 : Nat) (u1_greens : Nat) (u1_leasts : Nat) (u1_queues : Nat) (u1_seconds : Nat) (u1_weights : Nat) (x2 : Int32) (v_t_cycle : Int32) (v_t_stepSeconds : Int32) (v_t_stopsApart : Nat → Int32) (v_u1_size : Int32) (v_u1_firstCycle : Int32) (v_u1_lastCycle : Int32) (v_u1_cycleBy : Int32) (v_u1_stepSeconds : Int32) (v_u1_greens : Nat → Int32) (v_u1_queues : Nat → Int32) (v_u1_seconds : Nat → Int32) (v_u1_weights : Nat → Int32) (o : Int32 × Int32 × (Nat → Int32)) (hF : p_Stop_begin n x2 v_u1_stepSeconds v_u1_size v_u1_queues v_u1_seconds v_u1_greens v_u1_weights v_t_cycle v_t_stepSeconds v_t_stopsApart = some o) :
    Met l y_Stop_begin (wd y_Stop_begin b_Stop_begin 5 none) m_Stop_begin (dk_Pm [.ref t, .ref u1, .int x2] G K [(t, .inr (4, [.ref t_stopsApart, .ref t_stopsTo, .ref t_offsets, .int v_t_cycle, .int v_t_stepSeconds])), (t_stopsApart, .inl (K 0, 600, .inl v_t_stopsApart)), (u1, .inr (1, [.ref u1_greens, .ref u1_leasts, .ref u1_queues, .ref u1_seconds, .ref u1_weights, .int v_u1_size, .int v_u1_firstCycle, .int v_u1_lastCycle, .int v_u1_cycleBy, .int v_u1_stepSeconds])), (u1_greens, .inl (K 0, 5, .inl v_u1_greens)), (u1_queues, .inl (K 0, 5, .inl v_u1_queues)), (u1_seconds, .inl (K 0, 10, .inl v_u1_seconds)), (u1_weights, .inl (K 0, 10, .inl v_u1_weights))] sz) (dk_Qm none G (fun _ : Unit => [(t, .inr (4, [.ref t_stopsApart, .ref t_stopsTo, .ref t_offsets, .int o.1, .int o.2.1])), (t_stopsApart, .inl (K 0, 600, .inl o.2.2)), (u1, .inr (1, [.ref u1_greens, .ref u1_leasts, .ref u1_queues, .ref u1_seconds, .ref u1_weights, .int v_u1_size, .int v_u1_firstCycle, .int v_u1_lastCycle, .int v_u1_cycleBy, .int v_u1_stepSeconds])), (u1_greens, .inl (K 0, 5, .inl v_u1_greens)), (u1_queues, .inl (K 0, 5, .inl v_u1_queues)), (u1_seconds, .inl (K 0, 10, .inl v_u1_seconds)), (u1_weights, .inl (K 0, 10, .inl v_u1_weights))]) (va_A [(t, .inr (4, [.ref t_stopsApart, .ref t_stopsTo, .ref t_offsets, .int v_t_cycle, .int v_t_stepSeconds])), (t_stopsApart, .inl (K 0, 600, .inl v_t_stopsApart)), (u1, .inr (1, [.ref u1_greens, .ref u1_leasts, .ref u1_queues, .ref u1_seconds, .ref u1_weights, .int v_u1_size, .int v_u1_firstCycle, .int v_u1_lastCycle, .int v_u1_cycleBy, .int v_u1_stepSeconds])), (u1_greens, .inl (K 0, 5, .inl v_u1_greens)), (u1_queues, .inl (K 0, 5, .inl v_u1_queues)), (u1_seconds, .inl (K 0, 10, .inl v_u1_seconds)), (u1_weights, .inl (K 0, 10, .inl v_u1_weights))] sz)) 0 0 (va_A [(t, .inr (4, [.ref t_stopsApart, .ref t_stopsTo, .ref t_offsets, .int v_t_cycle, .int v_t_stepSeconds])), (t_stopsApart, .inl (K 0, 600, .inl v_t_stopsApart)), (u1, .inr (1, [.ref u1_greens, .ref u1_leasts, .ref u1_queues, .ref u1_seconds, .ref u1_weights, .int v_u1_size, .int v_u1_firstCycle, .int v_u1_lastCycle, .int v_u1_cycleBy, .int v_u1_stepSeconds])), (u1_greens, .inl (K 0, 5, .inl v_u1_greens)), (u1_queues, .inl (K 0, 5, .inl v_u1_queues)), (u1_seconds, .inl (K 0, 10, .inl v_u1_seconds)), (u1_weights, .inl (K 0, 10, .inl v_u1_weights))] sz) := by
  refine Met.ofW (cc := b_Stop_begin) (maxL := 5) (ret := none) (by decide) rfl ?_
  intro p e s m args below meth c s₁ B hml hv
  obtain ⟨rfl, hsz, hP, hK, hN, hD0⟩ := hv
  have hx := B.exec
  have hb := B.bytes
  have hr := B.returns
  have hts : ∀ w ∈ lw_good, w.before _ s = true := fun w h => atoms_spec (ws := wd y_Stop_begin b_Stop_begin 5 none) B.pre w (List.mem_cons_of_mem _ h)
  have hown : s.vm.findClass R_Stop = some m.cls := findClass_of_methodNamed B.named
  have hlocks := B.notSynchronized
  have hfix : CallFix p m c b_Stop_begin 5 s _ lw_good R_Stop := ⟨hx, hb, hml, hown, hts⟩
  subst hsz
  have hD := hD0.self (sz := s.heap.size)
  generalize hAe : va_A [(t, .inr (4, [.ref t_stopsApart, .ref t_stopsTo, .ref t_offsets, .int v_t_cycle, .int v_t_stepSeconds])), (t_stopsApart, .inl (K 0, 600, .inl v_t_stopsApart)), (u1, .inr (1, [.ref u1_greens, .ref u1_leasts, .ref u1_queues, .ref u1_seconds, .ref u1_weights, .int v_u1_size, .int v_u1_firstCycle, .int v_u1_lastCycle, .int v_u1_cycleBy, .int v_u1_stepSeconds])), (u1_greens, .inl (K 0, 5, .inl v_u1_greens)), (u1_queues, .inl (K 0, 5, .inl v_u1_queues)), (u1_seconds, .inl (K 0, 10, .inl v_u1_seconds)), (u1_weights, .inl (K 0, 10, .inl v_u1_weights))] s.heap.size = A at hD ⊢
  have hA : ∀ q : Nat, s.heap.size ≤ q → A q := fun q h => by rw [← hAe]; exact Or.inr h
  have hS : va_S A s.heap s.heap [] := va_S.rf
  have hl := lv_entry ([.ref t, .ref u1, .int x2]) (n := 5) (Nat.le_of_ble_eq_true rfl)
  rw [lg_entry_eq]
  generalize (lg_sl ([.ref t, .ref u1, .int x2]) ++ List.replicate (5 - (lg_sl ([.ref t, .ref u1, .int x2])).length) Slot.unset).toArray = ls at hl ⊢
  have hl : lv_has ls 5 [(0, .ref t), (1, .ref u1), (2, .int x2)] := hl
  change W p l e m_Stop_begin s m _ below meth c s.heap [] 0 0 _ _
  have L31 : ∀ (k : Nat) (z3 : Int32) (z4 : Int32) (v_t_cycle : Int32) (v_t_stepSeconds : Int32) (v_t_stopsApart : Nat → Int32) (H : Heap) (locs : List Loc) (q : (Nat → Int32)), p_Stop_begin_31 n k v_u1_size v_u1_queues v_u1_seconds v_u1_greens v_u1_weights z3 z4 v_t_cycle v_t_stopsApart = some q → va_P G classes [(t, .inr (4, [.ref t_stopsApart, .ref t_stopsTo, .ref t_offsets, .int v_t_cycle, .int v_t_stepSeconds])), (t_stopsApart, .inl (K 0, 600, .inl v_t_stopsApart)), (u1, .inr (1, [.ref u1_greens, .ref u1_leasts, .ref u1_queues, .ref u1_seconds, .ref u1_weights, .int v_u1_size, .int v_u1_firstCycle, .int v_u1_lastCycle, .int v_u1_cycleBy, .int v_u1_stepSeconds])), (u1_greens, .inl (K 0, 5, .inl v_u1_greens)), (u1_queues, .inl (K 0, 5, .inl v_u1_queues)), (u1_seconds, .inl (K 0, 10, .inl v_u1_seconds)), (u1_weights, .inl (K 0, 10, .inl v_u1_weights))] H → va_D A [(t, .inr (4, [.ref t_stopsApart, .ref t_stopsTo, .ref t_offsets, .int v_t_cycle, .int v_t_stepSeconds])), (t_stopsApart, .inl (K 0, 600, .inl v_t_stopsApart)), (u1, .inr (1, [.ref u1_greens, .ref u1_leasts, .ref u1_queues, .ref u1_seconds, .ref u1_weights, .int v_u1_size, .int v_u1_firstCycle, .int v_u1_lastCycle, .int v_u1_cycleBy, .int v_u1_stepSeconds])), (u1_greens, .inl (K 0, 5, .inl v_u1_greens)), (u1_queues, .inl (K 0, 5, .inl v_u1_queues)), (u1_seconds, .inl (K 0, 10, .inl v_u1_seconds)), (u1_weights, .inl (K 0, 10, .inl v_u1_weights))] → va_S A s.heap H locs → ∀ ls : Array Slot, lv_has ls 5 [(0, .ref t), (1, .ref u1), (3, .int z3), (4, .int z4)] → (∀ (H1 : Heap) (locs1 : List Loc) (ls1 : Array Slot), va_P G classes [(t, .inr (4, [.ref t_stopsApart, .ref t_stopsTo, .ref t_offsets, .int v_t_cycle, .int v_t_stepSeconds])), (t_stopsApart, .inl (K 0, 600, .inl q)), (u1, .inr (1, [.ref u1_greens, .ref u1_leasts, .ref u1_queues, .ref u1_seconds, .ref u1_weights, .int v_u1_size, .int v_u1_firstCycle, .int v_u1_lastCycle, .int v_u1_cycleBy, .int v_u1_stepSeconds])), (u1_greens, .inl (K 0, 5, .inl v_u1_greens)), (u1_queues, .inl (K 0, 5, .inl v_u1_queues)), (u1_seconds, .inl (K 0, 10, .inl v_u1_seconds)), (u1_weights, .inl (K 0, 10, .inl v_u1_weights))] H1 → va_D A [(t, .inr (4, [.ref t_stopsApart, .ref t_stopsTo, .ref t_offsets, .int v_t_cycle, .int v_t_stepSeconds])), (t_stopsApart, .inl (K 0, 600, .inl q)), (u1, .inr (1, [.ref u1_greens, .ref u1_leasts, .ref u1_queues, .ref u1_seconds, .ref u1_weights, .int v_u1_size, .int v_u1_firstCycle, .int v_u1_lastCycle, .int v_u1_cycleBy, .int v_u1_stepSeconds])), (u1_greens, .inl (K 0, 5, .inl v_u1_greens)), (u1_queues, .inl (K 0, 5, .inl v_u1_queues)), (u1_seconds, .inl (K 0, 10, .inl v_u1_seconds)), (u1_weights, .inl (K 0, 10, .inl v_u1_weights))] → va_S A s.heap H1 locs1 → lv_has ls1 5 [(0, .ref t), (1, .ref u1), (3, .int z3)] → W p l e m_Stop_begin s m ([.ref t, .ref u1, .int x2] : List Value).toArray below meth c H1 locs1 0 0 (MQ below (dk_Qm none G (fun _ : Unit => [(t, .inr (4, [.ref t_stopsApart, .ref t_stopsTo, .ref t_offsets, .int o.1, .int o.2.1])), (t_stopsApart, .inl (K 0, 600, .inl o.2.2)), (u1, .inr (1, [.ref u1_greens, .ref u1_leasts, .ref u1_queues, .ref u1_seconds, .ref u1_weights, .int v_u1_size, .int v_u1_firstCycle, .int v_u1_lastCycle, .int v_u1_cycleBy, .int v_u1_stepSeconds])), (u1_greens, .inl (K 0, 5, .inl v_u1_greens)), (u1_queues, .inl (K 0, 5, .inl v_u1_queues)), (u1_seconds, .inl (K 0, 10, .inl v_u1_seconds)), (u1_weights, .inl (K 0, 10, .inl v_u1_weights))]) A) ([.ref t, .ref u1, .int x2] : List Value).toArray s 0 0 A) (F0 m 76 ls1 [])) → W p l e m_Stop_begin s m ([.ref t, .ref u1, .int x2] : List Value).toArray below meth c H locs 0 0 (MQ below (dk_Qm none G (fun _ : Unit => [(t, .inr (4, [.ref t_stopsApart, .ref t_stopsTo, .ref t_offsets, .int o.1, .int o.2.1])), (t_stopsApart, .inl (K 0, 600, .inl o.2.2)), (u1, .inr (1, [.ref u1_greens, .ref u1_leasts, .ref u1_queues, .ref u1_seconds, .ref u1_weights, .int v_u1_size, .int v_u1_firstCycle, .int v_u1_lastCycle, .int v_u1_cycleBy, .int v_u1_stepSeconds])), (u1_greens, .inl (K 0, 5, .inl v_u1_greens)), (u1_queues, .inl (K 0, 5, .inl v_u1_queues)), (u1_seconds, .inl (K 0, 10, .inl v_u1_seconds)), (u1_weights, .inl (K 0, 10, .inl v_u1_weights))]) A) ([.ref t, .ref u1, .int x2] : List Value).toArray s 0 0 A) (F0 m 31 ls []) := by
    intro k
    induction k with
    | zero =>
      intro z3 z4 v_t_cycle v_t_stepSeconds v_t_stopsApart H locs q hF hP hD hS ls hl hk
      exact absurd hF (by simp [p_Stop_begin_31])
    | succ k jh =>
      intro z3 z4 v_t_cycle v_t_stepSeconds v_t_stopsApart H locs q hF hP hD hS ls hl hk
      have hF := (q_Stop_begin_31 n k v_u1_size v_u1_queues v_u1_seconds v_u1_greens v_u1_weights z3 z4 v_t_cycle v_t_stopsApart).symm.trans hF
      refine lv_iload hx hb d_Stop_begin_31 (lv_at hl 3 rfl) ?_
      refine lv_aload_n hx hb d_Stop_begin_33 rfl (lv_at hl 0 rfl) ?_
      refine va_get (D := G) (ci := 4) (v := .int v_t_cycle) (C := R_Stop) (T := F_Stop) (N := 5) hx hb hts i_Stop hown hK hP 0 rfl rfl 3 (by decide) (hts _ lk_145) (fun _ h9 => h9) rfl d_Stop_begin_34 ?_
      refine lv_icmp_ge (tgt := 76) hx hb d_Stop_begin_37 (by decide) (fun c37_5 => ?_) (fun c37_5 => ?_)
      · have hF := dk_t c37_5 hF
        obtain rfl := Option.some.inj hF
        exact hk H locs ls hP hD hS (lv_sub hl [0, 1, 2] rfl)
      · have hF := dk_f c37_5 hF
        refine lv_iload hx hb d_Stop_begin_40 (lv_at hl 3 rfl) ?_
        refine lv_bipush (v := (120 : Int32)) hx hb d_Stop_begin_42 (by decide) ?_
        refine lv_icmp_ge (tgt := 76) hx hb d_Stop_begin_44 (by decide) (fun c44_6 => ?_) (fun c44_6 => ?_)
        · have hF := dk_t c44_6 hF
          obtain rfl := Option.some.inj hF
          exact hk H locs ls hP hD hS (lv_sub hl [0, 1, 2] rfl)
        · have hF := dk_f c44_6 hF
          refine lv_aload_n hx hb d_Stop_begin_47 rfl (lv_at hl 0 rfl) ?_
          refine va_get (D := G) (ci := 4) (v := .ref t_stopsApart) (C := R_Stop) (T := F_Stop) (N := 5) hx hb hts i_Stop hown hK hP 0 rfl rfl 0 (by decide) (hts _ lk_149) (fun _ h9 => h9) rfl d_Stop_begin_48 ?_
          refine lv_iload_n hx hb d_Stop_begin_51 rfl (lv_at hl 2 rfl) ?_
          refine lv_bipush (v := (120 : Int32)) hx hb d_Stop_begin_52 (by decide) ?_
          refine lv_imul hx hb d_Stop_begin_54 ?_
          refine lv_iload hx hb d_Stop_begin_55 (lv_at hl 3 rfl) ?_
          refine lv_iadd hx hb d_Stop_begin_57 ?_
          refine lv_aload_n hx hb d_Stop_begin_58 rfl (lv_at hl 1 rfl) ?_
          refine lv_iload_n hx hb d_Stop_begin_59 rfl (lv_at hl 2 rfl) ?_
          refine lv_iload hx hb d_Stop_begin_60 (lv_at hl 3 rfl) ?_
          refine lv_aload_n hx hb d_Stop_begin_62 rfl (lv_at hl 0 rfl) ?_
          refine va_get (D := G) (ci := 4) (v := .int v_t_cycle) (C := R_Stop) (T := F_Stop) (N := 5) hx hb hts i_Stop hown hK hP 0 rfl rfl 3 (by decide) (hts _ lk_145) (fun _ h9 => h9) rfl d_Stop_begin_63 ?_
          obtain ⟨r66_7, hC, hF⟩ := dk_b hF
          refine dk_pure (va_runV (As := [.int z3, .int z4, .int v_t_cycle]) (rest := [.int ((z3 * (120 : Int32)) + z4), .ref t_stopsApart]) hfix (c_Road_stopsBefore l G K n u1 u1_greens u1_leasts u1_queues u1_seconds u1_weights z3 z4 v_t_cycle v_u1_size v_u1_firstCycle v_u1_lastCycle v_u1_cycleBy v_u1_stepSeconds v_u1_greens v_u1_queues v_u1_seconds v_u1_weights r66_7 hC) (cwV 3 hts (gd_V lk_150 lk_152 lk_153 lk_29 lk_151) rfl rfl rfl (by decide +kernel) ⟨Nat.le_of_ble_eq_true rfl, Nat.le_of_ble_eq_true rfl⟩) (dk_preV hK hN (hP.sub [2, 3, 4, 5, 6] rfl) (va_recv hK hP (ci := 1) (q0 := 2) rfl rfl)) rfl rfl hl.1 rfl (lv_room (Nat.le_of_ble_eq_true rfl)) d_Stop_begin_66 ⟨Nat.le_of_ble_eq_true rfl, Nat.le_of_ble_eq_true rfl⟩) ?_
          obtain ⟨hi, hF⟩ := dk_a hF
          refine va_iast (D := G) hx hb hK hP hD hS 1 0 rfl rfl (dk_vp hi) d_Stop_begin_69 (fun H locs hP hD hS => ?_)
          have hP : va_P G classes [(t, .inr (4, [.ref t_stopsApart, .ref t_stopsTo, .ref t_offsets, .int v_t_cycle, .int v_t_stepSeconds])), (t_stopsApart, .inl (K 0, 600, .inl (upd v_t_stopsApart ((z3 * (120 : Int32)) + z4).toNatClampNeg r66_7))), (u1, .inr (1, [.ref u1_greens, .ref u1_leasts, .ref u1_queues, .ref u1_seconds, .ref u1_weights, .int v_u1_size, .int v_u1_firstCycle, .int v_u1_lastCycle, .int v_u1_cycleBy, .int v_u1_stepSeconds])), (u1_greens, .inl (K 0, 5, .inl v_u1_greens)), (u1_queues, .inl (K 0, 5, .inl v_u1_queues)), (u1_seconds, .inl (K 0, 10, .inl v_u1_seconds)), (u1_weights, .inl (K 0, 10, .inl v_u1_weights))] H := hP
          have hD : va_D A [(t, .inr (4, [.ref t_stopsApart, .ref t_stopsTo, .ref t_offsets, .int v_t_cycle, .int v_t_stepSeconds])), (t_stopsApart, .inl (K 0, 600, .inl (upd v_t_stopsApart ((z3 * (120 : Int32)) + z4).toNatClampNeg r66_7))), (u1, .inr (1, [.ref u1_greens, .ref u1_leasts, .ref u1_queues, .ref u1_seconds, .ref u1_weights, .int v_u1_size, .int v_u1_firstCycle, .int v_u1_lastCycle, .int v_u1_cycleBy, .int v_u1_stepSeconds])), (u1_greens, .inl (K 0, 5, .inl v_u1_greens)), (u1_queues, .inl (K 0, 5, .inl v_u1_queues)), (u1_seconds, .inl (K 0, 10, .inl v_u1_seconds)), (u1_weights, .inl (K 0, 10, .inl v_u1_weights))] := hD
          refine lv_iinc (v := z4 + (1 : Int32)) (lv' := [(4, .int (z4 + (1 : Int32))), (0, .ref t), (1, .ref u1), (3, .int z3)]) hx hb d_Stop_begin_70 hl (k := 3) rfl rfl (by decide) rfl (fun ls hl => ?_)
          refine lv_goto (tgt := 31) hx hb d_Stop_begin_73 (by decide) ?_
          exact jh z3 (z4 + (1 : Int32)) v_t_cycle v_t_stepSeconds (upd v_t_stopsApart ((z3 * (120 : Int32)) + z4).toNatClampNeg r66_7) H locs q hF hP hD hS ls (lv_sub hl [1, 2, 3, 0] rfl) hk
  have L15 : ∀ (k : Nat) (z3 : Int32) (v_t_cycle : Int32) (v_t_stepSeconds : Int32) (v_t_stopsApart : Nat → Int32) (H : Heap) (locs : List Loc) (q : (Nat → Int32)), p_Stop_begin_15 n k v_u1_size v_u1_queues v_u1_seconds v_u1_greens v_u1_weights z3 v_t_cycle v_t_stopsApart = some q → va_P G classes [(t, .inr (4, [.ref t_stopsApart, .ref t_stopsTo, .ref t_offsets, .int v_t_cycle, .int v_t_stepSeconds])), (t_stopsApart, .inl (K 0, 600, .inl v_t_stopsApart)), (u1, .inr (1, [.ref u1_greens, .ref u1_leasts, .ref u1_queues, .ref u1_seconds, .ref u1_weights, .int v_u1_size, .int v_u1_firstCycle, .int v_u1_lastCycle, .int v_u1_cycleBy, .int v_u1_stepSeconds])), (u1_greens, .inl (K 0, 5, .inl v_u1_greens)), (u1_queues, .inl (K 0, 5, .inl v_u1_queues)), (u1_seconds, .inl (K 0, 10, .inl v_u1_seconds)), (u1_weights, .inl (K 0, 10, .inl v_u1_weights))] H → va_D A [(t, .inr (4, [.ref t_stopsApart, .ref t_stopsTo, .ref t_offsets, .int v_t_cycle, .int v_t_stepSeconds])), (t_stopsApart, .inl (K 0, 600, .inl v_t_stopsApart)), (u1, .inr (1, [.ref u1_greens, .ref u1_leasts, .ref u1_queues, .ref u1_seconds, .ref u1_weights, .int v_u1_size, .int v_u1_firstCycle, .int v_u1_lastCycle, .int v_u1_cycleBy, .int v_u1_stepSeconds])), (u1_greens, .inl (K 0, 5, .inl v_u1_greens)), (u1_queues, .inl (K 0, 5, .inl v_u1_queues)), (u1_seconds, .inl (K 0, 10, .inl v_u1_seconds)), (u1_weights, .inl (K 0, 10, .inl v_u1_weights))] → va_S A s.heap H locs → ∀ ls : Array Slot, lv_has ls 5 [(0, .ref t), (1, .ref u1), (3, .int z3)] → (∀ (H1 : Heap) (locs1 : List Loc) (ls1 : Array Slot), va_P G classes [(t, .inr (4, [.ref t_stopsApart, .ref t_stopsTo, .ref t_offsets, .int v_t_cycle, .int v_t_stepSeconds])), (t_stopsApart, .inl (K 0, 600, .inl q)), (u1, .inr (1, [.ref u1_greens, .ref u1_leasts, .ref u1_queues, .ref u1_seconds, .ref u1_weights, .int v_u1_size, .int v_u1_firstCycle, .int v_u1_lastCycle, .int v_u1_cycleBy, .int v_u1_stepSeconds])), (u1_greens, .inl (K 0, 5, .inl v_u1_greens)), (u1_queues, .inl (K 0, 5, .inl v_u1_queues)), (u1_seconds, .inl (K 0, 10, .inl v_u1_seconds)), (u1_weights, .inl (K 0, 10, .inl v_u1_weights))] H1 → va_D A [(t, .inr (4, [.ref t_stopsApart, .ref t_stopsTo, .ref t_offsets, .int v_t_cycle, .int v_t_stepSeconds])), (t_stopsApart, .inl (K 0, 600, .inl q)), (u1, .inr (1, [.ref u1_greens, .ref u1_leasts, .ref u1_queues, .ref u1_seconds, .ref u1_weights, .int v_u1_size, .int v_u1_firstCycle, .int v_u1_lastCycle, .int v_u1_cycleBy, .int v_u1_stepSeconds])), (u1_greens, .inl (K 0, 5, .inl v_u1_greens)), (u1_queues, .inl (K 0, 5, .inl v_u1_queues)), (u1_seconds, .inl (K 0, 10, .inl v_u1_seconds)), (u1_weights, .inl (K 0, 10, .inl v_u1_weights))] → va_S A s.heap H1 locs1 → lv_has ls1 5 [] → W p l e m_Stop_begin s m ([.ref t, .ref u1, .int x2] : List Value).toArray below meth c H1 locs1 0 0 (MQ below (dk_Qm none G (fun _ : Unit => [(t, .inr (4, [.ref t_stopsApart, .ref t_stopsTo, .ref t_offsets, .int o.1, .int o.2.1])), (t_stopsApart, .inl (K 0, 600, .inl o.2.2)), (u1, .inr (1, [.ref u1_greens, .ref u1_leasts, .ref u1_queues, .ref u1_seconds, .ref u1_weights, .int v_u1_size, .int v_u1_firstCycle, .int v_u1_lastCycle, .int v_u1_cycleBy, .int v_u1_stepSeconds])), (u1_greens, .inl (K 0, 5, .inl v_u1_greens)), (u1_queues, .inl (K 0, 5, .inl v_u1_queues)), (u1_seconds, .inl (K 0, 10, .inl v_u1_seconds)), (u1_weights, .inl (K 0, 10, .inl v_u1_weights))]) A) ([.ref t, .ref u1, .int x2] : List Value).toArray s 0 0 A) (F0 m 82 ls1 [])) → W p l e m_Stop_begin s m ([.ref t, .ref u1, .int x2] : List Value).toArray below meth c H locs 0 0 (MQ below (dk_Qm none G (fun _ : Unit => [(t, .inr (4, [.ref t_stopsApart, .ref t_stopsTo, .ref t_offsets, .int o.1, .int o.2.1])), (t_stopsApart, .inl (K 0, 600, .inl o.2.2)), (u1, .inr (1, [.ref u1_greens, .ref u1_leasts, .ref u1_queues, .ref u1_seconds, .ref u1_weights, .int v_u1_size, .int v_u1_firstCycle, .int v_u1_lastCycle, .int v_u1_cycleBy, .int v_u1_stepSeconds])), (u1_greens, .inl (K 0, 5, .inl v_u1_greens)), (u1_queues, .inl (K 0, 5, .inl v_u1_queues)), (u1_seconds, .inl (K 0, 10, .inl v_u1_seconds)), (u1_weights, .inl (K 0, 10, .inl v_u1_weights))]) A) ([.ref t, .ref u1, .int x2] : List Value).toArray s 0 0 A) (F0 m 15 ls []) := by
    intro k
    induction k with
    | zero =>
      intro z3 v_t_cycle v_t_stepSeconds v_t_stopsApart H locs q hF hP hD hS ls hl hk
      exact absurd hF (by simp [p_Stop_begin_15])
    | succ k jh =>
      intro z3 v_t_cycle v_t_stepSeconds v_t_stopsApart H locs q hF hP hD hS ls hl hk
      have hF := (q_Stop_begin_15 n k v_u1_size v_u1_queues v_u1_seconds v_u1_greens v_u1_weights z3 v_t_cycle v_t_stopsApart).symm.trans hF
      refine lv_iload_n hx hb d_Stop_begin_15 rfl (lv_at hl 2 rfl) ?_
      refine lv_aload_n hx hb d_Stop_begin_16 rfl (lv_at hl 1 rfl) ?_
      obtain ⟨r17_2, hC, hF⟩ := dk_b hF
      refine dk_pure (va_runV (As := []) (rest := [.int z3]) hfix (c_Road_size l G K n u1 u1_greens u1_leasts u1_queues u1_seconds u1_weights v_u1_size v_u1_firstCycle v_u1_lastCycle v_u1_cycleBy v_u1_stepSeconds r17_2 hC) (cwV 0 hts (gd_V lk_148 lk_127 lk_128 lk_29 lk_126) rfl rfl rfl (by decide +kernel) ⟨Nat.le_of_ble_eq_true rfl, Nat.le_of_ble_eq_true rfl⟩) (dk_preV hK hN (hP.sub [2] rfl) (va_recv hK hP (ci := 1) (q0 := 2) rfl rfl)) rfl rfl hl.1 rfl (lv_room (Nat.le_of_ble_eq_true rfl)) d_Stop_begin_17 ⟨Nat.le_of_ble_eq_true rfl, Nat.le_of_ble_eq_true rfl⟩) ?_
      refine lv_icmp_ge (tgt := 82) hx hb d_Stop_begin_20 (by decide) (fun c20_3 => ?_) (fun c20_3 => ?_)
      · have hF := dk_t c20_3 hF
        obtain rfl := Option.some.inj hF
        exact hk H locs ls hP hD hS (lv_sub hl [] rfl)
      · have hF := dk_f c20_3 hF
        refine lv_iload_n hx hb d_Stop_begin_23 rfl (lv_at hl 2 rfl) ?_
        refine lv_iconst (v := (5 : Int32)) hx hb d_Stop_begin_24 (by decide) ?_
        refine lv_icmp_ge (tgt := 82) hx hb d_Stop_begin_25 (by decide) (fun c25_4 => ?_) (fun c25_4 => ?_)
        · have hF := dk_t c25_4 hF
          obtain rfl := Option.some.inj hF
          exact hk H locs ls hP hD hS (lv_sub hl [] rfl)
        · have hF := dk_f c25_4 hF
          refine lv_iconst (v := (0 : Int32)) hx hb d_Stop_begin_28 (by decide) ?_
          refine lv_istore (lv' := [(4, .int (0 : Int32)), (0, .ref t), (1, .ref u1), (3, .int z3)]) hx hb d_Stop_begin_29 hl (by decide) rfl (fun ls hl => ?_)
          obtain ⟨q31_8, hC, hF⟩ := dk_b hF
          refine L31 n z3 (0 : Int32) v_t_cycle v_t_stepSeconds v_t_stopsApart H locs q31_8 hC hP hD hS ls (lv_sub hl [1, 2, 3, 0] rfl) (fun H locs ls hP hD hS hl => ?_)
          refine lv_iinc (v := z3 + (1 : Int32)) (lv' := [(3, .int (z3 + (1 : Int32))), (0, .ref t), (1, .ref u1)]) hx hb d_Stop_begin_76 hl (k := 2) rfl rfl (by decide) rfl (fun ls hl => ?_)
          refine lv_goto (tgt := 15) hx hb d_Stop_begin_79 (by decide) ?_
          exact jh (z3 + (1 : Int32)) v_t_cycle v_t_stepSeconds q31_8 H locs q hF hP hD hS ls (lv_sub hl [1, 2, 0] rfl) hk
  unfold p_Stop_begin at hF
  refine lv_aload_n hx hb d_Stop_begin_0 rfl (lv_at hl 0 rfl) ?_
  refine lv_iload_n hx hb d_Stop_begin_1 rfl (lv_at hl 2 rfl) ?_
  refine va_put (D := G) (ci := 4) (v := .int x2) (ty := .int) (C := R_Stop) (T := F_Stop) (N := 5) hx hb hts i_Stop t_Stop t_Stop_ok n_Stop hown hK hP hD hS 0 rfl rfl 3 (by decide) (hts _ lk_145) (fun _ h9 => h9) rfl (by decide +kernel) rfl rfl (Nat.le_of_ble_eq_true rfl) d_Stop_begin_2 (fun H locs hP hD hS => ?_)
  have hP : va_P G classes [(t, .inr (4, [.ref t_stopsApart, .ref t_stopsTo, .ref t_offsets, .int x2, .int v_t_stepSeconds])), (t_stopsApart, .inl (K 0, 600, .inl v_t_stopsApart)), (u1, .inr (1, [.ref u1_greens, .ref u1_leasts, .ref u1_queues, .ref u1_seconds, .ref u1_weights, .int v_u1_size, .int v_u1_firstCycle, .int v_u1_lastCycle, .int v_u1_cycleBy, .int v_u1_stepSeconds])), (u1_greens, .inl (K 0, 5, .inl v_u1_greens)), (u1_queues, .inl (K 0, 5, .inl v_u1_queues)), (u1_seconds, .inl (K 0, 10, .inl v_u1_seconds)), (u1_weights, .inl (K 0, 10, .inl v_u1_weights))] H := hP
  have hD : va_D A [(t, .inr (4, [.ref t_stopsApart, .ref t_stopsTo, .ref t_offsets, .int x2, .int v_t_stepSeconds])), (t_stopsApart, .inl (K 0, 600, .inl v_t_stopsApart)), (u1, .inr (1, [.ref u1_greens, .ref u1_leasts, .ref u1_queues, .ref u1_seconds, .ref u1_weights, .int v_u1_size, .int v_u1_firstCycle, .int v_u1_lastCycle, .int v_u1_cycleBy, .int v_u1_stepSeconds])), (u1_greens, .inl (K 0, 5, .inl v_u1_greens)), (u1_queues, .inl (K 0, 5, .inl v_u1_queues)), (u1_seconds, .inl (K 0, 10, .inl v_u1_seconds)), (u1_weights, .inl (K 0, 10, .inl v_u1_weights))] := hD
  refine lv_aload_n hx hb d_Stop_begin_5 rfl (lv_at hl 0 rfl) ?_
  refine lv_aload_n hx hb d_Stop_begin_6 rfl (lv_at hl 1 rfl) ?_
  obtain ⟨r7_1, hC, hF⟩ := dk_b hF
  refine dk_pure (va_runV (As := []) (rest := [.ref t]) hfix (c_Road_stepOf l G K n u1 u1_greens u1_leasts u1_queues u1_seconds u1_weights v_u1_size v_u1_firstCycle v_u1_lastCycle v_u1_cycleBy v_u1_stepSeconds r7_1 hC) (cwV 0 hts (gd_V lk_146 lk_117 lk_118 lk_29 lk_116) rfl rfl rfl (by decide +kernel) ⟨Nat.le_of_ble_eq_true rfl, Nat.le_of_ble_eq_true rfl⟩) (dk_preV hK hN (hP.sub [2] rfl) (va_recv hK hP (ci := 1) (q0 := 2) rfl rfl)) rfl rfl hl.1 rfl (lv_room (Nat.le_of_ble_eq_true rfl)) d_Stop_begin_7 ⟨Nat.le_of_ble_eq_true rfl, Nat.le_of_ble_eq_true rfl⟩) ?_
  refine va_put (D := G) (ci := 4) (v := .int r7_1) (ty := .int) (C := R_Stop) (T := F_Stop) (N := 5) hx hb hts i_Stop t_Stop t_Stop_ok n_Stop hown hK hP hD hS 0 rfl rfl 4 (by decide) (hts _ lk_147) (fun _ h9 => h9) rfl (by decide +kernel) rfl rfl (Nat.le_of_ble_eq_true rfl) d_Stop_begin_10 (fun H locs hP hD hS => ?_)
  have hP : va_P G classes [(t, .inr (4, [.ref t_stopsApart, .ref t_stopsTo, .ref t_offsets, .int x2, .int r7_1])), (t_stopsApart, .inl (K 0, 600, .inl v_t_stopsApart)), (u1, .inr (1, [.ref u1_greens, .ref u1_leasts, .ref u1_queues, .ref u1_seconds, .ref u1_weights, .int v_u1_size, .int v_u1_firstCycle, .int v_u1_lastCycle, .int v_u1_cycleBy, .int v_u1_stepSeconds])), (u1_greens, .inl (K 0, 5, .inl v_u1_greens)), (u1_queues, .inl (K 0, 5, .inl v_u1_queues)), (u1_seconds, .inl (K 0, 10, .inl v_u1_seconds)), (u1_weights, .inl (K 0, 10, .inl v_u1_weights))] H := hP
  have hD : va_D A [(t, .inr (4, [.ref t_stopsApart, .ref t_stopsTo, .ref t_offsets, .int x2, .int r7_1])), (t_stopsApart, .inl (K 0, 600, .inl v_t_stopsApart)), (u1, .inr (1, [.ref u1_greens, .ref u1_leasts, .ref u1_queues, .ref u1_seconds, .ref u1_weights, .int v_u1_size, .int v_u1_firstCycle, .int v_u1_lastCycle, .int v_u1_cycleBy, .int v_u1_stepSeconds])), (u1_greens, .inl (K 0, 5, .inl v_u1_greens)), (u1_queues, .inl (K 0, 5, .inl v_u1_queues)), (u1_seconds, .inl (K 0, 10, .inl v_u1_seconds)), (u1_weights, .inl (K 0, 10, .inl v_u1_weights))] := hD
  refine lv_iconst (v := (1 : Int32)) hx hb d_Stop_begin_13 (by decide) ?_
  refine lv_istore_n (lv' := [(3, .int (1 : Int32)), (0, .ref t), (1, .ref u1), (2, .int x2)]) hx hb d_Stop_begin_14 rfl hl (by decide) rfl (fun ls hl => ?_)
  obtain ⟨q15_9, hC, hF⟩ := dk_b hF
  refine L15 n (1 : Int32) x2 r7_1 v_t_stopsApart H locs q15_9 hC hP hD hS ls (lv_sub hl [1, 2, 0] rfl) (fun H locs ls hP hD hS hl => ?_)
  obtain rfl := Option.some.inj hF
  exact W.vret hx hb hr (fun t ht hW => ⟨⟨(), rfl, by rw [ht]; exact hP, hD⟩, hS.F ht⟩) hS.2.2 d_Stop_begin_82
def p_Stop_put (n : Nat) (x1 : Int32) (x2 : Int32) (v_t_stepSeconds : Int32) (v_t_cycle : Int32) (v_t_stopsApart : Nat → Int32) (v_t_stopsTo : Nat → Int64) (v_t_offsets : Nat → Int32) : Option (Int64 × (Nat → Int64) × (Nat → Int32)) :=
  (p_WO_within n x1.toInt64 (0 : Int64) (4 : Int64)).bind fun r6_1 =>
  if r6_1 = 0 then
    some ((0 : Int64), v_t_stopsTo, v_t_offsets)
  else
    if dk_in x1 5 = true then
      if x1 = 0 then
        if dk_in x1 5 = true then
          if dk_in x1 5 = true then
            some (-((vp_updL v_t_stopsTo x1.toNatClampNeg (0 : Int64)) x1.toNatClampNeg), vp_updL v_t_stopsTo x1.toNatClampNeg (0 : Int64), upd v_t_offsets x1.toNatClampNeg (x2 * v_t_stepSeconds))
          else none
        else none
      else
        if dk_in x1 5 = true then
          if dk_in (x1 - (1 : Int32)) 5 = true then
            (p_Math_min n v_t_cycle (120 : Int32)).bind fun r61_4 =>
            (p_WO_wrap n (((upd v_t_offsets x1.toNatClampNeg (x2 * v_t_stepSeconds)) x1.toNatClampNeg) - ((upd v_t_offsets x1.toNatClampNeg (x2 * v_t_stepSeconds)) (x1 - (1 : Int32)).toNatClampNeg)) r61_4).bind fun r64_5 =>
            if dk_in (x1 - (1 : Int32)) 5 = true then
              if dk_in ((x1 * (120 : Int32)) + r64_5) 600 = true then
                if dk_in x1 5 = true then
                  if dk_in x1 5 = true then
                    some (-((vp_updL v_t_stopsTo x1.toNatClampNeg ((v_t_stopsTo (x1 - (1 : Int32)).toNatClampNeg) + ((v_t_stopsApart ((x1 * (120 : Int32)) + r64_5).toNatClampNeg).toInt64))) x1.toNatClampNeg), vp_updL v_t_stopsTo x1.toNatClampNeg ((v_t_stopsTo (x1 - (1 : Int32)).toNatClampNeg) + ((v_t_stopsApart ((x1 * (120 : Int32)) + r64_5).toNatClampNeg).toInt64)), upd v_t_offsets x1.toNatClampNeg (x2 * v_t_stepSeconds))
                  else none
                else none
              else none
            else none
          else none
        else none
    else none
abbrev m_Stop_put : Room := { frames := 2, cells := 0, slots := 0, locals := 43 }
set_option maxHeartbeats 4000000 in
set_option maxRecDepth 100000 in
theorem c_Stop_put (l : Launch) (G : va_G) (K : Nat → ClassId) (n : Nat) (sz : Nat) (t : Nat) (t_stopsApart : Nat) (t_stopsTo : Nat) (t_offsets : Nat) (x1 : Int32) (x2 : Int32) (v_t_cycle : Int32) (v_t_stepSeconds : Int32) (v_t_stopsApart : Nat → Int32) (v_t_stopsTo : Nat → Int64) (v_t_offsets : Nat → Int32) (o : Int64 × (Nat → Int64) × (Nat → Int32)) (hF : p_Stop_put n x1 x2 v_t_stepSeconds v_t_cycle v_t_stopsApart v_t_stopsTo v_t_offsets = some o) :
    Met l y_Stop_put (wd y_Stop_put b_Stop_put 4 (some .long)) m_Stop_put (dk_Pm [.ref t, .int x1, .int x2] G K [(t, .inr (4, [.ref t_stopsApart, .ref t_stopsTo, .ref t_offsets, .int v_t_cycle, .int v_t_stepSeconds])), (t_stopsApart, .inl (K 0, 600, .inl v_t_stopsApart)), (t_stopsTo, .inl (K 1, 5, .inr (.inl v_t_stopsTo))), (t_offsets, .inl (K 0, 5, .inl v_t_offsets))] sz) (dk_Qm (some (.long o.1)) G (fun _ : Unit => [(t, .inr (4, [.ref t_stopsApart, .ref t_stopsTo, .ref t_offsets, .int v_t_cycle, .int v_t_stepSeconds])), (t_stopsApart, .inl (K 0, 600, .inl v_t_stopsApart)), (t_stopsTo, .inl (K 1, 5, .inr (.inl o.2.1))), (t_offsets, .inl (K 0, 5, .inl o.2.2))]) (va_A [(t, .inr (4, [.ref t_stopsApart, .ref t_stopsTo, .ref t_offsets, .int v_t_cycle, .int v_t_stepSeconds])), (t_stopsApart, .inl (K 0, 600, .inl v_t_stopsApart)), (t_stopsTo, .inl (K 1, 5, .inr (.inl v_t_stopsTo))), (t_offsets, .inl (K 0, 5, .inl v_t_offsets))] sz)) 0 0 (va_A [(t, .inr (4, [.ref t_stopsApart, .ref t_stopsTo, .ref t_offsets, .int v_t_cycle, .int v_t_stepSeconds])), (t_stopsApart, .inl (K 0, 600, .inl v_t_stopsApart)), (t_stopsTo, .inl (K 1, 5, .inr (.inl v_t_stopsTo))), (t_offsets, .inl (K 0, 5, .inl v_t_offsets))] sz) := by
  refine Met.ofW (cc := b_Stop_put) (maxL := 4) (ret := (some .long)) (by decide) rfl ?_
  intro p e s m args below meth c s₁ B hml hv
  obtain ⟨rfl, hsz, hP, hK, hN, hD0⟩ := hv
  have hx := B.exec
  have hb := B.bytes
  have hr := B.returns
  have hts : ∀ w ∈ lw_good, w.before _ s = true := fun w h => atoms_spec (ws := wd y_Stop_put b_Stop_put 4 (some .long)) B.pre w (List.mem_cons_of_mem _ h)
  have hown : s.vm.findClass R_Stop = some m.cls := findClass_of_methodNamed B.named
  have hlocks := B.notSynchronized
  have hfix : CallFix p m c b_Stop_put 4 s _ lw_good R_Stop := ⟨hx, hb, hml, hown, hts⟩
  subst hsz
  have hD := hD0.self (sz := s.heap.size)
  generalize hAe : va_A [(t, .inr (4, [.ref t_stopsApart, .ref t_stopsTo, .ref t_offsets, .int v_t_cycle, .int v_t_stepSeconds])), (t_stopsApart, .inl (K 0, 600, .inl v_t_stopsApart)), (t_stopsTo, .inl (K 1, 5, .inr (.inl v_t_stopsTo))), (t_offsets, .inl (K 0, 5, .inl v_t_offsets))] s.heap.size = A at hD ⊢
  have hA : ∀ q : Nat, s.heap.size ≤ q → A q := fun q h => by rw [← hAe]; exact Or.inr h
  have hS : va_S A s.heap s.heap [] := va_S.rf
  have hl := lv_entry ([.ref t, .int x1, .int x2]) (n := 4) (Nat.le_of_ble_eq_true rfl)
  rw [lg_entry_eq]
  generalize (lg_sl ([.ref t, .int x1, .int x2]) ++ List.replicate (4 - (lg_sl ([.ref t, .int x1, .int x2])).length) Slot.unset).toArray = ls at hl ⊢
  have hl : lv_has ls 4 [(0, .ref t), (1, .int x1), (2, .int x2)] := hl
  change W p l e m_Stop_put s m _ below meth c s.heap [] 0 0 _ _
  unfold p_Stop_put at hF
  refine lv_iload_n hx hb d_Stop_put_0 rfl (lv_at hl 1 rfl) ?_
  refine lv_i2l hx hb d_Stop_put_1 rfl ?_
  refine lv_lconst (v := (0 : Int64)) hx hb d_Stop_put_2 (by decide) ?_
  refine lv_ldc2 (own := R_Stop) (index := 42) (v := (4 : Int64)) hx hb hown (hts _ lk_154) d_Stop_put_3 ?_
  obtain ⟨r6_1, hC, hF⟩ := dk_b hF
  refine dk_pure (va_runSN (As := [.long x1.toInt64, .long (0 : Int64), .long (4 : Int64)]) (rest := []) hfix (c_WO_within l G K n x1.toInt64 (0 : Int64) (4 : Int64) r6_1 hC) (⟨va_cnB 3 hts (gd_w lk_136) rfl rfl rfl (hN.1 _ lk_155) (hts _ lk_16) (by decide +kernel) ⟨Nat.le_of_ble_eq_true rfl, Nat.le_of_ble_eq_true rfl⟩, hts _ lk_137, trivial⟩) (dk_preS hK hN (hP.sub [] rfl)) rfl rfl hl.1 rfl (lv_room (Nat.le_of_ble_eq_true rfl)) d_Stop_put_6 ⟨Nat.le_of_ble_eq_true rfl, Nat.le_of_ble_eq_true rfl⟩) ?_
  refine lv_if_ne (tgt := 14) hx hb d_Stop_put_9 (by decide) (fun c9_2 => ?_) (fun c9_2 => ?_)
  · have hF := dk_f c9_2 hF
    refine lv_aload_n hx hb d_Stop_put_14 rfl (lv_at hl 0 rfl) ?_
    refine va_get (D := G) (ci := 4) (v := .ref t_offsets) (C := R_Stop) (T := F_Stop) (N := 5) hx hb hts i_Stop hown hK hP 0 rfl rfl 2 (by decide) (hts _ lk_156) (fun _ h9 => h9) rfl d_Stop_put_15 ?_
    refine lv_iload_n hx hb d_Stop_put_18 rfl (lv_at hl 1 rfl) ?_
    refine lv_iload_n hx hb d_Stop_put_19 rfl (lv_at hl 2 rfl) ?_
    refine lv_aload_n hx hb d_Stop_put_20 rfl (lv_at hl 0 rfl) ?_
    refine va_get (D := G) (ci := 4) (v := .int v_t_stepSeconds) (C := R_Stop) (T := F_Stop) (N := 5) hx hb hts i_Stop hown hK hP 0 rfl rfl 4 (by decide) (hts _ lk_147) (fun _ h9 => h9) rfl d_Stop_put_21 ?_
    refine lv_imul hx hb d_Stop_put_24 ?_
    obtain ⟨hi, hF⟩ := dk_a hF
    refine va_iast (D := G) hx hb hK hP hD hS 3 0 rfl rfl (dk_vp hi) d_Stop_put_25 (fun H locs hP hD hS => ?_)
    have hP : va_P G classes [(t, .inr (4, [.ref t_stopsApart, .ref t_stopsTo, .ref t_offsets, .int v_t_cycle, .int v_t_stepSeconds])), (t_stopsApart, .inl (K 0, 600, .inl v_t_stopsApart)), (t_stopsTo, .inl (K 1, 5, .inr (.inl v_t_stopsTo))), (t_offsets, .inl (K 0, 5, .inl (upd v_t_offsets x1.toNatClampNeg (x2 * v_t_stepSeconds))))] H := hP
    have hD : va_D A [(t, .inr (4, [.ref t_stopsApart, .ref t_stopsTo, .ref t_offsets, .int v_t_cycle, .int v_t_stepSeconds])), (t_stopsApart, .inl (K 0, 600, .inl v_t_stopsApart)), (t_stopsTo, .inl (K 1, 5, .inr (.inl v_t_stopsTo))), (t_offsets, .inl (K 0, 5, .inl (upd v_t_offsets x1.toNatClampNeg (x2 * v_t_stepSeconds))))] := hD
    refine lv_iload_n hx hb d_Stop_put_26 rfl (lv_at hl 1 rfl) ?_
    refine lv_if_ne (tgt := 40) hx hb d_Stop_put_27 (by decide) (fun c27_3 => ?_) (fun c27_3 => ?_)
    · have hF := dk_f c27_3 hF
      refine lv_aload_n hx hb d_Stop_put_40 rfl (lv_at hl 0 rfl) ?_
      refine va_get (D := G) (ci := 4) (v := .ref t_offsets) (C := R_Stop) (T := F_Stop) (N := 5) hx hb hts i_Stop hown hK hP 0 rfl rfl 2 (by decide) (hts _ lk_156) (fun _ h9 => h9) rfl d_Stop_put_41 ?_
      refine lv_iload_n hx hb d_Stop_put_44 rfl (lv_at hl 1 rfl) ?_
      obtain ⟨hi, hF⟩ := dk_a hF
      refine va_iald (D := G) hx hb hK hP 3 0 rfl rfl (dk_vp hi) d_Stop_put_45 ?_
      refine lv_aload_n hx hb d_Stop_put_46 rfl (lv_at hl 0 rfl) ?_
      refine va_get (D := G) (ci := 4) (v := .ref t_offsets) (C := R_Stop) (T := F_Stop) (N := 5) hx hb hts i_Stop hown hK hP 0 rfl rfl 2 (by decide) (hts _ lk_156) (fun _ h9 => h9) rfl d_Stop_put_47 ?_
      refine lv_iload_n hx hb d_Stop_put_50 rfl (lv_at hl 1 rfl) ?_
      refine lv_iconst (v := (1 : Int32)) hx hb d_Stop_put_51 (by decide) ?_
      refine lv_isub hx hb d_Stop_put_52 ?_
      obtain ⟨hi, hF⟩ := dk_a hF
      refine va_iald (D := G) hx hb hK hP 3 0 rfl rfl (dk_vp hi) d_Stop_put_53 ?_
      refine lv_isub hx hb d_Stop_put_54 ?_
      refine lv_aload_n hx hb d_Stop_put_55 rfl (lv_at hl 0 rfl) ?_
      refine va_get (D := G) (ci := 4) (v := .int v_t_cycle) (C := R_Stop) (T := F_Stop) (N := 5) hx hb hts i_Stop hown hK hP 0 rfl rfl 3 (by decide) (hts _ lk_145) (fun _ h9 => h9) rfl d_Stop_put_56 ?_
      refine lv_bipush (v := (120 : Int32)) hx hb d_Stop_put_59 (by decide) ?_
      obtain ⟨r61_4, hC, hF⟩ := dk_b hF
      refine dk_pure (va_runS (As := [.int v_t_cycle, .int (120 : Int32)]) (rest := [.int (((upd v_t_offsets x1.toNatClampNeg (x2 * v_t_stepSeconds)) x1.toNatClampNeg) - ((upd v_t_offsets x1.toNatClampNeg (x2 * v_t_stepSeconds)) (x1 - (1 : Int32)).toNatClampNeg))]) hfix (c_Math_min l G K n v_t_cycle (120 : Int32) r61_4 hC) (va_cwS 2 hts (gd_S lk_157 lk_9 lk_6 lk_8) rfl rfl rfl (by decide +kernel) ⟨Nat.le_of_ble_eq_true rfl, Nat.le_of_ble_eq_true rfl⟩) (dk_preS hK hN (hP.sub [] rfl)) rfl rfl hl.1 rfl (lv_room (Nat.le_of_ble_eq_true rfl)) d_Stop_put_61 ⟨Nat.le_of_ble_eq_true rfl, Nat.le_of_ble_eq_true rfl⟩) ?_
      obtain ⟨r64_5, hC, hF⟩ := dk_b hF
      refine dk_pure (va_runSN (As := [.int (((upd v_t_offsets x1.toNatClampNeg (x2 * v_t_stepSeconds)) x1.toNatClampNeg) - ((upd v_t_offsets x1.toNatClampNeg (x2 * v_t_stepSeconds)) (x1 - (1 : Int32)).toNatClampNeg)), .int r61_4]) (rest := []) hfix (c_WO_wrap l G K n (((upd v_t_offsets x1.toNatClampNeg (x2 * v_t_stepSeconds)) x1.toNatClampNeg) - ((upd v_t_offsets x1.toNatClampNeg (x2 * v_t_stepSeconds)) (x1 - (1 : Int32)).toNatClampNeg)) r61_4 r64_5 hC) (⟨va_cnB 2 hts (gd_w lk_60) rfl rfl rfl (hN.1 _ lk_158) (hts _ lk_16) (by decide +kernel) ⟨Nat.le_of_ble_eq_true rfl, Nat.le_of_ble_eq_true rfl⟩, hts _ lk_61, trivial⟩) (dk_preS hK hN (hP.sub [] rfl)) rfl rfl hl.1 rfl (lv_room (Nat.le_of_ble_eq_true rfl)) d_Stop_put_64 ⟨Nat.le_of_ble_eq_true rfl, Nat.le_of_ble_eq_true rfl⟩) ?_
      refine lv_istore_n (lv' := [(3, .int r64_5), (0, .ref t), (1, .int x1), (2, .int x2)]) hx hb d_Stop_put_67 rfl hl (by decide) rfl (fun ls hl => ?_)
      refine lv_aload_n hx hb d_Stop_put_68 rfl (lv_at hl 1 rfl) ?_
      refine va_get (D := G) (ci := 4) (v := .ref t_stopsTo) (C := R_Stop) (T := F_Stop) (N := 5) hx hb hts i_Stop hown hK hP 0 rfl rfl 1 (by decide) (hts _ lk_159) (fun _ h9 => h9) rfl d_Stop_put_69 ?_
      refine lv_iload_n hx hb d_Stop_put_72 rfl (lv_at hl 2 rfl) ?_
      refine lv_aload_n hx hb d_Stop_put_73 rfl (lv_at hl 1 rfl) ?_
      refine va_get (D := G) (ci := 4) (v := .ref t_stopsTo) (C := R_Stop) (T := F_Stop) (N := 5) hx hb hts i_Stop hown hK hP 0 rfl rfl 1 (by decide) (hts _ lk_159) (fun _ h9 => h9) rfl d_Stop_put_74 ?_
      refine lv_iload_n hx hb d_Stop_put_77 rfl (lv_at hl 2 rfl) ?_
      refine lv_iconst (v := (1 : Int32)) hx hb d_Stop_put_78 (by decide) ?_
      refine lv_isub hx hb d_Stop_put_79 ?_
      obtain ⟨hi, hF⟩ := dk_a hF
      refine va_lald (D := G) hx hb hK hP 2 1 rfl rfl (dk_vp hi) d_Stop_put_80 ?_
      refine lv_aload_n hx hb d_Stop_put_81 rfl (lv_at hl 1 rfl) ?_
      refine va_get (D := G) (ci := 4) (v := .ref t_stopsApart) (C := R_Stop) (T := F_Stop) (N := 5) hx hb hts i_Stop hown hK hP 0 rfl rfl 0 (by decide) (hts _ lk_149) (fun _ h9 => h9) rfl d_Stop_put_82 ?_
      refine lv_iload_n hx hb d_Stop_put_85 rfl (lv_at hl 2 rfl) ?_
      refine lv_bipush (v := (120 : Int32)) hx hb d_Stop_put_86 (by decide) ?_
      refine lv_imul hx hb d_Stop_put_88 ?_
      refine lv_iload_n hx hb d_Stop_put_89 rfl (lv_at hl 0 rfl) ?_
      refine lv_iadd hx hb d_Stop_put_90 ?_
      obtain ⟨hi, hF⟩ := dk_a hF
      refine va_iald (D := G) hx hb hK hP 1 0 rfl rfl (dk_vp hi) d_Stop_put_91 ?_
      refine lv_i2l hx hb d_Stop_put_92 rfl ?_
      refine lv_ladd hx hb d_Stop_put_93 ?_
      obtain ⟨hi, hF⟩ := dk_a hF
      refine va_last (D := G) hx hb hK hP hD hS 2 1 rfl rfl (dk_vp hi) d_Stop_put_94 (fun H locs hP hD hS => ?_)
      have hP : va_P G classes [(t, .inr (4, [.ref t_stopsApart, .ref t_stopsTo, .ref t_offsets, .int v_t_cycle, .int v_t_stepSeconds])), (t_stopsApart, .inl (K 0, 600, .inl v_t_stopsApart)), (t_stopsTo, .inl (K 1, 5, .inr (.inl (vp_updL v_t_stopsTo x1.toNatClampNeg ((v_t_stopsTo (x1 - (1 : Int32)).toNatClampNeg) + ((v_t_stopsApart ((x1 * (120 : Int32)) + r64_5).toNatClampNeg).toInt64)))))), (t_offsets, .inl (K 0, 5, .inl (upd v_t_offsets x1.toNatClampNeg (x2 * v_t_stepSeconds))))] H := hP
      have hD : va_D A [(t, .inr (4, [.ref t_stopsApart, .ref t_stopsTo, .ref t_offsets, .int v_t_cycle, .int v_t_stepSeconds])), (t_stopsApart, .inl (K 0, 600, .inl v_t_stopsApart)), (t_stopsTo, .inl (K 1, 5, .inr (.inl (vp_updL v_t_stopsTo x1.toNatClampNeg ((v_t_stopsTo (x1 - (1 : Int32)).toNatClampNeg) + ((v_t_stopsApart ((x1 * (120 : Int32)) + r64_5).toNatClampNeg).toInt64)))))), (t_offsets, .inl (K 0, 5, .inl (upd v_t_offsets x1.toNatClampNeg (x2 * v_t_stepSeconds))))] := hD
      refine lv_aload_n hx hb d_Stop_put_95 rfl (lv_at hl 1 rfl) ?_
      refine va_get (D := G) (ci := 4) (v := .ref t_stopsTo) (C := R_Stop) (T := F_Stop) (N := 5) hx hb hts i_Stop hown hK hP 0 rfl rfl 1 (by decide) (hts _ lk_159) (fun _ h9 => h9) rfl d_Stop_put_96 ?_
      refine lv_iload_n hx hb d_Stop_put_99 rfl (lv_at hl 2 rfl) ?_
      obtain ⟨hi, hF⟩ := dk_a hF
      refine va_lald (D := G) hx hb hK hP 2 1 rfl rfl (dk_vp hi) d_Stop_put_100 ?_
      refine lv_lneg hx hb d_Stop_put_101 ?_
      obtain rfl := Option.some.inj hF
      exact W.lret (v := -((vp_updL v_t_stopsTo x1.toNatClampNeg ((v_t_stopsTo (x1 - (1 : Int32)).toNatClampNeg) + ((v_t_stopsApart ((x1 * (120 : Int32)) + r64_5).toNatClampNeg).toInt64))) x1.toNatClampNeg)) hx hb hr (fun t ht hW => ⟨⟨(), rfl, by rw [ht]; exact hP, hD⟩, hS.F ht⟩) hS.2.2 d_Stop_put_102
    · have hF := dk_t c27_3 hF
      refine lv_aload_n hx hb d_Stop_put_30 rfl (lv_at hl 0 rfl) ?_
      refine va_get (D := G) (ci := 4) (v := .ref t_stopsTo) (C := R_Stop) (T := F_Stop) (N := 5) hx hb hts i_Stop hown hK hP 0 rfl rfl 1 (by decide) (hts _ lk_159) (fun _ h9 => h9) rfl d_Stop_put_31 ?_
      refine lv_iload_n hx hb d_Stop_put_34 rfl (lv_at hl 1 rfl) ?_
      refine lv_lconst (v := (0 : Int64)) hx hb d_Stop_put_35 (by decide) ?_
      obtain ⟨hi, hF⟩ := dk_a hF
      refine va_last (D := G) hx hb hK hP hD hS 2 1 rfl rfl (dk_vp hi) d_Stop_put_36 (fun H locs hP hD hS => ?_)
      have hP : va_P G classes [(t, .inr (4, [.ref t_stopsApart, .ref t_stopsTo, .ref t_offsets, .int v_t_cycle, .int v_t_stepSeconds])), (t_stopsApart, .inl (K 0, 600, .inl v_t_stopsApart)), (t_stopsTo, .inl (K 1, 5, .inr (.inl (vp_updL v_t_stopsTo x1.toNatClampNeg (0 : Int64))))), (t_offsets, .inl (K 0, 5, .inl (upd v_t_offsets x1.toNatClampNeg (x2 * v_t_stepSeconds))))] H := hP
      have hD : va_D A [(t, .inr (4, [.ref t_stopsApart, .ref t_stopsTo, .ref t_offsets, .int v_t_cycle, .int v_t_stepSeconds])), (t_stopsApart, .inl (K 0, 600, .inl v_t_stopsApart)), (t_stopsTo, .inl (K 1, 5, .inr (.inl (vp_updL v_t_stopsTo x1.toNatClampNeg (0 : Int64))))), (t_offsets, .inl (K 0, 5, .inl (upd v_t_offsets x1.toNatClampNeg (x2 * v_t_stepSeconds))))] := hD
      refine lv_goto (tgt := 95) hx hb d_Stop_put_37 (by decide) ?_
      refine lv_aload_n hx hb d_Stop_put_95 rfl (lv_at hl 0 rfl) ?_
      refine va_get (D := G) (ci := 4) (v := .ref t_stopsTo) (C := R_Stop) (T := F_Stop) (N := 5) hx hb hts i_Stop hown hK hP 0 rfl rfl 1 (by decide) (hts _ lk_159) (fun _ h9 => h9) rfl d_Stop_put_96 ?_
      refine lv_iload_n hx hb d_Stop_put_99 rfl (lv_at hl 1 rfl) ?_
      obtain ⟨hi, hF⟩ := dk_a hF
      refine va_lald (D := G) hx hb hK hP 2 1 rfl rfl (dk_vp hi) d_Stop_put_100 ?_
      refine lv_lneg hx hb d_Stop_put_101 ?_
      obtain rfl := Option.some.inj hF
      exact W.lret (v := -((vp_updL v_t_stopsTo x1.toNatClampNeg (0 : Int64)) x1.toNatClampNeg)) hx hb hr (fun t ht hW => ⟨⟨(), rfl, by rw [ht]; exact hP, hD⟩, hS.F ht⟩) hS.2.2 d_Stop_put_102
  · have hF := dk_t c9_2 hF
    refine lv_lconst (v := (0 : Int64)) hx hb d_Stop_put_12 (by decide) ?_
    obtain rfl := Option.some.inj hF
    exact W.lret (v := (0 : Int64)) hx hb hr (fun t ht hW => ⟨⟨(), rfl, by rw [ht]; exact hP, hD⟩, hS.F ht⟩) hS.2.2 d_Stop_put_13
