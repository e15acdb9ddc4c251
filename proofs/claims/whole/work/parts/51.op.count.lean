theorem op_count (n : Nat) (hn : 1000000 ≤ n) (v_x_road_size : Int32) (v_x_road_firstCycle : Int32) (v_x_road_lastCycle : Int32) (v_x_road_cycleBy : Int32) (v_x_road_stepSeconds : Int32) (v_x_road_greens : Nat → Int32) (v_x_road_leasts : Nat → Int32) (v_x_road_queues : Nat → Int32) (v_x_road_seconds : Nat → Int32) (v_x_road_weights : Nat → Int32) (v_x_atHand_cycle : Int32) (v_x_atHand_size : Int32) (v_x_atHand_aim : Int32) (v_x_atHand_sawAll : Int32) (v_x_atHand_offsets : Nat → Int32) (v_x_arrivals_size : Int32) (v_x_arrivals_crossings : Nat → Int32) (v_x_arrivals_seconds : Nat → Int32) (v_x_arrivals_cars : Nat → Int32) (T : Nat → Option (Int32 × Int32 × (Nat → Int32))) (v_y_crossings : Int32) (v_y_first : Int32) (v_y_last : Int32) (v_y_by : Int32) (v_y_step : Int32) (v_y_has : Int32) (v_y_cycle : Int32) (v_y_aim : Int32) (v_y_proved : Int32) (v_y_arrivals : Int32) (v_y_greens : Nat → Int32) (v_y_leasts : Nat → Int32) (v_y_queues : Nat → Int32) (v_y_seconds : Nat → Int32) (v_y_weights : Nat → Int32) (v_y_offsets : Nat → Int32) (v_y_places : Nat → Int32) (v_y_times : Nat → Int32) (v_y_cars : Nat → Int32) (v_y_hourCrossings : Nat → Int32) (v_y_hourCycles : Nat → Int32) (v_y_hourOffsets : Nat → Int32) (v_x_search_size : Int32) (v_x_search_cycle : Int32) (v_x_search_choices : Int32) (v_x_search_stepSeconds : Int32) (v_x_search_rowsLeft : Int64) (v_x_search_bestScore : Int64) (v_x_search_bandWorth_openLow : Nat → Int64) (v_x_search_bandWorth_openHigh : Nat → Int64) (v_x_search_bandWorth_bandLow : Nat → Int64) (v_x_search_bandWorth_bandHigh : Nat → Int64) (v_x_search_bandWorth_wayWeights : Nat → Int32) (v_x_search_stopWorth_cycle : Int32) (v_x_search_stopWorth_stepSeconds : Int32) (v_x_search_stopWorth_stopsApart : Nat → Int32) (v_x_search_stopWorth_stopsTo : Nat → Int64) (v_x_search_stopWorth_offsets : Nat → Int32) (v_x_search_row : Nat → Int32) (v_x_search_rowsBehind : Nat → Int64) (v_y_row : Nat → Int32) (v_y_open : Nat → Int32) (h : Inv v_x_road_size v_x_road_firstCycle v_x_road_lastCycle v_x_road_cycleBy v_x_road_stepSeconds v_x_road_greens v_x_road_leasts v_x_road_queues v_x_road_seconds v_x_road_weights v_x_atHand_cycle v_x_atHand_size v_x_atHand_aim v_x_atHand_sawAll v_x_atHand_offsets v_x_arrivals_size v_x_arrivals_crossings v_x_arrivals_seconds v_x_arrivals_cars T v_y_crossings v_y_first v_y_last v_y_by v_y_step v_y_has v_y_cycle v_y_aim v_y_proved v_y_arrivals v_y_greens v_y_leasts v_y_queues v_y_seconds v_y_weights v_y_offsets v_y_places v_y_times v_y_cars v_y_hourCrossings v_y_hourCycles v_y_hourOffsets) (a0 : Int32) : ∃ (ox : Int64) (om : Int64), p_WO_count n a0 v_x_road_size v_x_road_firstCycle v_x_road_lastCycle v_x_road_cycleBy v_x_road_leasts v_x_road_stepSeconds v_x_arrivals_size v_x_atHand_cycle v_x_atHand_aim T = some ox ∧ p_Mo_count n a0 v_y_has v_y_aim v_y_hourCrossings v_y_arrivals v_y_first v_y_last v_y_crossings v_y_leasts v_y_by v_y_step = some om ∧ ox = om ∧ Inv v_x_road_size v_x_road_firstCycle v_x_road_lastCycle v_x_road_cycleBy v_x_road_stepSeconds v_x_road_greens v_x_road_leasts v_x_road_queues v_x_road_seconds v_x_road_weights v_x_atHand_cycle v_x_atHand_size v_x_atHand_aim v_x_atHand_sawAll v_x_atHand_offsets v_x_arrivals_size v_x_arrivals_crossings v_x_arrivals_seconds v_x_arrivals_cars T v_y_crossings v_y_first v_y_last v_y_by v_y_step v_y_has v_y_cycle v_y_aim v_y_proved v_y_arrivals v_y_greens v_y_leasts v_y_queues v_y_seconds v_y_weights v_y_offsets v_y_places v_y_times v_y_cars v_y_hourCrossings v_y_hourCycles v_y_hourOffsets := by
  have h0 := h
  obtain ⟨N, c1, c2, cb, cs, g, l, q, fs, fw, bs, bw, hO, ⟨rfl, rfl, rfl, rfl, rfl, x6, x7⟩, ⟨rfl, rfl, rfl, rfl, rfl, m6, m7⟩, hP, hA, hH⟩ := h
  obtain ⟨hN, o2, o3, o4, o5, o6, o7, o8, o9, o10, o11, o12, o13⟩ := hO
  have eR := b_allRows n (by omega) (show c1 ≤ 120 by omega) o9 o10 o11 o12 o13 hN l v_x_road_leasts (fun k hk => ⟨(o2 k hk).2.2.2.2.1, (x6 k hk).2⟩)
  have eM := b_moAllRows n (by omega) o7 (show c1 ≤ 120 by omega) o9 o10 o11 o12 o13 hN l v_y_leasts (fun k hk => ⟨(o2 k hk).2.2.2.2.1, (m6 k hk).2.1⟩)
  obtain ⟨A, pl, tm, cr, hA40, eA1, eA2, har⟩ := hA
  unfold p_WO_count p_Mo_count
  simp only [b_isIn, b_isMade, b_size, b_told, Option.bind_some, b_one, eR, eM, b_planned n (by omega), b_hours n (by omega), hr_hc hH hN, eA1, eA2]
  rw [eA1, eA2] at h0
  by_cases p0 : a0 = (0 : Int32)
  · subst p0
    rw [if_neg (show ¬ ¬ ((0 : Int64) ≤ (0 : Int32).toInt64 ∧ (0 : Int32).toInt64 ≤ (4 : Int64)) by decide), if_pos rfl]
    exact ⟨_, _, rfl, rfl, rfl, h0⟩
  by_cases p1 : a0 = (1 : Int32)
  · subst p1
    rw [if_neg (show ¬ ¬ ((0 : Int64) ≤ (1 : Int32).toInt64 ∧ (1 : Int32).toInt64 ≤ (4 : Int64)) by decide)]
    simp only [if_neg (by decide : ¬ (1 : Int32) = 0), if_true]
    exact ⟨_, _, rfl, rfl, rfl, h0⟩
  by_cases p2 : a0 = (2 : Int32)
  · subst p2
    rw [if_neg (show ¬ ¬ ((0 : Int64) ≤ (2 : Int32).toInt64 ∧ (2 : Int32).toInt64 ≤ (4 : Int64)) by decide)]
    simp only [if_neg (by decide : ¬ (2 : Int32) = 0), if_neg (by decide : ¬ (2 : Int32) = 1), if_true]
    exact ⟨_, _, rfl, rfl, rfl, h0⟩
  by_cases p3 : a0 = (3 : Int32)
  · subst p3
    rw [if_neg (show ¬ ¬ ((0 : Int64) ≤ (3 : Int32).toInt64 ∧ (3 : Int32).toInt64 ≤ (4 : Int64)) by decide)]
    simp only [if_neg (by decide : ¬ (3 : Int32) = 0), if_neg (by decide : ¬ (3 : Int32) = 1), if_neg (by decide : ¬ (3 : Int32) = 2), if_true]
    exact ⟨_, _, rfl, rfl, rfl, h0⟩
  by_cases p4 : a0 = (4 : Int32)
  · subst p4
    rw [if_neg (show ¬ ¬ ((0 : Int64) ≤ (4 : Int32).toInt64 ∧ (4 : Int32).toInt64 ≤ (4 : Int64)) by decide)]
    simp only [if_neg (by decide : ¬ (4 : Int32) = 0), if_neg (by decide : ¬ (4 : Int32) = 1), if_neg (by decide : ¬ (4 : Int32) = 2), if_neg (by decide : ¬ (4 : Int32) = 3), if_true]
    rcases hP with ⟨rfl, rfl⟩ | ⟨c, off, h2, rfl, hc1, hc2, hl, rfl, rfl, rfl, rfl, ha, rfl, hw, ho⟩
    · rw [if_pos (show ¬ (0 : Int32) < 0 by decide), if_pos (rfl : (0 : Int32) = 0)]
      exact ⟨_, _, rfl, rfl, rfl, h0⟩
    · rw [if_neg (show ¬ ¬ (0 : Int32) < nI c from fun z => z (b_pos hc1 hc2)), if_neg (by decide : ¬ (1 : Int32) = 0)]
      exact ⟨_, _, rfl, rfl, rfl, h0⟩
  · have hnot : ¬ ((0 : Int64) ≤ a0.toInt64 ∧ a0.toInt64 ≤ (4 : Int64)) := by
      rw [b_le32, b_ge32, show (0 : Int64).toInt = 0 by decide, show (4 : Int64).toInt = 4 by decide]
      rintro ⟨z1, z2⟩
      obtain ⟨j, hj, ej, -⟩ := b_nat (x := a0) (m := 5) (by omega)
      rcases (show j = 0 ∨ j = 1 ∨ j = 2 ∨ j = 3 ∨ j = 4 by omega) with rfl | rfl | rfl | rfl | rfl
      · exact p0 ej
      · exact p1 ej
      · exact p2 ej
      · exact p3 ej
      · exact p4 ej
    rw [if_neg p0, if_neg p1, if_neg p2, if_neg p3, if_neg p4, if_pos hnot]
    exact ⟨_, _, rfl, rfl, rfl, h0⟩
