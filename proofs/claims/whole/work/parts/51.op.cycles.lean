theorem op_cycles (n : Nat) (hn : 1000000 ≤ n) (v_x_road_size : Int32) (v_x_road_firstCycle : Int32) (v_x_road_lastCycle : Int32) (v_x_road_cycleBy : Int32) (v_x_road_stepSeconds : Int32) (v_x_road_greens : Nat → Int32) (v_x_road_leasts : Nat → Int32) (v_x_road_queues : Nat → Int32) (v_x_road_seconds : Nat → Int32) (v_x_road_weights : Nat → Int32) (v_x_atHand_cycle : Int32) (v_x_atHand_size : Int32) (v_x_atHand_aim : Int32) (v_x_atHand_sawAll : Int32) (v_x_atHand_offsets : Nat → Int32) (v_x_arrivals_size : Int32) (v_x_arrivals_crossings : Nat → Int32) (v_x_arrivals_seconds : Nat → Int32) (v_x_arrivals_cars : Nat → Int32) (T : Nat → Option (Int32 × Int32 × (Nat → Int32))) (v_y_crossings : Int32) (v_y_first : Int32) (v_y_last : Int32) (v_y_by : Int32) (v_y_step : Int32) (v_y_has : Int32) (v_y_cycle : Int32) (v_y_aim : Int32) (v_y_proved : Int32) (v_y_arrivals : Int32) (v_y_greens : Nat → Int32) (v_y_leasts : Nat → Int32) (v_y_queues : Nat → Int32) (v_y_seconds : Nat → Int32) (v_y_weights : Nat → Int32) (v_y_offsets : Nat → Int32) (v_y_places : Nat → Int32) (v_y_times : Nat → Int32) (v_y_cars : Nat → Int32) (v_y_hourCrossings : Nat → Int32) (v_y_hourCycles : Nat → Int32) (v_y_hourOffsets : Nat → Int32) (v_x_search_size : Int32) (v_x_search_cycle : Int32) (v_x_search_choices : Int32) (v_x_search_stepSeconds : Int32) (v_x_search_rowsLeft : Int64) (v_x_search_bestScore : Int64) (v_x_search_bandWorth_openLow : Nat → Int64) (v_x_search_bandWorth_openHigh : Nat → Int64) (v_x_search_bandWorth_bandLow : Nat → Int64) (v_x_search_bandWorth_bandHigh : Nat → Int64) (v_x_search_bandWorth_wayWeights : Nat → Int32) (v_x_search_stopWorth_cycle : Int32) (v_x_search_stopWorth_stepSeconds : Int32) (v_x_search_stopWorth_stopsApart : Nat → Int32) (v_x_search_stopWorth_stopsTo : Nat → Int64) (v_x_search_stopWorth_offsets : Nat → Int32) (v_x_search_row : Nat → Int32) (v_x_search_rowsBehind : Nat → Int64) (v_y_row : Nat → Int32) (v_y_open : Nat → Int32) (h : Inv v_x_road_size v_x_road_firstCycle v_x_road_lastCycle v_x_road_cycleBy v_x_road_stepSeconds v_x_road_greens v_x_road_leasts v_x_road_queues v_x_road_seconds v_x_road_weights v_x_atHand_cycle v_x_atHand_size v_x_atHand_aim v_x_atHand_sawAll v_x_atHand_offsets v_x_arrivals_size v_x_arrivals_crossings v_x_arrivals_seconds v_x_arrivals_cars T v_y_crossings v_y_first v_y_last v_y_by v_y_step v_y_has v_y_cycle v_y_aim v_y_proved v_y_arrivals v_y_greens v_y_leasts v_y_queues v_y_seconds v_y_weights v_y_offsets v_y_places v_y_times v_y_cars v_y_hourCrossings v_y_hourCycles v_y_hourOffsets) (a0 : Int32) (a1 : Int32) (a2 : Int32) : ∃ (ox : Int32 × Int32 × Int32 × Int32 × Int32) (om : Int32 × Int32 × Int32 × Int32 × Int32), p_WO_cycles n a0 a1 a2 v_x_road_firstCycle v_x_road_lastCycle v_x_road_cycleBy v_x_atHand_cycle = some ox ∧ p_Mo_cycles n a0 a1 a2 v_y_first v_y_last v_y_by v_y_has = some om ∧ ox.1 = om.1 ∧ Inv v_x_road_size ox.2.1 ox.2.2.1 ox.2.2.2.1 v_x_road_stepSeconds v_x_road_greens v_x_road_leasts v_x_road_queues v_x_road_seconds v_x_road_weights ox.2.2.2.2 v_x_atHand_size v_x_atHand_aim v_x_atHand_sawAll v_x_atHand_offsets v_x_arrivals_size v_x_arrivals_crossings v_x_arrivals_seconds v_x_arrivals_cars T v_y_crossings om.2.1 om.2.2.1 om.2.2.2.1 v_y_step om.2.2.2.2 v_y_cycle v_y_aim v_y_proved v_y_arrivals v_y_greens v_y_leasts v_y_queues v_y_seconds v_y_weights v_y_offsets v_y_places v_y_times v_y_cars v_y_hourCrossings v_y_hourCycles v_y_hourOffsets := by
  have h0 := h
  obtain ⟨N, c1, c2, cb, cs, g, l, q, fs, fw, bs, bw, hO, ⟨rfl, rfl, rfl, rfl, rfl, x6, x7⟩, ⟨rfl, rfl, rfl, rfl, rfl, m6, m7⟩, hP, hA, hH⟩ := h
  have hN : N ≤ 5 := hO.1
  unfold p_WO_cycles p_Mo_cycles
  rw [b_within, b_isIn, Option.bind_some, Option.bind_some]
  by_cases h1 : a0 < (10 : Int32)
  · rw [if_pos h1, if_pos h1]
    exact ⟨_, _, rfl, rfl, rfl, h0⟩
  rw [if_neg h1, if_neg h1]
  by_cases h2 : a1 < a0
  · rw [if_pos h2, if_pos h2]
    exact ⟨_, _, rfl, rfl, rfl, h0⟩
  rw [if_neg h2, if_neg h2]
  by_cases h3 : (120 : Int32) < a1
  · rw [if_pos h3, if_pos h3]
    exact ⟨_, _, rfl, rfl, rfl, h0⟩
  rw [if_neg h3, if_neg h3]
  by_cases hc : (1 : Int64) ≤ a2.toInt64 ∧ a2.toInt64 ≤ (110 : Int64)
  · rw [if_pos hc, if_neg (by decide), if_neg (by decide)]
    rw [b_le32, b_ge32, show (1 : Int64).toInt = 1 by decide, show (110 : Int64).toInt = 110 by decide] at hc
    rw [Int32.lt_iff_toInt_lt] at h1 h2 h3
    rw [show (10 : Int32).toInt = 10 by decide] at h1
    rw [show (120 : Int32).toInt = 120 by decide] at h3
    obtain ⟨k0, hk0, e0, -⟩ := b_nat (x := a0) (m := 121) (by omega)
    obtain ⟨k1, hk1, e1, -⟩ := b_nat (x := a1) (m := 121) (by omega)
    obtain ⟨k2, hk2, e2, -⟩ := b_nat (x := a2) (m := 111) (by omega)
    have t0 : a0.toInt = (k0 : Int) := by rw [e0, nI_toInt (by omega)]
    have t1 : a1.toInt = (k1 : Int) := by rw [e1, nI_toInt (by omega)]
    have t2 : a2.toInt = (k2 : Int) := by rw [e2, nI_toInt (by omega)]
    obtain ⟨o1, o2, o3, o4, o5, o6, o7, o8, o9, o10, o11, o12, o13⟩ := hO
    exact ⟨(1, a0, a1, a2, 0), (1, a0, a1, a2, 0), rfl, rfl, rfl, N, k0, k1, k2, cs, g, l, q, fs, fw, bs, bw, ⟨o1, o2, o3, o4, o5, o6, by omega, by omega, by omega, by omega, by omega, o12, o13⟩, ⟨rfl, e0, e1, e2, rfl, x6, x7⟩, ⟨rfl, e0, e1, e2, rfl, m6, m7⟩, Or.inl ⟨rfl, rfl⟩, hA, hH⟩
  · rw [if_neg hc, if_pos rfl, if_pos rfl]
    exact ⟨_, _, rfl, rfl, rfl, h0⟩
