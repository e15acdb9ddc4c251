theorem op_queue (n : Nat) (hn : 1000000 ≤ n) (v_x_road_size : Int32) (v_x_road_firstCycle : Int32) (v_x_road_lastCycle : Int32) (v_x_road_cycleBy : Int32) (v_x_road_stepSeconds : Int32) (v_x_road_greens : Nat → Int32) (v_x_road_leasts : Nat → Int32) (v_x_road_queues : Nat → Int32) (v_x_road_seconds : Nat → Int32) (v_x_road_weights : Nat → Int32) (v_x_atHand_cycle : Int32) (v_x_atHand_size : Int32) (v_x_atHand_aim : Int32) (v_x_atHand_sawAll : Int32) (v_x_atHand_offsets : Nat → Int32) (v_x_arrivals_size : Int32) (v_x_arrivals_crossings : Nat → Int32) (v_x_arrivals_seconds : Nat → Int32) (v_x_arrivals_cars : Nat → Int32) (T : Nat → Option (Int32 × Int32 × (Nat → Int32))) (v_y_crossings : Int32) (v_y_first : Int32) (v_y_last : Int32) (v_y_by : Int32) (v_y_step : Int32) (v_y_has : Int32) (v_y_cycle : Int32) (v_y_aim : Int32) (v_y_proved : Int32) (v_y_arrivals : Int32) (v_y_greens : Nat → Int32) (v_y_leasts : Nat → Int32) (v_y_queues : Nat → Int32) (v_y_seconds : Nat → Int32) (v_y_weights : Nat → Int32) (v_y_offsets : Nat → Int32) (v_y_places : Nat → Int32) (v_y_times : Nat → Int32) (v_y_cars : Nat → Int32) (v_y_hourCrossings : Nat → Int32) (v_y_hourCycles : Nat → Int32) (v_y_hourOffsets : Nat → Int32) (v_x_search_size : Int32) (v_x_search_cycle : Int32) (v_x_search_choices : Int32) (v_x_search_stepSeconds : Int32) (v_x_search_rowsLeft : Int64) (v_x_search_bestScore : Int64) (v_x_search_bandWorth_openLow : Nat → Int64) (v_x_search_bandWorth_openHigh : Nat → Int64) (v_x_search_bandWorth_bandLow : Nat → Int64) (v_x_search_bandWorth_bandHigh : Nat → Int64) (v_x_search_bandWorth_wayWeights : Nat → Int32) (v_x_search_stopWorth_cycle : Int32) (v_x_search_stopWorth_stepSeconds : Int32) (v_x_search_stopWorth_stopsApart : Nat → Int32) (v_x_search_stopWorth_stopsTo : Nat → Int64) (v_x_search_stopWorth_offsets : Nat → Int32) (v_x_search_row : Nat → Int32) (v_x_search_rowsBehind : Nat → Int64) (v_y_row : Nat → Int32) (v_y_open : Nat → Int32) (h : Inv v_x_road_size v_x_road_firstCycle v_x_road_lastCycle v_x_road_cycleBy v_x_road_stepSeconds v_x_road_greens v_x_road_leasts v_x_road_queues v_x_road_seconds v_x_road_weights v_x_atHand_cycle v_x_atHand_size v_x_atHand_aim v_x_atHand_sawAll v_x_atHand_offsets v_x_arrivals_size v_x_arrivals_crossings v_x_arrivals_seconds v_x_arrivals_cars T v_y_crossings v_y_first v_y_last v_y_by v_y_step v_y_has v_y_cycle v_y_aim v_y_proved v_y_arrivals v_y_greens v_y_leasts v_y_queues v_y_seconds v_y_weights v_y_offsets v_y_places v_y_times v_y_cars v_y_hourCrossings v_y_hourCycles v_y_hourOffsets) (a0 : Int32) (a1 : Int32) : ∃ (ox : Int32 × (Nat → Int32) × Int32) (om : Int32 × Int32 × (Nat → Int32)), p_WO_queue n a0 a1 v_x_road_size v_x_road_greens v_x_road_queues v_x_atHand_cycle = some ox ∧ p_Mo_queue n a0 a1 v_y_crossings v_y_greens v_y_has v_y_queues = some om ∧ ox.1 = om.1 ∧ Inv v_x_road_size v_x_road_firstCycle v_x_road_lastCycle v_x_road_cycleBy v_x_road_stepSeconds v_x_road_greens v_x_road_leasts ox.2.1 v_x_road_seconds v_x_road_weights ox.2.2 v_x_atHand_size v_x_atHand_aim v_x_atHand_sawAll v_x_atHand_offsets v_x_arrivals_size v_x_arrivals_crossings v_x_arrivals_seconds v_x_arrivals_cars T v_y_crossings v_y_first v_y_last v_y_by v_y_step om.2.1 v_y_cycle v_y_aim v_y_proved v_y_arrivals v_y_greens v_y_leasts om.2.2 v_y_seconds v_y_weights v_y_offsets v_y_places v_y_times v_y_cars v_y_hourCrossings v_y_hourCycles v_y_hourOffsets := by
  have h0 := h
  obtain ⟨N, c1, c2, cb, cs, g, l, q, fs, fw, bs, bw, hO, ⟨rfl, rfl, rfl, rfl, rfl, x6, x7⟩, ⟨rfl, rfl, rfl, rfl, rfl, m6, m7⟩, hP, hA, hH⟩ := h
  have hN : N ≤ 5 := hO.1
  unfold p_WO_queue p_Mo_queue
  simp only [b_has, b_isCrossing _ _ hN, Option.bind_some, b_one, b_nI5 hN]
  by_cases hk : 0 ≤ a0.toInt ∧ a0.toInt < (N : Int)
  · obtain ⟨k, hkN, ek, ec⟩ := b_nat hk
    have hg := hO.2.1 k hkN
    have hin : dk_in a0 5 = true := b_in5 (n := 5) (by omega)
    rw [if_neg (show ¬ ¬ (0 ≤ a0.toInt ∧ a0.toInt < (N : Int)) from fun z => z hk), if_neg (show ¬ ¬ (0 ≤ a0.toInt ∧ a0.toInt < (N : Int)) from fun z => z hk), if_pos hin, b_greenOf n _ (by rw [b_nI5 hN]; exact hk) (by rw [b_nI5 hN]; omega), Option.bind_some, ec, (x6 k hkN).1, (m6 k hkN).1]
    simp only [b_within, b_isIn, Option.bind_some, b_one]
    have hgt := b_g1 (g k) (by omega) (by omega)
    have i1 : ((0 : Int64) ≤ a1.toInt64 ∧ a1.toInt64 ≤ (nI (g k) - (1 : Int32)).toInt64) ↔ (0 ≤ a1.toInt ∧ a1.toInt < (g k : Int)) := by
      rw [b_le32, b_ge32, hgt.1, show (0 : Int64).toInt = 0 by decide]; omega
    have i2 : ((0 : Int64) ≤ a1.toInt64 ∧ a1.toInt64 ≤ (nI (g k)).toInt64 - (1 : Int64)) ↔ (0 ≤ a1.toInt ∧ a1.toInt < (g k : Int)) := by
      rw [b_le32, b_ge32, hgt.2, show (0 : Int64).toInt = 0 by decide]; omega
    simp only [i1, i2]
    by_cases hd : 0 ≤ a1.toInt ∧ a1.toInt < (g k : Int)
    · rw [if_neg (show ¬ ¬ (0 ≤ a1.toInt ∧ a1.toInt < (g k : Int)) from fun z => z hd), if_neg (show ¬ ¬ (0 ≤ a1.toInt ∧ a1.toInt < (g k : Int)) from fun z => z hd), if_pos hin]
      obtain ⟨k1, hk1, e1, -⟩ := b_nat hd
      unfold p_Road_tellQueue
      simp only [b_has, Option.bind_some, b_one, b_nI5 hN, b_clear]
      rw [if_neg (show ¬ ¬ (0 ≤ a0.toInt ∧ a0.toInt < (N : Int)) from fun z => z hk), if_pos hin, Option.bind_some, ec]
      obtain ⟨o1, o2, o3, o4, o5, o6, o7⟩ := hO
      refine ⟨_, _, rfl, rfl, rfl, N, c1, c2, cb, cs, g, l, fun j => if j = k then k1 else q j, fs, fw, bs, bw, ⟨o1, ?_, ?_, o4, o5, o6, o7⟩, ⟨rfl, rfl, rfl, rfl, rfl, x6, ?_⟩, ⟨rfl, rfl, rfl, rfl, rfl, ?_, m7⟩, Or.inl ⟨rfl, rfl⟩, hA, hH⟩
      · intro j hj
        have := o2 j hj
        by_cases hjk : j = k
        · subst hjk; simp only [if_true]; omega
        · simp only [if_neg hjk]; omega
      · intro j hj hjN
        have hjk : ¬ j = k := by omega
        simp only [if_neg hjk]; exact o3 j hj hjN
      · intro j hj
        have := x7 j hj
        by_cases hjk : j = k
        · subst hjk; refine ⟨?_, this.2⟩; simp [upd, e1]
        · refine ⟨?_, this.2⟩; simp [upd, hjk, this.1]
      · intro j hj
        have := m6 j hj
        by_cases hjk : j = k
        · subst hjk; refine ⟨this.1, this.2.1, ?_⟩; simp [upd, e1]
        · refine ⟨this.1, this.2.1, ?_⟩; simp [upd, hjk, this.2.2]
    · rw [if_pos hd, if_pos hd]
      exact ⟨_, _, rfl, rfl, rfl, h0⟩
  · rw [if_pos hk, if_pos hk]
    exact ⟨_, _, rfl, rfl, rfl, h0⟩
