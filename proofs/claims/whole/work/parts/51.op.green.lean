theorem op_green (n : Nat) (hn : 1000000 ≤ n) (v_x_road_size : Int32) (v_x_road_firstCycle : Int32) (v_x_road_lastCycle : Int32) (v_x_road_cycleBy : Int32) (v_x_road_stepSeconds : Int32) (v_x_road_greens : Nat → Int32) (v_x_road_leasts : Nat → Int32) (v_x_road_queues : Nat → Int32) (v_x_road_seconds : Nat → Int32) (v_x_road_weights : Nat → Int32) (v_x_atHand_cycle : Int32) (v_x_atHand_size : Int32) (v_x_atHand_aim : Int32) (v_x_atHand_sawAll : Int32) (v_x_atHand_offsets : Nat → Int32) (v_x_arrivals_size : Int32) (v_x_arrivals_crossings : Nat → Int32) (v_x_arrivals_seconds : Nat → Int32) (v_x_arrivals_cars : Nat → Int32) (T : Nat → Option (Int32 × Int32 × (Nat → Int32))) (v_y_crossings : Int32) (v_y_first : Int32) (v_y_last : Int32) (v_y_by : Int32) (v_y_step : Int32) (v_y_has : Int32) (v_y_cycle : Int32) (v_y_aim : Int32) (v_y_proved : Int32) (v_y_arrivals : Int32) (v_y_greens : Nat → Int32) (v_y_leasts : Nat → Int32) (v_y_queues : Nat → Int32) (v_y_seconds : Nat → Int32) (v_y_weights : Nat → Int32) (v_y_offsets : Nat → Int32) (v_y_places : Nat → Int32) (v_y_times : Nat → Int32) (v_y_cars : Nat → Int32) (v_y_hourCrossings : Nat → Int32) (v_y_hourCycles : Nat → Int32) (v_y_hourOffsets : Nat → Int32) (v_x_search_size : Int32) (v_x_search_cycle : Int32) (v_x_search_choices : Int32) (v_x_search_stepSeconds : Int32) (v_x_search_rowsLeft : Int64) (v_x_search_bestScore : Int64) (v_x_search_bandWorth_openLow : Nat → Int64) (v_x_search_bandWorth_openHigh : Nat → Int64) (v_x_search_bandWorth_bandLow : Nat → Int64) (v_x_search_bandWorth_bandHigh : Nat → Int64) (v_x_search_bandWorth_wayWeights : Nat → Int32) (v_x_search_stopWorth_cycle : Int32) (v_x_search_stopWorth_stepSeconds : Int32) (v_x_search_stopWorth_stopsApart : Nat → Int32) (v_x_search_stopWorth_stopsTo : Nat → Int64) (v_x_search_stopWorth_offsets : Nat → Int32) (v_x_search_row : Nat → Int32) (v_x_search_rowsBehind : Nat → Int64) (v_y_row : Nat → Int32) (v_y_open : Nat → Int32) (h : Inv v_x_road_size v_x_road_firstCycle v_x_road_lastCycle v_x_road_cycleBy v_x_road_stepSeconds v_x_road_greens v_x_road_leasts v_x_road_queues v_x_road_seconds v_x_road_weights v_x_atHand_cycle v_x_atHand_size v_x_atHand_aim v_x_atHand_sawAll v_x_atHand_offsets v_x_arrivals_size v_x_arrivals_crossings v_x_arrivals_seconds v_x_arrivals_cars T v_y_crossings v_y_first v_y_last v_y_by v_y_step v_y_has v_y_cycle v_y_aim v_y_proved v_y_arrivals v_y_greens v_y_leasts v_y_queues v_y_seconds v_y_weights v_y_offsets v_y_places v_y_times v_y_cars v_y_hourCrossings v_y_hourCycles v_y_hourOffsets) (a0 : Int32) (a1 : Int32) : ∃ (ox : Int32) (om : Int32), p_WO_green n a0 a1 v_x_road_size v_x_atHand_cycle v_x_atHand_offsets v_x_road_greens v_x_road_queues = some ox ∧ p_Mo_green n a0 a1 v_y_has v_y_crossings v_y_queues v_y_offsets v_y_cycle v_y_greens = some om ∧ ox = om ∧ Inv v_x_road_size v_x_road_firstCycle v_x_road_lastCycle v_x_road_cycleBy v_x_road_stepSeconds v_x_road_greens v_x_road_leasts v_x_road_queues v_x_road_seconds v_x_road_weights v_x_atHand_cycle v_x_atHand_size v_x_atHand_aim v_x_atHand_sawAll v_x_atHand_offsets v_x_arrivals_size v_x_arrivals_crossings v_x_arrivals_seconds v_x_arrivals_cars T v_y_crossings v_y_first v_y_last v_y_by v_y_step v_y_has v_y_cycle v_y_aim v_y_proved v_y_arrivals v_y_greens v_y_leasts v_y_queues v_y_seconds v_y_weights v_y_offsets v_y_places v_y_times v_y_cars v_y_hourCrossings v_y_hourCycles v_y_hourOffsets := by
  have h0 := h
  obtain ⟨N, c1, c2, cb, cs, g, l, q, fs, fw, bs, bw, hO, ⟨rfl, rfl, rfl, rfl, rfl, x6, x7⟩, ⟨rfl, rfl, rfl, rfl, rfl, m6, m7⟩, hP, hA, hH⟩ := h
  have hN : N ≤ 5 := hO.1
  unfold p_WO_green p_Mo_green
  simp only [b_isPlanned, b_isCrossing _ _ hN, b_isIn, Option.bind_some, b_one, b_nI5 hN]
  rcases hP with ⟨rfl, rfl⟩ | ⟨c, off, h2, rfl, hc1, hc2, hl, rfl, rfl, rfl, rfl, ha, rfl, hw, ho⟩
  · rw [if_pos (show ¬ ((0 ≤ a0.toInt ∧ a0.toInt < (N : Int)) ∧ (0 : Int32) < 0) from fun z => absurd z.2 (by decide)), if_pos (rfl : (0 : Int32) = 0)]
    exact ⟨_, _, rfl, rfl, rfl, h0⟩
  · rw [if_neg (by decide : ¬ (1 : Int32) = 0)]
    by_cases hk : 0 ≤ a0.toInt ∧ a0.toInt < (N : Int)
    · have hin : dk_in a0 5 = true := b_in5 (n := 5) (by omega)
      rw [if_neg (show ¬ ¬ ((0 ≤ a0.toInt ∧ a0.toInt < (N : Int)) ∧ (0 : Int32) < nI c) from fun z => z ⟨hk, b_pos hc1 hc2⟩), if_neg (show ¬ ¬ (0 ≤ a0.toInt ∧ a0.toInt < (N : Int)) from fun z => z hk), b_offsetOf n _ (by omega), Option.bind_some, b_greenOf n _ (by rw [b_nI5 hN]; exact hk) (by rw [b_nI5 hN]; omega), b_queueOf n _ (by rw [b_nI5 hN]; exact hk) (by rw [b_nI5 hN]; omega)]
      simp only [if_pos hin, Option.bind_some]
      obtain ⟨k, hkN, ek, ec⟩ := b_nat hk
      have hoff := ho k hkN
      have hg := hO.2.1 k hkN
      have hcz : ¬ nI c = 0 := nI_ne0 (by omega) (by omega)
      rw [ec, hoff.2.1, hoff.2.2, (x6 k hkN).1, (m6 k hkN).1, (m6 k hkN).2.2, (x7 k (by omega)).1]
      simp only [if_neg hcz, nI_add, Int32.add_zero]
      rw [b_wrapN (a := off k) n hc1 hc2 (by omega), b_wrapN (a := off k + g k) n hc1 hc2 (by omega), b_wrapN (a := off k + q k) n hc1 hc2 (by omega)]
      simp only [Option.bind_some]
      by_cases p0 : a1 = (0 : Int32)
      · subst p0
        rw [if_neg (show ¬ ¬ ((0 : Int64) ≤ (0 : Int32).toInt64 ∧ (0 : Int32).toInt64 ≤ (2 : Int64)) by decide), if_pos rfl, if_pos rfl]
        refine ⟨_, _, rfl, rfl, ?_, h0⟩
        exact (pk_rem (by omega) (by omega) (by omega)).symm
      · by_cases p1 : a1 = (1 : Int32)
        · subst p1
          rw [if_neg (show ¬ ¬ ((0 : Int64) ≤ (1 : Int32).toInt64 ∧ (1 : Int32).toInt64 ≤ (2 : Int64)) by decide), if_neg (by decide : ¬ (1 : Int32) = 0), if_neg (by decide : ¬ (1 : Int32) = 0), if_pos rfl, if_pos rfl]
          refine ⟨_, _, rfl, rfl, ?_, h0⟩
          exact (pk_rem (by omega) (by omega) (by omega)).symm
        · by_cases p2 : a1 = (2 : Int32)
          · subst p2
            rw [if_neg (show ¬ ¬ ((0 : Int64) ≤ (2 : Int32).toInt64 ∧ (2 : Int32).toInt64 ≤ (2 : Int64)) by decide), if_neg (by decide : ¬ (2 : Int32) = 0), if_neg (by decide : ¬ (2 : Int32) = 0), if_neg (by decide : ¬ (2 : Int32) = 1), if_neg (by decide : ¬ (2 : Int32) = 1), if_pos rfl]
            refine ⟨_, _, rfl, rfl, ?_, h0⟩
            exact (pk_rem (by omega) (by omega) (by omega)).symm
          · have hnot : ¬ ((0 : Int64) ≤ a1.toInt64 ∧ a1.toInt64 ≤ (2 : Int64)) := by
              rw [b_le32, b_ge32, show (0 : Int64).toInt = 0 by decide, show (2 : Int64).toInt = 2 by decide]
              rintro ⟨z1, z2⟩
              obtain ⟨j, hj, ej, -⟩ := b_nat (x := a1) (m := 3) (by omega)
              rcases (show j = 0 ∨ j = 1 ∨ j = 2 by omega) with rfl | rfl | rfl
              · exact p0 ej
              · exact p1 ej
              · exact p2 ej
            rw [if_neg p0, if_neg p1, if_neg p2, if_pos hnot]
            exact ⟨_, _, rfl, rfl, rfl, h0⟩
    · rw [if_pos (show ¬ ((0 ≤ a0.toInt ∧ a0.toInt < (N : Int)) ∧ (0 : Int32) < nI c) from fun z => hk z.1), if_pos (show ¬ (0 ≤ a0.toInt ∧ a0.toInt < (N : Int)) from hk)]
      exact ⟨_, _, rfl, rfl, rfl, h0⟩
