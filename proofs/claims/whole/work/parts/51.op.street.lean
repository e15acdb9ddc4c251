theorem op_street (n : Nat) (hn : 1000000 ≤ n) (v_x_road_size : Int32) (v_x_road_firstCycle : Int32) (v_x_road_lastCycle : Int32) (v_x_road_cycleBy : Int32) (v_x_road_stepSeconds : Int32) (v_x_road_greens : Nat → Int32) (v_x_road_leasts : Nat → Int32) (v_x_road_queues : Nat → Int32) (v_x_road_seconds : Nat → Int32) (v_x_road_weights : Nat → Int32) (v_x_atHand_cycle : Int32) (v_x_atHand_size : Int32) (v_x_atHand_aim : Int32) (v_x_atHand_sawAll : Int32) (v_x_atHand_offsets : Nat → Int32) (v_x_arrivals_size : Int32) (v_x_arrivals_crossings : Nat → Int32) (v_x_arrivals_seconds : Nat → Int32) (v_x_arrivals_cars : Nat → Int32) (T : Nat → Option (Int32 × Int32 × (Nat → Int32))) (v_y_crossings : Int32) (v_y_first : Int32) (v_y_last : Int32) (v_y_by : Int32) (v_y_step : Int32) (v_y_has : Int32) (v_y_cycle : Int32) (v_y_aim : Int32) (v_y_proved : Int32) (v_y_arrivals : Int32) (v_y_greens : Nat → Int32) (v_y_leasts : Nat → Int32) (v_y_queues : Nat → Int32) (v_y_seconds : Nat → Int32) (v_y_weights : Nat → Int32) (v_y_offsets : Nat → Int32) (v_y_places : Nat → Int32) (v_y_times : Nat → Int32) (v_y_cars : Nat → Int32) (v_y_hourCrossings : Nat → Int32) (v_y_hourCycles : Nat → Int32) (v_y_hourOffsets : Nat → Int32) (v_x_search_size : Int32) (v_x_search_cycle : Int32) (v_x_search_choices : Int32) (v_x_search_stepSeconds : Int32) (v_x_search_rowsLeft : Int64) (v_x_search_bestScore : Int64) (v_x_search_bandWorth_openLow : Nat → Int64) (v_x_search_bandWorth_openHigh : Nat → Int64) (v_x_search_bandWorth_bandLow : Nat → Int64) (v_x_search_bandWorth_bandHigh : Nat → Int64) (v_x_search_bandWorth_wayWeights : Nat → Int32) (v_x_search_stopWorth_cycle : Int32) (v_x_search_stopWorth_stepSeconds : Int32) (v_x_search_stopWorth_stopsApart : Nat → Int32) (v_x_search_stopWorth_stopsTo : Nat → Int64) (v_x_search_stopWorth_offsets : Nat → Int32) (v_x_search_row : Nat → Int32) (v_x_search_rowsBehind : Nat → Int64) (v_y_row : Nat → Int32) (v_y_open : Nat → Int32) (h : Inv v_x_road_size v_x_road_firstCycle v_x_road_lastCycle v_x_road_cycleBy v_x_road_stepSeconds v_x_road_greens v_x_road_leasts v_x_road_queues v_x_road_seconds v_x_road_weights v_x_atHand_cycle v_x_atHand_size v_x_atHand_aim v_x_atHand_sawAll v_x_atHand_offsets v_x_arrivals_size v_x_arrivals_crossings v_x_arrivals_seconds v_x_arrivals_cars T v_y_crossings v_y_first v_y_last v_y_by v_y_step v_y_has v_y_cycle v_y_aim v_y_proved v_y_arrivals v_y_greens v_y_leasts v_y_queues v_y_seconds v_y_weights v_y_offsets v_y_places v_y_times v_y_cars v_y_hourCrossings v_y_hourCycles v_y_hourOffsets) (a0 : Int32) (a1 : Int32) (a2 : Int32) (a3 : Int32) : ∃ (ox : Int32 × (Nat → Int32) × (Nat → Int32) × Int32) (om : Int32 × Int32 × (Nat → Int32) × (Nat → Int32)), p_WO_street n a0 a1 a2 a3 v_x_road_size v_x_road_seconds v_x_road_weights v_x_atHand_cycle = some ox ∧ p_Mo_street n a0 a1 a2 a3 v_y_crossings v_y_has v_y_seconds v_y_weights = some om ∧ ox.1 = om.1 ∧ Inv v_x_road_size v_x_road_firstCycle v_x_road_lastCycle v_x_road_cycleBy v_x_road_stepSeconds v_x_road_greens v_x_road_leasts v_x_road_queues ox.2.1 ox.2.2.1 ox.2.2.2 v_x_atHand_size v_x_atHand_aim v_x_atHand_sawAll v_x_atHand_offsets v_x_arrivals_size v_x_arrivals_crossings v_x_arrivals_seconds v_x_arrivals_cars T v_y_crossings v_y_first v_y_last v_y_by v_y_step om.2.1 v_y_cycle v_y_aim v_y_proved v_y_arrivals v_y_greens v_y_leasts v_y_queues om.2.2.1 om.2.2.2 v_y_offsets v_y_places v_y_times v_y_cars v_y_hourCrossings v_y_hourCycles v_y_hourOffsets := by
  have h0 := h
  obtain ⟨N, c1, c2, cb, cs, g, l, q, fs, fw, bs, bw, hO, ⟨rfl, rfl, rfl, rfl, rfl, x6, x7⟩, ⟨rfl, rfl, rfl, rfl, rfl, m6, m7⟩, hP, hA, hH⟩ := h
  have hN : N ≤ 5 := hO.1
  unfold p_WO_street p_Mo_street
  simp only [b_has, b_isCrossing _ _ hN, b_within, b_isIn, Option.bind_some, b_one, b_nI5 hN]
  by_cases hk0 : (0 ≤ a0.toInt ∧ a0.toInt < (N : Int))
  · by_cases hk1 : (0 ≤ a1.toInt ∧ a1.toInt < (N : Int))
    · by_cases hs : ((1 : Int64) ≤ a2.toInt64 ∧ a2.toInt64 ≤ (200 : Int64))
      · by_cases hc : ((0 : Int64) ≤ a3.toInt64 ∧ a3.toInt64 ≤ (100 : Int64))
        · simp only [if_neg (show ¬ ¬ (0 ≤ a0.toInt ∧ a0.toInt < (N : Int)) from fun z => z hk0), if_neg (show ¬ ¬ (0 ≤ a1.toInt ∧ a1.toInt < (N : Int)) from fun z => z hk1), if_neg (show ¬ ¬ ((1 : Int64) ≤ a2.toInt64 ∧ a2.toInt64 ≤ (200 : Int64)) from fun z => z hs), if_neg (show ¬ ¬ ((0 : Int64) ≤ a3.toInt64 ∧ a3.toInt64 ≤ (100 : Int64)) from fun z => z hc)]
          rw [b_le32, b_ge32, show (1 : Int64).toInt = 1 by decide, show (200 : Int64).toInt = 200 by decide] at hs
          rw [b_le32, b_ge32, show (0 : Int64).toInt = 0 by decide, show (100 : Int64).toInt = 100 by decide] at hc
          obtain ⟨i, hi, ei, -⟩ := b_nat hk0
          obtain ⟨j, hj, ej, -⟩ := b_nat hk1
          subst ei ej
          obtain ⟨t2, ht2, et2, -⟩ := b_nat (x := a2) (m := 201) (by omega)
          obtain ⟨t3, ht3, et3, -⟩ := b_nat (x := a3) (m := 101) (by omega)
          have ht21 : 1 ≤ t2 := by rw [et2, nI_toInt (by omega)] at hs; omega
          obtain ⟨d1, d2, d3, d4, d5⟩ := b_st i (by omega) j (by omega)
          obtain ⟨o1, o2, o3, o4, o5, o6, o7⟩ := hO
          unfold p_Road_tellStreet p_Road_streetAt
          simp only [b_has, Option.bind_some, b_one, b_nI5 hN, if_neg (show ¬ ¬ (0 ≤ (nI i).toInt ∧ (nI i).toInt < (N : Int)) from fun z => z hk0), b_clear, d1, d2, d3, d4, d5, if_true, if_neg (by decide : ¬ (1 : Int32) = 0)]
          by_cases ha : j = i + 1
          · have na : ¬ i = j + 1 := by omega
            have nb : ¬ j ≤ i := by omega
            have hin : dk_in (nI i) 10 = true := b_in (by omega) (by omega)
            have hin2 : dk_in (nI (2 * i)) 10 = true := b_in (by omega) (by omega)
            simp only [if_pos ha, if_neg na, if_neg nb, if_pos hin, Option.bind_some, show (2 : Int32) * nI i = nI (2 * i) from pk_mul 2 i, if_pos hin2, nI_clamp (show i < 2 ^ 31 by omega), nI_clamp (show 2 * i < 2 ^ 31 by omega)]
            refine ⟨_, _, rfl, rfl, rfl, N, c1, c2, cb, cs, g, l, q, fun k => if k = i then t2 else fs k, fun k => if k = i then t3 else fw k, bs, bw, ⟨o1, o2, o3, ?_, ?_, o6, o7⟩, ⟨rfl, rfl, rfl, rfl, rfl, x6, ?_⟩, ⟨rfl, rfl, rfl, rfl, rfl, m6, ?_⟩, Or.inl ⟨rfl, rfl⟩, hA, hH⟩
            · intro k hk
              have := o4 k hk
              by_cases hki : k = i
              · subst hki; simp only [if_true]; omega
              · simp only [if_neg hki]; exact this
            · intro k hk hkN
              have hki : ¬ k = i := by omega
              simp only [if_neg hki]; exact o5 k hk hkN
            · intro k hk
              obtain ⟨y1, y2, y3, y4, y5⟩ := x7 k hk
              have h5 : ¬ 5 + k = i := by omega
              by_cases hki : k = i
              · subst hki; simp only [upd, if_true, if_neg h5]; exact ⟨y1, et2, et3, y4, y5⟩
              · simp only [upd, if_neg hki, if_neg h5]; exact ⟨y1, y2, y3, y4, y5⟩
            · intro k hk
              obtain ⟨y1, y2, y3, y4⟩ := m7 k hk
              have h5 : ¬ 2 * k + 1 = 2 * i := by omega
              by_cases hki : k = i
              · subst hki; simp only [upd, if_true, if_neg h5]; exact ⟨et2, et3, y3, y4⟩
              · have h6 : ¬ 2 * k = 2 * i := by omega
                simp only [upd, if_neg hki, if_neg h5, if_neg h6]; exact ⟨y1, y2, y3, y4⟩
          · by_cases hb : i = j + 1
            · have nb : j ≤ i := by omega
              subst hb
              have hin : dk_in (nI (5 + (j + 1))) 10 = true := b_in (by omega) (by omega)
              have hin2 : dk_in (nI (2 * j + 1)) 10 = true := b_in (by omega) (by omega)
              simp only [if_neg ha, if_pos (rfl : j + 1 = j + 1), if_pos nb, show (5 : Int32) + nI (j + 1) = nI (5 + (j + 1)) from nI_add 5 (j + 1), if_pos hin, Option.bind_some, show (2 : Int32) * nI j = nI (2 * j) from pk_mul 2 j, nI_1, if_pos hin2, nI_clamp (show 5 + (j + 1) < 2 ^ 31 by omega), nI_clamp (show 2 * j + 1 < 2 ^ 31 by omega)]
              refine ⟨_, _, rfl, rfl, rfl, N, c1, c2, cb, cs, g, l, q, fs, fw, fun k => if k = j + 1 then t2 else bs k, fun k => if k = j + 1 then t3 else bw k, ⟨o1, o2, o3, ?_, o5, ?_, o7⟩, ⟨rfl, rfl, rfl, rfl, rfl, x6, ?_⟩, ⟨rfl, rfl, rfl, rfl, rfl, m6, ?_⟩, Or.inl ⟨rfl, rfl⟩, hA, hH⟩
              · intro k hk
                have := o4 k hk
                by_cases hki : k = j + 1
                · subst hki; simp only [if_true]; omega
                · simp only [if_neg hki]; exact this
              · intro k hk hkN
                have hki : ¬ k = j + 1 := by omega
                simp only [if_neg hki]; exact o6 k hk hkN
              · intro k hk
                obtain ⟨y1, y2, y3, y4, y5⟩ := x7 k hk
                have h5 : ¬ k = 5 + (j + 1) := by omega
                by_cases hki : k = j + 1
                · subst hki; simp only [upd, if_true, if_neg h5]; exact ⟨y1, y2, y3, et2, et3⟩
                · have h6 : ¬ 5 + k = 5 + (j + 1) := by omega
                  simp only [upd, if_neg hki, if_neg h5, if_neg h6]; exact ⟨y1, y2, y3, y4, y5⟩
              · intro k hk
                obtain ⟨y1, y2, y3, y4⟩ := m7 k hk
                have h5 : ¬ 2 * k = 2 * j + 1 := by omega
                by_cases hki : k = j
                · subst hki; simp only [upd, if_true, if_neg h5]; exact ⟨y1, y2, et2, et3⟩
                · have h6 : ¬ 2 * k + 1 = 2 * j + 1 := by omega
                  have h7 : ¬ k + 1 = j + 1 := by omega
                  simp only [upd, if_neg h7, if_neg h5, if_neg h6]; exact ⟨y1, y2, y3, y4⟩
            · simp only [if_neg ha, if_neg hb]
              exact ⟨_, _, rfl, rfl, rfl, h0⟩
        · simp only [if_neg (show ¬ ¬ (0 ≤ a0.toInt ∧ a0.toInt < (N : Int)) from fun z => z hk0), if_neg (show ¬ ¬ (0 ≤ a1.toInt ∧ a1.toInt < (N : Int)) from fun z => z hk1), if_neg (show ¬ ¬ ((1 : Int64) ≤ a2.toInt64 ∧ a2.toInt64 ≤ (200 : Int64)) from fun z => z hs), if_pos hc, ite_self]
          exact ⟨_, _, rfl, rfl, rfl, h0⟩
      · simp only [if_neg (show ¬ ¬ (0 ≤ a0.toInt ∧ a0.toInt < (N : Int)) from fun z => z hk0), if_neg (show ¬ ¬ (0 ≤ a1.toInt ∧ a1.toInt < (N : Int)) from fun z => z hk1), if_pos hs, ite_self]
        exact ⟨_, _, rfl, rfl, rfl, h0⟩
    · simp only [if_neg (show ¬ ¬ (0 ≤ a0.toInt ∧ a0.toInt < (N : Int)) from fun z => z hk0), if_pos hk1]
      exact ⟨_, _, rfl, rfl, rfl, h0⟩
  · simp only [if_pos hk0]
    exact ⟨_, _, rfl, rfl, rfl, h0⟩
