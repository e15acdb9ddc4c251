theorem op_bound (n : Nat) (hn : 1000000 ≤ n) (v_x_road_size : Int32) (v_x_road_firstCycle : Int32) (v_x_road_lastCycle : Int32) (v_x_road_cycleBy : Int32) (v_x_road_stepSeconds : Int32) (v_x_road_greens : Nat → Int32) (v_x_road_leasts : Nat → Int32) (v_x_road_queues : Nat → Int32) (v_x_road_seconds : Nat → Int32) (v_x_road_weights : Nat → Int32) (v_x_atHand_cycle : Int32) (v_x_atHand_size : Int32) (v_x_atHand_aim : Int32) (v_x_atHand_sawAll : Int32) (v_x_atHand_offsets : Nat → Int32) (v_x_arrivals_size : Int32) (v_x_arrivals_crossings : Nat → Int32) (v_x_arrivals_seconds : Nat → Int32) (v_x_arrivals_cars : Nat → Int32) (T : Nat → Option (Int32 × Int32 × (Nat → Int32))) (v_y_crossings : Int32) (v_y_first : Int32) (v_y_last : Int32) (v_y_by : Int32) (v_y_step : Int32) (v_y_has : Int32) (v_y_cycle : Int32) (v_y_aim : Int32) (v_y_proved : Int32) (v_y_arrivals : Int32) (v_y_greens : Nat → Int32) (v_y_leasts : Nat → Int32) (v_y_queues : Nat → Int32) (v_y_seconds : Nat → Int32) (v_y_weights : Nat → Int32) (v_y_offsets : Nat → Int32) (v_y_places : Nat → Int32) (v_y_times : Nat → Int32) (v_y_cars : Nat → Int32) (v_y_hourCrossings : Nat → Int32) (v_y_hourCycles : Nat → Int32) (v_y_hourOffsets : Nat → Int32) (v_x_search_size : Int32) (v_x_search_cycle : Int32) (v_x_search_choices : Int32) (v_x_search_stepSeconds : Int32) (v_x_search_rowsLeft : Int64) (v_x_search_bestScore : Int64) (v_x_search_bandWorth_openLow : Nat → Int64) (v_x_search_bandWorth_openHigh : Nat → Int64) (v_x_search_bandWorth_bandLow : Nat → Int64) (v_x_search_bandWorth_bandHigh : Nat → Int64) (v_x_search_bandWorth_wayWeights : Nat → Int32) (v_x_search_stopWorth_cycle : Int32) (v_x_search_stopWorth_stepSeconds : Int32) (v_x_search_stopWorth_stopsApart : Nat → Int32) (v_x_search_stopWorth_stopsTo : Nat → Int64) (v_x_search_stopWorth_offsets : Nat → Int32) (v_x_search_row : Nat → Int32) (v_x_search_rowsBehind : Nat → Int64) (v_y_row : Nat → Int32) (v_y_open : Nat → Int32) (h : Inv v_x_road_size v_x_road_firstCycle v_x_road_lastCycle v_x_road_cycleBy v_x_road_stepSeconds v_x_road_greens v_x_road_leasts v_x_road_queues v_x_road_seconds v_x_road_weights v_x_atHand_cycle v_x_atHand_size v_x_atHand_aim v_x_atHand_sawAll v_x_atHand_offsets v_x_arrivals_size v_x_arrivals_crossings v_x_arrivals_seconds v_x_arrivals_cars T v_y_crossings v_y_first v_y_last v_y_by v_y_step v_y_has v_y_cycle v_y_aim v_y_proved v_y_arrivals v_y_greens v_y_leasts v_y_queues v_y_seconds v_y_weights v_y_offsets v_y_places v_y_times v_y_cars v_y_hourCrossings v_y_hourCycles v_y_hourOffsets) (a0 : Int32) : ∃ (ox : Int64) (om : Int64), p_WO_bound n a0 v_x_road_size v_x_road_firstCycle v_x_road_lastCycle v_x_road_cycleBy v_x_road_leasts v_x_road_weights v_x_road_greens v_x_road_queues = some ox ∧ p_Mo_bound n a0 v_y_crossings v_y_first v_y_last v_y_leasts v_y_by v_y_greens v_y_queues v_y_weights = some om ∧ ox = om ∧ Inv v_x_road_size v_x_road_firstCycle v_x_road_lastCycle v_x_road_cycleBy v_x_road_stepSeconds v_x_road_greens v_x_road_leasts v_x_road_queues v_x_road_seconds v_x_road_weights v_x_atHand_cycle v_x_atHand_size v_x_atHand_aim v_x_atHand_sawAll v_x_atHand_offsets v_x_arrivals_size v_x_arrivals_crossings v_x_arrivals_seconds v_x_arrivals_cars T v_y_crossings v_y_first v_y_last v_y_by v_y_step v_y_has v_y_cycle v_y_aim v_y_proved v_y_arrivals v_y_greens v_y_leasts v_y_queues v_y_seconds v_y_weights v_y_offsets v_y_places v_y_times v_y_cars v_y_hourCrossings v_y_hourCycles v_y_hourOffsets := by
  have h0 := h
  obtain ⟨N, c1, c2, cb, cs, g, l, q, fs, fw, bs, bw, hO, ⟨rfl, rfl, rfl, rfl, rfl, x6, x7⟩, ⟨rfl, rfl, rfl, rfl, rfl, m6, m7⟩, hP, hA, hH⟩ := h
  obtain ⟨hN, o2, o3, o4, o5, o6, o7, o8, o9, o10, o11, o12, o13⟩ := hO
  unfold p_WO_bound p_Mo_bound
  simp only [b_isPart, b_isIn, b_size, Option.bind_some, b_one]
  by_cases hpart : (0 : Int64) ≤ a0.toInt64 ∧ a0.toInt64 ≤ (1 : Int64)
  · rw [if_neg (show ¬ ¬ ((0 : Int64) ≤ a0.toInt64 ∧ a0.toInt64 ≤ (1 : Int64)) from fun z => z hpart), if_neg (show ¬ ¬ ((0 : Int64) ≤ a0.toInt64 ∧ a0.toInt64 ≤ (1 : Int64)) from fun z => z hpart)]
    by_cases hN2 : 2 ≤ N
    · rw [if_pos (show (2 : Int32) ≤ nI N from nI_le (a := 2) hN2 (by omega)), if_pos (show (2 : Int32) ≤ nI N from nI_le (a := 2) hN2 (by omega))]
      have hl : ∀ k, k < N → l k ≤ 120 ∧ v_x_road_leasts k = nI (l k) := fun k hk => ⟨(o2 k hk).2.2.2.2.1, (x6 k hk).2⟩
      have hl2 : ∀ k, k < N → l k ≤ 120 ∧ v_y_leasts k = nI (l k) := fun k hk => ⟨(o2 k hk).2.2.2.2.1, (m6 k hk).2.1⟩
      rw [b_short n (by omega) (show c1 ≤ 120 by omega) o9 o10 o11 hN l v_x_road_leasts hl, Option.bind_some]
      obtain ⟨z, ez, hz, hz1, hz2⟩ := b_bound27 n (by omega) o7 (show c1 ≤ 120 by omega) o9 o10 o11 hN l v_y_leasts hl2 a0 n c1 (Nat.le_refl _) (by rw [Nat.sub_self, Nat.zero_mod]) (by omega) (by omega)
      rw [ez, Option.bind_some, sc_low o7 (by omega)]
      by_cases hzc : z ≤ c2
      · obtain ⟨hz10, hz3⟩ := hz1 hzc
        have hw1 := wS_le (f := fw) (m := 100) N 0 (fun i _ hi => (o4 i (by omega)).2.2.1)
        have hw2 := wS_le (f := bw) (m := 100) N 0 (fun i _ hi => (o4 i (by omega)).2.2.2.2.2)
        obtain ⟨w1, w2, w3, w4⟩ := b_weights n (by omega) hN2 hN fw bw (o5 (N - 1) (by omega) (by omega)).2 (o6 0 (by omega) (Or.inl rfl)).2 v_x_road_weights v_y_weights (fun k hk => ⟨(x7 k hk).2.2.1, (x7 k hk).2.2.2.2⟩) (fun k hk => ⟨(m7 k hk).2.1, (m7 k hk).2.2.2⟩)
        have eL : p_Road_leastOpen n (nI N) v_x_road_greens v_x_road_queues = some (nI (mn (fun k => g k - q k) 90 0 N)) := by
          unfold p_Road_leastOpen
          have := b_least5 n hN g q v_x_road_greens v_x_road_queues (fun k hk => ⟨(o2 k hk).2.1, (o2 k hk).2.2.1, (x6 k hk).1, (x7 k (by omega)).1⟩) N 0 90 n (by omega) (by omega) (by omega)
          rw [show (90 : Int32) = nI 90 from rfl, show (0 : Int32) = nI 0 from rfl, this]
          rfl
        have eM : p_Mo_bound_70 n n (nI N) v_y_greens v_y_queues a0 (nI z) (120 : Int32) (0 : Int32) = some (nI (mn (fun k => g k - q k) 120 0 N)) :=
          b_bound70 n hN g q v_y_greens v_y_queues (fun k hk => ⟨(o2 k hk).2.1, (o2 k hk).2.2.1, (m6 k hk).1, (m6 k hk).2.2⟩) a0 (nI z) N 0 120 n (by omega) (by omega) (by omega)
        have e90 : mn (fun k => g k - q k) 120 0 N = mn (fun k => g k - q k) 90 0 N := by
          obtain ⟨M, rfl⟩ : ∃ M, N = M + 1 := ⟨N - 1, by omega⟩
          have b0 := o2 0 (by omega)
          show mn _ (if g 0 - q 0 < 120 then g 0 - q 0 else 120) (0 + 1) M = mn _ (if g 0 - q 0 < 90 then g 0 - q 0 else 90) (0 + 1) M
          rw [if_pos (by omega)]
          by_cases h9 : g 0 - q 0 < 90
          · rw [if_pos h9]
          · rw [if_neg h9, show g 0 - q 0 = 90 by omega]
        have hmn := mn_le (fun k => g k - q k) N 90 0
        have hprod : (wS fw 0 N + wS bw 0 N) * mn (fun k => g k - q k) 90 0 N ≤ 1000 * 90 := Nat.mul_le_mul (by omega) hmn
        rw [hz3, if_neg (show ¬ nI z = 0 from nI_ne0 (by omega) (by omega)), if_pos (show nI z ≤ nI c2 from nI_le hzc (by omega)), w1, w2, w3, w4, eL, eM, e90]
        simp only [Option.bind_some]
        rw [nI_add, nI_l (by omega), nI_l (by omega), nI_l (by omega), lN_mul, lN_mul, Nat.mul_comm (mn _ _ _ _), b_leastTerms n (by omega) (by omega) (by omega) (by omega), b_share n (by omega) (by omega) (by omega) (by omega)]
        exact ⟨_, _, rfl, rfl, rfl, h0⟩
      · rw [hz2 (by omega), if_pos (show nI 0 = 0 from rfl), if_neg (show ¬ nI z ≤ nI c2 from nI_ge (by omega) (by omega))]
        rw [show (0 : Int64) = lN 0 from rfl, show (1 : Int64) = lN 1 from rfl, b_leastTerms n (by omega) (up := 0) (low := 1) (by omega) (by omega) (by omega)]
        rcases b_part hpart with rfl | rfl
        · exact ⟨_, _, rfl, rfl, by decide, h0⟩
        · exact ⟨_, _, rfl, rfl, by decide, h0⟩
    · rw [if_neg (show ¬ (2 : Int32) ≤ nI N from nI_ge (b := 2) (by omega) (by omega)), if_neg (show ¬ (2 : Int32) ≤ nI N from nI_ge (b := 2) (by omega) (by omega))]
      exact ⟨_, _, rfl, rfl, rfl, h0⟩
  · rw [if_pos hpart, if_pos hpart]
    exact ⟨_, _, rfl, rfl, rfl, h0⟩
