theorem op_delay (n : Nat) (hn : 1000000 ≤ n) (v_x_road_size : Int32) (v_x_road_firstCycle : Int32) (v_x_road_lastCycle : Int32) (v_x_road_cycleBy : Int32) (v_x_road_stepSeconds : Int32) (v_x_road_greens : Nat → Int32) (v_x_road_leasts : Nat → Int32) (v_x_road_queues : Nat → Int32) (v_x_road_seconds : Nat → Int32) (v_x_road_weights : Nat → Int32) (v_x_atHand_cycle : Int32) (v_x_atHand_size : Int32) (v_x_atHand_aim : Int32) (v_x_atHand_sawAll : Int32) (v_x_atHand_offsets : Nat → Int32) (v_x_arrivals_size : Int32) (v_x_arrivals_crossings : Nat → Int32) (v_x_arrivals_seconds : Nat → Int32) (v_x_arrivals_cars : Nat → Int32) (T : Nat → Option (Int32 × Int32 × (Nat → Int32))) (v_y_crossings : Int32) (v_y_first : Int32) (v_y_last : Int32) (v_y_by : Int32) (v_y_step : Int32) (v_y_has : Int32) (v_y_cycle : Int32) (v_y_aim : Int32) (v_y_proved : Int32) (v_y_arrivals : Int32) (v_y_greens : Nat → Int32) (v_y_leasts : Nat → Int32) (v_y_queues : Nat → Int32) (v_y_seconds : Nat → Int32) (v_y_weights : Nat → Int32) (v_y_offsets : Nat → Int32) (v_y_places : Nat → Int32) (v_y_times : Nat → Int32) (v_y_cars : Nat → Int32) (v_y_hourCrossings : Nat → Int32) (v_y_hourCycles : Nat → Int32) (v_y_hourOffsets : Nat → Int32) (v_x_search_size : Int32) (v_x_search_cycle : Int32) (v_x_search_choices : Int32) (v_x_search_stepSeconds : Int32) (v_x_search_rowsLeft : Int64) (v_x_search_bestScore : Int64) (v_x_search_bandWorth_openLow : Nat → Int64) (v_x_search_bandWorth_openHigh : Nat → Int64) (v_x_search_bandWorth_bandLow : Nat → Int64) (v_x_search_bandWorth_bandHigh : Nat → Int64) (v_x_search_bandWorth_wayWeights : Nat → Int32) (v_x_search_stopWorth_cycle : Int32) (v_x_search_stopWorth_stepSeconds : Int32) (v_x_search_stopWorth_stopsApart : Nat → Int32) (v_x_search_stopWorth_stopsTo : Nat → Int64) (v_x_search_stopWorth_offsets : Nat → Int32) (v_x_search_row : Nat → Int32) (v_x_search_rowsBehind : Nat → Int64) (v_y_row : Nat → Int32) (v_y_open : Nat → Int32) (h : Inv v_x_road_size v_x_road_firstCycle v_x_road_lastCycle v_x_road_cycleBy v_x_road_stepSeconds v_x_road_greens v_x_road_leasts v_x_road_queues v_x_road_seconds v_x_road_weights v_x_atHand_cycle v_x_atHand_size v_x_atHand_aim v_x_atHand_sawAll v_x_atHand_offsets v_x_arrivals_size v_x_arrivals_crossings v_x_arrivals_seconds v_x_arrivals_cars T v_y_crossings v_y_first v_y_last v_y_by v_y_step v_y_has v_y_cycle v_y_aim v_y_proved v_y_arrivals v_y_greens v_y_leasts v_y_queues v_y_seconds v_y_weights v_y_offsets v_y_places v_y_times v_y_cars v_y_hourCrossings v_y_hourCycles v_y_hourOffsets) (a0 : Int32) : ∃ (ox : Int64) (om : Int64 × (Nat → Int32)), p_WO_delay n a0 v_x_atHand_cycle v_x_arrivals_size v_x_arrivals_crossings v_x_atHand_offsets v_x_road_size v_x_road_queues v_x_arrivals_seconds v_x_road_greens v_x_arrivals_cars = some ox ∧ p_Mo_delay n a0 v_y_has v_y_crossings v_y_offsets v_y_cycle v_y_greens v_y_queues v_y_arrivals v_y_places v_y_times v_y_cars v_y_open = some om ∧ ox = om.1 ∧ Inv v_x_road_size v_x_road_firstCycle v_x_road_lastCycle v_x_road_cycleBy v_x_road_stepSeconds v_x_road_greens v_x_road_leasts v_x_road_queues v_x_road_seconds v_x_road_weights v_x_atHand_cycle v_x_atHand_size v_x_atHand_aim v_x_atHand_sawAll v_x_atHand_offsets v_x_arrivals_size v_x_arrivals_crossings v_x_arrivals_seconds v_x_arrivals_cars T v_y_crossings v_y_first v_y_last v_y_by v_y_step v_y_has v_y_cycle v_y_aim v_y_proved v_y_arrivals v_y_greens v_y_leasts v_y_queues v_y_seconds v_y_weights v_y_offsets v_y_places v_y_times v_y_cars v_y_hourCrossings v_y_hourCycles v_y_hourOffsets := by
  have h0 := h
  obtain ⟨N, c1, c2, cb, cs, g, l, q, fs, fw, bs, bw, hO, ⟨rfl, rfl, rfl, rfl, rfl, x6, x7⟩, ⟨rfl, rfl, rfl, rfl, rfl, m6, m7⟩, hP, hA, hH⟩ := h
  obtain ⟨hN, o2, o3, o4, o5, o6, o7, o8, o9, o10, o11, o12, o13⟩ := hO
  obtain ⟨A, pl, tm, cr, hA40, rfl, rfl, hAr⟩ := hA
  unfold p_WO_delay p_Mo_delay
  simp only [b_isPart, b_isIn, b_isMade, Option.bind_some, b_one]
  rcases hP with ⟨rfl, rfl⟩ | ⟨c, off, hN2, rfl, hc1, hc2, hl, rfl, rfl, rfl, rfl, ha, rfl, hw, ho⟩
  · rw [if_pos (rfl : (0 : Int32) = 0)]
    by_cases hpart : (0 : Int64) ≤ a0.toInt64 ∧ a0.toInt64 ≤ (1 : Int64)
    · rw [if_neg (show ¬ ¬ ((0 : Int64) ≤ a0.toInt64 ∧ a0.toInt64 ≤ (1 : Int64)) from fun z => z hpart), if_pos (show ¬ (0 : Int32) < 0 by decide)]
      exact ⟨_, _, rfl, rfl, rfl, h0⟩
    · rw [if_pos hpart]
      exact ⟨_, _, rfl, rfl, rfl, h0⟩
  · rw [if_neg (by decide : ¬ (1 : Int32) = 0)]
    by_cases hpart : (0 : Int64) ≤ a0.toInt64 ∧ a0.toInt64 ≤ (1 : Int64)
    · rw [if_neg (show ¬ ¬ ((0 : Int64) ≤ a0.toInt64 ∧ a0.toInt64 ≤ (1 : Int64)) from fun z => z hpart), if_neg (show ¬ ¬ ((0 : Int64) ≤ a0.toInt64 ∧ a0.toInt64 ≤ (1 : Int64)) from fun z => z hpart), if_neg (show ¬ ¬ (0 : Int32) < nI c from fun z => z (b_pos hc1 hc2))]
      have hg : ∀ k, k < N → q k < g k ∧ g k < c ∧ off k < c := fun k hk => by have := o2 k hk; have := hl k hk; have := (ho k hk).1; omega
      obtain ⟨op', e1, e2⟩ := b_layPlan n (by omega) hN hc1 hc2 g q off hg v_y_offsets v_y_queues v_y_greens (fun k hk => ⟨(ho k hk).2.2, (m6 k hk).2.2, (m6 k hk).1⟩) v_y_open
      have hw2 : ∀ i, i < A → wt (g (pl i) - q (pl i)) c (em ((tm i : Int) - ((off (pl i) + q (pl i) : Nat) : Int)) c) ≤ 120 ∧ cr i ≤ 1000 := fun i hi => ⟨Nat.le_trans wt_le hc2, (hAr i hi).2.2.2.1⟩
      have hwx : ∀ i, i < A → p_Arr_waitOf n (nI i) v_x_arrivals_crossings v_x_atHand_offsets (nI N) v_x_road_queues v_x_arrivals_seconds (nI c) v_x_road_greens = some (nI (wt (g (pl i) - q (pl i)) c (em ((tm i : Int) - ((off (pl i) + q (pl i) : Nat) : Int)) c))) := by
        intro i hi
        obtain ⟨a1, a2, a3, a4, a5, a6, a7, a8, a9, a10⟩ := hAr i hi
        exact b_waitOf n hN hc1 hc2 (by omega) a1 a2 g q off hg _ _ _ _ _ (fun k hk => ⟨(ho k hk).2.1, (x7 k (by omega)).1, (x6 k hk).1⟩) a5 a7
      have hwm : ∀ i, i < A → ∀ z2 z4, p_Mo_delay_45 n n (nI c) v_y_places v_y_times a0 z2 z4 (nI i) (0 : Int32) op' = some (nI (wt (g (pl i) - q (pl i)) c (em ((tm i : Int) - ((off (pl i) + q (pl i) : Nat) : Int)) c))) := by
        intro i hi z2 z4
        obtain ⟨a1, a2, a3, a4, a5, a6, a7, a8, a9, a10⟩ := hAr i hi
        have hgp := hg (pl i) a1
        have := wt_le (L := g (pl i) - q (pl i)) (c := c) (s := em ((tm i : Int) - ((off (pl i) + q (pl i) : Nat) : Int)) c)
        exact b_delay45 n hN hc1 hc2 (by omega) a1 a2 (fun k => g k - q k) (fun k => off k + q k) (show 0 < g (pl i) - q (pl i) by omega) (show g (pl i) - q (pl i) < c by omega) op' _ _ e2 a6 a8 a0 z2 z4 _ 0 n (by rw [Nat.zero_add]) (by show wt (g (pl i) - q (pl i)) c (em ((tm i : Int) - ((off (pl i) + q (pl i) : Nat) : Int)) c) < n; omega)
      have t1 := b_waited5 n hA40 _ cr hw2 v_x_arrivals_cars v_x_arrivals_crossings v_x_atHand_offsets v_x_road_queues v_x_arrivals_seconds v_x_road_greens (nI N) (nI c) (fun i hi => (hAr i hi).2.2.2.2.2.2.2.2.1) hwx A 0 0 n (by omega) (by omega)
      have t2 := b_through5 n hA40 _ cr hw2 v_x_arrivals_cars v_x_arrivals_crossings v_x_atHand_offsets v_x_road_queues v_x_arrivals_seconds v_x_road_greens (nI N) (nI c) (fun i hi => (hAr i hi).2.2.2.2.2.2.2.2.1) hwx A 0 0 n (by omega) (by omega)
      have t3 := b_delay33 n hA40 _ cr hw2 v_y_cars v_y_places v_y_times op' (nI c) a0 (fun i hi => (hAr i hi).2.2.2.2.2.2.2.2.2) hwm A 0 0 0 n (by omega) (by omega)
      unfold p_Arr_secondsWaited p_Arr_carsThrough
      rw [e1, Option.bind_some]
      rw [show (0 : Int64) = lN 0 from rfl]
      rw [show nI 0 = (0 : Int32) from rfl] at t1 t2 t3
      rw [t1, t2, t3]
      simp only [Option.bind_some]
      by_cases hz : a0 = 0
      · rw [if_pos hz, if_pos hz]
        exact ⟨_, _, rfl, rfl, rfl, h0⟩
      · rw [if_neg hz, if_neg hz]
        exact ⟨_, _, rfl, rfl, rfl, h0⟩
    · rw [if_pos hpart, if_pos hpart]
      exact ⟨_, _, rfl, rfl, rfl, h0⟩
