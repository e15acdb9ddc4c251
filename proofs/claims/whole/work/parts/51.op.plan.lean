theorem op_plan (n : Nat) (hn : 1000000 ≤ n) (v_x_road_size : Int32) (v_x_road_firstCycle : Int32) (v_x_road_lastCycle : Int32) (v_x_road_cycleBy : Int32) (v_x_road_stepSeconds : Int32) (v_x_road_greens : Nat → Int32) (v_x_road_leasts : Nat → Int32) (v_x_road_queues : Nat → Int32) (v_x_road_seconds : Nat → Int32) (v_x_road_weights : Nat → Int32) (v_x_atHand_cycle : Int32) (v_x_atHand_size : Int32) (v_x_atHand_aim : Int32) (v_x_atHand_sawAll : Int32) (v_x_atHand_offsets : Nat → Int32) (v_x_arrivals_size : Int32) (v_x_arrivals_crossings : Nat → Int32) (v_x_arrivals_seconds : Nat → Int32) (v_x_arrivals_cars : Nat → Int32) (T : Nat → Option (Int32 × Int32 × (Nat → Int32))) (v_y_crossings : Int32) (v_y_first : Int32) (v_y_last : Int32) (v_y_by : Int32) (v_y_step : Int32) (v_y_has : Int32) (v_y_cycle : Int32) (v_y_aim : Int32) (v_y_proved : Int32) (v_y_arrivals : Int32) (v_y_greens : Nat → Int32) (v_y_leasts : Nat → Int32) (v_y_queues : Nat → Int32) (v_y_seconds : Nat → Int32) (v_y_weights : Nat → Int32) (v_y_offsets : Nat → Int32) (v_y_places : Nat → Int32) (v_y_times : Nat → Int32) (v_y_cars : Nat → Int32) (v_y_hourCrossings : Nat → Int32) (v_y_hourCycles : Nat → Int32) (v_y_hourOffsets : Nat → Int32) (v_x_search_size : Int32) (v_x_search_cycle : Int32) (v_x_search_choices : Int32) (v_x_search_stepSeconds : Int32) (v_x_search_rowsLeft : Int64) (v_x_search_bestScore : Int64) (v_x_search_bandWorth_openLow : Nat → Int64) (v_x_search_bandWorth_openHigh : Nat → Int64) (v_x_search_bandWorth_bandLow : Nat → Int64) (v_x_search_bandWorth_bandHigh : Nat → Int64) (v_x_search_bandWorth_wayWeights : Nat → Int32) (v_x_search_stopWorth_cycle : Int32) (v_x_search_stopWorth_stepSeconds : Int32) (v_x_search_stopWorth_stopsApart : Nat → Int32) (v_x_search_stopWorth_stopsTo : Nat → Int64) (v_x_search_stopWorth_offsets : Nat → Int32) (v_x_search_row : Nat → Int32) (v_x_search_rowsBehind : Nat → Int64) (v_y_row : Nat → Int32) (v_y_open : Nat → Int32) (h : Inv v_x_road_size v_x_road_firstCycle v_x_road_lastCycle v_x_road_cycleBy v_x_road_stepSeconds v_x_road_greens v_x_road_leasts v_x_road_queues v_x_road_seconds v_x_road_weights v_x_atHand_cycle v_x_atHand_size v_x_atHand_aim v_x_atHand_sawAll v_x_atHand_offsets v_x_arrivals_size v_x_arrivals_crossings v_x_arrivals_seconds v_x_arrivals_cars T v_y_crossings v_y_first v_y_last v_y_by v_y_step v_y_has v_y_cycle v_y_aim v_y_proved v_y_arrivals v_y_greens v_y_leasts v_y_queues v_y_seconds v_y_weights v_y_offsets v_y_places v_y_times v_y_cars v_y_hourCrossings v_y_hourCycles v_y_hourOffsets) (a0 : Int32) : ∃ (ox : Int32 × (Nat → Option (Int32 × Int32 × (Nat → Int32)))) (om : Int32 × (Nat → Int32) × (Nat → Int32) × (Nat → Int32)), p_WO_plan n a0 v_x_atHand_cycle v_x_atHand_size v_x_atHand_offsets T = some ox ∧ p_Mo_plan n a0 v_y_has v_y_crossings v_y_cycle v_y_offsets v_y_hourCrossings v_y_hourCycles v_y_hourOffsets = some om ∧ ox.1 = om.1 ∧ Inv v_x_road_size v_x_road_firstCycle v_x_road_lastCycle v_x_road_cycleBy v_x_road_stepSeconds v_x_road_greens v_x_road_leasts v_x_road_queues v_x_road_seconds v_x_road_weights v_x_atHand_cycle v_x_atHand_size v_x_atHand_aim v_x_atHand_sawAll v_x_atHand_offsets v_x_arrivals_size v_x_arrivals_crossings v_x_arrivals_seconds v_x_arrivals_cars ox.2 v_y_crossings v_y_first v_y_last v_y_by v_y_step v_y_has v_y_cycle v_y_aim v_y_proved v_y_arrivals v_y_greens v_y_leasts v_y_queues v_y_seconds v_y_weights v_y_offsets v_y_places v_y_times v_y_cars om.2.1 om.2.2.1 om.2.2.2 := by
  have h0 := h
  obtain ⟨N, c1, c2, cb, cs, g, l, q, fs, fw, bs, bw, hO, ⟨rfl, rfl, rfl, rfl, rfl, x6, x7⟩, ⟨rfl, rfl, rfl, rfl, rfl, m6, m7⟩, hP, hA, hH⟩ := h
  have hN : N ≤ 5 := hO.1
  unfold p_WO_plan p_Mo_plan
  simp only [b_within, b_isIn, b_isMade, Option.bind_some, b_one]
  rcases hP with ⟨rfl, rfl⟩ | ⟨c, off, h2, rfl, hc1, hc2, hl, rfl, rfl, rfl, rfl, ha, rfl, hw, ho⟩
  · simp only [if_pos (show ¬ (0 : Int32) < 0 by decide), if_true, ite_self]
    exact ⟨_, _, rfl, rfl, rfl, h0⟩
  · simp only [if_neg (show ¬ ¬ (0 : Int32) < nI c from fun z => z (b_pos hc1 hc2)), if_neg (by decide : ¬ (1 : Int32) = 0)]
    by_cases hw0 : ((0 : Int64) ≤ a0.toInt64 ∧ a0.toInt64 ≤ (23 : Int64))
    · simp only [if_neg (show ¬ ¬ ((0 : Int64) ≤ a0.toInt64 ∧ a0.toInt64 ≤ (23 : Int64)) from fun z => z hw0)]
      have hw2 := hw0
      rw [b_le32, b_ge32, show (0 : Int64).toInt = 0 by decide, show (23 : Int64).toInt = 23 by decide] at hw2
      obtain ⟨i, hi, ei, ec⟩ := b_nat (x := a0) (m := 24) (by omega)
      have hin : dk_in a0 24 = true := b_in5 (n := 24) (by omega)
      -- what is kept
      have hkeep : ∃ (of1 : Nat → Int32), p_Tt_keep n a0 (nI c) (nI N) v_x_atHand_offsets T = some (va_up T i (some (nI c, nI N, of1))) ∧ ∀ k, k < 5 → of1 k = v_x_atHand_offsets k := by
        unfold p_Tt_keep
        simp only [b_within, Option.bind_some, b_one, if_neg (show ¬ ¬ ((0 : Int64) ≤ a0.toInt64 ∧ a0.toInt64 ≤ (23 : Int64)) from fun z => z hw0), if_pos hin, ec]
        unfold p_Plan_set p_Plan_init
        cases hTi : T i with
        | none =>
          refine ⟨_, ?_, fun k hk => b_set5 v_x_atHand_offsets (fun _ => 0) hk⟩
          simp only [Option.elim, Option.bind_some, b_set13 n (by omega)]
        | some z =>
          refine ⟨_, ?_, fun k hk => b_set5 v_x_atHand_offsets z.2.2 hk⟩
          simp only [Option.elim, Option.bind_some, b_set13 n (by omega)]
      obtain ⟨of1, ek, hof⟩ := hkeep
      obtain ⟨hof2, e43, h43, h43o⟩ := b_pl43 n (by omega) v_y_offsets v_y_hourOffsets (show N ≤ 5 from hN) hi
      simp only [if_pos hin]
      rw [ek, ei, e43]
      simp only [Option.bind_some, b_planned n (by omega), b_hours n (by omega), nI_clamp (show i < 2 ^ 31 by omega)]
      have hH2 : hrR N (va_up T i (some (nI c, nI N, of1))) (upd v_y_hourCrossings i (nI N)) (upd v_y_hourCycles i (nI c)) hof2 := by
        intro j hj
        by_cases hji : j = i
        · subst hji
          refine Or.inr ⟨c, N, of1, off, va_up_self _ _ _, h2, Nat.le_refl _, hc1, hc2, by simp [upd], by simp [upd], fun k hk => ⟨(ho k hk).1, by rw [hof k (by omega)]; exact (ho k hk).2.1, by rw [h43 k hk]; exact (ho k hk).2.2⟩⟩
        · rcases hH j hj with ⟨y1, y2⟩ | ⟨cy, m, f1, f, y1, y2, y3, y4, y5, y6, y7, y8⟩
          · exact Or.inl ⟨by rw [va_up_ne _ _ hji]; exact y1, by simp [upd, hji, y2]⟩
          · refine Or.inr ⟨cy, m, f1, f, by rw [va_up_ne _ _ hji]; exact y1, y2, y3, y4, y5, by simp [upd, hji, y6], by simp [upd, hji, y7], fun k hk => ?_⟩
            have := y8 k hk
            exact ⟨this.1, this.2.1, by rw [h43o (5 * j + k) (by omega)]; exact this.2.2⟩
      refine ⟨_, _, rfl, rfl, ?_, N, c1, c2, cb, cs, g, l, q, fs, fw, bs, bw, hO, ⟨rfl, rfl, rfl, rfl, rfl, x6, x7⟩, ⟨rfl, rfl, rfl, rfl, rfl, m6, m7⟩, Or.inr ⟨c, off, h2, rfl, hc1, hc2, hl, rfl, rfl, rfl, rfl, ha, rfl, hw, ho⟩, hA, hH2⟩
      exact congrArg nI (hr_hc hH2 hN)
    · simp only [if_pos hw0]
      exact ⟨_, _, rfl, rfl, rfl, h0⟩
