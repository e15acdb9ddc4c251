theorem op_crossing (n : Nat) (hn : 1000000 ≤ n) (v_x_road_size : Int32) (v_x_road_firstCycle : Int32) (v_x_road_lastCycle : Int32) (v_x_road_cycleBy : Int32) (v_x_road_stepSeconds : Int32) (v_x_road_greens : Nat → Int32) (v_x_road_leasts : Nat → Int32) (v_x_road_queues : Nat → Int32) (v_x_road_seconds : Nat → Int32) (v_x_road_weights : Nat → Int32) (v_x_atHand_cycle : Int32) (v_x_atHand_size : Int32) (v_x_atHand_aim : Int32) (v_x_atHand_sawAll : Int32) (v_x_atHand_offsets : Nat → Int32) (v_x_arrivals_size : Int32) (v_x_arrivals_crossings : Nat → Int32) (v_x_arrivals_seconds : Nat → Int32) (v_x_arrivals_cars : Nat → Int32) (T : Nat → Option (Int32 × Int32 × (Nat → Int32))) (v_y_crossings : Int32) (v_y_first : Int32) (v_y_last : Int32) (v_y_by : Int32) (v_y_step : Int32) (v_y_has : Int32) (v_y_cycle : Int32) (v_y_aim : Int32) (v_y_proved : Int32) (v_y_arrivals : Int32) (v_y_greens : Nat → Int32) (v_y_leasts : Nat → Int32) (v_y_queues : Nat → Int32) (v_y_seconds : Nat → Int32) (v_y_weights : Nat → Int32) (v_y_offsets : Nat → Int32) (v_y_places : Nat → Int32) (v_y_times : Nat → Int32) (v_y_cars : Nat → Int32) (v_y_hourCrossings : Nat → Int32) (v_y_hourCycles : Nat → Int32) (v_y_hourOffsets : Nat → Int32) (v_x_search_size : Int32) (v_x_search_cycle : Int32) (v_x_search_choices : Int32) (v_x_search_stepSeconds : Int32) (v_x_search_rowsLeft : Int64) (v_x_search_bestScore : Int64) (v_x_search_bandWorth_openLow : Nat → Int64) (v_x_search_bandWorth_openHigh : Nat → Int64) (v_x_search_bandWorth_bandLow : Nat → Int64) (v_x_search_bandWorth_bandHigh : Nat → Int64) (v_x_search_bandWorth_wayWeights : Nat → Int32) (v_x_search_stopWorth_cycle : Int32) (v_x_search_stopWorth_stepSeconds : Int32) (v_x_search_stopWorth_stopsApart : Nat → Int32) (v_x_search_stopWorth_stopsTo : Nat → Int64) (v_x_search_stopWorth_offsets : Nat → Int32) (v_x_search_row : Nat → Int32) (v_x_search_rowsBehind : Nat → Int64) (v_y_row : Nat → Int32) (v_y_open : Nat → Int32) (h : Inv v_x_road_size v_x_road_firstCycle v_x_road_lastCycle v_x_road_cycleBy v_x_road_stepSeconds v_x_road_greens v_x_road_leasts v_x_road_queues v_x_road_seconds v_x_road_weights v_x_atHand_cycle v_x_atHand_size v_x_atHand_aim v_x_atHand_sawAll v_x_atHand_offsets v_x_arrivals_size v_x_arrivals_crossings v_x_arrivals_seconds v_x_arrivals_cars T v_y_crossings v_y_first v_y_last v_y_by v_y_step v_y_has v_y_cycle v_y_aim v_y_proved v_y_arrivals v_y_greens v_y_leasts v_y_queues v_y_seconds v_y_weights v_y_offsets v_y_places v_y_times v_y_cars v_y_hourCrossings v_y_hourCycles v_y_hourOffsets) (a0 : Int32) (a1 : Int32) : ∃ (ox : Int32 × Int32 × (Nat → Int32) × (Nat → Int32) × Int32) (om : Int32 × Int32 × Int32 × (Nat → Int32) × (Nat → Int32) × (Nat → Int32) × (Nat → Int32) × (Nat → Int32)), p_WO_crossing n a0 a1 v_x_road_size v_x_road_greens v_x_road_leasts v_x_atHand_cycle = some ox ∧ p_Mo_crossing n a0 a1 v_y_crossings v_y_has v_y_greens v_y_leasts v_y_queues v_y_seconds v_y_weights = some om ∧ ox.1 = om.1 ∧ Inv ox.2.1 v_x_road_firstCycle v_x_road_lastCycle v_x_road_cycleBy v_x_road_stepSeconds ox.2.2.1 ox.2.2.2.1 v_x_road_queues v_x_road_seconds v_x_road_weights ox.2.2.2.2 v_x_atHand_size v_x_atHand_aim v_x_atHand_sawAll v_x_atHand_offsets v_x_arrivals_size v_x_arrivals_crossings v_x_arrivals_seconds v_x_arrivals_cars T om.2.1 v_y_first v_y_last v_y_by v_y_step om.2.2.1 v_y_cycle v_y_aim v_y_proved v_y_arrivals om.2.2.2.1 om.2.2.2.2.1 om.2.2.2.2.2.1 om.2.2.2.2.2.2.1 om.2.2.2.2.2.2.2 v_y_offsets v_y_places v_y_times v_y_cars v_y_hourCrossings v_y_hourCycles v_y_hourOffsets := by
  have h0 := h
  obtain ⟨N, c1, c2, cb, cs, g, l, q, fs, fw, bs, bw, hO, ⟨rfl, rfl, rfl, rfl, rfl, x6, x7⟩, ⟨rfl, rfl, rfl, rfl, rfl, m6, m7⟩, hP, hA, hH⟩ := h
  have hN : N ≤ 5 := hO.1
  unfold p_WO_crossing p_Mo_crossing
  simp only [b_within, b_isIn, Option.bind_some, b_one, b_clear]
  by_cases hg : ((5 : Int64) ≤ a0.toInt64 ∧ a0.toInt64 ≤ (90 : Int64))
  · by_cases hl2 : ((10 : Int64) ≤ a1.toInt64 ∧ a1.toInt64 ≤ (120 : Int64))
    · by_cases hlt : a0 < a1
      · have hle : ¬ a1 ≤ a0 := by
          rw [Int32.le_iff_toInt_le]; rw [Int32.lt_iff_toInt_lt] at hlt; omega
        by_cases hN5 : N = 5
        · subst hN5
          simp only [if_neg (show ¬ ¬ ((5 : Int64) ≤ a0.toInt64 ∧ a0.toInt64 ≤ (90 : Int64)) from fun z => z hg), if_neg (show ¬ ¬ ((10 : Int64) ≤ a1.toInt64 ∧ a1.toInt64 ≤ (120 : Int64)) from fun z => z hl2), if_neg hle, if_pos (show nI 5 = (5 : Int32) from rfl), p_Road_isFull, if_neg (show ¬ nI 5 < (5 : Int32) by decide), Option.bind_some, if_neg (by decide : ¬ (1 : Int32) = 0)]
          exact ⟨_, _, rfl, rfl, rfl, h0⟩
        · have hN4 : N < 5 := by omega
          have e5 : ¬ nI N = (5 : Int32) := by
            have := (nI_eq (a := N) (b := 5) (by omega) (by omega)).mp
            exact fun z => hN5 (this z)
          have l5 : nI N < (5 : Int32) := nI_lt (b := 5) hN4 (by omega)
          have hin : dk_in (nI N) 5 = true := b_in hN4 (by omega)
          simp only [if_neg (show ¬ ¬ ((5 : Int64) ≤ a0.toInt64 ∧ a0.toInt64 ≤ (90 : Int64)) from fun z => z hg), if_neg (show ¬ ¬ ((10 : Int64) ≤ a1.toInt64 ∧ a1.toInt64 ≤ (120 : Int64)) from fun z => z hl2), if_neg hle, if_neg e5, p_Road_isFull, if_pos l5, Option.bind_some, if_true, p_Road_addCrossing, if_pos hin, if_pos hlt]
          rw [b_le32, b_ge32, show (5 : Int64).toInt = 5 by decide, show (90 : Int64).toInt = 90 by decide] at hg
          rw [b_le32, b_ge32, show (10 : Int64).toInt = 10 by decide, show (120 : Int64).toInt = 120 by decide] at hl2
          rw [Int32.lt_iff_toInt_lt] at hlt
          obtain ⟨t0, ht0, et0, -⟩ := b_nat (x := a0) (m := 91) (by omega)
          obtain ⟨t1, ht1, et1, -⟩ := b_nat (x := a1) (m := 121) (by omega)
          have r0 : a0.toInt = (t0 : Int) := by rw [et0, nI_toInt (by omega)]
          have r1 : a1.toInt = (t1 : Int) := by rw [et1, nI_toInt (by omega)]
          obtain ⟨o1, o2, o3, o4, o5, o6, o7⟩ := hO
          have hcl : (nI N).toNatClampNeg = N := nI_clamp (by omega)
          -- what both leave, the reference's streets being as they should
          have fin : ∀ (sec wei : Nat → Int32), (∀ k, k + 1 < N + 1 → sec (2 * k) = nI (fs k) ∧ wei (2 * k) = nI (fw k) ∧ sec (2 * k + 1) = nI (bs (k + 1)) ∧ wei (2 * k + 1) = nI (bw (k + 1))) →
              Inv (nI N + 1) (nI c1) (nI c2) (nI cb) (nI cs) (upd v_x_road_greens N a0) (upd v_x_road_leasts N a1) v_x_road_queues v_x_road_seconds v_x_road_weights 0 v_x_atHand_size v_x_atHand_aim v_x_atHand_sawAll v_x_atHand_offsets v_x_arrivals_size v_x_arrivals_crossings v_x_arrivals_seconds v_x_arrivals_cars T (nI N + 1) (nI c1) (nI c2) (nI cb) (nI cs) 0 v_y_cycle v_y_aim v_y_proved v_y_arrivals (upd v_y_greens N a0) (upd v_y_leasts N a1) (upd v_y_queues N 0) sec wei v_y_offsets v_y_places v_y_times v_y_cars v_y_hourCrossings v_y_hourCycles v_y_hourOffsets := by
            intro sec wei hsw
            refine ⟨N + 1, c1, c2, cb, cs, fun k => if k = N then t0 else g k, fun k => if k = N then t1 else l k, q, fs, fw, bs, bw, ⟨by omega, ?_, fun k hk hkN => o3 k hk (by omega), o4, fun k hk hkN => o5 k hk (by omega), fun k hk hkN => o6 k hk (by omega), o7⟩, ⟨nI_1 N, rfl, rfl, rfl, rfl, ?_, x7⟩, ⟨nI_1 N, rfl, rfl, rfl, rfl, ?_, hsw⟩, Or.inl ⟨rfl, rfl⟩, ?_, ?_⟩
            · intro k hk
              by_cases hkN : k = N
              · subst hkN
                have := o3 k (by omega) (by omega)
                simp only [if_true]; omega
              · have := o2 k (by omega)
                simp only [if_neg hkN]; omega
            · intro k hk
              by_cases hkN : k = N
              · subst hkN; simp only [upd, if_true]; exact ⟨et0, et1⟩
              · simp only [upd, if_neg hkN]; exact x6 k (by omega)
            · intro k hk
              by_cases hkN : k = N
              · subst hkN
                have := o3 k (by omega) (by omega)
                simp only [upd, if_true]; exact ⟨et0, et1, by rw [this]; rfl⟩
              · simp only [upd, if_neg hkN]; exact m6 k (by omega)
            · obtain ⟨A, pl, tm, cr, y1, y2, y3, y4⟩ := hA
              exact ⟨A, pl, tm, cr, y1, y2, y3, fun i hi => ⟨by have := (y4 i hi).1; omega, (y4 i hi).2⟩⟩
            · intro hh hhl
              rcases hH hh hhl with y | ⟨cy, m, of1, of, y1, y2, y3, y4⟩
              · exact Or.inl y
              · exact Or.inr ⟨cy, m, of1, of, y1, y2, by omega, y4⟩
          by_cases hN0 : N = 0
          · subst hN0
            rw [if_pos (show nI 0 ≤ 0 by decide)]
            refine ⟨_, _, rfl, rfl, rfl, ?_⟩
            exact fin _ _ (fun k hk => by omega)
          · rw [if_neg (show ¬ nI N ≤ 0 from nI_nle (by omega) (by omega))]
            rw [b_cr82 n (by omega) v_y_seconds v_y_weights (show 1 ≤ N by omega) hN4, Option.bind_some]
            refine ⟨_, _, rfl, rfl, rfl, ?_⟩
            rw [hcl]
            refine fin _ _ (fun k hk => ?_)
            by_cases hkN : k + 1 = N
            · have u1 := o5 k (by omega) (by omega)
              have u2 := o6 (k + 1) (by omega) (Or.inr (by omega))
              have e1 : 2 * k = 2 * N - 2 := by omega
              have e2 : 2 * k + 1 = 2 * N - 1 := by omega
              have e3 : ¬ 2 * N - 2 = 2 * N - 1 := by omega
              have e4 : ¬ 2 * N - 1 = 2 * N - 2 := by omega
              simp only [e2, upd, if_true, if_neg e4]
              rw [e1]
              simp only [upd, if_true, if_neg e3]
              rw [u1.1, u1.2, u2.1, u2.2]
              exact ⟨rfl, rfl, rfl, rfl⟩
            · have := m7 k (by omega)
              have e1 : ¬ 2 * k = 2 * N - 2 := by omega
              have e2 : ¬ 2 * k = 2 * N - 1 := by omega
              have e3 : ¬ 2 * k + 1 = 2 * N - 2 := by omega
              have e4 : ¬ 2 * k + 1 = 2 * N - 1 := by omega
              simp only [upd, if_neg e1, if_neg e2, if_neg e3, if_neg e4]
              exact this
      · have hle : a1 ≤ a0 := by
          rw [Int32.le_iff_toInt_le]; rw [Int32.lt_iff_toInt_lt] at hlt; omega
        simp only [if_neg hlt, if_pos hle, if_neg (show ¬ ¬ ((5 : Int64) ≤ a0.toInt64 ∧ a0.toInt64 ≤ (90 : Int64)) from fun z => z hg), ite_self]
        exact ⟨_, _, rfl, rfl, rfl, h0⟩
    · by_cases hle : a1 ≤ a0
      · simp only [if_pos hl2, if_pos hle, if_neg (show ¬ ¬ ((5 : Int64) ≤ a0.toInt64 ∧ a0.toInt64 ≤ (90 : Int64)) from fun z => z hg), ite_self]
        exact ⟨_, _, rfl, rfl, rfl, h0⟩
      · simp only [if_pos hl2, if_neg hle, if_neg (show ¬ ¬ ((5 : Int64) ≤ a0.toInt64 ∧ a0.toInt64 ≤ (90 : Int64)) from fun z => z hg), ite_self]
        exact ⟨_, _, rfl, rfl, rfl, h0⟩
  · simp only [if_pos hg, ite_self]
    exact ⟨_, _, rfl, rfl, rfl, h0⟩
