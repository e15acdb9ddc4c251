theorem op_arrive (n : Nat) (hn : 1000000 ≤ n) (v_x_road_size : Int32) (v_x_road_firstCycle : Int32) (v_x_road_lastCycle : Int32) (v_x_road_cycleBy : Int32) (v_x_road_stepSeconds : Int32) (v_x_road_greens : Nat → Int32) (v_x_road_leasts : Nat → Int32) (v_x_road_queues : Nat → Int32) (v_x_road_seconds : Nat → Int32) (v_x_road_weights : Nat → Int32) (v_x_atHand_cycle : Int32) (v_x_atHand_size : Int32) (v_x_atHand_aim : Int32) (v_x_atHand_sawAll : Int32) (v_x_atHand_offsets : Nat → Int32) (v_x_arrivals_size : Int32) (v_x_arrivals_crossings : Nat → Int32) (v_x_arrivals_seconds : Nat → Int32) (v_x_arrivals_cars : Nat → Int32) (T : Nat → Option (Int32 × Int32 × (Nat → Int32))) (v_y_crossings : Int32) (v_y_first : Int32) (v_y_last : Int32) (v_y_by : Int32) (v_y_step : Int32) (v_y_has : Int32) (v_y_cycle : Int32) (v_y_aim : Int32) (v_y_proved : Int32) (v_y_arrivals : Int32) (v_y_greens : Nat → Int32) (v_y_leasts : Nat → Int32) (v_y_queues : Nat → Int32) (v_y_seconds : Nat → Int32) (v_y_weights : Nat → Int32) (v_y_offsets : Nat → Int32) (v_y_places : Nat → Int32) (v_y_times : Nat → Int32) (v_y_cars : Nat → Int32) (v_y_hourCrossings : Nat → Int32) (v_y_hourCycles : Nat → Int32) (v_y_hourOffsets : Nat → Int32) (v_x_search_size : Int32) (v_x_search_cycle : Int32) (v_x_search_choices : Int32) (v_x_search_stepSeconds : Int32) (v_x_search_rowsLeft : Int64) (v_x_search_bestScore : Int64) (v_x_search_bandWorth_openLow : Nat → Int64) (v_x_search_bandWorth_openHigh : Nat → Int64) (v_x_search_bandWorth_bandLow : Nat → Int64) (v_x_search_bandWorth_bandHigh : Nat → Int64) (v_x_search_bandWorth_wayWeights : Nat → Int32) (v_x_search_stopWorth_cycle : Int32) (v_x_search_stopWorth_stepSeconds : Int32) (v_x_search_stopWorth_stopsApart : Nat → Int32) (v_x_search_stopWorth_stopsTo : Nat → Int64) (v_x_search_stopWorth_offsets : Nat → Int32) (v_x_search_row : Nat → Int32) (v_x_search_rowsBehind : Nat → Int64) (v_y_row : Nat → Int32) (v_y_open : Nat → Int32) (h : Inv v_x_road_size v_x_road_firstCycle v_x_road_lastCycle v_x_road_cycleBy v_x_road_stepSeconds v_x_road_greens v_x_road_leasts v_x_road_queues v_x_road_seconds v_x_road_weights v_x_atHand_cycle v_x_atHand_size v_x_atHand_aim v_x_atHand_sawAll v_x_atHand_offsets v_x_arrivals_size v_x_arrivals_crossings v_x_arrivals_seconds v_x_arrivals_cars T v_y_crossings v_y_first v_y_last v_y_by v_y_step v_y_has v_y_cycle v_y_aim v_y_proved v_y_arrivals v_y_greens v_y_leasts v_y_queues v_y_seconds v_y_weights v_y_offsets v_y_places v_y_times v_y_cars v_y_hourCrossings v_y_hourCycles v_y_hourOffsets) (a0 : Int32) (a1 : Int32) (a2 : Int32) (a3 : Int32) : ∃ (ox : Int32 × Int32 × (Nat → Int32) × (Nat → Int32) × (Nat → Int32)) (om : Int32 × Int32 × (Nat → Int32) × (Nat → Int32) × (Nat → Int32)), p_WO_arrive n a0 a1 a2 a3 v_x_road_size v_x_arrivals_size v_x_arrivals_crossings v_x_arrivals_seconds v_x_arrivals_cars = some ox ∧ p_Mo_arrive n a0 a1 a2 a3 v_y_crossings v_y_arrivals v_y_places v_y_times v_y_cars = some om ∧ ox.1 = om.1 ∧ Inv v_x_road_size v_x_road_firstCycle v_x_road_lastCycle v_x_road_cycleBy v_x_road_stepSeconds v_x_road_greens v_x_road_leasts v_x_road_queues v_x_road_seconds v_x_road_weights v_x_atHand_cycle v_x_atHand_size v_x_atHand_aim v_x_atHand_sawAll v_x_atHand_offsets ox.2.1 ox.2.2.1 ox.2.2.2.1 ox.2.2.2.2 T v_y_crossings v_y_first v_y_last v_y_by v_y_step v_y_has v_y_cycle v_y_aim v_y_proved om.2.1 v_y_greens v_y_leasts v_y_queues v_y_seconds v_y_weights v_y_offsets om.2.2.1 om.2.2.2.1 om.2.2.2.2 v_y_hourCrossings v_y_hourCycles v_y_hourOffsets := by
  have h0 := h
  obtain ⟨N, c1, c2, cb, cs, g, l, q, fs, fw, bs, bw, hO, ⟨rfl, rfl, rfl, rfl, rfl, x6, x7⟩, ⟨rfl, rfl, rfl, rfl, rfl, m6, m7⟩, hP, hA, hH⟩ := h
  have hN : N ≤ 5 := hO.1
  obtain ⟨A, pl, tm, cr, hA40, rfl, rfl, har⟩ := hA
  unfold p_WO_arrive p_Mo_arrive
  simp only [b_has, b_isCrossing _ _ hN, b_within, b_isIn, Option.bind_some, b_one, b_nI5 hN]
  by_cases hk : (0 ≤ a0.toInt ∧ a0.toInt < (N : Int))
  · by_cases hw : ((0 : Int64) ≤ a1.toInt64 ∧ a1.toInt64 ≤ (1 : Int64))
    · by_cases hs : ((0 : Int64) ≤ a2.toInt64 ∧ a2.toInt64 ≤ (10000 : Int64))
      · by_cases hc : ((1 : Int64) ≤ a3.toInt64 ∧ a3.toInt64 ≤ (1000 : Int64))
        · simp only [if_neg (show ¬ ¬ (0 ≤ a0.toInt ∧ a0.toInt < (N : Int)) from fun z => z hk), if_neg (show ¬ ¬ ((0 : Int64) ≤ a1.toInt64 ∧ a1.toInt64 ≤ (1 : Int64)) from fun z => z hw), if_neg (show ¬ ¬ ((0 : Int64) ≤ a2.toInt64 ∧ a2.toInt64 ≤ (10000 : Int64)) from fun z => z hs), if_neg (show ¬ ¬ ((1 : Int64) ≤ a3.toInt64 ∧ a3.toInt64 ≤ (1000 : Int64)) from fun z => z hc)]
          have hw2 := hw
          rw [b_le32, b_ge32, show (0 : Int64).toInt = 0 by decide, show (1 : Int64).toInt = 1 by decide] at hw2
          rw [b_le32, b_ge32, show (0 : Int64).toInt = 0 by decide, show (10000 : Int64).toInt = 10000 by decide] at hs
          rw [b_le32, b_ge32, show (1 : Int64).toInt = 1 by decide, show (1000 : Int64).toInt = 1000 by decide] at hc
          obtain ⟨k, hkN, ek, -⟩ := b_nat hk
          subst ek
          obtain ⟨w, hw3, ew, -⟩ := b_nat (x := a1) (m := 2) (by omega)
          obtain ⟨t2, ht2, et2, -⟩ := b_nat (x := a2) (m := 10001) (by omega)
          obtain ⟨t3, ht3, et3, -⟩ := b_nat (x := a3) (m := 1001) (by omega)
          have ht31 : 1 ≤ t3 := by rw [et3, nI_toInt (by omega)] at hc; omega
          have hAc : (nI A).toNatClampNeg = A := nI_clamp (by omega)
          -- what is added, where the street's end is crossing e
          have good : ∀ (e : Nat) (x : Int32), x = nI e → e < N → ∃ (ox : Int32 × Int32 × (Nat → Int32) × (Nat → Int32) × (Nat → Int32)) (om : Int32 × Int32 × (Nat → Int32) × (Nat → Int32) × (Nat → Int32)),
              ((p_Arr_add n x a2 a3 (nI A) v_x_arrivals_crossings v_x_arrivals_seconds v_x_arrivals_cars).bind fun r => if r.1 = 0 then some ((0 : Int32), r.2.1, r.2.2.1, r.2.2.2.1, r.2.2.2.2) else some ((1 : Int32), r.2.1, r.2.2.1, r.2.2.2.1, r.2.2.2.2)) = some ox ∧
              (if (40 : Int32) ≤ nI A then some ((0 : Int32), nI A, v_y_places, v_y_times, v_y_cars) else if dk_in (nI A) 40 = true then some ((1 : Int32), nI A + (1 : Int32), upd v_y_places (nI A).toNatClampNeg x, upd v_y_times (nI A).toNatClampNeg a2, upd v_y_cars (nI A).toNatClampNeg a3) else none) = some om ∧ ox.1 = om.1 ∧
              arR N ox.2.1 ox.2.2.1 ox.2.2.2.1 ox.2.2.2.2 om.2.1 om.2.2.1 om.2.2.2.1 om.2.2.2.2 := by
            intro e x ex he
            unfold p_Arr_add
            by_cases hA4 : A < 40
            · have i1 : nI A < (40 : Int32) := nI_lt (b := 40) hA4 (by omega)
              have i2 : ¬ (40 : Int32) ≤ nI A := nI_ge (b := 40) hA4 (by omega)
              have i3 : dk_in (nI A) 40 = true := b_in hA4 (by omega)
              simp only [if_pos i1, if_neg i2, if_pos i3, Option.bind_some]
              refine ⟨_, _, rfl, rfl, rfl, A + 1, fun i => if i = A then e else pl i, fun i => if i = A then t2 else tm i, fun i => if i = A then t3 else cr i, by omega, nI_1 A, nI_1 A, ?_⟩
              intro i hi
              rw [hAc]
              by_cases hiA : i = A
              · subst hiA
                simp only [if_true, upd]
                exact ⟨he, by omega, ht31, by omega, ex, ex, et2, et2, et3, et3⟩
              · have := har i (by omega)
                simp only [if_neg hiA, upd]
                exact this
            · have i1 : ¬ nI A < (40 : Int32) := nI_nlt (b := 40) (by omega) (by omega)
              have i2 : (40 : Int32) ≤ nI A := nI_le (a := 40) (by omega) (by omega)
              simp only [if_neg i1, if_pos i2, Option.bind_some]
              exact ⟨_, _, rfl, rfl, rfl, A, pl, tm, cr, hA40, rfl, rfl, har⟩
          rcases (show w = 0 ∨ w = 1 by omega) with rfl | rfl
          · have ew0 : a1 = 0 := ew
            subst ew0
            simp only [if_true, nI_1, nI_toInt (show k + 1 < 2 ^ 31 by omega)]
            by_cases hto : 0 ≤ ((k + 1 : Nat) : Int) ∧ ((k + 1 : Nat) : Int) < (N : Int)
            · simp only [if_neg (show ¬ ¬ (0 ≤ ((k + 1 : Nat) : Int) ∧ ((k + 1 : Nat) : Int) < (N : Int)) from fun z => z hto)]
              obtain ⟨ox, om, g1, g2, g3, g4⟩ := good (k + 1) _ rfl (by omega)
              refine ⟨ox, om, g1, ?_, g3, N, c1, c2, cb, cs, g, l, q, fs, fw, bs, bw, hO, ⟨rfl, rfl, rfl, rfl, rfl, x6, x7⟩, ⟨rfl, rfl, rfl, rfl, rfl, m6, m7⟩, hP, g4, hH⟩
              by_cases hd : dk_in (nI A) 40 = true
              · simp only [if_pos hd] at g2 ⊢; simp only [← nI_1] at g2 ⊢; exact g2
              · simp only [if_neg hd] at g2 ⊢; exact g2
            · simp only [if_pos hto]
              exact ⟨_, _, rfl, rfl, rfl, h0⟩
          · have ew0 : a1 = 1 := ew
            subst ew0
            simp only [if_neg (by decide : ¬ (1 : Int32) = 0)]
            by_cases hk1 : 1 ≤ k
            · obtain ⟨k', rfl⟩ : ∃ k', k = k' + 1 := ⟨k - 1, by omega⟩
              simp only [nI_pred, nI_toInt (show k' < 2 ^ 31 by omega)]
              have hto : 0 ≤ (k' : Int) ∧ (k' : Int) < (N : Int) := by omega
              simp only [if_neg (show ¬ ¬ (0 ≤ (k' : Int) ∧ (k' : Int) < (N : Int)) from fun z => z hto)]
              obtain ⟨ox, om, g1, g2, g3, g4⟩ := good k' _ rfl (by omega)
              refine ⟨ox, om, g1, ?_, g3, N, c1, c2, cb, cs, g, l, q, fs, fw, bs, bw, hO, ⟨rfl, rfl, rfl, rfl, rfl, x6, x7⟩, ⟨rfl, rfl, rfl, rfl, rfl, m6, m7⟩, hP, g4, hH⟩
              by_cases hd : dk_in (nI A) 40 = true
              · simp only [if_pos hd] at g2 ⊢; exact g2
              · simp only [if_neg hd] at g2 ⊢; exact g2
            · have hk0 : k = 0 := by omega
              subst hk0
              have hm1 : ¬ (0 ≤ (nI 0 - (1 : Int32)).toInt ∧ (nI 0 - (1 : Int32)).toInt < (N : Int)) := by
                rw [show (nI 0 - (1 : Int32)).toInt = -1 by decide]; omega
              simp only [if_pos hm1]
              exact ⟨_, _, rfl, rfl, rfl, h0⟩
        · simp only [if_neg (show ¬ ¬ (0 ≤ a0.toInt ∧ a0.toInt < (N : Int)) from fun z => z hk), if_neg (show ¬ ¬ ((0 : Int64) ≤ a1.toInt64 ∧ a1.toInt64 ≤ (1 : Int64)) from fun z => z hw), if_neg (show ¬ ¬ ((0 : Int64) ≤ a2.toInt64 ∧ a2.toInt64 ≤ (10000 : Int64)) from fun z => z hs), if_pos hc, ite_self]
          exact ⟨_, _, rfl, rfl, rfl, h0⟩
      · simp only [if_neg (show ¬ ¬ (0 ≤ a0.toInt ∧ a0.toInt < (N : Int)) from fun z => z hk), if_neg (show ¬ ¬ ((0 : Int64) ≤ a1.toInt64 ∧ a1.toInt64 ≤ (1 : Int64)) from fun z => z hw), if_pos hs, ite_self]
        exact ⟨_, _, rfl, rfl, rfl, h0⟩
    · simp only [if_neg (show ¬ ¬ (0 ≤ a0.toInt ∧ a0.toInt < (N : Int)) from fun z => z hk), if_pos hw]
      exact ⟨_, _, rfl, rfl, rfl, h0⟩
  · simp only [if_pos hk, ite_self]
    exact ⟨_, _, rfl, rfl, rfl, h0⟩
