theorem op_day (n : Nat) (hn : 1000000 ≤ n) (v_x_road_size : Int32) (v_x_road_firstCycle : Int32) (v_x_road_lastCycle : Int32) (v_x_road_cycleBy : Int32) (v_x_road_stepSeconds : Int32) (v_x_road_greens : Nat → Int32) (v_x_road_leasts : Nat → Int32) (v_x_road_queues : Nat → Int32) (v_x_road_seconds : Nat → Int32) (v_x_road_weights : Nat → Int32) (v_x_atHand_cycle : Int32) (v_x_atHand_size : Int32) (v_x_atHand_aim : Int32) (v_x_atHand_sawAll : Int32) (v_x_atHand_offsets : Nat → Int32) (v_x_arrivals_size : Int32) (v_x_arrivals_crossings : Nat → Int32) (v_x_arrivals_seconds : Nat → Int32) (v_x_arrivals_cars : Nat → Int32) (T : Nat → Option (Int32 × Int32 × (Nat → Int32))) (v_y_crossings : Int32) (v_y_first : Int32) (v_y_last : Int32) (v_y_by : Int32) (v_y_step : Int32) (v_y_has : Int32) (v_y_cycle : Int32) (v_y_aim : Int32) (v_y_proved : Int32) (v_y_arrivals : Int32) (v_y_greens : Nat → Int32) (v_y_leasts : Nat → Int32) (v_y_queues : Nat → Int32) (v_y_seconds : Nat → Int32) (v_y_weights : Nat → Int32) (v_y_offsets : Nat → Int32) (v_y_places : Nat → Int32) (v_y_times : Nat → Int32) (v_y_cars : Nat → Int32) (v_y_hourCrossings : Nat → Int32) (v_y_hourCycles : Nat → Int32) (v_y_hourOffsets : Nat → Int32) (v_x_search_size : Int32) (v_x_search_cycle : Int32) (v_x_search_choices : Int32) (v_x_search_stepSeconds : Int32) (v_x_search_rowsLeft : Int64) (v_x_search_bestScore : Int64) (v_x_search_bandWorth_openLow : Nat → Int64) (v_x_search_bandWorth_openHigh : Nat → Int64) (v_x_search_bandWorth_bandLow : Nat → Int64) (v_x_search_bandWorth_bandHigh : Nat → Int64) (v_x_search_bandWorth_wayWeights : Nat → Int32) (v_x_search_stopWorth_cycle : Int32) (v_x_search_stopWorth_stepSeconds : Int32) (v_x_search_stopWorth_stopsApart : Nat → Int32) (v_x_search_stopWorth_stopsTo : Nat → Int64) (v_x_search_stopWorth_offsets : Nat → Int32) (v_x_search_row : Nat → Int32) (v_x_search_rowsBehind : Nat → Int64) (v_y_row : Nat → Int32) (v_y_open : Nat → Int32) (h : Inv v_x_road_size v_x_road_firstCycle v_x_road_lastCycle v_x_road_cycleBy v_x_road_stepSeconds v_x_road_greens v_x_road_leasts v_x_road_queues v_x_road_seconds v_x_road_weights v_x_atHand_cycle v_x_atHand_size v_x_atHand_aim v_x_atHand_sawAll v_x_atHand_offsets v_x_arrivals_size v_x_arrivals_crossings v_x_arrivals_seconds v_x_arrivals_cars T v_y_crossings v_y_first v_y_last v_y_by v_y_step v_y_has v_y_cycle v_y_aim v_y_proved v_y_arrivals v_y_greens v_y_leasts v_y_queues v_y_seconds v_y_weights v_y_offsets v_y_places v_y_times v_y_cars v_y_hourCrossings v_y_hourCycles v_y_hourOffsets) : ∃ (ox : Int64) (om : Int64), p_WO_day n v_x_road_size T = some ox ∧ p_Mo_day n v_y_hourCrossings v_y_crossings v_y_hourCycles v_y_hourOffsets = some om ∧ ox = om ∧ Inv v_x_road_size v_x_road_firstCycle v_x_road_lastCycle v_x_road_cycleBy v_x_road_stepSeconds v_x_road_greens v_x_road_leasts v_x_road_queues v_x_road_seconds v_x_road_weights v_x_atHand_cycle v_x_atHand_size v_x_atHand_aim v_x_atHand_sawAll v_x_atHand_offsets v_x_arrivals_size v_x_arrivals_crossings v_x_arrivals_seconds v_x_arrivals_cars T v_y_crossings v_y_first v_y_last v_y_by v_y_step v_y_has v_y_cycle v_y_aim v_y_proved v_y_arrivals v_y_greens v_y_leasts v_y_queues v_y_seconds v_y_weights v_y_offsets v_y_places v_y_times v_y_cars v_y_hourCrossings v_y_hourCycles v_y_hourOffsets := by
  have h0 := h
  obtain ⟨N, c1, c2, cb, cs, g, l, q, fs, fw, bs, bw, hO, ⟨rfl, rfl, rfl, rfl, rfl, x6, x7⟩, ⟨rfl, rfl, rfl, rfl, rfl, m6, m7⟩, hP, hA, hH⟩ := h
  obtain ⟨hN, o2, o3, o4, o5, o6, o7, o8, o9, o10, o11, o12, o13⟩ := hO
  unfold p_WO_day p_Tt_dayCost p_Mo_day
  rw [b_size, Option.bind_some, b_planned n (by omega), b_hours n (by omega), Option.bind_some, Option.bind_some, ← hr_hc hH hN]
  have hle := hc_le (fun h => (T h).isSome) 24 0
  by_cases h2 : 2 ≤ hc (fun h => (T h).isSome) 0 24
  · rw [if_pos (show (2 : Int32) ≤ nI _ from nI_le (a := 2) h2 (by omega)), if_pos (show (2 : Int32) ≤ nI _ from nI_le (a := 2) h2 (by omega))]
    have hex : ∃ C : Nat → Nat → Int64, ∀ a b, p_Tt_changeCost n (nI a) (nI b) (nI N) T = some (C a b) ∧ p_Mo_change n (nI a) (nI b) (nI N) v_y_hourCrossings v_y_hourCycles v_y_hourOffsets = some (C a b) :=
      ⟨fun a b => (b_change n (by omega) hN hH (nI a) (nI b)).choose, fun a b => (b_change n (by omega) hN hH (nI a) (nI b)).choose_spec⟩
    obtain ⟨C, hC⟩ := hex
    have hp : ∀ j, j < 24 → (v_y_hourCrossings j = 0 ↔ (fun h => (T h).isSome) j = false) := by
      intro j hj
      rcases hH j hj with ⟨e1, e2⟩ | ⟨cy, m, of1, of, e1, y1, y2, y3, y4, e2, -⟩
      · simp [e1, e2]
      · have : ¬ nI m = 0 := nI_ne0 (by omega) (by omega)
        simp [e1, e2, this]
    obtain ⟨f, -, hf, hpf, hff⟩ := hc_first 24 0 (show 1 ≤ hc (fun h => (T h).isSome) 0 24 by omega)
    have hff' : ∀ i, i < f → (fun h => (T h).isSome) i = false := fun i hi => hff i (by omega) hi
    obtain ⟨r, e1, -, e3⟩ := b_last4 n T 24 0 n (-1) (by omega) (by omega)
    have e3' := e3 (by omega) f
    have hsk : ∀ b, prs (fun h => (T h).isSome) b 0 24 = (b, f) :: prs (fun h => (T h).isSome) f (f + 1) (23 - f) := by
      intro b
      have := (prs_skip (p := fun h => (T h).isSome) f b 0 (24 - f) (fun i hi => by rw [Nat.zero_add]; exact hff' i hi)).1
      rw [show f + (24 - f) = 24 by omega, Nat.zero_add] at this
      rw [this, show 24 - f = (23 - f) + 1 by omega]
      show (if (fun h => (T h).isSome) f = true then _ else _) = _
      rw [if_pos hpf]
    have hms : mprs (fun h => (T h).isSome) 0 24 = (f, fnx (fun h => (T h).isSome) 24 ((f + 1) % 24)) :: mprs (fun h => (T h).isSome) (f + 1) (23 - f) := by
      have := (prs_skip (p := fun h => (T h).isSome) f 0 0 (24 - f) (fun i hi => by rw [Nat.zero_add]; exact hff' i hi)).2.1
      rw [show f + (24 - f) = 24 by omega, Nat.zero_add] at this
      rw [this, show 24 - f = (23 - f) + 1 by omega]
      show (if (fun h => (T h).isSome) f = true then _ else _) = _
      rw [if_pos hpf]
    have hls : lst (fun h => (T h).isSome) f 0 24 = lst (fun h => (T h).isSome) f (f + 1) (23 - f) := by
      have := (prs_skip (p := fun h => (T h).isSome) f f 0 (24 - f) (fun i hi => by rw [Nat.zero_add]; exact hff' i hi)).2.2
      rw [show f + (24 - f) = 24 by omega, Nat.zero_add] at this
      rw [this, show 24 - f = (23 - f) + 1 by omega]
      show (if (fun h => (T h).isSome) f = true then _ else _) = _
      rw [if_pos hpf]
    have hrot := prs_round hpf hff' (23 - f) f (f + 1) (by omega) (by omega) (by omega) (fun i a b => by omega)
    rw [hls] at e3'
    have eX := b_day21 n T N C (fun a b => (hC a b).1) 24 0 n (lst (fun h => (T h).isSome) f (f + 1) (23 - f)) 0 (by omega) (by omega)
    have eM := b_day14 n (by omega) v_y_hourCrossings v_y_hourCycles v_y_hourOffsets (fun h => (T h).isSome) hp nx_planned N C (fun a b => (hC a b).2) 24 0 n 0 (by omega) (by omega)
    rw [hms, hrot, res_rot] at eM
    rw [hsk] at eX
    unfold p_Tt_lastPlanned
    have e1' : p_Tt_lastPlanned_4 n n T (-1) (0 : Int32) = some r := e1
    have eX' : p_Tt_dayCost_21 n n T (nI N) 0 (nI (lst (fun h => (T h).isSome) f (f + 1) (23 - f))) (0 : Int32) = _ := eX
    have eM' : p_Mo_day_14 n n v_y_hourCrossings (nI N) v_y_hourCycles v_y_hourOffsets 0 (0 : Int32) = _ := eM
    rw [e1', e3', eM']
    simp only [Option.bind_some]
    rw [eX']
    exact ⟨_, _, rfl, rfl, rfl, h0⟩
  · rw [if_neg (show ¬ (2 : Int32) ≤ nI _ from nI_ge (b := 2) (by omega) (by omega)), if_neg (show ¬ (2 : Int32) ≤ nI _ from nI_ge (b := 2) (by omega) (by omega))]
    exact ⟨_, _, rfl, rfl, rfl, h0⟩
