theorem op_run (n : Nat) (hn : 1000000 ≤ n) (v_x_road_size : Int32) (v_x_road_firstCycle : Int32) (v_x_road_lastCycle : Int32) (v_x_road_cycleBy : Int32) (v_x_road_stepSeconds : Int32) (v_x_road_greens : Nat → Int32) (v_x_road_leasts : Nat → Int32) (v_x_road_queues : Nat → Int32) (v_x_road_seconds : Nat → Int32) (v_x_road_weights : Nat → Int32) (v_x_atHand_cycle : Int32) (v_x_atHand_size : Int32) (v_x_atHand_aim : Int32) (v_x_atHand_sawAll : Int32) (v_x_atHand_offsets : Nat → Int32) (v_x_arrivals_size : Int32) (v_x_arrivals_crossings : Nat → Int32) (v_x_arrivals_seconds : Nat → Int32) (v_x_arrivals_cars : Nat → Int32) (T : Nat → Option (Int32 × Int32 × (Nat → Int32))) (v_y_crossings : Int32) (v_y_first : Int32) (v_y_last : Int32) (v_y_by : Int32) (v_y_step : Int32) (v_y_has : Int32) (v_y_cycle : Int32) (v_y_aim : Int32) (v_y_proved : Int32) (v_y_arrivals : Int32) (v_y_greens : Nat → Int32) (v_y_leasts : Nat → Int32) (v_y_queues : Nat → Int32) (v_y_seconds : Nat → Int32) (v_y_weights : Nat → Int32) (v_y_offsets : Nat → Int32) (v_y_places : Nat → Int32) (v_y_times : Nat → Int32) (v_y_cars : Nat → Int32) (v_y_hourCrossings : Nat → Int32) (v_y_hourCycles : Nat → Int32) (v_y_hourOffsets : Nat → Int32) (v_x_search_size : Int32) (v_x_search_cycle : Int32) (v_x_search_choices : Int32) (v_x_search_stepSeconds : Int32) (v_x_search_rowsLeft : Int64) (v_x_search_bestScore : Int64) (v_x_search_bandWorth_openLow : Nat → Int64) (v_x_search_bandWorth_openHigh : Nat → Int64) (v_x_search_bandWorth_bandLow : Nat → Int64) (v_x_search_bandWorth_bandHigh : Nat → Int64) (v_x_search_bandWorth_wayWeights : Nat → Int32) (v_x_search_stopWorth_cycle : Int32) (v_x_search_stopWorth_stepSeconds : Int32) (v_x_search_stopWorth_stopsApart : Nat → Int32) (v_x_search_stopWorth_stopsTo : Nat → Int64) (v_x_search_stopWorth_offsets : Nat → Int32) (v_x_search_row : Nat → Int32) (v_x_search_rowsBehind : Nat → Int64) (v_y_row : Nat → Int32) (v_y_open : Nat → Int32) (h : Inv v_x_road_size v_x_road_firstCycle v_x_road_lastCycle v_x_road_cycleBy v_x_road_stepSeconds v_x_road_greens v_x_road_leasts v_x_road_queues v_x_road_seconds v_x_road_weights v_x_atHand_cycle v_x_atHand_size v_x_atHand_aim v_x_atHand_sawAll v_x_atHand_offsets v_x_arrivals_size v_x_arrivals_crossings v_x_arrivals_seconds v_x_arrivals_cars T v_y_crossings v_y_first v_y_last v_y_by v_y_step v_y_has v_y_cycle v_y_aim v_y_proved v_y_arrivals v_y_greens v_y_leasts v_y_queues v_y_seconds v_y_weights v_y_offsets v_y_places v_y_times v_y_cars v_y_hourCrossings v_y_hourCycles v_y_hourOffsets) (a0 : Int32) (a1 : Int64) : ∃ (ox : Int32 × Int32 × Int32 × Int32 × Int32 × Int64 × Int64 × (Nat → Int64) × (Nat → Int64) × (Nat → Int64) × (Nat → Int64) × (Nat → Int32) × Int32 × Int32 × (Nat → Int32) × (Nat → Int64) × (Nat → Int32) × (Nat → Int32) × (Nat → Int64) × Int32 × Int32 × Int32 × Int32 × (Nat → Int32)) (om : Int32 × Int32 × Int32 × Int32 × Int32 × (Nat → Int32) × (Nat → Int32) × (Nat → Int32)), p_WO_run n a0 a1 v_x_road_size v_x_road_firstCycle v_x_road_lastCycle v_x_road_cycleBy v_x_road_leasts v_x_road_stepSeconds v_x_road_queues v_x_road_seconds v_x_road_greens v_x_road_weights v_x_search_size v_x_search_cycle v_x_search_choices v_x_search_stepSeconds v_x_search_rowsLeft v_x_search_bestScore v_x_search_bandWorth_openLow v_x_search_bandWorth_openHigh v_x_search_bandWorth_bandLow v_x_search_bandWorth_bandHigh v_x_search_bandWorth_wayWeights v_x_search_stopWorth_cycle v_x_search_stopWorth_stepSeconds v_x_search_stopWorth_stopsApart v_x_search_stopWorth_stopsTo v_x_search_stopWorth_offsets v_x_search_row v_x_search_rowsBehind v_x_atHand_cycle v_x_atHand_size v_x_atHand_aim v_x_atHand_sawAll v_x_atHand_offsets = some ox ∧ p_Mo_run n a0 a1 v_y_crossings v_y_first v_y_last v_y_leasts v_y_by v_y_step v_y_greens v_y_queues v_y_seconds v_y_weights v_y_has v_y_cycle v_y_aim v_y_proved v_y_offsets v_y_row v_y_open = some om ∧ ox.1 = om.1 ∧ Inv v_x_road_size v_x_road_firstCycle v_x_road_lastCycle v_x_road_cycleBy v_x_road_stepSeconds v_x_road_greens v_x_road_leasts v_x_road_queues v_x_road_seconds v_x_road_weights ox.2.2.2.2.2.2.2.2.2.2.2.2.2.2.2.2.2.2.2.1 ox.2.2.2.2.2.2.2.2.2.2.2.2.2.2.2.2.2.2.2.2.1 ox.2.2.2.2.2.2.2.2.2.2.2.2.2.2.2.2.2.2.2.2.2.1 ox.2.2.2.2.2.2.2.2.2.2.2.2.2.2.2.2.2.2.2.2.2.2.1 ox.2.2.2.2.2.2.2.2.2.2.2.2.2.2.2.2.2.2.2.2.2.2.2 v_x_arrivals_size v_x_arrivals_crossings v_x_arrivals_seconds v_x_arrivals_cars T v_y_crossings v_y_first v_y_last v_y_by v_y_step om.2.1 om.2.2.1 om.2.2.2.1 om.2.2.2.2.1 v_y_arrivals v_y_greens v_y_leasts v_y_queues v_y_seconds v_y_weights om.2.2.2.2.2.1 v_y_places v_y_times v_y_cars v_y_hourCrossings v_y_hourCycles v_y_hourOffsets := by
  have h0 := h
  obtain ⟨N, c1, c2, cb, cs, g, l, q, fs, fw, bs, bw, hO, ⟨rfl, rfl, rfl, rfl, rfl, x6, x7⟩, ⟨rfl, rfl, rfl, rfl, rfl, m6, m7⟩, hP, hA, hH⟩ := h
  have hO' := hO
  obtain ⟨hN, o2, o3, o4, o5, o6, o7, o8, o9, o10, o11, o12, o13⟩ := hO'
  unfold p_WO_run p_Mo_run
  simp only [b_within, b_isIn, b_size, Option.bind_some, b_one]
  by_cases hp0 : (0 : Int64) ≤ a0.toInt64 ∧ a0.toInt64 ≤ (1 : Int64)
  · rw [if_neg (show ¬ ¬ ((0 : Int64) ≤ a0.toInt64 ∧ a0.toInt64 ≤ (1 : Int64)) from fun z => z hp0), if_neg (show ¬ ¬ ((0 : Int64) ≤ a0.toInt64 ∧ a0.toInt64 ≤ (1 : Int64)) from fun z => z hp0)]
    by_cases hp1 : (1 : Int64) ≤ a1 ∧ a1 ≤ (200000 : Int64)
    · rw [if_neg (show ¬ ¬ ((1 : Int64) ≤ a1 ∧ a1 ≤ (200000 : Int64)) from fun z => z hp1), if_neg (show ¬ ¬ ((1 : Int64) ≤ a1 ∧ a1 ≤ (200000 : Int64)) from fun z => z hp1)]
      by_cases hN2 : 2 ≤ N
      · rw [if_neg (show ¬ nI N < (2 : Int32) from nI_nlt (b := 2) hN2 (by omega)), if_neg (show ¬ nI N < (2 : Int32) from nI_nlt (b := 2) hN2 (by omega))]
        have hl : ∀ k, k < N → l k ≤ 120 ∧ v_x_road_leasts k = nI (l k) := fun k hk => ⟨(o2 k hk).2.2.2.2.1, (x6 k hk).2⟩
        have hl2 : ∀ k, k < N → l k ≤ 120 ∧ v_y_leasts k = nI (l k) := fun k hk => ⟨(o2 k hk).2.2.2.2.1, (m6 k hk).2.1⟩
        have eR := b_allRows n (by omega) (show c1 ≤ 120 by omega) o9 o10 o11 o12 o13 hN l v_x_road_leasts hl
        have eM := b_moAllRows n (by omega) o7 (show c1 ≤ 120 by omega) o9 o10 o11 o12 o13 hN l v_y_leasts hl2
        rw [if_neg (show ¬ N = 0 by omega)] at eR eM
        rw [b_short n (by omega) (show c1 ≤ 120 by omega) o9 o10 o11 hN l v_x_road_leasts hl, Option.bind_some, eM, Option.bind_some]
        have hcs := cS_le (c1 := c1) (c2 := c2) (cb := cb) (l := l) o12 hN 111 10 (by omega) (by omega)
        rcases sc_ex (P := fun c => pg c1 c2 cb c && ac l c 0 N) 111 10 (by omega) with ⟨s1, s2⟩ | ⟨s1, s2, s3⟩
        · rw [s1, if_pos (show nI 0 = 0 from rfl), cS_none 111 10 s2, if_pos ((lg_cmp_eq _ _).mpr (show lN 0 = 0 from rfl))]
          exact ⟨_, _, rfl, rfl, rfl, h0⟩
        · have hpos := cS_pos (c1 := c1) (c2 := c2) (cb := cb) (N := N) (l := l) o12 111 10 (by omega) s3
          have hr0 : ¬ lg_cmp (lN (cS c1 c2 cb cs N l 10 111)) (0 : Int64) = 0 := by
            rw [lg_cmp_eq, show (0 : Int64) = lN 0 from rfl, pk_lEQ (by omega) (by omega)]; omega
          rw [if_neg (show ¬ nI (sc (fun c => pg c1 c2 cb c && ac l c 0 N) 10 111) = 0 from nI_ne0 s1 (by omega)), if_neg hr0]
          obtain ⟨nodes, hn1, hn2, rfl⟩ : ∃ nodes, 1 ≤ nodes ∧ nodes ≤ 200000 ∧ a1 = lN nodes := by
            obtain ⟨k, hk, rfl⟩ := pk_lOf (x := a1) (by rw [Int64.lt_iff_toInt_lt]; rw [Int64.le_iff_toInt_le, show (1 : Int64).toInt = 1 by decide] at hp1; rw [show (0 : Int64).toInt = 0 by decide]; omega)
            rw [Int64.le_iff_toInt_le, Int64.le_iff_toInt_le, show (1 : Int64).toInt = 1 by decide, show (200000 : Int64).toInt = 200000 by decide, pk_lT hk] at hp1
            exact ⟨k, by omega, by omega, rfl⟩
          obtain ⟨w1, w2, w3, w4⟩ := b_weights n (by omega) hN2 hN fw bw (o5 (N - 1) (by omega) (by omega)).2 (o6 0 (by omega) (Or.inl rfl)).2 v_x_road_weights v_y_weights (fun k hk => ⟨(x7 k hk).2.2.1, (x7 k hk).2.2.2.2⟩) (fun k hk => ⟨(m7 k hk).2.1, (m7 k hk).2.2.2⟩)
          have hg : ∀ k, k < N → q k < g k ∧ g k < l k ∧ l k ≤ 120 := fun k hk => by have := o2 k hk; omega
          have hf : ∀ i, i < 5 → fs i ≤ 200 ∧ bs i ≤ 200 ∧ fw i ≤ 100 ∧ bw i ≤ 100 := fun i hi => by have := o4 i hi; omega
          have tl : (lN nodes).toInt = (nodes : Int) := pk_lT (by omega)
          have elow : ∀ aim, ft (fun c => pg c1 c2 cb c && ac l c 0 N) (fun c => chs cs c ^ (N - 1)) (Sr aim N cs g q fs fw bs bw) (fun c => rof N (chs cs c) cs) 111 10 nodes (0, 0, fun _ => 0) = ft (fun c => pg c1 c2 cb c && ac l c 0 N) (fun c => chs cs c ^ (N - 1)) (Sr aim N cs g q fs fw bs bw) (fun c => rof N (chs cs c) cs) (121 - c1) c1 nodes (0, 0, fun _ => 0) := by
            intro aim
            rw [ft_skip (c1 - 10) 10 111 (fun i h3 _ => by
              show (pg c1 c2 cb (10 + i) && _) = false
              unfold pg
              rw [decide_eq_false (show ¬ c1 ≤ 10 + i by omega)]; rfl), show 10 + (c1 - 10) = c1 by omega, show 111 - (c1 - 10) = 121 - c1 by omega]
          have hMo : ∀ aim, aim < 2 → ∃ z6' z8' offs' row' op', p_Mo_run_55 n n (nI N) (nI c2) v_y_leasts (nI cb) (nI cs) v_y_greens v_y_queues v_y_seconds v_y_weights (nI aim) (lN nodes) (0 : Int64) (0 : Int64) (0 : Int32) (nI c1) v_y_offsets v_y_row v_y_open = some (lN (min nodes (cS c1 c2 cb cs N l 10 111)), z8', offs', row', op') ∧ mrel aim N (ft (fun c => pg c1 c2 cb c && ac l c 0 N) (fun c => chs cs c ^ (N - 1)) (Sr aim N cs g q fs fw bs bw) (fun c => rof N (chs cs c) cs) 111 10 nodes (0, 0, fun _ => 0)) z6' z8' offs' := by
            intro aim haim
            have := b_run55 n hn haim (show 1 ≤ N by omega) hN o7 o8 o9 o10 o11 o12 o13 hn2 g q l fs fw bs bw hg hf v_y_leasts v_y_greens v_y_queues v_y_seconds v_y_weights (fun k hk => ⟨(m6 k hk).1, (m6 k hk).2.2, (m6 k hk).2.1⟩) (fun k hk => ⟨(m7 k hk).1, (m7 k hk).2.2.1, (m7 k hk).2.1, (m7 k hk).2.2.2⟩) w3 w4 n c1 0 (0, 0, fun _ => 0) (0 : Int64) (0 : Int32) v_y_offsets v_y_row v_y_open (Nat.le_refl _) (by rw [Nat.sub_self, Nat.zero_mod]) (by omega) (by omega) (by omega) ⟨rfl, by show 0 ≤ 120; omega, fun z => absurd rfl z⟩
            rw [Nat.zero_add, Nat.sub_zero, ← cS_low o7 (by omega), ← elow] at this
            exact this
          have hsaw : (lg_cmp (lN (min nodes (cS c1 c2 cb cs N l 10 111))) (lN (cS c1 c2 cb cs N l 10 111)) = 0) ↔ ¬ (0 < lg_cmp (lN (cS c1 c2 cb cs N l 10 111)) (lN nodes)) := by
            rw [lg_cmp_eq, lg_cmp_gt, pk_lEQ (by omega) (by omega), pk_lLT (by omega) (by omega)]; omega
          have hne : ∀ aim, (ft (fun c => pg c1 c2 cb c && ac l c 0 N) (fun c => chs cs c ^ (N - 1)) (Sr aim N cs g q fs fw bs bw) (fun c => rof N (chs cs c) cs) 111 10 nodes (0, 0, fun _ => 0)).1 ≠ 0 := by
            intro aim
            refine ft_some 111 10 nodes _ (by omega) (by omega) (fun x hx => ?_) s3
            have hx' : (pg c1 c2 cb x && ac l x 0 N) = true := hx
            unfold pg at hx'
            simp only [Bool.and_eq_true, decide_eq_true_iff] at hx'
            exact Nat.pow_pos (chs_pos o12 (by omega))
          rcases b_part hp0 with rfl | rfl
          · obtain ⟨z6', z8', offs', row', op', em, rm⟩ := hMo 0 (by omega)
            rw [show nI 0 = (0 : Int32) from rfl] at em
            obtain ⟨t1', t2', t3', t4', left', bsc', s1', s2', s3', s4', s5', rowx, rBx, uc', us', uo', ex, rx⟩ := b_find_band n (by omega) (show 1 ≤ N by omega) hN (show c1 ≤ 120 by omega) o9 o10 o11 o12 o13 g q l fs fw bs bw hg hf v_x_road_leasts v_x_road_greens v_x_road_queues v_x_road_seconds v_x_road_weights (fun k hk => ⟨(x7 k (by omega)).1, (x6 k hk).1, (x6 k hk).2⟩) (fun i hi => ⟨(x7 i hi).2.1, (x7 i hi).2.2.2.1, (x7 i hi).2.2.1, (x7 i hi).2.2.2.2⟩) w1 w2 111 10 n v_x_search_size v_x_search_cycle v_x_search_choices v_x_search_stepSeconds (lN nodes) v_x_search_bestScore v_x_search_bandWorth_openLow v_x_search_bandWorth_openHigh v_x_search_bandWorth_bandLow v_x_search_bandWorth_bandHigh v_x_search_bandWorth_wayWeights v_x_search_row v_x_search_rowsBehind (0 : Int32) v_x_atHand_size v_x_atHand_offsets (0, 0, fun _ => 0) (by omega) (by omega) (by omega) (by omega) (by omega) ⟨rfl, by show 0 ≤ 120; omega, fun z => absurd rfl z⟩
            rw [show nI 10 = (10 : Int32) from rfl] at ex
            rw [show (lN nodes).toInt.toNat = nodes by omega] at rx
            unfold p_Srch_findBest
            rw [if_pos (show (0 : Int32) = 0 from rfl), b_clear, Option.bind_some, eR, Option.bind_some, em, ex]
            simp only [Option.bind_some]
            by_cases hs : 0 < lg_cmp (lN (cS c1 c2 cb cs N l 10 111)) (lN nodes)
            · rw [if_pos hs, if_neg (fun z => hsaw.mp z hs)]
              obtain ⟨q1, q2⟩ := b_runEnd (aim := 0) (l := l) (a0 := 0) (saw := 0) hN2 rx rm (hne 0) (ft_ok o12 (by omega) (by omega)) (Or.inl rfl) (Or.inl rfl)
              exact ⟨_, _, rfl, rfl, q1, N, c1, c2, cb, cs, g, l, q, fs, fw, bs, bw, hO, ⟨rfl, rfl, rfl, rfl, rfl, x6, x7⟩, ⟨rfl, rfl, rfl, rfl, rfl, m6, m7⟩, q2, hA, hH⟩
            · rw [if_neg hs, if_pos (hsaw.mpr hs)]
              obtain ⟨q1, q2⟩ := b_runEnd (aim := 0) (l := l) (a0 := 0) (saw := 1) hN2 rx rm (hne 0) (ft_ok o12 (by omega) (by omega)) (Or.inl rfl) (Or.inr rfl)
              exact ⟨_, _, rfl, rfl, q1, N, c1, c2, cb, cs, g, l, q, fs, fw, bs, bw, hO, ⟨rfl, rfl, rfl, rfl, rfl, x6, x7⟩, ⟨rfl, rfl, rfl, rfl, rfl, m6, m7⟩, q2, hA, hH⟩
          · obtain ⟨z6', z8', offs', row', op', em, rm⟩ := hMo 1 (by omega)
            rw [show nI 1 = (1 : Int32) from rfl] at em
            obtain ⟨t1', t2', t3', t4', left', bsc', s1', s2', s3', s4', s5', rowx, rBx, uc', us', uo', ex, rx⟩ := b_find_stop n (by omega) (show 1 ≤ N by omega) hN (show c1 ≤ 120 by omega) o9 o10 o11 o12 o13 g q l fs fw bs bw hg hf v_x_road_leasts v_x_road_greens v_x_road_queues v_x_road_seconds v_x_road_weights (fun k hk => ⟨(x7 k (by omega)).1, (x6 k hk).1, (x6 k hk).2⟩) (fun i hi => ⟨(x7 i hi).2.1, (x7 i hi).2.2.2.1, (x7 i hi).2.2.1, (x7 i hi).2.2.2.2⟩) w1 w2 111 10 n v_x_search_size v_x_search_cycle v_x_search_choices v_x_search_stepSeconds (lN nodes) v_x_search_bestScore v_x_search_stopWorth_cycle v_x_search_stopWorth_stepSeconds v_x_search_stopWorth_stopsApart v_x_search_stopWorth_stopsTo v_x_search_stopWorth_offsets v_x_search_row v_x_search_rowsBehind (0 : Int32) v_x_atHand_size v_x_atHand_offsets (0, 0, fun _ => 0) (by omega) (by omega) (by omega) (by omega) (by omega) ⟨rfl, by show 0 ≤ 120; omega, fun z => absurd rfl z⟩
            rw [show nI 10 = (10 : Int32) from rfl] at ex
            rw [show (lN nodes).toInt.toNat = nodes by omega] at rx
            unfold p_Srch_findBest
            rw [if_neg (show ¬ (1 : Int32) = 0 by decide), b_clear, Option.bind_some, eR, Option.bind_some, em, ex]
            simp only [Option.bind_some]
            by_cases hs : 0 < lg_cmp (lN (cS c1 c2 cb cs N l 10 111)) (lN nodes)
            · rw [if_pos hs, if_neg (fun z => hsaw.mp z hs)]
              obtain ⟨q1, q2⟩ := b_runEnd (aim := 1) (l := l) (a0 := 1) (saw := 0) hN2 rx rm (hne 1) (ft_ok o12 (by omega) (by omega)) (Or.inr rfl) (Or.inl rfl)
              exact ⟨_, _, rfl, rfl, q1, N, c1, c2, cb, cs, g, l, q, fs, fw, bs, bw, hO, ⟨rfl, rfl, rfl, rfl, rfl, x6, x7⟩, ⟨rfl, rfl, rfl, rfl, rfl, m6, m7⟩, q2, hA, hH⟩
            · rw [if_neg hs, if_pos (hsaw.mpr hs)]
              obtain ⟨q1, q2⟩ := b_runEnd (aim := 1) (l := l) (a0 := 1) (saw := 1) hN2 rx rm (hne 1) (ft_ok o12 (by omega) (by omega)) (Or.inr rfl) (Or.inr rfl)
              exact ⟨_, _, rfl, rfl, q1, N, c1, c2, cb, cs, g, l, q, fs, fw, bs, bw, hO, ⟨rfl, rfl, rfl, rfl, rfl, x6, x7⟩, ⟨rfl, rfl, rfl, rfl, rfl, m6, m7⟩, q2, hA, hH⟩
      · rw [if_pos (show nI N < (2 : Int32) from nI_lt (b := 2) (by omega) (by omega)), if_pos (show nI N < (2 : Int32) from nI_lt (b := 2) (by omega) (by omega))]
        exact ⟨_, _, rfl, rfl, rfl, h0⟩
    · rw [if_pos hp1, if_pos hp1]
      exact ⟨_, _, rfl, rfl, rfl, h0⟩
  · rw [if_pos hp0, if_pos hp0]
    exact ⟨_, _, rfl, rfl, rfl, h0⟩
