/-! THE RELATION between the class's contents and the reference's. N crossings; g, l, q: greens, leasts, queues; fs, fw: seconds and weights forward from k; bs, bw: backward from k; c1, c2, cb: the cycles; cs: the step. -/
def rdOk (N c1 c2 cb cs : Nat) (g l q fs fw bs bw : Nat → Nat) : Prop :=
  N ≤ 5 ∧ (∀ k, k < N → 5 ≤ g k ∧ g k ≤ 90 ∧ q k < g k ∧ 10 ≤ l k ∧ l k ≤ 120 ∧ g k < l k) ∧ (∀ k, k < 5 → N ≤ k → q k = 0) ∧
  (∀ k, k < 5 → 1 ≤ fs k ∧ fs k ≤ 200 ∧ fw k ≤ 100 ∧ 1 ≤ bs k ∧ bs k ≤ 200 ∧ bw k ≤ 100) ∧ (∀ k, k < 5 → N ≤ k + 1 → fs k = 1 ∧ fw k = 0) ∧ (∀ k, k < 5 → (k = 0 ∨ N ≤ k) → bs k = 1 ∧ bw k = 0) ∧
  10 ≤ c1 ∧ c1 ≤ c2 ∧ c2 ≤ 120 ∧ 1 ≤ cb ∧ cb ≤ 110 ∧ 1 ≤ cs ∧ cs ≤ 60
def rdX (N c1 c2 cb cs : Nat) (g l q fs fw bs bw : Nat → Nat) (size cfirst clast cby cstep : Int32) (greens leasts queues seconds weights : Nat → Int32) : Prop :=
  size = nI N ∧ cfirst = nI c1 ∧ clast = nI c2 ∧ cby = nI cb ∧ cstep = nI cs ∧ (∀ k, k < N → greens k = nI (g k) ∧ leasts k = nI (l k)) ∧
  ∀ k, k < 5 → queues k = nI (q k) ∧ seconds k = nI (fs k) ∧ weights k = nI (fw k) ∧ seconds (5 + k) = nI (bs k) ∧ weights (5 + k) = nI (bw k)
def rdM (N c1 c2 cb cs : Nat) (g l q fs fw bs bw : Nat → Nat) (crossings cfirst clast cby cstep : Int32) (greens leasts queues seconds weights : Nat → Int32) : Prop :=
  crossings = nI N ∧ cfirst = nI c1 ∧ clast = nI c2 ∧ cby = nI cb ∧ cstep = nI cs ∧ (∀ k, k < N → greens k = nI (g k) ∧ leasts k = nI (l k) ∧ queues k = nI (q k)) ∧
  ∀ k, k + 1 < N → seconds (2 * k) = nI (fs k) ∧ weights (2 * k) = nI (fw k) ∧ seconds (2 * k + 1) = nI (bs (k + 1)) ∧ weights (2 * k + 1) = nI (bw (k + 1))
def plR (N : Nat) (l : Nat → Nat) (cycle size aim saw : Int32) (offs : Nat → Int32) (has mcycle maim mproved : Int32) (moffs : Nat → Int32) : Prop :=
  (cycle = 0 ∧ has = 0) ∨ ∃ (c : Nat) (off : Nat → Nat), 2 ≤ N ∧ cycle = nI c ∧ 10 ≤ c ∧ c ≤ 120 ∧ (∀ k, k < N → l k ≤ c) ∧ size = nI N ∧ has = 1 ∧ mcycle = nI c ∧ aim = maim ∧ (aim = 0 ∨ aim = 1) ∧ saw = mproved ∧ (saw = 0 ∨ saw = 1) ∧
    ∀ k, k < N → off k < c ∧ offs k = nI (off k) ∧ moffs k = nI (off k)
def arR (N : Nat) (asize : Int32) (across asec acars : Nat → Int32) (arrivals : Int32) (places times cars : Nat → Int32) : Prop :=
  ∃ (A : Nat) (pl tm cr : Nat → Nat), A ≤ 40 ∧ asize = nI A ∧ arrivals = nI A ∧ ∀ i, i < A → pl i < N ∧ tm i ≤ 10000 ∧ 1 ≤ cr i ∧ cr i ≤ 1000 ∧ across i = nI (pl i) ∧ places i = nI (pl i) ∧ asec i = nI (tm i) ∧ times i = nI (tm i) ∧ acars i = nI (cr i) ∧ cars i = nI (cr i)
def hrR (N : Nat) (T : Nat → Option (Int32 × Int32 × (Nat → Int32))) (hcr hcy hof : Nat → Int32) : Prop :=
  ∀ h, h < 24 → (T h = none ∧ hcr h = 0) ∨ ∃ (cy m : Nat) (of1 : Nat → Int32) (of : Nat → Nat), T h = some (nI cy, nI m, of1) ∧ 2 ≤ m ∧ m ≤ N ∧ 10 ≤ cy ∧ cy ≤ 120 ∧ hcr h = nI m ∧ hcy h = nI cy ∧ ∀ k, k < m → of k < cy ∧ of1 k = nI (of k) ∧ hof (5 * h + k) = nI (of k)
def Inv (v_x_road_size v_x_road_firstCycle v_x_road_lastCycle v_x_road_cycleBy v_x_road_stepSeconds : Int32) (v_x_road_greens v_x_road_leasts v_x_road_queues v_x_road_seconds v_x_road_weights : Nat → Int32) (v_x_atHand_cycle v_x_atHand_size v_x_atHand_aim v_x_atHand_sawAll : Int32) (v_x_atHand_offsets : Nat → Int32) (v_x_arrivals_size : Int32) (v_x_arrivals_crossings v_x_arrivals_seconds v_x_arrivals_cars : Nat → Int32) (T : Nat → Option (Int32 × Int32 × (Nat → Int32))) (v_y_crossings v_y_first v_y_last v_y_by v_y_step v_y_has v_y_cycle v_y_aim v_y_proved v_y_arrivals : Int32) (v_y_greens v_y_leasts v_y_queues v_y_seconds v_y_weights v_y_offsets v_y_places v_y_times v_y_cars v_y_hourCrossings v_y_hourCycles v_y_hourOffsets : Nat → Int32) : Prop :=
  ∃ (N c1 c2 cb cs : Nat) (g l q fs fw bs bw : Nat → Nat), rdOk N c1 c2 cb cs g l q fs fw bs bw ∧
    rdX N c1 c2 cb cs g l q fs fw bs bw v_x_road_size v_x_road_firstCycle v_x_road_lastCycle v_x_road_cycleBy v_x_road_stepSeconds v_x_road_greens v_x_road_leasts v_x_road_queues v_x_road_seconds v_x_road_weights ∧
    rdM N c1 c2 cb cs g l q fs fw bs bw v_y_crossings v_y_first v_y_last v_y_by v_y_step v_y_greens v_y_leasts v_y_queues v_y_seconds v_y_weights ∧
    plR N l v_x_atHand_cycle v_x_atHand_size v_x_atHand_aim v_x_atHand_sawAll v_x_atHand_offsets v_y_has v_y_cycle v_y_aim v_y_proved v_y_offsets ∧
    arR N v_x_arrivals_size v_x_arrivals_crossings v_x_arrivals_seconds v_x_arrivals_cars v_y_arrivals v_y_places v_y_times v_y_cars ∧
    hrR N T v_y_hourCrossings v_y_hourCycles v_y_hourOffsets
