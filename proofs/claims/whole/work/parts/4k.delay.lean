/-! how long cars wait: the class in closed form, the reference second by second -/
def wt (L c s : Nat) : Nat := if s < L then 0 else c - s
theorem wt_open {L c tm a w : Nat} (hL0 : 0 < L) (hL : L < c) (hw : w ≤ wt L c (em ((tm : Int) - (a : Int)) c)) : ar L c ((tm : Int) + (w : Int) - (a : Int)) = decide (w = wt L c (em ((tm : Int) - (a : Int)) c)) := by
  have hs := em_lt ((tm : Int) - (a : Int)) (c := c) (by omega)
  have hwc : w < c := by
    unfold wt at hw
    split at hw <;> omega
  have e := em_add ((tm : Int) - (a : Int)) (w : Int) (c := c) (by omega)
  rw [em_nat hwc, show (tm : Int) - (a : Int) + (w : Int) = (tm : Int) + (w : Int) - (a : Int) by omega] at e
  unfold ar
  rw [e]
  apply decide_eq_decide.mpr
  unfold wt at hw ⊢
  by_cases h1 : em ((tm : Int) - (a : Int)) c < L
  · rw [if_pos h1] at hw ⊢
    rw [if_pos (by omega)]; omega
  · rw [if_neg h1] at hw ⊢
    by_cases h2 : em ((tm : Int) - (a : Int)) c + w < c
    · rw [if_pos h2]; omega
    · rw [if_neg h2]; omega
theorem wt_le {L c s : Nat} : wt L c s ≤ c := by unfold wt; split <;> omega
theorem b_delay45 (n : Nat) {N c i pl tm : Nat} (hN : N ≤ 5) (h1 : 10 ≤ c) (h2 : c ≤ 120) (hi : i < 40) (hp : pl < N) (ht : tm ≤ 10000) (L a : Nat → Nat) (hL0 : 0 < L pl) (hL : L pl < c) (op places times : Nat → Int32) (ho : opn N c L a op) (ep : places i = nI pl) (et : times i = nI tm) (z1 : Int32) (z2 z4 : Int64) :
    ∀ (d w fu : Nat), w + d = wt (L pl) c (em ((tm : Int) - (a pl : Int)) c) → d < fu → p_Mo_delay_45 n fu (nI c) places times z1 z2 z4 (nI i) (nI w) op = some (nI (wt (L pl) c (em ((tm : Int) - (a pl : Int)) c))) := by
  have hwt := wt_le (L := L pl) (c := c) (s := em ((tm : Int) - (a pl : Int)) c)
  have step : ∀ w m, w ≤ wt (L pl) c (em ((tm : Int) - (a pl : Int)) c) → p_Mo_delay_45 n (m + 1) (nI c) places times z1 z2 z4 (nI i) (nI w) op = if b01 (decide (w = wt (L pl) c (em ((tm : Int) - (a pl : Int)) c))) = 0 then p_Mo_delay_45 n m (nI c) places times z1 z2 z4 (nI i) (nI (w + 1)) op else some (nI w) := by
    intro w m hw
    have mf := Nat.mod_lt (tm + w) (show c > 0 by omega)
    have o1 := ho pl hp _ mf
    rw [ar_mods (by omega), wt_open hL0 hL hw] at o1
    have d1 : dk_in (nI i) 40 = true := b_in hi (by omega)
    have d2 : dk_in (nI (120 * pl + (tm + w) % c)) 600 = true := b_in (by omega) (by omega)
    have k1 : (nI i).toNatClampNeg = i := nI_clamp (by omega)
    have k2 : (nI (120 * pl + (tm + w) % c)).toNatClampNeg = 120 * pl + (tm + w) % c := nI_clamp (by omega)
    have e1 : ((120 : Int32) * nI pl) + nI ((tm + w) % c) = nI (120 * pl + (tm + w) % c) := by rw [show (120 : Int32) = nI 120 from rfl, pk_mul, nI_add]
    rw [q_Mo_delay_45, k1, ep, et, b_sec h1 h2 (by omega), e1, k2, o1, if_pos d1, if_pos d1, if_neg (nI_ne0 (by omega) (by omega)), if_pos d2, nI_1]
  intro d
  induction d with
  | zero =>
    intro w fu e hf
    obtain ⟨m, rfl⟩ : ∃ m, fu = m + 1 := ⟨fu - 1, by omega⟩
    rw [step w m (by omega), decide_eq_true (show w = wt (L pl) c (em ((tm : Int) - (a pl : Int)) c) by omega), if_neg (show ¬ b01 true = 0 by decide), show w = wt (L pl) c (em ((tm : Int) - (a pl : Int)) c) by omega]
  | succ d ih =>
    intro w fu e hf
    obtain ⟨m, rfl⟩ : ∃ m, fu = m + 1 := ⟨fu - 1, by omega⟩
    rw [step w m (by omega), decide_eq_false (show ¬ w = wt (L pl) c (em ((tm : Int) - (a pl : Int)) c) by omega), if_pos (show b01 false = 0 from rfl), ih (w + 1) m (by omega) (by omega)]
theorem b_waitOf (n : Nat) {N c i pl tm : Nat} (hN : N ≤ 5) (h1 : 10 ≤ c) (h2 : c ≤ 120) (hi : i < 40) (hp : pl < N) (ht : tm ≤ 10000) (g q o : Nat → Nat) (hg : ∀ k, k < N → q k < g k ∧ g k < c ∧ o k < c) (across offs qs asec gs : Nat → Int32) (hx : ∀ k, k < N → offs k = nI (o k) ∧ qs k = nI (q k) ∧ gs k = nI (g k)) (ep : across i = nI pl) (et : asec i = nI tm) :
    p_Arr_waitOf n (nI i) across offs (nI N) qs asec (nI c) gs = some (nI (wt (g pl - q pl) c (em ((tm : Int) - ((o pl + q pl : Nat) : Int)) c))) := by
  have d1 : dk_in (nI i) 40 = true := b_in hi (by omega)
  have k1 : (nI i).toNatClampNeg = i := nI_clamp (by omega)
  have i1 : 0 ≤ (nI pl).toInt ∧ (nI pl).toInt < 5 := by rw [nI_toInt (by omega)]; omega
  have i2 : 0 ≤ (nI pl).toInt ∧ (nI pl).toInt < (nI N).toInt := by rw [nI_toInt (by omega), nI_toInt (by omega)]; omega
  obtain ⟨g1, g2, g3⟩ := hg pl hp
  obtain ⟨x1, x2, x3⟩ := hx pl hp
  have lt := em_lt ((tm : Int) - ((o pl + q pl : Nat) : Int)) (c := c) (by omega)
  unfold p_Arr_waitOf
  rw [if_pos d1, k1, ep, et, b_offsetOf n offs i1, Option.bind_some, b_queueOf n qs i2 (by rw [nI_toInt (by omega)]; omega), Option.bind_some, if_pos d1, nI_clamp (by omega), x1, x2, nI_add, b_wrap n _ h1 h2, Option.bind_some, b_openOf n hN hp gs qs x3 x2 (by omega), Option.bind_some, pk_sub_toInt (by omega) (by omega)]
  show (if nI (g pl - q pl) ≤ nI (em ((tm : Int) - ((o pl + q pl : Nat) : Int)) c) then some (nI c - nI (em ((tm : Int) - ((o pl + q pl : Nat) : Int)) c)) else some (0 : Int32)) = _
  unfold wt
  by_cases hh : em ((tm : Int) - ((o pl + q pl : Nat) : Int)) c < g pl - q pl
  · rw [if_pos hh, if_neg (nI_ge hh (by omega))]; rfl
  · rw [if_neg hh, if_pos (nI_le (by omega) (by omega)), pk_sub (by omega)]
theorem b_waited5 (n : Nat) {A : Nat} (hA : A ≤ 40) (w cr : Nat → Nat) (hw : ∀ i, i < A → w i ≤ 120 ∧ cr i ≤ 1000) (acars across offs qs asec gs : Nat → Int32) (sz cy : Int32) (hc : ∀ i, i < A → acars i = nI (cr i)) (hwt : ∀ i, i < A → p_Arr_waitOf n (nI i) across offs sz qs asec cy gs = some (nI (w i))) :
    ∀ (d i s fu : Nat), i + d = A → d < fu → p_Arr_secondsWaited_5 n fu (nI A) acars across offs sz qs asec cy gs (lN s) (nI i) = some (lN (s + wS (fun i => cr i * w i) i d)) := by
  intro d
  induction d with
  | zero =>
    intro i s fu e hf
    obtain ⟨m, rfl⟩ : ∃ m, fu = m + 1 := ⟨fu - 1, by omega⟩
    rw [q_Arr_secondsWaited_5, if_pos (show nI A ≤ nI i from nI_le (by omega) (by omega))]
    rfl
  | succ d ih =>
    intro i s fu e hf
    obtain ⟨m, rfl⟩ : ∃ m, fu = m + 1 := ⟨fu - 1, by omega⟩
    obtain ⟨b1, b2⟩ := hw i (by omega)
    rw [q_Arr_secondsWaited_5, if_neg (show ¬ nI A ≤ nI i from nI_ge (by omega) (by omega)), if_neg (show ¬ (40 : Int32) ≤ nI i from nI_ge (b := 40) (by omega) (by omega)), if_pos (b_in (show i < 40 by omega) (by omega)), hwt i (by omega), Option.bind_some, nI_clamp (by omega), hc i (by omega), nI_l (by omega), nI_l (by omega), lN_mul, lN_add, nI_1, ih (i + 1) _ m (by omega) (by omega)]
    show some (lN (s + cr i * w i + wS (fun i => cr i * w i) (i + 1) d)) = some (lN (s + (cr i * w i + wS (fun i => cr i * w i) (i + 1) d)))
    rw [Nat.add_assoc]
theorem b_through5 (n : Nat) {A : Nat} (hA : A ≤ 40) (w cr : Nat → Nat) (hw : ∀ i, i < A → w i ≤ 120 ∧ cr i ≤ 1000) (acars across offs qs asec gs : Nat → Int32) (sz cy : Int32) (hc : ∀ i, i < A → acars i = nI (cr i)) (hwt : ∀ i, i < A → p_Arr_waitOf n (nI i) across offs sz qs asec cy gs = some (nI (w i))) :
    ∀ (d i s fu : Nat), i + d = A → d < fu → p_Arr_carsThrough_5 n fu (nI A) across offs sz qs asec cy gs acars (lN s) (nI i) = some (lN (s + wS (fun i => if w i = 0 then cr i else 0) i d)) := by
  intro d
  induction d with
  | zero =>
    intro i s fu e hf
    obtain ⟨m, rfl⟩ : ∃ m, fu = m + 1 := ⟨fu - 1, by omega⟩
    rw [q_Arr_carsThrough_5, if_pos (show nI A ≤ nI i from nI_le (by omega) (by omega))]
    rfl
  | succ d ih =>
    intro i s fu e hf
    obtain ⟨m, rfl⟩ : ∃ m, fu = m + 1 := ⟨fu - 1, by omega⟩
    obtain ⟨b1, b2⟩ := hw i (by omega)
    rw [q_Arr_carsThrough_5, if_neg (show ¬ nI A ≤ nI i from nI_ge (by omega) (by omega)), if_neg (show ¬ (40 : Int32) ≤ nI i from nI_ge (b := 40) (by omega) (by omega)), hwt i (by omega), Option.bind_some, if_pos (b_in (show i < 40 by omega) (by omega)), nI_clamp (by omega), hc i (by omega), nI_l (by omega), lN_add, nI_1, Int64.add_zero, ih (i + 1) _ m (by omega) (by omega), ih (i + 1) _ m (by omega) (by omega)]
    show _ = some (lN (s + ((if w i = 0 then cr i else 0) + wS (fun i => if w i = 0 then cr i else 0) (i + 1) d)))
    by_cases h0 : w i = 0
    · rw [if_pos h0, if_pos (show nI (w i) = 0 by rw [h0]; rfl), Nat.add_assoc]
    · rw [if_neg h0, if_neg (show ¬ nI (w i) = 0 from nI_ne0 (by omega) (by omega)), Nat.zero_add]
theorem b_delay33 (n : Nat) {A : Nat} (hA : A ≤ 40) (w cr : Nat → Nat) (hw : ∀ i, i < A → w i ≤ 120 ∧ cr i ≤ 1000) (cars places times op : Nat → Int32) (cy z1 : Int32) (hc : ∀ i, i < A → cars i = nI (cr i)) (hwt : ∀ i, i < A → ∀ z2 z4, p_Mo_delay_45 n n cy places times z1 z2 z4 (nI i) (0 : Int32) op = some (nI (w i))) :
    ∀ (d i s r fu : Nat), i + d = A → d < fu → p_Mo_delay_33 n fu cy (nI A) places times cars z1 (lN s) (lN r) (nI i) op = some (lN (s + wS (fun i => cr i * w i) i d), lN (r + wS (fun i => if w i = 0 then cr i else 0) i d)) := by
  intro d
  induction d with
  | zero =>
    intro i s r fu e hf
    obtain ⟨m, rfl⟩ : ∃ m, fu = m + 1 := ⟨fu - 1, by omega⟩
    rw [q_Mo_delay_33, if_pos (show nI A ≤ nI i from nI_le (by omega) (by omega))]
    rfl
  | succ d ih =>
    intro i s r fu e hf
    obtain ⟨m, rfl⟩ : ∃ m, fu = m + 1 := ⟨fu - 1, by omega⟩
    obtain ⟨b1, b2⟩ := hw i (by omega)
    have d1 : dk_in (nI i) 40 = true := b_in (by omega) (by omega)
    rw [q_Mo_delay_33, if_neg (show ¬ nI A ≤ nI i from nI_ge (by omega) (by omega)), hwt i (by omega), Option.bind_some, if_pos d1, if_pos d1, nI_clamp (by omega), hc i (by omega), nI_l (by omega), nI_l (by omega), lN_mul, lN_add, lN_add, nI_1, Int64.add_zero, ih (i + 1) _ _ m (by omega) (by omega), ih (i + 1) _ _ m (by omega) (by omega)]
    show _ = some (lN (s + (cr i * w i + wS (fun i => cr i * w i) (i + 1) d)), lN (r + ((if w i = 0 then cr i else 0) + wS (fun i => if w i = 0 then cr i else 0) (i + 1) d)))
    rw [Nat.mul_comm (w i)]
    by_cases h0 : w i = 0
    · rw [if_pos h0, if_pos (show nI (w i) = 0 by rw [h0]; rfl), Nat.add_assoc, Nat.add_assoc]
    · rw [if_neg h0, if_neg (show ¬ nI (w i) = 0 from nI_ne0 (by omega) (by omega)), Nat.zero_add, Nat.add_assoc]
