/-! the shortest cycle, the least open seconds, the weights -/
def sc (P : Nat → Bool) : Nat → Nat → Nat
  | _, 0 => 0
  | c, d + 1 => if P c = true then c else sc P (c + 1) d
theorem sc_skip {P : Nat → Bool} : ∀ (j x d : Nat), (∀ i, i < j → i < d → P (x + i) = false) → sc P x d = sc P (x + j) (d - j) := by
  intro j
  induction j with
  | zero => intro x d _; rfl
  | succ j ih =>
    intro x d h
    cases d with
    | zero => rw [Nat.zero_sub]; rfl
    | succ d =>
      have h0 := h 0 (by omega) (by omega)
      rw [Nat.add_zero] at h0
      show (if P x = true then x else sc P (x + 1) d) = _
      rw [h0, ih (x + 1) d (fun i h1 h2 => by
        have := h (i + 1) (by omega) (by omega)
        rw [show x + 1 + i = x + (i + 1) by omega]; exact this)]
      rw [show x + 1 + j = x + (j + 1) by omega, show d + 1 - (j + 1) = d - j by omega]
      simp
theorem b_short3 (n : Nat) (hn : 1000 ≤ n) {c1 c2 cb N : Nat} (h1 : c1 ≤ 120) (h2 : c2 ≤ 120) (hb1 : 1 ≤ cb) (hb2 : cb ≤ 110) (hN : N ≤ 5) (l : Nat → Nat) (f : Nat → Int32) (hl : ∀ k, k < N → l k ≤ 120 ∧ f k = nI (l k)) :
    ∀ (d c fu : Nat), c + d = 121 → d < fu → p_Road_shortestCycle_3 n fu (nI c1) (nI c2) (nI cb) (nI N) f (nI c) = some (nI (sc (fun c => pg c1 c2 cb c && ac l c 0 N) c d)) := by
  intro d
  induction d with
  | zero =>
    intro c fu e hf
    obtain ⟨m, rfl⟩ : ∃ m, fu = m + 1 := ⟨fu - 1, by omega⟩
    rw [q_Road_shortestCycle_3, if_pos (show (120 : Int32) < nI c from nI_lt (a := 120) (by omega) (by omega))]
    rfl
  | succ d ih =>
    intro c fu e hf
    obtain ⟨m, rfl⟩ : ∃ m, fu = m + 1 := ⟨fu - 1, by omega⟩
    rw [q_Road_shortestCycle_3, if_neg (show ¬ (120 : Int32) < nI c from nI_nlt (a := 120) (by omega) (by omega)), b_tries n (by omega) (by omega) h1 h2 hb1 hb2 hN l f hl, Option.bind_some, nI_1]
    show _ = some (nI (if (pg c1 c2 cb c && ac l c 0 N) = true then c else _))
    cases hp : (pg c1 c2 cb c && ac l c 0 N) with
    | false =>
      rw [if_pos (show b01 false = 0 from rfl), ih (c + 1) m (by omega) (by omega)]
      simp
    | true =>
      rw [if_neg (show ¬ b01 true = 0 by decide)]
      simp
theorem b_short (n : Nat) (hn : 1000 ≤ n) {c1 c2 cb N : Nat} (h1 : c1 ≤ 120) (h2 : c2 ≤ 120) (hb1 : 1 ≤ cb) (hb2 : cb ≤ 110) (hN : N ≤ 5) (l : Nat → Nat) (f : Nat → Int32) (hl : ∀ k, k < N → l k ≤ 120 ∧ f k = nI (l k)) :
    p_Road_shortestCycle n (nI c1) (nI c2) (nI cb) (nI N) f = some (nI (sc (fun c => pg c1 c2 cb c && ac l c 0 N) 10 111)) :=
  b_short3 n hn h1 h2 hb1 hb2 hN l f hl 111 10 n (by omega) (by omega)
theorem b_bound27 (n : Nat) (hn : 1000 ≤ n) {c1 c2 cb N : Nat} (h10 : 10 ≤ c1) (h1 : c1 ≤ 120) (h2 : c2 ≤ 120) (hb1 : 1 ≤ cb) (hb2 : cb ≤ 110) (hN : N ≤ 5) (l : Nat → Nat) (f : Nat → Int32) (hl : ∀ k, k < N → l k ≤ 120 ∧ f k = nI (l k)) (z1 : Int32) :
    ∀ (fu c : Nat), c1 ≤ c → (c - c1) % cb = 0 → c ≤ 230 → 231 ≤ c + fu → ∃ z, p_Mo_bound_27 n fu (nI N) (nI c2) f (nI cb) z1 (nI c) = some (nI z) ∧ z ≤ 230 ∧ (z ≤ c2 → 10 ≤ z ∧ sc (fun c => pg c1 c2 cb c && ac l c 0 N) c (121 - c) = z) ∧ (c2 < z → sc (fun c => pg c1 c2 cb c && ac l c 0 N) c (121 - c) = 0) := by
  intro fu
  induction fu with
  | zero => intro c _ _ h3 h4; omega
  | succ m ih =>
    intro c hc1 hm hc hf
    rw [q_Mo_bound_27]
    by_cases hx : c2 < c
    · rw [if_pos (show nI c2 < nI c from nI_lt hx (by omega))]
      refine ⟨c, rfl, by omega, fun q => by omega, fun _ => ?_⟩
      rw [sc_skip (121 - c) c (121 - c) (fun i _ _ => by
          unfold pg
          have : ¬ c + i ≤ c2 := by omega
          simp [this]), Nat.sub_self]
      rfl
    · rw [if_neg (show ¬ nI c2 < nI c from nI_nlt (by omega) (by omega)), b_mayBe n (by omega) (by omega) hN l f hl, Option.bind_some, nI_add]
      have hpg : pg c1 c2 cb c = true := by
        unfold pg
        have : c ≤ c2 := by omega
        simp [hc1, hm, this]
      have hm2 : (c + cb - c1) % cb = 0 := by
        rw [show c + cb - c1 = (c - c1) + cb by omega, Nat.add_mod_right, hm]
      have hsum : sc (fun c => pg c1 c2 cb c && ac l c 0 N) c (121 - c) = if ac l c 0 N = true then c else sc (fun c => pg c1 c2 cb c && ac l c 0 N) (c + cb) (121 - (c + cb)) := by
        rw [show 121 - c = (120 - c) + 1 by omega]
        show (if (pg c1 c2 cb c && ac l c 0 N) = true then c else sc _ (c + 1) (120 - c)) = _
        rw [hpg, Bool.true_and, sc_skip (cb - 1) (c + 1) (120 - c) (fun i h3 _ => by
          rw [show c + 1 + i = c + (i + 1) by omega]
          show (pg c1 c2 cb (c + (i + 1)) && _) = false
          rw [pg_step hc1 hm (by omega) (by omega)]; rfl), show c + 1 + (cb - 1) = c + cb by omega, show 120 - c - (cb - 1) = 121 - (c + cb) by omega]
      cases ha : ac l c 0 N with
      | false =>
        rw [if_pos (show b01 false = 0 from rfl)]
        rw [ha, if_neg (by decide)] at hsum
        rw [hsum]
        exact ih (c + cb) (by omega) hm2 (by omega) (by omega)
      | true =>
        rw [if_neg (show ¬ b01 true = 0 by decide)]
        rw [ha, if_pos rfl] at hsum
        exact ⟨c, rfl, by omega, fun _ => ⟨by omega, hsum⟩, fun q => absurd q hx⟩
theorem sc_low {c1 c2 cb N : Nat} {l : Nat → Nat} (h : 10 ≤ c1) (h2 : c1 ≤ 120) : sc (fun c => pg c1 c2 cb c && ac l c 0 N) 10 111 = sc (fun c => pg c1 c2 cb c && ac l c 0 N) c1 (121 - c1) := by
  rw [sc_skip (c1 - 10) 10 111 (fun i h3 _ => by
    unfold pg
    have : ¬ c1 ≤ 10 + i := by omega
    simp [this]), show 10 + (c1 - 10) = c1 by omega, show 111 - (c1 - 10) = 121 - c1 by omega]
/-- the least of a and of f k .. f (k + d - 1) -/
def mn (f : Nat → Nat) : Nat → Nat → Nat → Nat
  | a, _, 0 => a
  | a, k, d + 1 => mn f (if f k < a then f k else a) (k + 1) d
theorem mn_le (f : Nat → Nat) : ∀ d a k, mn f a k d ≤ a := by
  intro d
  induction d with
  | zero => intro a k; exact Nat.le_refl a
  | succ d ih =>
    intro a k
    have := ih (if f k < a then f k else a) (k + 1)
    show mn f (if f k < a then f k else a) (k + 1) d ≤ a
    have h2 : (if f k < a then f k else a) ≤ a := by split <;> omega
    exact Nat.le_trans this h2
theorem b_openOf (n : Nat) {N k gk qk : Nat} (hN : N ≤ 5) (hk : k < N) (fg fq : Nat → Int32) (e1 : fg k = nI gk) (e2 : fq k = nI qk) (hq : qk ≤ gk) : p_Road_openOf n (nI k) (nI N) fg fq = some (nI (gk - qk)) := by
  unfold p_Road_openOf
  have h0 : 0 ≤ (nI k).toInt ∧ (nI k).toInt < (nI N).toInt := by rw [nI_toInt (by omega), nI_toInt (by omega)]; omega
  have h5 : (nI N).toInt ≤ 5 := by rw [nI_toInt (by omega)]; omega
  rw [b_greenOf n fg h0 h5, b_queueOf n fq h0 h5, Option.bind_some, Option.bind_some, nI_clamp (by omega), e1, e2, pk_sub hq]
theorem b_least5 (n : Nat) {N : Nat} (hN : N ≤ 5) (g q : Nat → Nat) (fg fq : Nat → Int32) (hg : ∀ k, k < N → g k ≤ 90 ∧ q k < g k ∧ fg k = nI (g k) ∧ fq k = nI (q k)) :
    ∀ (d k a fu : Nat), k + d = N → a ≤ 90 → d < fu → p_Road_leastOpen_5 n fu (nI N) fg fq (nI a) (nI k) = some (nI (mn (fun k => g k - q k) a k d)) := by
  intro d
  induction d with
  | zero =>
    intro k a fu e ha hf
    obtain ⟨m, rfl⟩ : ∃ m, fu = m + 1 := ⟨fu - 1, by omega⟩
    rw [q_Road_leastOpen_5, if_pos (show nI N ≤ nI k from nI_le (by omega) (by omega))]
    rfl
  | succ d ih =>
    intro k a fu e ha hf
    obtain ⟨m, rfl⟩ : ∃ m, fu = m + 1 := ⟨fu - 1, by omega⟩
    have hk := hg k (by omega)
    rw [q_Road_leastOpen_5, if_neg (show ¬ nI N ≤ nI k from nI_ge (by omega) (by omega)), b_openOf n hN (by omega) fg fq hk.2.2.1 hk.2.2.2 (by omega), Option.bind_some, nI_1]
    unfold p_Math_min
    show _ = some (nI (mn _ (if g k - q k < a then g k - q k else a) (k + 1) d))
    by_cases h : g k - q k < a
    · rw [if_pos (show nI (g k - q k) < nI a from nI_lt h (by omega)), if_pos h]
      exact ih (k + 1) _ m (by omega) (by omega) (by omega)
    · rw [if_neg (show ¬ nI (g k - q k) < nI a from nI_nlt (by omega) (by omega)), if_neg h]
      exact ih (k + 1) _ m (by omega) (by omega) (by omega)
theorem b_bound70 (n : Nat) {N : Nat} (hN : N ≤ 5) (g q : Nat → Nat) (fg fq : Nat → Int32) (hg : ∀ k, k < N → g k ≤ 90 ∧ q k < g k ∧ fg k = nI (g k) ∧ fq k = nI (q k)) (z1 z2 : Int32) :
    ∀ (d k a fu : Nat), k + d = N → a ≤ 120 → d < fu → p_Mo_bound_70 n fu (nI N) fg fq z1 z2 (nI a) (nI k) = some (nI (mn (fun k => g k - q k) a k d)) := by
  intro d
  induction d with
  | zero =>
    intro k a fu e ha hf
    obtain ⟨m, rfl⟩ : ∃ m, fu = m + 1 := ⟨fu - 1, by omega⟩
    rw [q_Mo_bound_70, if_pos (show nI N ≤ nI k from nI_le (by omega) (by omega))]
    rfl
  | succ d ih =>
    intro k a fu e ha hf
    obtain ⟨m, rfl⟩ : ∃ m, fu = m + 1 := ⟨fu - 1, by omega⟩
    have hk := hg k (by omega)
    rw [q_Mo_bound_70, if_neg (show ¬ nI N ≤ nI k from nI_ge (by omega) (by omega))]
    simp only [if_pos (b_in (show k < 5 by omega) (show 5 < 2 ^ 31 by omega)), nI_clamp (show k < 2 ^ 31 by omega), hk.2.2.1, hk.2.2.2, pk_sub (Nat.le_of_lt hk.2.1), nI_1]
    show _ = some (nI (mn _ (if g k - q k < a then g k - q k else a) (k + 1) d))
    by_cases h : g k - q k < a
    · rw [if_neg (show ¬ nI a ≤ nI (g k - q k) from nI_ge h (by omega)), if_pos h]
      exact ih (k + 1) _ m (by omega) (by omega) (by omega)
    · rw [if_pos (show nI a ≤ nI (g k - q k) from nI_le (by omega) (by omega)), if_neg h]
      exact ih (k + 1) _ m (by omega) (by omega) (by omega)
/-- a sum of d numbers from k on -/
def wS (f : Nat → Nat) : Nat → Nat → Nat
  | _, 0 => 0
  | k, d + 1 => f k + wS f (k + 1) d
theorem wS_le {f : Nat → Nat} {m : Nat} : ∀ d k, (∀ i, k ≤ i → i < k + d → f i ≤ m) → wS f k d ≤ m * d := by
  intro d
  induction d with
  | zero => intro k _; exact Nat.le_refl 0
  | succ d ih =>
    intro k h
    have h1 := ih (k + 1) (fun i a b => h i (by omega) (by omega))
    have h2 := h k (by omega) (by omega)
    show f k + wS f (k + 1) d ≤ m * (d + 1)
    rw [Nat.mul_succ]; omega
theorem wS_last (f : Nat → Nat) : ∀ d k, wS f k (d + 1) = wS f k d + f (k + d) := by
  intro d
  induction d with
  | zero => intro k; show f k + 0 = 0 + f k; omega
  | succ d ih =>
    intro k
    show f k + wS f (k + 1) (d + 1) = f k + wS f (k + 1) d + f (k + (d + 1))
    rw [ih (k + 1), show k + 1 + d = k + (d + 1) by omega]; omega
theorem wS_shift (f : Nat → Nat) : ∀ d k, wS (fun k => f (k + 1)) k d = wS f (k + 1) d := by
  intro d
  induction d with
  | zero => intro k; rfl
  | succ d ih =>
    intro k
    show f (k + 1) + wS _ (k + 1) d = f (k + 1) + wS f (k + 1 + 1) d
    rw [ih (k + 1)]
theorem wS_congr {f g : Nat → Nat} : ∀ d k, (∀ i, k ≤ i → i < k + d → f i = g i) → wS f k d = wS g k d := by
  intro d
  induction d with
  | zero => intro k _; rfl
  | succ d ih =>
    intro k h
    show f k + wS f (k + 1) d = g k + wS g (k + 1) d
    rw [h k (by omega) (by omega), ih (k + 1) (fun i a b => h i (by omega) (by omega))]
theorem b_weight4 (n : Nat) {N : Nat} (hN : N ≤ 5) (way : Nat) (hw : way < 2) (w : Nat → Nat) (fw : Nat → Int32) (h : ∀ k, k < N → fw (5 * way + k) = nI (w k)) :
    ∀ (d k s fu : Nat), k + d = N → d < fu → p_Road_weightOf_4 n fu (nI N) fw (nI way) (nI s) (nI k) = some (nI (s + wS w k d)) := by
  intro d
  induction d with
  | zero =>
    intro k s fu e hf
    obtain ⟨m, rfl⟩ : ∃ m, fu = m + 1 := ⟨fu - 1, by omega⟩
    rw [q_Road_weightOf_4, if_pos (show nI N ≤ nI k from nI_le (by omega) (by omega))]
    rfl
  | succ d ih =>
    intro k s fu e hf
    obtain ⟨m, rfl⟩ : ∃ m, fu = m + 1 := ⟨fu - 1, by omega⟩
    have e1 : p_Road_streetAt n (nI way) (nI k) = some (nI (5 * way + k)) := by
      unfold p_Road_streetAt
      rcases (show way = 0 ∨ way = 1 by omega) with rfl | rfl
      · rw [if_pos (show nI 0 = 0 from rfl)]; congr 2; omega
      · rw [if_neg (show ¬ nI 1 = 0 by decide), show (5 : Int32) = nI 5 from rfl, nI_add]
    rw [q_Road_weightOf_4, if_neg (show ¬ nI N ≤ nI k from nI_ge (by omega) (by omega)), e1, Option.bind_some, if_pos (b_in (by omega) (by omega)), nI_clamp (by omega), h k (by omega), nI_add, nI_1, ih (k + 1) _ m (by omega) (by omega)]
    congr 2
    show _ = s + (w k + wS w (k + 1) d)
    omega
theorem b_weight (n : Nat) (hn : 100 ≤ n) {N : Nat} (hN : N ≤ 5) (way : Nat) (hw : way < 2) (w : Nat → Nat) (fw : Nat → Int32) (h : ∀ k, k < N → fw (5 * way + k) = nI (w k)) : p_Road_weightOf n (nI way) (nI N) fw = some (nI (wS w 0 N)) := by
  unfold p_Road_weightOf
  have := b_weight4 n hN way hw w fw h N 0 0 n (by omega) (by omega)
  rw [Nat.zero_add] at this
  rw [show (0 : Int32) = nI 0 from rfl, this]
  rfl
theorem b_mweight4 (n : Nat) {N : Nat} (hN : N ≤ 5) (way : Nat) (hw : way < 2) (w : Nat → Nat) (fw : Nat → Int32) (h : ∀ k, k + 1 < N → fw (2 * k + way) = nI (w k)) :
    ∀ (d k s fu : Nat), k + d + 1 = N → d < fu → p_Mo_weightOf_4 n fu (nI N) fw (nI way) (nI s) (nI k) = some (nI (s + wS w k d)) := by
  intro d
  induction d with
  | zero =>
    intro k s fu e hf
    obtain ⟨m, rfl⟩ : ∃ m, fu = m + 1 := ⟨fu - 1, by omega⟩
    rw [q_Mo_weightOf_4, nI_1, if_pos (show nI N ≤ nI (k + 1) from nI_le (by omega) (by omega))]
    rfl
  | succ d ih =>
    intro k s fu e hf
    obtain ⟨m, rfl⟩ : ∃ m, fu = m + 1 := ⟨fu - 1, by omega⟩
    have e2 : (2 : Int32) * nI k + nI way = nI (2 * k + way) := by rw [show (2 : Int32) * nI k = nI (2 * k) from pk_mul 2 k, nI_add]
    rw [q_Mo_weightOf_4, nI_1, if_neg (show ¬ nI N ≤ nI (k + 1) from nI_ge (by omega) (by omega)), e2, if_pos (b_in (by omega) (by omega)), nI_clamp (by omega), h k (by omega), nI_add, ih (k + 1) _ m (by omega) (by omega)]
    congr 2
    show _ = s + (w k + wS w (k + 1) d)
    omega
theorem b_mweight (n : Nat) (hn : 100 ≤ n) {N : Nat} (h1 : 1 ≤ N) (hN : N ≤ 5) (way : Nat) (hw : way < 2) (w : Nat → Nat) (fw : Nat → Int32) (h : ∀ k, k + 1 < N → fw (2 * k + way) = nI (w k)) : p_Mo_weightOf n (nI way) (nI N) fw = some (nI (wS w 0 (N - 1))) := by
  unfold p_Mo_weightOf
  have := b_mweight4 n hN way hw w fw h (N - 1) 0 0 n (by omega) (by omega)
  rw [Nat.zero_add] at this
  rw [show (0 : Int32) = nI 0 from rfl, this]
  rfl
/-- both sides' weights of a way -/
theorem b_weights (n : Nat) (hn : 100 ≤ n) {N : Nat} (h1 : 2 ≤ N) (hN : N ≤ 5) (fw bw : Nat → Nat) (hf0 : fw (N - 1) = 0) (hb0 : bw 0 = 0) (wx wm : Nat → Int32) (hx : ∀ k, k < 5 → wx k = nI (fw k) ∧ wx (5 + k) = nI (bw k)) (hm : ∀ k, k + 1 < N → wm (2 * k) = nI (fw k) ∧ wm (2 * k + 1) = nI (bw (k + 1))) :
    p_Road_weightOf n (0 : Int32) (nI N) wx = some (nI (wS fw 0 N)) ∧ p_Road_weightOf n (1 : Int32) (nI N) wx = some (nI (wS bw 0 N)) ∧ p_Mo_weightOf n (0 : Int32) (nI N) wm = some (nI (wS fw 0 N)) ∧ p_Mo_weightOf n (1 : Int32) (nI N) wm = some (nI (wS bw 0 N)) := by
  obtain ⟨M, rfl⟩ : ∃ M, N = M + 1 := ⟨N - 1, by omega⟩
  have e1 : wS fw 0 (M + 1) = wS fw 0 M := by
    rw [wS_last, Nat.zero_add]
    rw [show M + 1 - 1 = M by omega] at hf0
    omega
  have e2 : wS bw 0 (M + 1) = wS (fun k => bw (k + 1)) 0 M := by
    rw [wS_shift]
    show bw 0 + wS bw (0 + 1) M = _
    omega
  refine ⟨?_, ?_, ?_, ?_⟩
  · exact b_weight n hn hN 0 (by omega) fw wx (fun k hk => by rw [Nat.mul_zero, Nat.zero_add]; exact (hx k (by omega)).1)
  · exact b_weight n hn hN 1 (by omega) bw wx (fun k hk => by rw [Nat.mul_one]; exact (hx k (by omega)).2)
  · rw [e1]
    exact b_mweight n hn (by omega) hN 0 (by omega) fw wm (fun k hk => by rw [Nat.add_zero]; exact (hm k hk).1)
  · rw [e2]
    exact b_mweight n hn (by omega) hN 1 (by omega) (fun k => bw (k + 1)) wm (fun k hk => (hm k hk).2)
theorem b_part {a0 : Int32} (h : (0 : Int64) ≤ a0.toInt64 ∧ a0.toInt64 ≤ (1 : Int64)) : a0 = 0 ∨ a0 = 1 := by
  rw [b_le32, b_ge32, show (0 : Int64).toInt = 0 by decide, show (1 : Int64).toInt = 1 by decide] at h
  obtain ⟨j, hj, ej, -⟩ := b_nat (x := a0) (m := 2) (by omega)
  rcases (show j = 0 ∨ j = 1 by omega) with rfl | rfl
  · exact Or.inl ej
  · exact Or.inr ej
theorem b_isPart (n : Nat) (a0 : Int32) : p_WO_isPart n a0 = some (if (0 : Int64) ≤ a0.toInt64 ∧ a0.toInt64 ≤ (1 : Int64) then 1 else 0) := by
  unfold p_WO_isPart
  by_cases z0 : a0 = 0
  · subst z0; rw [if_pos rfl, if_pos (by decide)]
  · rw [if_neg z0]
    by_cases z1 : a0 = 1
    · subst z1; rw [if_pos rfl, if_pos (by decide)]
    · rw [if_neg z1, if_neg]
      intro y
      exact (b_part y).elim z0 z1
