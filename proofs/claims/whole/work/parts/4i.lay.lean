/-! the reference lays seconds out, and counts its bands -/
def opn (N c : Nat) (L a : Nat → Nat) (op : Nat → Int32) : Prop := ∀ k, k < N → ∀ t, t < c → op (120 * k + t) = b01 (ar (L k) c ((t : Int) - (a k : Int)))
theorem em_round {t o c : Nat} (ht : t < c) (ho : o < c) : (t + c - o) % c = em ((t : Int) - (o : Int)) c := by
  have e := em_sub (t : Int) (o : Int) (c := c) (by omega)
  rw [em_nat ht, em_nat ho] at e
  rw [e]
  by_cases h : o ≤ t
  · rw [if_pos h, show t + c - o = (t - o) + c by omega, Nat.add_mod_right, Nat.mod_eq_of_lt (by omega)]
  · rw [if_neg h, Nat.mod_eq_of_lt (by omega)]
theorem b_rnd {t o c : Nat} (ho : o ≤ c) : (nI t - nI o) + nI c = nI (t + c - o) := by
  rw [← pk_sub (a := t + c) (b := o) (by omega), ← nI_add, Int32.sub_eq_add_neg, Int32.sub_eq_add_neg, Int32.add_assoc, Int32.add_assoc, Int32.add_comm (-(nI o))]
theorem b_lay3 (n : Nat) {k c o g q : Nat} (hk : k < 5) (h1 : 10 ≤ c) (h2 : c ≤ 120) (ho : o < c) (hq : q < g) (hg : g < c) (gs qs : Nat → Int32) (eg : gs k = nI g) (eq : qs k = nI q) :
    ∀ (d t fu : Nat) (op : Nat → Int32), t + d = c → d < fu → ∃ op', p_Mo_lay_3 n fu gs qs (nI k) (nI o) (nI c) (nI t) op = some op' ∧ (∀ s, t ≤ s → s < c → op' (120 * k + s) = b01 (ar (g - q) c ((s : Int) - ((o + q : Nat) : Int)))) ∧ (∀ j, j < 120 * k + t ∨ 120 * k + c ≤ j → op' j = op j) := by
  intro d
  induction d with
  | zero =>
    intro t fu op e hf
    obtain ⟨m, rfl⟩ : ∃ m, fu = m + 1 := ⟨fu - 1, by omega⟩
    rw [q_Mo_lay_3, if_pos (show nI c ≤ nI t from nI_le (by omega) (by omega))]
    exact ⟨op, rfl, fun s h1 h2 => absurd h1 (by omega), fun j _ => rfl⟩
  | succ d ih =>
    intro t fu op e hf
    obtain ⟨m, rfl⟩ : ∃ m, fu = m + 1 := ⟨fu - 1, by omega⟩
    have hm := em_lt ((t : Int) - (o : Int)) (c := c) (by omega)
    have er : ((nI t - nI o) + nI c) - ((nI t - nI o) + nI c) / nI c * nI c = nI (em ((t : Int) - (o : Int)) c) := by
      rw [b_rnd (by omega), pk_rem (by omega) (by omega) (by omega), em_round (by omega) ho]
    have ei : ((120 : Int32) * nI k) + nI t = nI (120 * k + t) := by rw [show (120 : Int32) = nI 120 from rfl, pk_mul, nI_add]
    have hk5 : dk_in (nI k) 5 = true := b_in (by omega) (by omega)
    have hi6 : dk_in (nI (120 * k + t)) 600 = true := b_in (by omega) (by omega)
    have ck : (nI k).toNatClampNeg = k := nI_clamp (by omega)
    have ci : (nI (120 * k + t)).toNatClampNeg = 120 * k + t := nI_clamp (by omega)
    have v0 : vp_nar .boolean (0 : Int32) = 0 := rfl
    have v1 : vp_nar .boolean (1 : Int32) = 1 := rfl
    rw [q_Mo_lay_3, if_neg (show ¬ nI c ≤ nI t from nI_ge (by omega) (by omega)), if_neg (nI_ne0 (by omega) (by omega))]
    simp only [er, ei, hk5, hi6, ck, ci, eg, eq, v0, v1, nI_1, if_true]
    have ea := op_ar ((t : Int) - (o : Int)) hq hg
    rw [show (t : Int) - (o : Int) - (q : Int) = (t : Int) - ((o + q : Nat) : Int) by omega] at ea
    have key : ∀ v : Int32, v = b01 (ar (g - q) c ((t : Int) - ((o + q : Nat) : Int))) → ∃ op', p_Mo_lay_3 n m gs qs (nI k) (nI o) (nI c) (nI (t + 1)) (upd op (120 * k + t) v) = some op' ∧ (∀ s, t ≤ s → s < c → op' (120 * k + s) = b01 (ar (g - q) c ((s : Int) - ((o + q : Nat) : Int)))) ∧ (∀ j, j < 120 * k + t ∨ 120 * k + c ≤ j → op' j = op j) := by
      intro v hv
      obtain ⟨op', r1, r2, r3⟩ := ih (t + 1) m (upd op (120 * k + t) v) (by omega) (by omega)
      refine ⟨op', r1, ?_, ?_⟩
      · intro s hs1 hs2
        by_cases hst : s = t
        · subst hst
          rw [r3 _ (Or.inl (by omega)), pk_us, hv]
        · exact r2 s (by omega) hs2
      · intro j hj
        rw [r3 j (by omega), pk_un (by omega)]
    by_cases c1 : g ≤ em ((t : Int) - (o : Int)) c
    · rw [if_pos (nI_le c1 (by omega))]
      apply key
      rw [← ea, decide_eq_false (show ¬ em ((t : Int) - (o : Int)) c < g by omega), Bool.and_false]
      rfl
    · rw [if_neg (show ¬ nI g ≤ nI (em ((t : Int) - (o : Int)) c) from nI_ge (by omega) (by omega))]
      by_cases c2 : em ((t : Int) - (o : Int)) c < q
      · rw [if_pos (nI_lt c2 (by omega))]
        apply key
        rw [← ea, decide_eq_false (show ¬ q ≤ em ((t : Int) - (o : Int)) c by omega), Bool.false_and]
        rfl
      · rw [if_neg (show ¬ nI (em ((t : Int) - (o : Int)) c) < nI q from nI_nlt (by omega) (by omega))]
        apply key
        rw [← ea, decide_eq_true (show q ≤ em ((t : Int) - (o : Int)) c by omega), decide_eq_true (show em ((t : Int) - (o : Int)) c < g by omega)]
        rfl
theorem b_lay (n : Nat) (hn : 1000 ≤ n) {k c o g q : Nat} (hk : k < 5) (h1 : 10 ≤ c) (h2 : c ≤ 120) (ho : o < c) (hq : q < g) (hg : g < c) (gs qs : Nat → Int32) (eg : gs k = nI g) (eq : qs k = nI q) (op : Nat → Int32) :
    ∃ op', p_Mo_lay n (nI k) (nI o) (nI c) gs qs op = some op' ∧ (∀ s, s < c → op' (120 * k + s) = b01 (ar (g - q) c ((s : Int) - ((o + q : Nat) : Int)))) ∧ (∀ j, j < 120 * k ∨ 120 * k + c ≤ j → op' j = op j) := by
  obtain ⟨op', r1, r2, r3⟩ := b_lay3 n hk h1 h2 ho hq hg gs qs eg eq c 0 n op (by omega) (by omega)
  refine ⟨op', ?_, fun s hs => r2 s (by omega) hs, fun j hj => r3 j (by omega)⟩
  unfold p_Mo_lay
  rw [show (0 : Int32) = nI 0 from rfl, r1]
  rfl
theorem b_layPlan2 (n : Nat) (hn : 1000 ≤ n) {N c : Nat} (hN : N ≤ 5) (h1 : 10 ≤ c) (h2 : c ≤ 120) (g q o : Nat → Nat) (hg : ∀ k, k < N → q k < g k ∧ g k < c ∧ o k < c) (offs qs gs : Nat → Int32) (hx : ∀ k, k < N → offs k = nI (o k) ∧ qs k = nI (q k) ∧ gs k = nI (g k)) :
    ∀ (d k fu : Nat) (op : Nat → Int32), k + d = N → d < fu → opn k c (fun k => g k - q k) (fun k => o k + q k) op → ∃ op', p_Mo_layPlan_2 n fu (nI N) offs (nI c) gs qs (nI k) op = some op' ∧ opn N c (fun k => g k - q k) (fun k => o k + q k) op' := by
  intro d
  induction d with
  | zero =>
    intro k fu op e hf ho
    obtain ⟨m, rfl⟩ : ∃ m, fu = m + 1 := ⟨fu - 1, by omega⟩
    rw [q_Mo_layPlan_2, if_pos (show nI N ≤ nI k from nI_le (by omega) (by omega))]
    exact ⟨op, rfl, by rw [show N = k by omega]; exact ho⟩
  | succ d ih =>
    intro k fu op e hf ho
    obtain ⟨m, rfl⟩ : ∃ m, fu = m + 1 := ⟨fu - 1, by omega⟩
    obtain ⟨g1, g2, g3⟩ := hg k (by omega)
    obtain ⟨x1, x2, x3⟩ := hx k (by omega)
    obtain ⟨op1, r1, r2, r3⟩ := b_lay n hn (show k < 5 by omega) h1 h2 g3 g1 g2 gs qs x3 x2 op
    rw [q_Mo_layPlan_2, if_neg (show ¬ nI N ≤ nI k from nI_ge (by omega) (by omega)), if_pos (b_in (show k < 5 by omega) (by omega)), nI_clamp (by omega), x1, r1, Option.bind_some, nI_1]
    apply ih (k + 1) m op1 (by omega) (by omega)
    intro j hj t ht
    by_cases hjk : j = k
    · subst hjk; exact r2 t ht
    · rw [r3 _ (Or.inl (by omega))]; exact ho j (by omega) t ht
theorem b_layPlan (n : Nat) (hn : 1000 ≤ n) {N c : Nat} (hN : N ≤ 5) (h1 : 10 ≤ c) (h2 : c ≤ 120) (g q o : Nat → Nat) (hg : ∀ k, k < N → q k < g k ∧ g k < c ∧ o k < c) (offs qs gs : Nat → Int32) (hx : ∀ k, k < N → offs k = nI (o k) ∧ qs k = nI (q k) ∧ gs k = nI (g k)) (op : Nat → Int32) :
    ∃ op', p_Mo_layPlan n (nI N) offs (nI c) gs qs op = some op' ∧ opn N c (fun k => g k - q k) (fun k => o k + q k) op' := by
  obtain ⟨op', r1, r2⟩ := b_layPlan2 n hn hN h1 h2 g q o hg offs qs gs hx N 0 n op (by omega) (by omega) (fun k hk => absurd hk (by omega))
  refine ⟨op', ?_, r2⟩
  unfold p_Mo_layPlan
  rw [show (0 : Int32) = nI 0 from rfl, r1]
  rfl
/-- all crossings from k on open for a car that is at k at second t -/
def alf (c : Nat) (L a fs : Nat → Nat) : Nat → Nat → Nat → Bool
  | _, 0, _ => true
  | k, d + 1, t => ar (L k) c ((t : Int) - (a k : Int)) && alf c L a fs (k + 1) d ((t + fs k) % c)
def alb (c : Nat) (L a bw : Nat → Nat) : Nat → Nat → Bool
  | 0, t => ar (L 0) c ((t : Int) - (a 0 : Int))
  | k + 1, t => ar (L (k + 1)) c ((t : Int) - (a (k + 1) : Int)) && alb c L a bw k ((t + bw (k + 1)) % c)
theorem ar_mod {L c : Nat} (hc : 0 < c) (t s : Nat) (x : Int) : ar L c (((t + s) % c : Nat) + x) = ar L c ((t : Int) + ((s : Int) + x)) := by
  apply ar_of
  rw [← em_natmod, em_em_add _ _ hc]
  congr 1; omega
theorem alf_iff {c : Nat} (hc : 0 < c) (L a fs : Nat → Nat) : ∀ d k t, alf c L a fs k d t = true ↔ ∀ j, j < d → ar (L (k + j)) c ((t : Int) + (wS fs k j : Int) - (a (k + j) : Int)) = true := by
  intro d
  induction d with
  | zero => intro k t; exact ⟨fun _ j hj => absurd hj (by omega), fun _ => rfl⟩
  | succ d ih =>
    intro k t
    show (ar (L k) c ((t : Int) - (a k : Int)) && alf c L a fs (k + 1) d ((t + fs k) % c)) = true ↔ _
    rw [Bool.and_eq_true, ih]
    have step : ∀ j, ar (L (k + 1 + j)) c ((((t + fs k) % c : Nat) : Int) + (wS fs (k + 1) j : Int) - (a (k + 1 + j) : Int)) = ar (L (k + (j + 1))) c ((t : Int) + (wS fs k (j + 1) : Int) - (a (k + (j + 1)) : Int)) := by
      intro j
      rw [show k + 1 + j = k + (j + 1) by omega, show wS fs k (j + 1) = fs k + wS fs (k + 1) j from rfl]
      rw [show ((((t + fs k) % c : Nat) : Int) + (wS fs (k + 1) j : Int) - (a (k + (j + 1)) : Int)) = (((t + fs k) % c : Nat) : Int) + ((wS fs (k + 1) j : Int) - (a (k + (j + 1)) : Int)) by omega, ar_mod hc]
      congr 1; omega
    constructor
    · intro ⟨p1, p2⟩ j hj
      cases j with
      | zero => rw [show ((t : Int) + (wS fs k 0 : Int) - (a (k + 0) : Int)) = (t : Int) - (a k : Int) by show (t : Int) + ((0 : Nat) : Int) - (a k : Int) = _; omega]; exact p1
      | succ j => rw [← step j]; exact p2 j (by omega)
    · intro p
      refine ⟨?_, fun j hj => ?_⟩
      · have := p 0 (by omega)
        rw [show ((t : Int) + (wS fs k 0 : Int) - (a (k + 0) : Int)) = (t : Int) - (a k : Int) by show (t : Int) + ((0 : Nat) : Int) - (a k : Int) = _; omega] at this
        exact this
      · rw [step j]; exact p (j + 1) (by omega)
theorem alb_iff {c : Nat} (hc : 0 < c) (L a bw : Nat → Nat) : ∀ k t, alb c L a bw k t = true ↔ ∀ j, j ≤ k → ar (L j) c ((t : Int) + (wS bw (j + 1) (k - j) : Int) - (a j : Int)) = true := by
  intro k
  induction k with
  | zero =>
    intro t
    have e : (t : Int) + (wS bw (0 + 1) (0 - 0) : Int) - (a 0 : Int) = (t : Int) - (a 0 : Int) := by
      show (t : Int) + ((0 : Nat) : Int) - (a 0 : Int) = _; omega
    constructor
    · intro h j hj
      rw [show j = 0 by omega, e]; exact h
    · intro h
      have := h 0 (by omega)
      rw [e] at this; exact this
  | succ k ih =>
    intro t
    show (ar (L (k + 1)) c ((t : Int) - (a (k + 1) : Int)) && alb c L a bw k ((t + bw (k + 1)) % c)) = true ↔ _
    rw [Bool.and_eq_true, ih]
    have step : ∀ j, j ≤ k → ar (L j) c ((((t + bw (k + 1)) % c : Nat) : Int) + (wS bw (j + 1) (k - j) : Int) - (a j : Int)) = ar (L j) c ((t : Int) + (wS bw (j + 1) (k + 1 - j) : Int) - (a j : Int)) := by
      intro j hj
      rw [show k + 1 - j = (k - j) + 1 by omega, wS_last, show j + 1 + (k - j) = k + 1 by omega]
      rw [show ((((t + bw (k + 1)) % c : Nat) : Int) + (wS bw (j + 1) (k - j) : Int) - (a j : Int)) = (((t + bw (k + 1)) % c : Nat) : Int) + ((wS bw (j + 1) (k - j) : Int) - (a j : Int)) by omega, ar_mod hc]
      congr 1; omega
    have last : (t : Int) + (wS bw (k + 1 + 1) (k + 1 - (k + 1)) : Int) - (a (k + 1) : Int) = (t : Int) - (a (k + 1) : Int) := by
      rw [Nat.sub_self]; show (t : Int) + ((0 : Nat) : Int) - (a (k + 1) : Int) = _; omega
    constructor
    · intro ⟨p1, p2⟩ j hj
      by_cases hjk : j = k + 1
      · subst hjk; rw [last]; exact p1
      · rw [← step j (by omega)]; exact p2 j (by omega)
    · intro p
      refine ⟨?_, fun j hj => ?_⟩
      · have := p (k + 1) (by omega)
        rw [last] at this; exact this
      · rw [step j hj]; exact p j (by omega)
theorem b_sec {t s c : Nat} (h1 : 10 ≤ c) (h2 : c ≤ 120) (ht : t + s < 2 ^ 31) : (nI t + nI s) - (nI t + nI s) / nI c * nI c = nI ((t + s) % c) := by
  rw [nI_add, pk_rem ht (by omega) (by omega)]
theorem b_band45f (n : Nat) {N c : Nat} (hN : N ≤ 5) (h1 : 10 ≤ c) (h2 : c ≤ 120) (L a fs : Nat → Nat) (op secs : Nat → Int32) (ho : opn N c L a op) (hs : ∀ k, k + 1 < N → fs k ≤ 200 ∧ secs (2 * k) = nI (fs k)) (z3 z4 : Int32) :
    ∀ (d k t fu : Nat), k + d = N → d < fu → t < c → ∃ j, j ≤ N ∧ p_Mo_band_45 n fu op secs (0 : Int32) (nI c) z3 z4 (nI k) (nI N) (nI t) = some (nI j) ∧ (j = N ↔ alf c L a fs k d t = true) := by
  intro d
  induction d with
  | zero =>
    intro k t fu e hf ht
    obtain ⟨m, rfl⟩ : ∃ m, fu = m + 1 := ⟨fu - 1, by omega⟩
    rw [q_Mo_band_45, if_pos (show nI k = nI N by rw [show k = N by omega])]
    exact ⟨k, by omega, rfl, fun _ => rfl, fun _ => by omega⟩
  | succ d ih =>
    intro k t fu e hf ht
    obtain ⟨m, rfl⟩ : ∃ m, fu = m + 1 := ⟨fu - 1, by omega⟩
    have ei : ((120 : Int32) * nI k) + nI t = nI (120 * k + t) := by rw [show (120 : Int32) = nI 120 from rfl, pk_mul, nI_add]
    have ei2 : (2 : Int32) * nI k = nI (2 * k) := by rw [show (2 : Int32) = nI 2 from rfl, pk_mul]
    rw [q_Mo_band_45, if_neg (show ¬ nI k = nI N by rw [nI_eq (by omega) (by omega)]; omega), ei, if_pos (b_in (show 120 * k + t < 600 by omega) (by omega)), nI_clamp (show 120 * k + t < 2 ^ 31 by omega), ho k (by omega) t ht, if_pos (show (0 : Int32) = 0 from rfl), if_pos (show (0 : Int32) = 0 from rfl), nI_1, ei2]
    show ∃ j, j ≤ N ∧ _ ∧ (j = N ↔ (ar (L k) c ((t : Int) - (a k : Int)) && alf c L a fs (k + 1) d ((t + fs k) % c)) = true)
    cases hb : ar (L k) c ((t : Int) - (a k : Int)) with
    | false =>
      rw [if_pos (show b01 false = 0 from rfl)]
      exact ⟨k, by omega, rfl, fun z => absurd z (by omega), fun z => absurd z (by rw [Bool.false_and]; decide)⟩
    | true =>
      rw [if_neg (show ¬ b01 true = 0 by decide), Bool.true_and]
      by_cases hk : k + 1 = N
      · rw [if_pos (show nI (k + 1) = nI N by rw [hk])]
        obtain ⟨j, j1, j2, j3⟩ := ih (k + 1) t m (by omega) (by omega) ht
        refine ⟨j, j1, j2, ?_⟩
        have hd : d = 0 := by omega
        subst hd
        exact j3
      · obtain ⟨s1, s2⟩ := hs k (by omega)
        rw [if_neg (show ¬ nI (k + 1) = nI N by rw [nI_eq (by omega) (by omega)]; omega), if_pos (b_in (show 2 * k < 10 by omega) (by omega)), if_neg (nI_ne0 (by omega) (by omega)), nI_clamp (show 2 * k < 2 ^ 31 by omega), s2, b_sec h1 h2 (by omega)]
        exact ih (k + 1) _ m (by omega) (by omega) (Nat.mod_lt _ (by omega))
theorem b_band45b (n : Nat) {N c : Nat} (hN : N ≤ 5) (h1 : 10 ≤ c) (h2 : c ≤ 120) (L a bw : Nat → Nat) (op secs : Nat → Int32) (ho : opn N c L a op) (hs : ∀ k, k + 1 < N → bw (k + 1) ≤ 200 ∧ secs (2 * k + 1) = nI (bw (k + 1))) (z3 z4 : Int32) :
    ∀ (k t fu : Nat), k < N → k + 2 < fu → t < c → ∃ r, p_Mo_band_45 n fu op secs (1 : Int32) (nI c) z3 z4 (nI k) (-1) (nI t) = some r ∧ (r = -1 ↔ alb c L a bw k t = true) := by
  have hm1 : ∀ k, k < 5 → ¬ nI k = -1 := by decide +kernel
  intro k
  induction k with
  | zero =>
    intro t fu hk hf ht
    obtain ⟨m, rfl⟩ : ∃ m, fu = m + 1 + 1 := ⟨fu - 2, by omega⟩
    have ei : ((120 : Int32) * nI 0) + nI t = nI (120 * 0 + t) := by rw [show (120 : Int32) = nI 120 from rfl, pk_mul, nI_add]
    rw [q_Mo_band_45, if_neg (hm1 0 (by omega)), ei, if_pos (b_in (show 120 * 0 + t < 600 by omega) (by omega)), nI_clamp (show 120 * 0 + t < 2 ^ 31 by omega), ho 0 hk t ht, if_neg (show ¬ (1 : Int32) = 0 by decide), if_neg (show ¬ (1 : Int32) = 0 by decide), if_pos (show nI 0 + (-1 : Int32) = -1 by decide), show nI 0 + (-1 : Int32) = -1 by decide, q_Mo_band_45, if_pos (show (-1 : Int32) = -1 from rfl)]
    show ∃ r, _ ∧ (r = -1 ↔ ar (L 0) c ((t : Int) - (a 0 : Int)) = true)
    cases hb : ar (L 0) c ((t : Int) - (a 0 : Int)) with
    | false =>
      rw [if_pos (show b01 false = 0 from rfl)]
      exact ⟨nI 0, rfl, fun z => absurd z (hm1 0 (by omega)), fun z => absurd z (by decide)⟩
    | true =>
      rw [if_neg (show ¬ b01 true = 0 by decide)]
      exact ⟨-1, rfl, fun _ => rfl, fun _ => rfl⟩
  | succ k ih =>
    intro t fu hk hf ht
    obtain ⟨m, rfl⟩ : ∃ m, fu = m + 1 := ⟨fu - 1, by omega⟩
    obtain ⟨s1, s2⟩ := hs k (by omega)
    have ei : ((120 : Int32) * nI (k + 1)) + nI t = nI (120 * (k + 1) + t) := by rw [show (120 : Int32) = nI 120 from rfl, pk_mul, nI_add]
    have ei2 : ((2 : Int32) * nI (k + 1)) - (1 : Int32) = nI (2 * k + 1) := by
      rw [show (2 : Int32) = nI 2 from rfl, pk_mul]
      exact (pk_sub (a := 2 * (k + 1)) (b := 1) (by omega)).trans (by congr 1)
    rw [q_Mo_band_45, if_neg (hm1 (k + 1) (by omega)), ei, if_pos (b_in (show 120 * (k + 1) + t < 600 by omega) (by omega)), nI_clamp (show 120 * (k + 1) + t < 2 ^ 31 by omega), ho (k + 1) hk t ht, if_neg (show ¬ (1 : Int32) = 0 by decide), if_neg (show ¬ (1 : Int32) = 0 by decide), pk_m1, if_neg (hm1 k (by omega)), ei2, if_pos (b_in (show 2 * k + 1 < 10 by omega) (by omega)), if_neg (nI_ne0 (by omega) (by omega)), nI_clamp (show 2 * k + 1 < 2 ^ 31 by omega), s2, b_sec h1 h2 (by omega)]
    show ∃ r, _ ∧ (r = -1 ↔ (ar (L (k + 1)) c ((t : Int) - (a (k + 1) : Int)) && alb c L a bw k ((t + bw (k + 1)) % c)) = true)
    cases hb : ar (L (k + 1)) c ((t : Int) - (a (k + 1) : Int)) with
    | false =>
      rw [if_pos (show b01 false = 0 from rfl)]
      exact ⟨nI (k + 1), rfl, fun z => absurd z (hm1 (k + 1) (by omega)), fun z => absurd z (by rw [Bool.false_and]; decide)⟩
    | true =>
      rw [if_neg (show ¬ b01 true = 0 by decide), Bool.true_and]
      exact ih _ m (by omega) (by omega) (Nat.mod_lt _ (by omega))
theorem b_moBand5 (n : Nat) (hn : 1000 ≤ n) {N w c : Nat} (hN1 : 1 ≤ N) (hN : N ≤ 5) (hw : w < 2) (h1 : 10 ≤ c) (h2 : c ≤ 120) (L a fs bw : Nat → Nat) (op secs : Nat → Int32) (ho : opn N c L a op) (hs : ∀ k, k + 1 < N → fs k ≤ 200 ∧ bw (k + 1) ≤ 200 ∧ secs (2 * k) = nI (fs k) ∧ secs (2 * k + 1) = nI (bw (k + 1))) :
    ∀ (d t fu : Nat), t + d = c → d < fu → p_Mo_band_5 n fu (nI N) op secs (nI w) (nI c) (nI (cnt (fun t => al (fun k => ar (L k) c ((t : Int) + (gn w N fs bw k : Int) - (a k : Int))) N) t)) (nI t) = some (nI (bnd c L (gn w N fs bw) a N)) := by
  intro d
  induction d with
  | zero =>
    intro t fu e hf
    obtain ⟨m, rfl⟩ : ∃ m, fu = m + 1 := ⟨fu - 1, by omega⟩
    rw [q_Mo_band_5, if_pos (show nI c ≤ nI t from nI_le (by omega) (by omega)), show t = c by omega]
    rfl
  | succ d ih =>
    intro t fu e hf
    obtain ⟨m, rfl⟩ : ∃ m, fu = m + 1 := ⟨fu - 1, by omega⟩
    have ih := ih (t + 1) m (by omega) (by omega)
    rw [show cnt (fun t => al (fun k => ar (L k) c ((t : Int) + (gn w N fs bw k : Int) - (a k : Int))) N) (t + 1) = cnt (fun t => al (fun k => ar (L k) c ((t : Int) + (gn w N fs bw k : Int) - (a k : Int))) N) t + (if al (fun k => ar (L k) c ((t : Int) + (gn w N fs bw k : Int) - (a k : Int))) N = true then 1 else 0) from rfl] at ih
    rw [q_Mo_band_5, if_neg (show ¬ nI c ≤ nI t from nI_ge (by omega) (by omega))]
    generalize hz : nI (cnt (fun t => al (fun k => ar (L k) c ((t : Int) + (gn w N fs bw k : Int) - (a k : Int))) N) t) = z3
    rw [← nI_add, hz] at ih
    by_cases h0 : w = 0
    · subst h0
      rw [show nI 0 = (0 : Int32) from rfl]
      rw [if_pos (show (0 : Int32) = 0 from rfl), if_pos (show (0 : Int32) = 0 from rfl)]
      obtain ⟨j, j1, j2, j3⟩ := b_band45f n hN h1 h2 L a fs op secs ho (fun k hk => ⟨(hs k hk).1, (hs k hk).2.2.1⟩) z3 (nI t) N 0 t n (by omega) (by omega) (by omega)
      rw [show (nI 0 : Int32) = 0 from rfl] at j2
      rw [j2, Option.bind_some, nI_1]
      have ek : al (fun k => ar (L k) c ((t : Int) + (gn 0 N fs bw k : Int) - (a k : Int))) N = true ↔ j = N := by
        rw [j3, al_iff, alf_iff (by omega)]
        constructor
        · intro h k hk; have := h k hk; rw [Nat.zero_add]; exact this
        · intro h k hk; have := h k hk; rw [Nat.zero_add] at this; exact this
      by_cases hj : j = N
      · rw [if_pos (show nI j = nI N by rw [hj])]
        rw [if_pos (ek.mpr hj)] at ih
        exact ih
      · rw [if_neg (show ¬ nI j = nI N by rw [nI_eq (by omega) (by omega)]; exact hj)]
        rw [if_neg (fun z => hj (ek.mp z))] at ih
        exact ih
    · have hw1 : w = 1 := by omega
      subst hw1
      rw [show nI 1 = (1 : Int32) from rfl]
      rw [if_neg (show ¬ (1 : Int32) = 0 by decide), if_neg (show ¬ (1 : Int32) = 0 by decide)]
      obtain ⟨r, j2, j3⟩ := b_band45b n hN h1 h2 L a bw op secs ho (fun k hk => ⟨(hs k hk).2.1, (hs k hk).2.2.2⟩) z3 (nI t) (N - 1) t n (by omega) (by omega) (by omega)
      rw [show nI N - (1 : Int32) = nI (N - 1) from pk_sub (a := N) (b := 1) (by omega), j2, Option.bind_some, show nI t + 1 = nI (t + 1) from nI_1 t]
      have ek : al (fun k => ar (L k) c ((t : Int) + (gn 1 N fs bw k : Int) - (a k : Int))) N = true ↔ r = -1 := by
        rw [j3, al_iff, alb_iff (by omega)]
        constructor
        · intro h k hk; exact h k (by omega)
        · intro h k hk; exact h k (by omega)
      by_cases hj : r = -1
      · rw [if_pos hj]
        rw [if_pos (ek.mpr hj)] at ih
        exact ih
      · rw [if_neg hj]
        rw [if_neg (fun z => hj (ek.mp z))] at ih
        exact ih
theorem b_moBand (n : Nat) (hn : 1000 ≤ n) {N w c : Nat} (hN1 : 1 ≤ N) (hN : N ≤ 5) (hw : w < 2) (h1 : 10 ≤ c) (h2 : c ≤ 120) (L a fs bw : Nat → Nat) (op secs : Nat → Int32) (ho : opn N c L a op) (hs : ∀ k, k + 1 < N → fs k ≤ 200 ∧ bw (k + 1) ≤ 200 ∧ secs (2 * k) = nI (fs k) ∧ secs (2 * k + 1) = nI (bw (k + 1))) :
    p_Mo_band n (nI w) (nI c) (nI N) op secs = some (nI (bnd c L (gn w N fs bw) a N)) := by
  unfold p_Mo_band
  have := b_moBand5 n hn hN1 hN hw h1 h2 L a fs bw op secs ho hs c 0 n (by omega) (by omega)
  rw [show (0 : Int32) = nI 0 from rfl]
  rw [show cnt (fun t => al (fun k => ar (L k) c ((t : Int) + (gn w N fs bw k : Int) - (a k : Int))) N) 0 = 0 from rfl] at this
  rw [this]
  rfl
