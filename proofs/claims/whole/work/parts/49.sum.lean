/-- the rows of offsets over the cycles c .. c + d - 1 that are tried -/
def cS (c1 c2 cb cs N : Nat) (l : Nat → Nat) : Nat → Nat → Nat
  | _, 0 => 0
  | c, d + 1 => (if (pg c1 c2 cb c && ac l c 0 N) = true then chs cs c ^ (N - 1) else 0) + cS c1 c2 cb cs N l (c + 1) d
theorem cS_skip {c1 c2 cb cs N : Nat} {l : Nat → Nat} : ∀ (j x d : Nat), (∀ i, i < j → i < d → pg c1 c2 cb (x + i) = false) → cS c1 c2 cb cs N l x d = cS c1 c2 cb cs N l (x + j) (d - j) := by
  intro j
  induction j with
  | zero => intro x d _; rfl
  | succ j ih =>
    intro x d h
    cases d with
    | zero => rw [Nat.zero_sub]; rfl
    | succ d =>
      have h0 := h 0 (by omega) (by omega)
      rw [Nat.add_zero] at h0
      show (if (pg c1 c2 cb x && ac l x 0 N) = true then chs cs x ^ (N - 1) else 0) + cS c1 c2 cb cs N l (x + 1) d = _
      rw [h0, ih (x + 1) d (fun i h1 h2 => by
        have := h (i + 1) (by omega) (by omega)
        rw [show x + 1 + i = x + (i + 1) by omega]; exact this)]
      rw [show x + 1 + j = x + (j + 1) by omega, show d + 1 - (j + 1) = d - j by omega]
      simp
theorem b_allRows5 (n : Nat) (hn : 1000 ≤ n) {c1 c2 cb cs N : Nat} (h1 : c1 ≤ 120) (h2 : c2 ≤ 120) (hb1 : 1 ≤ cb) (hb2 : cb ≤ 110) (hs1 : 1 ≤ cs) (hs2 : cs ≤ 60) (hN0 : 1 ≤ N) (hN : N ≤ 5) (l : Nat → Nat) (f : Nat → Int32) (hl : ∀ k, k < N → l k ≤ 120 ∧ f k = nI (l k)) :
    ∀ (d c s fu : Nat), c + d = 121 → d < fu → p_Road_allRows_5 n fu (nI N) (nI c1) (nI c2) (nI cb) f (nI cs) (lN s) (nI c) = some (lN (s + cS c1 c2 cb cs N l c d)) := by
  intro d
  induction d with
  | zero =>
    intro c s fu e hf
    obtain ⟨m, rfl⟩ : ∃ m, fu = m + 1 := ⟨fu - 1, by omega⟩
    rw [q_Road_allRows_5, if_pos (show (120 : Int32) < nI c from nI_lt (a := 120) (by omega) (by omega))]
    rfl
  | succ d ih =>
    intro c s fu e hf
    obtain ⟨m, rfl⟩ : ∃ m, fu = m + 1 := ⟨fu - 1, by omega⟩
    rw [q_Road_allRows_5, if_neg (show ¬ (120 : Int32) < nI c from nI_nlt (a := 120) (by omega) (by omega)), if_neg (show ¬ nI N ≤ 0 from nI_nle (by omega) (by omega)), b_tries n (by omega) (by omega) h1 h2 hb1 hb2 hN l f hl, Option.bind_some, nI_1]
    show _ = some (lN (s + ((if (pg c1 c2 cb c && ac l c 0 N) = true then chs cs c ^ (N - 1) else 0) + cS c1 c2 cb cs N l (c + 1) d)))
    cases hp : (pg c1 c2 cb c && ac l c 0 N) with
    | false =>
      rw [if_pos (show b01 false = 0 from rfl), Int64.add_zero, ih (c + 1) s m (by omega) (by omega)]
      simp
    | true =>
      rw [if_neg (show ¬ b01 true = 0 by decide), b_rowsBehind0 n (by omega) (by omega) hs1 hs2 hN, Option.bind_some, lN_add, ih (c + 1) _ m (by omega) (by omega)]
      simp; congr 1; omega
theorem b_allRows (n : Nat) (hn : 1000 ≤ n) {c1 c2 cb cs N : Nat} (h1 : c1 ≤ 120) (h2 : c2 ≤ 120) (hb1 : 1 ≤ cb) (hb2 : cb ≤ 110) (hs1 : 1 ≤ cs) (hs2 : cs ≤ 60) (hN : N ≤ 5) (l : Nat → Nat) (f : Nat → Int32) (hl : ∀ k, k < N → l k ≤ 120 ∧ f k = nI (l k)) :
    p_Road_allRows n (nI N) (nI c1) (nI c2) (nI cb) f (nI cs) = some (lN (if N = 0 then 0 else cS c1 c2 cb cs N l 10 111)) := by
  unfold p_Road_allRows
  by_cases hN0 : N = 0
  · subst hN0
    obtain ⟨m, rfl⟩ : ∃ m, n = m + 1 := ⟨n - 1, by omega⟩
    rw [q_Road_allRows_5, if_neg (show ¬ (120 : Int32) < (10 : Int32) by decide), if_pos (show nI 0 ≤ 0 by decide)]
    rfl
  · have := b_allRows5 n hn h1 h2 hb1 hb2 hs1 hs2 (by omega) hN l f hl 111 10 0 n (by omega) (by omega)
    rw [Nat.zero_add] at this
    rw [show (0 : Int64) = lN 0 from rfl, show (10 : Int32) = nI 10 from rfl, this, if_neg hN0]
    rfl
theorem pg_step {c1 c2 cb c i : Nat} (h1 : c1 ≤ c) (hm : (c - c1) % cb = 0) (hi : 1 ≤ i) (hib : i < cb) : pg c1 c2 cb (c + i) = false := by
  have e : (c + i - c1) % cb = i := by
    rw [show c + i - c1 = (c - c1) + i by omega, Nat.add_mod, hm, Nat.zero_add, Nat.mod_mod, Nat.mod_eq_of_lt hib]
  unfold pg
  rw [e]
  have : ¬ i = 0 := by omega
  simp [this]
theorem b_moAll7 (n : Nat) (hn : 1000 ≤ n) {c1 c2 cb cs N : Nat} (h10 : 10 ≤ c1) (h1 : c1 ≤ 120) (h2 : c2 ≤ 120) (hb1 : 1 ≤ cb) (hb2 : cb ≤ 110) (hs1 : 1 ≤ cs) (hs2 : cs ≤ 60) (hN : N ≤ 5) (l : Nat → Nat) (f : Nat → Int32) (hl : ∀ k, k < N → l k ≤ 120 ∧ f k = nI (l k)) :
    ∀ (fu c s : Nat), c1 ≤ c → (c - c1) % cb = 0 → c ≤ 230 → 231 ≤ c + fu → p_Mo_allRows_7 n fu (nI c2) (nI N) f (nI cb) (nI cs) (lN s) (nI c) = some (lN (s + cS c1 c2 cb cs N l c (121 - c))) := by
  intro fu
  induction fu with
  | zero => intro c s _ _ h3 h4; omega
  | succ m ih =>
    intro c s hc1 hm hc hf
    rw [q_Mo_allRows_7]
    by_cases hx : c2 < c
    · rw [if_pos (show nI c2 < nI c from nI_lt hx (by omega))]
      have : cS c1 c2 cb cs N l c (121 - c) = 0 := by
        rw [cS_skip (121 - c) c (121 - c) (fun i _ _ => by
          unfold pg
          have : ¬ c + i ≤ c2 := by omega
          simp [this]), Nat.sub_self]
        rfl
      rw [this, Nat.add_zero]
    · rw [if_neg (show ¬ nI c2 < nI c from nI_nlt (by omega) (by omega)), b_mayBe n (by omega) (by omega) hN l f hl, Option.bind_some, nI_add]
      have hpg : pg c1 c2 cb c = true := by
        unfold pg
        have : c ≤ c2 := by omega
        simp [hc1, hm, this]
      have hsum : cS c1 c2 cb cs N l c (121 - c) = (if ac l c 0 N = true then chs cs c ^ (N - 1) else 0) + cS c1 c2 cb cs N l (c + cb) (121 - (c + cb)) := by
        rw [show 121 - c = (120 - c) + 1 by omega]
        show (if (pg c1 c2 cb c && ac l c 0 N) = true then chs cs c ^ (N - 1) else 0) + cS c1 c2 cb cs N l (c + 1) (120 - c) = _
        rw [hpg, Bool.true_and, cS_skip (cb - 1) (c + 1) (120 - c) (fun i h3 _ => by
          rw [show c + 1 + i = c + (i + 1) by omega]
          exact pg_step hc1 hm (by omega) (by omega)), show c + 1 + (cb - 1) = c + cb by omega, show 120 - c - (cb - 1) = 121 - (c + cb) by omega]
      have hm2 : (c + cb - c1) % cb = 0 := by
        rw [show c + cb - c1 = (c - c1) + cb by omega, Nat.add_mod_right, hm]
      cases ha : ac l c 0 N with
      | false =>
        rw [if_pos (show b01 false = 0 from rfl), Int64.add_zero, ih (c + cb) s (by omega) hm2 (by omega) (by omega), hsum, ha]
        simp
      | true =>
        rw [if_neg (show ¬ b01 true = 0 by decide), b_rowsOf n (by omega) (by omega) hs1 hs2 hN, Option.bind_some, lN_add, ih (c + cb) _ (by omega) hm2 (by omega) (by omega), hsum, ha]
        simp; congr 1; omega
theorem cS_low {c1 c2 cb cs N : Nat} {l : Nat → Nat} (h : 10 ≤ c1) (h2 : c1 ≤ 120) : cS c1 c2 cb cs N l 10 111 = cS c1 c2 cb cs N l c1 (121 - c1) := by
  rw [cS_skip (c1 - 10) 10 111 (fun i h3 _ => by
    unfold pg
    have : ¬ c1 ≤ 10 + i := by omega
    simp [this]), show 10 + (c1 - 10) = c1 by omega, show 111 - (c1 - 10) = 121 - c1 by omega]
theorem b_moAllRows (n : Nat) (hn : 1000 ≤ n) {c1 c2 cb cs N : Nat} (h10 : 10 ≤ c1) (h1 : c1 ≤ 120) (h2 : c2 ≤ 120) (hb1 : 1 ≤ cb) (hb2 : cb ≤ 110) (hs1 : 1 ≤ cs) (hs2 : cs ≤ 60) (hN : N ≤ 5) (l : Nat → Nat) (f : Nat → Int32) (hl : ∀ k, k < N → l k ≤ 120 ∧ f k = nI (l k)) :
    p_Mo_allRows n (nI c1) (nI c2) (nI N) f (nI cb) (nI cs) = some (lN (if N = 0 then 0 else cS c1 c2 cb cs N l 10 111)) := by
  unfold p_Mo_allRows
  have := b_moAll7 n hn h10 h1 h2 hb1 hb2 hs1 hs2 hN l f hl n c1 0 (Nat.le_refl _) (by rw [Nat.sub_self, Nat.zero_mod]) (by omega) (by omega)
  rw [Nat.zero_add] at this
  rw [show (0 : Int64) = lN 0 from rfl, this, Option.bind_some, cS_low h10 h1]
  by_cases hN0 : N = 0
  · subst hN0
    rw [if_pos (show nI 0 = 0 from rfl), if_pos rfl]
  · rw [if_neg (show ¬ nI N = 0 from nI_ne0 (by omega) (by omega)), if_neg hN0]
