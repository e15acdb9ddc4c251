/-- no least of the crossings k .. k + d - 1 is above c -/
def ac (l : Nat → Nat) (c : Nat) : Nat → Nat → Bool
  | _, 0 => true
  | k, d + 1 => decide (l k ≤ c) && ac l c (k + 1) d
def b01 (b : Bool) : Int32 := if b = true then 1 else 0
theorem b01_0 (b : Bool) : b01 b = 0 ↔ b = false := by cases b <;> decide
theorem b01_b (b : Bool) : dk_bool (b01 b) = true := by cases b <;> rfl
theorem b_mayBe4 (n : Nat) {c N : Nat} (hc : c ≤ 240) (hN : N ≤ 5) (l : Nat → Nat) (f : Nat → Int32) (hl : ∀ k, k < N → l k ≤ 120 ∧ f k = nI (l k)) :
    ∀ (d k : Nat) (b : Bool) (fu : Nat), k + d = N → d < fu → p_Mo_mayBe_4 n fu (nI N) f (nI c) (b01 b) (nI k) = some (b01 (b && ac l c k d)) := by
  intro d
  induction d with
  | zero =>
    intro k b fu e hf
    obtain ⟨m, rfl⟩ : ∃ m, fu = m + 1 := ⟨fu - 1, by omega⟩
    rw [q_Mo_mayBe_4, if_pos (show nI N ≤ nI k from nI_le (by omega) (by omega))]
    cases b <;> rfl
  | succ d ih =>
    intro k b fu e hf
    obtain ⟨m, rfl⟩ : ∃ m, fu = m + 1 := ⟨fu - 1, by omega⟩
    have h1 := hl k (by omega)
    rw [q_Mo_mayBe_4, if_neg (show ¬ nI N ≤ nI k from nI_ge (by omega) (by omega)), nI_1, nI_clamp (by omega), h1.2]
    cases b with
    | false =>
      rw [if_pos (show b01 false = 0 from rfl)]
      exact ih (k + 1) false m (by omega) (by omega)
    | true =>
      rw [if_neg (show ¬ b01 true = 0 by decide), if_pos (b_in (by omega) (by omega))]
      by_cases h : l k ≤ c
      · rw [if_neg (show ¬ nI c < nI (l k) from nI_nlt h (by omega))]
        have := ih (k + 1) true m (by omega) (by omega)
        rw [show b01 true = 1 from rfl] at this
        rw [this]
        show _ = some (b01 (true && (decide (l k ≤ c) && ac l c (k + 1) d)))
        simp [h]
      · rw [if_pos (show nI c < nI (l k) from nI_lt (by omega) (by omega))]
        have := ih (k + 1) false m (by omega) (by omega)
        rw [show b01 false = 0 from rfl] at this
        rw [this]
        show _ = some (b01 (true && (decide (l k ≤ c) && ac l c (k + 1) d)))
        simp [h]
theorem b_mayBe (n : Nat) (hn : 100 ≤ n) {c N : Nat} (hc : c ≤ 240) (hN : N ≤ 5) (l : Nat → Nat) (f : Nat → Int32) (hl : ∀ k, k < N → l k ≤ 120 ∧ f k = nI (l k)) : p_Mo_mayBe n (nI c) (nI N) f = some (b01 (ac l c 0 N)) := by
  unfold p_Mo_mayBe
  have := b_mayBe4 n hc hN l f hl N 0 true n (by omega) (by omega)
  rw [show b01 true = 1 from rfl] at this
  rw [show (0 : Int32) = nI 0 from rfl, this, Option.bind_some, Bool.true_and, if_pos (b01_b _)]
theorem b_tries36 (n : Nat) {c N : Nat} (hc : c ≤ 240) (hN : N ≤ 5) (l : Nat → Nat) (f : Nat → Int32) (hl : ∀ k, k < N → l k ≤ 120 ∧ f k = nI (l k)) :
    ∀ (d k fu : Nat), k + d = N → d < fu → p_Road_tries_36 n fu (nI N) f (nI c) (nI k) = some (b01 (ac l c k d)) := by
  intro d
  induction d with
  | zero =>
    intro k fu e hf
    obtain ⟨m, rfl⟩ : ∃ m, fu = m + 1 := ⟨fu - 1, by omega⟩
    rw [q_Road_tries_36, if_pos (show nI N ≤ nI k from nI_le (by omega) (by omega))]
    rfl
  | succ d ih =>
    intro k fu e hf
    obtain ⟨m, rfl⟩ : ∃ m, fu = m + 1 := ⟨fu - 1, by omega⟩
    have h1 := hl k (by omega)
    rw [q_Road_tries_36, if_neg (show ¬ nI N ≤ nI k from nI_ge (by omega) (by omega)), nI_1, nI_clamp (by omega), h1.2, if_pos (b_in (by omega) (by omega))]
    by_cases h : l k ≤ c
    · rw [if_pos (show nI (l k) ≤ nI c from nI_le h (by omega)), ih (k + 1) m (by omega) (by omega)]
      show _ = some (b01 (decide (l k ≤ c) && ac l c (k + 1) d))
      simp [h]
    · rw [if_neg (show ¬ nI (l k) ≤ nI c from nI_ge (by omega) (by omega))]
      show _ = some (b01 (decide (l k ≤ c) && ac l c (k + 1) d))
      simp [h]; rfl
/-- a cycle is one of those told -/
def pg (c1 c2 cb c : Nat) : Bool := decide (c1 ≤ c) && (decide (c ≤ c2) && decide ((c - c1) % cb = 0))
theorem b_wrap1 (n : Nat) {a c : Nat} (h1 : 1 ≤ c) (h2 : c ≤ 1000) (ha : a < 2 ^ 31) : p_WO_wrap n (nI a) (nI c) = some (nI (a % c)) := by
  unfold p_WO_wrap
  rw [if_pos (show (0 : Int32) < nI c from nI_lt (a := 0) (by omega) (by omega)), b_fm n _ h1 h2, Option.bind_some, nI_toInt ha]
  congr 2
theorem b_tries (n : Nat) (hn : 100 ≤ n) {c c1 c2 cb N : Nat} (hc : c ≤ 240) (h1 : c1 ≤ 120) (h2 : c2 ≤ 120) (hb1 : 1 ≤ cb) (hb2 : cb ≤ 110) (hN : N ≤ 5) (l : Nat → Nat) (f : Nat → Int32) (hl : ∀ k, k < N → l k ≤ 120 ∧ f k = nI (l k)) :
    p_Road_tries n (nI c) (nI c1) (nI c2) (nI cb) (nI N) f = some (b01 (pg c1 c2 cb c && ac l c 0 N)) := by
  unfold p_Road_tries pg
  by_cases g1 : c1 ≤ c
  · rw [if_neg (show ¬ nI c < nI c1 from nI_nlt g1 (by omega))]
    by_cases g2 : c ≤ c2
    · rw [if_neg (show ¬ nI c2 < nI c from nI_nlt g2 (by omega)), pk_sub g1, b_wrap1 n hb1 (by omega) (by omega), Option.bind_some]
      have hm := Nat.mod_lt (c - c1) (show 0 < cb by omega)
      by_cases g3 : (c - c1) % cb = 0
      · rw [g3, if_pos (show nI 0 = 0 from rfl)]
        have := b_tries36 n hc hN l f hl N 0 n (by omega) (by omega)
        rw [show (0 : Int32) = nI 0 from rfl, this]
        simp [g1, g2, g3]
      · rw [if_neg (show ¬ nI ((c - c1) % cb) = 0 from nI_ne0 (by omega) (by omega))]
        simp [g1, g2, g3]; rfl
    · rw [if_pos (show nI c2 < nI c from nI_lt (by omega) (by omega))]
      simp [g1, g2]; rfl
  · rw [if_pos (show nI c < nI c1 from nI_lt (by omega) (by omega))]
    simp [g1]; rfl
/-- how many offsets a crossing can have -/
def chs (cs c : Nat) : Nat := (c + cs - 1) / cs
theorem b_chs {c cs : Nat} (hc : c ≤ 240) (h1 : 1 ≤ cs) (h2 : cs ≤ 60) : ((nI c + nI cs) - (1 : Int32)) / nI cs = nI (chs cs c) := by
  have e : nI (c + cs) - (1 : Int32) = nI (c + cs - 1) := pk_sub (a := c + cs) (b := 1) (by omega)
  rw [nI_add, e, pk_div (by omega) (by omega) (by omega)]
  rfl
theorem chs_le {c cs : Nat} (hc : c ≤ 240) (h1 : 1 ≤ cs) (h2 : cs ≤ 60) : chs cs c ≤ 300 := by
  unfold chs
  have : (c + cs - 1) / cs ≤ c + cs - 1 := Nat.div_le_self _ _
  omega
theorem b_choices (n : Nat) {c cs : Nat} (hc : c ≤ 240) (h1 : 1 ≤ cs) (h2 : cs ≤ 60) : p_Road_choices n (nI c) (nI cs) = some (nI (chs cs c)) := by
  unfold p_Road_choices
  rw [if_pos (show (0 : Int32) < nI cs from nI_lt (a := 0) (by omega) (by omega)), if_neg (nI_ne0 (by omega) (by omega)), b_chs hc h1 h2]
theorem b_rows7 (n : Nat) {c cs N : Nat} (hc : c ≤ 240) (h1 : 1 ≤ cs) (h2 : cs ≤ 60) (hN : N ≤ 5) :
    ∀ (d k s fu : Nat), (k + d = N ∨ (d = 0 ∧ N ≤ k)) → k ≤ 6 → d < fu → p_Road_rowsBehind_7 n fu (nI N) (nI cs) (nI c) (lN s) (nI k) = some (lN (s * chs cs c ^ d)) := by
  intro d
  induction d with
  | zero =>
    intro k s fu e hk hf
    obtain ⟨m, rfl⟩ : ∃ m, fu = m + 1 := ⟨fu - 1, by omega⟩
    rw [q_Road_rowsBehind_7, if_pos (show nI N ≤ nI k from nI_le (by omega) (by omega))]
    simp
  | succ d ih =>
    intro k s fu e hk hf
    obtain ⟨m, rfl⟩ : ∃ m, fu = m + 1 := ⟨fu - 1, by omega⟩
    have hle := chs_le hc h1 h2
    rw [q_Road_rowsBehind_7, if_neg (show ¬ nI N ≤ nI k from nI_ge (by omega) (by omega)), b_choices n hc h1 h2, Option.bind_some, nI_l (by omega), lN_mul, nI_1, ih (k + 1) _ m (by omega) (by omega) (by omega)]
    congr 2
    rw [Nat.pow_succ, Nat.mul_assoc, Nat.mul_comm (chs cs c) (chs cs c ^ d)]
theorem b_rowsOf5 (n : Nat) {c cs N : Nat} (hc : c ≤ 240) (h1 : 1 ≤ cs) (h2 : cs ≤ 60) (hN : N ≤ 5) :
    ∀ (d k s fu : Nat), (k + d = N ∨ (d = 0 ∧ N ≤ k)) → k ≤ 6 → d < fu → p_Mo_rowsOf_5 n fu (nI N) (nI cs) (nI c) (lN s) (nI k) = some (lN (s * chs cs c ^ d)) := by
  intro d
  induction d with
  | zero =>
    intro k s fu e hk hf
    obtain ⟨m, rfl⟩ : ∃ m, fu = m + 1 := ⟨fu - 1, by omega⟩
    rw [q_Mo_rowsOf_5, if_pos (show nI N ≤ nI k from nI_le (by omega) (by omega))]
    simp
  | succ d ih =>
    intro k s fu e hk hf
    obtain ⟨m, rfl⟩ : ∃ m, fu = m + 1 := ⟨fu - 1, by omega⟩
    have hle := chs_le hc h1 h2
    rw [q_Mo_rowsOf_5, if_neg (show ¬ nI N ≤ nI k from nI_ge (by omega) (by omega)), if_neg (nI_ne0 (by omega) (by omega)), b_chs hc h1 h2, nI_l (by omega), lN_mul, nI_1, ih (k + 1) _ m (by omega) (by omega) (by omega)]
    congr 2
    rw [Nat.pow_succ, Nat.mul_assoc, Nat.mul_comm (chs cs c) (chs cs c ^ d)]
theorem b_rowsBehind0 (n : Nat) (hn : 100 ≤ n) {c cs N : Nat} (hc : c ≤ 240) (h1 : 1 ≤ cs) (h2 : cs ≤ 60) (hN : N ≤ 5) : p_Road_rowsBehind n (0 : Int32) (nI c) (nI N) (nI cs) = some (lN (chs cs c ^ (N - 1))) := by
  unfold p_Road_rowsBehind
  have := b_rows7 n hc h1 h2 hN (N - 1) 1 1 n (by omega) (by omega) (by omega)
  rw [Nat.one_mul] at this
  rw [show (1 : Int64) = lN 1 from rfl, show (0 : Int32) + (1 : Int32) = nI 1 from rfl, this]
  rfl
theorem b_rowsOf (n : Nat) (hn : 100 ≤ n) {c cs N : Nat} (hc : c ≤ 240) (h1 : 1 ≤ cs) (h2 : cs ≤ 60) (hN : N ≤ 5) : p_Mo_rowsOf n (nI c) (nI N) (nI cs) = some (lN (chs cs c ^ (N - 1))) := by
  unfold p_Mo_rowsOf
  have := b_rowsOf5 n hc h1 h2 hN (N - 1) 1 1 n (by omega) (by omega) (by omega)
  rw [Nat.one_mul] at this
  rw [show (1 : Int64) = lN 1 from rfl, show (1 : Int32) = nI 1 from rfl, this]
  rfl
