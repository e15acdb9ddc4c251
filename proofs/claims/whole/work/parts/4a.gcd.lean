/-! fractions in least terms -/
theorem b_lN0 {b : Nat} (hb : b < 2 ^ 62) : lN b = 0 ↔ b = 0 := by
  have := pk_lEQ (a := b) (b := 0) (by omega) (by omega)
  exact this
theorem b_cd9 (n : Nat) : ∀ (b a r fu : Nat), b + r ≤ 199 → b < fu → a < 2 ^ 62 → p_WO_commonDivisor_9 n fu (lN a) (lN b) (nI r) = some (lN (Nat.gcd a b)) := by
  intro b
  induction b using Nat.strongRecOn with
  | _ b ih =>
    intro a r fu h1 h2 ha
    obtain ⟨m, rfl⟩ : ∃ m, fu = m + 1 := ⟨fu - 1, by omega⟩
    rw [q_WO_commonDivisor_9]
    simp only [lg_cmp_eq, b_lN0 (show b < 2 ^ 62 by omega)]
    by_cases hb : b = 0
    · subst hb
      rw [if_pos rfl, Nat.gcd_zero_right]
    · rw [if_neg hb, if_neg (show ¬ (200 : Int32) ≤ nI r from nI_ge (b := 200) (by omega) (by omega)), if_neg hb, pk_lRem (by omega) (by omega) (by omega), nI_1]
      have hlt := Nat.mod_lt a (show 0 < b by omega)
      rw [ih (a % b) hlt b (r + 1) m (by omega) (by omega) (by omega)]
      congr 2
      rw [Nat.gcd_comm a b, Nat.gcd_rec b a, Nat.gcd_comm]
theorem b_co6 (n : Nat) : ∀ (b a fu : Nat), b < fu → a < 2 ^ 62 → b < 2 ^ 62 → p_Mo_common_6 n fu (lN a) (lN b) = some (lN (Nat.gcd a b)) := by
  intro b
  induction b using Nat.strongRecOn with
  | _ b ih =>
    intro a fu h2 ha hb2
    obtain ⟨m, rfl⟩ : ∃ m, fu = m + 1 := ⟨fu - 1, by omega⟩
    rw [q_Mo_common_6]
    simp only [lg_cmp_le, b_lN0 hb2]
    have e0 : (lN b ≤ (0 : Int64)) ↔ b = 0 := by
      have := pk_lLE (a := b) (b := 0) (by omega) (by omega)
      exact this.trans (by omega)
    simp only [e0]
    by_cases hb : b = 0
    · subst hb
      rw [if_pos rfl, Nat.gcd_zero_right]
    · rw [if_neg hb, if_neg hb, pk_lRem (by omega) (by omega) (by omega)]
      have hlt := Nat.mod_lt a (show 0 < b by omega)
      rw [ih (a % b) hlt b m (by omega) (by omega) (by omega)]
      congr 2
      rw [Nat.gcd_comm a b, Nat.gcd_rec b a, Nat.gcd_comm]
/-- a fraction's part in least terms -/
def ltm (up low : Nat) (p : Int32) : Int64 := if p = 0 then lN (up / Nat.gcd up low) else lN (low / Nat.gcd up low)
theorem b_leastTerms (n : Nat) (hn : 1000 ≤ n) {up low : Nat} (hu : up < 2 ^ 62) (h1 : 1 ≤ low) (h2 : low ≤ 199) (p : Int32) : p_WO_leastTerms n (lN up) (lN low) p = some (ltm up low p) := by
  have hg : 0 < Nat.gcd up low := Nat.gcd_pos_of_pos_right up (by omega)
  have hg2 : Nat.gcd up low ≤ low := Nat.gcd_le_right up (by omega)
  have : p_WO_commonDivisor_9 n n (lN up) (lN low) (0 : Int32) = some (lN (Nat.gcd up low)) := b_cd9 n low up 0 n (by omega) (by omega) hu
  unfold p_WO_leastTerms p_WO_commonDivisor ltm
  rw [this]
  simp only [Option.bind_some, lg_cmp_gt, b_lN0 (show Nat.gcd up low < 2 ^ 62 by omega), if_neg (show ¬ Nat.gcd up low = 0 by omega)]
  have h0 : (0 : Int64) < lN (Nat.gcd up low) := by
    have := (pk_lLT (a := 0) (b := Nat.gcd up low) (by omega) (by omega)).mpr hg
    exact this
  rw [if_pos h0]
  by_cases hp : p = 0
  · rw [if_pos hp, if_pos hp, pk_lDiv (by omega) hg (by omega)]
  · rw [if_neg hp, if_neg hp, pk_lDiv (by omega) hg (by omega)]
theorem b_share (n : Nat) {up low : Nat} (hun : up < n) (hu : up < 2 ^ 62) (h1 : 1 ≤ low) (h2 : low ≤ 199) (p : Int32) : p_Mo_share n (lN up) (lN low) p = some (ltm up low p) := by
  have hg : 0 < Nat.gcd up low := Nat.gcd_pos_of_pos_right up (by omega)
  have hg2 : Nat.gcd up low ≤ low := Nat.gcd_le_right up (by omega)
  have := b_co6 n up low n hun (by omega) hu
  rw [Nat.gcd_comm] at this
  unfold p_Mo_share p_Mo_common ltm
  rw [this]
  simp only [Option.bind_some, b_lN0 (show Nat.gcd up low < 2 ^ 62 by omega), if_neg (show ¬ Nat.gcd up low = 0 by omega)]
  by_cases hp : p = 0
  · rw [if_pos hp, if_pos hp, pk_lDiv (by omega) hg (by omega)]
  · rw [if_neg hp, if_neg hp, pk_lDiv (by omega) hg (by omega)]
