theorem b_st : ∀ i, i < 5 → ∀ j, j < 5 → (nI j = nI i + (1 : Int32) ↔ j = i + 1) ∧ (nI j = nI i - (1 : Int32) ↔ i = j + 1) ∧ (nI i - nI j = (1 : Int32) ↔ i = j + 1) ∧ (nI j - nI i = (1 : Int32) ↔ j = i + 1) ∧ (nI j ≤ nI i ↔ j ≤ i) := by decide +kernel
theorem b_cr82 (n : Nat) (hn : 3 ≤ n) (sec wei : Nat → Int32) {N : Nat} (h1 : 1 ≤ N) (h2 : N < 5) : p_Mo_crossing_82 n n (0 : Int32) (nI N) sec wei =
    some (upd (upd sec (2 * N - 2) 1) (2 * N - 1) 1, upd (upd wei (2 * N - 2) 0) (2 * N - 1) 0) := by
  obtain ⟨m, rfl⟩ : ∃ m, n = m + 3 := ⟨n - 3, by omega⟩
  have e0 : (((2 : Int32) * nI N) - (2 : Int32)) + 0 = nI (2 * N - 2) := by
    have hh : ∀ k, k < 5 → 1 ≤ k → (((2 : Int32) * nI k) - (2 : Int32)) + 0 = nI (2 * k - 2) := by decide +kernel
    exact hh N h2 h1
  have e1 : (((2 : Int32) * nI N) - (2 : Int32)) + ((0 : Int32) + 1) = nI (2 * N - 1) := by
    have hh : ∀ k, k < 5 → 1 ≤ k → (((2 : Int32) * nI k) - (2 : Int32)) + ((0 : Int32) + 1) = nI (2 * k - 1) := by decide +kernel
    exact hh N h2 h1
  rw [q_Mo_crossing_82, if_neg (by decide), e0, if_pos (b_in (by omega) (by omega)), if_pos (b_in (by omega) (by omega)), nI_clamp (by omega)]
  rw [q_Mo_crossing_82, if_neg (by decide), e1, if_pos (b_in (by omega) (by omega)), if_pos (b_in (by omega) (by omega)), nI_clamp (by omega)]
  rw [q_Mo_crossing_82, if_pos (by decide)]
