theorem b_pl43 (n : Nat) (hn : 100 ≤ n) (offs ho : Nat → Int32) {N i : Nat} (hN : N ≤ 5) (hi : i < 24) : ∃ r : Nat → Int32, p_Mo_plan_43 n n (nI N) offs (nI i) (0 : Int32) ho = some r ∧ (∀ k, k < N → r (5 * i + k) = offs k) ∧ ∀ j, (j < 5 * i ∨ 5 * i + N ≤ j) → r j = ho j := by
  have key : ∀ (d k0 fu : Nat) (f : Nat → Int32), k0 + d = N → d < fu → ∃ r : Nat → Int32, p_Mo_plan_43 n fu (nI N) offs (nI i) (nI k0) f = some r ∧ (∀ k, k0 ≤ k → k < N → r (5 * i + k) = offs k) ∧ ∀ j, (j < 5 * i + k0 ∨ 5 * i + N ≤ j) → r j = f j := by
    intro d
    induction d with
    | zero =>
      intro k0 fu f h1 h2
      obtain ⟨m, rfl⟩ : ∃ m, fu = m + 1 := ⟨fu - 1, by omega⟩
      refine ⟨f, ?_, fun k hk hk2 => by omega, fun j _ => rfl⟩
      rw [q_Mo_plan_43, if_pos (show nI N ≤ nI k0 from nI_le (by omega) (by omega))]
    | succ d ih =>
      intro k0 fu f h1 h2
      obtain ⟨m, rfl⟩ : ∃ m, fu = m + 1 := ⟨fu - 1, by omega⟩
      have e5 : (5 : Int32) * nI i + nI k0 = nI (5 * i + k0) := by rw [show (5 : Int32) * nI i = nI (5 * i) from pk_mul 5 i, nI_add]
      obtain ⟨r, hr, hr1, hr2⟩ := ih (k0 + 1) m (upd f (5 * i + k0) (offs k0)) (by omega) (by omega)
      refine ⟨r, ?_, ?_, ?_⟩
      · rw [q_Mo_plan_43, if_neg (show ¬ nI N ≤ nI k0 from nI_ge (by omega) (by omega)), if_pos (b_in (by omega) (by omega)), e5, if_pos (b_in (by omega) (by omega)), nI_clamp (by omega), nI_clamp (by omega), nI_1]
        exact hr
      · intro k hk hk2
        by_cases hkk : k = k0
        · subst hkk
          rw [hr2 _ (Or.inl (by omega))]
          simp [upd]
        · exact hr1 k (by omega) hk2
      · intro j hj
        rw [hr2 j (by omega)]
        have hjn : ¬ j = 5 * i + k0 := by omega
        simp [upd, hjn]
  obtain ⟨r, h1, h2, h3⟩ := key N 0 n ho (by omega) (by omega)
  exact ⟨r, h1, fun k hk => h2 k (by omega) hk, fun j hj => h3 j (by omega)⟩
