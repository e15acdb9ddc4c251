/-- what a change costs, both ways told: the class's answer and the reference's -/
theorem b_change (n : Nat) (hn : 100 ≤ n) {N : Nat} (hN : N ≤ 5) {T : Nat → Option (Int32 × Int32 × (Nat → Int32))} {hcr hcy hof : Nat → Int32} (hH : hrR N T hcr hcy hof) (a0 a1 : Int32) :
    ∃ r : Int64, p_Tt_changeCost n a0 a1 (nI N) T = some r ∧ p_Mo_change n a0 a1 (nI N) hcr hcy hof = some r := by
  unfold p_Tt_changeCost p_Mo_change
  simp only [b_within, b_isIn, Option.bind_some, b_one]
  by_cases w0 : ((0 : Int64) ≤ a0.toInt64 ∧ a0.toInt64 ≤ (23 : Int64))
  · by_cases w1 : ((0 : Int64) ≤ a1.toInt64 ∧ a1.toInt64 ≤ (23 : Int64))
    · simp only [if_neg (show ¬ ¬ ((0 : Int64) ≤ a0.toInt64 ∧ a0.toInt64 ≤ (23 : Int64)) from fun z => z w0), if_neg (show ¬ ¬ ((0 : Int64) ≤ a1.toInt64 ∧ a1.toInt64 ≤ (23 : Int64)) from fun z => z w1)]
      rw [b_le32, b_ge32, show (0 : Int64).toInt = 0 by decide, show (23 : Int64).toInt = 23 by decide] at w0 w1
      obtain ⟨i, hi, ei, -⟩ := b_nat (x := a0) (m := 24) (by omega)
      obtain ⟨j, hj, ej, -⟩ := b_nat (x := a1) (m := 24) (by omega)
      subst ei ej
      simp only [if_pos (b_in hi (by omega)), if_pos (b_in hj (by omega)), nI_clamp (show i < 2 ^ 31 by omega), nI_clamp (show j < 2 ^ 31 by omega)]
      by_cases hN0 : N = 0
      · subst hN0
        rcases hH i hi with ⟨e1, e2⟩ | ⟨cy, m, f1, f, e1, y2, y3, -⟩
        · rw [e1, if_pos (show nI 0 = 0 from rfl)]
          cases T j <;> exact ⟨_, rfl, rfl⟩
        · omega
      · rw [if_neg (show ¬ nI N = 0 from nI_ne0 (by omega) (by omega))]
        rcases hH i hi with ⟨e1, e2⟩ | ⟨cy, m, f1, f, e1, y2, y3, y4, y5, y6, y7, y8⟩
        · rw [e1, e2, if_neg (show ¬ (0 : Int32) = nI N from fun z => nI_ne0 (n := N) (by omega) (by omega) z.symm)]
          cases T j <;> exact ⟨_, rfl, rfl⟩
        · rcases hH j hj with ⟨d1, d2⟩ | ⟨cy2, m2, g1, g, d1, z2, z3, z4, z5, z6, z7, z8⟩
          · rw [e1, d1, y6, d2]
            simp only [Option.elim, if_neg (show ¬ (0 : Int32) = nI N from fun z => nI_ne0 (n := N) (by omega) (by omega) z.symm), ite_self]
            exact ⟨_, rfl, rfl⟩
          · rw [e1, d1, y6, z6, y7, z7]
            simp only [Option.elim]
            by_cases hm : m = N
            · by_cases hm2 : m2 = N
              · subst hm
                subst hm2
                simp only [if_true]
                rw [b_turns n hn z4 z5 (by omega) f g f1 g1 (fun k hk => ⟨by have := (y8 k hk).1; omega, (y8 k hk).2.1⟩) (fun k hk => ⟨by have := (z8 k hk).1; omega, (z8 k hk).2.1⟩)]
                have hle := twS_le (c := cy2) f g (by omega) m2 0
                have hle2 : cy2 * m2 ≤ 120 * 5 := Nat.mul_le_mul z5 (by omega)
                by_cases hcc : cy = cy2
                · subst hcc
                  have h90 := b_ch90 n z4 z5 (by omega) hi hj f g hof (fun k hk => ⟨by have := (y8 k hk).1; omega, (y8 k hk).2.2⟩) (fun k hk => ⟨by have := (z8 k hk).1; omega, (z8 k hk).2.2⟩) m2 0 0 n (by omega) (by omega)
                  rw [Nat.zero_add] at h90
                  simp only [if_true, Option.bind_some, show (0 : Int64) = lN 0 from rfl]
                  rw [show (0 : Int32) = nI 0 from rfl, h90, nI_add, nI_l (by omega)]
                  exact ⟨_, rfl, rfl⟩
                · have hne : ¬ nI cy = nI cy2 := fun z => hcc ((nI_eq (by omega) (by omega)).mp z)
                  have h90 := b_ch90 n z4 z5 (by omega) hi hj f g hof (fun k hk => ⟨by have := (y8 k hk).1; omega, (y8 k hk).2.2⟩) (fun k hk => ⟨by have := (z8 k hk).1; omega, (z8 k hk).2.2⟩) m2 0 100 n (by omega) (by omega)
                  simp only [if_neg hne, Option.bind_some, show (100 : Int64) = lN 100 from rfl, show (100 : Int32) = nI 100 from rfl]
                  rw [show (0 : Int32) = nI 0 from rfl, h90, nI_add, nI_l (by omega), Nat.add_comm 100]
                  exact ⟨_, rfl, rfl⟩
              · have hne : ¬ nI m2 = nI N := fun z => hm2 ((nI_eq (by omega) (by omega)).mp z)
                simp only [if_neg hne, ite_self]
                exact ⟨_, rfl, rfl⟩
            · have hne : ¬ nI m = nI N := fun z => hm ((nI_eq (by omega) (by omega)).mp z)
              simp only [if_neg hne]
              exact ⟨_, rfl, rfl⟩
    · simp only [if_neg (show ¬ ¬ ((0 : Int64) ≤ a0.toInt64 ∧ a0.toInt64 ≤ (23 : Int64)) from fun z => z w0), if_pos w1]
      exact ⟨_, rfl, rfl⟩
  · simp only [if_pos w0]
    exact ⟨_, rfl, rfl⟩
