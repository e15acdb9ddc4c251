def b_ri : Nat → Int32 := upd (upd (upd (upd (upd (upd (upd (upd (upd (upd (fun _ => 0) 0 1) 1 1) 2 1) 3 1) 4 1) 5 1) 6 1) 7 1) 8 1) 9 1
theorem b_ri43 (m : Nat) : p_Road_init_43 (m + 11) (m + 11) (0 : Int32) (fun _ => 0) = some b_ri := by
  rw [q_Road_init_43, if_neg (by decide), if_pos (by decide)]
  rw [q_Road_init_43, if_neg (by decide), if_pos (by decide)]
  rw [q_Road_init_43, if_neg (by decide), if_pos (by decide)]
  rw [q_Road_init_43, if_neg (by decide), if_pos (by decide)]
  rw [q_Road_init_43, if_neg (by decide), if_pos (by decide)]
  rw [q_Road_init_43, if_neg (by decide), if_pos (by decide)]
  rw [q_Road_init_43, if_neg (by decide), if_pos (by decide)]
  rw [q_Road_init_43, if_neg (by decide), if_pos (by decide)]
  rw [q_Road_init_43, if_neg (by decide), if_pos (by decide)]
  rw [q_Road_init_43, if_neg (by decide), if_pos (by decide)]
  rw [q_Road_init_43, if_pos (by decide)]
  rfl
/-- how many of the d hours from i on have p -/
def hc (p : Nat → Bool) : Nat → Nat → Nat
  | _, 0 => 0
  | i, d + 1 => (if p i = true then 1 else 0) + hc p (i + 1) d
theorem hc_le (p : Nat → Bool) : ∀ d i, hc p i d ≤ d := by
  intro d
  induction d with
  | zero => intro i; exact Nat.le_refl 0
  | succ d ih =>
    intro i
    have := ih (i + 1)
    show (if p i = true then 1 else 0) + hc p (i + 1) d ≤ d + 1
    split <;> omega
theorem hc_congr {p p' : Nat → Bool} : ∀ d i, (∀ h, i ≤ h → h < i + d → p h = p' h) → hc p i d = hc p' i d := by
  intro d
  induction d with
  | zero => intro i _; rfl
  | succ d ih =>
    intro i hh
    show (if p i = true then 1 else 0) + hc p (i + 1) d = (if p' i = true then 1 else 0) + hc p' (i + 1) d
    rw [hh i (by omega) (by omega), ih (i + 1) (fun h h1 h2 => hh h (by omega) (by omega))]
theorem b_planned4 (n : Nat) (T : Nat → Option (Int32 × Int32 × (Nat → Int32))) : ∀ (d i a k : Nat), i + d = 24 → d < k → p_Tt_planned_4 n k T (nI a) (nI i) = some (nI (a + hc (fun h => (T h).isSome) i d)) := by
  intro d
  induction d with
  | zero =>
    intro i a k hi hk
    obtain ⟨k', rfl⟩ : ∃ k', k = k' + 1 := ⟨k - 1, by omega⟩
    rw [q_Tt_planned_4, if_pos (show (24 : Int32) ≤ nI i from nI_le (a := 24) (by omega) (by omega))]
    rfl
  | succ d ih =>
    intro i a k hi hk
    obtain ⟨k', rfl⟩ : ∃ k', k = k' + 1 := ⟨k - 1, by omega⟩
    rw [q_Tt_planned_4, if_neg (show ¬ (24 : Int32) ≤ nI i from nI_ge (b := 24) (by omega) (by omega)), if_pos (b_in (by omega) (by omega)), nI_clamp (by omega), nI_1]
    cases hT : T i with
    | none =>
      show p_Tt_planned_4 n k' T (nI a + 0) (nI (i + 1)) = _
      rw [Int32.add_zero, ih (i + 1) a k' (by omega) (by omega)]
      congr 2
      show _ = a + ((if (T i).isSome = true then 1 else 0) + _)
      rw [hT]; simp
    | some z =>
      show p_Tt_planned_4 n k' T (nI a + 1) (nI (i + 1)) = _
      rw [nI_1, ih (i + 1) (a + 1) k' (by omega) (by omega)]
      congr 2
      show _ = a + ((if (T i).isSome = true then 1 else 0) + _)
      rw [hT]; simp; omega
theorem b_planned (n : Nat) (hn : 100 ≤ n) (T : Nat → Option (Int32 × Int32 × (Nat → Int32))) : p_Tt_planned n T = some (nI (hc (fun h => (T h).isSome) 0 24)) := by
  unfold p_Tt_planned
  have := b_planned4 n T 24 0 0 n (by omega) (by omega)
  rw [Nat.zero_add] at this
  rw [show (0 : Int32) = nI 0 from rfl, this]
  rfl
theorem b_hours4 (n : Nat) (f : Nat → Int32) : ∀ (d i a k : Nat), i + d = 24 → d < k → p_Mo_hours_4 n k f (nI a) (nI i) = some (nI (a + hc (fun h => decide (¬ f h ≤ 0)) i d)) := by
  intro d
  induction d with
  | zero =>
    intro i a k hi hk
    obtain ⟨k', rfl⟩ : ∃ k', k = k' + 1 := ⟨k - 1, by omega⟩
    rw [q_Mo_hours_4, if_pos (show (24 : Int32) ≤ nI i from nI_le (a := 24) (by omega) (by omega))]
    rfl
  | succ d ih =>
    intro i a k hi hk
    obtain ⟨k', rfl⟩ : ∃ k', k = k' + 1 := ⟨k - 1, by omega⟩
    rw [q_Mo_hours_4, if_neg (show ¬ (24 : Int32) ≤ nI i from nI_ge (b := 24) (by omega) (by omega)), if_pos (b_in (by omega) (by omega)), nI_clamp (by omega), nI_1]
    by_cases hf : f i ≤ 0
    · rw [if_pos hf, Int32.add_zero, ih (i + 1) a k' (by omega) (by omega)]
      congr 2
      show _ = a + ((if decide (¬ f i ≤ 0) = true then 1 else 0) + _)
      simp [hf]
    · rw [if_neg hf, nI_1, ih (i + 1) (a + 1) k' (by omega) (by omega)]
      congr 2
      show _ = a + ((if decide (¬ f i ≤ 0) = true then 1 else 0) + _)
      simp [hf]; omega
theorem b_hours (n : Nat) (hn : 100 ≤ n) (f : Nat → Int32) : p_Mo_hours n f = some (nI (hc (fun h => decide (¬ f h ≤ 0)) 0 24)) := by
  unfold p_Mo_hours
  have := b_hours4 n f 24 0 0 n (by omega) (by omega)
  rw [Nat.zero_add] at this
  rw [show (0 : Int32) = nI 0 from rfl, this]
  rfl
/-- both count the same hours -/
theorem hr_hc {N : Nat} {T : Nat → Option (Int32 × Int32 × (Nat → Int32))} {hcr hcy hof : Nat → Int32} (h : hrR N T hcr hcy hof) (hN : N ≤ 5) : hc (fun h => (T h).isSome) 0 24 = hc (fun h => decide (¬ hcr h ≤ 0)) 0 24 := by
  refine hc_congr 24 0 (fun j _ hj => ?_)
  rcases h j (by omega) with ⟨e1, e2⟩ | ⟨cy, m, of1, of, e1, h1, h2, h3, h4, e2, -⟩
  · simp [e1, e2]
  · have : ¬ nI m ≤ 0 := nI_nle (by omega) (by omega)
    simp [e1, e2, this]
theorem b_set13 (n : Nat) (hn : 6 ≤ n) (u f : Nat → Int32) : p_Plan_set_13 n n u (0 : Int32) f = some (upd (upd (upd (upd (upd f 0 (u 0)) 1 (u 1)) 2 (u 2)) 3 (u 3)) 4 (u 4)) := by
  obtain ⟨m, rfl⟩ : ∃ m, n = m + 6 := ⟨n - 6, by omega⟩
  rw [q_Plan_set_13, if_neg (by decide), if_neg (by decide), if_pos (by decide), if_pos (by decide)]
  rw [q_Plan_set_13, if_neg (by decide), if_neg (by decide), if_pos (by decide), if_pos (by decide)]
  rw [q_Plan_set_13, if_neg (by decide), if_neg (by decide), if_pos (by decide), if_pos (by decide)]
  rw [q_Plan_set_13, if_neg (by decide), if_neg (by decide), if_pos (by decide), if_pos (by decide)]
  rw [q_Plan_set_13, if_neg (by decide), if_neg (by decide), if_pos (by decide), if_pos (by decide)]
  rw [q_Plan_set_13, if_pos (by decide)]
  rfl
theorem b_set5 (u f : Nat → Int32) {k : Nat} (hk : k < 5) : upd (upd (upd (upd (upd f 0 (u 0)) 1 (u 1)) 2 (u 2)) 3 (u 3)) 4 (u 4) k = u k := by
  rcases (show k = 0 ∨ k = 1 ∨ k = 2 ∨ k = 3 ∨ k = 4 by omega) with rfl | rfl | rfl | rfl | rfl <;> rfl
