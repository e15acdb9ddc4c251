/-! SMALL LAWS of the decompiled leaves -/
theorem b_within (n : Nat) (a b c : Int64) : p_WO_within n a b c = some (if b ≤ a ∧ a ≤ c then 1 else 0) := by
  unfold p_WO_within
  simp only [lg_cmp_lt, lg_cmp_gt]
  by_cases h1 : a < b
  · rw [if_pos h1, if_neg (fun h => absurd h.1 (by rw [Int64.le_iff_toInt_le]; rw [Int64.lt_iff_toInt_lt] at h1; omega))]
  · rw [if_neg h1]
    by_cases h2 : c < a
    · rw [if_pos h2, if_neg (fun h => absurd h.2 (by rw [Int64.le_iff_toInt_le]; rw [Int64.lt_iff_toInt_lt] at h2; omega))]
    · rw [if_neg h2, if_pos]
      rw [Int64.lt_iff_toInt_lt] at h1 h2
      rw [Int64.le_iff_toInt_le, Int64.le_iff_toInt_le]
      omega
theorem b_isIn (n : Nat) (a b c : Int64) : p_Mo_isIn n a b c = some (if b ≤ a ∧ a ≤ c then 1 else 0) := b_within n a b c
theorem b_bool (c : Prop) [Decidable c] : dk_bool (if c then 1 else 0) = true := by
  by_cases h : c
  · rw [if_pos h]; rfl
  · rw [if_neg h]; rfl
theorem b_one (c : Prop) [Decidable c] : ((if c then (1 : Int32) else 0) = 0) ↔ ¬ c := by
  by_cases h : c
  · rw [if_pos h]; exact ⟨fun q => absurd q (by decide), fun q => absurd h q⟩
  · rw [if_neg h]; exact ⟨fun _ => h, fun _ => rfl⟩
theorem b_le32 (a : Int64) (x : Int32) : a ≤ x.toInt64 ↔ a.toInt ≤ x.toInt := by rw [Int64.le_iff_toInt_le, Int32.toInt_toInt64]
theorem b_ge32 (a : Int64) (x : Int32) : x.toInt64 ≤ a ↔ x.toInt ≤ a.toInt := by rw [Int64.le_iff_toInt_le, Int32.toInt_toInt64]
theorem b_size (n : Nat) (x : Int32) : p_Road_size n x = some x := rfl
theorem b_stepOf (n : Nat) (x : Int32) : p_Road_stepOf n x = some x := rfl
theorem b_told (n : Nat) (x : Int32) : p_Arr_told n x = some x := rfl
theorem b_clear (n : Nat) (x : Int32) : p_Plan_clear n x = some 0 := rfl
theorem b_isMade (n : Nat) (x : Int32) : p_Plan_isMade n x = some (if 0 < x then 1 else 0) := by
  unfold p_Plan_isMade
  by_cases h : 0 < x
  · rw [if_pos h]
    first | rw [if_neg (by rw [Int32.le_iff_toInt_le]; rw [Int32.lt_iff_toInt_lt] at h; omega)] | rw [if_pos h] | simp [h]
  · rw [if_neg h]
    first | rw [if_pos (by rw [Int32.le_iff_toInt_le]; rw [Int32.lt_iff_toInt_lt] at h; omega)] | rw [if_neg h] | simp [h]
theorem b_has (n : Nat) (x size : Int32) : p_Road_has n x size = some (if 0 ≤ x.toInt ∧ x.toInt < size.toInt then 1 else 0) := by
  unfold p_Road_has
  by_cases h1 : x < 0
  · rw [if_pos h1, if_neg]
    rw [Int32.lt_iff_toInt_lt, Int32.toInt_zero] at h1
    omega
  · rw [if_neg h1]
    rw [Int32.lt_iff_toInt_lt, Int32.toInt_zero] at h1
    by_cases h2 : size ≤ x
    · rw [if_pos h2, if_neg]
      rw [Int32.le_iff_toInt_le] at h2
      omega
    · rw [if_neg h2, if_pos]
      rw [Int32.le_iff_toInt_le] at h2
      omega
theorem b_isCrossing (n : Nat) (x : Int32) {N : Nat} (hN : N ≤ 5) : p_Mo_isCrossing n x (nI N) = some (if 0 ≤ x.toInt ∧ x.toInt < N then 1 else 0) := by
  have e : ((nI N).toInt64 - (1 : Int64)).toInt = (N : Int) - 1 := by
    have hh : ∀ k, k < 6 → ((nI k).toInt64 - (1 : Int64)).toInt = (k : Int) - 1 := by decide +kernel
    exact hh N (by omega)
  unfold p_Mo_isCrossing
  rw [b_isIn, Option.bind_some, if_pos (b_bool _)]
  congr 1
  have hz : (0 : Int64).toInt = 0 := by decide
  by_cases h : 0 ≤ x.toInt ∧ x.toInt < N
  · rw [if_pos h, if_pos]
    rw [b_le32, b_ge32, e, hz]; omega
  · rw [if_neg h, if_neg]
    rw [b_le32, b_ge32, e, hz]; omega
theorem b_nI5 {N : Nat} (h : N ≤ 5) : (nI N).toInt = (N : Int) := nI_toInt (by omega)
/-- an int between 0 and a small bound, by its number -/
theorem b_nat {x : Int32} {m : Nat} (h : 0 ≤ x.toInt ∧ x.toInt < m) : ∃ k : Nat, k < m ∧ x = nI k ∧ x.toNatClampNeg = k := by
  refine ⟨x.toInt.toNat, by omega, ?_, ?_⟩
  · apply Int32.toInt_inj.mp
    have := Int32.toInt_lt x
    rw [nI_toInt (by omega)]; omega
  · rfl
theorem b_in {k n : Nat} (h : k < n) (hn : n < 2 ^ 31) : dk_in (nI k) n = true := decide_eq_true (by rw [nI_toInt (by omega)]; omega)
theorem b_pos {c : Nat} (h : 10 ≤ c) (h2 : c ≤ 120) : (0 : Int32) < nI c := by
  have := nI_lt (a := 0) (b := c) (by omega) (by omega)
  exact this
theorem b_isPlanned (n : Nat) (x size cyc : Int32) : p_WO_isPlanned n x size cyc = some (if (0 ≤ x.toInt ∧ x.toInt < size.toInt) ∧ 0 < cyc then 1 else 0) := by
  unfold p_WO_isPlanned
  rw [b_has, b_isMade, Option.bind_some, Option.bind_some]
  by_cases h : 0 ≤ x.toInt ∧ x.toInt < size.toInt
  · rw [if_pos h, if_neg (by decide)]
    by_cases h2 : 0 < cyc
    · rw [if_pos h2, if_neg (by decide), if_pos ⟨h, h2⟩]
    · rw [if_neg h2, if_pos rfl, if_neg (fun q => h2 q.2)]
  · rw [if_neg h, if_pos rfl, if_neg (fun q => h q.1)]
theorem b_in5 {x : Int32} {n : Nat} (h : 0 ≤ x.toInt ∧ x.toInt < n) : dk_in x n = true := decide_eq_true h
theorem b_offsetOf (n : Nat) {x : Int32} (offs : Nat → Int32) (h : 0 ≤ x.toInt ∧ x.toInt < 5) : p_Plan_offsetOf n x offs = some (offs x.toNatClampNeg) := by
  unfold p_Plan_offsetOf
  rw [if_neg (by rw [Int32.lt_iff_toInt_lt, Int32.toInt_zero]; omega), if_neg (by rw [Int32.le_iff_toInt_le, show (5 : Int32).toInt = 5 by decide]; omega), if_pos (b_in5 h)]
theorem b_leastOf (n : Nat) {x size : Int32} (f : Nat → Int32) (h : 0 ≤ x.toInt ∧ x.toInt < size.toInt) (h5 : size.toInt ≤ 5) : p_Road_leastOf n x size f = some (f x.toNatClampNeg) := by
  unfold p_Road_leastOf
  rw [b_has, Option.bind_some, if_pos h, if_neg (by decide), if_pos (b_in5 (by omega))]
theorem b_greenOf (n : Nat) {x size : Int32} (f : Nat → Int32) (h : 0 ≤ x.toInt ∧ x.toInt < size.toInt) (h5 : size.toInt ≤ 5) : p_Road_greenOf n x size f = some (f x.toNatClampNeg) := by
  unfold p_Road_greenOf
  rw [b_has, Option.bind_some, if_pos h, if_neg (by decide), if_pos (b_in5 (by omega))]
theorem b_queueOf (n : Nat) {x size : Int32} (f : Nat → Int32) (h : 0 ≤ x.toInt ∧ x.toInt < size.toInt) (h5 : size.toInt ≤ 5) : p_Road_queueOf n x size f = some (f x.toNatClampNeg) := by
  unfold p_Road_queueOf
  rw [b_has, Option.bind_some, if_pos h, if_neg (by decide), if_pos (b_in5 (by omega))]
theorem b_g1 (k : Nat) (h1 : 1 ≤ k) (h2 : k ≤ 120) : ((nI k - (1 : Int32)).toInt64).toInt = (k : Int) - 1 ∧ ((nI k).toInt64 - (1 : Int64)).toInt = (k : Int) - 1 := by
  have hh : ∀ j, j < 121 → 1 ≤ j → ((nI j - (1 : Int32)).toInt64).toInt = (j : Int) - 1 ∧ ((nI j).toInt64 - (1 : Int64)).toInt = (j : Int) - 1 := by decide +kernel
  exact hh k (by omega) h1
