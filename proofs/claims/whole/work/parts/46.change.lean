/-- the way ahead from one offset to another, modulo a cycle; the lesser way round -/
def tr (c oa ob : Nat) : Nat := (((ob : Int) - (oa : Int)) % (c : Int)).toNat
def tw (c oa ob : Nat) : Nat := if c - tr c oa ob < tr c oa ob then c - tr c oa ob else tr c oa ob
theorem tr_lt {c : Nat} (oa ob : Nat) (hc : 1 ≤ c) : tr c oa ob < c := by
  have b1 := Int.emod_nonneg ((ob : Int) - (oa : Int)) (b := (c : Int)) (by omega)
  have b2 := Int.emod_lt_of_pos ((ob : Int) - (oa : Int)) (b := (c : Int)) (by omega)
  unfold tr; omega
theorem tw_le {c : Nat} (oa ob : Nat) (hc : 1 ≤ c) : tw c oa ob ≤ c := by
  have := tr_lt oa ob hc
  unfold tw; split <;> omega
theorem b_tw1 (n : Nat) {c oa ob : Nat} (h1 : 10 ≤ c) (h2 : c ≤ 120) (ha : oa ≤ 120) (hb : ob ≤ 120) : p_WO_wrap n (nI ob - nI oa) (nI c) = some (nI (tr c oa ob)) := by
  rw [b_wrap n _ h1 h2, pk_sub_toInt (by omega) (by omega)]
  rfl
theorem b_tw2 (n : Nat) {c oa ob : Nat} (h1 : 10 ≤ c) (h2 : c ≤ 120) : p_Math_min n (nI (tr c oa ob)) (nI c - nI (tr c oa ob)) = some (nI (tw c oa ob)) := by
  have hr := tr_lt oa ob (show 1 ≤ c by omega)
  unfold p_Math_min tw
  rw [pk_sub (by omega)]
  by_cases h : c - tr c oa ob < tr c oa ob
  · rw [if_pos (nI_lt h (by omega)), if_pos h]
  · rw [if_neg (nI_nlt (by omega) (by omega)), if_neg h]
theorem b_tw3 {c oa ob : Nat} (h1 : 10 ≤ c) (h2 : c ≤ 120) (ha : oa ≤ 120) (hb : ob ≤ 120) :
    ((nI ob - (nI oa - nI oa / nI c * nI c)) + nI c) - ((nI ob - (nI oa - nI oa / nI c * nI c)) + nI c) / nI c * nI c = nI (tr c oa ob) := by
  have e1 : nI oa - nI oa / nI c * nI c = nI (oa % c) := pk_rem (by omega) (by omega) (by omega)
  have hm := Nat.mod_lt oa (show 0 < c by omega)
  have e2 : (nI ob - nI (oa % c)) + nI c = nI (ob + c - oa % c) := by
    apply b_ofInt
    have := pk_sub_toInt (a := ob) (b := oa % c) (by omega) (by omega)
    rw [Jvm.Kit.i32_add (by rw [this, nI_toInt (by omega)]; omega) (by rw [this, nI_toInt (by omega)]; omega), this, nI_toInt (by omega)]
    omega
  rw [e1, e2, pk_rem (by omega) (by omega) (by omega)]
  congr 1
  unfold tr
  have hd : (oa : Int) = (c : Int) * ((oa / c : Nat) : Int) + ((oa % c : Nat) : Int) := by
    have := Nat.div_add_mod oa c
    exact_mod_cast this.symm
  have e3 : ((ob + c - oa % c : Nat) : Int) = ((ob : Int) - (oa : Int)) + (c : Int) * (1 + ((oa / c : Nat) : Int)) := by
    rw [Int.mul_add, Int.mul_one]; omega
  have e4 : (((ob + c - oa % c : Nat) : Int)) % (c : Int) = ((ob : Int) - (oa : Int)) % (c : Int) := by
    rw [e3, Int.add_mul_emod_self_left]
  have e5 : (((ob + c - oa % c) % c : Nat) : Int) = ((ob : Int) - (oa : Int)) % (c : Int) := by
    rw [← e4]; rfl
  omega
/-- the sum of the lesser ways of the crossings k .. k + d - 1 -/
def twS (c : Nat) (oa ob : Nat → Nat) : Nat → Nat → Nat
  | _, 0 => 0
  | k, d + 1 => tw c (oa k) (ob k) + twS c oa ob (k + 1) d
theorem twS_le {c : Nat} (oa ob : Nat → Nat) (hc : 1 ≤ c) : ∀ d k, twS c oa ob k d ≤ c * d := by
  intro d
  induction d with
  | zero => intro k; exact Nat.le_refl 0
  | succ d ih =>
    intro k
    have h1 := ih (k + 1)
    have h2 := tw_le (oa k) (ob k) hc
    show tw c (oa k) (ob k) + twS c oa ob (k + 1) d ≤ c * (d + 1)
    rw [Nat.mul_succ]; omega
theorem b_turns4 (n : Nat) {c m : Nat} (h1 : 10 ≤ c) (h2 : c ≤ 120) (hm : m ≤ 5) (oa ob : Nat → Nat) (fa fb : Nat → Int32) (ha : ∀ k, k < m → oa k ≤ 120 ∧ fa k = nI (oa k)) (hb : ∀ k, k < m → ob k ≤ 120 ∧ fb k = nI (ob k)) :
    ∀ (d k s fu : Nat), k + d = m → d < fu → p_Plan_turnsTo_4 n fu (nI m) fb fa (nI c) (nI s) (nI k) = some (nI (s + twS c oa ob k d)) := by
  intro d
  induction d with
  | zero =>
    intro k s fu e hf
    obtain ⟨f, rfl⟩ : ∃ f, fu = f + 1 := ⟨fu - 1, by omega⟩
    rw [q_Plan_turnsTo_4, if_pos (show nI m ≤ nI k from nI_le (by omega) (by omega))]
    rfl
  | succ d ih =>
    intro k s fu e hf
    obtain ⟨f, rfl⟩ : ∃ f, fu = f + 1 := ⟨fu - 1, by omega⟩
    rw [q_Plan_turnsTo_4, if_neg (show ¬ nI m ≤ nI k from nI_ge (by omega) (by omega)), if_neg (show ¬ (5 : Int32) ≤ nI k from nI_ge (b := 5) (by omega) (by omega)), if_pos (b_in (by omega) (by omega)), if_pos (b_in (by omega) (by omega)), nI_clamp (by omega), (ha k (by omega)).2, (hb k (by omega)).2, b_tw1 n h1 h2 (ha k (by omega)).1 (hb k (by omega)).1, Option.bind_some, b_tw2 n h1 h2, Option.bind_some, nI_add, nI_1, ih (k + 1) _ f (by omega) (by omega)]
    congr 2
    show _ = s + (tw c (oa k) (ob k) + twS c oa ob (k + 1) d)
    omega
theorem b_turns (n : Nat) (hn : 100 ≤ n) {c m : Nat} (h1 : 10 ≤ c) (h2 : c ≤ 120) (hm : m ≤ 5) (oa ob : Nat → Nat) (fa fb : Nat → Int32) (ha : ∀ k, k < m → oa k ≤ 120 ∧ fa k = nI (oa k)) (hb : ∀ k, k < m → ob k ≤ 120 ∧ fb k = nI (ob k)) :
    p_Plan_turnsTo n (nI m) fb fa (nI c) = some (nI (twS c oa ob 0 m)) := by
  unfold p_Plan_turnsTo
  have := b_turns4 n h1 h2 hm oa ob fa fb ha hb m 0 0 n (by omega) (by omega)
  rw [Nat.zero_add] at this
  rw [show (0 : Int32) = nI 0 from rfl, this]
  rfl
theorem b_ch90 (n : Nat) {c m i j : Nat} (h1 : 10 ≤ c) (h2 : c ≤ 120) (hm : m ≤ 5) (hi : i < 24) (hj : j < 24) (oa ob : Nat → Nat) (ho : Nat → Int32) (ha : ∀ k, k < m → oa k ≤ 120 ∧ ho (5 * i + k) = nI (oa k)) (hb : ∀ k, k < m → ob k ≤ 120 ∧ ho (5 * j + k) = nI (ob k)) :
    ∀ (d k s fu : Nat), k + d = m → d < fu → p_Mo_change_90 n fu (nI m) ho (nI i) (nI j) (nI c) (lN s) (nI k) = some (lN (s + twS c oa ob k d)) := by
  intro d
  induction d with
  | zero =>
    intro k s fu e hf
    obtain ⟨f, rfl⟩ : ∃ f, fu = f + 1 := ⟨fu - 1, by omega⟩
    rw [q_Mo_change_90, if_pos (show nI m ≤ nI k from nI_le (by omega) (by omega))]
    rfl
  | succ d ih =>
    intro k s fu e hf
    obtain ⟨f, rfl⟩ : ∃ f, fu = f + 1 := ⟨fu - 1, by omega⟩
    have e5 : ∀ x, (5 : Int32) * nI x + nI k = nI (5 * x + k) := fun x => by rw [show (5 : Int32) * nI x = nI (5 * x) from pk_mul 5 x, nI_add]
    have hcz : ¬ nI c = 0 := nI_ne0 (by omega) (by omega)
    have hr := tr_lt (oa k) (ob k) (show 1 ≤ c by omega)
    rw [q_Mo_change_90, if_neg (show ¬ nI m ≤ nI k from nI_ge (by omega) (by omega))]
    simp only [e5, if_pos (b_in (show 5 * j + k < 120 by omega) (by omega)), if_pos (b_in (show 5 * i + k < 120 by omega) (by omega)), if_neg hcz, nI_clamp (show 5 * j + k < 2 ^ 31 by omega), nI_clamp (show 5 * i + k < 2 ^ 31 by omega), (ha k (by omega)).2, (hb k (by omega)).2, b_tw3 h1 h2 (ha k (by omega)).1 (hb k (by omega)).1, pk_sub (Nat.le_of_lt hr), nI_1]
    by_cases h : c - tr c (oa k) (ob k) ≤ tr c (oa k) (ob k)
    · rw [if_pos (nI_le h (by omega)), nI_l (by omega), lN_add, ih (k + 1) _ f (by omega) (by omega)]
      congr 2
      show _ = s + (tw c (oa k) (ob k) + twS c oa ob (k + 1) d)
      have : tw c (oa k) (ob k) = c - tr c (oa k) (ob k) := by unfold tw; split <;> omega
      omega
    · rw [if_neg (nI_ge (by omega) (by omega)), nI_l (by omega), lN_add, ih (k + 1) _ f (by omega) (by omega)]
      congr 2
      show _ = s + (tw c (oa k) (ob k) + twS c oa ob (k + 1) d)
      have : tw c (oa k) (ob k) = tr c (oa k) (ob k) := by unfold tw; split <;> omega
      omega
