/-! wrap: a second modulo a cycle -/
theorem b_xor0 (x : Int32) {c : Nat} (h2 : c < 2 ^ 31) : (0 ≤ x ^^^ nI c) ↔ 0 ≤ x.toInt := by
  have hc : (nI c).toBitVec.msb = false := by
    rw [BitVec.msb_eq_toInt]
    have : (nI c).toBitVec.toInt = (c : Int) := nI_toInt h2
    rw [this]; simp
  have hx : (x ^^^ nI c).toBitVec.msb = x.toBitVec.msb := by
    rw [Int32.toBitVec_xor, BitVec.msb_xor, hc, Bool.xor_false]
  rw [BitVec.msb_eq_toInt, BitVec.msb_eq_toInt] at hx
  rw [Int32.le_iff_toInt_le, Int32.toInt_zero]
  have e1 : (x ^^^ nI c).toBitVec.toInt = (x ^^^ nI c).toInt := rfl
  have e2 : x.toBitVec.toInt = x.toInt := rfl
  rw [e1, e2] at hx
  have := decide_eq_decide.mp hx
  omega
theorem b_ofInt {x : Int32} {k : Nat} (h : x.toInt = (k : Int)) : x = nI k := by
  apply Int32.toInt_inj.mp
  have := Int32.toInt_lt x
  rw [nI_toInt (by omega)]; exact h
theorem b_fm (n : Nat) (x : Int32) {c : Nat} (h1 : 1 ≤ c) (h2 : c ≤ 1000) : p_Math_floorMod n x (nI c) = some (nI (x.toInt % (c : Int)).toNat) := by
  have hr : (x - x / nI c * nI c).toInt = x.toInt.tmod (c : Int) := by rw [rem_toInt, nI_toInt (by omega)]
  have key := Int.tmod_eq_emod (a := x.toInt) (b := (c : Int))
  have b1 := Int.emod_nonneg x.toInt (b := (c : Int)) (by omega)
  have b2 := Int.emod_lt_of_pos x.toInt (b := (c : Int)) (by omega)
  unfold p_Math_floorMod
  rw [if_neg (nI_ne0 (by omega) (by omega))]
  by_cases hx : 0 ≤ x.toInt
  · rw [if_pos ((b_xor0 x (by omega)).mpr hx)]
    rw [if_pos (Or.inl hx)] at key
    congr 1
    apply b_ofInt
    rw [hr]; omega
  · rw [if_neg (fun q => hx ((b_xor0 x (by omega)).mp q))]
    by_cases hd : (c : Int) ∣ x.toInt
    · rw [if_pos (Or.inr hd)] at key
      have hz := Int.emod_eq_zero_of_dvd hd
      have e0 : x - x / nI c * nI c = 0 := by
        apply Int32.toInt_inj.mp
        rw [hr, Int32.toInt_zero]; omega
      rw [if_pos e0, e0, hz]
      rfl
    · rw [if_neg (fun q => q.elim hx hd)] at key
      have hnz : x.toInt % (c : Int) ≠ 0 := fun q => hd (Int.dvd_of_emod_eq_zero q)
      have hna : ((c : Int).natAbs : Int) = (c : Int) := by omega
      rw [hna] at key
      rw [if_neg (fun q => by
        have := congrArg Int32.toInt q
        rw [hr, Int32.toInt_zero] at this
        omega)]
      congr 1
      apply b_ofInt
      rw [Jvm.Kit.i32_add (by rw [hr, nI_toInt (by omega)]; omega) (by rw [hr, nI_toInt (by omega)]; omega), hr, nI_toInt (by omega)]
      omega
theorem b_wrap (n : Nat) (x : Int32) {c : Nat} (h1 : 10 ≤ c) (h2 : c ≤ 120) : p_WO_wrap n x (nI c) = some (nI (x.toInt % (c : Int)).toNat) := by
  unfold p_WO_wrap
  rw [if_pos (b_pos h1 h2), b_fm n x (by omega) (by omega), Option.bind_some]
theorem b_wrapN (n : Nat) {a c : Nat} (h1 : 10 ≤ c) (h2 : c ≤ 120) (ha : a < 2 ^ 31) : p_WO_wrap n (nI a) (nI c) = some (nI (a % c)) := by
  rw [b_wrap n _ h1 h2, nI_toInt ha]
  congr 2
