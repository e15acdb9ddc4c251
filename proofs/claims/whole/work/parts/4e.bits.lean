/-! bits of a word, and how many are set -/
def cnt (P : Nat → Bool) : Nat → Nat
  | 0 => 0
  | d + 1 => cnt P d + (if P d = true then 1 else 0)
def bs (P : Nat → Bool) : Nat → Nat
  | 0 => 0
  | d + 1 => bs P d + (if P d = true then 2 ^ d else 0)
theorem cnt_le (P : Nat → Bool) : ∀ d, cnt P d ≤ d := by
  intro d
  induction d with
  | zero => exact Nat.le_refl 0
  | succ d ih => show cnt P d + (if P d = true then 1 else 0) ≤ d + 1; split <;> omega
theorem cnt_congr {P Q : Nat → Bool} : ∀ d, (∀ i, i < d → P i = Q i) → cnt P d = cnt Q d := by
  intro d
  induction d with
  | zero => intro _; rfl
  | succ d ih => intro h; show cnt P d + _ = cnt Q d + _; rw [ih (fun i hi => h i (by omega)), h d (by omega)]
theorem cnt_mono {P Q : Nat → Bool} : ∀ d, (∀ i, i < d → P i = true → Q i = true) → cnt P d ≤ cnt Q d := by
  intro d
  induction d with
  | zero => intro _; exact Nat.le_refl 0
  | succ d ih =>
    intro h
    have h1 := ih (fun i hi => h i (by omega))
    have h2 := h d (by omega)
    show cnt P d + (if P d = true then 1 else 0) ≤ cnt Q d + (if Q d = true then 1 else 0)
    by_cases hp : P d = true
    · rw [if_pos hp, if_pos (h2 hp)]; omega
    · rw [if_neg hp]; split <;> omega
theorem cnt_add (P : Nat → Bool) (a : Nat) : ∀ b, cnt P (a + b) = cnt P a + cnt (fun i => P (a + i)) b := by
  intro b
  induction b with
  | zero => rfl
  | succ b ih =>
    show cnt P (a + b) + (if P (a + b) = true then 1 else 0) = cnt P a + (cnt (fun i => P (a + i)) b + (if P (a + b) = true then 1 else 0))
    rw [ih, Nat.add_assoc]
theorem cnt_none {P : Nat → Bool} : ∀ d, (∀ i, i < d → P i = false) → cnt P d = 0 := by
  intro d
  induction d with
  | zero => intro _; rfl
  | succ d ih => intro h; show cnt P d + (if P d = true then 1 else 0) = 0; rw [ih (fun i hi => h i (by omega)), h d (by omega)]; rfl
theorem bs_lt (P : Nat → Bool) : ∀ d, bs P d < 2 ^ d := by
  intro d
  induction d with
  | zero => exact Nat.one_pos
  | succ d ih => show bs P d + (if P d = true then 2 ^ d else 0) < 2 ^ (d + 1); rw [Nat.pow_succ]; split <;> omega
theorem bs_test (P : Nat → Bool) : ∀ d i, (bs P d).testBit i = (decide (i < d) && P i) := by
  intro d
  induction d with
  | zero => intro i; show (0 : Nat).testBit i = _; rw [Nat.zero_testBit]; simp
  | succ d ih =>
    intro i
    have hb := bs_lt P d
    show (bs P d + (if P d = true then 2 ^ d else 0)).testBit i = _
    by_cases hp : P d = true
    · rw [if_pos hp, show bs P d + 2 ^ d = 2 ^ d * 1 + bs P d by omega, Nat.testBit_two_pow_mul_add 1 hb]
      by_cases h1 : i < d
      · rw [if_pos h1, ih]
        simp [h1, show i < d + 1 by omega]
      · rw [if_neg h1]
        by_cases h2 : i = d
        · subst h2
          simp [hp]
        · have h3 : ¬ i < d + 1 := by omega
          have h4 : (1 : Nat).testBit (i - d) = false := by
            have : i - d = (i - d - 1) + 1 := by omega
            rw [this, Nat.testBit_succ]; simp
          simp [h3, h4]
    · have hp' : P d = false := by cases h : P d <;> simp_all
      rw [if_neg hp, Nat.add_zero, ih]
      by_cases h2 : i = d
      · subst h2; simp [hp']
      · have : (i < d) ↔ (i < d + 1) := by omega
        simp [this]
theorem bs_ext {P Q : Nat → Bool} (d : Nat) (h : ∀ i, i < d → P i = Q i) : bs P d = bs Q d := by
  apply Nat.eq_of_testBit_eq
  intro i
  rw [bs_test, bs_test]
  by_cases hi : i < d
  · rw [h i hi]
  · simp [hi]
theorem bs_and (P Q : Nat → Bool) (d : Nat) : bs P d &&& bs Q d = bs (fun i => P i && Q i) d := by
  apply Nat.eq_of_testBit_eq
  intro i
  rw [Nat.testBit_and, bs_test, bs_test, bs_test]
  by_cases hi : i < d <;> simp [hi]
theorem bs_or (P Q : Nat → Bool) (d : Nat) : bs P d ||| bs Q d = bs (fun i => P i || Q i) d := by
  apply Nat.eq_of_testBit_eq
  intro i
  rw [Nat.testBit_or, bs_test, bs_test, bs_test]
  by_cases hi : i < d <;> simp [hi]
/-- the long whose bits below 60 are P's -/
def wrd (P : Nat → Bool) : Int64 := lN (bs P 60)
theorem bs60 (P : Nat → Bool) : bs P 60 < 2 ^ 64 := Nat.lt_trans (bs_lt P 60) (by decide)
theorem wrd_ext {P Q : Nat → Bool} (h : ∀ i, i < 60 → P i = Q i) : wrd P = wrd Q := by unfold wrd; rw [bs_ext 60 h]
theorem wrd_and (P Q : Nat → Bool) : wrd P &&& wrd Q = wrd (fun i => P i && Q i) := by
  unfold wrd; rw [wb_and (bs60 P) (bs60 Q), bs_and]
theorem wrd_or (P Q : Nat → Bool) : wrd P ||| wrd Q = wrd (fun i => P i || Q i) := by
  unfold wrd; rw [wb_or (bs60 P) (bs60 Q), bs_or]
theorem wrd_get (P : Nat → Bool) (i : Nat) : (wrd P).toBitVec.getLsbD i = (decide (i < 60) && P i) := by
  unfold wrd
  rw [wb_tb, BitVec.getLsbD_ofNat, bs_test]
  by_cases hi : i < 60
  · simp [hi, show i < 64 by omega]
  · simp [hi]
theorem wrd_m1 (P : Nat → Bool) : (-1 : Int64) &&& wrd P = wrd P := by
  apply wb_inj
  rw [Int64.toBitVec_and]
  apply BitVec.eq_of_getLsbD_eq
  intro i hi
  rw [BitVec.getLsbD_and, show ((-1 : Int64)).toBitVec = BitVec.allOnes 64 from rfl, BitVec.getLsbD_allOnes]
  simp [hi]
theorem wrd_andnot (P Q : Nat → Bool) : wrd P &&& (wrd Q ^^^ (-1)) = wrd (fun i => P i && !Q i) := by
  apply wb_inj
  rw [Int64.toBitVec_and, Int64.toBitVec_xor]
  apply BitVec.eq_of_getLsbD_eq
  intro i hi
  rw [BitVec.getLsbD_and, BitVec.getLsbD_xor, show ((-1 : Int64)).toBitVec = BitVec.allOnes 64 from rfl, BitVec.getLsbD_allOnes, wrd_get, wrd_get, wrd_get]
  by_cases h : i < 60 <;> simp [h, hi]
theorem wrd_0 : (0 : Int64) = wrd (fun _ => false) := by decide +kernel
theorem wrd_below : ∀ m, m < 61 → ((1 : Int64) <<< ((nI m).toInt64 &&& 63)) - (1 : Int64) = wrd (fun i => decide (i < m)) := by decide +kernel
/-! how many bits are set, byte by byte -/
def S1 (m x : Nat) : Nat := x - ((x / 2) &&& m)
def S2 (m x : Nat) : Nat := (x &&& m) + ((x / 4) &&& m)
def S3 (m x : Nat) : Nat := (x + x / 16) &&& m
def mk (u : Nat) : Nat → Nat
  | 0 => 0
  | j + 1 => 256 * mk u j + u
def byt (b : Nat → Nat) : Nat → Nat
  | 0 => 0
  | j + 1 => 256 * byt (fun i => b (i + 1)) j + b 0
theorem and256 (a c : Nat) {b d : Nat} (hb : b < 256) (hd : d < 256) : (256 * a + b) &&& (256 * c + d) = 256 * (a &&& c) + (b &&& d) := by
  have hbd : b &&& d < 2 ^ 8 := Nat.and_lt_two_pow _ hd
  apply Nat.eq_of_testBit_eq
  intro i
  rw [Nat.testBit_and, show 256 = 2 ^ 8 from rfl, Nat.testBit_two_pow_mul_add a (show b < 2 ^ 8 from hb), Nat.testBit_two_pow_mul_add c (show d < 2 ^ 8 from hd), Nat.testBit_two_pow_mul_add (a &&& c) hbd]
  by_cases h : i < 8
  · rw [if_pos h, if_pos h, if_pos h, Nat.testBit_and]
  · rw [if_neg h, if_neg h, if_neg h, Nat.testBit_and]
theorem S1b (m y : Nat) {r : Nat} (hr : r < 256) : S1 (256 * m + 85) (256 * y + r) = 256 * S1 m y + S1 85 r := by
  have h1 : ∀ z, z < 2 → ∀ r, r < 256 → (128 * z + r / 2) &&& 85 = (r / 2) &&& 85 := by decide +kernel
  have e : (256 * y + r) / 2 = 256 * (y / 2) + (128 * (y % 2) + r / 2) := by omega
  have a1 : (y / 2) &&& m ≤ y / 2 := Nat.and_le_left
  have a2 : (r / 2) &&& 85 ≤ r / 2 := Nat.and_le_left
  unfold S1
  rw [e, and256 _ _ (by omega) (by omega), h1 (y % 2) (by omega) r hr]
  omega
theorem S2b (m y : Nat) {r : Nat} (hr : r < 256) : S2 (256 * m + 51) (256 * y + r) = 256 * S2 m y + S2 51 r := by
  have h1 : ∀ z, z < 4 → ∀ r, r < 256 → (64 * z + r / 4) &&& 51 = (r / 4) &&& 51 := by decide +kernel
  have e : (256 * y + r) / 4 = 256 * (y / 4) + (64 * (y % 4) + r / 4) := by omega
  unfold S2
  rw [e, and256 _ _ hr (by omega), and256 _ _ (by omega) (by omega), h1 (y % 4) (by omega) r hr]
  omega
theorem S3b (m y : Nat) {r : Nat} (hr : r < 69) (hy : y % 16 < 5) : S3 (256 * m + 15) (256 * y + r) = 256 * S3 m y + S3 15 r := by
  have h1 : ∀ z, z < 5 → ∀ r, r < 69 → (r + r / 16 + 16 * z) &&& 15 = (r + r / 16) &&& 15 := by decide +kernel
  have e : 256 * y + r + (256 * y + r) / 16 = 256 * (y + y / 16) + (r + r / 16 + 16 * (y % 16)) := by omega
  unfold S3
  rw [e, and256 _ _ (by omega) (by omega), h1 (y % 16) hy r hr]
theorem S1y : ∀ (j : Nat) (b : Nat → Nat), (∀ i, b i < 256) → S1 (mk 85 j) (byt b j) = byt (fun i => S1 85 (b i)) j := by
  intro j
  induction j with
  | zero => intro b _; show S1 0 0 = 0; decide
  | succ j ih =>
    intro b h
    show S1 (256 * mk 85 j + 85) (256 * byt (fun i => b (i + 1)) j + b 0) = 256 * byt (fun i => S1 85 (b (i + 1))) j + S1 85 (b 0)
    rw [S1b _ _ (h 0), ih (fun i => b (i + 1)) (fun i => h (i + 1))]
theorem S2y : ∀ (j : Nat) (b : Nat → Nat), (∀ i, b i < 256) → S2 (mk 51 j) (byt b j) = byt (fun i => S2 51 (b i)) j := by
  intro j
  induction j with
  | zero => intro b _; show S2 0 0 = 0; decide
  | succ j ih =>
    intro b h
    show S2 (256 * mk 51 j + 51) (256 * byt (fun i => b (i + 1)) j + b 0) = 256 * byt (fun i => S2 51 (b (i + 1))) j + S2 51 (b 0)
    rw [S2b _ _ (h 0), ih (fun i => b (i + 1)) (fun i => h (i + 1))]
theorem S3y : ∀ (j : Nat) (b : Nat → Nat), (∀ i, b i < 69 ∧ b i % 16 < 5) → S3 (mk 15 j) (byt b j) = byt (fun i => S3 15 (b i)) j := by
  intro j
  induction j with
  | zero => intro b _; show S3 0 0 = 0; decide
  | succ j ih =>
    intro b h
    have hm : byt (fun i => b (i + 1)) j % 16 < 5 := by
      cases j with
      | zero => show 0 % 16 < 5; omega
      | succ j =>
        show (256 * byt _ j + b (0 + 1)) % 16 < 5
        have := (h (0 + 1)).2
        omega
    show S3 (256 * mk 15 j + 15) (256 * byt (fun i => b (i + 1)) j + b 0) = 256 * byt (fun i => S3 15 (b (i + 1))) j + S3 15 (b 0)
    rw [S3b _ _ (h 0).1 hm, ih (fun i => b (i + 1)) (fun i => h (i + 1))]
def pop8 (r : Nat) : Nat := S3 15 (S2 51 (S1 85 r))
theorem pop8_le : ∀ r, r < 256 → pop8 r ≤ 8 ∧ S1 85 r < 256 ∧ S2 51 (S1 85 r) < 69 ∧ S2 51 (S1 85 r) % 16 < 5 := by decide +kernel
theorem byt_lt : ∀ (j : Nat) (b : Nat → Nat), (∀ i, b i < 256) → byt b j < 256 ^ j := by
  intro j
  induction j with
  | zero => intro b _; exact Nat.one_pos
  | succ j ih =>
    intro b h
    have := ih (fun i => b (i + 1)) (fun i => h (i + 1))
    have h0 := h 0
    show 256 * byt (fun i => b (i + 1)) j + b 0 < 256 ^ (j + 1)
    rw [Nat.pow_succ]; omega
theorem pop_fold {p0 p1 p2 p3 p4 p5 p6 p7 : Nat} (h0 : p0 ≤ 8) (h1 : p1 ≤ 8) (h2 : p2 ≤ 8) (h3 : p3 ≤ 8) (h4 : p4 ≤ 8) (h5 : p5 ≤ 8) (h6 : p6 ≤ 8) (h7 : p7 ≤ 8) :
    ∃ Z4 Z5 Z6, Z4 = byt (fun i => [p0, p1, p2, p3, p4, p5, p6, p7].getD i 0) 8 + byt (fun i => [p0, p1, p2, p3, p4, p5, p6, p7].getD i 0) 8 / 2 ^ 8 ∧ Z5 = Z4 + Z4 / 2 ^ 16 ∧ Z6 = Z5 + Z5 / 2 ^ 32 ∧ Z4 < 2 ^ 63 ∧ Z5 < 2 ^ 63 ∧ Z6 < 2 ^ 63 ∧ Z6 % 2 ^ 32 % 128 = p0 + p1 + p2 + p3 + p4 + p5 + p6 + p7 := by
  have e : byt (fun i => [p0, p1, p2, p3, p4, p5, p6, p7].getD i 0) 8 = 256 * (256 * (256 * (256 * (256 * (256 * (256 * (256 * 0 + p7) + p6) + p5) + p4) + p3) + p2) + p1) + p0 := rfl
  rw [e]
  have e8 : (256 * (256 * (256 * (256 * (256 * (256 * (256 * (256 * 0 + p7) + p6) + p5) + p4) + p3) + p2) + p1) + p0) / 2 ^ 8 = 256 * (256 * (256 * (256 * (256 * (256 * (256 * 0 + p7) + p6) + p5) + p4) + p3) + p2) + p1 := by
    generalize 256 * (256 * (256 * (256 * (256 * (256 * (256 * 0 + p7) + p6) + p5) + p4) + p3) + p2) + p1 = B
    omega
  refine ⟨_, _, _, rfl, rfl, rfl, ?_⟩
  rw [e8]
  have e4 : 256 * (256 * (256 * (256 * (256 * (256 * (256 * (256 * 0 + p7) + p6) + p5) + p4) + p3) + p2) + p1) + p0 + (256 * (256 * (256 * (256 * (256 * (256 * (256 * 0 + p7) + p6) + p5) + p4) + p3) + p2) + p1) =
      65536 * (65536 * (65536 * (256 * p7 + (p7 + p6)) + (256 * (p6 + p5) + (p5 + p4))) + (256 * (p4 + p3) + (p3 + p2))) + (256 * (p2 + p1) + (p1 + p0)) := by omega
  rw [e4]
  have e5 : (65536 * (65536 * (65536 * (256 * p7 + (p7 + p6)) + (256 * (p6 + p5) + (p5 + p4))) + (256 * (p4 + p3) + (p3 + p2))) + (256 * (p2 + p1) + (p1 + p0))) / 2 ^ 16 = 65536 * (65536 * (256 * p7 + (p7 + p6)) + (256 * (p6 + p5) + (p5 + p4))) + (256 * (p4 + p3) + (p3 + p2)) := by
    generalize 65536 * (65536 * (256 * p7 + (p7 + p6)) + (256 * (p6 + p5) + (p5 + p4))) + (256 * (p4 + p3) + (p3 + p2)) = B
    omega
  rw [e5]
  have hA : 256 * p7 + (p7 + p6) ≤ 5000 := by omega
  have hB : 256 * (p6 + p5) + (p5 + p4) ≤ 5000 := by omega
  have hC : 256 * (p4 + p3) + (p3 + p2) ≤ 5000 := by omega
  have hD : 256 * (p2 + p1) + (p1 + p0) ≤ 5000 := by omega
  have hS : (256 * p7 + (p7 + p6)) + (256 * (p6 + p5) + (p5 + p4)) + (256 * (p4 + p3) + (p3 + p2)) + (256 * (p2 + p1) + (p1 + p0)) = 128 * (2 * (p7 + p6 + p5 + p4 + p3 + p2 + p1)) + (p0 + p1 + p2 + p3 + p4 + p5 + p6 + p7) := by omega
  have hP : p0 + p1 + p2 + p3 + p4 + p5 + p6 + p7 < 128 := by omega
  generalize p0 + p1 + p2 + p3 + p4 + p5 + p6 + p7 = S at hS hP ⊢
  generalize 2 * (p7 + p6 + p5 + p4 + p3 + p2 + p1) = R at hS
  generalize 256 * p7 + (p7 + p6) = A at hA hS ⊢
  generalize 256 * (p6 + p5) + (p5 + p4) = B at hB hS ⊢
  generalize 256 * (p4 + p3) + (p3 + p2) = C at hC hS ⊢
  generalize 256 * (p2 + p1) + (p1 + p0) = D at hD hS ⊢
  have q5 : 65536 * (65536 * (65536 * A + B) + C) + D + (65536 * (65536 * A + B) + C) = 2 ^ 32 * (65536 * A + A + B) + (65536 * (B + C) + (C + D)) := by omega
  have q6 : (65536 * (65536 * (65536 * A + B) + C) + D + (65536 * (65536 * A + B) + C)) / 2 ^ 32 = 65536 * A + A + B := by
    rw [q5, Nat.mul_add_div (by decide), Nat.div_eq_of_lt (by omega)]; rfl
  rw [q6]
  refine ⟨by omega, by omega, by omega, ?_⟩
  have q7 : 65536 * (65536 * (65536 * A + B) + C) + D + (65536 * (65536 * A + B) + C) + (65536 * A + A + B) = 2 ^ 32 * (65536 * A + A + B) + (128 * (512 * (A + B + C) + R) + S) := by omega
  rw [q7, Nat.mul_add_mod, Nat.mod_eq_of_lt (show 128 * (512 * (A + B + C) + R) + S < 2 ^ 32 by omega), Nat.mul_add_mod, Nat.mod_eq_of_lt hP]
theorem b_pop (n : Nat) (b : Nat → Nat) (hb : ∀ i, b i < 256) : p_Long_bitCount n (lN (byt b 8)) = some (nI (pop8 (b 0) + pop8 (b 1) + pop8 (b 2) + pop8 (b 3) + pop8 (b 4) + pop8 (b 5) + pop8 (b 6) + pop8 (b 7))) := by
  have hX : byt b 8 < 2 ^ 64 := byt_lt 8 b hb
  have m1 : (6148914691236517205 : Int64) = lN (mk 85 8) := by decide +kernel
  have m2 : (3689348814741910323 : Int64) = lN (mk 51 8) := by decide +kernel
  have m3 : (1085102592571150095 : Int64) = lN (mk 15 8) := by decide +kernel
  have n1 : mk 85 8 < 2 ^ 64 := by decide
  have n2 : mk 51 8 < 2 ^ 64 := by decide
  have n3 : mk 15 8 < 2 ^ 64 := by decide
  have hb1 : ∀ i, S1 85 (b i) < 256 := fun i => (pop8_le (b i) (hb i)).2.1
  have hX1 : S1 (mk 85 8) (byt b 8) < 2 ^ 64 := by rw [S1y 8 b hb]; exact byt_lt 8 _ hb1
  have e1 : lN (byt b 8) - (((lN (byt b 8)).toUInt64 >>> ((1 : Int32).toInt64.toUInt64 &&& Int64.toUInt64 63)).toInt64 &&& (6148914691236517205 : Int64)) = lN (S1 (mk 85 8) (byt b 8)) := by
    rw [show (1 : Int32) = nI 1 from rfl, wb_shr hX (by omega), m1, wb_and (by omega) n1, lN_sub (Nat.le_trans Nat.and_le_left (Nat.div_le_self _ _))]
    rfl
  have hb2 : ∀ i, S2 51 (S1 85 (b i)) < 69 ∧ S2 51 (S1 85 (b i)) % 16 < 5 := fun i => (pop8_le (b i) (hb i)).2.2
  have E2 : S2 (mk 51 8) (S1 (mk 85 8) (byt b 8)) = byt (fun i => S2 51 (S1 85 (b i))) 8 := by rw [S1y 8 b hb, S2y 8 _ hb1]
  have hX2 : S2 (mk 51 8) (S1 (mk 85 8) (byt b 8)) < 2 ^ 63 := by
    rw [E2]
    have := byt_lt 7 (fun i => S2 51 (S1 85 (b i))) (fun i => by have := (hb2 i).1; omega)
    have e : byt (fun i => S2 51 (S1 85 (b i))) 8 = 256 * byt (fun i => S2 51 (S1 85 (b (i + 1)))) 7 + S2 51 (S1 85 (b 0)) := rfl
    have q7 : byt (fun i => S2 51 (S1 85 (b (i + 1)))) 7 < 69 * 256 ^ 6 + 256 ^ 6 := by
      have e7 : byt (fun i => S2 51 (S1 85 (b (i + 1)))) 7 = 256 * (256 * (256 * (256 * (256 * (256 * (256 * 0 + S2 51 (S1 85 (b 7))) + S2 51 (S1 85 (b 6))) + S2 51 (S1 85 (b 5))) + S2 51 (S1 85 (b 4))) + S2 51 (S1 85 (b 3))) + S2 51 (S1 85 (b 2))) + S2 51 (S1 85 (b 1)) := rfl
      have a1 := (hb2 1).1
      have a2 := (hb2 2).1
      have a3 := (hb2 3).1
      have a4 := (hb2 4).1
      have a5 := (hb2 5).1
      have a6 := (hb2 6).1
      have a7 := (hb2 7).1
      omega
    have a0 := (hb2 0).1
    omega
  have e2 : (lN (S1 (mk 85 8) (byt b 8)) &&& (3689348814741910323 : Int64)) + ((((lN (S1 (mk 85 8) (byt b 8))).toUInt64 >>> ((2 : Int32).toInt64.toUInt64 &&& Int64.toUInt64 63)).toInt64) &&& (3689348814741910323 : Int64)) = lN (S2 (mk 51 8) (S1 (mk 85 8) (byt b 8))) := by
    rw [show (2 : Int32) = nI 2 from rfl, wb_shr hX1 (by omega), m2, wb_and hX1 n2, wb_and (by omega) n2, lN_add]
    rfl
  have e3 : (lN (S2 (mk 51 8) (S1 (mk 85 8) (byt b 8))) + (((lN (S2 (mk 51 8) (S1 (mk 85 8) (byt b 8)))).toUInt64 >>> ((4 : Int32).toInt64.toUInt64 &&& Int64.toUInt64 63)).toInt64)) &&& (1085102592571150095 : Int64) = lN (byt (fun i => pop8 (b i)) 8) := by
    rw [show (4 : Int32) = nI 4 from rfl, wb_shr (by omega) (by omega), m3, lN_add, wb_and (by omega) n3]
    have : S3 (mk 15 8) (S2 (mk 51 8) (S1 (mk 85 8) (byt b 8))) = byt (fun i => pop8 (b i)) 8 := by rw [E2, S3y 8 _ hb2]; rfl
    rw [← this]; rfl
  have hp : ∀ i, pop8 (b i) ≤ 8 := fun i => (pop8_le (b i) (hb i)).1
  obtain ⟨Z4, Z5, Z6, f4, f5, f6, g4, g5, g6, fz⟩ := pop_fold (hp 0) (hp 1) (hp 2) (hp 3) (hp 4) (hp 5) (hp 6) (hp 7)
  have eb : byt (fun i => pop8 (b i)) 8 = byt (fun i => [pop8 (b 0), pop8 (b 1), pop8 (b 2), pop8 (b 3), pop8 (b 4), pop8 (b 5), pop8 (b 6), pop8 (b 7)].getD i 0) 8 := rfl
  rw [eb] at e3
  have hZ : byt (fun i => [pop8 (b 0), pop8 (b 1), pop8 (b 2), pop8 (b 3), pop8 (b 4), pop8 (b 5), pop8 (b 6), pop8 (b 7)].getD i 0) 8 < 2 ^ 63 := by omega
  generalize byt (fun i => [pop8 (b 0), pop8 (b 1), pop8 (b 2), pop8 (b 3), pop8 (b 4), pop8 (b 5), pop8 (b 6), pop8 (b 7)].getD i 0) 8 = Z at e3 f4 hZ
  have e4 : lN Z + (((lN Z).toUInt64 >>> ((8 : Int32).toInt64.toUInt64 &&& Int64.toUInt64 63)).toInt64) = lN Z4 := by
    rw [show (8 : Int32) = nI 8 from rfl, wb_shr (by omega) (by omega), lN_add, f4]
  have e5 : lN Z4 + (((lN Z4).toUInt64 >>> ((16 : Int32).toInt64.toUInt64 &&& Int64.toUInt64 63)).toInt64) = lN Z5 := by
    rw [show (16 : Int32) = nI 16 from rfl, wb_shr (by omega) (by omega), lN_add, f5]
  have e6 : lN Z5 + (((lN Z5).toUInt64 >>> ((32 : Int32).toInt64.toUInt64 &&& Int64.toUInt64 63)).toInt64) = lN Z6 := by
    rw [show (32 : Int32) = nI 32 from rfl, wb_shr (by omega) (by omega), lN_add, f6]
  unfold p_Long_bitCount
  simp only [e1, e2, e3, e4, e5, e6]
  rw [lN_i, pk_and (nI Z6) (m := 127) 7 (by decide)]
  congr 2
