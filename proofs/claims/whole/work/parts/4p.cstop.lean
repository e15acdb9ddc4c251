/-! aim 1 in the class: the table of stops, and what is put -/
def sE (c : Nat) (g q fs fw bs bw : Nat → Nat) (sA : Nat → Int32) (k : Nat) : Prop := ∀ y, y < c → sA ((k + 1) * 120 + y) = nI (stb c (fun k => g k - q k) q fs fw bs bw k (y : Int))
theorem b_sbegin31 (n : Nat) {N c k : Nat} (hN : N ≤ 5) (hk : k + 1 < N) (h1 : 10 ≤ c) (h2 : c ≤ 120) (g q fs fw bs bw : Nat → Nat) (hg : ∀ k, k < N → q k < g k ∧ g k < c) (hf : ∀ i, i < 5 → fs i ≤ 200 ∧ bs i ≤ 200) (qs sec gs ws : Nat → Int32) (hs : ∀ i, i < 5 → sec i = nI (fs i) ∧ sec (5 + i) = nI (bs i) ∧ ws i = nI (fw i) ∧ ws (5 + i) = nI (bw i)) (hx : ∀ k, k < N → qs k = nI (q k) ∧ gs k = nI (g k)) :
    ∀ (d y fu : Nat) (sA : Nat → Int32), y + d = c → d < fu → ∃ sA', p_Stop_begin_31 n fu (nI N) qs sec gs ws (nI (k + 1)) (nI y) (nI c) sA = some sA' ∧ (∀ y', y ≤ y' → y' < c → sA' ((k + 1) * 120 + y') = nI (stb c (fun k => g k - q k) q fs fw bs bw k (y' : Int))) ∧ (∀ j, j < (k + 1) * 120 + y ∨ (k + 1) * 120 + c ≤ j → sA' j = sA j) := by
  intro d
  induction d with
  | zero =>
    intro y fu sA e hf'
    obtain ⟨m, rfl⟩ : ∃ m, fu = m + 1 := ⟨fu - 1, by omega⟩
    rw [q_Stop_begin_31, if_pos (show nI c ≤ nI y from nI_le (by omega) (by omega))]
    exact ⟨sA, rfl, fun y' a1 a2 => absurd a1 (by omega), fun j _ => rfl⟩
  | succ d ih =>
    intro y fu sA e hf'
    obtain ⟨m, rfl⟩ : ∃ m, fu = m + 1 := ⟨fu - 1, by omega⟩
    have ei : (nI (k + 1) * (120 : Int32)) + nI y = nI ((k + 1) * 120 + y) := by rw [show (120 : Int32) = nI 120 from rfl, pk_mul, nI_add]
    have ty : (nI y).toInt = (y : Int) := nI_toInt (by omega)
    rw [q_Stop_begin_31, if_neg (show ¬ nI c ≤ nI y from nI_ge (by omega) (by omega)), if_neg (show ¬ (120 : Int32) ≤ nI y from nI_ge (b := 120) (by omega) (by omega)), b_stopsBefore n hN hk h1 h2 g q fs fw bs bw hg hf qs sec gs ws hs hx (nI y) (by omega), Option.bind_some, ei, if_pos (b_in (show (k + 1) * 120 + y < 600 by omega) (by omega)), nI_clamp (by omega), nI_1, ty]
    obtain ⟨sA', r1, r2, r3⟩ := ih (y + 1) m (upd sA ((k + 1) * 120 + y) (nI (stb c (fun k => g k - q k) q fs fw bs bw k (y : Int)))) (by omega) (by omega)
    refine ⟨sA', r1, ?_, ?_⟩
    · intro y' a1 a2
      by_cases hy : y' = y
      · subst hy; rw [r3 _ (Or.inl (by omega)), pk_us]
      · exact r2 y' (by omega) a2
    · intro j hj
      rw [r3 j (by omega), pk_un (by omega)]
theorem b_sbegin15 (n : Nat) (hn : 1000 ≤ n) {N c : Nat} (hN : N ≤ 5) (h1 : 10 ≤ c) (h2 : c ≤ 120) (g q fs fw bs bw : Nat → Nat) (hg : ∀ k, k < N → q k < g k ∧ g k < c) (hf : ∀ i, i < 5 → fs i ≤ 200 ∧ bs i ≤ 200) (qs sec gs ws : Nat → Int32) (hs : ∀ i, i < 5 → sec i = nI (fs i) ∧ sec (5 + i) = nI (bs i) ∧ ws i = nI (fw i) ∧ ws (5 + i) = nI (bw i)) (hx : ∀ k, k < N → qs k = nI (q k) ∧ gs k = nI (g k)) :
    ∀ (d k fu : Nat) (sA : Nat → Int32), k + 1 + d = N → d < fu → (∀ j, j < k → sE c g q fs fw bs bw sA j) → ∃ sA', p_Stop_begin_15 n fu (nI N) qs sec gs ws (nI (k + 1)) (nI c) sA = some sA' ∧ (∀ j, j + 1 < N → sE c g q fs fw bs bw sA' j) := by
  intro d
  induction d with
  | zero =>
    intro k fu sA e hf' hb
    obtain ⟨m, rfl⟩ : ∃ m, fu = m + 1 := ⟨fu - 1, by omega⟩
    rw [q_Stop_begin_15, b_size, Option.bind_some, if_pos (show nI N ≤ nI (k + 1) from nI_le (by omega) (by omega))]
    exact ⟨sA, rfl, fun j hj => hb j (by omega)⟩
  | succ d ih =>
    intro k fu sA e hf' hb
    obtain ⟨m, rfl⟩ : ∃ m, fu = m + 1 := ⟨fu - 1, by omega⟩
    obtain ⟨sA1, r1, r2, r3⟩ := b_sbegin31 n hN (show k + 1 < N by omega) h1 h2 g q fs fw bs bw hg hf qs sec gs ws hs hx c 0 n sA (by omega) (by omega)
    rw [show nI 0 = (0 : Int32) from rfl] at r1
    rw [q_Stop_begin_15, b_size, Option.bind_some, if_neg (show ¬ nI N ≤ nI (k + 1) from nI_ge (by omega) (by omega)), if_neg (show ¬ (5 : Int32) ≤ nI (k + 1) from nI_ge (b := 5) (by omega) (by omega)), r1, Option.bind_some, nI_1]
    apply ih (k + 1) m sA1 (by omega) (by omega)
    intro j hj y hy
    by_cases hjk : j = k
    · subst hjk; exact r2 y (by omega) hy
    · rw [r3 _ (by omega)]; exact hb j (by omega) y hy
theorem b_sbegin (n : Nat) (hn : 1000 ≤ n) {N c cs : Nat} (hN1 : 1 ≤ N) (hN : N ≤ 5) (h1 : 10 ≤ c) (h2 : c ≤ 120) (g q fs fw bs bw : Nat → Nat) (hg : ∀ k, k < N → q k < g k ∧ g k < c) (hf : ∀ i, i < 5 → fs i ≤ 200 ∧ bs i ≤ 200) (qs sec gs ws : Nat → Int32) (hs : ∀ i, i < 5 → sec i = nI (fs i) ∧ sec (5 + i) = nI (bs i) ∧ ws i = nI (fw i) ∧ ws (5 + i) = nI (bw i)) (hx : ∀ k, k < N → qs k = nI (q k) ∧ gs k = nI (g k)) (z1 z2 : Int32) (sA : Nat → Int32) :
    ∃ sA', p_Stop_begin n (nI c) (nI cs) (nI N) qs sec gs ws z1 z2 sA = some (nI c, nI cs, sA') ∧ (∀ j, j + 1 < N → sE c g q fs fw bs bw sA' j) := by
  obtain ⟨sA', r1, r2⟩ := b_sbegin15 n hn hN h1 h2 g q fs fw bs bw hg hf qs sec gs ws hs hx (N - 1) 0 n sA (by omega) (by omega) (fun j hj => absurd hj (by omega))
  refine ⟨sA', ?_, r2⟩
  unfold p_Stop_begin
  rw [b_stepOf, Option.bind_some, show (1 : Int32) = nI (0 + 1) from rfl, r1]
  rfl
/-- what is put of the first k crossings -/
def sO (c : Nat) (g q fs fw bs bw off : Nat → Nat) (sT : Nat → Int64) (so : Nat → Int32) (k : Nat) : Prop := ∀ j, j < k → so j = nI (off j) ∧ sT j = lN (wS (stp c (fun k => g k - q k) (fun k => off k + q k) fs fw bs bw) 0 j)
theorem stp_congr {c : Nat} {L a a' fs fw bs bw : Nat → Nat} {k : Nat} (h1 : a k = a' k) (h2 : a (k + 1) = a' (k + 1)) : stp c L a fs fw bs bw k = stp c L a' fs fw bs bw k := by
  unfold stp; rw [h1, h2]
theorem sO_le {c : Nat} {g q fs fw bs bw off : Nat → Nat} {sT : Nat → Int64} {so : Nat → Int32} {k k' : Nat} (h : sO c g q fs fw bs bw off sT so k) (hk : k' ≤ k) : sO c g q fs fw bs bw off sT so k' := fun j hj => h j (by omega)
theorem sO_congr {c : Nat} {g q fs fw bs bw off off' : Nat → Nat} {sT : Nat → Int64} {so : Nat → Int32} {k : Nat} (h : sO c g q fs fw bs bw off sT so k) (ho : ∀ j, j < k → off' j = off j) : sO c g q fs fw bs bw off' sT so k := by
  intro j hj
  obtain ⟨s1, s2⟩ := h j hj
  rw [s1, s2, ho j hj]
  refine ⟨rfl, ?_⟩
  congr 1
  apply wS_congr
  intro i _ hi
  apply stp_congr
  · show off i + q i = off' i + q i; rw [ho i (by omega)]
  · show off (i + 1) + q (i + 1) = off' (i + 1) + q (i + 1); rw [ho (i + 1) (by omega)]
theorem b_sput (n : Nat) {N c cs k x : Nat} (hN : N ≤ 5) (hk : k < N) (h1 : 10 ≤ c) (h2 : c ≤ 120) (hs1 : 1 ≤ cs) (hx : x < chs cs c) (g q fs fw bs bw off : Nat → Nat) (hg : ∀ k, k < N → q k < g k ∧ g k < c) (hf : ∀ i, i < 5 → fw i ≤ 100 ∧ bw i ≤ 100) (hoc : ∀ j, j ≤ k → off j < c) (sA : Nat → Int32) (hE : ∀ j, j + 1 < N → sE c g q fs fw bs bw sA j) (sT : Nat → Int64) (so : Nat → Int32) (hb : sO c g q fs fw bs bw off sT so k) (hoff : off k = x * cs) :
    ∃ sT' so', p_Stop_put n (nI k) (nI x) (nI cs) (nI c) sA sT so = some (-(lN (wS (stp c (fun k => g k - q k) (fun k => off k + q k) fs fw bs bw) 0 k)), sT', so') ∧ sO c g q fs fw bs bw off sT' so' (k + 1) := by
  have wi1 : (if (0 : Int64) ≤ (nI k).toInt64 ∧ (nI k).toInt64 ≤ (4 : Int64) then (1 : Int32) else 0) = 1 := if_pos (by rw [b_le32, b_ge32, nI_toInt (by omega), show (0 : Int64).toInt = 0 by decide, show (4 : Int64).toInt = 4 by decide]; omega)
  have d1 : dk_in (nI k) 5 = true := b_in (by omega) (by omega)
  have k1 : (nI k).toNatClampNeg = k := nI_clamp (by omega)
  have exc : nI x * nI cs = nI (off k) := by rw [pk_mul, hoff]
  unfold p_Stop_put
  rw [b_within, wi1, Option.bind_some, if_neg (show ¬ (1 : Int32) = 0 by decide), if_pos d1, exc]
  by_cases hk0 : k = 0
  · subst hk0
    rw [if_pos (show nI 0 = 0 from rfl), if_pos d1, if_pos d1, k1, pk_uLs]
    refine ⟨_, _, rfl, ?_⟩
    intro j hj
    rw [show j = 0 by omega, pk_us, pk_uLs]
    exact ⟨rfl, rfl⟩
  · obtain ⟨K, rfl⟩ : ∃ K, k = K + 1 := ⟨k - 1, by omega⟩
    have d2 : dk_in (nI K) 5 = true := b_in (by omega) (by omega)
    have k2 : (nI K).toNatClampNeg = K := nI_clamp (by omega)
    obtain ⟨p1, p2⟩ := hb K (by omega)
    have hm : p_Math_min n (nI c) (120 : Int32) = some (nI c) := by
      unfold p_Math_min
      rw [if_neg (show ¬ (120 : Int32) < nI c from nI_nlt (a := 120) (by omega) (by omega))]
    have c1 := hoc K (by omega)
    have c2 := hoc (K + 1) (by omega)
    have et : (nI (off (K + 1)) - nI (off K)).toInt = (off (K + 1) : Int) - (off K : Int) := pk_sub_toInt (by omega) (by omega)
    have lt := em_lt ((off (K + 1) : Int) - (off K : Int)) (c := c) (by omega)
    have hwr : p_WO_wrap n (nI (off (K + 1)) - nI (off K)) (nI c) = some (nI (em ((off (K + 1) : Int) - (off K : Int)) c)) := by rw [b_wrap n _ h1 h2, et]; rfl
    have ei : (nI (K + 1) * (120 : Int32)) + nI (em ((off (K + 1) : Int) - (off K : Int)) c) = nI ((K + 1) * 120 + em ((off (K + 1) : Int) - (off K : Int)) c) := by rw [show (120 : Int32) = nI 120 from rfl, pk_mul, nI_add]
    have d3 : dk_in (nI ((K + 1) * 120 + em ((off (K + 1) : Int) - (off K : Int)) c)) 600 = true := b_in (by omega) (by omega)
    have k3 : (nI ((K + 1) * 120 + em ((off (K + 1) : Int) - (off K : Int)) c)).toNatClampNeg = (K + 1) * 120 + em ((off (K + 1) : Int) - (off K : Int)) c := nI_clamp (by omega)
    have g0 := hg K (by omega)
    have g1 := hg (K + 1) hk
    have eA : sA ((K + 1) * 120 + em ((off (K + 1) : Int) - (off K : Int)) c) = nI (stp c (fun k => g k - q k) (fun k => off k + q k) fs fw bs bw K) := by
      rw [hE K hk _ lt, stb_em (by omega), stb_stp (L := fun k => g k - q k) (show g K - q K < c by omega) (show g (K + 1) - q (K + 1) < c by omega)]
    have sl : stp c (fun k => g k - q k) (fun k => off k + q k) fs fw bs bw K ≤ 24000 := stp_le h2 (hf K (by omega)).1 (hf (K + 1) (by omega)).2
    rw [if_neg (show ¬ nI (K + 1) = 0 from nI_ne0 (by omega) (by omega)), if_pos d1, nI_pred, if_pos d2, hm, Option.bind_some, k1, k2, pk_us, pk_un (show K ≠ K + 1 by omega), p1, hwr, Option.bind_some, if_pos d2, ei, if_pos d3, if_pos d1, if_pos d1, k3, eA, p2, nI_l (by omega), lN_add, pk_uLs]
    have es : wS (stp c (fun k => g k - q k) (fun k => off k + q k) fs fw bs bw) 0 (K + 1) = wS (stp c (fun k => g k - q k) (fun k => off k + q k) fs fw bs bw) 0 K + stp c (fun k => g k - q k) (fun k => off k + q k) fs fw bs bw K := by rw [wS_last, Nat.zero_add]
    rw [← es]
    refine ⟨_, _, rfl, ?_⟩
    intro j hj
    by_cases hjk : j = K + 1
    · subst hjk; rw [pk_us, pk_uLs]; exact ⟨rfl, rfl⟩
    · rw [pk_un hjk, pk_uLn hjk]; exact hb j (by omega)
