/-! the class's search: begin, beats, and rows put from a crossing on -/
theorem wS_grow (f : Nat → Nat) (k a : Nat) : ∀ b, wS f k a ≤ wS f k (a + b) := by
  intro b
  induction b with
  | zero => exact Nat.le_refl _
  | succ b ih => rw [show a + (b + 1) = (a + b) + 1 by omega, wS_last]; omega
theorem vw_congr {aim N c : Nat} {g q fs fw bs bw off off' : Nat → Nat} {d : Nat} (hd : 1 ≤ d) (h : ∀ j, j < d → off j = off' j) : vw aim N c g q fs fw bs bw off d = vw aim N c g q fs fw bs bw off' d := by
  unfold vw
  by_cases h0 : aim = 0
  · rw [if_pos h0, if_pos h0]
    have e : ∀ G : Nat → Nat, bnd c (fun k => g k - q k) G (fun k => off k + q k) d = bnd c (fun k => g k - q k) G (fun k => off' k + q k) d := by
      intro G
      unfold bnd
      apply cnt_congr
      intro t _
      apply al_congr
      intro k hk
      show ar (g k - q k) c ((t : Int) + (G k : Int) - ((off k + q k : Nat) : Int)) = ar (g k - q k) c ((t : Int) + (G k : Int) - ((off' k + q k : Nat) : Int))
      rw [h k hk]
    rw [e, e]
  · rw [if_neg h0, if_neg h0]
    apply wS_congr
    intro i _ hi
    apply stp_congr
    · show off i + q i = off' i + q i; rw [h i (by omega)]
    · show off (i + 1) + q (i + 1) = off' (i + 1) + q (i + 1); rw [h (i + 1) (by omega)]
theorem sg_mono {aim N c : Nat} {g q fs fw bs bw off : Nat → Nat} {d : Nat} (hd : d ≤ N) : sg aim (vw aim N c g q fs fw bs bw off N) ≤ sg aim (vw aim N c g q fs fw bs bw off d) := by
  unfold sg vw
  by_cases h0 : aim = 0
  · rw [if_pos h0, if_pos h0, if_pos h0, if_pos h0]
    have e : ∀ G : Nat → Nat, bnd c (fun k => g k - q k) G (fun k => off k + q k) N ≤ bnd c (fun k => g k - q k) G (fun k => off k + q k) d := by
      intro G
      unfold bnd
      apply cnt_mono
      intro t _ ht
      rw [al_iff] at ht ⊢
      exact fun k hk => ht k (by omega)
    have a1 := Nat.mul_le_mul_left (wS fw 0 N) (e (gn 0 N fs bs))
    have a2 := Nat.mul_le_mul_left (wS bw 0 N) (e (gn 1 N fs bs))
    omega
  · rw [if_neg h0, if_neg h0, if_neg h0, if_neg h0]
    have := wS_grow (stp c (fun k => g k - q k) (fun k => off k + q k) fs fw bs bw) 0 (d - 1) (N - 1 - (d - 1))
    rw [show d - 1 + (N - 1 - (d - 1)) = N - 1 by omega] at this
    omega
theorem sg_bd {aim v : Nat} (hv : v ≤ 200000) : -200000 ≤ sg aim v ∧ sg aim v ≤ 200000 := by
  unfold sg; split <;> omega
def crel (N : Nat) (st : Nat × Int × (Nat → Nat)) (bsc : Int64) (uc us : Int32) (uo : Nat → Int32) : Prop :=
  uc = nI st.1 ∧ st.1 ≤ 120 ∧ (st.1 ≠ 0 → bsc.toInt = st.2.1 ∧ -200000 ≤ st.2.1 ∧ st.2.1 ≤ 200000 ∧ us = nI N ∧ ∀ k, k < N → uo k = nI (st.2.2 k))
theorem b_mulI {x : Int64} {s : Int} {c : Nat} (hx : x.toInt = s) (h1 : -200000 ≤ s) (h2 : s ≤ 200000) (hc : c ≤ 120) : (x * (nI c).toInt64).toInt = s * (c : Int) := by
  have e : ((nI c).toInt64).toInt = (c : Int) := by rw [Int32.toInt_toInt64, nI_toInt (by omega)]
  have hp := Nat.mul_le_mul (show s.natAbs ≤ 200000 by omega) hc
  have e2 : (s * (c : Int)).natAbs = s.natAbs * c := by rw [Int.natAbs_mul]; rfl
  rw [Int64.toInt_mul, hx, e, Int.bmod_eq_of_le (by omega) (by omega)]
theorem b_beats (n : Nat) {N c : Nat} {st : Nat × Int × (Nat → Nat)} {bsc : Int64} {uc us : Int32} {uo : Nat → Int32} (hc : c ≤ 120) (hr : crel N st bsc uc us uo) {z : Int64} {s : Int} (hz : z.toInt = s) (h1 : -200000 ≤ s) (h2 : s ≤ 200000) :
    p_Srch_beats n z uc bsc (nI c) = some (if st.1 = 0 ∨ st.2.1 * (c : Int) < s * (st.1 : Int) then 1 else 0) := by
  obtain ⟨rfl, b1, b2⟩ := hr
  unfold p_Srch_beats
  rw [b_isMade, Option.bind_some]
  by_cases h0 : st.1 = 0
  · rw [h0, if_neg (show ¬ (0 : Int32) < nI 0 by decide), if_pos rfl, if_pos (Or.inl rfl)]
  · obtain ⟨e1, e2, e3, _⟩ := b2 h0
    rw [if_pos (show (0 : Int32) < nI st.1 from nI_lt (a := 0) (by omega) (by omega)), if_neg (show ¬ (1 : Int32) = 0 by decide)]
    have m1 := b_mulI hz h1 h2 b1
    have m2 := b_mulI e1 e2 e3 hc
    by_cases hh : st.2.1 * (c : Int) < s * (st.1 : Int)
    · rw [if_neg (fun z => absurd ((lg_cmp_le _ _).mp z) (by rw [Int64.le_iff_toInt_le, m1, m2]; omega)), if_pos (Or.inr hh)]
    · rw [if_pos ((lg_cmp_le _ _).mpr (by rw [Int64.le_iff_toInt_le, m1, m2]; omega)), if_neg (fun z => by rcases z with z | z; exact h0 z; exact hh z)]
theorem b_set (n : Nat) (hn : 6 ≤ n) (x1 x2 a b : Int32) (u f : Nat → Int32) : ∃ f', p_Plan_set n x1 x2 u a b f = some (x1, x2, f') ∧ ∀ k, k < 5 → f' k = u k := by
  refine ⟨_, by unfold p_Plan_set; rw [b_set13 n hn]; rfl, ?_⟩
  intro k hk
  by_cases h4 : k = 4
  · subst h4; rw [pk_us]
  · rw [pk_un h4]
    by_cases h3 : k = 3
    · subst h3; rw [pk_us]
    · rw [pk_un h3]
      by_cases h2 : k = 2
      · subst h2; rw [pk_us]
      · rw [pk_un h2]
        by_cases h1 : k = 1
        · subst h1; rw [pk_us]
        · rw [pk_un h1, show k = 0 by omega, pk_us]
theorem b_srbegin32 (n : Nat) (hn : 100 ≤ n) {N c cs : Nat} (h2 : c ≤ 120) (hs1 : 1 ≤ cs) (hs2 : cs ≤ 60) (hN : N ≤ 5) :
    ∀ (d k fu : Nat) (rB : Nat → Int64), k + d = 5 → d < fu → (∀ j, j < k → j < N → rB j = lN (chs cs c ^ (N - 1 - j))) → ∃ rB', p_Srch_begin_32 n fu (nI N) (nI cs) (nI c) (nI k) rB = some rB' ∧ ∀ j, j < N → rB' j = lN (chs cs c ^ (N - 1 - j)) := by
  intro d
  induction d with
  | zero =>
    intro k fu rB e hf h
    obtain ⟨m, rfl⟩ : ∃ m, fu = m + 1 := ⟨fu - 1, by omega⟩
    rw [q_Srch_begin_32, if_pos (show (5 : Int32) ≤ nI k from nI_le (a := 5) (by omega) (by omega))]
    exact ⟨rB, rfl, fun j hj => h j (by omega) hj⟩
  | succ d ih =>
    intro k fu rB e hf h
    obtain ⟨m, rfl⟩ : ∃ m, fu = m + 1 := ⟨fu - 1, by omega⟩
    have er := b_rows7 n (c := c) (cs := cs) (N := N) (by omega) hs1 hs2 hN (N - 1 - k) (k + 1) 1 n (by omega) (by omega) (by omega)
    rw [Nat.one_mul] at er
    have e2 : p_Road_rowsBehind n (nI k) (nI c) (nI N) (nI cs) = some (lN (chs cs c ^ (N - 1 - k))) := by
      unfold p_Road_rowsBehind
      rw [nI_1, show (1 : Int64) = lN 1 from rfl, er]
      rfl
    rw [q_Srch_begin_32, if_neg (show ¬ (5 : Int32) ≤ nI k from nI_ge (b := 5) (by omega) (by omega)), e2, Option.bind_some, if_pos (b_in (show k < 5 by omega) (by omega)), nI_clamp (by omega), nI_1]
    apply ih (k + 1) m _ (by omega) (by omega)
    intro j hj hjN
    by_cases hjk : j = k
    · subst hjk; rw [pk_uLs]
    · rw [pk_uLn hjk]; exact h j (by omega) hjN
theorem b_srbegin (n : Nat) (hn : 100 ≤ n) {N c cs : Nat} (h2 : c ≤ 120) (hs1 : 1 ≤ cs) (hs2 : cs ≤ 60) (hN : N ≤ 5) (z1 z2 z3 z4 : Int32) (rB : Nat → Int64) :
    ∃ rB', p_Srch_begin n (nI c) (nI N) (nI cs) z1 z2 z3 z4 rB = some (nI N, nI c, nI (chs cs c), nI cs, rB') ∧ ∀ j, j < N → rB' j = lN (chs cs c ^ (N - 1 - j)) := by
  obtain ⟨rB', r1, r2⟩ := b_srbegin32 n hn h2 hs1 hs2 hN 5 0 n rB (by omega) (by omega) (fun j hj _ => absurd hj (by omega))
  refine ⟨rB', ?_, r2⟩
  unfold p_Srch_begin
  rw [show nI 0 = (0 : Int32) from rfl] at r1
  rw [b_size, Option.bind_some, b_choices n (by omega) hs1 hs2, Option.bind_some, b_stepOf, Option.bind_some, r1]
  rfl
theorem b_pow4 {ch e : Nat} (h1 : 1 ≤ ch) (h : ch ≤ 120) (he : e ≤ 4) : ch ^ e ≤ 207360000 := by
  have a1 : ch ^ e ≤ ch ^ 4 := Nat.pow_le_pow_right h1 he
  have a2 : ch ^ 4 ≤ 120 ^ 4 := Nat.pow_le_pow_left h 4
  exact Nat.le_trans a1 a2
theorem b_subL {x : Int64} {b : Nat} (h1 : -1000000000 ≤ x.toInt) (h2 : x.toInt ≤ 1000000000) (hb : b ≤ 1000000000) : (x - lN b).toInt = x.toInt - (b : Int) := by
  rw [Int64.toInt_sub, pk_lT (by omega), Int.bmod_eq_of_le (by omega) (by omega)]
