/-! how long cars have gone, and the class's bands -/
def gn (w N : Nat) (fs bw : Nat → Nat) (k : Nat) : Nat := if w = 0 then wS fs 0 k else wS bw (k + 1) (N - 1 - k)
theorem b_gone9 (n : Nat) {N K : Nat} (hN : N ≤ 5) (hK : K ≤ N) (fs : Nat → Nat) (sec : Nat → Int32) (hs : ∀ i, i < 5 → sec i = nI (fs i)) :
    ∀ (d k s fu : Nat), k + d = K → d < fu → p_Road_goneTo_9 n fu (nI N) sec (nI K) (nI s) (nI k) = some (nI (s + wS fs k d)) := by
  intro d
  induction d with
  | zero =>
    intro k s fu e hf
    obtain ⟨m, rfl⟩ : ∃ m, fu = m + 1 := ⟨fu - 1, by omega⟩
    rw [q_Road_goneTo_9, if_pos (show nI K ≤ nI k from nI_le (by omega) (by omega))]
    rfl
  | succ d ih =>
    intro k s fu e hf
    obtain ⟨m, rfl⟩ : ∃ m, fu = m + 1 := ⟨fu - 1, by omega⟩
    rw [q_Road_goneTo_9, if_neg (show ¬ nI K ≤ nI k from nI_ge (by omega) (by omega)), if_neg (show ¬ nI N ≤ nI k from nI_ge (by omega) (by omega)), show p_Road_streetAt n (0 : Int32) (nI k) = some (nI k) from rfl, Option.bind_some, if_pos (b_in (by omega) (by omega)), nI_clamp (by omega), hs k (by omega), nI_add, nI_1, ih (k + 1) _ m (by omega) (by omega)]
    show some (nI (s + fs k + wS fs (k + 1) d)) = some (nI (s + (fs k + wS fs (k + 1) d)))
    rw [Nat.add_assoc]
theorem b_gone55 (n : Nat) {K : Nat} (bw : Nat → Nat) (sec : Nat → Int32) (hs : ∀ i, i < 5 → sec (5 + i) = nI (bw i)) :
    ∀ (d s fu : Nat), K + d ≤ 4 → d < fu → p_Road_goneTo_55 n fu sec (nI K) (nI s) (nI (K + d)) = some (nI (s + wS bw (K + 1) d)) := by
  intro d
  induction d with
  | zero =>
    intro s fu e hf
    obtain ⟨m, rfl⟩ : ∃ m, fu = m + 1 := ⟨fu - 1, by omega⟩
    rw [q_Road_goneTo_55, if_pos (show nI (K + 0) ≤ nI K from nI_le (by omega) (by omega))]
    rfl
  | succ d ih =>
    intro s fu e hf
    obtain ⟨m, rfl⟩ : ∃ m, fu = m + 1 := ⟨fu - 1, by omega⟩
    have e1 : p_Road_streetAt n (1 : Int32) (nI (K + (d + 1))) = some (nI (5 + (K + (d + 1)))) := by
      unfold p_Road_streetAt
      rw [if_neg (show ¬ (1 : Int32) = 0 by decide), show (5 : Int32) = nI 5 from rfl, nI_add]
    rw [q_Road_goneTo_55, if_neg (show ¬ nI (K + (d + 1)) ≤ nI K from nI_ge (by omega) (by omega)), if_neg (nI_nle (by omega) (by omega)), e1, Option.bind_some, if_pos (b_in (by omega) (by omega)), nI_clamp (by omega), hs _ (by omega), nI_add, show K + (d + 1) = (K + d) + 1 by omega, pk_m1, ih _ m (by omega) (by omega), wS_last, show K + 1 + d = K + d + 1 by omega]
    congr 2; omega
theorem b_goneTo (n : Nat) (hn : 100 ≤ n) {N k w : Nat} (hN : N ≤ 5) (hk : k < N) (hw : w < 2) (fs bw : Nat → Nat) (sec : Nat → Int32) (hs : ∀ i, i < 5 → sec i = nI (fs i) ∧ sec (5 + i) = nI (bw i)) :
    p_Road_goneTo n (nI k) (nI w) (nI N) sec = some (nI (gn w N fs bw k)) := by
  unfold p_Road_goneTo gn
  by_cases h0 : w = 0
  · subst h0
    have := b_gone9 n hN (show k ≤ N by omega) fs sec (fun i hi => (hs i hi).1) k 0 0 n (by omega) (by omega)
    rw [if_pos (show nI 0 = 0 from rfl), show (0 : Int32) = nI 0 from rfl, this, Option.bind_some, if_pos rfl, Nat.zero_add]
  · have := b_gone55 n (K := k) bw sec (fun i hi => (hs i hi).2) (N - 1 - k) 0 n (by omega) (by omega)
    rw [if_neg (show ¬ nI w = 0 from nI_ne0 (by omega) (by omega)), if_neg h0, show nI N - (1 : Int32) = nI (k + (N - 1 - k)) from (pk_sub (a := N) (b := 1) (by omega)).trans (by congr 1; omega), show (0 : Int32) = nI 0 from rfl, this, Option.bind_some, Nat.zero_add]
theorem gn_le {w N k : Nat} (hN : N ≤ 5) (hk : k < N) (fs bw : Nat → Nat) (hf : ∀ i, i < 5 → fs i ≤ 200 ∧ bw i ≤ 200) : gn w N fs bw k ≤ 1000 := by
  unfold gn
  by_cases h : w = 0
  · rw [if_pos h]
    have := wS_le (f := fs) (m := 200) k 0 (fun i _ hi => (hf i (by omega)).1)
    omega
  · rw [if_neg h]
    have := wS_le (f := bw) (m := 200) (N - 1 - k) (k + 1) (fun i _ hi => (hf i (by omega)).2)
    omega
theorem b_openFrom (n : Nat) (hn : 100 ≤ n) {N k w o c qk : Nat} (hN : N ≤ 5) (hk : k < N) (hw : w < 2) (h1 : 10 ≤ c) (h2 : c ≤ 120) (ho : o ≤ 1000) (hq : qk ≤ 1000) (fs bw : Nat → Nat) (hf : ∀ i, i < 5 → fs i ≤ 200 ∧ bw i ≤ 200) (sec qs : Nat → Int32) (hs : ∀ i, i < 5 → sec i = nI (fs i) ∧ sec (5 + i) = nI (bw i)) (eq : qs k = nI qk) :
    p_Road_openFrom n (nI k) (nI w) (nI o) (nI c) (nI N) qs sec = some (nI (em (((o + qk : Nat) : Int) - (gn w N fs bw k : Int)) c)) := by
  unfold p_Road_openFrom
  have h0 : 0 ≤ (nI k).toInt ∧ (nI k).toInt < (nI N).toInt := by rw [nI_toInt (by omega), nI_toInt (by omega)]; omega
  have hg := gn_le (w := w) hN hk fs bw hf
  rw [b_queueOf n qs h0 (by rw [nI_toInt (by omega)]; omega), Option.bind_some, nI_clamp (by omega), eq, b_goneTo n hn hN hk hw fs bw sec hs, Option.bind_some, nI_add, b_wrap n _ h1 h2, Option.bind_some, pk_sub_toInt (by omega) (by omega)]
  rfl
/-- how many seconds of the cycle the first d crossings are all open for a car of a way -/
def bnd (c : Nat) (L G a : Nat → Nat) (d : Nat) : Nat := cnt (fun t => al (fun k => ar (L k) c ((t : Int) + (G k : Int) - (a k : Int))) d) c
/-- second i + b of an arc's word -/
def ob (c b : Nat) (L G a : Nat → Nat) (i k : Nat) : Bool := decide (i + b < c) && ar (L k) c (((i + b : Nat) : Int) - (em ((a k : Int) - (G k : Int)) c : Int))
theorem bnd_words {c : Nat} (h1 : 10 ≤ c) (h2 : c ≤ 120) (L G a : Nat → Nat) {d : Nat} (hd : 1 ≤ d) : cnt (fun i => al (fun k => ob c 0 L G a i k) d) 60 + cnt (fun i => al (fun k => ob c 60 L G a i k) d) 60 = bnd c L G a d := by
  have e1 := cnt_add (fun i => al (fun k => ob c 0 L G a i k) d) 60 60
  have e2 : cnt (fun i => (fun i => al (fun k => ob c 0 L G a i k) d) (60 + i)) 60 = cnt (fun i => al (fun k => ob c 60 L G a i k) d) 60 := by
    apply cnt_congr
    intro i _
    apply al_congr
    intro k _
    unfold ob
    rw [show 60 + i + 0 = i + 60 by omega]
  rw [e2] at e1
  rw [← e1]
  have e3 := cnt_add (fun i => al (fun k => ob c 0 L G a i k) d) c (120 - c)
  rw [show c + (120 - c) = 60 + 60 by omega] at e3
  have e4 : cnt (fun i => (fun i => al (fun k => ob c 0 L G a i k) d) (c + i)) (120 - c) = 0 := by
    apply cnt_none
    intro i _
    cases hh : al (fun k => ob c 0 L G a (c + i) k) d with
    | false => exact hh
    | true =>
      exfalso
      have := (al_iff _ d).mp hh 0 (by omega)
      unfold ob at this
      rw [decide_eq_false (show ¬ c + i + 0 < c by omega), Bool.false_and] at this
      exact absurd this (by decide)
  rw [e3, e4, Nat.add_zero]
  unfold bnd
  apply cnt_congr
  intro t ht
  apply al_congr
  intro k _
  unfold ob
  rw [Nat.add_zero, decide_eq_true ht, Bool.true_and]
  apply ar_of
  rw [em_sub_em _ _ (by omega)]
  congr 1; omega
theorem b_bandOf12 (n : Nat) (hn : 100 ≤ n) {N w c : Nat} (hN : N ≤ 5) (hw : w < 2) (h1 : 10 ≤ c) (h2 : c ≤ 120) (g q o fs bw : Nat → Nat) (hg : ∀ k, k < N → q k < g k ∧ g k < c ∧ o k < c) (hf : ∀ i, i < 5 → fs i ≤ 200 ∧ bw i ≤ 200) (offs qs sec gs : Nat → Int32) (hs : ∀ i, i < 5 → sec i = nI (fs i) ∧ sec (5 + i) = nI (bw i)) (hx : ∀ k, k < N → offs k = nI (o k) ∧ qs k = nI (q k) ∧ gs k = nI (g k)) :
    ∀ (d k fu : Nat) (z2 z4 : Int64), k + d = N → d < fu →
      (k = 0 ∧ z2 = -1 ∧ z4 = -1 ∧ 1 ≤ N ∨ z2 = wrd (fun i => al (fun k => ob c 0 (fun k => g k - q k) (gn w N fs bw) (fun k => o k + q k) i k) k) ∧ z4 = wrd (fun i => al (fun k => ob c 60 (fun k => g k - q k) (gn w N fs bw) (fun k => o k + q k) i k) k)) →
      p_WO_bandOf_12 n fu (nI N) offs (nI c) qs sec gs (nI w) z2 z4 (nI k) = some (wrd (fun i => al (fun k => ob c 0 (fun k => g k - q k) (gn w N fs bw) (fun k => o k + q k) i k) N), wrd (fun i => al (fun k => ob c 60 (fun k => g k - q k) (gn w N fs bw) (fun k => o k + q k) i k) N)) := by
  intro d
  induction d with
  | zero =>
    intro k fu z2 z4 e hf' hz
    obtain ⟨m, rfl⟩ : ∃ m, fu = m + 1 := ⟨fu - 1, by omega⟩
    rw [q_WO_bandOf_12, b_size, Option.bind_some, if_pos (show nI N ≤ nI k from nI_le (by omega) (by omega))]
    rcases hz with ⟨h0, _⟩ | ⟨rfl, rfl⟩
    · omega
    · rw [show k = N by omega]
  | succ d ih =>
    intro k fu z2 z4 e hf' hz
    obtain ⟨m, rfl⟩ : ∃ m, fu = m + 1 := ⟨fu - 1, by omega⟩
    obtain ⟨g1, g2, g3⟩ := hg k (by omega)
    obtain ⟨x1, x2, x3⟩ := hx k (by omega)
    have hk5 : 0 ≤ (nI k).toInt ∧ (nI k).toInt < 5 := by rw [nI_toInt (by omega)]; omega
    rw [q_WO_bandOf_12, b_size, Option.bind_some, if_neg (show ¬ nI N ≤ nI k from nI_ge (by omega) (by omega)), b_offsetOf n offs hk5, Option.bind_some, nI_clamp (by omega), x1, b_openFrom n hn hN (by omega) hw h1 h2 (by omega) (by omega) fs bw hf sec qs hs x2, Option.bind_some, b_openOf n hN (by omega) gs qs x3 x2 (by omega), Option.bind_some]
    have lt := em_lt (((o k + q k : Nat) : Int) - (gn w N fs bw k : Int)) (c := c) (by omega)
    rw [show (0 : Int32) = nI 0 from rfl, b_arcBits n lt (show g k - q k < c by omega) h2 (by omega), Option.bind_some, Option.bind_some, show (60 : Int32) = nI 60 from rfl, b_arcBits n lt (show g k - q k < c by omega) h2 (by omega), Option.bind_some, nI_1]
    apply ih (k + 1) m _ _ (by omega) (by omega)
    right
    rcases hz with ⟨rfl, rfl, rfl, _⟩ | ⟨rfl, rfl⟩
    · rw [wrd_m1, wrd_m1]
      exact ⟨rfl, rfl⟩
    · rw [wrd_and, wrd_and]
      exact ⟨rfl, rfl⟩
theorem b_bandOf (n : Nat) (hn : 100 ≤ n) {N w c : Nat} (hN1 : 1 ≤ N) (hN : N ≤ 5) (hw : w < 2) (h1 : 10 ≤ c) (h2 : c ≤ 120) (g q o fs bw : Nat → Nat) (hg : ∀ k, k < N → q k < g k ∧ g k < c ∧ o k < c) (hf : ∀ i, i < 5 → fs i ≤ 200 ∧ bw i ≤ 200) (offs qs sec gs : Nat → Int32) (hs : ∀ i, i < 5 → sec i = nI (fs i) ∧ sec (5 + i) = nI (bw i)) (hx : ∀ k, k < N → offs k = nI (o k) ∧ qs k = nI (q k) ∧ gs k = nI (g k)) :
    p_WO_bandOf n (nI w) (nI N) offs (nI c) qs sec gs = some (nI (bnd c (fun k => g k - q k) (gn w N fs bw) (fun k => o k + q k) N)) := by
  unfold p_WO_bandOf
  have := b_bandOf12 n hn hN hw h1 h2 g q o fs bw hg hf offs qs sec gs hs hx N 0 n (-1) (-1) (by omega) (by omega) (Or.inl ⟨rfl, rfl, rfl, hN1⟩)
  rw [show (0 : Int32) = nI 0 from rfl, this, Option.bind_some]
  show ((p_Long_bitCount n (wrd _)).bind fun r112_10 => (p_Long_bitCount n (wrd _)).bind fun r117_11 => some (r112_10 + r117_11)) = _
  rw [b_popw, b_popw, Option.bind_some, Option.bind_some, nI_add, bnd_words h1 h2 _ _ _ hN1]
