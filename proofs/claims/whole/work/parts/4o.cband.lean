/-! aim 0 in the class: tables of words, and what is put -/
def ow (c b L G a i : Nat) : Bool := decide (i + b < c) && ar L c (((i + b : Nat) : Int) - (em ((a : Int) - (G : Int)) c : Int))
theorem b_fill39 (n : Nat) {c cs ch L qk G rb : Nat} (h1 : 10 ≤ c) (h2 : c ≤ 120) (hs2 : cs ≤ 60) (hL : L < c) (hch : ch ≤ 120) (hrb : rb + 120 ≤ 1200) :
    ∀ (d x fu : Nat) (oL oH : Nat → Int64), x + d = ch → d < fu → ∃ oL' oH', p_Band_fillOpen_39 n fu (nI cs) (nI c) (nI L) (nI (em (((x * cs + qk : Nat) : Int) - (G : Int)) c)) (nI rb) (nI ch) (nI x) oL oH = some (oL', oH') ∧ (∀ y, x ≤ y → y < ch → oL' (rb + y) = wrd (ow c 0 L G (y * cs + qk)) ∧ oH' (rb + y) = wrd (ow c 60 L G (y * cs + qk))) ∧ (∀ j, j < rb + x ∨ rb + ch ≤ j → oL' j = oL j ∧ oH' j = oH j) := by
  intro d
  induction d with
  | zero =>
    intro x fu oL oH e hf
    obtain ⟨m, rfl⟩ : ∃ m, fu = m + 1 := ⟨fu - 1, by omega⟩
    rw [q_Band_fillOpen_39, if_pos (show nI ch ≤ nI x from nI_le (by omega) (by omega))]
    exact ⟨oL, oH, rfl, fun y h1 h2 => absurd h1 (by omega), fun j _ => ⟨rfl, rfl⟩⟩
  | succ d ih =>
    intro x fu oL oH e hf
    obtain ⟨m, rfl⟩ : ∃ m, fu = m + 1 := ⟨fu - 1, by omega⟩
    have lt := em_lt (((x * cs + qk : Nat) : Int) - (G : Int)) (c := c) (by omega)
    have d1 : dk_in (nI (rb + x)) 1200 = true := b_in (by omega) (by omega)
    have ew : em ((em (((x * cs + qk : Nat) : Int) - (G : Int)) c + cs : Nat) : Int) c = em ((((x + 1) * cs + qk : Nat) : Int) - (G : Int)) c := by
      have h := em_em_add (((x * cs + qk : Nat) : Int) - (G : Int)) (cs : Int) (c := c) (by omega)
      rw [show ((em (((x * cs + qk : Nat) : Int) - (G : Int)) c + cs : Nat) : Int) = (em (((x * cs + qk : Nat) : Int) - (G : Int)) c : Int) + (cs : Int) by omega, h, Nat.add_mul, Nat.one_mul]
      congr 1; omega
    rw [q_Band_fillOpen_39, if_neg (show ¬ nI ch ≤ nI x from nI_ge (by omega) (by omega)), if_neg (show ¬ (120 : Int32) ≤ nI x from nI_ge (b := 120) (by omega) (by omega)), show (0 : Int32) = nI 0 from rfl, b_arcBits n lt hL h2 (by omega), Option.bind_some, nI_add, if_pos d1, show (60 : Int32) = nI 60 from rfl, b_arcBits n lt hL h2 (by omega), Option.bind_some, if_pos d1, b_stepOf, Option.bind_some, nI_add, b_wrap n _ h1 h2, nI_toInt (show em (((x * cs + qk : Nat) : Int) - (G : Int)) c + cs < 2 ^ 31 by omega), Option.bind_some, nI_clamp (by omega), nI_1]
    show ∃ oL' oH', p_Band_fillOpen_39 n m (nI cs) (nI c) (nI L) (nI (em ((em (((x * cs + qk : Nat) : Int) - (G : Int)) c + cs : Nat) : Int) c)) (nI rb) (nI ch) (nI (x + 1)) (vp_updL oL (rb + x) (wrd (ow c 0 L G (x * cs + qk)))) (vp_updL oH (rb + x) (wrd (ow c 60 L G (x * cs + qk)))) = some (oL', oH') ∧ _
    rw [ew]
    obtain ⟨oL', oH', r1, r2, r3⟩ := ih (x + 1) m (vp_updL oL (rb + x) (wrd (ow c 0 L G (x * cs + qk)))) (vp_updL oH (rb + x) (wrd (ow c 60 L G (x * cs + qk)))) (by omega) (by omega)
    refine ⟨oL', oH', r1, ?_, ?_⟩
    · intro y hy1 hy2
      by_cases hyx : y = x
      · subst hyx
        obtain ⟨s1, s2⟩ := r3 (rb + y) (Or.inl (by omega))
        rw [s1, s2, pk_uLs, pk_uLs]
        exact ⟨rfl, rfl⟩
      · exact r2 y (by omega) hy2
    · intro j hj
      obtain ⟨s1, s2⟩ := r3 j (by omega)
      rw [s1, s2, pk_uLn (by omega), pk_uLn (by omega)]
      exact ⟨rfl, rfl⟩
/-- the words of crossing k and way w -/
def bE (N c cs : Nat) (g q fs bs : Nat → Nat) (oL oH : Nat → Int64) (w k : Nat) : Prop := ∀ y, y < chs cs c → oL ((k * 2 + w) * 120 + y) = wrd (ow c 0 (g k - q k) (gn w N fs bs k) (y * cs + q k)) ∧ oH ((k * 2 + w) * 120 + y) = wrd (ow c 60 (g k - q k) (gn w N fs bs k) (y * cs + q k))
theorem b_fillOpen (n : Nat) (hn : 1000 ≤ n) {N c cs k w : Nat} (hN : N ≤ 5) (hk : k < N) (hw : w < 2) (h1 : 10 ≤ c) (h2 : c ≤ 120) (hs1 : 1 ≤ cs) (hs2 : cs ≤ 60) (g q fs bs : Nat → Nat) (hg : ∀ k, k < N → q k < g k ∧ g k < c) (hf : ∀ i, i < 5 → fs i ≤ 200 ∧ bs i ≤ 200) (gs qs sec : Nat → Int32) (hs : ∀ i, i < 5 → sec i = nI (fs i) ∧ sec (5 + i) = nI (bs i)) (hx : ∀ k, k < N → qs k = nI (q k) ∧ gs k = nI (g k)) (oL oH : Nat → Int64) :
    ∃ oL' oH', p_Band_fillOpen n (nI k) (nI w) (nI c) (nI N) gs qs sec (nI cs) oL oH = some (oL', oH') ∧ bE N c cs g q fs bs oL' oH' w k ∧ (∀ w' k', w' < 2 → k' < 5 → (w', k') ≠ (w, k) → bE N c cs g q fs bs oL oH w' k' → bE N c cs g q fs bs oL' oH' w' k') := by
  have hch := chs_le120 (cs := cs) (c := c) hs1 (by omega) h2
  obtain ⟨g1, g2⟩ := hg k hk
  obtain ⟨oL', oH', r1, r2, r3⟩ := b_fill39 n (qk := q k) (G := gn w N fs bs k) (rb := (k * 2 + w) * 120) h1 h2 hs2 (show g k - q k < c by omega) hch (by omega) (chs cs c) 0 n oL oH (by omega) (by omega)
  rw [Nat.zero_mul] at r1
  have er : ((nI k * (2 : Int32)) + nI w) * (120 : Int32) = nI ((k * 2 + w) * 120) := by rw [show (2 : Int32) = nI 2 from rfl, show (120 : Int32) = nI 120 from rfl, pk_mul, nI_add, pk_mul]
  refine ⟨oL', oH', ?_, fun y hy => r2 y (by omega) hy, ?_⟩
  · unfold p_Band_fillOpen
    have eo := b_openFrom n (by omega) hN hk hw h1 h2 (show 0 ≤ 1000 by omega) (show q k ≤ 1000 by omega) fs bs hf sec qs hs (hx k hk).1
    rw [show nI 0 = (0 : Int32) from rfl] at eo r1
    rw [b_openOf n hN hk gs qs (hx k hk).2 (hx k hk).1 (by omega), Option.bind_some, eo, Option.bind_some, b_choices n (by omega) hs1 hs2, Option.bind_some, er, r1]
    rfl
  · intro w' k' hw' hk' hne hb y hy
    have hj : (k' * 2 + w') * 120 + y < (k * 2 + w) * 120 + 0 ∨ (k * 2 + w) * 120 + chs cs c ≤ (k' * 2 + w') * 120 + y := by
      by_cases hkk : k' = k
      · have : w' ≠ w := fun z => hne (by rw [z, hkk])
        omega
      · omega
    obtain ⟨s1, s2⟩ := r3 _ hj
    rw [s1, s2]
    exact hb y hy
theorem b_bbegin21 (n : Nat) (hn : 1000 ≤ n) {N c cs w : Nat} (hN : N ≤ 5) (hw : w < 2) (h1 : 10 ≤ c) (h2 : c ≤ 120) (hs1 : 1 ≤ cs) (hs2 : cs ≤ 60) (g q fs bs : Nat → Nat) (hg : ∀ k, k < N → q k < g k ∧ g k < c) (hf : ∀ i, i < 5 → fs i ≤ 200 ∧ bs i ≤ 200) (gs qs sec : Nat → Int32) (hs : ∀ i, i < 5 → sec i = nI (fs i) ∧ sec (5 + i) = nI (bs i)) (hx : ∀ k, k < N → qs k = nI (q k) ∧ gs k = nI (g k)) :
    ∀ (d k fu : Nat) (oL oH : Nat → Int64), k + d = N → d < fu → (∀ w' k', w' < 2 → k' < N → w' < w ∨ (w' = w ∧ k' < k) → bE N c cs g q fs bs oL oH w' k') → ∃ oL' oH', p_Band_begin_21 n fu (nI N) gs qs sec (nI cs) (nI c) (nI w) (nI k) oL oH = some (oL', oH') ∧ (∀ w' k', w' < 2 → k' < N → w' < w + 1 → bE N c cs g q fs bs oL' oH' w' k') := by
  intro d
  induction d with
  | zero =>
    intro k fu oL oH e hf' hb
    obtain ⟨m, rfl⟩ : ∃ m, fu = m + 1 := ⟨fu - 1, by omega⟩
    rw [q_Band_begin_21, b_size, Option.bind_some, if_pos (show nI N ≤ nI k from nI_le (by omega) (by omega))]
    exact ⟨oL, oH, rfl, fun w' k' a1 a2 a3 => hb w' k' a1 a2 (by omega)⟩
  | succ d ih =>
    intro k fu oL oH e hf' hb
    obtain ⟨m, rfl⟩ : ∃ m, fu = m + 1 := ⟨fu - 1, by omega⟩
    obtain ⟨oL1, oH1, r1, r2, r3⟩ := b_fillOpen n hn hN (show k < N by omega) hw h1 h2 hs1 hs2 g q fs bs hg hf gs qs sec hs hx oL oH
    rw [q_Band_begin_21, b_size, Option.bind_some, if_neg (show ¬ nI N ≤ nI k from nI_ge (by omega) (by omega)), if_neg (show ¬ (5 : Int32) ≤ nI k from nI_ge (b := 5) (by omega) (by omega)), r1, Option.bind_some, nI_1]
    apply ih (k + 1) m oL1 oH1 (by omega) (by omega)
    intro w' k' a1 a2 a3
    by_cases hh : w' = w ∧ k' = k
    · obtain ⟨rfl, rfl⟩ := hh; exact r2
    · exact r3 w' k' a1 (by omega) (fun z => hh (by injection z with z1 z2; exact ⟨z1, z2⟩)) (hb w' k' a1 a2 (by omega))
theorem b_bbegin (n : Nat) (hn : 1000 ≤ n) {N c cs W0 W1 : Nat} (hN : N ≤ 5) (h1 : 10 ≤ c) (h2 : c ≤ 120) (hs1 : 1 ≤ cs) (hs2 : cs ≤ 60) (g q fs bs : Nat → Nat) (hg : ∀ k, k < N → q k < g k ∧ g k < c) (hf : ∀ i, i < 5 → fs i ≤ 200 ∧ bs i ≤ 200) (gs qs sec ws : Nat → Int32) (hs : ∀ i, i < 5 → sec i = nI (fs i) ∧ sec (5 + i) = nI (bs i)) (hx : ∀ k, k < N → qs k = nI (q k) ∧ gs k = nI (g k))
    (w0 : p_Road_weightOf n (0 : Int32) (nI N) ws = some (nI W0)) (w1 : p_Road_weightOf n (1 : Int32) (nI N) ws = some (nI W1)) (oL oH : Nat → Int64) (ww : Nat → Int32) :
    ∃ oL' oH' ww', p_Band_begin n (nI c) (nI N) ws gs qs sec (nI cs) oL oH ww = some (oL', oH', ww') ∧ (∀ w k, w < 2 → k < N → bE N c cs g q fs bs oL' oH' w k) ∧ ww' 0 = nI W0 ∧ ww' 1 = nI W1 := by
  obtain ⟨m, hm⟩ : ∃ m, n = m + 1 + 1 + 1 := ⟨n - 3, by omega⟩
  obtain ⟨oL1, oH1, r1, r2⟩ := b_bbegin21 n hn (w := 0) hN (by omega) h1 h2 hs1 hs2 g q fs bs hg hf gs qs sec hs hx N 0 n oL oH (by omega) (by omega) (fun w' k' _ _ a3 => absurd a3 (by omega))
  obtain ⟨oL2, oH2, s1, s2⟩ := b_bbegin21 n hn (w := 1) hN (by omega) h1 h2 hs1 hs2 g q fs bs hg hf gs qs sec hs hx N 0 n oL1 oH1 (by omega) (by omega) (fun w' k' a1 a2 a3 => r2 w' k' a1 a2 (by omega))
  rw [show nI 0 = (0 : Int32) from rfl] at r1 s1
  rw [show nI 1 = (1 : Int32) from rfl] at s1
  refine ⟨oL2, oH2, upd (upd ww 0 (nI W0)) 1 (nI W1), ?_, fun w k a1 a2 => s2 w k a1 a2 (by omega), ?_, ?_⟩
  · unfold p_Band_begin
    have e2 : ∀ fu, p_Band_begin_2 n (fu + 1 + 1 + 1) (nI N) ws gs qs sec (nI cs) (nI c) (0 : Int32) oL oH ww = some (oL2, oH2, upd (upd ww 0 (nI W0)) 1 (nI W1)) := by
      intro fu
      rw [q_Band_begin_2, if_neg (show ¬ (2 : Int32) ≤ 0 by decide), w0, Option.bind_some, if_pos (show dk_in (0 : Int32) 2 = true by decide), r1, Option.bind_some]
      show p_Band_begin_2 n (fu + 1 + 1) (nI N) ws gs qs sec (nI cs) (nI c) (1 : Int32) oL1 oH1 (upd ww 0 (nI W0)) = _
      rw [q_Band_begin_2, if_neg (show ¬ (2 : Int32) ≤ 1 by decide), w1, Option.bind_some, if_pos (show dk_in (1 : Int32) 2 = true by decide), s1, Option.bind_some]
      show p_Band_begin_2 n (fu + 1) (nI N) ws gs qs sec (nI cs) (nI c) (2 : Int32) oL2 oH2 (upd (upd ww 0 (nI W0)) 1 (nI W1)) = _
      rw [q_Band_begin_2, if_pos (show (2 : Int32) ≤ 2 by decide)]
    have e3 := e2 m
    rw [← hm] at e3
    rw [e3]
    rfl
  · rw [pk_un (by omega), pk_us]
  · rw [pk_us]
/-- what is put of the first k crossings -/
def bO (N c : Nat) (g q fs bs off : Nat → Nat) (bL bH : Nat → Int64) (k : Nat) : Prop := ∀ j, j < k → ∀ w, w < 2 → bL (j * 2 + w) = wrd (fun i => al (fun k => ob c 0 (fun k => g k - q k) (gn w N fs bs) (fun k => off k + q k) i k) (j + 1)) ∧ bH (j * 2 + w) = wrd (fun i => al (fun k => ob c 60 (fun k => g k - q k) (gn w N fs bs) (fun k => off k + q k) i k) (j + 1))
theorem bO_le {N c : Nat} {g q fs bs off : Nat → Nat} {bL bH : Nat → Int64} {k k' : Nat} (h : bO N c g q fs bs off bL bH k) (hk : k' ≤ k) : bO N c g q fs bs off bL bH k' := fun j hj w hw => h j (by omega) w hw
theorem bO_congr {N c : Nat} {g q fs bs off off' : Nat → Nat} {bL bH : Nat → Int64} {k : Nat} (h : bO N c g q fs bs off bL bH k) (ho : ∀ j, j < k → off' j = off j) : bO N c g q fs bs off' bL bH k := by
  intro j hj w hw
  obtain ⟨s1, s2⟩ := h j hj w hw
  rw [s1, s2]
  have e : ∀ b, (fun i => al (fun k => ob c b (fun k => g k - q k) (gn w N fs bs) (fun k => off k + q k) i k) (j + 1)) = (fun i => al (fun k => ob c b (fun k => g k - q k) (gn w N fs bs) (fun k => off' k + q k) i k) (j + 1)) := by
    intro b
    funext i
    apply al_congr
    intro j' hj'
    unfold ob
    show _ = (decide (i + b < c) && ar (g j' - q j') c (((i + b : Nat) : Int) - (em (((off' j' + q j' : Nat) : Int) - (gn w N fs bs j' : Int)) c : Int)))
    rw [ho j' (by omega)]
  rw [e, e]
  exact ⟨rfl, rfl⟩
theorem wrd_comm (P Q : Nat → Bool) : wrd P &&& wrd Q = wrd (fun i => Q i && P i) := by
  rw [wrd_and]
  exact wrd_ext (fun i _ => Bool.and_comm _ _)
theorem b_put31 (n : Nat) {N c cs k x w W s : Nat} (hN : N ≤ 5) (hk : k < N) (hw : w < 2) (h1 : 10 ≤ c) (h2 : c ≤ 120) (hs1 : 1 ≤ cs) (hx : x < chs cs c) (g q fs bs off : Nat → Nat) (hW : W ≤ 500) (oL oH : Nat → Int64) (ww : Nat → Int32) (hE : bE N c cs g q fs bs oL oH w k) (hww : ww w = nI W) (bL bH : Nat → Int64) (hb : 0 < k → bL ((k - 1) * 2 + w) = wrd (fun i => al (fun k => ob c 0 (fun k => g k - q k) (gn w N fs bs) (fun k => off k + q k) i k) k) ∧ bH ((k - 1) * 2 + w) = wrd (fun i => al (fun k => ob c 60 (fun k => g k - q k) (gn w N fs bs) (fun k => off k + q k) i k) k)) (hoff : off k = x * cs) (fu : Nat) :
    p_Band_put_31 n (fu + 1) oL oH ww (nI k) (nI x) (lN s) (nI w) bL bH = p_Band_put_31 n fu oL oH ww (nI k) (nI x) (lN (s + W * bnd c (fun k => g k - q k) (gn w N fs bs) (fun k => off k + q k) (k + 1))) (nI (w + 1)) (vp_updL bL (k * 2 + w) (wrd (fun i => al (fun k => ob c 0 (fun k => g k - q k) (gn w N fs bs) (fun k => off k + q k) i k) (k + 1)))) (vp_updL bH (k * 2 + w) (wrd (fun i => al (fun k => ob c 60 (fun k => g k - q k) (gn w N fs bs) (fun k => off k + q k) i k) (k + 1)))) := by
  have hch := chs_le120 (cs := cs) (c := c) hs1 (by omega) h2
  have l2 : (2 : Int32) = nI 2 := rfl
  have l120 : (120 : Int32) = nI 120 := rfl
  have e1 : (((nI k * (2 : Int32)) + nI w) * (120 : Int32)) + nI x = nI ((k * 2 + w) * 120 + x) := by rw [l2, l120, pk_mul, nI_add, pk_mul, nI_add]
  have e2 : (nI k * (2 : Int32)) + nI w = nI (k * 2 + w) := by rw [l2, pk_mul, nI_add]
  have d1 : dk_in (nI ((k * 2 + w) * 120 + x)) 1200 = true := b_in (by omega) (by omega)
  have d2 : dk_in (nI (k * 2 + w)) 10 = true := b_in (by omega) (by omega)
  have d3 : dk_in (nI w) 2 = true := b_in (by omega) (by omega)
  have k1 : (nI ((k * 2 + w) * 120 + x)).toNatClampNeg = (k * 2 + w) * 120 + x := nI_clamp (by omega)
  have k2 : (nI (k * 2 + w)).toNatClampNeg = k * 2 + w := nI_clamp (by omega)
  have k3 : (nI w).toNatClampNeg = w := nI_clamp (by omega)
  obtain ⟨o1, o2⟩ := hE x hx
  have b0 : bnd c (fun k => g k - q k) (gn w N fs bs) (fun k => off k + q k) (k + 1) ≤ c := cnt_le _ c
  have hbw := bnd_words h1 h2 (fun k => g k - q k) (gn w N fs bs) (fun k => off k + q k) (d := k + 1) (by omega)
  have f1 : ∀ b, ow c b (g k - q k) (gn w N fs bs k) (x * cs + q k) = fun i => ob c b (fun k => g k - q k) (gn w N fs bs) (fun k => off k + q k) i k := by
    intro b; funext i; unfold ow ob; show _ = (decide (i + b < c) && ar (g k - q k) c (((i + b : Nat) : Int) - (em (((off k + q k : Nat) : Int) - (gn w N fs bs k : Int)) c : Int))); rw [hoff]
  rw [f1] at o1 o2
  rw [q_Band_put_31, if_neg (show ¬ (2 : Int32) ≤ nI w from nI_ge (b := 2) (by omega) (by omega)), e1, e2, if_pos d1, if_pos d1, k1, o1, o2]
  by_cases hk0 : k = 0
  · subst hk0
    rw [if_pos (show nI 0 ≤ 0 by decide), if_pos d2, if_pos d2, if_pos d3, k2, k3, hww, nI_1]
    have z1 : ∀ b, (fun i => ob c b (fun k => g k - q k) (gn w N fs bs) (fun k => off k + q k) i 0) = (fun i => al (fun k => ob c b (fun k => g k - q k) (gn w N fs bs) (fun k => off k + q k) i k) (0 + 1)) := fun b => rfl
    rw [z1, z1, b_popw, b_popw, Option.bind_some, Option.bind_some, nI_add, hbw, nI_l (by omega), nI_l (by omega), lN_mul, lN_add]
  · obtain ⟨m1, m2⟩ := hb (by omega)
    have e3 : nI (k * 2 + w) - (2 : Int32) = nI ((k - 1) * 2 + w) := (pk_sub (a := k * 2 + w) (b := 2) (by omega)).trans (by congr 1; omega)
    have d4 : dk_in (nI ((k - 1) * 2 + w)) 10 = true := b_in (by omega) (by omega)
    have k4 : (nI ((k - 1) * 2 + w)).toNatClampNeg = (k - 1) * 2 + w := nI_clamp (by omega)
    rw [if_neg (show ¬ nI k ≤ 0 from nI_nle (by omega) (by omega)), e3, if_pos d4, if_pos d4, if_pos d2, if_pos d2, if_pos d3, k2, k3, k4, hww, nI_1, m1, m2, wrd_comm, wrd_comm]
    have z1 : ∀ b, (fun i => (al (fun k => ob c b (fun k => g k - q k) (gn w N fs bs) (fun k => off k + q k) i k) k && ob c b (fun k => g k - q k) (gn w N fs bs) (fun k => off k + q k) i k)) = (fun i => al (fun k => ob c b (fun k => g k - q k) (gn w N fs bs) (fun k => off k + q k) i k) (k + 1)) := fun b => rfl
    rw [z1, z1, b_popw, b_popw, Option.bind_some, Option.bind_some, nI_add, hbw, nI_l (by omega), nI_l (by omega), lN_mul, lN_add]
theorem b_bput (n : Nat) (hn : 100 ≤ n) {N c cs k x W0 W1 : Nat} (hN : N ≤ 5) (hk : k < N) (h1 : 10 ≤ c) (h2 : c ≤ 120) (hs1 : 1 ≤ cs) (hx : x < chs cs c) (g q fs bs off : Nat → Nat) (hW0 : W0 ≤ 500) (hW1 : W1 ≤ 500) (oL oH : Nat → Int64) (ww : Nat → Int32) (hE : ∀ w k, w < 2 → k < N → bE N c cs g q fs bs oL oH w k) (hw0 : ww 0 = nI W0) (hw1 : ww 1 = nI W1) (bL bH : Nat → Int64) (hb : bO N c g q fs bs off bL bH k) (hoff : off k = x * cs) :
    ∃ bL' bH', p_Band_put n (nI k) (nI x) oL oH ww bL bH = some (lN (W0 * bnd c (fun k => g k - q k) (gn 0 N fs bs) (fun k => off k + q k) (k + 1) + W1 * bnd c (fun k => g k - q k) (gn 1 N fs bs) (fun k => off k + q k) (k + 1)), bL', bH') ∧ bO N c g q fs bs off bL' bH' (k + 1) := by
  have hch := chs_le120 (cs := cs) (c := c) hs1 (by omega) h2
  obtain ⟨m, hm⟩ : ∃ m, n = m + 1 + 1 + 1 := ⟨n - 3, by omega⟩
  have st0 := b_put31 n (s := 0) hN hk (show 0 < 2 by omega) h1 h2 hs1 hx g q fs bs off hW0 oL oH ww (hE 0 k (by omega) hk) hw0 bL bH (fun h0 => by have := hb (k - 1) (by omega) 0 (by omega); rw [show k - 1 + 1 = k by omega] at this; exact this) hoff (m + 1 + 1)
  have st1 := b_put31 n (s := 0 + W0 * bnd c (fun k => g k - q k) (gn 0 N fs bs) (fun k => off k + q k) (k + 1)) hN hk (show 1 < 2 by omega) h1 h2 hs1 hx g q fs bs off hW1 oL oH ww (hE 1 k (by omega) hk) hw1 (vp_updL bL (k * 2 + 0) (wrd (fun i => al (fun k => ob c 0 (fun k => g k - q k) (gn 0 N fs bs) (fun k => off k + q k) i k) (k + 1)))) (vp_updL bH (k * 2 + 0) (wrd (fun i => al (fun k => ob c 60 (fun k => g k - q k) (gn 0 N fs bs) (fun k => off k + q k) i k) (k + 1)))) (fun h0 => by
    have := hb (k - 1) (by omega) 1 (by omega)
    rw [show k - 1 + 1 = k by omega] at this
    rw [pk_uLn (by omega), pk_uLn (by omega)]
    exact this) hoff (m + 1)
  have wi1 : (if (0 : Int64) ≤ (nI k).toInt64 ∧ (nI k).toInt64 ≤ (4 : Int64) then (1 : Int32) else 0) = 1 := if_pos (by rw [b_le32, b_ge32, nI_toInt (by omega), show (0 : Int64).toInt = 0 by decide, show (4 : Int64).toInt = 4 by decide]; omega)
  have wi2 : (if (0 : Int64) ≤ (nI x).toInt64 ∧ (nI x).toInt64 ≤ (119 : Int64) then (1 : Int32) else 0) = 1 := if_pos (by rw [b_le32, b_ge32, nI_toInt (by omega), show (0 : Int64).toInt = 0 by decide, show (119 : Int64).toInt = 119 by decide]; omega)
  refine ⟨vp_updL (vp_updL bL (k * 2 + 0) (wrd (fun i => al (fun k => ob c 0 (fun k => g k - q k) (gn 0 N fs bs) (fun k => off k + q k) i k) (k + 1)))) (k * 2 + 1) (wrd (fun i => al (fun k => ob c 0 (fun k => g k - q k) (gn 1 N fs bs) (fun k => off k + q k) i k) (k + 1))), vp_updL (vp_updL bH (k * 2 + 0) (wrd (fun i => al (fun k => ob c 60 (fun k => g k - q k) (gn 0 N fs bs) (fun k => off k + q k) i k) (k + 1)))) (k * 2 + 1) (wrd (fun i => al (fun k => ob c 60 (fun k => g k - q k) (gn 1 N fs bs) (fun k => off k + q k) i k) (k + 1))), ?_, ?_⟩
  · unfold p_Band_put
    rw [b_within, wi1, Option.bind_some, if_neg (show ¬ (1 : Int32) = 0 by decide), b_within, wi2, Option.bind_some, if_neg (show ¬ (1 : Int32) = 0 by decide)]
    have e2 : p_Band_put_31 n (m + 1 + 1 + 1) oL oH ww (nI k) (nI x) (0 : Int64) (0 : Int32) bL bH = some (lN (0 + W0 * bnd c (fun k => g k - q k) (gn 0 N fs bs) (fun k => off k + q k) (k + 1) + W1 * bnd c (fun k => g k - q k) (gn 1 N fs bs) (fun k => off k + q k) (k + 1)), vp_updL (vp_updL bL (k * 2 + 0) (wrd (fun i => al (fun k => ob c 0 (fun k => g k - q k) (gn 0 N fs bs) (fun k => off k + q k) i k) (k + 1)))) (k * 2 + 1) (wrd (fun i => al (fun k => ob c 0 (fun k => g k - q k) (gn 1 N fs bs) (fun k => off k + q k) i k) (k + 1))), vp_updL (vp_updL bH (k * 2 + 0) (wrd (fun i => al (fun k => ob c 60 (fun k => g k - q k) (gn 0 N fs bs) (fun k => off k + q k) i k) (k + 1)))) (k * 2 + 1) (wrd (fun i => al (fun k => ob c 60 (fun k => g k - q k) (gn 1 N fs bs) (fun k => off k + q k) i k) (k + 1)))) := by
      rw [show (0 : Int64) = lN 0 from rfl, show (0 : Int32) = nI 0 from rfl, st0, show 0 + 1 = 1 from rfl, st1, q_Band_put_31, if_pos (show (2 : Int32) ≤ nI (1 + 1) by decide)]
    rw [← hm, Nat.zero_add] at e2
    rw [e2]
    rfl
  · intro j hj w hw
    by_cases hjk : j = k
    · subst hjk
      by_cases hw' : w = 0
      · subst hw'
        rw [pk_uLn (by omega), pk_uLs, pk_uLn (by omega), pk_uLs]
        exact ⟨rfl, rfl⟩
      · have hw1' : w = 1 := by omega
        subst hw1'
        rw [pk_uLs, pk_uLs]
        exact ⟨rfl, rfl⟩
    · rw [pk_uLn (by omega), pk_uLn (by omega), pk_uLn (by omega), pk_uLn (by omega)]
      exact hb j (by omega) w hw
