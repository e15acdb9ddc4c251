/-! stops of both streets between two neighbours: counted by the reference, in closed form by the class -/
/-- cars of an arc that find the next one closed -/
def stc (c L M : Nat) (a b s : Nat) (t : Nat) : Bool := ar L c ((t : Int) - (a : Int)) && !ar M c ((t : Int) + (s : Int) - (b : Int))
def stp (c : Nat) (L a fs fw bs bw : Nat → Nat) (k : Nat) : Nat := fw k * cnt (stc c (L k) (L (k + 1)) (a k) (a (k + 1)) (fs k)) c + bw (k + 1) * cnt (stc c (L (k + 1)) (L k) (a (k + 1)) (a k) (bs (k + 1))) c
theorem ar_mods {L c : Nat} (hc : 0 < c) (t s b : Nat) : ar L c ((((t + s) % c : Nat) : Int) - (b : Int)) = ar L c ((t : Int) + (s : Int) - (b : Int)) := by
  rw [show ((((t + s) % c : Nat) : Int) - (b : Int)) = (((t + s) % c : Nat) : Int) + (-(b : Int)) by omega, ar_mod hc]
  congr 1; omega
theorem b_stops17 (n : Nat) {N c k : Nat} (hN : N ≤ 5) (hk : k + 1 < N) (h1 : 10 ≤ c) (h2 : c ≤ 120) (L a : Nat → Nat) {fsk fwk bsk bwk : Nat} (op secs ws : Nat → Int32) (ho : opn N c L a op) (hf : fsk ≤ 200) (hb : bsk ≤ 200) (s1 : secs (2 * k) = nI fsk) (s2 : secs (2 * k + 1) = nI bsk) (w1 : ws (2 * k) = nI fwk) (w2 : ws (2 * k + 1) = nI bwk) (s : Nat) :
    ∀ (d t fu : Nat), t + d = c → d < fu → p_Mo_stopsOf_17 n fu op secs ws (nI c) (nI (s + (fwk * cnt (stc c (L k) (L (k + 1)) (a k) (a (k + 1)) fsk) t + bwk * cnt (stc c (L (k + 1)) (L k) (a (k + 1)) (a k) bsk) t))) (nI k) (nI t) = some (nI (s + (fwk * cnt (stc c (L k) (L (k + 1)) (a k) (a (k + 1)) fsk) c + bwk * cnt (stc c (L (k + 1)) (L k) (a (k + 1)) (a k) bsk) c))) := by
  intro d
  induction d with
  | zero =>
    intro t fu e hf'
    obtain ⟨m, rfl⟩ : ∃ m, fu = m + 1 := ⟨fu - 1, by omega⟩
    rw [q_Mo_stopsOf_17, if_pos (show nI c ≤ nI t from nI_le (by omega) (by omega)), show t = c by omega]
  | succ d ih =>
    intro t fu e hf'
    obtain ⟨m, rfl⟩ : ∃ m, fu = m + 1 := ⟨fu - 1, by omega⟩
    have ih := ih (t + 1) m (by omega) (by omega)
    have c1 : cnt (stc c (L k) (L (k + 1)) (a k) (a (k + 1)) fsk) (t + 1) = cnt (stc c (L k) (L (k + 1)) (a k) (a (k + 1)) fsk) t + (if stc c (L k) (L (k + 1)) (a k) (a (k + 1)) fsk t = true then 1 else 0) := rfl
    have c2 : cnt (stc c (L (k + 1)) (L k) (a (k + 1)) (a k) bsk) (t + 1) = cnt (stc c (L (k + 1)) (L k) (a (k + 1)) (a k) bsk) t + (if stc c (L (k + 1)) (L k) (a (k + 1)) (a k) bsk t = true then 1 else 0) := rfl
    rw [c1, c2] at ih
    generalize cnt (stc c (L k) (L (k + 1)) (a k) (a (k + 1)) fsk) t = A at ih ⊢
    generalize cnt (stc c (L (k + 1)) (L k) (a (k + 1)) (a k) bsk) t = B at ih ⊢
    have mf := Nat.mod_lt (t + fsk) (show c > 0 by omega)
    have mb := Nat.mod_lt (t + bsk) (show c > 0 by omega)
    have o1 := ho k (by omega) t (by omega)
    have o2 := ho (k + 1) (by omega) t (by omega)
    have o3 := ho (k + 1) (by omega) _ mf
    have o4 := ho k (by omega) _ mb
    rw [ar_mods (by omega)] at o3 o4
    have f1 : stc c (L k) (L (k + 1)) (a k) (a (k + 1)) fsk t = (ar (L k) c ((t : Int) - (a k : Int)) && !ar (L (k + 1)) c ((t : Int) + (fsk : Int) - (a (k + 1) : Int))) := rfl
    have f2 : stc c (L (k + 1)) (L k) (a (k + 1)) (a k) bsk t = (ar (L (k + 1)) c ((t : Int) - (a (k + 1) : Int)) && !ar (L k) c ((t : Int) + (bsk : Int) - (a k : Int))) := rfl
    rw [f1, f2] at ih
    generalize ar (L k) c ((t : Int) - (a k : Int)) = X1 at ih o1
    generalize ar (L (k + 1)) c ((t : Int) - (a (k + 1) : Int)) = X2 at ih o2
    generalize ar (L (k + 1)) c ((t : Int) + (fsk : Int) - (a (k + 1) : Int)) = X3 at ih o3
    generalize ar (L k) c ((t : Int) + (bsk : Int) - (a k : Int)) = X4 at ih o4
    have l120 : (120 : Int32) = nI 120 := rfl
    have l2 : (2 : Int32) = nI 2 := rfl
    have e1 : ((120 : Int32) * nI k) + nI t = nI (120 * k + t) := by rw [l120, pk_mul, nI_add]
    have e2 : ((120 : Int32) * nI (k + 1)) + nI t = nI (120 * (k + 1) + t) := by rw [l120, pk_mul, nI_add]
    have e3 : ((120 : Int32) * nI (k + 1)) + nI ((t + fsk) % c) = nI (120 * (k + 1) + (t + fsk) % c) := by rw [l120, pk_mul, nI_add]
    have e4 : ((120 : Int32) * nI k) + nI ((t + bsk) % c) = nI (120 * k + (t + bsk) % c) := by rw [l120, pk_mul, nI_add]
    have e5 : (2 : Int32) * nI k = nI (2 * k) := by rw [l2, pk_mul]
    have d1 : dk_in (nI (120 * k + t)) 600 = true := b_in (by omega) (by omega)
    have d2 : dk_in (nI (120 * (k + 1) + t)) 600 = true := b_in (by omega) (by omega)
    have d3 : dk_in (nI (120 * (k + 1) + (t + fsk) % c)) 600 = true := b_in (by omega) (by omega)
    have d4 : dk_in (nI (120 * k + (t + bsk) % c)) 600 = true := b_in (by omega) (by omega)
    have d5 : dk_in (nI (2 * k)) 10 = true := b_in (by omega) (by omega)
    have d6 : dk_in (nI (2 * k + 1)) 10 = true := b_in (by omega) (by omega)
    have k1 : (nI (120 * k + t)).toNatClampNeg = 120 * k + t := nI_clamp (by omega)
    have k2 : (nI (120 * (k + 1) + t)).toNatClampNeg = 120 * (k + 1) + t := nI_clamp (by omega)
    have k3 : (nI (120 * (k + 1) + (t + fsk) % c)).toNatClampNeg = 120 * (k + 1) + (t + fsk) % c := nI_clamp (by omega)
    have k4 : (nI (120 * k + (t + bsk) % c)).toNatClampNeg = 120 * k + (t + bsk) % c := nI_clamp (by omega)
    have k5 : (nI (2 * k)).toNatClampNeg = 2 * k := nI_clamp (by omega)
    have k6 : (nI (2 * k + 1)).toNatClampNeg = 2 * k + 1 := nI_clamp (by omega)
    have r1 : (nI t + nI fsk) - (nI t + nI fsk) / nI c * nI c = nI ((t + fsk) % c) := b_sec h1 h2 (by omega)
    have r2 : (nI t + nI bsk) - (nI t + nI bsk) / nI c * nI c = nI ((t + bsk) % c) := b_sec h1 h2 (by omega)
    have cz : ¬ nI c = 0 := nI_ne0 (by omega) (by omega)
    have t0 : ¬ b01 true = 0 := by decide
    have f0 : b01 false = 0 := rfl
    rw [q_Mo_stopsOf_17, if_neg (show ¬ nI c ≤ nI t from nI_ge (by omega) (by omega))]
    rw [nI_1 k, nI_1 t, e1, e2, e5, nI_1 (2 * k), k5, k6, s1, s2, w1, w2, r1, r2, e3, e4, k1, k2, k3, k4, o1, o2, o3, o4]
    simp only [d1, d2, d3, d4, d5, d6, cz, if_true, if_false, Int32.add_zero]
    cases X1 <;> cases X2 <;> cases X3 <;> cases X4 <;> simp only [t0, f0, if_true, if_false, nI_add] <;> refine Eq.trans ?_ ih <;> congr 2 <;> simp <;> (try rw [Nat.mul_add]) <;> (try rw [Nat.mul_add]) <;> omega
theorem stp_le {c : Nat} (hc : c ≤ 120) {L a fs fw bs bw : Nat → Nat} {k : Nat} (h1 : fw k ≤ 100) (h2 : bw (k + 1) ≤ 100) : stp c L a fs fw bs bw k ≤ 24000 := by
  have a1 := Nat.mul_le_mul h1 (Nat.le_trans (cnt_le (stc c (L k) (L (k + 1)) (a k) (a (k + 1)) (fs k)) c) hc)
  have a2 := Nat.mul_le_mul h2 (Nat.le_trans (cnt_le (stc c (L (k + 1)) (L k) (a (k + 1)) (a k) (bs (k + 1))) c) hc)
  unfold stp
  omega
theorem b_stops4 (n : Nat) (hn : 1000 ≤ n) {N c : Nat} (hN : N ≤ 5) (h1 : 10 ≤ c) (h2 : c ≤ 120) (L a fs fw bs bw : Nat → Nat) (op secs ws : Nat → Int32) (ho : opn N c L a op) (hs : ∀ k, k + 1 < N → fs k ≤ 200 ∧ bs (k + 1) ≤ 200 ∧ secs (2 * k) = nI (fs k) ∧ secs (2 * k + 1) = nI (bs (k + 1)) ∧ ws (2 * k) = nI (fw k) ∧ ws (2 * k + 1) = nI (bw (k + 1))) :
    ∀ (d k s fu : Nat), (k + 1 + d = N) → d < fu → p_Mo_stopsOf_4 n fu (nI N) op secs ws (nI c) (nI s) (nI k) = some (nI (s + wS (stp c L a fs fw bs bw) k d)) := by
  intro d
  induction d with
  | zero =>
    intro k s fu e hf
    obtain ⟨m, rfl⟩ : ∃ m, fu = m + 1 := ⟨fu - 1, by omega⟩
    rw [q_Mo_stopsOf_4, nI_1, if_pos (show nI N ≤ nI (k + 1) from nI_le (by omega) (by omega))]
    rfl
  | succ d ih =>
    intro k s fu e hf
    obtain ⟨m, rfl⟩ : ∃ m, fu = m + 1 := ⟨fu - 1, by omega⟩
    obtain ⟨p1, p2, p3, p4, p5, p6⟩ := hs k (by omega)
    have := b_stops17 n hN (show k + 1 < N by omega) h1 h2 L a op secs ws ho p1 p2 p3 p4 p5 p6 s c 0 n (by omega) (by omega)
    rw [show cnt (stc c (L k) (L (k + 1)) (a k) (a (k + 1)) (fs k)) 0 = 0 from rfl, show cnt (stc c (L (k + 1)) (L k) (a (k + 1)) (a k) (bs (k + 1))) 0 = 0 from rfl, Nat.mul_zero, Nat.mul_zero, Nat.add_zero, Nat.add_zero] at this
    rw [q_Mo_stopsOf_4, nI_1, if_neg (show ¬ nI N ≤ nI (k + 1) from nI_ge (by omega) (by omega)), show (0 : Int32) = nI 0 from rfl, this, Option.bind_some, ih (k + 1) _ m (by omega) (by omega)]
    show some (nI (s + stp c L a fs fw bs bw k + wS (stp c L a fs fw bs bw) (k + 1) d)) = some (nI (s + (stp c L a fs fw bs bw k + wS (stp c L a fs fw bs bw) (k + 1) d)))
    rw [Nat.add_assoc]
theorem b_moStops (n : Nat) (hn : 1000 ≤ n) {N c : Nat} (hN1 : 1 ≤ N) (hN : N ≤ 5) (h1 : 10 ≤ c) (h2 : c ≤ 120) (L a fs fw bs bw : Nat → Nat) (op secs ws : Nat → Int32) (ho : opn N c L a op) (hs : ∀ k, k + 1 < N → fs k ≤ 200 ∧ bs (k + 1) ≤ 200 ∧ secs (2 * k) = nI (fs k) ∧ secs (2 * k + 1) = nI (bs (k + 1)) ∧ ws (2 * k) = nI (fw k) ∧ ws (2 * k + 1) = nI (bw (k + 1))) :
    p_Mo_stopsOf n (nI c) (nI N) op secs ws = some (nI (wS (stp c L a fs fw bs bw) 0 (N - 1))) := by
  unfold p_Mo_stopsOf
  have := b_stops4 n hn hN h1 h2 L a fs fw bs bw op secs ws ho hs (N - 1) 0 0 n (by omega) (by omega)
  rw [show (0 : Int32) = nI 0 from rfl, this, Nat.zero_add]
  rfl
/-- the class's: apart seconds lie between the two offsets -/
def stb (c : Nat) (L q fs fw bs bw : Nat → Nat) (k : Nat) (ap : Int) : Nat := fw k * (L k - shd (L k) (L (k + 1)) (em (ap + (q (k + 1) : Int) - (q k : Int) - (fs k : Int)) c) c) + bw (k + 1) * (L (k + 1) - shd (L (k + 1)) (L k) (em (-(ap + (q (k + 1) : Int) - (q k : Int)) - (bs (k + 1) : Int)) c) c)
theorem stb_stp {c : Nat} {L q o fs fw bs bw : Nat → Nat} {k : Nat} (h1 : L k < c) (h2 : L (k + 1) < c) : stb c L q fs fw bs bw k ((o (k + 1) : Int) - (o k : Int)) = stp c L (fun k => o k + q k) fs fw bs bw k := by
  have e1 := cnt_stops ((o k + q k : Nat) : Int) ((o (k + 1) + q (k + 1) : Nat) : Int) (fs k : Int) h1 h2
  have e2 := cnt_stops ((o (k + 1) + q (k + 1) : Nat) : Int) ((o k + q k : Nat) : Int) (bs (k + 1) : Int) h2 h1
  unfold stp stb
  have f1 : cnt (stc c (L k) (L (k + 1)) (o k + q k) (o (k + 1) + q (k + 1)) (fs k)) c = L k - shd (L k) (L (k + 1)) (em (((o (k + 1) + q (k + 1) : Nat) : Int) - ((o k + q k : Nat) : Int) - (fs k : Int)) c) c := e1
  have f2 : cnt (stc c (L (k + 1)) (L k) (o (k + 1) + q (k + 1)) (o k + q k) (bs (k + 1))) c = L (k + 1) - shd (L (k + 1)) (L k) (em (((o k + q k : Nat) : Int) - ((o (k + 1) + q (k + 1) : Nat) : Int) - (bs (k + 1) : Int)) c) c := e2
  rw [f1, f2]
  rw [show ((o (k + 1) : Int) - (o k : Int) + (q (k + 1) : Int) - (q k : Int) - (fs k : Int)) = (((o (k + 1) + q (k + 1) : Nat) : Int) - ((o k + q k : Nat) : Int) - (fs k : Int)) by omega, show (-((o (k + 1) : Int) - (o k : Int) + (q (k + 1) : Int) - (q k : Int)) - (bs (k + 1) : Int)) = (((o k + q k : Nat) : Int) - ((o (k + 1) + q (k + 1) : Nat) : Int) - (bs (k + 1) : Int)) by omega]
theorem stb_em {c : Nat} (hc : 0 < c) (L q fs fw bs bw : Nat → Nat) (k : Nat) (ap : Int) : stb c L q fs fw bs bw k (em ap c : Int) = stb c L q fs fw bs bw k ap := by
  unfold stb
  have e1 : em ((em ap c : Int) + (q (k + 1) : Int) - (q k : Int) - (fs k : Int)) c = em (ap + (q (k + 1) : Int) - (q k : Int) - (fs k : Int)) c := by
    have := em_em_add ap ((q (k + 1) : Int) - (q k : Int) - (fs k : Int)) hc
    rw [show (em ap c : Int) + (q (k + 1) : Int) - (q k : Int) - (fs k : Int) = (em ap c : Int) + ((q (k + 1) : Int) - (q k : Int) - (fs k : Int)) by omega, this]
    congr 1; omega
  have e2 : em (-((em ap c : Int) + (q (k + 1) : Int) - (q k : Int)) - (bs (k + 1) : Int)) c = em (-(ap + (q (k + 1) : Int) - (q k : Int)) - (bs (k + 1) : Int)) c := by
    have := em_sub_em ((q k : Int) - (q (k + 1) : Int) - (bs (k + 1) : Int)) ap hc
    rw [show -((em ap c : Int) + (q (k + 1) : Int) - (q k : Int)) - (bs (k + 1) : Int) = ((q k : Int) - (q (k + 1) : Int) - (bs (k + 1) : Int)) - (em ap c : Int) by omega, this]
    congr 1; omega
  rw [e1, e2]
theorem b_stopsBefore (n : Nat) {N c k : Nat} (hN : N ≤ 5) (hk : k + 1 < N) (h1 : 10 ≤ c) (h2 : c ≤ 120) (g q fs fw bs bw : Nat → Nat) (hg : ∀ k, k < N → q k < g k ∧ g k < c) (hf : ∀ i, i < 5 → fs i ≤ 200 ∧ bs i ≤ 200) (qs sec gs ws : Nat → Int32) (hs : ∀ i, i < 5 → sec i = nI (fs i) ∧ sec (5 + i) = nI (bs i) ∧ ws i = nI (fw i) ∧ ws (5 + i) = nI (bw i)) (hx : ∀ k, k < N → qs k = nI (q k) ∧ gs k = nI (g k)) (x : Int32) (hx2 : -1000 ≤ x.toInt ∧ x.toInt ≤ 1000) :
    p_Road_stopsBefore n (nI (k + 1)) x (nI c) (nI N) qs sec gs ws = some (nI (stb c (fun k => g k - q k) q fs fw bs bw k x.toInt)) := by
  have in1 : 0 ≤ (nI k).toInt ∧ (nI k).toInt < (nI N).toInt := by rw [nI_toInt (by omega), nI_toInt (by omega)]; omega
  have in2 : 0 ≤ (nI (k + 1)).toInt ∧ (nI (k + 1)).toInt < (nI N).toInt := by rw [nI_toInt (by omega), nI_toInt (by omega)]; omega
  obtain ⟨g1, g2⟩ := hg k (by omega)
  obtain ⟨g3, g4⟩ := hg (k + 1) (by omega)
  obtain ⟨x1, x2⟩ := hx k (by omega)
  obtain ⟨x3, x4⟩ := hx (k + 1) (by omega)
  obtain ⟨s1, _, s3, _⟩ := hs k (by omega)
  obtain ⟨_, s2, _, s4⟩ := hs (k + 1) (by omega)
  obtain ⟨f1, _⟩ := hf k (by omega)
  obtain ⟨_, f2⟩ := hf (k + 1) (by omega)
  have st0 : p_Road_streetAt n (0 : Int32) (nI k) = some (nI k) := rfl
  have st1 : p_Road_streetAt n (1 : Int32) (nI (k + 1)) = some (nI (5 + (k + 1))) := by
    unfold p_Road_streetAt
    rw [if_neg (show ¬ (1 : Int32) = 0 by decide), show (5 : Int32) = nI 5 from rfl, nI_add]
  have d1 : dk_in (nI (k + 1)) 5 = true := b_in (by omega) (by omega)
  have d2 : dk_in (nI k) 5 = true := b_in (by omega) (by omega)
  have d3 : dk_in (nI k) 10 = true := b_in (by omega) (by omega)
  have d4 : dk_in (nI (5 + (k + 1))) 10 = true := b_in (by omega) (by omega)
  have k1 : (nI (k + 1)).toNatClampNeg = k + 1 := nI_clamp (by omega)
  have k2 : (nI k).toNatClampNeg = k := nI_clamp (by omega)
  have k3 : (nI (5 + (k + 1))).toNatClampNeg = 5 + (k + 1) := nI_clamp (by omega)
  have oo1 : p_Road_openOf n (nI k) (nI N) gs qs = some (nI (g k - q k)) := b_openOf n hN (by omega) gs qs x2 x1 (by omega)
  have oo2 : p_Road_openOf n (nI (k + 1)) (nI N) gs qs = some (nI (g (k + 1) - q (k + 1))) := b_openOf n hN (by omega) gs qs x4 x3 (by omega)
  have tq1 : (nI (q k)).toInt = (q k : Int) := nI_toInt (by omega)
  have tq2 : (nI (q (k + 1))).toInt = (q (k + 1) : Int) := nI_toInt (by omega)
  have ts1 : (nI (fs k)).toInt = (fs k : Int) := nI_toInt (by omega)
  have ts2 : (nI (bs (k + 1))).toInt = (bs (k + 1) : Int) := nI_toInt (by omega)
  have ta : (x + nI (q (k + 1))).toInt = x.toInt + (q (k + 1) : Int) := by rw [b_addI (by omega) (by omega), tq2]
  have tb : (x + nI (q (k + 1)) - nI (q k)).toInt = x.toInt + (q (k + 1) : Int) - (q k : Int) := by rw [b_subI (by omega) (by omega), ta, tq1]
  have tc : (x + nI (q (k + 1)) - nI (q k) - nI (fs k)).toInt = x.toInt + (q (k + 1) : Int) - (q k : Int) - (fs k : Int) := by rw [b_subI (by omega) (by omega), tb, ts1]
  have tn : (-(x + nI (q (k + 1)) - nI (q k))).toInt = -(x.toInt + (q (k + 1) : Int) - (q k : Int)) := by rw [b_negI (by omega), tb]
  have td : (-(x + nI (q (k + 1)) - nI (q k)) - nI (bs (k + 1))).toInt = -(x.toInt + (q (k + 1) : Int) - (q k : Int)) - (bs (k + 1) : Int) := by rw [b_subI (by omega) (by omega), tn, ts2]
  have wr1 : p_WO_wrap n (x + nI (q (k + 1)) - nI (q k) - nI (fs k)) (nI c) = some (nI (em (x.toInt + (q (k + 1) : Int) - (q k : Int) - (fs k : Int)) c)) := by rw [b_wrap n _ h1 h2, tc]; rfl
  have wr2 : p_WO_wrap n (-(x + nI (q (k + 1)) - nI (q k)) - nI (bs (k + 1))) (nI c) = some (nI (em (-(x.toInt + (q (k + 1) : Int) - (q k : Int)) - (bs (k + 1) : Int)) c)) := by rw [b_wrap n _ h1 h2, td]; rfl
  have l1 := em_lt (x.toInt + (q (k + 1) : Int) - (q k : Int) - (fs k : Int)) (c := c) (by omega)
  have l2 := em_lt (-(x.toInt + (q (k + 1) : Int) - (q k : Int)) - (bs (k + 1) : Int)) (c := c) (by omega)
  unfold p_Road_stopsBefore
  rw [nI_pred, b_has, b_has, Option.bind_some, if_pos in1, if_neg (show ¬ (1 : Int32) = 0 by decide), Option.bind_some, if_pos in2, if_neg (show ¬ (1 : Int32) = 0 by decide), st0, st1]
  simp only [Option.bind_some, d1, d2, d3, d4, if_true, k1, k2, k3, x1, x3, s1, s2, s3, s4, wr1, wr2, oo1, oo2]
  rw [b_shared n (show g k - q k < c by omega) (show g (k + 1) - q (k + 1) < c by omega) l1 h2, b_shared n (show g (k + 1) - q (k + 1) < c by omega) (show g k - q k < c by omega) l2 h2]
  simp only [Option.bind_some]
  have sh1 := shd_le (show g k - q k < c by omega) (show g (k + 1) - q (k + 1) < c by omega) l1
  have sh2 := shd_le (show g (k + 1) - q (k + 1) < c by omega) (show g k - q k < c by omega) l2
  rw [pk_sub sh1, pk_sub sh2, pk_mul, pk_mul, nI_add]
  rfl
theorem b_allStops4 (n : Nat) {N c : Nat} (hN : N ≤ 5) (h1 : 10 ≤ c) (h2 : c ≤ 120) (g q o fs fw bs bw : Nat → Nat) (hg : ∀ k, k < N → q k < g k ∧ g k < c ∧ o k < c) (hf : ∀ i, i < 5 → fs i ≤ 200 ∧ bs i ≤ 200 ∧ fw i ≤ 100 ∧ bw i ≤ 100) (offs qs sec gs ws : Nat → Int32) (hs : ∀ i, i < 5 → sec i = nI (fs i) ∧ sec (5 + i) = nI (bs i) ∧ ws i = nI (fw i) ∧ ws (5 + i) = nI (bw i)) (hx : ∀ k, k < N → offs k = nI (o k) ∧ qs k = nI (q k) ∧ gs k = nI (g k)) :
    ∀ (d k s fu : Nat), k + 1 + d = N → d < fu → p_WO_allStops_4 n fu (nI N) offs (nI c) qs sec gs ws (lN s) (nI (k + 1)) = some (lN (s + wS (stp c (fun k => g k - q k) (fun k => o k + q k) fs fw bs bw) k d)) := by
  intro d
  induction d with
  | zero =>
    intro k s fu e hf'
    obtain ⟨m, rfl⟩ : ∃ m, fu = m + 1 := ⟨fu - 1, by omega⟩
    rw [q_WO_allStops_4, b_size, Option.bind_some, if_pos (show nI N ≤ nI (k + 1) from nI_le (by omega) (by omega))]
    rfl
  | succ d ih =>
    intro k s fu e hf'
    obtain ⟨m, rfl⟩ : ∃ m, fu = m + 1 := ⟨fu - 1, by omega⟩
    have i1 : 0 ≤ (nI k).toInt ∧ (nI k).toInt < 5 := by rw [nI_toInt (by omega)]; omega
    have i2 : 0 ≤ (nI (k + 1)).toInt ∧ (nI (k + 1)).toInt < 5 := by rw [nI_toInt (by omega)]; omega
    have o1 := (hg k (by omega)).2.2
    have o2 := (hg (k + 1) (by omega)).2.2
    have et : (nI (o (k + 1)) - nI (o k)).toInt = (o (k + 1) : Int) - (o k : Int) := pk_sub_toInt (by omega) (by omega)
    have sl : stp c (fun k => g k - q k) (fun k => o k + q k) fs fw bs bw k ≤ 24000 := stp_le h2 (hf k (by omega)).2.2.1 (hf (k + 1) (by omega)).2.2.2
    rw [q_WO_allStops_4, b_size, Option.bind_some, if_neg (show ¬ nI N ≤ nI (k + 1) from nI_ge (by omega) (by omega)), nI_pred, b_offsetOf n offs i2, b_offsetOf n offs i1, Option.bind_some, Option.bind_some, nI_clamp (by omega), nI_clamp (by omega), (hx k (by omega)).1, (hx (k + 1) (by omega)).1,
      b_stopsBefore n hN (by omega) h1 h2 g q fs fw bs bw (fun k hk => ⟨(hg k hk).1, (hg k hk).2.1⟩) (fun i hi => ⟨(hf i hi).1, (hf i hi).2.1⟩) qs sec gs ws hs (fun k hk => (hx k hk).2) _ (by omega), Option.bind_some, et,
      stb_stp (L := fun k => g k - q k) (show g k - q k < c by have := hg k (by omega); omega) (show g (k + 1) - q (k + 1) < c by have := hg (k + 1) (by omega); omega), nI_l (by omega), lN_add, nI_1, ih (k + 1) _ m (by omega) (by omega)]
    show some (lN (s + stp c _ _ fs fw bs bw k + wS _ (k + 1) d)) = some (lN (s + (stp c _ _ fs fw bs bw k + wS _ (k + 1) d)))
    rw [Nat.add_assoc]
theorem b_allStops (n : Nat) (hn : 100 ≤ n) {N c : Nat} (hN1 : 1 ≤ N) (hN : N ≤ 5) (h1 : 10 ≤ c) (h2 : c ≤ 120) (g q o fs fw bs bw : Nat → Nat) (hg : ∀ k, k < N → q k < g k ∧ g k < c ∧ o k < c) (hf : ∀ i, i < 5 → fs i ≤ 200 ∧ bs i ≤ 200 ∧ fw i ≤ 100 ∧ bw i ≤ 100) (offs qs sec gs ws : Nat → Int32) (hs : ∀ i, i < 5 → sec i = nI (fs i) ∧ sec (5 + i) = nI (bs i) ∧ ws i = nI (fw i) ∧ ws (5 + i) = nI (bw i)) (hx : ∀ k, k < N → offs k = nI (o k) ∧ qs k = nI (q k) ∧ gs k = nI (g k)) :
    p_WO_allStops n (nI N) offs (nI c) qs sec gs ws = some (lN (wS (stp c (fun k => g k - q k) (fun k => o k + q k) fs fw bs bw) 0 (N - 1))) := by
  unfold p_WO_allStops
  have := b_allStops4 n hN h1 h2 g q o fs fw bs bw hg hf offs qs sec gs ws hs hx (N - 1) 0 0 n (by omega) (by omega)
  rw [show (0 : Int64) = lN 0 from rfl, show (1 : Int32) = nI (0 + 1) from rfl, this, Nat.zero_add]
  rfl
