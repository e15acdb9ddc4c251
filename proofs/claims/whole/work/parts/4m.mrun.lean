/-! the reference's run: row by row -/
/-- what d crossings of a row are worth: aim 0 both bands by their weights, else the stops -/
def vw (aim N c : Nat) (g q fs fw bs bw off : Nat → Nat) (d : Nat) : Nat :=
  if aim = 0 then wS fw 0 N * bnd c (fun k => g k - q k) (gn 0 N fs bs) (fun k => off k + q k) d + wS bw 0 N * bnd c (fun k => g k - q k) (gn 1 N fs bs) (fun k => off k + q k) d
  else wS (stp c (fun k => g k - q k) (fun k => off k + q k) fs fw bs bw) 0 (d - 1)
def sg (aim v : Nat) : Int := if aim = 0 then (v : Int) else -(v : Int)
theorem vw_le {aim N c : Nat} {g q fs fw bs bw : Nat → Nat} (off : Nat → Nat) {d : Nat} (hN : N ≤ 5) (hc : c ≤ 120) (hd : d ≤ N) (hf : ∀ i, i < 5 → fw i ≤ 100 ∧ bw i ≤ 100) : vw aim N c g q fs fw bs bw off d ≤ 200000 := by
  unfold vw
  by_cases h : aim = 0
  · rw [if_pos h]
    have w1 := wS_le (f := fw) (m := 100) N 0 (fun i _ hi => (hf i (by omega)).1)
    have w2 := wS_le (f := bw) (m := 100) N 0 (fun i _ hi => (hf i (by omega)).2)
    have b1 : bnd c (fun k => g k - q k) (gn 0 N fs bs) (fun k => off k + q k) d ≤ c := cnt_le _ c
    have b2 : bnd c (fun k => g k - q k) (gn 1 N fs bs) (fun k => off k + q k) d ≤ c := cnt_le _ c
    have p1 := Nat.mul_le_mul (show wS fw 0 N ≤ 500 by omega) (show bnd c (fun k => g k - q k) (gn 0 N fs bs) (fun k => off k + q k) d ≤ 120 by omega)
    have p2 := Nat.mul_le_mul (show wS bw 0 N ≤ 500 by omega) (show bnd c (fun k => g k - q k) (gn 1 N fs bs) (fun k => off k + q k) d ≤ 120 by omega)
    omega
  · rw [if_neg h]
    have := wS_le (f := stp c (fun k => g k - q k) (fun k => off k + q k) fs fw bs bw) (m := 24000) (d - 1) 0 (fun i _ hi => stp_le hc (hf i (by omega)).1 (hf (i + 1) (by omega)).2)
    omega
theorem b_worth (n : Nat) (hn : 1000 ≤ n) {aim N c : Nat} (ha : aim < 2) (hN1 : 1 ≤ N) (hN : N ≤ 5) (h1 : 10 ≤ c) (h2 : c ≤ 120) (g q fs fw bs bw off : Nat → Nat) (hf : ∀ i, i < 5 → fs i ≤ 200 ∧ bs i ≤ 200 ∧ fw i ≤ 100 ∧ bw i ≤ 100) (op secs ws : Nat → Int32) (ho : opn N c (fun k => g k - q k) (fun k => off k + q k) op) (hs : ∀ k, k + 1 < N → secs (2 * k) = nI (fs k) ∧ secs (2 * k + 1) = nI (bs (k + 1)) ∧ ws (2 * k) = nI (fw k) ∧ ws (2 * k + 1) = nI (bw (k + 1)))
    (w0 : p_Mo_weightOf n (0 : Int32) (nI N) ws = some (nI (wS fw 0 N))) (w1 : p_Mo_weightOf n (1 : Int32) (nI N) ws = some (nI (wS bw 0 N))) :
    p_Mo_worth n (nI c) (nI aim) (nI N) op secs ws = some (lN (vw aim N c g q fs fw bs bw off N)) := by
  have u1 := wS_le (f := fw) (m := 100) N 0 (fun i _ hi => (hf i (by omega)).2.2.1)
  have u2 := wS_le (f := bw) (m := 100) N 0 (fun i _ hi => (hf i (by omega)).2.2.2)
  have b1 : bnd c (fun k => g k - q k) (gn 0 N fs bs) (fun k => off k + q k) N ≤ c := cnt_le _ c
  have b2 : bnd c (fun k => g k - q k) (gn 1 N fs bs) (fun k => off k + q k) N ≤ c := cnt_le _ c
  unfold p_Mo_worth vw
  by_cases h : aim = 0
  · have e0 := b_moBand n hn hN1 hN (show 0 < 2 by omega) h1 h2 (fun k => g k - q k) (fun k => off k + q k) fs bs op secs ho (fun k hk => ⟨(hf k (by omega)).1, (hf (k + 1) (by omega)).2.1, (hs k hk).1, (hs k hk).2.1⟩)
    have e1 := b_moBand n hn hN1 hN (show 1 < 2 by omega) h1 h2 (fun k => g k - q k) (fun k => off k + q k) fs bs op secs ho (fun k hk => ⟨(hf k (by omega)).1, (hf (k + 1) (by omega)).2.1, (hs k hk).1, (hs k hk).2.1⟩)
    rw [show nI 0 = (0 : Int32) from rfl] at e0
    rw [show nI 1 = (1 : Int32) from rfl] at e1
    rw [if_pos h, if_pos (show nI aim = 0 by rw [h]; rfl), e0, e1, w0, w1]
    simp only [Option.bind_some]
    rw [nI_l (by omega), nI_l (by omega), nI_l (by omega), nI_l (by omega), lN_mul, lN_mul, lN_add, Nat.mul_comm (wS fw 0 N), Nat.mul_comm (wS bw 0 N)]
  · have e := b_moStops n hn hN1 hN h1 h2 (fun k => g k - q k) (fun k => off k + q k) fs fw bs bw op secs ws ho (fun k hk => ⟨(hf k (by omega)).1, (hf (k + 1) (by omega)).2.1, (hs k hk).1, (hs k hk).2.1, (hs k hk).2.2.1, (hs k hk).2.2.2⟩)
    have hb := wS_le (f := stp c (fun k => g k - q k) (fun k => off k + q k) fs fw bs bw) (m := 24000) (N - 1) 0 (fun i _ hi => stp_le h2 (hf i (by omega)).2.2.1 (hf (i + 1) (by omega)).2.2.2)
    rw [if_neg h, if_neg (show ¬ nI aim = 0 from nI_ne0 (by omega) (by omega)), e, Option.bind_some, nI_l (by omega)]
theorem b_run213 (n : Nat) {N : Nat} (hN : N ≤ 5) (z1 z8 z9 : Int32) (z2 z4 z6 : Int64) (row : Nat → Int32) :
    ∀ (d k fu : Nat) (offs : Nat → Int32), k + d = N → d < fu → (∀ j, j < k → offs j = row j) → ∃ offs', p_Mo_run_213 n fu (nI N) z1 z2 z4 z6 z8 z9 (nI k) offs row = some offs' ∧ ∀ j, j < N → offs' j = row j := by
  intro d
  induction d with
  | zero =>
    intro k fu offs e hf h
    obtain ⟨m, rfl⟩ : ∃ m, fu = m + 1 := ⟨fu - 1, by omega⟩
    rw [q_Mo_run_213, if_pos (show nI N ≤ nI k from nI_le (by omega) (by omega))]
    exact ⟨offs, rfl, fun j hj => h j (by omega)⟩
  | succ d ih =>
    intro k fu offs e hf h
    obtain ⟨m, rfl⟩ : ∃ m, fu = m + 1 := ⟨fu - 1, by omega⟩
    have d1 : dk_in (nI k) 5 = true := b_in (by omega) (by omega)
    rw [q_Mo_run_213, if_neg (show ¬ nI N ≤ nI k from nI_ge (by omega) (by omega)), if_pos d1, if_pos d1, nI_clamp (by omega), nI_1]
    apply ih (k + 1) m _ (by omega) (by omega)
    intro j hj
    by_cases hjk : j = k
    · subst hjk; rw [pk_us]
    · rw [pk_un hjk]; exact h j (by omega)
theorem b_run82 (n : Nat) (hn : 1000 ≤ n) {N c : Nat} (hN : N ≤ 5) (h1 : 10 ≤ c) (h2 : c ≤ 120) (g q : Nat → Nat) (hg : ∀ k, k < N → q k < g k ∧ g k < c) (gs qs : Nat → Int32) (hx : ∀ k, k < N → gs k = nI (g k) ∧ qs k = nI (q k)) (z1 z8 : Int32) (z2 z4 z6 : Int64) :
    ∀ (d k fu : Nat) (row op : Nat → Int32), k + d = N → d < fu → (∀ j, j < k → row j = 0) → opn k c (fun k => g k - q k) (fun k => 0 + q k) op → ∃ row' op', p_Mo_run_82 n fu (nI N) gs qs z1 z2 z4 z6 z8 (nI c) (1 : Int32) (nI k) row op = some (row', op') ∧ (∀ j, j < N → row' j = 0) ∧ opn N c (fun k => g k - q k) (fun k => 0 + q k) op' := by
  intro d
  induction d with
  | zero =>
    intro k fu row op e hf hr ho
    obtain ⟨m, rfl⟩ : ∃ m, fu = m + 1 := ⟨fu - 1, by omega⟩
    rw [q_Mo_run_82, if_pos (show nI N ≤ nI k from nI_le (by omega) (by omega))]
    exact ⟨row, op, rfl, fun j hj => hr j (by omega), by rw [show N = k by omega]; exact ho⟩
  | succ d ih =>
    intro k fu row op e hf hr ho
    obtain ⟨m, rfl⟩ : ∃ m, fu = m + 1 := ⟨fu - 1, by omega⟩
    obtain ⟨g1, g2⟩ := hg k (by omega)
    obtain ⟨x1, x2⟩ := hx k (by omega)
    obtain ⟨op1, r1, r2, r3⟩ := b_lay n hn (show k < 5 by omega) h1 h2 (show 0 < c by omega) g1 g2 gs qs x1 x2 op
    rw [show nI 0 = (0 : Int32) from rfl] at r1
    rw [q_Mo_run_82, if_neg (show ¬ nI N ≤ nI k from nI_ge (by omega) (by omega)), if_neg (show ¬ (1 : Int32) = 0 by decide), if_pos (b_in (show k < 5 by omega) (by omega)), r1, Option.bind_some, nI_clamp (by omega), nI_1]
    apply ih (k + 1) m _ _ (by omega) (by omega)
    · intro j hj
      by_cases hjk : j = k
      · subst hjk; rw [pk_us]
      · rw [pk_un hjk]; exact hr j (by omega)
    · intro j hj t ht
      by_cases hjk : j = k
      · subst hjk; exact r2 t ht
      · rw [r3 _ (Or.inl (by omega))]; exact ho j (by omega) t ht
/-- the offsets of row r up to crossing k, 0 behind it -/
def rcut (N ch cs r k j : Nat) : Nat := if j ≤ k then rof N ch cs r j else 0
theorem opn_upd {N c k : Nat} {L a a' : Nat → Nat} {op op' : Nat → Int32} (hk : k < N) (hc : c ≤ 120) (ho : opn N c L a op) (h2 : ∀ s, s < c → op' (120 * k + s) = b01 (ar (L k) c ((s : Int) - (a' k : Int)))) (h3 : ∀ j, j < 120 * k ∨ 120 * k + c ≤ j → op' j = op j) (ha : ∀ j, j < N → j ≠ k → a' j = a j) : opn N c L a' op' := by
  intro j hj t ht
  by_cases hjk : j = k
  · subst hjk; exact h2 t ht
  · rw [h3 _ (by omega), ha j hj hjk]; exact ho j hj t ht
theorem b_goesOn7 (n : Nat) (hn : 1000 ≤ n) {N c cs r : Nat} (hN : N ≤ 5) (h1 : 10 ≤ c) (h2 : c ≤ 120) (hs1 : 1 ≤ cs) (hs2 : cs ≤ 60) (hr : r < chs cs c ^ (N - 1)) (g q : Nat → Nat) (hg : ∀ k, k < N → q k < g k ∧ g k < c) (gs qs : Nat → Int32) (hx : ∀ k, k < N → gs k = nI (g k) ∧ qs k = nI (q k)) :
    ∀ (k fu : Nat) (row op : Nat → Int32), k < N → k < fu → r % chs cs c ^ (N - 1 - k) + 1 = chs cs c ^ (N - 1 - k) → (∀ j, j < N → row j = nI (rcut N (chs cs c) cs r k j)) → opn N c (fun k => g k - q k) (fun j => rcut N (chs cs c) cs r k j + q j) op →
      ∃ k' row' op', p_Mo_goesOn_7 n fu (nI cs) gs qs (nI c) (nI k) row op = some (nI k', row', op') ∧ k' ≤ k ∧ (k' = 0 → r + 1 = chs cs c ^ (N - 1)) ∧ (0 < k' → dg (chs cs c) r (N - 1 - k') + 1 < chs cs c) ∧ r % chs cs c ^ (N - 1 - k') + 1 = chs cs c ^ (N - 1 - k') ∧ (∀ j, j < N → row' j = nI (rcut N (chs cs c) cs r k' j)) ∧ opn N c (fun k => g k - q k) (fun j => rcut N (chs cs c) cs r k' j + q j) op' := by
  intro k
  induction k with
  | zero =>
    intro fu row op hk hf hm hrow ho
    obtain ⟨m, rfl⟩ : ∃ m, fu = m + 1 := ⟨fu - 1, by omega⟩
    rw [q_Mo_goesOn_7, if_pos (show nI 0 ≤ 0 by decide)]
    refine ⟨0, row, op, rfl, Nat.le_refl _, fun _ => ?_, fun z => absurd z (by omega), hm, hrow, ho⟩
    rw [Nat.sub_zero, Nat.mod_eq_of_lt hr] at hm
    exact hm
  | succ k ih =>
    intro fu row op hk hf hm hrow ho
    obtain ⟨m, rfl⟩ : ∃ m, fu = m + 1 := ⟨fu - 1, by omega⟩
    have d1 : dk_in (nI (k + 1)) 5 = true := b_in (by omega) (by omega)
    have er : row (k + 1) = nI (dg (chs cs c) r (N - 1 - (k + 1)) * cs) := by
      rw [hrow (k + 1) hk]
      unfold rcut rof
      rw [if_pos (Nat.le_refl _)]
    have hlt : dg (chs cs c) r (N - 1 - (k + 1)) * cs < c := rof_lt (N := N) (r := r) (k := k + 1) hs1 (by omega)
    have ec : ((nI (dg (chs cs c) r (N - 1 - (k + 1)) * cs) + nI cs) < nI c) ↔ dg (chs cs c) r (N - 1 - (k + 1)) + 1 < chs cs c := by
      rw [nI_add, nI_ltI (by omega) (by omega), chs_lt hs1 (by omega), Nat.add_mul, Nat.one_mul]
    rw [q_Mo_goesOn_7, if_neg (nI_nle (by omega) (by omega)), if_pos d1, if_pos d1, nI_clamp (by omega), er]
    by_cases hd : dg (chs cs c) r (N - 1 - (k + 1)) + 1 < chs cs c
    · rw [if_pos (ec.mpr hd)]
      exact ⟨k + 1, row, op, rfl, Nat.le_refl _, fun z => absurd z (by omega), fun _ => hd, hm, hrow, ho⟩
    · rw [if_neg (fun z => hd (ec.mp z))]
      obtain ⟨g1, g2⟩ := hg (k + 1) hk
      obtain ⟨x1, x2⟩ := hx (k + 1) hk
      obtain ⟨op1, r1, r2, r3⟩ := b_lay n hn (show k + 1 < 5 by omega) h1 h2 (show 0 < c by omega) g1 g2 gs qs x1 x2 op
      rw [show nI 0 = (0 : Int32) from rfl] at r1
      rw [r1, Option.bind_some, pk_m1]
      have hp : 0 < chs cs c ^ (N - 1 - (k + 1)) := Nat.pow_pos (chs_pos hs1 (by omega))
      have hch := dg_lt (r := r) (e := N - 1 - (k + 1)) (chs_pos (cs := cs) (c := c) hs1 (by omega))
      have hm2 : r % chs cs c ^ (N - 1 - k) + 1 = chs cs c ^ (N - 1 - k) := by
        have e2 : chs cs c ^ (N - 1 - k) = chs cs c ^ (N - 1 - (k + 1)) * chs cs c := by rw [show N - 1 - k = N - 1 - (k + 1) + 1 by omega, Nat.pow_succ]
        rw [e2, Nat.mod_mul]
        have e3 : r / chs cs c ^ (N - 1 - (k + 1)) % chs cs c = chs cs c - 1 := by
          have : dg (chs cs c) r (N - 1 - (k + 1)) = chs cs c - 1 := by omega
          exact this
        rw [e3]
        have e4 : chs cs c ^ (N - 1 - (k + 1)) * chs cs c = chs cs c ^ (N - 1 - (k + 1)) * (chs cs c - 1) + chs cs c ^ (N - 1 - (k + 1)) := by
          have : chs cs c = (chs cs c - 1) + 1 := by omega
          calc chs cs c ^ (N - 1 - (k + 1)) * chs cs c = chs cs c ^ (N - 1 - (k + 1)) * ((chs cs c - 1) + 1) := by rw [← this]
            _ = _ := by rw [Nat.mul_add, Nat.mul_one]
        rw [e4]; omega
      obtain ⟨k', row', op', q1, q2, q3, q4, q5, q6, q7⟩ := ih m (upd row (k + 1) (0 : Int32)) op1 (by omega) (by omega) hm2
        (by
          intro j hj
          by_cases hjk : j = k + 1
          · subst hjk; rw [pk_us]; unfold rcut; rw [if_neg (by omega)]; rfl
          · rw [pk_un hjk, hrow j hj]
            unfold rcut
            by_cases hjk2 : j ≤ k
            · rw [if_pos hjk2, if_pos (by omega)]
            · rw [if_neg hjk2, if_neg (by omega)])
        (by
          refine opn_upd hk h2 ho (a' := fun j => rcut N (chs cs c) cs r k j + q j) ?_ r3 ?_
          · intro s hs
            rw [r2 s hs]
            show _ = b01 (ar (g (k + 1) - q (k + 1)) c ((s : Int) - ((rcut N (chs cs c) cs r k (k + 1) + q (k + 1) : Nat) : Int)))
            unfold rcut
            rw [if_neg (by omega)]
          · intro j hj hjk
            show rcut N (chs cs c) cs r k j + q j = rcut N (chs cs c) cs r (k + 1) j + q j
            unfold rcut
            by_cases hjk2 : j ≤ k
            · rw [if_pos hjk2, if_pos (by omega)]
            · rw [if_neg hjk2, if_neg (by omega)])
      exact ⟨k', row', op', q1, by omega, q3, q4, q5, q6, q7⟩
theorem b_goesOn (n : Nat) (hn : 1000 ≤ n) {N c cs r : Nat} (hN1 : 1 ≤ N) (hN : N ≤ 5) (h1 : 10 ≤ c) (h2 : c ≤ 120) (hs1 : 1 ≤ cs) (hs2 : cs ≤ 60) (hr : r < chs cs c ^ (N - 1)) (g q : Nat → Nat) (hg : ∀ k, k < N → q k < g k ∧ g k < c) (gs qs : Nat → Int32) (hx : ∀ k, k < N → gs k = nI (g k) ∧ qs k = nI (q k)) (row op : Nat → Int32) (hrow : ∀ j, j < N → row j = nI (rof N (chs cs c) cs r j)) (ho : opn N c (fun k => g k - q k) (fun j => rof N (chs cs c) cs r j + q j) op) :
    ∃ row' op', p_Mo_goesOn n (nI c) (nI N) (nI cs) gs qs row op = some (if r + 1 < chs cs c ^ (N - 1) then 1 else 0, row', op') ∧ (r + 1 < chs cs c ^ (N - 1) → (∀ j, j < N → row' j = nI (rof N (chs cs c) cs (r + 1) j)) ∧ opn N c (fun k => g k - q k) (fun j => rof N (chs cs c) cs (r + 1) j + q j) op') := by
  have ecut : ∀ j, j < N → rcut N (chs cs c) cs r (N - 1) j = rof N (chs cs c) cs r j := by
    intro j hj; unfold rcut; rw [if_pos (by omega)]
  obtain ⟨k', row', op', q1, q2, q3, q4, q5, q6, q7⟩ := b_goesOn7 n hn hN h1 h2 hs1 hs2 hr g q hg gs qs hx (N - 1) n row op (by omega) (by omega) (by rw [Nat.sub_self, Nat.pow_zero, Nat.mod_one]) (fun j hj => by rw [ecut j hj]; exact hrow j hj) (fun j hj t ht => by
    show op (120 * j + t) = b01 (ar (g j - q j) c ((t : Int) - ((rcut N (chs cs c) cs r (N - 1) j + q j : Nat) : Int)))
    rw [ecut j hj]; exact ho j hj t ht)
  unfold p_Mo_goesOn
  rw [show nI N - (1 : Int32) = nI (N - 1) from pk_sub (a := N) (b := 1) (by omega), q1, Option.bind_some]
  show ∃ row'' op'', (if nI k' = 0 then some ((0 : Int32), row', op') else if dk_in (nI k') 5 = true then if dk_in (nI k') 5 = true then if dk_in (nI k') 5 = true then (p_Mo_lay n (nI k') ((upd row' (nI k').toNatClampNeg ((row' (nI k').toNatClampNeg) + nI cs)) (nI k').toNatClampNeg) (nI c) gs qs op').bind fun r74_6 => some ((1 : Int32), upd row' (nI k').toNatClampNeg ((row' (nI k').toNatClampNeg) + nI cs), r74_6) else none else none else none) = _ ∧ _
  by_cases hk : k' = 0
  · rw [if_pos (show nI k' = 0 by rw [hk]; rfl)]
    have := q3 hk
    rw [if_neg (show ¬ r + 1 < chs cs c ^ (N - 1) by omega)]
    exact ⟨row', op', rfl, fun z => absurd z (by omega)⟩
  · have d1 : dk_in (nI k') 5 = true := b_in (by omega) (by omega)
    have hdg := q4 (by omega)
    have hch : 0 < chs cs c := chs_pos hs1 (by omega)
    have hlt : dg (chs cs c) r (N - 1 - k') * cs < c := rof_lt (N := N) (r := r) (k := k') hs1 (by omega)
    have hlt2 : (dg (chs cs c) r (N - 1 - k') + 1) * cs < c := (chs_lt hs1 (by omega)).mp hdg
    have er : row' k' = nI (dg (chs cs c) r (N - 1 - k') * cs) := by
      rw [q6 k' (by omega)]
      unfold rcut rof
      rw [if_pos (Nat.le_refl _)]
    obtain ⟨g1, g2⟩ := hg k' (by omega)
    obtain ⟨x1, x2⟩ := hx k' (by omega)
    obtain ⟨op2, r1, r2, r3⟩ := b_lay n hn (show k' < 5 by omega) h1 h2 hlt2 g1 g2 gs qs x1 x2 op'
    -- r = B (ch Y + x) + (B - 1), with x = its digit at k'
    have hp : 0 < chs cs c ^ (N - 1 - k') := Nat.pow_pos hch
    have hdm := Nat.div_add_mod r (chs cs c ^ (N - 1 - k'))
    have hz := Nat.div_add_mod (r / chs cs c ^ (N - 1 - k')) (chs cs c)
    have hrr : r = chs cs c ^ (N - 1 - k') * (chs cs c * (r / chs cs c ^ (N - 1 - k') / chs cs c) + dg (chs cs c) r (N - 1 - k')) + (chs cs c ^ (N - 1 - k') - 1) := by
      have : chs cs c * (r / chs cs c ^ (N - 1 - k') / chs cs c) + dg (chs cs c) r (N - 1 - k') = r / chs cs c ^ (N - 1 - k') := hz
      rw [this]; omega
    generalize r / chs cs c ^ (N - 1 - k') / chs cs c = Y at hrr
    have hr1 : r + 1 = chs cs c ^ (N - 1 - k') * (chs cs c * Y + (dg (chs cs c) r (N - 1 - k') + 1)) := by
      have e1 : chs cs c ^ (N - 1 - k') * (chs cs c * Y + (dg (chs cs c) r (N - 1 - k') + 1)) = chs cs c ^ (N - 1 - k') * (chs cs c * Y + dg (chs cs c) r (N - 1 - k')) + chs cs c ^ (N - 1 - k') := by
        rw [← Nat.add_assoc, Nat.mul_add _ _ 1, Nat.mul_one]
      omega
    have hnew : ∀ j, j < N → rof N (chs cs c) cs (r + 1) j = if j = k' then (dg (chs cs c) r (N - 1 - k') + 1) * cs else rcut N (chs cs c) cs r k' j := by
      intro j hj
      by_cases hjk : j = k'
      · subst hjk
        rw [if_pos rfl, hr1, rof_at Y hdg]
      · rw [if_neg hjk]
        unfold rcut
        by_cases hj2 : j ≤ k'
        · rw [if_pos hj2, hr1, rof_up Y hdg (by omega) (by omega)]
          have e5 : rof N (chs cs c) cs r j = rof N (chs cs c) cs (chs cs c ^ (N - 1 - k') * (chs cs c * Y + dg (chs cs c) r (N - 1 - k')) + (chs cs c ^ (N - 1 - k') - 1)) j := by rw [← hrr]
          rw [e5, rof_blk _ hj2 (by omega) (by omega), rof_up Y (by omega) (by omega) (by omega)]
        · rw [if_neg hj2, hr1, rof_low _ (by omega) hj]
    have hR : r + 1 < chs cs c ^ (N - 1) := by
      have hle : r + 1 ≤ chs cs c ^ (N - 1) := hr
      have hne : r + 1 ≠ chs cs c ^ (N - 1) := by
        intro heq
        have e6 := rof_low (N := N) (ch := chs cs c) (cs := cs) (k := 0) (j := k') 1 (by omega) (by omega)
        rw [Nat.sub_zero, Nat.mul_one, ← heq, hnew k' (by omega), if_pos rfl] at e6
        have : 0 < (dg (chs cs c) r (N - 1 - k') + 1) * cs := Nat.mul_pos (by omega) (by omega)
        omega
      omega
    rw [if_neg (show ¬ nI k' = 0 from nI_ne0 (by omega) (by omega)), if_pos d1, if_pos d1, if_pos d1, nI_clamp (by omega), pk_us, er, nI_add, show dg (chs cs c) r (N - 1 - k') * cs + cs = (dg (chs cs c) r (N - 1 - k') + 1) * cs by rw [Nat.add_mul, Nat.one_mul], r1, Option.bind_some, if_pos hR]
    refine ⟨_, op2, rfl, fun _ => ⟨?_, ?_⟩⟩
    · intro j hj
      rw [hnew j hj]
      by_cases hjk : j = k'
      · subst hjk; rw [pk_us, if_pos rfl]
      · rw [pk_un hjk, if_neg hjk, q6 j hj]
    · refine opn_upd (k := k') (by omega) h2 q7 ?_ r3 ?_
      · intro s hs
        rw [r2 s hs]
        show _ = b01 (ar (g k' - q k') c ((s : Int) - ((rof N (chs cs c) cs (r + 1) k' + q k' : Nat) : Int)))
        rw [hnew k' (by omega), if_pos rfl]
      · intro j hj hjk
        show rof N (chs cs c) cs (r + 1) j + q j = rcut N (chs cs c) cs r k' j + q j
        rw [hnew j hj, if_neg hjk]
