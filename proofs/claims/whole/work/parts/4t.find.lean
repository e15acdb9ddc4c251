/-! the class's search over the cycles (printed by wip/gen/find.py) -/
theorem cS_le {c1 c2 cb cs N : Nat} {l : Nat → Nat} (hs1 : 1 ≤ cs) (hN : N ≤ 5) : ∀ d x, 1 ≤ x → x + d ≤ 121 → cS c1 c2 cb cs N l x d ≤ d * 207360000 := by
  intro d
  induction d with
  | zero => intro x _ _; show 0 ≤ _; omega
  | succ d ih =>
    intro x h1 h2
    have h := ih (x + 1) (by omega) (by omega)
    have hb := b_pow4 (ch := chs cs x) (e := N - 1) (chs_pos hs1 h1) (chs_le120 hs1 h1 (by omega)) (by omega)
    show (if (pg c1 c2 cb x && ac l x 0 N) = true then chs cs x ^ (N - 1) else 0) + cS c1 c2 cb cs N l (x + 1) d ≤ _
    split <;> omega
theorem cS_pos {c1 c2 cb cs N : Nat} {l : Nat → Nat} (hs1 : 1 ≤ cs) : ∀ d x, 1 ≤ x → (∃ i, i < d ∧ (pg c1 c2 cb (x + i) && ac l (x + i) 0 N) = true) → 0 < cS c1 c2 cb cs N l x d := by
  intro d
  induction d with
  | zero => intro x _ ⟨i, hi, _⟩; omega
  | succ d ih =>
    intro x h1 ⟨i, hi, ht⟩
    show 0 < (if (pg c1 c2 cb x && ac l x 0 N) = true then chs cs x ^ (N - 1) else 0) + cS c1 c2 cb cs N l (x + 1) d
    cases i with
    | zero =>
      rw [Nat.add_zero] at ht
      have : 0 < chs cs x ^ (N - 1) := Nat.pow_pos (chs_pos hs1 h1)
      rw [if_pos ht]; omega
    | succ i =>
      have := ih (x + 1) (by omega) ⟨i, by omega, by rw [show x + 1 + i = x + (i + 1) by omega]; exact ht⟩
      omega
theorem cS_none {c1 c2 cb cs N : Nat} {l : Nat → Nat} : ∀ d x, (∀ i, i < d → (pg c1 c2 cb (x + i) && ac l (x + i) 0 N) = false) → cS c1 c2 cb cs N l x d = 0 := by
  intro d
  induction d with
  | zero => intro x _; rfl
  | succ d ih =>
    intro x h
    have h0 := h 0 (by omega)
    rw [Nat.add_zero] at h0
    show (if (pg c1 c2 cb x && ac l x 0 N) = true then chs cs x ^ (N - 1) else 0) + cS c1 c2 cb cs N l (x + 1) d = 0
    rw [h0, if_neg (by decide), Nat.zero_add, ih (x + 1) (fun i hi => by have := h (i + 1) (by omega); rw [show x + 1 + i = x + (i + 1) by omega]; exact this)]
theorem sc_ex {P : Nat → Bool} : ∀ d x, 0 < x → (sc P x d = 0 ∧ (∀ i, i < d → P (x + i) = false)) ∨ (0 < sc P x d ∧ sc P x d < x + d ∧ ∃ i, i < d ∧ P (x + i) = true) := by
  intro d
  induction d with
  | zero => intro x _; exact Or.inl ⟨rfl, fun i hi => absurd hi (by omega)⟩
  | succ d ih =>
    intro x hx
    show ((if P x = true then x else sc P (x + 1) d) = 0 ∧ _) ∨ (0 < (if P x = true then x else sc P (x + 1) d) ∧ (if P x = true then x else sc P (x + 1) d) < x + (d + 1) ∧ _)
    by_cases h : P x = true
    · rw [if_pos h]
      exact Or.inr ⟨hx, by omega, 0, by omega, h⟩
    · rw [if_neg h]
      rcases ih (x + 1) (by omega) with ⟨a1, a2⟩ | ⟨a1, a2, i, a3, a4⟩
      · refine Or.inl ⟨a1, fun i hi => ?_⟩
        cases i with
        | zero => rw [Nat.add_zero]; cases hh : P x with
          | false => rfl
          | true => exact absurd hh h
        | succ i => have := a2 i (by omega); rw [show x + 1 + i = x + (i + 1) by omega] at this; exact this
      · exact Or.inr ⟨a1, by omega, i + 1, by omega, by rw [show x + (i + 1) = x + 1 + i by omega]; exact a4⟩
theorem b_find_band (n : Nat) (hn : 1000 ≤ n) {N c1 c2 cb cs : Nat} (hN1 : 1 ≤ N) (hN : N ≤ 5) (hc1 : c1 ≤ 120) (hc2 : c2 ≤ 120) (hb1 : 1 ≤ cb) (hb2 : cb ≤ 110) (hs1 : 1 ≤ cs) (hs2 : cs ≤ 60) (g q l fs fw bs bw : Nat → Nat) (hg : ∀ k, k < N → q k < g k ∧ g k < l k ∧ l k ≤ 120) (hf : ∀ i, i < 5 → fs i ≤ 200 ∧ bs i ≤ 200 ∧ fw i ≤ 100 ∧ bw i ≤ 100) (ls gs qs sec ws : Nat → Int32) (hx : ∀ k, k < N → qs k = nI (q k) ∧ gs k = nI (g k) ∧ ls k = nI (l k)) (hs : ∀ i, i < 5 → sec i = nI (fs i) ∧ sec (5 + i) = nI (bs i) ∧ ws i = nI (fw i) ∧ ws (5 + i) = nI (bw i))
    (w0 : p_Road_weightOf n (0 : Int32) (nI N) ws = some (nI (wS fw 0 N))) (w1 : p_Road_weightOf n (1 : Int32) (nI N) ws = some (nI (wS bw 0 N))) :
    ∀ (d c fu : Nat) (t1 t2 t3 t4 : Int32) (left bsc : Int64) (oL oH bL bH : Nat → Int64) (ww : Nat → Int32) (row : Nat → Int32) (rB : Nat → Int64) (uc us : Int32) (uo : Nat → Int32) (st : Nat × Int × (Nat → Nat)), c + d = 121 → d < fu → 10 ≤ c → -1000000000 ≤ left.toInt → left.toInt ≤ 200000 → crel N st bsc uc us uo →
      ∃ t1' t2' t3' t4' left' bsc' oL' oH' bL' bH' ww' row' rB' uc' us' uo', p_Srch_findBest_56_t_bandWorth n fu (nI N) (nI c1) (nI c2) (nI cb) ls (nI cs) qs sec gs ws (nI c) t1 t2 t3 t4 left bsc oL oH bL bH ww row rB uc us uo = some (t1', t2', t3', t4', left', bsc', oL', oH', bL', bH', ww', row', rB', uc', us', uo') ∧ crel N (ft (fun c => pg c1 c2 cb c && ac l c 0 N) (fun c => chs cs c ^ (N - 1)) (Sr 0 N cs g q fs fw bs bw) (fun c => rof N (chs cs c) cs) d c left.toInt.toNat st) bsc' uc' us' uo' := by
  intro d
  induction d with
  | zero =>
    intro c fu t1 t2 t3 t4 left bsc oL oH bL bH ww row rB uc us uo st e hf' h10 hl1 hl2 hrel
    obtain ⟨m, rfl⟩ : ∃ m, fu = m + 1 := ⟨fu - 1, by omega⟩
    rw [q_Srch_findBest_56_t_bandWorth, if_pos (show (120 : Int32) < nI c from nI_lt (a := 120) (by omega) (by omega))]
    exact ⟨_, _, _, _, _, _, _, _, _, _, _, _, _, _, _, _, rfl, hrel⟩
  | succ d ih =>
    intro c fu t1 t2 t3 t4 left bsc oL oH bL bH ww row rB uc us uo st e hf' h10 hl1 hl2 hrel
    obtain ⟨m, rfl⟩ : ∃ m, fu = m + 1 := ⟨fu - 1, by omega⟩
    have h2 : c ≤ 120 := by omega
    rw [q_Srch_findBest_56_t_bandWorth, if_neg (show ¬ (120 : Int32) < nI c from nI_nlt (a := 120) (by omega) (by omega))]
    by_cases hl0 : left.toInt ≤ 0
    · rw [if_pos ((lg_cmp_le _ _).mpr (by rw [Int64.le_iff_toInt_le, show (0 : Int64).toInt = 0 by decide]; exact hl0)), show left.toInt.toNat = 0 by omega, ft_0]
      exact ⟨_, _, _, _, _, _, _, _, _, _, _, _, _, _, _, _, rfl, hrel⟩
    · rw [if_neg (fun z => absurd ((lg_cmp_le _ _).mp z) (by rw [Int64.le_iff_toInt_le, show (0 : Int64).toInt = 0 by decide]; exact hl0)), b_tries n (by omega) (by omega) hc1 hc2 hb1 hb2 hN l ls (fun k hk => ⟨(hg k hk).2.2, (hx k hk).2.2⟩), Option.bind_some]
      show ∃ t1' t2' t3' t4' left' bsc' oL' oH' bL' bH' ww' row' rB' uc' us' uo', _ = some (t1', t2', t3', t4', left', bsc', oL', oH', bL', bH', ww', row', rB', uc', us', uo') ∧ crel N (if (pg c1 c2 cb c && ac l c 0 N) = true then ft (fun c => pg c1 c2 cb c && ac l c 0 N) (fun c => chs cs c ^ (N - 1)) (Sr 0 N cs g q fs fw bs bw) (fun c => rof N (chs cs c) cs) d (c + 1) (left.toInt.toNat - chs cs c ^ (N - 1)) (fl (Sr 0 N cs g q fs fw bs bw c) (rof N (chs cs c) cs) c (if chs cs c ^ (N - 1) ≤ left.toInt.toNat then chs cs c ^ (N - 1) else left.toInt.toNat) 0 st) else ft (fun c => pg c1 c2 cb c && ac l c 0 N) (fun c => chs cs c ^ (N - 1)) (Sr 0 N cs g q fs fw bs bw) (fun c => rof N (chs cs c) cs) d (c + 1) left.toInt.toNat st) bsc' uc' us' uo'
      cases ht : (pg c1 c2 cb c && ac l c 0 N) with
      | false =>
        rw [if_pos (show b01 false = 0 from rfl), if_neg (show ¬ false = true by decide), nI_1]
        exact ih (c + 1) m _ _ _ _ left bsc oL oH bL bH ww row rB uc us uo st (by omega) (by omega) (by omega) hl1 hl2 hrel
      | true =>
        rw [Bool.and_eq_true] at ht
        have hlc := ac_all N 0 ht.2
        have hgc : ∀ k, k < N → q k < g k ∧ g k < c := fun k hk => by have := hg k hk; have := hlc k (by omega) (by omega); omega
        obtain ⟨rB1, e1, hrB⟩ := b_srbegin n (by omega) h2 hs1 hs2 hN t1 t2 t3 t4 rB
        obtain ⟨oL1, oH1, ww1, e2, hE, hw0, hw1⟩ := b_bbegin n hn hN h10 h2 hs1 hs2 g q fs bs hgc (fun i hi => ⟨(hf i hi).1, (hf i hi).2.1⟩) gs qs sec ws (fun i hi => ⟨(hs i hi).1, (hs i hi).2.1⟩) (fun k hk => ⟨(hx k hk).1, (hx k hk).2.1⟩) w0 w1 oL oH ww
        rw [if_neg (show ¬ b01 true = 0 by decide), e1, Option.bind_some, e2, Option.bind_some, if_pos rfl]
        have hput : ∀ (k x : Nat) (off : Nat → Nat) (bL bH : Nat → Int64), k < N → x < chs cs c → bO N c g q fs bs off bL bH k → off k = x * cs → (∀ j, j ≤ k → off j < c) → ∃ z bL' bH', p_Band_put n (nI k) (nI x) oL1 oH1 ww1 bL bH = some (z, bL', bH') ∧ z.toInt = sg 0 (vw 0 N c g q fs fw bs bw off (k + 1)) ∧ bO N c g q fs bs off bL' bH' (k + 1) := by
          intro k x off bL bH hk hx' hok hoff hoc
          have hv := vw_le (aim := 0) (N := N) (c := c) (g := g) (q := q) (fs := fs) (fw := fw) (bs := bs) (bw := bw) off (d := k + 1) hN h2 (by omega) (fun i hi => (hf i hi).2.2)
          have u1 := wS_le (f := fw) (m := 100) N 0 (fun i _ hi => (hf i (by omega)).2.2.1)
          have u2 := wS_le (f := bw) (m := 100) N 0 (fun i _ hi => (hf i (by omega)).2.2.2)
          obtain ⟨bL', bH', p1, p2⟩ := b_bput n (by omega) hN hk h10 h2 hs1 hx' g q fs bs off (show wS fw 0 N ≤ 500 by omega) (show wS bw 0 N ≤ 500 by omega) oL1 oH1 ww1 hE hw0 hw1 bL bH hok hoff
          refine ⟨_, bL', bH', p1, ?_, p2⟩
          have ev : wS fw 0 N * bnd c (fun k => g k - q k) (gn 0 N fs bs) (fun k => off k + q k) (k + 1) + wS bw 0 N * bnd c (fun k => g k - q k) (gn 1 N fs bs) (fun k => off k + q k) (k + 1) = vw 0 N c g q fs fw bs bw off (k + 1) := by unfold vw; rw [if_pos rfl]
          rw [ev, pk_lT (by omega)]
          unfold sg
          rw [if_pos rfl]
        obtain ⟨left1, bsc1, bL', bH', row1, uc1, us1, uo1, e3, _, _, l1, l2, l3, l4⟩ := b_putFrom_band n hn hN h10 h2 hs1 hs2 g q fs fw bs bw (fun i hi => (hf i hi).2.2) oL1 oH1 ww1 hput rB1 hrB N 0 6 0 left bsc bL bH row uc us uo st (by omega) (by omega) (by omega) (fun _ => rfl) (fun j hj => absurd hj (by omega)) (fun j hj => absurd hj (by omega)) hl1 hl2 hrel
        rw [Nat.sub_zero, if_pos rfl, Nat.one_mul] at l3 l4
        rw [Nat.mul_zero, Nat.mul_zero] at l4
        rw [show nI 0 = (0 : Int32) from rfl] at e3
        show ∃ t1' t2' t3' t4' left' bsc' oL' oH' bL' bH' ww' row' rB' uc' us' uo', ((p_Srch_putFrom_band n 6 (0 : Int32) (nI (chs cs c)) (nI cs) oL1 oH1 ww1 (nI c) (nI N) rB1 left bsc bL bH row uc us uo).bind _) = _ ∧ _
        rw [e3, Option.bind_some, nI_1]
        rw [show (if chs cs c ^ (N - 1) ≤ left.toInt.toNat then chs cs c ^ (N - 1) else left.toInt.toNat) = min (chs cs c ^ (N - 1)) left.toInt.toNat by rw [Nat.min_def], ← l3]
        exact ih (c + 1) m _ _ _ _ left1 bsc1 oL1 oH1 bL' bH' ww1 row1 rB1 uc1 us1 uo1 _ (by omega) (by omega) (by omega) l1 l2 l4
theorem b_find_stop (n : Nat) (hn : 1000 ≤ n) {N c1 c2 cb cs : Nat} (hN1 : 1 ≤ N) (hN : N ≤ 5) (hc1 : c1 ≤ 120) (hc2 : c2 ≤ 120) (hb1 : 1 ≤ cb) (hb2 : cb ≤ 110) (hs1 : 1 ≤ cs) (hs2 : cs ≤ 60) (g q l fs fw bs bw : Nat → Nat) (hg : ∀ k, k < N → q k < g k ∧ g k < l k ∧ l k ≤ 120) (hf : ∀ i, i < 5 → fs i ≤ 200 ∧ bs i ≤ 200 ∧ fw i ≤ 100 ∧ bw i ≤ 100) (ls gs qs sec ws : Nat → Int32) (hx : ∀ k, k < N → qs k = nI (q k) ∧ gs k = nI (g k) ∧ ls k = nI (l k)) (hs : ∀ i, i < 5 → sec i = nI (fs i) ∧ sec (5 + i) = nI (bs i) ∧ ws i = nI (fw i) ∧ ws (5 + i) = nI (bw i))
    (w0 : p_Road_weightOf n (0 : Int32) (nI N) ws = some (nI (wS fw 0 N))) (w1 : p_Road_weightOf n (1 : Int32) (nI N) ws = some (nI (wS bw 0 N))) :
    ∀ (d c fu : Nat) (t1 t2 t3 t4 : Int32) (left bsc : Int64) (z1 z2 : Int32) (sA : Nat → Int32) (sT : Nat → Int64) (so : Nat → Int32) (row : Nat → Int32) (rB : Nat → Int64) (uc us : Int32) (uo : Nat → Int32) (st : Nat × Int × (Nat → Nat)), c + d = 121 → d < fu → 10 ≤ c → -1000000000 ≤ left.toInt → left.toInt ≤ 200000 → crel N st bsc uc us uo →
      ∃ t1' t2' t3' t4' left' bsc' z1' z2' sA' sT' so' row' rB' uc' us' uo', p_Srch_findBest_56_t_stopWorth n fu (nI N) (nI c1) (nI c2) (nI cb) ls (nI cs) qs sec gs ws (nI c) t1 t2 t3 t4 left bsc z1 z2 sA sT so row rB uc us uo = some (t1', t2', t3', t4', left', bsc', z1', z2', sA', sT', so', row', rB', uc', us', uo') ∧ crel N (ft (fun c => pg c1 c2 cb c && ac l c 0 N) (fun c => chs cs c ^ (N - 1)) (Sr 1 N cs g q fs fw bs bw) (fun c => rof N (chs cs c) cs) d c left.toInt.toNat st) bsc' uc' us' uo' := by
  intro d
  induction d with
  | zero =>
    intro c fu t1 t2 t3 t4 left bsc z1 z2 sA sT so row rB uc us uo st e hf' h10 hl1 hl2 hrel
    obtain ⟨m, rfl⟩ : ∃ m, fu = m + 1 := ⟨fu - 1, by omega⟩
    rw [q_Srch_findBest_56_t_stopWorth, if_pos (show (120 : Int32) < nI c from nI_lt (a := 120) (by omega) (by omega))]
    exact ⟨_, _, _, _, _, _, _, _, _, _, _, _, _, _, _, _, rfl, hrel⟩
  | succ d ih =>
    intro c fu t1 t2 t3 t4 left bsc z1 z2 sA sT so row rB uc us uo st e hf' h10 hl1 hl2 hrel
    obtain ⟨m, rfl⟩ : ∃ m, fu = m + 1 := ⟨fu - 1, by omega⟩
    have h2 : c ≤ 120 := by omega
    rw [q_Srch_findBest_56_t_stopWorth, if_neg (show ¬ (120 : Int32) < nI c from nI_nlt (a := 120) (by omega) (by omega))]
    by_cases hl0 : left.toInt ≤ 0
    · rw [if_pos ((lg_cmp_le _ _).mpr (by rw [Int64.le_iff_toInt_le, show (0 : Int64).toInt = 0 by decide]; exact hl0)), show left.toInt.toNat = 0 by omega, ft_0]
      exact ⟨_, _, _, _, _, _, _, _, _, _, _, _, _, _, _, _, rfl, hrel⟩
    · rw [if_neg (fun z => absurd ((lg_cmp_le _ _).mp z) (by rw [Int64.le_iff_toInt_le, show (0 : Int64).toInt = 0 by decide]; exact hl0)), b_tries n (by omega) (by omega) hc1 hc2 hb1 hb2 hN l ls (fun k hk => ⟨(hg k hk).2.2, (hx k hk).2.2⟩), Option.bind_some]
      show ∃ t1' t2' t3' t4' left' bsc' z1' z2' sA' sT' so' row' rB' uc' us' uo', _ = some (t1', t2', t3', t4', left', bsc', z1', z2', sA', sT', so', row', rB', uc', us', uo') ∧ crel N (if (pg c1 c2 cb c && ac l c 0 N) = true then ft (fun c => pg c1 c2 cb c && ac l c 0 N) (fun c => chs cs c ^ (N - 1)) (Sr 1 N cs g q fs fw bs bw) (fun c => rof N (chs cs c) cs) d (c + 1) (left.toInt.toNat - chs cs c ^ (N - 1)) (fl (Sr 1 N cs g q fs fw bs bw c) (rof N (chs cs c) cs) c (if chs cs c ^ (N - 1) ≤ left.toInt.toNat then chs cs c ^ (N - 1) else left.toInt.toNat) 0 st) else ft (fun c => pg c1 c2 cb c && ac l c 0 N) (fun c => chs cs c ^ (N - 1)) (Sr 1 N cs g q fs fw bs bw) (fun c => rof N (chs cs c) cs) d (c + 1) left.toInt.toNat st) bsc' uc' us' uo'
      cases ht : (pg c1 c2 cb c && ac l c 0 N) with
      | false =>
        rw [if_pos (show b01 false = 0 from rfl), if_neg (show ¬ false = true by decide), nI_1]
        exact ih (c + 1) m _ _ _ _ left bsc z1 z2 sA sT so row rB uc us uo st (by omega) (by omega) (by omega) hl1 hl2 hrel
      | true =>
        rw [Bool.and_eq_true] at ht
        have hlc := ac_all N 0 ht.2
        have hgc : ∀ k, k < N → q k < g k ∧ g k < c := fun k hk => by have := hg k hk; have := hlc k (by omega) (by omega); omega
        obtain ⟨rB1, e1, hrB⟩ := b_srbegin n (by omega) h2 hs1 hs2 hN t1 t2 t3 t4 rB
        obtain ⟨sA1, e2, hE⟩ := b_sbegin n hn (cs := cs) hN1 hN h10 h2 g q fs fw bs bw hgc (fun i hi => ⟨(hf i hi).1, (hf i hi).2.1⟩) qs sec gs ws hs (fun k hk => ⟨(hx k hk).1, (hx k hk).2.1⟩) z1 z2 sA
        rw [if_neg (show ¬ b01 true = 0 by decide), e1, Option.bind_some, e2, Option.bind_some, if_pos rfl]
        have hput : ∀ (k x : Nat) (off : Nat → Nat) (sT : Nat → Int64) (so : Nat → Int32), k < N → x < chs cs c → sO c g q fs fw bs bw off sT so k → off k = x * cs → (∀ j, j ≤ k → off j < c) → ∃ z sT' so', p_Stop_put n (nI k) (nI x) (nI cs) (nI c) sA1 sT so = some (z, sT', so') ∧ z.toInt = sg 1 (vw 1 N c g q fs fw bs bw off (k + 1)) ∧ sO c g q fs fw bs bw off sT' so' (k + 1) := by
          intro k x off sT so hk hx' hok hoff hoc
          have hv := vw_le (aim := 1) (N := N) (c := c) (g := g) (q := q) (fs := fs) (fw := fw) (bs := bs) (bw := bw) off (d := k + 1) hN h2 (by omega) (fun i hi => (hf i hi).2.2)
          obtain ⟨sT', so', p1, p2⟩ := b_sput n hN hk h10 h2 hs1 hx' g q fs fw bs bw off hgc (fun i hi => (hf i hi).2.2) hoc sA1 hE sT so hok hoff
          refine ⟨_, sT', so', p1, ?_, p2⟩
          have ev : wS (stp c (fun k => g k - q k) (fun k => off k + q k) fs fw bs bw) 0 k = vw 1 N c g q fs fw bs bw off (k + 1) := by unfold vw; rw [if_neg (show ¬ 1 = 0 by omega)]; rfl
          rw [ev, Int64.toInt_neg, pk_lT (by omega), Int.bmod_eq_of_le (by omega) (by omega)]
          unfold sg
          rw [if_neg (show ¬ 1 = 0 by omega)]
        obtain ⟨left1, bsc1, sT', so', row1, uc1, us1, uo1, e3, _, _, l1, l2, l3, l4⟩ := b_putFrom_stop n hn hN h10 h2 hs1 hs2 g q fs fw bs bw (fun i hi => (hf i hi).2.2) (nI cs) (nI c) sA1 hput rB1 hrB N 0 6 0 left bsc sT so row uc us uo st (by omega) (by omega) (by omega) (fun _ => rfl) (fun j hj => absurd hj (by omega)) (fun j hj => absurd hj (by omega)) hl1 hl2 hrel
        rw [Nat.sub_zero, if_pos rfl, Nat.one_mul] at l3 l4
        rw [Nat.mul_zero, Nat.mul_zero] at l4
        rw [show nI 0 = (0 : Int32) from rfl] at e3
        show ∃ t1' t2' t3' t4' left' bsc' z1' z2' sA' sT' so' row' rB' uc' us' uo', ((p_Srch_putFrom_stop n 6 (0 : Int32) (nI (chs cs c)) (nI cs) (nI cs) (nI c) sA1 (nI c) (nI N) rB1 left bsc sT so row uc us uo).bind _) = _ ∧ _
        rw [e3, Option.bind_some, nI_1]
        rw [show (if chs cs c ^ (N - 1) ≤ left.toInt.toNat then chs cs c ^ (N - 1) else left.toInt.toNat) = min (chs cs c ^ (N - 1)) left.toInt.toNat by rw [Nat.min_def], ← l3]
        exact ih (c + 1) m _ _ _ _ left1 bsc1 (nI c) (nI cs) sA1 sT' so' row1 rB1 uc1 us1 uo1 _ (by omega) (by omega) (by omega) l1 l2 l4
