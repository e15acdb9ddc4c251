/-! the reference's run over rows and cycles -/
def mrel (aim N : Nat) (st : Nat × Int × (Nat → Nat)) (z6 : Int64) (z8 : Int32) (offs : Nat → Int32) : Prop :=
  z8 = nI st.1 ∧ st.1 ≤ 120 ∧ (st.1 ≠ 0 → (∃ v, v ≤ 200000 ∧ z6 = lN v ∧ st.2.1 = sg aim v) ∧ ∀ k, k < N → offs k = nI (st.2.2 k))
/-- the score of row r of a cycle -/
def Sr (aim N cs : Nat) (g q fs fw bs bw : Nat → Nat) (c r : Nat) : Int := sg aim (vw aim N c g q fs fw bs bw (rof N (chs cs c) cs r) N)
theorem b_run119 (n : Nat) (hn : 1000000 ≤ n) {aim N c cs nodes : Nat} (ha : aim < 2) (hN1 : 1 ≤ N) (hN : N ≤ 5) (h1 : 10 ≤ c) (h2 : c ≤ 120) (hs1 : 1 ≤ cs) (hs2 : cs ≤ 60) (hno : nodes ≤ 200000) (g q fs fw bs bw : Nat → Nat) (hg : ∀ k, k < N → q k < g k ∧ g k < c) (hf : ∀ i, i < 5 → fs i ≤ 200 ∧ bs i ≤ 200 ∧ fw i ≤ 100 ∧ bw i ≤ 100) (gs qs secs ws : Nat → Int32) (hx : ∀ k, k < N → gs k = nI (g k) ∧ qs k = nI (q k)) (hs : ∀ k, k + 1 < N → secs (2 * k) = nI (fs k) ∧ secs (2 * k + 1) = nI (bs (k + 1)) ∧ ws (2 * k) = nI (fw k) ∧ ws (2 * k + 1) = nI (bw (k + 1)))
    (w0 : p_Mo_weightOf n (0 : Int32) (nI N) ws = some (nI (wS fw 0 N))) (w1 : p_Mo_weightOf n (1 : Int32) (nI N) ws = some (nI (wS bw 0 N))) :
    ∀ (m fu looked r : Nat) (st : Nat × Int × (Nat → Nat)) (z6 : Int64) (z8 : Int32) (offs row op : Nat → Int32), r < chs cs c ^ (N - 1) → m = min (chs cs c ^ (N - 1) - r) (nodes - looked) → m + 1 < fu → looked ≤ nodes → mrel aim N st z6 z8 offs → (∀ j, j < N → row j = nI (rof N (chs cs c) cs r j)) → opn N c (fun k => g k - q k) (fun j => rof N (chs cs c) cs r j + q j) op →
      ∃ z6' z8' offs' row' op', p_Mo_run_119 n fu (nI N) (nI cs) gs qs secs ws (nI aim) (lN nodes) (lN looked) z6 z8 (nI c) (1 : Int32) offs row op = some (lN (looked + m), z6', z8', offs', row', op') ∧ mrel aim N (fl (Sr aim N cs g q fs fw bs bw c) (rof N (chs cs c) cs) c m r st) z6' z8' offs' := by
  intro m
  induction m with
  | zero =>
    intro fu looked r st z6 z8 offs row op hr hm hfu hlk hrel hrow hop
    obtain ⟨f, rfl⟩ : ∃ m, fu = m + 1 := ⟨fu - 1, by omega⟩
    have hle : nodes ≤ looked := by omega
    rw [q_Mo_run_119, if_neg (show ¬ (1 : Int32) = 0 by decide), if_pos ((lg_cmp_ge _ _).mpr ((pk_lLE (by omega) (by omega)).mpr hle))]
    exact ⟨z6, z8, offs, row, op, rfl, hrel⟩
  | succ m ih =>
    intro fu looked r st z6 z8 offs row op hr hm hfu hlk hrel hrow hop
    obtain ⟨f, rfl⟩ : ∃ m, fu = m + 1 := ⟨fu - 1, by omega⟩
    have hlt : looked < nodes := by omega
    have ew := b_worth n (by omega) ha hN1 hN h1 h2 g q fs fw bs bw (rof N (chs cs c) cs r) hf op secs ws hop hs w0 w1
    have hv := vw_le (aim := aim) (N := N) (c := c) (g := g) (q := q) (fs := fs) (fw := fw) (bs := bs) (bw := bw) (rof N (chs cs c) cs r) (d := N) hN h2 (Nat.le_refl _) (fun i hi => (hf i hi).2.2)
    obtain ⟨row', op', eg, hgo⟩ := b_goesOn n (by omega) hN1 hN h1 h2 hs1 hs2 hr g q hg gs qs hx row op hrow hop
    rw [q_Mo_run_119, if_neg (show ¬ (1 : Int32) = 0 by decide), if_neg (fun z => absurd ((pk_lLE (by omega) (by omega)).mp ((lg_cmp_ge _ _).mp z)) (by omega)), ew, Option.bind_some, eg]
    simp only [Option.bind_some, lN_1]
    -- the rows behind this one
    have rest : ∀ st1 z6 z8 offs, mrel aim N st1 z6 z8 offs → ∃ z6' z8' offs' row'' op'', p_Mo_run_119 n f (nI N) (nI cs) gs qs secs ws (nI aim) (lN nodes) (lN (looked + 1)) z6 z8 (nI c) (if r + 1 < chs cs c ^ (N - 1) then 1 else 0) offs row' op' = some (lN (looked + (m + 1)), z6', z8', offs', row'', op'') ∧ mrel aim N (fl (Sr aim N cs g q fs fw bs bw c) (rof N (chs cs c) cs) c m (r + 1) st1) z6' z8' offs' := by
      intro st1 z6 z8 offs hrel1
      by_cases hR : r + 1 < chs cs c ^ (N - 1)
      · rw [if_pos hR]
        obtain ⟨p1, p2⟩ := hgo hR
        have := ih f (looked + 1) (r + 1) st1 z6 z8 offs row' op' hR (by omega) (by omega) (by omega) hrel1 p1 p2
        rw [show looked + 1 + m = looked + (m + 1) by omega] at this
        exact this
      · rw [if_neg hR]
        obtain ⟨f2, rfl⟩ : ∃ m, f = m + 1 := ⟨f - 1, by omega⟩
        have hm0 : m = 0 := by omega
        subst hm0
        rw [q_Mo_run_119, if_pos rfl]
        exact ⟨z6, z8, offs, row', op', rfl, hrel1⟩
    show ∃ z6' z8' offs' row'' op'', _ ∧ mrel aim N (fl (Sr aim N cs g q fs fw bs bw c) (rof N (chs cs c) cs) c m (r + 1) (stS c (Sr aim N cs g q fs fw bs bw c r) (rof N (chs cs c) cs r) st)) z6' z8' offs'
    have hnew : ∀ offs', (∀ j, j < N → offs' j = row j) → mrel aim N (c, Sr aim N cs g q fs fw bs bw c r, rof N (chs cs c) cs r) (lN (vw aim N c g q fs fw bs bw (rof N (chs cs c) cs r) N)) (nI c) offs' := by
      intro offs' ho'
      exact ⟨rfl, h2, fun _ => ⟨⟨_, hv, rfl, rfl⟩, fun k hk => by rw [ho' k hk]; exact hrow k hk⟩⟩
    have cp : ∀ z2 z4 z6 z8 z9, ∃ offs', p_Mo_run_213 n n (nI N) (nI aim) z2 z4 z6 z8 z9 (0 : Int32) offs row = some offs' ∧ ∀ j, j < N → offs' j = row j := by
      intro z2 z4 z6 z8 z9
      have := b_run213 n hN (nI aim) z8 z9 z2 z4 z6 row N 0 n offs (by omega) (by omega) (fun j hj => absurd hj (by omega))
      exact this
    obtain ⟨e8, hb8, hst⟩ := hrel
    by_cases hz : st.1 = 0
    · have es : stS c (Sr aim N cs g q fs fw bs bw c r) (rof N (chs cs c) cs r) st = (c, Sr aim N cs g q fs fw bs bw c r, rof N (chs cs c) cs r) := by
        unfold stS; rw [if_pos (Or.inl hz)]
      rw [es, if_pos (show z8 = 0 by rw [e8, hz]; rfl)]
      obtain ⟨offs', c1, c2⟩ := cp (lN nodes) (lN (looked + 1)) (lN (vw aim N c g q fs fw bs bw (rof N (chs cs c) cs r) N)) (nI c) (nI c)
      rw [c1, Option.bind_some]
      exact rest _ _ _ _ (hnew offs' c2)
    · obtain ⟨⟨v, hv2, e6, esv⟩, hoff⟩ := hst hz
      have hz8 : ¬ z8 = 0 := by rw [e8]; exact nI_ne0 (by omega) (by omega)
      have p1 := Nat.mul_le_mul hv hb8
      have p2 := Nat.mul_le_mul hv2 h2
      rw [if_neg hz8, e8, e6, nI_l (by omega), nI_l (by omega), lN_mul, lN_mul]
      have keep : ¬ (st.2.1 * (c : Int) < Sr aim N cs g q fs fw bs bw c r * (st.1 : Int)) → ∃ z6' z8' offs' row'' op'', p_Mo_run_119 n f (nI N) (nI cs) gs qs secs ws (nI aim) (lN nodes) (lN (looked + 1)) (lN v) (nI st.1) (nI c) (if r + 1 < chs cs c ^ (N - 1) then 1 else 0) offs row' op' = some (lN (looked + (m + 1)), z6', z8', offs', row'', op'') ∧ mrel aim N (fl (Sr aim N cs g q fs fw bs bw c) (rof N (chs cs c) cs) c m (r + 1) (stS c (Sr aim N cs g q fs fw bs bw c r) (rof N (chs cs c) cs r) st)) z6' z8' offs' := by
        intro hno
        have es : stS c (Sr aim N cs g q fs fw bs bw c r) (rof N (chs cs c) cs r) st = st := by
          unfold stS
          rw [if_neg]
          intro z
          rcases z with z | z
          · exact hz z
          · exact hno z
        rw [es]
        exact rest st _ _ _ ⟨rfl, hb8, fun _ => ⟨⟨v, hv2, rfl, esv⟩, hoff⟩⟩
      have take : st.2.1 * (c : Int) < Sr aim N cs g q fs fw bs bw c r * (st.1 : Int) → ∃ z6' z8' offs' row'' op'', ((p_Mo_run_213 n n (nI N) (nI aim) (lN nodes) (lN (looked + 1)) (lN (vw aim N c g q fs fw bs bw (rof N (chs cs c) cs r) N)) (nI c) (nI c) (0 : Int32) offs row).bind fun q213 => p_Mo_run_119 n f (nI N) (nI cs) gs qs secs ws (nI aim) (lN nodes) (lN (looked + 1)) (lN (vw aim N c g q fs fw bs bw (rof N (chs cs c) cs r) N)) (nI c) (nI c) (if r + 1 < chs cs c ^ (N - 1) then 1 else 0) q213 row' op') = some (lN (looked + (m + 1)), z6', z8', offs', row'', op'') ∧ mrel aim N (fl (Sr aim N cs g q fs fw bs bw c) (rof N (chs cs c) cs) c m (r + 1) (stS c (Sr aim N cs g q fs fw bs bw c r) (rof N (chs cs c) cs r) st)) z6' z8' offs' := by
        intro hyes
        have es : stS c (Sr aim N cs g q fs fw bs bw c r) (rof N (chs cs c) cs r) st = (c, Sr aim N cs g q fs fw bs bw c r, rof N (chs cs c) cs r) := by
          unfold stS; rw [if_pos (Or.inr hyes)]
        rw [es]
        obtain ⟨offs', c1, c2⟩ := cp (lN nodes) (lN (looked + 1)) (lN (vw aim N c g q fs fw bs bw (rof N (chs cs c) cs r) N)) (nI c) (nI c)
        rw [c1, Option.bind_some]
        exact rest _ _ _ _ (hnew offs' c2)
      have ecmp : st.2.1 * (c : Int) < Sr aim N cs g q fs fw bs bw c r * (st.1 : Int) ↔ (if aim = 0 then v * c < vw aim N c g q fs fw bs bw (rof N (chs cs c) cs r) N * st.1 else vw aim N c g q fs fw bs bw (rof N (chs cs c) cs r) N * st.1 < v * c) := by
        have es : Sr aim N cs g q fs fw bs bw c r = sg aim (vw aim N c g q fs fw bs bw (rof N (chs cs c) cs r) N) := rfl
        rw [esv, es]
        generalize vw aim N c g q fs fw bs bw (rof N (chs cs c) cs r) N = V
        unfold sg
        have a1 := Int.natCast_mul v c
        have a2 := Int.natCast_mul V st.1
        by_cases h0 : aim = 0
        · rw [if_pos h0, if_pos h0, if_pos h0]; omega
        · rw [if_neg h0, if_neg h0, if_neg h0, Int.neg_mul, Int.neg_mul]; omega
      by_cases h0 : aim = 0
      · rw [if_pos (show nI aim = 0 by rw [h0]; rfl)]
        rw [if_pos h0] at ecmp
        by_cases hcmp : v * c < vw aim N c g q fs fw bs bw (rof N (chs cs c) cs r) N * st.1
        · rw [if_neg (fun z => absurd ((pk_lLE (by omega) (by omega)).mp ((lg_cmp_le _ _).mp z)) (by omega))]
          exact take (ecmp.mpr hcmp)
        · rw [if_pos ((lg_cmp_le _ _).mpr ((pk_lLE (by omega) (by omega)).mpr (by omega)))]
          exact keep (fun z => hcmp (ecmp.mp z))
      · rw [if_neg (show ¬ nI aim = 0 from nI_ne0 (by omega) (by omega))]
        rw [if_neg h0] at ecmp
        by_cases hcmp : vw aim N c g q fs fw bs bw (rof N (chs cs c) cs r) N * st.1 < v * c
        · rw [if_neg (fun z => absurd ((pk_lLE (by omega) (by omega)).mp ((lg_cmp_ge _ _).mp z)) (by omega))]
          exact take (ecmp.mpr hcmp)
        · rw [if_pos ((lg_cmp_ge _ _).mpr ((pk_lLE (by omega) (by omega)).mpr (by omega)))]
          exact keep (fun z => hcmp (ecmp.mp z))
theorem ac_all {l : Nat → Nat} {c : Nat} : ∀ d k, ac l c k d = true → ∀ j, k ≤ j → j < k + d → l j ≤ c := by
  intro d
  induction d with
  | zero => intro k _ j h1 h2; omega
  | succ d ih =>
    intro k h j h1 h2
    have h' : (decide (l k ≤ c) && ac l c (k + 1) d) = true := h
    rw [Bool.and_eq_true, decide_eq_true_iff] at h'
    by_cases hj : j = k
    · subst hj; exact h'.1
    · exact ih (k + 1) h'.2 j (by omega) (by omega)
theorem b_run55 (n : Nat) (hn : 1000000 ≤ n) {aim N c1 c2 cb cs nodes : Nat} (ha : aim < 2) (hN1 : 1 ≤ N) (hN : N ≤ 5) (hc1 : 10 ≤ c1) (hc12 : c1 ≤ c2) (hc2 : c2 ≤ 120) (hb1 : 1 ≤ cb) (hb2 : cb ≤ 110) (hs1 : 1 ≤ cs) (hs2 : cs ≤ 60) (hno : nodes ≤ 200000) (g q l fs fw bs bw : Nat → Nat) (hg : ∀ k, k < N → q k < g k ∧ g k < l k ∧ l k ≤ 120) (hf : ∀ i, i < 5 → fs i ≤ 200 ∧ bs i ≤ 200 ∧ fw i ≤ 100 ∧ bw i ≤ 100) (ls gs qs secs ws : Nat → Int32) (hx : ∀ k, k < N → gs k = nI (g k) ∧ qs k = nI (q k) ∧ ls k = nI (l k)) (hs : ∀ k, k + 1 < N → secs (2 * k) = nI (fs k) ∧ secs (2 * k + 1) = nI (bs (k + 1)) ∧ ws (2 * k) = nI (fw k) ∧ ws (2 * k + 1) = nI (bw (k + 1)))
    (w0 : p_Mo_weightOf n (0 : Int32) (nI N) ws = some (nI (wS fw 0 N))) (w1 : p_Mo_weightOf n (1 : Int32) (nI N) ws = some (nI (wS bw 0 N))) :
    ∀ (fu c looked : Nat) (st : Nat × Int × (Nat → Nat)) (z6 : Int64) (z8 : Int32) (offs row op : Nat → Int32), c1 ≤ c → (c - c1) % cb = 0 → c ≤ 240 → 241 < fu + c → looked ≤ nodes → mrel aim N st z6 z8 offs →
      ∃ z6' z8' offs' row' op', p_Mo_run_55 n fu (nI N) (nI c2) ls (nI cb) (nI cs) gs qs secs ws (nI aim) (lN nodes) (lN looked) z6 z8 (nI c) offs row op = some (lN (looked + min (nodes - looked) (cS c1 c2 cb cs N l c (121 - c))), z8', offs', row', op') ∧ mrel aim N (ft (fun c => pg c1 c2 cb c && ac l c 0 N) (fun c => chs cs c ^ (N - 1)) (Sr aim N cs g q fs fw bs bw) (fun c => rof N (chs cs c) cs) (121 - c) c (nodes - looked) st) z6' z8' offs' := by
  intro fu
  induction fu with
  | zero => intro c looked st z6 z8 offs row op h1 h2 h3 h4; omega
  | succ f ih =>
    intro c looked st z6 z8 offs row op h1 h2 h3 h4 hlk hrel
    rw [q_Mo_run_55]
    by_cases hcc : c2 < c
    · have hpg : ∀ x, c ≤ x → pg c1 c2 cb x = false := by
        intro x hx'
        unfold pg
        rw [decide_eq_false (show ¬ x ≤ c2 by omega), Bool.false_and, Bool.and_false]
      rw [if_pos (nI_lt hcc (by omega)), cS_skip (121 - c) c (121 - c) (fun i _ _ => hpg _ (by omega)), ft_skip (121 - c) c (121 - c) (fun i _ _ => by show (pg c1 c2 cb (c + i) && _) = false; rw [hpg _ (by omega)]; rfl), Nat.sub_self]
      exact ⟨z6, z8, offs, row, op, by show _ = some (lN (looked + min (nodes - looked) 0), _); rw [Nat.min_zero]; rfl, hrel⟩
    · rw [if_neg (show ¬ nI c2 < nI c from nI_nlt (by omega) (by omega))]
      by_cases hdone : nodes ≤ looked
      · rw [if_pos ((lg_cmp_ge _ _).mpr ((pk_lLE (by omega) (by omega)).mpr hdone)), show nodes - looked = 0 by omega, ft_0, Nat.zero_min]
        exact ⟨z6, z8, offs, row, op, rfl, hrel⟩
      · rw [if_neg (fun z => absurd ((pk_lLE (by omega) (by omega)).mp ((lg_cmp_ge _ _).mp z)) (by omega)), b_mayBe n (by omega) (by omega) hN l ls (fun k hk => ⟨(hg k hk).2.2, (hx k hk).2.2⟩), Option.bind_some]
        have hpg : pg c1 c2 cb c = true := by
          unfold pg
          rw [decide_eq_true h1, decide_eq_true (show c ≤ c2 by omega), decide_eq_true h2]; rfl
        have hnext : ∀ i, i < cb - 1 → i < 120 - c → pg c1 c2 cb (c + 1 + i) = false := by
          intro i hi _
          rw [show c + 1 + i = c + (i + 1) by omega]
          exact pg_step h1 h2 (by omega) (by omega)
        have eS : cS c1 c2 cb cs N l (c + 1) (120 - c) = cS c1 c2 cb cs N l (c + cb) (121 - (c + cb)) := by
          rw [cS_skip (cb - 1) (c + 1) (120 - c) hnext, show c + 1 + (cb - 1) = c + cb by omega, show 120 - c - (cb - 1) = 121 - (c + cb) by omega]
        have eF : ∀ ll st, ft (fun c => pg c1 c2 cb c && ac l c 0 N) (fun c => chs cs c ^ (N - 1)) (Sr aim N cs g q fs fw bs bw) (fun c => rof N (chs cs c) cs) (120 - c) (c + 1) ll st = ft (fun c => pg c1 c2 cb c && ac l c 0 N) (fun c => chs cs c ^ (N - 1)) (Sr aim N cs g q fs fw bs bw) (fun c => rof N (chs cs c) cs) (121 - (c + cb)) (c + cb) ll st := by
          intro ll st
          rw [ft_skip (cb - 1) (c + 1) (120 - c) (fun i p1 p2 => by show (pg c1 c2 cb (c + 1 + i) && _) = false; rw [hnext i p1 p2]; rfl), show c + 1 + (cb - 1) = c + cb by omega, show 120 - c - (cb - 1) = 121 - (c + cb) by omega]
        have hmod : (c + cb - c1) % cb = 0 := by rw [show c + cb - c1 = (c - c1) + cb by omega, Nat.add_mod_right, h2]
        have ed : 121 - c = (120 - c) + 1 := by omega
        rw [ed]
        show ∃ z6' z8' offs' row' op', _ = some (lN (looked + min (nodes - looked) ((if (pg c1 c2 cb c && ac l c 0 N) = true then chs cs c ^ (N - 1) else 0) + cS c1 c2 cb cs N l (c + 1) (120 - c))), z8', offs', row', op') ∧ mrel aim N (if (pg c1 c2 cb c && ac l c 0 N) = true then ft (fun c => pg c1 c2 cb c && ac l c 0 N) (fun c => chs cs c ^ (N - 1)) (Sr aim N cs g q fs fw bs bw) (fun c => rof N (chs cs c) cs) (120 - c) (c + 1) (nodes - looked - chs cs c ^ (N - 1)) (fl (Sr aim N cs g q fs fw bs bw c) (rof N (chs cs c) cs) c (if chs cs c ^ (N - 1) ≤ nodes - looked then chs cs c ^ (N - 1) else nodes - looked) 0 st) else ft (fun c => pg c1 c2 cb c && ac l c 0 N) (fun c => chs cs c ^ (N - 1)) (Sr aim N cs g q fs fw bs bw) (fun c => rof N (chs cs c) cs) (120 - c) (c + 1) (nodes - looked) st) z6' z8' offs'
        rw [eS, eF, eF, hpg, Bool.true_and]
        cases hac : ac l c 0 N with
        | false =>
          obtain ⟨f2, rfl⟩ : ∃ m, n = m + 1 := ⟨n - 1, by omega⟩
          have e82 : p_Mo_run_82 (f2 + 1) (f2 + 1) (nI N) gs qs (nI aim) (lN nodes) (lN looked) z6 z8 (nI c) (b01 false) (0 : Int32) row op = some (row, op) := by
            rw [q_Mo_run_82, if_neg (show ¬ nI N ≤ 0 from nI_nle (by omega) (by omega)), if_pos (show b01 false = 0 from rfl)]
          have e119 : p_Mo_run_119 (f2 + 1) (f2 + 1) (nI N) (nI cs) gs qs secs ws (nI aim) (lN nodes) (lN looked) z6 z8 (nI c) (b01 false) offs row op = some (lN looked, z6, z8, offs, row, op) := by
            rw [q_Mo_run_119, if_pos (show b01 false = 0 from rfl)]
          rw [e82, Option.bind_some]
          show ∃ z6' z8' offs' row' op', ((p_Mo_run_119 (f2 + 1) (f2 + 1) (nI N) (nI cs) gs qs secs ws (nI aim) (lN nodes) (lN looked) z6 z8 (nI c) (b01 false) offs row op).bind _) = _ ∧ _
          rw [e119, Option.bind_some, if_neg (show ¬ false = true by decide), if_neg (show ¬ false = true by decide), Nat.zero_add]
          show ∃ z6' z8' offs' row' op', p_Mo_run_55 (f2 + 1) f (nI N) (nI c2) ls (nI cb) (nI cs) gs qs secs ws (nI aim) (lN nodes) (lN looked) z6 z8 (nI c + nI cb) offs row op = _ ∧ _
          rw [nI_add]
          exact ih (c + cb) looked st z6 z8 offs row op (by omega) hmod (by omega) (by omega) hlk hrel
        | true =>
          have hlc := ac_all N 0 hac
          have hgc : ∀ k, k < N → q k < g k ∧ g k < c := fun k hk => by have := hg k hk; have := hlc k (by omega) (by omega); omega
          obtain ⟨row1, op1, e82, hr1, ho1⟩ := b_run82 n (by omega) hN (show 10 ≤ c by omega) (show c ≤ 120 by omega) g q hgc gs qs (fun k hk => ⟨(hx k hk).1, (hx k hk).2.1⟩) (nI aim) z8 (lN nodes) (lN looked) z6 N 0 n row op (by omega) (by omega) (fun j hj => absurd hj (by omega)) (fun j hj => absurd hj (by omega))
          rw [show nI 0 = (0 : Int32) from rfl] at e82
          rw [show b01 true = 1 from rfl, e82, Option.bind_some]
          have hR : 0 < chs cs c ^ (N - 1) := Nat.pow_pos (chs_pos hs1 (by omega))
          obtain ⟨z6', z8', offs', row', op', e119, hrel'⟩ := b_run119 n hn ha hN1 hN (show 10 ≤ c by omega) (show c ≤ 120 by omega) hs1 hs2 hno g q fs fw bs bw hgc hf gs qs secs ws (fun k hk => ⟨(hx k hk).1, (hx k hk).2.1⟩) hs w0 w1 (min (chs cs c ^ (N - 1) - 0) (nodes - looked)) n looked 0 st z6 z8 offs row1 op1 hR rfl (by omega) hlk hrel (fun j hj => by rw [hr1 j hj, rof_0]; rfl) (fun j hj t ht => by
            show op1 (120 * j + t) = b01 (ar (g j - q j) c ((t : Int) - ((rof N (chs cs c) cs 0 j + q j : Nat) : Int)))
            rw [rof_0]; exact ho1 j hj t ht)
          show ∃ z6' z8' offs' row' op', ((p_Mo_run_119 n n (nI N) (nI cs) gs qs secs ws (nI aim) (lN nodes) (lN looked) z6 z8 (nI c) (1 : Int32) offs row1 op1).bind _) = _ ∧ _
          rw [e119, Option.bind_some, if_pos rfl, if_pos rfl]
          show ∃ z6'' z8'' offs'' row'' op'', p_Mo_run_55 n f (nI N) (nI c2) ls (nI cb) (nI cs) gs qs secs ws (nI aim) (lN nodes) (lN (looked + min (chs cs c ^ (N - 1) - 0) (nodes - looked))) z6' z8' (nI c + nI cb) offs' row' op' = _ ∧ _
          rw [nI_add, Nat.sub_zero]
          rw [Nat.sub_zero] at hrel'
          have := ih (c + cb) (looked + min (chs cs c ^ (N - 1)) (nodes - looked)) _ z6' z8' offs' row' op' (by omega) hmod (by omega) (by omega) (by omega) hrel'
          rw [show nodes - (looked + min (chs cs c ^ (N - 1)) (nodes - looked)) = nodes - looked - chs cs c ^ (N - 1) by omega] at this
          rw [show (if chs cs c ^ (N - 1) ≤ nodes - looked then chs cs c ^ (N - 1) else nodes - looked) = min (chs cs c ^ (N - 1)) (nodes - looked) by rw [Nat.min_def]]
          rw [show looked + min (nodes - looked) (chs cs c ^ (N - 1) + cS c1 c2 cb cs N l (c + cb) (121 - (c + cb))) = looked + min (chs cs c ^ (N - 1)) (nodes - looked) + min (nodes - looked - chs cs c ^ (N - 1)) (cS c1 c2 cb cs N l (c + cb) (121 - (c + cb))) by omega]
          exact this
