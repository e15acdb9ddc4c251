/-! rows put from a crossing on: aim 0 (printed by wip/gen/srch.py) -/
theorem b_putFrom_band (n : Nat) (hn : 1000 ≤ n) {N c cs : Nat} (hN : N ≤ 5) (h1 : 10 ≤ c) (h2 : c ≤ 120) (hs1 : 1 ≤ cs) (hs2 : cs ≤ 60) (g q fs fw bs bw : Nat → Nat) (hfw : ∀ i, i < 5 → fw i ≤ 100 ∧ bw i ≤ 100) (oL oH : Nat → Int64) (ww : Nat → Int32)
    (hput : ∀ (k x : Nat) (off : Nat → Nat) (bL : Nat → Int64) (bH : Nat → Int64), k < N → x < chs cs c → bO N c g q fs bs off bL bH k → off k = x * cs → (∀ j, j ≤ k → off j < c) → ∃ z bL' bH', p_Band_put n (nI k) (nI x) oL oH ww bL bH = some (z, bL', bH') ∧ z.toInt = sg 0 (vw 0 N c g q fs fw bs bw off (k + 1)) ∧ bO N c g q fs bs off bL' bH' (k + 1))
    (rB : Nat → Int64) (hrB : ∀ j, j < N → rB j = lN (chs cs c ^ (N - 1 - j))) :
    ∀ (d k dep Y : Nat) (left bsc : Int64) (bL : Nat → Int64) (bH : Nat → Int64) (row : Nat → Int32) (uc us : Int32) (uo : Nat → Int32) (st : Nat × Int × (Nat → Nat)), k + d = N → 1 ≤ d → d ≤ dep → (k = 0 → Y = 0) →
      bO N c g q fs bs (rof N (chs cs c) cs (chs cs c ^ (N - 1 - k) * (chs cs c * Y))) bL bH k → (∀ j, j < k → row j = nI (rof N (chs cs c) cs (chs cs c ^ (N - 1 - k) * (chs cs c * Y)) j)) → -1000000000 ≤ left.toInt → left.toInt ≤ 200000 → crel N st bsc uc us uo →
      ∃ left' bsc' bL' bH' row' uc' us' uo', p_Srch_putFrom_band n dep (nI k) (nI (chs cs c)) (nI cs) oL oH ww (nI c) (nI N) rB left bsc bL bH row uc us uo = some (left', bsc', bL', bH', row', uc', us', uo') ∧ bO N c g q fs bs (rof N (chs cs c) cs (chs cs c ^ (N - 1 - k) * (chs cs c * Y))) bL' bH' k ∧ (∀ j, j < k → row' j = nI (rof N (chs cs c) cs (chs cs c ^ (N - 1 - k) * (chs cs c * Y)) j)) ∧ -1000000000 ≤ left'.toInt ∧ left'.toInt ≤ 200000 ∧
        left'.toInt.toNat = left.toInt.toNat - (if k = 0 then 1 else chs cs c) * chs cs c ^ (N - 1 - k) ∧ crel N (fl (Sr 0 N cs g q fs fw bs bw c) (rof N (chs cs c) cs) c (min ((if k = 0 then 1 else chs cs c) * chs cs c ^ (N - 1 - k)) left.toInt.toNat) (chs cs c ^ (N - 1 - k) * (chs cs c * Y)) st) bsc' uc' us' uo' := by
  have hch1 : 1 ≤ chs cs c := chs_pos hs1 (by omega)
  have hch2 := chs_le120 (cs := cs) (c := c) hs1 (by omega) h2
  intro d
  induction d with
  | zero => intro k dep Y left bsc bL bH row uc us uo st _ h; omega
  | succ d ih =>
    intro k dep Y left bsc bL bH row uc us uo st hkd _ hdep hY0 hok hrow hl1 hl2 hrel
    obtain ⟨dep, rfl⟩ : ∃ m, dep = m + 1 := ⟨dep - 1, by omega⟩
    have hB := b_pow4 (e := N - 1 - k) hch1 hch2 (by omega)
    have hB0 : 0 < chs cs c ^ (N - 1 - k) := Nat.pow_pos hch1
    have k1 : (nI k).toNatClampNeg = k := nI_clamp (by omega)
    have d1 : dk_in (nI k) 5 = true := b_in (by omega) (by omega)
    -- the choices from x on
    have loop : ∀ (H : Nat), H ≤ chs cs c → (k = 0 → H ≤ 1) → ∀ (e x fu : Nat) (left bsc : Int64) (bL : Nat → Int64) (bH : Nat → Int64) (row : Nat → Int32) (uc us : Int32) (uo : Nat → Int32) (st : Nat × Int × (Nat → Nat)), x + e = H → e < fu →
        bO N c g q fs bs (rof N (chs cs c) cs (chs cs c ^ (N - 1 - k) * (chs cs c * Y))) bL bH k → (∀ j, j < k → row j = nI (rof N (chs cs c) cs (chs cs c ^ (N - 1 - k) * (chs cs c * Y)) j)) → -1000000000 ≤ left.toInt → left.toInt ≤ 200000 → crel N st bsc uc us uo →
        ∃ left' bsc' bL' bH' row' uc' us' uo', p_Srch_putFrom_band_30 n (p_Srch_putFrom_band n dep) fu (nI (chs cs c)) (nI cs) oL oH ww (nI c) (nI N) rB (nI k) (nI H) (nI x) left bsc bL bH row uc us uo = some (left', bsc', bL', bH', row', uc', us', uo') ∧ bO N c g q fs bs (rof N (chs cs c) cs (chs cs c ^ (N - 1 - k) * (chs cs c * Y))) bL' bH' k ∧ (∀ j, j < k → row' j = nI (rof N (chs cs c) cs (chs cs c ^ (N - 1 - k) * (chs cs c * Y)) j)) ∧ -1000000000 ≤ left'.toInt ∧ left'.toInt ≤ 200000 ∧
          left'.toInt.toNat = left.toInt.toNat - e * chs cs c ^ (N - 1 - k) ∧ crel N (fl (Sr 0 N cs g q fs fw bs bw c) (rof N (chs cs c) cs) c (min (e * chs cs c ^ (N - 1 - k)) left.toInt.toNat) (chs cs c ^ (N - 1 - k) * (chs cs c * Y + x)) st) bsc' uc' us' uo' := by
      intro H hH hH0 e
      induction e with
      | zero =>
        intro x fu left bsc bL bH row uc us uo st hxe hf hok hrow hl1 hl2 hrel
        obtain ⟨m, rfl⟩ : ∃ m, fu = m + 1 := ⟨fu - 1, by omega⟩
        rw [q_Srch_putFrom_band_30, if_pos (show nI H ≤ nI x from nI_le (by omega) (by omega)), Nat.zero_mul, Nat.zero_min]
        exact ⟨left, bsc, bL, bH, row, uc, us, uo, rfl, hok, hrow, hl1, hl2, rfl, hrel⟩
      | succ e ihe =>
        intro x fu left bsc bL bH row uc us uo st hxe hf hok hrow hl1 hl2 hrel
        obtain ⟨m, rfl⟩ : ∃ m, fu = m + 1 := ⟨fu - 1, by omega⟩
        rw [q_Srch_putFrom_band_30, if_neg (show ¬ nI H ≤ nI x from nI_ge (by omega) (by omega))]
        by_cases hl0 : left.toInt ≤ 0
        · rw [if_pos ((lg_cmp_le _ _).mpr (by rw [Int64.le_iff_toInt_le, show (0 : Int64).toInt = 0 by decide]; exact hl0)), show left.toInt.toNat = 0 by omega, Nat.min_zero, Nat.zero_sub]
          exact ⟨left, bsc, bL, bH, row, uc, us, uo, rfl, hok, hrow, hl1, hl2, by omega, hrel⟩
        · rw [if_neg (fun z => absurd ((lg_cmp_le _ _).mp z) (by rw [Int64.le_iff_toInt_le, show (0 : Int64).toInt = 0 by decide]; exact hl0)), if_pos d1, k1]
          have hxch : x < chs cs c := by omega
          have hup : ∀ j, j < k → rof N (chs cs c) cs (chs cs c ^ (N - 1 - k) * (chs cs c * Y + x)) j = rof N (chs cs c) cs (chs cs c ^ (N - 1 - k) * (chs cs c * Y)) j := fun j hj => rof_up Y hxch hj (by omega)
          have hat : rof N (chs cs c) cs (chs cs c ^ (N - 1 - k) * (chs cs c * Y + x)) k = x * cs := rof_at Y hxch
          obtain ⟨z, bL', bH', ep, ez, hok1⟩ := hput k x (rof N (chs cs c) cs (chs cs c ^ (N - 1 - k) * (chs cs c * Y + x))) bL bH (by omega) hxch (bO_congr hok hup) hat (fun j _ => rof_lt hs1 (by omega))
          have hsb := sg_bd (aim := 0) (vw_le (aim := 0) (N := N) (c := c) (g := g) (q := q) (fs := fs) (fw := fw) (bs := bs) (bw := bw) (rof N (chs cs c) cs (chs cs c ^ (N - 1 - k) * (chs cs c * Y + x))) (d := k + 1) hN h2 (by omega) hfw)
          have hrow1 : ∀ j, j < k + 1 → (upd row k (nI x * nI cs)) j = nI (rof N (chs cs c) cs (chs cs c ^ (N - 1 - k) * (chs cs c * Y + x)) j) := by
            intro j hj
            by_cases hjk : j = k
            · subst hjk; rw [pk_us, pk_mul, hat]
            · rw [pk_un hjk, hup j (by omega)]; exact hrow j (by omega)
          rw [ep, Option.bind_some]
          show ∃ left' bsc' bL2 bH2 row' uc' us' uo', ((p_Srch_beats n z uc bsc (nI c)).bind _) = _ ∧ _
          rw [b_beats n h2 hrel ez hsb.1 hsb.2, Option.bind_some]
          -- how the rest goes once the rows of this choice are through
          have fin : ∀ (left1 bsc1 : Int64) (bL3 : Nat → Int64) (bH3 : Nat → Int64) (row1 : Nat → Int32) (uc1 us1 : Int32) (uo1 : Nat → Int32), bO N c g q fs bs (rof N (chs cs c) cs (chs cs c ^ (N - 1 - k) * (chs cs c * Y + x))) bL3 bH3 (k + 1) → (∀ j, j < k + 1 → row1 j = nI (rof N (chs cs c) cs (chs cs c ^ (N - 1 - k) * (chs cs c * Y + x)) j)) → -1000000000 ≤ left1.toInt → left1.toInt ≤ 200000 → left1.toInt.toNat = left.toInt.toNat - chs cs c ^ (N - 1 - k) → crel N (fl (Sr 0 N cs g q fs fw bs bw c) (rof N (chs cs c) cs) c (min (chs cs c ^ (N - 1 - k)) left.toInt.toNat) (chs cs c ^ (N - 1 - k) * (chs cs c * Y + x)) st) bsc1 uc1 us1 uo1 →
              ∃ left' bsc' bL2 bH2 row' uc' us' uo', p_Srch_putFrom_band_30 n (p_Srch_putFrom_band n dep) m (nI (chs cs c)) (nI cs) oL oH ww (nI c) (nI N) rB (nI k) (nI H) (nI (x + 1)) left1 bsc1 bL3 bH3 row1 uc1 us1 uo1 = some (left', bsc', bL2, bH2, row', uc', us', uo') ∧ bO N c g q fs bs (rof N (chs cs c) cs (chs cs c ^ (N - 1 - k) * (chs cs c * Y))) bL2 bH2 k ∧ (∀ j, j < k → row' j = nI (rof N (chs cs c) cs (chs cs c ^ (N - 1 - k) * (chs cs c * Y)) j)) ∧ -1000000000 ≤ left'.toInt ∧ left'.toInt ≤ 200000 ∧
                left'.toInt.toNat = left.toInt.toNat - (e + 1) * chs cs c ^ (N - 1 - k) ∧ crel N (fl (Sr 0 N cs g q fs fw bs bw c) (rof N (chs cs c) cs) c (min ((e + 1) * chs cs c ^ (N - 1 - k)) left.toInt.toNat) (chs cs c ^ (N - 1 - k) * (chs cs c * Y + x)) st) bsc' uc' us' uo' := by
            intro left1 bsc1 bL3 bH3 row1 uc1 us1 uo1 f1 f2 f3 f4 f5 f6
            obtain ⟨left', bsc', bL2, bH2, row', uc', us', uo', g1, g2, g3, g4, g5, g6, g7⟩ := ihe (x + 1) m left1 bsc1 bL3 bH3 row1 uc1 us1 uo1 _ (by omega) (by omega) (bO_congr (bO_le f1 (by omega)) (fun j hj => (hup j hj).symm)) (fun j hj => by rw [← hup j hj]; exact f2 j (by omega)) f3 f4 f6
            refine ⟨left', bsc', bL2, bH2, row', uc', us', uo', g1, g2, g3, g4, g5, ?_, ?_⟩
            · rw [g6, f5, Nat.add_mul, Nat.one_mul]; omega
            · rw [f5] at g7
              rw [Nat.add_mul, Nat.one_mul, show min (e * chs cs c ^ (N - 1 - k) + chs cs c ^ (N - 1 - k)) left.toInt.toNat = min (chs cs c ^ (N - 1 - k)) left.toInt.toNat + min (e * chs cs c ^ (N - 1 - k)) (left.toInt.toNat - chs cs c ^ (N - 1 - k)) by omega, fl_add]
              by_cases hle : chs cs c ^ (N - 1 - k) ≤ left.toInt.toNat
              · rw [show chs cs c ^ (N - 1 - k) * (chs cs c * Y + x) + min (chs cs c ^ (N - 1 - k)) left.toInt.toNat = chs cs c ^ (N - 1 - k) * (chs cs c * Y + (x + 1)) by rw [Nat.min_eq_left hle, ← Nat.add_assoc (chs cs c * Y) x 1, Nat.mul_add _ (chs cs c * Y + x) 1, Nat.mul_one]]
                exact g7
              · rw [show left.toInt.toNat - chs cs c ^ (N - 1 - k) = 0 by omega, Nat.min_zero] at g7 ⊢
                exact g7
          by_cases hbt : st.1 = 0 ∨ st.2.1 * (c : Int) < sg 0 (vw 0 N c g q fs fw bs bw (rof N (chs cs c) cs (chs cs c ^ (N - 1 - k) * (chs cs c * Y + x))) (k + 1)) * (st.1 : Int)
          · rw [if_pos hbt, if_neg (show ¬ (1 : Int32) = 0 by decide), nI_1]
            by_cases hlast : k + 1 = N
            · have eB : chs cs c ^ (N - 1 - k) = 1 := by rw [show N - 1 - k = 0 by omega, Nat.pow_zero]
              obtain ⟨f', es, ef⟩ := b_set n (by omega) (nI c) (nI N) uc us (upd row k (nI x * nI cs)) uo
              rw [if_pos (show nI N - (1 : Int32) ≤ nI k by rw [show nI N - (1 : Int32) = nI (N - 1) from pk_sub (a := N) (b := 1) (by omega)]; exact nI_le (by omega) (by omega)), es, Option.bind_some]
              have esub := b_subL (x := left) (b := 1) (by omega) (by omega) (by omega)
              apply fin (left - (1 : Int64)) z bL' bH' (upd row k (nI x * nI cs)) (nI c) (nI N) f' hok1 hrow1
              · rw [show (1 : Int64) = lN 1 from rfl, esub]; omega
              · rw [show (1 : Int64) = lN 1 from rfl, esub]; omega
              · rw [show (1 : Int64) = lN 1 from rfl, esub, eB]; omega
              · rw [eB, show min 1 left.toInt.toNat = 1 by omega]
                have eS : Sr 0 N cs g q fs fw bs bw c (chs cs c ^ (N - 1 - k) * (chs cs c * Y + x)) = sg 0 (vw 0 N c g q fs fw bs bw (rof N (chs cs c) cs (chs cs c ^ (N - 1 - k) * (chs cs c * Y + x))) (k + 1)) := by
                  unfold Sr; rw [hlast]
                rw [eB] at eS hbt ez hsb hrow1
                show crel N (stS c (Sr 0 N cs g q fs fw bs bw c (1 * (chs cs c * Y + x))) (rof N (chs cs c) cs (1 * (chs cs c * Y + x))) st) z (nI c) (nI N) f'
                unfold stS
                rw [eS, if_pos hbt]
                exact ⟨rfl, h2, fun _ => ⟨ez, hsb.1, hsb.2, rfl, fun j hj => by rw [ef j (by omega)]; exact hrow1 j (by omega)⟩⟩
            · have eB : chs cs c ^ (N - 1 - k) = chs cs c ^ (N - 1 - (k + 1)) * chs cs c := by rw [show N - 1 - k = N - 1 - (k + 1) + 1 by omega, Nat.pow_succ]
              have eR : chs cs c ^ (N - 1 - (k + 1)) * (chs cs c * (chs cs c * Y + x)) = chs cs c ^ (N - 1 - k) * (chs cs c * Y + x) := by rw [eB, Nat.mul_assoc]
              have hi := ih (k + 1) dep (chs cs c * Y + x) left bsc bL' bH' (upd row k (nI x * nI cs)) uc us uo st (by omega) (by omega) (by omega) (fun z => absurd z (by omega))
              rw [eR, if_neg (show ¬ k + 1 = 0 by omega), Nat.mul_comm (chs cs c) (chs cs c ^ (N - 1 - (k + 1))), ← eB] at hi
              obtain ⟨left1, bsc1, bL3, bH3, row1, uc1, us1, uo1, i1, i2, i3, i4, i5, i6, i7⟩ := hi hok1 hrow1 hl1 hl2 hrel
              rw [if_neg (show ¬ nI N - (1 : Int32) ≤ nI k by rw [show nI N - (1 : Int32) = nI (N - 1) from pk_sub (a := N) (b := 1) (by omega)]; exact nI_ge (by omega) (by omega)), nI_1, i1, Option.bind_some]
              exact fin left1 bsc1 bL3 bH3 row1 uc1 us1 uo1 i2 i3 i4 i5 i6 i7
          · rw [if_neg hbt, if_pos rfl, if_pos d1, hrB k (by omega), nI_1]
            have esub := b_subL (x := left) (b := chs cs c ^ (N - 1 - k)) (by omega) (by omega) (by omega)
            apply fin (left - lN (chs cs c ^ (N - 1 - k))) bsc bL' bH' (upd row k (nI x * nI cs)) uc us uo hok1 hrow1
            · rw [esub]; omega
            · rw [esub]; omega
            · rw [esub]; omega
            · rw [fl_skip (fun z => hbt (Or.inl z)) (fun z => hbt (Or.inr z)) _ _ (fun i hi => by
                have hib : i < chs cs c ^ (N - 1 - k) := by omega
                unfold Sr
                refine Int.le_trans (sg_mono (d := k + 1) (by omega)) ?_
                rw [vw_congr (off' := rof N (chs cs c) cs (chs cs c ^ (N - 1 - k) * (chs cs c * Y + x))) (by omega) (fun j hj => rof_blk _ (by omega) (by omega) hib)]
                exact Int.le_refl _)]
              exact hrel
    rw [q_Srch_putFrom_band, b_within]
    have wi1 : (if (0 : Int64) ≤ (nI k).toInt64 ∧ (nI k).toInt64 ≤ (4 : Int64) then (1 : Int32) else 0) = 1 := if_pos (by rw [b_le32, b_ge32, nI_toInt (by omega), show (0 : Int64).toInt = 0 by decide, show (4 : Int64).toInt = 4 by decide]; omega)
    rw [wi1, Option.bind_some, if_neg (show ¬ (1 : Int32) = 0 by decide)]
    by_cases hk0 : k = 0
    · rw [if_pos (show nI k = 0 by rw [hk0]; rfl), if_pos hk0]
      obtain ⟨left', bsc', bL', bH', row', uc', us', uo', l1, l2, l3, l4, l5, l6, l7⟩ := loop 1 hch1 (fun _ => Nat.le_refl _) 1 0 n left bsc bL bH row uc us uo st (by omega) (by omega) hok hrow hl1 hl2 hrel
      rw [show nI 1 = (1 : Int32) from rfl, show nI 0 = (0 : Int32) from rfl] at l1
      rw [l1, Option.bind_some]
      exact ⟨left', bsc', bL', bH', row', uc', us', uo', rfl, l2, l3, l4, l5, l6, l7⟩
    · rw [if_neg (show ¬ nI k = 0 from nI_ne0 (by omega) (by omega)), if_neg hk0]
      obtain ⟨left', bsc', bL', bH', row', uc', us', uo', l1, l2, l3, l4, l5, l6, l7⟩ := loop (chs cs c) (Nat.le_refl _) (fun z => absurd z hk0) (chs cs c) 0 n left bsc bL bH row uc us uo st (by omega) (by omega) hok hrow hl1 hl2 hrel
      rw [show nI 0 = (0 : Int32) from rfl] at l1
      rw [l1, Option.bind_some]
      exact ⟨left', bsc', bL', bH', row', uc', us', uo', rfl, l2, l3, l4, l5, l6, l7⟩
