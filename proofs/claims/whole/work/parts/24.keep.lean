theorem d_Tt_keep_0 : decode b_Tt_keep 0 = .ok (.iload_n 1, 1) := by decide +kernel
theorem d_Tt_keep_1 : decode b_Tt_keep 1 = .ok (.i2l, 1) := by decide +kernel
theorem d_Tt_keep_2 : decode b_Tt_keep 2 = .ok (.lconst 0, 1) := by decide +kernel
theorem d_Tt_keep_3 : decode b_Tt_keep 3 = .ok (.ldc2_w 17, 3) := by decide +kernel
theorem d_Tt_keep_6 : decode b_Tt_keep 6 = .ok (.invokestatic 19, 3) := by decide +kernel
theorem d_Tt_keep_9 : decode b_Tt_keep 9 = .ok (.ifCond .ne 4, 3) := by decide +kernel
theorem d_Tt_keep_12 : decode b_Tt_keep 12 = .ok (.return_, 1) := by decide +kernel
theorem d_Tt_keep_13 : decode b_Tt_keep 13 = .ok (.aload_n 0, 1) := by decide +kernel
theorem d_Tt_keep_14 : decode b_Tt_keep 14 = .ok (.getfield 11, 3) := by decide +kernel
theorem d_Tt_keep_17 : decode b_Tt_keep 17 = .ok (.iload_n 1, 1) := by decide +kernel
theorem d_Tt_keep_18 : decode b_Tt_keep 18 = .ok (.aaload, 1) := by decide +kernel
theorem d_Tt_keep_19 : decode b_Tt_keep 19 = .ok (.astore_n 3, 1) := by decide +kernel
theorem d_Tt_keep_20 : decode b_Tt_keep 20 = .ok (.aload_n 3, 1) := by decide +kernel
theorem d_Tt_keep_21 : decode b_Tt_keep 21 = .ok (.ifnonnull 18, 3) := by decide +kernel
theorem d_Tt_keep_24 : decode b_Tt_keep 24 = .ok (.new 9, 3) := by decide +kernel
theorem d_Tt_keep_27 : decode b_Tt_keep 27 = .ok (.dup, 1) := by decide +kernel
theorem d_Tt_keep_28 : decode b_Tt_keep 28 = .ok (.invokespecial 23, 3) := by decide +kernel
theorem d_Tt_keep_31 : decode b_Tt_keep 31 = .ok (.astore_n 3, 1) := by decide +kernel
theorem d_Tt_keep_32 : decode b_Tt_keep 32 = .ok (.aload_n 0, 1) := by decide +kernel
theorem d_Tt_keep_33 : decode b_Tt_keep 33 = .ok (.getfield 11, 3) := by decide +kernel
theorem d_Tt_keep_36 : decode b_Tt_keep 36 = .ok (.iload_n 1, 1) := by decide +kernel
theorem d_Tt_keep_37 : decode b_Tt_keep 37 = .ok (.aload_n 3, 1) := by decide +kernel
theorem d_Tt_keep_38 : decode b_Tt_keep 38 = .ok (.aastore, 1) := by decide +kernel
theorem d_Tt_keep_39 : decode b_Tt_keep 39 = .ok (.aload_n 3, 1) := by decide +kernel
theorem d_Tt_keep_40 : decode b_Tt_keep 40 = .ok (.aload_n 2, 1) := by decide +kernel
theorem d_Tt_keep_41 : decode b_Tt_keep 41 = .ok (.getfield 24, 3) := by decide +kernel
theorem d_Tt_keep_44 : decode b_Tt_keep 44 = .ok (.aload_n 2, 1) := by decide +kernel
theorem d_Tt_keep_45 : decode b_Tt_keep 45 = .ok (.getfield 28, 3) := by decide +kernel
theorem d_Tt_keep_48 : decode b_Tt_keep 48 = .ok (.aload_n 2, 1) := by decide +kernel
theorem d_Tt_keep_49 : decode b_Tt_keep 49 = .ok (.getfield 31, 3) := by decide +kernel
theorem d_Tt_keep_52 : decode b_Tt_keep 52 = .ok (.invokevirtual 35, 3) := by decide +kernel
theorem d_Tt_keep_55 : decode b_Tt_keep 55 = .ok (.return_, 1) := by decide +kernel
set_option maxRecDepth 50000 in
theorem lk_518 : Cond.methodLink R_Tt 23 y_Plan_init ∈ lw_good := List.mem_filter.mpr ⟨List.mem_append_right _ (List.mem_of_getElem? (i := 553) (by decide +kernel)), rfl⟩
set_option maxRecDepth 50000 in
theorem lk_519 : Cond.fieldLinkNest R_Tt 31 "WaveOffsets$Plan" "offsets" "[I" "WaveOffsets" ∈ lw_nest := List.mem_filter.mpr ⟨List.mem_append_right _ (List.mem_of_getElem? (i := 151) (by decide +kernel)), rfl⟩
set_option maxRecDepth 50000 in
theorem lk_520 : Cond.methodLink R_Tt 35 y_Plan_set ∈ lw_good := List.mem_filter.mpr ⟨List.mem_append_right _ (List.mem_of_getElem? (i := 554) (by decide +kernel)), rfl⟩
def p_Tt_keep (n : Nat) (x1 : Int32) (v_u2_cycle : Int32) (v_u2_size : Int32) (v_u2_offsets : Nat → Int32) (T : Nat → Option (Int32 × Int32 × (Nat → Int32))) : Option (Nat → Option (Int32 × Int32 × (Nat → Int32))) :=
  (p_WO_within n x1.toInt64 (0 : Int64) (23 : Int64)).bind fun r6_1 =>
  if r6_1 = 0 then
    some T
  else
    if dk_in x1 24 = true then
      (T (x1.toNatClampNeg)).elim (
        (p_Plan_init n (0 : Int32) (0 : Int32) (0 : Int32) (0 : Int32)).bind fun r28_3 =>
        (p_Plan_set n v_u2_cycle v_u2_size v_u2_offsets r28_3.1 r28_3.2.1 r28_3.2.2.2.2).bind fun r52_4 =>
        some (va_up T (x1.toNatClampNeg) (some (r52_4.1, r52_4.2.1, r52_4.2.2)))) (fun h18 =>
        (p_Plan_set n v_u2_cycle v_u2_size v_u2_offsets h18.1 h18.2.1 h18.2.2).bind fun r52_5 =>
        some (va_up T (x1.toNatClampNeg) (some (r52_5.1, r52_5.2.1, r52_5.2.2))))
    else none
abbrev m_Tt_keep : Room := { frames := 2, cells := 2, slots := 10, locals := 40 }
set_option maxHeartbeats 4000000 in
set_option maxRecDepth 100000 in
theorem c_Tt_keep (l : Launch) (G : va_G) (K : Nat → ClassId) (n : Nat) (sz : Nat) (t : Nat) (t_plans : Nat) (u2 : Nat) (u2_offsets : Nat) (P : tpP) (x1 : Int32) (v_u2_cycle : Int32) (v_u2_size : Int32) (v_u2_aim : Int32) (v_u2_sawAll : Int32) (v_u2_offsets : Nat → Int32) (o : Nat → Option (Int32 × Int32 × (Nat → Int32))) (hF : p_Tt_keep n x1 v_u2_cycle v_u2_size v_u2_offsets (tp_T P) = some o) :
    Met l y_Tt_keep (wd y_Tt_keep b_Tt_keep 4 none) m_Tt_keep (dk_Pm [.ref t, .int x1, .ref u2] G K ([(t, .inr (6, [.ref t_plans])), (t_plans, .inl (K 2, 24, .inr (.inr (.inr (.inr (tp_g P)))))), (u2, .inr (2, [.ref u2_offsets, .int v_u2_cycle, .int v_u2_size, .int v_u2_aim, .int v_u2_sawAll])), (u2_offsets, .inl (K 0, 5, .inl v_u2_offsets))] ++ tp_PL K P) sz) (dk_Qm none G (fun u : { Q : tpP // tp_T Q = o } => ([(t, .inr (6, [.ref t_plans])), (t_plans, .inl (K 2, 24, .inr (.inr (.inr (.inr (tp_g u.1)))))), (u2, .inr (2, [.ref u2_offsets, .int v_u2_cycle, .int v_u2_size, .int v_u2_aim, .int v_u2_sawAll])), (u2_offsets, .inl (K 0, 5, .inl v_u2_offsets))] ++ tp_PL K u.1)) (va_A ([(t, .inr (6, [.ref t_plans])), (t_plans, .inl (K 2, 24, .inr (.inr (.inr (.inr (tp_g P)))))), (u2, .inr (2, [.ref u2_offsets, .int v_u2_cycle, .int v_u2_size, .int v_u2_aim, .int v_u2_sawAll])), (u2_offsets, .inl (K 0, 5, .inl v_u2_offsets))] ++ tp_PL K P) sz)) 2 10 (va_A ([(t, .inr (6, [.ref t_plans])), (t_plans, .inl (K 2, 24, .inr (.inr (.inr (.inr (tp_g P)))))), (u2, .inr (2, [.ref u2_offsets, .int v_u2_cycle, .int v_u2_size, .int v_u2_aim, .int v_u2_sawAll])), (u2_offsets, .inl (K 0, 5, .inl v_u2_offsets))] ++ tp_PL K P) sz) := by
  refine Met.ofW (cc := b_Tt_keep) (maxL := 4) (ret := none) (by decide) rfl ?_
  intro p e s m args below meth c s₁ B hml hv
  obtain ⟨rfl, hsz, hP, hK, hN, hD0⟩ := hv
  have hx := B.exec
  have hb := B.bytes
  have hr := B.returns
  have hts : ∀ w ∈ lw_good, w.before _ s = true := fun w h => atoms_spec (ws := wd y_Tt_keep b_Tt_keep 4 none) B.pre w (List.mem_cons_of_mem _ h)
  have hown : s.vm.findClass R_Tt = some m.cls := findClass_of_methodNamed B.named
  have hlocks := B.notSynchronized
  have hfix : CallFix p m c b_Tt_keep 4 s _ lw_good R_Tt := ⟨hx, hb, hml, hown, hts⟩
  subst hsz
  have hD := hD0.self (sz := s.heap.size)
  generalize hAe : va_A ([(t, .inr (6, [.ref t_plans])), (t_plans, .inl (K 2, 24, .inr (.inr (.inr (.inr (tp_g P)))))), (u2, .inr (2, [.ref u2_offsets, .int v_u2_cycle, .int v_u2_size, .int v_u2_aim, .int v_u2_sawAll])), (u2_offsets, .inl (K 0, 5, .inl v_u2_offsets))] ++ tp_PL K P) s.heap.size = A at hD ⊢
  have hA : ∀ q : Nat, s.heap.size ≤ q → A q := fun q h => by rw [← hAe]; exact Or.inr h
  have hS : va_S A s.heap s.heap [] := va_S.rf
  have hl := lv_entry ([.ref t, .int x1, .ref u2]) (n := 4) (Nat.le_of_ble_eq_true rfl)
  rw [lg_entry_eq]
  generalize (lg_sl ([.ref t, .int x1, .ref u2]) ++ List.replicate (4 - (lg_sl ([.ref t, .int x1, .ref u2])).length) Slot.unset).toArray = ls at hl ⊢
  have hl : lv_has ls 4 [(0, .ref t), (1, .int x1), (2, .ref u2)] := hl
  change W p l e m_Tt_keep s m _ below meth c s.heap [] 0 0 _ _
  unfold p_Tt_keep at hF
  refine lv_iload_n hx hb d_Tt_keep_0 rfl (lv_at hl 1 rfl) ?_
  refine lv_i2l hx hb d_Tt_keep_1 rfl ?_
  refine lv_lconst (v := (0 : Int64)) hx hb d_Tt_keep_2 (by decide) ?_
  refine lv_ldc2 (own := R_Tt) (index := 17) (v := (23 : Int64)) hx hb hown (hts _ lk_328) d_Tt_keep_3 ?_
  obtain ⟨r6_1, hC, hF⟩ := dk_b hF
  refine dk_pure (va_runSN (As := [.long x1.toInt64, .long (0 : Int64), .long (23 : Int64)]) (rest := []) hfix (c_WO_within l G K n x1.toInt64 (0 : Int64) (23 : Int64) r6_1 hC) (⟨va_cnB 3 hts (gd_w lk_136) rfl rfl rfl (hN.1 _ lk_329) (hts _ lk_16) (by decide +kernel) ⟨Nat.le_of_ble_eq_true rfl, Nat.le_of_ble_eq_true rfl⟩, hts _ lk_137, trivial⟩) (dk_preS hK hN (hP.sub [] rfl)) rfl rfl hl.1 rfl (lv_room (Nat.le_of_ble_eq_true rfl)) d_Tt_keep_6 ⟨Nat.le_of_ble_eq_true rfl, Nat.le_of_ble_eq_true rfl⟩) ?_
  refine lv_if_ne (tgt := 13) hx hb d_Tt_keep_9 (by decide) (fun c9_2 => ?_) (fun c9_2 => ?_)
  · have hF := dk_f c9_2 hF
    refine lv_aload_n hx hb d_Tt_keep_13 rfl (lv_at hl 0 rfl) ?_
    refine va_get (D := G) (ci := 6) (v := .ref t_plans) (C := R_Tt) (T := F_Tt) (N := 1) hx hb hts i_Tt hown hK hP 0 rfl rfl 0 (by decide) (hts _ lk_327) (fun _ h9 => h9) rfl d_Tt_keep_14 ?_
    refine lv_iload_n hx hb d_Tt_keep_17 rfl (lv_at hl 1 rfl) ?_
    obtain ⟨hi, hF⟩ := dk_a hF
    refine va_aldq (D := G) hx hb hK hP 1 2 rfl rfl (dk_vp hi) d_Tt_keep_18 ?_
    have hlt := dk_lt hi
    cases hPi : P (x1.toNatClampNeg) with
    | none =>
      have hF := tp_n (by simp [tp_T, hPi]) hF
      rw [show tp_g P (x1.toNatClampNeg) = none by simp [tp_g, hPi]]
      refine W.eq (g2 := F0 m 19 ls [.null]) rfl ?_
      have hP : va_P G classes ([(t, .inr (6, [.ref t_plans])), (t_plans, .inl (K 2, 24, .inr (.inr (.inr (.inr (tp_g P)))))), (u2, .inr (2, [.ref u2_offsets, .int v_u2_cycle, .int v_u2_size, .int v_u2_aim, .int v_u2_sawAll])), (u2_offsets, .inl (K 0, 5, .inl v_u2_offsets))] ++ tp_PL K (va_up P (x1.toNatClampNeg) none)) s.heap := by rw [tp_upn hPi]; exact hP
      have hD : va_D A ([(t, .inr (6, [.ref t_plans])), (t_plans, .inl (K 2, 24, .inr (.inr (.inr (.inr (tp_g P)))))), (u2, .inr (2, [.ref u2_offsets, .int v_u2_cycle, .int v_u2_size, .int v_u2_aim, .int v_u2_sawAll])), (u2_offsets, .inl (K 0, 5, .inl v_u2_offsets))] ++ tp_PL K (va_up P (x1.toNatClampNeg) none)) := by rw [tp_upn hPi]; exact hD
      refine lv_astore_nN (lv' := [(3, .null), (0, .ref t), (1, .int x1), (2, .ref u2)]) hx hb d_Tt_keep_19 rfl hl (by decide) rfl (fun ls hl => ?_)
      refine lv_aload_nN hx hb d_Tt_keep_20 rfl (lv_at hl 0 rfl) ?_
      refine lv_ifnonnullN hx hb d_Tt_keep_21 ?_
      refine va_new (D := G) (ci := 2) (fs := [.null, .int (0 : Int32), .int (0 : Int32), .int (0 : Int32), .int (0 : Int32)]) (C := R_Plan) (T := F_Plan) (N := 5) hx hb hts i_Plan t_Plan t_Plan_ok hown (hts _ lk_370) (hts _ lk_401) (hts _ lk_94) hK hP hD hS hA rfl (fun j hj => by rcases (show j = 0 ∨ j = 1 ∨ j = 2 ∨ j = 3 ∨ j = 4 by omega) with rfl | rfl | rfl | rfl | rfl <;> rfl) (Nat.le_of_ble_eq_true rfl) (Nat.le_of_ble_eq_true rfl) d_Tt_keep_24 (fun q24 H hP hD hS => ?_)
      have hP := hP.swap
      have hD := hD.swap
      have hP : va_P G classes ([(t, .inr (6, [.ref t_plans])), (t_plans, .inl (K 2, 24, .inr (.inr (.inr (.inr (tp_g P)))))), (u2, .inr (2, [.ref u2_offsets, .int v_u2_cycle, .int v_u2_size, .int v_u2_aim, .int v_u2_sawAll])), (u2_offsets, .inl (K 0, 5, .inl v_u2_offsets)), (q24, .inr (2, [.null, .int (0 : Int32), .int (0 : Int32), .int (0 : Int32), .int (0 : Int32)]))] ++ tp_PL K (va_up P (x1.toNatClampNeg) none)) H := hP
      have hD : va_D A ([(t, .inr (6, [.ref t_plans])), (t_plans, .inl (K 2, 24, .inr (.inr (.inr (.inr (tp_g P)))))), (u2, .inr (2, [.ref u2_offsets, .int v_u2_cycle, .int v_u2_size, .int v_u2_aim, .int v_u2_sawAll])), (u2_offsets, .inl (K 0, 5, .inl v_u2_offsets)), (q24, .inr (2, [.null, .int (0 : Int32), .int (0 : Int32), .int (0 : Int32), .int (0 : Int32)]))] ++ tp_PL K (va_up P (x1.toNatClampNeg) none)) := hD
      refine lv_dup hx hb d_Tt_keep_27 rfl ?_
      obtain ⟨r28_3, hC, hF⟩ := dk_b hF
      refine dk_mutQv (wr := [(t, .inr (6, [.ref t_plans])), (t_plans, .inl (K 2, 24, .inr (.inr (.inr (.inr (tp_g P)))))), (u2, .inr (2, [.ref u2_offsets, .int v_u2_cycle, .int v_u2_size, .int v_u2_aim, .int v_u2_sawAll])), (u2_offsets, .inl (K 0, 5, .inl v_u2_offsets))]) (va_runI (As := []) (rest := [.ref q24]) hfix (c_Plan_init l G K n H.size q24 (0 : Int32) (0 : Int32) (0 : Int32) (0 : Int32) r28_3 hC) (cwI 0 hts (gd_w lk_403) rfl rfl rfl (hts _ lk_94) (hts _ lk_518) (hts _ lk_404) rfl (by decide +kernel) ⟨Nat.le_of_ble_eq_true rfl, Nat.le_of_ble_eq_true rfl⟩) (dk_preSm hK hN (hP.sub [4] rfl) (hD.sub [4] (by decide) rfl)) rfl rfl hl.1 rfl (lv_room (Nat.le_of_ble_eq_true rfl)) d_Tt_keep_28 ⟨Nat.le_of_ble_eq_true rfl, Nat.le_of_ble_eq_true rfl⟩) hS hA hP hD [4] [0, 1, 2, 3] rfl rfl (by decide) (by decide) (fun u28 H locs hP hD hS => ?_)
      obtain ⟨q24_offsets, rfl⟩ : ∃ z, z = u28 := ⟨_, rfl⟩
      have hP : va_P G classes ([(t, .inr (6, [.ref t_plans])), (t_plans, .inl (K 2, 24, .inr (.inr (.inr (.inr (tp_g P)))))), (u2, .inr (2, [.ref u2_offsets, .int v_u2_cycle, .int v_u2_size, .int v_u2_aim, .int v_u2_sawAll])), (u2_offsets, .inl (K 0, 5, .inl v_u2_offsets)), (q24, .inr (2, [.ref q24_offsets, .int r28_3.1, .int r28_3.2.1, .int r28_3.2.2.1, .int r28_3.2.2.2.1])), (q24_offsets, .inl (K 0, 5, .inl r28_3.2.2.2.2))] ++ tp_PL K (va_up P (x1.toNatClampNeg) none)) H := hP.part [0, 1, 2, 3, 4, 5] rfl
      have hD : va_D A ([(t, .inr (6, [.ref t_plans])), (t_plans, .inl (K 2, 24, .inr (.inr (.inr (.inr (tp_g P)))))), (u2, .inr (2, [.ref u2_offsets, .int v_u2_cycle, .int v_u2_size, .int v_u2_aim, .int v_u2_sawAll])), (u2_offsets, .inl (K 0, 5, .inl v_u2_offsets)), (q24, .inr (2, [.ref q24_offsets, .int r28_3.1, .int r28_3.2.1, .int r28_3.2.2.1, .int r28_3.2.2.2.1])), (q24_offsets, .inl (K 0, 5, .inl r28_3.2.2.2.2))] ++ tp_PL K (va_up P (x1.toNatClampNeg) none)) := hD.part [0, 1, 2, 3, 4, 5] (by decide) rfl
      refine lv_astore_n (lv' := [(3, .ref q24), (0, .ref t), (1, .int x1), (2, .ref u2)]) hx hb d_Tt_keep_31 rfl hl (by decide) rfl (fun ls hl => ?_)
      refine lv_aload_n hx hb d_Tt_keep_32 rfl (lv_at hl 1 rfl) ?_
      refine va_get (D := G) (ci := 6) (v := .ref t_plans) (C := R_Tt) (T := F_Tt) (N := 1) hx hb hts i_Tt hown hK hP 0 rfl rfl 0 (by decide) (hts _ lk_327) (fun _ h9 => h9) rfl d_Tt_keep_33 ?_
      refine lv_iload_n hx hb d_Tt_keep_36 rfl (lv_at hl 2 rfl) ?_
      refine lv_aload_n hx hb d_Tt_keep_37 rfl (lv_at hl 0 rfl) ?_
      refine va_astq (D := G) hx hb hK hP hD hS 1 2 4 2 rfl rfl rfl rfl (dk_vp hi) d_Tt_keep_38 (fun H locs hP hD hS => ?_)
      have hP : va_P G classes ([(t, .inr (6, [.ref t_plans])), (t_plans, .inl (K 2, 24, .inr (.inr (.inr (.inr (va_up (tp_g P) (x1.toNatClampNeg) (some q24))))))), (u2, .inr (2, [.ref u2_offsets, .int v_u2_cycle, .int v_u2_size, .int v_u2_aim, .int v_u2_sawAll])), (u2_offsets, .inl (K 0, 5, .inl v_u2_offsets)), (q24, .inr (2, [.ref q24_offsets, .int r28_3.1, .int r28_3.2.1, .int r28_3.2.2.1, .int r28_3.2.2.2.1])), (q24_offsets, .inl (K 0, 5, .inl r28_3.2.2.2.2))] ++ tp_PL K (va_up P (x1.toNatClampNeg) none)) H := hP
      have hD : va_D A ([(t, .inr (6, [.ref t_plans])), (t_plans, .inl (K 2, 24, .inr (.inr (.inr (.inr (va_up (tp_g P) (x1.toNatClampNeg) (some q24))))))), (u2, .inr (2, [.ref u2_offsets, .int v_u2_cycle, .int v_u2_size, .int v_u2_aim, .int v_u2_sawAll])), (u2_offsets, .inl (K 0, 5, .inl v_u2_offsets)), (q24, .inr (2, [.ref q24_offsets, .int r28_3.1, .int r28_3.2.1, .int r28_3.2.2.1, .int r28_3.2.2.2.1])), (q24_offsets, .inl (K 0, 5, .inl r28_3.2.2.2.2))] ++ tp_PL K (va_up P (x1.toNatClampNeg) none)) := hD
      refine lv_aload_n hx hb d_Tt_keep_39 rfl (lv_at hl 0 rfl) ?_
      refine lv_aload_n hx hb d_Tt_keep_40 rfl (lv_at hl 3 rfl) ?_
      refine va_getN (D := G) (ci := 2) (v := .int v_u2_cycle) (C := R_Plan) (T := F_Plan) (N := 5) hx hb hts i_Plan hown hK hP 2 rfl rfl 1 (by decide) (va_Nw.use rfl (hN.1 _ lk_336)) (fun _ h9 => h9) rfl d_Tt_keep_41 ?_
      refine lv_aload_n hx hb d_Tt_keep_44 rfl (lv_at hl 3 rfl) ?_
      refine va_getN (D := G) (ci := 2) (v := .int v_u2_size) (C := R_Plan) (T := F_Plan) (N := 5) hx hb hts i_Plan hown hK hP 2 rfl rfl 2 (by decide) (va_Nw.use rfl (hN.1 _ lk_331)) (fun _ h9 => h9) rfl d_Tt_keep_45 ?_
      refine lv_aload_n hx hb d_Tt_keep_48 rfl (lv_at hl 3 rfl) ?_
      refine va_getN (D := G) (ci := 2) (v := .ref u2_offsets) (C := R_Plan) (T := F_Plan) (N := 5) hx hb hts i_Plan hown hK hP 2 rfl rfl 0 (by decide) (va_Nw.use rfl (hN.1 _ lk_519)) (fun _ h9 => h9) rfl d_Tt_keep_49 ?_
      obtain ⟨r52_4, hC, hF⟩ := dk_b hF
      refine dk_mutQv (wr := [(t, .inr (6, [.ref t_plans])), (t_plans, .inl (K 2, 24, .inr (.inr (.inr (.inr (va_up (tp_g P) (x1.toNatClampNeg) (some q24))))))), (u2, .inr (2, [.ref u2_offsets, .int v_u2_cycle, .int v_u2_size, .int v_u2_aim, .int v_u2_sawAll]))]) (va_runV (As := [.int v_u2_cycle, .int v_u2_size, .ref u2_offsets]) (rest := []) hfix (c_Plan_set l G K n H.size q24 q24_offsets u2_offsets v_u2_cycle v_u2_size r28_3.1 r28_3.2.1 r28_3.2.2.1 r28_3.2.2.2.1 r28_3.2.2.2.2 v_u2_offsets r52_4 hC) (cwV 3 hts (gd_V lk_520 lk_192 lk_193 lk_94 lk_191) rfl rfl rfl (by decide +kernel) ⟨Nat.le_of_ble_eq_true rfl, Nat.le_of_ble_eq_true rfl⟩) (dk_preVm hK hN (hP.sub [4, 5, 3] rfl) (hD.sub [4, 5, 3] (by decide) rfl) (va_recv hK hP (ci := 2) (q0 := 4) rfl rfl)) rfl rfl hl.1 rfl (lv_room (Nat.le_of_ble_eq_true rfl)) d_Tt_keep_52 ⟨Nat.le_of_ble_eq_true rfl, Nat.le_of_ble_eq_true rfl⟩) hS hA hP hD [4, 5, 3] [0, 1, 2] rfl rfl (by decide) (by decide) (fun _ H locs hP hD hS => ?_)
      have hP : va_P G classes ([(t, .inr (6, [.ref t_plans])), (t_plans, .inl (K 2, 24, .inr (.inr (.inr (.inr (va_up (tp_g P) (x1.toNatClampNeg) (some q24))))))), (u2, .inr (2, [.ref u2_offsets, .int v_u2_cycle, .int v_u2_size, .int v_u2_aim, .int v_u2_sawAll])), (u2_offsets, .inl (K 0, 5, .inl v_u2_offsets)), (q24, .inr (2, [.ref q24_offsets, .int r52_4.1, .int r52_4.2.1, .int r28_3.2.2.1, .int r28_3.2.2.2.1])), (q24_offsets, .inl (K 0, 5, .inl r52_4.2.2))] ++ tp_PL K (va_up P (x1.toNatClampNeg) none)) H := hP.part [0, 1, 2, 5, 3, 4] rfl
      have hD : va_D A ([(t, .inr (6, [.ref t_plans])), (t_plans, .inl (K 2, 24, .inr (.inr (.inr (.inr (va_up (tp_g P) (x1.toNatClampNeg) (some q24))))))), (u2, .inr (2, [.ref u2_offsets, .int v_u2_cycle, .int v_u2_size, .int v_u2_aim, .int v_u2_sawAll])), (u2_offsets, .inl (K 0, 5, .inl v_u2_offsets)), (q24, .inr (2, [.ref q24_offsets, .int r52_4.1, .int r52_4.2.1, .int r28_3.2.2.1, .int r28_3.2.2.2.1])), (q24_offsets, .inl (K 0, 5, .inl r52_4.2.2))] ++ tp_PL K (va_up P (x1.toNatClampNeg) none)) := hD.part [0, 1, 2, 5, 3, 4] (by decide) rfl
      obtain rfl := Option.some.inj hF
      refine W.widen (k := 2) (n := 10) (by decide) (by decide) ?_
      have eg : tp_g (va_up P (x1.toNatClampNeg) (some (q24, q24_offsets, (r52_4.1, r52_4.2.1, r52_4.2.2), r28_3.2.2.1, r28_3.2.2.2.1))) = va_up (tp_g P) (x1.toNatClampNeg) (some q24) := tp_g_up P _ _
      have hpm := tp_back K (P := P) hlt (q24, q24_offsets, (r52_4.1, r52_4.2.1, r52_4.2.2), r28_3.2.2.1, r28_3.2.2.2.1) [(t, .inr (6, [.ref t_plans])), (t_plans, .inl (K 2, 24, .inr (.inr (.inr (.inr (va_up (tp_g P) (x1.toNatClampNeg) (some q24))))))), (u2, .inr (2, [.ref u2_offsets, .int v_u2_cycle, .int v_u2_size, .int v_u2_aim, .int v_u2_sawAll])), (u2_offsets, .inl (K 0, 5, .inl v_u2_offsets))]
      have hP : va_P G classes ([(t, .inr (6, [.ref t_plans])), (t_plans, .inl (K 2, 24, .inr (.inr (.inr (.inr (tp_g (va_up P (x1.toNatClampNeg) (some (q24, q24_offsets, (r52_4.1, r52_4.2.1, r52_4.2.2), r28_3.2.2.1, r28_3.2.2.2.1))))))))), (u2, .inr (2, [.ref u2_offsets, .int v_u2_cycle, .int v_u2_size, .int v_u2_aim, .int v_u2_sawAll])), (u2_offsets, .inl (K 0, 5, .inl v_u2_offsets))] ++ tp_PL K (va_up P (x1.toNatClampNeg) (some (q24, q24_offsets, (r52_4.1, r52_4.2.1, r52_4.2.2), r28_3.2.2.1, r28_3.2.2.2.1)))) H := by rw [eg]; exact hP.perm hpm
      have hD : va_D A ([(t, .inr (6, [.ref t_plans])), (t_plans, .inl (K 2, 24, .inr (.inr (.inr (.inr (tp_g (va_up P (x1.toNatClampNeg) (some (q24, q24_offsets, (r52_4.1, r52_4.2.1, r52_4.2.2), r28_3.2.2.1, r28_3.2.2.2.1))))))))), (u2, .inr (2, [.ref u2_offsets, .int v_u2_cycle, .int v_u2_size, .int v_u2_aim, .int v_u2_sawAll])), (u2_offsets, .inl (K 0, 5, .inl v_u2_offsets))] ++ tp_PL K (va_up P (x1.toNatClampNeg) (some (q24, q24_offsets, (r52_4.1, r52_4.2.1, r52_4.2.2), r28_3.2.2.1, r28_3.2.2.2.1)))) := by rw [eg]; exact hD.perm hpm
      exact W.vret hx hb hr (fun t9 ht hW => ⟨⟨⟨va_up P (x1.toNatClampNeg) (some (q24, q24_offsets, (r52_4.1, r52_4.2.1, r52_4.2.2), r28_3.2.2.1, r28_3.2.2.2.1)), tp_T_up P _ _⟩, rfl, by rw [ht]; exact hP, hD⟩, hS.F ht⟩) hS.2.2 d_Tt_keep_55
    | some z =>
      obtain ⟨h18_a, h18_o, h18, h18_m, h18_w⟩ := z
      have hF := tp_s (y := h18) (by simp [tp_T, hPi]) hF
      rw [show tp_g P (x1.toNatClampNeg) = some h18_a by simp [tp_g, hPi]]
      refine W.eq (g2 := F0 m 19 ls [.ref h18_a]) rfl ?_
      have hpm := tp_front K hlt hPi [(t, .inr (6, [.ref t_plans])), (t_plans, .inl (K 2, 24, .inr (.inr (.inr (.inr (tp_g P)))))), (u2, .inr (2, [.ref u2_offsets, .int v_u2_cycle, .int v_u2_size, .int v_u2_aim, .int v_u2_sawAll])), (u2_offsets, .inl (K 0, 5, .inl v_u2_offsets))]
      have hP : va_P G classes ([(t, .inr (6, [.ref t_plans])), (t_plans, .inl (K 2, 24, .inr (.inr (.inr (.inr (tp_g P)))))), (u2, .inr (2, [.ref u2_offsets, .int v_u2_cycle, .int v_u2_size, .int v_u2_aim, .int v_u2_sawAll])), (u2_offsets, .inl (K 0, 5, .inl v_u2_offsets)), (h18_a, .inr (2, [.ref h18_o, .int h18.1, .int h18.2.1, .int h18_m, .int h18_w])), (h18_o, .inl (K 0, 5, .inl h18.2.2))] ++ tp_PL K (va_up P (x1.toNatClampNeg) none)) s.heap := hP.perm hpm
      have hD : va_D A ([(t, .inr (6, [.ref t_plans])), (t_plans, .inl (K 2, 24, .inr (.inr (.inr (.inr (tp_g P)))))), (u2, .inr (2, [.ref u2_offsets, .int v_u2_cycle, .int v_u2_size, .int v_u2_aim, .int v_u2_sawAll])), (u2_offsets, .inl (K 0, 5, .inl v_u2_offsets)), (h18_a, .inr (2, [.ref h18_o, .int h18.1, .int h18.2.1, .int h18_m, .int h18_w])), (h18_o, .inl (K 0, 5, .inl h18.2.2))] ++ tp_PL K (va_up P (x1.toNatClampNeg) none)) := hD.perm hpm
      refine lv_astore_n (lv' := [(3, .ref h18_a), (0, .ref t), (1, .int x1), (2, .ref u2)]) hx hb d_Tt_keep_19 rfl hl (by decide) rfl (fun ls hl => ?_)
      refine lv_aload_n hx hb d_Tt_keep_20 rfl (lv_at hl 0 rfl) ?_
      refine lv_ifnonnull (tgt := 39) hx hb d_Tt_keep_21 (by decide) ?_
      refine lv_aload_n hx hb d_Tt_keep_39 rfl (lv_at hl 0 rfl) ?_
      refine lv_aload_n hx hb d_Tt_keep_40 rfl (lv_at hl 3 rfl) ?_
      refine va_getN (D := G) (ci := 2) (v := .int v_u2_cycle) (C := R_Plan) (T := F_Plan) (N := 5) hx hb hts i_Plan hown hK hP 2 rfl rfl 1 (by decide) (va_Nw.use rfl (hN.1 _ lk_336)) (fun _ h9 => h9) rfl d_Tt_keep_41 ?_
      refine lv_aload_n hx hb d_Tt_keep_44 rfl (lv_at hl 3 rfl) ?_
      refine va_getN (D := G) (ci := 2) (v := .int v_u2_size) (C := R_Plan) (T := F_Plan) (N := 5) hx hb hts i_Plan hown hK hP 2 rfl rfl 2 (by decide) (va_Nw.use rfl (hN.1 _ lk_331)) (fun _ h9 => h9) rfl d_Tt_keep_45 ?_
      refine lv_aload_n hx hb d_Tt_keep_48 rfl (lv_at hl 3 rfl) ?_
      refine va_getN (D := G) (ci := 2) (v := .ref u2_offsets) (C := R_Plan) (T := F_Plan) (N := 5) hx hb hts i_Plan hown hK hP 2 rfl rfl 0 (by decide) (va_Nw.use rfl (hN.1 _ lk_519)) (fun _ h9 => h9) rfl d_Tt_keep_49 ?_
      obtain ⟨r52_5, hC, hF⟩ := dk_b hF
      refine dk_mutQv (wr := [(t, .inr (6, [.ref t_plans])), (t_plans, .inl (K 2, 24, .inr (.inr (.inr (.inr (tp_g P)))))), (u2, .inr (2, [.ref u2_offsets, .int v_u2_cycle, .int v_u2_size, .int v_u2_aim, .int v_u2_sawAll]))]) (va_runV (As := [.int v_u2_cycle, .int v_u2_size, .ref u2_offsets]) (rest := []) hfix (c_Plan_set l G K n s.heap.size h18_a h18_o u2_offsets v_u2_cycle v_u2_size h18.1 h18.2.1 h18_m h18_w h18.2.2 v_u2_offsets r52_5 hC) (cwV 3 hts (gd_V lk_520 lk_192 lk_193 lk_94 lk_191) rfl rfl rfl (by decide +kernel) ⟨Nat.le_of_ble_eq_true rfl, Nat.le_of_ble_eq_true rfl⟩) (dk_preVm hK hN (hP.sub [4, 5, 3] rfl) (hD.sub [4, 5, 3] (by decide) rfl) (va_recv hK hP (ci := 2) (q0 := 4) rfl rfl)) rfl rfl hl.1 rfl (lv_room (Nat.le_of_ble_eq_true rfl)) d_Tt_keep_52 ⟨Nat.le_of_ble_eq_true rfl, Nat.le_of_ble_eq_true rfl⟩) hS hA hP hD [4, 5, 3] [0, 1, 2] rfl rfl (by decide) (by decide) (fun _ H locs hP hD hS => ?_)
      have hP : va_P G classes ([(t, .inr (6, [.ref t_plans])), (t_plans, .inl (K 2, 24, .inr (.inr (.inr (.inr (tp_g P)))))), (u2, .inr (2, [.ref u2_offsets, .int v_u2_cycle, .int v_u2_size, .int v_u2_aim, .int v_u2_sawAll])), (u2_offsets, .inl (K 0, 5, .inl v_u2_offsets)), (h18_a, .inr (2, [.ref h18_o, .int r52_5.1, .int r52_5.2.1, .int h18_m, .int h18_w])), (h18_o, .inl (K 0, 5, .inl r52_5.2.2))] ++ tp_PL K (va_up P (x1.toNatClampNeg) none)) H := hP.part [0, 1, 2, 5, 3, 4] rfl
      have hD : va_D A ([(t, .inr (6, [.ref t_plans])), (t_plans, .inl (K 2, 24, .inr (.inr (.inr (.inr (tp_g P)))))), (u2, .inr (2, [.ref u2_offsets, .int v_u2_cycle, .int v_u2_size, .int v_u2_aim, .int v_u2_sawAll])), (u2_offsets, .inl (K 0, 5, .inl v_u2_offsets)), (h18_a, .inr (2, [.ref h18_o, .int r52_5.1, .int r52_5.2.1, .int h18_m, .int h18_w])), (h18_o, .inl (K 0, 5, .inl r52_5.2.2))] ++ tp_PL K (va_up P (x1.toNatClampNeg) none)) := hD.part [0, 1, 2, 5, 3, 4] (by decide) rfl
      obtain rfl := Option.some.inj hF
      refine W.widen (k := 2) (n := 10) (by decide) (by decide) ?_
      have eg : tp_g (va_up P (x1.toNatClampNeg) (some (h18_a, h18_o, (r52_5.1, r52_5.2.1, r52_5.2.2), h18_m, h18_w))) = tp_g P := tp_gsame hPi rfl
      have hpm := tp_back K (P := P) hlt (h18_a, h18_o, (r52_5.1, r52_5.2.1, r52_5.2.2), h18_m, h18_w) [(t, .inr (6, [.ref t_plans])), (t_plans, .inl (K 2, 24, .inr (.inr (.inr (.inr (tp_g P)))))), (u2, .inr (2, [.ref u2_offsets, .int v_u2_cycle, .int v_u2_size, .int v_u2_aim, .int v_u2_sawAll])), (u2_offsets, .inl (K 0, 5, .inl v_u2_offsets))]
      have hP : va_P G classes ([(t, .inr (6, [.ref t_plans])), (t_plans, .inl (K 2, 24, .inr (.inr (.inr (.inr (tp_g (va_up P (x1.toNatClampNeg) (some (h18_a, h18_o, (r52_5.1, r52_5.2.1, r52_5.2.2), h18_m, h18_w))))))))), (u2, .inr (2, [.ref u2_offsets, .int v_u2_cycle, .int v_u2_size, .int v_u2_aim, .int v_u2_sawAll])), (u2_offsets, .inl (K 0, 5, .inl v_u2_offsets))] ++ tp_PL K (va_up P (x1.toNatClampNeg) (some (h18_a, h18_o, (r52_5.1, r52_5.2.1, r52_5.2.2), h18_m, h18_w)))) H := by rw [eg]; exact hP.perm hpm
      have hD : va_D A ([(t, .inr (6, [.ref t_plans])), (t_plans, .inl (K 2, 24, .inr (.inr (.inr (.inr (tp_g (va_up P (x1.toNatClampNeg) (some (h18_a, h18_o, (r52_5.1, r52_5.2.1, r52_5.2.2), h18_m, h18_w))))))))), (u2, .inr (2, [.ref u2_offsets, .int v_u2_cycle, .int v_u2_size, .int v_u2_aim, .int v_u2_sawAll])), (u2_offsets, .inl (K 0, 5, .inl v_u2_offsets))] ++ tp_PL K (va_up P (x1.toNatClampNeg) (some (h18_a, h18_o, (r52_5.1, r52_5.2.1, r52_5.2.2), h18_m, h18_w)))) := by rw [eg]; exact hD.perm hpm
      exact W.vret hx hb hr (fun t9 ht hW => ⟨⟨⟨va_up P (x1.toNatClampNeg) (some (h18_a, h18_o, (r52_5.1, r52_5.2.1, r52_5.2.2), h18_m, h18_w)), tp_T_up P _ _⟩, rfl, by rw [ht]; exact hP, hD⟩, hS.F ht⟩) hS.2.2 d_Tt_keep_55
  · have hF := dk_t c9_2 hF
    obtain rfl := Option.some.inj hF
    refine W.widen (k := 2) (n := 10) (by decide) (by decide) ?_
    exact W.vret hx hb hr (fun t9 ht hW => ⟨⟨⟨P, rfl⟩, rfl, by rw [ht]; exact hP, hD⟩, hS.F ht⟩) hS.2.2 d_Tt_keep_12
