theorem d_WO_plan_0 : decode b_WO_plan 0 = .ok (.iload_n 1, 1) := by decide +kernel
theorem d_WO_plan_1 : decode b_WO_plan 1 = .ok (.i2l, 1) := by decide +kernel
theorem d_WO_plan_2 : decode b_WO_plan 2 = .ok (.lconst 0, 1) := by decide +kernel
theorem d_WO_plan_3 : decode b_WO_plan 3 = .ok (.ldc2_w 172, 3) := by decide +kernel
theorem d_WO_plan_6 : decode b_WO_plan 6 = .ok (.invokestatic 48, 3) := by decide +kernel
theorem d_WO_plan_9 : decode b_WO_plan 9 = .ok (.ifCond .eq 13, 3) := by decide +kernel
theorem d_WO_plan_12 : decode b_WO_plan 12 = .ok (.aload_n 0, 1) := by decide +kernel
theorem d_WO_plan_13 : decode b_WO_plan 13 = .ok (.getfield 26, 3) := by decide +kernel
theorem d_WO_plan_16 : decode b_WO_plan 16 = .ok (.invokevirtual 116, 3) := by decide +kernel
theorem d_WO_plan_19 : decode b_WO_plan 19 = .ok (.ifCond .ne 5, 3) := by decide +kernel
theorem d_WO_plan_22 : decode b_WO_plan 22 = .ok (.iconst (-1), 1) := by decide +kernel
theorem d_WO_plan_23 : decode b_WO_plan 23 = .ok (.ireturn, 1) := by decide +kernel
theorem d_WO_plan_24 : decode b_WO_plan 24 = .ok (.aload_n 0, 1) := by decide +kernel
theorem d_WO_plan_25 : decode b_WO_plan 25 = .ok (.getfield 33, 3) := by decide +kernel
theorem d_WO_plan_28 : decode b_WO_plan 28 = .ok (.iload_n 1, 1) := by decide +kernel
theorem d_WO_plan_29 : decode b_WO_plan 29 = .ok (.aload_n 0, 1) := by decide +kernel
theorem d_WO_plan_30 : decode b_WO_plan 30 = .ok (.getfield 26, 3) := by decide +kernel
theorem d_WO_plan_33 : decode b_WO_plan 33 = .ok (.invokevirtual 174, 3) := by decide +kernel
theorem d_WO_plan_36 : decode b_WO_plan 36 = .ok (.aload_n 0, 1) := by decide +kernel
theorem d_WO_plan_37 : decode b_WO_plan 37 = .ok (.getfield 33, 3) := by decide +kernel
theorem d_WO_plan_40 : decode b_WO_plan 40 = .ok (.invokevirtual 178, 3) := by decide +kernel
theorem d_WO_plan_43 : decode b_WO_plan 43 = .ok (.ireturn, 1) := by decide +kernel
set_option maxRecDepth 50000 in
theorem lkp_518 : Cond.constantLong R_WO 172 23 ∈ lw_good := List.mem_filter.mpr ⟨List.mem_append_right _ (List.mem_of_getElem? (i := 546) (by decide +kernel)), rfl⟩
set_option maxRecDepth 50000 in
theorem lkp_519 : Cond.methodLink R_WO 174 y_Tt_keep ∈ lw_good := List.mem_filter.mpr ⟨List.mem_append_right _ (List.mem_of_getElem? (i := 547) (by decide +kernel)), rfl⟩
set_option maxRecDepth 50000 in
theorem lkp_520 : Cond.instanceMethod y_Tt_keep ∈ lw_good := List.mem_filter.mpr ⟨List.mem_append_right _ (List.mem_of_getElem? (i := 548) (by decide +kernel)), rfl⟩
set_option maxRecDepth 50000 in
theorem lkp_521 : Cond.selects R_Tt y_Tt_keep y_Tt_keep ∈ lw_good := List.mem_filter.mpr ⟨List.mem_append_right _ (List.mem_of_getElem? (i := 549) (by decide +kernel)), rfl⟩
set_option maxRecDepth 50000 in
theorem lkp_522 : Cond.code y_Tt_keep b_Tt_keep 4 none ∈ lw_good := List.mem_filter.mpr ⟨List.mem_append_right _ (List.mem_of_getElem? (i := 550) rfl), rfl⟩
def p_WO_plan (n : Nat) (x1 : Int32) (v_t_atHand_cycle : Int32) (v_t_atHand_size : Int32) (v_t_atHand_offsets : Nat → Int32) (T : Nat → Option (Int32 × Int32 × (Nat → Int32))) : Option (Int32 × (Nat → Option (Int32 × Int32 × (Nat → Int32)))) :=
  (p_WO_within n x1.toInt64 (0 : Int64) (23 : Int64)).bind fun r6_1 =>
  if r6_1 = 0 then
    some (((-1) : Int32), T)
  else
    (p_Plan_isMade n v_t_atHand_cycle).bind fun r16_3 =>
    if r16_3 = 0 then
      some (((-1) : Int32), T)
    else
      (p_Tt_keep n x1 v_t_atHand_cycle v_t_atHand_size v_t_atHand_offsets T).bind fun r33_5 =>
      (p_Tt_planned n r33_5).bind fun r40_6 =>
      some (r40_6, r33_5)
abbrev m_WO_plan : Room := { frames := 3, cells := 2, slots := 10, locals := 63 }
set_option maxHeartbeats 4000000 in
set_option maxRecDepth 100000 in
theorem c_WO_plan (l : Launch) (G : va_G) (K : Nat → ClassId) (n : Nat) (sz : Nat) (t : Nat) (t_road : Nat) (t_search : Nat) (t_atHand : Nat) (t_timetable : Nat) (t_arrivals : Nat) (t_atHand_offsets : Nat) (t_timetable_plans : Nat) (P : tpP) (x1 : Int32) (v_t_atHand_cycle : Int32) (v_t_atHand_size : Int32) (v_t_atHand_aim : Int32) (v_t_atHand_sawAll : Int32) (v_t_atHand_offsets : Nat → Int32) (o : Int32 × (Nat → Option (Int32 × Int32 × (Nat → Int32)))) (hF : p_WO_plan n x1 v_t_atHand_cycle v_t_atHand_size v_t_atHand_offsets (tp_T P) = some o) :
    Met l y_WO_plan (wd y_WO_plan b_WO_plan 2 (some .int)) m_WO_plan (dk_Pm [.ref t, .int x1] G K ([(t, .inr (0, [.ref t_road, .ref t_search, .ref t_atHand, .ref t_timetable, .ref t_arrivals])), (t_atHand, .inr (2, [.ref t_atHand_offsets, .int v_t_atHand_cycle, .int v_t_atHand_size, .int v_t_atHand_aim, .int v_t_atHand_sawAll])), (t_atHand_offsets, .inl (K 0, 5, .inl v_t_atHand_offsets)), (t_timetable, .inr (6, [.ref t_timetable_plans])), (t_timetable_plans, .inl (K 2, 24, .inr (.inr (.inr (.inr (tp_g P))))))] ++ tp_PL K P) sz) (dk_Qm (some (.int o.1)) G (fun u : { Q : tpP // tp_T Q = o.2 } => ([(t, .inr (0, [.ref t_road, .ref t_search, .ref t_atHand, .ref t_timetable, .ref t_arrivals])), (t_atHand, .inr (2, [.ref t_atHand_offsets, .int v_t_atHand_cycle, .int v_t_atHand_size, .int v_t_atHand_aim, .int v_t_atHand_sawAll])), (t_atHand_offsets, .inl (K 0, 5, .inl v_t_atHand_offsets)), (t_timetable, .inr (6, [.ref t_timetable_plans])), (t_timetable_plans, .inl (K 2, 24, .inr (.inr (.inr (.inr (tp_g u.1))))))] ++ tp_PL K u.1)) (va_A ([(t, .inr (0, [.ref t_road, .ref t_search, .ref t_atHand, .ref t_timetable, .ref t_arrivals])), (t_atHand, .inr (2, [.ref t_atHand_offsets, .int v_t_atHand_cycle, .int v_t_atHand_size, .int v_t_atHand_aim, .int v_t_atHand_sawAll])), (t_atHand_offsets, .inl (K 0, 5, .inl v_t_atHand_offsets)), (t_timetable, .inr (6, [.ref t_timetable_plans])), (t_timetable_plans, .inl (K 2, 24, .inr (.inr (.inr (.inr (tp_g P))))))] ++ tp_PL K P) sz)) 2 10 (va_A ([(t, .inr (0, [.ref t_road, .ref t_search, .ref t_atHand, .ref t_timetable, .ref t_arrivals])), (t_atHand, .inr (2, [.ref t_atHand_offsets, .int v_t_atHand_cycle, .int v_t_atHand_size, .int v_t_atHand_aim, .int v_t_atHand_sawAll])), (t_atHand_offsets, .inl (K 0, 5, .inl v_t_atHand_offsets)), (t_timetable, .inr (6, [.ref t_timetable_plans])), (t_timetable_plans, .inl (K 2, 24, .inr (.inr (.inr (.inr (tp_g P))))))] ++ tp_PL K P) sz) := by
  refine Met.ofW (cc := b_WO_plan) (maxL := 2) (ret := (some .int)) (by decide) rfl ?_
  intro p e s m args below meth c s₁ B hml hv
  obtain ⟨rfl, hsz, hP, hK, hN, hD0⟩ := hv
  have hx := B.exec
  have hb := B.bytes
  have hr := B.returns
  have hts : ∀ w ∈ lw_good, w.before _ s = true := fun w h => atoms_spec (ws := wd y_WO_plan b_WO_plan 2 (some .int)) B.pre w (List.mem_cons_of_mem _ h)
  have hown : s.vm.findClass R_WO = some m.cls := findClass_of_methodNamed B.named
  have hlocks := B.notSynchronized
  have hfix : CallFix p m c b_WO_plan 2 s _ lw_good R_WO := ⟨hx, hb, hml, hown, hts⟩
  subst hsz
  have hD := hD0.self (sz := s.heap.size)
  generalize hAe : va_A ([(t, .inr (0, [.ref t_road, .ref t_search, .ref t_atHand, .ref t_timetable, .ref t_arrivals])), (t_atHand, .inr (2, [.ref t_atHand_offsets, .int v_t_atHand_cycle, .int v_t_atHand_size, .int v_t_atHand_aim, .int v_t_atHand_sawAll])), (t_atHand_offsets, .inl (K 0, 5, .inl v_t_atHand_offsets)), (t_timetable, .inr (6, [.ref t_timetable_plans])), (t_timetable_plans, .inl (K 2, 24, .inr (.inr (.inr (.inr (tp_g P))))))] ++ tp_PL K P) s.heap.size = A at hD ⊢
  have hA : ∀ q : Nat, s.heap.size ≤ q → A q := fun q h => by rw [← hAe]; exact Or.inr h
  have hS : va_S A s.heap s.heap [] := va_S.rf
  have hl := lv_entry ([.ref t, .int x1]) (n := 2) (Nat.le_of_ble_eq_true rfl)
  rw [lg_entry_eq]
  generalize (lg_sl ([.ref t, .int x1]) ++ List.replicate (2 - (lg_sl ([.ref t, .int x1])).length) Slot.unset).toArray = ls at hl ⊢
  have hl : lv_has ls 2 [(0, .ref t), (1, .int x1)] := hl
  change W p l e m_WO_plan s m _ below meth c s.heap [] 0 0 _ _
  unfold p_WO_plan at hF
  refine lv_iload_n hx hb d_WO_plan_0 rfl (lv_at hl 1 rfl) ?_
  refine lv_i2l hx hb d_WO_plan_1 rfl ?_
  refine lv_lconst (v := (0 : Int64)) hx hb d_WO_plan_2 (by decide) ?_
  refine lv_ldc2 (own := R_WO) (index := 172) (v := (23 : Int64)) hx hb hown (hts _ lkp_518) d_WO_plan_3 ?_
  obtain ⟨r6_1, hC, hF⟩ := dk_b hF
  refine dk_pure (va_runS (As := [.long x1.toInt64, .long (0 : Int64), .long (23 : Int64)]) (rest := []) hfix (c_WO_within l G K n x1.toInt64 (0 : Int64) (23 : Int64) r6_1 hC) (va_cwS 3 hts (gd_S lk_242 lk_137 lk_16 lk_136) rfl rfl rfl (by decide +kernel) ⟨Nat.le_of_ble_eq_true rfl, Nat.le_of_ble_eq_true rfl⟩) (dk_preS hK hN (hP.sub [] rfl)) rfl rfl hl.1 rfl (lv_room (Nat.le_of_ble_eq_true rfl)) d_WO_plan_6 ⟨Nat.le_of_ble_eq_true rfl, Nat.le_of_ble_eq_true rfl⟩) ?_
  refine lv_if_eq (tgt := 22) hx hb d_WO_plan_9 (by decide) (fun c9_2 => ?_) (fun c9_2 => ?_)
  · have hF := dk_t c9_2 hF
    refine lv_iconst (v := ((-1) : Int32)) hx hb d_WO_plan_22 (by decide) ?_
    obtain rfl := Option.some.inj hF
    refine W.widen (k := 2) (n := 10) (by decide) (by decide) ?_
    exact W.iret (v := ((-1) : Int32)) hx hb hr (fun t9 ht hW => ⟨⟨⟨P, rfl⟩, rfl, by rw [ht]; exact hP, hD⟩, hS.F ht⟩) hS.2.2 d_WO_plan_23
  · have hF := dk_f c9_2 hF
    refine lv_aload_n hx hb d_WO_plan_12 rfl (lv_at hl 0 rfl) ?_
    refine va_get (D := G) (ci := 0) (v := .ref t_atHand) (C := R_WO) (T := F_WO) (N := 5) hx hb hts i_WO hown hK hP 0 rfl rfl 2 (by decide) (hts _ lk_230) (fun _ h9 => h9) rfl d_WO_plan_13 ?_
    obtain ⟨r16_3, hC, hF⟩ := dk_b hF
    refine dk_pure (va_runV (As := []) (rest := []) hfix (c_Plan_isMade l G K n t_atHand t_atHand_offsets v_t_atHand_cycle v_t_atHand_size v_t_atHand_aim v_t_atHand_sawAll r16_3 hC) (cwV 0 hts (gd_V lk_231 lk_162 lk_163 lk_94 lk_161) rfl rfl rfl (by decide +kernel) ⟨Nat.le_of_ble_eq_true rfl, Nat.le_of_ble_eq_true rfl⟩) (dk_preV hK hN (hP.sub [1] rfl) (va_recv hK hP (ci := 2) (q0 := 1) rfl rfl)) rfl rfl hl.1 rfl (lv_room (Nat.le_of_ble_eq_true rfl)) d_WO_plan_16 ⟨Nat.le_of_ble_eq_true rfl, Nat.le_of_ble_eq_true rfl⟩) ?_
    refine lv_if_ne (tgt := 24) hx hb d_WO_plan_19 (by decide) (fun c19_4 => ?_) (fun c19_4 => ?_)
    · have hF := dk_f c19_4 hF
      refine lv_aload_n hx hb d_WO_plan_24 rfl (lv_at hl 0 rfl) ?_
      refine va_get (D := G) (ci := 0) (v := .ref t_timetable) (C := R_WO) (T := F_WO) (N := 5) hx hb hts i_WO hown hK hP 0 rfl rfl 3 (by decide) (hts _ lk_350) (fun _ h9 => h9) rfl d_WO_plan_25 ?_
      refine lv_iload_n hx hb d_WO_plan_28 rfl (lv_at hl 1 rfl) ?_
      refine lv_aload_n hx hb d_WO_plan_29 rfl (lv_at hl 0 rfl) ?_
      refine va_get (D := G) (ci := 0) (v := .ref t_atHand) (C := R_WO) (T := F_WO) (N := 5) hx hb hts i_WO hown hK hP 0 rfl rfl 2 (by decide) (hts _ lk_230) (fun _ h9 => h9) rfl d_WO_plan_30 ?_
      obtain ⟨r33_5, hC, hF⟩ := dk_b hF
      refine dk_mutPK (v := none) (rx := fun u : { Q : tpP // tp_T Q = r33_5 } => [(t_timetable, .inr (6, [.ref t_timetable_plans])), (t_timetable_plans, .inl (K 2, 24, .inr (.inr (.inr (.inr (tp_g u.1)))))), (t_atHand, .inr (2, [.ref t_atHand_offsets, .int v_t_atHand_cycle, .int v_t_atHand_size, .int v_t_atHand_aim, .int v_t_atHand_sawAll])), (t_atHand_offsets, .inl (K 0, 5, .inl v_t_atHand_offsets))]) (pl1 := fun u : { Q : tpP // tp_T Q = r33_5 } => tp_PL K u.1) (wr := [(t, .inr (0, [.ref t_road, .ref t_search, .ref t_atHand, .ref t_timetable, .ref t_arrivals]))]) (va_runV (As := [.int x1, .ref t_atHand]) (rest := []) hfix (c_Tt_keep l G K n s.heap.size t_timetable t_timetable_plans t_atHand t_atHand_offsets P x1 v_t_atHand_cycle v_t_atHand_size v_t_atHand_aim v_t_atHand_sawAll v_t_atHand_offsets r33_5 hC) (cwV 2 hts (gd_V lkp_519 lkp_520 lkp_521 lk_341 lkp_522) rfl rfl rfl (by decide +kernel) ⟨Nat.le_of_ble_eq_true rfl, Nat.le_of_ble_eq_true rfl⟩) (dk_preVm hK hN (hP.part [3, 4, 1, 2] rfl) (hD.part [3, 4, 1, 2] (by decide) rfl) (va_recv hK hP (ci := 6) (q0 := 3) rfl rfl)) rfl rfl hl.1 rfl (lv_room (Nat.le_of_ble_eq_true rfl)) d_WO_plan_33 ⟨Nat.le_of_ble_eq_true rfl, Nat.le_of_ble_eq_true rfl⟩) hS hA hP hD [3, 4, 1, 2] [0] rfl rfl (by decide) (by decide) (fun u H locs hP hD hS => ?_)
      obtain ⟨P2, hu⟩ := u
      refine W.eq (g2 := F0 m 36 ls []) rfl ?_
      have hP : va_P G classes ([(t, .inr (0, [.ref t_road, .ref t_search, .ref t_atHand, .ref t_timetable, .ref t_arrivals])), (t_atHand, .inr (2, [.ref t_atHand_offsets, .int v_t_atHand_cycle, .int v_t_atHand_size, .int v_t_atHand_aim, .int v_t_atHand_sawAll])), (t_atHand_offsets, .inl (K 0, 5, .inl v_t_atHand_offsets)), (t_timetable, .inr (6, [.ref t_timetable_plans])), (t_timetable_plans, .inl (K 2, 24, .inr (.inr (.inr (.inr (tp_g P2))))))] ++ tp_PL K P2) H := hP.part [0, 3, 4, 1, 2] rfl
      have hD : va_D A ([(t, .inr (0, [.ref t_road, .ref t_search, .ref t_atHand, .ref t_timetable, .ref t_arrivals])), (t_atHand, .inr (2, [.ref t_atHand_offsets, .int v_t_atHand_cycle, .int v_t_atHand_size, .int v_t_atHand_aim, .int v_t_atHand_sawAll])), (t_atHand_offsets, .inl (K 0, 5, .inl v_t_atHand_offsets)), (t_timetable, .inr (6, [.ref t_timetable_plans])), (t_timetable_plans, .inl (K 2, 24, .inr (.inr (.inr (.inr (tp_g P2))))))] ++ tp_PL K P2) := hD.part [0, 3, 4, 1, 2] (by decide) rfl
      refine lv_aload_n hx hb d_WO_plan_36 rfl (lv_at hl 0 rfl) ?_
      refine va_get (D := G) (ci := 0) (v := .ref t_timetable) (C := R_WO) (T := F_WO) (N := 5) hx hb hts i_WO hown hK hP 0 rfl rfl 3 (by decide) (hts _ lk_350) (fun _ h9 => h9) rfl d_WO_plan_37 ?_
      obtain ⟨r40_6, hC, hF⟩ := dk_b hF
      refine dk_pure (va_runV (As := []) (rest := []) hfix (c_Tt_planned l G K n t_timetable t_timetable_plans (tp_g P2) (tp_T P2) (tp_PL K P2) (tp_of K P2) r40_6 (by rw [hu]; exact hC)) (cwV 0 hts (gd_V lk_361 lk_339 lk_340 lk_341 lk_338) rfl rfl rfl (by decide +kernel) ⟨Nat.le_of_ble_eq_true rfl, Nat.le_of_ble_eq_true rfl⟩) (dk_preV hK hN (hP.part [3, 4] rfl) (va_recv hK hP (ci := 6) (q0 := 3) rfl rfl)) rfl rfl hl.1 rfl (lv_room (Nat.le_of_ble_eq_true rfl)) d_WO_plan_40 ⟨Nat.le_of_ble_eq_true rfl, Nat.le_of_ble_eq_true rfl⟩) ?_
      obtain rfl := Option.some.inj hF
      refine W.widen (k := 2) (n := 10) (by decide) (by decide) ?_
      exact W.iret (v := r40_6) hx hb hr (fun t9 ht hW => ⟨⟨⟨P2, hu⟩, rfl, by rw [ht]; exact hP, hD⟩, hS.F ht⟩) hS.2.2 d_WO_plan_43
    · have hF := dk_t c19_4 hF
      refine lv_iconst (v := ((-1) : Int32)) hx hb d_WO_plan_22 (by decide) ?_
      obtain rfl := Option.some.inj hF
      refine W.widen (k := 2) (n := 10) (by decide) (by decide) ?_
      exact W.iret (v := ((-1) : Int32)) hx hb hr (fun t9 ht hW => ⟨⟨⟨P, rfl⟩, rfl, by rw [ht]; exact hP, hD⟩, hS.F ht⟩) hS.2.2 d_WO_plan_23
