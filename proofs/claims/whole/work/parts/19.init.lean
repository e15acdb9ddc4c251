theorem d_Plan_init_0 : decode b_Plan_init 0 = .ok (.aload_n 0, 1) := by decide +kernel
theorem d_Plan_init_1 : decode b_Plan_init 1 = .ok (.invokespecial 3, 3) := by decide +kernel
theorem d_Plan_init_4 : decode b_Plan_init 4 = .ok (.aload_n 0, 1) := by decide +kernel
theorem d_Plan_init_5 : decode b_Plan_init 5 = .ok (.iconst 5, 1) := by decide +kernel
theorem d_Plan_init_6 : decode b_Plan_init 6 = .ok (.newarray .int, 2) := by decide +kernel
theorem d_Plan_init_8 : decode b_Plan_init 8 = .ok (.putfield 9, 3) := by decide +kernel
theorem d_Plan_init_11 : decode b_Plan_init 11 = .ok (.return_, 1) := by decide +kernel
theorem d_Arr_init_0 : decode b_Arr_init 0 = .ok (.aload_n 0, 1) := by decide +kernel
theorem d_Arr_init_1 : decode b_Arr_init 1 = .ok (.invokespecial 3, 3) := by decide +kernel
theorem d_Arr_init_4 : decode b_Arr_init 4 = .ok (.aload_n 0, 1) := by decide +kernel
theorem d_Arr_init_5 : decode b_Arr_init 5 = .ok (.bipush 40, 2) := by decide +kernel
theorem d_Arr_init_7 : decode b_Arr_init 7 = .ok (.newarray .int, 2) := by decide +kernel
theorem d_Arr_init_9 : decode b_Arr_init 9 = .ok (.putfield 9, 3) := by decide +kernel
theorem d_Arr_init_12 : decode b_Arr_init 12 = .ok (.aload_n 0, 1) := by decide +kernel
theorem d_Arr_init_13 : decode b_Arr_init 13 = .ok (.bipush 40, 2) := by decide +kernel
theorem d_Arr_init_15 : decode b_Arr_init 15 = .ok (.newarray .int, 2) := by decide +kernel
theorem d_Arr_init_17 : decode b_Arr_init 17 = .ok (.putfield 15, 3) := by decide +kernel
theorem d_Arr_init_20 : decode b_Arr_init 20 = .ok (.aload_n 0, 1) := by decide +kernel
theorem d_Arr_init_21 : decode b_Arr_init 21 = .ok (.bipush 40, 2) := by decide +kernel
theorem d_Arr_init_23 : decode b_Arr_init 23 = .ok (.newarray .int, 2) := by decide +kernel
theorem d_Arr_init_25 : decode b_Arr_init 25 = .ok (.putfield 18, 3) := by decide +kernel
theorem d_Arr_init_28 : decode b_Arr_init 28 = .ok (.return_, 1) := by decide +kernel
theorem d_Worth_init_0 : decode b_Worth_init 0 = .ok (.aload_n 0, 1) := by decide +kernel
theorem d_Worth_init_1 : decode b_Worth_init 1 = .ok (.invokespecial 1, 3) := by decide +kernel
theorem d_Worth_init_4 : decode b_Worth_init 4 = .ok (.return_, 1) := by decide +kernel
theorem d_Tt_init_0 : decode b_Tt_init 0 = .ok (.aload_n 0, 1) := by decide +kernel
theorem d_Tt_init_1 : decode b_Tt_init 1 = .ok (.invokespecial 3, 3) := by decide +kernel
theorem d_Tt_init_4 : decode b_Tt_init 4 = .ok (.aload_n 0, 1) := by decide +kernel
theorem d_Tt_init_5 : decode b_Tt_init 5 = .ok (.bipush 24, 2) := by decide +kernel
theorem d_Tt_init_7 : decode b_Tt_init 7 = .ok (.anewarray 9, 3) := by decide +kernel
theorem d_Tt_init_10 : decode b_Tt_init 10 = .ok (.putfield 11, 3) := by decide +kernel
theorem d_Tt_init_13 : decode b_Tt_init 13 = .ok (.return_, 1) := by decide +kernel
set_option maxRecDepth 50000 in
theorem lk_363 : Cond.methodLink R_Plan 3 objectInit ∈ lw_good := List.mem_filter.mpr ⟨List.mem_append_right _ (List.mem_of_getElem? (i := 149) (by decide +kernel)), rfl⟩
set_option maxRecDepth 50000 in
theorem lk_364 : Cond.instanceMethod objectInit ∈ lw_good := List.mem_filter.mpr ⟨List.mem_append_right _ (List.mem_of_getElem? (i := 19) (by decide +kernel)), rfl⟩
set_option maxRecDepth 50000 in
theorem lk_365 : Cond.code objectInit ⟨#[0xb1]⟩ 1 none ∈ lw_good := List.mem_filter.mpr ⟨List.mem_append_right _ (List.mem_of_getElem? (i := 20) rfl), rfl⟩
set_option maxRecDepth 50000 in
theorem lk_366 : Cond.arrayClass .int ∈ lw_good := List.mem_filter.mpr ⟨List.mem_append_right _ (List.mem_of_getElem? (i := 58) (by decide +kernel)), rfl⟩
set_option maxRecDepth 50000 in
theorem lk_367 : Cond.methodLink R_Arr 3 objectInit ∈ lw_good := List.mem_filter.mpr ⟨List.mem_append_right _ (List.mem_of_getElem? (i := 191) (by decide +kernel)), rfl⟩
set_option maxRecDepth 50000 in
theorem lk_368 : Cond.methodLink R_Worth 1 objectInit ∈ lw_good := List.mem_filter.mpr ⟨List.mem_append_right _ (List.mem_of_getElem? (i := 73) (by decide +kernel)), rfl⟩
set_option maxRecDepth 50000 in
theorem lk_369 : Cond.methodLink R_Tt 3 objectInit ∈ lw_good := List.mem_filter.mpr ⟨List.mem_append_right _ (List.mem_of_getElem? (i := 179) (by decide +kernel)), rfl⟩
set_option maxRecDepth 50000 in
theorem lk_370 : Cond.classLink R_Tt 9 R_Plan ∈ lw_good := List.mem_filter.mpr ⟨List.mem_append_right _ (List.mem_of_getElem? (i := 180) (by decide +kernel)), rfl⟩
def p_Plan_init (n : Nat) (v_t_cycle : Int32) (v_t_size : Int32) (v_t_aim : Int32) (v_t_sawAll : Int32) : Option (Int32 × Int32 × Int32 × Int32 × (Nat → Int32)) :=
  some (v_t_cycle, v_t_size, v_t_aim, v_t_sawAll, fun _ => 0)
abbrev m_Plan_init : Room := { frames := 1, cells := 1, slots := 5, locals := 20 }
set_option maxHeartbeats 4000000 in
set_option maxRecDepth 100000 in
theorem c_Plan_init (l : Launch) (G : va_G) (K : Nat → ClassId) (n : Nat) (sz : Nat) (t : Nat) (v_t_cycle : Int32) (v_t_size : Int32) (v_t_aim : Int32) (v_t_sawAll : Int32) (o : Int32 × Int32 × Int32 × Int32 × (Nat → Int32)) (hF : p_Plan_init n v_t_cycle v_t_size v_t_aim v_t_sawAll = some o) :
    Met l y_Plan_init (wd y_Plan_init b_Plan_init 1 none) m_Plan_init (dk_Pm [.ref t] G K [(t, .inr (2, [.null, .int v_t_cycle, .int v_t_size, .int v_t_aim, .int v_t_sawAll]))] sz) (dk_Qm none G (fun u : Nat => [(t, .inr (2, [.ref u, .int o.1, .int o.2.1, .int o.2.2.1, .int o.2.2.2.1])), (u, .inl (K 0, 5, .inl o.2.2.2.2))]) (va_A [(t, .inr (2, [.null, .int v_t_cycle, .int v_t_size, .int v_t_aim, .int v_t_sawAll]))] sz)) 1 5 (va_A [(t, .inr (2, [.null, .int v_t_cycle, .int v_t_size, .int v_t_aim, .int v_t_sawAll]))] sz) := by
  refine Met.ofW (cc := b_Plan_init) (maxL := 1) (ret := none) (by decide) rfl ?_
  intro p e s m args below meth c s₁ B hml hv
  obtain ⟨rfl, hsz, hP, hK, hN, hD0⟩ := hv
  have hx := B.exec
  have hb := B.bytes
  have hr := B.returns
  have hts : ∀ w ∈ lw_good, w.before _ s = true := fun w h => atoms_spec (ws := wd y_Plan_init b_Plan_init 1 none) B.pre w (List.mem_cons_of_mem _ h)
  have hown : s.vm.findClass R_Plan = some m.cls := findClass_of_methodNamed B.named
  have hlocks := B.notSynchronized
  have hfix : CallFix p m c b_Plan_init 1 s _ lw_good R_Plan := ⟨hx, hb, hml, hown, hts⟩
  have hin : meth.name = "<init>" := (name_of_methodNamed B.named B.method).1
  subst hsz
  have hD := hD0.self (sz := s.heap.size)
  generalize hAe : va_A [(t, .inr (2, [.null, .int v_t_cycle, .int v_t_size, .int v_t_aim, .int v_t_sawAll]))] s.heap.size = A at hD ⊢
  have hA : ∀ q : Nat, s.heap.size ≤ q → A q := fun q h => by rw [← hAe]; exact Or.inr h
  have hS : va_S A s.heap s.heap [] := va_S.rf
  have hl := lv_entry ([.ref t]) (n := 1) (Nat.le_of_ble_eq_true rfl)
  rw [lg_entry_eq]
  generalize (lg_sl ([.ref t]) ++ List.replicate (1 - (lg_sl ([.ref t])).length) Slot.unset).toArray = ls at hl ⊢
  have hl : lv_has ls 1 [(0, .ref t)] := hl
  change W p l e m_Plan_init s m _ below meth c s.heap [] 0 0 _ _
  unfold p_Plan_init at hF
  refine lv_aload_n hx hb d_Plan_init_0 rfl (lv_at hl 0 rfl) ?_
  refine W.objInit hx hb hown (hts _ lk_363) (hts _ lk_364) (hts _ lk_365) rfl (by rw [hml]; exact hl.1) rfl d_Plan_init_1 (Nat.le_of_ble_eq_true rfl) (Nat.le_of_ble_eq_true rfl) ?_
  refine W.eq (g2 := F0 m 4 ls []) rfl ?_
  refine lv_aload_n hx hb d_Plan_init_4 rfl (lv_at hl 0 rfl) ?_
  refine lv_iconst (v := (5 : Int32)) hx hb d_Plan_init_5 (by decide) ?_
  refine va_newa (D := G) (atype := .int) (ty := .int) (n := (5 : Int32)) (N' := 5) (a0 := (5, .inl (fun _ => 0))) hx hb (hts _ lk_366) rfl hK hP hD hS hA (fun _ => rfl) (by decide) (by decide) (by decide) (Nat.le_of_ble_eq_true rfl) (Nat.le_of_ble_eq_true rfl) d_Plan_init_6 (fun q6 cA H hK2 hP hD hS => ?_)
  obtain rfl : cA = K 0 := dk_cA hK2 (i := 4) (j := 0) rfl rfl
  have hP : va_P G classes [(t, .inr (2, [.null, .int v_t_cycle, .int v_t_size, .int v_t_aim, .int v_t_sawAll])), (q6, .inl (K 0, 5, .inl (fun _ => 0)))] H := hP
  have hD : va_D A [(t, .inr (2, [.null, .int v_t_cycle, .int v_t_size, .int v_t_aim, .int v_t_sawAll])), (q6, .inl (K 0, 5, .inl (fun _ => 0)))] := hD
  refine va_putF (D := G) (ci := 2) (v := .ref q6) (ty := (.array .int)) (C := R_Plan) (T := F_Plan) (N := 5) hx hb hts i_Plan t_Plan t_Plan_ok n_Plan hown hK hP hD hS 0 rfl rfl 0 (by decide) (hts _ lk_82) (fun _ h9 => h9) rfl hin rfl (by decide +kernel) rfl rfl (Nat.le_of_ble_eq_true rfl) d_Plan_init_8 (fun H locs hP hD hS => ?_)
  have hP : va_P G classes [(t, .inr (2, [.ref q6, .int v_t_cycle, .int v_t_size, .int v_t_aim, .int v_t_sawAll])), (q6, .inl (K 0, 5, .inl (fun _ => 0)))] H := hP
  have hD : va_D A [(t, .inr (2, [.ref q6, .int v_t_cycle, .int v_t_size, .int v_t_aim, .int v_t_sawAll])), (q6, .inl (K 0, 5, .inl (fun _ => 0)))] := hD
  obtain rfl := Option.some.inj hF
  exact W.vret hx hb hr (fun t ht hW => ⟨⟨q6, rfl, by rw [ht]; exact hP.sub [0, 1] rfl, hD.sub [0, 1] (by decide) rfl⟩, hS.F ht⟩) hS.2.2 d_Plan_init_11
def p_Arr_init (n : Nat) (v_t_size : Int32) : Option (Int32 × (Nat → Int32) × (Nat → Int32) × (Nat → Int32)) :=
  some (v_t_size, fun _ => 0, fun _ => 0, fun _ => 0)
abbrev m_Arr_init : Room := { frames := 1, cells := 3, slots := 120, locals := 20 }
set_option maxHeartbeats 4000000 in
set_option maxRecDepth 100000 in
theorem c_Arr_init (l : Launch) (G : va_G) (K : Nat → ClassId) (n : Nat) (sz : Nat) (t : Nat) (v_t_size : Int32) (o : Int32 × (Nat → Int32) × (Nat → Int32) × (Nat → Int32)) (hF : p_Arr_init n v_t_size = some o) :
    Met l y_Arr_init (wd y_Arr_init b_Arr_init 1 none) m_Arr_init (dk_Pm [.ref t] G K [(t, .inr (7, [.null, .null, .null, .int v_t_size]))] sz) (dk_Qm none G (fun u : Nat × Nat × Nat => [(t, .inr (7, [.ref u.1, .ref u.2.1, .ref u.2.2, .int o.1])), (u.1, .inl (K 0, 40, .inl o.2.1)), (u.2.1, .inl (K 0, 40, .inl o.2.2.1)), (u.2.2, .inl (K 0, 40, .inl o.2.2.2))]) (va_A [(t, .inr (7, [.null, .null, .null, .int v_t_size]))] sz)) 3 120 (va_A [(t, .inr (7, [.null, .null, .null, .int v_t_size]))] sz) := by
  refine Met.ofW (cc := b_Arr_init) (maxL := 1) (ret := none) (by decide) rfl ?_
  intro p e s m args below meth c s₁ B hml hv
  obtain ⟨rfl, hsz, hP, hK, hN, hD0⟩ := hv
  have hx := B.exec
  have hb := B.bytes
  have hr := B.returns
  have hts : ∀ w ∈ lw_good, w.before _ s = true := fun w h => atoms_spec (ws := wd y_Arr_init b_Arr_init 1 none) B.pre w (List.mem_cons_of_mem _ h)
  have hown : s.vm.findClass R_Arr = some m.cls := findClass_of_methodNamed B.named
  have hlocks := B.notSynchronized
  have hfix : CallFix p m c b_Arr_init 1 s _ lw_good R_Arr := ⟨hx, hb, hml, hown, hts⟩
  have hin : meth.name = "<init>" := (name_of_methodNamed B.named B.method).1
  subst hsz
  have hD := hD0.self (sz := s.heap.size)
  generalize hAe : va_A [(t, .inr (7, [.null, .null, .null, .int v_t_size]))] s.heap.size = A at hD ⊢
  have hA : ∀ q : Nat, s.heap.size ≤ q → A q := fun q h => by rw [← hAe]; exact Or.inr h
  have hS : va_S A s.heap s.heap [] := va_S.rf
  have hl := lv_entry ([.ref t]) (n := 1) (Nat.le_of_ble_eq_true rfl)
  rw [lg_entry_eq]
  generalize (lg_sl ([.ref t]) ++ List.replicate (1 - (lg_sl ([.ref t])).length) Slot.unset).toArray = ls at hl ⊢
  have hl : lv_has ls 1 [(0, .ref t)] := hl
  change W p l e m_Arr_init s m _ below meth c s.heap [] 0 0 _ _
  unfold p_Arr_init at hF
  refine lv_aload_n hx hb d_Arr_init_0 rfl (lv_at hl 0 rfl) ?_
  refine W.objInit hx hb hown (hts _ lk_367) (hts _ lk_364) (hts _ lk_365) rfl (by rw [hml]; exact hl.1) rfl d_Arr_init_1 (Nat.le_of_ble_eq_true rfl) (Nat.le_of_ble_eq_true rfl) ?_
  refine W.eq (g2 := F0 m 4 ls []) rfl ?_
  refine lv_aload_n hx hb d_Arr_init_4 rfl (lv_at hl 0 rfl) ?_
  refine lv_bipush (v := (40 : Int32)) hx hb d_Arr_init_5 (by decide) ?_
  refine va_newa (D := G) (atype := .int) (ty := .int) (n := (40 : Int32)) (N' := 40) (a0 := (40, .inl (fun _ => 0))) hx hb (hts _ lk_366) rfl hK hP hD hS hA (fun _ => rfl) (by decide) (by decide) (by decide) (Nat.le_of_ble_eq_true rfl) (Nat.le_of_ble_eq_true rfl) d_Arr_init_7 (fun q7 cA H hK2 hP hD hS => ?_)
  obtain rfl : cA = K 0 := dk_cA hK2 (i := 4) (j := 0) rfl rfl
  have hP : va_P G classes [(t, .inr (7, [.null, .null, .null, .int v_t_size])), (q7, .inl (K 0, 40, .inl (fun _ => 0)))] H := hP
  have hD : va_D A [(t, .inr (7, [.null, .null, .null, .int v_t_size])), (q7, .inl (K 0, 40, .inl (fun _ => 0)))] := hD
  refine va_putF (D := G) (ci := 7) (v := .ref q7) (ty := (.array .int)) (C := R_Arr) (T := F_Arr) (N := 4) hx hb hts i_Arr t_Arr t_Arr_ok n_Arr hown hK hP hD hS 0 rfl rfl 0 (by decide) (hts _ lk_87) (fun _ h9 => h9) rfl hin rfl (by decide +kernel) rfl rfl (Nat.le_of_ble_eq_true rfl) d_Arr_init_9 (fun H locs hP hD hS => ?_)
  have hP : va_P G classes [(t, .inr (7, [.ref q7, .null, .null, .int v_t_size])), (q7, .inl (K 0, 40, .inl (fun _ => 0)))] H := hP
  have hD : va_D A [(t, .inr (7, [.ref q7, .null, .null, .int v_t_size])), (q7, .inl (K 0, 40, .inl (fun _ => 0)))] := hD
  refine lv_aload_n hx hb d_Arr_init_12 rfl (lv_at hl 0 rfl) ?_
  refine lv_bipush (v := (40 : Int32)) hx hb d_Arr_init_13 (by decide) ?_
  refine va_newa (D := G) (atype := .int) (ty := .int) (n := (40 : Int32)) (N' := 40) (a0 := (40, .inl (fun _ => 0))) hx hb (hts _ lk_366) rfl hK hP hD hS hA (fun _ => rfl) (by decide) (by decide) (by decide) (Nat.le_of_ble_eq_true rfl) (Nat.le_of_ble_eq_true rfl) d_Arr_init_15 (fun q15 cA H hK2 hP hD hS => ?_)
  obtain rfl : cA = K 0 := dk_cA hK2 (i := 4) (j := 0) rfl rfl
  have hP : va_P G classes [(t, .inr (7, [.ref q7, .null, .null, .int v_t_size])), (q7, .inl (K 0, 40, .inl (fun _ => 0))), (q15, .inl (K 0, 40, .inl (fun _ => 0)))] H := hP
  have hD : va_D A [(t, .inr (7, [.ref q7, .null, .null, .int v_t_size])), (q7, .inl (K 0, 40, .inl (fun _ => 0))), (q15, .inl (K 0, 40, .inl (fun _ => 0)))] := hD
  refine va_putF (D := G) (ci := 7) (v := .ref q15) (ty := (.array .int)) (C := R_Arr) (T := F_Arr) (N := 4) hx hb hts i_Arr t_Arr t_Arr_ok n_Arr hown hK hP hD hS 0 rfl rfl 1 (by decide) (hts _ lk_88) (fun _ h9 => h9) rfl hin rfl (by decide +kernel) rfl rfl (Nat.le_of_ble_eq_true rfl) d_Arr_init_17 (fun H locs hP hD hS => ?_)
  have hP : va_P G classes [(t, .inr (7, [.ref q7, .ref q15, .null, .int v_t_size])), (q7, .inl (K 0, 40, .inl (fun _ => 0))), (q15, .inl (K 0, 40, .inl (fun _ => 0)))] H := hP
  have hD : va_D A [(t, .inr (7, [.ref q7, .ref q15, .null, .int v_t_size])), (q7, .inl (K 0, 40, .inl (fun _ => 0))), (q15, .inl (K 0, 40, .inl (fun _ => 0)))] := hD
  refine lv_aload_n hx hb d_Arr_init_20 rfl (lv_at hl 0 rfl) ?_
  refine lv_bipush (v := (40 : Int32)) hx hb d_Arr_init_21 (by decide) ?_
  refine va_newa (D := G) (atype := .int) (ty := .int) (n := (40 : Int32)) (N' := 40) (a0 := (40, .inl (fun _ => 0))) hx hb (hts _ lk_366) rfl hK hP hD hS hA (fun _ => rfl) (by decide) (by decide) (by decide) (Nat.le_of_ble_eq_true rfl) (Nat.le_of_ble_eq_true rfl) d_Arr_init_23 (fun q23 cA H hK2 hP hD hS => ?_)
  obtain rfl : cA = K 0 := dk_cA hK2 (i := 4) (j := 0) rfl rfl
  have hP : va_P G classes [(t, .inr (7, [.ref q7, .ref q15, .null, .int v_t_size])), (q7, .inl (K 0, 40, .inl (fun _ => 0))), (q15, .inl (K 0, 40, .inl (fun _ => 0))), (q23, .inl (K 0, 40, .inl (fun _ => 0)))] H := hP
  have hD : va_D A [(t, .inr (7, [.ref q7, .ref q15, .null, .int v_t_size])), (q7, .inl (K 0, 40, .inl (fun _ => 0))), (q15, .inl (K 0, 40, .inl (fun _ => 0))), (q23, .inl (K 0, 40, .inl (fun _ => 0)))] := hD
  refine va_putF (D := G) (ci := 7) (v := .ref q23) (ty := (.array .int)) (C := R_Arr) (T := F_Arr) (N := 4) hx hb hts i_Arr t_Arr t_Arr_ok n_Arr hown hK hP hD hS 0 rfl rfl 2 (by decide) (hts _ lk_89) (fun _ h9 => h9) rfl hin rfl (by decide +kernel) rfl rfl (Nat.le_of_ble_eq_true rfl) d_Arr_init_25 (fun H locs hP hD hS => ?_)
  have hP : va_P G classes [(t, .inr (7, [.ref q7, .ref q15, .ref q23, .int v_t_size])), (q7, .inl (K 0, 40, .inl (fun _ => 0))), (q15, .inl (K 0, 40, .inl (fun _ => 0))), (q23, .inl (K 0, 40, .inl (fun _ => 0)))] H := hP
  have hD : va_D A [(t, .inr (7, [.ref q7, .ref q15, .ref q23, .int v_t_size])), (q7, .inl (K 0, 40, .inl (fun _ => 0))), (q15, .inl (K 0, 40, .inl (fun _ => 0))), (q23, .inl (K 0, 40, .inl (fun _ => 0)))] := hD
  obtain rfl := Option.some.inj hF
  exact W.vret hx hb hr (fun t ht hW => ⟨⟨(q7, q15, q23), rfl, by rw [ht]; exact hP.sub [0, 1, 2, 3] rfl, hD.sub [0, 1, 2, 3] (by decide) rfl⟩, hS.F ht⟩) hS.2.2 d_Arr_init_28
def p_Worth_init (n : Nat) : Option (Unit) :=
  some ()
abbrev m_Worth_init : Room := { frames := 1, cells := 0, slots := 0, locals := 20 }
set_option maxHeartbeats 4000000 in
set_option maxRecDepth 100000 in
theorem c_Worth_init (l : Launch) (G : va_G) (K : Nat → ClassId) (n : Nat) (t : Nat) (o : Unit) (hF : p_Worth_init n = some o) :
    Met l y_Worth_init (wd y_Worth_init b_Worth_init 1 none) m_Worth_init (dk_Pp [.ref t] G K []) (dk_Qp none) 0 0 (fun _ => False) := by
  refine Met.ofW (cc := b_Worth_init) (maxL := 1) (ret := none) (by decide) rfl ?_
  intro p e s m args below meth c s₁ B hml hv
  obtain ⟨rfl, hP, hK, hN⟩ := hv
  have hx := B.exec
  have hb := B.bytes
  have hr := B.returns
  have hts : ∀ w ∈ lw_good, w.before _ s = true := fun w h => atoms_spec (ws := wd y_Worth_init b_Worth_init 1 none) B.pre w (List.mem_cons_of_mem _ h)
  have hown : s.vm.findClass R_Worth = some m.cls := findClass_of_methodNamed B.named
  have hlocks := B.notSynchronized
  have hfix : CallFix p m c b_Worth_init 1 s _ lw_good R_Worth := ⟨hx, hb, hml, hown, hts⟩
  have hl := lv_entry ([.ref t]) (n := 1) (Nat.le_of_ble_eq_true rfl)
  rw [lg_entry_eq]
  generalize (lg_sl ([.ref t]) ++ List.replicate (1 - (lg_sl ([.ref t])).length) Slot.unset).toArray = ls at hl ⊢
  have hl : lv_has ls 1 [(0, .ref t)] := hl
  change W p l e m_Worth_init s m _ below meth c s.heap [] 0 0 _ _
  unfold p_Worth_init at hF
  refine lv_aload_n hx hb d_Worth_init_0 rfl (lv_at hl 0 rfl) ?_
  refine W.objInit hx hb hown (hts _ lk_368) (hts _ lk_364) (hts _ lk_365) rfl (by rw [hml]; exact hl.1) rfl d_Worth_init_1 (Nat.le_of_ble_eq_true rfl) (Nat.le_of_ble_eq_true rfl) ?_
  refine W.eq (g2 := F0 m 4 ls []) rfl ?_
  obtain rfl := Option.some.inj hF
  exact W.vret hx hb hr (fun t ht hW => ⟨rfl, ht⟩) (fun _ h => by cases h) d_Worth_init_4
def p_Tt_init (n : Nat) : Option ((Nat → Option Nat)) :=
  some (fun _ => none)
abbrev m_Tt_init : Room := { frames := 1, cells := 1, slots := 24, locals := 20 }
set_option maxHeartbeats 4000000 in
set_option maxRecDepth 100000 in
theorem c_Tt_init (l : Launch) (G : va_G) (K : Nat → ClassId) (n : Nat) (sz : Nat) (t : Nat) (o : (Nat → Option Nat)) (hF : p_Tt_init n = some o) :
    Met l y_Tt_init (wd y_Tt_init b_Tt_init 1 none) m_Tt_init (dk_Pm [.ref t] G K [(t, .inr (6, [.null]))] sz) (dk_Qm none G (fun u : Nat => [(t, .inr (6, [.ref u])), (u, .inl (K 2, 24, .inr (.inr (.inr (.inr o)))))]) (va_A [(t, .inr (6, [.null]))] sz)) 1 24 (va_A [(t, .inr (6, [.null]))] sz) := by
  refine Met.ofW (cc := b_Tt_init) (maxL := 1) (ret := none) (by decide) rfl ?_
  intro p e s m args below meth c s₁ B hml hv
  obtain ⟨rfl, hsz, hP, hK, hN, hD0⟩ := hv
  have hx := B.exec
  have hb := B.bytes
  have hr := B.returns
  have hts : ∀ w ∈ lw_good, w.before _ s = true := fun w h => atoms_spec (ws := wd y_Tt_init b_Tt_init 1 none) B.pre w (List.mem_cons_of_mem _ h)
  have hown : s.vm.findClass R_Tt = some m.cls := findClass_of_methodNamed B.named
  have hlocks := B.notSynchronized
  have hfix : CallFix p m c b_Tt_init 1 s _ lw_good R_Tt := ⟨hx, hb, hml, hown, hts⟩
  have hin : meth.name = "<init>" := (name_of_methodNamed B.named B.method).1
  subst hsz
  have hD := hD0.self (sz := s.heap.size)
  generalize hAe : va_A [(t, .inr (6, [.null]))] s.heap.size = A at hD ⊢
  have hA : ∀ q : Nat, s.heap.size ≤ q → A q := fun q h => by rw [← hAe]; exact Or.inr h
  have hS : va_S A s.heap s.heap [] := va_S.rf
  have hl := lv_entry ([.ref t]) (n := 1) (Nat.le_of_ble_eq_true rfl)
  rw [lg_entry_eq]
  generalize (lg_sl ([.ref t]) ++ List.replicate (1 - (lg_sl ([.ref t])).length) Slot.unset).toArray = ls at hl ⊢
  have hl : lv_has ls 1 [(0, .ref t)] := hl
  change W p l e m_Tt_init s m _ below meth c s.heap [] 0 0 _ _
  unfold p_Tt_init at hF
  refine lv_aload_n hx hb d_Tt_init_0 rfl (lv_at hl 0 rfl) ?_
  refine W.objInit hx hb hown (hts _ lk_369) (hts _ lk_364) (hts _ lk_365) rfl (by rw [hml]; exact hl.1) rfl d_Tt_init_1 (Nat.le_of_ble_eq_true rfl) (Nat.le_of_ble_eq_true rfl) ?_
  refine W.eq (g2 := F0 m 4 ls []) rfl ?_
  refine lv_aload_n hx hb d_Tt_init_4 rfl (lv_at hl 0 rfl) ?_
  refine lv_bipush (v := (24 : Int32)) hx hb d_Tt_init_5 (by decide) ?_
  refine va_newq (D := G) (n := (24 : Int32)) (N' := 24) hx hb hown (hts _ lk_370) hN.2 hK hP hD hS hA (by decide) (by decide) (by decide) (Nat.le_of_ble_eq_true rfl) (Nat.le_of_ble_eq_true rfl) d_Tt_init_7 (fun q7 cA H hK2 hP hD hS => ?_)
  obtain rfl : cA = K 2 := dk_cA hK2 (i := 4) (j := 2) rfl rfl
  have hP : va_P G classes [(t, .inr (6, [.null])), (q7, .inl (K 2, 24, .inr (.inr (.inr (.inr (fun _ => none))))))] H := hP
  have hD : va_D A [(t, .inr (6, [.null])), (q7, .inl (K 2, 24, .inr (.inr (.inr (.inr (fun _ => none))))))] := hD
  refine va_putF (D := G) (ci := 6) (v := .ref q7) (ty := (.array (.object "WaveOffsets$Plan"))) (C := R_Tt) (T := F_Tt) (N := 1) hx hb hts i_Tt t_Tt t_Tt_ok n_Tt hown hK hP hD hS 0 rfl rfl 0 (by decide) (hts _ lk_327) (fun _ h9 => h9) rfl hin rfl (by decide +kernel) rfl rfl (Nat.le_of_ble_eq_true rfl) d_Tt_init_10 (fun H locs hP hD hS => ?_)
  have hP : va_P G classes [(t, .inr (6, [.ref q7])), (q7, .inl (K 2, 24, .inr (.inr (.inr (.inr (fun _ => none))))))] H := hP
  have hD : va_D A [(t, .inr (6, [.ref q7])), (q7, .inl (K 2, 24, .inr (.inr (.inr (.inr (fun _ => none))))))] := hD
  obtain rfl := Option.some.inj hF
  exact W.vret hx hb hr (fun t ht hW => ⟨⟨q7, rfl, by rw [ht]; exact hP.sub [0, 1] rfl, hD.sub [0, 1] (by decide) rfl⟩, hS.F ht⟩) hS.2.2 d_Tt_init_13
