theorem d_Band_init_0 : decode b_Band_init 0 = .ok (.aload_n 0, 1) := by decide +kernel
theorem d_Band_init_1 : decode b_Band_init 1 = .ok (.invokespecial 3, 3) := by decide +kernel
theorem d_Band_init_4 : decode b_Band_init 4 = .ok (.aload_n 0, 1) := by decide +kernel
theorem d_Band_init_5 : decode b_Band_init 5 = .ok (.sipush 1200, 3) := by decide +kernel
theorem d_Band_init_8 : decode b_Band_init 8 = .ok (.newarray .long, 2) := by decide +kernel
theorem d_Band_init_10 : decode b_Band_init 10 = .ok (.putfield 9, 3) := by decide +kernel
theorem d_Band_init_13 : decode b_Band_init 13 = .ok (.aload_n 0, 1) := by decide +kernel
theorem d_Band_init_14 : decode b_Band_init 14 = .ok (.sipush 1200, 3) := by decide +kernel
theorem d_Band_init_17 : decode b_Band_init 17 = .ok (.newarray .long, 2) := by decide +kernel
theorem d_Band_init_19 : decode b_Band_init 19 = .ok (.putfield 15, 3) := by decide +kernel
theorem d_Band_init_22 : decode b_Band_init 22 = .ok (.aload_n 0, 1) := by decide +kernel
theorem d_Band_init_23 : decode b_Band_init 23 = .ok (.bipush 10, 2) := by decide +kernel
theorem d_Band_init_25 : decode b_Band_init 25 = .ok (.newarray .long, 2) := by decide +kernel
theorem d_Band_init_27 : decode b_Band_init 27 = .ok (.putfield 18, 3) := by decide +kernel
theorem d_Band_init_30 : decode b_Band_init 30 = .ok (.aload_n 0, 1) := by decide +kernel
theorem d_Band_init_31 : decode b_Band_init 31 = .ok (.bipush 10, 2) := by decide +kernel
theorem d_Band_init_33 : decode b_Band_init 33 = .ok (.newarray .long, 2) := by decide +kernel
theorem d_Band_init_35 : decode b_Band_init 35 = .ok (.putfield 21, 3) := by decide +kernel
theorem d_Band_init_38 : decode b_Band_init 38 = .ok (.aload_n 0, 1) := by decide +kernel
theorem d_Band_init_39 : decode b_Band_init 39 = .ok (.iconst 2, 1) := by decide +kernel
theorem d_Band_init_40 : decode b_Band_init 40 = .ok (.newarray .int, 2) := by decide +kernel
theorem d_Band_init_42 : decode b_Band_init 42 = .ok (.putfield 24, 3) := by decide +kernel
theorem d_Band_init_45 : decode b_Band_init 45 = .ok (.return_, 1) := by decide +kernel
theorem d_Stop_init_0 : decode b_Stop_init 0 = .ok (.aload_n 0, 1) := by decide +kernel
theorem d_Stop_init_1 : decode b_Stop_init 1 = .ok (.invokespecial 3, 3) := by decide +kernel
theorem d_Stop_init_4 : decode b_Stop_init 4 = .ok (.aload_n 0, 1) := by decide +kernel
theorem d_Stop_init_5 : decode b_Stop_init 5 = .ok (.sipush 600, 3) := by decide +kernel
theorem d_Stop_init_8 : decode b_Stop_init 8 = .ok (.newarray .int, 2) := by decide +kernel
theorem d_Stop_init_10 : decode b_Stop_init 10 = .ok (.putfield 9, 3) := by decide +kernel
theorem d_Stop_init_13 : decode b_Stop_init 13 = .ok (.aload_n 0, 1) := by decide +kernel
theorem d_Stop_init_14 : decode b_Stop_init 14 = .ok (.iconst 5, 1) := by decide +kernel
theorem d_Stop_init_15 : decode b_Stop_init 15 = .ok (.newarray .long, 2) := by decide +kernel
theorem d_Stop_init_17 : decode b_Stop_init 17 = .ok (.putfield 15, 3) := by decide +kernel
theorem d_Stop_init_20 : decode b_Stop_init 20 = .ok (.aload_n 0, 1) := by decide +kernel
theorem d_Stop_init_21 : decode b_Stop_init 21 = .ok (.iconst 5, 1) := by decide +kernel
theorem d_Stop_init_22 : decode b_Stop_init 22 = .ok (.newarray .int, 2) := by decide +kernel
theorem d_Stop_init_24 : decode b_Stop_init 24 = .ok (.putfield 19, 3) := by decide +kernel
theorem d_Stop_init_27 : decode b_Stop_init 27 = .ok (.return_, 1) := by decide +kernel
set_option maxRecDepth 50000 in
theorem lk_372 : Cond.methodLinkNest R_Band 3 y_Worth_init "WaveOffsets" ∈ lw_nest := List.mem_filter.mpr ⟨List.mem_append_right _ (List.mem_of_getElem? (i := 70) (by decide +kernel)), rfl⟩
set_option maxRecDepth 50000 in
theorem lk_373 : Cond.code y_Worth_init b_Worth_init 1 none ∈ lw_good := List.mem_filter.mpr ⟨List.mem_append_right _ (List.mem_of_getElem? (i := 72) rfl), rfl⟩
set_option maxRecDepth 50000 in
theorem lk_374 : Cond.initialized R_Worth ∈ lw_good := List.mem_filter.mpr ⟨List.mem_append_right _ (List.mem_of_getElem? (i := 4) (by decide +kernel)), rfl⟩
set_option maxRecDepth 50000 in
theorem lk_375 : Cond.instanceMethod y_Worth_init ∈ lw_good := List.mem_filter.mpr ⟨List.mem_append_right _ (List.mem_of_getElem? (i := 71) (by decide +kernel)), rfl⟩
set_option maxRecDepth 50000 in
theorem lk_376 : Cond.arrayClass .long ∈ lw_good := List.mem_filter.mpr ⟨List.mem_append_right _ (List.mem_of_getElem? (i := 90) (by decide +kernel)), rfl⟩
set_option maxRecDepth 50000 in
theorem lk_377 : Cond.methodLinkNest R_Stop 3 y_Worth_init "WaveOffsets" ∈ lw_nest := List.mem_filter.mpr ⟨List.mem_append_right _ (List.mem_of_getElem? (i := 96) (by decide +kernel)), rfl⟩
def p_Band_init (n : Nat) : Option ((Nat → Int64) × (Nat → Int64) × (Nat → Int64) × (Nat → Int64) × (Nat → Int32)) :=
  (p_Worth_init n).bind fun r1_1 =>
  some (fun _ => 0, fun _ => 0, fun _ => 0, fun _ => 0, fun _ => 0)
abbrev m_Band_init : Room := { frames := 2, cells := 5, slots := 2422, locals := 40 }
set_option maxHeartbeats 4000000 in
set_option maxRecDepth 100000 in
theorem c_Band_init (l : Launch) (G : va_G) (K : Nat → ClassId) (n : Nat) (sz : Nat) (t : Nat) (o : (Nat → Int64) × (Nat → Int64) × (Nat → Int64) × (Nat → Int64) × (Nat → Int32)) (hF : p_Band_init n = some o) :
    Met l y_Band_init (wd y_Band_init b_Band_init 1 none) m_Band_init (dk_Pm [.ref t] G K [(t, .inr (3, [.null, .null, .null, .null, .null]))] sz) (dk_Qm none G (fun u : Nat × Nat × Nat × Nat × Nat => [(t, .inr (3, [.ref u.1, .ref u.2.1, .ref u.2.2.1, .ref u.2.2.2.1, .ref u.2.2.2.2])), (u.1, .inl (K 1, 1200, .inr (.inl o.1))), (u.2.1, .inl (K 1, 1200, .inr (.inl o.2.1))), (u.2.2.1, .inl (K 1, 10, .inr (.inl o.2.2.1))), (u.2.2.2.1, .inl (K 1, 10, .inr (.inl o.2.2.2.1))), (u.2.2.2.2, .inl (K 0, 2, .inl o.2.2.2.2))]) (va_A [(t, .inr (3, [.null, .null, .null, .null, .null]))] sz)) 5 2422 (va_A [(t, .inr (3, [.null, .null, .null, .null, .null]))] sz) := by
  refine Met.ofW (cc := b_Band_init) (maxL := 1) (ret := none) (by decide) rfl ?_
  intro p e s m args below meth c s₁ B hml hv
  obtain ⟨rfl, hsz, hP, hK, hN, hD0⟩ := hv
  have hx := B.exec
  have hb := B.bytes
  have hr := B.returns
  have hts : ∀ w ∈ lw_good, w.before _ s = true := fun w h => atoms_spec (ws := wd y_Band_init b_Band_init 1 none) B.pre w (List.mem_cons_of_mem _ h)
  have hown : s.vm.findClass R_Band = some m.cls := findClass_of_methodNamed B.named
  have hlocks := B.notSynchronized
  have hfix : CallFix p m c b_Band_init 1 s _ lw_good R_Band := ⟨hx, hb, hml, hown, hts⟩
  have hin : meth.name = "<init>" := (name_of_methodNamed B.named B.method).1
  subst hsz
  have hD := hD0.self (sz := s.heap.size)
  generalize hAe : va_A [(t, .inr (3, [.null, .null, .null, .null, .null]))] s.heap.size = A at hD ⊢
  have hA : ∀ q : Nat, s.heap.size ≤ q → A q := fun q h => by rw [← hAe]; exact Or.inr h
  have hS : va_S A s.heap s.heap [] := va_S.rf
  have hl := lv_entry ([.ref t]) (n := 1) (Nat.le_of_ble_eq_true rfl)
  rw [lg_entry_eq]
  generalize (lg_sl ([.ref t]) ++ List.replicate (1 - (lg_sl ([.ref t])).length) Slot.unset).toArray = ls at hl ⊢
  have hl : lv_has ls 1 [(0, .ref t)] := hl
  change W p l e m_Band_init s m _ below meth c s.heap [] 0 0 _ _
  unfold p_Band_init at hF
  refine lv_aload_n hx hb d_Band_init_0 rfl (lv_at hl 0 rfl) ?_
  obtain ⟨r1_1, hC, hF⟩ := dk_b hF
  refine dk_purev (va_runIN (As := []) (rest := []) hfix (c_Worth_init l G K n t r1_1 hC) (⟨va_cnB 0 hts (gd_w lk_373) rfl rfl rfl (hN.1 _ lk_372) (hts _ lk_374) (by decide +kernel) ⟨Nat.le_of_ble_eq_true rfl, Nat.le_of_ble_eq_true rfl⟩, rfl, hts _ lk_375⟩) (dk_preS hK hN (hP.sub [] rfl)) rfl rfl hl.1 rfl (lv_room (Nat.le_of_ble_eq_true rfl)) d_Band_init_1 ⟨Nat.le_of_ble_eq_true rfl, Nat.le_of_ble_eq_true rfl⟩) ?_
  refine lv_aload_n hx hb d_Band_init_4 rfl (lv_at hl 0 rfl) ?_
  refine lv_sipush (v := (1200 : Int32)) hx hb d_Band_init_5 (by decide) ?_
  refine va_newa (D := G) (atype := .long) (ty := .long) (n := (1200 : Int32)) (N' := 1200) (a0 := (1200, .inr (.inl (fun _ => 0)))) hx hb (hts _ lk_376) rfl hK hP hD hS hA (fun _ => rfl) (by decide) (by decide) (by decide) (Nat.le_of_ble_eq_true rfl) (Nat.le_of_ble_eq_true rfl) d_Band_init_8 (fun q8 cA H hK2 hP hD hS => ?_)
  obtain rfl : cA = K 1 := dk_cA hK2 (i := 4) (j := 1) rfl rfl
  have hP : va_P G classes [(t, .inr (3, [.null, .null, .null, .null, .null])), (q8, .inl (K 1, 1200, .inr (.inl (fun _ => 0))))] H := hP
  have hD : va_D A [(t, .inr (3, [.null, .null, .null, .null, .null])), (q8, .inl (K 1, 1200, .inr (.inl (fun _ => 0))))] := hD
  refine va_putF (D := G) (ci := 3) (v := .ref q8) (ty := (.array .long)) (C := R_Band) (T := F_Band) (N := 5) hx hb hts i_Band t_Band t_Band_ok n_Band hown hK hP hD hS 0 rfl rfl 0 (by decide) (hts _ lk_110) (fun _ h9 => h9) rfl hin rfl (by decide +kernel) rfl rfl (Nat.le_of_ble_eq_true rfl) d_Band_init_10 (fun H locs hP hD hS => ?_)
  have hP : va_P G classes [(t, .inr (3, [.ref q8, .null, .null, .null, .null])), (q8, .inl (K 1, 1200, .inr (.inl (fun _ => 0))))] H := hP
  have hD : va_D A [(t, .inr (3, [.ref q8, .null, .null, .null, .null])), (q8, .inl (K 1, 1200, .inr (.inl (fun _ => 0))))] := hD
  refine lv_aload_n hx hb d_Band_init_13 rfl (lv_at hl 0 rfl) ?_
  refine lv_sipush (v := (1200 : Int32)) hx hb d_Band_init_14 (by decide) ?_
  refine va_newa (D := G) (atype := .long) (ty := .long) (n := (1200 : Int32)) (N' := 1200) (a0 := (1200, .inr (.inl (fun _ => 0)))) hx hb (hts _ lk_376) rfl hK hP hD hS hA (fun _ => rfl) (by decide) (by decide) (by decide) (Nat.le_of_ble_eq_true rfl) (Nat.le_of_ble_eq_true rfl) d_Band_init_17 (fun q17 cA H hK2 hP hD hS => ?_)
  obtain rfl : cA = K 1 := dk_cA hK2 (i := 4) (j := 1) rfl rfl
  have hP : va_P G classes [(t, .inr (3, [.ref q8, .null, .null, .null, .null])), (q8, .inl (K 1, 1200, .inr (.inl (fun _ => 0)))), (q17, .inl (K 1, 1200, .inr (.inl (fun _ => 0))))] H := hP
  have hD : va_D A [(t, .inr (3, [.ref q8, .null, .null, .null, .null])), (q8, .inl (K 1, 1200, .inr (.inl (fun _ => 0)))), (q17, .inl (K 1, 1200, .inr (.inl (fun _ => 0))))] := hD
  refine va_putF (D := G) (ci := 3) (v := .ref q17) (ty := (.array .long)) (C := R_Band) (T := F_Band) (N := 5) hx hb hts i_Band t_Band t_Band_ok n_Band hown hK hP hD hS 0 rfl rfl 1 (by decide) (hts _ lk_114) (fun _ h9 => h9) rfl hin rfl (by decide +kernel) rfl rfl (Nat.le_of_ble_eq_true rfl) d_Band_init_19 (fun H locs hP hD hS => ?_)
  have hP : va_P G classes [(t, .inr (3, [.ref q8, .ref q17, .null, .null, .null])), (q8, .inl (K 1, 1200, .inr (.inl (fun _ => 0)))), (q17, .inl (K 1, 1200, .inr (.inl (fun _ => 0))))] H := hP
  have hD : va_D A [(t, .inr (3, [.ref q8, .ref q17, .null, .null, .null])), (q8, .inl (K 1, 1200, .inr (.inl (fun _ => 0)))), (q17, .inl (K 1, 1200, .inr (.inl (fun _ => 0))))] := hD
  refine lv_aload_n hx hb d_Band_init_22 rfl (lv_at hl 0 rfl) ?_
  refine lv_bipush (v := (10 : Int32)) hx hb d_Band_init_23 (by decide) ?_
  refine va_newa (D := G) (atype := .long) (ty := .long) (n := (10 : Int32)) (N' := 10) (a0 := (10, .inr (.inl (fun _ => 0)))) hx hb (hts _ lk_376) rfl hK hP hD hS hA (fun _ => rfl) (by decide) (by decide) (by decide) (Nat.le_of_ble_eq_true rfl) (Nat.le_of_ble_eq_true rfl) d_Band_init_25 (fun q25 cA H hK2 hP hD hS => ?_)
  obtain rfl : cA = K 1 := dk_cA hK2 (i := 4) (j := 1) rfl rfl
  have hP : va_P G classes [(t, .inr (3, [.ref q8, .ref q17, .null, .null, .null])), (q8, .inl (K 1, 1200, .inr (.inl (fun _ => 0)))), (q17, .inl (K 1, 1200, .inr (.inl (fun _ => 0)))), (q25, .inl (K 1, 10, .inr (.inl (fun _ => 0))))] H := hP
  have hD : va_D A [(t, .inr (3, [.ref q8, .ref q17, .null, .null, .null])), (q8, .inl (K 1, 1200, .inr (.inl (fun _ => 0)))), (q17, .inl (K 1, 1200, .inr (.inl (fun _ => 0)))), (q25, .inl (K 1, 10, .inr (.inl (fun _ => 0))))] := hD
  refine va_putF (D := G) (ci := 3) (v := .ref q25) (ty := (.array .long)) (C := R_Band) (T := F_Band) (N := 5) hx hb hts i_Band t_Band t_Band_ok n_Band hown hK hP hD hS 0 rfl rfl 2 (by decide) (hts _ lk_139) (fun _ h9 => h9) rfl hin rfl (by decide +kernel) rfl rfl (Nat.le_of_ble_eq_true rfl) d_Band_init_27 (fun H locs hP hD hS => ?_)
  have hP : va_P G classes [(t, .inr (3, [.ref q8, .ref q17, .ref q25, .null, .null])), (q8, .inl (K 1, 1200, .inr (.inl (fun _ => 0)))), (q17, .inl (K 1, 1200, .inr (.inl (fun _ => 0)))), (q25, .inl (K 1, 10, .inr (.inl (fun _ => 0))))] H := hP
  have hD : va_D A [(t, .inr (3, [.ref q8, .ref q17, .ref q25, .null, .null])), (q8, .inl (K 1, 1200, .inr (.inl (fun _ => 0)))), (q17, .inl (K 1, 1200, .inr (.inl (fun _ => 0)))), (q25, .inl (K 1, 10, .inr (.inl (fun _ => 0))))] := hD
  refine lv_aload_n hx hb d_Band_init_30 rfl (lv_at hl 0 rfl) ?_
  refine lv_bipush (v := (10 : Int32)) hx hb d_Band_init_31 (by decide) ?_
  refine va_newa (D := G) (atype := .long) (ty := .long) (n := (10 : Int32)) (N' := 10) (a0 := (10, .inr (.inl (fun _ => 0)))) hx hb (hts _ lk_376) rfl hK hP hD hS hA (fun _ => rfl) (by decide) (by decide) (by decide) (Nat.le_of_ble_eq_true rfl) (Nat.le_of_ble_eq_true rfl) d_Band_init_33 (fun q33 cA H hK2 hP hD hS => ?_)
  obtain rfl : cA = K 1 := dk_cA hK2 (i := 4) (j := 1) rfl rfl
  have hP : va_P G classes [(t, .inr (3, [.ref q8, .ref q17, .ref q25, .null, .null])), (q8, .inl (K 1, 1200, .inr (.inl (fun _ => 0)))), (q17, .inl (K 1, 1200, .inr (.inl (fun _ => 0)))), (q25, .inl (K 1, 10, .inr (.inl (fun _ => 0)))), (q33, .inl (K 1, 10, .inr (.inl (fun _ => 0))))] H := hP
  have hD : va_D A [(t, .inr (3, [.ref q8, .ref q17, .ref q25, .null, .null])), (q8, .inl (K 1, 1200, .inr (.inl (fun _ => 0)))), (q17, .inl (K 1, 1200, .inr (.inl (fun _ => 0)))), (q25, .inl (K 1, 10, .inr (.inl (fun _ => 0)))), (q33, .inl (K 1, 10, .inr (.inl (fun _ => 0))))] := hD
  refine va_putF (D := G) (ci := 3) (v := .ref q33) (ty := (.array .long)) (C := R_Band) (T := F_Band) (N := 5) hx hb hts i_Band t_Band t_Band_ok n_Band hown hK hP hD hS 0 rfl rfl 3 (by decide) (hts _ lk_140) (fun _ h9 => h9) rfl hin rfl (by decide +kernel) rfl rfl (Nat.le_of_ble_eq_true rfl) d_Band_init_35 (fun H locs hP hD hS => ?_)
  have hP : va_P G classes [(t, .inr (3, [.ref q8, .ref q17, .ref q25, .ref q33, .null])), (q8, .inl (K 1, 1200, .inr (.inl (fun _ => 0)))), (q17, .inl (K 1, 1200, .inr (.inl (fun _ => 0)))), (q25, .inl (K 1, 10, .inr (.inl (fun _ => 0)))), (q33, .inl (K 1, 10, .inr (.inl (fun _ => 0))))] H := hP
  have hD : va_D A [(t, .inr (3, [.ref q8, .ref q17, .ref q25, .ref q33, .null])), (q8, .inl (K 1, 1200, .inr (.inl (fun _ => 0)))), (q17, .inl (K 1, 1200, .inr (.inl (fun _ => 0)))), (q25, .inl (K 1, 10, .inr (.inl (fun _ => 0)))), (q33, .inl (K 1, 10, .inr (.inl (fun _ => 0))))] := hD
  refine lv_aload_n hx hb d_Band_init_38 rfl (lv_at hl 0 rfl) ?_
  refine lv_iconst (v := (2 : Int32)) hx hb d_Band_init_39 (by decide) ?_
  refine va_newa (D := G) (atype := .int) (ty := .int) (n := (2 : Int32)) (N' := 2) (a0 := (2, .inl (fun _ => 0))) hx hb (hts _ lk_366) rfl hK hP hD hS hA (fun _ => rfl) (by decide) (by decide) (by decide) (Nat.le_of_ble_eq_true rfl) (Nat.le_of_ble_eq_true rfl) d_Band_init_40 (fun q40 cA H hK2 hP hD hS => ?_)
  obtain rfl : cA = K 0 := dk_cA hK2 (i := 4) (j := 0) rfl rfl
  have hP : va_P G classes [(t, .inr (3, [.ref q8, .ref q17, .ref q25, .ref q33, .null])), (q8, .inl (K 1, 1200, .inr (.inl (fun _ => 0)))), (q17, .inl (K 1, 1200, .inr (.inl (fun _ => 0)))), (q25, .inl (K 1, 10, .inr (.inl (fun _ => 0)))), (q33, .inl (K 1, 10, .inr (.inl (fun _ => 0)))), (q40, .inl (K 0, 2, .inl (fun _ => 0)))] H := hP
  have hD : va_D A [(t, .inr (3, [.ref q8, .ref q17, .ref q25, .ref q33, .null])), (q8, .inl (K 1, 1200, .inr (.inl (fun _ => 0)))), (q17, .inl (K 1, 1200, .inr (.inl (fun _ => 0)))), (q25, .inl (K 1, 10, .inr (.inl (fun _ => 0)))), (q33, .inl (K 1, 10, .inr (.inl (fun _ => 0)))), (q40, .inl (K 0, 2, .inl (fun _ => 0)))] := hD
  refine va_putF (D := G) (ci := 3) (v := .ref q40) (ty := (.array .int)) (C := R_Band) (T := F_Band) (N := 5) hx hb hts i_Band t_Band t_Band_ok n_Band hown hK hP hD hS 0 rfl rfl 4 (by decide) (hts _ lk_120) (fun _ h9 => h9) rfl hin rfl (by decide +kernel) rfl rfl (Nat.le_of_ble_eq_true rfl) d_Band_init_42 (fun H locs hP hD hS => ?_)
  have hP : va_P G classes [(t, .inr (3, [.ref q8, .ref q17, .ref q25, .ref q33, .ref q40])), (q8, .inl (K 1, 1200, .inr (.inl (fun _ => 0)))), (q17, .inl (K 1, 1200, .inr (.inl (fun _ => 0)))), (q25, .inl (K 1, 10, .inr (.inl (fun _ => 0)))), (q33, .inl (K 1, 10, .inr (.inl (fun _ => 0)))), (q40, .inl (K 0, 2, .inl (fun _ => 0)))] H := hP
  have hD : va_D A [(t, .inr (3, [.ref q8, .ref q17, .ref q25, .ref q33, .ref q40])), (q8, .inl (K 1, 1200, .inr (.inl (fun _ => 0)))), (q17, .inl (K 1, 1200, .inr (.inl (fun _ => 0)))), (q25, .inl (K 1, 10, .inr (.inl (fun _ => 0)))), (q33, .inl (K 1, 10, .inr (.inl (fun _ => 0)))), (q40, .inl (K 0, 2, .inl (fun _ => 0)))] := hD
  obtain rfl := Option.some.inj hF
  exact W.vret hx hb hr (fun t ht hW => ⟨⟨(q8, q17, q25, q33, q40), rfl, by rw [ht]; exact hP.sub [0, 1, 2, 3, 4, 5] rfl, hD.sub [0, 1, 2, 3, 4, 5] (by decide) rfl⟩, hS.F ht⟩) hS.2.2 d_Band_init_45
def p_Stop_init (n : Nat) (v_t_cycle : Int32) (v_t_stepSeconds : Int32) : Option (Int32 × Int32 × (Nat → Int32) × (Nat → Int64) × (Nat → Int32)) :=
  (p_Worth_init n).bind fun r1_1 =>
  some (v_t_cycle, v_t_stepSeconds, fun _ => 0, fun _ => 0, fun _ => 0)
abbrev m_Stop_init : Room := { frames := 2, cells := 3, slots := 610, locals := 40 }
set_option maxHeartbeats 4000000 in
set_option maxRecDepth 100000 in
theorem c_Stop_init (l : Launch) (G : va_G) (K : Nat → ClassId) (n : Nat) (sz : Nat) (t : Nat) (v_t_cycle : Int32) (v_t_stepSeconds : Int32) (o : Int32 × Int32 × (Nat → Int32) × (Nat → Int64) × (Nat → Int32)) (hF : p_Stop_init n v_t_cycle v_t_stepSeconds = some o) :
    Met l y_Stop_init (wd y_Stop_init b_Stop_init 1 none) m_Stop_init (dk_Pm [.ref t] G K [(t, .inr (4, [.null, .null, .null, .int v_t_cycle, .int v_t_stepSeconds]))] sz) (dk_Qm none G (fun u : Nat × Nat × Nat => [(t, .inr (4, [.ref u.1, .ref u.2.1, .ref u.2.2, .int o.1, .int o.2.1])), (u.1, .inl (K 0, 600, .inl o.2.2.1)), (u.2.1, .inl (K 1, 5, .inr (.inl o.2.2.2.1))), (u.2.2, .inl (K 0, 5, .inl o.2.2.2.2))]) (va_A [(t, .inr (4, [.null, .null, .null, .int v_t_cycle, .int v_t_stepSeconds]))] sz)) 3 610 (va_A [(t, .inr (4, [.null, .null, .null, .int v_t_cycle, .int v_t_stepSeconds]))] sz) := by
  refine Met.ofW (cc := b_Stop_init) (maxL := 1) (ret := none) (by decide) rfl ?_
  intro p e s m args below meth c s₁ B hml hv
  obtain ⟨rfl, hsz, hP, hK, hN, hD0⟩ := hv
  have hx := B.exec
  have hb := B.bytes
  have hr := B.returns
  have hts : ∀ w ∈ lw_good, w.before _ s = true := fun w h => atoms_spec (ws := wd y_Stop_init b_Stop_init 1 none) B.pre w (List.mem_cons_of_mem _ h)
  have hown : s.vm.findClass R_Stop = some m.cls := findClass_of_methodNamed B.named
  have hlocks := B.notSynchronized
  have hfix : CallFix p m c b_Stop_init 1 s _ lw_good R_Stop := ⟨hx, hb, hml, hown, hts⟩
  have hin : meth.name = "<init>" := (name_of_methodNamed B.named B.method).1
  subst hsz
  have hD := hD0.self (sz := s.heap.size)
  generalize hAe : va_A [(t, .inr (4, [.null, .null, .null, .int v_t_cycle, .int v_t_stepSeconds]))] s.heap.size = A at hD ⊢
  have hA : ∀ q : Nat, s.heap.size ≤ q → A q := fun q h => by rw [← hAe]; exact Or.inr h
  have hS : va_S A s.heap s.heap [] := va_S.rf
  have hl := lv_entry ([.ref t]) (n := 1) (Nat.le_of_ble_eq_true rfl)
  rw [lg_entry_eq]
  generalize (lg_sl ([.ref t]) ++ List.replicate (1 - (lg_sl ([.ref t])).length) Slot.unset).toArray = ls at hl ⊢
  have hl : lv_has ls 1 [(0, .ref t)] := hl
  change W p l e m_Stop_init s m _ below meth c s.heap [] 0 0 _ _
  unfold p_Stop_init at hF
  refine lv_aload_n hx hb d_Stop_init_0 rfl (lv_at hl 0 rfl) ?_
  obtain ⟨r1_1, hC, hF⟩ := dk_b hF
  refine dk_purev (va_runIN (As := []) (rest := []) hfix (c_Worth_init l G K n t r1_1 hC) (⟨va_cnB 0 hts (gd_w lk_373) rfl rfl rfl (hN.1 _ lk_377) (hts _ lk_374) (by decide +kernel) ⟨Nat.le_of_ble_eq_true rfl, Nat.le_of_ble_eq_true rfl⟩, rfl, hts _ lk_375⟩) (dk_preS hK hN (hP.sub [] rfl)) rfl rfl hl.1 rfl (lv_room (Nat.le_of_ble_eq_true rfl)) d_Stop_init_1 ⟨Nat.le_of_ble_eq_true rfl, Nat.le_of_ble_eq_true rfl⟩) ?_
  refine lv_aload_n hx hb d_Stop_init_4 rfl (lv_at hl 0 rfl) ?_
  refine lv_sipush (v := (600 : Int32)) hx hb d_Stop_init_5 (by decide) ?_
  refine va_newa (D := G) (atype := .int) (ty := .int) (n := (600 : Int32)) (N' := 600) (a0 := (600, .inl (fun _ => 0))) hx hb (hts _ lk_366) rfl hK hP hD hS hA (fun _ => rfl) (by decide) (by decide) (by decide) (Nat.le_of_ble_eq_true rfl) (Nat.le_of_ble_eq_true rfl) d_Stop_init_8 (fun q8 cA H hK2 hP hD hS => ?_)
  obtain rfl : cA = K 0 := dk_cA hK2 (i := 4) (j := 0) rfl rfl
  have hP : va_P G classes [(t, .inr (4, [.null, .null, .null, .int v_t_cycle, .int v_t_stepSeconds])), (q8, .inl (K 0, 600, .inl (fun _ => 0)))] H := hP
  have hD : va_D A [(t, .inr (4, [.null, .null, .null, .int v_t_cycle, .int v_t_stepSeconds])), (q8, .inl (K 0, 600, .inl (fun _ => 0)))] := hD
  refine va_putF (D := G) (ci := 4) (v := .ref q8) (ty := (.array .int)) (C := R_Stop) (T := F_Stop) (N := 5) hx hb hts i_Stop t_Stop t_Stop_ok n_Stop hown hK hP hD hS 0 rfl rfl 0 (by decide) (hts _ lk_149) (fun _ h9 => h9) rfl hin rfl (by decide +kernel) rfl rfl (Nat.le_of_ble_eq_true rfl) d_Stop_init_10 (fun H locs hP hD hS => ?_)
  have hP : va_P G classes [(t, .inr (4, [.ref q8, .null, .null, .int v_t_cycle, .int v_t_stepSeconds])), (q8, .inl (K 0, 600, .inl (fun _ => 0)))] H := hP
  have hD : va_D A [(t, .inr (4, [.ref q8, .null, .null, .int v_t_cycle, .int v_t_stepSeconds])), (q8, .inl (K 0, 600, .inl (fun _ => 0)))] := hD
  refine lv_aload_n hx hb d_Stop_init_13 rfl (lv_at hl 0 rfl) ?_
  refine lv_iconst (v := (5 : Int32)) hx hb d_Stop_init_14 (by decide) ?_
  refine va_newa (D := G) (atype := .long) (ty := .long) (n := (5 : Int32)) (N' := 5) (a0 := (5, .inr (.inl (fun _ => 0)))) hx hb (hts _ lk_376) rfl hK hP hD hS hA (fun _ => rfl) (by decide) (by decide) (by decide) (Nat.le_of_ble_eq_true rfl) (Nat.le_of_ble_eq_true rfl) d_Stop_init_15 (fun q15 cA H hK2 hP hD hS => ?_)
  obtain rfl : cA = K 1 := dk_cA hK2 (i := 4) (j := 1) rfl rfl
  have hP : va_P G classes [(t, .inr (4, [.ref q8, .null, .null, .int v_t_cycle, .int v_t_stepSeconds])), (q8, .inl (K 0, 600, .inl (fun _ => 0))), (q15, .inl (K 1, 5, .inr (.inl (fun _ => 0))))] H := hP
  have hD : va_D A [(t, .inr (4, [.ref q8, .null, .null, .int v_t_cycle, .int v_t_stepSeconds])), (q8, .inl (K 0, 600, .inl (fun _ => 0))), (q15, .inl (K 1, 5, .inr (.inl (fun _ => 0))))] := hD
  refine va_putF (D := G) (ci := 4) (v := .ref q15) (ty := (.array .long)) (C := R_Stop) (T := F_Stop) (N := 5) hx hb hts i_Stop t_Stop t_Stop_ok n_Stop hown hK hP hD hS 0 rfl rfl 1 (by decide) (hts _ lk_159) (fun _ h9 => h9) rfl hin rfl (by decide +kernel) rfl rfl (Nat.le_of_ble_eq_true rfl) d_Stop_init_17 (fun H locs hP hD hS => ?_)
  have hP : va_P G classes [(t, .inr (4, [.ref q8, .ref q15, .null, .int v_t_cycle, .int v_t_stepSeconds])), (q8, .inl (K 0, 600, .inl (fun _ => 0))), (q15, .inl (K 1, 5, .inr (.inl (fun _ => 0))))] H := hP
  have hD : va_D A [(t, .inr (4, [.ref q8, .ref q15, .null, .int v_t_cycle, .int v_t_stepSeconds])), (q8, .inl (K 0, 600, .inl (fun _ => 0))), (q15, .inl (K 1, 5, .inr (.inl (fun _ => 0))))] := hD
  refine lv_aload_n hx hb d_Stop_init_20 rfl (lv_at hl 0 rfl) ?_
  refine lv_iconst (v := (5 : Int32)) hx hb d_Stop_init_21 (by decide) ?_
  refine va_newa (D := G) (atype := .int) (ty := .int) (n := (5 : Int32)) (N' := 5) (a0 := (5, .inl (fun _ => 0))) hx hb (hts _ lk_366) rfl hK hP hD hS hA (fun _ => rfl) (by decide) (by decide) (by decide) (Nat.le_of_ble_eq_true rfl) (Nat.le_of_ble_eq_true rfl) d_Stop_init_22 (fun q22 cA H hK2 hP hD hS => ?_)
  obtain rfl : cA = K 0 := dk_cA hK2 (i := 4) (j := 0) rfl rfl
  have hP : va_P G classes [(t, .inr (4, [.ref q8, .ref q15, .null, .int v_t_cycle, .int v_t_stepSeconds])), (q8, .inl (K 0, 600, .inl (fun _ => 0))), (q15, .inl (K 1, 5, .inr (.inl (fun _ => 0)))), (q22, .inl (K 0, 5, .inl (fun _ => 0)))] H := hP
  have hD : va_D A [(t, .inr (4, [.ref q8, .ref q15, .null, .int v_t_cycle, .int v_t_stepSeconds])), (q8, .inl (K 0, 600, .inl (fun _ => 0))), (q15, .inl (K 1, 5, .inr (.inl (fun _ => 0)))), (q22, .inl (K 0, 5, .inl (fun _ => 0)))] := hD
  refine va_putF (D := G) (ci := 4) (v := .ref q22) (ty := (.array .int)) (C := R_Stop) (T := F_Stop) (N := 5) hx hb hts i_Stop t_Stop t_Stop_ok n_Stop hown hK hP hD hS 0 rfl rfl 2 (by decide) (hts _ lk_156) (fun _ h9 => h9) rfl hin rfl (by decide +kernel) rfl rfl (Nat.le_of_ble_eq_true rfl) d_Stop_init_24 (fun H locs hP hD hS => ?_)
  have hP : va_P G classes [(t, .inr (4, [.ref q8, .ref q15, .ref q22, .int v_t_cycle, .int v_t_stepSeconds])), (q8, .inl (K 0, 600, .inl (fun _ => 0))), (q15, .inl (K 1, 5, .inr (.inl (fun _ => 0)))), (q22, .inl (K 0, 5, .inl (fun _ => 0)))] H := hP
  have hD : va_D A [(t, .inr (4, [.ref q8, .ref q15, .ref q22, .int v_t_cycle, .int v_t_stepSeconds])), (q8, .inl (K 0, 600, .inl (fun _ => 0))), (q15, .inl (K 1, 5, .inr (.inl (fun _ => 0)))), (q22, .inl (K 0, 5, .inl (fun _ => 0)))] := hD
  obtain rfl := Option.some.inj hF
  exact W.vret hx hb hr (fun t ht hW => ⟨⟨(q8, q15, q22), rfl, by rw [ht]; exact hP.sub [0, 1, 2, 3] rfl, hD.sub [0, 1, 2, 3] (by decide) rfl⟩, hS.F ht⟩) hS.2.2 d_Stop_init_27
