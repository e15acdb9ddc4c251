theorem d_Road_init_0 : decode b_Road_init 0 = .ok (.aload_n 0, 1) := by decide +kernel
theorem d_Road_init_1 : decode b_Road_init 1 = .ok (.invokespecial 3, 3) := by decide +kernel
theorem d_Road_init_4 : decode b_Road_init 4 = .ok (.aload_n 0, 1) := by decide +kernel
theorem d_Road_init_5 : decode b_Road_init 5 = .ok (.iconst 5, 1) := by decide +kernel
theorem d_Road_init_6 : decode b_Road_init 6 = .ok (.newarray .int, 2) := by decide +kernel
theorem d_Road_init_8 : decode b_Road_init 8 = .ok (.putfield 9, 3) := by decide +kernel
theorem d_Road_init_11 : decode b_Road_init 11 = .ok (.aload_n 0, 1) := by decide +kernel
theorem d_Road_init_12 : decode b_Road_init 12 = .ok (.iconst 5, 1) := by decide +kernel
theorem d_Road_init_13 : decode b_Road_init 13 = .ok (.newarray .int, 2) := by decide +kernel
theorem d_Road_init_15 : decode b_Road_init 15 = .ok (.putfield 15, 3) := by decide +kernel
theorem d_Road_init_18 : decode b_Road_init 18 = .ok (.aload_n 0, 1) := by decide +kernel
theorem d_Road_init_19 : decode b_Road_init 19 = .ok (.iconst 5, 1) := by decide +kernel
theorem d_Road_init_20 : decode b_Road_init 20 = .ok (.newarray .int, 2) := by decide +kernel
theorem d_Road_init_22 : decode b_Road_init 22 = .ok (.putfield 18, 3) := by decide +kernel
theorem d_Road_init_25 : decode b_Road_init 25 = .ok (.aload_n 0, 1) := by decide +kernel
theorem d_Road_init_26 : decode b_Road_init 26 = .ok (.bipush 10, 2) := by decide +kernel
theorem d_Road_init_28 : decode b_Road_init 28 = .ok (.newarray .int, 2) := by decide +kernel
theorem d_Road_init_30 : decode b_Road_init 30 = .ok (.putfield 21, 3) := by decide +kernel
theorem d_Road_init_33 : decode b_Road_init 33 = .ok (.aload_n 0, 1) := by decide +kernel
theorem d_Road_init_34 : decode b_Road_init 34 = .ok (.bipush 10, 2) := by decide +kernel
theorem d_Road_init_36 : decode b_Road_init 36 = .ok (.newarray .int, 2) := by decide +kernel
theorem d_Road_init_38 : decode b_Road_init 38 = .ok (.putfield 24, 3) := by decide +kernel
theorem d_Road_init_41 : decode b_Road_init 41 = .ok (.iconst 0, 1) := by decide +kernel
theorem d_Road_init_42 : decode b_Road_init 42 = .ok (.istore_n 1, 1) := by decide +kernel
theorem d_Road_init_43 : decode b_Road_init 43 = .ok (.iload_n 1, 1) := by decide +kernel
theorem d_Road_init_44 : decode b_Road_init 44 = .ok (.aload_n 0, 1) := by decide +kernel
theorem d_Road_init_45 : decode b_Road_init 45 = .ok (.getfield 21, 3) := by decide +kernel
theorem d_Road_init_48 : decode b_Road_init 48 = .ok (.arraylength, 1) := by decide +kernel
theorem d_Road_init_49 : decode b_Road_init 49 = .ok (.if_icmp .ge 16, 3) := by decide +kernel
theorem d_Road_init_52 : decode b_Road_init 52 = .ok (.aload_n 0, 1) := by decide +kernel
theorem d_Road_init_53 : decode b_Road_init 53 = .ok (.getfield 21, 3) := by decide +kernel
theorem d_Road_init_56 : decode b_Road_init 56 = .ok (.iload_n 1, 1) := by decide +kernel
theorem d_Road_init_57 : decode b_Road_init 57 = .ok (.iconst 1, 1) := by decide +kernel
theorem d_Road_init_58 : decode b_Road_init 58 = .ok (.iastore, 1) := by decide +kernel
theorem d_Road_init_59 : decode b_Road_init 59 = .ok (.iinc 1 1, 3) := by decide +kernel
theorem d_Road_init_62 : decode b_Road_init 62 = .ok (.goto (-19), 3) := by decide +kernel
theorem d_Road_init_65 : decode b_Road_init 65 = .ok (.aload_n 0, 1) := by decide +kernel
theorem d_Road_init_66 : decode b_Road_init 66 = .ok (.bipush 10, 2) := by decide +kernel
theorem d_Road_init_68 : decode b_Road_init 68 = .ok (.putfield 27, 3) := by decide +kernel
theorem d_Road_init_71 : decode b_Road_init 71 = .ok (.aload_n 0, 1) := by decide +kernel
theorem d_Road_init_72 : decode b_Road_init 72 = .ok (.bipush 120, 2) := by decide +kernel
theorem d_Road_init_74 : decode b_Road_init 74 = .ok (.putfield 31, 3) := by decide +kernel
theorem d_Road_init_77 : decode b_Road_init 77 = .ok (.aload_n 0, 1) := by decide +kernel
theorem d_Road_init_78 : decode b_Road_init 78 = .ok (.bipush 10, 2) := by decide +kernel
theorem d_Road_init_80 : decode b_Road_init 80 = .ok (.putfield 34, 3) := by decide +kernel
theorem d_Road_init_83 : decode b_Road_init 83 = .ok (.aload_n 0, 1) := by decide +kernel
theorem d_Road_init_84 : decode b_Road_init 84 = .ok (.iconst 5, 1) := by decide +kernel
theorem d_Road_init_85 : decode b_Road_init 85 = .ok (.putfield 37, 3) := by decide +kernel
theorem d_Road_init_88 : decode b_Road_init 88 = .ok (.return_, 1) := by decide +kernel
set_option maxRecDepth 50000 in
theorem lk_371 : Cond.methodLink R_Road 3 objectInit ∈ lw_good := List.mem_filter.mpr ⟨List.mem_append_right _ (List.mem_of_getElem? (i := 26) (by decide +kernel)), rfl⟩
def p_Road_init_43 (n : Nat) : Nat → Int32 → (Nat → Int32) → Option ((Nat → Int32))
  | 0, _, _ => none
  | k + 1, z1, v_q28 =>
    if (10 : Int32) ≤ z1 then
      some v_q28
    else
      if dk_in z1 10 = true then
        p_Road_init_43 n k (z1 + (1 : Int32)) (upd v_q28 z1.toNatClampNeg (1 : Int32))
      else none
theorem q_Road_init_43 (n k : Nat) (z1 : Int32) (v_q28 : Nat → Int32) : p_Road_init_43 n (k + 1) z1 v_q28 =
    if (10 : Int32) ≤ z1 then
      some v_q28
    else
      if dk_in z1 10 = true then
        p_Road_init_43 n k (z1 + (1 : Int32)) (upd v_q28 z1.toNatClampNeg (1 : Int32))
      else none := rfl
def p_Road_init (n : Nat) (v_t_size : Int32) (v_t_firstCycle : Int32) (v_t_lastCycle : Int32) (v_t_cycleBy : Int32) (v_t_stepSeconds : Int32) : Option (Int32 × Int32 × Int32 × Int32 × Int32 × (Nat → Int32) × (Nat → Int32) × (Nat → Int32) × (Nat → Int32) × (Nat → Int32)) :=
  (p_Road_init_43 n n (0 : Int32) (fun _ => 0)).bind fun q43_2 =>
  some (v_t_size, (10 : Int32), (120 : Int32), (10 : Int32), (5 : Int32), fun _ => 0, fun _ => 0, fun _ => 0, q43_2, fun _ => 0)
abbrev m_Road_init : Room := { frames := 1, cells := 5, slots := 35, locals := 20 }
set_option maxHeartbeats 4000000 in
set_option maxRecDepth 100000 in
theorem c_Road_init (l : Launch) (G : va_G) (K : Nat → ClassId) (n : Nat) (sz : Nat) (t : Nat) (v_t_size : Int32) (v_t_firstCycle : Int32) (v_t_lastCycle : Int32) (v_t_cycleBy : Int32) (v_t_stepSeconds : Int32) (o : Int32 × Int32 × Int32 × Int32 × Int32 × (Nat → Int32) × (Nat → Int32) × (Nat → Int32) × (Nat → Int32) × (Nat → Int32)) (hF : p_Road_init n v_t_size v_t_firstCycle v_t_lastCycle v_t_cycleBy v_t_stepSeconds = some o) :
    Met l y_Road_init (wd y_Road_init b_Road_init 2 none) m_Road_init (dk_Pm [.ref t] G K [(t, .inr (1, [.null, .null, .null, .null, .null, .int v_t_size, .int v_t_firstCycle, .int v_t_lastCycle, .int v_t_cycleBy, .int v_t_stepSeconds]))] sz) (dk_Qm none G (fun u : Nat × Nat × Nat × Nat × Nat => [(t, .inr (1, [.ref u.1, .ref u.2.1, .ref u.2.2.1, .ref u.2.2.2.1, .ref u.2.2.2.2, .int o.1, .int o.2.1, .int o.2.2.1, .int o.2.2.2.1, .int o.2.2.2.2.1])), (u.1, .inl (K 0, 5, .inl o.2.2.2.2.2.1)), (u.2.1, .inl (K 0, 5, .inl o.2.2.2.2.2.2.1)), (u.2.2.1, .inl (K 0, 5, .inl o.2.2.2.2.2.2.2.1)), (u.2.2.2.1, .inl (K 0, 10, .inl o.2.2.2.2.2.2.2.2.1)), (u.2.2.2.2, .inl (K 0, 10, .inl o.2.2.2.2.2.2.2.2.2))]) (va_A [(t, .inr (1, [.null, .null, .null, .null, .null, .int v_t_size, .int v_t_firstCycle, .int v_t_lastCycle, .int v_t_cycleBy, .int v_t_stepSeconds]))] sz)) 5 35 (va_A [(t, .inr (1, [.null, .null, .null, .null, .null, .int v_t_size, .int v_t_firstCycle, .int v_t_lastCycle, .int v_t_cycleBy, .int v_t_stepSeconds]))] sz) := by
  refine Met.ofW (cc := b_Road_init) (maxL := 2) (ret := none) (by decide) rfl ?_
  intro p e s m args below meth c s₁ B hml hv
  obtain ⟨rfl, hsz, hP, hK, hN, hD0⟩ := hv
  have hx := B.exec
  have hb := B.bytes
  have hr := B.returns
  have hts : ∀ w ∈ lw_good, w.before _ s = true := fun w h => atoms_spec (ws := wd y_Road_init b_Road_init 2 none) B.pre w (List.mem_cons_of_mem _ h)
  have hown : s.vm.findClass R_Road = some m.cls := findClass_of_methodNamed B.named
  have hlocks := B.notSynchronized
  have hfix : CallFix p m c b_Road_init 2 s _ lw_good R_Road := ⟨hx, hb, hml, hown, hts⟩
  have hin : meth.name = "<init>" := (name_of_methodNamed B.named B.method).1
  subst hsz
  have hD := hD0.self (sz := s.heap.size)
  generalize hAe : va_A [(t, .inr (1, [.null, .null, .null, .null, .null, .int v_t_size, .int v_t_firstCycle, .int v_t_lastCycle, .int v_t_cycleBy, .int v_t_stepSeconds]))] s.heap.size = A at hD ⊢
  have hA : ∀ q : Nat, s.heap.size ≤ q → A q := fun q h => by rw [← hAe]; exact Or.inr h
  have hS : va_S A s.heap s.heap [] := va_S.rf
  have hl := lv_entry ([.ref t]) (n := 2) (Nat.le_of_ble_eq_true rfl)
  rw [lg_entry_eq]
  generalize (lg_sl ([.ref t]) ++ List.replicate (2 - (lg_sl ([.ref t])).length) Slot.unset).toArray = ls at hl ⊢
  have hl : lv_has ls 2 [(0, .ref t)] := hl
  change W p l e m_Road_init s m _ below meth c s.heap [] 0 0 _ _
  have L43 : ∀ (k : Nat) (q6 : Nat) (q13 : Nat) (q20 : Nat) (q28 : Nat) (q36 : Nat) (z1 : Int32) (v_t_firstCycle : Int32) (v_t_lastCycle : Int32) (v_t_cycleBy : Int32) (v_t_stepSeconds : Int32) (v_q28 : Nat → Int32) (H : Heap) (locs : List Loc) (q : (Nat → Int32)), p_Road_init_43 n k z1 v_q28 = some q → va_P G classes [(t, .inr (1, [.ref q6, .ref q13, .ref q20, .ref q28, .ref q36, .int v_t_size, .int v_t_firstCycle, .int v_t_lastCycle, .int v_t_cycleBy, .int v_t_stepSeconds])), (q6, .inl (K 0, 5, .inl (fun _ => 0))), (q13, .inl (K 0, 5, .inl (fun _ => 0))), (q20, .inl (K 0, 5, .inl (fun _ => 0))), (q28, .inl (K 0, 10, .inl v_q28)), (q36, .inl (K 0, 10, .inl (fun _ => 0)))] H → va_D A [(t, .inr (1, [.ref q6, .ref q13, .ref q20, .ref q28, .ref q36, .int v_t_size, .int v_t_firstCycle, .int v_t_lastCycle, .int v_t_cycleBy, .int v_t_stepSeconds])), (q6, .inl (K 0, 5, .inl (fun _ => 0))), (q13, .inl (K 0, 5, .inl (fun _ => 0))), (q20, .inl (K 0, 5, .inl (fun _ => 0))), (q28, .inl (K 0, 10, .inl v_q28)), (q36, .inl (K 0, 10, .inl (fun _ => 0)))] → va_S A s.heap H locs → ∀ ls : Array Slot, lv_has ls 2 [(0, .ref t), (1, .int z1)] → (∀ (H1 : Heap) (locs1 : List Loc) (ls1 : Array Slot), va_P G classes [(t, .inr (1, [.ref q6, .ref q13, .ref q20, .ref q28, .ref q36, .int v_t_size, .int v_t_firstCycle, .int v_t_lastCycle, .int v_t_cycleBy, .int v_t_stepSeconds])), (q6, .inl (K 0, 5, .inl (fun _ => 0))), (q13, .inl (K 0, 5, .inl (fun _ => 0))), (q20, .inl (K 0, 5, .inl (fun _ => 0))), (q28, .inl (K 0, 10, .inl q)), (q36, .inl (K 0, 10, .inl (fun _ => 0)))] H1 → va_D A [(t, .inr (1, [.ref q6, .ref q13, .ref q20, .ref q28, .ref q36, .int v_t_size, .int v_t_firstCycle, .int v_t_lastCycle, .int v_t_cycleBy, .int v_t_stepSeconds])), (q6, .inl (K 0, 5, .inl (fun _ => 0))), (q13, .inl (K 0, 5, .inl (fun _ => 0))), (q20, .inl (K 0, 5, .inl (fun _ => 0))), (q28, .inl (K 0, 10, .inl q)), (q36, .inl (K 0, 10, .inl (fun _ => 0)))] → va_S A s.heap H1 locs1 → lv_has ls1 2 [(0, .ref t)] → W p l e m_Road_init s m ([.ref t] : List Value).toArray below meth c H1 locs1 5 35 (MQ below (dk_Qm none G (fun u : Nat × Nat × Nat × Nat × Nat => [(t, .inr (1, [.ref u.1, .ref u.2.1, .ref u.2.2.1, .ref u.2.2.2.1, .ref u.2.2.2.2, .int o.1, .int o.2.1, .int o.2.2.1, .int o.2.2.2.1, .int o.2.2.2.2.1])), (u.1, .inl (K 0, 5, .inl o.2.2.2.2.2.1)), (u.2.1, .inl (K 0, 5, .inl o.2.2.2.2.2.2.1)), (u.2.2.1, .inl (K 0, 5, .inl o.2.2.2.2.2.2.2.1)), (u.2.2.2.1, .inl (K 0, 10, .inl o.2.2.2.2.2.2.2.2.1)), (u.2.2.2.2, .inl (K 0, 10, .inl o.2.2.2.2.2.2.2.2.2))]) A) ([.ref t] : List Value).toArray s 5 35 A) (F0 m 65 ls1 [])) → W p l e m_Road_init s m ([.ref t] : List Value).toArray below meth c H locs 5 35 (MQ below (dk_Qm none G (fun u : Nat × Nat × Nat × Nat × Nat => [(t, .inr (1, [.ref u.1, .ref u.2.1, .ref u.2.2.1, .ref u.2.2.2.1, .ref u.2.2.2.2, .int o.1, .int o.2.1, .int o.2.2.1, .int o.2.2.2.1, .int o.2.2.2.2.1])), (u.1, .inl (K 0, 5, .inl o.2.2.2.2.2.1)), (u.2.1, .inl (K 0, 5, .inl o.2.2.2.2.2.2.1)), (u.2.2.1, .inl (K 0, 5, .inl o.2.2.2.2.2.2.2.1)), (u.2.2.2.1, .inl (K 0, 10, .inl o.2.2.2.2.2.2.2.2.1)), (u.2.2.2.2, .inl (K 0, 10, .inl o.2.2.2.2.2.2.2.2.2))]) A) ([.ref t] : List Value).toArray s 5 35 A) (F0 m 43 ls []) := by
    intro k
    induction k with
    | zero =>
      intro q6 q13 q20 q28 q36 z1 v_t_firstCycle v_t_lastCycle v_t_cycleBy v_t_stepSeconds v_q28 H locs q hF hP hD hS ls hl hk
      exact absurd hF (by simp [p_Road_init_43])
    | succ k jh =>
      intro q6 q13 q20 q28 q36 z1 v_t_firstCycle v_t_lastCycle v_t_cycleBy v_t_stepSeconds v_q28 H locs q hF hP hD hS ls hl hk
      have hF := (q_Road_init_43 n k z1 v_q28).symm.trans hF
      refine lv_iload_n hx hb d_Road_init_43 rfl (lv_at hl 1 rfl) ?_
      refine lv_aload_n hx hb d_Road_init_44 rfl (lv_at hl 0 rfl) ?_
      refine va_get (D := G) (ci := 1) (v := .ref q28) (C := R_Road) (T := F_Road) (N := 10) hx hb hts i_Road hown hK hP 0 rfl rfl 3 (by decide) (hts _ lk_36) (fun _ h9 => h9) rfl d_Road_init_45 ?_
      refine va_alen (D := G) hx hb hK hP 4 0 rfl rfl (v := (10 : Int32)) rfl d_Road_init_48 ?_
      refine lv_icmp_ge (tgt := 65) hx hb d_Road_init_49 (by decide) (fun c49_1 => ?_) (fun c49_1 => ?_)
      · have hF := dk_t c49_1 hF
        obtain rfl := Option.some.inj hF
        exact hk H locs ls hP hD hS (lv_sub hl [0] rfl)
      · have hF := dk_f c49_1 hF
        refine lv_aload_n hx hb d_Road_init_52 rfl (lv_at hl 0 rfl) ?_
        refine va_get (D := G) (ci := 1) (v := .ref q28) (C := R_Road) (T := F_Road) (N := 10) hx hb hts i_Road hown hK hP 0 rfl rfl 3 (by decide) (hts _ lk_36) (fun _ h9 => h9) rfl d_Road_init_53 ?_
        refine lv_iload_n hx hb d_Road_init_56 rfl (lv_at hl 1 rfl) ?_
        refine lv_iconst (v := (1 : Int32)) hx hb d_Road_init_57 (by decide) ?_
        obtain ⟨hi, hF⟩ := dk_a hF
        refine va_iast (D := G) hx hb hK hP hD hS 4 0 rfl rfl (dk_vp hi) d_Road_init_58 (fun H locs hP hD hS => ?_)
        have hP : va_P G classes [(t, .inr (1, [.ref q6, .ref q13, .ref q20, .ref q28, .ref q36, .int v_t_size, .int v_t_firstCycle, .int v_t_lastCycle, .int v_t_cycleBy, .int v_t_stepSeconds])), (q6, .inl (K 0, 5, .inl (fun _ => 0))), (q13, .inl (K 0, 5, .inl (fun _ => 0))), (q20, .inl (K 0, 5, .inl (fun _ => 0))), (q28, .inl (K 0, 10, .inl (upd v_q28 z1.toNatClampNeg (1 : Int32)))), (q36, .inl (K 0, 10, .inl (fun _ => 0)))] H := hP
        have hD : va_D A [(t, .inr (1, [.ref q6, .ref q13, .ref q20, .ref q28, .ref q36, .int v_t_size, .int v_t_firstCycle, .int v_t_lastCycle, .int v_t_cycleBy, .int v_t_stepSeconds])), (q6, .inl (K 0, 5, .inl (fun _ => 0))), (q13, .inl (K 0, 5, .inl (fun _ => 0))), (q20, .inl (K 0, 5, .inl (fun _ => 0))), (q28, .inl (K 0, 10, .inl (upd v_q28 z1.toNatClampNeg (1 : Int32)))), (q36, .inl (K 0, 10, .inl (fun _ => 0)))] := hD
        refine lv_iinc (v := z1 + (1 : Int32)) (lv' := [(1, .int (z1 + (1 : Int32))), (0, .ref t)]) hx hb d_Road_init_59 hl (k := 1) rfl rfl (by decide) rfl (fun ls hl => ?_)
        refine lv_goto (tgt := 43) hx hb d_Road_init_62 (by decide) ?_
        exact jh q6 q13 q20 q28 q36 (z1 + (1 : Int32)) v_t_firstCycle v_t_lastCycle v_t_cycleBy v_t_stepSeconds (upd v_q28 z1.toNatClampNeg (1 : Int32)) H locs q hF hP hD hS ls (lv_sub hl [1, 0] rfl) hk
  unfold p_Road_init at hF
  refine lv_aload_n hx hb d_Road_init_0 rfl (lv_at hl 0 rfl) ?_
  refine W.objInit hx hb hown (hts _ lk_371) (hts _ lk_364) (hts _ lk_365) rfl (by rw [hml]; exact hl.1) rfl d_Road_init_1 (Nat.le_of_ble_eq_true rfl) (Nat.le_of_ble_eq_true rfl) ?_
  refine W.eq (g2 := F0 m 4 ls []) rfl ?_
  refine lv_aload_n hx hb d_Road_init_4 rfl (lv_at hl 0 rfl) ?_
  refine lv_iconst (v := (5 : Int32)) hx hb d_Road_init_5 (by decide) ?_
  refine va_newa (D := G) (atype := .int) (ty := .int) (n := (5 : Int32)) (N' := 5) (a0 := (5, .inl (fun _ => 0))) hx hb (hts _ lk_366) rfl hK hP hD hS hA (fun _ => rfl) (by decide) (by decide) (by decide) (Nat.le_of_ble_eq_true rfl) (Nat.le_of_ble_eq_true rfl) d_Road_init_6 (fun q6 cA H hK2 hP hD hS => ?_)
  obtain rfl : cA = K 0 := dk_cA hK2 (i := 4) (j := 0) rfl rfl
  have hP : va_P G classes [(t, .inr (1, [.null, .null, .null, .null, .null, .int v_t_size, .int v_t_firstCycle, .int v_t_lastCycle, .int v_t_cycleBy, .int v_t_stepSeconds])), (q6, .inl (K 0, 5, .inl (fun _ => 0)))] H := hP
  have hD : va_D A [(t, .inr (1, [.null, .null, .null, .null, .null, .int v_t_size, .int v_t_firstCycle, .int v_t_lastCycle, .int v_t_cycleBy, .int v_t_stepSeconds])), (q6, .inl (K 0, 5, .inl (fun _ => 0)))] := hD
  refine va_putF (D := G) (ci := 1) (v := .ref q6) (ty := (.array .int)) (C := R_Road) (T := F_Road) (N := 10) hx hb hts i_Road t_Road t_Road_ok n_Road hown hK hP hD hS 0 rfl rfl 0 (by decide) (hts _ lk_30) (fun _ h9 => h9) rfl hin rfl (by decide +kernel) rfl rfl (Nat.le_of_ble_eq_true rfl) d_Road_init_8 (fun H locs hP hD hS => ?_)
  have hP : va_P G classes [(t, .inr (1, [.ref q6, .null, .null, .null, .null, .int v_t_size, .int v_t_firstCycle, .int v_t_lastCycle, .int v_t_cycleBy, .int v_t_stepSeconds])), (q6, .inl (K 0, 5, .inl (fun _ => 0)))] H := hP
  have hD : va_D A [(t, .inr (1, [.ref q6, .null, .null, .null, .null, .int v_t_size, .int v_t_firstCycle, .int v_t_lastCycle, .int v_t_cycleBy, .int v_t_stepSeconds])), (q6, .inl (K 0, 5, .inl (fun _ => 0)))] := hD
  refine lv_aload_n hx hb d_Road_init_11 rfl (lv_at hl 0 rfl) ?_
  refine lv_iconst (v := (5 : Int32)) hx hb d_Road_init_12 (by decide) ?_
  refine va_newa (D := G) (atype := .int) (ty := .int) (n := (5 : Int32)) (N' := 5) (a0 := (5, .inl (fun _ => 0))) hx hb (hts _ lk_366) rfl hK hP hD hS hA (fun _ => rfl) (by decide) (by decide) (by decide) (Nat.le_of_ble_eq_true rfl) (Nat.le_of_ble_eq_true rfl) d_Road_init_13 (fun q13 cA H hK2 hP hD hS => ?_)
  obtain rfl : cA = K 0 := dk_cA hK2 (i := 4) (j := 0) rfl rfl
  have hP : va_P G classes [(t, .inr (1, [.ref q6, .null, .null, .null, .null, .int v_t_size, .int v_t_firstCycle, .int v_t_lastCycle, .int v_t_cycleBy, .int v_t_stepSeconds])), (q6, .inl (K 0, 5, .inl (fun _ => 0))), (q13, .inl (K 0, 5, .inl (fun _ => 0)))] H := hP
  have hD : va_D A [(t, .inr (1, [.ref q6, .null, .null, .null, .null, .int v_t_size, .int v_t_firstCycle, .int v_t_lastCycle, .int v_t_cycleBy, .int v_t_stepSeconds])), (q6, .inl (K 0, 5, .inl (fun _ => 0))), (q13, .inl (K 0, 5, .inl (fun _ => 0)))] := hD
  refine va_putF (D := G) (ci := 1) (v := .ref q13) (ty := (.array .int)) (C := R_Road) (T := F_Road) (N := 10) hx hb hts i_Road t_Road t_Road_ok n_Road hown hK hP hD hS 0 rfl rfl 1 (by decide) (hts _ lk_31) (fun _ h9 => h9) rfl hin rfl (by decide +kernel) rfl rfl (Nat.le_of_ble_eq_true rfl) d_Road_init_15 (fun H locs hP hD hS => ?_)
  have hP : va_P G classes [(t, .inr (1, [.ref q6, .ref q13, .null, .null, .null, .int v_t_size, .int v_t_firstCycle, .int v_t_lastCycle, .int v_t_cycleBy, .int v_t_stepSeconds])), (q6, .inl (K 0, 5, .inl (fun _ => 0))), (q13, .inl (K 0, 5, .inl (fun _ => 0)))] H := hP
  have hD : va_D A [(t, .inr (1, [.ref q6, .ref q13, .null, .null, .null, .int v_t_size, .int v_t_firstCycle, .int v_t_lastCycle, .int v_t_cycleBy, .int v_t_stepSeconds])), (q6, .inl (K 0, 5, .inl (fun _ => 0))), (q13, .inl (K 0, 5, .inl (fun _ => 0)))] := hD
  refine lv_aload_n hx hb d_Road_init_18 rfl (lv_at hl 0 rfl) ?_
  refine lv_iconst (v := (5 : Int32)) hx hb d_Road_init_19 (by decide) ?_
  refine va_newa (D := G) (atype := .int) (ty := .int) (n := (5 : Int32)) (N' := 5) (a0 := (5, .inl (fun _ => 0))) hx hb (hts _ lk_366) rfl hK hP hD hS hA (fun _ => rfl) (by decide) (by decide) (by decide) (Nat.le_of_ble_eq_true rfl) (Nat.le_of_ble_eq_true rfl) d_Road_init_20 (fun q20 cA H hK2 hP hD hS => ?_)
  obtain rfl : cA = K 0 := dk_cA hK2 (i := 4) (j := 0) rfl rfl
  have hP : va_P G classes [(t, .inr (1, [.ref q6, .ref q13, .null, .null, .null, .int v_t_size, .int v_t_firstCycle, .int v_t_lastCycle, .int v_t_cycleBy, .int v_t_stepSeconds])), (q6, .inl (K 0, 5, .inl (fun _ => 0))), (q13, .inl (K 0, 5, .inl (fun _ => 0))), (q20, .inl (K 0, 5, .inl (fun _ => 0)))] H := hP
  have hD : va_D A [(t, .inr (1, [.ref q6, .ref q13, .null, .null, .null, .int v_t_size, .int v_t_firstCycle, .int v_t_lastCycle, .int v_t_cycleBy, .int v_t_stepSeconds])), (q6, .inl (K 0, 5, .inl (fun _ => 0))), (q13, .inl (K 0, 5, .inl (fun _ => 0))), (q20, .inl (K 0, 5, .inl (fun _ => 0)))] := hD
  refine va_putF (D := G) (ci := 1) (v := .ref q20) (ty := (.array .int)) (C := R_Road) (T := F_Road) (N := 10) hx hb hts i_Road t_Road t_Road_ok n_Road hown hK hP hD hS 0 rfl rfl 2 (by decide) (hts _ lk_41) (fun _ h9 => h9) rfl hin rfl (by decide +kernel) rfl rfl (Nat.le_of_ble_eq_true rfl) d_Road_init_22 (fun H locs hP hD hS => ?_)
  have hP : va_P G classes [(t, .inr (1, [.ref q6, .ref q13, .ref q20, .null, .null, .int v_t_size, .int v_t_firstCycle, .int v_t_lastCycle, .int v_t_cycleBy, .int v_t_stepSeconds])), (q6, .inl (K 0, 5, .inl (fun _ => 0))), (q13, .inl (K 0, 5, .inl (fun _ => 0))), (q20, .inl (K 0, 5, .inl (fun _ => 0)))] H := hP
  have hD : va_D A [(t, .inr (1, [.ref q6, .ref q13, .ref q20, .null, .null, .int v_t_size, .int v_t_firstCycle, .int v_t_lastCycle, .int v_t_cycleBy, .int v_t_stepSeconds])), (q6, .inl (K 0, 5, .inl (fun _ => 0))), (q13, .inl (K 0, 5, .inl (fun _ => 0))), (q20, .inl (K 0, 5, .inl (fun _ => 0)))] := hD
  refine lv_aload_n hx hb d_Road_init_25 rfl (lv_at hl 0 rfl) ?_
  refine lv_bipush (v := (10 : Int32)) hx hb d_Road_init_26 (by decide) ?_
  refine va_newa (D := G) (atype := .int) (ty := .int) (n := (10 : Int32)) (N' := 10) (a0 := (10, .inl (fun _ => 0))) hx hb (hts _ lk_366) rfl hK hP hD hS hA (fun _ => rfl) (by decide) (by decide) (by decide) (Nat.le_of_ble_eq_true rfl) (Nat.le_of_ble_eq_true rfl) d_Road_init_28 (fun q28 cA H hK2 hP hD hS => ?_)
  obtain rfl : cA = K 0 := dk_cA hK2 (i := 4) (j := 0) rfl rfl
  have hP : va_P G classes [(t, .inr (1, [.ref q6, .ref q13, .ref q20, .null, .null, .int v_t_size, .int v_t_firstCycle, .int v_t_lastCycle, .int v_t_cycleBy, .int v_t_stepSeconds])), (q6, .inl (K 0, 5, .inl (fun _ => 0))), (q13, .inl (K 0, 5, .inl (fun _ => 0))), (q20, .inl (K 0, 5, .inl (fun _ => 0))), (q28, .inl (K 0, 10, .inl (fun _ => 0)))] H := hP
  have hD : va_D A [(t, .inr (1, [.ref q6, .ref q13, .ref q20, .null, .null, .int v_t_size, .int v_t_firstCycle, .int v_t_lastCycle, .int v_t_cycleBy, .int v_t_stepSeconds])), (q6, .inl (K 0, 5, .inl (fun _ => 0))), (q13, .inl (K 0, 5, .inl (fun _ => 0))), (q20, .inl (K 0, 5, .inl (fun _ => 0))), (q28, .inl (K 0, 10, .inl (fun _ => 0)))] := hD
  refine va_putF (D := G) (ci := 1) (v := .ref q28) (ty := (.array .int)) (C := R_Road) (T := F_Road) (N := 10) hx hb hts i_Road t_Road t_Road_ok n_Road hown hK hP hD hS 0 rfl rfl 3 (by decide) (hts _ lk_36) (fun _ h9 => h9) rfl hin rfl (by decide +kernel) rfl rfl (Nat.le_of_ble_eq_true rfl) d_Road_init_30 (fun H locs hP hD hS => ?_)
  have hP : va_P G classes [(t, .inr (1, [.ref q6, .ref q13, .ref q20, .ref q28, .null, .int v_t_size, .int v_t_firstCycle, .int v_t_lastCycle, .int v_t_cycleBy, .int v_t_stepSeconds])), (q6, .inl (K 0, 5, .inl (fun _ => 0))), (q13, .inl (K 0, 5, .inl (fun _ => 0))), (q20, .inl (K 0, 5, .inl (fun _ => 0))), (q28, .inl (K 0, 10, .inl (fun _ => 0)))] H := hP
  have hD : va_D A [(t, .inr (1, [.ref q6, .ref q13, .ref q20, .ref q28, .null, .int v_t_size, .int v_t_firstCycle, .int v_t_lastCycle, .int v_t_cycleBy, .int v_t_stepSeconds])), (q6, .inl (K 0, 5, .inl (fun _ => 0))), (q13, .inl (K 0, 5, .inl (fun _ => 0))), (q20, .inl (K 0, 5, .inl (fun _ => 0))), (q28, .inl (K 0, 10, .inl (fun _ => 0)))] := hD
  refine lv_aload_n hx hb d_Road_init_33 rfl (lv_at hl 0 rfl) ?_
  refine lv_bipush (v := (10 : Int32)) hx hb d_Road_init_34 (by decide) ?_
  refine va_newa (D := G) (atype := .int) (ty := .int) (n := (10 : Int32)) (N' := 10) (a0 := (10, .inl (fun _ => 0))) hx hb (hts _ lk_366) rfl hK hP hD hS hA (fun _ => rfl) (by decide) (by decide) (by decide) (Nat.le_of_ble_eq_true rfl) (Nat.le_of_ble_eq_true rfl) d_Road_init_36 (fun q36 cA H hK2 hP hD hS => ?_)
  obtain rfl : cA = K 0 := dk_cA hK2 (i := 4) (j := 0) rfl rfl
  have hP : va_P G classes [(t, .inr (1, [.ref q6, .ref q13, .ref q20, .ref q28, .null, .int v_t_size, .int v_t_firstCycle, .int v_t_lastCycle, .int v_t_cycleBy, .int v_t_stepSeconds])), (q6, .inl (K 0, 5, .inl (fun _ => 0))), (q13, .inl (K 0, 5, .inl (fun _ => 0))), (q20, .inl (K 0, 5, .inl (fun _ => 0))), (q28, .inl (K 0, 10, .inl (fun _ => 0))), (q36, .inl (K 0, 10, .inl (fun _ => 0)))] H := hP
  have hD : va_D A [(t, .inr (1, [.ref q6, .ref q13, .ref q20, .ref q28, .null, .int v_t_size, .int v_t_firstCycle, .int v_t_lastCycle, .int v_t_cycleBy, .int v_t_stepSeconds])), (q6, .inl (K 0, 5, .inl (fun _ => 0))), (q13, .inl (K 0, 5, .inl (fun _ => 0))), (q20, .inl (K 0, 5, .inl (fun _ => 0))), (q28, .inl (K 0, 10, .inl (fun _ => 0))), (q36, .inl (K 0, 10, .inl (fun _ => 0)))] := hD
  refine va_putF (D := G) (ci := 1) (v := .ref q36) (ty := (.array .int)) (C := R_Road) (T := F_Road) (N := 10) hx hb hts i_Road t_Road t_Road_ok n_Road hown hK hP hD hS 0 rfl rfl 4 (by decide) (hts _ lk_40) (fun _ h9 => h9) rfl hin rfl (by decide +kernel) rfl rfl (Nat.le_of_ble_eq_true rfl) d_Road_init_38 (fun H locs hP hD hS => ?_)
  have hP : va_P G classes [(t, .inr (1, [.ref q6, .ref q13, .ref q20, .ref q28, .ref q36, .int v_t_size, .int v_t_firstCycle, .int v_t_lastCycle, .int v_t_cycleBy, .int v_t_stepSeconds])), (q6, .inl (K 0, 5, .inl (fun _ => 0))), (q13, .inl (K 0, 5, .inl (fun _ => 0))), (q20, .inl (K 0, 5, .inl (fun _ => 0))), (q28, .inl (K 0, 10, .inl (fun _ => 0))), (q36, .inl (K 0, 10, .inl (fun _ => 0)))] H := hP
  have hD : va_D A [(t, .inr (1, [.ref q6, .ref q13, .ref q20, .ref q28, .ref q36, .int v_t_size, .int v_t_firstCycle, .int v_t_lastCycle, .int v_t_cycleBy, .int v_t_stepSeconds])), (q6, .inl (K 0, 5, .inl (fun _ => 0))), (q13, .inl (K 0, 5, .inl (fun _ => 0))), (q20, .inl (K 0, 5, .inl (fun _ => 0))), (q28, .inl (K 0, 10, .inl (fun _ => 0))), (q36, .inl (K 0, 10, .inl (fun _ => 0)))] := hD
  refine lv_iconst (v := (0 : Int32)) hx hb d_Road_init_41 (by decide) ?_
  refine lv_istore_n (lv' := [(1, .int (0 : Int32)), (0, .ref t)]) hx hb d_Road_init_42 rfl hl (by decide) rfl (fun ls hl => ?_)
  obtain ⟨q43_2, hC, hF⟩ := dk_b hF
  refine L43 n q6 q13 q20 q28 q36 (0 : Int32) v_t_firstCycle v_t_lastCycle v_t_cycleBy v_t_stepSeconds (fun _ => 0) H locs q43_2 hC hP hD hS ls (lv_sub hl [1, 0] rfl) (fun H locs ls hP hD hS hl => ?_)
  refine lv_aload_n hx hb d_Road_init_65 rfl (lv_at hl 0 rfl) ?_
  refine lv_bipush (v := (10 : Int32)) hx hb d_Road_init_66 (by decide) ?_
  refine va_put (D := G) (ci := 1) (v := .int (10 : Int32)) (ty := .int) (C := R_Road) (T := F_Road) (N := 10) hx hb hts i_Road t_Road t_Road_ok n_Road hown hK hP hD hS 0 rfl rfl 6 (by decide) (hts _ lk_42) (fun _ h9 => h9) rfl (by decide +kernel) rfl rfl (Nat.le_of_ble_eq_true rfl) d_Road_init_68 (fun H locs hP hD hS => ?_)
  have hP : va_P G classes [(t, .inr (1, [.ref q6, .ref q13, .ref q20, .ref q28, .ref q36, .int v_t_size, .int (10 : Int32), .int v_t_lastCycle, .int v_t_cycleBy, .int v_t_stepSeconds])), (q6, .inl (K 0, 5, .inl (fun _ => 0))), (q13, .inl (K 0, 5, .inl (fun _ => 0))), (q20, .inl (K 0, 5, .inl (fun _ => 0))), (q28, .inl (K 0, 10, .inl q43_2)), (q36, .inl (K 0, 10, .inl (fun _ => 0)))] H := hP
  have hD : va_D A [(t, .inr (1, [.ref q6, .ref q13, .ref q20, .ref q28, .ref q36, .int v_t_size, .int (10 : Int32), .int v_t_lastCycle, .int v_t_cycleBy, .int v_t_stepSeconds])), (q6, .inl (K 0, 5, .inl (fun _ => 0))), (q13, .inl (K 0, 5, .inl (fun _ => 0))), (q20, .inl (K 0, 5, .inl (fun _ => 0))), (q28, .inl (K 0, 10, .inl q43_2)), (q36, .inl (K 0, 10, .inl (fun _ => 0)))] := hD
  refine lv_aload_n hx hb d_Road_init_71 rfl (lv_at hl 0 rfl) ?_
  refine lv_bipush (v := (120 : Int32)) hx hb d_Road_init_72 (by decide) ?_
  refine va_put (D := G) (ci := 1) (v := .int (120 : Int32)) (ty := .int) (C := R_Road) (T := F_Road) (N := 10) hx hb hts i_Road t_Road t_Road_ok n_Road hown hK hP hD hS 0 rfl rfl 7 (by decide) (hts _ lk_43) (fun _ h9 => h9) rfl (by decide +kernel) rfl rfl (Nat.le_of_ble_eq_true rfl) d_Road_init_74 (fun H locs hP hD hS => ?_)
  have hP : va_P G classes [(t, .inr (1, [.ref q6, .ref q13, .ref q20, .ref q28, .ref q36, .int v_t_size, .int (10 : Int32), .int (120 : Int32), .int v_t_cycleBy, .int v_t_stepSeconds])), (q6, .inl (K 0, 5, .inl (fun _ => 0))), (q13, .inl (K 0, 5, .inl (fun _ => 0))), (q20, .inl (K 0, 5, .inl (fun _ => 0))), (q28, .inl (K 0, 10, .inl q43_2)), (q36, .inl (K 0, 10, .inl (fun _ => 0)))] H := hP
  have hD : va_D A [(t, .inr (1, [.ref q6, .ref q13, .ref q20, .ref q28, .ref q36, .int v_t_size, .int (10 : Int32), .int (120 : Int32), .int v_t_cycleBy, .int v_t_stepSeconds])), (q6, .inl (K 0, 5, .inl (fun _ => 0))), (q13, .inl (K 0, 5, .inl (fun _ => 0))), (q20, .inl (K 0, 5, .inl (fun _ => 0))), (q28, .inl (K 0, 10, .inl q43_2)), (q36, .inl (K 0, 10, .inl (fun _ => 0)))] := hD
  refine lv_aload_n hx hb d_Road_init_77 rfl (lv_at hl 0 rfl) ?_
  refine lv_bipush (v := (10 : Int32)) hx hb d_Road_init_78 (by decide) ?_
  refine va_put (D := G) (ci := 1) (v := .int (10 : Int32)) (ty := .int) (C := R_Road) (T := F_Road) (N := 10) hx hb hts i_Road t_Road t_Road_ok n_Road hown hK hP hD hS 0 rfl rfl 8 (by decide) (hts _ lk_44) (fun _ h9 => h9) rfl (by decide +kernel) rfl rfl (Nat.le_of_ble_eq_true rfl) d_Road_init_80 (fun H locs hP hD hS => ?_)
  have hP : va_P G classes [(t, .inr (1, [.ref q6, .ref q13, .ref q20, .ref q28, .ref q36, .int v_t_size, .int (10 : Int32), .int (120 : Int32), .int (10 : Int32), .int v_t_stepSeconds])), (q6, .inl (K 0, 5, .inl (fun _ => 0))), (q13, .inl (K 0, 5, .inl (fun _ => 0))), (q20, .inl (K 0, 5, .inl (fun _ => 0))), (q28, .inl (K 0, 10, .inl q43_2)), (q36, .inl (K 0, 10, .inl (fun _ => 0)))] H := hP
  have hD : va_D A [(t, .inr (1, [.ref q6, .ref q13, .ref q20, .ref q28, .ref q36, .int v_t_size, .int (10 : Int32), .int (120 : Int32), .int (10 : Int32), .int v_t_stepSeconds])), (q6, .inl (K 0, 5, .inl (fun _ => 0))), (q13, .inl (K 0, 5, .inl (fun _ => 0))), (q20, .inl (K 0, 5, .inl (fun _ => 0))), (q28, .inl (K 0, 10, .inl q43_2)), (q36, .inl (K 0, 10, .inl (fun _ => 0)))] := hD
  refine lv_aload_n hx hb d_Road_init_83 rfl (lv_at hl 0 rfl) ?_
  refine lv_iconst (v := (5 : Int32)) hx hb d_Road_init_84 (by decide) ?_
  refine va_put (D := G) (ci := 1) (v := .int (5 : Int32)) (ty := .int) (C := R_Road) (T := F_Road) (N := 10) hx hb hts i_Road t_Road t_Road_ok n_Road hown hK hP hD hS 0 rfl rfl 9 (by decide) (hts _ lk_45) (fun _ h9 => h9) rfl (by decide +kernel) rfl rfl (Nat.le_of_ble_eq_true rfl) d_Road_init_85 (fun H locs hP hD hS => ?_)
  have hP : va_P G classes [(t, .inr (1, [.ref q6, .ref q13, .ref q20, .ref q28, .ref q36, .int v_t_size, .int (10 : Int32), .int (120 : Int32), .int (10 : Int32), .int (5 : Int32)])), (q6, .inl (K 0, 5, .inl (fun _ => 0))), (q13, .inl (K 0, 5, .inl (fun _ => 0))), (q20, .inl (K 0, 5, .inl (fun _ => 0))), (q28, .inl (K 0, 10, .inl q43_2)), (q36, .inl (K 0, 10, .inl (fun _ => 0)))] H := hP
  have hD : va_D A [(t, .inr (1, [.ref q6, .ref q13, .ref q20, .ref q28, .ref q36, .int v_t_size, .int (10 : Int32), .int (120 : Int32), .int (10 : Int32), .int (5 : Int32)])), (q6, .inl (K 0, 5, .inl (fun _ => 0))), (q13, .inl (K 0, 5, .inl (fun _ => 0))), (q20, .inl (K 0, 5, .inl (fun _ => 0))), (q28, .inl (K 0, 10, .inl q43_2)), (q36, .inl (K 0, 10, .inl (fun _ => 0)))] := hD
  obtain rfl := Option.some.inj hF
  exact W.vret hx hb hr (fun t ht hW => ⟨⟨(q6, q13, q20, q28, q36), rfl, by rw [ht]; exact hP.sub [0, 1, 2, 3, 4, 5] rfl, hD.sub [0, 1, 2, 3, 4, 5] (by decide) rfl⟩, hS.F ht⟩) hS.2.2 d_Road_init_88
