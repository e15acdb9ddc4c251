/-! DECOMPILED METHODS: each method M of the class and of the reference gets a pure function p_M (Option: none where fuel, an index or a divisor fails), and a contract: where p_M answers 'some o', M returns o's answer and leaves o's contents. -/
abbrev wd (y : MethodName) (b : ByteArray) (n : Nat) (r : Option FieldType) : List Cond := Cond.code y b n r :: lw_good
def dk_in (i : Int32) (n : Nat) : Bool := decide (0 ≤ i.toInt ∧ i.toInt < n)
theorem dk_vp {i : Int32} {n : Nat} (h : dk_in i n = true) : vp_in i n := vp_in_iff.mpr (of_decide_eq_true h)
theorem dk_t {α : Type} {c : Prop} [Decidable c] {a b o : α} (h : c) (e : (if c then a else b) = o) : a = o := by rwa [if_pos h] at e
theorem dk_f {α : Type} {c : Prop} [Decidable c] {a b o : α} (h : ¬ c) (e : (if c then a else b) = o) : b = o := by rwa [if_neg h] at e
theorem dk_a {α : Type} {b : Bool} {a : Option α} {o : α} (e : (if b = true then a else none) = some o) : b = true ∧ a = some o := by
  by_cases h : b = true
  · rw [if_pos h] at e
    exact ⟨h, e⟩
  · rw [if_neg h] at e
    cases e
theorem dk_z {α : Type} {c : Prop} [Decidable c] {a : Option α} {o : α} (e : (if c then none else a) = some o) : ¬ c ∧ a = some o := by
  by_cases h : c
  · rw [if_pos h] at e
    cases e
  · rw [if_neg h] at e
    exact ⟨h, e⟩
theorem dk_b {α β : Type} {x : Option α} {f : α → Option β} {o : β} (e : x.bind f = some o) : ∃ r, x = some r ∧ f r = some o := by
  cases x with
  | none => cases e
  | some r => exact ⟨r, rfl, e⟩
abbrev dk_ty (K : Nat → ClassId) : List (ClassId × FieldType) := [(K 0, .int), (K 1, .long), (K 2, .object "WaveOffsets$Plan"), (K 3, .boolean)]
/-- the words that a callee is handed beside the tables: links among nest mates, abstract methods, the array of plans -/
def dk_W (U : State) : Prop := (∀ w ∈ lw_nest, va_Nw w U) ∧ va_AO "WaveOffsets$Plan" U
theorem dk_W.same {u U : State} (h : u.vm = U.vm) (hW : dk_W u) : dk_W U := ⟨fun w hw => va_Nw.same (by
  have h2 := (List.mem_filter.mp hw).2
  cases w <;> first | (simp [dk_isN] at h2; done) | rfl) h (hW.1 w hw), by
  have := hW.2
  unfold va_AO at this ⊢
  exact va_AO.moved (by rw [h]; exact Vm.Alike.refl _) this⟩
theorem dk_W.moved {s U : State} (hW : s.WarmedH U.vm) (h : dk_W s) : dk_W U := ⟨fun w hw => by
  have h2 := (List.mem_filter.mp hw).2
  have h3 := h.1 w hw
  cases w <;> first | (simp [dk_isN] at h2; done) | exact va_Nw.warmF hW h3 | exact va_Nw.warmM hW h3 | exact va_Nw.warmD hW h3, va_AO.moved hW.alike h.2⟩
/-- a method that only reads: its start and its end -/
def dk_Pp (av : List Value) (G : va_G) (K : Nat → ClassId) (ws : va_W) : Array Value → State → Prop := va_Pc av (fun U => va_P G classes ws U.heap ∧ va_K G classes (dk_ty K) U ∧ dk_W U)
def dk_Qp (v : Option Value) : Array Value → State → Outcome → State → Prop := fun _ st oc t => oc = .returned v ∧ t.heap = st.heap
/-- a method that writes -/
def dk_Pm (av : List Value) (G : va_G) (K : Nat → ClassId) (ws : va_W) (sz : Nat) : Array Value → State → Prop := va_Pc av (fun U => U.heap.size = sz ∧ va_P G classes ws U.heap ∧ va_K G classes (dk_ty K) U ∧ dk_W U ∧ va_D (fun _ => True) ws)
def dk_Qm {S : Type} (v : Option Value) (G : va_G) (w : S → va_W) (A : Nat → Prop) : Array Value → State → Outcome → State → Prop := fun _ st oc t => (∃ u : S, oc = .returned v ∧ va_P G classes (w u) t.heap ∧ va_D A (w u)) ∧ va_F A st t
theorem dk_blindP {av : List Value} {G : va_G} {K : Nat → ClassId} {ws : va_W} : FrameBlind (dk_Pp av G K ws) := fun a U g mk q => by
  obtain ⟨q0, qP, qK, qN⟩ := q
  exact ⟨q0, qP, va_K.moved (u := U) (U := U.calling g mk a) (Vm.Alike.refl U.vm) qK, dk_W.same (u := U) (U := U.calling g mk a) rfl qN⟩
theorem dk_blindM {av : List Value} {G : va_G} {K : Nat → ClassId} {ws : va_W} {sz : Nat} : FrameBlind (dk_Pm av G K ws sz) := fun a U g mk q => by
  obtain ⟨q0, q1, qP, qK, qN, qD⟩ := q
  exact ⟨q0, q1, qP, va_K.moved (u := U) (U := U.calling g mk a) (Vm.Alike.refl U.vm) qK, dk_W.same (u := U) (U := U.calling g mk a) rfl qN, qD⟩
theorem dk_preS {s : State} {H : Heap} {G : va_G} {K : Nat → ClassId} {ws : va_W} {As : List Value} (hK : va_K G classes (dk_ty K) s) (hN : dk_W s) (hP : va_P G classes ws H) : PreS s H (dk_Pp As G K ws) As :=
  ⟨dk_blindP, fun U hU hW => ⟨rfl, by rw [hU]; exact hP, va_K.moved hW.alike hK, hN.moved hW⟩⟩
theorem dk_preSm {s : State} {H : Heap} {G : va_G} {K : Nat → ClassId} {ws : va_W} {As : List Value} {A : Nat → Prop} (hK : va_K G classes (dk_ty K) s) (hN : dk_W s) (hP : va_P G classes ws H) (hD : va_D A ws) : PreS s H (dk_Pm As G K ws H.size) As :=
  ⟨dk_blindM, fun U hU hW => ⟨rfl, by rw [hU], by rw [hU]; exact hP, va_K.moved hW.alike hK, hN.moved hW, hD.weaken (fun _ _ _ _ => trivial)⟩⟩
theorem dk_preV {s : State} {H : Heap} {G : va_G} {K : Nat → ClassId} {ws : va_W} {As : List Value} {C : String} {b : Addr} (hK : va_K G classes (dk_ty K) s) (hN : dk_W s) (hP : va_P G classes ws H) (hr : ∃ cell : Cell, H[b]? = some cell ∧ cell.vm.isStatics = false ∧ s.vm.findClass C = some cell.cls) : PreV s H C b (dk_Pp (.ref b :: As) G K ws) As :=
  ⟨dk_blindP, hr, fun U hU hW => ⟨rfl, by rw [hU]; exact hP, va_K.moved hW.alike hK, hN.moved hW⟩⟩
theorem dk_preVm {s : State} {H : Heap} {G : va_G} {K : Nat → ClassId} {ws : va_W} {As : List Value} {C : String} {b : Addr} {A : Nat → Prop} (hK : va_K G classes (dk_ty K) s) (hN : dk_W s) (hP : va_P G classes ws H) (hD : va_D A ws) (hr : ∃ cell : Cell, H[b]? = some cell ∧ cell.vm.isStatics = false ∧ s.vm.findClass C = some cell.cls) : PreV s H C b (dk_Pm (.ref b :: As) G K ws H.size) As :=
  ⟨dk_blindM, hr, fun U hU hW => ⟨rfl, by rw [hU], by rw [hU]; exact hP, va_K.moved hW.alike hK, hN.moved hW, hD.weaken (fun _ _ _ _ => trivial)⟩⟩
section DKC
variable {p : Program} {l : Launch} {e : Env} {R : Room} {s : State} {m : MethodId} {args : Array Value} {below : List Frame} {meth : Method} {c : Code} {H : Heap} {locs : List Loc} {cells slots : Nat} {Q : State → Prop}
variable {pc : Nat} {ls : Array Slot} {rest st0 : List Value} {a : Array Value}
/-- behind a call of a method that only reads -/
theorem dk_pure {x : Value} (hr : va_Run p l e R s m args below meth c H locs cells slots 0 0 (F0 m pc ls st0) rest (dk_Qp (some x) a) (fun _ => False))
    (kk : W p l e R s m args below meth c H locs cells slots Q (F0 m (pc + 3) ls (x :: rest))) : W p l e R s m args below meth c H locs cells slots Q (F0 m pc ls st0) := by
  intro T hT X
  obtain ⟨v, st₀, t, T', L, h0, X', hL, e1, e2, ⟨hv, hh⟩, st⟩ := hr T hT X
  cases hv
  obtain ⟨t2, a1, b1⟩ := kk T' (by rw [e1, hh, h0]) (Stand.forget X' (fun q h => (hL q h).elim))
  exact ⟨t2, st t2 a1, b1⟩
theorem dk_purev (hr : va_Run p l e R s m args below meth c H locs cells slots 0 0 (F0 m pc ls st0) rest (dk_Qp none a) (fun _ => False))
    (kk : W p l e R s m args below meth c H locs cells slots Q (F0 m (pc + 3) ls rest)) : W p l e R s m args below meth c H locs cells slots Q (F0 m pc ls st0) := by
  intro T hT X
  obtain ⟨v, st₀, t, T', L, h0, X', hL, e1, e2, ⟨hv, hh⟩, st⟩ := hr T hT X
  cases hv
  obtain ⟨t2, a1, b1⟩ := kk T' (by rw [e1, hh, h0]) (Stand.forget X' (fun q h => (hL q h).elim))
  exact ⟨t2, st t2 a1, b1⟩
variable {S : Type} {G : va_G} {w : S → va_W} {wc ws wr : va_W} {A0 : Nat → Prop} {H0 : Heap} {mc ms : Nat}
/-- behind a call of a method that writes: the callee's cells as it left them, the rest as it was -/
theorem dk_mutK {v : Option Value} (hr : va_Run p l e R s m args below meth c H locs cells slots mc ms (F0 m pc ls st0) rest (dk_Qm v G w (va_A wc H.size) a) (va_A wc H.size))
    (hS : va_S A0 H0 H locs) (hA : ∀ q, H0.size ≤ q → A0 q) (hP : va_P G classes ws H) (hD : va_D A0 ws) (isC isR : List Nat) (hC : isC.map (fun i => ws[i]?) = wc.map some) (hR : isR.map (fun i => ws[i]?) = wr.map some) (hn : va_nd isR = true) (hdis : ∀ i ∈ isR, i ∉ isC)
    (kk : ∀ (u : S) (H1 : Heap) (locs1 : List Loc), va_P G classes (wr ++ w u) H1 → va_D A0 (wr ++ w u) → va_S A0 H0 H1 locs1 → W p l e R s m args below meth c H1 locs1 (cells + mc) (slots + ms) Q (F0 m (pc + 3) ls (v.toList ++ rest))) : W p l e R s m args below meth c H locs cells slots Q (F0 m pc ls st0) := by
  intro T hT X
  obtain ⟨v', st₀, t, T', L, h0, X', hL, e1, e2, ⟨⟨u, hv, hP1, hD1⟩, hz, hk⟩, st⟩ := hr T hT X
  cases hv
  rw [h0] at hz hk
  have hF := va_free hD hS hA isC hC
  obtain ⟨hPj, hDj⟩ := va_join (H1 := T'.heap) hP hD isC isR hC hR hn hdis (fun q h1 h2 => by rw [e1]; exact hk q h1 h2) hF (by rw [e1]; exact hP1) hD1
  obtain ⟨t2, a1, b1⟩ := kk u T'.heap (locs ++ L) hPj hDj
    ⟨Nat.le_trans hS.1 (by rw [e1]; exact hz), fun q h1 h2 => by rw [e1, hk q (Nat.lt_of_lt_of_le h1 hS.1) (fun z => h2 (hF q z))]; exact hS.2.1 q h1 h2, fun q hq => by
      rcases List.mem_append.mp hq with h | h
      · exact hS.2.2 q h
      · exact hF _ (hL q h)⟩ T' rfl X'
  exact ⟨t2, st t2 a1, b1⟩
theorem dk_mut {x : Value} (hr : va_Run p l e R s m args below meth c H locs cells slots mc ms (F0 m pc ls st0) rest (dk_Qm (some x) G w (va_A wc H.size) a) (va_A wc H.size))
    (hS : va_S A0 H0 H locs) (hA : ∀ q, H0.size ≤ q → A0 q) (hP : va_P G classes ws H) (hD : va_D A0 ws) (isC isR : List Nat) (hC : isC.map (fun i => ws[i]?) = wc.map some) (hR : isR.map (fun i => ws[i]?) = wr.map some) (hn : va_nd isR = true) (hdis : ∀ i ∈ isR, i ∉ isC)
    (kk : ∀ (u : S) (H1 : Heap) (locs1 : List Loc), va_P G classes (wr ++ w u) H1 → va_D A0 (wr ++ w u) → va_S A0 H0 H1 locs1 → W p l e R s m args below meth c H1 locs1 (cells + mc) (slots + ms) Q (F0 m (pc + 3) ls (x :: rest))) : W p l e R s m args below meth c H locs cells slots Q (F0 m pc ls st0) :=
  dk_mutK hr hS hA hP hD isC isR hC hR hn hdis kk
theorem dk_mutv (hr : va_Run p l e R s m args below meth c H locs cells slots mc ms (F0 m pc ls st0) rest (dk_Qm none G w (va_A wc H.size) a) (va_A wc H.size))
    (hS : va_S A0 H0 H locs) (hA : ∀ q, H0.size ≤ q → A0 q) (hP : va_P G classes ws H) (hD : va_D A0 ws) (isC isR : List Nat) (hC : isC.map (fun i => ws[i]?) = wc.map some) (hR : isR.map (fun i => ws[i]?) = wr.map some) (hn : va_nd isR = true) (hdis : ∀ i ∈ isR, i ∉ isC)
    (kk : ∀ (u : S) (H1 : Heap) (locs1 : List Loc), va_P G classes (wr ++ w u) H1 → va_D A0 (wr ++ w u) → va_S A0 H0 H1 locs1 → W p l e R s m args below meth c H1 locs1 (cells + mc) (slots + ms) Q (F0 m (pc + 3) ls rest)) : W p l e R s m args below meth c H locs cells slots Q (F0 m pc ls st0) :=
  dk_mutK hr hS hA hP hD isC isR hC hR hn hdis kk
end DKC
/-- the words: every one of the tables may be handed to a callee -/
theorem gd_all : ∀ w ∈ lw_good, (w.onTables && w.keeps) = true ∨ ∃ ty, w = .arrayClass ty := by
  intro w hw
  have h1 := (List.mem_filter.mp hw).2
  rcases Bool.or_eq_true _ _ ▸ h1 with h2 | h2
  · cases w <;> first | (simp [k2_isCode] at h2; done) | exact Or.inl rfl
  · exact good_of_word h2
theorem gd_w {y : MethodName} {b : ByteArray} {n : Nat} {r : Option FieldType} (hc : Cond.code y b n r ∈ lw_good) : GoodIn lw_good (wd y b n r) := by
  intro w hw
  rcases List.mem_cons.mp hw with h | h
  · rw [h]; exact ⟨hc, gd_all _ hc⟩
  · exact ⟨h, gd_all _ h⟩
theorem gd_app {L : List Cond} {y : MethodName} {b : ByteArray} {n : Nat} {r : Option FieldType} (hL : ∀ w ∈ L, w ∈ lw_good) (hc : Cond.code y b n r ∈ lw_good) : GoodIn lw_good (L ++ wd y b n r) := by
  intro w hw
  rcases List.mem_append.mp hw with h | h
  · exact ⟨hL w h, gd_all _ (hL w h)⟩
  · exact gd_w hc w h
theorem gd_V {own C : String} {idx : Nat} {y : MethodName} {b : ByteArray} {n : Nat} {r : Option FieldType} (h1 : Cond.methodLink own idx y ∈ lw_good) (h2 : Cond.instanceMethod y ∈ lw_good) (h3 : Cond.selects C y y ∈ lw_good) (h4 : Cond.initialized C ∈ lw_good) (hc : Cond.code y b n r ∈ lw_good) : GoodIn lw_good (wsV own idx C y (wd y b n r)) :=
  gd_app (fun w hw => by simp only [List.mem_cons, List.not_mem_nil, or_false] at hw; rcases hw with h | h | h | h <;> rw [h] <;> assumption) hc
theorem gd_S {own : String} {idx : Nat} {y : MethodName} {b : ByteArray} {n : Nat} {r : Option FieldType} (h1 : Cond.methodLink own idx y ∈ lw_good) (h2 : Cond.static y ∈ lw_good) (h3 : Cond.initialized y.cls ∈ lw_good) (hc : Cond.code y b n r ∈ lw_good) : GoodIn lw_good (va_wsS own idx y (wd y b n r)) :=
  gd_app (fun w hw => by simp only [List.mem_cons, List.not_mem_nil, or_false] at hw; rcases hw with h | h | h <;> rw [h] <;> assumption) hc
theorem gd_U {own C owner : String} {idx : Nat} {x y : MethodName} {b : ByteArray} {n : Nat} {r : Option FieldType} (h1 : Cond.methodLink own idx x ∈ lw_good) (h2 : Cond.sameMethod x.cls owner x.name x.desc ∈ lw_good) (h3 : Cond.selects C x y ∈ lw_good) (h4 : Cond.instanceMethod y ∈ lw_good) (h5 : Cond.initialized y.cls ∈ lw_good) (hc : Cond.code y b n r ∈ lw_good) : GoodIn lw_good (va_wsU own idx C owner x y (wd y b n r)) :=
  gd_app (fun w hw => by simp only [List.mem_cons, List.not_mem_nil, or_false] at hw; rcases hw with h | h | h | h | h <;> rw [h] <;> assumption) hc
/-- two array classes of one component are one -/
theorem dk_cA {G : va_G} {cl : List vw_C} {tys : List (ClassId × FieldType)} {s : State} {ty : FieldType} {c1 c2 : ClassId} (hK : va_K G cl tys s) {i j : Nat} (hi : tys[i]? = some (c1, ty)) (hj : tys[j]? = some (c2, ty)) : c1 = c2 := by
  have h1 := (hK.2 i _ hi).2
  have h2 := (hK.2 j _ hj).2
  cases ty with
  | object C =>
    obtain ⟨_, _, _, _, _, e1⟩ := h1
    obtain ⟨_, _, _, _, _, e2⟩ := h2
    exact Option.some.inj (e1.symm.trans e2)
  | _ => exact Option.some.inj (Eq.trans (Eq.symm h1) h2)
/-- the hours' plans: T says what they hold, g where they lie, PL are their cells -/
def tp (K : Nat → ClassId) (T : Nat → Option (Int32 × Int32 × (Nat → Int32))) (g : Nat → Option Nat) (PL : va_W) : Prop :=
  ∀ h : Nat, h < 24 → (T h = none ∧ g h = none) ∨ ∃ (pl : Int32 × Int32 × (Nat → Int32)) (am sw : Int32) (a o : Nat), T h = some pl ∧ g h = some a ∧ ((a, .inr (2, [.ref o, .int pl.1, .int pl.2.1, .int am, .int sw])) : Nat × va_E) ∈ PL ∧ ((o, .inl (K 0, 5, .inl pl.2.2)) : Nat × va_E) ∈ PL
theorem tp_at {K : Nat → ClassId} {T : Nat → Option (Int32 × Int32 × (Nat → Int32))} {g : Nat → Option Nat} {PL : va_W} (hT : tp K T g PL) {i : Int32} (hi : dk_in i 24 = true) :
    (T i.toNatClampNeg = none ∧ g i.toNatClampNeg = none) ∨ ∃ (pl : Int32 × Int32 × (Nat → Int32)) (am sw : Int32) (a o : Nat), T i.toNatClampNeg = some pl ∧ g i.toNatClampNeg = some a ∧ ((a, .inr (2, [.ref o, .int pl.1, .int pl.2.1, .int am, .int sw])) : Nat × va_E) ∈ PL ∧ ((o, .inl (K 0, 5, .inl pl.2.2)) : Nat × va_E) ∈ PL :=
  hT _ (Nat.not_le.mp fun q => dk_vp hi (Or.inr q))
theorem tp_n {α β : Type} {x : Option α} {a : β} {f : α → β} {o : β} (e : x = none) (h : x.elim a f = o) : a = o := by subst e; exact h
theorem tp_s {α β : Type} {x : Option α} {y : α} {a : β} {f : α → β} {o : β} (e : x = some y) (h : x.elim a f = o) : f y = o := by subst e; exact h
theorem tp_pl {G : va_G} {cl : List vw_C} {X PL : va_W} {H : Heap} (h : va_P G cl (X ++ PL) H) : ∀ q ∈ PL, va_at G cl q H := fun q hq => by
  obtain ⟨k, hk⟩ := List.getElem?_of_mem (List.mem_append_right X hq)
  exact h k q hk
theorem tp_x {G : va_G} {cl : List vw_C} {X PL : va_W} {H : Heap} (h : va_P G cl (X ++ PL) H) : va_P G cl X H := fun k q hq => by
  obtain ⟨j, hj⟩ := List.getElem?_of_mem (List.mem_append_left PL (List.mem_of_getElem? hq))
  exact h j q hj
theorem tp_two {G : va_G} {cl : List vw_C} {PL : va_W} {H : Heap} {c1 c2 : Nat × va_E} (h : ∀ q ∈ PL, va_at G cl q H) (h1 : c1 ∈ PL) (h2 : c2 ∈ PL) : va_P G cl [c1, c2] H := fun k q hk => by
  match k, hk with
  | 0, hk => cases hk; exact h _ h1
  | 1, hk => cases hk; exact h _ h2
  | k + 2, hk => simp at hk
/-! THE HOURS' PLANS AS CELLS: an hour holds nothing, or a plan at a with its offsets at o -/
abbrev tpP : Type := Nat → Option (Nat × Nat × (Int32 × Int32 × (Nat → Int32)) × Int32 × Int32)
def tp_cells (K : Nat → ClassId) (x : Option (Nat × Nat × (Int32 × Int32 × (Nat → Int32)) × Int32 × Int32)) : va_W := x.elim [] (fun z => [(z.1, .inr (2, [.ref z.2.1, .int z.2.2.1.1, .int z.2.2.1.2.1, .int z.2.2.2.1, .int z.2.2.2.2])), (z.2.1, .inl (K 0, 5, .inl z.2.2.1.2.2))])
def tp_PL (K : Nat → ClassId) (P : tpP) : va_W := (List.range 24).flatMap (fun h => tp_cells K (P h))
def tp_g (P : tpP) : Nat → Option Nat := fun h => (P h).map (fun z => z.1)
def tp_T (P : tpP) : Nat → Option (Int32 × Int32 × (Nat → Int32)) := fun h => (P h).map (fun z => z.2.2.1)
theorem tp_of (K : Nat → ClassId) (P : tpP) : tp K (tp_T P) (tp_g P) (tp_PL K P) := by
  intro h hh
  cases e : P h with
  | none => exact Or.inl ⟨by simp [tp_T, e], by simp [tp_g, e]⟩
  | some z =>
    have hm : ∀ c ∈ tp_cells K (some z), c ∈ tp_PL K P := fun c hc => List.mem_flatMap.mpr ⟨h, List.mem_range.mpr hh, by rw [e]; exact hc⟩
    exact Or.inr ⟨z.2.2.1, z.2.2.2.1, z.2.2.2.2, z.1, z.2.1, by simp [tp_T, e], by simp [tp_g, e], hm _ List.mem_cons_self, hm _ (List.mem_cons_of_mem _ List.mem_cons_self)⟩
theorem tp_T_up (P : tpP) (h : Nat) (z : Nat × Nat × (Int32 × Int32 × (Nat → Int32)) × Int32 × Int32) : tp_T (va_up P h (some z)) = va_up (tp_T P) h (some z.2.2.1) := by
  funext j
  by_cases e : j = h
  · subst e; simp [tp_T, va_up]
  · simp [tp_T, va_up, e]
theorem tp_g_up (P : tpP) (h : Nat) (z : Nat × Nat × (Int32 × Int32 × (Nat → Int32)) × Int32 × Int32) : tp_g (va_up P h (some z)) = va_up (tp_g P) h (some z.1) := by
  funext j
  by_cases e : j = h
  · subst e; simp [tp_g, va_up]
  · simp [tp_g, va_up, e]
/-- one hour's cells ahead of the others' -/
theorem tp_perm (K : Nat → ClassId) (P : tpP) (h : Nat) (hh : h < 24) : (tp_PL K P).Perm (tp_cells K (P h) ++ tp_PL K (va_up P h none)) := by
  have key : ∀ l : List Nat, l.Nodup → h ∈ l → (l.flatMap (fun j => tp_cells K (P j))).Perm (tp_cells K (P h) ++ l.flatMap (fun j => tp_cells K (va_up P h none j))) := by
    intro l
    induction l with
    | nil => intro _ hm; cases hm
    | cons a l ih =>
      intro hn hm
      have hn' := List.nodup_cons.mp hn
      by_cases e : a = h
      · subst e
        have h2 : l.flatMap (fun j => tp_cells K (va_up P a none j)) = l.flatMap (fun j => tp_cells K (P j)) := by
          have : ∀ l' : List Nat, a ∉ l' → l'.flatMap (fun j => tp_cells K (va_up P a none j)) = l'.flatMap (fun j => tp_cells K (P j)) := by
            intro l'
            induction l' with
            | nil => intro _; rfl
            | cons b l' ih2 =>
              intro hb
              rw [List.flatMap_cons, List.flatMap_cons, ih2 (fun q => hb (List.mem_cons_of_mem _ q)), va_up_ne]
              exact fun q => hb (by rw [q]; exact List.mem_cons_self)
          exact this l hn'.1
        rw [List.flatMap_cons, List.flatMap_cons, h2, va_up_self]
        exact List.Perm.refl _
      · have hm2 : h ∈ l := by
          rcases List.mem_cons.mp hm with q | q
          · exact absurd q.symm e
          · exact q
        rw [List.flatMap_cons, List.flatMap_cons, va_up_ne _ _ e]
        refine (List.Perm.append_left _ (ih hn'.2 hm2)).trans ?_
        rw [← List.append_assoc, ← List.append_assoc]
        exact List.Perm.append_right _ List.perm_append_comm
  exact key (List.range 24) List.nodup_range (List.mem_range.mpr hh)
theorem va_P.perm {G : va_G} {cl : List vw_C} {ws ws' : va_W} {H : Heap} (h : va_P G cl ws H) (hp : ws.Perm ws') : va_P G cl ws' H := fun k q hk => by
  obtain ⟨j, hj⟩ := List.getElem?_of_mem (hp.mem_iff.mpr (List.mem_of_getElem? hk))
  exact h j q hj
theorem va_D_iff {A : Nat → Prop} {ws : va_W} : va_D A ws ↔ (ws.map (fun q => q.1)).Nodup ∧ ∀ q ∈ ws, A q.1 := by
  constructor
  · rintro ⟨h1, h2⟩
    refine ⟨?_, fun q hq => ?_⟩
    · rw [List.nodup_iff_pairwise_ne, List.pairwise_iff_getElem]
      intro i j hi hj hij e
      simp only [List.getElem_map] at e
      have := h1 i j _ _ (List.getElem?_eq_getElem (by simpa using hi)) (List.getElem?_eq_getElem (by simpa using hj)) e
      omega
    · obtain ⟨k, hk⟩ := List.getElem?_of_mem hq
      exact h2 k q hk
  · rintro ⟨h1, h2⟩
    refine ⟨fun i j p q hi hj hpq => ?_, fun k q hk => h2 q (List.mem_of_getElem? hk)⟩
    have ei : (ws.map (fun q => q.1))[i]? = some p.1 := by rw [List.getElem?_map, hi]; rfl
    have ej : (ws.map (fun q => q.1))[j]? = some p.1 := by rw [List.getElem?_map, hj]; exact congrArg some hpq.symm
    exact (List.getElem?_inj (List.getElem?_eq_some_iff.mp ei).1 h1).mp (ei.trans ej.symm)
theorem va_D.perm {A : Nat → Prop} {ws ws' : va_W} (h : va_D A ws) (hp : ws.Perm ws') : va_D A ws' := by
  rw [va_D_iff] at h ⊢
  exact ⟨(hp.map _).nodup_iff.mp h.1, fun q hq => h.2 q (hp.mem_iff.mpr hq)⟩
theorem tp_upn {P : tpP} {h : Nat} (e : P h = none) : va_up P h none = P := by
  funext j
  by_cases q : j = h
  · subst q; rw [va_up_self]; exact e.symm
  · rw [va_up_ne _ _ q]
theorem tp_gsame {P : tpP} {h : Nat} {z z' : Nat × Nat × (Int32 × Int32 × (Nat → Int32)) × Int32 × Int32} (e : P h = some z) (ez : z'.1 = z.1) : tp_g (va_up P h (some z')) = tp_g P := by
  rw [tp_g_up]
  funext j
  by_cases q : j = h
  · subst q; rw [va_up_self, ez]; simp [tp_g, e]
  · rw [va_up_ne _ _ q]
theorem tp_front (K : Nat → ClassId) {P : tpP} {h : Nat} (hh : h < 24) {z : Nat × Nat × (Int32 × Int32 × (Nat → Int32)) × Int32 × Int32} (e : P h = some z) (X : va_W) :
    (X ++ tp_PL K P).Perm ((X ++ tp_cells K (some z)) ++ tp_PL K (va_up P h none)) := by
  have h1 := tp_perm K P h hh
  rw [e] at h1
  rw [List.append_assoc]
  exact List.Perm.append_left _ h1
theorem tp_back (K : Nat → ClassId) {P : tpP} {h : Nat} (hh : h < 24) (z : Nat × Nat × (Int32 × Int32 × (Nat → Int32)) × Int32 × Int32) (X : va_W) :
    ((X ++ tp_cells K (some z)) ++ tp_PL K (va_up P h none)).Perm (X ++ tp_PL K (va_up P h (some z))) := by
  have h1 := tp_perm K (va_up P h (some z)) h hh
  rw [va_up_self, bx_uu] at h1
  rw [List.append_assoc]
  exact List.Perm.append_left _ h1.symm
theorem dk_lt {i : Int32} {n : Nat} (hi : dk_in i n = true) : i.toNatClampNeg < n := Nat.not_le.mp fun q => dk_vp hi (Or.inr q)
section DKT
variable {p : Program} {l : Launch} {e : Env} {R : Room} {s : State} {m : MethodId} {args : Array Value} {below : List Frame} {meth : Method} {c : Code} {H : Heap} {locs : List Loc} {cells slots : Nat} {Q : State → Prop}
variable {pc : Nat} {ls : Array Slot} {rest st0 : List Value} {a : Array Value}
variable {S : Type} {G : va_G} {X cx wr pl : va_W} {A0 : Nat → Prop} {H0 : Heap} {mc ms : Nat}
/-- a call of a method that writes, and has nothing of the pool -/
theorem dk_mutQK {v : Option Value} {w : S → va_W} (hr : va_Run p l e R s m args below meth c H locs cells slots mc ms (F0 m pc ls st0) rest (dk_Qm v G w (va_A cx H.size) a) (va_A cx H.size))
    (hS : va_S A0 H0 H locs) (hA : ∀ q, H0.size ≤ q → A0 q) (hP : va_P G classes (X ++ pl) H) (hD : va_D A0 (X ++ pl)) (isC isR : List Nat) (hC : isC.map (fun i => X[i]?) = cx.map some) (hR : isR.map (fun i => X[i]?) = wr.map some) (hn : va_nd isR = true) (hdis : ∀ i ∈ isR, i ∉ isC)
    (kk : ∀ (u : S) (H1 : Heap) (locs1 : List Loc), va_P G classes ((wr ++ w u) ++ pl) H1 → va_D A0 ((wr ++ w u) ++ pl) → va_S A0 H0 H1 locs1 → W p l e R s m args below meth c H1 locs1 (cells + mc) (slots + ms) Q (F0 m (pc + 3) ls (v.toList ++ rest))) : W p l e R s m args below meth c H locs cells slots Q (F0 m pc ls st0) := by
  intro T hT X9
  obtain ⟨v', st₀, t, T', L, h0, X', hL, e1, e2, ⟨⟨u, hv, hP1, hD1⟩, hz, hk⟩, st⟩ := hr T hT X9
  cases hv
  rw [h0] at hz hk
  have hF : ∀ q, va_A cx H.size q → A0 q := by
    intro q h
    rcases h with ⟨k, e, h⟩ | h
    · obtain ⟨i, -, hi⟩ := va_in_of isC hC h
      obtain ⟨j, hj⟩ := List.getElem?_of_mem (List.mem_append_left pl (List.mem_of_getElem? hi))
      exact hD.2 j _ hj
    · exact hA q (Nat.le_trans hS.1 h)
  obtain ⟨hPj, hDj⟩ := va_joinQ (H1 := T'.heap) hP hD isC isR hC hR hn hdis (fun q h1 h2 => by rw [e1]; exact hk q h1 h2) hF (by rw [e1]; exact hP1) hD1
  obtain ⟨t2, a1, b1⟩ := kk u T'.heap (locs ++ L) hPj hDj
    ⟨Nat.le_trans hS.1 (by rw [e1]; exact hz), fun q h1 h2 => by rw [e1, hk q (Nat.lt_of_lt_of_le h1 hS.1) (fun z => h2 (hF q z))]; exact hS.2.1 q h1 h2, fun q hq => by
      rcases List.mem_append.mp hq with h | h
      · exact hS.2.2 q h
      · exact hF _ (hL q h)⟩ T' rfl X'
  exact ⟨t2, st t2 a1, b1⟩
theorem dk_mutQ {x : Value} {w : S → va_W} (hr : va_Run p l e R s m args below meth c H locs cells slots mc ms (F0 m pc ls st0) rest (dk_Qm (some x) G w (va_A cx H.size) a) (va_A cx H.size))
    (hS : va_S A0 H0 H locs) (hA : ∀ q, H0.size ≤ q → A0 q) (hP : va_P G classes (X ++ pl) H) (hD : va_D A0 (X ++ pl)) (isC isR : List Nat) (hC : isC.map (fun i => X[i]?) = cx.map some) (hR : isR.map (fun i => X[i]?) = wr.map some) (hn : va_nd isR = true) (hdis : ∀ i ∈ isR, i ∉ isC)
    (kk : ∀ (u : S) (H1 : Heap) (locs1 : List Loc), va_P G classes ((wr ++ w u) ++ pl) H1 → va_D A0 ((wr ++ w u) ++ pl) → va_S A0 H0 H1 locs1 → W p l e R s m args below meth c H1 locs1 (cells + mc) (slots + ms) Q (F0 m (pc + 3) ls (x :: rest))) : W p l e R s m args below meth c H locs cells slots Q (F0 m pc ls st0) :=
  dk_mutQK hr hS hA hP hD isC isR hC hR hn hdis kk
theorem dk_mutQv {w : S → va_W} (hr : va_Run p l e R s m args below meth c H locs cells slots mc ms (F0 m pc ls st0) rest (dk_Qm none G w (va_A cx H.size) a) (va_A cx H.size))
    (hS : va_S A0 H0 H locs) (hA : ∀ q, H0.size ≤ q → A0 q) (hP : va_P G classes (X ++ pl) H) (hD : va_D A0 (X ++ pl)) (isC isR : List Nat) (hC : isC.map (fun i => X[i]?) = cx.map some) (hR : isR.map (fun i => X[i]?) = wr.map some) (hn : va_nd isR = true) (hdis : ∀ i ∈ isR, i ∉ isC)
    (kk : ∀ (u : S) (H1 : Heap) (locs1 : List Loc), va_P G classes ((wr ++ w u) ++ pl) H1 → va_D A0 ((wr ++ w u) ++ pl) → va_S A0 H0 H1 locs1 → W p l e R s m args below meth c H1 locs1 (cells + mc) (slots + ms) Q (F0 m (pc + 3) ls rest)) : W p l e R s m args below meth c H locs cells slots Q (F0 m pc ls st0) :=
  dk_mutQK hr hS hA hP hD isC isR hC hR hn hdis kk
/-- a call of a method that writes, the pool too -/
theorem dk_mutPK {v : Option Value} {rx pl1 : S → va_W} (hr : va_Run p l e R s m args below meth c H locs cells slots mc ms (F0 m pc ls st0) rest (dk_Qm v G (fun u => rx u ++ pl1 u) (va_A (cx ++ pl) H.size) a) (va_A (cx ++ pl) H.size))
    (hS : va_S A0 H0 H locs) (hA : ∀ q, H0.size ≤ q → A0 q) (hP : va_P G classes (X ++ pl) H) (hD : va_D A0 (X ++ pl)) (isC isR : List Nat) (hC : isC.map (fun i => X[i]?) = cx.map some) (hR : isR.map (fun i => X[i]?) = wr.map some) (hn : va_nd isR = true) (hdis : ∀ i ∈ isR, i ∉ isC)
    (kk : ∀ (u : S) (H1 : Heap) (locs1 : List Loc), va_P G classes ((wr ++ rx u) ++ pl1 u) H1 → va_D A0 ((wr ++ rx u) ++ pl1 u) → va_S A0 H0 H1 locs1 → W p l e R s m args below meth c H1 locs1 (cells + mc) (slots + ms) Q (F0 m (pc + 3) ls (v.toList ++ rest))) : W p l e R s m args below meth c H locs cells slots Q (F0 m pc ls st0) := by
  intro T hT X9
  obtain ⟨v', st₀, t, T', L, h0, X', hL, e1, e2, ⟨⟨u, hv, hP1, hD1⟩, hz, hk⟩, st⟩ := hr T hT X9
  cases hv
  rw [h0] at hz hk
  have hF := va_freeP hD hS hA isC hC
  obtain ⟨hPj, hDj⟩ := va_joinP (H1 := T'.heap) hP hD isC isR hC hR hn hdis (fun q h1 h2 => by rw [e1]; exact hk q h1 h2) hF (by rw [e1]; exact hP1) hD1
  obtain ⟨t2, a1, b1⟩ := kk u T'.heap (locs ++ L) hPj hDj
    ⟨Nat.le_trans hS.1 (by rw [e1]; exact hz), fun q h1 h2 => by rw [e1, hk q (Nat.lt_of_lt_of_le h1 hS.1) (fun z => h2 (hF q z))]; exact hS.2.1 q h1 h2, fun q hq => by
      rcases List.mem_append.mp hq with h | h
      · exact hS.2.2 q h
      · exact hF _ (hL q h)⟩ T' rfl X'
  exact ⟨t2, st t2 a1, b1⟩
end DKT
def dk_bool (x : Int32) : Bool := decide (x = 0 ∨ x = 1)
theorem dk_bo {x : Int32} (h : dk_bool x = true) : narrow .boolean (.int x) = .int x := by
  rcases of_decide_eq_true h with e | e <;> subst e <;> rfl
