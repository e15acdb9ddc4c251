/-! rows of offsets by their number, and the best of the first so many -/
def dg (ch r e : Nat) : Nat := r / ch ^ e % ch
def rof (N ch cs r k : Nat) : Nat := dg ch r (N - 1 - k) * cs
theorem dg_hi {ch e s : Nat} (Z i : Nat) (hs : s < ch ^ e) : dg ch (ch ^ e * Z + s) (e + i) = Z / ch ^ i % ch := by
  unfold dg
  rw [Nat.pow_add, ← Nat.div_div_eq_div_mul, Nat.mul_add_div (by omega), Nat.div_eq_of_lt hs, Nat.add_zero]
theorem dg_blk {ch e s : Nat} (Z i : Nat) (hs : s < ch ^ e) : dg ch (ch ^ e * Z + s) (e + i) = dg ch (ch ^ e * Z) (e + i) := by
  have h := dg_hi (ch := ch) (e := e) (s := 0) Z i (by omega)
  rw [Nat.add_zero] at h
  rw [dg_hi Z i hs, h]
theorem dg_at {ch e x : Nat} (Y : Nat) (hx : x < ch) : dg ch (ch ^ e * (ch * Y + x)) e = x := by
  have h := dg_hi (ch := ch) (e := e) (s := 0) (ch * Y + x) 0 (Nat.pow_pos (by omega))
  rw [Nat.add_zero, Nat.add_zero, Nat.pow_zero, Nat.div_one, Nat.mul_add_mod, Nat.mod_eq_of_lt hx] at h
  exact h
theorem dg_lt {ch r e : Nat} (h : 0 < ch) : dg ch r e < ch := Nat.mod_lt _ h
theorem chs_pos {cs c : Nat} (h1 : 1 ≤ cs) (hc : 1 ≤ c) : 0 < chs cs c := by
  unfold chs
  exact Nat.div_pos (by omega) (by omega)
theorem chs_lt {cs c x : Nat} (h1 : 1 ≤ cs) (hc : 1 ≤ c) : x < chs cs c ↔ x * cs < c := by
  unfold chs
  rw [Nat.lt_iff_add_one_le, Nat.le_div_iff_mul_le (by omega), Nat.add_mul]
  omega
theorem chs_le120 {cs c : Nat} (h1 : 1 ≤ cs) (h0 : 1 ≤ c) (hc : c ≤ 120) : chs cs c ≤ 120 := by
  have : ¬ 120 < chs cs c := by
    intro h
    have := (chs_lt h1 h0).mp h
    have : 120 * 1 ≤ 120 * cs := Nat.mul_le_mul_left 120 h1
    omega
  omega
theorem rof_low {N ch cs k j : Nat} (Z : Nat) (hk : k < j) (hj : j < N) : rof N ch cs (ch ^ (N - 1 - k) * Z) j = 0 := by
  unfold rof dg
  have e : ch ^ (N - 1 - k) * Z = ch ^ (N - 1 - j) * (ch * (ch ^ (j - k - 1) * Z)) := by
    rw [show N - 1 - k = N - 1 - j + ((j - k - 1) + 1) by omega, Nat.pow_add, Nat.pow_succ, Nat.mul_assoc, Nat.mul_comm (ch ^ (j - k - 1)) ch, Nat.mul_assoc]
  rw [e]
  by_cases h0 : ch = 0
  · subst h0
    rw [Nat.zero_mul, Nat.mul_zero, Nat.zero_div, Nat.zero_mod, Nat.zero_mul]
  · rw [Nat.mul_div_cancel_left _ (Nat.pow_pos (by omega)), Nat.mul_mod_right, Nat.zero_mul]
theorem rof_lt {N cs c r k : Nat} (h1 : 1 ≤ cs) (hc : 1 ≤ c) : rof N (chs cs c) cs r k < c := (chs_lt h1 hc).mp (dg_lt (chs_pos h1 hc))
theorem rof_0 {N ch cs k : Nat} : rof N ch cs 0 k = 0 := by
  unfold rof dg
  rw [Nat.zero_div, Nat.zero_mod, Nat.zero_mul]
theorem rof_blk {N ch cs s k j : Nat} (Z : Nat) (hj : j ≤ k) (hk : k + 1 ≤ N) (hs : s < ch ^ (N - 1 - k)) : rof N ch cs (ch ^ (N - 1 - k) * Z + s) j = rof N ch cs (ch ^ (N - 1 - k) * Z) j := by
  unfold rof
  rw [show N - 1 - j = N - 1 - k + (k - j) by omega, dg_blk Z _ hs]
theorem rof_at {N ch cs x k : Nat} (Y : Nat) (hx : x < ch) : rof N ch cs (ch ^ (N - 1 - k) * (ch * Y + x)) k = x * cs := by
  unfold rof
  rw [dg_at Y hx]
theorem rof_up {N ch cs x k j : Nat} (Y : Nat) (hx : x < ch) (hj : j < k) (hk : k + 1 ≤ N) : rof N ch cs (ch ^ (N - 1 - k) * (ch * Y + x)) j = rof N ch cs (ch ^ (N - 1 - k) * (ch * Y)) j := by
  have hp : 0 < ch ^ (N - 1 - k) := Nat.pow_pos (by omega)
  have e1 : ch ^ (N - 1 - (k - 1)) = ch ^ (N - 1 - k) * ch := by
    rw [show N - 1 - (k - 1) = N - 1 - k + 1 by omega, Nat.pow_succ]
  have h := rof_blk (N := N) (ch := ch) (cs := cs) (s := ch ^ (N - 1 - k) * x) (k := k - 1) (j := j) Y (by omega) (by omega) (by rw [e1]; exact Nat.mul_lt_mul_of_pos_left hx hp)
  rw [e1] at h
  rw [Nat.mul_add, ← Nat.mul_assoc]
  exact h
/-- a cycle (0: none yet), a score and offsets -/
def stS (c : Nat) (s : Int) (o : Nat → Nat) (st : Nat × Int × (Nat → Nat)) : Nat × Int × (Nat → Nat) := if st.1 = 0 ∨ st.2.1 * (c : Int) < s * (st.1 : Int) then (c, s, o) else st
/-- the best of m rows from r on, the first of equals -/
def fl (Sf : Nat → Int) (of : Nat → Nat → Nat) (c : Nat) : Nat → Nat → Nat × Int × (Nat → Nat) → Nat × Int × (Nat → Nat)
  | 0, _, st => st
  | m + 1, r, st => fl Sf of c m (r + 1) (stS c (Sf r) (of r) st)
theorem fl_add (Sf : Nat → Int) (of : Nat → Nat → Nat) (c m2 : Nat) : ∀ m1 r st, fl Sf of c (m1 + m2) r st = fl Sf of c m2 (r + m1) (fl Sf of c m1 r st) := by
  intro m1
  induction m1 with
  | zero => intro r st; rw [Nat.zero_add]; rfl
  | succ m1 ih =>
    intro r st
    rw [show m1 + 1 + m2 = (m1 + m2) + 1 by omega]
    show fl Sf of c (m1 + m2) (r + 1) (stS c (Sf r) (of r) st) = fl Sf of c m2 (r + (m1 + 1)) (fl Sf of c m1 (r + 1) (stS c (Sf r) (of r) st))
    rw [ih, show r + 1 + m1 = r + (m1 + 1) by omega]
theorem fl_skip {Sf : Nat → Int} {of : Nat → Nat → Nat} {c : Nat} {st : Nat × Int × (Nat → Nat)} {U : Int} (h0 : st.1 ≠ 0) (hU : ¬ st.2.1 * (c : Int) < U * (st.1 : Int)) : ∀ m r, (∀ i, i < m → Sf (r + i) ≤ U) → fl Sf of c m r st = st := by
  intro m
  induction m with
  | zero => intro r _; rfl
  | succ m ih =>
    intro r h
    have hr := h 0 (by omega)
    rw [Nat.add_zero] at hr
    have hle : Sf r * (st.1 : Int) ≤ U * (st.1 : Int) := Int.mul_le_mul_of_nonneg_right hr (by omega)
    have e : stS c (Sf r) (of r) st = st := by
      unfold stS
      rw [if_neg]
      intro z
      rcases z with z | z
      · exact h0 z
      · omega
    show fl Sf of c m (r + 1) (stS c (Sf r) (of r) st) = st
    rw [e, ih (r + 1) (fun i hi => by have := h (i + 1) (by omega); rw [show r + 1 + i = r + (i + 1) by omega]; exact this)]
/-- what every state on the way keeps -/
theorem stS_inv (P : Nat × Int × (Nat → Nat) → Prop) {c : Nat} {s : Int} {o : Nat → Nat} {st : Nat × Int × (Nat → Nat)} (h1 : P (c, s, o)) (h2 : P st) : P (stS c s o st) := by
  unfold stS
  split
  · exact h1
  · exact h2
theorem fl_inv (P : Nat × Int × (Nat → Nat) → Prop) {Sf : Nat → Int} {of : Nat → Nat → Nat} {c : Nat} (h1 : ∀ r, P (c, Sf r, of r)) : ∀ m r st, P st → P (fl Sf of c m r st) := by
  intro m
  induction m with
  | zero => intro r st h; exact h
  | succ m ih => intro r st h; exact ih (r + 1) _ (stS_inv P (h1 r) h)
theorem fl_some {Sf : Nat → Int} {of : Nat → Nat → Nat} {c : Nat} (hc : c ≠ 0) (m r : Nat) (st : Nat × Int × (Nat → Nat)) (hm : 0 < m) : (fl Sf of c m r st).1 ≠ 0 := by
  obtain ⟨m, rfl⟩ : ∃ k, m = k + 1 := ⟨m - 1, by omega⟩
  refine fl_inv (fun s => s.1 ≠ 0) (fun r => hc) m (r + 1) _ ?_
  show (stS c (Sf r) (of r) st).1 ≠ 0
  unfold stS
  split
  · exact hc
  · rename_i h; exact fun z => h (Or.inl z)
/-- over the cycles x .. x + d - 1 that are tried, l rows in all -/
def ft (tr : Nat → Bool) (R : Nat → Nat) (Sf : Nat → Nat → Int) (of : Nat → Nat → Nat → Nat) : Nat → Nat → Nat → Nat × Int × (Nat → Nat) → Nat × Int × (Nat → Nat)
  | 0, _, _, st => st
  | d + 1, x, l, st => if tr x = true then ft tr R Sf of d (x + 1) (l - R x) (fl (Sf x) (of x) x (if R x ≤ l then R x else l) 0 st) else ft tr R Sf of d (x + 1) l st
theorem ft_0 {tr : Nat → Bool} {R : Nat → Nat} {Sf : Nat → Nat → Int} {of : Nat → Nat → Nat → Nat} : ∀ d x st, ft tr R Sf of d x 0 st = st := by
  intro d
  induction d with
  | zero => intro x st; rfl
  | succ d ih =>
    intro x st
    show (if tr x = true then ft tr R Sf of d (x + 1) (0 - R x) (fl (Sf x) (of x) x (if R x ≤ 0 then R x else 0) 0 st) else ft tr R Sf of d (x + 1) 0 st) = st
    rw [Nat.zero_sub, show (if R x ≤ 0 then R x else 0) = 0 by split <;> omega, ih, ih]
    split <;> rfl
theorem ft_skip {tr : Nat → Bool} {R : Nat → Nat} {Sf : Nat → Nat → Int} {of : Nat → Nat → Nat → Nat} {l : Nat} {st : Nat × Int × (Nat → Nat)} : ∀ j x d, (∀ i, i < j → i < d → tr (x + i) = false) → ft tr R Sf of d x l st = ft tr R Sf of (d - j) (x + j) l st := by
  intro j
  induction j with
  | zero => intro x d _; rfl
  | succ j ih =>
    intro x d h
    cases d with
    | zero => rw [Nat.zero_sub]; rfl
    | succ d =>
      have h0 := h 0 (by omega) (by omega)
      rw [Nat.add_zero] at h0
      show (if tr x = true then ft tr R Sf of d (x + 1) (l - R x) (fl (Sf x) (of x) x (if R x ≤ l then R x else l) 0 st) else ft tr R Sf of d (x + 1) l st) = _
      rw [h0, if_neg (by decide), ih (x + 1) d (fun i h1 h2 => by have := h (i + 1) (by omega) (by omega); rw [show x + 1 + i = x + (i + 1) by omega]; exact this)]
      rw [show x + 1 + j = x + (j + 1) by omega, show d + 1 - (j + 1) = d - j by omega]
theorem ft_inv (P : Nat × Int × (Nat → Nat) → Prop) {tr : Nat → Bool} {R : Nat → Nat} {Sf : Nat → Nat → Int} {of : Nat → Nat → Nat → Nat} : ∀ d x l st, (∀ i r, i < d → tr (x + i) = true → P (x + i, Sf (x + i) r, of (x + i) r)) → P st → P (ft tr R Sf of d x l st) := by
  intro d
  induction d with
  | zero => intro x l st _ h; exact h
  | succ d ih =>
    intro x l st hP h
    have hP' : ∀ i r, i < d → tr (x + 1 + i) = true → P (x + 1 + i, Sf (x + 1 + i) r, of (x + 1 + i) r) := by
      intro i r hi ht
      rw [show x + 1 + i = x + (i + 1) by omega] at ht ⊢
      exact hP (i + 1) r (by omega) ht
    show P (if tr x = true then ft tr R Sf of d (x + 1) (l - R x) (fl (Sf x) (of x) x (if R x ≤ l then R x else l) 0 st) else ft tr R Sf of d (x + 1) l st)
    by_cases ht : tr x = true
    · rw [if_pos ht]
      exact ih _ _ _ hP' (fl_inv P (fun r => hP 0 r (by omega) ht) _ _ _ h)
    · rw [if_neg ht]
      exact ih _ _ _ hP' h
theorem ft_keep {tr : Nat → Bool} {R : Nat → Nat} {Sf : Nat → Nat → Int} {of : Nat → Nat → Nat → Nat} : ∀ d x l st, st.1 ≠ 0 → 0 < x → (ft tr R Sf of d x l st).1 ≠ 0 := by
  intro d x l st h hx
  exact ft_inv (fun s => s.1 ≠ 0) d x l st (fun i r _ _ => by show x + i ≠ 0; omega) h
theorem ft_some {tr : Nat → Bool} {R : Nat → Nat} {Sf : Nat → Nat → Int} {of : Nat → Nat → Nat → Nat} : ∀ d x l st, 0 < x → 0 < l → (∀ x, tr x = true → 0 < R x) → (∃ i, i < d ∧ tr (x + i) = true) → (ft tr R Sf of d x l st).1 ≠ 0 := by
  intro d
  induction d with
  | zero => intro x l st _ _ _ ⟨i, hi, _⟩; exact absurd hi (by omega)
  | succ d ih =>
    intro x l st hx hl hR ⟨i, hi, ht⟩
    show (if tr x = true then ft tr R Sf of d (x + 1) (l - R x) (fl (Sf x) (of x) x (if R x ≤ l then R x else l) 0 st) else ft tr R Sf of d (x + 1) l st).1 ≠ 0
    by_cases h : tr x = true
    · rw [if_pos h]
      have := hR x h
      exact ft_keep _ _ _ _ (fl_some (by omega) _ _ _ (by split <;> omega)) (by omega)
    · rw [if_neg h]
      cases i with
      | zero => rw [Nat.add_zero] at ht; exact absurd ht h
      | succ i => exact ih (x + 1) l st (by omega) hl hR ⟨i, by omega, by rw [show x + 1 + i = x + (i + 1) by omega]; exact ht⟩
