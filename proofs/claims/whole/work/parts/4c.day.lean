/-! the day: pairs of neighbours round the hours -/
section
variable (p : Nat → Bool)
def prs : Nat → Nat → Nat → List (Nat × Nat)
  | _, _, 0 => []
  | b, h, d + 1 => if p h = true then (b, h) :: prs h (h + 1) d else prs b (h + 1) d
def fnx : Nat → Nat → Nat
  | 0, x => x
  | k + 1, x => if p x = true then x else fnx k ((x + 1) % 24)
def mprs : Nat → Nat → List (Nat × Nat)
  | _, 0 => []
  | h, d + 1 => if p h = true then (h, fnx p 24 ((h + 1) % 24)) :: mprs (h + 1) d else mprs (h + 1) d
def lst : Nat → Nat → Nat → Nat
  | b, _, 0 => b
  | b, h, d + 1 => if p h = true then lst h (h + 1) d else lst b (h + 1) d
end
theorem fnx_skip {p : Nat → Bool} : ∀ (j k x : Nat), x < 24 → x + j ≤ 24 → (∀ i, i < j → p (x + i) = false) → fnx p (j + k) x = fnx p k ((x + j) % 24) := by
  intro j
  induction j with
  | zero => intro k x h1 _ _; rw [Nat.zero_add, Nat.add_zero, Nat.mod_eq_of_lt h1]
  | succ j ih =>
    intro k x h1 h2 h3
    rw [show j + 1 + k = (j + k) + 1 by omega]
    show (if p x = true then x else fnx p (j + k) ((x + 1) % 24)) = _
    have h0 := h3 0 (by omega)
    rw [Nat.add_zero] at h0
    rw [h0, if_neg (by decide)]
    by_cases hx : x + 1 < 24
    · rw [Nat.mod_eq_of_lt hx, ih k (x + 1) hx (by omega) (fun i hi => by
        rw [show x + 1 + i = x + (i + 1) by omega]; exact h3 (i + 1) (by omega)), show x + 1 + j = x + (j + 1) by omega]
    · have : j = 0 := by omega
      subst this
      rw [Nat.zero_add]
theorem fnx_hit {p : Nat → Bool} {x : Nat} (h : p x = true) : ∀ k, fnx p k x = x := by
  intro k
  cases k with
  | zero => rfl
  | succ k => show (if p x = true then x else _) = x; rw [if_pos h]
/-- the next hour, where it is found behind b -/
theorem nx_ahead {p : Nat → Bool} {b h : Nat} (h1 : b < h) (h2 : h < 24) (hp : p h = true) (hn : ∀ i, b < i → i < h → p i = false) : fnx p 24 ((b + 1) % 24) = h := by
  rw [Nat.mod_eq_of_lt (by omega), show 24 = (h - (b + 1)) + (24 - (h - (b + 1))) by omega, fnx_skip (h - (b + 1)) _ (b + 1) (by omega) (by omega) (fun i hi => hn _ (by omega) (by omega)), show b + 1 + (h - (b + 1)) = h by omega, Nat.mod_eq_of_lt h2, fnx_hit hp]
theorem nx_round {p : Nat → Bool} {b f : Nat} (h1 : f ≤ b) (h2 : b < 24) (hp : p f = true) (hn : ∀ i, b < i → i < 24 → p i = false) (hn2 : ∀ i, i < f → p i = false) : fnx p 24 ((b + 1) % 24) = f := by
  have key : ∀ k, f ≤ k → fnx p k 0 = f := by
    intro k hk
    rw [show k = f + (k - f) by omega, fnx_skip f _ 0 (by omega) (by omega) (fun i hi => by rw [Nat.zero_add]; exact hn2 i hi), Nat.zero_add, Nat.mod_eq_of_lt (by omega), fnx_hit hp]
  by_cases hb : b + 1 < 24
  · rw [Nat.mod_eq_of_lt hb, show 24 = (24 - (b + 1)) + (b + 1) by omega, fnx_skip (24 - (b + 1)) _ (b + 1) (by omega) (by omega) (fun i hi => hn _ (by omega) (by omega)), show b + 1 + (24 - (b + 1)) = 24 by omega, Nat.mod_self]
    exact key _ (by omega)
  · rw [show b + 1 = 24 by omega, Nat.mod_self]
    exact key _ (by omega)
theorem prs_round {p : Nat → Bool} {f : Nat} (hf : p f = true) (hff : ∀ i, i < f → p i = false) : ∀ (d b h : Nat), h + d = 24 → f ≤ b → b < h → (∀ i, b < i → i < h → p i = false) → (b, fnx p 24 ((b + 1) % 24)) :: mprs p h d = prs p b h d ++ [(lst p b h d, f)] := by
  intro d
  induction d with
  | zero =>
    intro b h e h1 h2 h3
    rw [nx_round h1 (by omega) hf (fun i a c => h3 i a (by omega)) hff]
    rfl
  | succ d ih =>
    intro b h e h1 h2 h3
    show (b, fnx p 24 ((b + 1) % 24)) :: (if p h = true then (h, fnx p 24 ((h + 1) % 24)) :: mprs p (h + 1) d else mprs p (h + 1) d) = (if p h = true then (b, h) :: prs p h (h + 1) d else prs p b (h + 1) d) ++ [(if p h = true then lst p h (h + 1) d else lst p b (h + 1) d, f)]
    cases hp : p h with
    | true =>
      simp only [if_true]
      rw [nx_ahead h2 (by omega) hp h3, ih h (h + 1) (by omega) (by omega) (by omega) (fun i a c => by omega)]
      rfl
    | false =>
      simp only [Bool.false_eq_true, if_false]
      exact ih b (h + 1) (by omega) h1 (by omega) (fun i a c => by
        by_cases hi : i = h
        · rw [hi]; exact hp
        · exact h3 i a (by omega))
theorem prs_skip {p : Nat → Bool} : ∀ (j b h d : Nat), (∀ i, i < j → p (h + i) = false) → prs p b h (j + d) = prs p b (h + j) d ∧ mprs p h (j + d) = mprs p (h + j) d ∧ lst p b h (j + d) = lst p b (h + j) d := by
  intro j
  induction j with
  | zero => intro b h d _; rw [Nat.zero_add]; exact ⟨rfl, rfl, rfl⟩
  | succ j ih =>
    intro b h d hh
    have h0 := hh 0 (by omega)
    rw [Nat.add_zero] at h0
    have := ih b (h + 1) d (fun i hi => by rw [show h + 1 + i = h + (i + 1) by omega]; exact hh (i + 1) (by omega))
    rw [show h + 1 + j = h + (j + 1) by omega] at this
    rw [show j + 1 + d = (j + d) + 1 by omega]
    refine ⟨?_, ?_, ?_⟩
    · show (if p h = true then _ else prs p b (h + 1) (j + d)) = _
      rw [h0, if_neg (by decide)]; exact this.1
    · show (if p h = true then _ else mprs p (h + 1) (j + d)) = _
      rw [h0, if_neg (by decide)]; exact this.2.1
    · show (if p h = true then _ else lst p b (h + 1) (j + d)) = _
      rw [h0, if_neg (by decide)]; exact this.2.2
def res (C : Nat → Nat → Int64) : Int64 → List (Nat × Nat) → Int64
  | s, [] => s
  | s, x :: L => if C x.1 x.2 = -1 then -1 else res C (s + C x.1 x.2) L
def csum (C : Nat → Nat → Int64) : List (Nat × Nat) → Int64
  | [] => 0
  | x :: L => C x.1 x.2 + csum C L
theorem res_eq (C : Nat → Nat → Int64) : ∀ (L : List (Nat × Nat)) (s : Int64), res C s L = if (∃ x, x ∈ L ∧ C x.1 x.2 = -1) then -1 else s + csum C L := by
  intro L
  induction L with
  | nil => intro s; rw [if_neg (fun ⟨x, hx, _⟩ => by cases hx)]; show s = s + 0; rw [Int64.add_zero]
  | cons x L ih =>
    intro s
    show (if C x.1 x.2 = -1 then -1 else res C (s + C x.1 x.2) L) = _
    by_cases hx : C x.1 x.2 = -1
    · rw [if_pos hx, if_pos ⟨x, List.mem_cons_self .., hx⟩]
    · rw [if_neg hx, ih]
      by_cases hL : ∃ x, x ∈ L ∧ C x.1 x.2 = -1
      · rw [if_pos hL, if_pos]
        obtain ⟨y, hy, hy2⟩ := hL
        exact ⟨y, List.mem_cons_of_mem _ hy, hy2⟩
      · rw [if_neg hL, if_neg]
        · show s + C x.1 x.2 + csum C L = s + (C x.1 x.2 + csum C L)
          rw [Int64.add_assoc]
        · rintro ⟨y, hy, hy2⟩
          rcases List.mem_cons.mp hy with rfl | hy
          · exact hx hy2
          · exact hL ⟨y, hy, hy2⟩
theorem csum_app (C : Nat → Nat → Int64) (L : List (Nat × Nat)) (y : Nat × Nat) : csum C (L ++ [y]) = C y.1 y.2 + csum C L := by
  induction L with
  | nil => rfl
  | cons x L ih =>
    show C x.1 x.2 + csum C (L ++ [y]) = C y.1 y.2 + (C x.1 x.2 + csum C L)
    rw [ih, ← Int64.add_assoc, ← Int64.add_assoc, Int64.add_comm (C x.1 x.2)]
theorem res_rot (C : Nat → Nat → Int64) (s : Int64) (L : List (Nat × Nat)) (y : Nat × Nat) : res C s (L ++ [y]) = res C s (y :: L) := by
  rw [res_eq, res_eq, csum_app]
  have : (∃ x, x ∈ L ++ [y] ∧ C x.1 x.2 = -1) ↔ (∃ x, x ∈ y :: L ∧ C x.1 x.2 = -1) := by
    constructor <;> rintro ⟨x, hx, h⟩ <;> refine ⟨x, ?_, h⟩ <;> simp at hx ⊢ <;> exact hx.symm
  by_cases hz : ∃ x, x ∈ y :: L ∧ C x.1 x.2 = -1
  · rw [if_pos (this.mpr hz), if_pos hz]
  · rw [if_neg (fun q => hz (this.mp q)), if_neg hz]
    rfl
theorem hc_first {p : Nat → Bool} : ∀ d i, 1 ≤ hc p i d → ∃ f, i ≤ f ∧ f < i + d ∧ p f = true ∧ ∀ j, i ≤ j → j < f → p j = false := by
  intro d
  induction d with
  | zero => intro i h; exact absurd h (by show ¬ 1 ≤ 0; omega)
  | succ d ih =>
    intro i h
    cases hp : p i with
    | true => exact ⟨i, by omega, by omega, hp, fun j _ _ => by omega⟩
    | false =>
      have h2 : 1 ≤ hc p (i + 1) d := by
        have : hc p i (d + 1) = (if p i = true then 1 else 0) + hc p (i + 1) d := rfl
        rw [this, hp] at h
        simpa using h
      obtain ⟨f, a, b, c, e⟩ := ih (i + 1) h2
      refine ⟨f, by omega, by omega, c, fun j hj hj2 => ?_⟩
      by_cases hij : j = i
      · rw [hij]; exact hp
      · exact e j (by omega) hj2
theorem b_last4 (n : Nat) (T : Nat → Option (Int32 × Int32 × (Nat → Int32))) : ∀ (d i fu : Nat) (z : Int32), i + d = 24 → d < fu → ∃ r, p_Tt_lastPlanned_4 n fu T z (nI i) = some r ∧ (∀ b, z = nI b → r = nI (lst (fun h => (T h).isSome) b i d)) ∧ (1 ≤ hc (fun h => (T h).isSome) i d → ∀ b, r = nI (lst (fun h => (T h).isSome) b i d)) := by
  intro d
  induction d with
  | zero =>
    intro i fu z hi hk
    obtain ⟨k', rfl⟩ : ∃ k', fu = k' + 1 := ⟨fu - 1, by omega⟩
    rw [q_Tt_lastPlanned_4, if_pos (show (24 : Int32) ≤ nI i from nI_le (a := 24) (by omega) (by omega))]
    exact ⟨z, rfl, fun b e => e, fun h => absurd h (by show ¬ 1 ≤ 0; omega)⟩
  | succ d ih =>
    intro i fu z hi hk
    obtain ⟨k', rfl⟩ : ∃ k', fu = k' + 1 := ⟨fu - 1, by omega⟩
    rw [q_Tt_lastPlanned_4, if_neg (show ¬ (24 : Int32) ≤ nI i from nI_ge (b := 24) (by omega) (by omega)), if_pos (b_in (by omega) (by omega)), nI_clamp (by omega), nI_1]
    have el : ∀ b, lst (fun h => (T h).isSome) b i (d + 1) = if (T i).isSome = true then lst (fun h => (T h).isSome) i (i + 1) d else lst (fun h => (T h).isSome) b (i + 1) d := fun b => rfl
    have eh : hc (fun h => (T h).isSome) i (d + 1) = (if (T i).isSome = true then 1 else 0) + hc (fun h => (T h).isSome) (i + 1) d := rfl
    cases hT : T i with
    | none =>
      obtain ⟨r, e1, e2, e3⟩ := ih (i + 1) k' z (by omega) (by omega)
      refine ⟨r, e1, fun b eb => ?_, fun h b => ?_⟩
      · rw [el, hT]; exact e2 b eb
      · rw [el, hT]
        rw [eh, hT] at h
        exact e3 (by simpa using h) b
    | some w =>
      obtain ⟨r, e1, e2, e3⟩ := ih (i + 1) k' (nI i) (by omega) (by omega)
      refine ⟨r, e1, fun b eb => ?_, fun h b => ?_⟩
      · rw [el, hT]; exact e2 i rfl
      · rw [el, hT]; exact e2 i rfl
theorem b_day21 (n : Nat) (T : Nat → Option (Int32 × Int32 × (Nat → Int32))) (N : Nat) (C : Nat → Nat → Int64) (hC : ∀ a b, p_Tt_changeCost n (nI a) (nI b) (nI N) T = some (C a b)) :
    ∀ (d i fu b : Nat) (s : Int64), i + d = 24 → d < fu → p_Tt_dayCost_21 n fu T (nI N) s (nI b) (nI i) = some (res C s (prs (fun h => (T h).isSome) b i d)) := by
  intro d
  induction d with
  | zero =>
    intro i fu b s hi hk
    obtain ⟨k', rfl⟩ : ∃ k', fu = k' + 1 := ⟨fu - 1, by omega⟩
    rw [q_Tt_dayCost_21, if_pos (show (24 : Int32) ≤ nI i from nI_le (a := 24) (by omega) (by omega))]
    rfl
  | succ d ih =>
    intro i fu b s hi hk
    obtain ⟨k', rfl⟩ : ∃ k', fu = k' + 1 := ⟨fu - 1, by omega⟩
    rw [q_Tt_dayCost_21, if_neg (show ¬ (24 : Int32) ≤ nI i from nI_ge (b := 24) (by omega) (by omega)), if_pos (b_in (by omega) (by omega)), nI_clamp (by omega), nI_1]
    have el : prs (fun h => (T h).isSome) b i (d + 1) = if (T i).isSome = true then (b, i) :: prs (fun h => (T h).isSome) i (i + 1) d else prs (fun h => (T h).isSome) b (i + 1) d := rfl
    rw [el]
    cases hT : T i with
    | none => exact ih (i + 1) k' b s (by omega) (by omega)
    | some w =>
      show ((p_Tt_changeCost n (nI b) (nI i) (nI N) T).bind _) = some (if C b i = -1 then -1 else res C (s + C b i) _)
      rw [hC, Option.bind_some]
      simp only [lg_cmp_eq]
      by_cases hm : C b i = -1
      · rw [if_pos hm, if_pos hm]
      · rw [if_neg hm, if_neg hm]
        exact ih (i + 1) k' i _ (by omega) (by omega)
theorem b_day40 (n : Nat) (hcr : Nat → Int32) (p : Nat → Bool) (hp : ∀ h, h < 24 → (hcr h = 0 ↔ p h = false)) (z1 : Int64) (z3 : Int32) :
    ∀ (k x fu : Nat), x < 24 → p (fnx p k x) = true → k < fu → p_Mo_day_40 n fu hcr z1 z3 (nI x) = some (nI (fnx p k x)) := by
  intro k
  induction k with
  | zero =>
    intro x fu hx h1 h2
    obtain ⟨m, rfl⟩ : ∃ m, fu = m + 1 := ⟨fu - 1, by omega⟩
    have h1' : p x = true := h1
    rw [q_Mo_day_40, if_pos (b_in hx (by omega)), nI_clamp (by omega), if_neg (fun q => by
      have := (hp x hx).mp q
      rw [h1'] at this; exact absurd this (by decide))]
    rfl
  | succ k ih =>
    intro x fu hx h1 h2
    obtain ⟨m, rfl⟩ : ∃ m, fu = m + 1 := ⟨fu - 1, by omega⟩
    rw [q_Mo_day_40, if_pos (b_in hx (by omega)), nI_clamp (by omega)]
    have el : fnx p (k + 1) x = if p x = true then x else fnx p k ((x + 1) % 24) := rfl
    cases hx2 : p x with
    | true =>
      rw [if_neg (fun q => by
        have := (hp x hx).mp q
        rw [hx2] at this; exact absurd this (by decide)), el, hx2]
      rfl
    | false =>
      rw [el, hx2, if_neg (by decide)] at h1
      rw [if_pos ((hp x hx).mpr hx2), el, hx2, if_neg (by decide), nI_1, show (24 : Int32) = nI 24 from rfl, pk_rem (by omega) (by omega) (by omega)]
      exact ih _ m (Nat.mod_lt _ (by omega)) h1 (by omega)
theorem b_day14 (n : Nat) (hn : 100 ≤ n) (hcr hcy hof : Nat → Int32) (p : Nat → Bool) (hp : ∀ h, h < 24 → (hcr h = 0 ↔ p h = false)) (hnx : ∀ h, h < 24 → p h = true → p (fnx p 24 ((h + 1) % 24)) = true) (N : Nat) (C : Nat → Nat → Int64) (hC : ∀ a b, p_Mo_change n (nI a) (nI b) (nI N) hcr hcy hof = some (C a b)) :
    ∀ (d i fu : Nat) (s : Int64), i + d = 24 → d < fu → p_Mo_day_14 n fu hcr (nI N) hcy hof s (nI i) = some (res C s (mprs p i d)) := by
  intro d
  induction d with
  | zero =>
    intro i fu s hi hk
    obtain ⟨k', rfl⟩ : ∃ k', fu = k' + 1 := ⟨fu - 1, by omega⟩
    rw [q_Mo_day_14, if_pos (show (24 : Int32) ≤ nI i from nI_le (a := 24) (by omega) (by omega))]
    rfl
  | succ d ih =>
    intro i fu s hi hk
    obtain ⟨k', rfl⟩ : ∃ k', fu = k' + 1 := ⟨fu - 1, by omega⟩
    rw [q_Mo_day_14, if_neg (show ¬ (24 : Int32) ≤ nI i from nI_ge (b := 24) (by omega) (by omega)), if_pos (b_in (by omega) (by omega)), nI_clamp (by omega), nI_1]
    have el : mprs p i (d + 1) = if p i = true then (i, fnx p 24 ((i + 1) % 24)) :: mprs p (i + 1) d else mprs p (i + 1) d := rfl
    rw [el]
    cases hx : p i with
    | false =>
      rw [if_pos ((hp i (by omega)).mpr hx)]
      exact ih (i + 1) k' s (by omega) (by omega)
    | true =>
      rw [if_neg (fun q => by
        have := (hp i (by omega)).mp q
        rw [hx] at this; exact absurd this (by decide)), show (24 : Int32) = nI 24 from rfl, pk_rem (by omega) (by omega) (by omega), b_day40 n hcr p hp s (nI i) 24 ((i + 1) % 24) n (Nat.mod_lt _ (by omega)) (hnx i (by omega) hx) (by omega), Option.bind_some, hC, Option.bind_some]
      show _ = some (if C i (fnx p 24 ((i + 1) % 24)) = -1 then -1 else res C (s + C i (fnx p 24 ((i + 1) % 24))) (mprs p (i + 1) d))
      simp only [lg_cmp_eq]
      by_cases hm : C i (fnx p 24 ((i + 1) % 24)) = -1
      · rw [if_pos hm, if_pos hm]
      · rw [if_neg hm, if_neg hm]
        exact ih (i + 1) k' _ (by omega) (by omega)
theorem nx_planned {p : Nat → Bool} : ∀ h, h < 24 → p h = true → p (fnx p 24 ((h + 1) % 24)) = true := by
  intro h hh hp
  have key : ∀ k x, x < 24 → (∃ j, j ≤ k ∧ p ((x + j) % 24) = true) → p (fnx p k x) = true := by
    intro k
    induction k with
    | zero =>
      rintro x hx ⟨j, hj, e⟩
      have : j = 0 := by omega
      subst this
      rw [Nat.add_zero, Nat.mod_eq_of_lt hx] at e
      exact e
    | succ k ih =>
      rintro x hx ⟨j, hj, e⟩
      show p (if p x = true then x else fnx p k ((x + 1) % 24)) = true
      cases hx2 : p x with
      | true => rw [if_pos rfl]; exact hx2
      | false =>
        rw [if_neg (by decide)]
        apply ih _ (Nat.mod_lt _ (by omega))
        cases j with
        | zero =>
          rw [Nat.add_zero, Nat.mod_eq_of_lt hx, hx2] at e
          exact absurd e (by decide)
        | succ j =>
          refine ⟨j, by omega, ?_⟩
          rw [Nat.mod_add_mod, show x + 1 + j = x + (j + 1) by omega]
          exact e
  apply key _ _ (Nat.mod_lt _ (by omega))
  refine ⟨23, by omega, ?_⟩
  rw [Nat.mod_add_mod, show h + 1 + 23 = h + 24 by omega, Nat.add_mod_right, Nat.mod_eq_of_lt hh]
  exact hp
