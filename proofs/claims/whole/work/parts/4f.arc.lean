/-! seconds modulo a cycle, arcs, and how many seconds are in them -/
def em (x : Int) (c : Nat) : Nat := (x % (c : Int)).toNat
theorem em_int (x : Int) {c : Nat} (h : 0 < c) : ((em x c : Nat) : Int) = x % (c : Int) := by
  unfold em
  have := Int.emod_nonneg x (b := (c : Int)) (by omega)
  omega
theorem em_lt (x : Int) {c : Nat} (h : 0 < c) : em x c < c := by
  have h1 := em_int x h
  have := Int.emod_lt_of_pos x (b := (c : Int)) (by omega)
  omega
theorem em_nat {t c : Nat} (h : t < c) : em (t : Int) c = t := by
  unfold em
  rw [Int.emod_eq_of_lt (by omega) (by omega)]; omega
theorem em_natmod (t c : Nat) : em (t : Int) c = t % c := by
  unfold em
  rw [← Int.natCast_emod]; rfl
theorem em_add (x y : Int) {c : Nat} (h : 0 < c) : em (x + y) c = if em x c + em y c < c then em x c + em y c else em x c + em y c - c := by
  have h1 := em_lt x h
  have h2 := em_lt y h
  have e : em (x + y) c = em (((em x c + em y c : Nat)) : Int) c := by
    unfold em
    have a := em_int x h
    have b := em_int y h
    unfold em at a b
    rw [Int.natCast_add, a, b, ← Int.add_emod]
  rw [e, em_natmod]
  by_cases hh : em x c + em y c < c
  · rw [if_pos hh, Nat.mod_eq_of_lt hh]
  · rw [if_neg hh, Nat.mod_eq_sub_mod (by omega), Nat.mod_eq_of_lt (by omega)]
theorem em_sub (x y : Int) {c : Nat} (h : 0 < c) : em (x - y) c = if em y c ≤ em x c then em x c - em y c else em x c + c - em y c := by
  have h1 := em_lt x h
  have h2 := em_lt y h
  have h3 := em_lt (x - y) h
  have e := em_add (x - y) y h
  rw [Int.sub_add_cancel] at e
  by_cases hh : em y c ≤ em x c
  · rw [if_pos hh]; split at e <;> omega
  · rw [if_neg hh]; split at e <;> omega
theorem em_neg (x : Int) {c : Nat} (h : 0 < c) : em (-x) c = if em x c = 0 then 0 else c - em x c := by
  have h1 := em_sub 0 x h
  have h2 : em 0 c = 0 := by unfold em; rw [Int.zero_emod]; rfl
  have h3 := em_lt x h
  rw [Int.zero_sub] at h1
  rw [h1, h2]
  by_cases hh : em x c = 0
  · rw [if_pos hh, if_pos (by omega)]; omega
  · rw [if_neg hh, if_neg (by omega)]; omega
theorem em_em_add (x y : Int) {c : Nat} (h : 0 < c) : em ((em x c : Int) + y) c = em (x + y) c := by
  rw [em_add _ _ h, em_add x y h, em_nat (em_lt x h)]
theorem em_em_sub (x y : Int) {c : Nat} (h : 0 < c) : em ((em x c : Int) - y) c = em (x - y) c := by
  rw [em_sub _ _ h, em_sub x y h, em_nat (em_lt x h)]
theorem em_sub_em (x y : Int) {c : Nat} (h : 0 < c) : em (x - (em y c : Int)) c = em (x - y) c := by
  rw [em_sub _ _ h, em_sub x y h, em_nat (em_lt y h)]
/-- in an arc of L seconds that begins at 0 -/
def ar (L c : Nat) (x : Int) : Bool := decide (em x c < L)
theorem ar_of {L c : Nat} {x y : Int} (h : em x c = em y c) : ar L c x = ar L c y := by unfold ar; rw [h]
/-- green, and past the queue, is an arc -/
theorem op_ar {g q c : Nat} (x : Int) (hq : q < g) (hg : g < c) : (decide (q ≤ em x c) && decide (em x c < g)) = ar (g - q) c (x - (q : Int)) := by
  have h1 := em_lt x (c := c) (by omega)
  have e := em_sub x (q : Int) (c := c) (by omega)
  rw [em_nat (show q < c by omega)] at e
  unfold ar
  rw [← Bool.decide_and]
  apply decide_eq_decide.mpr
  rw [e]
  split <;> omega
theorem cnt_lt (L : Nat) : ∀ d, cnt (fun i => decide (i < L)) d = if d ≤ L then d else L := by
  intro d
  induction d with
  | zero => rw [if_pos (Nat.zero_le _)]; rfl
  | succ d ih =>
    show cnt _ d + (if decide (d < L) = true then 1 else 0) = _
    rw [ih]
    by_cases h : d < L
    · rw [if_pos (by omega), if_pos (decide_eq_true h), if_pos (by omega)]
    · rw [if_neg (show ¬ decide (d < L) = true from fun z => h (of_decide_eq_true z)), if_neg (show ¬ d + 1 ≤ L by omega)]; split <;> omega
theorem cnt_split (P Q : Nat → Bool) : ∀ d, cnt (fun i => P i && !Q i) d + cnt (fun i => P i && Q i) d = cnt P d := by
  intro d
  induction d with
  | zero => rfl
  | succ d ih =>
    show (cnt _ d + (if (P d && !Q d) = true then 1 else 0)) + (cnt _ d + (if (P d && Q d) = true then 1 else 0)) = cnt P d + (if P d = true then 1 else 0)
    rw [← ih]
    cases P d <;> cases Q d <;> simp <;> omega
/-- the seconds that two arcs share, in closed form -/
def shd (L M a c : Nat) : Nat := (if L ≤ a then 0 else if L - a ≤ M then L - a else M) + (if a + M ≤ c then 0 else if a + M - c ≤ L then a + M - c else L)
theorem shd_le {L M a c : Nat} (hL : L < c) (hM : M < c) (ha : a < c) : shd L M a c ≤ L := by
  unfold shd
  split <;> split <;> (try split) <;> (try split) <;> omega
theorem cnt_shared {L M a c : Nat} (hL : L < c) (hM : M < c) (ha : a < c) : cnt (fun u => decide (u < L) && ar M c ((u : Int) - (a : Int))) c = shd L M a c := by
  have key : ∀ d, d ≤ c → cnt (fun u => decide (u < L) && ar M c ((u : Int) - (a : Int))) d =
      (if d ≤ a ∨ L ≤ a then 0 else if (if d ≤ L then d else L) - a ≤ M then (if d ≤ L then d else L) - a else M) +
      (if a + M ≤ c then 0 else if a + M - c ≤ (if d ≤ L then d else L) then a + M - c else (if d ≤ L then d else L)) := by
    intro d
    induction d with
    | zero => intro _; rw [if_pos (Or.inl (Nat.zero_le _)), if_pos (Nat.zero_le _)]; show 0 = _; split <;> (try split) <;> omega
    | succ d ih =>
      intro hd
      have e := em_sub (d : Int) (a : Int) (c := c) (by omega)
      rw [em_nat (show d < c by omega), em_nat ha] at e
      have ih := ih (by omega)
      show cnt _ d + (if (decide (d < L) && ar M c ((d : Int) - (a : Int))) = true then 1 else 0) = _
      rw [ih]
      have ep : ((decide (d < L) && ar M c ((d : Int) - (a : Int))) = true) ↔ (d < L ∧ (if a ≤ d then d - a else d + c - a) < M) := by
        unfold ar
        rw [e, Bool.and_eq_true, decide_eq_true_iff, decide_eq_true_iff]
      by_cases hp : d < L ∧ (if a ≤ d then d - a else d + c - a) < M
      · rw [if_pos (ep.mpr hp)]
        obtain ⟨p1, p2⟩ := hp
        rw [if_pos (show d ≤ L by omega), if_pos (show d + 1 ≤ L by omega)]
        by_cases hda : a ≤ d
        · rw [if_pos hda] at p2
          rw [if_neg (show ¬ (d + 1 ≤ a ∨ L ≤ a) by omega), if_pos (show d + 1 - a ≤ M by omega), if_pos (show d - a ≤ M by omega)]
          by_cases hca : a + M ≤ c
          · rw [if_pos hca]; split <;> omega
          · rw [if_neg hca, if_pos (show a + M - c ≤ d by omega), if_pos (show a + M - c ≤ d + 1 by omega)]; split <;> omega
        · rw [if_neg hda] at p2
          rw [if_pos (show d ≤ a ∨ L ≤ a by omega), if_pos (show d + 1 ≤ a ∨ L ≤ a by omega), if_neg (show ¬ a + M ≤ c by omega), if_neg (show ¬ a + M ≤ c by omega), if_neg (show ¬ a + M - c ≤ d by omega)]
          split <;> omega
      · rw [if_neg (fun z => hp (ep.mp z))]
        by_cases hL : d < L
        · rw [if_pos (show d ≤ L by omega), if_pos (show d + 1 ≤ L by omega)]
          have p2 : ¬ (if a ≤ d then d - a else d + c - a) < M := fun z => hp ⟨hL, z⟩
          by_cases hda : a ≤ d
          · rw [if_pos hda] at p2
            rw [if_neg (show ¬ (d + 1 ≤ a ∨ L ≤ a) by omega), if_neg (show ¬ d + 1 - a ≤ M by omega)]
            by_cases hca : a + M ≤ c
            · rw [if_pos hca, if_pos hca]; split <;> (try split) <;> omega
            · rw [if_neg hca, if_neg hca, if_pos (show a + M - c ≤ d by omega), if_pos (show a + M - c ≤ d + 1 by omega)]; split <;> (try split) <;> omega
          · rw [if_neg hda] at p2
            rw [if_pos (show d ≤ a ∨ L ≤ a by omega), if_pos (show d + 1 ≤ a ∨ L ≤ a by omega)]
            by_cases hca : a + M ≤ c
            · rw [if_pos hca, if_pos hca]
            · rw [if_neg hca, if_neg hca, if_pos (show a + M - c ≤ d by omega), if_pos (show a + M - c ≤ d + 1 by omega)]; omega
        · rw [show (if d ≤ L then d else L) = L by split <;> omega, if_neg (show ¬ d + 1 ≤ L by omega), Nat.add_zero]
          by_cases hla : L ≤ a
          · rw [if_pos (Or.inr hla), if_pos (Or.inr hla)]
          · rw [if_neg (show ¬ (d ≤ a ∨ L ≤ a) by omega), if_neg (show ¬ (d + 1 ≤ a ∨ L ≤ a) by omega)]
  rw [key c (Nat.le_refl _), if_neg (show ¬ c ≤ L by omega)]
  unfold shd
  by_cases hla : L ≤ a
  · rw [if_pos (Or.inr hla), if_pos hla]
  · rw [if_neg (show ¬ (c ≤ a ∨ L ≤ a) by omega), if_neg hla]
/-- what goes round with the cycle is counted alike from any second on -/
theorem cnt_rot (P : Nat → Bool) (x : Int) {c : Nat} (h : 0 < c) : cnt (fun t => P (em ((t : Int) + x) c)) c = cnt P c := by
  have hr := em_lt x h
  have e1 := cnt_add (fun t => P (em ((t : Int) + x) c)) (c - em x c) (em x c)
  rw [show c - em x c + em x c = c by omega] at e1
  have e2 := cnt_add P (em x c) (c - em x c)
  rw [show em x c + (c - em x c) = c by omega] at e2
  have f1 : cnt (fun t => P (em ((t : Int) + x) c)) (c - em x c) = cnt (fun i => P (em x c + i)) (c - em x c) := by
    apply cnt_congr
    intro i hi
    show P (em ((i : Int) + x) c) = P (em x c + i)
    rw [em_add _ _ h, em_nat (show i < c by omega), if_pos (by omega), Nat.add_comm]
  have f2 : cnt (fun i => P (em (((c - em x c + i : Nat) : Int) + x) c)) (em x c) = cnt P (em x c) := by
    apply cnt_congr
    intro i hi
    show P (em (((c - em x c + i : Nat) : Int) + x) c) = P i
    rw [em_add _ _ h, em_nat (show c - em x c + i < c by omega), if_neg (by omega)]
    congr 1; omega
  rw [e1, e2, f1]
  show _ + cnt (fun i => P (em (((c - em x c + i : Nat) : Int) + x) c)) (em x c) = _
  rw [f2, Nat.add_comm]
/-- the cars of an arc of L that come s seconds later to an arc of M and find it closed -/
theorem cnt_stops {L M c : Nat} (a b s : Int) (hL : L < c) (hM : M < c) : cnt (fun t => ar L c ((t : Int) - a) && !ar M c ((t : Int) + s - b)) c = L - shd L M (em (b - a - s) c) c := by
  have h : 0 < c := by omega
  have e := cnt_rot (fun u => decide (u < L) && !ar M c ((u : Int) - (em (b - a - s) c : Int))) (-a) h
  have f : cnt (fun t => ar L c ((t : Int) - a) && !ar M c ((t : Int) + s - b)) c = cnt (fun t => (fun u => decide (u < L) && !ar M c ((u : Int) - (em (b - a - s) c : Int))) (em ((t : Int) + -a) c)) c := by
    apply cnt_congr
    intro t _
    show (ar L c ((t : Int) - a) && !ar M c ((t : Int) + s - b)) = (decide (em ((t : Int) + -a) c < L) && !ar M c ((em ((t : Int) + -a) c : Int) - (em (b - a - s) c : Int)))
    rw [show ar M c ((em ((t : Int) + -a) c : Int) - (em (b - a - s) c : Int)) = ar M c ((t : Int) + s - b) from ar_of (by
      rw [em_sub_em _ _ h, em_em_sub _ _ h]; congr 1; omega)]
    rfl
  rw [f, e]
  have g := cnt_split (fun u => decide (u < L)) (fun u => ar M c ((u : Int) - (em (b - a - s) c : Int))) c
  rw [cnt_shared hL hM (em_lt _ h), cnt_lt, if_neg (by omega)] at g
  have g2 : cnt (fun u => decide (u < L) && !ar M c ((u : Int) - (em (b - a - s) c : Int))) c + shd L M (em (b - a - s) c) c = L := g
  omega
/-- all of the first d -/
def al (P : Nat → Bool) : Nat → Bool
  | 0 => true
  | d + 1 => al P d && P d
theorem al_iff (P : Nat → Bool) : ∀ d, al P d = true ↔ ∀ k, k < d → P k = true := by
  intro d
  induction d with
  | zero => exact ⟨fun _ k hk => absurd hk (by omega), fun _ => rfl⟩
  | succ d ih =>
    show (al P d && P d) = true ↔ _
    rw [Bool.and_eq_true, ih]
    constructor
    · intro ⟨h1, h2⟩ k hk
      by_cases hkd : k = d
      · subst hkd; exact h2
      · exact h1 k (by omega)
    · intro h; exact ⟨fun k hk => h k (by omega), h d (by omega)⟩
theorem al_congr {P Q : Nat → Bool} (d : Nat) (h : ∀ k, k < d → P k = Q k) : al P d = al Q d := by
  apply Bool.eq_iff_iff.mpr
  rw [al_iff, al_iff]
  exact ⟨fun z k hk => by rw [← h k hk]; exact z k hk, fun z k hk => by rw [h k hk]; exact z k hk⟩
