/-! the end of a run -/
def stOk (N : Nat) (l : Nat → Nat) (st : Nat × Int × (Nat → Nat)) : Prop := st.1 = 0 ∨ (10 ≤ st.1 ∧ st.1 ≤ 120 ∧ ∀ k, k < N → l k ≤ st.1 ∧ st.2.2 k < st.1)
theorem ft_ok {aim N c1 c2 cb cs : Nat} {g q l fs fw bs bw : Nat → Nat} (hs1 : 1 ≤ cs) {d x ll : Nat} (h1 : 10 ≤ x) (h2 : x + d ≤ 121) : stOk N l (ft (fun c => pg c1 c2 cb c && ac l c 0 N) (fun c => chs cs c ^ (N - 1)) (Sr aim N cs g q fs fw bs bw) (fun c => rof N (chs cs c) cs) d x ll (0, 0, fun _ => 0)) := by
  refine ft_inv (stOk N l) d x ll _ ?_ (Or.inl rfl)
  intro i r hi ht
  have ht' : (pg c1 c2 cb (x + i) && ac l (x + i) 0 N) = true := ht
  rw [Bool.and_eq_true] at ht'
  refine Or.inr ⟨?_, ?_, fun k hk => ⟨ac_all N 0 ht'.2 k (by omega) (by omega), rof_lt hs1 ?_⟩⟩
  · show 10 ≤ x + i; omega
  · show x + i ≤ 120; omega
  · omega
theorem b_runEnd {aim N : Nat} {l : Nat → Nat} {st : Nat × Int × (Nat → Nat)} {bsc z6 : Int64} {uc us z8 a0 saw : Int32} {uo offs : Nat → Int32} (hN : 2 ≤ N) (hc : crel N st bsc uc us uo) (hm : mrel aim N st z6 z8 offs) (h0 : st.1 ≠ 0) (hok : stOk N l st) (ha : a0 = 0 ∨ a0 = 1) (hs : saw = 0 ∨ saw = 1) : uc = z8 ∧ plR N l uc us a0 saw uo 1 z8 a0 saw offs := by
  obtain ⟨e1, _, e2⟩ := hc
  obtain ⟨m1, _, m2⟩ := hm
  obtain ⟨_, _, _, e3, e4⟩ := e2 h0
  obtain ⟨_, m3⟩ := m2 h0
  rcases hok with hz | ⟨k1, k2, k3⟩
  · exact absurd hz h0
  · exact ⟨by rw [e1, m1], Or.inr ⟨st.1, st.2.2, hN, e1, k1, k2, fun k hk => (k3 k hk).1, e3, rfl, m1, rfl, ha, rfl, hs, fun k hk => ⟨(k3 k hk).2, e4 k hk, m3 k hk⟩⟩⟩
