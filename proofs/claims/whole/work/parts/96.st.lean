/-! ===== one shape changes; a kid's shape is known ===== -/
section STs
variable {M : zM} {xs : List JR} {t : Int} {st : SS}
theorem rC_upd {M2 : zM} (hC : rC M t xs st) (hU : kU st) {i : Nat} {n n' : SN} (hi : st.ns[i]? = some n) (hk : n'.ps.map (fun q => q.kn) = n.ps.map (fun q => q.kn))
    (hf : ∀ a j : Int, ¬ (t + 9 ≤ a ∧ a ≤ t + 14 ∧ j = ((6 + i : Nat) : Int)) → ¬ (t + 15 ≤ a ∧ a ≤ t + 18 ∧ ∃ q ∈ n.ps, j = (q.kn : Int)) → M2 a j = M a j) (hn' : rN M2 t xs n' (6 + i)) : rC M2 t xs (st.lk, st.kc, nPut st.ns (6 + i) n', st.lt) := by
  obtain ⟨⟨a1, a2, a3, a4⟩, h6, hns, hft, l1, l2, l3, l4⟩ := hC
  obtain ⟨u1, u2, u3⟩ := hU
  have hil := (List.getElem?_eq_some_iff.mp hi).1
  have ens : nPut st.ns (6 + i) n' = st.ns.set i n' := by unfold nPut; rw [show 6 + i - 6 = i by omega]
  rw [ens]
  have sc : ∀ j : Int, M2 t j = M t j := fun j => hf _ _ (by omega) (by omega)
  refine ⟨⟨by rw [sc]; exact a1, ?_, by rw [sc]; exact a3, by rw [sc]; exact a4⟩, fun k hk9 => ?_, fun j m hm => ?_, fun k z hz => ?_, ?_, l2, l3, l4⟩
  · show M2 t 16 = ((6 + (st.ns.set i n').length : Nat) : Int)
    rw [List.length_set, sc]
    exact a2
  · obtain ⟨g1, g2, g3⟩ := h6 k hk9
    exact ⟨by rw [hf _ _ (by omega) (by omega)]; exact g1, by rw [hf _ _ (by omega) (by omega)]; exact g2, by rw [hf _ _ (by omega) (by omega)]; exact g3⟩
  · have hm2 : (st.ns.set i n')[j]? = some m := hm
    by_cases hji : j = i
    · subst hji
      rw [List.getElem?_set_self hil] at hm2
      cases hm2
      exact hn'
    · rw [List.getElem?_set_ne (fun e => hji e.symm)] at hm2
      refine (hns j m hm2).mono (fun a g1 g2 => hf _ _ (by omega) (by omega)) (fun q hq a g1 g2 => hf _ _ (by omega) (fun c => ?_))
      obtain ⟨-, -, r, r1, r2⟩ := c
      exact hji (u2 j i m n q r hm2 hi hq r1 (Int.ofNat.inj r2))
  · obtain ⟨q, g1, g2⟩ := hft k z hz
    have e19 : M2 (t + 19) (k : Int) = M (t + 19) k := hf _ _ (by omega) (by omega)
    by_cases hzi : z.1 = 6 + i
    · rw [hzi, nN_at hi] at g1
      have e1 : n'.ps[z.2.1]?.map (fun q => q.kn) = n.ps[z.2.1]?.map (fun q => q.kn) := by rw [← List.getElem?_map, ← List.getElem?_map, hk]
      rw [g1] at e1
      cases hq' : n'.ps[z.2.1]? with
      | none => rw [hq'] at e1; exact nomatch e1
      | some q' =>
        rw [hq'] at e1
        refine ⟨q', ?_, ?_⟩
        · show (nN (st.ns.set i n') z.1).ps[z.2.1]? = _
          rw [hzi, nN_at (List.getElem?_set_self hil)]
          exact hq'
        · rw [e19, g2]
          have : q'.kn = q.kn := Option.some.inj e1
          rw [this]
    · refine ⟨q, ?_, by rw [e19]; exact g2⟩
      have : nN (st.ns.set i n') z.1 = nN st.ns z.1 := by
        unfold nN
        by_cases c : z.1 < 6
        · rw [if_pos c, if_pos c]
        · rw [if_neg c, if_neg c, List.getD_eq_getElem?_getD, List.getD_eq_getElem?_getD, List.getElem?_set_ne (by omega)]
      show (nN (st.ns.set i n') z.1).ps[z.2.1]? = _
      rw [this]
      exact g1
  · show (st.ns.set i n').length ≤ st.lk
    rw [List.length_set]
    exact l1
theorem pSet_cons0 {q : SP} {r : List SP} {m : Nat} : pSet (q :: r) 0 m = (q.nm, some m, q.df, q.kn) :: r := rfl
theorem pSet_consS {q : SP} {r : List SP} {k m : Nat} : pSet (q :: r) (k + 1) m = q :: pSet r k m := rfl
theorem pSet_kn {m : Nat} : ∀ {ps : List SP} {k : Nat}, (pSet ps k m).map (fun q => q.kn) = ps.map (fun q => q.kn) := by
  intro ps
  induction ps with
  | nil => intro k; cases k <;> rfl
  | cons q r ih =>
    intro k
    cases k with
    | zero => rfl
    | succ k => rw [pSet_consS, List.map_cons, List.map_cons, ih]
theorem rCh_put {kd m : Nat} {q9 : SP} : ∀ {ps : List SP} {k : Nat} {h : Int}, rCh M t xs kd ps h → ps.Pairwise (fun q r => ¬ q.kn = r.kn) → ps[k]? = some q9 → rCh (zu M (t + 15) q9.kn m) t xs kd (pSet ps k m) h := by
  intro ps
  induction ps with
  | nil => intro k h _ _ hk; exact nomatch hk
  | cons a r ih =>
    intro k h hc hp hk
    obtain ⟨h1, h2, h3, h4⟩ := hc
    have hp2 := List.pairwise_cons.mp hp
    cases k with
    | zero =>
      simp only [List.getElem?_cons_zero, Option.some.injEq] at hk
      subst hk
      rw [pSet_cons0]
      refine ⟨h1, h2, ⟨fun m9 hm => ?_, fun c => ?_, fun c => ?_⟩, ?_⟩
      · cases hm
        exact zu_s _ _ _ _
      · obtain ⟨v, g1, g2⟩ := h3.2.1 c
        exact ⟨v, by rw [zu_a (by omega)]; exact g1, g2⟩
      · rw [zu_a (by omega)]; exact h3.2.2 c
      · show rCh _ t xs kd r (zu M (t + 15) a.kn m (t + 18) a.kn)
        rw [zu_a (by omega)]
        exact h4.mono (fun q hq b g1 g2 => if_neg (fun c => hp2.1 q hq (Int.ofNat.inj c.2).symm))
    | succ k =>
      simp only [List.getElem?_cons_succ] at hk
      rw [pSet_consS]
      have hne : ¬ a.kn = q9.kn := hp2.1 q9 (List.mem_of_getElem? hk)
      refine ⟨h1, h2, h3.mono (fun b g1 g2 => if_neg (fun c => hne (Int.ofNat.inj c.2))), ?_⟩
      show rCh _ t xs kd (pSet r k m) (zu M (t + 15) q9.kn m (t + 18) a.kn)
      rw [zu_a (by omega)]
      exact ih h4 hp2.2 hk
/-- a kid's shape is known -/
theorem rC_put (hC : rC M t xs st) (hU : kU st) {i k : Nat} {n : SN} {q : SP} (hi : st.ns[i]? = some n) (hq : n.ps[k]? = some q) (m : Nat) : rC (zu M (t + 15) q.kn m) t xs (sPut st (6 + i) k m) := by
  have hn := hC.2.2.1 i n hi
  have hp := hU.2.2 i n hi
  unfold sPut
  rw [nN_at hi]
  refine rC_upd hC hU hi pSet_kn (fun a j n1 n2 => if_neg (fun c => n2 ⟨by omega, by omega, q, List.mem_of_getElem? hq, c.2⟩)) ?_
  obtain ⟨h1, h2, h3, h4, h5, h6, h7⟩ := hn
  have e : ∀ (a j : Int), ¬ a = t + 15 → zu M (t + 15) q.kn m a j = M a j := fun a j h => zu_a h
  refine ⟨by rw [e _ _ (by omega)]; exact h1, fun c => by rw [e _ _ (by omega)]; exact h2 c, fun w v c => by rw [e _ _ (by omega)]; exact h3 w v c, ?_, ?_, fun c c2 => by rw [e _ _ (by omega)]; exact h6 c c2, fun c => by rw [e _ _ (by omega)]; exact h7 c⟩
  · show zu M (t + 15) q.kn m (t + 13) _ = ((pSet n.ps k m).length : Nat)
    rw [e _ _ (by omega), pSet_len]
    exact h4
  · show rCh _ t xs n.kd (pSet n.ps k m) (zu M (t + 15) q.kn m (t + 12) _)
    rw [e _ _ (by omega)]
    exact rCh_put h5 hp hq
/-- a shape's detail -/
theorem rC_det (hC : rC M t xs st) (hU : kU st) {i : Nat} {n : SN} (hi : st.ns[i]? = some n) {x : Int} {a : Int} (ha : (n.kd = 9 ∧ a = t + 11) ∨ (n.kd = 10 ∧ a = t + 14)) : rC (zu M a ((6 + i : Nat) : Int) x) t xs (sDet st (6 + i) x) := by
  have hn := hC.2.2.1 i n hi
  unfold sDet
  rw [nN_at hi]
  refine rC_upd hC hU hi (n' := (n.kd, n.nm, x, n.ct, n.ps)) rfl (fun b j n1 n2 => if_neg (fun c => n1 ⟨by omega, by omega, c.2⟩)) ?_
  obtain ⟨h1, h2, h3, h4, h5, h6, h7⟩ := hn
  have e : ∀ (b j : Int), ¬ b = t + 11 → ¬ b = t + 14 → zu M a ((6 + i : Nat) : Int) x b j = M b j := fun b j g1 g2 => zu_a (by omega)
  refine ⟨by rw [e _ _ (by omega) (by omega)]; exact h1, fun c => by rw [e _ _ (by omega) (by omega)]; exact h2 c, fun w v c => by rw [e _ _ (by omega) (by omega)]; exact h3 w v c, by rw [e _ _ (by omega) (by omega)]; exact h4, ?_, fun c c2 => ?_, fun c => ?_⟩
  · show rCh _ t xs n.kd n.ps (zu M a ((6 + i : Nat) : Int) x (t + 12) _)
    rw [e _ _ (by omega) (by omega)]
    exact h5.mono (fun q _ b g1 g2 => e _ _ (by omega) (by omega))
  · have hk9 : n.kd = 9 := c
    have ea : a = t + 11 := by omega
    rw [ea]
    exact zu_s _ _ _ _
  · have hk10 : n.kd = 10 := c
    have ea : a = t + 14 := by omega
    rw [ea]
    exact zu_s _ _ _ _
end STs
