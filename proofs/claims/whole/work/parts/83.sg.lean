/-! ===== the plan's further steps ===== -/
section SGs
variable {M : zM} {p : Int} {NU : Nat} {st : SS}
theorem sC_det (hC : sC M p NU st) (hp : 30 ≤ p) {i : Nat} {n : SN} (hi : st.ns[i]? = some n) (hk : ¬ (n.kd = 6 ∨ n.kd = 7)) (h9 : ¬ n.kd = 9) (hwi : M (p + 8) ((6 + i : Nat) : Int) = -1) (x : Int) : sC (zu M (p + 6) ((6 + i : Nat) : Int) x) p NU (sDet st (6 + i) x) := by
  have hn := hC.2.2.2.1 i n hi
  have h19 := hC.2.1.2.2.1
  have hl := hC.2.2.2.2.2.2.2.2.2.1
  unfold sDet
  rw [nN_at hi]
  refine sC_upd (M1 := zu M (p + 6) ((6 + i : Nat) : Int) x) hC hp hi (show SN.ct (n.kd, n.nm, x, n.ct, n.ps) = n.ct from rfl) (Nat.le_refl _) hl st.kc hwi (Or.inl ⟨(zu_a (by omega)).trans hwi, fun c => absurd c h9⟩) (fun a j _ n2 _ _ _ _ => if_neg n2) (by rw [zu_a (by omega)]; exact h19) ?_
  obtain ⟨h1, h2, h3, h4, h5, h6, h7⟩ := hn
  have e : ∀ (a j : Int), ¬ a = p + 6 → zu M (p + 6) ((6 + i : Nat) : Int) x a j = M a j := fun a j h => zu_a h
  refine ⟨by rw [e _ _ (by omega)]; exact h1, fun c => by rw [e _ _ (by omega)]; exact h2 c, fun w v c => by rw [e _ _ (by omega)]; exact (h3 w v c).mono (Nat.le_refl _) (fun _ _ _ => e _ _ (by omega)), by rw [e _ _ (by omega)]; exact h4, fun c => by rw [e _ _ (by omega)]; exact h5 c, fun c => absurd c hk, fun c => ⟨zu_s _ _ _ _, (h7 hk).2.1, fun k hk9 => ?_⟩⟩
  have := (h7 hk).2.2 k hk9
  show pC _ p NU n.kd (nTot (st.ns.take i) + k) n.ps[k]?
  cases hq : n.ps[k]? with
  | none =>
    rw [hq] at this
    show zu M (p + 6) ((6 + i : Nat) : Int) x (p + 16) _ = -1
    rw [e _ _ (by omega)]; exact this
  | some q =>
    rw [hq] at this
    obtain ⟨g1, g2, g3⟩ := this
    exact ⟨fun c => by rw [e _ _ (by omega)]; exact g1 c, fun c => by rw [e _ _ (by omega)]; exact (g2 c).mono (Nat.le_refl _) (fun _ _ _ => e _ _ (by omega)), fun m hm => by rw [e _ _ (by omega)]; exact g3 m hm⟩
/-- a fixed gets its size, and width -/
theorem sC_fx (hC : sC M p NU st) (hp : 30 ≤ p) {i : Nat} {n : SN} (hi : st.ns[i]? = some n) (hk : ¬ (n.kd = 6 ∨ n.kd = 7)) (h9 : n.kd = 9) (hwi : M (p + 8) ((6 + i : Nat) : Int) = -1) (x : Int) (h0 : 0 ≤ x) (h64 : x ≤ 64) : sC (zu (zu M (p + 6) ((6 + i : Nat) : Int) x) (p + 8) ((6 + i : Nat) : Int) x) p NU (sDet st (6 + i) x) := by
  have hn := hC.2.2.2.1 i n hi
  have h19 := hC.2.1.2.2.1
  have hl := hC.2.2.2.2.2.2.2.2.2.1
  unfold sDet
  rw [nN_at hi]
  refine sC_upd (M1 := zu (zu M (p + 6) ((6 + i : Nat) : Int) x) (p + 8) ((6 + i : Nat) : Int) x) hC hp hi (show SN.ct (n.kd, n.nm, x, n.ct, n.ps) = n.ct from rfl) (Nat.le_refl _) hl st.kc hwi (Or.inr ⟨x.toNat, by rw [zu_s, Int.toNat_of_nonneg h0], by omega, Or.inl ⟨h9, (Int.toNat_of_nonneg h0).symm⟩⟩) (fun a j _ n2 _ _ _ n8 => (if_neg n8).trans (if_neg n2)) (by rw [zu_a (by omega), zu_a (by omega)]; exact h19) ?_
  obtain ⟨h1, h2, h3, h4, h5, h6, h7⟩ := hn
  have e : ∀ (a j : Int), ¬ a = p + 6 → ¬ a = p + 8 → zu (zu M (p + 6) ((6 + i : Nat) : Int) x) (p + 8) ((6 + i : Nat) : Int) x a j = M a j := fun a j h h8 => (zu_a h8).trans (zu_a h)
  refine ⟨by rw [e _ _ (by omega) (by omega)]; exact h1, fun c => by rw [e _ _ (by omega) (by omega)]; exact h2 c, fun w v c => by rw [e _ _ (by omega) (by omega)]; exact (h3 w v c).mono (Nat.le_refl _) (fun _ _ _ => e _ _ (by omega) (by omega)), by rw [e _ _ (by omega) (by omega)]; exact h4, fun c => by rw [e _ _ (by omega) (by omega)]; exact h5 c, fun c => absurd c hk, fun c => ⟨(zu_a (by omega)).trans (zu_s _ _ _ _), (h7 hk).2.1, fun k hk9 => ?_⟩⟩
  have := (h7 hk).2.2 k hk9
  show pC _ p NU n.kd (nTot (st.ns.take i) + k) n.ps[k]?
  cases hq : n.ps[k]? with
  | none =>
    rw [hq] at this
    show zu (zu M (p + 6) ((6 + i : Nat) : Int) x) (p + 8) ((6 + i : Nat) : Int) x (p + 16) _ = -1
    rw [e _ _ (by omega) (by omega)]; exact this
  | some q =>
    rw [hq] at this
    obtain ⟨g1, g2, g3⟩ := this
    exact ⟨fun c => by rw [e _ _ (by omega) (by omega)]; exact g1 c, fun c => by rw [e _ _ (by omega) (by omega)]; exact (g2 c).mono (Nat.le_refl _) (fun _ _ _ => e _ _ (by omega) (by omega)), fun m hm => by rw [e _ _ (by omega) (by omega)]; exact g3 m hm⟩
/-- an array's or a map's only part; its node is not yet known -/
theorem sC_addA (hC : sC M p NU st) (hp : 30 ≤ p) {i : Nat} {n : SN} (hi : st.ns[i]? = some n) (hk : n.kd = 6 ∨ n.kd = 7) (hps : n.ps = []) : sC M p NU (sAdd st (6 + i) [] none none) := by
  have hn := hC.2.2.2.1 i n hi
  have h19 := hC.2.1.2.2.1
  have hl := hC.2.2.2.2.2.2.2.2.2.1
  unfold sAdd
  rw [nN_at hi]
  refine sC_upd (M1 := M) hC hp hi (show SN.ct (n.kd, n.nm, n.dt, n.ct, n.ps ++ [([], none, none, st.kc)]) = n.ct from rfl) (Nat.le_refl _) hl (st.kc + 1) (hC.2.2.2.2.2.2.2.2.2.2.2.2.none hi (fun c => by omega) (fun c => by omega)) (Or.inl ⟨hC.2.2.2.2.2.2.2.2.2.2.2.2.none hi (fun c => by omega) (fun c => by omega), fun (c : n.kd = 9) => by omega⟩) (fun a j _ _ _ _ _ _ => rfl) h19 ?_
  obtain ⟨h1, h2, h3, h4, h5, h6, h7⟩ := hn
  refine ⟨h1, h2, h3, h4, h5, fun c => ⟨(h6 c).1, fun q m g1 g2 => ?_⟩, fun c => absurd hk c⟩
  rw [hps] at g1
  have g1' : some ((([], none, none, st.kc) : SP)) = some q := g1
  cases g1'
  exact nomatch g2
theorem sC_putA (hC : sC M p NU st) (hp : 30 ≤ p) {i : Nat} {n : SN} (hi : st.ns[i]? = some n) (hk : n.kd = 6 ∨ n.kd = 7) {q : SP} (hps : n.ps = [q]) (m : Nat) : sC (zu M (p + 6) ((6 + i : Nat) : Int) m) p NU (sPut st (6 + i) 0 m) := by
  have hn := hC.2.2.2.1 i n hi
  have h19 := hC.2.1.2.2.1
  have hl := hC.2.2.2.2.2.2.2.2.2.1
  unfold sPut
  rw [nN_at hi]
  refine sC_upd (M1 := zu M (p + 6) ((6 + i : Nat) : Int) m) hC hp hi (show SN.ct (n.kd, n.nm, n.dt, n.ct, pSet n.ps 0 m) = n.ct from rfl) (Nat.le_refl _) hl st.kc (hC.2.2.2.2.2.2.2.2.2.2.2.2.none hi (fun c => by omega) (fun c => by omega)) (Or.inl ⟨(zu_a (by omega)).trans (hC.2.2.2.2.2.2.2.2.2.2.2.2.none hi (fun c => by omega) (fun c => by omega)), fun (c : n.kd = 9) => by omega⟩) (fun a j _ n2 _ _ _ _ => if_neg n2) (by rw [zu_a (by omega)]; exact h19) ?_
  obtain ⟨h1, h2, h3, h4, h5, h6, h7⟩ := hn
  have e : ∀ (a j : Int), ¬ a = p + 6 → zu M (p + 6) ((6 + i : Nat) : Int) m a j = M a j := fun a j h => zu_a h
  refine ⟨by rw [e _ _ (by omega)]; exact h1, fun c => by rw [e _ _ (by omega)]; exact h2 c, fun w v c => by rw [e _ _ (by omega)]; exact (h3 w v c).mono (Nat.le_refl _) (fun _ _ _ => e _ _ (by omega)), by rw [e _ _ (by omega)]; exact h4, fun c => by rw [e _ _ (by omega)]; exact h5 c, fun c => ⟨(h6 c).1, fun q9 m9 g1 g2 => ?_⟩, fun c => absurd hk c⟩
  rw [hps] at g1
  have g1' : some ((q.nm, some m, q.df, q.kn) : SP) = some q9 := g1
  cases g1'
  cases g2
  exact zu_s _ _ _ _
theorem pSet_get {ps : List SP} {k m j : Nat} : (pSet ps k m)[j]? = if k = j then ps[j]?.map (fun q => ((q.nm, some m, q.df, q.kn) : SP)) else ps[j]? := by
  unfold pSet
  rw [List.getElem?_modify]
  split
  · rfl
  · cases ps[j]? <;> rfl
theorem pSet_len {ps : List SP} {k m : Nat} : (pSet ps k m).length = ps.length := List.length_modify _ _ _
/-- a field's node -/
theorem sC_putP (hC : sC M p NU st) (hp : 30 ≤ p) {i k : Nat} {n : SN} (hi : st.ns[i]? = some n) (hk : ¬ (n.kd = 6 ∨ n.kd = 7)) (hkl : k < n.ps.length) (hk9 : ¬ n.kd = 9) (hwi : M (p + 8) ((6 + i : Nat) : Int) = -1) (m : Nat) : sC (zu M (p + 14) ((nTot (st.ns.take i) + k : Nat) : Int) m) p NU (sPut st (6 + i) k m) := by
  have hn := hC.2.2.2.1 i n hi
  have h19 := hC.2.1.2.2.1
  have hl := hC.2.2.2.2.2.2.2.2.2.1
  unfold sPut
  rw [nN_at hi]
  obtain ⟨h1, h2, h3, h4, h5, h6, h7⟩ := hn
  obtain ⟨h8, h9, h10⟩ := h7 hk
  refine sC_upd (M1 := zu M (p + 14) ((nTot (st.ns.take i) + k : Nat) : Int) m) hC hp hi (show SN.ct (n.kd, n.nm, n.dt, n.ct, pSet n.ps k m) = n.ct from rfl) (Nat.le_refl _) hl st.kc hwi (Or.inl ⟨(zu_a (by omega)).trans hwi, fun c => absurd c hk9⟩) (fun a j _ _ n3 _ _ _ => if_neg (fun c => n3 ⟨Or.inl c.1, by omega, by omega⟩)) (by rw [zu_a (by omega)]; exact h19) ?_
  have e : ∀ (a j : Int), ¬ a = p + 14 → zu M (p + 14) ((nTot (st.ns.take i) + k : Nat) : Int) m a j = M a j := fun a j h => zu_a h
  refine ⟨by rw [e _ _ (by omega)]; exact h1, fun c => by rw [e _ _ (by omega)]; exact h2 c, fun w v c => by rw [e _ _ (by omega)]; exact (h3 w v c).mono (Nat.le_refl _) (fun _ _ _ => e _ _ (by omega)), by rw [e _ _ (by omega)]; exact h4, fun c => by rw [e _ _ (by omega)]; exact h5 c, fun c => absurd c hk, fun c => ⟨by rw [e _ _ (by omega)]; exact h8, by show (pSet n.ps k m).length ≤ n.ct; rw [pSet_len]; exact h9, fun j hj => ?_⟩⟩
  show pC _ p NU n.kd (nTot (st.ns.take i) + j) (pSet n.ps k m)[j]?
  rw [pSet_get]
  have := h10 j hj
  cases hq : n.ps[j]? with
  | none =>
    rw [hq] at this
    have hne : ¬ k = j := fun c => by rw [List.getElem?_eq_none_iff] at hq; omega
    rw [if_neg hne]
    show zu M (p + 14) _ m (p + 16) _ = -1
    rw [e _ _ (by omega)]; exact this
  | some q =>
    rw [hq] at this
    obtain ⟨g1, g2, g3⟩ := this
    by_cases hkj : k = j
    · rw [if_pos hkj]
      refine ⟨fun c => by rw [e _ _ (by omega)]; exact g1 c, fun c => by rw [e _ _ (by omega)]; exact (g2 c).mono (Nat.le_refl _) (fun _ _ _ => e _ _ (by omega)), fun m9 hm => ?_⟩
      cases hm
      rw [← hkj]
      exact zu_s _ _ _ _
    · rw [if_neg hkj]
      exact ⟨fun c => by rw [e _ _ (by omega)]; exact g1 c, fun c => by rw [e _ _ (by omega)]; exact (g2 c).mono (Nat.le_refl _) (fun _ _ _ => e _ _ (by omega)), fun m9 hm => by rw [zu_k (by omega)]; exact g3 m9 hm⟩
/-- a branch more -/
theorem sC_addU (hC : sC M p NU st) (hp : 30 ≤ p) {i : Nat} {n : SN} (hi : st.ns[i]? = some n) (hk : n.kd = 8) (hkl : n.ps.length < n.ct) (m : Nat) : sC (zu M (p + 14) ((nTot (st.ns.take i) + n.ps.length : Nat) : Int) m) p NU (sAdd st (6 + i) [] (some m) none) := by
  have hn := hC.2.2.2.1 i n hi
  have h19 := hC.2.1.2.2.1
  have hl := hC.2.2.2.2.2.2.2.2.2.1
  unfold sAdd
  rw [nN_at hi]
  obtain ⟨h1, h2, h3, h4, h5, h6, h7⟩ := hn
  obtain ⟨h8, h9, h10⟩ := h7 (by omega)
  refine sC_upd (M1 := zu M (p + 14) ((nTot (st.ns.take i) + n.ps.length : Nat) : Int) m) hC hp hi (show SN.ct (n.kd, n.nm, n.dt, n.ct, n.ps ++ [([], some m, none, st.kc)]) = n.ct from rfl) (Nat.le_refl _) hl (st.kc + 1) (hC.2.2.2.2.2.2.2.2.2.2.2.2.none hi (fun c => by omega) (fun c => by omega)) (Or.inl ⟨(zu_a (by omega)).trans (hC.2.2.2.2.2.2.2.2.2.2.2.2.none hi (fun c => by omega) (fun c => by omega)), fun (c : n.kd = 9) => by omega⟩) (fun a j _ _ n3 _ _ _ => if_neg (fun c => n3 ⟨Or.inl c.1, by omega, by omega⟩)) (by rw [zu_a (by omega)]; exact h19) ?_
  have e : ∀ (a j : Int), ¬ a = p + 14 → zu M (p + 14) ((nTot (st.ns.take i) + n.ps.length : Nat) : Int) m a j = M a j := fun a j h => zu_a h
  refine ⟨by rw [e _ _ (by omega)]; exact h1, fun c => by rw [e _ _ (by omega)]; exact h2 c, fun w v c => by rw [e _ _ (by omega)]; exact (h3 w v c).mono (Nat.le_refl _) (fun _ _ _ => e _ _ (by omega)), by rw [e _ _ (by omega)]; exact h4, fun c => by rw [e _ _ (by omega)]; exact h5 c, fun (c : n.kd = 6 ∨ n.kd = 7) => by omega, fun c => ⟨by rw [e _ _ (by omega)]; exact h8, by show (n.ps ++ [_]).length ≤ n.ct; rw [List.length_append]; exact hkl, fun j hj => ?_⟩⟩
  show pC _ p NU n.kd (nTot (st.ns.take i) + j) (n.ps ++ [([], some m, none, st.kc)])[j]?
  have := h10 j hj
  by_cases hjl : j < n.ps.length
  · rw [List.getElem?_append_left hjl]
    cases hq : n.ps[j]? with
    | none => rw [List.getElem?_eq_none_iff] at hq; omega
    | some q =>
      rw [hq] at this
      obtain ⟨g1, g2, g3⟩ := this
      exact ⟨fun c => by rw [e _ _ (by omega)]; exact g1 c, fun c => by rw [e _ _ (by omega)]; exact (g2 c).mono (Nat.le_refl _) (fun _ _ _ => e _ _ (by omega)), fun m9 hm => by rw [zu_k (by omega)]; exact g3 m9 hm⟩
  · rw [List.getElem?_eq_none (by omega)] at this
    rw [List.getElem?_append_right (by omega)]
    by_cases hje : j = n.ps.length
    · subst hje
      rw [Nat.sub_self]
      refine ⟨fun _ => by rw [e _ _ (by omega)]; exact this, fun c => absurd hk c, fun m9 hm => ?_⟩
      cases hm
      exact zu_s _ _ _ _
    · rw [List.getElem?_eq_none (by simp only [List.length_singleton]; omega)]
      show zu M (p + 14) _ m (p + 16) _ = -1
      rw [e _ _ (by omega)]; exact this
/-- a symbol or a field more: its name is behind the others -/
theorem sC_addW {M1 : zM} (hC : sC M p NU st) (hp : 30 ≤ p) {i : Nat} {n : SN} (hi : st.ns[i]? = some n) (hk : n.kd = 10 ∨ n.kd = 11) (hkl : n.ps.length < n.ct) {ws : List Int32} (hr : NU + 1 + ws.length ≤ 4096) (hF : nmF M M1 p NU ws) (df : Option Nat) : sC (zu M1 (p + 16) ((nTot (st.ns.take i) + n.ps.length : Nat) : Int) NU) p (NU + 1 + ws.length) (sAdd st (6 + i) ws none df) := by
  have hn := hC.2.2.2.1 i n hi
  obtain ⟨f1, f2, f3⟩ := hF
  unfold sAdd
  rw [nN_at hi]
  obtain ⟨h1, h2, h3, h4, h5, h6, h7⟩ := hn
  obtain ⟨h8, h9, h10⟩ := h7 (by omega)
  refine sC_upd (M1 := zu M1 (p + 16) ((nTot (st.ns.take i) + n.ps.length : Nat) : Int) NU) hC hp hi (show SN.ct (n.kd, n.nm, n.dt, n.ct, n.ps ++ [(ws, none, df, st.kc)]) = n.ct from rfl) (by omega) hr (st.kc + 1) (hC.2.2.2.2.2.2.2.2.2.2.2.2.none hi (fun c => by omega) (fun _ c => by omega)) (Or.inl ⟨(zu_a (by omega)).trans ((f3 _ _ (by omega) (by omega)).trans (hC.2.2.2.2.2.2.2.2.2.2.2.2.none hi (fun c => by omega) (fun _ c => by omega))), fun (c : n.kd = 9) => by omega⟩) (fun a j _ _ n3 n4 n5 _ => (if_neg (fun c => n3 ⟨Or.inr c.1, by omega, by omega⟩)).trans (f3 a j n4 n5)) (by rw [zu_a (by omega)]; exact f1) ?_
  have e : ∀ (a j : Int), ¬ a = p + 16 → zu M1 (p + 16) ((nTot (st.ns.take i) + n.ps.length : Nat) : Int) NU a j = M1 a j := fun a j h => zu_a h
  have e2 : ∀ (a j : Int), ¬ a = p + 16 → ¬ a = p + 21 → ¬ a = p + 22 → zu M1 (p + 16) ((nTot (st.ns.take i) + n.ps.length : Nat) : Int) NU a j = M a j := fun a j h g1 g2 => (e a j h).trans (f3 a j (by omega) (by omega))
  have e20 : ∀ j : Int, 0 ≤ j → j < NU → zu M1 (p + 16) ((nTot (st.ns.take i) + n.ps.length : Nat) : Int) NU (p + 22) j = M (p + 22) j := fun j _ g => (e _ _ (by omega)).trans (f3 _ _ (by omega) (by omega))
  refine ⟨by rw [e2 _ _ (by omega) (by omega) (by omega)]; exact h1, fun c => by rw [e2 _ _ (by omega) (by omega) (by omega)]; exact h2 c, fun w v c => by rw [e2 _ _ (by omega) (by omega) (by omega)]; exact (h3 w v c).mono (by omega) e20, by rw [e2 _ _ (by omega) (by omega) (by omega)]; exact h4, fun c => by rw [e2 _ _ (by omega) (by omega) (by omega)]; exact h5 c, fun (c : n.kd = 6 ∨ n.kd = 7) => by omega, fun c => ⟨by rw [e2 _ _ (by omega) (by omega) (by omega)]; exact h8, by show (n.ps ++ [_]).length ≤ n.ct; rw [List.length_append]; exact hkl, fun j hj => ?_⟩⟩
  show pC _ p (NU + 1 + ws.length) n.kd (nTot (st.ns.take i) + j) (n.ps ++ [(ws, none, df, st.kc)])[j]?
  have := h10 j hj
  have e14 : ∀ j : Nat, ¬ j = n.ps.length → zu M1 (p + 16) ((nTot (st.ns.take i) + n.ps.length : Nat) : Int) NU (p + 16) ((nTot (st.ns.take i) + j : Nat) : Int) = M (p + 16) ((nTot (st.ns.take i) + j : Nat) : Int) := fun j h => (zu_k (by omega)).trans (f3 _ _ (by omega) (by omega))
  by_cases hjl : j < n.ps.length
  · rw [List.getElem?_append_left hjl]
    cases hq : n.ps[j]? with
    | none => rw [List.getElem?_eq_none_iff] at hq; omega
    | some q =>
      rw [hq] at this
      obtain ⟨g1, g2, g3⟩ := this
      exact ⟨fun (c : n.kd = 8) => by omega, fun c => by rw [e14 j (by omega)]; exact (g2 c).mono (by omega) e20, fun m9 hm => by rw [e2 _ _ (by omega) (by omega) (by omega)]; exact g3 m9 hm⟩
  · rw [List.getElem?_eq_none (by omega)] at this
    rw [List.getElem?_append_right (by omega)]
    by_cases hje : j = n.ps.length
    · subst hje
      rw [Nat.sub_self]
      refine ⟨fun (c : n.kd = 8) => by omega, fun c => ?_, fun m9 hm => (nomatch hm)⟩
      rw [zu_s]
      exact f2.mono (Nat.le_refl _) (fun _ _ _ => e _ _ (by omega))
    · rw [List.getElem?_eq_none (by simp only [List.length_singleton]; omega)]
      show zu M1 (p + 16) _ NU (p + 16) _ = -1
      rw [e14 j hje]; exact this
theorem sLate_app {ns : List SN} : ∀ {a b : List (Nat × Nat × Option Nat)}, sLate ns (a ++ b) = sLate ns a ++ sLate ns b := by
  intro a b
  induction a with
  | nil => rfl
  | cons z r ih =>
    obtain ⟨s, k, o⟩ := z
    cases o with
    | none => exact ih
    | some v =>
      show (nBs ns s + k, v) :: sLate ns (r ++ b) = (nBs ns s + k, v) :: (sLate ns r ++ sLate ns b)
      rw [ih]
theorem sLate_len {ns : List SN} : ∀ {a : List (Nat × Nat × Option Nat)}, (sLate ns a).length ≤ a.length := by
  intro a
  induction a with
  | nil => exact Nat.le_refl _
  | cons z r ih =>
    unfold sLate
    rw [List.length_cons]
    cases z.2.2 with
    | none => exact Nat.le_succ_of_le ih
    | some v => show (_ :: sLate ns r).length ≤ _; rw [List.length_cons]; omega
theorem sDone_lt {P : Nat × Nat × Option Nat → Prop} {a : List (Nat × Nat × Option Nat)} {x : Nat × Nat × Option Nat} (h : ∀ z ∈ a, P z) (hx : P x) : ∀ z ∈ a ++ [x], P z := fun z hz => by
  rcases List.mem_append.mp hz with g | g
  · exact h z g
  · rw [List.mem_singleton] at g
    subst g
    exact hx
/-- a field is done; its default's value if it has one -/
theorem sC_done0 (hC : sC M p NU st) {s k : Nat} (hs : s < 6 + st.ns.length) (hl : st.lt.length < st.lk) : sC M p NU (sDone st s k none) := by
  obtain ⟨a, b, c, h, e, f, l1, l2, l3, l4, l5, l6, hw⟩ := hC
  have hL : sLate (sDone st s k none).ns (sDone st s k none).lt = sLate st.ns st.lt := by
    show sLate st.ns (st.lt ++ [(s, k, none)]) = sLate st.ns st.lt
    rw [sLate_app]
    exact List.append_nil _
  refine ⟨a, b, c, h, e, by rw [hL]; exact f, l1, l2, l3, l4, ?_, sDone_lt l6 hs, hw⟩
  show (st.lt ++ [_]).length ≤ st.lk
  rw [List.length_append]
  exact hl
theorem sC_done1 (hC : sC M p NU st) (hp : 30 ≤ p) {s k v : Nat} (hs : s < 6 + st.ns.length) (hl : st.lt.length < st.lk) : sC (zadd (zadd M 26 27 128 ((nBs st.ns s + k : Nat) : Int)) 28 29 128 v) p NU (sDone st s k (some v)) ∧ dfr p M (zadd (zadd M 26 27 128 ((nBs st.ns s + k : Nat) : Int)) 28 29 128 v) := by
  obtain ⟨⟨a1, a2, a3⟩, ⟨b1, b2, b3, b4⟩, c, h, e, ⟨f1, f2, f3⟩, l1, l2, l3, l4, l5, l6, hw⟩ := hC
  have hLl := sLate_len (ns := st.ns) (a := st.lt)
  generalize hLn : (sLate st.ns st.lt).length = Ln at *
  have hL : sLate (sDone st s k (some v)).ns (sDone st s k (some v)).lt = sLate st.ns st.lt ++ [(nBs st.ns s + k, v)] := by
    show sLate st.ns (st.lt ++ [(s, k, some v)]) = _
    rw [sLate_app]
    rfl
  have e1 := (zadd_in (M := M) (c := 26) (a := 27) (n := 128) (x := ((nBs st.ns s + k : Nat) : Int)) f1 (by decide) (by omega) (by omega) (by decide)).1
  have f2' : zadd M 26 27 128 ((nBs st.ns s + k : Nat) : Int) 28 1 = (Ln : Int) := by
    rw [e1, zu_a (by decide), zu_a (by decide)]; exact f2
  have e2 := (zadd_in (M := zadd M 26 27 128 ((nBs st.ns s + k : Nat) : Int)) (c := 28) (a := 29) (n := 128) (x := (v : Int)) f2' (by decide) (by omega) (by omega) (by decide)).1
  rw [e2, e1]
  generalize hM1 : zu (zu (zu (zu M 27 Ln ((nBs st.ns s + k : Nat) : Int)) 26 1 ((Ln : Int) + 1)) 29 Ln (v : Int)) 28 1 ((Ln : Int) + 1) = M1
  have fr : ∀ a j : Int, ¬ a = 26 → ¬ a = 27 → ¬ a = 28 → ¬ a = 29 → M1 a j = M a j := fun a j n1 n2 n3 n4 => by
    rw [← hM1, zu_a n3, zu_a n4, zu_a n1, zu_a n2]
  refine ⟨⟨⟨by rw [fr _ _ (by omega) (by omega) (by omega) (by omega)]; exact a1, by rw [fr _ _ (by omega) (by omega) (by omega) (by omega)]; exact a2, by rw [fr _ _ (by omega) (by omega) (by omega) (by omega)]; exact a3⟩, ⟨by rw [fr _ _ (by omega) (by omega) (by omega) (by omega)]; exact b1, by rw [fr _ _ (by omega) (by omega) (by omega) (by omega)]; exact b2, by rw [fr _ _ (by omega) (by omega) (by omega) (by omega)]; exact b3, by rw [fr _ _ (by omega) (by omega) (by omega) (by omega)]; exact b4⟩, fun i hi => by rw [fr _ _ (by omega) (by omega) (by omega) (by omega)]; exact c i hi, fun i n hi => ?_, fun P hP => by rw [fr _ _ (by omega) (by omega) (by omega) (by omega), fr _ _ (by omega) (by omega) (by omega) (by omega)]; exact e P hP, ?_, l1, l2, l3, l4, ?_, sDone_lt l6 hs, hw.up (Nat.le_refl _) (fun j _ => fr _ _ (by omega) (by omega) (by omega) (by omega)) (fun i n h => Or.inl h)⟩, fun a ha => funext fun j => fr a j (by omega) (by omega) (by omega) (by omega)⟩
  · exact (h i n hi).mono (Nat.le_refl _) (fr _ _ (by omega) (by omega) (by omega) (by omega)) (fr _ _ (by omega) (by omega) (by omega) (by omega)) (fr _ _ (by omega) (by omega) (by omega) (by omega)) (fr _ _ (by omega) (by omega) (by omega) (by omega)) (fr _ _ (by omega) (by omega) (by omega) (by omega)) (fun P _ _ => fr _ _ (by omega) (by omega) (by omega) (by omega)) (fun P _ _ => fr _ _ (by omega) (by omega) (by omega) (by omega)) (fun P _ _ => fr _ _ (by omega) (by omega) (by omega) (by omega))
  · rw [hL, List.length_append, hLn]
    refine ⟨?_, ?_, fun i z hz => ?_⟩
    · rw [← hM1, zu_a (by decide), zu_a (by decide), zu_s]; simp
    · rw [← hM1, zu_s]; simp
    · by_cases hi : i < Ln
      · rw [List.getElem?_append_left (by omega)] at hz
        obtain ⟨g1, g2⟩ := f3 i z hz
        refine ⟨?_, ?_⟩
        · rw [← hM1, zu_a (by decide), zu_a (by decide), zu_a (by decide), zu_k (by omega)]; exact g1
        · rw [← hM1, zu_a (by decide), zu_k (by omega), zu_a (by decide), zu_a (by decide)]; exact g2
      · rw [List.getElem?_append_right (by omega), hLn] at hz
        by_cases hi2 : i = Ln
        · subst hi2
          rw [Nat.sub_self] at hz
          cases hz
          refine ⟨?_, ?_⟩
          · rw [← hM1, zu_a (by decide), zu_a (by decide), zu_a (by decide), zu_s]
          · rw [← hM1, zu_a (by decide), zu_s]
        · rw [List.getElem?_eq_none (by simp only [List.length_singleton]; omega)] at hz
          exact nomatch hz
  · show (st.lt ++ [_]).length ≤ st.lk
    rw [List.length_append]
    exact hl
end SGs
