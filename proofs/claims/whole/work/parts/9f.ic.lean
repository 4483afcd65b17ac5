/-! ===== fixed, enums and records have names ===== -/
def kHn (st : SS) : Prop := ∀ (i : Nat) (n : SN), st.ns[i]? = some n → (n.kd = 9 ∨ n.kd = 10 ∨ n.kd = 11) → ¬ n.nm = none
theorem kHn.put {st : SS} {i kc : Nat} {n n' : SN} {lt : List (Nat × Nat × Option Nat)} (h : kHn st) (hi : st.ns[i]? = some n) (hk : n'.kd = n.kd) (hn : n'.nm = n.nm) : kHn (st.lk, kc, nPut st.ns (6 + i) n', lt) := fun j m hm => by
  have hm2 : (nPut st.ns (6 + i) n')[j]? = some m := hm
  by_cases c : j = i
  · subst c
    rw [nPut_at hi] at hm2
    cases hm2
    rw [hk, hn]
    exact h j n hi
  · rw [nPut_ne c] at hm2
    exact h j m hm2
theorem kHn.add {st : SS} {i : Nat} (h : kHn st) (hi : i < st.ns.length) {nm : List Int32} {nd df : Option Nat} : kHn (sAdd st (6 + i) nm nd df) := by
  have hg := List.getElem?_eq_getElem hi
  unfold sAdd
  rw [nN_at hg]
  exact h.put hg rfl rfl
theorem kHn.pt {st : SS} {i k m : Nat} (h : kHn st) (hi : i < st.ns.length) : kHn (sPut st (6 + i) k m) := by
  have hg := List.getElem?_eq_getElem hi
  unfold sPut
  rw [nN_at hg]
  exact h.put hg rfl rfl
theorem kHn.cnt {st : SS} {i ct : Nat} (h : kHn st) (hi : i < st.ns.length) : kHn (sCnt st (6 + i) ct) := by
  have hg := List.getElem?_eq_getElem hi
  unfold sCnt
  rw [nN_at hg]
  exact h.put hg rfl rfl
theorem kHn.det {st : SS} {i : Nat} {x : Int} (h : kHn st) (hi : i < st.ns.length) : kHn (sDet st (6 + i) x) := by
  have hg := List.getElem?_eq_getElem hi
  unfold sDet
  rw [nN_at hg]
  exact h.put hg rfl rfl
theorem kHn.new {st : SS} (h : kHn st) {kd ct : Nat} {nm : Option (List Int32 × Nat)} (hk : ¬ nm = none ∨ ¬ (kd = 9 ∨ kd = 10 ∨ kd = 11)) : kHn (sNew st kd nm ct) := fun j m hm => by
  have hm2 : (st.ns ++ [(kd, nm, -1, ct, [])])[j]? = some m := hm
  by_cases c : j < st.ns.length
  · rw [List.getElem?_append_left c] at hm2
    exact h j m hm2
  · have hl := (List.getElem?_eq_some_iff.mp hm2).1
    rw [List.length_append, List.length_singleton] at hl
    have : j = st.ns.length := by omega
    subst this
    rw [List.getElem?_append_right (Nat.le_refl _), Nat.sub_self] at hm2
    cases hm2
    intro h9
    rcases hk with e | e
    · exact e
    · exact absurd h9 e
def sHx (L : Nat → Bool → SS → Except (Nat × Nat) (Nat × SS)) : Prop := ∀ (v : Nat) (br : Bool) (st st1 : SS) (n : Nat), kHn st → L v br st = .ok (n, st1) → kHn st1
theorem sAdd_l9 {st : SS} {i : Nat} (hi : i < st.ns.length) {nm : List Int32} {nd df : Option Nat} : i < (sAdd st (6 + i) nm nd df).ns.length := by
  have := congrArg List.length (kK_add (st := st) (nm := nm) (nd := nd) (df := df) hi)
  rw [kK_len, kK_len] at this
  omega
theorem sPut_l9 {st : SS} {i k m : Nat} (hi : i < st.ns.length) : i < (sPut st (6 + i) k m).ns.length := by
  have := congrArg List.length (kK_pt (st := st) (k := k) (m := m) hi)
  rw [kK_len, kK_len] at this
  omega
theorem sCnt_l9 {st : SS} {i ct : Nat} (hi : i < st.ns.length) : i < (sCnt st (6 + i) ct).ns.length := by
  have := congrArg List.length (kK_cnt (st := st) (ct := ct) hi)
  rw [kK_len, kK_len] at this
  omega
theorem sBrn_h {xs : List JR} {L : Nat → Bool → SS → Except (Nat × Nat) (Nat × SS)} (hX : sLx L) (hI : sHx L) {i : Nat} : ∀ (l : List Nat) (st st1 : SS), i < st.ns.length → kHn st → sBrn xs L (6 + i) l st = .ok st1 → kHn st1 := by
  intro l
  induction l with
  | nil =>
    intro st st1 hi hA h
    cases h
    exact hA
  | cons a l ih =>
    intro st st1 hi hA h
    unfold sBrn at h
    split at h
    · exact nomatch h
    · rename_i nd st2 h2
      split at h
      · exact nomatch h
      · obtain ⟨⟨x1, x2, -⟩, x3, -⟩ := hX _ _ _ _ _ h2
        have hil2 : i < st2.ns.length := by omega
        exact ih _ _ (sAdd_l9 hil2) ((hI _ _ _ _ _ hA h2).add hil2) h
theorem sSym_h {xs : List JR} {i : Nat} : ∀ (l : List Nat) (st st1 : SS), i < st.ns.length → kHn st → sSym xs (6 + i) l st = .ok st1 → i < st1.ns.length ∧ kHn st1 := by
  intro l
  induction l with
  | nil =>
    intro st st1 hi hA h
    cases h
    exact ⟨hi, hA⟩
  | cons a l ih =>
    intro st st1 hi hA h
    unfold sSym at h
    split at h
    · exact ih _ _ (sAdd_l9 hi) (hA.add hi) h
    · exact nomatch h
theorem sFld_h {xs : List JR} {L : Nat → Bool → SS → Except (Nat × Nat) (Nat × SS)} (hX : sLx L) (hI : sHx L) {i f : Nat} {st st1 : SS} (hi : i < st.ns.length) (hA : kHn st) (h : sFld xs L (6 + i) f st = .ok st1) : i < st1.ns.length ∧ kHn st1 := by
  unfold sFld at h
  split at h
  · split at h
    · exact nomatch h
    · split at h
      · split at h
        · split at h
          · exact nomatch h
          · split at h
            · exact nomatch h
            · rename_i nm1 _ _ _ _ _ _ _ nd st2 h2
              cases h
              generalize hws : (xx xs nm1).ws = ws at *
              generalize hdf : xMem xs f (iw [100, 101, 102, 97, 117, 108, 116]) = df at *
              have hl3 : i < (sAdd st (6 + i) ws none df).ns.length := sAdd_l9 hi
              obtain ⟨⟨x1, x2, -⟩, x3, -⟩ := hX _ _ _ _ _ h2
              have hil2 : i < st2.ns.length := by omega
              exact ⟨(sPut_l9 hil2 : i < (sPut st2 (6 + i) (nN st.ns (6 + i)).ps.length nd).ns.length), ((hI _ _ _ _ _ (hA.add hi) h2).pt hil2 : kHn (sPut st2 (6 + i) (nN st.ns (6 + i)).ps.length nd))⟩
        · exact nomatch h
      · exact nomatch h
  · exact nomatch h
theorem sFds_h {xs : List JR} {L : Nat → Bool → SS → Except (Nat × Nat) (Nat × SS)} (hX : sLx L) (hI : sHx L) {i : Nat} : ∀ (l : List Nat) (st st1 : SS), i < st.ns.length → kHn st → sFds xs L (6 + i) l st = .ok st1 → kHn st1 := by
  intro l
  induction l with
  | nil =>
    intro st st1 hi hA h
    cases h
    exact hA
  | cons a l ih =>
    intro st st1 hi hA h
    unfold sFds at h
    split at h
    · exact nomatch h
    · rename_i st2 h2
      obtain ⟨g1, g2⟩ := sFld_h hX hI hi hA h2
      exact ih _ _ g1 g2 h
theorem sLook_h {xs : List JR} : ∀ m : Nat, sHx (sLook xs m) := by
  intro m
  induction m with
  | zero =>
    intro v br st st1 n hk h
    unfold sLook at h
    split at h
    · exact nomatch h
    · exact nomatch h
  | succ m ih =>
    intro v br st st1 n hN h
    have hX : sLx (sLook xs m) := sLook_ok m
    unfold sLook at h
    have hN1 : kHn (st.lk + 1, st.2) := hN
    split at h
    · exact nomatch h
    · dsimp only at h
      generalize ((st.lk + 1, st.2) : SS) = sa at h hN1
      have lt1 : ∀ (kd ct : Nat) (nm : Option (List Int32 × Nat)), (SS.ns sa).length < (sNew sa kd nm ct).ns.length := fun kd ct nm => by rw [sNew_len]; omega
      have knw : ∀ v9 : Nat, sKnw xs sa v9 = .ok (n, st1) → kHn st1 := fun v9 h => by
        obtain ⟨e1, -⟩ := sKnw_ok h
        subst e1
        exact hN1
      split at h
      · exact knw _ h
      · split at h
        · split at h
          · exact nomatch h
          · unfold sUni at h
            split at h
            · split at h
              · exact nomatch h
              · rename_i st2 h2
                cases h
                exact sBrn_h hX ih (i := (SS.ns sa).length) _ _ _ (lt1 8 _ none) (hN1.new (Or.inr (by omega))) h2
            · exact nomatch h
        · split at h
          · unfold sObj at h
            split at h
            · exact nomatch h
            · split at h
              · split at h
                · exact knw _ h
                · rename_i k9 hk9
                  have itm : ∀ (kd : Nat) (w : List Int32), (kd = 6 ∨ kd = 7) → sItm xs (sLook xs m) v kd w sa = .ok (n, st1) → kHn st1 := fun kd w hkd h => by
                    unfold sItm at h
                    split at h
                    · exact nomatch h
                    · split at h
                      · exact nomatch h
                      · rename_i n2 st2 h2
                        cases h
                        have hl1 := lt1 kd 0 none
                        have hA2 : kHn (sAdd (sNew sa kd none 0) (6 + (SS.ns sa).length) [] none none) := (hN1.new (Or.inr (by omega))).add hl1
                        have hl3 : (SS.ns sa).length < (sAdd (sNew sa kd none 0) (6 + (SS.ns sa).length) [] none none).ns.length := sAdd_l9 hl1
                        have h2' : sLook xs m _ false (sAdd (sNew sa kd none 0) (6 + (SS.ns sa).length) [] none none) = .ok (n2, st2) := h2
                        obtain ⟨⟨x1, x2, -⟩, x3, -⟩ := hX _ _ _ _ _ h2'
                        exact (ih _ _ _ _ _ hA2 h2').pt (i := (SS.ns sa).length) (by omega)
                  split at h
                  · exact itm _ _ (Or.inl rfl) h
                  · split at h
                    · exact itm _ _ (Or.inr rfl) h
                    · unfold sNmd at h
                      split at h
                      · exact nomatch h
                      · rename_i s2 st2 h2
                        obtain ⟨n9, -, -, g3, g4⟩ := sDfn_ok h2
                        have hNn : kHn (sNew sa k9 (some ((xx xs n9).ws, n9)) 0) := hN1.new (Or.inl (fun e => nomatch e))
                        have hl1 := lt1 k9 0 (some ((xx xs n9).ws, n9))
                        rw [g3, g4] at h
                        clear g3 g4 h2
                        split at h
                        · unfold sFix at h
                          split at h
                          · exact nomatch h
                          · split at h
                            · cases h
                              exact hNn.det (i := (SS.ns sa).length) hl1
                            · exact nomatch h
                        · split at h
                          · unfold sEnm at h
                            split at h
                            · exact nomatch h
                            · split at h
                              · split at h
                                · exact nomatch h
                                · rename_i st3 h3
                                  obtain ⟨g1, g2⟩ := sSym_h (i := (SS.ns sa).length) _ _ _ (sCnt_l9 hl1) (hNn.cnt (i := (SS.ns sa).length) hl1) h3
                                  unfold sFbk at h
                                  split at h
                                  · cases h
                                    exact g2
                                  · split at h
                                    · split at h
                                      · cases h
                                        exact g2.det (i := (SS.ns sa).length) g1
                                      · exact nomatch h
                                    · exact nomatch h
                              · exact nomatch h
                          · unfold sRec at h
                            split at h
                            · exact nomatch h
                            · split at h
                              · split at h
                                · exact nomatch h
                                · rename_i st3 h3
                                  cases h
                                  exact sFds_h hX ih (i := (SS.ns sa).length) _ _ _ (sCnt_l9 hl1) (hNn.cnt (i := (SS.ns sa).length) hl1) h3
                              · exact nomatch h
              · exact nomatch h
          · exact nomatch h
theorem sTop_h {xs : List JR} {root : Nat} {st : SS} (h : sTop xs = .ok (root, st)) : kHn st := by
  have e : ∀ (i : Nat) (m : SN), ¬ (SS.ns (0, 0, [], []))[i]? = some m := fun i m hh => by
    have : (SS.ns (0, 0, [], []))[i]? = none := rfl
    rw [this] at hh
    exact nomatch hh
  exact sLook_h 16 0 false _ _ _ (fun i m hm => absurd hm (e i m)) h
