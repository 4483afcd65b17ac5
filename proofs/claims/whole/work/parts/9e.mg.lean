/-! ===== nodes behind the six are of other kinds; names are apart ===== -/
def kGn (st : SS) : Prop := (∀ (i : Nat) (n : SN), st.ns[i]? = some n → 6 ≤ n.kd ∧ n.ct ≤ 32) ∧ ∀ (i j : Nat) (a b : SN) (w : List Int32) (va vb : Nat), st.ns[i]? = some a → st.ns[j]? = some b → a.nm = some (w, va) → b.nm = some (w, vb) → i = j
theorem sDefL_no (w : List Int32) : ∀ (r : List SN) (s : Nat), sDefL w r s = none → ∀ (i : Nat) (n : SN) (v : Nat), r[i]? = some n → n.nm = some (w, v) → False := by
  intro r
  induction r with
  | nil => intro s _ i n v h; exact nomatch h
  | cons a r ih =>
    intro s h i n v hi hn
    unfold sDefL at h
    split at h
    · exact nomatch h
    · rename_i hne
      cases i with
      | zero =>
        have e : a = n := Option.some.inj hi
        rw [e, hn] at hne
        exact hne rfl
      | succ i => exact ih _ h i n v hi hn
theorem sDfn_nd {xs : List JR} {st st1 : SS} {v kd s n : Nat} (h : sDfn xs st v kd = .ok (s, st1)) (hn : xMem xs v (iw [110, 97, 109, 101]) = some n) : sDef st.ns (xx xs n).ws = none := by
  unfold sDfn at h
  rw [hn] at h
  dsimp only at h
  split at h
  · split at h
    · rename_i h4
      exact h4.2.2.2
    · exact nomatch h
  · exact nomatch h
theorem kGn.put {st : SS} {i kc : Nat} {n n' : SN} {lt : List (Nat × Nat × Option Nat)} (h : kGn st) (hi : st.ns[i]? = some n) (hk : n'.kd = n.kd) (hn : n'.nm = n.nm) (hc : n'.ct ≤ 32) : kGn (st.lk, kc, nPut st.ns (6 + i) n', lt) := by
  have key : ∀ (j : Nat) (m : SN), (nPut st.ns (6 + i) n')[j]? = some m → ∃ m0 : SN, st.ns[j]? = some m0 ∧ m.kd = m0.kd ∧ m.nm = m0.nm ∧ m.ct ≤ 32 := fun j m hm2 => by
    by_cases c : j = i
    · subst c
      rw [nPut_at hi] at hm2
      cases hm2
      exact ⟨n, hi, hk, hn, hc⟩
    · rw [nPut_ne c] at hm2
      exact ⟨m, hm2, rfl, rfl, (h.1 j m hm2).2⟩
  refine ⟨fun j m hm => ?_, fun j k a b w va vb hj hk9 ha hb => ?_⟩
  · obtain ⟨m0, e1, e2, -, e4⟩ := key j m hm
    rw [e2]
    exact ⟨(h.1 j m0 e1).1, e4⟩
  · obtain ⟨a0, e1, -, e3, -⟩ := key j a hj
    obtain ⟨b0, f1, -, f3, -⟩ := key k b hk9
    exact h.2 j k a0 b0 w va vb e1 f1 (e3 ▸ ha) (f3 ▸ hb)
theorem kGn.add {st : SS} {i : Nat} (h : kGn st) (hi : i < st.ns.length) {nm : List Int32} {nd df : Option Nat} : kGn (sAdd st (6 + i) nm nd df) := by
  have hg := List.getElem?_eq_getElem hi
  unfold sAdd
  rw [nN_at hg]
  exact h.put hg rfl rfl (h.1 _ _ hg).2
theorem kGn.pt {st : SS} {i k m : Nat} (h : kGn st) (hi : i < st.ns.length) : kGn (sPut st (6 + i) k m) := by
  have hg := List.getElem?_eq_getElem hi
  unfold sPut
  rw [nN_at hg]
  exact h.put hg rfl rfl (h.1 _ _ hg).2
theorem kGn.cnt {st : SS} {i ct : Nat} (h : kGn st) (hi : i < st.ns.length) (hc : ct ≤ 32) : kGn (sCnt st (6 + i) ct) := by
  have hg := List.getElem?_eq_getElem hi
  unfold sCnt
  rw [nN_at hg]
  exact h.put hg rfl rfl hc
theorem kGn.det {st : SS} {i : Nat} {x : Int} (h : kGn st) (hi : i < st.ns.length) : kGn (sDet st (6 + i) x) := by
  have hg := List.getElem?_eq_getElem hi
  unfold sDet
  rw [nN_at hg]
  exact h.put hg rfl rfl (h.1 _ _ hg).2
theorem kGn.new {st : SS} (h : kGn st) {kd ct : Nat} {nm : Option (List Int32 × Nat)} (hk : 6 ≤ kd) (hc : ct ≤ 32) (hn : ∀ (w : List Int32) (v : Nat), nm = some (w, v) → sDef st.ns w = none) : kGn (sNew st kd nm ct) := by
  have key : ∀ (j : Nat) (m : SN), (sNew st kd nm ct).ns[j]? = some m → st.ns[j]? = some m ∨ (j = st.ns.length ∧ (m.kd = kd ∧ m.ct = ct) ∧ m.nm = nm) := fun j m hm => by
    have hm2 : (st.ns ++ [(kd, nm, -1, ct, [])])[j]? = some m := hm
    by_cases c : j < st.ns.length
    · rw [List.getElem?_append_left c] at hm2
      exact Or.inl hm2
    · have hl := (List.getElem?_eq_some_iff.mp hm2).1
      rw [List.length_append, List.length_singleton] at hl
      have : j = st.ns.length := by omega
      subst this
      rw [List.getElem?_append_right (Nat.le_refl _), Nat.sub_self] at hm2
      cases hm2
      exact Or.inr ⟨rfl, ⟨rfl, rfl⟩, rfl⟩
  refine ⟨fun j m hm => ?_, fun j k a b w va vb hj hk9 ha hb => ?_⟩
  · rcases key j m hm with g | ⟨-, g, -⟩
    · exact h.1 j m g
    · rw [g.1, g.2]; exact ⟨hk, hc⟩
  · rcases key j a hj with g | ⟨g1, -, g3⟩
    · rcases key k b hk9 with f | ⟨f1, -, f3⟩
      · exact h.2 j k a b w va vb g f ha hb
      · exact (sDefL_no w _ _ (hn w vb (f3 ▸ hb)) j a va g ha).elim
    · rcases key k b hk9 with f | ⟨f1, -, f3⟩
      · exact (sDefL_no w _ _ (hn w va (g3 ▸ ha)) k b vb f hb).elim
      · rw [g1, f1]
def sGx (L : Nat → Bool → SS → Except (Nat × Nat) (Nat × SS)) : Prop := ∀ (v : Nat) (br : Bool) (st st1 : SS) (n : Nat), kGn st → L v br st = .ok (n, st1) → kGn st1
theorem sAdd_lg {st : SS} {i : Nat} (hi : i < st.ns.length) {nm : List Int32} {nd df : Option Nat} : i < (sAdd st (6 + i) nm nd df).ns.length := by
  have := congrArg List.length (kK_add (st := st) (nm := nm) (nd := nd) (df := df) hi)
  rw [kK_len, kK_len] at this
  omega
theorem sPut_lg {st : SS} {i k m : Nat} (hi : i < st.ns.length) : i < (sPut st (6 + i) k m).ns.length := by
  have := congrArg List.length (kK_pt (st := st) (k := k) (m := m) hi)
  rw [kK_len, kK_len] at this
  omega
theorem sCnt_lg {st : SS} {i ct : Nat} (hi : i < st.ns.length) : i < (sCnt st (6 + i) ct).ns.length := by
  have := congrArg List.length (kK_cnt (st := st) (ct := ct) hi)
  rw [kK_len, kK_len] at this
  omega
theorem sBrn_gn {xs : List JR} {L : Nat → Bool → SS → Except (Nat × Nat) (Nat × SS)} (hX : sLx L) (hI : sGx L) {i : Nat} : ∀ (l : List Nat) (st st1 : SS), i < st.ns.length → kGn st → sBrn xs L (6 + i) l st = .ok st1 → kGn st1 := by
  intro l
  induction l with
  | nil =>
    intro st st1 hi hA h
    cases h
    exact hA
  | cons a l ih =>
    intro st st1 hi hA h
    unfold sBrn at h
    split at h
    · exact nomatch h
    · rename_i nd st2 h2
      split at h
      · exact nomatch h
      · obtain ⟨⟨x1, x2, -⟩, x3, -⟩ := hX _ _ _ _ _ h2
        have hil2 : i < st2.ns.length := by omega
        exact ih _ _ (sAdd_lg hil2) ((hI _ _ _ _ _ hA h2).add hil2) h
theorem sSym_gn {xs : List JR} {i : Nat} : ∀ (l : List Nat) (st st1 : SS), i < st.ns.length → kGn st → sSym xs (6 + i) l st = .ok st1 → i < st1.ns.length ∧ kGn st1 := by
  intro l
  induction l with
  | nil =>
    intro st st1 hi hA h
    cases h
    exact ⟨hi, hA⟩
  | cons a l ih =>
    intro st st1 hi hA h
    unfold sSym at h
    split at h
    · exact ih _ _ (sAdd_lg hi) (hA.add hi) h
    · exact nomatch h
theorem sFld_gn {xs : List JR} {L : Nat → Bool → SS → Except (Nat × Nat) (Nat × SS)} (hX : sLx L) (hI : sGx L) {i f : Nat} {st st1 : SS} (hi : i < st.ns.length) (hA : kGn st) (h : sFld xs L (6 + i) f st = .ok st1) : i < st1.ns.length ∧ kGn st1 := by
  unfold sFld at h
  split at h
  · split at h
    · exact nomatch h
    · split at h
      · split at h
        · split at h
          · exact nomatch h
          · split at h
            · exact nomatch h
            · rename_i nm1 _ _ _ _ _ _ _ nd st2 h2
              cases h
              generalize hws : (xx xs nm1).ws = ws at *
              generalize hdf : xMem xs f (iw [100, 101, 102, 97, 117, 108, 116]) = df at *
              have hl3 : i < (sAdd st (6 + i) ws none df).ns.length := sAdd_lg hi
              obtain ⟨⟨x1, x2, -⟩, x3, -⟩ := hX _ _ _ _ _ h2
              have hil2 : i < st2.ns.length := by omega
              exact ⟨(sPut_lg hil2 : i < (sPut st2 (6 + i) (nN st.ns (6 + i)).ps.length nd).ns.length), ((hI _ _ _ _ _ (hA.add hi) h2).pt hil2 : kGn (sPut st2 (6 + i) (nN st.ns (6 + i)).ps.length nd))⟩
        · exact nomatch h
      · exact nomatch h
  · exact nomatch h
theorem sFds_gn {xs : List JR} {L : Nat → Bool → SS → Except (Nat × Nat) (Nat × SS)} (hX : sLx L) (hI : sGx L) {i : Nat} : ∀ (l : List Nat) (st st1 : SS), i < st.ns.length → kGn st → sFds xs L (6 + i) l st = .ok st1 → kGn st1 := by
  intro l
  induction l with
  | nil =>
    intro st st1 hi hA h
    cases h
    exact hA
  | cons a l ih =>
    intro st st1 hi hA h
    unfold sFds at h
    split at h
    · exact nomatch h
    · rename_i st2 h2
      obtain ⟨g1, g2⟩ := sFld_gn hX hI hi hA h2
      exact ih _ _ g1 g2 h
theorem sLook_gn {xs : List JR} : ∀ m : Nat, sGx (sLook xs m) := by
  intro m
  induction m with
  | zero =>
    intro v br st st1 n hk h
    unfold sLook at h
    split at h
    · exact nomatch h
    · exact nomatch h
  | succ m ih =>
    intro v br st st1 n hN h
    have hX : sLx (sLook xs m) := sLook_ok m
    unfold sLook at h
    have hN1 : kGn (st.lk + 1, st.2) := hN
    split at h
    · exact nomatch h
    · dsimp only at h
      generalize ((st.lk + 1, st.2) : SS) = sa at h hN1
      have lt1 : ∀ (kd ct : Nat) (nm : Option (List Int32 × Nat)), (SS.ns sa).length < (sNew sa kd nm ct).ns.length := fun kd ct nm => by rw [sNew_len]; omega
      have knw : ∀ v9 : Nat, sKnw xs sa v9 = .ok (n, st1) → kGn st1 := fun v9 h => by
        obtain ⟨e1, -⟩ := sKnw_ok h
        subst e1
        exact hN1
      split at h
      · exact knw _ h
      · split at h
        · split at h
          · exact nomatch h
          · unfold sUni at h
            split at h
            · split at h
              · exact nomatch h
              · rename_i st2 h2
                cases h
                exact sBrn_gn hX ih (i := (SS.ns sa).length) _ _ _ (lt1 8 _ none) (hN1.new (nm := none) (by omega) (by omega) (fun w v e => (nomatch e))) h2
            · exact nomatch h
        · split at h
          · unfold sObj at h
            split at h
            · exact nomatch h
            · split at h
              · split at h
                · exact knw _ h
                · rename_i k9 hk9
                  have itm : ∀ (kd : Nat) (w : List Int32), (kd = 6 ∨ kd = 7) → sItm xs (sLook xs m) v kd w sa = .ok (n, st1) → kGn st1 := fun kd w hkd h => by
                    unfold sItm at h
                    split at h
                    · exact nomatch h
                    · split at h
                      · exact nomatch h
                      · rename_i n2 st2 h2
                        cases h
                        have hl1 := lt1 kd 0 none
                        have hA2 : kGn (sAdd (sNew sa kd none 0) (6 + (SS.ns sa).length) [] none none) := (hN1.new (nm := none) (by omega) (by omega) (fun w v e => (nomatch e))).add hl1
                        have hl3 : (SS.ns sa).length < (sAdd (sNew sa kd none 0) (6 + (SS.ns sa).length) [] none none).ns.length := sAdd_lg hl1
                        have h2' : sLook xs m _ false (sAdd (sNew sa kd none 0) (6 + (SS.ns sa).length) [] none none) = .ok (n2, st2) := h2
                        obtain ⟨⟨x1, x2, -⟩, x3, -⟩ := hX _ _ _ _ _ h2'
                        exact (ih _ _ _ _ _ hA2 h2').pt (i := (SS.ns sa).length) (by omega)
                  split at h
                  · exact itm _ _ (Or.inl rfl) h
                  · split at h
                    · exact itm _ _ (Or.inr rfl) h
                    · unfold sNmd at h
                      split at h
                      · exact nomatch h
                      · rename_i s2 st2 h2
                        obtain ⟨n9, gx, -, g3, g4⟩ := sDfn_ok h2
                        have hnd := sDfn_nd h2 gx
                        have hNn : kGn (sNew sa k9 (some ((xx xs n9).ws, n9)) 0) := hN1.new (by have := (sCom_lt hk9).2; omega) (by omega) (fun w v e => by cases e; exact hnd)
                        have hl1 := lt1 k9 0 (some ((xx xs n9).ws, n9))
                        rw [g3, g4] at h
                        clear g3 g4 h2
                        split at h
                        · unfold sFix at h
                          split at h
                          · exact nomatch h
                          · split at h
                            · cases h
                              exact hNn.det (i := (SS.ns sa).length) hl1
                            · exact nomatch h
                        · split at h
                          · unfold sEnm at h
                            split at h
                            · exact nomatch h
                            · split at h
                              · split at h
                                · exact nomatch h
                                · rename_i st3 h3
                                  obtain ⟨g1, g2⟩ := sSym_gn (i := (SS.ns sa).length) _ _ _ (sCnt_lg hl1) (hNn.cnt (i := (SS.ns sa).length) hl1 (by omega)) h3
                                  unfold sFbk at h
                                  split at h
                                  · cases h
                                    exact g2
                                  · split at h
                                    · split at h
                                      · cases h
                                        exact g2.det (i := (SS.ns sa).length) g1
                                      · exact nomatch h
                                    · exact nomatch h
                              · exact nomatch h
                          · unfold sRec at h
                            split at h
                            · exact nomatch h
                            · split at h
                              · split at h
                                · exact nomatch h
                                · rename_i st3 h3
                                  cases h
                                  exact sFds_gn hX ih (i := (SS.ns sa).length) _ _ _ (sCnt_lg hl1) (hNn.cnt (i := (SS.ns sa).length) hl1 (by omega)) h3
                              · exact nomatch h
              · exact nomatch h
          · exact nomatch h
theorem sTop_gn {xs : List JR} {root : Nat} {st : SS} (h : sTop xs = .ok (root, st)) : kGn st := by
  have e : ∀ (i : Nat) (m : SN), ¬ (SS.ns (0, 0, [], []))[i]? = some m := fun i m hh => by
    have : (SS.ns (0, 0, [], []))[i]? = none := rfl
    rw [this] at hh
    exact nomatch hh
  exact sLook_gn 16 0 false _ _ _ ⟨fun i m hm => absurd hm (e i m), fun i j a b w va vb hi => absurd hi (e i a)⟩ h
