/-! ===== the item of an array that is an array or a map stands behind it: all of it ===== -/
theorem sKnw_i {xs : List JR} {st st1 : SS} {v n : Nat} (hN : kNm st) (h : sKnw xs st v = .ok (n, st1)) : 6 ≤ n → ¬ ((kK st)[n - 6]? = some 6 ∨ (kK st)[n - 6]? = some 7) := by
  unfold sKnw at h
  split at h
  · rename_i k hk
    cases h
    intro h6
    have := sSix_lt hk
    omega
  · split at h
    · rename_i s hs
      cases h
      intro h6 hh
      obtain ⟨i, m, h1, h2, h3⟩ := sDefL_nm _ _ _ _ hs
      subst h2
      have h4 := hN i m h1 h3
      rw [show 6 + i - 6 = i by omega] at hh
      unfold kK at hh
      rw [List.getElem?_map, h1] at hh
      rcases hh with e | e
      · have : m.kd = 6 := Option.some.inj e
        omega
      · have : m.kd = 7 := Option.some.inj e
        omega
    · exact nomatch h
theorem sLook_i {xs : List JR} : ∀ m : Nat, sIx (sLook xs m) := by
  intro m
  induction m with
  | zero =>
    intro v br st st1 n hk h
    unfold sLook at h
    split at h
    · exact nomatch h
    · exact nomatch h
  | succ m ih =>
    intro v br st st1 n hN h
    have hX : sLx (sLook xs m) := sLook_ok m
    have hF : sFx (sLook xs m) := sLook_f m
    unfold sLook at h
    have hN1 : kNm (st.lk + 1, st.2) := hN
    have eL1 : SS.ns (st.lk + 1, st.2) = st.ns := rfl
    split at h
    · exact nomatch h
    · dsimp only at h
      rw [← eL1]
      generalize ((st.lk + 1, st.2) : SS) = sa at h hN1
      have lt1 : ∀ (kd ct : Nat) (nm : Option (List Int32 × Nat)), (SS.ns sa).length < (sNew sa kd nm ct).ns.length := fun kd ct nm => by rw [sNew_len]; omega
      have knw : ∀ v9 : Nat, sKnw xs sa v9 = .ok (n, st1) → (∀ (j : Nat) (m : SN), (SS.ns sa).length ≤ j → st1.ns[j]? = some m → iN (kK st1) j m) ∧ (6 ≤ n → (kK st1)[n - 6]? = some 6 ∨ (kK st1)[n - 6]? = some 7 → 6 + (SS.ns sa).length ≤ n) := fun v9 h => by
        obtain ⟨e1, -⟩ := sKnw_ok h
        have hnu := sKnw_i hN1 h
        subst e1
        exact ⟨fun j m hj hm => absurd (List.getElem?_eq_some_iff.mp hm).1 (by omega), fun h6 hh => absurd hh (hnu h6)⟩
      have own : 6 ≤ sNum sa → (kK st1)[sNum sa - 6]? = some 6 ∨ (kK st1)[sNum sa - 6]? = some 7 → 6 + (SS.ns sa).length ≤ sNum sa := fun _ _ => Nat.le_refl _
      split at h
      · exact knw _ h
      · split at h
        · split at h
          · exact nomatch h
          · unfold sUni at h
            split at h
            · rename_i hlen
              split at h
              · exact nomatch h
              · rename_i st2 h2
                cases h
                have g := sBrn_i hX hF ih (i := (SS.ns sa).length) (b := (SS.ns sa).length) _ _ _ (lt1 8 _ none) (hN1.new (Or.inl rfl)) iA_new h2
                obtain ⟨g1, g2, g3, n1, g4, g5, g6, g7, g8⟩ := sBrn_f hX hF (i := (SS.ns sa).length) (b := (SS.ns sa).length) _ _ _ _ sNew_at rfl (by show 0 + (xKids xs v).length = _; unfold xKids; rw [xKid_len]; exact Nat.zero_add _) (fun q hq => nomatch hq) (hN1.new (Or.inl rfl)) fA_new h2
                exact ⟨g.all g4 (iN.other (by omega)), own⟩
            · exact nomatch h
        · split at h
          · unfold sObj at h
            split at h
            · exact nomatch h
            · split at h
              · split at h
                · exact knw _ h
                · rename_i k9 hk9
                  have itm : ∀ (kd : Nat) (w : List Int32), (kd = 6 ∨ kd = 7) → sItm xs (sLook xs m) v kd w sa = .ok (n, st1) → (∀ (j : Nat) (m : SN), (SS.ns sa).length ≤ j → st1.ns[j]? = some m → iN (kK st1) j m) ∧ (6 ≤ n → (kK st1)[n - 6]? = some 6 ∨ (kK st1)[n - 6]? = some 7 → 6 + (SS.ns sa).length ≤ n) := fun kd w hkd h => by
                    unfold sItm at h
                    split at h
                    · exact nomatch h
                    · split at h
                      · exact nomatch h
                      · rename_i n2 st2 h2
                        cases h
                        have hl1 := lt1 kd 0 none
                        have e3 : (sAdd (sNew sa kd none 0) (6 + (SS.ns sa).length) [] none none).ns[(SS.ns sa).length]? = some (kd, none, -1, 0, [([], none, none, (sNew sa kd none 0).kc)]) := by
                          unfold sAdd
                          rw [nN_at sNew_at]
                          exact nPut_at sNew_at
                        have hN2 : kNm (sAdd (sNew sa kd none 0) (6 + (SS.ns sa).length) [] none none) := (hN1.new (Or.inl rfl)).add hl1
                        have hA2 : iA (sAdd (sNew sa kd none 0) (6 + (SS.ns sa).length) [] none none) (SS.ns sa).length (SS.ns sa).length := iA_new.add (i := (SS.ns sa).length) hl1
                        have hil3 := (List.getElem?_eq_some_iff.mp e3).1
                        have h2' : sLook xs m _ false (sAdd (sNew sa kd none 0) (6 + (SS.ns sa).length) [] none none) = .ok (n2, st2) := h2
                        obtain ⟨⟨x1, x2, -⟩, x3, -⟩ := hX _ _ _ _ _ h2'
                        obtain ⟨i1, i2⟩ := ih _ _ _ _ _ hN2 h2'
                        have hi2 := (x2 _ hil3).trans e3
                        have hil2 := (List.getElem?_eq_some_iff.mp hi2).1
                        have hA5 : iA (sPut st2 (sNum sa) 0 n2) (SS.ns sa).length (SS.ns sa).length := (hA2.look hX hF ih hN2 h2').pt (i := (SS.ns sa).length) hil2
                        have e5 : sPut st2 (sNum sa) 0 n2 = (st2.lk, st2.kc, nPut st2.ns (6 + (SS.ns sa).length) (kd, none, -1, 0, [([], some n2, none, (sNew sa kd none 0).kc)]), st2.lt) := by
                          unfold sPut
                          rw [show sNum sa = 6 + (SS.ns sa).length from rfl, nN_at hi2]
                          rfl
                        have e6 : kK (sPut st2 (sNum sa) 0 n2) = kK st2 := kK_pt (i := (SS.ns sa).length) hil2
                        have hat : (sPut st2 (sNum sa) 0 n2).ns[(SS.ns sa).length]? = some (kd, none, -1, 0, [([], some n2, none, (sNew sa kd none 0).kc)]) := by
                          rw [e5]
                          exact nPut_at hi2
                        refine ⟨hA5.all hat (fun _ q hq k hk => ?_), own⟩
                        have hq2 : q ∈ [(([], some n2, none, (sNew sa kd none 0).kc) : SP)] := hq
                        rw [List.mem_singleton] at hq2
                        subst hq2
                        have hk2 : n2 = k := Option.some.inj hk
                        subst hk2
                        rw [e6]
                        refine ⟨by rw [kK_len]; exact x3, fun h6 hh => ?_⟩
                        have := i2 h6 hh
                        omega
                  split at h
                  · exact itm _ _ (Or.inl rfl) h
                  · split at h
                    · exact itm _ _ (Or.inr rfl) h
                    · rename_i h6 h7
                      unfold sNmd at h
                      split at h
                      · exact nomatch h
                      · rename_i s2 st2 h2
                        obtain ⟨n9, -, -, g3, g4⟩ := sDfn_ok h2
                        have hk12 := (sCom_lt hk9).2
                        have hNn : ∀ nm : Option (List Int32 × Nat), kNm (sNew sa k9 nm 0) := fun nm => hN1.new (Or.inr (by omega))
                        have hl1 := lt1 k9 0 (some ((xx xs n9).ws, n9))
                        rw [g3, g4] at h
                        clear g3 g4 h2
                        have hat0 : (sNew sa k9 (some ((xx xs n9).ws, n9)) 0).ns[(SS.ns sa).length]? = some (k9, some ((xx xs n9).ws, n9), -1, 0, []) := sNew_at
                        have hkx : ∀ ct : Nat, (SS.ns sa).length < (sCnt (sNew sa k9 (some ((xx xs n9).ws, n9)) 0) (6 + (SS.ns sa).length) ct).ns.length := fun ct => by
                          have := congrArg List.length (kK_cnt (st := sNew sa k9 (some ((xx xs n9).ws, n9)) 0) (ct := ct) hl1)
                          rw [kK_len, kK_len] at this
                          omega
                        split at h
                        · unfold sFix at h
                          split at h
                          · exact nomatch h
                          · split at h
                            · rename_i z hz hcz
                              cases h
                              have hat : (sDet (sNew sa k9 (some ((xx xs n9).ws, n9)) 0) (6 + (SS.ns sa).length) (xx xs z).num.toInt).ns[(SS.ns sa).length]? = some (k9, some ((xx xs n9).ws, n9), (xx xs z).num.toInt, 0, []) := by
                                unfold sDet
                                rw [nN_at hat0]
                                exact nPut_at hat0
                              exact ⟨(iA_new.det (i := (SS.ns sa).length) hl1).all hat (iN.other (by show ¬ (k9 = 6 ∨ k9 = 7); omega)), own⟩
                            · exact nomatch h
                        · split at h
                          · unfold sEnm at h
                            split at h
                            · exact nomatch h
                            · rename_i z hz
                              split at h
                              · split at h
                                · exact nomatch h
                                · rename_i st3 h3
                                  have g := sSym_i (i := (SS.ns sa).length) (b := (SS.ns sa).length) _ _ _ (hkx _) (iA_new.cnt (i := (SS.ns sa).length) hl1) h3
                                  obtain ⟨g1, g2, g3, n1, g4, g5, g6, g7, g7d⟩ := sSym_f (i := (SS.ns sa).length) (b := (SS.ns sa).length) _ _ _ _ (sCnt_at hat0) (by show 0 + (xKids xs z).length = _; unfold xKids; rw [xKid_len]; exact Nat.zero_add _) ((hNn _).cnt (i := (SS.ns sa).length) hl1) (fA_new.cnt (i := (SS.ns sa).length) hl1) h3
                                  have hil4 := (List.getElem?_eq_some_iff.mp g4).1
                                  have g5' : n1.kd = k9 := g5
                                  unfold sFbk at h
                                  split at h
                                  · cases h
                                    exact ⟨g.all g4 (iN.other (by omega)), own⟩
                                  · split at h
                                    · split at h
                                      · rename_i k7 hk7
                                        cases h
                                        have hat : (sDet st3 (6 + (SS.ns sa).length) (k7 : Int)).ns[(SS.ns sa).length]? = some (n1.kd, n1.nm, (k7 : Int), n1.ct, n1.ps) := by
                                          unfold sDet
                                          rw [nN_at g4]
                                          exact nPut_at g4
                                        exact ⟨(g.det (i := (SS.ns sa).length) hil4).all hat (iN.other (by show ¬ (n1.kd = 6 ∨ n1.kd = 7); omega)), own⟩
                                      · exact nomatch h
                                    · exact nomatch h
                              · exact nomatch h
                          · have e11 : k9 = 11 := by omega
                            unfold sRec at h
                            split at h
                            · exact nomatch h
                            · rename_i z hz
                              split at h
                              · split at h
                                · exact nomatch h
                                · rename_i st3 h3
                                  cases h
                                  have g := sFds_i hX hF ih (i := (SS.ns sa).length) (b := (SS.ns sa).length) _ _ _ (hkx _) ((hNn _).cnt (i := (SS.ns sa).length) hl1) (iA_new.cnt (i := (SS.ns sa).length) hl1) h3
                                  obtain ⟨g1, g2, g3, n1, g4, g5, g6, g7, g8⟩ := sFds_f hX hF (i := (SS.ns sa).length) (b := (SS.ns sa).length) _ _ _ _ (sCnt_at hat0) e11 (by show 0 + (xKids xs z).length = _; unfold xKids; rw [xKid_len]; exact Nat.zero_add _) (fun q hq => nomatch hq) ((hNn _).cnt (i := (SS.ns sa).length) hl1) (fA_new.cnt (i := (SS.ns sa).length) hl1) h3
                                  exact ⟨g.all g4 (iN.other (by omega)), own⟩
                              · exact nomatch h
              · exact nomatch h
          · exact nomatch h
/-- of a whole schema -/
def kI (st : SS) : Prop := ∀ (i : Nat) (n : SN), st.ns[i]? = some n → iN (kK st) i n
theorem sTop_i {xs : List JR} {root : Nat} {st : SS} (h : sTop xs = .ok (root, st)) : kI st := by
  have e : ∀ (i : Nat) (m : SN), ¬ (SS.ns (0, 0, [], []))[i]? = some m := fun i m hh => by
    have : (SS.ns (0, 0, [], []))[i]? = none := rfl
    rw [this] at hh
    exact nomatch hh
  exact fun i n hi => (sLook_i 16 0 false _ _ _ (fun i m hm => absurd hm (e i m)) h).1 i n (Nat.zero_le _) hi
