/-! ===== what was looked at is whole: all of it ===== -/
theorem xKid_len {xs : List JR} : ∀ {c i : Nat}, (xKid xs c i).length = c := by
  intro c
  induction c with
  | zero => intro i; rfl
  | succ c ih => intro i; show (xKid xs c _).length + 1 = _; rw [ih]
theorem sCnt_at {st : SS} {i ct : Nat} {n : SN} (hi : st.ns[i]? = some n) : (sCnt st (6 + i) ct).ns[i]? = some (n.kd, n.nm, n.dt, ct, n.ps) := by
  unfold sCnt
  rw [nN_at hi]
  exact nPut_at hi
theorem fA.cnt {st : SS} {b i ct : Nat} (h : fA st b i) (hi : i < st.ns.length) : fA (sCnt st (6 + i) ct) b i := by
  have hg := List.getElem?_eq_getElem hi
  unfold sCnt
  rw [nN_at hg]
  exact h.put hg rfl
theorem fA.det {st : SS} {b i : Nat} {x : Int} (h : fA st b i) (hi : i < st.ns.length) : fA (sDet st (6 + i) x) b i := by
  have hg := List.getElem?_eq_getElem hi
  unfold sDet
  rw [nN_at hg]
  exact h.put hg rfl
/-- all but the last, and the last -/
theorem fA.all {st : SS} {b i : Nat} {n : SN} (h : fA st b i) (hi : st.ns[i]? = some n) (hn : fN (kK st) n) : ∀ (j : Nat) (m : SN), b ≤ j → st.ns[j]? = some m → fN (kK st) m := fun j m hb hm => by
  by_cases c : j = i
  · subst c
    rw [hi] at hm
    cases hm
    exact hn
  · exact h j m hb c hm
theorem fN_leaf {K : List Nat} {n : SN} (h1 : n.kd = 9 ∨ n.kd = 10) (h2 : n.ps.length = n.ct) (h3 : n.kd = 9 → 0 ≤ n.dt ∧ n.dt ≤ 64) (h4 : n.kd = 10 → -1 ≤ n.dt ∧ n.dt < (n.ps.length : Int)) : fN K n := ⟨fun c => by omega, fun c => by omega, fun c => by omega, fun _ => h2, h3, h4⟩
theorem sLook_f {xs : List JR} : ∀ m : Nat, sFx (sLook xs m) := by
  intro m
  induction m with
  | zero =>
    intro v br st st1 n hk h
    unfold sLook at h
    split at h
    · exact nomatch h
    · exact nomatch h
  | succ m ih =>
    intro v br st st1 n hN h
    have hX : sLx (sLook xs m) := sLook_ok m
    unfold sLook at h
    have hN1 : kNm (st.lk + 1, st.2) := hN
    have eK1 : kK (st.lk + 1, st.2) = kK st := rfl
    have eL1 : SS.ns (st.lk + 1, st.2) = st.ns := rfl
    split at h
    · exact nomatch h
    · dsimp only at h
      rw [← eK1, ← eL1]
      generalize ((st.lk + 1, st.2) : SS) = sa at h hN1
      have lt1 : ∀ (kd ct : Nat) (nm : Option (List Int32 × Nat)), (SS.ns sa).length < (sNew sa kd nm ct).ns.length := fun kd ct nm => by rw [sNew_len]; omega
      have knw : ∀ v9 : Nat, sKnw xs sa v9 = .ok (n, st1) → kNm st1 ∧ kK sa <+: kK st1 ∧ (∀ (j : Nat) (m : SN), (SS.ns sa).length ≤ j → st1.ns[j]? = some m → fN (kK st1) m) ∧ (br = true → nuN (kK st1) n) := fun v9 h => by
        obtain ⟨e1, -⟩ := sKnw_ok h
        have hnu := sKnw_nu hN1 h
        subst e1
        exact ⟨hN1, List.prefix_refl _, fun j m hj hm => absurd (List.getElem?_eq_some_iff.mp hm).1 (by omega), fun _ => hnu⟩
      -- the new node is that at the end
      have own : ∀ (s2 : SS) (n2 : SN), s2.ns[(SS.ns sa).length]? = some n2 → ¬ n2.kd = 8 → nuN (kK s2) (sNum sa) := fun s2 n2 h2 hne k h6 hk => by
        unfold sNum kK at hk
        rw [show 6 + (SS.ns sa).length - 6 = (SS.ns sa).length by omega, List.getElem?_map, h2] at hk
        cases hk
        exact hne
      split at h
      · exact knw _ h
      · split at h
        · split at h
          · exact nomatch h
          · rename_i hbr
            unfold sUni at h
            split at h
            · rename_i hlen
              split at h
              · exact nomatch h
              · rename_i st2 h2
                cases h
                obtain ⟨g1, g2, g3, n1, g4, g5, g6, g7, g8⟩ := sBrn_f hX ih (i := (SS.ns sa).length) (b := (SS.ns sa).length) _ _ _ _ sNew_at rfl (by show 0 + (xKids xs v).length = _; unfold xKids; rw [xKid_len]; exact Nat.zero_add _) (fun q hq => nomatch hq) (hN1.new (Or.inl rfl)) fA_new h2
                refine ⟨g1, kK_new.trans g2, g3.all g4 ⟨fun c => by omega, fun _ q hq => by rw [g5]; exact g8 q hq, fun _ => ?_, fun _ => by omega, fun c => by omega, fun c => by omega⟩, fun e => absurd e hbr⟩
                rw [g7]
                exact hlen.1
            · exact nomatch h
        · split at h
          · unfold sObj at h
            split at h
            · exact nomatch h
            · split at h
              · split at h
                · exact knw _ h
                · rename_i k9 hk9
                  have itm : ∀ (kd : Nat) (w : List Int32), (kd = 6 ∨ kd = 7) → sItm xs (sLook xs m) v kd w sa = .ok (n, st1) → kNm st1 ∧ kK sa <+: kK st1 ∧ (∀ (j : Nat) (m : SN), (SS.ns sa).length ≤ j → st1.ns[j]? = some m → fN (kK st1) m) ∧ (br = true → nuN (kK st1) n) := fun kd w hkd h => by
                    unfold sItm at h
                    split at h
                    · exact nomatch h
                    · split at h
                      · exact nomatch h
                      · rename_i n2 st2 h2
                        cases h
                        have hl1 := lt1 kd 0 none
                        have e3 : (sAdd (sNew sa kd none 0) (6 + (SS.ns sa).length) [] none none).ns[(SS.ns sa).length]? = some (kd, none, -1, 0, [([], none, none, (sNew sa kd none 0).kc)]) := by
                          unfold sAdd
                          rw [nN_at sNew_at]
                          exact nPut_at sNew_at
                        have eK : kK (sAdd (sNew sa kd none 0) (6 + (SS.ns sa).length) [] none none) = kK (sNew sa kd none 0) := kK_add hl1
                        have hN2 : kNm (sAdd (sNew sa kd none 0) (6 + (SS.ns sa).length) [] none none) := (hN1.new (Or.inl rfl)).add hl1
                        have hA2 : fA (sAdd (sNew sa kd none 0) (6 + (SS.ns sa).length) [] none none) (SS.ns sa).length (SS.ns sa).length := by
                          unfold sAdd
                          rw [nN_at sNew_at]
                          exact fA_new.put sNew_at rfl
                        have hil3 := (List.getElem?_eq_some_iff.mp e3).1
                        have h2' : sLook xs m _ false (sAdd (sNew sa kd none 0) (6 + (SS.ns sa).length) [] none none) = .ok (n2, st2) := h2
                        obtain ⟨⟨x1, x2, -⟩, x3, -⟩ := hX _ _ _ _ _ h2'
                        obtain ⟨f1, f2, f3, f4⟩ := ih _ _ _ _ _ hN2 h2'
                        rw [eK] at f2
                        have hi2 := (x2 _ hil3).trans e3
                        have hil2 := (List.getElem?_eq_some_iff.mp hi2).1
                        have hA5 := (hA2.look hX ih hN2 h2').put (kc := st2.kc) (lt := st2.lt) (n' := (kd, none, -1, 0, [([], some n2, none, (sNew sa kd none 0).kc)])) hi2 rfl
                        have e5 : sPut st2 (sNum sa) 0 n2 = (st2.lk, st2.kc, nPut st2.ns (6 + (SS.ns sa).length) (kd, none, -1, 0, [([], some n2, none, (sNew sa kd none 0).kc)]), st2.lt) := by
                          unfold sPut
                          rw [show sNum sa = 6 + (SS.ns sa).length from rfl, nN_at hi2]
                          rfl
                        have hN5 : kNm (sPut st2 (6 + (SS.ns sa).length) 0 n2) := f1.pt hil2
                        have e6 : kK (sPut st2 (6 + (SS.ns sa).length) 0 n2) = kK st2 := kK_pt hil2
                        have hat : (sPut st2 (sNum sa) 0 n2).ns[(SS.ns sa).length]? = some (kd, none, -1, 0, [([], some n2, none, (sNew sa kd none 0).kc)]) := by
                          rw [e5]
                          exact nPut_at hi2
                        rw [← e5] at hA5
                        refine ⟨hN5, ?_, hA5.all hat ⟨fun _ => ⟨_, rfl⟩, fun _ q hq => ?_, fun c => absurd (show kd = 8 from c) (by omega), fun c => absurd (show kd = 6 ∨ kd = 7 from hkd) c, fun c => absurd (show kd = 9 from c) (by omega), fun c => absurd (show kd = 10 from c) (by omega)⟩, fun _ => own _ _ hat (show ¬ kd = 8 by omega)⟩
                        · show kK sa <+: kK (sPut st2 (6 + (SS.ns sa).length) 0 n2)
                          rw [e6]
                          exact kK_new.trans f2
                        · have hq2 : q ∈ [(([], some n2, none, (sNew sa kd none 0).kc) : SP)] := hq
                          rw [List.mem_singleton] at hq2
                          subst hq2
                          refine ⟨n2, rfl, ?_, fun c => absurd (show kd = 8 from c) (by omega)⟩
                          show n2 < 6 + (kK (sPut st2 (6 + (SS.ns sa).length) 0 n2)).length
                          rw [e6, kK_len]
                          exact x3
                  split at h
                  · exact itm _ _ (Or.inl rfl) h
                  · split at h
                    · exact itm _ _ (Or.inr rfl) h
                    · rename_i h6 h7
                      have hk12 := (sCom_lt hk9).2
                      unfold sNmd at h
                      split at h
                      · exact nomatch h
                      · rename_i s2 st2 h2
                        obtain ⟨n9, -, -, g3, g4⟩ := sDfn_ok h2
                        have hNn : ∀ nm : Option (List Int32 × Nat), kNm (sNew sa k9 nm 0) := fun nm => hN1.new (Or.inr (by omega))
                        have hl1 := lt1 k9 0 (some ((xx xs n9).ws, n9))
                        rw [g3, g4] at h
                        clear g3 g4 h2
                        have hat0 : (sNew sa k9 (some ((xx xs n9).ws, n9)) 0).ns[(SS.ns sa).length]? = some (k9, some ((xx xs n9).ws, n9), -1, 0, []) := sNew_at
                        split at h
                        · rename_i e9
                          unfold sFix at h
                          split at h
                          · exact nomatch h
                          · split at h
                            · rename_i z hz hcz
                              cases h
                              have hat : (sDet (sNew sa k9 (some ((xx xs n9).ws, n9)) 0) (6 + (SS.ns sa).length) (xx xs z).num.toInt).ns[(SS.ns sa).length]? = some (k9, some ((xx xs n9).ws, n9), (xx xs z).num.toInt, 0, []) := by
                                unfold sDet
                                rw [nN_at hat0]
                                exact nPut_at hat0
                              have eK : kK (sDet (sNew sa k9 (some ((xx xs n9).ws, n9)) 0) (6 + (SS.ns sa).length) (xx xs z).num.toInt) = kK (sNew sa k9 (some ((xx xs n9).ws, n9)) 0) := kK_det hl1
                              refine ⟨(hNn _).det (i := (SS.ns sa).length) hl1, ?_, (fA_new.det (i := (SS.ns sa).length) hl1).all hat (fN_leaf (Or.inl e9) rfl (fun _ => hcz.2) (fun c => absurd (show k9 = 10 from c) (by omega))), fun _ => own _ _ hat (show ¬ k9 = 8 by omega)⟩
                              show kK sa <+: kK (sDet (sNew sa k9 (some ((xx xs n9).ws, n9)) 0) (6 + (SS.ns sa).length) (xx xs z).num.toInt)
                              rw [eK]
                              exact kK_new
                            · exact nomatch h
                        · split at h
                          · rename_i e10
                            unfold sEnm at h
                            split at h
                            · exact nomatch h
                            · rename_i z hz
                              split at h
                              · split at h
                                · exact nomatch h
                                · rename_i st3 h3
                                  have eK : ∀ ct : Nat, kK (sCnt (sNew sa k9 (some ((xx xs n9).ws, n9)) 0) (6 + (SS.ns sa).length) ct) = kK (sNew sa k9 (some ((xx xs n9).ws, n9)) 0) := fun ct => kK_cnt hl1
                                  obtain ⟨g1, g2, g3, n1, g4, g5, g6, g7, g7d⟩ := sSym_f (i := (SS.ns sa).length) (b := (SS.ns sa).length) _ _ _ _ (sCnt_at hat0) (by show 0 + (xKids xs z).length = _; unfold xKids; rw [xKid_len]; exact Nat.zero_add _) ((hNn _).cnt (i := (SS.ns sa).length) hl1) (fA_new.cnt (i := (SS.ns sa).length) hl1) h3
                                  have hil4 := (List.getElem?_eq_some_iff.mp g4).1
                                  have g2' : kK (sNew sa k9 (some ((xx xs n9).ws, n9)) 0) = kK st3 := by rw [← g2]; exact (eK _).symm
                                  unfold sFbk at h
                                  split at h
                                  · cases h
                                    refine ⟨g1, ?_, g3.all g4 (fN_leaf (Or.inr (by rw [g5]; exact e10)) (by omega) (fun c => absurd (g5.symm.trans c) (show ¬ k9 = 9 by omega)) (fun _ => by have e8 : n1.dt = -1 := g7d; rw [e8]; exact ⟨Int.le_refl _, by omega⟩)), fun _ => own _ _ g4 (by rw [g5]; show ¬ k9 = 8; omega)⟩
                                    rw [← g2']
                                    exact kK_new
                                  · split at h
                                    · split at h
                                      · rename_i k7 hk7
                                        cases h
                                        have hat : (sDet st3 (6 + (SS.ns sa).length) (k7 : Int)).ns[(SS.ns sa).length]? = some (n1.kd, n1.nm, (k7 : Int), n1.ct, n1.ps) := by
                                          unfold sDet
                                          rw [nN_at g4]
                                          exact nPut_at g4
                                        have eK7 : kK (sDet st3 (6 + (SS.ns sa).length) (k7 : Int)) = kK st3 := kK_det hil4
                                        refine ⟨g1.det (i := (SS.ns sa).length) hil4, ?_, (g3.det (i := (SS.ns sa).length) hil4).all hat (fN_leaf (Or.inr (by show n1.kd = 10; rw [g5]; exact e10)) (by show n1.ps.length = n1.ct; omega) (fun c => absurd (g5.symm.trans (show n1.kd = 9 from c)) (show ¬ k9 = 9 by omega)) (fun _ => by have := sPrtL_lt _ _ _ _ hk7; rw [show sNum sa = 6 + (SS.ns sa).length from rfl, nN_at g4] at this; exact ⟨show -1 ≤ ((k7 : Nat) : Int) by omega, show ((k7 : Nat) : Int) < (n1.ps.length : Int) by omega⟩)), fun _ => own _ _ hat (by show ¬ n1.kd = 8; rw [g5]; show ¬ k9 = 8; omega)⟩
                                        show kK sa <+: kK (sDet st3 (6 + (SS.ns sa).length) (k7 : Int))
                                        rw [eK7, ← g2']
                                        exact kK_new
                                      · exact nomatch h
                                    · exact nomatch h
                              · exact nomatch h
                          · have e11 : k9 = 11 := by omega
                            unfold sRec at h
                            split at h
                            · exact nomatch h
                            · rename_i z hz
                              split at h
                              · split at h
                                · exact nomatch h
                                · rename_i st3 h3
                                  cases h
                                  have eK : ∀ ct : Nat, kK (sCnt (sNew sa k9 (some ((xx xs n9).ws, n9)) 0) (6 + (SS.ns sa).length) ct) = kK (sNew sa k9 (some ((xx xs n9).ws, n9)) 0) := fun ct => kK_cnt hl1
                                  obtain ⟨g1, g2, g3, n1, g4, g5, g6, g7, g8⟩ := sFds_f hX ih (i := (SS.ns sa).length) (b := (SS.ns sa).length) _ _ _ _ (sCnt_at hat0) e11 (by show 0 + (xKids xs z).length = _; unfold xKids; rw [xKid_len]; exact Nat.zero_add _) (fun q hq => nomatch hq) ((hNn _).cnt (i := (SS.ns sa).length) hl1) (fA_new.cnt (i := (SS.ns sa).length) hl1) h3
                                  refine ⟨g1, ?_, g3.all g4 ⟨fun c => by omega, fun _ q hq => by rw [g5]; exact g8 q hq, fun c => by omega, fun _ => by omega, fun c => by omega, fun c => by omega⟩, fun _ => own _ _ g4 (by omega)⟩
                                  rw [eK] at g2
                                  exact kK_new.trans g2
                              · exact nomatch h
              · exact nomatch h
          · exact nomatch h
