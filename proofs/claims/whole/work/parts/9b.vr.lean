/-! ===== the fields that are done: all of a look ===== -/
theorem dK_dW {xs : List JR} {v : Nat} (hw : jWf xs) (hv : v < xs.length) : dK xs v ≤ dW xs v := by
  have h1 := dV_eq hw hv
  have h2 := dV_key hw hv
  omega
theorem dW_mem {xs : List JR} {v j : Nat} {w : List Int32} (hw : jWf xs) (hv : v < xs.length) (h : xMem xs v w = some j) : dW xs j ≤ dW xs v := by
  have := xMem_one hw hv h
  unfold dW
  omega
theorem sFbk_t {xs : List JR} {v i s1 : Nat} {E : Nat → Nat → Prop} {st st1 : SS} (hi : i < st.ns.length) (hT : kT xs st) (hR : kR st E) (h : sFbk xs v (6 + i) st = .ok (s1, st1)) : kT xs st1 ∧ kR st1 E ∧ st1.lt = st.lt := by
  unfold sFbk at h
  split at h
  · cases h; exact ⟨hT, hR, rfl⟩
  · split at h
    · split at h
      · cases h; exact ⟨hT.det hi, hR.det hi, rfl⟩
      · exact nomatch h
    · exact nomatch h
theorem sLook_t {xs : List JR} (hw : jWf xs) : ∀ m : Nat, sTx xs (sLook xs m) := by
  intro m
  induction m with
  | zero =>
    intro v br st st1 n E hv hT hR h
    unfold sLook at h
    split at h
    · exact nomatch h
    · exact nomatch h
  | succ m ih =>
    intro v br st st1 n E hvl hT hR h
    have hX : sLx (sLook xs m) := sLook_ok m
    unfold sLook at h
    have hT1 : kT xs (st.lk + 1, st.2) := hT
    have hR1 : kR (st.lk + 1, st.2) E := hR
    have eL : SS.lt (st.lk + 1, st.2) = st.lt := rfl
    split at h
    · exact nomatch h
    · dsimp only at h
      rw [← eL]
      generalize ((st.lk + 1, st.2) : SS) = sa at h hT1 hR1
      have lt1 : ∀ (kd ct : Nat) (nm : Option (List Int32 × Nat)), (SS.ns sa).length < (sNew sa kd nm ct).ns.length := fun kd ct nm => by rw [sNew_len]; omega
      have knw : ∀ v9 : Nat, sKnw xs sa v9 = .ok (n, st1) → kT xs st1 ∧ kR st1 E ∧ lW xs st1.lt ≤ lW xs (SS.lt sa) + dW xs v := fun v9 h => by
        rw [(sKnw_ok h).1]
        exact ⟨hT1, hR1, Nat.le_add_right _ _⟩
      split at h
      · exact knw _ h
      · split at h
        · split at h
          · exact nomatch h
          · unfold sUni at h
            split at h
            · split at h
              · exact nomatch h
              · rename_i st2 h2
                cases h
                obtain ⟨u1, u2, u3⟩ := sBrn_t hX ih (i := (SS.ns sa).length) _ _ _ (fun b hb => (xKids_mem hw hvl hb).2.2.1) (lt1 _ _ _) (kX_new (by decide)) hT1.new hR1.new h2
                have h3 := dK_kids hw hvl
                have h4 := dK_dW hw hvl
                have u4 : lW xs st1.lt ≤ lW xs (SS.lt sa) + lSum (dW xs) (xKids xs v) := u3
                exact ⟨u1, u2, by omega⟩
            · exact nomatch h
        · split at h
          · unfold sObj at h
            split at h
            · exact nomatch h
            · split at h
              · split at h
                · exact knw _ h
                · rename_i k9 hk9
                  have itm : ∀ (kd : Nat) (w : List Int32), ¬ kd = 11 → sItm xs (sLook xs m) v kd w sa = .ok (n, st1) → kT xs st1 ∧ kR st1 E ∧ lW xs st1.lt ≤ lW xs (SS.lt sa) + dW xs v := fun kd w hkd h => by
                    unfold sItm at h
                    split at h
                    · exact nomatch h
                    · rename_i z hz
                      split at h
                      · exact nomatch h
                      · rename_i n2 st2 h2
                        cases h
                        have hl := (hX _ _ _ _ _ h2).1.1
                        have hi2 : (SS.ns sa).length < st2.ns.length := by
                          refine Nat.lt_of_lt_of_le ?_ hl
                          show _ < (nPut (sNew sa kd none 0).ns (6 + (SS.ns sa).length) _).length
                          rw [nPut_len]
                          exact lt1 _ _ _
                        obtain ⟨u1, u2, u3⟩ := ih _ _ _ _ _ E (xMem_mem hw hvl hz).2.2 (hT1.new.add (i := (SS.ns sa).length) (lt1 _ _ _)) (hR1.new.addX (i := (SS.ns sa).length) (lt1 _ _ _) (kX_new hkd)) h2
                        have h3 := dW_mem hw hvl hz
                        have u4 : lW xs st2.lt ≤ lW xs (SS.lt sa) + dW xs z := u3
                        exact ⟨u1.pt (i := (SS.ns sa).length) hi2, u2.pt (i := (SS.ns sa).length) hi2, by show lW xs st2.lt ≤ _; omega⟩
                  split at h
                  · exact itm _ _ (by decide) h
                  · split at h
                    · exact itm _ _ (by decide) h
                    · unfold sNmd at h
                      split at h
                      · exact nomatch h
                      · rename_i s2 st2 h2
                        obtain ⟨n9, -, -, g3, g4⟩ := sDfn_ok h2
                        subst g3
                        subst g4
                        have hl1 := lt1 k9 0 (some ((xx xs n9).ws, n9))
                        split at h
                        · unfold sFix at h
                          split at h
                          · exact nomatch h
                          · split at h
                            · cases h
                              exact ⟨hT1.new.det (i := (SS.ns sa).length) hl1, hR1.new.det (i := (SS.ns sa).length) hl1, Nat.le_add_right _ _⟩
                            · exact nomatch h
                        · split at h
                          · rename_i e10
                            unfold sEnm at h
                            split at h
                            · exact nomatch h
                            · split at h
                              · split at h
                                · exact nomatch h
                                · rename_i st3 h3
                                  have hi3 : ∀ ct : Nat, (SS.ns sa).length < (sCnt (sNew sa k9 (some ((xx xs n9).ws, n9)) 0) (6 + (SS.ns sa).length) ct).ns.length := fun ct => by rw [sCnt_len]; exact hl1
                                  obtain ⟨u1, u2, u3⟩ := sSym_t (i := (SS.ns sa).length) _ _ _ (hi3 _) ((kX_new (by omega)).cnt hl1) (hT1.new.cnt (i := (SS.ns sa).length) hl1) (hR1.new.cnt (i := (SS.ns sa).length) hl1) h3
                                  obtain ⟨w1, w2, w3⟩ := sFbk_t (i := (SS.ns sa).length) (Nat.lt_of_lt_of_le (hi3 _) (sSym_ok _ _ _ h3).1) u1 u2 h
                                  exact ⟨w1, w2, by rw [w3, u3]; exact Nat.le_add_right _ _⟩
                              · exact nomatch h
                          · rename_i e9 e10
                            have e11 : k9 = 11 := by have := (sCom_lt hk9).2; omega
                            unfold sRec at h
                            split at h
                            · exact nomatch h
                            · rename_i z hz
                              split at h
                              · rename_i hcz
                                split at h
                                · exact nomatch h
                                · rename_i st3 h3
                                  cases h
                                  have hzl := (xMem_mem hw hvl hz).2.2
                                  obtain ⟨u1, u2, u3⟩ := sFds_t hw hX ih (i := (SS.ns sa).length) _ _ _ _ (fun b hb => (xKids_mem hw hzl hb).2.2.1) (sCnt_at (i := (SS.ns sa).length) sNew_at) e11 (hT1.new.cnt (i := (SS.ns sa).length) hl1) (hR1.new.cnt (i := (SS.ns sa).length) hl1) h3
                                  have h3' := dK_kids hw hzl
                                  have h4 := dK_dW hw hzl
                                  have h5 := dW_mem hw hvl hz
                                  have u4 : lW xs st1.lt ≤ lW xs (SS.lt sa) + lSum (dW xs) (xKids xs z) := u3
                                  exact ⟨u1, u2, by omega⟩
                              · exact nomatch h
              · exact nomatch h
          · exact nomatch h
/-- all that a whole look gives -/
def sFin (xs : List JR) (n : Nat) (st : SS) : Prop := kOk st ∧ kV st ∧ kD st ∧ kF st ∧ kT xs st ∧ kR st (fun _ _ => False) ∧ lW xs st.lt ≤ dW xs 0 ∧ n < 6 + st.ns.length
theorem sTop_fin {xs : List JR} (hw : jWf xs) (h0 : 0 < xs.length) {n : Nat} {st : SS} (h : sTop xs = .ok (n, st)) : sFin xs n st := by
  unfold sTop at h
  have e : ∀ (i : Nat) (m : SN), ¬ (SS.ns (0, 0, [], []))[i]? = some m := fun i m hh => by
    have : (SS.ns (0, 0, [], []))[i]? = none := rfl
    rw [this] at hh
    exact nomatch hh
  have k1 : kOk (0, 0, [], []) := fun i m hm => absurd hm (e i m)
  have k2 : kV (0, 0, [], []) := ⟨⟨fun i m q hm => absurd hm (e i m), fun i j m m2 q r hm => absurd hm (e i m), fun i m hm => absurd hm (e i m)⟩, fun z hz => nomatch hz⟩
  have k3 : kD (0, 0, [], []) := fun i m hm => absurd hm (e i m)
  have k4 : kNm (0, 0, [], []) := fun i m hm => absurd hm (e i m)
  have k5 : kT xs (0, 0, [], []) := fun z hz => nomatch hz
  have k6 : kR (0, 0, [], []) (fun _ _ => False) := fun i k m hm => absurd hm (e i m)
  obtain ⟨t1, t2, t3⟩ := sLook_t hw 16 _ _ _ _ _ _ h0 k5 k6 h
  obtain ⟨f1, f2, f3, f4⟩ := sLook_f 16 _ _ _ _ _ k4 h
  have t4 : lW xs st.lt ≤ 0 + dW xs 0 := t3
  exact ⟨sLook_k 16 _ _ _ _ _ k1 h, sLook_v 16 _ _ _ _ _ k2 h, sLook_d 16 _ _ _ _ _ k3 h, fun j m hm => f3 j m (Nat.zero_le _) hm, t1, t2, by omega, (sLook_ok 16 _ _ _ _ _ h).2.1⟩
