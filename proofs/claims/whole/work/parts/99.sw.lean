/-! ===== a look keeps kid numbers apart: all of it ===== -/
theorem sFds_v {xs : List JR} {L : Nat → Bool → SS → Except (Nat × Nat) (Nat × SS)} (hX : sLx L) (hL : sVx L) {i : Nat} : ∀ (l : List Nat) (st st1 : SS), i < st.ns.length → kV st → sFds xs L (6 + i) l st = .ok st1 → kV st1 := by
  intro l
  induction l with
  | nil => intro st st1 _ hk h; cases h; exact hk
  | cons b l ih =>
    intro st st1 hi hk h
    unfold sFds at h
    split at h
    · exact nomatch h
    · rename_i st2 h2
      exact ih _ _ (Nat.lt_of_lt_of_le hi (sFld_ok hX h2).1) (sFld_v hX hL hi hk h2) h
theorem sFbk_v {xs : List JR} {v i s1 : Nat} {st st1 : SS} (hi : i < st.ns.length) (hk : kV st) (h : sFbk xs v (6 + i) st = .ok (s1, st1)) : kV st1 := by
  unfold sFbk at h
  split at h
  · cases h; exact hk
  · split at h
    · split at h
      · cases h; exact hk.det hi
      · exact nomatch h
    · exact nomatch h
theorem sFix_v {xs : List JR} {v i s1 : Nat} {st st1 : SS} (hi : i < st.ns.length) (hk : kV st) (h : sFix xs v (6 + i) st = .ok (s1, st1)) : kV st1 := by
  unfold sFix at h
  split at h
  · exact nomatch h
  · split at h
    · cases h; exact hk.det hi
    · exact nomatch h
theorem sCnt_len {st : SS} {s ct : Nat} : (sCnt st s ct).ns.length = st.ns.length := nPut_len
theorem sEnm_v {xs : List JR} {v i s1 : Nat} {st st1 : SS} (hi : i < st.ns.length) (hk : kV st) (h : sEnm xs v (6 + i) st = .ok (s1, st1)) : kV st1 := by
  unfold sEnm at h
  split at h
  · exact nomatch h
  · split at h
    · split at h
      · exact nomatch h
      · rename_i st2 h2
        have hi2 : ∀ ct : Nat, i < (sCnt st (6 + i) ct).ns.length := fun ct => by rw [sCnt_len]; exact hi
        exact sFbk_v (Nat.lt_of_lt_of_le (hi2 _) (sSym_ok _ _ _ h2).1) (sSym_v _ _ _ (hi2 _) (hk.cnt hi) h2) h
    · exact nomatch h
theorem sRec_v {xs : List JR} {L : Nat → Bool → SS → Except (Nat × Nat) (Nat × SS)} (hX : sLx L) (hL : sVx L) {v i s1 : Nat} {st st1 : SS} (hi : i < st.ns.length) (hk : kV st) (h : sRec xs L v (6 + i) st = .ok (s1, st1)) : kV st1 := by
  unfold sRec at h
  split at h
  · exact nomatch h
  · split at h
    · split at h
      · exact nomatch h
      · rename_i st2 h2
        cases h
        exact sFds_v hX hL _ _ _ (by rw [sCnt_len]; exact hi) (hk.cnt hi) h2
    · exact nomatch h
theorem sLook_v {xs : List JR} : ∀ m : Nat, sVx (sLook xs m) := by
  intro m
  induction m with
  | zero =>
    intro v br st st1 n hk h
    unfold sLook at h
    split at h
    · exact nomatch h
    · exact nomatch h
  | succ m ih =>
    intro v br st st1 n hk h
    have hX : sLx (sLook xs m) := sLook_ok m
    unfold sLook at h
    have hk1 : kV (st.lk + 1, st.2) := hk
    split at h
    · exact nomatch h
    · dsimp only at h
      generalize ((st.lk + 1, st.2) : SS) = sa at h hk1
      have lt1 : ∀ (kd ct : Nat) (nm : Option (List Int32 × Nat)), (SS.ns sa).length < (sNew sa kd nm ct).ns.length := fun kd ct nm => by rw [sNew_len]; omega
      split at h
      · rw [(sKnw_ok h).1]; exact hk1
      · split at h
        · split at h
          · exact nomatch h
          · unfold sUni at h
            split at h
            · split at h
              · exact nomatch h
              · rename_i st2 h2
                cases h
                exact sBrn_v hX ih (i := (SS.ns sa).length) _ _ _ (lt1 _ _ _) hk1.new h2
            · exact nomatch h
        · split at h
          · unfold sObj at h
            split at h
            · exact nomatch h
            · split at h
              · split at h
                · rw [(sKnw_ok h).1]; exact hk1
                · rename_i k9 hk9
                  have itm : ∀ (kd : Nat) (w : List Int32), sItm xs (sLook xs m) v kd w sa = .ok (n, st1) → kV st1 := fun kd w h => by
                    unfold sItm at h
                    split at h
                    · exact nomatch h
                    · split at h
                      · exact nomatch h
                      · rename_i n2 st2 h2
                        cases h
                        have hl := (hX _ _ _ _ _ h2).1.1
                        have hi2 : (SS.ns sa).length < st2.ns.length := by
                          refine Nat.lt_of_lt_of_le ?_ hl
                          show _ < (nPut (sNew sa kd none 0).ns (6 + (SS.ns sa).length) _).length
                          rw [nPut_len]
                          exact lt1 _ _ _
                        exact (ih _ _ _ _ _ (hk1.new.add (i := (SS.ns sa).length) (lt1 _ _ _)) h2).pt (i := (SS.ns sa).length) hi2
                  split at h
                  · exact itm _ _ h
                  · split at h
                    · exact itm _ _ h
                    · unfold sNmd at h
                      split at h
                      · exact nomatch h
                      · rename_i s2 st2 h2
                        obtain ⟨n9, -, -, g3, g4⟩ := sDfn_ok h2
                        subst g3
                        subst g4
                        split at h
                        · exact sFix_v (i := (SS.ns sa).length) (lt1 _ _ _) hk1.new h
                        · split at h
                          · exact sEnm_v (i := (SS.ns sa).length) (lt1 _ _ _) hk1.new h
                          · exact sRec_v hX ih (i := (SS.ns sa).length) (lt1 _ _ _) hk1.new h
              · exact nomatch h
          · exact nomatch h
