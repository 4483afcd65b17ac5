/-! ===== a look keeps kid numbers apart: all of it ===== -/
theorem sFds_v {xs : List JR} {L : Nat → Bool → SS → Except (Nat × Nat) (Nat × SS)} (hX : sLx L) (hL : sVx L) {i : Nat} : ∀ (l : List Nat) (st st1 : SS), i < st.ns.length → kV st → sFds xs L (6 + i) l st = .ok st1 → kV st1 := by
  intro l
  induction l with
  | nil => intro st st1 _ hk h; cases h; exact hk
  | cons b l ih =>
    intro st st1 hi hk h
    unfold sFds at h
    split at h
    · exact nomatch h
    · rename_i st2 h2
      exact ih _ _ (Nat.lt_of_lt_of_le hi (sFld_ok hX h2).1) (sFld_v hX hL hi hk h2) h
theorem sFbk_v {xs : List JR} {v i s1 : Nat} {st st1 : SS} (hi : i < st.ns.length) (hk : kV st) (h : sFbk xs v (6 + i) st = .ok (s1, st1)) : kV st1 := by
  unfold sFbk at h
  split at h
  · cases h; exact hk
  · split at h
    · split at h
      · cases h; exact hk.det hi
      · exact nomatch h
    · exact nomatch h
theorem sFix_v {xs : List JR} {v i s1 : Nat} {st st1 : SS} (hi : i < st.ns.length) (hk : kV st) (h : sFix xs v (6 + i) st = .ok (s1, st1)) : kV st1 := by
  unfold sFix at h
  split at h
  · exact nomatch h
  · split at h
    · cases h; exact hk.det hi
    · exact nomatch h
theorem sCnt_len {st : SS} {s ct : Nat} : (sCnt st s ct).ns.length = st.ns.length := nPut_len
theorem sEnm_v {xs : List JR} {v i s1 : Nat} {st st1 : SS} (hi : i < st.ns.length) (hk : kV st) (h : sEnm xs v (6 + i) st = .ok (s1, st1)) : kV st1 := by
  unfold sEnm at h
  split at h
  · exact nomatch h
  · split at h
    · split at h
      · exact nomatch h
      · rename_i st2 h2
        have hi2 : ∀ ct : Nat, i < (sCnt st (6 + i) ct).ns.length := fun ct => by rw [sCnt_len]; exact hi
        exact sFbk_v (Nat.lt_of_lt_of_le (hi2 _) (sSym_ok _ _ _ h2).1) (sSym_v _ _ _ (hi2 _) (hk.cnt hi) h2) h
    · exact nomatch h
theorem sRec_v {xs : List JR} {L : Nat → Bool → SS → Except (Nat × Nat) (Nat × SS)} (hX : sLx L) (hL : sVx L) {v i s1 : Nat} {st st1 : SS} (hi : i < st.ns.length) (hk : kV st) (h : sRec xs L v (6 + i) st = .ok (s1, st1)) : kV st1 := by
  unfold sRec at h
  split at h
  · exact nomatch h
  · split at h
    · split at h
      · exact nomatch h
      · rename_i st2 h2
        cases h
        exact sFds_v hX hL _ _ _ (by rw [sCnt_len]; exact hi) (hk.cnt hi) h2
    · exact nomatch h
