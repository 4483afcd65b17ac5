/-! ===== how many kids a look makes ===== -/
def sCx (xs : List JR) (L : Nat → Bool → SS → Except (Nat × Nat) (Nat × SS)) : Prop := ∀ (v : Nat) (br : Bool) (st st1 : SS) (n : Nat), v < xs.length → L v br st = .ok (n, st1) → st1.kc ≤ st.kc + ((xx xs v).sz - 1)
theorem sBrn_c {xs : List JR} {L : Nat → Bool → SS → Except (Nat × Nat) (Nat × SS)} (hL : sCx xs L) {s : Nat} {o : Bool} : ∀ (c i n : Nat) (st st1 : SS), kidsL c (xs.drop i) n o → sBrn xs L s (xKid xs c i) st = .ok st1 → st1.kc ≤ st.kc + n := by
  intro c
  induction c with
  | zero => intro i n st st1 _ h; cases h; exact Nat.le_add_right _ _
  | succ c ih =>
    intro i n st st1 hk h
    obtain ⟨g1, g2, g3, g4, g5, g6⟩ := kidsL_step hk
    unfold xKid sBrn at h
    split at h
    · exact nomatch h
    · rename_i m st2 h2
      split at h
      · exact nomatch h
      · have e1 := hL _ _ _ _ _ g1 h2
        have e2 : st1.kc ≤ (st2.kc + 1) + (n - (xx xs i).sz) := ih _ _ _ _ g6 h
        omega
theorem sSym_c {xs : List JR} {s : Nat} {o : Bool} : ∀ (c i n : Nat) (st st1 : SS), kidsL c (xs.drop i) n o → sSym xs s (xKid xs c i) st = .ok st1 → st1.kc ≤ st.kc + n := by
  intro c
  induction c with
  | zero => intro i n st st1 _ h; cases h; exact Nat.le_add_right _ _
  | succ c ih =>
    intro i n st st1 hk h
    obtain ⟨g1, g2, g3, g4, g5, g6⟩ := kidsL_step hk
    unfold xKid sSym at h
    split at h
    · have e2 : st1.kc ≤ (st.kc + 1) + (n - (xx xs i).sz) := ih _ _ _ _ g6 h
      omega
    · exact nomatch h
theorem sFld_c {xs : List JR} (hw : jWf xs) {L : Nat → Bool → SS → Except (Nat × Nat) (Nat × SS)} (hL : sCx xs L) {s f : Nat} {st st1 : SS} (hf : f < xs.length) (h : sFld xs L s f st = .ok st1) : st1.kc ≤ st.kc + ((xx xs f).sz - 1) := by
  unfold sFld at h
  split at h
  · split at h
    · exact nomatch h
    · split at h
      · split at h
        · split at h
          · exact nomatch h
          · rename_i t ht
            have one := xMem_one hw hf ht
            obtain ⟨-, -, htx⟩ := xMem_mem hw hf ht
            have hz := (jWf_at hw htx).2.2.1
            split at h
            · exact nomatch h
            · rename_i m st2 h2
              cases h
              have e1 : st2.kc ≤ (st.kc + 1) + ((xx xs t).sz - 1) := hL _ _ _ _ _ htx h2
              show st2.kc ≤ _
              omega
        · exact nomatch h
      · exact nomatch h
  · exact nomatch h
theorem sFds_c {xs : List JR} (hw : jWf xs) {L : Nat → Bool → SS → Except (Nat × Nat) (Nat × SS)} (hL : sCx xs L) {s : Nat} {o : Bool} : ∀ (c i n : Nat) (st st1 : SS), kidsL c (xs.drop i) n o → sFds xs L s (xKid xs c i) st = .ok st1 → st1.kc ≤ st.kc + n := by
  intro c
  induction c with
  | zero => intro i n st st1 _ h; cases h; exact Nat.le_add_right _ _
  | succ c ih =>
    intro i n st st1 hk h
    obtain ⟨g1, g2, g3, g4, g5, g6⟩ := kidsL_step hk
    unfold xKid sFds at h
    split at h
    · exact nomatch h
    · rename_i st2 h2
      have e1 := sFld_c hw hL g1 h2
      have e2 := ih _ _ _ _ g6 h
      omega
theorem kids_of {xs : List JR} (hw : jWf xs) {v : Nat} (hv : v < xs.length) (hk : (xx xs v).kd = 1 ∨ (xx xs v).kd = 2) : ∃ o : Bool, kidsL (xx xs v).len (xs.drop (v + 1)) ((xx xs v).sz - 1) o := ⟨_, (jWf_at hw hv).2.2.2.2.2.1 hk⟩
theorem sFbk_c {xs : List JR} {v s s1 : Nat} {st st1 : SS} (h : sFbk xs v s st = .ok (s1, st1)) : st1.kc = st.kc := by
  unfold sFbk at h
  split at h
  · cases h; rfl
  · split at h
    · split at h
      · cases h; rfl
      · exact nomatch h
    · exact nomatch h
theorem sEnm_c {xs : List JR} (hw : jWf xs) {v s s1 : Nat} {st st1 : SS} (hv : v < xs.length) (h : sEnm xs v s st = .ok (s1, st1)) : st1.kc ≤ st.kc + ((xx xs v).sz - 1) := by
  unfold sEnm at h
  split at h
  · exact nomatch h
  · rename_i t ht
    have one := xMem_one hw hv ht
    obtain ⟨-, -, htx⟩ := xMem_mem hw hv ht
    split at h
    · rename_i h3
      split at h
      · exact nomatch h
      · rename_i st2 h2
        obtain ⟨o, hk⟩ := kids_of hw htx (Or.inr h3.1)
        have e1 := sSym_c _ _ _ _ _ hk h2
        have e0 : (sCnt st s (xx xs t).len).kc = st.kc := rfl
        have e2 := sFbk_c h
        omega
    · exact nomatch h
theorem sRec_c {xs : List JR} (hw : jWf xs) {L : Nat → Bool → SS → Except (Nat × Nat) (Nat × SS)} (hL : sCx xs L) {v s s1 : Nat} {st st1 : SS} (hv : v < xs.length) (h : sRec xs L v s st = .ok (s1, st1)) : st1.kc ≤ st.kc + ((xx xs v).sz - 1) := by
  unfold sRec at h
  split at h
  · exact nomatch h
  · rename_i t ht
    have one := xMem_one hw hv ht
    obtain ⟨-, -, htx⟩ := xMem_mem hw hv ht
    split at h
    · rename_i h3
      split at h
      · exact nomatch h
      · rename_i st2 h2
        cases h
        obtain ⟨o, hk⟩ := kids_of hw htx (Or.inr h3.1)
        have e1 := sFds_c hw hL _ _ _ _ _ hk h2
        have e0 : (sCnt st s (xx xs t).len).kc = st.kc := rfl
        omega
    · exact nomatch h
theorem sItm_c {xs : List JR} (hw : jWf xs) {L : Nat → Bool → SS → Except (Nat × Nat) (Nat × SS)} (hL : sCx xs L) {v kd n : Nat} {w : List Int32} {st st1 : SS} (hv : v < xs.length) (h : sItm xs L v kd w st = .ok (n, st1)) : st1.kc ≤ st.kc + ((xx xs v).sz - 1) := by
  unfold sItm at h
  split at h
  · exact nomatch h
  · rename_i t ht
    have one := xMem_one hw hv ht
    obtain ⟨-, -, htx⟩ := xMem_mem hw hv ht
    have hz := (jWf_at hw htx).2.2.1
    split at h
    · exact nomatch h
    · rename_i n2 st2 h2
      cases h
      have e1 : st2.kc ≤ (st.kc + 1) + ((xx xs t).sz - 1) := hL _ _ _ _ _ htx h2
      show st2.kc ≤ _
      omega
theorem sLook_c {xs : List JR} (hw : jWf xs) : ∀ m : Nat, sCx xs (sLook xs m) := by
  intro m
  induction m with
  | zero =>
    intro v br st st1 n hv h
    unfold sLook at h
    split at h
    · exact nomatch h
    · exact nomatch h
  | succ m ih =>
    intro v br st st1 n hv h
    unfold sLook at h
    split at h
    · exact nomatch h
    · dsimp only at h
      have ek : SS.kc (st.lk + 1, st.2) = st.kc := rfl
      rw [← ek]
      generalize ((st.lk + 1, st.2) : SS) = sa at h
      split at h
      · rw [(sKnw_ok h).1]; exact Nat.le_add_right _ _
      · split at h
        · rename_i h2k
          split at h
          · exact nomatch h
          · unfold sUni at h
            split at h
            · split at h
              · exact nomatch h
              · rename_i st2 h2
                cases h
                obtain ⟨o, hk⟩ := kids_of hw hv (Or.inr h2k)
                exact sBrn_c ih _ _ _ (sNew sa 8 none (xx xs v).len) _ hk h2
            · exact nomatch h
        · split at h
          · unfold sObj at h
            split at h
            · exact nomatch h
            · split at h
              · split at h
                · rw [(sKnw_ok h).1]; exact Nat.le_add_right _ _
                · split at h
                  · exact sItm_c hw ih hv h
                  · split at h
                    · exact sItm_c hw ih hv h
                    · unfold sNmd at h
                      split at h
                      · exact nomatch h
                      · rename_i s2 st2 h2
                        obtain ⟨n9, -, -, g3, g4⟩ := sDfn_ok h2
                        have e2 : st2.kc = SS.kc sa := by rw [g4]; rfl
                        rw [← e2]
                        split at h
                        · unfold sFix at h
                          split at h
                          · exact nomatch h
                          · split at h
                            · cases h; exact Nat.le_add_right _ _
                            · exact nomatch h
                        · split at h
                          · exact sEnm_c hw hv h
                          · exact sRec_c hw ih hv h
              · exact nomatch h
          · exact nomatch h
