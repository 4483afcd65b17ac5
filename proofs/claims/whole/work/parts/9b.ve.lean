/-! ===== a record's fields have names of their own ===== -/
def kD (st : SS) : Prop := ∀ (i : Nat) (n : SN), st.ns[i]? = some n → n.kd = 11 → (n.ps.map (fun q => q.nm)).Pairwise (fun a b => ¬ a = b)
def kX (st : SS) (i : Nat) : Prop := ∀ n : SN, st.ns[i]? = some n → ¬ n.kd = 11
theorem kD.put {st : SS} (h : kD st) {i kc : Nat} {n n' : SN} {lt : List (Nat × Nat × Option Nat)} (hi : st.ns[i]? = some n) (hn : n'.kd = 11 → (n'.ps.map (fun q => q.nm)).Pairwise (fun a b => ¬ a = b)) : kD (st.lk, kc, nPut st.ns (6 + i) n', lt) := by
  intro j m hm hk
  have hm2 : (nPut st.ns (6 + i) n')[j]? = some m := hm
  by_cases c : j = i
  · subst c
    rw [nPut_at hi] at hm2
    cases hm2
    exact hn hk
  · unfold nPut at hm2
    rw [show 6 + i - 6 = i by omega, List.getElem?_set_ne (fun e => c e.symm)] at hm2
    exact h j m hm2 hk
theorem kD.new {st : SS} (h : kD st) {kd ct : Nat} {nm : Option (List Int32 × Nat)} : kD (sNew st kd nm ct) := by
  intro j m hm hk
  by_cases c : j < st.ns.length
  · have hm2 : (st.ns ++ [(kd, nm, -1, ct, [])])[j]? = some m := hm
    rw [List.getElem?_append_left c] at hm2
    exact h j m hm2 hk
  · have hl := (List.getElem?_eq_some_iff.mp hm).1
    rw [sNew_len] at hl
    have : j = st.ns.length := by omega
    subst this
    rw [sNew_at] at hm
    cases hm
    exact List.Pairwise.nil
theorem kD.add {st : SS} (h : kD st) {i : Nat} {n : SN} (hi : st.ns[i]? = some n) {nm : List Int32} {nd df : Option Nat} (hn : n.kd = 11 → ∀ q ∈ n.ps, ¬ q.nm = nm) : kD (sAdd st (6 + i) nm nd df) := by
  unfold sAdd
  rw [nN_at hi]
  refine h.put hi (fun hk => ?_)
  have hk' : n.kd = 11 := hk
  show ((n.ps ++ [(nm, nd, df, st.kc)]).map (fun q => q.nm)).Pairwise _
  rw [List.map_append, List.pairwise_append]
  refine ⟨h i n hi hk', List.pairwise_singleton _ _, fun a ha b hb => ?_⟩
  obtain ⟨q, q1, q2⟩ := List.mem_map.mp ha
  have e : b = nm := by simpa using hb
  rw [e, ← q2]
  exact hn hk' q q1
theorem pSet_nm {m : Nat} : ∀ {ps : List SP} {k : Nat}, (pSet ps k m).map (fun q => q.nm) = ps.map (fun q => q.nm) := by
  intro ps
  induction ps with
  | nil => intro k; cases k <;> rfl
  | cons q r ih =>
    intro k
    cases k with
    | zero => rfl
    | succ k => rw [pSet_consS, List.map_cons, List.map_cons, ih]
theorem kD.pt {st : SS} (h : kD st) {i k m : Nat} (hi : i < st.ns.length) : kD (sPut st (6 + i) k m) := by
  have hg := List.getElem?_eq_getElem hi
  unfold sPut
  rw [nN_at hg]
  refine h.put hg (fun hk => ?_)
  show ((pSet _ k m).map (fun q => q.nm)).Pairwise _
  rw [pSet_nm]
  exact h i _ hg hk
theorem kD.det {st : SS} (h : kD st) {i : Nat} {x : Int} (hi : i < st.ns.length) : kD (sDet st (6 + i) x) := by
  have hg := List.getElem?_eq_getElem hi
  unfold sDet
  rw [nN_at hg]
  exact h.put hg (fun hk => h i st.ns[i] hg hk)
theorem kD.cnt {st : SS} (h : kD st) {i ct : Nat} (hi : i < st.ns.length) : kD (sCnt st (6 + i) ct) := by
  have hg := List.getElem?_eq_getElem hi
  unfold sCnt
  rw [nN_at hg]
  exact h.put hg (fun hk => h i st.ns[i] hg hk)
theorem kX.put {st : SS} {i kc : Nat} {n n' : SN} {lt : List (Nat × Nat × Option Nat)} (h : kX st i) (hi : st.ns[i]? = some n) (hk : n'.kd = n.kd) : kX (st.lk, kc, nPut st.ns (6 + i) n', lt) i := by
  intro m hm
  have hm2 : (nPut st.ns (6 + i) n')[i]? = some m := hm
  rw [nPut_at hi] at hm2
  cases hm2
  rw [hk]
  exact h n hi
theorem kX.add {st : SS} {i : Nat} (h : kX st i) (hi : i < st.ns.length) {nm : List Int32} {nd df : Option Nat} : kX (sAdd st (6 + i) nm nd df) i := by
  have hg := List.getElem?_eq_getElem hi
  unfold sAdd
  rw [nN_at hg]
  exact h.put hg rfl
theorem sPrtL_none (w : List Int32) : ∀ (ps : List SP) (k : Nat), sPrtL w ps k = none → ∀ q ∈ ps, ¬ q.nm = w := by
  intro ps
  induction ps with
  | nil => intro k _ q hq; exact nomatch hq
  | cons a r ih =>
    intro k h q hq
    unfold sPrtL at h
    split at h
    · exact nomatch h
    · rename_i hne
      rcases List.mem_cons.mp hq with e | e
      · rw [e]; exact hne
      · exact ih _ h q e
def sDx (L : Nat → Bool → SS → Except (Nat × Nat) (Nat × SS)) : Prop := ∀ (v : Nat) (br : Bool) (st st1 : SS) (n : Nat), kD st → L v br st = .ok (n, st1) → kD st1
theorem sAdd_len {st : SS} {s : Nat} {nm : List Int32} {nd df : Option Nat} : (sAdd st s nm nd df).ns.length = st.ns.length := nPut_len
theorem sBrn_d {xs : List JR} {L : Nat → Bool → SS → Except (Nat × Nat) (Nat × SS)} (hX : sLx L) (hL : sDx L) {i : Nat} : ∀ (l : List Nat) (st st1 : SS), i < st.ns.length → kX st i → kD st → sBrn xs L (6 + i) l st = .ok st1 → kD st1 := by
  intro l
  induction l with
  | nil => intro st st1 _ _ hk h; cases h; exact hk
  | cons b l ih =>
    intro st st1 hi hx hk h
    unfold sBrn at h
    split at h
    · exact nomatch h
    · rename_i n st2 h2
      split at h
      · exact nomatch h
      · obtain ⟨⟨hl, x2, -⟩, -⟩ := hX _ _ _ _ _ h2
        have hi2 : i < st2.ns.length := by omega
        have hx2 : kX st2 i := fun m hm => hx m ((x2 i hi).symm.trans hm)
        have hg := List.getElem?_eq_getElem hi2
        refine ih _ _ (by rw [sAdd_len]; exact hi2) (hx2.add hi2) ((hL _ _ _ _ _ hk h2).add hg (fun e => absurd e (hx2 _ hg))) h
theorem sSym_d {xs : List JR} {i : Nat} : ∀ (l : List Nat) (st st1 : SS), i < st.ns.length → kX st i → kD st → sSym xs (6 + i) l st = .ok st1 → kD st1 := by
  intro l
  induction l with
  | nil => intro st st1 _ _ hk h; cases h; exact hk
  | cons b l ih =>
    intro st st1 hi hx hk h
    unfold sSym at h
    split at h
    · have hg := List.getElem?_eq_getElem hi
      exact ih _ _ (by rw [sAdd_len]; exact hi) (hx.add hi) (hk.add hg (fun e => absurd e (hx _ hg))) h
    · exact nomatch h
theorem sFld_d {xs : List JR} {L : Nat → Bool → SS → Except (Nat × Nat) (Nat × SS)} (hX : sLx L) (hL : sDx L) {i f : Nat} {st st1 : SS} (hi : i < st.ns.length) (hk : kD st) (h : sFld xs L (6 + i) f st = .ok st1) : kD st1 := by
  unfold sFld at h
  split at h
  · split at h
    · exact nomatch h
    · split at h
      · split at h
        · rename_i hgd
          split at h
          · exact nomatch h
          · split at h
            · exact nomatch h
            · rename_i m st2 h2
              cases h
              have hl := (hX _ _ _ _ _ h2).1.1
              have hi2 : i < st2.ns.length := by
                refine Nat.lt_of_lt_of_le ?_ hl
                rw [sAdd_len]
                exact hi
              have hg := List.getElem?_eq_getElem hi
              have hnn := hgd.2
              rw [nN_at hg] at hnn
              exact (hL _ _ _ _ _ (hk.add hg (fun _ => sPrtL_none _ _ _ hnn)) h2).pt hi2
        · exact nomatch h
      · exact nomatch h
  · exact nomatch h
theorem sFds_d {xs : List JR} {L : Nat → Bool → SS → Except (Nat × Nat) (Nat × SS)} (hX : sLx L) (hL : sDx L) {i : Nat} : ∀ (l : List Nat) (st st1 : SS), i < st.ns.length → kD st → sFds xs L (6 + i) l st = .ok st1 → kD st1 := by
  intro l
  induction l with
  | nil => intro st st1 _ hk h; cases h; exact hk
  | cons b l ih =>
    intro st st1 hi hk h
    unfold sFds at h
    split at h
    · exact nomatch h
    · rename_i st2 h2
      exact ih _ _ (Nat.lt_of_lt_of_le hi (sFld_ok hX h2).1) (sFld_d hX hL hi hk h2) h
theorem sFbk_d {xs : List JR} {v i s1 : Nat} {st st1 : SS} (hi : i < st.ns.length) (hk : kD st) (h : sFbk xs v (6 + i) st = .ok (s1, st1)) : kD st1 := by
  unfold sFbk at h
  split at h
  · cases h; exact hk
  · split at h
    · split at h
      · cases h; exact hk.det hi
      · exact nomatch h
    · exact nomatch h
theorem kX_new {st : SS} {kd ct : Nat} {nm : Option (List Int32 × Nat)} (h : ¬ kd = 11) : kX (sNew st kd nm ct) st.ns.length := fun n hn => by
  rw [sNew_at] at hn
  cases hn
  exact h
theorem kX.cnt {st : SS} {i ct : Nat} (h : kX st i) (hi : i < st.ns.length) : kX (sCnt st (6 + i) ct) i := by
  have hg := List.getElem?_eq_getElem hi
  unfold sCnt
  rw [nN_at hg]
  exact h.put hg rfl
theorem sLook_d {xs : List JR} : ∀ m : Nat, sDx (sLook xs m) := by
  intro m
  induction m with
  | zero =>
    intro v br st st1 n hk h
    unfold sLook at h
    split at h
    · exact nomatch h
    · exact nomatch h
  | succ m ih =>
    intro v br st st1 n hk h
    have hX : sLx (sLook xs m) := sLook_ok m
    unfold sLook at h
    have hk1 : kD (st.lk + 1, st.2) := hk
    split at h
    · exact nomatch h
    · dsimp only at h
      generalize ((st.lk + 1, st.2) : SS) = sa at h hk1
      have lt1 : ∀ (kd ct : Nat) (nm : Option (List Int32 × Nat)), (SS.ns sa).length < (sNew sa kd nm ct).ns.length := fun kd ct nm => by rw [sNew_len]; omega
      split at h
      · rw [(sKnw_ok h).1]; exact hk1
      · split at h
        · split at h
          · exact nomatch h
          · unfold sUni at h
            split at h
            · split at h
              · exact nomatch h
              · rename_i st2 h2
                cases h
                exact sBrn_d hX ih (i := (SS.ns sa).length) _ _ _ (lt1 _ _ _) (kX_new (by decide)) hk1.new h2
            · exact nomatch h
        · split at h
          · unfold sObj at h
            split at h
            · exact nomatch h
            · split at h
              · split at h
                · rw [(sKnw_ok h).1]; exact hk1
                · rename_i k9 hk9
                  have itm : ∀ (kd : Nat) (w : List Int32), ¬ kd = 11 → sItm xs (sLook xs m) v kd w sa = .ok (n, st1) → kD st1 := fun kd w hkd h => by
                    unfold sItm at h
                    split at h
                    · exact nomatch h
                    · split at h
                      · exact nomatch h
                      · rename_i n2 st2 h2
                        cases h
                        have hl := (hX _ _ _ _ _ h2).1.1
                        have hi2 : (SS.ns sa).length < st2.ns.length := by
                          refine Nat.lt_of_lt_of_le ?_ hl
                          show _ < (nPut (sNew sa kd none 0).ns (6 + (SS.ns sa).length) _).length
                          rw [nPut_len]
                          exact lt1 _ _ _
                        exact (ih _ _ _ _ _ (hk1.new.add (i := (SS.ns sa).length) sNew_at (fun e => absurd e hkd)) h2).pt (i := (SS.ns sa).length) hi2
                  split at h
                  · exact itm _ _ (by decide) h
                  · split at h
                    · exact itm _ _ (by decide) h
                    · unfold sNmd at h
                      split at h
                      · exact nomatch h
                      · rename_i s2 st2 h2
                        obtain ⟨n9, -, -, g3, g4⟩ := sDfn_ok h2
                        subst g3
                        subst g4
                        split at h
                        · unfold sFix at h
                          split at h
                          · exact nomatch h
                          · split at h
                            · cases h; exact hk1.new.det (i := (SS.ns sa).length) (lt1 _ _ _)
                            · exact nomatch h
                        · split at h
                          · rename_i e10
                            unfold sEnm at h
                            split at h
                            · exact nomatch h
                            · split at h
                              · split at h
                                · exact nomatch h
                                · rename_i st3 h3
                                  have hi3 : ∀ ct : Nat, (SS.ns sa).length < (sCnt (sNew sa k9 (some ((xx xs n9).ws, n9)) 0) (6 + (SS.ns sa).length) ct).ns.length := fun ct => by rw [sCnt_len]; exact lt1 _ _ _
                                  exact sFbk_d (i := (SS.ns sa).length) (Nat.lt_of_lt_of_le (hi3 _) (sSym_ok _ _ _ h3).1) (sSym_d (i := (SS.ns sa).length) _ _ _ (hi3 _) ((kX_new (by omega)).cnt (lt1 _ _ _)) (hk1.new.cnt (i := (SS.ns sa).length) (lt1 _ _ _)) h3) h
                              · exact nomatch h
                          · unfold sRec at h
                            split at h
                            · exact nomatch h
                            · split at h
                              · split at h
                                · exact nomatch h
                                · rename_i st3 h3
                                  cases h
                                  exact sFds_d hX ih (i := (SS.ns sa).length) _ _ _ (by rw [sCnt_len]; exact lt1 _ _ _) (hk1.new.cnt (i := (SS.ns sa).length) (lt1 _ _ _)) h3
                              · exact nomatch h
              · exact nomatch h
          · exact nomatch h
