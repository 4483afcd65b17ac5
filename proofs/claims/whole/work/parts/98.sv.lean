/-! ===== a look keeps kid numbers apart ===== -/
def sVx (L : Nat → Bool → SS → Except (Nat × Nat) (Nat × SS)) : Prop := ∀ (v : Nat) (br : Bool) (st st1 : SS) (n : Nat), kV st → L v br st = .ok (n, st1) → kV st1
theorem kV.new {st : SS} (h : kV st) {kd ct : Nat} {nm : Option (List Int32 × Nat)} : kV (sNew st kd nm ct) := ⟨h.1.new, fun z hz => by rw [sNew_len]; have := h.2 z hz; omega⟩
theorem kV.add {st : SS} (h : kV st) {i : Nat} (hi : i < st.ns.length) {nm : List Int32} {nd df : Option Nat} : kV (sAdd st (6 + i) nm nd df) := ⟨h.1.add (List.getElem?_eq_getElem hi), fun z hz => by
  show z.1 < 6 + (nPut st.ns (6 + i) _).length
  rw [nPut_len]
  exact h.2 z hz⟩
theorem kV.pt {st : SS} (h : kV st) {i k n : Nat} (hi : i < st.ns.length) : kV (sPut st (6 + i) k n) := by
  have hg := List.getElem?_eq_getElem hi
  refine ⟨?_, fun z hz => ?_⟩
  · unfold sPut
    rw [nN_at hg]
    exact h.1.put hg pSet_kn
  · show z.1 < 6 + (nPut st.ns (6 + i) _).length
    rw [nPut_len]
    exact h.2 z hz
theorem kV.det {st : SS} (h : kV st) {i : Nat} {x : Int} (hi : i < st.ns.length) : kV (sDet st (6 + i) x) := by
  have hg := List.getElem?_eq_getElem hi
  refine ⟨?_, fun z hz => ?_⟩
  · unfold sDet
    rw [nN_at hg]
    exact h.1.put (n' := (st.ns[i].kd, st.ns[i].nm, x, st.ns[i].ct, st.ns[i].ps)) hg rfl
  · show z.1 < 6 + (nPut st.ns (6 + i) _).length
    rw [nPut_len]
    exact h.2 z hz
theorem kV.cnt {st : SS} (h : kV st) {i ct : Nat} (hi : i < st.ns.length) : kV (sCnt st (6 + i) ct) := by
  have hg := List.getElem?_eq_getElem hi
  refine ⟨?_, fun z hz => ?_⟩
  · unfold sCnt
    rw [nN_at hg]
    exact h.1.put (n' := (st.ns[i].kd, st.ns[i].nm, st.ns[i].dt, ct, st.ns[i].ps)) hg rfl
  · show z.1 < 6 + (nPut st.ns (6 + i) _).length
    rw [nPut_len]
    exact h.2 z hz
theorem kV.done {st : SS} (h : kV st) {s k : Nat} {df : Option Nat} (hs : s < 6 + st.ns.length) : kV (sDone st s k df) := ⟨h.1, sDone_lt h.2 hs⟩
theorem sBrn_v {xs : List JR} {L : Nat → Bool → SS → Except (Nat × Nat) (Nat × SS)} (hX : sLx L) (hL : sVx L) {i : Nat} : ∀ (l : List Nat) (st st1 : SS), i < st.ns.length → kV st → sBrn xs L (6 + i) l st = .ok st1 → kV st1 := by
  intro l
  induction l with
  | nil => intro st st1 _ hk h; cases h; exact hk
  | cons b l ih =>
    intro st st1 hi hk h
    unfold sBrn at h
    split at h
    · exact nomatch h
    · rename_i n st2 h2
      split at h
      · exact nomatch h
      · have hl := (hX _ _ _ _ _ h2).1.1
        have hi2 : i < st2.ns.length := by omega
        refine ih _ _ ?_ ((hL _ _ _ _ _ hk h2).add hi2) h
        show i < (nPut st2.ns (6 + i) _).length
        rw [nPut_len]
        exact hi2
theorem sSym_v {xs : List JR} {i : Nat} : ∀ (l : List Nat) (st st1 : SS), i < st.ns.length → kV st → sSym xs (6 + i) l st = .ok st1 → kV st1 := by
  intro l
  induction l with
  | nil => intro st st1 _ hk h; cases h; exact hk
  | cons b l ih =>
    intro st st1 hi hk h
    unfold sSym at h
    split at h
    · refine ih _ _ ?_ (hk.add hi) h
      show i < (nPut st.ns (6 + i) _).length
      rw [nPut_len]
      exact hi
    · exact nomatch h
theorem sFld_v {xs : List JR} {L : Nat → Bool → SS → Except (Nat × Nat) (Nat × SS)} (hX : sLx L) (hL : sVx L) {i f : Nat} {st st1 : SS} (hi : i < st.ns.length) (hk : kV st) (h : sFld xs L (6 + i) f st = .ok st1) : kV st1 := by
  unfold sFld at h
  split at h
  · split at h
    · exact nomatch h
    · split at h
      · split at h
        · split at h
          · exact nomatch h
          · split at h
            · exact nomatch h
            · rename_i m st2 h2
              cases h
              have hl := (hX _ _ _ _ _ h2).1.1
              have hi2 : i < st2.ns.length := by
                refine Nat.lt_of_lt_of_le ?_ hl
                show i < (nPut st.ns (6 + i) _).length
                rw [nPut_len]
                exact hi
              refine ((hL _ _ _ _ _ (hk.add hi) h2).pt hi2).done ?_
              show 6 + i < 6 + (nPut st2.ns (6 + i) _).length
              rw [nPut_len]
              omega
        · exact nomatch h
      · exact nomatch h
  · exact nomatch h
