/-! ===== the item of an array that is an array or a map stands behind it ===== -/
def iN (K : List Nat) (i : Nat) (m : SN) : Prop := (m.kd = 6 ∨ m.kd = 7) → ∀ q ∈ m.ps, ∀ k : Nat, q.nd = some k → k < 6 + K.length ∧ (6 ≤ k → (K[k - 6]? = some 6 ∨ K[k - 6]? = some 7) → 6 + i < k)
theorem iN.mono {K K2 : List Nat} {i : Nat} {m : SN} (h : iN K i m) (hp : K <+: K2) : iN K2 i m := fun hk q hq k hn => by
  obtain ⟨h1, h2⟩ := h hk q hq k hn
  obtain ⟨t, rfl⟩ := hp
  refine ⟨by rw [List.length_append]; omega, fun h6 hh => h2 h6 ?_⟩
  rw [List.getElem?_append_left (by omega)] at hh
  exact hh
theorem iN.other {K : List Nat} {i : Nat} {m : SN} (h : ¬ (m.kd = 6 ∨ m.kd = 7)) : iN K i m := fun c => absurd c h
def iA (st : SS) (b i0 : Nat) : Prop := ∀ (j : Nat) (n : SN), b ≤ j → ¬ j = i0 → st.ns[j]? = some n → iN (kK st) j n
theorem iA.put {st : SS} {b i kc : Nat} {n n' : SN} {lt : List (Nat × Nat × Option Nat)} (h : iA st b i) (hi : st.ns[i]? = some n) (hk : n'.kd = n.kd) : iA (st.lk, kc, nPut st.ns (6 + i) n', lt) b i := fun j m hb hj hm => by
  rw [kK_put hi hk]
  exact h j m hb hj (by rw [← nPut_ne hj]; exact hm)
theorem iA_new {st : SS} {kd ct : Nat} {nm : Option (List Int32 × Nat)} : iA (sNew st kd nm ct) st.ns.length st.ns.length := fun j m hb hj hm => by
  have hl := (List.getElem?_eq_some_iff.mp hm).1
  rw [sNew_len] at hl
  omega
theorem iA.cnt {st : SS} {b i ct : Nat} (h : iA st b i) (hi : i < st.ns.length) : iA (sCnt st (6 + i) ct) b i := by
  have hg := List.getElem?_eq_getElem hi
  unfold sCnt
  rw [nN_at hg]
  exact h.put hg rfl
theorem iA.det {st : SS} {b i : Nat} {x : Int} (h : iA st b i) (hi : i < st.ns.length) : iA (sDet st (6 + i) x) b i := by
  have hg := List.getElem?_eq_getElem hi
  unfold sDet
  rw [nN_at hg]
  exact h.put hg rfl
theorem iA.add {st : SS} {b i : Nat} {nm : List Int32} {nd df : Option Nat} (h : iA st b i) (hi : i < st.ns.length) : iA (sAdd st (6 + i) nm nd df) b i := by
  have hg := List.getElem?_eq_getElem hi
  unfold sAdd
  rw [nN_at hg]
  exact h.put hg rfl
theorem iA.pt {st : SS} {b i k m : Nat} (h : iA st b i) (hi : i < st.ns.length) : iA (sPut st (6 + i) k m) b i := by
  have hg := List.getElem?_eq_getElem hi
  unfold sPut
  rw [nN_at hg]
  exact h.put hg rfl
theorem iA.all {st : SS} {b i : Nat} {n : SN} (h : iA st b i) (hi : st.ns[i]? = some n) (hn : iN (kK st) i n) : ∀ (j : Nat) (m : SN), b ≤ j → st.ns[j]? = some m → iN (kK st) j m := fun j m hb hm => by
  by_cases c : j = i
  · subst c
    rw [hi] at hm
    cases hm
    exact hn
  · exact h j m hb c hm
def sIx (L : Nat → Bool → SS → Except (Nat × Nat) (Nat × SS)) : Prop := ∀ (v : Nat) (br : Bool) (st st1 : SS) (n : Nat), kNm st → L v br st = .ok (n, st1) → (∀ (j : Nat) (m : SN), st.ns.length ≤ j → st1.ns[j]? = some m → iN (kK st1) j m) ∧ (6 ≤ n → (kK st1)[n - 6]? = some 6 ∨ (kK st1)[n - 6]? = some 7 → 6 + st.ns.length ≤ n)
theorem iA.look {L : Nat → Bool → SS → Except (Nat × Nat) (Nat × SS)} (hX : sLx L) (hF : sFx L) (hI : sIx L) {v : Nat} {br : Bool} {st st1 : SS} {n b i0 : Nat} (h : iA st b i0) (hN : kNm st) (he : L v br st = .ok (n, st1)) : iA st1 b i0 := by
  obtain ⟨⟨x1, x2, -⟩, -⟩ := hX _ _ _ _ _ he
  obtain ⟨-, f2, f3, -⟩ := hF _ _ _ _ _ hN he
  intro j m hb hj hm
  by_cases c : j < st.ns.length
  · exact (h j m hb hj (by rw [← x2 j c]; exact hm)).mono f2
  · exact (hI _ _ _ _ _ hN he).1 j m (by omega) hm
theorem sBrn_i {xs : List JR} {L : Nat → Bool → SS → Except (Nat × Nat) (Nat × SS)} (hX : sLx L) (hF : sFx L) (hI : sIx L) {i b : Nat} : ∀ (l : List Nat) (st st1 : SS), i < st.ns.length → kNm st → iA st b i → sBrn xs L (6 + i) l st = .ok st1 → iA st1 b i := by
  intro l
  induction l with
  | nil =>
    intro st st1 hi hN hA h
    cases h
    exact hA
  | cons a l ih =>
    intro st st1 hi hN hA h
    unfold sBrn at h
    split at h
    · exact nomatch h
    · rename_i nd st2 h2
      split at h
      · exact nomatch h
      · obtain ⟨⟨x1, x2, -⟩, x3, -⟩ := hX _ _ _ _ _ h2
        obtain ⟨f1, f2, f3, f4⟩ := hF _ _ _ _ _ hN h2
        have hil2 : i < st2.ns.length := by omega
        have hl3 : i < (sAdd st2 (6 + i) [] (some nd) none).ns.length := by
          have := congrArg List.length (kK_add (st := st2) (nm := []) (nd := some nd) (df := none) hil2)
          rw [kK_len, kK_len] at this
          omega
        exact ih _ _ hl3 (f1.add hil2) ((hA.look hX hF hI hN h2).add hil2) h
theorem sSym_i {xs : List JR} {i b : Nat} : ∀ (l : List Nat) (st st1 : SS), i < st.ns.length → iA st b i → sSym xs (6 + i) l st = .ok st1 → iA st1 b i := by
  intro l
  induction l with
  | nil =>
    intro st st1 hi hA h
    cases h
    exact hA
  | cons a l ih =>
    intro st st1 hi hA h
    unfold sSym at h
    split at h
    · have hl3 : i < (sAdd st (6 + i) (xx xs a).ws none none).ns.length := by
        have := congrArg List.length (kK_add (st := st) (nm := (xx xs a).ws) (nd := none) (df := none) hi)
        rw [kK_len, kK_len] at this
        omega
      exact ih _ _ hl3 (hA.add hi) h
    · exact nomatch h
theorem sFld_i {xs : List JR} {L : Nat → Bool → SS → Except (Nat × Nat) (Nat × SS)} (hX : sLx L) (hF : sFx L) (hI : sIx L) {i b f : Nat} {st st1 : SS} (hi : i < st.ns.length) (hN : kNm st) (hA : iA st b i) (h : sFld xs L (6 + i) f st = .ok st1) : i < st1.ns.length ∧ kNm st1 ∧ iA st1 b i := by
  unfold sFld at h
  split at h
  · split at h
    · exact nomatch h
    · split at h
      · split at h
        · split at h
          · exact nomatch h
          · split at h
            · exact nomatch h
            · rename_i nm1 _ _ _ _ _ _ _ nd st2 h2
              cases h
              generalize hws : (xx xs nm1).ws = ws at *
              generalize hdf : xMem xs f (iw [100, 101, 102, 97, 117, 108, 116]) = df at *
              have hN2 : kNm (sAdd st (6 + i) ws none df) := hN.add hi
              have hl3 : i < (sAdd st (6 + i) ws none df).ns.length := by
                have := congrArg List.length (kK_add (st := st) (nm := ws) (nd := none) (df := df) hi)
                rw [kK_len, kK_len] at this
                omega
              obtain ⟨⟨x1, x2, -⟩, x3, -⟩ := hX _ _ _ _ _ h2
              obtain ⟨f1, f2, f3, f4⟩ := hF _ _ _ _ _ hN2 h2
              have hil2 : i < st2.ns.length := by omega
              have hl5 : i < (sPut st2 (6 + i) (nN st.ns (6 + i)).ps.length nd).ns.length := by
                have := congrArg List.length (kK_pt (st := st2) (k := (nN st.ns (6 + i)).ps.length) (m := nd) hil2)
                rw [kK_len, kK_len] at this
                omega
              exact ⟨hl5, (f1.pt hil2 : kNm (sPut st2 (6 + i) (nN st.ns (6 + i)).ps.length nd)), (((hA.add hi).look hX hF hI hN2 h2).pt hil2 : iA (sPut st2 (6 + i) (nN st.ns (6 + i)).ps.length nd) b i)⟩
        · exact nomatch h
      · exact nomatch h
  · exact nomatch h
theorem sFds_i {xs : List JR} {L : Nat → Bool → SS → Except (Nat × Nat) (Nat × SS)} (hX : sLx L) (hF : sFx L) (hI : sIx L) {i b : Nat} : ∀ (l : List Nat) (st st1 : SS), i < st.ns.length → kNm st → iA st b i → sFds xs L (6 + i) l st = .ok st1 → iA st1 b i := by
  intro l
  induction l with
  | nil =>
    intro st st1 hi hN hA h
    cases h
    exact hA
  | cons a l ih =>
    intro st st1 hi hN hA h
    unfold sFds at h
    split at h
    · exact nomatch h
    · rename_i st2 h2
      obtain ⟨g1, g2, g3⟩ := sFld_i hX hF hI hi hN hA h2
      exact ih _ _ g1 g2 g3 h
