/-! ===== what was looked at is whole ===== -/
def kK (st : SS) : List Nat := st.ns.map (fun n => n.kd)
/-- no union -/
def nuN (K : List Nat) (m : Nat) : Prop := ∀ k : Nat, 6 ≤ m → K[m - 6]? = some k → ¬ k = 8
def pN (K : List Nat) (kd : Nat) (q : SP) : Prop := ∃ m : Nat, q.nd = some m ∧ m < 6 + K.length ∧ (kd = 8 → nuN K m)
def fN (K : List Nat) (n : SN) : Prop := ((n.kd = 6 ∨ n.kd = 7) → ∃ q : SP, n.ps = [q]) ∧ ((n.kd = 6 ∨ n.kd = 7 ∨ n.kd = 8 ∨ n.kd = 11) → ∀ q ∈ n.ps, pN K n.kd q) ∧ (n.kd = 8 → 1 ≤ n.ps.length) ∧ (¬ (n.kd = 6 ∨ n.kd = 7) → n.ps.length = n.ct) ∧ (n.kd = 9 → 0 ≤ n.dt ∧ n.dt ≤ 64) ∧ (n.kd = 10 → -1 ≤ n.dt ∧ n.dt < (n.ps.length : Int))
/-- from b on all are whole but that at i0 -/
def fA (st : SS) (b i0 : Nat) : Prop := ∀ (j : Nat) (n : SN), b ≤ j → ¬ j = i0 → st.ns[j]? = some n → fN (kK st) n
def kNm (st : SS) : Prop := ∀ (i : Nat) (n : SN), st.ns[i]? = some n → ¬ n.nm = none → (n.kd = 9 ∨ n.kd = 10 ∨ n.kd = 11)
theorem nuN.mono {K K2 : List Nat} {m : Nat} (h : nuN K m) (hm : m < 6 + K.length) (hp : K <+: K2) : nuN K2 m := fun k h6 hk => by
  obtain ⟨t, rfl⟩ := hp
  rw [List.getElem?_append_left (by omega)] at hk
  exact h k h6 hk
theorem pN.mono {K K2 : List Nat} {kd : Nat} {q : SP} (h : pN K kd q) (hp : K <+: K2) : pN K2 kd q := by
  obtain ⟨m, h1, h2, h3⟩ := h
  exact ⟨m, h1, Nat.lt_of_lt_of_le h2 (Nat.add_le_add_left hp.length_le _), fun c => (h3 c).mono h2 hp⟩
theorem fN.mono {K K2 : List Nat} {n : SN} (h : fN K n) (hp : K <+: K2) : fN K2 n := ⟨h.1, fun c q hq => (h.2.1 c q hq).mono hp, h.2.2⟩
theorem kK_put {st : SS} {i kc : Nat} {n n' : SN} {lt : List (Nat × Nat × Option Nat)} (hi : st.ns[i]? = some n) (hk : n'.kd = n.kd) : kK (st.lk, kc, nPut st.ns (6 + i) n', lt) = kK st := by
  unfold kK nPut
  show (st.ns.set (6 + i - 6) n').map _ = _
  rw [show 6 + i - 6 = i by omega, List.map_set]
  refine List.ext_getElem? (fun j => ?_)
  by_cases c : i = j
  · subst c
    have hl := (List.getElem?_eq_some_iff.mp hi).1
    rw [List.getElem?_set_self (by rw [List.length_map]; exact hl), List.getElem?_map, hi]
    show some n'.kd = some n.kd
    rw [hk]
  · rw [List.getElem?_set_ne c]
theorem kK_add {st : SS} {i : Nat} (hi : i < st.ns.length) {nm : List Int32} {nd df : Option Nat} : kK (sAdd st (6 + i) nm nd df) = kK st := by
  have hg := List.getElem?_eq_getElem hi
  unfold sAdd
  rw [nN_at hg]
  exact kK_put hg rfl
theorem kK_pt {st : SS} {i k m : Nat} (hi : i < st.ns.length) : kK (sPut st (6 + i) k m) = kK st := by
  have hg := List.getElem?_eq_getElem hi
  unfold sPut
  rw [nN_at hg]
  exact kK_put hg rfl
theorem kK_cnt {st : SS} {i ct : Nat} (hi : i < st.ns.length) : kK (sCnt st (6 + i) ct) = kK st := by
  have hg := List.getElem?_eq_getElem hi
  unfold sCnt
  rw [nN_at hg]
  exact kK_put hg rfl
theorem kK_det {st : SS} {i : Nat} {x : Int} (hi : i < st.ns.length) : kK (sDet st (6 + i) x) = kK st := by
  have hg := List.getElem?_eq_getElem hi
  unfold sDet
  rw [nN_at hg]
  exact kK_put hg rfl
theorem kK_new {st : SS} {kd ct : Nat} {nm : Option (List Int32 × Nat)} : kK st <+: kK (sNew st kd nm ct) := by
  unfold kK sNew
  show st.ns.map _ <+: (st.ns ++ [_]).map _
  rw [List.map_append]
  exact List.prefix_append _ _
theorem kK_len {st : SS} : (kK st).length = st.ns.length := List.length_map _
theorem nPut_ne {ns : List SN} {i j : Nat} {n' : SN} (h : ¬ j = i) : (nPut ns (6 + i) n')[j]? = ns[j]? := by
  unfold nPut
  rw [show 6 + i - 6 = i by omega, List.getElem?_set_ne (fun e => h e.symm)]
theorem fA.put {st : SS} {b i kc : Nat} {n n' : SN} {lt : List (Nat × Nat × Option Nat)} (h : fA st b i) (hi : st.ns[i]? = some n) (hk : n'.kd = n.kd) : fA (st.lk, kc, nPut st.ns (6 + i) n', lt) b i := fun j m hb hj hm => by
  rw [kK_put hi hk]
  exact h j m hb hj (by rw [← nPut_ne hj]; exact hm)
theorem kNm.put {st : SS} {i kc : Nat} {n n' : SN} {lt : List (Nat × Nat × Option Nat)} (h : kNm st) (hi : st.ns[i]? = some n) (hk : n'.kd = n.kd) (hn : n'.nm = n.nm) : kNm (st.lk, kc, nPut st.ns (6 + i) n', lt) := fun j m hm => by
  have hm2 : (nPut st.ns (6 + i) n')[j]? = some m := hm
  by_cases c : j = i
  · subst c
    rw [nPut_at hi] at hm2
    cases hm2
    rw [hn, hk]
    exact h j n hi
  · rw [nPut_ne c] at hm2
    exact h j m hm2
theorem kNm.add {st : SS} {i : Nat} (h : kNm st) (hi : i < st.ns.length) {nm : List Int32} {nd df : Option Nat} : kNm (sAdd st (6 + i) nm nd df) := by
  have hg := List.getElem?_eq_getElem hi
  unfold sAdd
  rw [nN_at hg]
  exact h.put hg rfl rfl
theorem kNm.pt {st : SS} {i k m : Nat} (h : kNm st) (hi : i < st.ns.length) : kNm (sPut st (6 + i) k m) := by
  have hg := List.getElem?_eq_getElem hi
  unfold sPut
  rw [nN_at hg]
  exact h.put hg rfl rfl
theorem kNm.cnt {st : SS} {i ct : Nat} (h : kNm st) (hi : i < st.ns.length) : kNm (sCnt st (6 + i) ct) := by
  have hg := List.getElem?_eq_getElem hi
  unfold sCnt
  rw [nN_at hg]
  exact h.put hg rfl rfl
theorem kNm.det {st : SS} {i : Nat} {x : Int} (h : kNm st) (hi : i < st.ns.length) : kNm (sDet st (6 + i) x) := by
  have hg := List.getElem?_eq_getElem hi
  unfold sDet
  rw [nN_at hg]
  exact h.put hg rfl rfl
theorem kNm.new {st : SS} (h : kNm st) {kd ct : Nat} {nm : Option (List Int32 × Nat)} (hk : nm = none ∨ (kd = 9 ∨ kd = 10 ∨ kd = 11)) : kNm (sNew st kd nm ct) := fun j m hm hn => by
  by_cases c : j < st.ns.length
  · have hm2 : (st.ns ++ [(kd, nm, -1, ct, [])])[j]? = some m := hm
    rw [List.getElem?_append_left c] at hm2
    exact h j m hm2 hn
  · have hl := (List.getElem?_eq_some_iff.mp hm).1
    rw [sNew_len] at hl
    have : j = st.ns.length := by omega
    subst this
    rw [sNew_at] at hm
    cases hm
    rcases hk with e | e
    · exact absurd e hn
    · exact e
theorem fA_new {st : SS} {kd ct : Nat} {nm : Option (List Int32 × Nat)} : fA (sNew st kd nm ct) st.ns.length st.ns.length := fun j m hb hj hm => by
  have hl := (List.getElem?_eq_some_iff.mp hm).1
  rw [sNew_len] at hl
  omega
theorem sDefL_nm (w : List Int32) : ∀ (r : List SN) (s k : Nat), sDefL w r s = some k → ∃ (i : Nat) (n : SN), r[i]? = some n ∧ k = s + i ∧ ¬ n.nm = none := by
  intro r
  induction r with
  | nil => intro s k h; exact nomatch h
  | cons a r ih =>
    intro s k h
    unfold sDefL at h
    split at h
    · rename_i hm
      cases h
      refine ⟨0, a, rfl, rfl, fun e => ?_⟩
      rw [e] at hm
      exact nomatch hm
    · obtain ⟨i, n, h1, h2, h3⟩ := ih _ _ h
      exact ⟨i + 1, n, h1, by omega, h3⟩
theorem sKnw_nu {xs : List JR} {st st1 : SS} {v n : Nat} (hN : kNm st) (h : sKnw xs st v = .ok (n, st1)) : nuN (kK st) n := by
  unfold sKnw at h
  split at h
  · rename_i m hm
    cases h
    have := sSix_lt hm
    exact fun k h6 _ => by omega
  · split at h
    · rename_i m hm
      cases h
      obtain ⟨i, n, h1, h2, h3⟩ := sDefL_nm _ _ _ _ hm
      intro k h6 hk
      subst h2
      rw [show 6 + i - 6 = i by omega] at hk
      unfold kK at hk
      rw [List.getElem?_map, h1] at hk
      cases hk
      have h9 := hN i n h1 h3
      intro e8
      have e9 : n.kd = 8 := e8
      omega
    · exact nomatch h
def sFx (L : Nat → Bool → SS → Except (Nat × Nat) (Nat × SS)) : Prop := ∀ (v : Nat) (br : Bool) (st st1 : SS) (n : Nat), kNm st → L v br st = .ok (n, st1) → kNm st1 ∧ kK st <+: kK st1 ∧ (∀ (j : Nat) (m : SN), st.ns.length ≤ j → st1.ns[j]? = some m → fN (kK st1) m) ∧ (br = true → nuN (kK st1) n)
/-- a look within: those ahead stay whole -/
theorem fA.look {L : Nat → Bool → SS → Except (Nat × Nat) (Nat × SS)} (hX : sLx L) (hF : sFx L) {v : Nat} {br : Bool} {st st1 : SS} {n b i0 : Nat} (h : fA st b i0) (hN : kNm st) (he : L v br st = .ok (n, st1)) : fA st1 b i0 := by
  obtain ⟨⟨x1, x2, -⟩, -⟩ := hX _ _ _ _ _ he
  obtain ⟨-, f2, f3, -⟩ := hF _ _ _ _ _ hN he
  intro j m hb hj hm
  by_cases c : j < st.ns.length
  · exact (h j m hb hj (by rw [← x2 j c]; exact hm)).mono f2
  · exact f3 j m (by omega) hm
theorem sBrn_f {xs : List JR} {L : Nat → Bool → SS → Except (Nat × Nat) (Nat × SS)} (hX : sLx L) (hF : sFx L) {i b : Nat} : ∀ (l : List Nat) (st st1 : SS) (n : SN), st.ns[i]? = some n → n.kd = 8 → n.ps.length + l.length = n.ct → (∀ q ∈ n.ps, pN (kK st) 8 q) → kNm st → fA st b i → sBrn xs L (6 + i) l st = .ok st1 →
    kNm st1 ∧ kK st <+: kK st1 ∧ fA st1 b i ∧ ∃ n1 : SN, st1.ns[i]? = some n1 ∧ n1.kd = 8 ∧ n1.ct = n.ct ∧ n1.ps.length = n.ct ∧ ∀ q ∈ n1.ps, pN (kK st1) 8 q := by
  intro l
  induction l with
  | nil =>
    intro st st1 n hi hk hc hq hN hA h
    cases h
    exact ⟨hN, List.prefix_refl _, hA, n, hi, hk, rfl, hc, hq⟩
  | cons a l ih =>
    intro st st1 n hi hk hc hq hN hA h
    unfold sBrn at h
    split at h
    · exact nomatch h
    · rename_i nd st2 h2
      split at h
      · exact nomatch h
      · have hil := (List.getElem?_eq_some_iff.mp hi).1
        obtain ⟨⟨x1, x2, -⟩, x3, -⟩ := hX _ _ _ _ _ h2
        obtain ⟨f1, f2, f3, f4⟩ := hF _ _ _ _ _ hN h2
        have hi2 := (x2 i hil).trans hi
        have hil2 := (List.getElem?_eq_some_iff.mp hi2).1
        have eK : kK (sAdd st2 (6 + i) [] (some nd) none) = kK st2 := kK_add hil2
        have e3 : (sAdd st2 (6 + i) [] (some nd) none).ns[i]? = some (n.kd, n.nm, n.dt, n.ct, n.ps ++ [([], some nd, none, st2.kc)]) := by
          unfold sAdd
          rw [nN_at hi2]
          exact nPut_at hi2
        have hA2 : fA (sAdd st2 (6 + i) [] (some nd) none) b i := by
          unfold sAdd
          rw [nN_at hi2]
          exact (hA.look hX hF hN h2).put hi2 rfl
        obtain ⟨g1, g2, g3, n1, g4, g5, g6, g7, g8⟩ := ih _ _ _ e3 hk (by show (n.ps ++ [_]).length + l.length = n.ct; rw [List.length_append, List.length_singleton]; rw [List.length_cons] at hc; omega) (fun q hq2 => by
          rw [eK]
          rcases List.mem_append.mp hq2 with c | c
          · exact (hq q c).mono f2
          · rw [List.mem_singleton] at c
            subst c
            exact ⟨nd, rfl, by rw [kK_len]; exact x3, fun _ => f4 rfl⟩) (f1.add hil2) hA2 h
        exact ⟨g1, by rw [eK] at g2; exact f2.trans g2, g3, n1, g4, g5, g6, g7, g8⟩
theorem sSym_f {xs : List JR} {i b : Nat} : ∀ (l : List Nat) (st st1 : SS) (n : SN), st.ns[i]? = some n → n.ps.length + l.length = n.ct → kNm st → fA st b i → sSym xs (6 + i) l st = .ok st1 →
    kNm st1 ∧ kK st = kK st1 ∧ fA st1 b i ∧ ∃ n1 : SN, st1.ns[i]? = some n1 ∧ n1.kd = n.kd ∧ n1.ct = n.ct ∧ n1.ps.length = n.ct ∧ n1.dt = n.dt := by
  intro l
  induction l with
  | nil =>
    intro st st1 n hi hc hN hA h
    cases h
    exact ⟨hN, rfl, hA, n, hi, rfl, rfl, hc, rfl⟩
  | cons a l ih =>
    intro st st1 n hi hc hN hA h
    unfold sSym at h
    split at h
    · have hil := (List.getElem?_eq_some_iff.mp hi).1
      have eK : kK (sAdd st (6 + i) (xx xs a).ws none none) = kK st := kK_add hil
      have e3 : (sAdd st (6 + i) (xx xs a).ws none none).ns[i]? = some (n.kd, n.nm, n.dt, n.ct, n.ps ++ [((xx xs a).ws, none, none, st.kc)]) := by
        unfold sAdd
        rw [nN_at hi]
        exact nPut_at hi
      have hA2 : fA (sAdd st (6 + i) (xx xs a).ws none none) b i := by
        unfold sAdd
        rw [nN_at hi]
        exact hA.put hi rfl
      obtain ⟨g1, g2, g3, n1, g4, g5, g6, g7⟩ := ih _ _ _ e3 (by show (n.ps ++ [_]).length + l.length = n.ct; rw [List.length_append, List.length_singleton]; rw [List.length_cons] at hc; omega) (hN.add hil) hA2 h
      exact ⟨g1, by rw [← g2, eK], g3, n1, g4, g5, g6, g7⟩
    · exact nomatch h
theorem sFld_f {xs : List JR} {L : Nat → Bool → SS → Except (Nat × Nat) (Nat × SS)} (hX : sLx L) (hF : sFx L) {i b f : Nat} {st st1 : SS} {n : SN} (hi : st.ns[i]? = some n) (hk : n.kd = 11) (hq : ∀ q ∈ n.ps, pN (kK st) 11 q) (hN : kNm st) (hA : fA st b i) (h : sFld xs L (6 + i) f st = .ok st1) :
    kNm st1 ∧ kK st <+: kK st1 ∧ fA st1 b i ∧ ∃ n1 : SN, st1.ns[i]? = some n1 ∧ n1.kd = 11 ∧ n1.ct = n.ct ∧ n1.ps.length = n.ps.length + 1 ∧ ∀ q ∈ n1.ps, pN (kK st1) 11 q := by
  unfold sFld at h
  split at h
  · split at h
    · exact nomatch h
    · split at h
      · split at h
        · split at h
          · exact nomatch h
          · split at h
            · exact nomatch h
            · rename_i nm1 _ _ _ _ _ _ _ nd st2 h2
              cases h
              have hil := (List.getElem?_eq_some_iff.mp hi).1
              generalize hws : (xx xs nm1).ws = ws at *
              generalize hdf : xMem xs f (iw [100, 101, 102, 97, 117, 108, 116]) = df at *
              have eK : kK (sAdd st (6 + i) ws none df) = kK st := kK_add hil
              have e3 : (sAdd st (6 + i) ws none df).ns[i]? = some (n.kd, n.nm, n.dt, n.ct, n.ps ++ [(ws, none, df, st.kc)]) := by
                unfold sAdd
                rw [nN_at hi]
                exact nPut_at hi
              have hA2 : fA (sAdd st (6 + i) ws none df) b i := by
                unfold sAdd
                rw [nN_at hi]
                exact hA.put hi rfl
              have hN2 : kNm (sAdd st (6 + i) ws none df) := hN.add hil
              have hil3 := (List.getElem?_eq_some_iff.mp e3).1
              obtain ⟨⟨x1, x2, -⟩, x3, -⟩ := hX _ _ _ _ _ h2
              obtain ⟨f1, f2, f3, f4⟩ := hF _ _ _ _ _ hN2 h2
              rw [eK] at f2
              have hi2 := (x2 i hil3).trans e3
              have hil2 := (List.getElem?_eq_some_iff.mp hi2).1
              have ep : (nN st.ns (6 + i)).ps.length = n.ps.length := by rw [nN_at hi]
              have e5 : (sPut st2 (6 + i) (nN st.ns (6 + i)).ps.length nd).ns[i]? = some (n.kd, n.nm, n.dt, n.ct, n.ps ++ [(ws, some nd, df, st.kc)]) := by
                rw [ep]
                unfold sPut
                rw [nN_at hi2]
                show (nPut st2.ns (6 + i) (n.kd, n.nm, n.dt, n.ct, pSet (n.ps ++ [(ws, none, df, st.kc)]) n.ps.length nd))[i]? = _
                rw [pSet_last]
                exact nPut_at hi2
              have eK5 : kK (sPut st2 (6 + i) (nN st.ns (6 + i)).ps.length nd) = kK st2 := kK_pt hil2
              have hA5 : fA (sPut st2 (6 + i) (nN st.ns (6 + i)).ps.length nd) b i := by
                unfold sPut
                rw [nN_at hi2]
                exact (hA2.look hX hF hN2 h2).put hi2 rfl
              refine ⟨(f1.pt hil2 : kNm (sPut st2 (6 + i) (nN st.ns (6 + i)).ps.length nd)), ?_, hA5, _, e5, hk, rfl, ?_, fun q hq2 => ?_⟩
              · show kK st <+: kK (sPut st2 (6 + i) (nN st.ns (6 + i)).ps.length nd)
                rw [eK5]
                exact f2
              · show (n.ps ++ [_]).length = _
                rw [List.length_append]
                rfl
              · show pN (kK (sPut st2 (6 + i) (nN st.ns (6 + i)).ps.length nd)) 11 q
                rw [eK5]
                rcases List.mem_append.mp hq2 with c | c
                · exact (hq q c).mono f2
                · rw [List.mem_singleton] at c
                  subst c
                  exact ⟨nd, rfl, by rw [kK_len]; exact x3, fun c9 => absurd c9 (by decide)⟩
        · exact nomatch h
      · exact nomatch h
  · exact nomatch h
theorem sFds_f {xs : List JR} {L : Nat → Bool → SS → Except (Nat × Nat) (Nat × SS)} (hX : sLx L) (hF : sFx L) {i b : Nat} : ∀ (l : List Nat) (st st1 : SS) (n : SN), st.ns[i]? = some n → n.kd = 11 → n.ps.length + l.length = n.ct → (∀ q ∈ n.ps, pN (kK st) 11 q) → kNm st → fA st b i → sFds xs L (6 + i) l st = .ok st1 →
    kNm st1 ∧ kK st <+: kK st1 ∧ fA st1 b i ∧ ∃ n1 : SN, st1.ns[i]? = some n1 ∧ n1.kd = 11 ∧ n1.ct = n.ct ∧ n1.ps.length = n.ct ∧ ∀ q ∈ n1.ps, pN (kK st1) 11 q := by
  intro l
  induction l with
  | nil =>
    intro st st1 n hi hk hc hq hN hA h
    cases h
    exact ⟨hN, List.prefix_refl _, hA, n, hi, hk, rfl, hc, hq⟩
  | cons a l ih =>
    intro st st1 n hi hk hc hq hN hA h
    unfold sFds at h
    split at h
    · exact nomatch h
    · rename_i st2 h2
      obtain ⟨g1, g2, g3, n1, g4, g5, g6, g7, g8⟩ := sFld_f hX hF hi hk hq hN hA h2
      obtain ⟨r1, r2, r3, n2, r4, r5, r6, r7, r8⟩ := ih _ _ _ g4 g5 (by rw [List.length_cons] at hc; omega) g8 g1 g3 h
      exact ⟨r1, g2.trans r2, r3, n2, r4, r5, by omega, by omega, r8⟩
