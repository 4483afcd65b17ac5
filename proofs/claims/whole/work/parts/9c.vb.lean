/-! ===== what is written: which looks made which nodes ===== -/
theorem sTop_nm {xs : List JR} {n : Nat} {st : SS} (h : sTop xs = .ok (n, st)) : kNm st := by
  unfold sTop at h
  have k4 : kNm (0, 0, [], []) := fun i m hm => by
    have : (SS.ns (0, 0, [], []))[i]? = none := rfl
    rw [this] at hm
    exact nomatch hm
  exact (sLook_f 16 _ _ _ _ _ k4 h).1
/-- names and kinds stand in stF as in st -/
def gN (st stF : SS) : Prop := ∀ (i : Nat) (n : SN), st.ns[i]? = some n → ∃ nF : SN, stF.ns[i]? = some nF ∧ nF.kd = n.kd ∧ nF.nm = n.nm
/-- from b on, but at i0, all stands in stF as in st -/
def gS (st stF : SS) (b i0 : Nat) : Prop := ∀ i : Nat, b ≤ i → i < st.ns.length → ¬ i = i0 → stF.ns[i]? = st.ns[i]?
theorem gN.put {st stF : SS} (h : gN st stF) {i kc : Nat} {n n' : SN} {lt : List (Nat × Nat × Option Nat)} (hi : st.ns[i]? = some n) (hk : n'.kd = n.kd) (hn : n'.nm = n.nm) : gN (st.lk, kc, nPut st.ns (6 + i) n', lt) stF := fun j m hm => by
  have hm2 : (nPut st.ns (6 + i) n')[j]? = some m := hm
  by_cases c : j = i
  · subst c
    rw [nPut_at hi] at hm2
    cases hm2
    obtain ⟨nF, h1, h2, h3⟩ := h j n hi
    exact ⟨nF, h1, h2.trans hk.symm, h3.trans hn.symm⟩
  · rw [nPut_ne c] at hm2
    exact h j m hm2
theorem gN.add {st stF : SS} (h : gN st stF) {i : Nat} (hi : i < st.ns.length) {nm : List Int32} {nd df : Option Nat} : gN (sAdd st (6 + i) nm nd df) stF := by
  have hg := List.getElem?_eq_getElem hi
  unfold sAdd
  rw [nN_at hg]
  exact h.put hg rfl rfl
theorem gN.look {st st1 stF : SS} (h : gN st stF) (hx : sX st st1) (hs : ∀ i : Nat, st.ns.length ≤ i → i < st1.ns.length → stF.ns[i]? = st1.ns[i]?) : gN st1 stF := fun j m hm => by
  by_cases c : j < st.ns.length
  · exact h j m ((hx.2.1 j c).symm.trans hm)
  · have hl := (List.getElem?_eq_some_iff.mp hm).1
    exact ⟨m, (hs j (by omega) hl).trans hm, rfl, rfl⟩
/-- a new node -/
theorem gN.new {st stF : SS} (h : gN st stF) {kd ct : Nat} {nm : Option (List Int32 × Nat)} {nF : SN} (hF : stF.ns[st.ns.length]? = some nF) (hk : nF.kd = kd) (hn : nF.nm = nm) : gN (sNew st kd nm ct) stF := fun j m hm => by
  by_cases c : j < st.ns.length
  · have hm2 : (st.ns ++ [(kd, nm, -1, ct, [])])[j]? = some m := hm
    rw [List.getElem?_append_left c] at hm2
    exact h j m hm2
  · have hl := (List.getElem?_eq_some_iff.mp hm).1
    rw [sNew_len] at hl
    have : j = st.ns.length := by omega
    subst this
    rw [sNew_at] at hm
    cases hm
    exact ⟨nF, hF, hk, hn⟩
/-- told are the named nodes before k -/
def tO (M : zM) (t : Int) (stF : SS) (k : Nat) : Prop := ∀ (i : Nat) (n : SN), stF.ns[i]? = some n → ¬ n.nm = none → M (t + 21) ((6 + i : Nat) : Int) = (if i < k then 1 else 0)
theorem tO.skip {M : zM} {t : Int} {stF : SS} {k : Nat} (h : tO M t stF k) {n : SN} (hk : stF.ns[k]? = some n) (hn : n.nm = none) : tO M t stF (k + 1) := fun i m hm hne => by
  rw [h i m hm hne]
  by_cases c : i = k
  · subst c
    rw [hk] at hm
    cases hm
    exact absurd hn hne
  · by_cases c2 : i < k
    · rw [if_pos c2, if_pos (by omega)]
    · rw [if_neg c2, if_neg (by omega)]
theorem tO.tell {M : zM} {t : Int} {stF : SS} {k : Nat} (h : tO M t stF k) : tO (zu M (t + 21) ((6 + k : Nat) : Int) 1) t stF (k + 1) := fun i m hm hne => by
  by_cases c : i = k
  · subst c
    rw [zu_s, if_pos (Nat.lt_succ_self _)]
  · rw [zu_k (by omega), h i m hm hne]
    by_cases c2 : i < k
    · rw [if_pos c2, if_pos (by omega)]
    · rw [if_neg c2, if_neg (by omega)]
theorem tO.f {M M1 : zM} {t : Int} {stF : SS} {k : Nat} (h : tO M t stF k) (hf : wf2 t M M1) : tO M1 t stF k := fun i m hm hne => by
  rw [hf _ _ (by omega) (by omega)]
  exact h i m hm hne
/-- parts come behind those that are there -/
theorem sBrn_p {xs : List JR} {L : Nat → Bool → SS → Except (Nat × Nat) (Nat × SS)} (hX : sLx L) {i : Nat} : ∀ (l : List Nat) (st st1 : SS) (n : SN), st.ns[i]? = some n → sBrn xs L (6 + i) l st = .ok st1 → ∃ n1 : SN, st1.ns[i]? = some n1 ∧ n1.kd = n.kd ∧ n1.nm = n.nm ∧ ∃ more : List SP, n1.ps = n.ps ++ more := by
  intro l
  induction l with
  | nil => intro st st1 n hi h; cases h; exact ⟨n, hi, rfl, rfl, [], (List.append_nil _).symm⟩
  | cons b l ih =>
    intro st st1 n hi h
    unfold sBrn at h
    split at h
    · exact nomatch h
    · rename_i nd st2 h2
      split at h
      · exact nomatch h
      · obtain ⟨⟨x1, x2, -⟩, -⟩ := hX _ _ _ _ _ h2
        have hil := (List.getElem?_eq_some_iff.mp hi).1
        have hi2 := (x2 i hil).trans hi
        have e3 : (sAdd st2 (6 + i) [] (some nd) none).ns[i]? = some (n.kd, n.nm, n.dt, n.ct, n.ps ++ [([], some nd, none, st2.kc)]) := by
          unfold sAdd
          rw [nN_at hi2]
          exact nPut_at hi2
        obtain ⟨n1, g1, g2, g3, more, g4⟩ := ih _ _ _ e3 h
        refine ⟨n1, g1, g2, g3, ([], some nd, none, st2.kc) :: more, ?_⟩
        rw [g4]
        show (n.ps ++ [_]) ++ more = _
        rw [List.append_assoc]
        rfl
theorem sSym_p {xs : List JR} {i : Nat} : ∀ (l : List Nat) (st st1 : SS) (n : SN), st.ns[i]? = some n → sSym xs (6 + i) l st = .ok st1 → ∃ n1 : SN, st1.ns[i]? = some n1 ∧ n1.kd = n.kd ∧ n1.nm = n.nm ∧ ∃ more : List SP, n1.ps = n.ps ++ more ∧ more.map (fun q => q.nm) = l.map (fun b => (xx xs b).ws) := by
  intro l
  induction l with
  | nil => intro st st1 n hi h; cases h; exact ⟨n, hi, rfl, rfl, [], (List.append_nil _).symm, rfl⟩
  | cons b l ih =>
    intro st st1 n hi h
    unfold sSym at h
    split at h
    · have hil := (List.getElem?_eq_some_iff.mp hi).1
      have e3 : (sAdd st (6 + i) (xx xs b).ws none none).ns[i]? = some (n.kd, n.nm, n.dt, n.ct, n.ps ++ [((xx xs b).ws, none, none, st.kc)]) := by
        unfold sAdd
        rw [nN_at hi]
        exact nPut_at hi
      obtain ⟨n1, g1, g2, g3, more, g4, g5⟩ := ih _ _ _ e3 h
      refine ⟨n1, g1, g2, g3, ((xx xs b).ws, none, none, st.kc) :: more, ?_, by rw [List.map_cons, List.map_cons, g5]⟩
      rw [g4]
      show (n.ps ++ [_]) ++ more = _
      rw [List.append_assoc]
      rfl
    · exact nomatch h
theorem sFld_p {xs : List JR} {L : Nat → Bool → SS → Except (Nat × Nat) (Nat × SS)} (hX : sLx L) {i f : Nat} {st st1 : SS} {n : SN} (hi : st.ns[i]? = some n) (h : sFld xs L (6 + i) f st = .ok st1) : ∃ (b tp nd : Nat) (df : Option Nat) (st2 : SS), xMem xs f (iw [110, 97, 109, 101]) = some b ∧ xMem xs f (iw [116, 121, 112, 101]) = some tp ∧ (xx xs b).kd = 3 ∧ L tp false (sAdd st (6 + i) (xx xs b).ws none df) = .ok (nd, st2) ∧ st1.ns[i]? = some (n.kd, n.nm, n.dt, n.ct, n.ps ++ [((xx xs b).ws, some nd, df, st.kc)]) ∧ st1.ns.length = st2.ns.length ∧ ∀ j : Nat, ¬ j = i → st1.ns[j]? = st2.ns[j]? := by
  unfold sFld at h
  split at h
  · split at h
    · exact nomatch h
    · rename_i b hb
      split at h
      · rename_i hk3
        split at h
        · split at h
          · exact nomatch h
          · rename_i tp htp
            split at h
            · exact nomatch h
            · rename_i nd st2 h2
              have hil := (List.getElem?_eq_some_iff.mp hi).1
              generalize xMem xs f (iw [100, 101, 102, 97, 117, 108, 116]) = df at h h2
              rw [nN_at hi] at h
              cases h
              have e3 : (sAdd st (6 + i) (xx xs b).ws none df).ns[i]? = some (n.kd, n.nm, n.dt, n.ct, n.ps ++ [((xx xs b).ws, none, df, st.kc)]) := by
                unfold sAdd
                rw [nN_at hi]
                exact nPut_at hi
              have hil3 := (List.getElem?_eq_some_iff.mp e3).1
              obtain ⟨⟨x1, x2, -⟩, -, -⟩ := hX _ _ _ _ _ h2
              have hi2 := (x2 i hil3).trans e3
              have e5 : sPut st2 (6 + i) n.ps.length nd = (st2.lk, st2.kc, nPut st2.ns (6 + i) (n.kd, n.nm, n.dt, n.ct, n.ps ++ [((xx xs b).ws, some nd, df, st.kc)]), st2.lt) := by
                unfold sPut
                rw [nN_at hi2]
                show (st2.lk, st2.kc, nPut st2.ns (6 + i) (n.kd, n.nm, n.dt, n.ct, pSet (n.ps ++ [((xx xs b).ws, none, df, st.kc)]) n.ps.length nd), st2.lt) = _
                rw [pSet_last]
              refine ⟨b, tp, nd, df, st2, hb, htp, hk3, h2, ?_, ?_, fun j hj => ?_⟩
              · show (sPut st2 (6 + i) n.ps.length nd).ns[i]? = _
                rw [e5]
                exact nPut_at hi2
              · show (sPut st2 (6 + i) n.ps.length nd).ns.length = _
                rw [e5]
                exact nPut_len
              · show (sPut st2 (6 + i) n.ps.length nd).ns[j]? = _
                rw [e5]
                exact nPut_ne hj
        · exact nomatch h
      · exact nomatch h
  · exact nomatch h
theorem sFds_p {xs : List JR} {L : Nat → Bool → SS → Except (Nat × Nat) (Nat × SS)} (hX : sLx L) {i : Nat} : ∀ (l : List Nat) (st st1 : SS) (n : SN), st.ns[i]? = some n → sFds xs L (6 + i) l st = .ok st1 → ∃ n1 : SN, st1.ns[i]? = some n1 ∧ n1.kd = n.kd ∧ n1.nm = n.nm ∧ ∃ more : List SP, n1.ps = n.ps ++ more := by
  intro l
  induction l with
  | nil => intro st st1 n hi h; cases h; exact ⟨n, hi, rfl, rfl, [], (List.append_nil _).symm⟩
  | cons b l ih =>
    intro st st1 n hi h
    unfold sFds at h
    split at h
    · exact nomatch h
    · rename_i st2 h2
      obtain ⟨b9, tp, nd, df, st3, -, -, -, -, e1, -, -⟩ := sFld_p hX hi h2
      obtain ⟨n1, g1, g2, g3, more, g4⟩ := ih _ _ _ e1 h
      refine ⟨n1, g1, g2, g3, ((xx xs b9).ws, some nd, df, st.kc) :: more, ?_⟩
      rw [g4]
      show (n.ps ++ [_]) ++ more = _
      rw [List.append_assoc]
      rfl
/-- a value's weight in what is written -/
def wv (xs : List JR) (v : Nat) : Nat := 2 * (xx xs v).sz + wS xs v (xx xs v).sz
theorem wv_kid {xs : List JR} {i n : Nat} (h : (xx xs i).sz ≤ n) : 2 * n + wS xs i n = wv xs i + (2 * (n - (xx xs i).sz) + wS xs (i + (xx xs i).sz) (n - (xx xs i).sz)) := by
  have := wS_add (xs := xs) (xx xs i).sz i (n - (xx xs i).sz)
  rw [show (xx xs i).sz + (n - (xx xs i).sz) = n by omega] at this
  rw [this]
  unfold wv
  omega
theorem wv_own {xs : List JR} {v : Nat} (hw : jWf xs) (hv : v < xs.length) : wv xs v = 2 + jlw (xx xs v) + (2 * ((xx xs v).sz - 1) + wS xs (v + 1) ((xx xs v).sz - 1)) := by
  have hs := (jWf_at hw hv).2.2.1
  have h1 : wS xs v (xx xs v).sz = jlw (xx xs v) + wS xs (v + 1) ((xx xs v).sz - 1) := by
    rw [show (xx xs v).sz = ((xx xs v).sz - 1) + 1 by omega]
    rfl
  unfold wv
  rw [h1]
  omega
/-- members of different names, each with its key, lie in an object -/
theorem wv_mems {xs : List JR} {v : Nat} (hw : jWf xs) (hv : v < xs.length) {l : List Nat} (hp : l.Pairwise (fun a b => ¬ a = b)) (hm : ∀ j ∈ l, j ∈ xKids xs v) : 2 + jlw (xx xs v) + lSum (wv xs) l ≤ wv xs v := by
  have h1 : lSum (wv xs) l ≤ lSum (wv xs) (xKids xs v) := lSum_sub hp hm
  have kids : ∀ (o : Bool) (c i n : Nat), kidsL c (xs.drop i) n o → lSum (wv xs) (xKid xs c i) = 2 * n + wS xs i n := by
    intro o c
    induction c with
    | zero =>
      intro i n h
      have e : n = 0 := h
      subst e
      rfl
    | succ c ih =>
      intro i n h
      obtain ⟨g1, g2, g3, -, -, g6⟩ := kidsL_step h
      show wv xs i + lSum (wv xs) (xKid xs c (i + (xx xs i).sz)) = _
      rw [ih _ _ g6, wv_kid g3]
  rw [wv_own hw hv]
  obtain ⟨-, -, g3, g4, g5, g6, g7⟩ := jWf_at hw hv
  have h2 : lSum (wv xs) (xKids xs v) ≤ 2 * ((xx xs v).sz - 1) + wS xs (v + 1) ((xx xs v).sz - 1) := by
    by_cases c : (xx xs v).kd = 1 ∨ (xx xs v).kd = 2
    · exact Nat.le_of_eq (kids _ _ _ _ (g6 c))
    · unfold xKids
      rw [(g7 c).1]
      exact Nat.zero_le _
  omega
/-- a member's weight has its key -/
theorem wv_key {xs : List JR} {v j : Nat} {w : List Int32} (hw : jWf xs) (hv : v < xs.length) (h : xMem xs v w = some j) : 3 + w.length + (if (xx xs j).kd = 3 then 1 + (xx xs j).ws.length else 0) ≤ wv xs j := by
  obtain ⟨-, -, hj⟩ := xMem_mem hw hv h
  have hk := (xFind_mem h).2
  rw [wv_own hw hj, jlw_k, hk]
  show _ ≤ 2 + ((if (xx xs j).kd = 3 then 1 + (xx xs j).ws.length else 0) + (1 + w.length)) + _
  omega
