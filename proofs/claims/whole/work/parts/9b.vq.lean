/-! ===== the fields that are done, and their defaults ===== -/
/-- what the done fields' defaults may take -/
def lW (xs : List JR) : List (Nat × Nat × Option Nat) → Nat
  | [] => 0
  | z :: r => (match z.2.2 with
    | none => 0
    | some v => dV xs v) + lW xs r
theorem lW_app {xs : List JR} {a b : List (Nat × Nat × Option Nat)} : lW xs (a ++ b) = lW xs a + lW xs b := by
  induction a with
  | nil => simp [lW]
  | cons z a ih => simp only [List.cons_append, lW, ih]; omega
def kT (xs : List JR) (st : SS) : Prop := ∀ z ∈ st.lt, ∃ (i : Nat) (n : SN) (q : SP), z.1 = 6 + i ∧ st.ns[i]? = some n ∧ n.kd = 11 ∧ n.ps[z.2.1]? = some q ∧ q.df = z.2.2 ∧ ∀ v : Nat, z.2.2 = some v → v < xs.length
/-- all fields are done but those in E -/
def kR (st : SS) (E : Nat → Nat → Prop) : Prop := ∀ (i k : Nat) (n : SN), st.ns[i]? = some n → n.kd = 11 → k < n.ps.length → ¬ E i k → ∃ z ∈ st.lt, z.1 = 6 + i ∧ z.2.1 = k
theorem kT.put {xs : List JR} {st : SS} {i kc : Nat} {n n' : SN} (h : kT xs st) (hi : st.ns[i]? = some n) (hk : n'.kd = n.kd) (hp : ∀ (k : Nat) (q : SP), n.ps[k]? = some q → ∃ q' : SP, n'.ps[k]? = some q' ∧ q'.df = q.df) : kT xs (st.lk, kc, nPut st.ns (6 + i) n', st.lt) := by
  intro z hz
  obtain ⟨j, m, q, h1, h2, h3, h4, h5, h6⟩ := h z hz
  by_cases c : j = i
  · subst c
    rw [hi] at h2
    cases h2
    obtain ⟨q', g1, g2⟩ := hp _ _ h4
    exact ⟨j, n', q', h1, nPut_at hi, by rw [hk]; exact h3, g1, g2.trans h5, h6⟩
  · exact ⟨j, m, q, h1, (nPut_ne c).trans h2, h3, h4, h5, h6⟩
theorem kR.put {st : SS} {E : Nat → Nat → Prop} {i kc : Nat} {n n' : SN} (h : kR st E) (hi : st.ns[i]? = some n) (hk : n'.kd = n.kd) (hp : n'.ps.length = n.ps.length) : kR (st.lk, kc, nPut st.ns (6 + i) n', st.lt) E := by
  intro j k m hm h11 hkl hE
  have hm2 : (nPut st.ns (6 + i) n')[j]? = some m := hm
  by_cases c : j = i
  · subst c
    rw [nPut_at hi] at hm2
    cases hm2
    exact h j k n hi (by rw [← hk]; exact h11) (by rw [← hp]; exact hkl) hE
  · rw [nPut_ne c] at hm2
    exact h j k m hm2 h11 hkl hE
theorem kT.new {xs : List JR} {st : SS} (h : kT xs st) {kd ct : Nat} {nm : Option (List Int32 × Nat)} : kT xs (sNew st kd nm ct) := fun z hz => by
  obtain ⟨j, m, q, h1, h2, h3⟩ := h z hz
  refine ⟨j, m, q, h1, ?_, h3⟩
  show (st.ns ++ [_])[j]? = _
  rw [List.getElem?_append_left (List.getElem?_eq_some_iff.mp h2).1]
  exact h2
theorem kR.new {st : SS} {E : Nat → Nat → Prop} (h : kR st E) {kd ct : Nat} {nm : Option (List Int32 × Nat)} : kR (sNew st kd nm ct) E := fun j k m hm h11 hkl hE => by
  by_cases c : j < st.ns.length
  · have hm2 : (st.ns ++ [(kd, nm, -1, ct, [])])[j]? = some m := hm
    rw [List.getElem?_append_left c] at hm2
    exact h j k m hm2 h11 hkl hE
  · have hl := (List.getElem?_eq_some_iff.mp hm).1
    rw [sNew_len] at hl
    have : j = st.ns.length := by omega
    subst this
    rw [sNew_at] at hm
    cases hm
    exact absurd hkl (Nat.not_lt_zero _)
theorem app_get {ps : List SP} {x : SP} (k : Nat) (q : SP) (h : ps[k]? = some q) : ∃ q' : SP, (ps ++ [x])[k]? = some q' ∧ q'.df = q.df := ⟨q, by rw [List.getElem?_append_left (List.getElem?_eq_some_iff.mp h).1]; exact h, rfl⟩
theorem kT.add {xs : List JR} {st : SS} (h : kT xs st) {i : Nat} (hi : i < st.ns.length) {nm : List Int32} {nd df : Option Nat} : kT xs (sAdd st (6 + i) nm nd df) := by
  have hg := List.getElem?_eq_getElem hi
  unfold sAdd
  rw [nN_at hg]
  exact h.put hg rfl (fun k q hq => app_get k q hq)
theorem kT.pt {xs : List JR} {st : SS} (h : kT xs st) {i k m : Nat} (hi : i < st.ns.length) : kT xs (sPut st (6 + i) k m) := by
  have hg := List.getElem?_eq_getElem hi
  unfold sPut
  rw [nN_at hg]
  refine h.put hg rfl (fun j q hq => ?_)
  show ∃ q' : SP, (pSet _ k m)[j]? = some q' ∧ _
  rw [pSet_get, hq]
  by_cases c : k = j
  · rw [if_pos c]
    exact ⟨_, rfl, rfl⟩
  · rw [if_neg c]
    exact ⟨q, rfl, rfl⟩
theorem kR.pt {st : SS} {E : Nat → Nat → Prop} (h : kR st E) {i k m : Nat} (hi : i < st.ns.length) : kR (sPut st (6 + i) k m) E := by
  have hg := List.getElem?_eq_getElem hi
  unfold sPut
  rw [nN_at hg]
  exact h.put (n' := (st.ns[i].kd, st.ns[i].nm, st.ns[i].dt, st.ns[i].ct, pSet st.ns[i].ps k m)) hg rfl pSet_len
theorem kT.cnt {xs : List JR} {st : SS} (h : kT xs st) {i ct : Nat} (hi : i < st.ns.length) : kT xs (sCnt st (6 + i) ct) := by
  have hg := List.getElem?_eq_getElem hi
  unfold sCnt
  rw [nN_at hg]
  exact h.put hg rfl (fun k q hq => ⟨q, hq, rfl⟩)
theorem kR.cnt {st : SS} {E : Nat → Nat → Prop} (h : kR st E) {i ct : Nat} (hi : i < st.ns.length) : kR (sCnt st (6 + i) ct) E := by
  have hg := List.getElem?_eq_getElem hi
  unfold sCnt
  rw [nN_at hg]
  exact h.put (n' := (st.ns[i].kd, st.ns[i].nm, st.ns[i].dt, ct, st.ns[i].ps)) hg rfl rfl
theorem kT.det {xs : List JR} {st : SS} (h : kT xs st) {i : Nat} {x : Int} (hi : i < st.ns.length) : kT xs (sDet st (6 + i) x) := by
  have hg := List.getElem?_eq_getElem hi
  unfold sDet
  rw [nN_at hg]
  exact h.put hg rfl (fun k q hq => ⟨q, hq, rfl⟩)
theorem kR.det {st : SS} {E : Nat → Nat → Prop} (h : kR st E) {i : Nat} {x : Int} (hi : i < st.ns.length) : kR (sDet st (6 + i) x) E := by
  have hg := List.getElem?_eq_getElem hi
  unfold sDet
  rw [nN_at hg]
  exact h.put (n' := (st.ns[i].kd, st.ns[i].nm, x, st.ns[i].ct, st.ns[i].ps)) hg rfl rfl
/-- a part of a node that is no record -/
theorem kR.addX {st : SS} {E : Nat → Nat → Prop} (h : kR st E) {i : Nat} (hi : i < st.ns.length) (hx : kX st i) {nm : List Int32} {nd df : Option Nat} : kR (sAdd st (6 + i) nm nd df) E := by
  have hg := List.getElem?_eq_getElem hi
  have hne := hx _ hg
  unfold sAdd
  rw [nN_at hg]
  intro j k m hm h11 hkl hE
  have hm2 : (nPut st.ns (6 + i) _)[j]? = some m := hm
  by_cases c : j = i
  · subst c
    rw [nPut_at hg] at hm2
    cases hm2
    exact absurd h11 hne
  · rw [nPut_ne c] at hm2
    exact h j k m hm2 h11 hkl hE
def sTx (xs : List JR) (L : Nat → Bool → SS → Except (Nat × Nat) (Nat × SS)) : Prop := ∀ (v : Nat) (br : Bool) (st st1 : SS) (n : Nat) (E : Nat → Nat → Prop), v < xs.length → kT xs st → kR st E → L v br st = .ok (n, st1) → kT xs st1 ∧ kR st1 E ∧ lW xs st1.lt ≤ lW xs st.lt + dW xs v
theorem sBrn_t {xs : List JR} {L : Nat → Bool → SS → Except (Nat × Nat) (Nat × SS)} (hX : sLx L) (hL : sTx xs L) {i : Nat} {E : Nat → Nat → Prop} : ∀ (l : List Nat) (st st1 : SS), (∀ b ∈ l, b < xs.length) → i < st.ns.length → kX st i → kT xs st → kR st E → sBrn xs L (6 + i) l st = .ok st1 → kT xs st1 ∧ kR st1 E ∧ lW xs st1.lt ≤ lW xs st.lt + lSum (dW xs) l := by
  intro l
  induction l with
  | nil => intro st st1 _ _ _ hT hR h; cases h; exact ⟨hT, hR, Nat.le_refl _⟩
  | cons b l ih =>
    intro st st1 hb hi hx hT hR h
    unfold sBrn at h
    split at h
    · exact nomatch h
    · rename_i n st2 h2
      split at h
      · exact nomatch h
      · obtain ⟨⟨hl, x2, -⟩, -⟩ := hX _ _ _ _ _ h2
        have hi2 : i < st2.ns.length := by omega
        have hx2 : kX st2 i := fun m hm => hx m ((x2 i hi).symm.trans hm)
        obtain ⟨t1, t2, t3⟩ := hL _ _ _ _ _ E (hb b List.mem_cons_self) hT hR h2
        obtain ⟨u1, u2, u3⟩ := ih _ _ (fun b' hb' => hb b' (List.mem_cons_of_mem _ hb')) (by rw [sAdd_len]; exact hi2) (hx2.add hi2) (t1.add hi2) (t2.addX hi2 hx2) h
        refine ⟨u1, u2, ?_⟩
        have u4 : lW xs st1.lt ≤ lW xs st2.lt + lSum (dW xs) l := u3
        show _ ≤ _ + (dW xs b + lSum (dW xs) l)
        omega
theorem sSym_t {xs : List JR} {i : Nat} {E : Nat → Nat → Prop} : ∀ (l : List Nat) (st st1 : SS), i < st.ns.length → kX st i → kT xs st → kR st E → sSym xs (6 + i) l st = .ok st1 → kT xs st1 ∧ kR st1 E ∧ st1.lt = st.lt := by
  intro l
  induction l with
  | nil => intro st st1 _ _ hT hR h; cases h; exact ⟨hT, hR, rfl⟩
  | cons b l ih =>
    intro st st1 hi hx hT hR h
    unfold sSym at h
    split at h
    · obtain ⟨u1, u2, u3⟩ := ih _ _ (by rw [sAdd_len]; exact hi) (hx.add hi) (hT.add hi) (hR.addX hi hx) h
      exact ⟨u1, u2, u3⟩
    · exact nomatch h
theorem sFld_t {xs : List JR} (hw : jWf xs) {L : Nat → Bool → SS → Except (Nat × Nat) (Nat × SS)} (hX : sLx L) (hL : sTx xs L) {i f : Nat} {st st1 : SS} {E : Nat → Nat → Prop} {n : SN} (hf : f < xs.length) (hi : st.ns[i]? = some n) (hk : n.kd = 11) (hT : kT xs st) (hR : kR st E) (h : sFld xs L (6 + i) f st = .ok st1) : kT xs st1 ∧ kR st1 E ∧ lW xs st1.lt ≤ lW xs st.lt + dW xs f ∧ ∃ n1 : SN, st1.ns[i]? = some n1 ∧ n1.kd = 11 := by
  unfold sFld at h
  split at h
  · split at h
    · exact nomatch h
    · split at h
      · split at h
        · split at h
          · exact nomatch h
          · rename_i tp htp
            split at h
            · exact nomatch h
            · rename_i m st2 h2
              have hil := (List.getElem?_eq_some_iff.mp hi).1
              obtain ⟨-, -, htl⟩ := xMem_mem hw hf htp
              have one := xMem_one hw hf htp
              have htd : ∀ d9 : Nat, xMem xs f (iw [100, 101, 102, 97, 117, 108, 116]) = some d9 → d9 < xs.length ∧ dW xs tp + dV xs d9 ≤ dW xs f := fun d9 hd9 => by
                have two := xMem_two hw hf htp hd9 (by decide)
                refine ⟨(xMem_mem hw hf hd9).2.2, ?_⟩
                unfold dV dW
                omega
              generalize xMem xs f (iw [100, 101, 102, 97, 117, 108, 116]) = df at h h2 htd
              generalize hws : (xx xs _).ws = ws at h h2
              rw [nN_at hi] at h
              cases h
              have hT2 : kT xs (sAdd st (6 + i) ws none df) := hT.add hil
              have e3 : (sAdd st (6 + i) ws none df).ns[i]? = some (n.kd, n.nm, n.dt, n.ct, n.ps ++ [(ws, none, df, st.kc)]) := by
                unfold sAdd
                rw [nN_at hi]
                exact nPut_at hi
              have hR2 : kR (sAdd st (6 + i) ws none df) (fun a b => E a b ∨ (a = i ∧ b = n.ps.length)) := by
                intro j k m9 hm h11 hkl hE
                unfold sAdd at hm
                rw [nN_at hi] at hm
                have hm2 : (nPut st.ns (6 + i) (n.kd, n.nm, n.dt, n.ct, n.ps ++ [(ws, none, df, st.kc)]))[j]? = some m9 := hm
                by_cases c : j = i
                · subst c
                  rw [nPut_at hi] at hm2
                  cases hm2
                  have hkl2 : k < (n.ps ++ [(ws, none, df, st.kc)]).length := hkl
                  rw [List.length_append, List.length_singleton] at hkl2
                  exact hR j k n hi hk (by
                    have : ¬ k = n.ps.length := fun e => hE (Or.inr ⟨rfl, e⟩)
                    omega) (fun e => hE (Or.inl e))
                · rw [nPut_ne c] at hm2
                  exact hR j k m9 hm2 h11 hkl (fun e => hE (Or.inl e))
              have hil3 := (List.getElem?_eq_some_iff.mp e3).1
              obtain ⟨⟨x1, x2, -⟩, -, -⟩ := hX _ _ _ _ _ h2
              obtain ⟨t1, t2, t3⟩ := hL _ _ _ _ _ _ htl hT2 hR2 h2
              have hi2 := (x2 i hil3).trans e3
              have hil2 := (List.getElem?_eq_some_iff.mp hi2).1
              have t4 := t1.pt (k := n.ps.length) (m := m) hil2
              have t5 := t2.pt (k := n.ps.length) (m := m) hil2
              have e5 : (sPut st2 (6 + i) n.ps.length m).ns[i]? = some (n.kd, n.nm, n.dt, n.ct, n.ps ++ [(ws, some m, df, st.kc)]) := by
                unfold sPut
                rw [nN_at hi2]
                show (nPut st2.ns (6 + i) (n.kd, n.nm, n.dt, n.ct, pSet (n.ps ++ [(ws, none, df, st.kc)]) n.ps.length m))[i]? = _
                rw [pSet_last]
                exact nPut_at hi2
              have hget : (n.ps ++ [(ws, some m, df, st.kc)])[n.ps.length]? = some (ws, some m, df, st.kc) := by
                rw [List.getElem?_append_right (Nat.le_refl _), Nat.sub_self]
                rfl
              refine ⟨fun z hz => ?_, fun j k m9 hm h11 hkl hE => ?_, ?_, _, e5, hk⟩
              · have hz2 : z ∈ st2.lt ++ [(6 + i, n.ps.length, df)] := hz
                rcases List.mem_append.mp hz2 with c | c
                · exact t4 z c
                · rw [List.mem_singleton] at c
                  subst c
                  exact ⟨i, _, _, rfl, e5, hk, hget, rfl, fun v hv => (htd v hv).1⟩
              · by_cases c : j = i ∧ k = n.ps.length
                · exact ⟨(6 + i, n.ps.length, df), List.mem_append_right _ (List.mem_singleton.mpr rfl), by rw [c.1], c.2.symm⟩
                · obtain ⟨z, z1, z2⟩ := t5 j k m9 hm h11 hkl (fun e => e.elim hE c)
                  exact ⟨z, List.mem_append_left _ z1, z2⟩
              · show lW xs (st2.lt ++ [(6 + i, n.ps.length, df)]) ≤ _
                rw [lW_app]
                have t6 : lW xs st2.lt ≤ lW xs st.lt + dW xs tp := t3
                cases df with
                | none =>
                  have : dW xs tp ≤ dW xs f := by unfold dW; omega
                  show lW xs st2.lt + (0 + 0) ≤ _
                  omega
                | some d9 =>
                  have := (htd d9 rfl).2
                  show lW xs st2.lt + (dV xs d9 + 0) ≤ _
                  omega
        · exact nomatch h
      · exact nomatch h
  · exact nomatch h
theorem sFds_t {xs : List JR} (hw : jWf xs) {L : Nat → Bool → SS → Except (Nat × Nat) (Nat × SS)} (hX : sLx L) (hL : sTx xs L) {i : Nat} {E : Nat → Nat → Prop} : ∀ (l : List Nat) (st st1 : SS) (n : SN), (∀ b ∈ l, b < xs.length) → st.ns[i]? = some n → n.kd = 11 → kT xs st → kR st E → sFds xs L (6 + i) l st = .ok st1 → kT xs st1 ∧ kR st1 E ∧ lW xs st1.lt ≤ lW xs st.lt + lSum (dW xs) l := by
  intro l
  induction l with
  | nil => intro st st1 n _ _ _ hT hR h; cases h; exact ⟨hT, hR, Nat.le_refl _⟩
  | cons b l ih =>
    intro st st1 n hb hi hk hT hR h
    unfold sFds at h
    split at h
    · exact nomatch h
    · rename_i st2 h2
      obtain ⟨t1, t2, t3, n1, t4, t5⟩ := sFld_t hw hX hL (hb b List.mem_cons_self) hi hk hT hR h2
      obtain ⟨u1, u2, u3⟩ := ih _ _ n1 (fun b' hb' => hb b' (List.mem_cons_of_mem _ hb')) t4 t5 t1 t2 h
      refine ⟨u1, u2, ?_⟩
      show _ ≤ _ + (dW xs b + lSum (dW xs) l)
      omega
