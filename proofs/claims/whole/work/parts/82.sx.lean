/-! ===== what a look leaves as it was ===== -/
/-- nodes ahead stay; but perhaps that at i0 -/
def sE (i0 : Nat) (st st1 : SS) : Prop := st.ns.length ≤ st1.ns.length ∧ (∀ i : Nat, i < st.ns.length → ¬ i = i0 → st1.ns[i]? = st.ns[i]?) ∧ st.lk ≤ st1.lk ∧ st1.lt.length + st.lk ≤ st.lt.length + st1.lk
def sX (st st1 : SS) : Prop := st.ns.length ≤ st1.ns.length ∧ (∀ i : Nat, i < st.ns.length → st1.ns[i]? = st.ns[i]?) ∧ st.lk ≤ st1.lk ∧ st1.lt.length + st.lk ≤ st.lt.length + st1.lk
theorem sX.rf {st : SS} : sX st st := ⟨Nat.le_refl _, fun _ _ => rfl, Nat.le_refl _, Nat.le_refl _⟩
theorem sE.rf {i0 : Nat} {st : SS} : sE i0 st st := ⟨Nat.le_refl _, fun _ _ _ => rfl, Nat.le_refl _, Nat.le_refl _⟩
theorem sX.tr {st st1 st2 : SS} (h1 : sX st st1) (h2 : sX st1 st2) : sX st st2 := ⟨Nat.le_trans h1.1 h2.1, fun i hi => (h2.2.1 i (Nat.lt_of_lt_of_le hi h1.1)).trans (h1.2.1 i hi), Nat.le_trans h1.2.2.1 h2.2.2.1, by have := h1.2.2.2; have := h2.2.2.2; omega⟩
theorem sE.tr {i0 : Nat} {st st1 st2 : SS} (h1 : sE i0 st st1) (h2 : sE i0 st1 st2) : sE i0 st st2 := ⟨Nat.le_trans h1.1 h2.1, fun i hi hn => (h2.2.1 i (Nat.lt_of_lt_of_le hi h1.1) hn).trans (h1.2.1 i hi hn), Nat.le_trans h1.2.2.1 h2.2.2.1, by have := h1.2.2.2; have := h2.2.2.2; omega⟩
theorem sX.e {i0 : Nat} {st st1 : SS} (h : sX st st1) : sE i0 st st1 := ⟨h.1, fun i hi _ => h.2.1 i hi, h.2.2⟩
theorem sE.x {st st1 : SS} (h : sE st.ns.length st st1) : sX st st1 := ⟨h.1, fun i hi => h.2.1 i hi (by omega), h.2.2⟩
theorem sE_set {i0 : Nat} {st : SS} {n : SN} {kc : Nat} : sE i0 st (st.lk, kc, nPut st.ns (6 + i0) n, st.lt) := by
  unfold nPut
  rw [show 6 + i0 - 6 = i0 by omega]
  exact ⟨by show _ ≤ (st.ns.set i0 n).length; rw [List.length_set]; exact Nat.le_refl _, fun i hi hn => List.getElem?_set_ne (fun e => hn e.symm), Nat.le_refl _, Nat.le_refl _⟩
theorem sX_new {st : SS} {kd ct : Nat} {nm : Option (List Int32 × Nat)} : sX st (sNew st kd nm ct) := by
  refine ⟨?_, fun i hi => ?_, Nat.le_refl _, Nat.le_refl _⟩
  · show _ ≤ (st.ns ++ [_]).length
    rw [List.length_append]
    omega
  · show (st.ns ++ [_])[i]? = _
    rw [List.getElem?_append_left hi]
theorem sNew_len {st : SS} {kd ct : Nat} {nm : Option (List Int32 × Nat)} : (sNew st kd nm ct).ns.length = st.ns.length + 1 := by
  show (st.ns ++ [_]).length = _
  rw [List.length_append]
  rfl
theorem sNew_at {st : SS} {kd ct : Nat} {nm : Option (List Int32 × Nat)} : (sNew st kd nm ct).ns[st.ns.length]? = some (kd, nm, -1, ct, []) := by
  show (st.ns ++ [_])[st.ns.length]? = _
  rw [List.getElem?_append_right (Nat.le_refl _), Nat.sub_self]
  rfl
theorem sDefL_lt (w : List Int32) : ∀ (r : List SN) (s n : Nat), sDefL w r s = some n → n < s + r.length := by
  intro r
  induction r with
  | nil => intro s n h; exact nomatch h
  | cons a r ih =>
    intro s n h
    unfold sDefL at h
    rw [List.length_cons]
    split at h
    · cases h; omega
    · have := ih _ _ h; omega
theorem sSix_lt {w : List Int32} {n : Nat} (h : sSix w = some n) : n < 6 := by
  unfold sSix at h
  repeat' split at h
  all_goals first | (cases h; decide) | exact nomatch h
theorem sKnw_ok {xs : List JR} {st st1 : SS} {v n : Nat} (h : sKnw xs st v = .ok (n, st1)) : st1 = st ∧ n < 6 + st.ns.length := by
  unfold sKnw at h
  split at h
  · rename_i m hm
    cases h
    have := sSix_lt hm
    exact ⟨rfl, by omega⟩
  · split at h
    · rename_i m hm
      cases h
      exact ⟨rfl, sDefL_lt _ _ _ _ hm⟩
    · exact nomatch h
theorem sDfn_ok {xs : List JR} {st st1 : SS} {v kd s : Nat} (h : sDfn xs st v kd = .ok (s, st1)) : ∃ n : Nat, xMem xs v (iw [110, 97, 109, 101]) = some n ∧ (xx xs n).kd = 3 ∧ s = sNum st ∧ st1 = sNew st kd (some ((xx xs n).ws, n)) 0 := by
  unfold sDfn at h
  split at h
  · exact nomatch h
  · rename_i n hn
    split at h
    · rename_i hk
      split at h
      · cases h
        exact ⟨n, hn, hk, rfl, rfl⟩
      · exact nomatch h
    · exact nomatch h
theorem sSym_ok {xs : List JR} {i0 : Nat} : ∀ (l : List Nat) (st st1 : SS), sSym xs (6 + i0) l st = .ok st1 → sE i0 st st1 := by
  intro l
  induction l with
  | nil => intro st st1 h; cases h; exact sE.rf
  | cons b l ih =>
    intro st st1 h
    unfold sSym at h
    split at h
    · exact (sE_set (i0 := i0)).tr (ih _ _ h)
    · exact nomatch h
theorem sFbk_ok {xs : List JR} {i0 v s : Nat} {st st1 : SS} (h : sFbk xs v (6 + i0) st = .ok (s, st1)) : s = 6 + i0 ∧ sE i0 st st1 := by
  unfold sFbk at h
  split at h
  · cases h; exact ⟨rfl, sE.rf⟩
  · split at h
    · split at h
      · cases h; exact ⟨rfl, sE_set (i0 := i0)⟩
      · exact nomatch h
    · exact nomatch h
theorem sEnm_ok {xs : List JR} {i0 v s : Nat} {st st1 : SS} (h : sEnm xs v (6 + i0) st = .ok (s, st1)) : s = 6 + i0 ∧ sE i0 st st1 := by
  unfold sEnm at h
  split at h
  · exact nomatch h
  · split at h
    · split at h
      · exact nomatch h
      · rename_i st2 h2
        obtain ⟨g1, g2⟩ := sFbk_ok h
        exact ⟨g1, ((sE_set (i0 := i0)).tr (sSym_ok _ _ _ h2)).tr g2⟩
    · exact nomatch h
theorem sFix_ok {xs : List JR} {i0 v s : Nat} {st st1 : SS} (h : sFix xs v (6 + i0) st = .ok (s, st1)) : s = 6 + i0 ∧ sE i0 st st1 := by
  unfold sFix at h
  split at h
  · exact nomatch h
  · split at h
    · cases h; exact ⟨rfl, sE_set (i0 := i0)⟩
    · exact nomatch h
/-- a look leaves the nodes ahead, and answers a node -/
def sLx (L : Nat → Bool → SS → Except (Nat × Nat) (Nat × SS)) : Prop := ∀ (v : Nat) (br : Bool) (st st1 : SS) (n : Nat), L v br st = .ok (n, st1) → sX st st1 ∧ n < 6 + st1.ns.length ∧ st1.lt.length + st.lk + 1 ≤ st.lt.length + st1.lk
theorem sBrn_ok {xs : List JR} {L : Nat → Bool → SS → Except (Nat × Nat) (Nat × SS)} (hL : sLx L) {i0 : Nat} : ∀ (l : List Nat) (st st1 : SS), sBrn xs L (6 + i0) l st = .ok st1 → sE i0 st st1 := by
  intro l
  induction l with
  | nil => intro st st1 h; cases h; exact sE.rf
  | cons b l ih =>
    intro st st1 h
    unfold sBrn at h
    split at h
    · exact nomatch h
    · rename_i n st2 h2
      split at h
      · exact nomatch h
      · exact ((hL _ _ _ _ _ h2).1.e.tr (sE_set (i0 := i0))).tr (ih _ _ h)
theorem sFld_ok {xs : List JR} {L : Nat → Bool → SS → Except (Nat × Nat) (Nat × SS)} (hL : sLx L) {i0 f : Nat} {st st1 : SS} (h : sFld xs L (6 + i0) f st = .ok st1) : sE i0 st st1 := by
  unfold sFld at h
  split at h
  · split at h
    · exact nomatch h
    · split at h
      · split at h
        · split at h
          · exact nomatch h
          · split at h
            · exact nomatch h
            · rename_i m st2 h2
              cases h
              obtain ⟨g1, g2, g3⟩ := hL _ _ _ _ _ h2
              obtain ⟨u1, u2, u3, u4⟩ := ((sE_set (i0 := i0)).tr g1.e).tr (sE_set (i0 := i0) (st := st2) (kc := st2.kc))
              refine ⟨u1, u2, u3, ?_⟩
              show (st2.lt ++ [_]).length + st.lk ≤ st.lt.length + st2.lk
              rw [List.length_append]
              exact (Nat.add_right_comm _ _ _ ▸ g3)
        · exact nomatch h
      · exact nomatch h
  · exact nomatch h
theorem sFds_ok {xs : List JR} {L : Nat → Bool → SS → Except (Nat × Nat) (Nat × SS)} (hL : sLx L) {i0 : Nat} : ∀ (l : List Nat) (st st1 : SS), sFds xs L (6 + i0) l st = .ok st1 → sE i0 st st1 := by
  intro l
  induction l with
  | nil => intro st st1 h; cases h; exact sE.rf
  | cons b l ih =>
    intro st st1 h
    unfold sFds at h
    split at h
    · exact nomatch h
    · rename_i st2 h2
      exact (sFld_ok hL h2).tr (ih _ _ h)
theorem sRec_ok {xs : List JR} {L : Nat → Bool → SS → Except (Nat × Nat) (Nat × SS)} (hL : sLx L) {i0 v s : Nat} {st st1 : SS} (h : sRec xs L v (6 + i0) st = .ok (s, st1)) : s = 6 + i0 ∧ sE i0 st st1 := by
  unfold sRec at h
  split at h
  · exact nomatch h
  · split at h
    · split at h
      · exact nomatch h
      · rename_i st2 h2
        cases h
        exact ⟨rfl, (sE_set (i0 := i0)).tr (sFds_ok hL _ _ _ h2)⟩
    · exact nomatch h
theorem sNew_e {st st1 : SS} {kd ct : Nat} {nm : Option (List Int32 × Nat)} (h : sE st.ns.length (sNew st kd nm ct) st1) : sX st st1 ∧ 6 + st.ns.length < 6 + st1.ns.length := by
  have h1 := h.1
  rw [sNew_len] at h1
  exact ⟨sE.x ((sX_new (kd := kd) (nm := nm) (ct := ct)).e.tr h), by omega⟩
theorem sUni_ok {xs : List JR} {L : Nat → Bool → SS → Except (Nat × Nat) (Nat × SS)} (hL : sLx L) {v s : Nat} {st st1 : SS} (h : sUni xs L v st = .ok (s, st1)) : sX st st1 ∧ s < 6 + st1.ns.length := by
  unfold sUni at h
  split at h
  · split at h
    · exact nomatch h
    · rename_i st2 h2
      cases h
      exact sNew_e (sBrn_ok hL _ _ _ h2)
  · exact nomatch h
theorem sItm_ok {xs : List JR} {L : Nat → Bool → SS → Except (Nat × Nat) (Nat × SS)} (hL : sLx L) {v kd s : Nat} {w : List Int32} {st st1 : SS} (h : sItm xs L v kd w st = .ok (s, st1)) : sX st st1 ∧ s < 6 + st1.ns.length := by
  unfold sItm at h
  split at h
  · exact nomatch h
  · split at h
    · exact nomatch h
    · rename_i n st2 h2
      cases h
      exact sNew_e (((sE_set (i0 := st.ns.length)).tr (hL _ _ _ _ _ h2).1.e).tr (sE_set (i0 := st.ns.length)))
theorem sNmd_ok {xs : List JR} {L : Nat → Bool → SS → Except (Nat × Nat) (Nat × SS)} (hL : sLx L) {v kd s : Nat} {st st1 : SS} (h : sNmd xs L v kd st = .ok (s, st1)) : sX st st1 ∧ s < 6 + st1.ns.length := by
  unfold sNmd at h
  split at h
  · exact nomatch h
  · rename_i s2 st2 h2
    obtain ⟨n, g1, g2, g3, g4⟩ := sDfn_ok h2
    subst g3
    subst g4
    have key : s = 6 + st.ns.length ∧ sE st.ns.length (sNew st kd (some ((xx xs n).ws, n)) 0) st1 := by
      split at h
      · exact sFix_ok h
      · split at h
        · exact sEnm_ok h
        · exact sRec_ok hL h
    rw [key.1]
    exact sNew_e key.2
theorem sObj_ok {xs : List JR} {L : Nat → Bool → SS → Except (Nat × Nat) (Nat × SS)} (hL : sLx L) {v s : Nat} {st st1 : SS} (h : sObj xs L v st = .ok (s, st1)) : sX st st1 ∧ s < 6 + st1.ns.length := by
  unfold sObj at h
  split at h
  · exact nomatch h
  · split at h
    · split at h
      · obtain ⟨rfl, g⟩ := sKnw_ok h
        exact ⟨sX.rf, g⟩
      · split at h
        · exact sItm_ok hL h
        · split at h
          · exact sItm_ok hL h
          · exact sNmd_ok hL h
    · exact nomatch h
theorem sLook_ok {xs : List JR} : ∀ m : Nat, sLx (sLook xs m) := by
  intro m
  induction m with
  | zero =>
    intro v br st st1 n h
    unfold sLook at h
    split at h
    · exact nomatch h
    · exact nomatch h
  | succ m ih =>
    intro v br st st1 n h
    unfold sLook at h
    have up : sX st (st.lk + 1, st.2) := ⟨Nat.le_refl _, fun _ _ => rfl, Nat.le_succ _, by show st.lt.length + st.lk ≤ st.lt.length + (st.lk + 1); omega⟩
    split at h
    · exact nomatch h
    · dsimp only at h
      split at h
      · obtain ⟨rfl, g⟩ := sKnw_ok h
        exact ⟨up, g, Nat.le_refl _⟩
      · split at h
        · split at h
          · exact nomatch h
          · obtain ⟨g1, g2⟩ := sUni_ok ih h
            exact ⟨up.tr g1, g2, g1.2.2.2⟩
        · split at h
          · obtain ⟨g1, g2⟩ := sObj_ok ih h
            exact ⟨up.tr g1, g2, g1.2.2.2⟩
          · exact nomatch h
/-! how much is among siblings -/
def wS (xs : List JR) : Nat → Nat → Nat
  | _, 0 => 0
  | i, n + 1 => jlw (xx xs i) + wS xs (i + 1) n
theorem wS_add {xs : List JR} : ∀ (a i b : Nat), wS xs i (a + b) = wS xs i a + wS xs (i + a) b := by
  intro a
  induction a with
  | zero => intro i b; simp [wS]
  | succ a ih =>
    intro i b
    rw [show a + 1 + b = (a + b) + 1 by omega]
    show jlw (xx xs i) + wS xs (i + 1) (a + b) = jlw (xx xs i) + wS xs (i + 1) a + wS xs (i + (a + 1)) b
    rw [ih (i + 1) b, show i + 1 + a = i + (a + 1) by omega]
    omega
theorem wS_sub {xs : List JR} {i j a b : Nat} (h1 : i ≤ j) (h2 : j + b ≤ i + a) : wS xs j b ≤ wS xs i a := by
  have e1 : a = (j - i) + (b + (i + a - (j + b))) := by omega
  rw [e1, wS_add, wS_add, show i + (j - i) = j by omega]
  omega
theorem wS_two {xs : List JR} {i j k a b n : Nat} (h1 : i ≤ j) (h2 : j + a ≤ k) (h3 : k + b ≤ i + n) : wS xs j a + wS xs k b ≤ wS xs i n := by
  have e1 : wS xs j (a + (k - (j + a) + b)) ≤ wS xs i n := wS_sub h1 (by omega)
  rw [wS_add, wS_add, show j + a + (k - (j + a)) = k by omega] at e1
  omega
theorem wS_one {xs : List JR} {i n : Nat} (h : 1 ≤ n) : jlw (xx xs i) ≤ wS xs i n := by
  cases n with
  | zero => omega
  | succ n => exact Nat.le_add_right _ _
theorem wS_all {xs : List JR} : wS xs 0 xs.length = jLw xs := by
  have gen : ∀ (ys : List JR) (i : Nat), (∀ j : Nat, j < ys.length → xx xs (i + j) = xx ys j) → wS xs i ys.length = jLw ys := by
    intro ys
    induction ys with
    | nil => intro i _; rfl
    | cons y ys ih =>
      intro i h
      rw [List.length_cons, jLw_cons]
      show jlw (xx xs i) + wS xs (i + 1) ys.length = _
      have h0 := h 0 (by simp)
      rw [ih (i + 1) (fun j hj => by have := h (j + 1) (by rw [List.length_cons]; omega); rw [show i + 1 + j = i + (j + 1) by omega, this]; rfl)]
      rw [Nat.add_zero] at h0
      rw [h0]
      rfl
  exact gen xs 0 (fun j _ => by rw [Nat.zero_add])
theorem jlw_w {x : JR} (h : x.kd = 3) : 1 + x.ws.length ≤ jlw x := by
  unfold jlw
  rw [if_pos h]
  omega
/-- siblings don't overlap -/
theorem xKid_sep {xs : List JR} {o : Bool} : ∀ {c i n : Nat}, kidsL c (xs.drop i) n o → ∀ j ∈ xKid xs c i, ∀ k ∈ xKid xs c i, ¬ j = k → j + (xx xs j).sz ≤ k ∨ k + (xx xs k).sz ≤ j := by
  intro c
  induction c with
  | zero => intro i n _ j hj; exact nomatch hj
  | succ c ih =>
    intro i n h j hj k hk hne
    obtain ⟨g1, g2, g3, g4, g5, g6⟩ := kidsL_step h
    rcases List.mem_cons.mp hj with e | e
    · rcases List.mem_cons.mp hk with e2 | e2
      · exact absurd (e.trans e2.symm) hne
      · subst e
        exact Or.inl (xKid_mem g6 k e2).1
    · rcases List.mem_cons.mp hk with e2 | e2
      · subst e2
        exact Or.inr (xKid_mem g6 j e).1
      · exact ih g6 j e k e2 hne
/-- two members of an object -/
theorem xMem_two {xs : List JR} {v j k : Nat} {w1 w2 : List Int32} (hw : jWf xs) (hv : v < xs.length) (h1 : xMem xs v w1 = some j) (h2 : xMem xs v w2 = some k) (hne : ¬ w1 = w2) : (xx xs j).sz + (xx xs k).sz + 1 ≤ (xx xs v).sz ∧ wS xs j (xx xs j).sz + wS xs k (xx xs k).sz ≤ wS xs v (xx xs v).sz := by
  obtain ⟨m1, e1⟩ := xFind_mem h1
  obtain ⟨m2, e2⟩ := xFind_mem h2
  have hjk : ¬ j = k := fun e => by
    rw [e, e2] at e1
    exact hne (Option.some.inj e1).symm
  obtain ⟨a1, a2, a3, a4⟩ := xKids_mem hw hv m1
  obtain ⟨b1, b2, b3, -⟩ := xKids_mem hw hv m2
  obtain ⟨-, -, g3, -, -, g6, -⟩ := jWf_at hw hv
  rcases xKid_sep (g6 a4) j m1 k m2 hjk with c | c
  · exact ⟨by omega, wS_two (by omega) c b2⟩
  · have := wS_two (xs := xs) (i := v) (n := (xx xs v).sz) (by omega) c a2
    exact ⟨by omega, by omega⟩
theorem xMem_one {xs : List JR} {v j : Nat} {w : List Int32} (hw : jWf xs) (hv : v < xs.length) (h : xMem xs v w = some j) : (xx xs j).sz + 1 ≤ (xx xs v).sz ∧ wS xs j (xx xs j).sz ≤ wS xs v (xx xs v).sz := by
  obtain ⟨a, b, c⟩ := xMem_mem hw hv h
  exact ⟨by omega, wS_sub (by omega) b⟩
