/-! ===== words in place; what stays ===== -/
theorem jApp_lo {ws : List Int32} {le : Nat → Int32} {L i : Nat} (h : i < L) : jApp le L ws i = le i := by
  induction ws generalizing le L with
  | nil => rfl
  | cons c ws ih =>
    show jApp (upd le L c) (L + 1) ws i = le i
    rw [ih (by omega), pk_un (by omega)]
theorem jApp_at {ws : List Int32} {le : Nat → Int32} {L i : Nat} (h : i < ws.length) : jApp le L ws (L + i) = ws.getD i 0 := by
  induction ws generalizing le L i with
  | nil => exact absurd h (by simp)
  | cons c ws ih =>
    show jApp (upd le L c) (L + 1) ws (L + i) = _
    cases i with
    | zero =>
      show jApp (upd le L c) (L + 1) ws L = c
      rw [jApp_lo (by omega), pk_us]
    | succ i =>
      rw [show L + (i + 1) = L + 1 + i by omega, ih (by simpa using h)]
      rfl
theorem jWord_lo {le : Nat → Int32} {L i : Nat} {ws : List Int32} (h : i < L) : jWord le L ws i = le i := by
  unfold jWord
  rw [pk_un (by omega), jApp_lo (by omega), pk_un (by omega)]
theorem jWord_is {le : Nat → Int32} {L lu : Nat} {ws : List Int32} (h : L + 1 + ws.length ≤ lu) : jIsW (jWord le L ws) lu (nI L) ws := by
  refine ⟨L, rfl, h, pk_us, fun i hi => ?_⟩
  unfold jWord
  rw [pk_un (by omega), jApp_at hi]
theorem jIsW.mono {le le' : Nat → Int32} {lu lu' : Nat} {x : Int32} {ws : List Int32} (h : jIsW le lu x ws) (h1 : lu ≤ lu') (h2 : ∀ i : Nat, i < lu → le' i = le i) : jIsW le' lu' x ws := by
  obtain ⟨L, e, b, c, f⟩ := h
  exact ⟨L, e, by omega, by rw [h2 L (by omega)]; exact c, fun i hi => by rw [h2 _ (by omega)]; exact f i hi⟩
/-- the rows say the same at j -/
def jSame (k b nx fi pa wo ke : Nat → Int32) (nu : Nat → Int64) (k' b' nx' fi' pa' wo' ke' : Nat → Int32) (nu' : Nat → Int64) (j : Nat) : Prop :=
  k' j = k j ∧ b' j = b j ∧ nx' j = nx j ∧ fi' j = fi j ∧ pa' j = pa j ∧ wo' j = wo j ∧ ke' j = ke j ∧ nu' j = nu j
theorem jRec.mono {k b nx fi pa wo ke k' b' nx' fi' pa' wo' ke' le le' : Nat → Int32} {nu nu' : Nat → Int64} {lu lu' j : Nat} {x : JR} (h : jRec k b nx fi pa wo ke nu le lu x j) (hs : jSame k b nx fi pa wo ke nu k' b' nx' fi' pa' wo' ke' nu' j) (h1 : lu ≤ lu') (h2 : ∀ i : Nat, i < lu → le' i = le i) : jRec k' b' nx' fi' pa' wo' ke' nu' le' lu' x j := by
  obtain ⟨a1, a2, a3, a4, a5, a6, a7, a8⟩ := h
  obtain ⟨e1, e2, e3, e4, e5, e6, e7, e8⟩ := hs
  exact ⟨e1.trans a1, e2.trans a2, e5.trans a3, e4.trans a4, e3.trans a5, fun c => e8.trans (a6 c), fun c => e6 ▸ (a7 c).mono h1 h2, fun ws c => e7 ▸ (a8 ws c).mono h1 h2⟩
theorem jRep.mono {k b nx fi pa wo ke k' b' nx' fi' pa' wo' ke' le le' : Nat → Int32} {nu nu' : Nat → Int64} {lu lu' V : Nat} {xs : List JR} (h : jRep k b nx fi pa wo ke nu le lu xs V) (hs : ∀ j : Nat, V ≤ j → j < V + xs.length → jSame k b nx fi pa wo ke nu k' b' nx' fi' pa' wo' ke' nu' j) (h1 : lu ≤ lu') (h2 : ∀ i : Nat, i < lu → le' i = le i) : jRep k' b' nx' fi' pa' wo' ke' nu' le' lu' xs V := fun i x hx =>
  (h i x hx).mono (hs (V + i) (by omega) (by have := (List.getElem?_eq_some_iff.mp hx).1; omega)) h1 h2
theorem jRep.app {k b nx fi pa wo ke le : Nat → Int32} {nu : Nat → Int64} {lu V : Nat} {xs ys : List JR} (h1 : jRep k b nx fi pa wo ke nu le lu xs V) (h2 : jRep k b nx fi pa wo ke nu le lu ys (V + xs.length)) : jRep k b nx fi pa wo ke nu le lu (xs ++ ys) V := by
  intro i x hx
  by_cases c : i < xs.length
  · rw [List.getElem?_append_left c] at hx
    exact h1 i x hx
  · rw [List.getElem?_append_right (by omega)] at hx
    have := h2 _ x hx
    rwa [show V + xs.length + (i - xs.length) = V + i by omega] at this
theorem jRep.one {k b nx fi pa wo ke le : Nat → Int32} {nu : Nat → Int64} {lu V : Nat} {x : JR} (h : jRec k b nx fi pa wo ke nu le lu x V) : jRep k b nx fi pa wo ke nu le lu [x] V := by
  intro i y hy
  cases i with
  | zero => cases hy; exact h
  | succ i => exact nomatch hy
theorem jRep.cons {k b nx fi pa wo ke le : Nat → Int32} {nu : Nat → Int64} {lu V : Nat} {x : JR} {xs : List JR} (h : jRec k b nx fi pa wo ke nu le lu x V) (h2 : jRep k b nx fi pa wo ke nu le lu xs (V + 1)) : jRep k b nx fi pa wo ke nu le lu (x :: xs) V := (jRep.one h).app h2
theorem jRep.head {k b nx fi pa wo ke le : Nat → Int32} {nu : Nat → Int64} {lu V : Nat} {x : JR} {xs : List JR} (h : jRep k b nx fi pa wo ke nu le lu (x :: xs) V) : jRec k b nx fi pa wo ke nu le lu x V := h 0 x rfl
theorem jRep.tail {k b nx fi pa wo ke le : Nat → Int32} {nu : Nat → Int64} {lu V : Nat} {x : JR} {xs : List JR} (h : jRep k b nx fi pa wo ke nu le lu (x :: xs) V) : jRep k b nx fi pa wo ke nu le lu xs (V + 1) := fun i y hy => (show V + (i + 1) = V + 1 + i by omega) ▸ h (i + 1) y hy
/-- a value gets its key and its sibling -/
theorem jRep.hd {k b nx fi pa wo ke nx' le : Nat → Int32} {nu : Nat → Int64} {lu V : Nat} {x : JR} {xs : List JR} {kw : Option (List Int32)} {more : Bool} (h : jRep k b nx fi pa wo ke nu le lu (x :: xs) V) (hk : ∀ ws : List Int32, kw = some ws → jIsW le lu (ke V) ws) (h1 : nx' V = (if more = true then nI (V + x.sz) else -1)) (h2 : ∀ j : Nat, V < j → j < V + 1 + xs.length → nx' j = nx j) : jRep k b nx' fi pa wo ke nu le lu (jHd kw more (x :: xs)) V := by
  obtain ⟨a1, a2, a3, a4, a5, a6, a7, a8⟩ := h.head
  refine jRep.cons ⟨a1, a2, a3, a4, h1, a6, a7, hk⟩ (h.tail.mono (fun j hj hj2 => ⟨rfl, rfl, h2 j (by omega) (by omega), rfl, rfl, rfl, rfl, rfl⟩) (Nat.le_refl _) (fun _ _ => rfl))
theorem jLit_lt {g : Nat → Int32} {bs : List Int32} {m i p e : Nat} (h : jLit g bs m i p = .error e) : e < p + m := by
  induction m generalizing i p with
  | zero => exact nomatch h
  | succ m ih =>
    by_cases c : g p = (bs.getD i 0 &&& 255)
    · have := ih ((if_pos c).symm.trans h)
      omega
    · have := Except.error.inj ((if_neg c).symm.trans h)
      omega
theorem jNum_lt {g : Nat → Int32} {p e : Nat} (h : jNum g p = .error e) : e < p + 2 := by
  unfold jNum at h
  split at h
  · split at h
    · by_cases z : (jDig g (-9223372036854775808) (if g (p + 1) = 48 then 1 else 4096) (p + 1) 1 0).2.1 = 0
      · rw [if_pos z] at h
        have := Except.error.inj h
        omega
      · rw [if_neg z] at h
        exact nomatch h
    · have := Except.error.inj h
      omega
  · split at h
    · by_cases z : (jDig g (-9223372036854775807) (if g p = 48 then 1 else 4096) p 1 0).2.1 = 0
      · rw [if_pos z] at h
        have := Except.error.inj h
        omega
      · rw [if_neg z] at h
        exact nomatch h
    · have := Except.error.inj h
      omega
theorem jKey_lt {g : Nat → Int32} {N : Nat} (hN : jT g N) {o : Bool} {ks : List (List Int32)} {p e : Nat} (hp : p ≤ N) (h : jKey g o ks p = .error e) : e < N + 7 := by
  unfold jKey at h
  split at h
  · split at h
    · rename_i h34
      have hl := hN.lt (p := p) (by rw [h34]; decide)
      have hN0 := hN.1
      split at h
      · rename_i e1 hs
        have := jStr_lt hN (by omega) (by omega) hs
        have := Except.error.inj h
        omega
      · rename_i ws q hs
        have hq := jStr_ok hN hs
        split at h
        · have := Except.error.inj h
          omega
        · split at h
          · exact nomatch h
          · have := Except.error.inj h
            have := jSk_le hN 4096 q hq.2
            omega
    · have := Except.error.inj h
      omega
  · exact nomatch h
theorem jGo_lt {g : Nat → Int32} {N : Nat} (hN : jT g N) : ∀ (m : Nat) (md : Option (Bool × List (List Int32))) (dp p e : Nat), p ≤ N → jGo g m md dp p = .error e → e < N + 7 := by
  intro m
  induction m with
  | zero =>
    intro md dp p e hp h
    have h1 : (Except.error p : Except Nat (List JR × Nat × Nat)) = .error e := by cases md <;> exact h
    have := Except.error.inj h1
    omega
  | succ m ih =>
    intro md dp p e hp h
    have leaf : ∀ (kd : Nat) (bs : List Int32) (n : Nat), n < 6 → jLeaf kd p (jLit g bs n 0 p) = .error e → e < N + 7 := by
      intro kd bs n hn h
      cases hr : jLit g bs n 0 p with
      | error e1 =>
        rw [hr] at h
        have := jLit_lt hr
        have := Except.error.inj h
        omega
      | ok q => rw [hr] at h; exact nomatch h
    have hN0 := hN.1
    cases md with
    | none =>
      unfold jGo at h
      split at h
      · rename_i hop
        have hl := hN.lt (p := p) (hop.elim (fun e => by rw [e]; decide) (fun e => by rw [e]; decide))
        have hk := jSk_le hN 4096 (p + 1) (by omega)
        split at h
        · have := Except.error.inj h
          omega
        · split at h
          · exact nomatch h
          · split at h
            · rename_i e1 hgo
              have := ih _ _ _ _ hk hgo
              have := Except.error.inj h
              omega
            · exact nomatch h
      · split at h
        · rename_i h34
          have hl := hN.lt (p := p) (by rw [h34]; decide)
          split at h
          · rename_i e1 hs
            have := jStr_lt hN (by omega) (by omega) hs
            have := Except.error.inj h
            omega
          · exact nomatch h
        · split at h
          · exact leaf _ _ _ (by decide) h
          · split at h
            · exact leaf _ _ _ (by decide) h
            · split at h
              · exact leaf _ _ _ (by decide) h
              · split at h
                · rename_i e1 hnum
                  have := jNum_lt hnum
                  have := Except.error.inj h
                  omega
                · exact nomatch h
    | some ok =>
      obtain ⟨o, ks⟩ := ok
      unfold jGo at h
      split at h
      · rename_i e1 hkey
        have := jKey_lt hN hp hkey
        have := Except.error.inj h
        omega
      · rename_i kw p1 hkey
        have hk := jKey_ok hN hp hkey
        split at h
        · rename_i e1 hv
          have := ih _ _ _ _ hk.2 hv
          have := Except.error.inj h
          omega
        · rename_i xs1 c1 p2 hv
          have hv1 := jGo_ok hN _ _ _ _ _ _ _ hk.2 hv
          have hs := jSk_le hN 4096 p2 hv1.2.2.1
          split at h
          · rename_i h44
            have hl := hN.lt (p := jSk g 4096 p2) (by rw [h44]; decide)
            have hs3 := jSk_le hN 4096 (jSk g 4096 p2 + 1) (by omega)
            split at h
            · rename_i e1 hr
              have := ih _ _ _ _ hs3 hr
              have := Except.error.inj h
              omega
            · exact nomatch h
          · split at h
            · exact nomatch h
            · have := Except.error.inj h
              omega
/-! ===== a chain of members: which keys stand ahead ===== -/
/-- from the member x on: members with these keys -/
def jKeys (nx ke le : Nat → Int32) (lu : Nat) : List (List Int32) → Int32 → Prop
  | [], x => x = -1
  | ws :: r, x => ∃ j : Nat, x = nI j ∧ j < 2073 ∧ jIsW le lu (ke j) ws ∧ jKeys nx ke le lu r (nx j)
theorem cl_atN {n : Nat} {f : Nat → Int32} {i : Nat} (h : i < n) (hn : n < 2 ^ 31) : cl_at n f (nI i) = f i := by
  unfold cl_at
  rw [if_neg (nI_pos (by omega)), if_neg (nI_ge h hn), nI_clamp (by omega)]
theorem jW_iff {le : Nat → Int32} {lu : Nat} {x y : Int32} {ws vs : List Int32} (h1 : jIsW le lu x ws) (h2 : jIsW le lu y vs) (hlu : lu ≤ 4096) : cl_W 4096 le 4096 le x y ↔ ws = vs := by
  obtain ⟨A, rfl, a1, a2, a3⟩ := h1
  obtain ⟨C, rfl, c1, c2, c3⟩ := h2
  constructor
  · rintro ⟨a, c, e1, e2, b1, b2, b3, b4, b5, b6⟩
    obtain rfl := (nI_eq (by omega) (by omega)).mp e1
    obtain rfl := (nI_eq (by omega) (by omega)).mp e2
    rw [a2, c2] at b3
    have hl := (nI_eq (by omega) (by omega)).mp b3
    refine List.ext_getElem hl (fun i h1 h2 => ?_)
    have := b6 (i + 1) (by omega) (by omega) (by rw [a2]; exact nI_le (by omega) (by omega))
    rw [show A + (i + 1) = A + 1 + i by omega, show C + (i + 1) = C + 1 + i by omega, a3 i h1, c3 i h2] at this
    simpa [List.getD, h1, h2] using this
  · rintro rfl
    refine ⟨A, C, rfl, rfl, by omega, by omega, by rw [a2, c2], ?_, ?_, fun j h0 hj h3 => ?_⟩
    · rw [a2, pk_sub (by omega)]; exact nI_lt (by omega) (by omega)
    · rw [a2, pk_sub (by omega)]; exact nI_lt (by omega) (by omega)
    · rw [a2] at h3
      have h4 := (nI_leI hj (by omega)).mp h3
      obtain ⟨i, rfl⟩ : ∃ i, j = i + 1 := ⟨j - 1, by omega⟩
      rw [show A + (i + 1) = A + 1 + i by omega, show C + (i + 1) = C + 1 + i by omega, a3 i (by omega), c3 i (by omega)]
/-- a member is found just where its key stands ahead -/
theorem jMem_iff {nx ke le : Nat → Int32} {lu m : Nat} {ks : List (List Int32)} {x y : Int32} {ws : List Int32} (hk : jKeys nx ke le lu ks x) (hw : jIsW le lu y ws) (hlu : lu ≤ 4096) (hm : ks.length < m) : jMem (fun z => cl_W 4096 le 4096 le (cl_at 2073 ke z) y) nx m x = -1 ↔ ¬ ws ∈ ks := by
  induction ks generalizing x m with
  | nil =>
    obtain ⟨m, rfl⟩ : ∃ k, m = k + 1 := ⟨m - 1, by omega⟩
    rw [jMem_e hk]
    simp
  | cons vs r ih =>
    obtain ⟨m, rfl⟩ : ∃ k, m = k + 1 := ⟨m - 1, by omega⟩
    obtain ⟨j, rfl, hj, h1, h2⟩ := hk
    have hn : ¬ nI j = -1 := nI_nm1 (by omega)
    have hW : cl_W 4096 le 4096 le (cl_at 2073 ke (nI j)) y ↔ vs = ws := by
      rw [cl_atN hj (by decide)]
      exact jW_iff h1 hw hlu
    by_cases c : vs = ws
    · rw [jMem_y hn (hW.mpr c)]
      exact ⟨fun h => absurd h hn, fun h => absurd (c ▸ List.mem_cons_self) h⟩
    · rw [jMem_n hn (fun h => c (hW.mp h)), cl_atN hj (by decide), ih h2 (by simp at hm; omega), List.mem_cons]
      exact ⟨fun h h3 => h3.elim (fun e => c e.symm) h, fun h h3 => h (Or.inr h3)⟩
