/-! ===== how deep the values of a text lie in one another ===== -/
def hKz (P : JR → List JR → Prop) : Nat → List JR → Prop
  | 0, _ => True
  | c + 1, l => ∃ (x : JR) (r : List JR), l = x :: r ∧ P x r ∧ hKz P c (l.drop x.sz)
/-- c siblings stand ahead, none m brackets deep -/
def hK : Nat → Nat → List JR → Prop
  | 0 => hKz (fun x _ => x.len = 0)
  | m + 1 => hKz (fun x r => hK m x.len r)
theorem hKz.app {P : JR → List JR → Prop} {ys : List JR} (hP : ∀ x r, P x r → P x (r ++ ys)) : ∀ {c : Nat} {l : List JR}, hKz P c l → hKz P c (l ++ ys) := by
  intro c
  induction c with
  | zero => intro l _; trivial
  | succ c ih =>
    intro l h
    obtain ⟨x, r, rfl, h1, h2⟩ := h
    refine ⟨x, r ++ ys, rfl, hP x r h1, ?_⟩
    cases c with
    | zero => trivial
    | succ c =>
      have h3 := ih h2
      obtain ⟨y, s, e, -, -⟩ := h2
      have : x.sz < (x :: r).length := by
        refine Nat.lt_of_not_le (fun hc => ?_)
        rw [List.drop_of_length_le hc] at e
        exact nomatch e
      rw [List.drop_append_of_le_length (Nat.le_of_lt this)]
      exact h3
theorem hK.app {ys : List JR} : ∀ {m c : Nat} {l : List JR}, hK m c l → hK m c (l ++ ys) := by
  intro m
  induction m with
  | zero => intro c l h; exact hKz.app (fun _ _ hp => hp) h
  | succ m ih => intro c l h; exact hKz.app (fun x r hp => ih hp) h
theorem hKz.mono {P P2 : JR → List JR → Prop} (hP : ∀ x r, P x r → P2 x r) : ∀ {c : Nat} {l : List JR}, hKz P c l → hKz P2 c l := by
  intro c
  induction c with
  | zero => intro l _; trivial
  | succ c ih =>
    intro l h
    obtain ⟨x, r, rfl, h1, h2⟩ := h
    exact ⟨x, r, rfl, hP x r h1, ih h2⟩
theorem hK0 {m : Nat} {l : List JR} : hK m 0 l := by
  cases m <;> trivial
theorem hK.up : ∀ {m c : Nat} {l : List JR}, hK m c l → hK (m + 1) c l := by
  intro m
  induction m with
  | zero =>
    intro c l h
    exact hKz.mono (fun x r hp => by
      show hK 0 x.len r
      rw [show x.len = 0 from hp]
      exact hK0) h
  | succ m ih => intro c l h; exact hKz.mono (fun x r hp => ih hp) h
theorem hK.le {m k c : Nat} {l : List JR} (h : hK m c l) (hk : m ≤ k) : hK k c l := by
  obtain ⟨d, rfl⟩ := Nat.exists_eq_add_of_le hk
  clear hk
  induction d with
  | zero => exact h
  | succ d ih => exact ih.up
/-- one value stands ahead -/
theorem hK_one {m : Nat} {x : JR} {r : List JR} (h : hK m x.len r) : hK (m + 1) 1 (x :: r) := ⟨x, r, rfl, h, trivial⟩
theorem hK_leaf {m : Nat} {x : JR} {r : List JR} (h : x.len = 0) : hK m 1 (x :: r) := by
  cases m with
  | zero => exact ⟨x, r, rfl, h, trivial⟩
  | succ m => exact ⟨x, r, rfl, by show hK m x.len r; rw [h]; exact hK0, trivial⟩
theorem hK_hd {m : Nat} {xs : List JR} {kw : Option (List Int32)} {mo : Bool} (h : hK m 1 xs) : hK m 1 (jHd kw mo xs) := by
  cases m with
  | zero =>
    obtain ⟨x, r, rfl, h1, -⟩ := h
    exact ⟨_, r, rfl, h1, trivial⟩
  | succ m =>
    obtain ⟨x, r, rfl, h1, -⟩ := h
    exact ⟨_, r, rfl, h1, trivial⟩
theorem hK_next {m c : Nat} {x : JR} {r ys : List JR} (h : hK m 1 (x :: r)) (hs : x.sz = (x :: r).length) (hy : hK m c ys) : hK m (c + 1) (x :: r ++ ys) := by
  have hd : (x :: r ++ ys).drop x.sz = ys := by
    rw [hs, List.drop_append_of_le_length (Nat.le_refl _), List.drop_length]
    rfl
  have ha := hK.app (ys := ys) h
  cases m with
  | zero =>
    obtain ⟨x2, r2, e, h1, -⟩ := ha
    injection e with e1 e2
    subst e1 e2
    exact ⟨x, r ++ ys, rfl, h1, by rw [hd]; exact hy⟩
  | succ m =>
    obtain ⟨x2, r2, e, h1, -⟩ := ha
    injection e with e1 e2
    subst e1 e2
    exact ⟨x, r ++ ys, rfl, h1, by rw [hd]; exact hy⟩
/-- of all values -/
def hA (xs : List JR) : Prop := ∀ j : Nat, j < xs.length → hK 24 1 (xs.drop j)
theorem hA.app {xs ys : List JR} (h1 : hA xs) (h2 : hA ys) : hA (xs ++ ys) := fun j hj => by
  by_cases c : j < xs.length
  · rw [List.drop_append_of_le_length (Nat.le_of_lt c)]
    exact (h1 j c).app
  · rw [List.length_append] at hj
    rw [List.drop_append, List.drop_of_length_le (by omega), List.nil_append]
    exact h2 _ (by omega)
theorem hA.hd {xs : List JR} {kw : Option (List Int32)} {mo : Bool} (h : hA xs) : hA (jHd kw mo xs) := fun j hj => by
  cases xs with
  | nil => exact h j hj
  | cons x r =>
    cases j with
    | zero => exact hK_hd (h 0 hj)
    | succ j => exact h (j + 1) hj
theorem hA.cons {x : JR} {r : List JR} (h : hK 24 1 (x :: r)) (hr : hA r) : hA (x :: r) := fun j hj => by
  cases j with
  | zero => exact h
  | succ j => exact hr j (by rw [List.length_cons] at hj; omega)
theorem jGo_h {g : Nat → Int32} {N : Nat} (hT : jT g N) : ∀ (m : Nat) (md : Option (Bool × List (List Int32))) (dp p c q : Nat) (xs : List JR), p ≤ N → dp ≤ 24 → (md.isSome = true → dp < 24) → jGo g m md dp p = .ok (xs, c, q) → hK (24 - (if md.isSome = true then dp + 1 else dp)) c xs ∧ hA xs := by
  intro m
  induction m with
  | zero => exact fun md dp p c q xs hp _ _ h => by cases md <;> exact nomatch h
  | succ m ih =>
    intro md dp p c q xs hp hdp hds h
    cases md with
    | none =>
      show hK (24 - dp) c xs ∧ hA xs
      have leaf : ∀ (x : JR), x.len = 0 → xs = [x] → c = 1 → hK (24 - dp) c xs ∧ hA xs := fun x hx e e2 => by
        rw [e, e2]
        exact ⟨hK_leaf hx, hA.cons (hK_leaf hx) (fun j hj => absurd hj (Nat.not_lt_zero _))⟩
      unfold jGo at h
      by_cases h1 : g p = 123 ∨ g p = 91
      · rw [if_pos h1] at h
        by_cases h2 : 24 ≤ dp
        · rw [if_pos h2] at h; exact nomatch h
        · rw [if_neg h2] at h
          by_cases h3 : g (jSk g 4096 (p + 1)) = jCl (decide (g p = 123))
          · rw [if_pos h3] at h
            obtain ⟨e1, e2, -⟩ := jOk1 (α := Nat) h
            exact leaf _ rfl e1.symm e2.symm
          · rw [if_neg h3] at h
            have hlt := hT.lt (p := p) (by rcases h1 with e | e <;> rw [e] <;> decide)
            have hs := jSk_le hT 4096 (p + 1) (by omega)
            cases hi : jGo g m (some (decide (g p = 123), [])) dp (jSk g 4096 (p + 1)) with
            | error e => rw [hi] at h; exact nomatch h
            | ok r =>
              obtain ⟨ys, c9, q9⟩ := r
              rw [hi] at h
              obtain ⟨e1, e2, -⟩ := jOk1 (α := Nat) h
              obtain ⟨w1, w2⟩ := ih _ _ _ _ _ _ hs hdp (fun _ => by omega) hi
              have w3 : hK (24 - (dp + 1)) c9 ys := w1
              have w4 : hK (24 - dp) 1 ((jKd (decide (g p = 123)), p, 0, [], none, c9, ys.length + 1, false) :: ys) := by
                rw [show 24 - dp = (24 - (dp + 1)) + 1 by omega]
                exact hK_one w3
              rw [← e1, ← e2]
              exact ⟨w4, hA.cons (w4.le (by omega)) w2⟩
      · rw [if_neg h1] at h
        by_cases h2 : g p = 34
        · rw [if_pos h2] at h
          cases hs : jStr g 4097 (p + 1) with
          | error e => rw [hs] at h; exact nomatch h
          | ok r =>
            obtain ⟨ws, q9⟩ := r
            rw [hs] at h
            obtain ⟨e1, e2, -⟩ := jOk1 (α := Nat) h
            exact leaf _ rfl e1.symm e2.symm
        · rw [if_neg h2] at h
          have lf : ∀ (kd : Nat) (r : Except Nat Nat), jLeaf kd p r = .ok (xs, c, q) → hK (24 - dp) c xs ∧ hA xs := fun kd r hr => by
            obtain ⟨-, e1, e2⟩ := jLeaf_ok hr
            exact leaf _ rfl e1 e2
          by_cases h3 : g p = 116
          · rw [if_pos h3] at h; exact lf _ _ h
          · rw [if_neg h3] at h
            by_cases h4 : g p = 102
            · rw [if_pos h4] at h; exact lf _ _ h
            · rw [if_neg h4] at h
              by_cases h5 : g p = 110
              · rw [if_pos h5] at h; exact lf _ _ h
              · rw [if_neg h5] at h
                cases hn : jNum g p with
                | error e => rw [hn] at h; exact nomatch h
                | ok r =>
                  obtain ⟨q9, x9⟩ := r
                  rw [hn] at h
                  obtain ⟨e1, e2, -⟩ := jOk1 (α := Nat) h
                  exact leaf _ rfl e1.symm e2.symm
    | some ok =>
      obtain ⟨o, ks⟩ := ok
      have hd24 : dp < 24 := hds rfl
      show hK (24 - (dp + 1)) c xs ∧ hA xs
      unfold jGo at h
      split at h
      · exact nomatch h
      · rename_i kw p1 hkey
        have hk := jKey_ok hT hp hkey
        split at h
        · exact nomatch h
        · rename_i xs1 c1 p2 hv
          have hv1 := jGo_ok hT _ _ _ _ _ _ _ hk.2 hv
          obtain ⟨w1, w2⟩ := ih _ _ _ _ _ _ hk.2 (show dp + 1 ≤ 24 by omega) (fun e => absurd e (by decide)) hv
          obtain ⟨⟨x, ys, rfl, hsz, hkw, _⟩, hc1⟩ := hv1.2.2.2.2.2 rfl
          subst hc1
          have w3 : hK (24 - (dp + 1)) 1 (x :: ys) := w1
          have hs := jSk_le hT 4096 p2 hv1.2.2.1
          split at h
          · rename_i h44
            have hl := hT.lt (p := jSk g 4096 p2) (by rw [h44]; decide)
            have hs3 := jSk_le hT 4096 (jSk g 4096 p2 + 1) (by omega)
            split at h
            · exact nomatch h
            · rename_i ys1 c2 q2 hr
              obtain ⟨u1, u2⟩ := ih _ _ _ _ _ _ hs3 hdp (fun _ => hd24) hr
              have u3 : hK (24 - (dp + 1)) c2 ys1 := u1
              obtain ⟨e1, e2, -⟩ := jOk1 (α := Nat) h
              rw [← e1, ← e2]
              exact ⟨hK_next (hK_hd (kw := kw) (mo := true) w3) hsz u3, w2.hd.app u2⟩
          · split at h
            · obtain ⟨e1, e2, -⟩ := jOk1 (α := Nat) h
              rw [← e1, ← e2]
              exact ⟨hK_hd w3, w2.hd⟩
            · exact nomatch h
/-- the value v lies m brackets deep at most -/
def hv (xs : List JR) (m v : Nat) : Prop := hK m 1 (xs.drop v)
theorem hK_kid {xs : List JR} {m : Nat} : ∀ {c i : Nat}, hK m c (xs.drop i) → ∀ j ∈ xKid xs c i, hv xs m j := by
  intro c
  induction c with
  | zero => intro i _ j hj; exact nomatch hj
  | succ c ih =>
    intro i h j hj
    have key : hK m 1 (xs.drop i) ∧ hK m c (xs.drop (i + (xx xs i).sz)) := by
      have hx : ∀ {x : JR} {r : List JR}, xs.drop i = x :: r → xx xs i = x := fun e => by
        refine xx_get ?_
        have := congrArg (fun l => l[0]?) e
        simpa using this
      cases m with
      | zero =>
        obtain ⟨x, r, e, h1, h2⟩ := h
        rw [hx e]
        rw [List.drop_drop] at h2
        exact ⟨⟨x, r, e, h1, trivial⟩, h2⟩
      | succ m =>
        obtain ⟨x, r, e, h1, h2⟩ := h
        rw [hx e]
        rw [List.drop_drop] at h2
        exact ⟨⟨x, r, e, h1, trivial⟩, h2⟩
    rcases List.mem_cons.mp hj with e | e
    · rw [e]; exact key.1
    · exact ih key.2 j e
theorem hv_kid {xs : List JR} {m v : Nat} (h : hv xs (m + 1) v) : ∀ j ∈ xKids xs v, hv xs m j := by
  obtain ⟨x, r, e, h1, -⟩ := h
  have hx : xx xs v = x := by
    refine xx_get ?_
    have := congrArg (fun l => l[0]?) e
    simpa using this
  have hr : xs.drop (v + 1) = r := by
    rw [← List.drop_drop, e]
    rfl
  refine hK_kid ?_
  rw [hr, hx]
  exact h1
theorem hv_leaf {xs : List JR} {v : Nat} (h : hv xs 0 v) : (xx xs v).len = 0 := by
  obtain ⟨x, r, e, h1, -⟩ := h
  have hx : xx xs v = x := by
    refine xx_get ?_
    have := congrArg (fun l => l[0]?) e
    simpa using this
  rw [hx]
  exact h1
