/-! ===== words in place; what stays ===== -/
theorem jApp_lo {ws : List Int32} {le : Nat → Int32} {L i : Nat} (h : i < L) : jApp le L ws i = le i := by
  induction ws generalizing le L with
  | nil => rfl
  | cons c ws ih =>
    show jApp (upd le L c) (L + 1) ws i = le i
    rw [ih (by omega), pk_un (by omega)]
theorem jApp_at {ws : List Int32} {le : Nat → Int32} {L i : Nat} (h : i < ws.length) : jApp le L ws (L + i) = ws.getD i 0 := by
  induction ws generalizing le L i with
  | nil => exact absurd h (by simp)
  | cons c ws ih =>
    show jApp (upd le L c) (L + 1) ws (L + i) = _
    cases i with
    | zero =>
      show jApp (upd le L c) (L + 1) ws L = c
      rw [jApp_lo (by omega), pk_us]
    | succ i =>
      rw [show L + (i + 1) = L + 1 + i by omega, ih (by simpa using h)]
      rfl
theorem jWord_lo {le : Nat → Int32} {L i : Nat} {ws : List Int32} (h : i < L) : jWord le L ws i = le i := by
  unfold jWord
  rw [pk_un (by omega), jApp_lo (by omega), pk_un (by omega)]
theorem jWord_is {le : Nat → Int32} {L lu : Nat} {ws : List Int32} (h : L + 1 + ws.length ≤ lu) : jIsW (jWord le L ws) lu (nI L) ws := by
  refine ⟨L, rfl, h, pk_us, fun i hi => ?_⟩
  unfold jWord
  rw [pk_un (by omega), jApp_at hi]
theorem jIsW.mono {le le' : Nat → Int32} {lu lu' : Nat} {x : Int32} {ws : List Int32} (h : jIsW le lu x ws) (h1 : lu ≤ lu') (h2 : ∀ i : Nat, i < lu → le' i = le i) : jIsW le' lu' x ws := by
  obtain ⟨L, e, b, c, f⟩ := h
  exact ⟨L, e, by omega, by rw [h2 L (by omega)]; exact c, fun i hi => by rw [h2 _ (by omega)]; exact f i hi⟩
/-- the rows say the same at j -/
def jSame (k b nx fi pa wo ke : Nat → Int32) (nu : Nat → Int64) (k' b' nx' fi' pa' wo' ke' : Nat → Int32) (nu' : Nat → Int64) (j : Nat) : Prop :=
  k' j = k j ∧ b' j = b j ∧ nx' j = nx j ∧ fi' j = fi j ∧ pa' j = pa j ∧ wo' j = wo j ∧ ke' j = ke j ∧ nu' j = nu j
theorem jRec.mono {k b nx fi pa wo ke k' b' nx' fi' pa' wo' ke' le le' : Nat → Int32} {nu nu' : Nat → Int64} {lu lu' j : Nat} {x : JR} (h : jRec k b nx fi pa wo ke nu le lu x j) (hs : jSame k b nx fi pa wo ke nu k' b' nx' fi' pa' wo' ke' nu' j) (h1 : lu ≤ lu') (h2 : ∀ i : Nat, i < lu → le' i = le i) : jRec k' b' nx' fi' pa' wo' ke' nu' le' lu' x j := by
  obtain ⟨a1, a2, a3, a4, a5, a6, a7, a8⟩ := h
  obtain ⟨e1, e2, e3, e4, e5, e6, e7, e8⟩ := hs
  exact ⟨e1.trans a1, e2.trans a2, e5.trans a3, e4.trans a4, e3.trans a5, fun c => e8.trans (a6 c), fun c => e6 ▸ (a7 c).mono h1 h2, fun ws c => e7 ▸ (a8 ws c).mono h1 h2⟩
theorem jRep.mono {k b nx fi pa wo ke k' b' nx' fi' pa' wo' ke' le le' : Nat → Int32} {nu nu' : Nat → Int64} {lu lu' V : Nat} {xs : List JR} (h : jRep k b nx fi pa wo ke nu le lu xs V) (hs : ∀ j : Nat, V ≤ j → j < V + xs.length → jSame k b nx fi pa wo ke nu k' b' nx' fi' pa' wo' ke' nu' j) (h1 : lu ≤ lu') (h2 : ∀ i : Nat, i < lu → le' i = le i) : jRep k' b' nx' fi' pa' wo' ke' nu' le' lu' xs V := fun i x hx =>
  (h i x hx).mono (hs (V + i) (by omega) (by have := (List.getElem?_eq_some_iff.mp hx).1; omega)) h1 h2
theorem jRep.app {k b nx fi pa wo ke le : Nat → Int32} {nu : Nat → Int64} {lu V : Nat} {xs ys : List JR} (h1 : jRep k b nx fi pa wo ke nu le lu xs V) (h2 : jRep k b nx fi pa wo ke nu le lu ys (V + xs.length)) : jRep k b nx fi pa wo ke nu le lu (xs ++ ys) V := by
  intro i x hx
  by_cases c : i < xs.length
  · rw [List.getElem?_append_left c] at hx
    exact h1 i x hx
  · rw [List.getElem?_append_right (by omega)] at hx
    have := h2 _ x hx
    rwa [show V + xs.length + (i - xs.length) = V + i by omega] at this
theorem jRep.one {k b nx fi pa wo ke le : Nat → Int32} {nu : Nat → Int64} {lu V : Nat} {x : JR} (h : jRec k b nx fi pa wo ke nu le lu x V) : jRep k b nx fi pa wo ke nu le lu [x] V := by
  intro i y hy
  cases i with
  | zero => cases hy; exact h
  | succ i => exact nomatch hy
theorem jRep.cons {k b nx fi pa wo ke le : Nat → Int32} {nu : Nat → Int64} {lu V : Nat} {x : JR} {xs : List JR} (h : jRec k b nx fi pa wo ke nu le lu x V) (h2 : jRep k b nx fi pa wo ke nu le lu xs (V + 1)) : jRep k b nx fi pa wo ke nu le lu (x :: xs) V := (jRep.one h).app h2
theorem jRep.head {k b nx fi pa wo ke le : Nat → Int32} {nu : Nat → Int64} {lu V : Nat} {x : JR} {xs : List JR} (h : jRep k b nx fi pa wo ke nu le lu (x :: xs) V) : jRec k b nx fi pa wo ke nu le lu x V := h 0 x rfl
theorem jRep.tail {k b nx fi pa wo ke le : Nat → Int32} {nu : Nat → Int64} {lu V : Nat} {x : JR} {xs : List JR} (h : jRep k b nx fi pa wo ke nu le lu (x :: xs) V) : jRep k b nx fi pa wo ke nu le lu xs (V + 1) := fun i y hy => (show V + (i + 1) = V + 1 + i by omega) ▸ h (i + 1) y hy
/-- a value gets its key and its sibling -/
theorem jRep.hd {k b nx fi pa wo ke nx' le : Nat → Int32} {nu : Nat → Int64} {lu V : Nat} {x : JR} {xs : List JR} {kw : Option (List Int32)} {more : Bool} (h : jRep k b nx fi pa wo ke nu le lu (x :: xs) V) (hk : ∀ ws : List Int32, kw = some ws → jIsW le lu (ke V) ws) (h1 : nx' V = (if more = true then nI (V + x.sz) else -1)) (h2 : ∀ j : Nat, V < j → j < V + 1 + xs.length → nx' j = nx j) : jRep k b nx' fi pa wo ke nu le lu (jHd kw more (x :: xs)) V := by
  obtain ⟨a1, a2, a3, a4, a5, a6, a7, a8⟩ := h.head
  refine jRep.cons ⟨a1, a2, a3, a4, h1, a6, a7, hk⟩ (h.tail.mono (fun j hj hj2 => ⟨rfl, rfl, h2 j (by omega) (by omega), rfl, rfl, rfl, rfl, rfl⟩) (Nat.le_refl _) (fun _ _ => rfl))
