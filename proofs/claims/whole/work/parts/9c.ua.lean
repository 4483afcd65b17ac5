/-! ===== a text as a schema with its defaults ===== -/
def sPtN (ns : List SN) (z : Nat × Nat × Option Nat) : Nat := sPn ((nN ns z.1).ps[z.2.1]?)
/-- the defaults of the done fields: the first that does not fit -/
def sFil (xs : List JR) (ns : List SN) : List (Nat × Nat × Option Nat) → Option Nat
  | [] => none
  | z :: r => match z.2.2 with
    | none => sFil xs ns r
    | some v => match sDv xs ns 25 v (sPtN ns z) with
      | .error e => some e
      | .ok _ => sFil xs ns r
/-- the schema that a text says, or its fault -/
def sDra (xs : List JR) : Except (Nat × Nat) (Nat × SS) :=
  match sTop xs with
  | .error e => .error e
  | .ok (n, st) => match sFil xs st.ns st.lt with
    | some e => .error (12, e)
    | none => .ok (n, st)
/-- the default at the part P is bs -/
def dfl (M : zM) (p : Int) (U : Nat) (P : Nat) (bs : List Nat) : Prop := ∃ a : Nat, M (p + 18) P = (a : Int) ∧ M (p + 20) P = ((a + bs.length : Nat) : Int) ∧ a + bs.length ≤ U ∧ ∀ j : Nat, j < bs.length → M (p + 24) ((a + j : Nat) : Int) = (bs.getD j 0 : Nat)
/-- where a part stands among all parts -/
def pIx (ns : List SN) (z : Nat × Nat × Option Nat) : Nat := nBs ns z.1 + z.2.1
theorem nTot_take_le {ns : List SN} {i j : Nat} (h : i ≤ j) : nTot (ns.take i) ≤ nTot (ns.take j) := by
  have e : ns.take j = ns.take i ++ (ns.take j).drop i := by
    have := List.take_append_drop i (ns.take j)
    rw [List.take_take, Nat.min_eq_left h] at this
    exact this.symm
  rw [e, nTot_app]
  exact Nat.le_add_right _ _
theorem nTot_take_succ {ns : List SN} {i : Nat} {n : SN} (h : ns[i]? = some n) : nTot (ns.take (i + 1)) = nTot (ns.take i) + n.ct := by
  rw [List.take_add_one, h, nTot_app]
  rfl
theorem part_inj {ns : List SN} {i j k m : Nat} {n n2 : SN} (hi : ns[i]? = some n) (hj : ns[j]? = some n2) (hk : k < n.ct) (hm : m < n2.ct) (h : nTot (ns.take i) + k = nTot (ns.take j) + m) : i = j ∧ k = m := by
  have h1 := nTot_take_succ hi
  have h2 := nTot_take_succ hj
  by_cases c : i < j
  · have := nTot_take_le (ns := ns) (show i + 1 ≤ j by omega)
    omega
  · by_cases c2 : j < i
    · have := nTot_take_le (ns := ns) (show j + 1 ≤ i by omega)
      omega
    · have : i = j := by omega
      subst this
      exact ⟨rfl, by omega⟩
/-- the schema p is finished: it says st, its root, and its defaults -/
def pS (M : zM) (p : Int) (xs : List JR) (root : Nat) (st : SS) (NU U : Nat) : Prop :=
  gC M p NU st ∧ (M p 12 = (root : Int) ∧ M (p + 13) 1 = (nTot st.ns : Int)) ∧ M (p + 23) 1 = (U : Int) ∧ U ≤ 8192 ∧ ∀ (i k : Nat) (n : SN) (q : SP), st.ns[i]? = some n → n.kd = 11 → n.ps[k]? = some q →
    (q.df = none → M (p + 18) ((nTot (st.ns.take i) + k : Nat) : Int) = -1) ∧ ∀ v : Nat, q.df = some v → ∃ bs : List Nat, sDv xs st.ns 25 v (sPn (some q)) = .ok bs ∧ dfl M p U (nTot (st.ns.take i) + k) bs
theorem dfl.up {M M1 : zM} {p : Int} {U U1 P : Nat} {bs : List Nat} (h : dfl M p U P bs) (hU : U ≤ U1) (e1 : M1 (p + 18) P = M (p + 18) P) (e2 : M1 (p + 20) P = M (p + 20) P) (e3 : ∀ j : Nat, j < U → M1 (p + 24) (j : Int) = M (p + 24) (j : Int)) : dfl M1 p U1 P bs := by
  obtain ⟨a, h1, h2, h3, h4⟩ := h
  exact ⟨a, by rw [e1]; exact h1, by rw [e2]; exact h2, by omega, fun j hj => by rw [e3 _ (by omega)]; exact h4 j hj⟩
