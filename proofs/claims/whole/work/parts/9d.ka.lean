/-! ===== a look at a row: its spec ===== -/
/-- the place, the data, the items -/
abbrev ySt : Type := Nat × Nat × Nat
abbrev yR : Type := Except (Nat × Nat) (List Nat × ySt)
def yV (b : List Nat) (f : Nat) : Nat → Nat → Nat → Except (Nat × Nat) (Int × Nat)
  | 0, _, p => .ok (0, p)
  | m + 1, u, p => if b.length ≤ p then .error (1, b.length) else if m = 0 ∧ 1 < b.getD p 0 then .error (2, f)
    else if b.getD p 0 < 128 then .ok (uz (u + b.getD p 0 % 128 * 2 ^ (7 * (9 - m))), p + 1) else yV b f m (u + b.getD p 0 % 128 * 2 ^ (7 * (9 - m))) (p + 1)
def yVar (b : List Nat) (p : Nat) : Except (Nat × Nat) (Int × Nat) := yV b p 10 0 p
def yStr (b : List Nat) (p : Nat) : Except (Nat × Nat) (List Nat × Nat) :=
  match yVar b p with
  | .error e => .error e
  | .ok (n, q) => if n < 0 then .error (6, p) else if (b.length : Int) - q < n then .error (1, b.length) else .ok (vB n ++ (b.drop q).take n.toNat, q + n.toNat)
def yKey (b : List Nat) (mp : Bool) (p : Nat) : Except (Nat × Nat) (List Nat × Nat) := if mp = true then yStr b p else .ok ([], p)
def yIts (f : ySt → yR) (b : List Nat) (mp : Bool) : Nat → ySt → yR
  | 0, s => .ok ([], s)
  | c + 1, s => match yKey b mp s.1 with
    | .error e => .error e
    | .ok (w, q) => match f (q, s.2) with
      | .error e => .error e
      | .ok (w2, s2) => match yIts f b mp c s2 with
        | .error e => .error e
        | .ok (w3, s3) => .ok (w ++ (w2 ++ w3), s3)
def yFld (f : Nat → ySt → yR) : List SP → ySt → yR
  | [], s => .ok ([], s)
  | q :: r, s => match f (sPn (some q)) s with
    | .error e => .error e
    | .ok (w, s2) => match yFld f r s2 with
      | .error e => .error e
      | .ok (w2, s3) => .ok (w ++ w2, s3)
def yMea (g : ySt → yR) (b : List Nat) (s : ySt) : yR :=
  match yVar b s.1 with
  | .error e => .error e
  | .ok (t, q) => match g (q, s.2) with
    | .error e => .error e
    | .ok (w, s2) => if (s2.1 : Int) - q = t then .ok (w, s2) else .error (6, s.1)
def yGo (r : yR) (f : ySt → Except (Nat × Nat) (List Nat × Nat × ySt)) : Except (Nat × Nat) (List Nat × Nat × ySt) :=
  match r with
  | .error e => .error e
  | .ok (w, s2) => match f s2 with
    | .error e => .error e
    | .ok (w2, c2, s3) => .ok (w ++ w2, c2, s3)
def yBlk (g : Nat → ySt → yR) (b : List Nat) : Nat → Nat → ySt → Except (Nat × Nat) (List Nat × Nat × ySt)
  | 0, _, _ => .error (6, 0)
  | T + 1, c, s => match yVar b s.1 with
    | .error e => .error e
    | .ok (n, q) => if 2000 - (s.2.2 : Int) < n ∨ n < (s.2.2 : Int) - 2000 then .error (6, s.1) else if n = 0 then .ok ([], c, (q, s.2))
      else yGo (if 0 < n then g n.natAbs (q, s.2.1, s.2.2 + n.natAbs) else yMea (g n.natAbs) b (q, s.2.1, s.2.2 + n.natAbs)) (fun s2 => yBlk g b T (c + n.natAbs) s2)
/-- the number of the items stands before them -/
def yHd (c : Nat) (w : List Nat) : List Nat := (if c = 0 then w else vB c ++ w) ++ vB 0
def yCho (b : List Nat) (k ft p : Nat) : Except (Nat × Nat) (Nat × Nat) :=
  match yVar b p with
  | .error e => .error e
  | .ok (n, q) => if n < 0 ∨ (k : Int) ≤ n then .error (ft, p) else .ok (n.natAbs, q)
def yBody (f : Nat → ySt → yR) (ns : List SN) (b : List Nat) (s : Nat) (st : ySt) : yR :=
  if (nN ns s).kd = 0 then .ok ([], st)
  else if (nN ns s).kd = 1 then (if b.length ≤ st.1 then .error (1, b.length) else if 1 < b.getD st.1 0 then .error (3, st.1) else .ok ([b.getD st.1 0], (st.1 + 1, st.2)))
  else if (nN ns s).kd = 2 ∨ (nN ns s).kd = 3 then (match yVar b st.1 with
    | .error e => .error e
    | .ok (n, q) => if (nN ns s).kd = 2 ∧ ¬ n = w32 n then .error (2, st.1) else .ok (vB n, (q, st.2)))
  else if (nN ns s).kd = 4 ∨ (nN ns s).kd = 5 then (match yStr b st.1 with
    | .error e => .error e
    | .ok (w, q) => .ok (w, (q, st.2)))
  else if (nN ns s).kd = 9 then (if (b.length : Int) - st.1 < (nN ns s).dt then .error (1, b.length) else .ok ((b.drop st.1).take (nN ns s).dt.toNat, (st.1 + (nN ns s).dt.toNat, st.2)))
  else if (nN ns s).kd = 10 then (match yCho b (nN ns s).ps.length 5 st.1 with
    | .error e => .error e
    | .ok (n, q) => .ok (vB n, (q, st.2)))
  else if (nN ns s).kd = 8 then (match yCho b (nN ns s).ps.length 4 st.1 with
    | .error e => .error e
    | .ok (n, q) => match f (sPn ((nN ns s).ps[n]?)) (q, st.2) with
      | .error e => .error e
      | .ok (w, s2) => .ok (vB n ++ w, s2))
  else if (nN ns s).kd = 11 then yFld f (nN ns s).ps st
  else match yBlk (yIts (f (sKid0 ns s)) b (decide ((nN ns s).kd = 7))) b (b.length + 1) 0 st with
    | .error e => .error e
    | .ok (w, c, s2) => .ok (yHd c w, s2)
def yLook (ns : List SN) (b : List Nat) : Nat → Nat → ySt → yR
  | 0, _, st => .error (7, st.1)
  | m + 1, s, st => if 4000 ≤ st.2.1 then .error (8, st.1) else yBody (yLook ns b m) ns b s (st.1, st.2.1 + 1, st.2.2)
theorem uB_le : ∀ {m j u : Nat}, 1 ≤ j → u < 128 ^ j → (uB m u).length ≤ j := by
  intro m
  induction m with
  | zero => intro j u _ _; exact Nat.zero_le _
  | succ m ih =>
    intro j u hj hu
    unfold uB
    split
    · exact hj
    · rename_i c
      cases j with
      | zero => omega
      | succ j =>
        cases j with
        | zero => exact absurd hu (by simpa using c)
        | succ j =>
          have h1 : u / 128 < 128 ^ (j + 1) := Nat.div_lt_of_lt_mul (by rw [Nat.mul_comm, ← Nat.pow_succ]; exact hu)
          have := @ih (j + 1) (u / 128) (by omega) h1
          rw [List.length_cons]
          omega
theorem pow128 (k : Nat) : 2 ^ (7 * k) = 128 ^ k := by
  rw [Nat.pow_mul]
theorem yV_ok {b : List Nat} {f : Nat} : ∀ (m u p k : Nat), k + m = 10 → u < 128 ^ k → ∀ (n : Int) (q : Nat), yV b f m u p = .ok (n, q) → 1 ≤ m → p < q ∧ q ≤ b.length ∧ ∃ U : Nat, n = uz U ∧ U < 128 ^ (k + (q - p)) ∧ U < 18446744073709551616 := by
  intro m
  induction m with
  | zero => intro u p k _ _ n q _ h; omega
  | succ m ih =>
    intro u p k hk hu n q h _
    unfold yV at h
    by_cases c1 : b.length ≤ p
    · rw [if_pos c1] at h; exact nomatch h
    rw [if_neg c1] at h
    by_cases c2 : m = 0 ∧ 1 < b.getD p 0
    · rw [if_pos c2] at h; exact nomatch h
    rw [if_neg c2, show 9 - m = k by omega] at h
    generalize b.getD p 0 = y at c2 h
    have hb : y % 128 ≤ 127 := by omega
    have hU : u + y % 128 * 2 ^ (7 * k) < 128 ^ (k + 1) := by
      rw [pow128, Nat.pow_succ]
      have := Nat.mul_le_mul_right (128 ^ k) hb
      omega
    by_cases c3 : y < 128
    · rw [if_pos c3] at h
      injection h with h
      injection h with h1 h2
      subst h2
      refine ⟨by omega, by omega, _, h1.symm, by rw [show p + 1 - p = 1 by omega]; exact hU, ?_⟩
      by_cases k9 : k = 9
      · subst k9
        have hy : y ≤ 1 := by
          rcases Nat.lt_or_ge 1 y with e | e
          · exact absurd ⟨by omega, e⟩ c2
          · exact e
        have h1 : y % 128 * 2 ^ (7 * 9) ≤ 1 * 2 ^ (7 * 9) := Nat.mul_le_mul_right _ (by omega)
        have h2 : u < 2 ^ 63 := Nat.lt_of_lt_of_le hu (by decide)
        have h3 : (2 : Nat) ^ (7 * 9) = 2 ^ 63 := rfl
        rw [h3] at h1 ⊢
        omega
      · have : (128 : Nat) ^ (k + 1) ≤ 128 ^ 9 := Nat.pow_le_pow_right (by decide) (by omega)
        have h4 : (128 : Nat) ^ 9 = 9223372036854775808 := by decide
        omega
    · rw [if_neg c3] at h
      by_cases m0 : m = 0
      · exact absurd ⟨m0, by omega⟩ c2
      obtain ⟨a1, a2, U, a3, a4, a5⟩ := ih _ _ (k + 1) (by omega) hU n q h (by omega)
      exact ⟨by omega, a2, U, a3, by rw [show k + (q - p) = k + 1 + (q - (p + 1)) by omega]; exact a4, a5⟩
theorem yVar_ok {b : List Nat} {p : Nat} {n : Int} {q : Nat} (h : yVar b p = .ok (n, q)) : p < q ∧ q ≤ b.length ∧ (vB n).length ≤ q - p ∧ -9223372036854775808 ≤ n ∧ n < 9223372036854775808 := by
  obtain ⟨a1, a2, U, a3, a4, a5⟩ := yV_ok 10 0 p 0 rfl (by decide) n q h (by decide)
  have := uz_b a5
  refine ⟨a1, a2, ?_, by omega, by omega⟩
  subst a3
  unfold vB
  rw [zz_uz]
  exact uB_le (by omega) (by rw [Nat.zero_add] at a4; exact a4)
