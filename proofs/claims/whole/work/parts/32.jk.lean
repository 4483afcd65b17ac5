/-! ===== the chain of an open value's parts ===== -/
/-- from x on, these parts, and no more -/
def jChn (nx : Nat → Int32) : List (Nat × List Int32) → Int32 → Prop
  | [], x => x = -1
  | m :: r, x => x = nI m.1 ∧ jChn nx r (nx m.1)
def jLast : List (Nat × List Int32) → Int32
  | [] => -1
  | [m] => nI m.1
  | _ :: m :: r => jLast (m :: r)
/-- their places rise, between lo and V -/
def jRise (V : Nat) : List (Nat × List Int32) → Nat → Prop
  | [], _ => True
  | m :: r, lo => lo < m.1 ∧ m.1 < V ∧ jRise V r m.1
theorem jLast_lo {V : Nat} {ms : List (Nat × List Int32)} {lo : Nat} (h : jRise V ms lo) (hne : ms ≠ []) : ∃ la : Nat, jLast ms = nI la ∧ lo < la ∧ la < V := by
  induction ms generalizing lo with
  | nil => exact absurd rfl hne
  | cons m r ih =>
    cases r with
    | nil => exact ⟨m.1, rfl, h.1, h.2.1⟩
    | cons m2 r =>
      obtain ⟨la, e, h1, h2⟩ := ih h.2.2 (by simp)
      exact ⟨la, e, Nat.lt_trans h.1 h1, h2⟩
theorem jRise.app {V V1 : Nat} {ms : List (Nat × List Int32)} {lo j : Nat} {ws : List Int32} (h : jRise V ms lo) (hlo : lo < V) (hj : V ≤ j) (hj1 : j < V1) : jRise V1 (ms ++ [(j, ws)]) lo := by
  induction ms generalizing lo with
  | nil => exact ⟨by omega, hj1, trivial⟩
  | cons m r ih => exact ⟨h.1, by have := h.2.1; omega, ih h.2.2 h.2.1⟩
theorem jLast_app {ms : List (Nat × List Int32)} {j : Nat} {ws : List Int32} : jLast (ms ++ [(j, ws)]) = nI j := by
  induction ms with
  | nil => rfl
  | cons m r ih =>
    cases r with
    | nil => rfl
    | cons m2 r => exact ih
/-- a part more: what was the last one's next is the new one -/
theorem jChn.app {nx nx' : Nat → Int32} {V : Nat} {ms : List (Nat × List Int32)} {x : Int32} {lo j : Nat} {ws : List Int32} (hV : V < 2 ^ 31) (h : jChn nx ms x) (hr : jRise V ms lo) (hj : nx' j = -1) (hs : ∀ i : Nat, i < V → ¬ jLast ms = nI i → nx' i = nx i) (hl : ∀ la : Nat, la < V → jLast ms = nI la → nx' la = nI j) : jChn nx' (ms ++ [(j, ws)]) (if ms = [] then nI j else x) := by
  induction ms generalizing x lo with
  | nil => exact ⟨rfl, hj⟩
  | cons m r ih =>
    rw [if_neg (by simp)]
    refine ⟨h.1, ?_⟩
    cases r with
    | nil =>
      rw [hl m.1 hr.2.1 rfl]
      exact ⟨rfl, hj⟩
    | cons m2 r =>
      have hi := ih h.2 hr.2.2 hs hl
      rw [if_neg (by simp)] at hi
      obtain ⟨la, e, h1, h2⟩ := jLast_lo hr.2.2 (by simp)
      have hm1 := hr.2.1
      rw [hs m.1 hr.2.1 (fun c => by
        have c2 : nI la = nI m.1 := e.symm.trans c
        have := (nI_eq (by omega) (by omega)).mp c2
        omega)]
      exact hi
theorem jChn.same {nx nx' : Nat → Int32} {V : Nat} {ms : List (Nat × List Int32)} {x : Int32} {lo : Nat} (h : jChn nx ms x) (hr : jRise V ms lo) (hs : ∀ i : Nat, i < V → nx' i = nx i) : jChn nx' ms x := by
  induction ms generalizing x lo with
  | nil => exact h
  | cons m r ih => exact ⟨h.1, by rw [hs m.1 hr.2.1]; exact ih h.2 hr.2.2⟩
theorem jChn.keys {nx ke le : Nat → Int32} {lu V : Nat} {ms : List (Nat × List Int32)} {x : Int32} {lo : Nat} (h : jChn nx ms x) (hr : jRise V ms lo) (hV : V ≤ 2073) (hk : ∀ m : Nat × List Int32, m ∈ ms → jIsW le lu (ke m.1) m.2) : jKeys nx ke le lu (ms.map (fun m => m.2)) x := by
  induction ms generalizing x lo with
  | nil => exact h
  | cons m r ih => exact ⟨m.1, h.1, by have := hr.2.1; omega, hk m List.mem_cons_self, ih h.2 hr.2.2 (fun m' hm => hk m' (List.mem_cons_of_mem _ hm))⟩
theorem jRise_len {V : Nat} {ms : List (Nat × List Int32)} {lo : Nat} (h : jRise V ms lo) (hlo : lo < V) : ms.length + lo < V := by
  induction ms generalizing lo with
  | nil => simpa using hlo
  | cons m r ih =>
    have := ih h.2.2 h.2.1
    have := h.1
    rw [List.length_cons]
    omega
