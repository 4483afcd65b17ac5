/-! ===== the class's schema: handing over ===== -/
/-- the plans, when the schema at u is the one just drafted and np is drafted in next -/
def pfN (pf : Nat → Int) (u : Nat) (np : Int) : Nat → Int := fun k => if k = 8 then np else if k = u then pf 8 else pf k
theorem cP.new {S S1 : zS} {n n1 : Nat} {M M1 : zM} {ks : kST} {pf : Nat → Int} {u : Nat} {np : Int} {z : List Nat × List JR × Nat × SS} (h : cP S n M ks pf) (hu : u < 8) (hp : ∀ p : Int, pOK S n p → pOK S1 n1 p) (hnp : pOK S1 n1 np) (h8 : ∃ NU U : Nat, pS M (pf 8) z.2.1 z.2.2.1 z.2.2.2 NU U) (f : ∀ c j : Int, (30 ≤ c ∧ c < 55) ∨ (138 ≤ c ∧ c < (n : Int)) → M1 c j = M c j) (f5 : ∀ j : Int, ¬ j = (u : Int) → M1 5 j = M 5 j) (e5 : M1 5 (u : Int) = pf 8) (e24 : M1 24 3 = np) (ha8 : np + 24 < pf 8 ∨ pf 8 + 24 < np) (hak : ∀ k : Nat, k < 8 → ¬ k = u → ¬ ks k = none → np + 24 < pf k ∨ pf k + 24 < np) : cP S1 n1 M1 (kup ks u z) (pfN pf u np) := by
  obtain ⟨g1, ⟨g2, g3⟩, g4⟩ := h
  have fr : ∀ (p : Int), pOK S n p → ∀ a : Int, p ≤ a → a ≤ p + 24 → M1 a = M a := fun p hpo a h1 h2 => funext fun j => f a j (by have := hpo.2.1; have := hpo.2.2; omega)
  have e8 : pfN pf u np 8 = np := if_pos rfl
  have eu : pfN pf u np u = pf 8 := by unfold pfN; rw [if_neg (by omega), if_pos rfl]
  have ek : ∀ k : Nat, ¬ k = 8 → ¬ k = u → pfN pf u np k = pf k := fun k h1 h2 => by unfold pfN; rw [if_neg h1, if_neg h2]
  have kn : ∀ k : Nat, ¬ k = u → kup ks u z k = ks k := fun k h => if_neg h
  refine ⟨fun k hk => ?_, ⟨by rw [e8]; exact e24, by rw [e8]; exact hnp⟩, fun i j hi hj hij oi oj => ?_⟩
  · by_cases ck : k = u
    · subst ck
      rw [eu]
      refine ⟨fun h => ?_, fun y hy => ?_⟩
      · rw [show kup ks k z k = some z from if_pos rfl] at h
        exact nomatch h
      · rw [show kup ks k z k = some z from if_pos rfl] at hy
        have : z = y := Option.some.inj hy
        subst this
        obtain ⟨NU, U, h9⟩ := h8
        exact ⟨e5, hp _ g3, NU, U, h9.fr (fr _ g3)⟩
    · rw [kn k ck, ek k (by omega) ck]
      refine ⟨fun h => (f5 _ (by omega)).trans ((g1 k hk).1 h), fun y hy => ?_⟩
      obtain ⟨x1, x2, NU, U, x3⟩ := (g1 k hk).2 y hy
      exact ⟨(f5 _ (by omega)).trans x1, hp _ x2, NU, U, x3.fr (fr _ x2)⟩
  · have at' : ∀ k : Nat, k < 9 → ¬ k = 8 → (k = 8 ∨ ¬ kup ks u z k = none) → (k = u ∧ pfN pf u np k = pf 8) ∨ (¬ k = u ∧ pfN pf u np k = pf k ∧ ¬ ks k = none) := fun k h1 h2 h3 => by
      by_cases ck : k = u
      · exact Or.inl ⟨ck, by rw [ck]; exact eu⟩
      · refine Or.inr ⟨ck, ek k h2 ck, ?_⟩
        rcases h3 with h | h
        · exact absurd h h2
        · rw [kn k ck] at h
          exact h
    by_cases ci : i = 8
    · rw [ci, e8]
      rcases at' j hj (by omega) oj with ⟨-, b⟩ | ⟨b1, b2, b3⟩
      · rw [b]; exact ha8
      · rw [b2]; exact hak j (by omega) b1 b3
    · by_cases cj : j = 8
      · rw [cj, e8]
        rcases at' i hi ci oi with ⟨-, b⟩ | ⟨b1, b2, b3⟩
        · rw [b]; omega
        · rw [b2]
          have := hak i (by omega) b1 b3
          omega
      · rcases at' i hi ci oi with ⟨b0, b⟩ | ⟨b1, b2, b3⟩
        · rcases at' j hj cj oj with ⟨c0, c⟩ | ⟨c1, c2, c3⟩
          · omega
          · rw [b, c2]
            exact g4 8 j (by decide) hj (by omega) (Or.inl rfl) (Or.inr c3)
        · rcases at' j hj cj oj with ⟨c0, c⟩ | ⟨c1, c2, c3⟩
          · rw [b2, c]
            exact g4 i 8 hi (by decide) ci (Or.inr b3) (Or.inl rfl)
          · rw [b2, c2]
            exact g4 i j hi hj hij (Or.inr b3) (Or.inr c3)
theorem pOK.ap {S : zS} {n : Nat} {p : Int} (h : pOK S n p) (Ls : List zSh) : pOK (Sap S n Ls) (n + Ls.length) p := by
  obtain ⟨h1, h2, h3⟩ := h
  refine ⟨h1.fr (fun a b1 b2 => if_neg (by omega)), h2, by omega⟩
theorem zSok.ap {S : zS} {n : Nat} (h : zSok S) (hn : 138 ≤ n) (hz : zL.length ≤ 138) (Ls : List zSh) : zSok (Sap S n Ls) := fun i q hq => by
  have hi : i < zL.length := by
    by_cases c : i < zL.length
    · exact c
    · rw [List.getElem?_eq_none (by omega)] at hq
      exact nomatch hq
  exact (if_neg (by omega)).trans (h i q hq)
theorem dyS.ap {S : zS} {n : Nat} (h : dyS S) (hn : 138 ≤ n) (Ls : List zSh) : dyS (Sap S n Ls) := by
  obtain ⟨h1, h2, h3, h4, h5, h6⟩ := h
  exact ⟨(if_neg (by omega)).trans h1, (if_neg (by omega)).trans h2, (if_neg (by omega)).trans h3, (if_neg (by omega)).trans h4, (if_neg (by omega)).trans h5, (if_neg (by omega)).trans h6⟩
