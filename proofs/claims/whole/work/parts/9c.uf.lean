/-! ===== a text's letters are bytes; all that a text gives ===== -/
def cB (c : Int32) : Prop := 0 ≤ c.toInt ∧ c.toInt < 256
theorem jEsc_b {c : Int32} (h : ¬ jEsc c = -1) : cB (jEsc c) := by
  unfold jEsc at *
  by_cases h1 : c = 34 ∨ c = 47 ∨ c = 92
  · rw [if_pos h1]
    rcases h1 with e | e | e <;> (rw [e]; unfold cB; decide)
  · rw [if_neg h1] at h ⊢
    by_cases h2 : c = 98
    · rw [if_pos h2]; unfold cB; decide
    · rw [if_neg h2] at h ⊢
      by_cases h3 : c = 102
      · rw [if_pos h3]; unfold cB; decide
      · rw [if_neg h3] at h ⊢
        by_cases h4 : c = 110
        · rw [if_pos h4]; unfold cB; decide
        · rw [if_neg h4] at h ⊢
          by_cases h5 : c = 114
          · rw [if_pos h5]; unfold cB; decide
          · rw [if_neg h5] at h ⊢
            by_cases h6 : c = 116
            · rw [if_pos h6]; unfold cB; decide
            · rw [if_neg h6] at h
              exact absurd rfl h
theorem jCons_ok {c : Int32} {r : Except Nat (List Int32 × Nat)} {ws : List Int32} {q : Nat} (h : jCons c r = .ok (ws, q)) : ∃ vs : List Int32, r = .ok (vs, q) ∧ ws = c :: vs := by
  cases r with
  | error e => exact nomatch h
  | ok x =>
    obtain ⟨vs, q2⟩ := x
    cases h
    exact ⟨vs, rfl, rfl⟩
theorem jStr_b {bt : Int → Int} {N : Nat} (hb : rOk bt N) : ∀ (m p q : Nat) (ws : List Int32), jStr (rg bt N) m p = .ok (ws, q) → ∀ c ∈ ws, cB c := by
  intro m
  induction m with
  | zero => intro p q ws h; exact nomatch h
  | succ m ih =>
    intro p q ws h
    unfold jStr at h
    have step : ∀ (c : Int32) (p2 : Nat), cB c → jCons c (jStr (rg bt N) m p2) = .ok (ws, q) → ∀ c ∈ ws, cB c := fun c p2 hc h2 => by
      obtain ⟨vs, e1, e2⟩ := jCons_ok h2
      rw [e2]
      intro x hx
      rcases List.mem_cons.mp hx with e | e
      · rw [e]; exact hc
      · exact ih _ _ _ e1 x e
    split at h
    · cases h
      intro c hc
      exact nomatch hc
    · split at h
      · split at h
        · split at h
          · exact nomatch h
          · rename_i s hs
            split at h
            · rename_i h255
              obtain ⟨r9, e1, e2, e3⟩ := jFour_b hb rfl 4 (p + 2) 0 (Nat.le_refl _) (Int.le_refl _) (by decide) s hs
              refine step s _ ?_ h
              rw [e1] at h255 ⊢
              rw [i32le, z_toI, w32_id (by omega) (by omega)] at h255
              have h25 : (255 : Int32).toInt = 255 := by decide
              rw [h25] at h255
              unfold cB
              rw [z_toI, w32_id (by omega) (by omega)]
              omega
            · exact nomatch h
        · split at h
          · exact nomatch h
          · rename_i hne
            exact step _ _ (jEsc_b hne) h
      · split at h
        · exact nomatch h
        · rename_i h32
          split at h
          · rename_i h126
            refine step _ _ ?_ h
            have e32 : (32 : Int32).toInt = 32 := by decide
            have e126 : (126 : Int32).toInt = 126 := by decide
            rw [i32lt, e32] at h32
            rw [i32le, e126] at h126
            unfold cB
            omega
          · exact nomatch h
def xLl (xs : List JR) : Prop := ∀ x ∈ xs, (x.kd = 3 → ∀ c ∈ x.ws, cB c) ∧ ∀ k : List Int32, x.kw = some k → ∀ c ∈ k, cB c
theorem xLl.app {xs ys : List JR} (h1 : xLl xs) (h2 : xLl ys) : xLl (xs ++ ys) := fun x hx => (List.mem_append.mp hx).elim (h1 x) (h2 x)
theorem xLl.hd {xs : List JR} (h : xLl xs) {kw : Option (List Int32)} {mo : Bool} (hk : ∀ k : List Int32, kw = some k → ∀ c ∈ k, cB c) : xLl (jHd kw mo xs) := by
  cases xs with
  | nil => exact h
  | cons x r =>
    intro y hy
    rcases List.mem_cons.mp hy with e | e
    · subst e
      exact ⟨(h x List.mem_cons_self).1, hk⟩
    · exact h y (List.mem_cons_of_mem _ e)
theorem xLl.cons {x : JR} {xs : List JR} (hx : (x.kd = 3 → ∀ c ∈ x.ws, cB c) ∧ ∀ k : List Int32, x.kw = some k → ∀ c ∈ k, cB c) (h : xLl xs) : xLl (x :: xs) := fun y hy => by
  rcases List.mem_cons.mp hy with e | e
  · rw [e]; exact hx
  · exact h y e
theorem jKey_b {bt : Int → Int} {N : Nat} (hb : rOk bt N) {o : Bool} {ks : List (List Int32)} {p p1 : Nat} {kw : Option (List Int32)} (h : jKey (rg bt N) o ks p = .ok (kw, p1)) : ∀ k : List Int32, kw = some k → ∀ c ∈ k, cB c := by
  unfold jKey at h
  split at h
  · split at h
    · split at h
      · exact nomatch h
      · rename_i ws q hs
        split at h
        · exact nomatch h
        · split at h
          · cases h
            intro k hk
            cases hk
            exact jStr_b hb _ _ _ _ hs
          · exact nomatch h
    · exact nomatch h
  · cases h
    intro k hk
    exact nomatch hk
theorem jGo_lt8 {bt : Int → Int} {N : Nat} (hb : rOk bt N) : ∀ (m : Nat) (md : Option (Bool × List (List Int32))) (dp p c q : Nat) (xs : List JR), jGo (rg bt N) m md dp p = .ok (xs, c, q) → xLl xs := by
  intro m
  induction m with
  | zero => exact fun md dp p c q xs h => by cases md <;> exact nomatch h
  | succ m ih =>
    intro md dp p c q xs h
    have nil : xLl [] := fun x hx => nomatch hx
    have nk : ∀ k : List Int32, (none : Option (List Int32)) = some k → ∀ c ∈ k, cB c := fun k hk => nomatch hk
    cases md with
    | none =>
      have leaf : ∀ (x : JR), ¬ x.kd = 3 → x.kw = none → xs = [x] → xLl xs := fun x hx hk e => by
        rw [e]
        exact nil.cons ⟨fun c => absurd c hx, by rw [hk]; exact nk⟩
      unfold jGo at h
      by_cases h1 : rg bt N p = 123 ∨ rg bt N p = 91
      · rw [if_pos h1] at h
        have hkd : ¬ jKd (decide (rg bt N p = 123)) = 3 := by unfold jKd; split <;> decide
        split at h
        · exact nomatch h
        · split at h
          · obtain ⟨e1, -, -⟩ := jOk1 (α := Nat) h
            exact leaf _ hkd rfl e1.symm
          · split at h
            · exact nomatch h
            · rename_i ys c9 q9 hi
              obtain ⟨e1, -, -⟩ := jOk1 (α := Nat) h
              rw [← e1]
              exact (ih _ _ _ _ _ _ hi).cons ⟨fun c => absurd (show jKd (decide (rg bt N p = 123)) = 3 from c) hkd, nk⟩
      · rw [if_neg h1] at h
        split at h
        · split at h
          · exact nomatch h
          · rename_i ws q9 hs
            obtain ⟨e1, -, -⟩ := jOk1 (α := Nat) h
            rw [← e1]
            exact nil.cons ⟨fun _ => jStr_b hb _ _ _ _ hs, nk⟩
        · have lf : ∀ (kd : Nat) (r : Except Nat Nat), ¬ kd = 3 → jLeaf kd p r = .ok (xs, c, q) → xLl xs := fun kd r hk hr => by
            obtain ⟨-, e1, -⟩ := jLeaf_ok hr
            exact leaf (kd, p, 0, [], none, 0, 1, false) hk rfl e1
          split at h
          · exact lf _ _ (by decide) h
          · split at h
            · exact lf _ _ (by decide) h
            · split at h
              · exact lf _ _ (by decide) h
              · split at h
                · exact nomatch h
                · rename_i q9 x9 hn
                  obtain ⟨e1, -, -⟩ := jOk1 (α := Nat) h
                  exact leaf (4, p, x9, [], none, 0, 1, false) (show ¬ (4 : Nat) = 3 by decide) rfl e1.symm
    | some ok =>
      obtain ⟨o, ks⟩ := ok
      unfold jGo at h
      split at h
      · exact nomatch h
      · rename_i kw p1 hkey
        have hk := jKey_b hb hkey
        split at h
        · exact nomatch h
        · rename_i xs1 c1 p2 hv
          have w2 := ih _ _ _ _ _ _ hv
          split at h
          · split at h
            · exact nomatch h
            · rename_i ys1 c2 q2 hr
              obtain ⟨e1, -, -⟩ := jOk1 (α := Nat) h
              rw [← e1]
              exact (w2.hd hk).app (ih _ _ _ _ _ _ hr)
          · split at h
            · obtain ⟨e1, -, -⟩ := jOk1 (α := Nat) h
              rw [← e1]
              exact w2.hd hk
            · exact nomatch h
/-- all that a text's values are known by -/
def tOk (xs : List JR) : Prop := jWf xs ∧ 0 < xs.length ∧ xL xs ∧ hA xs ∧ xs.length ≤ 2000 ∧ jLw xs ≤ 2000 ∧ 12 * xs.length + jLw xs ≤ 8192 ∧ (xx xs 0).kw = none
theorem jTx_tOk {bt : Int → Int} {N : Nat} (hb : rOk bt N) (hN : N ≤ 1300) {xs : List JR} (h : jTx (rg bt N) N = .ok xs) : tOk xs := by
  have hT := rg_T hb
  unfold jTx jFin at h
  cases hg : jGo (rg bt N) 4001 none 0 (jSk (rg bt N) 4096 0) with
  | error e => rw [hg] at h; exact nomatch h
  | ok r =>
    obtain ⟨ys, c, q⟩ := r
    rw [hg] at h
    dsimp only at h
    split at h
    · cases h
      have hs := jSk_le hT 4096 0 (Nat.zero_le _)
      obtain ⟨g1, g2, g3, g4, g5, g6⟩ := jGo_ok hT _ _ _ _ _ _ _ hs hg
      have g7 := jGo_w hT _ _ _ _ _ _ _ hs hg
      have g8 : jSk (rg bt N) 4096 0 + 2 * xs.length + jLw xs ≤ q + 1 := g7
      obtain ⟨w1, -⟩ := jGo_wf hT _ _ _ _ _ _ _ hs hg
      obtain ⟨-, h2⟩ := jGo_h hT _ _ _ _ _ _ _ hs (Nat.zero_le _) (fun e => absurd e (by decide)) hg
      have hl := jGo_lt8 hb _ _ _ _ _ _ _ hg
      obtain ⟨⟨x, r, e1, -, e2, -⟩, -⟩ := g6 rfl
      refine ⟨w1, by omega, fun i hi => hl _ (List.mem_of_getElem? (xx_lt hi)), h2, ?_, ?_, by omega, ?_⟩
      · have := hT.1; omega
      · have := hT.1; omega
      · rw [e1]; exact e2
    · exact nomatch h
