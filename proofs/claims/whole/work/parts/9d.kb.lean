/-! ===== a look at a row: what is made is not longer than what was read ===== -/
def yE (b : List Nat) (e : Nat × Nat) : Prop := 0 < e.1 ∧ e.1 < 9 ∧ e.2 ≤ b.length
theorem yE.k {b : List Nat} {k p : Nat} (h1 : 0 < k) (h2 : k < 9) (h3 : p ≤ b.length) : yE b (k, p) := ⟨h1, h2, h3⟩
def yA (b : List Nat) (s : ySt) : Prop := s.1 ≤ b.length ∧ s.2.1 ≤ 4000 ∧ s.2.2 ≤ 2000
def yG (b : List Nat) (s : ySt) (r : yR) : Prop := (∀ e : Nat × Nat, r = .error e → yE b e) ∧ ∀ (w : List Nat) (s2 : ySt), r = .ok (w, s2) → yA b s2 ∧ w.length + s.1 ≤ s2.1 ∧ s.2.2 ≤ s2.2.2
theorem yV_e {b : List Nat} {f : Nat} (hf : f ≤ b.length) : ∀ (m u p : Nat) (e : Nat × Nat), yV b f m u p = .error e → yE b e := by
  intro m
  induction m with
  | zero => intro u p e h; exact nomatch h
  | succ m ih =>
    intro u p e h
    unfold yV at h
    by_cases c1 : b.length ≤ p
    · rw [if_pos c1] at h; injection h with h; subst h; exact yE.k (by decide) (by decide) (Nat.le_refl _)
    rw [if_neg c1] at h
    by_cases c2 : m = 0 ∧ 1 < b.getD p 0
    · rw [if_pos c2] at h; injection h with h; subst h; exact yE.k (by decide) (by decide) (hf)
    rw [if_neg c2] at h
    by_cases c3 : b.getD p 0 < 128
    · rw [if_pos c3] at h; exact nomatch h
    · rw [if_neg c3] at h
      exact ih _ _ _ h
theorem yVar_e {b : List Nat} {p : Nat} (hp : p ≤ b.length) {e : Nat × Nat} (h : yVar b p = .error e) : yE b e := yV_e hp _ _ _ _ h
theorem yStr_e {b : List Nat} {p : Nat} (hp : p ≤ b.length) {e : Nat × Nat} (h : yStr b p = .error e) : yE b e := by
  unfold yStr at h
  cases hv : yVar b p with
  | error e2 => rw [hv] at h; injection h with h; subst h; exact yVar_e hp hv
  | ok r =>
    obtain ⟨n, q⟩ := r
    rw [hv] at h
    dsimp only at h
    split at h
    · injection h with h; subst h; exact yE.k (by decide) (by decide) (hp)
    · split at h
      · injection h with h; subst h; exact yE.k (by decide) (by decide) (Nat.le_refl _)
      · exact nomatch h
theorem yStr_ok {b : List Nat} {p : Nat} {w : List Nat} {q : Nat} (h : yStr b p = .ok (w, q)) : ∃ (n m : Nat), yVar b p = .ok ((n : Int), m) ∧ m + n ≤ b.length ∧ q = m + n ∧ w = vB n ++ (b.drop m).take n ∧ (w.length + p ≤ q) := by
  unfold yStr at h
  cases hv : yVar b p with
  | error e2 => rw [hv] at h; exact nomatch h
  | ok r =>
    obtain ⟨n, m⟩ := r
    rw [hv] at h
    dsimp only at h
    split at h
    · exact nomatch h
    · rename_i c1
      split at h
      · exact nomatch h
      · rename_i c2
        injection h with h
        injection h with h1 h2
        obtain ⟨v1, v2, v3, -, -⟩ := yVar_ok hv
        have hn : n = ((n.toNat : Nat) : Int) := by omega
        have hl : ((b.drop m).take n.toNat).length = n.toNat := by
          rw [List.length_take, List.length_drop]
          omega
        refine ⟨n.toNat, m, by rw [← hn], by omega, h2.symm, by rw [← hn]; exact h1.symm, ?_⟩
        rw [← h1, List.length_append, hl, ← h2]
        omega
theorem yKey_g {b : List Nat} {mp : Bool} {s : ySt} (hA : yA b s) : (∀ e, yKey b mp s.1 = .error e → yE b e) ∧ ∀ (w : List Nat) (q : Nat), yKey b mp s.1 = .ok (w, q) → yA b (q, s.2) ∧ w.length + s.1 ≤ q := by
  unfold yKey
  by_cases c : mp = true
  · rw [if_pos c]
    refine ⟨fun e h => yStr_e hA.1 h, fun w q h => ?_⟩
    obtain ⟨n, m, h1, h2, h3, h4, h5⟩ := yStr_ok h
    exact ⟨⟨by show q ≤ _; omega, hA.2⟩, h5⟩
  · rw [if_neg c]
    refine ⟨fun e h => (nomatch h), fun w q h => ?_⟩
    injection h with h
    injection h with h1 h2
    subst h1
    subst h2
    exact ⟨hA, by rw [List.length_nil]; omega⟩
theorem yIts_g {f : ySt → yR} {b : List Nat} {mp : Bool} (hf : ∀ s, yA b s → yG b s (f s)) : ∀ (c : Nat) (s : ySt), yA b s → yG b s (yIts f b mp c s) := by
  intro c
  induction c with
  | zero =>
    intro s hA
    refine ⟨fun e h => (nomatch h), fun w s2 h => ?_⟩
    unfold yIts at h
    injection h with h
    injection h with h1 h2
    subst h1
    subst h2
    exact ⟨hA, by rw [List.length_nil]; omega, Nat.le_refl _⟩
  | succ c ih =>
    intro s hA
    unfold yIts
    obtain ⟨k1, k2⟩ := @yKey_g b mp s hA
    cases hk : yKey b mp s.1 with
    | error e => exact ⟨fun e2 h => by injection h with h; subst h; exact k1 _ hk, fun w s2 h => nomatch h⟩
    | ok r =>
      obtain ⟨w, q⟩ := r
      obtain ⟨a1, a2⟩ := k2 w q hk
      obtain ⟨f1, f2⟩ := hf _ a1
      dsimp only
      cases hk2 : f (q, s.2) with
      | error e => exact ⟨fun e2 h => by injection h with h; subst h; exact f1 _ hk2, fun w s2 h => nomatch h⟩
      | ok r2 =>
        obtain ⟨w2, s2⟩ := r2
        obtain ⟨b1, b2, b3⟩ := f2 w2 s2 hk2
        obtain ⟨g1, g2⟩ := ih s2 b1
        dsimp only
        cases hk3 : yIts f b mp c s2 with
        | error e => exact ⟨fun e2 h => by injection h with h; subst h; exact g1 _ hk3, fun w s2 h => nomatch h⟩
        | ok r3 =>
          obtain ⟨w3, s3⟩ := r3
          obtain ⟨d1, d2, d3⟩ := g2 w3 s3 hk3
          refine ⟨fun e h => (nomatch h), fun w4 s4 h => ?_⟩
          injection h with h
          injection h with h1 h2
          subst h1
          subst h2
          have : q + w2.length ≤ s2.1 := by rw [Nat.add_comm]; exact b2
          have b4 : s.2.2 ≤ s2.2.2 := b3
          refine ⟨d1, ?_, by omega⟩
          rw [List.length_append, List.length_append]
          omega
theorem yFld_g {f : Nat → ySt → yR} {b : List Nat} : ∀ (l : List SP), (∀ q ∈ l, ∀ s, yA b s → yG b s (f (sPn (some q)) s)) → ∀ (s : ySt), yA b s → yG b s (yFld f l s) := by
  intro l
  induction l with
  | nil =>
    intro _ s hA
    refine ⟨fun e h => (nomatch h), fun w s2 h => ?_⟩
    unfold yFld at h
    injection h with h
    injection h with h1 h2
    subst h1
    subst h2
    exact ⟨hA, by rw [List.length_nil]; omega, Nat.le_refl _⟩
  | cons q l ih =>
    intro hf s hA
    unfold yFld
    obtain ⟨f1, f2⟩ := hf q List.mem_cons_self s hA
    cases hk2 : f (sPn (some q)) s with
    | error e => exact ⟨fun e2 h => by injection h with h; subst h; exact f1 _ hk2, fun w s2 h => nomatch h⟩
    | ok r2 =>
      obtain ⟨w2, s2⟩ := r2
      obtain ⟨b1, b2, b3⟩ := f2 w2 s2 hk2
      obtain ⟨g1, g2⟩ := ih (fun q hq => hf q (List.mem_cons_of_mem _ hq)) s2 b1
      dsimp only
      cases hk3 : yFld f l s2 with
      | error e => exact ⟨fun e2 h => by injection h with h; subst h; exact g1 _ hk3, fun w s2 h => nomatch h⟩
      | ok r3 =>
        obtain ⟨w3, s3⟩ := r3
        obtain ⟨d1, d2, d3⟩ := g2 w3 s3 hk3
        refine ⟨fun e h => (nomatch h), fun w4 s4 h => ?_⟩
        injection h with h
        injection h with h1 h2
        subst h1
        subst h2
        refine ⟨d1, ?_, by omega⟩
        rw [List.length_append]
        omega
theorem yMea_g {g : ySt → yR} {b : List Nat} (hg : ∀ s, yA b s → yG b s (g s)) {s : ySt} (hA : yA b s) : (∀ e, yMea g b s = .error e → yE b e) ∧ ∀ (w : List Nat) (s2 : ySt), yMea g b s = .ok (w, s2) → yA b s2 ∧ w.length + s.1 + 1 ≤ s2.1 ∧ s.2.2 ≤ s2.2.2 := by
  unfold yMea
  cases hv : yVar b s.1 with
  | error e => exact ⟨fun e2 h => by injection h with h; subst h; exact yVar_e hA.1 hv, fun w s2 h => nomatch h⟩
  | ok r =>
    obtain ⟨t, q⟩ := r
    obtain ⟨v1, v2, v3, -, -⟩ := yVar_ok hv
    obtain ⟨g1, g2⟩ := hg (q, s.2) ⟨v2, hA.2⟩
    dsimp only
    cases hk : g (q, s.2) with
    | error e => exact ⟨fun e2 h => by injection h with h; subst h; exact g1 _ hk, fun w s2 h => nomatch h⟩
    | ok r2 =>
      obtain ⟨w, s2⟩ := r2
      obtain ⟨b1, b2, b4⟩ := g2 w s2 hk
      have b3 : w.length + q ≤ s2.1 := b2
      dsimp only
      split
      · refine ⟨fun e h => (nomatch h), fun w4 s4 h => ?_⟩
        injection h with h
        injection h with h1 h2
        subst h1
        subst h2
        exact ⟨b1, by omega, b4⟩
      · exact ⟨fun e2 h => by injection h with h; subst h; exact yE.k (by decide) (by decide) (hA.1), fun w s2 h => nomatch h⟩
theorem vB_small {c : Nat} (h : c < 8192) : (vB (c : Int)).length ≤ 2 := by
  unfold vB
  refine uB_le (by decide) ?_
  unfold zz
  rw [if_pos (by omega)]
  omega
theorem vB_1 {c : Nat} (h : c < 64) : (vB (c : Int)).length ≤ 1 := by
  unfold vB
  refine uB_le (by decide) ?_
  unfold zz
  rw [if_pos (by omega)]
  omega
theorem vB_ge {n : Int} (h : 64 ≤ n) : 2 ≤ (vB n).length := by
  have h2 : 128 ≤ zz n := by
    unfold zz
    rw [if_pos (by omega)]
    omega
  have h3 : (uB 10 128).length = 2 := by decide
  have h4 := @uB_mono 10 128 (zz n) h2
  rw [h3] at h4
  exact h4
/-- blocks: each turn leaves a byte over for the count before them; the last one for the end -/
theorem yBlk_g {g : Nat → ySt → yR} {b : List Nat} (hg : ∀ c s, yA b s → yG b s (g c s)) : ∀ (T c : Nat) (s : ySt), yA b s → c ≤ s.2.2 → (∀ e, yBlk g b T c s = .error e → yE b e) ∧ ∀ (w : List Nat) (c2 : Nat) (s2 : ySt), yBlk g b T c s = .ok (w, c2, s2) → yA b s2 ∧ c ≤ c2 ∧ c2 ≤ s2.2.2 ∧ s.2.2 ≤ s2.2.2 ∧ w.length + s.1 + 1 ≤ s2.1 ∧ (c < c2 → w.length + s.1 + 2 ≤ s2.1) ∧ (c = 0 → 0 < c2 → w.length + s.1 + 1 + (vB (c2 : Int)).length ≤ s2.1) := by
  intro T
  induction T with
  | zero =>
    intro c s hA hc
    exact ⟨fun e h => by unfold yBlk at h; injection h with h; subst h; exact yE.k (by decide) (by decide) (Nat.zero_le _), fun w c2 s2 h => nomatch h⟩
  | succ T ih =>
    intro c s hA hc
    have key : ∀ (k : Nat) (s1 : ySt) (r1 : yR), 0 < k → s1.2.2 = s.2.2 + k → (∀ e, r1 = .error e → yE b e) → (∀ (w : List Nat) (s2 : ySt), r1 = .ok (w, s2) → yA b s2 ∧ s1.2.2 ≤ s2.2.2 ∧ w.length + s.1 + 1 ≤ s2.1 ∧ (64 ≤ k → w.length + s.1 + 2 ≤ s2.1)) →
        (∀ e, yGo r1 (fun s2 => yBlk g b T (c + k) s2) = .error e → yE b e) ∧ ∀ (w : List Nat) (c2 : Nat) (s2 : ySt), yGo r1 (fun s2 => yBlk g b T (c + k) s2) = .ok (w, c2, s2) → yA b s2 ∧ c ≤ c2 ∧ c2 ≤ s2.2.2 ∧ s.2.2 ≤ s2.2.2 ∧ w.length + s.1 + 1 ≤ s2.1 ∧ (c < c2 → w.length + s.1 + 2 ≤ s2.1) ∧ (c = 0 → 0 < c2 → w.length + s.1 + 1 + (vB (c2 : Int)).length ≤ s2.1) := fun k s1 r1 hk hs1 k1 k2 => by
      cases r1 with
      | error e => exact ⟨fun e2 h => by injection h with h; subst h; exact k1 _ rfl, fun w c2 s2 h => nomatch h⟩
      | ok r2 =>
        obtain ⟨w, s2⟩ := r2
        obtain ⟨b1, b2, b3, b4⟩ := k2 w s2 rfl
        obtain ⟨g1, g2⟩ := ih (c + k) s2 b1 (by omega)
        unfold yGo
        dsimp only
        cases hk : yBlk g b T (c + k) s2 with
        | error e => exact ⟨fun e2 h => by injection h with h; subst h; exact g1 _ hk, fun w s2 s3 h => nomatch h⟩
        | ok r3 =>
          obtain ⟨w2, c2, s3⟩ := r3
          obtain ⟨d1, d2, d3, d4, d5, d6, d7⟩ := g2 w2 c2 s3 hk
          refine ⟨fun e h => (nomatch h), fun w4 c4 s4 h => ?_⟩
          injection h with h
          injection h with h1 h2
          injection h2 with h2 h3
          subst h1
          subst h2
          subst h3
          rw [List.length_append]
          refine ⟨d1, by omega, d3, by omega, by omega, fun _ => by omega, fun h0 hc2 => ?_⟩
          have h8 := vB_small (c := c2) (by have := d1.2.2; omega)
          by_cases ce : c + k < c2
          · have := d6 ce
            omega
          · by_cases c64 : c2 < 64
            · have := vB_1 c64
              omega
            · have := b4 (by omega)
              omega
    unfold yBlk
    cases hv : yVar b s.1 with
    | error e => exact ⟨fun e2 h => by injection h with h; subst h; exact yVar_e hA.1 hv, fun w c2 s2 h => nomatch h⟩
    | ok r =>
      obtain ⟨n, q⟩ := r
      obtain ⟨v1, v2, v3, -, -⟩ := yVar_ok hv
      dsimp only
      by_cases c1 : 2000 - (s.2.2 : Int) < n ∨ n < (s.2.2 : Int) - 2000
      · rw [if_pos c1]
        exact ⟨fun e2 h => by injection h with h; subst h; exact yE.k (by decide) (by decide) hA.1, fun w c2 s2 h => nomatch h⟩
      rw [if_neg c1]
      by_cases c0 : n = 0
      · rw [if_pos c0]
        refine ⟨fun e h => (nomatch h), fun w c2 s2 h => ?_⟩
        injection h with h
        injection h with h1 h2
        injection h2 with h2 h3
        subst h1
        subst h2
        subst h3
        exact ⟨⟨v2, hA.2⟩, Nat.le_refl _, hc, Nat.le_refl _, by rw [List.length_nil]; show _ ≤ q; omega, fun hlt => by omega, fun _ _ => by omega⟩
      rw [if_neg c0]
      have hA1 : yA b (q, s.2.1, s.2.2 + n.natAbs) := ⟨v2, hA.2.1, by show s.2.2 + n.natAbs ≤ 2000; have := hA.2.2; omega⟩
      refine key n.natAbs (q, s.2.1, s.2.2 + n.natAbs) _ (by omega) rfl (fun e h => ?_) (fun w s2 h => ?_)
      · by_cases cp : 0 < n
        · rw [if_pos cp] at h
          exact (hg _ _ hA1).1 e h
        · rw [if_neg cp] at h
          exact (yMea_g (hg n.natAbs) hA1).1 e h
      · by_cases cp : 0 < n
        · rw [if_pos cp] at h
          obtain ⟨b1, b2, b4⟩ := (hg _ _ hA1).2 w s2 h
          have b3 : w.length + q ≤ s2.1 := b2
          refine ⟨b1, b4, by omega, fun h64 => ?_⟩
          have := vB_ge (n := n) (by omega)
          omega
        · rw [if_neg cp] at h
          obtain ⟨b1, b2, b4⟩ := (yMea_g (hg n.natAbs) hA1).2 w s2 h
          have b3 : w.length + q + 1 ≤ s2.1 := b2
          exact ⟨b1, b4, by omega, fun h64 => by omega⟩
theorem yCho_g {b : List Nat} {k ft p : Nat} (hp : p ≤ b.length) (h1 : 0 < ft) (h2 : ft < 9) : (∀ e, yCho b k ft p = .error e → yE b e) ∧ ∀ n q, yCho b k ft p = .ok (n, q) → q ≤ b.length ∧ (vB (n : Int)).length + p ≤ q ∧ n < k := by
  unfold yCho
  cases hv : yVar b p with
  | error e => exact ⟨fun e2 h => by injection h with h; subst h; exact yVar_e hp hv, fun w s2 h => nomatch h⟩
  | ok r =>
    obtain ⟨n, q⟩ := r
    obtain ⟨v1, v2, v3, -, -⟩ := yVar_ok hv
    dsimp only
    by_cases c : n < 0 ∨ (k : Int) ≤ n
    · rw [if_pos c]
      exact ⟨fun e2 h => by injection h with h; subst h; exact yE.k h1 h2 hp, fun w s2 h => nomatch h⟩
    · rw [if_neg c]
      refine ⟨fun e2 h => (nomatch h), fun w s2 h => ?_⟩
      injection h with h
      injection h with h3 h4
      subst h3
      subst h4
      rw [show ((n.natAbs : Nat) : Int) = n by omega]
      exact ⟨v2, by omega, by omega⟩
theorem yHd_len {c : Nat} {w : List Nat} : (yHd c w).length = (if c = 0 then 0 else (vB (c : Int)).length) + w.length + 1 := by
  unfold yHd
  rw [List.length_append]
  have : (vB 0).length = 1 := by decide
  rw [this]
  by_cases c0 : c = 0
  · rw [if_pos c0, if_pos c0]; omega
  · rw [if_neg c0, if_neg c0, List.length_append]
theorem yBody_g {f : Nat → ySt → yR} {ns : List SN} {b : List Nat} (hf : ∀ n s, yA b s → yG b s (f n s)) (s : Nat) (st : ySt) (hA : yA b st) : yG b st (yBody f ns b s st) := by
  have hE : ∀ (k p : Nat), 0 < k → k < 9 → p ≤ b.length → yG b st (.error (k, p)) := fun k p h1 h2 h3 => ⟨fun e h => by injection h with h; subst h; exact yE.k h1 h2 h3, fun w s2 h => nomatch h⟩
  have hE2 : ∀ e, yE b e → yG b st (.error e) := fun e h1 => ⟨fun e h => by injection h with h; subst h; exact h1, fun w s2 h => nomatch h⟩
  have hO : ∀ (w : List Nat) (s2 : ySt), yA b s2 → w.length + st.1 ≤ s2.1 → st.2.2 ≤ s2.2.2 → yG b st (.ok (w, s2)) := fun w s2 h1 h2 h3 => ⟨fun e h => (nomatch h), fun w s2 h => by
    injection h with h
    injection h with h4 h5
    subst h4
    subst h5
    exact ⟨h1, h2, h3⟩⟩
  unfold yBody
  split
  · exact hO _ _ hA (by rw [List.length_nil]; omega) (Nat.le_refl _)
  split
  · split
    · exact hE _ _ (by decide) (by decide) (Nat.le_refl _)
    · rename_i c
      split
      · exact hE _ _ (by decide) (by decide) hA.1
      · exact hO _ _ ⟨by show st.1 + 1 ≤ b.length; omega, hA.2⟩ (by rw [List.length_singleton]; show 1 + st.1 ≤ st.1 + 1; omega) (Nat.le_refl _)
  split
  · cases hv : yVar b st.1 with
    | error e => exact hE2 _ (yVar_e hA.1 hv)
    | ok r =>
      obtain ⟨n, q⟩ := r
      obtain ⟨v1, v2, v3, -, -⟩ := yVar_ok hv
      dsimp only
      split
      · exact hE _ _ (by decide) (by decide) hA.1
      · exact hO _ _ ⟨v2, hA.2⟩ (by show _ ≤ q; omega) (Nat.le_refl _)
  split
  · cases hv : yStr b st.1 with
    | error e => exact hE2 _ (yStr_e hA.1 hv)
    | ok r =>
      obtain ⟨w, q⟩ := r
      obtain ⟨n, m, v1, v2, v3, v4, v5⟩ := yStr_ok hv
      exact hO _ _ ⟨by show q ≤ b.length; omega, hA.2⟩ v5 (Nat.le_refl _)
  split
  · split
    · exact hE _ _ (by decide) (by decide) (Nat.le_refl _)
    · have := hA.1
      refine hO _ _ ⟨by show st.1 + _ ≤ b.length; omega, hA.2⟩ ?_ (Nat.le_refl _)
      rw [List.length_take, List.length_drop]
      show _ ≤ st.1 + _
      omega
  split
  · obtain ⟨k1, k2⟩ := @yCho_g b (nN ns s).ps.length 5 st.1 hA.1 (by decide) (by decide)
    cases hv : yCho b (nN ns s).ps.length 5 st.1 with
    | error e => exact hE2 _ (k1 _ hv)
    | ok r =>
      obtain ⟨n, q⟩ := r
      obtain ⟨v1, v2, v3⟩ := k2 n q hv
      exact hO _ _ ⟨v1, hA.2⟩ v2 (Nat.le_refl _)
  split
  · obtain ⟨k1, k2⟩ := @yCho_g b (nN ns s).ps.length 4 st.1 hA.1 (by decide) (by decide)
    cases hv : yCho b (nN ns s).ps.length 4 st.1 with
    | error e => exact hE2 _ (k1 _ hv)
    | ok r =>
      obtain ⟨n, q⟩ := r
      obtain ⟨v1, v2, v3⟩ := k2 n q hv
      obtain ⟨f1, f2⟩ := hf (sPn ((nN ns s).ps[n]?)) (q, st.2) ⟨v1, hA.2⟩
      dsimp only
      cases hk : f (sPn ((nN ns s).ps[n]?)) (q, st.2) with
      | error e => exact hE2 _ (f1 _ hk)
      | ok r2 =>
        obtain ⟨w, s2⟩ := r2
        obtain ⟨g1, g2, g3⟩ := f2 w s2 hk
        have g4 : w.length + q ≤ s2.1 := g2
        exact hO _ _ g1 (by rw [List.length_append]; omega) g3
  split
  · exact yFld_g _ (fun q _ s hs => hf _ s hs) st hA
  · obtain ⟨k1, k2⟩ := yBlk_g (g := yIts (f (sKid0 ns s)) b (decide ((nN ns s).kd = 7))) (fun c s1 hs => yIts_g (fun s2 h2 => hf _ s2 h2) c s1 hs) (b.length + 1) 0 st hA (Nat.zero_le _)
    cases hk : yBlk (yIts (f (sKid0 ns s)) b (decide ((nN ns s).kd = 7))) b (b.length + 1) 0 st with
    | error e => exact hE2 _ (k1 _ hk)
    | ok r =>
      obtain ⟨w, c, s2⟩ := r
      obtain ⟨g1, g2, g3, g4, g5, g6, g7⟩ := k2 w c s2 hk
      refine hO _ _ g1 ?_ g4
      rw [yHd_len]
      by_cases c0 : c = 0
      · rw [if_pos c0]; omega
      · rw [if_neg c0]
        have := g7 rfl (by omega)
        omega
theorem yLook_g {ns : List SN} {b : List Nat} : ∀ (m s : Nat) (st : ySt), yA b st → yG b st (yLook ns b m s st) := by
  intro m
  induction m with
  | zero => intro s st hA; exact ⟨fun e h => by unfold yLook at h; injection h with h; subst h; exact yE.k (by decide) (by decide) hA.1, fun w s2 h => nomatch h⟩
  | succ m ih =>
    intro s st hA
    unfold yLook
    split
    · exact ⟨fun e h => by injection h with h; subst h; exact yE.k (by decide) (by decide) hA.1, fun w s2 h => nomatch h⟩
    · exact yBody_g (fun n s hs => ih n s hs) s _ ⟨hA.1, by show st.2.1 + 1 ≤ 4000; omega, hA.2.2⟩
