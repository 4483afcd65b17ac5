/-! ===== the class's schema, whole ===== -/
set_option maxRecDepth 100000 in
theorem zL_len : zL.length ≤ 138 := by decide +kernel
theorem mfc.tr {M M1 M2 : zM} (h : mfc M M1) (h1 : mfc M1 M2) : mfc M M2 := fun c j c1 c2 => (h1 c j c1 c2).trans (h c j c1 c2)
theorem dOk.ow {ks : kST} {L : List (List Nat)} {ow : Int} (h : dOk ks L ow) : -1 ≤ ow ∧ ow < 8 := by
  rcases h.2.1 with ⟨e, -⟩ | ⟨k, z, e1, e2, -⟩
  · omega
  · have := (h.1 k z e2).1
    omega
section TAD
variable {l : Launch} {s0 : State} {a0 : Array Value} {G : va_G} {ca : Nat → ClassId} {d : Nat} {C : Nat × Nat} {S : zS} {M : zM} {Q : Nat × Nat → zS → Int → zM → Prop} {tb : List Nat} {ks : kST} {L : List (List Nat)} {ow : Int} {out : List Nat} {pl : Int} {a : Nat}
theorem c_schemaU (Γ : rt_Γ l s0 a0 G ca) (hd : 300 ≤ d) (hb : C.1 + 30 ≤ 590000 ∧ C.2 + 21400 ≤ 7200000) (h132 : 138 ≤ C.1) (hS : ∀ b : Int, (C.1 : Int) ≤ b → S b = none) (hI : cI S C.1 M tb ks L ow out pl a) (hD : dOk ks L ow) (htb : tb.length ≤ 1300 ∧ ∀ x ∈ tb, x < 256) {u : Nat} (hu : u < 8)
    (kF : ∀ e : Nat × Nat, sRs tb = .error e → 0 < e.1 ∧ e.1 < 100 → ∀ M1 : zM, cI S C.1 M1 tb ks L ow out e.2 a → mfc M M1 → Q C S e.1 M1)
    (kO : ∀ z : List JR × Nat × SS, sRs tb = .ok z → ∀ (C1 : Nat × Nat) (S1 : zS) (M1 : zM), C.1 ≤ C1.1 ∧ C1.1 ≤ C.1 + 25 ∧ C.2 ≤ C1.2 ∧ C1.2 ≤ C.2 + 21321 → cI S1 C1.1 M1 [] (kup ks u (tb, z)) (lup ow u L) (oup ow u) out (-1) a → (∀ b : Int, (C1.1 : Int) ≤ b → S1 b = none) → mfc M M1 → Q C1 S1 0 M1) : zs_X9_schema l s0 G ca d C S u M Q :=
  c_schema1 Γ hd ⟨by omega, by omega⟩ hI htb hu kF (fun xs root st he M1 pf i1 p1 s1 f1 => c_schema2 (z := (tb, xs, root, st)) Γ (by omega) hb h132 zL_len hS i1 p1 hD.ow hu s1 (fun C1 S1 M2 hc i2 hn f2 => kO (xs, root, st) he C1 S1 M2 hc i2 hn (f1.tr f2)))
/-- the state behind a new schema hangs together -/
theorem dOk.sc {ks : kST} {L : List (List Nat)} {ow : Int} (h : dOk ks L ow) {tb : List Nat} (htb : tb.length ≤ 1300 ∧ ∀ x ∈ tb, x < 256) {u : Nat} (hu : u < 8) {z : List JR × Nat × SS} (hz : sRs tb = .ok z) : dOk (kup ks u (tb, z)) (lup ow u L) (oup ow u) := by
  obtain ⟨h1, h2, h3, h4⟩ := h
  have k1 : ∀ (k : Nat) (y : List Nat × List JR × Nat × SS), kup ks u (tb, z) k = some y → k < 8 ∧ gT y.1 y.2.1 y.2.2.1 y.2.2.2 := fun k y hy => by
    unfold kup at hy
    split at hy
    · rename_i e
      have : (tb, z) = y := Option.some.inj hy
      subst this
      exact ⟨by omega, sRs_ok htb.1 htb.2 hz⟩
    · exact h1 k y hy
  unfold lup oup
  by_cases c : ow = (u : Int)
  · rw [if_pos c, if_pos c]
    exact ⟨k1, Or.inl ⟨rfl, rfl⟩, Nat.zero_le _, Nat.zero_le _⟩
  · rw [if_neg c, if_neg c]
    refine ⟨k1, ?_, h3, h4⟩
    rcases h2 with e | ⟨k, y, e1, e2, e3⟩
    · exact Or.inl e
    · refine Or.inr ⟨k, y, e1, ?_, e3⟩
      unfold kup
      rw [if_neg (fun e => c (by rw [e1, e]))]
      exact e2
end TAD
