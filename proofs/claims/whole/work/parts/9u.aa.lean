/-! ===== for the law's loop: more objects; behind load; bytes ===== -/
theorem pOK.up {S : zS} {n n1 : Nat} {p : Int} (h : pOK S n p) (hn : n ≤ n1) : pOK S n1 p := ⟨h.1, h.2.1, by have := h.2.2; omega⟩
theorem cI.up {S : zS} {n n1 : Nat} {M : zM} {tb : List Nat} {ks : kST} {L : List (List Nat)} {ow : Int} {out : List Nat} {pl : Int} {a : Nat} (h : cI S n M tb ks L ow out pl a) (hn : n ≤ n1) : cI S n1 M tb ks L ow out pl a := by
  obtain ⟨h1, ⟨pf, g1, g2, g3⟩, h3⟩ := h
  refine ⟨h1, ⟨pf, fun k hk => ⟨(g1 k hk).1, fun z hz => ?_⟩, ⟨g2.1, g2.2.up hn⟩, g3⟩, h3⟩
  obtain ⟨x1, x2, x3⟩ := (g1 k hk).2 z hz
  exact ⟨x1, x2.up hn, x3⟩
theorem dOk.ld {ks : kST} {L L1 : List (List Nat)} {ow : Int} (h : dOk ks L ow) {tb : List Nat} (htb : tb.length ≤ 4000 ∧ ∀ x ∈ tb, x < 256) {u : Nat} {A : List Nat × List JR × Nat × SS} (hA : ks u = some A) (he : yAll A.2.2.2.ns tb A.2.2.1 = .ok L1) : dOk ks L1 u := by
  obtain ⟨-, gA⟩ := h.1 u A hA
  have kA := gA.k
  obtain ⟨n1, n2, n3⟩ := yAll_n htb.2 htb.1 (fun s h => (kA.2.1.2.2.2.1).dt s h) he
  exact ⟨h.1, Or.inr ⟨u, A, rfl, hA, n1⟩, by omega, by omega⟩
theorem dOk.b {ks : kST} {L : List (List Nat)} {ow : Int} (h : dOk ks L ow) : bN L.flatten := by
  rcases h.2.1 with ⟨-, e⟩ | ⟨k, z, -, -, e⟩
  · rw [e]; exact bN.nil
  · exact bN.flat (fun w hw => yN_b (e w hw))
theorem kAl.b {xs : List JR} {root : Nat} {st : SS} (h : kAl xs root st) (q : SP) (b : List Nat) (hb : dBy xs st q = some b) : bN b := by
  have hX := h.1.2.2.1
  have out : ∀ i : Nat, ¬ i < xs.length → xx xs i = (0, 0, 0, [], none, 0, 0, false) := fun i hi => by
    unfold xx
    rw [List.getD_eq_getElem?_getD, List.getElem?_eq_none (by omega)]
    rfl
  unfold dBy at hb
  split at hb
  · exact nomatch hb
  · rename_i v hv
    split at hb
    · rename_i b2 h2
      have : b2 = b := Option.some.inj hb
      subst this
      refine sDv_b (fun i hk => ?_) (fun i k hk => ?_) h2
      · by_cases hi : i < xs.length
        · exact (hX i hi).1 hk
        · rw [out i hi] at hk
          exact absurd hk (show ¬ (0 : Nat) = 3 by decide)
      · by_cases hi : i < xs.length
        · exact (hX i hi).2 k hk
        · rw [out i hi] at hk
          exact nomatch hk
    · exact nomatch hb
