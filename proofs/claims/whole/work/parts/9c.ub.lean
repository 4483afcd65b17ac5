/-! ===== the Filler's fill ===== -/
/-- what a fill may write: the default's bytes, where it stands, and what it notes -/
def dlr (p : Int) (U P : Nat) (M M1 : zM) : Prop := ∀ a j : Int, ¬ a = 25 → ¬ (a = p + 23 ∧ j = 1) → ¬ (a = p + 24 ∧ (U : Int) ≤ j) → ¬ ((a = p + 18 ∨ a = p + 20) ∧ j = (P : Int)) → M1 a j = M a j
def der (p : Int) (P : Nat) (M M1 : zM) : Prop := ∀ a j : Int, ¬ a = 25 → ¬ (a = p + 23 ∧ j = 1) → ¬ a = p + 24 → ¬ ((a = p + 18 ∨ a = p + 20) ∧ j = (P : Int)) → M1 a j = M a j
section UBs
variable {l : Launch} {s0 : State} {a0 : Array Value} {G : va_G} {ca : Nat → ClassId} {d : Nat} {C : Nat × Nat} {S : zS} {M : zM} {Q : Int → zM → Prop} {X : zM → Prop} {xs : List JR} {v : Nat} {p : Int} {NU U W P nd : Nat} {st : SS}
theorem c_fill (Γ : rt_Γ l s0 a0 G ca) (hd : 73 ≤ d) (hok : zok C) (hS : dSh S p) (hK : kOk st) (hF : kF st) (hD : kD st) (hX : xL xs) (hH : hA xs) (hT : cTx M xs) (hG : gC M p NU st) (hvl : v < xs.length) (h3 : M 24 3 = p) (h4 : M 24 4 = 6) (hP : P < 2048) (hnd : M (p + 14) (P : Int) = (nd : Int)) (hnl : nd < 6 + st.ns.length) (hU : M (p + 23) 1 = (U : Int)) (hR : U + dV xs v ≤ 8192)
    (kE : ∀ e : Nat, sDv xs st.ns 25 v nd = .error e → ∀ M1 : zM, der p P M M1 → M1 (p + 23) 1 ≤ 8192 → 0 ≤ M1 (p + 23) 1 → Q e M1) (kO : ∀ bs : List Nat, sDv xs st.ns 25 v nd = .ok bs → ∀ M1 : zM, dlr p U P M M1 → M1 (p + 23) 1 = ((U + bs.length : Nat) : Int) → U + bs.length ≤ U + dV xs v → dfl M1 p (U + bs.length) P bs → Q (-1) M1) :
    zm_X2_fill l s0 G ca d C S 6 v p P M Q X := by
  have hS0 := hS
  obtain ⟨hs, hp, h24, h25, h6, hp0⟩ := hS
  refine z_X2_fill Γ (by omega) hok hs h6 h25 ?_
  unfold zt_X2_fill
  refine zIf_f (by decide) (zIf_f (by omega) ⟨hp, p + 24, 8192, hp.2.2.2.2.2.2.2.2.2.2.2.2.2, ?_⟩)
  generalize hM0 : zu (zu (zu M 25 2 (-1)) 25 0 6) 25 1 p = M0
  have fr0 : ∀ a j : Int, ¬ a = 25 → M0 a j = M a j := fun a j h => by
    rw [← hM0, zu_a h, zu_a h, zu_a h]
  have fr0a : ∀ a : Int, ¬ a = 25 → M0 a = M a := fun a h => funext fun j => fr0 a j h
  have c0 : M0 25 0 = 6 := by rw [← hM0, zu_k (by decide), zu_s]
  have c1 : M0 25 1 = p := by rw [← hM0, zu_s]
  have c2 : M0 25 2 = -1 := by rw [← hM0, zu_k (by decide), zu_k (by decide), zu_s]
  clear hM0
  have hT0 : cTx M0 xs := hT.fr (fun a h1 h2 => fr0a a (by omega))
  have hG0 : gC M0 p NU st := hG.fr (fun a h => fr0a a (by omega))
  rw [zat_in (by omega) (by omega) (by decide), fr0 (p + 14) _ (by omega), hnd]
  refine z24 (p := p) h24 (by rw [fr0 _ _ (by decide)]; exact h3) (by rw [fr0 _ _ (by decide)]; exact h4) ?_
  refine z25 (S := S24 S p) (p := p) (by unfold S24; rw [if_neg (show ¬ (25 : Int) = ((24 : Nat) : Int) by decide)]; exact h25) c0 c1 ?_
  have hput := f_put (l := l) (s0 := s0) (a0 := a0) (G := G) (ca := ca) (C := C) (S := S245 S p) (xs := xs) (p := p) (NU := NU) (st := st) Γ hok hS0.s25 hK hF hD hX 24 (Nat.le_refl _)
  refine hput (d - 1) v nd U M0 _ _ (by omega) hvl hnl (hH v hvl) hT0 hG0 c2 (by rw [fr0 _ _ (by omega)]; exact hU) hR ⟨fun e he x M1 f => ?_, fun bs hb M1 hle ha => ?_⟩
  · obtain ⟨f1, ⟨w, f2, f3, f4⟩, f5⟩ := f
    generalize hM5 : zu (zu (zu (zu M1 25 1 p) 25 0 6) 24 4 6) 24 3 p = M5
    have e1 : M5 25 1 = p := by rw [← hM5, zu_a (by decide), zu_a (by decide), zu_k (by decide), zu_s]
    have e2 : M5 25 2 = (e : Int) := by rw [← hM5, zu_a (by decide), zu_a (by decide), zu_k (by decide), zu_k (by decide)]; exact f1
    have fr5 : ∀ a j : Int, ¬ a = 25 → ¬ (a = p + 23 ∧ j = 1) → ¬ a = p + 24 → M5 a j = M a j := fun a j n1 n2 n3 => by
      rw [← hM5]
      by_cases ca3 : a = 24 ∧ j = 3
      · obtain ⟨rfl, rfl⟩ := ca3
        rw [zu_s]; exact h3.symm
      · by_cases ca4 : a = 24 ∧ j = 4
        · obtain ⟨rfl, rfl⟩ := ca4
          rw [zu_k (by decide), zu_s]; exact h4.symm
        · rw [show zu (zu (zu (zu M1 25 1 p) 25 0 6) 24 4 6) 24 3 p a j = M1 a j from by
            unfold zu
            rw [if_neg ca3, if_neg ca4, if_neg (fun h => n1 h.1), if_neg (fun h => n1 h.1)]]
          rw [f5 a j (fun h => n1 h.1) n2 n3]
          exact fr0 a j n1
    have e21 : M5 (p + 23) 1 = (w : Int) := by rw [← hM5, zu_a (by omega), zu_a (by omega), zu_a (by omega), zu_a (by omega)]; exact f2
    clear hM5
    show zSc S (M5 25 1) ∧ ∃ (ad4 : Int) (nd4 : Nat), zCe S (M5 25 1 + 23) ad4 nd4 ∧ _
    rw [e1]
    refine ⟨hp, p + 24, 8192, hp.2.2.2.2.2.2.2.2.2.2.2.2.2, ?_⟩
    rw [zput_in (by omega) (by omega) (by decide), zput_in (by omega) (by omega) (by decide), zu_a (by omega), zu_a (by omega), e2]
    refine kE e he _ (fun a j n1 n2 n3 n4 => ?_) ?_ ?_
    · rw [show zu (zu M5 (p + 18) _ _) (p + 20) _ _ a j = M5 a j from by
        unfold zu
        rw [if_neg (fun h => n4 ⟨Or.inr h.1, h.2⟩), if_neg (fun h => n4 ⟨Or.inl h.1, h.2⟩)]]
      exact fr5 a j n1 n2 n3
    · rw [zu_a (by omega), zu_a (by omega), e21]
      omega
    · rw [zu_a (by omega), zu_a (by omega), e21]
      omega
  · have hw25 : M1 25 2 = -1 := by rw [ha.w (by omega)]; exact c2
    dsimp only
    generalize hM5 : zu (zu (zu (zu M1 25 1 p) 25 0 6) 24 4 6) 24 3 p = M5
    have e1 : M5 25 1 = p := by rw [← hM5, zu_a (by decide), zu_a (by decide), zu_k (by decide), zu_s]
    have e2 : M5 25 2 = -1 := by rw [← hM5, zu_a (by decide), zu_a (by decide), zu_k (by decide), zu_k (by decide)]; exact hw25
    have fr6 : ∀ a j : Int, ¬ a = 25 → ¬ a = 24 → M5 a j = M1 a j := fun a j n1 n2 => by
      rw [← hM5, zu_a n2, zu_a n2, zu_a n1, zu_a n1]
    have fr5 : ∀ a j : Int, ¬ a = 25 → ¬ (a = p + 23 ∧ j = 1) → ¬ (a = p + 24 ∧ (U : Int) ≤ j) → M5 a j = M a j := fun a j n1 n2 n3 => by
      rw [← hM5]
      by_cases ca3 : a = 24 ∧ j = 3
      · obtain ⟨rfl, rfl⟩ := ca3
        rw [zu_s]; exact h3.symm
      · by_cases ca4 : a = 24 ∧ j = 4
        · obtain ⟨rfl, rfl⟩ := ca4
          rw [zu_k (by decide), zu_s]; exact h4.symm
        · rw [show zu (zu (zu (zu M1 25 1 p) 25 0 6) 24 4 6) 24 3 p a j = M1 a j from by
            unfold zu
            rw [if_neg ca3, if_neg ca4, if_neg (fun h => n1 h.1), if_neg (fun h => n1 h.1)]]
          rw [ha.2.2 a j n2 n3]
          exact fr0 a j n1
    have e21 : M5 (p + 23) 1 = ((U + bs.length : Nat) : Int) := by rw [fr6 _ _ (by omega) (by omega)]; exact ha.1
    have e22 : ∀ j : Nat, j < bs.length → M5 (p + 24) ((U + j : Nat) : Int) = (bs.getD j 0 : Nat) := fun j hj => by rw [fr6 _ _ (by omega) (by omega)]; exact ha.2.1 j hj
    clear hM5
    show zSc S (M5 25 1) ∧ ∃ (ad4 : Int) (nd4 : Nat), zCe S (M5 25 1 + 23) ad4 nd4 ∧ _
    rw [e1]
    refine ⟨hp, p + 24, 8192, hp.2.2.2.2.2.2.2.2.2.2.2.2.2, ?_⟩
    rw [zput_in (by omega) (by omega) (by decide), zput_in (by omega) (by omega) (by decide), zu_a (by omega), zu_a (by omega), e2, e21, fr0 _ _ (by omega), hU]
    refine kO bs hb _ (fun a j n1 n2 n3 n4 => ?_) ?_ hle ⟨U, ?_, ?_, Nat.le_refl _, fun j hj => ?_⟩
    · rw [show zu (zu M5 (p + 18) _ _) (p + 20) _ _ a j = M5 a j from by
        unfold zu
        rw [if_neg (fun h => n4 ⟨Or.inr h.1, h.2⟩), if_neg (fun h => n4 ⟨Or.inl h.1, h.2⟩)]]
      exact fr5 a j n1 n2 n3
    · rw [zu_a (by omega), zu_a (by omega), e21]
    · rw [zu_a (by omega), zu_s]
    · rw [zu_s]
    · rw [zu_a (by omega), zu_a (by omega)]
      exact e22 j hj
end UBs
