/-! ===== fields that are set at a call are constants within it ===== -/
theorem zSc.fr {S S' : zS} {p : Int} (h : zSc S p) (e : ∀ a : Int, p ≤ a → a ≤ p + 24 → S' a = S a) : zSc S' p := by
  unfold zSc zCe at *
  rw [e p (by omega) (by omega), e (p + 1) (by omega) (by omega), e (p + 2) (by omega) (by omega), e (p + 3) (by omega) (by omega), e (p + 4) (by omega) (by omega), e (p + 5) (by omega) (by omega), e (p + 6) (by omega) (by omega), e (p + 7) (by omega) (by omega), e (p + 8) (by omega) (by omega), e (p + 9) (by omega) (by omega), e (p + 10) (by omega) (by omega), e (p + 11) (by omega) (by omega), e (p + 12) (by omega) (by omega), e (p + 13) (by omega) (by omega), e (p + 14) (by omega) (by omega), e (p + 15) (by omega) (by omega), e (p + 16) (by omega) (by omega), e (p + 17) (by omega) (by omega), e (p + 18) (by omega) (by omega), e (p + 19) (by omega) (by omega), e (p + 20) (by omega) (by omega), e (p + 21) (by omega) (by omega), e (p + 22) (by omega) (by omega), e (p + 23) (by omega) (by omega), e (p + 24) (by omega) (by omega)]
  exact h
theorem zSok.upd {S : zS} (hs : zSok S) {n : Nat} {q : zSh} (hn : zL[n]? = some none ∨ zL[n]? = none) : zSok (fun b => if b = (n : Int) then some q else S b) := fun i q9 h => by
  by_cases c : (i : Int) = (n : Int)
  · exfalso
    have : i = n := Int.ofNat.inj c
    subst this
    rcases hn with e | e <;> (rw [e] at h; exact nomatch h)
  · show (if (i : Int) = (n : Int) then some q else S (i : Int)) = some q9
    rw [if_neg c]
    exact hs i q9 h
/-- the shapes within a look of the Drafter -/
def S24 (S : zS) (p : Int) : zS := fun b => if b = ((24 : Nat) : Int) then some (0, 1, [(3, 25), (3, 26), (3, 28), (3, p), (3, 6), (0, 0), (0, 0), (0, 0)]) else S b
theorem z24 {S : zS} {l : Launch} {s0 : State} {G : va_G} {ca : Nat → ClassId} {k : Cond} {y : MethodName} {t d : Nat} {av : List Value} {C : Nat × Nat} {M : zM} {Q : Int → zM → Prop} {X : zM → Prop} {p : Int} (hs24 : S 24 = some (0, 1, [(3, 25), (3, 26), (3, 28), (2, 0), (2, 0), (0, 0), (0, 0), (0, 0)])) (h3 : M 24 3 = p) (h4 : M 24 4 = 6) (h : zMet l s0 G ca k y t d av C (S24 S p) M (fun v M1 => Q v (zu (zu M1 24 4 6) 24 3 p)) (fun M1 => X (zu (zu M1 24 4 6) 24 3 p))) : zMet l s0 G ca k y t d av C S M Q X := by
  let S1 : zS := fun b => if b = ((24 : Nat) : Int) then some (0, 1, [(3, 25), (3, 26), (3, 28), (3, p), (2, 0), (0, 0), (0, 0), (0, 0)]) else S b
  have h24 : S1 24 = some (0, 1, [(3, 25), (3, 26), (3, 28), (3, p), (2, 0), (0, 0), (0, 0), (0, 0)]) := if_pos rfl
  refine zMet_S (S' := S1) (a := 24) (c := p) (k9 := 3) hs24 h24 (fun b hb => if_neg hb) rfl rfl h3 ?_
  refine zMet_S (S' := S24 S p) (a := 24) (c := 6) (k9 := 4) h24 (if_pos rfl) (fun b hb => ?_) rfl rfl h4 h
  show (if b = ((24 : Nat) : Int) then _ else S b) = (if b = ((24 : Nat) : Int) then _ else S b)
  rw [if_neg (show ¬ b = ((24 : Nat) : Int) from hb), if_neg (show ¬ b = ((24 : Nat) : Int) from hb)]
/-- the shapes within a put of the Filler -/
def S25 (S : zS) (p : Int) : zS := fun b => if b = ((25 : Nat) : Int) then some (0, 2, [(3, 6), (3, p), (0, 0)]) else S b
theorem z25 {S : zS} {l : Launch} {s0 : State} {G : va_G} {ca : Nat → ClassId} {k : Cond} {y : MethodName} {t d : Nat} {av : List Value} {C : Nat × Nat} {M : zM} {Q : Int → zM → Prop} {X : zM → Prop} {p : Int} (hs25 : S 25 = some (0, 2, [(2, 0), (2, 0), (0, 0)])) (h0 : M 25 0 = 6) (h1 : M 25 1 = p) (h : zMet l s0 G ca k y t d av C (S25 S p) M (fun v M1 => Q v (zu (zu M1 25 1 p) 25 0 6)) (fun M1 => X (zu (zu M1 25 1 p) 25 0 6))) : zMet l s0 G ca k y t d av C S M Q X := by
  let S1 : zS := fun b => if b = ((25 : Nat) : Int) then some (0, 2, [(3, 6), (2, 0), (0, 0)]) else S b
  have h25 : S1 25 = some (0, 2, [(3, 6), (2, 0), (0, 0)]) := if_pos rfl
  refine zMet_S (S' := S1) (a := 25) (c := 6) (k9 := 0) hs25 h25 (fun b hb => if_neg hb) rfl rfl h0 ?_
  refine zMet_S (S' := S25 S p) (a := 25) (c := p) (k9 := 1) h25 (if_pos rfl) (fun b hb => ?_) rfl rfl h1 h
  show (if b = ((25 : Nat) : Int) then _ else S b) = (if b = ((25 : Nat) : Int) then _ else S b)
  rw [if_neg (show ¬ b = ((25 : Nat) : Int) from hb), if_neg (show ¬ b = ((25 : Nat) : Int) from hb)]
/-- the Drafter between calls -/
def dSh (S : zS) (p : Int) : Prop := zSok S ∧ zSc S p ∧ S 24 = some (0, 1, [(3, 25), (3, 26), (3, 28), (2, 0), (2, 0), (0, 0), (0, 0), (0, 0)]) ∧ S 25 = some (0, 2, [(2, 0), (2, 0), (0, 0)]) ∧ S 6 = some (0, 8, [(3, 7), (3, 9), (3, 11), (3, 13), (3, 15), (3, 17), (3, 19), (3, 21), (3, 22), (3, 1), (0, 0), (0, 0), (0, 0)]) ∧ 30 ≤ p ∧ (p + 24 < 55 ∨ 138 ≤ p)
theorem dSh.s24 {S : zS} {p : Int} (h : dSh S p) : sSh (S24 S p) p := by
  obtain ⟨hs, hp, h24, h25, h6, hp0⟩ := h
  exact ⟨hs.upd (Or.inl rfl), hp.fr (fun a h1 h2 => if_neg (by omega)), if_pos rfl, (if_neg (by decide)).trans h6, by omega⟩
/-- within a put of the Filler: what the Drafter's shapes ask is asked of S24 -/
def S245 (S : zS) (p : Int) : zS := S25 (S24 S p) p
theorem dSh.s25 {S : zS} {p : Int} (h : dSh S p) : fSh (S245 S p) p := by
  obtain ⟨hs, hp, h24, h25, h6, hp0⟩ := h
  have e24 : S245 S p 24 = some (0, 1, [(3, 25), (3, 26), (3, 28), (3, p), (3, 6), (0, 0), (0, 0), (0, 0)]) := by
    unfold S245 S25
    rw [if_neg (show ¬ (24 : Int) = ((25 : Nat) : Int) by decide)]
    exact if_pos rfl
  have e6 : S245 S p 6 = some (0, 8, [(3, 7), (3, 9), (3, 11), (3, 13), (3, 15), (3, 17), (3, 19), (3, 21), (3, 22), (3, 1), (0, 0), (0, 0), (0, 0)]) := by
    unfold S245 S25
    rw [if_neg (show ¬ (6 : Int) = ((25 : Nat) : Int) by decide)]
    unfold S24
    rw [if_neg (show ¬ (6 : Int) = ((24 : Nat) : Int) by decide)]
    exact h6
  exact ⟨⟨(hs.upd (Or.inl rfl)).upd (Or.inl rfl), (hp.fr (fun a h1 h2 => if_neg (by omega))).fr (fun a h1 h2 => if_neg (by omega)), e24, e6, by omega⟩, by unfold S245 S25; exact if_pos rfl⟩
