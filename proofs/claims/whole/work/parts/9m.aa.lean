/-! ===== the class between calls; whether one fits ===== -/
/-- the fields that are set at a call, between calls -/
def dyS (S : zS) : Prop := S 6 = some (0, 8, [(3, 7), (3, 9), (3, 11), (3, 13), (3, 15), (3, 17), (3, 19), (3, 21), (3, 22), (2, 0), (0, 0), (0, 0), (0, 0)]) ∧ S 24 = some (0, 1, [(3, 25), (3, 26), (3, 28), (2, 0), (2, 0), (0, 0), (0, 0), (0, 0)]) ∧ S 25 = some (0, 2, [(2, 0), (2, 0), (0, 0)]) ∧ S 55 = some (0, 4, [(2, 0), (2, 0), (2, 0), (0, 0), (0, 0), (0, 0), (0, 0), (0, 0)]) ∧ S 56 = some (0, 7, [(3, 57), (3, 59), (3, 61), (3, 63), (3, 65), (3, 67), (2, 0), (2, 0), (2, 0), (0, 0), (0, 0), (0, 0)]) ∧ S 69 = some (0, 3, [(3, 70), (3, 72), (2, 0), (2, 0), (0, 0)])
/-- a plan stands there -/
def pOK (S : zS) (n : Nat) (p : Int) : Prop := zSc S p ∧ (30 ≤ p ∧ (p + 24 < 55 ∨ 138 ≤ p)) ∧ p + 24 < (n : Int)
/-- the plans: those kept, and the Drafter's (8); they are apart -/
def cP (S : zS) (n : Nat) (M : zM) (ks : kST) (pf : Nat → Int) : Prop := (∀ k : Nat, k < 8 → (ks k = none → M 5 (k : Int) = -1) ∧ ∀ z : List Nat × List JR × Nat × SS, ks k = some z → M 5 (k : Int) = pf k ∧ pOK S n (pf k) ∧ ∃ NU U : Nat, pS M (pf k) z.2.1 z.2.2.1 z.2.2.2 NU U) ∧ (M 24 3 = pf 8 ∧ pOK S n (pf 8)) ∧
  ∀ i j : Nat, i < 9 → j < 9 → ¬ i = j → (i = 8 ∨ ¬ ks i = none) → (j = 8 ∨ ¬ ks j = none) → pf i + 24 < pf j ∨ pf j + 24 < pf i
/-- how often was asked and told, at most -/
def tSt (M : zM) (a : Nat) : Prop := (∃ b : Nat, b ≤ a ∧ fSn M b) ∧ ∃ T : Nat, T ≤ 4001 * a ∧ tCt M T
theorem tSt.fr {M M1 : zM} {a : Nat} (h : tSt M a) (e : ∀ c j : Int, (c = 56 ∧ j = 9) ∨ c = 64 ∨ c = 69 ∨ c = 71 → M1 c j = M c j) : tSt M1 a := by
  obtain ⟨⟨b, hb, h1, h2⟩, T, hT, h3⟩ := h
  exact ⟨⟨b, hb, (e 69 4 (by omega)).trans h1, fun c hc => by rw [e 71 _ (by omega)]; exact h2 c hc⟩, T, hT, h3.fr (fun c j h => e c j (by omega))⟩
/-- the class's memory says the state -/
def cI (S : zS) (n : Nat) (M : zM) (tb : List Nat) (ks : kST) (L : List (List Nat)) (ow : Int) (out : List Nat) (pl : Int) (a : Nat) : Prop := (zSok S ∧ dyS S) ∧ (∃ pf : Nat → Int, cP S n M ks pf) ∧ (M 1 1 = (tb.length : Int) ∧ ∀ j : Nat, j < tb.length → M 2 (j : Int) = (tb.getD j 0 : Nat)) ∧
  (∃ cu sp : Int, ((cu = 74 ∧ sp = 79) ∨ (cu = 79 ∧ sp = 74)) ∧ M 0 8 = cu ∧ M 0 9 = sp ∧ rws M cu L) ∧ M 0 10 = ow ∧ (M 3 1 = (out.length : Int) ∧ ∀ j : Nat, j < out.length → M 4 (j : Int) = (out.getD j 0 : Nat)) ∧ M 0 11 = pl ∧ tSt M a ∧ c0 M
/-- what the Looker, the Teller and the Fitter may write -/
def cfx (M M1 : zM) : Prop := ∀ c j : Int, ¬ (55 ≤ c ∧ c ≤ 73) → M1 c j = M c j
theorem cfx.rf {M : zM} : cfx M M := fun _ _ _ => rfl
theorem cfx.tr {M M1 M2 : zM} (h : cfx M M1) (h1 : cfx M1 M2) : cfx M M2 := fun c j n => (h1 c j n).trans (h c j n)
theorem rws.fr {M M1 : zM} {r : Int} {L : List (List Nat)} (h : rws M r L) (e : ∀ c j : Int, r + 1 ≤ c → c ≤ r + 4 → M1 c j = M c j) : rws M1 r L := by
  obtain ⟨h1, h2, h3, h4⟩ := h
  exact ⟨(e _ _ (by omega) (by omega)).trans h1, fun j hj => (e _ _ (by omega) (by omega)).trans (h2 j hj), (e _ _ (by omega) (by omega)).trans h3, fun i hi => (e _ _ (by omega) (by omega)).trans (h4 i hi)⟩
theorem cP.fx {S : zS} {n : Nat} {M M1 : zM} {ks : kST} {pf : Nat → Int} (h : cP S n M ks pf) (e : ∀ c j : Int, c = 5 ∨ c = 24 ∨ (30 ≤ c ∧ c < 55) ∨ 138 ≤ c → M1 c j = M c j) : cP S n M1 ks pf := by
  obtain ⟨h1, h2, h3⟩ := h
  refine ⟨fun k hk => ⟨fun c => (e _ _ (by decide)).trans ((h1 k hk).1 c), fun z hz => ?_⟩, ⟨(e _ _ (by decide)).trans h2.1, h2.2⟩, h3⟩
  obtain ⟨g1, g2, NU, U, g3⟩ := (h1 k hk).2 z hz
  have := g2.2.1
  exact ⟨(e _ _ (by decide)).trans g1, g2, NU, U, g3.fr (fun a h1 h2 => funext fun j => e a j (by omega))⟩
theorem cI.fx {S : zS} {n : Nat} {M M1 : zM} {tb : List Nat} {ks : kST} {L : List (List Nat)} {ow : Int} {out : List Nat} {pl : Int} {a a1 : Nat} (h : cI S n M tb ks L ow out pl a) (f : cfx M M1) (ha : tSt M1 a1) : cI S n M1 tb ks L ow out pl a1 := by
  obtain ⟨h1, ⟨pf, h2⟩, h3, ⟨cu, sp, h4, h5, h6, h7⟩, h8, h9, h10, h11, h12⟩ := h
  refine ⟨h1, ⟨pf, h2.fx (fun c j hc => f c j (by omega))⟩, ⟨(f _ _ (by decide)).trans h3.1, fun j hj => (f _ _ (by omega)).trans (h3.2 j hj)⟩, ⟨cu, sp, h4, (f _ _ (by decide)).trans h5, (f _ _ (by decide)).trans h6, h7.fr (fun c j c1 c2 => f c j (by omega))⟩, (f _ _ (by decide)).trans h8, ⟨(f _ _ (by decide)).trans h9.1, fun j hj => (f _ _ (by omega)).trans (h9.2 j hj)⟩, (f _ _ (by decide)).trans h10, ha, ?_⟩
  obtain ⟨z1, z2, z3, z4, z5, z6, z7⟩ := h12
  exact ⟨(f _ _ (by decide)).trans z1, (f _ _ (by decide)).trans z2, (f _ _ (by decide)).trans z3, (f _ _ (by decide)).trans z4, (f _ _ (by decide)).trans z5, (f _ _ (by decide)).trans z6, (f _ _ (by decide)).trans z7⟩
/-- what the class may write -/
def mfc (M M1 : zM) : Prop := ∀ c j : Int, 84 ≤ c → c ≤ 137 → M1 c j = M c j
theorem cfx.c {M M1 : zM} (h : cfx M M1) : mfc M M1 := fun c j h1 h2 => h c j (by omega)
section MA9
variable {l : Launch} {s0 : State} {a0 : Array Value} {G : va_G} {ca : Nat → ClassId} {d : Nat} {C : Nat × Nat} {S : zS} {M : zM} {Q : Int → zM → Prop} {X : zM → Prop} {tb : List Nat} {ks : kST} {L : List (List Nat)} {ow : Int} {out : List Nat} {pl : Int} {a n : Nat}
theorem c_fitsU (Γ : rt_Γ l s0 a0 G ca) (hd : 20 ≤ d) (hok : zok C) (hI : cI S n M tb ks L ow out pl a) (hD : dOk ks L ow) (ha : a < 80000) {v u : Nat} {A B : List Nat × List JR × Nat × SS} (hA : ks v = some A) (hB : ks u = some B)
    (kO : ∀ (M1 : zM) (b : Int), cI S n M1 tb ks L ow out pl (a + 1) → mfc M M1 → ((fFt A.2.2.2.ns B.2.2.2.ns (dBy B.2.1 B.2.2.2) (A.2.2.1, B.2.2.1) ∧ b = 1) ∨ (¬ fFt A.2.2.2.ns B.2.2.2.ns (dBy B.2.1 B.2.2.2) (A.2.2.1, B.2.2.1) ∧ b = 0)) → Q b M1) : zm_X9_fits l s0 G ca d C S v u M Q X := by
  obtain ⟨⟨hs, dy⟩, ⟨pf, hP⟩, -, -, -, -, -, hfS, -⟩ := id hI
  obtain ⟨hv, gA⟩ := hD.1 v A hA
  obtain ⟨hu, gB⟩ := hD.1 u B hB
  obtain ⟨p1, p2, NU, U, p3⟩ := (hP.1 v hv).2 A hA
  obtain ⟨q1, q2, NV, V, q3⟩ := (hP.1 u hu).2 B hB
  have kKA := gA.k
  have kKB := gB.k
  obtain ⟨⟨b0, hb0, hfS⟩, T, hT, hC9⟩ := hfS
  refine z_X9_fits Γ (by omega) hok hs dy.2.2.2.2.2 ?_
  unfold zt_X9_fits
  rw [p1, q1, w32_id (x := (v : Int)) (by omega) (by omega), w32_id (x := (u : Int)) (by omega) (by omega)]
  have hp0 := p2.2.1
  have hq0 := q2.2.1
  refine zIf_f (by omega) (zIf_f (by omega) (zIf_f (by omega) (zIf_t (by omega) ⟨⟨by omega, by omega⟩, ⟨by omega, by omega⟩, zIf_f (by omega) (zIf_f (by omega) ?_)⟩)))
  have fx : ∀ M1 : zM, xfr M M1 → cfx M M1 := fun M1 f c j hc => f c j (by omega) (by omega) (by omega) (by omega)
  have st : ∀ M1 : zM, xfr M M1 → fSn M1 (b0 + 1) → tSt M1 (a + 1) := fun M1 f g => ⟨⟨b0 + 1, by omega, g⟩, T, by omega, hC9.fr (fun c j h => f c j (by omega) (by omega) (by omega) (by omega))⟩
  obtain ⟨f1, f2, f3, f4, f5, f6, f7, f8⟩ := kKA.2.1
  obtain ⟨g1, g2, g3, g4, g5, g6, g7, g8⟩ := kKB.2.1
  refine f_fit (NU := NU) (NV := NV) (A := A.2.2.2) (B := B.2.2.2) (dB := dBy B.2.1 B.2.2.2) (rA := A.2.2.1) (rB := B.2.2.1) (a := b0) Γ (by omega) hok ⟨hs, p2.1, q2.1, dy.2.2.2.2.2, hp0, hq0⟩ f4 g4 kKA.2.2.2.1 kKB.2.2.2.1 f1 g1 (p3.g q3) p3.2.1.1 q3.2.1.1 f8 g8 hfS (by omega) (fun hf M1 x1 x2 => ?_) (fun hf M1 x1 x2 => ?_)
  · exact ⟨Or.inr rfl, kO M1 1 (hI.fx (fx M1 x1) (st M1 x1 x2)) (fx M1 x1).c (Or.inl ⟨hf, rfl⟩)⟩
  · exact ⟨Or.inl rfl, kO M1 0 (hI.fx (fx M1 x1) (st M1 x1 x2)) (fx M1 x1).c (Or.inr ⟨hf, rfl⟩)⟩
end MA9
