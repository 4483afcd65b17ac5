/-! ===== the class's read ===== -/
/-- what the class's read may write -/
def rfx (M M1 : zM) : Prop := ∀ c j : Int, ¬ (56 ≤ c ∧ c ≤ 68) → ¬ (c = 3 ∧ j = 1) → ¬ c = 4 → M1 c j = M c j
theorem rfx.c {M M1 : zM} (h : rfx M M1) : mfc M M1 := fun c j h1 h2 => h c j (by omega) (by omega) (by omega)
theorem tfx.r {M M1 : zM} (h : tfx M M1) : rfx M M1 := fun c j n1 _ _ => h c j n1
theorem rfx.tr {M M1 M2 : zM} (h : rfx M M1) (h1 : rfx M1 M2) : rfx M M2 := fun c j n1 n2 n3 => (h1 c j n1 n2 n3).trans (h c j n1 n2 n3)
theorem rfx.s {M M1 : zM} {a : Nat} (h : rfx M M1) (hs : fSn M a) : fSn M1 a := ⟨(h _ _ (by decide) (by decide) (by decide)).trans hs.1, fun c hc => by rw [h _ _ (by decide) (by omega) (by decide)]; exact hs.2 c hc⟩
theorem cI.rd {S : zS} {n : Nat} {M M1 : zM} {tb : List Nat} {ks : kST} {L : List (List Nat)} {ow : Int} {out out1 : List Nat} {pl : Int} {a a1 : Nat} (h : cI S n M tb ks L ow out pl a) (f : rfx M M1) (ho : M1 3 1 = (out1.length : Int) ∧ ∀ j : Nat, j < out1.length → M1 4 (j : Int) = (out1.getD j 0 : Nat)) (hs : tSt M1 a1) : cI S n M1 tb ks L ow out1 pl a1 := by
  obtain ⟨h1, ⟨pf, h2⟩, h3, ⟨cu, sp, h4, h5, h6, h7⟩, h8, h9, h10, h11, h12⟩ := h
  refine ⟨h1, ⟨pf, h2.fx (fun c j hc => f c j (by omega) (by omega) (by omega))⟩, ⟨(f _ _ (by decide) (by decide) (by decide)).trans h3.1, fun j hj => (f _ _ (by omega) (by omega) (by omega)).trans (h3.2 j hj)⟩, ⟨cu, sp, h4, (f _ _ (by decide) (by decide) (by decide)).trans h5, (f _ _ (by decide) (by decide) (by decide)).trans h6, h7.fr (fun c j c1 c2 => f c j (by omega) (by omega) (by omega))⟩, (f _ _ (by decide) (by decide) (by decide)).trans h8, ho, (f _ _ (by decide) (by decide) (by decide)).trans h10, hs, ?_⟩
  obtain ⟨z1, z2, z3, z4, z5, z6, z7⟩ := h12
  exact ⟨(f _ _ (by decide) (by decide) (by decide)).trans z1, (f _ _ (by decide) (by decide) (by decide)).trans z2, (f _ _ (by decide) (by decide) (by decide)).trans z3, (f _ _ (by decide) (by decide) (by decide)).trans z4, (f _ _ (by decide) (by decide) (by decide)).trans z5, (f _ _ (by decide) (by decide) (by decide)).trans z6, (f _ _ (by decide) (by decide) (by decide)).trans z7⟩
section NB9x
variable {l : Launch} {s0 : State} {a0 : Array Value} {G : va_G} {ca : Nat → ClassId} {d : Nat} {C : Nat × Nat} {S : zS} {M : zM} {Q : Int → zM → Prop} {X : zM → Prop} {tb : List Nat} {ks : kST} {L : List (List Nat)} {ow : Int} {out : List Nat} {pl : Int} {a n : Nat} {B : List Nat × List JR × Nat × SS} {os : Nat → tU}
theorem c_readU (Γ : rt_Γ l s0 a0 G ca) (hd : 304 ≤ d) (hok : zok C) (hI : cI S n M tb ks L ow out pl a) (hD : dOk ks L ow) (ha : a < 80000) {u i : Nat} (hB : ks u = some B) (hi : i < L.length) (ho : ∀ (k : Nat) (z : List Nat × List JR × Nat × SS), ow = (k : Int) → ks k = some z → ∀ (i : Nat) (bs : List Nat), L[i]? = some bs → tT z.2.2.2.ns B.2.2.2.ns (dBy B.2.1 B.2.2.2) 32 z.2.2.1 B.2.2.1 bs (os i))
    (kY : gdR (os i) → ∀ M1 : zM, cI S n M1 tb ks L ow (os i).1 pl (a + 1) → mfc M M1 → Q ((os i).1.length : Nat) M1) (kN : ¬ gdR (os i) → ∀ (M1 : zM) (v : Int), cI S n M1 tb ks L ow [] pl (a + 1) → mfc M M1 → ((4096 < (os i).1.length ∧ v = -31) ∨ ((os i).1.length ≤ 4096 ∧ v = -20)) → Q v M1) : zm_X9_read l s0 G ca d C S u i M Q X := by
  obtain ⟨⟨hs, dy⟩, ⟨pf, hP⟩, -, ⟨cu, sp, hcs, h8, h9, hL⟩, h10, -, -, hfS, -⟩ := id hI
  obtain ⟨hu, gB⟩ := hD.1 u B hB
  obtain ⟨q1, q2, q3⟩ := (hP.1 u hu).2 B hB
  have hq0 := q2.2.1
  have h56 := dy.2.2.2.2.1
  have hl1 := hD.2.2.1
  have hl2 := hD.2.2.2
  have hrw : zRw S cu := by
    rcases hcs with h | h
    · rw [h.1]; exact (zRw_of hs).1
    · rw [h.1]; exact (zRw_of hs).2
  refine z_X9_read Γ (by omega) hok hs h56 ?_
  unfold zt_X9_read
  rw [q1, h8, hL.2.2.1, zcut0, w32_id (x := (u : Int)) (by omega) (by omega), w32_id (x := (i : Int)) (by omega) (by omega), w32_id (x := ((L.length : Nat) : Int)) (by omega) (by omega)]
  refine zIf_f (by omega) (zIf_f (by omega) (zIf_f (by omega) ⟨hrw, zIf_t (by omega) ⟨⟨by omega, by omega⟩, zIf_f (by omega) ?_⟩⟩))
  obtain ⟨⟨b0, hb0, hfS0⟩, T, hT, hC9⟩ := id hfS
  have f0 : rfx M (zu M 3 1 0) := fun c j _ n2 _ => zu_ne n2
  have hI0 : cI S n (zu M 3 1 0) tb ks L ow [] pl a := hI.rd f0 ⟨zu_s _ _ _ _, fun j hj => absurd hj (Nat.not_lt_zero _)⟩ (hfS.fr (fun c j h => zu_a (by omega)))
  obtain ⟨bs, hbs⟩ : ∃ bs, L[i]? = some bs := ⟨_, List.getElem?_eq_getElem hi⟩
  refine c_wrt Γ hok hI0 hD (fun e1 e2 => by rw [e2] at hi; exact absurd hi (Nat.not_lt_zero _)) (fun k z e1 e2 e3 p p2 p3 => ?_)
  obtain ⟨-, gz⟩ := hD.1 k z e2
  have qz : ∃ NU U : Nat, pS (zu M 3 1 0) (pf u) B.2.1 B.2.2.1 B.2.2.2 NU U := by
    obtain ⟨NV, V, q4⟩ := q3
    exact ⟨NV, V, q4.fr (fun b h1 h2 => funext fun j => zu_a (by omega))⟩
  obtain ⟨NV, V, q4⟩ := id qz
  have hp0 := p2.2.1
  have hg := gB.k
  refine t_prep (p := p) (q := pf u) (A := z.2.2.2) (B := B.2.2.2) Γ (by omega) hok hs q2.1 h56 hq0 hg.2.1.2.2.2.1 q4.2.1.2 q4.1.2.2.2.1 (fun M1 f1 f4 f5 f6 => ?_)
  have t1 : tfx (zu M 3 1 0) M1 := fun c j hc => f1 c j (by omega) (by omega)
  have e08 : M1 0 8 = cu := by rw [t1 _ _ (by decide), zu_a (by decide)]; exact h8
  rw [e08]
  have hL1 : rws M1 cu L := hL.fr (fun c j c1 c2 => by rw [t1 c j (by omega), zu_a (by omega)])
  have pA1 : ∃ NU U : Nat, pS M1 p z.2.1 z.2.2.1 z.2.2.2 NU U := by
    obtain ⟨NU, U, h⟩ := p3
    exact ⟨NU, U, h.fr (fun b h1 h2 => funext fun j => t1 b j (by omega))⟩
  have pB1 : ∃ NU U : Nat, pS M1 (pf u) B.2.1 B.2.2.1 B.2.2.2 NU U := ⟨NV, V, q4.fr (fun b h1 h2 => funext fun j => t1 b j (by omega))⟩
  refine c_rowU (p := p) (q := pf u) (A := z) (B := B) Γ (by omega) hok hs h56 p2 q2 (by omega) gz gB pA1 pB1 f4 f5 hL1 hl1 hl2 hbs (ho k z e1 e2 i bs hbs) f6 (T := T) (hC9.fr (fun c j h => (f1 c j (by omega) (by omega)).trans (zu_a (by omega)))) (by omega) (fun v M2 w1 w4 w5 w6 w9 w7 => ?_)
  have t2 : tfx (zu M 3 1 0) M2 := t1.tr w1
  have r2 : rfx M M2 := f0.tr t2.r
  have s2 : tSt M2 (a + 1) := ⟨⟨b0, by omega, r2.s hfS0⟩, T + 1, by omega, w9⟩
  have hI2 : cI S n M2 tb ks L ow [] pl (a + 1) := hI0.rd t2.r ⟨(t2 _ _ (by decide)).trans (zu_s _ _ _ _), fun j hj => absurd hj (Nat.not_lt_zero _)⟩ s2
  rcases w7.c with ⟨y1, rfl, y3, y4⟩ | ⟨y1, y2⟩
  · refine zIf_t (by decide) ?_
    refine zd_X7_told Γ hok hs h56 ?_
    unfold ztd_X7_told
    refine zd_X7_told Γ hok hs h56 ?_
    unfold ztd_X7_told
    have c57 : zCe S 57 58 4096 := ⟨by decide, by decide, by decide, hs 57 _ rfl, hs 58 _ rfl⟩
    have c3 : zCe S 3 4 4096 := ⟨by decide, by decide, by decide, hs 3 _ rfl, hs 4 _ rfl⟩
    refine ⟨58, 4096, c57, ?_⟩
    rw [y3]
    have h31 : M2 3 1 = ((0 : Nat) : Int) := (t2 _ _ (by decide)).trans (zu_s _ _ _ _)
    have key := c_addP (l := l) (s0 := s0) (a0 := a0) (G := G) (ca := ca) (d := d - 1) (C := C) (S := S) (c := 3) (a := 4) (n := 4096) (M := M2) (o := 57) (ad := 58) (nd := 4096) (f := 0) (u := 0) (bs := (os i).1) (Q := fun _ M3 => Q (M3 3 1) M3) (X := X) Γ hok c3 (by decide) c57 h31 (by decide) (by rw [Nat.zero_add]; exact y1.1) (fun j hj => by rw [Nat.zero_add]; exact y4 j hj) (fun _ M3 g => ?_) (fun h => ?_)
    · rw [Nat.zero_add] at key
      exact key
    · obtain ⟨g1, g2, g3⟩ := g
      rw [Nat.zero_add] at g1
      have r3 : rfx M2 M3 := fun c j n1 n2 n3 => g3 c j n2 (fun e => n3 e.1)
      show Q (M3 3 1) M3
      rw [g1]
      refine kY y1 M3 (hI2.rd r3 ⟨g1, fun j hj => ?_⟩ (s2.fr (fun c j h => g3 c j (by omega) (by omega)))) (r2.tr r3).c
      have := g2 j hj
      rw [Nat.zero_add] at this
      exact this
    · have := y1.1
      rw [Nat.zero_add] at h
      omega
  · have hv0 : ¬ w32 v = 0 := by
      rcases y2 with ⟨-, rfl⟩ | ⟨-, rfl⟩ <;> decide
    exact zIf_f hv0 (kN y1 M2 v hI2 r2.c y2)
end NB9x
