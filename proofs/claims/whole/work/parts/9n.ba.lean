/-! ===== the reference's read ===== -/
theorem mI.rd {M M1 : zM} {tb : List Nat} {ks : kST} {L : List (List Nat)} {ow : Int} {out out1 : List Nat} {pl : Int} (h : mI M tb ks L ow out pl) (e : ∀ c j : Int, (c = 84 ∧ (j = 2 ∨ j = 3 ∨ j = 9 ∨ j = 10 ∨ j = 11)) ∨ c = 85 ∨ (130 ≤ c ∧ c ≤ 132) → M1 c j = M c j) (ho : M1 84 13 = (out1.length : Int) ∧ ∀ j : Nat, j < out1.length → M1 133 (j : Int) = w8 (out1.getD j 0 : Nat)) : mI M1 tb ks L ow out1 pl := by
  obtain ⟨h1, h2, h3, h4, h5⟩ := h
  exact ⟨⟨(e _ _ (by decide)).trans h1.1, fun j hj => (e _ _ (by omega)).trans (h1.2 j hj)⟩, fun k hk => ⟨fun c => (e _ _ (by omega)).trans ((h2 k hk).1 c), fun z hz => ((h2 k hk).2 z hz).fr (fun a j ha => e _ _ (by omega))⟩, ⟨(e _ _ (by decide)).trans h3.1, (e _ _ (by decide)).trans h3.2.1, (e _ _ (by decide)).trans h3.2.2.1, fun j hj => (e _ _ (by omega)).trans (h3.2.2.2 j hj)⟩, ho, (e _ _ (by decide)).trans h5⟩
section NBa
variable {l : Launch} {s0 : State} {a0 : Array Value} {G : va_G} {ca : Nat → ClassId} {d : Nat} {C : Nat × Nat} {S : zS} {M M0 : zM} {Q : Nat × Nat → Int → zM → Prop} {tb : List Nat} {ks : kST} {L : List (List Nat)} {ow : Int} {out : List Nat} {pl : Int} {os : Nat → tU}
theorem m_cpL (Γ : rt_Γ l s0 a0 G ca) (hd : 1 ≤ d) (hok : zok C) (hs : zSok S) {o : List Nat} (hl : o.length ≤ 4096) (hQ : ∀ M1 : zM, (∀ c j : Int, ¬ c = 133 → M1 c j = M0 c j) → (∀ j : Nat, j < o.length → M1 133 (j : Int) = w8 (o.getD j 0 : Nat)) → Q C (o.length : Nat) M1) (h13 : M0 84 13 = (o.length : Int)) (h128 : ∀ j : Nat, j < o.length → M0 134 (j : Int) = w8 (o.getD j 0 : Nat)) {w0 : rt_Wd} : ∀ (c j : Nat) (M : zM), j + c = o.length → (∀ c j : Int, ¬ c = 133 → M c j = M0 c j) → (∀ i : Nat, i < j → M 133 (i : Int) = w8 (o.getD i 0 : Nat)) → zg_X11_read__124 l s0 G ca d C S w0 j M Q := by
  intro c
  induction c with
  | zero =>
    intro j M hj hf h
    have : j = o.length := by omega
    subst this
    refine zs_X11_read__124 Γ hd hok hs ?_
    unfold zt_X11_read__124
    rw [hf _ _ (by decide), h13]
    exact zIf_t (Int.le_refl _) (hQ M hf h)
  | succ c ih =>
    intro j M hj hf h
    refine zs_X11_read__124 Γ hd hok hs ?_
    unfold zt_X11_read__124
    rw [hf _ _ (by decide), h13, w32_id (x := ((o.length : Nat) : Int)) (by omega) (by omega), w32_id (x := (j : Int)) (by omega) (by omega), hf 134 j (by decide), h128 j (by omega), w8_w8]
    refine zIf_f (by omega) ⟨⟨by omega, by omega⟩, ?_⟩
    rw [show (j : Int) + 1 = ((j + 1 : Nat) : Int) by omega]
    refine ih (j + 1) _ (by omega) (fun c k n => (zu_a n).trans (hf c k n)) (fun i hi => ?_)
    by_cases ci : i = j
    · subst ci
      exact zu_s _ _ _ _
    · rw [zu_k (by omega)]
      exact h i (by omega)
theorem m_readU (Γ : rt_Γ l s0 a0 G ca) (hd : 404 ≤ d) (hb : zokB C) (hs : zSok S) {p q : Int} (hp : -2147483648 ≤ p ∧ p < 2147483648) (hq : -2147483648 ≤ q ∧ q < 2147483648) (hI : mI M tb ks L ow out pl) (hD : dOk ks L ow)
    (k1 : ¬ ((0 ≤ p ∧ p < 8) ∧ 0 ≤ q ∧ q < (L.length : Int)) → ∀ M1 : zM, mI M1 tb ks L ow out pl → mfm M M1 → M1 84 0 = 1 → Q C 0 M1)
    (k2 : (0 ≤ p ∧ p < 8) → (0 ≤ q ∧ q < (L.length : Int)) → ks p.toNat = none → ∀ M1 : zM, mI M1 tb ks L ow out pl → mfm M M1 → M1 84 0 = 2 → Q C 0 M1)
    (k0 : ∀ (u i : Nat) (B : List Nat × List JR × Nat × SS), p = (u : Int) → q = (i : Int) → i < L.length → ks u = some B → (∀ (k : Nat) (z : List Nat × List JR × Nat × SS), ow = (k : Int) → ks k = some z → ∀ (i : Nat) (bs : List Nat), L[i]? = some bs → tT z.2.2.2.ns B.2.2.2.ns (dBy B.2.1 B.2.2.2) 32 z.2.2.1 B.2.2.1 bs (os i)) ∧ (gdR (os i) → ∀ (C1 : Nat × Nat) (M1 : zM), zcl 3 C C1 → mI M1 tb ks L ow (os i).1 pl → mfm M M1 → M1 84 0 = 0 → Q C1 ((os i).1.length : Nat) M1) ∧ (¬ gdR (os i) → ∀ (C1 : Nat × Nat) (M1 : zM) (v : Int), zcl 3 C C1 → mI M1 tb ks L ow [] pl → mfm M M1 → M1 84 0 = 0 → ((4096 < (os i).1.length ∧ v = -31) ∨ ((os i).1.length ≤ 4096 ∧ v = -20)) → Q C1 v M1)) : zu_X11_read_ l s0 G ca d C S p q M Q := by
  have hok : zok C := ⟨by have := hb.1; omega, by have := hb.2; omega⟩
  have f1 : ∀ v : Int, mI (zu M 84 0 v) tb ks L ow out pl ∧ mfm M (zu M 84 0 v) ∧ zu M 84 0 v 84 0 = v := fun v => ⟨hI.fr (fun c j h => zu_ne (fun e => by omega)), mfm.rf.zu (by decide), zu_s _ _ _ _⟩
  have hl1 := hD.2.2.1
  have hl2 := hD.2.2.2
  refine z_X11_read_ Γ (by omega) hok hs ?_
  unfold zt_X11_read_ zt_X11_read__21
  have bad : ¬ ((0 ≤ p ∧ p < 8) ∧ 0 ≤ q ∧ q < (L.length : Int)) → zt_X11_read__26 l s0 G ca d C S (zw s0 ca C S M) p q 1 M Q := fun hn => by
    unfold zt_X11_read__26 zt_X11_read__46 zt_X11_read__47
    refine zIf_f (by decide) ?_
    exact m_refd Γ (by omega) hok hs (Or.inr rfl) (Or.inl rfl) (fun h => absurd h (by decide)) (fun _ => zIf_f (by decide) (k1 hn _ (f1 1).1 (f1 1).2.1 (f1 1).2.2)) (fun h => absurd h (by decide))
  refine m_isP Γ (by omega) hok hs hp (fun a1 a2 => zIf_f (by decide) ?_) (fun hn => zIf_t (by decide) (bad (fun h => hn h.1)))
  rw [hI.2.2.1.2.1]
  refine m_within Γ hok hs hq (by decide) ⟨by omega, by omega⟩ (fun b1 b2 => zIf_f (by decide) ?_) (fun hn => zIf_t (by decide) (bad (fun h => hn (by omega))))
  unfold zt_X11_read__26 zt_X11_read__46
  refine zIf_t (by decide) ⟨⟨a1, a2⟩, ?_⟩
  obtain ⟨u, rfl⟩ : ∃ u : Nat, p = (u : Int) := ⟨p.toNat, by omega⟩
  obtain ⟨i, rfl⟩ : ∃ i : Nat, q = (i : Int) := ⟨q.toNat, by omega⟩
  obtain ⟨hu0, hu1⟩ := hI.2.1 u (by omega)
  unfold zt_X11_read__47
  cases hku : ks u with
  | none =>
    rw [hu0 hku]
    refine zIf_f (by decide) ?_
    exact m_refd Γ (by omega) hok hs (Or.inl rfl) (Or.inr rfl) (fun _ h => absurd h (by decide)) (fun h => absurd h (by decide)) (fun _ _ => zIf_f (by decide) (k2 ⟨a1, a2⟩ ⟨b1, by omega⟩ (by rw [Int.toNat_natCast]; exact hku) _ (f1 2).1 (f1 2).2.1 (f1 2).2.2))
  | some B =>
    have kB := hu1 B hku
    have gB := (hD.1 u B hku).2
    have lB := gB.1.1
    have hil : i < L.length := by omega
    obtain ⟨ho, kY, kN⟩ := k0 u i B rfl rfl hil hku
    rw [kB.1, w32_id (by omega) (by omega)]
    refine zIf_t (by omega) ?_
    refine m_refd Γ (by omega) hok hs (Or.inl rfl) (Or.inl rfl) (fun _ _ => ?_) (fun h => absurd h (by decide)) (fun _ h => absurd h (by decide))
    refine zIf_t (by decide) ?_
    obtain ⟨i1, i2, i3⟩ := f1 0
    have e9 : zu M 84 0 0 84 9 = ow := i1.2.2.1.1
    rw [e9]
    rcases hD.2.1 with ⟨e1, e2⟩ | ⟨k, z, e1, e2, e3⟩
    · rw [e2] at hil
      exact absurd hil (Nat.not_lt_zero _)
    · obtain ⟨hk, gz⟩ := hD.1 k z e2
      have kz := (hI.2.1 k hk).2 z e2
      rw [e1]
      refine m_two (Q := fun C2 _ M2 => zok C2 ∧ _) Γ (by omega) hb hs hk (by omega) gz gB (kz.fr (fun a j h => zu_a (by omega))) (kB.fr (fun a j h => zu_a (by omega))) (fun C1 M1 c1 hU hrA hrB hfx => ?_)
      have hok1 : zok C1 := c1.ok hb (by decide)
      refine ⟨hok1, ?_⟩
      -- the memory when the rows ahead are passed over
      have fr : ∀ (w : Int) (c j : Int), ¬ (c = 84 ∧ (j = 24 ∨ j = 13 ∨ j = 15)) → zu (zu (zu (zu M1 84 24 0) 84 13 0) 84 15 0) 84 24 w c j = M1 c j := fun w c j n => by
        rw [zu_ne (fun e => n ⟨e.1, by omega⟩), zu_ne (fun e => n ⟨e.1, by omega⟩), zu_ne (fun e => n ⟨e.1, by omega⟩), zu_ne (fun e => n ⟨e.1, by omega⟩)]
      have kz2 := gz.k
      have kKA : kF z.2.2.2 ∧ kOk z.2.2.2 ∧ kPs z.2.2.2 := ⟨kz2.2.1.2.2.2.1, kz2.2.1.1, kz2.2.2.2.2.2.1⟩
      have h13 : ∀ w : Int, zu (zu (zu (zu M1 84 24 0) 84 13 0) 84 15 0) 84 24 w 84 13 = 0 := fun w => by rw [zu_k (by decide), zu_k (by decide), zu_s]
      have h15 : ∀ w : Int, zu (zu (zu (zu M1 84 24 0) 84 13 0) 84 15 0) 84 24 w 84 15 = 0 := fun w => by rw [zu_k (by decide), zu_s]
      have f3 : ∀ c j : Int, ¬ (c = 84 ∧ (j = 24 ∨ j = 13 ∨ j = 15)) → zu (zu (zu M1 84 24 0) 84 13 0) 84 15 0 c j = M1 c j := fun c j n => by
        rw [zu_ne (fun e => n ⟨e.1, by omega⟩), zu_ne (fun e => n ⟨e.1, by omega⟩), zu_ne (fun e => n ⟨e.1, by omega⟩)]
      have hR1 : rC (zu (zu (zu M1 84 24 0) 84 13 0) 84 15 0) 86 z.2.1 z.2.2.2 := hU.2.1.m (fun a j h1 h2 => f3 a j (by omega))
      have hrd1 : rdW (zu (zu (zu M1 84 24 0) 84 13 0) 84 15 0) 0 L.flatten := fun x hx => by
        rw [f3 _ _ (by omega), hfx _ _ (by omega)]
        exact i1.2.2.1.2.2.2 x hx
      refine m_pss (rA := z.2.2.1) (L := L) Γ (by omega) hok1 ⟨hs, (zTx_of hs).1, by decide, by decide⟩ kKA.1 kKA.2.1 kKA.2.2 hR1 ((f3 _ _ (by omega)).trans hrA) kz2.2.1.2.2.2.2.2.2.2 e3 hrd1 (by omega) (by omega) (by omega) (by rw [zu_k (by decide), zu_k (by decide), zu_s]) ?_
      obtain ⟨bs, hbs⟩ : ∃ bs, L[i]? = some bs := ⟨_, List.getElem?_eq_getElem hil⟩
      have hU4 := fun w : Int => (⟨hU.1.m (fun a j h1 h2 => fr w a j (by omega)), hU.2.1.m (fun a j h1 h2 => fr w a j (by omega)), hU.2.2.1.m (fun a j h1 h2 => fr w a j (by omega)), hU.2.2.2.m (fun a j h1 h2 => fr w a j (by omega))⟩ : uM (zu (zu (zu (zu M1 84 24 0) 84 13 0) 84 15 0) 84 24 w) 86 108 z.2.1 B.2.1 z.2.2.2 B.2.2.2)
      have hrd4 : ∀ w : Int, rdW (zu (zu (zu (zu M1 84 24 0) 84 13 0) 84 15 0) 84 24 w) 0 L.flatten := fun w x hx => by
        rw [fr w _ _ (by omega), hfx _ _ (by omega)]
        exact i1.2.2.1.2.2.2 x hx
      have hr31 := fun w : Int => (fr w 86 31 (by omega)).trans hrA
      have hr32 := fun w : Int => (fr w 108 31 (by omega)).trans hrB
      have h24 : zu (zu (zu (zu M1 84 24 0) 84 13 0) 84 15 0) 84 24 ((L.take i).flatten.length : Nat) 84 24 = ((L.take i).flatten.length : Int) := zu_s _ _ _ _
      replace hU4 := hU4 ((L.take i).flatten.length : Nat)
      replace hrd4 := hrd4 ((L.take i).flatten.length : Nat)
      replace hr31 := hr31 ((L.take i).flatten.length : Nat)
      replace hr32 := hr32 ((L.take i).flatten.length : Nat)
      replace h13 := h13 ((L.take i).flatten.length : Nat)
      replace h15 := h15 ((L.take i).flatten.length : Nat)
      replace fr := fr ((L.take i).flatten.length : Nat)
      generalize zu (zu (zu (zu M1 84 24 0) 84 13 0) 84 15 0) 84 24 ((L.take i).flatten.length : Nat) = M4 at fr hU4 hrd4 hr31 hr32 h13 h15 h24 ⊢
      have i4 : ∀ M5 : zM, (∀ c j : Int, ¬ (c = 84 ∧ (j = 13 ∨ j = 15 ∨ j = 17 ∨ j = 18 ∨ j = 24 ∨ j = 25)) → ¬ c = 133 → ¬ c = 134 → M5 c j = M4 c j) → ∀ out1 : List Nat, (M5 84 13 = (out1.length : Int) ∧ ∀ j : Nat, j < out1.length → M5 133 (j : Int) = w8 (out1.getD j 0 : Nat)) → mI M5 tb ks L ow out1 pl ∧ mfm M M5 ∧ M5 84 0 = 0 := fun M5 hf out1 h1 => by
        have base : ∀ c j : Int, ¬ (c = 84 ∧ (j = 13 ∨ j = 15 ∨ j = 17 ∨ j = 18 ∨ j = 24 ∨ j = 25)) → ¬ c = 133 → ¬ c = 134 → (c < 86 ∨ 130 ≤ c) → M5 c j = zu M 84 0 0 c j := fun c j n1 n2 n3 n4 => by
          rw [hf c j n1 n2 n3, fr c j (fun e => n1 ⟨e.1, by omega⟩), hfx c j n4]
        refine ⟨i1.rd (fun c j h => base c j (by omega) (by omega) (by omega) (by omega)) h1, fun c j h => ?_, ?_⟩
        · rw [base c j (by omega) (by omega) (by omega) (by omega)]
          exact i2 c j h
        · rw [base _ _ (by decide) (by decide) (by decide) (by decide)]
          exact i3
      refine m_rowU (A := z) (B := B) (o := os i) (bs := bs) (L := L) (i := i) Γ (by omega) hok1 hs gz gB hU4 hr31 hr32 hrd4 hl1 hbs (ho k z e1 e2 i bs hbs) h15 h24 (fun hgd M5 f5 _ h15' h128 => ?_) (fun hgd C2 M5 v c2 f5 hv => ?_)
      · refine ⟨hok1, zIf_t (by decide) ?_⟩
        rw [h15']
        refine m_cpL (M0 := zu M5 84 13 ((os i).1.length : Int)) (o := (os i).1) Γ (by omega) hok1 hs hgd.1 (fun M6 g1 g2 => ?_) (zu_s _ _ _ _) (fun j hj => by rw [zu_a (by decide)]; exact h128 j hj) (os i).1.length 0 _ (Nat.zero_add _) (fun _ _ _ => rfl) (fun j hj => absurd hj (Nat.not_lt_zero _))
        have hf6 : ∀ c j : Int, ¬ (c = 84 ∧ (j = 13 ∨ j = 15 ∨ j = 17 ∨ j = 18 ∨ j = 24 ∨ j = 25)) → ¬ c = 133 → ¬ c = 134 → M6 c j = M4 c j := fun c j n1 n2 n3 => by
          rw [g1 c j n2, zu_ne (fun e => n1 ⟨e.1, by omega⟩), f5 c j (fun e => n1 ⟨e.1, by omega⟩) n3]
        obtain ⟨x1, x2, x3⟩ := i4 M6 hf6 (os i).1 ⟨by rw [g1 _ _ (by decide), zu_s], g2⟩
        exact kY hgd C1 M6 ⟨c1.1, by have := c1.2.1; omega, c1.2.2.1, by have := c1.2.2.2; omega⟩ x1 x2 x3
      · have hc2 : zcl 3 C C2 := c1.tr c2
        have hv0 : ¬ 0 ≤ w32 v := by
          rcases hv with ⟨-, rfl⟩ | ⟨-, rfl⟩ <;> decide
        refine ⟨hc2.ok hb (by decide), zIf_f hv0 ?_⟩
        have hf6 : ∀ c j : Int, ¬ (c = 84 ∧ (j = 13 ∨ j = 15 ∨ j = 17 ∨ j = 18 ∨ j = 24 ∨ j = 25)) → ¬ c = 133 → ¬ c = 134 → M5 c j = M4 c j := fun c j n1 n2 n3 => f5 c j (fun e => n1 ⟨e.1, by omega⟩) n3
        obtain ⟨x1, x2, x3⟩ := i4 M5 hf6 [] ⟨(f5 _ _ (by decide) (by decide)).trans h13, fun j hj => absurd hj (Nat.not_lt_zero _)⟩
        exact kN hgd C2 M5 v hc2 x1 x2 x3 hv
end NBa
