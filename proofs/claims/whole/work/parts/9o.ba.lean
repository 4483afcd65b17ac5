/-! ===== the reference's load ===== -/
theorem mI.ld {M M1 : zM} {tb tb1 : List Nat} {ks : kST} {L L1 : List (List Nat)} {ow ow1 : Int} {out : List Nat} {pl pl1 : Int} (h : mI M tb ks L ow out pl) (e : ∀ c j : Int, (c = 84 ∧ j = 13) ∨ (130 ≤ c ∧ c ≤ 131) ∨ c = 133 → M1 c j = M c j) (ht : M1 84 2 = (tb1.length : Int) ∧ ∀ j : Nat, j < tb1.length → M1 85 (j : Int) = w8 (tb1.getD j 0 : Nat)) (hr : M1 84 9 = ow1 ∧ M1 84 10 = (L1.length : Int) ∧ M1 84 11 = (L1.flatten.length : Int) ∧ rdW M1 0 L1.flatten) (hp : M1 84 3 = pl1) : mI M1 tb1 ks L1 ow1 out pl1 := by
  obtain ⟨h1, h2, h3, h4, h5⟩ := h
  exact ⟨ht, fun k hk => ⟨fun c => (e _ _ (by omega)).trans ((h2 k hk).1 c), fun z hz => ((h2 k hk).2 z hz).fr (fun a j ha => e _ _ (by omega))⟩, hr, ⟨(e _ _ (by decide)).trans h4.1, fun j hj => (e _ _ (by omega)).trans (h4.2 j hj)⟩, hp⟩
section OBA
variable {l : Launch} {s0 : State} {a0 : Array Value} {G : va_G} {ca : Nat → ClassId} {d : Nat} {C : Nat × Nat} {S : zS} {M M0 : zM} {Q : Nat × Nat → Int → zM → Prop} {tb : List Nat} {ks : kST} {L : List (List Nat)} {ow : Int} {out : List Nat} {pl : Int}
theorem m_cp2L (Γ : rt_Γ l s0 a0 G ca) (hd : 1 ≤ d) (hok : zok C) (hs : zSok S) {v : Int} {o : List Nat} (hl : o.length ≤ 4096) (hQ : ∀ M1 : zM, (∀ c j : Int, ¬ c = 132 → M1 c j = M0 c j) → rdW M1 0 o → Q C v (zu M1 84 2 0)) (h13 : M0 84 15 = (o.length : Int)) (h128 : ∀ j : Nat, j < o.length → M0 134 (j : Int) = w8 (o.getD j 0 : Nat)) {w0 : rt_Wd} : ∀ (c j : Nat) (M : zM), j + c = o.length → (∀ c j : Int, ¬ c = 132 → M c j = M0 c j) → (∀ i : Nat, i < j → M 132 (i : Int) = w8 (o.getD i 0 : Nat)) → zg_X11_load_87 l s0 G ca d C S w0 v j M Q := by
  intro c
  induction c with
  | zero =>
    intro j M hj hf h
    have : j = o.length := by omega
    subst this
    refine zs_X11_load_87 Γ hd hok hs ?_
    unfold zt_X11_load_87
    rw [hf _ _ (by decide), h13]
    exact zIf_t (Int.le_refl _) (hQ M hf (fun i hi => by rw [Nat.zero_add]; exact h i hi))
  | succ c ih =>
    intro j M hj hf h
    refine zs_X11_load_87 Γ hd hok hs ?_
    unfold zt_X11_load_87
    rw [hf _ _ (by decide), h13, w32_id (x := ((o.length : Nat) : Int)) (by omega) (by omega), w32_id (x := (j : Int)) (by omega) (by omega), hf 134 j (by decide), h128 j (by omega), w8_w8]
    refine zIf_f (by omega) ⟨⟨by omega, by omega⟩, ?_⟩
    rw [show (j : Int) + 1 = ((j + 1 : Nat) : Int) by omega]
    refine ih (j + 1) _ (by omega) (fun c k n => (zu_a n).trans (hf c k n)) (fun i hi => ?_)
    by_cases ci : i = j
    · subst ci
      exact zu_s _ _ _ _
    · rw [zu_k (by omega)]
      exact h i (by omega)
theorem m_loadU (Γ : rt_Γ l s0 a0 G ca) (hd : 404 ≤ d) (hb : zokB C) (hs : zSok S) {p : Int} (hp : -2147483648 ≤ p ∧ p < 2147483648) (hI : mI M tb ks L ow out pl) (hD : dOk ks L ow) (htb : tb.length ≤ 4000 ∧ ∀ x ∈ tb, x < 256)
    (k1 : ¬ (0 ≤ p ∧ p < 8) → ∀ M1 : zM, mI M1 tb ks L ow out pl → mfm M M1 → M1 84 0 = 1 → Q C 0 M1)
    (k2 : (0 ≤ p ∧ p < 8) → ks p.toNat = none → ∀ M1 : zM, mI M1 tb ks L ow out pl → mfm M M1 → M1 84 0 = 2 → Q C 0 M1)
    (k0 : ∀ (u : Nat) (A : List Nat × List JR × Nat × SS), p = (u : Int) → ks u = some A →
      (∀ e : Nat × Nat, yAll A.2.2.2.ns tb A.2.2.1 = .error (some e) → ∀ (C1 : Nat × Nat) (M1 : zM), zcl 2 C C1 → mI M1 tb ks L ow out e.2 → mfm M M1 → M1 84 0 = 0 → Q C1 (-(e.1 : Int)) M1) ∧
      (yAll A.2.2.2.ns tb A.2.2.1 = .error none → ∀ (C1 : Nat × Nat) (M1 : zM), zcl 2 C C1 → mI M1 tb ks L ow out (-1) → mfm M M1 → M1 84 0 = 0 → Q C1 (-34) M1) ∧
      ∀ L1 : List (List Nat), yAll A.2.2.2.ns tb A.2.2.1 = .ok L1 → ∀ (C1 : Nat × Nat) (M1 : zM), zcl 2 C C1 → mI M1 [] ks L1 u out (-1) → mfm M M1 → M1 84 0 = 0 → Q C1 (L1.length : Nat) M1) : zu_X11_load l s0 G ca d C S p M Q := by
  have hok : zok C := ⟨by have := hb.1; omega, by have := hb.2; omega⟩
  have f1 : ∀ v : Int, mI (zu M 84 0 v) tb ks L ow out pl ∧ mfm M (zu M 84 0 v) ∧ zu M 84 0 v 84 0 = v := fun v => ⟨hI.fr (fun c j h => zu_ne (fun e => by omega)), mfm.rf.zu (by decide), zu_s _ _ _ _⟩
  refine z_X11_load Γ (by omega) hok hs ?_
  unfold zt_X11_load zt_X11_load_13 zt_X11_load_33
  refine m_isP Γ (by omega) hok hs hp (fun a1 a2 => zIf_f (by decide) ?_) (fun hn => zIf_t (by decide) ?_)
  · refine m_isP Γ (by omega) hok hs hp (fun _ _ => zIf_f (by decide) ⟨⟨a1, a2⟩, ?_⟩) (fun a => absurd ⟨a1, a2⟩ a)
    obtain ⟨u, rfl⟩ : ∃ u : Nat, p = (u : Int) := ⟨p.toNat, by omega⟩
    obtain ⟨hu0, hu1⟩ := hI.2.1 u (by omega)
    unfold zt_X11_load_34
    cases hku : ks u with
    | none =>
      rw [hu0 hku]
      refine zIf_f (by decide) ?_
      exact m_refd Γ (by omega) hok hs (Or.inl rfl) (Or.inr rfl) (fun _ h => absurd h (by decide)) (fun h => absurd h (by decide)) (fun _ _ => zIf_f (by decide) (k2 ⟨a1, a2⟩ (by rw [Int.toNat_natCast]; exact hku) _ (f1 2).1 (f1 2).2.1 (f1 2).2.2))
    | some A =>
      have kA := hu1 A hku
      have gA := (hD.1 u A hku).2
      have lA := gA.1.1
      obtain ⟨kE, kN, kO⟩ := k0 u A rfl hku
      rw [kA.1, w32_id (by omega) (by omega)]
      refine zIf_t (by omega) ?_
      refine m_refd Γ (by omega) hok hs (Or.inl rfl) (Or.inl rfl) (fun _ _ => ?_) (fun h => absurd h (by decide)) (fun _ h => absurd h (by decide))
      refine zIf_t (by decide) ?_
      obtain ⟨i1, i2, i3⟩ := f1 0
      refine r_get Γ (by omega) hok ⟨by have := hb.1; omega, by have := hb.2; omega⟩ hs (Or.inl rfl) (by omega) gA (kA.fr (fun a j h => zu_a (by omega))) (fun C1 M1 c1 m1 m2 m3 m4 => ?_)
      have hok1 : zok C1 := c1.ok hb (by decide)
      refine ⟨hok1, ?_⟩
      have j1 : mI M1 tb ks L ow out pl := i1.fr (fun c j h => m4 c j (by omega))
      have j2 : mfm M M1 := i2.tr (m4.m (Or.inl rfl))
      have j3 : M1 84 0 = 0 := (m4 _ _ (by decide)).trans i3
      have hmT : mTp M1 tb := ⟨j1.1.1, htb.1, fun j hj => ⟨j1.1.2 j hj, tb_at htb.2 j⟩⟩
      have kAl9 := gA.k
      obtain ⟨f1', f2, f3, f4, f5, f6, f7, f8⟩ := kAl9.2.1
      -- behind a look at the tape
      have bas : ∀ (M2 : zM) (x : Int), nfr M1 M2 → M2 84 3 = x → mI M2 tb ks L ow out x ∧ mfm M M2 ∧ M2 84 0 = 0 := fun M2 x hn hx => ⟨j1.ld (fun c j h => hn c j (by omega) (by omega)) ⟨(hn _ _ (by decide) (by decide)).trans j1.1.1, fun j hj => (hn _ _ (by omega) (by omega)).trans (j1.1.2 j hj)⟩ ⟨(hn _ _ (by decide) (by decide)).trans j1.2.2.1.1, (hn _ _ (by decide) (by decide)).trans j1.2.2.1.2.1, (hn _ _ (by decide) (by decide)).trans j1.2.2.1.2.2.1, fun j hj => (hn _ _ (by omega) (by omega)).trans (j1.2.2.1.2.2.2 j hj)⟩ hx, j2.tr (fun c j h => hn c j (by omega) (by omega)), (hn _ _ (by decide) (by decide)).trans j3⟩
      have key := m_rows (C := C1) (d := d - 1) (Q := fun v M2 => (∃ e : Nat × Nat, yAll A.2.2.2.ns tb A.2.2.1 = .error (some e) ∧ v = -(e.1 : Int) ∧ M2 84 3 = (e.2 : Int) ∧ nfr M1 M2) ∨ (yAll A.2.2.2.ns tb A.2.2.1 = .error none ∧ v = -34 ∧ M2 84 3 = -1 ∧ nfr M1 M2) ∨ ∃ L1 : List (List Nat), yAll A.2.2.2.ns tb A.2.2.1 = .ok L1 ∧ v = (L1.length : Int) ∧ M2 84 3 = -1 ∧ nfr M1 M2 ∧ mds M2 L1.flatten) Γ (by omega) hok1 ⟨hs, (zTx_of hs).1, by decide, by decide⟩ f4 f1' kAl9.2.2.2.2.2.1 hmT m2 m3 f8 (fun e he M2 g1 g2 => Or.inl ⟨e, he, rfl, g1, g2⟩) (fun he M2 g1 g2 => Or.inr (Or.inl ⟨he, rfl, g1, g2⟩)) (fun L1 he M2 g1 g2 g3 => Or.inr (Or.inr ⟨L1, he, rfl, g1, g2, g3⟩))
      refine zMetC.u key (fun C2 v M2 c2 c3 c4 c5 hq => ?_)
      have hc2 : zcl 2 C C2 := c1.tr ⟨c2, c3, c4, c5⟩
      have hok2 : zok C2 := hc2.ok hb (by decide)
      refine ⟨hok2, ?_⟩
      rcases hq with ⟨e, he, rfl, g1, g2⟩ | ⟨he, rfl, g1, g2⟩ | ⟨L1, he, rfl, g1, g2, g3⟩
      · obtain ⟨e1, e2, e3⟩ := yAll_e he
        obtain ⟨x1, x2, x3⟩ := bas M2 _ g2 g1
        exact zIf_f (by rw [w32_id (by omega) (by omega)]; omega) (kE e he C2 M2 hc2 x1 x2 x3)
      · obtain ⟨x1, x2, x3⟩ := bas M2 _ g2 g1
        exact zIf_f (by decide) (kN he C2 M2 hc2 x1 x2 x3)
      · have hn := yAll_n htb.2 htb.1 (fun s h => f4.dt s h) he
        obtain ⟨x1, x2, x3⟩ := bas M2 _ g2 g1
        refine zIf_t (by rw [w32_id (by omega) (by omega)]; omega) ?_
        rw [g3.1]
        have fr : ∀ c j : Int, ¬ (c = 84 ∧ (j = 9 ∨ j = 10 ∨ j = 11)) → zu (zu (zu M2 84 9 (u : Int)) 84 10 ((L1.length : Nat) : Int)) 84 11 ((L1.flatten.length : Nat) : Int) c j = M2 c j := fun c j n => by
          rw [zu_ne (fun e => n ⟨e.1, by omega⟩), zu_ne (fun e => n ⟨e.1, by omega⟩), zu_ne (fun e => n ⟨e.1, by omega⟩)]
        refine m_cp2L (M0 := zu (zu (zu M2 84 9 (u : Int)) 84 10 ((L1.length : Nat) : Int)) 84 11 ((L1.flatten.length : Nat) : Int)) (o := L1.flatten) Γ (by omega) hok2 hs (by omega) (fun M3 g4 g5 => ?_) ((fr _ _ (by decide)).trans g3.1) (fun j hj => (fr _ _ (by omega)).trans (g3.2 j hj)) L1.flatten.length 0 _ (Nat.zero_add _) (fun _ _ _ => rfl) (fun j hj => absurd hj (Nat.not_lt_zero _))
        refine kO L1 he C2 _ hc2 (x1.ld (fun c j h => ?_) ⟨zu_s _ _ _ _, fun j hj => absurd hj (Nat.not_lt_zero _)⟩ ⟨?_, ?_, ?_, fun j hj => ?_⟩ ?_) (x2.tr (fun c j h => ?_)) ?_
        · rw [zu_ne (fun e => by omega), g4 c j (by omega), fr c j (by omega)]
        · rw [zu_k (by decide), g4 _ _ (by decide), zu_k (by decide), zu_k (by decide), zu_s]
        · rw [zu_k (by decide), g4 _ _ (by decide), zu_k (by decide), zu_s]
        · rw [zu_k (by decide), g4 _ _ (by decide), zu_s]
        · rw [zu_a (by decide)]
          exact g5 j hj
        · rw [zu_k (by decide), g4 _ _ (by decide), fr _ _ (by decide)]
          exact g1
        · rw [zu_ne (fun e => by omega), g4 c j (by omega), fr c j (by omega)]
        · rw [zu_k (by decide), g4 _ _ (by decide), fr _ _ (by decide)]
          exact x3
  · refine m_isP Γ (by omega) hok hs hp (fun a1 a2 => absurd ⟨a1, a2⟩ hn) (fun _ => zIf_t (by decide) ?_)
    unfold zt_X11_load_34
    exact m_refd Γ (by omega) hok hs (Or.inr rfl) (Or.inl rfl) (fun h => absurd h (by decide)) (fun _ => zIf_f (by decide) (k1 hn _ (f1 1).1 (f1 1).2.1 (f1 1).2.2)) (fun h => absurd h (by decide))
end OBA
