/-! ===== the reference's fits ===== -/
section LD9
variable {l : Launch} {s0 : State} {a0 : Array Value} {G : va_G} {ca : Nat → ClassId} {d : Nat} {C : Nat × Nat} {S : zS} {M : zM} {Q : Nat × Nat → Int → zM → Prop} {tb : List Nat} {ks : kST} {L : List (List Nat)} {ow : Int} {out : List Nat} {pl : Int}
theorem u_isP (Γ : rt_Γ l s0 a0 G ca) (hd : 1 ≤ d) (hok : zok C) (hs : zSok S) {p : Int} (hp : -2147483648 ≤ p ∧ p < 2147483648) {Q : Int → zM → Prop} (h1 : 0 ≤ p → p < 8 → Q 1 M) (h0 : ¬ (0 ≤ p ∧ p < 8) → Q 0 M) : zm_X11_isPlace l s0 G ca d C S p M Q (fun _ => False) := m_isP Γ hd hok hs hp h1 h0
/-- one of the two kept texts is read into left, the other into right -/
theorem m_two (Γ : rt_Γ l s0 a0 G ca) (hd : 303 ≤ d) (hb : zokB C) (hs : zSok S) {w r : Nat} {A B : List Nat × List JR × Nat × SS} (hw : w < 8) (hr : r < 8) (hA : gT A.1 A.2.1 A.2.2.1 A.2.2.2) (hB : gT B.1 B.2.1 B.2.2.1 B.2.2.2) (kA : kpt M w A.1) (kB : kpt M r B.1)
    (kO : ∀ (C1 : Nat × Nat) (M1 : zM), zcl 2 C C1 → uM M1 86 108 A.2.1 B.2.1 A.2.2.2 B.2.2.2 → M1 86 31 = (A.2.2.1 : Int) → M1 108 31 = (B.2.2.1 : Int) → (∀ c j : Int, (c < 86 ∨ 130 ≤ c) → M1 c j = M c j) → Q C1 0 M1) : zu_X11_read l s0 G ca d C S 86 w M (fun C1 _ M1 => zok C1 ∧ zu_X11_read l s0 G ca d C1 S 108 r M1 (fun C2 v2 M2 => Q C2 v2 M2)) := by
  have hb' := hb
  obtain ⟨b1, b2⟩ := hb'
  refine r_get Γ (by omega) ⟨by omega, by omega⟩ ⟨by omega, by omega⟩ hs (Or.inl rfl) hw hA kA (fun C1 M1 c1 m1 m2 m3 m4 => ?_)
  have hok1 : zok C1 := c1.ok hb (by decide)
  refine ⟨hok1, ?_⟩
  refine r_get Γ (by omega) hok1 ⟨by have := c1.2.1; omega, by have := c1.2.2.2; omega⟩ hs (Or.inr rfl) hr hB (kB.fr (fun a j ha => m4 a j (by omega))) (fun C2 M2 c2 n1 n2 n3 n4 => ?_)
  refine kO C2 M2 (c1.tr c2) ⟨m1.m (fun a j h1 h2 => n4 a j (by omega)), m2.m (fun a j h1 h2 => n4 a j (by omega)), n1, n2⟩ ?_ n3 (fun c j hc => (n4 c j (by omega)).trans (m4 c j (by omega)))
  rw [n4 86 31 (by omega)]
  exact m3
theorem m_fitsU (Γ : rt_Γ l s0 a0 G ca) (hd : 400 ≤ d) (hb : zokB C) (hs : zSok S) {w r : Int} (hw : -2147483648 ≤ w ∧ w < 2147483648) (hr : -2147483648 ≤ r ∧ r < 2147483648) (hI : mI M tb ks L ow out pl) (hD : dOk ks L ow)
    (k1 : ¬ ((0 ≤ w ∧ w < 8) ∧ 0 ≤ r ∧ r < 8) → ∀ M1 : zM, mI M1 tb ks L ow out pl → mfm M M1 → M1 84 0 = 1 → Q C 0 M1)
    (k2 : (0 ≤ w ∧ w < 8) → (0 ≤ r ∧ r < 8) → (ks w.toNat = none ∨ ks r.toNat = none) → ∀ M1 : zM, mI M1 tb ks L ow out pl → mfm M M1 → M1 84 0 = 2 → Q C 0 M1)
    (k0 : ∀ (v u : Nat) (A B : List Nat × List JR × Nat × SS), w = (v : Int) → r = (u : Int) → ks v = some A → ks u = some B → ∀ (C1 : Nat × Nat) (M1 : zM) (b : Int), zcl 2 C C1 → mI M1 tb ks L ow out pl → mfm M M1 → M1 84 0 = 0 → ((fFt A.2.2.2.ns B.2.2.2.ns (dBy B.2.1 B.2.2.2) (A.2.2.1, B.2.2.1) ∧ b = 1) ∨ (¬ fFt A.2.2.2.ns B.2.2.2.ns (dBy B.2.1 B.2.2.2) (A.2.2.1, B.2.2.1) ∧ b = 0)) → Q C1 b M1) : zu_X11_fits l s0 G ca d C S w r M Q := by
  have hok : zok C := ⟨by have := hb.1; omega, by have := hb.2; omega⟩
  have f1 : ∀ v : Int, mI (zu M 84 0 v) tb ks L ow out pl ∧ mfm M (zu M 84 0 v) ∧ zu M 84 0 v 84 0 = v := fun v => ⟨hI.fr (fun c j h => zu_ne (fun e => by omega)), mfm.rf.zu (by decide), zu_s _ _ _ _⟩
  refine z_X11_fits Γ (by omega) hok hs ?_
  unfold zt_X11_fits zt_X11_fits_15
  have bad : ¬ ((0 ≤ w ∧ w < 8) ∧ 0 ≤ r ∧ r < 8) → ∀ k : Int, (k = 0 ∨ k = 1) → zt_X11_fits_57 l s0 G ca d C S (zw s0 ca C S M) w r k 1 M Q := fun hn k hk => by
    unfold zt_X11_fits_57
    exact m_refd Γ (by omega) hok hs (Or.inr rfl) hk (fun h => absurd h (by decide)) (fun _ => zIf_f (by decide) (k1 hn _ (f1 1).1 (f1 1).2.1 (f1 1).2.2)) (fun h => absurd h (by decide))
  have t20b : ¬ ((0 ≤ w ∧ w < 8) ∧ 0 ≤ r ∧ r < 8) → zt_X11_fits_20 l s0 G ca d C S (zw s0 ca C S M) w r 1 M Q := fun hn => by
    unfold zt_X11_fits_20 zt_X11_fits_56 zt_X11_fits_52
    refine m_isP Γ (by omega) hok hs hw (fun a1 a2 => zIf_f (by decide) ?_) (fun a => zIf_t (by decide) (bad hn 0 (Or.inl rfl)))
    exact m_isP Γ (by omega) hok hs hr (fun b1 b2 => absurd ⟨⟨a1, a2⟩, b1, b2⟩ hn) (fun a => zIf_t (by decide) (bad hn 0 (Or.inl rfl)))
  refine m_isP Γ (by omega) hok hs hw (fun a1 a2 => zIf_f (by decide) ?_) (fun a => zIf_t (by decide) (t20b (fun h => a h.1)))
  refine m_isP Γ (by omega) hok hs hr (fun b1 b2 => zIf_f (by decide) ?_) (fun a => zIf_t (by decide) (t20b (fun h => a h.2)))
  unfold zt_X11_fits_20 zt_X11_fits_56 zt_X11_fits_52
  refine m_isP Γ (by omega) hok hs hw (fun _ _ => zIf_f (by decide) ?_) (fun a => absurd ⟨a1, a2⟩ a)
  refine m_isP Γ (by omega) hok hs hr (fun _ _ => zIf_f (by decide) ⟨⟨a1, a2⟩, ?_⟩) (fun a => absurd ⟨b1, b2⟩ a)
  obtain ⟨v, rfl⟩ : ∃ v : Nat, w = (v : Int) := ⟨w.toNat, by omega⟩
  obtain ⟨u, rfl⟩ : ∃ u : Nat, r = (u : Int) := ⟨r.toNat, by omega⟩
  obtain ⟨hv0, hv1⟩ := hI.2.1 v (by omega)
  obtain ⟨hu0, hu1⟩ := hI.2.1 u (by omega)
  -- no schema there
  have non : (ks ((v : Int)).toNat = none ∨ ks ((u : Int)).toNat = none) → zt_X11_fits_57 l s0 G ca d C S (zw s0 ca C S M) v u 1 0 M Q := fun hn => by
    unfold zt_X11_fits_57
    exact m_refd Γ (by omega) hok hs (Or.inl rfl) (Or.inr rfl) (fun _ h => absurd h (by decide)) (fun h => absurd h (by decide)) (fun _ _ => zIf_f (by decide) (k2 ⟨a1, a2⟩ ⟨b1, b2⟩ hn _ (f1 2).1 (f1 2).2.1 (f1 2).2.2))
  cases hkv : ks v with
  | none =>
    rw [hv0 hkv]
    exact zIf_t (by decide) (non (Or.inl (by rw [Int.toNat_natCast]; exact hkv)))
  | some A =>
    have kA := hv1 A hkv
    have gA := (hD.1 v A hkv).2
    have lA := gA.1.1
    rw [kA.1, w32_id (by omega) (by omega)]
    refine zIf_f (by omega) ⟨⟨b1, b2⟩, ?_⟩
    cases hku : ks u with
    | none =>
      rw [hu0 hku]
      exact zIf_f (by decide) (non (Or.inr (by rw [Int.toNat_natCast]; exact hku)))
    | some B =>
      have kB := hu1 B hku
      have gB := (hD.1 u B hku).2
      have lB := gB.1.1
      rw [kB.1, w32_id (by omega) (by omega)]
      refine zIf_t (by omega) ?_
      unfold zt_X11_fits_57
      refine m_refd Γ (by omega) hok hs (Or.inl rfl) (Or.inl rfl) (fun _ _ => ?_) (fun h => absurd h (by decide)) (fun _ h => absurd h (by decide))
      refine zIf_t (by decide) ?_
      have hb1 := (f1 0).1
      refine m_two (Q := fun C2 _ M2 => zok C2 ∧ _) Γ (by omega) hb hs (by omega) (by omega) gA gB (kA.fr (fun a j h => zu_a (by omega))) (kB.fr (fun a j h => zu_a (by omega))) (fun C1 M1 c1 hU hrA hrB hfx => ?_)
      have hok1 : zok C1 := c1.ok hb (by decide)
      have kKA := gA.k
      have kKB := gB.k
      have hlA := hU.2.1.len
      have hlB := hU.2.2.2.len
      have fin : ∀ M2 : zM, hfr M1 M2 → mI M2 tb ks L ow out pl ∧ mfm M M2 ∧ M2 84 0 = 0 := fun M2 h2 => by
        refine ⟨hb1.fr (fun c j h => ?_), fun c j h => ?_, ?_⟩
        · rw [h2 c j (by omega) (by omega) (by omega), hfx c j (by omega)]
        · rw [h2 c j (by omega) (by omega) (by omega), hfx c j (by omega)]
          exact (f1 0).2.1 c j h
        · rw [h2 _ _ (by omega) (by omega) (by omega), hfx _ _ (by omega)]
          exact zu_s _ _ _ _
      refine ⟨hok1, ?_⟩
      refine h_fits Γ (by omega) hok1 (kAl.u hs kKA kKB) hU hlA hlB hrA hrB kKA.2.1.2.2.2.2.2.2.2 kKB.2.1.2.2.2.2.2.2.2 (fun hf M2 h2 => ?_) (fun hf M2 h2 => ?_)
      · obtain ⟨x1, x2, x3⟩ := fin M2 h2
        exact ⟨Or.inr rfl, k0 v u A B rfl rfl hkv hku C1 M2 1 c1 x1 x2 x3 (Or.inl ⟨hf, rfl⟩)⟩
      · obtain ⟨x1, x2, x3⟩ := fin M2 h2
        exact ⟨Or.inl rfl, k0 v u A B rfl rfl hkv hku C1 M2 0 c1 x1 x2 x3 (Or.inr ⟨hf, rfl⟩)⟩
end LD9
