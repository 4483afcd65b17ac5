/-! ===== whether one fits, in the law ===== -/
section VH
variable {l : Launch} {s0 : State} {a0 : Array Value} {G : va_G} {ca : Nat → ClassId} {C : Nat × Nat} {S : zS} {M : zM} {n : Nat} {tb : List Nat} {ks : kST} {L : List (List Nat)} {ow : Int} {out : List Nat} {pl : Int}
def lwF (l : Launch) (s0 : State) (G : va_G) (ca : Nat → ClassId) (n : Nat) (p q : Int32) (w : rt_Wd) : Prop := ∃ (k : Int32) (PA : rt_Wd → Prop), rt_Met l s0 G (.codeWith yL_fits cL_fits 5 (Option.some FieldType.int) [(0, 17, 20, 25), (0, 17, 24, 13)]) yL_fits 2035 [rt_r s0 0, .int p, .int q, rt_r s0 137] w (fun r w1 => r = .inl (some (.int k)) ∧ PA w1) ∧ ∀ w1 : rt_Wd, PA w1 → rt_ok w1 ∧ (∃ fs : List Value, w1.2.2 84 = some (.inr (11, fs))) ∧ rt_Met l s0 G (.code yX11_fits cX11_fits 3 (Option.some FieldType.boolean)) yX11_fits 2035 [rt_r s0 84, .int p, .int q] w1 (rt_an (fun v w2 => rt_mk l s0 G k w2 ∧ (v = 0 ∨ v = 1) ∧ (k = 0 → rt_o9 ca w2 (if v = 0 then 0 else 1)) ∧ lI s0 ca (n + 1) w2))
theorem lw_BF (Γ : rt_Γ l s0 a0 G ca) (hn : n < 64) {k p q : Int32} {v0 : Int} (h0 : v0 = 0 ∨ v0 = 1) (hc : ∃ a : Nat, a ≤ n + 1 ∧ cI S C.1 M tb ks L ow out pl a) (hd : lD (n + 1) tb ks L ow out) (hm : lMM n C S) (h131 : k = 0 → M 137 0 = w32 v0)
    (hM : zu_X11_fits l s0 G ca 2035 C S p.toInt q.toInt M (fun C2 u M2 => zcl 4 C C2 ∧ u = v0 ∧ mI M2 tb ks L ow out pl ∧ mfm M M2 ∧ M2 84 0 = k.toInt)) :
    rt_ok (zw s0 ca C S M) ∧ (∃ fs : List Value, (zw s0 ca C S M).2.2 84 = some (.inr (11, fs))) ∧ rt_Met l s0 G (.code yX11_fits cX11_fits 3 (Option.some FieldType.boolean)) yX11_fits 2035 [rt_r s0 84, .int p, .int q] (zw s0 ca C S M) (rt_an (fun v w2 => rt_mk l s0 G k w2 ∧ (v = 0 ∨ v = 1) ∧ (k = 0 → rt_o9 ca w2 (if v = 0 then 0 else 1)) ∧ lI s0 ca (n + 1) w2)) := by
  obtain ⟨a, ha, hc⟩ := hc
  obtain ⟨n1, n2, n3, n4⟩ := hm
  have hs : zSok S := hc.1.1
  have m1 : rt_ok (zw s0 ca C S M) := ⟨show C.1 ≤ 600000 from Nat.le_trans n3 (by omega), show C.2 ≤ 7300000 from Nat.le_trans n4 (by omega)⟩
  refine ⟨m1, lw_78 hs, ?_⟩
  rw [lw_v (s0 := s0) p, lw_v (s0 := s0) q]
  refine rt_Met.mono (fun r w1 q => ?_) hM
  obtain ⟨u, C2, M2, h1, rfl, ⟨z1, z2, z3, z4⟩, hu, hI, hf, h0'⟩ := q
  have b1 : C2.1 ≤ 138 + 40 * n + 34 := Nat.le_trans z2 (by omega)
  have b2 : C2.2 ≤ 298622 + 22000 * n + 21524 := Nat.le_trans z4 (by omega)
  refine ⟨Int32.ofInt u, h1, ⟨⟨show C2.1 ≤ 600000 from Nat.le_trans b1 (by omega), show C2.2 ≤ 7300000 from Nat.le_trans b2 (by omega)⟩, lw_78 hs, lw_th Γ ⟨Nat.le_trans b1 (by omega), Nat.le_trans b2 (by omega)⟩ hs h0'⟩, ?_, fun hk => ?_, C2, S, M2, tb, ks, L, ow, out, pl, rfl, ⟨a, ha, (hc.md (fun c j h => hf c j (by omega))).up z1⟩, hI, hd, fun b hb => n1 b (by omega), Nat.le_trans n2 z1, Nat.le_trans b1 (by omega), Nat.le_trans b2 (by omega)⟩
  · rw [hu]
    rcases h0 with rfl | rfl
    · exact Or.inl rfl
    · exact Or.inr rfl
  · refine ⟨_, lw_131 hs, ?_⟩
    show Int64.ofInt (M2 137 ((0 : Nat) : Int)) = _
    rw [hf 137 _ (by omega), show M 137 ((0 : Nat) : Int) = w32 v0 from h131 hk, i64_w, hu]
    rcases h0 with rfl | rfl
    · decide
    · decide
theorem lw_FT (Γ : rt_Γ l s0 a0 G ca) (hn : n < 64) (hJ : lJ C S M n tb ks L ow out pl) {k p q : Int32} (hk : ¬ k = 0) {w : rt_Wd} (hw : lwT s0 ca C S M w)
    (hM : ∀ C1 : Nat × Nat, zokB C1 → zu_X11_fits l s0 G ca 2035 C1 S p.toInt q.toInt M (fun C2 u M2 => zcl 4 C1 C2 ∧ u = 0 ∧ mI M2 tb ks L ow out pl ∧ mfm M M2 ∧ M2 84 0 = k.toInt)) :
    rt_ok w ∧ (∃ fs : List Value, w.2.2 84 = some (.inr (11, fs))) ∧ rt_Met l s0 G (.code yX11_fits cX11_fits 3 (Option.some FieldType.boolean)) yX11_fits 2035 [rt_r s0 84, .int p, .int q] w (rt_an (fun v w2 => rt_mk l s0 G k w2 ∧ (v = 0 ∨ v = 1) ∧ (k = 0 → rt_o9 ca w2 (if v = 0 then 0 else 1)) ∧ lI s0 ca (n + 1) w2)) := by
  obtain ⟨C1, rfl, c1, c2, c3⟩ := hw
  obtain ⟨⟨a, ha, hc⟩, hI, ⟨d1, d2, d3, d4, d5⟩, n1, n2, n3, n4⟩ := hJ
  exact lw_BF (v0 := 0) Γ hn (Or.inl rfl) ⟨a, by omega, hc.up c1⟩ ⟨d1, d2, d3, d4, by omega⟩ ⟨fun b hb => n1 b (by omega), by omega, by omega, by omega⟩ (fun e => absurd e hk) (hM C1 ⟨by omega, by omega⟩)
set_option maxRecDepth 10000 in
theorem lw_s_fits (Γ : rt_Γ l s0 a0 G ca) (hn : n < 64) (hJ : lJ C S M n tb ks L ow out pl) (p q : Int32) : lwF l s0 G ca n p q (zw s0 ca C S M) := by
  obtain ⟨hb, hs, hok, hok1, hz⟩ := hJ.ok (s0 := s0) (ca := ca) hn
  obtain ⟨cu, sp, rp, fp, hX, hcu, hrw⟩ := lw_x0 (s0 := s0) (ca := ca) hJ
  obtain ⟨⟨a, ha, hI⟩, hm, ⟨d1, d2, d3, d4, d5⟩, n1, n2, n3, n4⟩ := id hJ
  by_cases hp : (0 ≤ p.toInt ∧ p.toInt < 8) ∧ 0 ≤ q.toInt ∧ q.toInt < 8
  · obtain ⟨hp, hq⟩ := hp
    have g0 : ¬ p < 0 := fun h => by have := i_lt0.mp h; omega
    have g8 : ¬ 8 ≤ p := fun h => by have := i_ge8.mp h; omega
    have q0 : ¬ q < 0 := fun h => by have := i_lt0.mp h; omega
    have q8 : q < 8 := i_lt8.mpr hq.2
    by_cases hx : ks p.toInt.toNat = none ∨ ks q.toInt.toNat = none
    · have hT : rt_Met l s0 G (.code yX9_fits cX9_fits 5 (Option.some FieldType.boolean)) yX9_fits (2035 - 1) [rt_r s0 0, .int p, .int q] (zw s0 ca C S M) (rt_tx "java/lang/IllegalStateException" (zw s0 ca C S M)) := by
        cases hk : ks p.toInt.toNat with
        | none =>
          cases hk2 : ks q.toInt.toNat with
          | none => exact c_X9_fitsX Γ hok hok1 hX (lw_ck hs) g0 g8 q0 q8 (lw_kn (s0 := s0) hJ hp.1 hp.2 hk) (lw_kn (s0 := s0) hJ hq.1 hq.2 hk2)
          | some z =>
            obtain ⟨y, hy⟩ := lw_ks (s0 := s0) hJ hq.1 hq.2 hk2
            exact c_X9_fitsY Γ hok hok1 hX (lw_ck hs) g0 g8 q0 q8 (lw_kn (s0 := s0) hJ hp.1 hp.2 hk) hy
        | some z =>
          cases hk2 : ks q.toInt.toNat with
          | none =>
            obtain ⟨y, hy⟩ := lw_ks (s0 := s0) hJ hp.1 hp.2 hk
            exact c_X9_fitsZ Γ hok hok1 hX (lw_ck hs) g0 g8 q0 q8 hy (lw_kn (s0 := s0) hJ hq.1 hq.2 hk2)
          | some z2 => exact absurd hx (by rw [hk, hk2]; exact fun h => h.elim (fun e => (nomatch e)) (fun e => (nomatch e)))
      refine ⟨2, lwT s0 ca C S M, lw_ir (c_L_fitsX2 Γ (d := 2035) (by omega) hok hX hT), fun w1 hw => lw_FT Γ hn hJ (by decide) hw (fun C1 hb1 => ?_)⟩
      exact m_fitsU Γ (by omega) hb1 hs (i_b p) (i_b q) hm d1 (fun h => absurd ⟨hp, hq⟩ h) (fun _ _ _ M1 i1 f1 e1 => ⟨zcl.rf, rfl, i1, f1, e1⟩) (fun v u A B e1 e2 e3 e4 => by
        rw [show p.toInt.toNat = v by omega, show q.toInt.toNat = u by omega, e3, e4] at hx
        exact hx.elim (fun e => (nomatch e)) (fun e => (nomatch e)))
    · obtain ⟨v, hv⟩ : ∃ v : Nat, p.toInt = (v : Int) := ⟨p.toInt.toNat, by omega⟩
      obtain ⟨u, hu⟩ : ∃ u : Nat, q.toInt = (u : Int) := ⟨q.toInt.toNat, by omega⟩
      rw [hv, hu, Int.toNat_natCast, Int.toNat_natCast] at hx
      obtain ⟨A, hA⟩ : ∃ A, ks v = some A := by
        cases e : ks v with
        | none => exact absurd (Or.inl e) hx
        | some A => exact ⟨A, rfl⟩
      obtain ⟨B, hB⟩ : ∃ B, ks u = some B := by
        cases e : ks u with
        | none => exact absurd (Or.inr e) hx
        | some B => exact ⟨B, rfl⟩
      obtain ⟨v0, h0, hv0⟩ : ∃ v0 : Int, (v0 = 0 ∨ v0 = 1) ∧ ∀ b : Int, ((fFt A.2.2.2.ns B.2.2.2.ns (dBy B.2.1 B.2.2.2) (A.2.2.1, B.2.2.1) ∧ b = 1) ∨ (¬ fFt A.2.2.2.ns B.2.2.2.ns (dBy B.2.1 B.2.2.2) (A.2.2.1, B.2.2.1) ∧ b = 0)) → b = v0 := by
        by_cases hf : fFt A.2.2.2.ns B.2.2.2.ns (dBy B.2.1 B.2.2.2) (A.2.2.1, B.2.2.1)
        · exact ⟨1, Or.inr rfl, fun b h => h.elim (fun e => e.2) (fun e => absurd hf e.1)⟩
        · exact ⟨0, Or.inl rfl, fun b h => h.elim (fun e => absurd e.1 hf) (fun e => e.2)⟩
      refine ⟨0, lwA s0 ca v0 (fun C1 S1 M1 => C1 = C ∧ S1 = S ∧ cI S C.1 M1 tb ks L ow out pl (a + 1) ∧ mfc M M1), lw_A1 (c_L_fitsG Γ (d := 2035) (by omega) hok hX (fun z w1 hz9 => ?_) lwP_o (lw_A0 ?_)), fun w1 hw => ?_⟩
      · obtain ⟨_, _, _, -, e, -⟩ := hz9
        rw [e]
        rcases h0 with rfl | rfl
        · exact Or.inl rfl
        · exact Or.inr rfl
      · rw [lw_v (s0 := s0) p, lw_v (s0 := s0) q, hv, hu]
        exact zMet.s9 (c_fitsU Γ (by omega) hz hI d1 (by omega) hA hB (fun M1 b i1 f1 hb => ⟨hv0 b hb, hs, rfl, rfl, i1, f1⟩))
      · obtain ⟨C1, S1, M1, rfl, -, rfl, rfl, i1, f1⟩ := hw
        refine lw_BF (v0 := v0) Γ hn h0 ⟨a + 1, by omega, i1.md (fun c j h => zu_a (by omega))⟩ ⟨d1, d2, d3, d4, by omega⟩ ⟨n1, n2, by omega, by omega⟩ (fun _ => zu_s _ _ _ _) ?_
        exact m_fitsU Γ (by omega) hb hs (i_b p) (i_b q) (hm.mc (fun c j h1 h2 => (zu_a (by omega)).trans (f1 c j h1 (by omega)))) d1 (fun h => absurd ⟨hp, hq⟩ h) (fun _ _ e => absurd (by rw [hv, hu, Int.toNat_natCast, Int.toNat_natCast] at e; exact e) hx) (fun v2 u2 A2 B2 e1 e2 e3 e4 => by
          have x1 : v2 = v := by omega
          have x2 : u2 = u := by omega
          subst x1
          subst x2
          rw [hA] at e3
          rw [hB] at e4
          cases Option.some.inj e3
          cases Option.some.inj e4
          exact fun C2 M3 b c1 i3 f3 e0 hb => ⟨c1.l4 (by decide), hv0 b hb, i3, f3, e0⟩)
  · have hT : rt_Met l s0 G (.code yX9_fits cX9_fits 5 (Option.some FieldType.boolean)) yX9_fits (2035 - 1) [rt_r s0 0, .int p, .int q] (zw s0 ca C S M) (rt_tx "java/lang/IndexOutOfBoundsException" (zw s0 ca C S M)) := by
      by_cases c : p < 0
      · exact c_X9_fitsT Γ hok hok1 hX c
      · have c2 : ¬ p.toInt < 0 := fun h => c (i_lt0.mpr h)
        by_cases c8 : 8 ≤ p
        · exact c_X9_fitsU Γ hok hok1 hX c c8
        · have c9 : ¬ 8 ≤ p.toInt := fun h => c8 (i_ge8.mpr h)
          by_cases e : q < 0
          · exact c_X9_fitsV Γ hok hok1 hX c c8 e
          · have e2 : ¬ q.toInt < 0 := fun h => e (i_lt0.mpr h)
            exact c_X9_fitsW Γ hok hok1 hX c c8 e (fun h => by have := i_lt8.mp h; omega)
    refine ⟨1, lwT s0 ca C S M, lw_ir (c_L_fitsX1 Γ (d := 2035) (by omega) hok hX hT), fun w1 hw => lw_FT Γ hn hJ (by decide) hw (fun C1 hb1 => ?_)⟩
    exact m_fitsU Γ (by omega) hb1 hs (i_b p) (i_b q) hm d1 (fun _ M1 i1 f1 e1 => ⟨zcl.rf, rfl, i1, f1, e1⟩) (fun h1 h2 => absurd ⟨h1, h2⟩ hp) (fun v u A B e1 e2 e3 e4 => absurd ⟨⟨by omega, by have := (d1.1 v A e3).1; omega⟩, by omega, by have := (d1.1 u B e4).1; omega⟩ hp)
end VH
