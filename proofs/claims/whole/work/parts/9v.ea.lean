/-! ===== each call of the law ===== -/
theorem zcl.l4 {m : Nat} {C C1 : Nat × Nat} (h : zcl m C C1) (hm : m ≤ 4) : zcl 4 C C1 := by
  obtain ⟨h1, h2, h3, h4⟩ := h
  exact ⟨h1, by omega, h3, by omega⟩
theorem aAn_ex (os : Nat → tU) : ∀ n : Nat, ∃ r : Nat, aAn n os r := by
  intro n
  induction n with
  | zero => exact ⟨0, Nat.le_refl _, fun i h => absurd h (Nat.not_lt_zero _), fun h => absurd h (Nat.not_lt_zero _)⟩
  | succ n ih =>
    obtain ⟨r, h1, h2, h3⟩ := ih
    by_cases c : r < n
    · exact ⟨r, by omega, h2, fun _ => h3 c⟩
    · have : r = n := by omega
      subst this
      by_cases g : gdR (os r)
      · refine ⟨r + 1, Nat.le_refl _, fun i hi => ?_, fun h => absurd h (by omega)⟩
        by_cases e : i = r
        · rw [e]; exact g
        · exact h2 i (by omega)
      · exact ⟨r, by omega, h2, fun _ => g⟩
theorem aAn_u {os : Nat → tU} {n r r1 : Nat} (h : aAn n os r) (h1 : aAn n os r1) : r1 = r := by
  obtain ⟨a1, a2, a3⟩ := h
  obtain ⟨b1, b2, b3⟩ := h1
  by_cases c : r < r1
  · exact absurd (b2 r c) (a3 (by omega))
  · by_cases c2 : r1 < r
    · exact absurd (a2 r1 c2) (b3 (by omega))
    · omega
theorem lw_os {ks : kST} {L : List (List Nat)} {ow : Int} (h : dOk ks L ow) (B : List Nat × List JR × Nat × SS) : ∃ os : Nat → tU, ∀ (k : Nat) (z : List Nat × List JR × Nat × SS), ow = (k : Int) → ks k = some z → ∀ (i : Nat) (bs : List Nat), L[i]? = some bs → tT z.2.2.2.ns B.2.2.2.ns (dBy B.2.1 B.2.2.2) 32 z.2.2.1 B.2.2.1 bs (os i) := by
  rcases h.2.1 with ⟨h1, h2⟩ | ⟨k, z, h1, h2, h3⟩
  · exact ⟨fun _ => ([], false), fun k z e => absurd (h1.symm.trans e) (by omega)⟩
  · have hx : ∀ i : Nat, ∃ o : tU, ∀ bs : List Nat, L[i]? = some bs → tT z.2.2.2.ns B.2.2.2.ns (dBy B.2.1 B.2.2.2) 32 z.2.2.1 B.2.2.1 bs o := by
      intro i
      cases hi : L[i]? with
      | none => exact ⟨([], false), fun bs e => nomatch e⟩
      | some w =>
        obtain ⟨o, ho⟩ := tT_ex (A := z.2.2.2.ns) (B := B.2.2.2.ns) (dB := dBy B.2.1 B.2.2.2) 32 z.2.2.1 B.2.2.1 w (h3 w (List.mem_of_getElem? hi))
        exact ⟨o, fun bs e => by cases Option.some.inj e; exact ho⟩
    obtain ⟨os, hos⟩ := Classical.axiomOfChoice hx
    refine ⟨os, fun k2 z2 e1 e2 i bs hb => ?_⟩
    have : k2 = k := by omega
    subst this
    rw [h2] at e2
    cases Option.some.inj e2
    exact hos i bs hb
theorem bt4_b (v : Int) : bN (bt4 v) := fun x hx => by
  unfold bt4 at hx
  simp only [List.mem_cons, List.not_mem_nil, or_false] at hx
  rcases hx with rfl | rfl | rfl | rfl <;> exact btV_lt _ _
theorem bt20_b (v1 v2 v3 v4 v5 : Int) : bN (bt20 v1 v2 v3 v4 v5) := (bt4_b _).app ((bt4_b _).app ((bt4_b _).app ((bt4_b _).app (bt4_b _))))
theorem bt20_len (v1 v2 v3 v4 v5 : Int) : (bt20 v1 v2 v3 v4 v5).length = 20 := rfl
theorem bN.take {w : List Nat} (h : bN w) (k : Nat) : bN (w.take k) := fun x hx => h x (List.mem_of_mem_take hx)
theorem bN.at {w : List Nat} (h : bN w) (j : Nat) : w.getD j 0 < 256 := by
  rw [List.getD_eq_getElem?_getD]
  cases e : w[j]? with
  | none => exact (by decide : 0 < 256)
  | some x => exact h x (List.mem_of_getElem? e)
section VE
variable {l : Launch} {s0 : State} {a0 : Array Value} {G : va_G} {ca : Nat → ClassId} {C : Nat × Nat} {S : zS} {M : zM} {n : Nat} {tb : List Nat} {ks : kST} {L : List (List Nat)} {ow : Int} {out : List Nat} {pl : Int} {kc : Cond} {y : MethodName} {av : List Value} {v0 : Int}
/-- what one call of the law asks: the class's side, then the reference's -/
def lwS (l : Launch) (s0 : State) (G : va_G) (ca : Nat → ClassId) (n : Nat) (kL : Cond) (yL : MethodName) (avL : List Value) (kM : Cond) (yM : MethodName) (avM : List Value) (w : rt_Wd) : Prop := ∃ (k : Int32) (PA : rt_Wd → Prop), rt_Met l s0 G kL yL 2035 avL w (fun r w1 => r = .inl (some (.int k)) ∧ PA w1) ∧ ∀ w1 : rt_Wd, PA w1 → rt_ok w1 ∧ (∃ fs : List Value, w1.2.2 84 = some (.inr (11, fs))) ∧ rt_Met l s0 G kM yM 2035 avM w1 (rt_an (fun v w2 => rt_mk l s0 G k w2 ∧ (k = 0 → rt_o9 ca w2 v.toInt64) ∧ lI s0 ca (n + 1) w2))
theorem lw_B2 (Γ : rt_Γ l s0 a0 G ca) (hn : n < 64) (hm0 : mI M tb ks L ow out pl) {C1 : Nat × Nat} {S1 : zS} {M1 : zM} {a1 : Nat} {tb1 : List Nat} {ks1 : kST} {L1 : List (List Nat)} {ow1 : Int} {out1 : List Nat} {pl1 : Int} (ha : a1 ≤ n + 1) (i1 : cI S1 C1.1 M1 tb1 ks1 L1 ow1 out1 pl1 a1) (f1 : mfc M M1) (hd : lD (n + 1) tb1 ks1 L1 ow1 out1) (hm : lMM n C1 S1)
    (hM : ∀ M2 : zM, zokB C1 → mI M2 tb ks L ow out pl → zMetU l s0 G ca kc y 0 2035 av C1 S1 M2 (fun C2 u M3 => zcl 4 C1 C2 ∧ u = v0 ∧ mI M3 tb1 ks1 L1 ow1 out1 pl1 ∧ mfm M2 M3 ∧ M3 84 0 = 0)) :
    rt_ok (zw s0 ca C1 S1 (zu M1 137 0 (w32 v0))) ∧ (∃ fs : List Value, (zw s0 ca C1 S1 (zu M1 137 0 (w32 v0))).2.2 84 = some (.inr (11, fs))) ∧ rt_Met l s0 G kc y 2035 av (zw s0 ca C1 S1 (zu M1 137 0 (w32 v0))) (rt_an (fun v w2 => rt_mk l s0 G 0 w2 ∧ ((0 : Int32) = 0 → rt_o9 ca w2 v.toInt64) ∧ lI s0 ca (n + 1) w2)) :=
  lw_B (v0 := v0) Γ hn ⟨a1, ha, i1.md (fun c j h => zu_a (by omega))⟩ hd hm (fun _ => zu_s _ _ _ _) ((hM _ ⟨by have := hm.2.2.1; omega, by have := hm.2.2.2; omega⟩ (hm0.mc (fun c j h1 h2 => (zu_a (by omega)).trans (f1 c j h1 (by omega))))).mono (fun C2 u M2 ⟨q1, q2, q3, q4, q5⟩ => ⟨q1, fun _ => q2, q3, q4, q5⟩))
set_option maxRecDepth 10000 in
theorem lw_s_feed (Γ : rt_Γ l s0 a0 G ca) (hn : n < 64) (hJ : lJ C S M n tb ks L ow out pl) (p1 p2 p3 p4 p5 : Int32) : lwS l s0 G ca n (.codeWith yL_feed cL_feed 8 (Option.some FieldType.int) [(0, 16, 19, 13)]) yL_feed [rt_r s0 0, .int p1, .int p2, .int p3, .int p4, .int p5, rt_r s0 137] (.code yX11_feed cX11_feed 6 (Option.some FieldType.int)) yX11_feed [rt_r s0 84, .int p1, .int p2, .int p3, .int p4, .int p5] (zw s0 ca C S M) := by
  obtain ⟨hb, hs, hok, hok1, hz⟩ := hJ.ok (s0 := s0) (ca := ca) hn
  obtain ⟨f0, hX⟩ := lw_0 (s0 := s0) (ca := ca) (C := C) (M := M) hs
  obtain ⟨⟨a, ha, hI⟩, hm, ⟨d1, d2, d3, d4, d5⟩, n1, n2, n3, n4⟩ := id hJ
  refine ⟨0, lwA s0 ca ((tb.length + 20 : Nat) : Int) (fun C1 S1 M1 => C1 = C ∧ S1 = S ∧ cI S C.1 M1 (tb ++ bt20 p1.toInt p2.toInt p3.toInt p4.toInt p5.toInt) ks L ow out pl a ∧ mfc M M1), lw_A1 (c_L_feedG Γ (d := 2035) (by omega) hok hX lwP_o (lw_A0 ?_)), fun w1 hw => ?_⟩
  · rw [lw_v (s0 := s0) p1, lw_v (s0 := s0) p2, lw_v (s0 := s0) p3, lw_v (s0 := s0) p4, lw_v (s0 := s0) p5]
    exact zMet.s9 (c_feedU Γ (by omega) hz hI (by omega) (fun M1 i1 f1 => ⟨rfl, hs, rfl, rfl, i1, f1⟩))
  · obtain ⟨C1, S1, M1, rfl, -, rfl, rfl, i1, f1⟩ := hw
    refine lw_B2 Γ hn hm (by omega) i1 f1 ⟨d1, d2, d3, d4.app (bt20_b _ _ _ _ _), by rw [List.length_append, bt20_len]; omega⟩ ⟨n1, n2, by omega, by omega⟩ (fun M2 hb2 m2 => ?_)
    rw [lw_v (s0 := s0) p1, lw_v (s0 := s0) p2, lw_v (s0 := s0) p3, lw_v (s0 := s0) p4, lw_v (s0 := s0) p5]
    exact zMet.u9 (m_feedU Γ (by omega) hz hs m2 (by omega) (fun M3 i3 f3 e3 => ⟨zcl.rf, rfl, i3, f3, e3⟩))
set_option maxRecDepth 10000 in
theorem lw_s_read (Γ : rt_Γ l s0 a0 G ca) (hn : n < 64) (hJ : lJ C S M n tb ks L ow out pl) (p q : Int32) : lwS l s0 G ca n (.codeWith yL_read cL_read 5 (Option.some FieldType.int) [(0, 10, 13, 25), (0, 10, 17, 13)]) yL_read [rt_r s0 0, .int p, .int q, rt_r s0 137] (.code yX11_read_ cX11_read_ 6 (Option.some FieldType.int)) yX11_read_ [rt_r s0 84, .int p, .int q] (zw s0 ca C S M) := by
  obtain ⟨hb, hs, hok, hok1, hz⟩ := hJ.ok (s0 := s0) (ca := ca) hn
  obtain ⟨cu, sp, rp, fp, hX, hcu, hrw⟩ := lw_x0 (s0 := s0) (ca := ca) hJ
  obtain ⟨hR, hCb, hCs⟩ := lw_rw (s0 := s0) (ca := ca) (C := C) (M := M) hs hcu
  obtain ⟨⟨a, ha, hI⟩, hm, ⟨d1, d2, d3, d4, d5⟩, n1, n2, n3, n4⟩ := id hJ
  have hl := d1.2.2.2
  have hu3 : (Int32.ofInt (M ((cu : Int) + 3) 1)).toInt = (L.length : Int) := by
    rw [hrw.2.2.1, z_toI]
    exact w32_id (by omega) (by omega)
  by_cases hp : 0 ≤ p.toInt ∧ p.toInt < 8
  · by_cases hq : 0 ≤ q.toInt ∧ q.toInt < (L.length : Int)
    · have g0 : ¬ p < 0 := fun h => by have := i_lt0.mp h; omega
      have g8 : ¬ 8 ≤ p := fun h => by have := i_ge8.mp h; omega
      have q0 : ¬ q < 0 := fun h => by have := i_lt0.mp h; omega
      have q8 : q < Int32.ofInt (M ((cu : Int) + 3) 1) := Int32.lt_iff_toInt_lt.mpr (by rw [hu3]; exact hq.2)
      cases hk : ks p.toInt.toNat with
      | none =>
        refine ⟨2, lwT s0 ca C S M, lw_ir (c_L_readX2 Γ (d := 2035) (by omega) hok hX (c_X9_readX Γ (d := 2035 - 1) (by omega) hok hok1 hX hR hCs (lw_ck hs) g0 g8 q0 q8 (lw_kn (s0 := s0) hJ hp.1 hp.2 hk))), fun w1 hw => lw_T Γ hn hJ (by decide) hw (fun C1 hb1 => ?_)⟩
        rw [lw_v (s0 := s0) p, lw_v (s0 := s0) q]
        exact m_readU (os := fun _ => ([], false)) Γ (by omega) hb1 hs (i_b p) (i_b q) hm d1 (fun h => absurd ⟨hp, hq⟩ h) (fun _ _ _ M1 i1 f1 e1 => ⟨zcl.rf, i1, f1, e1⟩) (fun u i B e1 e2 e3 e4 => by
          rw [show p.toInt.toNat = u by omega, e4] at hk
          exact nomatch hk)
      | some B =>
        obtain ⟨os, ho⟩ := lw_os d1 B
        obtain ⟨u, hu⟩ : ∃ u : Nat, p.toInt = (u : Int) := ⟨p.toInt.toNat, by omega⟩
        obtain ⟨i, hi⟩ : ∃ i : Nat, q.toInt = (i : Int) := ⟨q.toInt.toNat, by omega⟩
        have hB : ks u = some B := by rw [← hk, hu, Int.toNat_natCast]
        have hil : i < L.length := by omega
        have hbo : bN (os i).1 := by
          rcases d1.2.1 with ⟨e1, e2⟩ | ⟨k, z, e1, e2, e3⟩
          · rw [e2] at hil
            exact absurd hil (Nat.not_lt_zero _)
          · exact tT_b ((d1.1 u B hB).2.k.b) (ho k z e1 e2 i _ (List.getElem?_eq_getElem hil))
        by_cases hg : gdR (os i)
        · refine ⟨0, lwA s0 ca ((os i).1.length : Nat) (fun C1 S1 M1 => C1 = C ∧ S1 = S ∧ cI S C.1 M1 tb ks L ow (os i).1 pl (a + 1) ∧ mfc M M1), lw_A1 (c_L_readG Γ (d := 2035) (by omega) hok hX lwP_o (lw_A0 ?_)), fun w1 hw => ?_⟩
          · rw [lw_v (s0 := s0) p, lw_v (s0 := s0) q, hu, hi]
            exact zMet.s9 (c_readU Γ (by omega) hz hI d1 (by omega) hB hil ho (fun _ M1 i1 f1 => ⟨rfl, hs, rfl, rfl, i1, f1⟩) (fun h => absurd hg h))
          · obtain ⟨C1, S1, M1, rfl, -, rfl, rfl, i1, f1⟩ := hw
            refine lw_B2 Γ hn hm (by omega) i1 f1 ⟨d1, hbo, hg.1, d4, by omega⟩ ⟨n1, n2, by omega, by omega⟩ (fun M2 hb2 m2 => ?_)
            rw [lw_v (s0 := s0) p, lw_v (s0 := s0) q]
            exact m_readU (os := os) Γ (by omega) hb2 hs (i_b p) (i_b q) m2 d1 (fun h => absurd ⟨hp, hq⟩ h) (fun _ _ e => nomatch (hk.symm.trans e)) (fun u2 i2 B2 e1 e2 e3 e4 => by
              have x1 : u2 = u := by omega
              have x2 : i2 = i := by omega
              subst x1
              subst x2
              rw [hB] at e4
              cases Option.some.inj e4
              exact ⟨ho, fun _ C2 M3 c1 i3 f3 e0 => ⟨c1.l4 (by decide), rfl, i3, f3, e0⟩, fun h => absurd hg h⟩)
        · refine ⟨0, lwA s0 ca (if 4096 < (os i).1.length then -31 else -20) (fun C1 S1 M1 => C1 = C ∧ S1 = S ∧ cI S C.1 M1 tb ks L ow [] pl (a + 1) ∧ mfc M M1), lw_A1 (c_L_readG Γ (d := 2035) (by omega) hok hX lwP_o (lw_A0 ?_)), fun w1 hw => ?_⟩
          · rw [lw_v (s0 := s0) p, lw_v (s0 := s0) q, hu, hi]
            refine zMet.s9 (c_readU Γ (by omega) hz hI d1 (by omega) hB hil ho (fun h => absurd h hg) (fun _ M1 v i1 f1 hv => ⟨?_, hs, rfl, rfl, i1, f1⟩))
            rcases hv with ⟨c, e⟩ | ⟨c, e⟩
            · rw [if_pos c]; exact e
            · rw [if_neg (by omega)]; exact e
          · obtain ⟨C1, S1, M1, rfl, -, rfl, rfl, i1, f1⟩ := hw
            refine lw_B2 Γ hn hm (by omega) i1 f1 ⟨d1, bN.nil, Nat.zero_le _, d4, by omega⟩ ⟨n1, n2, by omega, by omega⟩ (fun M2 hb2 m2 => ?_)
            rw [lw_v (s0 := s0) p, lw_v (s0 := s0) q]
            exact m_readU (os := os) Γ (by omega) hb2 hs (i_b p) (i_b q) m2 d1 (fun h => absurd ⟨hp, hq⟩ h) (fun _ _ e => nomatch (hk.symm.trans e)) (fun u2 i2 B2 e1 e2 e3 e4 => by
              have x1 : u2 = u := by omega
              have x2 : i2 = i := by omega
              subst x1
              subst x2
              rw [hB] at e4
              cases Option.some.inj e4
              refine ⟨ho, fun h => absurd h hg, fun _ C2 M3 v c1 i3 f3 e0 hv => ⟨c1.l4 (by decide), ?_, i3, f3, e0⟩⟩
              rcases hv with ⟨c, e⟩ | ⟨c, e⟩
              · rw [if_pos c]; exact e
              · rw [if_neg (by omega)]; exact e)
    · have hT : rt_Met l s0 G (.code yX9_read cX9_read 5 (Option.some FieldType.int)) yX9_read (2035 - 1) [rt_r s0 0, .int p, .int q] (zw s0 ca C S M) (rt_tx "java/lang/IndexOutOfBoundsException" (zw s0 ca C S M)) := by
        have g0 : ¬ p < 0 := fun h => by have := i_lt0.mp h; omega
        have g8 : ¬ 8 ≤ p := fun h => by have := i_ge8.mp h; omega
        by_cases c : q < 0
        · exact c_X9_readV Γ hok hok1 hX g0 g8 c
        · have c2 : ¬ q.toInt < 0 := fun h => c (i_lt0.mpr h)
          exact c_X9_readW Γ (by omega) hok hok1 hX hR hCs g0 g8 c (fun h => by
            have := Int32.lt_iff_toInt_lt.mp h
            rw [hu3] at this
            omega)
      refine ⟨1, lwT s0 ca C S M, lw_ir (c_L_readX1 Γ (d := 2035) (by omega) hok hX hT), fun w1 hw => lw_T Γ hn hJ (by decide) hw (fun C1 hb1 => ?_)⟩
      rw [lw_v (s0 := s0) p, lw_v (s0 := s0) q]
      exact m_readU (os := fun _ => ([], false)) Γ (by omega) hb1 hs (i_b p) (i_b q) hm d1 (fun _ M1 i1 f1 e1 => ⟨zcl.rf, i1, f1, e1⟩) (fun _ h => absurd h hq) (fun u i B e1 e2 e3 e4 => absurd ⟨by omega, by omega⟩ hq)
  · have hT : rt_Met l s0 G (.code yX9_read cX9_read 5 (Option.some FieldType.int)) yX9_read (2035 - 1) [rt_r s0 0, .int p, .int q] (zw s0 ca C S M) (rt_tx "java/lang/IndexOutOfBoundsException" (zw s0 ca C S M)) := by
      by_cases c : p < 0
      · exact c_X9_readT Γ hok hok1 hX c
      · have c2 : ¬ p.toInt < 0 := fun h => c (i_lt0.mpr h)
        exact c_X9_readU Γ hok hok1 hX c (i_ge8.mpr (by omega))
    refine ⟨1, lwT s0 ca C S M, lw_ir (c_L_readX1 Γ (d := 2035) (by omega) hok hX hT), fun w1 hw => lw_T Γ hn hJ (by decide) hw (fun C1 hb1 => ?_)⟩
    rw [lw_v (s0 := s0) p, lw_v (s0 := s0) q]
    exact m_readU (os := fun _ => ([], false)) Γ (by omega) hb1 hs (i_b p) (i_b q) hm d1 (fun _ M1 i1 f1 e1 => ⟨zcl.rf, i1, f1, e1⟩) (fun h => absurd h hp) (fun u i B e1 e2 e3 e4 => absurd ⟨by omega, by have := (d1.1 u B e4).1; omega⟩ hp)
end VE
