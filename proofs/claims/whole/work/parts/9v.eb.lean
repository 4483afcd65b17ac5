/-! ===== each call of the law, further ===== -/
section VF
variable {l : Launch} {s0 : State} {a0 : Array Value} {G : va_G} {ca : Nat → ClassId} {C : Nat × Nat} {S : zS} {M : zM} {n : Nat} {tb : List Nat} {ks : kST} {L : List (List Nat)} {ow : Int} {out : List Nat} {pl : Int}
set_option maxRecDepth 10000 in
theorem lw_s_all (Γ : rt_Γ l s0 a0 G ca) (hn : n < 64) (hJ : lJ C S M n tb ks L ow out pl) (p : Int32) : lwS l s0 G ca n (.codeWith yL_all cL_all 4 (Option.some FieldType.int) [(0, 9, 12, 25), (0, 9, 15, 13)]) yL_all [rt_r s0 0, .int p, rt_r s0 137] (.code yX11_all cX11_all 4 (Option.some FieldType.int)) yX11_all [rt_r s0 84, .int p] (zw s0 ca C S M) := by
  obtain ⟨hb, hs, hok, hok1, hz⟩ := hJ.ok (s0 := s0) (ca := ca) hn
  obtain ⟨cu, sp, rp, fp, hX, hcu, hrw⟩ := lw_x0 (s0 := s0) (ca := ca) hJ
  obtain ⟨⟨a, ha, hI⟩, hm, ⟨d1, d2, d3, d4, d5⟩, n1, n2, n3, n4⟩ := id hJ
  by_cases hp : 0 ≤ p.toInt ∧ p.toInt < 8
  · have g0 : ¬ p < 0 := fun h => by have := i_lt0.mp h; omega
    have g8 : p < 8 := i_lt8.mpr hp.2
    cases hk : ks p.toInt.toNat with
    | none =>
      refine ⟨2, lwT s0 ca C S M, lw_ir (c_L_allX2 Γ (d := 2035) (by omega) hok hX (c_X9_allV Γ (d := 2035 - 1) hok hok1 hX (lw_ck hs) g0 g8 (lw_kn (s0 := s0) hJ hp.1 hp.2 hk))), fun w1 hw => lw_T Γ hn hJ (by decide) hw (fun C1 hb1 => ?_)⟩
      rw [lw_v (s0 := s0) p]
      exact m_allU (os := fun _ => ([], false)) Γ (by omega) hb1 hs (i_b p) hm d1 (fun h => absurd hp h) (fun _ _ M1 i1 f1 e1 => ⟨zcl.rf, i1, f1, e1⟩) (fun u B e1 e4 => by
        rw [show p.toInt.toNat = u by omega, e4] at hk
        exact (nomatch hk))
    | some B =>
      obtain ⟨os, ho⟩ := lw_os d1 B
      obtain ⟨r, hr⟩ := aAn_ex os L.length
      obtain ⟨u, hu⟩ : ∃ u : Nat, p.toInt = (u : Int) := ⟨p.toInt.toNat, by omega⟩
      have hB : ks u = some B := by rw [← hk, hu, Int.toNat_natCast]
      refine ⟨0, lwA s0 ca (r : Int) (fun C1 S1 M1 => C1 = C ∧ S1 = S ∧ cI S C.1 M1 tb ks L ow out pl (a + 1) ∧ mfc M M1), lw_A1 (c_L_allG Γ (d := 2035) (by omega) hok hX lwP_o (lw_A0 ?_)), fun w1 hw => ?_⟩
      · rw [lw_v (s0 := s0) p, hu]
        exact zMet.s9 (c_allU Γ (by omega) hz hI d1 (by omega) hB ho (fun r1 M1 h1 i1 f1 => ⟨by rw [aAn_u hr h1], hs, rfl, rfl, i1, f1⟩))
      · obtain ⟨C1, S1, M1, rfl, -, rfl, rfl, i1, f1⟩ := hw
        refine lw_B2 Γ hn hm (by omega) i1 f1 ⟨d1, d2, d3, d4, by omega⟩ ⟨n1, n2, by omega, by omega⟩ (fun M2 hb2 m2 => ?_)
        rw [lw_v (s0 := s0) p]
        exact m_allU (os := os) Γ (by omega) hb2 hs (i_b p) m2 d1 (fun h => absurd hp h) (fun _ e => (nomatch (hk.symm.trans e))) (fun u2 B2 e1 e4 => by
          have x1 : u2 = u := by omega
          subst x1
          rw [hB] at e4
          cases Option.some.inj e4
          exact ⟨ho, fun C2 r1 M3 c1 h1 i3 f3 e0 => ⟨c1.l4 (by decide), by rw [aAn_u hr h1], i3, f3, e0⟩⟩)
  · have hT : rt_Met l s0 G (.code yX9_all cX9_all 4 (Option.some FieldType.int)) yX9_all (2035 - 1) [rt_r s0 0, .int p] (zw s0 ca C S M) (rt_tx "java/lang/IndexOutOfBoundsException" (zw s0 ca C S M)) := by
      by_cases c : p < 0
      · exact c_X9_allT Γ hok hok1 hX c
      · have c2 : ¬ p.toInt < 0 := fun h => c (i_lt0.mpr h)
        exact c_X9_allU Γ hok hok1 hX c (fun h => by have := i_lt8.mp h; omega)
    refine ⟨1, lwT s0 ca C S M, lw_ir (c_L_allX1 Γ (d := 2035) (by omega) hok hX hT), fun w1 hw => lw_T Γ hn hJ (by decide) hw (fun C1 hb1 => ?_)⟩
    rw [lw_v (s0 := s0) p]
    exact m_allU (os := fun _ => ([], false)) Γ (by omega) hb1 hs (i_b p) hm d1 (fun _ M1 i1 f1 e1 => ⟨zcl.rf, i1, f1, e1⟩) (fun h => absurd h hp) (fun u B e1 e4 => absurd ⟨by omega, by have := (d1.1 u B e4).1; omega⟩ hp)
set_option maxRecDepth 10000 in
theorem lw_s_load (Γ : rt_Γ l s0 a0 G ca) (hn : n < 64) (hJ : lJ C S M n tb ks L ow out pl) (p : Int32) : lwS l s0 G ca n (.codeWith yL_load cL_load 4 (Option.some FieldType.int) [(0, 9, 12, 25), (0, 9, 15, 13)]) yL_load [rt_r s0 0, .int p, rt_r s0 137] (.code yX11_load cX11_load 4 (Option.some FieldType.int)) yX11_load [rt_r s0 84, .int p] (zw s0 ca C S M) := by
  obtain ⟨hb, hs, hok, hok1, hz⟩ := hJ.ok (s0 := s0) (ca := ca) hn
  obtain ⟨cu, sp, rp, fp, hX, hcu, hrw⟩ := lw_x0 (s0 := s0) (ca := ca) hJ
  obtain ⟨⟨a, ha, hI⟩, hm, ⟨d1, d2, d3, d4, d5⟩, n1, n2, n3, n4⟩ := id hJ
  have htb : tb.length ≤ 4000 ∧ ∀ x ∈ tb, x < 256 := ⟨by omega, d4⟩
  by_cases hp : 0 ≤ p.toInt ∧ p.toInt < 8
  · have g0 : ¬ p < 0 := fun h => by have := i_lt0.mp h; omega
    have g8 : p < 8 := i_lt8.mpr hp.2
    cases hk : ks p.toInt.toNat with
    | none =>
      refine ⟨2, lwT s0 ca C S M, lw_ir (c_L_loadX2 Γ (d := 2035) (by omega) hok hX (c_X9_loadV Γ (d := 2035 - 1) hok hok1 hX (lw_ck hs) g0 g8 (lw_kn (s0 := s0) hJ hp.1 hp.2 hk))), fun w1 hw => lw_T Γ hn hJ (by decide) hw (fun C1 hb1 => ?_)⟩
      rw [lw_v (s0 := s0) p]
      exact m_loadU Γ (by omega) hb1 hs (i_b p) hm d1 htb (fun h => absurd hp h) (fun _ _ M1 i1 f1 e1 => ⟨zcl.rf, i1, f1, e1⟩) (fun u B e1 e4 => by
        rw [show p.toInt.toNat = u by omega, e4] at hk
        exact (nomatch hk))
    | some A =>
      obtain ⟨u, hu⟩ : ∃ u : Nat, p.toInt = (u : Int) := ⟨p.toInt.toNat, by omega⟩
      have hA : ks u = some A := by rw [← hk, hu, Int.toNat_natCast]
      cases hy : yAll A.2.2.2.ns tb A.2.2.1 with
      | error eo =>
        cases eo with
        | none =>
          refine ⟨0, lwA s0 ca (-34) (fun C1 S1 M1 => C1 = C ∧ S1 = S ∧ cI S C.1 M1 tb ks L ow out (-1) a ∧ mfc M M1), lw_A1 (c_L_loadG Γ (d := 2035) (by omega) hok hX lwP_o (lw_A0 ?_)), fun w1 hw => ?_⟩
          · rw [lw_v (s0 := s0) p, hu]
            exact zMet.s9 (c_loadU Γ (by omega) hz hI d1 htb hA (fun e h => (nomatch (hy.symm.trans h))) (fun _ M1 i1 f1 => ⟨rfl, hs, rfl, rfl, i1, f1⟩) (fun L1 h => (nomatch (hy.symm.trans h))))
          · obtain ⟨C1, S1, M1, rfl, -, rfl, rfl, i1, f1⟩ := hw
            refine lw_B2 Γ hn hm (by omega) i1 f1 ⟨d1, d2, d3, d4, by omega⟩ ⟨n1, n2, by omega, by omega⟩ (fun M2 hb2 m2 => ?_)
            rw [lw_v (s0 := s0) p]
            exact m_loadU Γ (by omega) hb2 hs (i_b p) m2 d1 htb (fun h => absurd hp h) (fun _ e => (nomatch (hk.symm.trans e))) (fun u2 B2 e1 e4 => by
              have x1 : u2 = u := by omega
              subst x1
              rw [hA] at e4
              cases Option.some.inj e4
              exact ⟨fun e h => (nomatch (hy.symm.trans h)), fun _ C2 M3 c1 i3 f3 e0 => ⟨c1.l4 (by decide), rfl, i3, f3, e0⟩, fun L1 h => (nomatch (hy.symm.trans h))⟩)
        | some e =>
          refine ⟨0, lwA s0 ca (-(e.1 : Int)) (fun C1 S1 M1 => C1 = C ∧ S1 = S ∧ cI S C.1 M1 tb ks L ow out e.2 a ∧ mfc M M1), lw_A1 (c_L_loadG Γ (d := 2035) (by omega) hok hX lwP_o (lw_A0 ?_)), fun w1 hw => ?_⟩
          · rw [lw_v (s0 := s0) p, hu]
            exact zMet.s9 (c_loadU Γ (by omega) hz hI d1 htb hA (fun e1 h M1 i1 f1 => by
              rw [hy] at h
              cases h
              exact ⟨rfl, hs, rfl, rfl, i1, f1⟩) (fun h => (nomatch (hy.symm.trans h))) (fun L1 h => (nomatch (hy.symm.trans h))))
          · obtain ⟨C1, S1, M1, rfl, -, rfl, rfl, i1, f1⟩ := hw
            refine lw_B2 Γ hn hm (by omega) i1 f1 ⟨d1, d2, d3, d4, by omega⟩ ⟨n1, n2, by omega, by omega⟩ (fun M2 hb2 m2 => ?_)
            rw [lw_v (s0 := s0) p]
            exact m_loadU Γ (by omega) hb2 hs (i_b p) m2 d1 htb (fun h => absurd hp h) (fun _ e => (nomatch (hk.symm.trans e))) (fun u2 B2 e1 e4 => by
              have x1 : u2 = u := by omega
              subst x1
              rw [hA] at e4
              cases Option.some.inj e4
              exact ⟨fun e9 h C2 M3 c1 i3 f3 e0 => by
                rw [hy] at h
                cases h
                exact ⟨c1.l4 (by decide), rfl, i3, f3, e0⟩, fun h => (nomatch (hy.symm.trans h)), fun L1 h => (nomatch (hy.symm.trans h))⟩)
      | ok L1 =>
        refine ⟨0, lwA s0 ca (L1.length : Nat) (fun C1 S1 M1 => C1 = C ∧ S1 = S ∧ cI S C.1 M1 [] ks L1 u out (-1) a ∧ mfc M M1), lw_A1 (c_L_loadG Γ (d := 2035) (by omega) hok hX lwP_o (lw_A0 ?_)), fun w1 hw => ?_⟩
        · rw [lw_v (s0 := s0) p, hu]
          exact zMet.s9 (c_loadU Γ (by omega) hz hI d1 htb hA (fun e1 h => (nomatch (hy.symm.trans h))) (fun h => (nomatch (hy.symm.trans h))) (fun L2 h M1 i1 f1 => by
            rw [hy] at h
            cases h
            exact ⟨rfl, hs, rfl, rfl, i1, f1⟩))
        · obtain ⟨C1, S1, M1, rfl, -, rfl, rfl, i1, f1⟩ := hw
          refine lw_B2 Γ hn hm (by omega) i1 f1 ⟨d1.ld htb hA hy, d2, d3, bN.nil, Nat.zero_le _⟩ ⟨n1, n2, by omega, by omega⟩ (fun M2 hb2 m2 => ?_)
          rw [lw_v (s0 := s0) p]
          exact m_loadU Γ (by omega) hb2 hs (i_b p) m2 d1 htb (fun h => absurd hp h) (fun _ e => (nomatch (hk.symm.trans e))) (fun u2 B2 e1 e4 => by
            have x1 : u2 = u := by omega
            subst x1
            rw [hA] at e4
            cases Option.some.inj e4
            exact ⟨fun e h => (nomatch (hy.symm.trans h)), fun h => (nomatch (hy.symm.trans h)), fun L2 h C2 M3 c1 i3 f3 e0 => by
              rw [hy] at h
              cases h
              exact ⟨c1.l4 (by decide), rfl, i3, f3, e0⟩⟩)
  · have hT : rt_Met l s0 G (.code yX9_load cX9_load 5 (Option.some FieldType.int)) yX9_load (2035 - 1) [rt_r s0 0, .int p] (zw s0 ca C S M) (rt_tx "java/lang/IndexOutOfBoundsException" (zw s0 ca C S M)) := by
      by_cases c : p < 0
      · exact c_X9_loadT Γ hok hok1 hX c
      · have c2 : ¬ p.toInt < 0 := fun h => c (i_lt0.mpr h)
        exact c_X9_loadU Γ hok hok1 hX c (fun h => by have := i_lt8.mp h; omega)
    refine ⟨1, lwT s0 ca C S M, lw_ir (c_L_loadX1 Γ (d := 2035) (by omega) hok hX hT), fun w1 hw => lw_T Γ hn hJ (by decide) hw (fun C1 hb1 => ?_)⟩
    rw [lw_v (s0 := s0) p]
    exact m_loadU Γ (by omega) hb1 hs (i_b p) hm d1 htb (fun _ M1 i1 f1 e1 => ⟨zcl.rf, i1, f1, e1⟩) (fun h => absurd h hp) (fun u B e1 e4 => absurd ⟨by omega, by have := (d1.1 u B e4).1; omega⟩ hp)
/-- the reference refuses the place -/
theorem m_schemaT {d : Nat} {Q : Nat × Nat → Int → zM → Prop} (Γ : rt_Γ l s0 a0 G ca) (hd : 404 ≤ d) (hok : zok C) (hs : zSok S) {p : Int} (hp : -2147483648 ≤ p ∧ p < 2147483648) (hI : mI M tb ks L ow out pl) (hn : ¬ (0 ≤ p ∧ p < 8)) (k1 : ∀ M1 : zM, mI M1 tb ks L ow out pl → mfm M M1 → M1 84 0 = 1 → Q C 0 M1) : zu_X11_schema l s0 G ca d C S p M Q := by
  have f1 : ∀ v : Int, mI (zu M 84 0 v) tb ks L ow out pl ∧ mfm M (zu M 84 0 v) ∧ zu M 84 0 v 84 0 = v := fun v => ⟨hI.fr (fun c j h => zu_ne (fun e => by omega)), mfm.rf.zu (by decide), zu_s _ _ _ _⟩
  refine z_X11_schema Γ (by omega) hok hs ?_
  unfold zt_X11_schema zt_X11_schema_13
  refine m_isP Γ (by omega) hok hs hp (fun a1 a2 => absurd ⟨a1, a2⟩ hn) (fun _ => zIf_t (by decide) ?_)
  exact m_refd Γ (by omega) hok hs (Or.inr rfl) (Or.inl rfl) (fun h => absurd h (by decide)) (fun _ => zIf_f (by decide) (k1 _ (f1 1).1 (f1 1).2.1 (f1 1).2.2)) (fun h => absurd h (by decide))
set_option maxRecDepth 10000 in
theorem lw_s_schema (Γ : rt_Γ l s0 a0 G ca) (hn : n < 64) (hJ : lJ C S M n tb ks L ow out pl) (p : Int32) : lwS l s0 G ca n (.codeWith yL_schema cL_schema 4 (Option.some FieldType.int) [(0, 9, 12, 25)]) yL_schema [rt_r s0 0, .int p, rt_r s0 137] (.code yX11_schema cX11_schema 4 (Option.some FieldType.int)) yX11_schema [rt_r s0 84, .int p] (zw s0 ca C S M) := by
  obtain ⟨hb, hs, hok, hok1, hz⟩ := hJ.ok (s0 := s0) (ca := ca) hn
  obtain ⟨cu, sp, rp, fp, hX, hcu, hrw⟩ := lw_x0 (s0 := s0) (ca := ca) hJ
  obtain ⟨⟨a, ha, hI⟩, hm, ⟨d1, d2, d3, d4, d5⟩, n1, n2, n3, n4⟩ := id hJ
  have htb : tb.length ≤ 1300 ∧ ∀ x ∈ tb, x < 256 := ⟨by omega, d4⟩
  by_cases hp : 0 ≤ p.toInt ∧ p.toInt < 8
  · obtain ⟨u, hu⟩ : ∃ u : Nat, p.toInt = (u : Int) := ⟨p.toInt.toNat, by omega⟩
    have hu8 : u < 8 := by omega
    cases hy : sRs tb with
    | error e =>
      refine ⟨0, lwA s0 ca (e.1 : Nat) (fun C1 S1 M1 => C1 = C ∧ S1 = S ∧ (0 < e.1 ∧ e.1 < 100) ∧ cI S C.1 M1 tb ks L ow out e.2 a ∧ mfc M M1), lw_A1 (c_L_schemaG Γ (d := 2035) (by omega) hok hX lwP_o (lw_A0 ?_)), fun w1 hw => ?_⟩
      · rw [lw_v (s0 := s0) p, hu]
        exact c_schemaU Γ (by omega) ⟨by omega, by omega⟩ n2 n1 hI d1 htb hu8 (fun e1 h hp M1 i1 f1 => by
          rw [hy] at h
          cases h
          exact ⟨rfl, hs, rfl, rfl, hp, i1, f1⟩) (fun z h => (nomatch (hy.symm.trans h)))
      · obtain ⟨C1, S1, M1, rfl, -, rfl, rfl, hpos, i1, f1⟩ := hw
        refine lw_B2 Γ hn hm (by omega) i1 f1 ⟨d1, d2, d3, d4, by omega⟩ ⟨n1, n2, by omega, by omega⟩ (fun M2 hb2 m2 => ?_)
        rw [lw_v (s0 := s0) p]
        exact m_schemaU Γ (by omega) hb2 hs (i_b p) m2 d1 htb (fun e1 h => by
          rw [hy] at h
          cases h
          exact hpos) (fun h => absurd hp h) (fun u2 e1 e4 => by
          have x1 : u2 = u := by omega
          subst x1
          exact ⟨fun e9 h C2 M3 c1 i3 f3 e0 => by
            rw [hy] at h
            cases h
            exact ⟨c1.l4 (by decide), rfl, i3, f3, e0⟩, fun z h => (nomatch (hy.symm.trans h))⟩)
    | ok z =>
      refine ⟨0, lwA s0 ca 0 (fun C1 S1 M1 => (C.1 ≤ C1.1 ∧ C1.1 ≤ C.1 + 25 ∧ C.2 ≤ C1.2 ∧ C1.2 ≤ C.2 + 21321) ∧ cI S1 C1.1 M1 [] (kup ks u (tb, z)) (lup ow u L) (oup ow u) out (-1) a ∧ (∀ b : Int, (C1.1 : Int) ≤ b → S1 b = none) ∧ mfc M M1), lw_A1 (c_L_schemaG Γ (d := 2035) (by omega) hok hX lwP_o (lw_A0 ?_)), fun w1 hw => ?_⟩
      · rw [lw_v (s0 := s0) p, hu]
        exact c_schemaU Γ (by omega) ⟨by omega, by omega⟩ n2 n1 hI d1 htb hu8 (fun e1 h => (nomatch (hy.symm.trans h))) (fun z1 h C1 S1 M1 c1 i1 s1 f1 => by
          rw [hy] at h
          cases h
          exact ⟨rfl, i1.1.1, c1, i1, s1, f1⟩)
      · obtain ⟨C1, S1, M1, rfl, hs1, ⟨c1, c2, c3, c4⟩, i1, s1, f1⟩ := hw
        refine lw_B2 Γ hn hm (by omega) i1 f1 ⟨d1.sc htb hu8 hy, d2, d3, bN.nil, Nat.zero_le _⟩ ⟨s1, by omega, by omega, by omega⟩ (fun M2 hb2 m2 => ?_)
        rw [lw_v (s0 := s0) p]
        exact m_schemaU Γ (by omega) hb2 hs1 (i_b p) m2 d1 htb (fun e1 h => (nomatch (hy.symm.trans h))) (fun h => absurd hp h) (fun u2 e1 e4 => by
          have x1 : u2 = u := by omega
          subst x1
          exact ⟨fun e9 h => (nomatch (hy.symm.trans h)), fun z1 h C2 M3 c1 i3 f3 e0 => by
            rw [hy] at h
            cases h
            exact ⟨c1.l4 (by decide), rfl, i3, f3, e0⟩⟩)
  · have hT : rt_Met l s0 G (.code yX9_schema cX9_schema 3 (Option.some FieldType.int)) yX9_schema (2035 - 1) [rt_r s0 0, .int p] (zw s0 ca C S M) (rt_tx "java/lang/IndexOutOfBoundsException" (zw s0 ca C S M)) := by
      by_cases c : p < 0
      · exact c_X9_schemaT Γ hok hok1 hX c
      · have c2 : ¬ p.toInt < 0 := fun h => c (i_lt0.mpr h)
        exact c_X9_schemaU Γ hok hok1 hX c (fun h => by have := i_lt8.mp h; omega)
    refine ⟨1, lwT s0 ca C S M, lw_ir (c_L_schemaX1 Γ (d := 2035) (by omega) hok hX hT), fun w1 hw => lw_T Γ hn hJ (by decide) hw (fun C1 hb1 => ?_)⟩
    rw [lw_v (s0 := s0) p]
    exact m_schemaT Γ (by omega) ⟨by have := hb1.1; omega, by have := hb1.2; omega⟩ hs (i_b p) hm hp (fun M1 i1 f1 e1 => ⟨zcl.rf, i1, f1, e1⟩)
end VF
