/-! ===== each call of the law: the small ones, and whether one fits ===== -/
section VG
variable {l : Launch} {s0 : State} {a0 : Array Value} {G : va_G} {ca : Nat → ClassId} {C : Nat × Nat} {S : zS} {M : zM} {n : Nat} {tb : List Nat} {ks : kST} {L : List (List Nat)} {ow : Int} {out : List Nat} {pl : Int}
theorem lw_bs (hJ : lJ C S M n tb ks L ow out pl) : ∀ u : Nat, u < 2 → (bsW L out u).length ≤ 4096 ∧ ∀ j : Nat, (bsW L out u).getD j 0 < 256 := by
  obtain ⟨-, -, ⟨d1, d2, d3, d4, d5⟩, -⟩ := hJ
  intro u hu
  unfold bsW
  by_cases c : u = 0
  · rw [if_pos c]
    exact ⟨by have := d1.2.2.1; omega, fun j => (d1.b).at j⟩
  · rw [if_neg c]
    exact ⟨d3, fun j => d2.at j⟩
set_option maxRecDepth 10000 in
theorem lw_s_size (Γ : rt_Γ l s0 a0 G ca) (hn : n < 64) (hJ : lJ C S M n tb ks L ow out pl) (p : Int32) : lwS l s0 G ca n (.codeWith yL_size cL_size 4 (Option.some FieldType.int) [(0, 9, 12, 19)]) yL_size [rt_r s0 0, .int p, rt_r s0 137] (.code yX11_size cX11_size 2 (Option.some FieldType.int)) yX11_size [rt_r s0 84, .int p] (zw s0 ca C S M) := by
  obtain ⟨hb, hs, hok, hok1, hz⟩ := hJ.ok (s0 := s0) (ca := ca) hn
  obtain ⟨cu, sp, rp, fp, hX, hcu, hrw⟩ := lw_x0 (s0 := s0) (ca := ca) hJ
  obtain ⟨⟨a, ha, hI⟩, hm, ⟨d1, d2, d3, d4, d5⟩, n1, n2, n3, n4⟩ := id hJ
  by_cases hp : 0 ≤ p.toInt ∧ p.toInt ≤ 1
  · obtain ⟨u, hu⟩ : ∃ u : Nat, p.toInt = (u : Int) := ⟨p.toInt.toNat, by omega⟩
    refine ⟨0, lwA s0 ca ((bsW L out u).length : Nat) (fun C1 S1 M1 => C1 = C ∧ S1 = S ∧ M1 = M), lw_A1 (c_L_sizeG Γ (d := 2035) (by omega) hok hX lwP_o (lw_A0 ?_)), fun w1 hw => ?_⟩
    · rw [lw_v (s0 := s0) p, hu]
      exact zMet.s9 (c_sizeU Γ (by omega) hz hI (by omega) ⟨rfl, hs, rfl, rfl, rfl⟩)
    · obtain ⟨C1, S1, M1, rfl, -, rfl, rfl, rfl⟩ := hw
      refine lw_B2 Γ hn hm (by omega) hI (fun _ _ _ _ => rfl) ⟨d1, d2, d3, d4, by omega⟩ ⟨n1, n2, by omega, by omega⟩ (fun M2 hb2 m2 => ?_)
      rw [lw_v (s0 := s0) p]
      exact zMet.u9 (m_sizeU Γ (by omega) hz hs m2 (i_b p) (fun h => absurd hp h) (fun u2 e1 e2 M3 i3 f3 e0 => by
        have x1 : u2 = u := by omega
        subst x1
        exact ⟨zcl.rf, rfl, i3, f3, e0⟩))
  · have hT : rt_Met l s0 G (.code yX9_size cX9_size 2 (Option.some FieldType.int)) yX9_size (2035 - 1) [rt_r s0 0, .int p] (zw s0 ca C S M) (rt_tx "java/lang/IllegalArgumentException" (zw s0 ca C S M)) :=
      c_X9_sizeT Γ hok hok1 hX (fun h => hp (by rw [h]; decide)) (fun h => hp (by rw [h]; decide))
    refine ⟨1, lwT s0 ca C S M, lw_ir (c_L_sizeX1 Γ (d := 2035) (by omega) hok hX hT), fun w1 hw => lw_T Γ hn hJ (by decide) hw (fun C1 hb1 => ?_)⟩
    rw [lw_v (s0 := s0) p]
    exact zMet.u9 (m_sizeU Γ (by omega) ⟨by have := hb1.1; omega, by have := hb1.2; omega⟩ hs hm (i_b p) (fun _ M1 i1 f1 e1 => ⟨zcl.rf, i1, f1, e1⟩) (fun u e1 e4 => absurd ⟨by omega, by omega⟩ hp))
set_option maxRecDepth 10000 in
theorem lw_s_letter (Γ : rt_Γ l s0 a0 G ca) (hn : n < 64) (hJ : lJ C S M n tb ks L ow out pl) (q p : Int32) : lwS l s0 G ca n (.codeWith yL_letter cL_letter 5 (Option.some FieldType.int) [(0, 10, 13, 25), (0, 10, 17, 19)]) yL_letter [rt_r s0 0, .int q, .int p, rt_r s0 137] (.code yX11_letter cX11_letter 4 (Option.some FieldType.int)) yX11_letter [rt_r s0 84, .int q, .int p] (zw s0 ca C S M) := by
  obtain ⟨hb, hs, hok, hok1, hz⟩ := hJ.ok (s0 := s0) (ca := ca) hn
  obtain ⟨cu, sp, rp, fp, hX, hcu, hrw⟩ := lw_x0 (s0 := s0) (ca := ca) hJ
  obtain ⟨hR, hCb, hCs⟩ := lw_rw (s0 := s0) (ca := ca) (C := C) (M := M) hs hcu
  have hbl := lw_bs hJ
  obtain ⟨⟨a, ha, hI⟩, hm, ⟨d1, d2, d3, d4, d5⟩, n1, n2, n3, n4⟩ := id hJ
  by_cases hp : 0 ≤ p.toInt ∧ p.toInt ≤ 1
  · obtain ⟨u, hu⟩ : ∃ u : Nat, p.toInt = (u : Int) := ⟨p.toInt.toNat, by omega⟩
    have hu2 : u < 2 := by omega
    by_cases hq : 0 ≤ q.toInt ∧ q.toInt < ((bsW L out u).length : Int)
    · obtain ⟨i, hi⟩ : ∃ i : Nat, q.toInt = (i : Int) := ⟨q.toInt.toNat, by omega⟩
      refine ⟨0, lwA s0 ca ((bsW L out u).getD i 0 : Nat) (fun C1 S1 M1 => C1 = C ∧ S1 = S ∧ M1 = M), lw_A1 (c_L_letterG Γ (d := 2035) (by omega) hok hX lwP_o (lw_A0 ?_)), fun w1 hw => ?_⟩
      · rw [lw_v (s0 := s0) p, lw_v (s0 := s0) q, hu, hi]
        exact zMet.s9 (c_letterU Γ (by omega) hz hI hu2 (by omega) (hbl u hu2).1 ⟨rfl, hs, rfl, rfl, rfl⟩)
      · obtain ⟨C1, S1, M1, rfl, -, rfl, rfl, rfl⟩ := hw
        refine lw_B2 Γ hn hm (by omega) hI (fun _ _ _ _ => rfl) ⟨d1, d2, d3, d4, by omega⟩ ⟨n1, n2, by omega, by omega⟩ (fun M2 hb2 m2 => ?_)
        rw [lw_v (s0 := s0) p, lw_v (s0 := s0) q]
        exact zMet.u9 (m_letterU Γ (by omega) hz hs m2 hbl (i_b q) (i_b p) (fun h => absurd hp h) (fun u2 e1 e2 h => absurd (by
          have x1 : u2 = u := by omega
          subst x1
          exact hq) h) (fun u2 i2 e1 e2 e3 e4 M3 i3 f3 e0 => by
          have x1 : u2 = u := by omega
          have x2 : i2 = i := by omega
          subst x1
          subst x2
          exact ⟨zcl.rf, rfl, i3, f3, e0⟩))
    · have hT : rt_Met l s0 G (.code yX9_letter cX9_letter 4 (Option.some FieldType.int)) yX9_letter (2035 - 1) [rt_r s0 0, .int q, .int p] (zw s0 ca C S M) (rt_tx "java/lang/IndexOutOfBoundsException" (zw s0 ca C S M)) := by
        have hq0 : ¬ q < 0 → ¬ q.toInt < 0 := fun h h1 => h (i_lt0.mpr h1)
        by_cases c0 : u = 0
        · subst c0
          have ep : p = 0 := i_of hu
          subst ep
          have el : ((bsW L out 0).length : Int) = (L.flatten.length : Int) := rfl
          by_cases c : q < 0
          · exact c_X9_letter0T Γ (by omega) hok hok1 hX hR c
          · have := hq0 c
            refine c_X9_letter0U Γ (by omega) hok hok1 hX hR hCb c (fun h => ?_)
            have h := Int32.lt_iff_toInt_lt.mp h
            rw [hrw.1, z_toI, w32_id (by omega) (by have := d1.2.2.1; omega)] at h
            omega
        · have c1 : u = 1 := by omega
          subst c1
          have ep : p = 1 := i_of hu
          subst ep
          have el : ((bsW L out 1).length : Int) = (out.length : Int) := rfl
          by_cases c : q < 0
          · exact c_X9_letter1T Γ (by omega) hok hok1 hX c
          · have := hq0 c
            have hC3 : rt_C s0 ca (zw s0 ca C S M) 3 4096 _ _ := lw_ce (c := 3) ⟨by decide, by decide, by decide, hs 3 _ rfl, hs 4 _ rfl⟩
            refine c_X9_letter1U Γ (by omega) hok hok1 hX hC3 c (fun h => ?_)
            have h := Int32.lt_iff_toInt_lt.mp h
            have h31 : M ((3 : Nat) : Int) 1 = (out.length : Int) := hI.2.2.2.2.2.1.1
            rw [h31, z_toI, w32_id (by omega) (by omega)] at h
            omega
      refine ⟨1, lwT s0 ca C S M, lw_ir (c_L_letterX1 Γ (d := 2035) (by omega) hok hX hT), fun w1 hw => lw_T Γ hn hJ (by decide) hw (fun C1 hb1 => ?_)⟩
      rw [lw_v (s0 := s0) p, lw_v (s0 := s0) q]
      exact zMet.u9 (m_letterU Γ (by omega) ⟨by have := hb1.1; omega, by have := hb1.2; omega⟩ hs hm hbl (i_b q) (i_b p) (fun h => absurd hp h) (fun u2 e1 e2 h M1 i1 f1 e1 => ⟨zcl.rf, i1, f1, e1⟩) (fun u2 i2 e1 e2 e3 e4 => absurd (by
        have x1 : u2 = u := by omega
        subst x1
        exact ⟨by omega, by omega⟩) hq))
  · have hT : rt_Met l s0 G (.code yX9_letter cX9_letter 4 (Option.some FieldType.int)) yX9_letter (2035 - 1) [rt_r s0 0, .int q, .int p] (zw s0 ca C S M) (rt_tx "java/lang/IllegalArgumentException" (zw s0 ca C S M)) :=
      c_X9_letterT Γ hok hok1 hX (fun h => hp (by rw [h]; decide)) (fun h => hp (by rw [h]; decide))
    refine ⟨2, lwT s0 ca C S M, lw_ir (c_L_letterX2 Γ (d := 2035) (by omega) hok hX hT), fun w1 hw => lw_T Γ hn hJ (by decide) hw (fun C1 hb1 => ?_)⟩
    rw [lw_v (s0 := s0) p, lw_v (s0 := s0) q]
    exact zMet.u9 (m_letterU Γ (by omega) ⟨by have := hb1.1; omega, by have := hb1.2; omega⟩ hs hm hbl (i_b q) (i_b p) (fun _ M1 i1 f1 e1 => ⟨zcl.rf, i1, f1, e1⟩) (fun u e1 e4 => absurd ⟨by omega, by omega⟩ hp) (fun u i e1 e4 => absurd ⟨by omega, by omega⟩ hp))
/-- end: it gives nothing back -/
def lwE (l : Launch) (s0 : State) (G : va_G) (ca : Nat → ClassId) (n : Nat) (p : Int32) (w : rt_Wd) : Prop := ∃ (k : Int32) (PA : rt_Wd → Prop), rt_Met l s0 G (.codeWith yL_end cL_end 3 (Option.some FieldType.int) [(0, 5, 8, 19)]) yL_end 2035 [rt_r s0 0, .int p] w (fun r w1 => r = .inl (some (.int k)) ∧ PA w1) ∧ ∀ w1 : rt_Wd, PA w1 → rt_ok w1 ∧ (∃ fs : List Value, w1.2.2 84 = some (.inr (11, fs))) ∧ rt_Met l s0 G (.code yX11_end cX11_end 2 (Option.none : Option FieldType)) yX11_end 2035 [rt_r s0 84, .int p] w1 (rt_vd (fun w2 => rt_mk l s0 G k w2 ∧ lI s0 ca (n + 1) w2))
set_option maxRecDepth 10000 in
theorem lw_BE (Γ : rt_Γ l s0 a0 G ca) (hn : n < 64) {k p : Int32} (hc : ∃ a : Nat, a ≤ n + 1 ∧ cI S C.1 M tb ks L ow out pl a) (hd : lD (n + 1) tb ks L ow out) (hm : lMM n C S)
    (hM : zm_X11_end l s0 G ca 2035 C S p.toInt M (fun _ M2 => mI M2 tb ks L ow out pl ∧ mfm M M2 ∧ M2 84 0 = k.toInt) (fun _ => False)) :
    rt_ok (zw s0 ca C S M) ∧ (∃ fs : List Value, (zw s0 ca C S M).2.2 84 = some (.inr (11, fs))) ∧ rt_Met l s0 G (.code yX11_end cX11_end 2 (Option.none : Option FieldType)) yX11_end 2035 [rt_r s0 84, .int p] (zw s0 ca C S M) (rt_vd (fun w2 => rt_mk l s0 G k w2 ∧ lI s0 ca (n + 1) w2)) := by
  obtain ⟨a, ha, hc⟩ := hc
  obtain ⟨n1, n2, n3, n4⟩ := hm
  have hs : zSok S := hc.1.1
  have m4 : C.2 ≤ 298622 + 22000 * (n + 1) := Nat.le_trans n4 (by omega)
  have m3 : lNN (n + 1) C S := ⟨n1, n2, by omega, m4⟩
  have m2 : zok C := ⟨Nat.le_trans n3 (by omega), Nat.le_trans n4 (by omega)⟩
  have m1 : rt_ok (zw s0 ca C S M) := ⟨show C.1 ≤ 600000 from Nat.le_trans n3 (by omega), show C.2 ≤ 7300000 from Nat.le_trans n4 (by omega)⟩
  refine ⟨m1, lw_78 hs, ?_⟩
  rw [lw_v (s0 := s0) p]
  refine rt_Met.mono (fun r w1 q => ?_) hM
  rcases q with ⟨u, M2, h1, rfl, hI, hf, h0⟩ | ⟨-, _, _, -, -, -, h5⟩
  · exact ⟨h1, ⟨m1, lw_78 hs, lw_th Γ m2 hs h0⟩, C, S, M2, tb, ks, L, ow, out, pl, rfl, ⟨a, ha, hc.md (fun c j h => hf c j (by omega))⟩, hI, hd, m3⟩
  · exact h5.elim
set_option maxRecDepth 10000 in
theorem lw_s_end (Γ : rt_Γ l s0 a0 G ca) (hn : n < 64) (hJ : lJ C S M n tb ks L ow out pl) (p : Int32) : lwE l s0 G ca n p (zw s0 ca C S M) := by
  obtain ⟨hb, hs, hok, hok1, hz⟩ := hJ.ok (s0 := s0) (ca := ca) hn
  obtain ⟨cu, sp, rp, fp, hX, hcu, hrw⟩ := lw_x0 (s0 := s0) (ca := ca) hJ
  obtain ⟨⟨a, ha, hI⟩, hm, ⟨d1, d2, d3, d4, d5⟩, n1, n2, n3, n4⟩ := id hJ
  by_cases hp : 0 ≤ p.toInt ∧ p.toInt ≤ (tb.length : Int)
  · obtain ⟨u, hu⟩ : ∃ u : Nat, p.toInt = (u : Int) := ⟨p.toInt.toNat, by omega⟩
    have hA : rt_Met l s0 G (.code yX9_end cX9_end 2 (Option.none : Option FieldType)) yX9_end (2035 - 1) [rt_r s0 0, .int p] (zw s0 ca C S M) (rt_vd (fun w1 => ∃ M1 : zM, w1 = zw s0 ca C S M1 ∧ cI S C.1 M1 (tb.take u) ks L ow out pl a ∧ mfc M M1)) := by
      rw [lw_v (s0 := s0) p, hu]
      refine rt_Met.mono (fun r w1 q => ?_) (c_endU (Q := fun _ M1 => cI S C.1 M1 (tb.take u) ks L ow out pl a ∧ mfc M M1) (X := fun _ => False) Γ (by omega) hz hI (by omega) (k := u) (by omega) (fun M1 i1 f1 => ⟨i1, f1⟩))
      rcases q with ⟨v, M1, h1, rfl, i1, f1⟩ | ⟨-, _, _, -, -, -, h5⟩
      · exact ⟨h1, M1, rfl, i1, f1⟩
      · exact h5.elim
    refine ⟨0, fun w1 => ∃ M1 : zM, w1 = zw s0 ca C S M1 ∧ cI S C.1 M1 (tb.take u) ks L ow out pl a ∧ mfc M M1, c_L_endG Γ (d := 2035) (by omega) hok hX hA, fun w1 hw => ?_⟩
    · obtain ⟨M1, rfl, i1, f1⟩ := hw
      refine lw_BE Γ hn ⟨a, by omega, i1⟩ ⟨d1, d2, d3, d4.take u, by rw [List.length_take]; omega⟩ ⟨n1, n2, by omega, by omega⟩ ?_
      exact m_endU Γ (by omega) hz hs (hm.mc (fun c j h1 h2 => f1 c j h1 (by omega))) (by omega) (i_b p) (fun h => absurd hp h) (fun u2 e1 e2 M3 i3 f3 e0 => by
        have x1 : u2 = u := by omega
        subst x1
        exact ⟨i3, f3, e0⟩)
  · have hT : rt_Met l s0 G (.code yX9_end cX9_end 2 (Option.none : Option FieldType)) yX9_end (2035 - 1) [rt_r s0 0, .int p] (zw s0 ca C S M) (rt_tx "java/lang/IllegalArgumentException" (zw s0 ca C S M)) := by
      by_cases c : p < 0
      · exact c_X9_endT Γ hok hok1 hX c
      · have c2 : ¬ p.toInt < 0 := fun h => c (i_lt0.mpr h)
        have hC1 : rt_C s0 ca (zw s0 ca C S M) 1 4096 _ _ := lw_ce (c := 1) ⟨by decide, by decide, by decide, hs 1 _ rfl, hs 2 _ rfl⟩
        refine c_X9_endU Γ (by omega) hok hok1 hX hC1 c (fun h => ?_)
        have h := Int32.le_iff_toInt_le.mp h
        have h11 : M ((1 : Nat) : Int) 1 = (tb.length : Int) := hI.2.2.1.1
        rw [h11, z_toI, w32_id (by omega) (by omega)] at h
        omega
    refine ⟨1, lwT s0 ca C S M, lw_ir (c_L_endX1 Γ (d := 2035) (by omega) hok hX hT), fun w1 hw => ?_⟩
    obtain ⟨C1, rfl, c1, c2, c3⟩ := hw
    exact lw_BE Γ hn ⟨a, by omega, hI.up c1⟩ ⟨d1, d2, d3, d4, by omega⟩ ⟨fun b hb => n1 b (by omega), by omega, by omega, by omega⟩ (m_endU Γ (by omega) ⟨by omega, by omega⟩ hs hm (by omega) (i_b p) (fun _ M1 i1 f1 e1 => ⟨i1, f1, e1⟩) (fun u e1 e2 => absurd ⟨by omega, by omega⟩ hp))
/-- place and rows: numbers that are compared at once -/
def lwN (l : Launch) (s0 : State) (G : va_G) (ca : Nat → ClassId) (n : Nat) (kC : Cond) (yC : MethodName) (kM : Cond) (yM : MethodName) (w : rt_Wd) : Prop := ∃ PA : Int32 → rt_Wd → Prop, rt_Met l s0 G kC yC 2035 [rt_r s0 0] w (rt_an PA) ∧ ∀ (v : Int32) (w1 : rt_Wd), PA v w1 → rt_ok w1 ∧ (∃ fs : List Value, w1.2.2 84 = some (.inr (11, fs))) ∧ rt_Met l s0 G kM yM 2035 [rt_r s0 84] w1 (rt_an (fun u w2 => u = v ∧ lI s0 ca (n + 1) w2))
theorem lw_BN (hn : n < 64) {kC kM : Cond} {yC yM : MethodName} (hJ : lJ C S M n tb ks L ow out pl) {v0 : Int} (hC : zMet l s0 G ca kC yC 0 2035 [zv s0 2 0] C S M (fun v M1 => v = v0 ∧ M1 = M) (fun _ => False))
    (hM : zMet l s0 G ca kM yM 0 2035 [zv s0 2 84] C S M (fun v M1 => v = v0 ∧ mI M1 tb ks L ow out pl ∧ mfm M M1) (fun _ => False)) : lwN l s0 G ca n kC yC kM yM (zw s0 ca C S M) := by
  obtain ⟨hb, hs, hok, hok1, hz⟩ := hJ.ok (s0 := s0) (ca := ca) hn
  obtain ⟨⟨a, ha, hI⟩, hm, ⟨d1, d2, d3, d4, d5⟩, n1, n2, n3, n4⟩ := id hJ
  refine ⟨fun v w1 => v = Int32.ofInt v0 ∧ w1 = zw s0 ca C S M, rt_Met.mono (fun r w1 q => ?_) hC, fun v w1 ⟨e1, e2⟩ => ?_⟩
  · rcases q with ⟨u, M2, h1, rfl, rfl, rfl⟩ | ⟨-, _, _, -, -, -, h5⟩
    · exact ⟨_, h1, rfl, rfl⟩
    · exact h5.elim
  · subst e1
    subst e2
    refine ⟨hok, lw_78 hs, rt_Met.mono (fun r w1 q => ?_) hM⟩
    rcases q with ⟨u, M2, h1, rfl, rfl, i1, f1⟩ | ⟨-, _, _, -, -, -, h5⟩
    · exact ⟨_, h1, rfl, C, S, M2, tb, ks, L, ow, out, pl, rfl, ⟨a, by omega, hI.md (fun c j h => f1 c j (by omega))⟩, i1, ⟨d1, d2, d3, d4, by omega⟩, n1, n2, by omega, by omega⟩
    · exact h5.elim
theorem lw_s_place (Γ : rt_Γ l s0 a0 G ca) (hn : n < 64) (hJ : lJ C S M n tb ks L ow out pl) : lwN l s0 G ca n (.code yX9_place cX9_place 1 (Option.some FieldType.int)) yX9_place (.code yX11_place cX11_place 1 (Option.some FieldType.int)) yX11_place (zw s0 ca C S M) := by
  obtain ⟨hb, hs, hok, hok1, hz⟩ := hJ.ok (s0 := s0) (ca := ca) hn
  obtain ⟨a, ha, hI⟩ := hJ.1
  exact lw_BN hn hJ (c_placeU Γ hz hI ⟨rfl, rfl⟩) (m_placeU Γ hz hs hJ.2.1 (fun i1 f1 => ⟨rfl, i1, f1⟩))
theorem lw_s_rows (Γ : rt_Γ l s0 a0 G ca) (hn : n < 64) (hJ : lJ C S M n tb ks L ow out pl) : lwN l s0 G ca n (.code yX9_rows cX9_rows 1 (Option.some FieldType.int)) yX9_rows (.code yX11_rows cX11_rows 1 (Option.some FieldType.int)) yX11_rows (zw s0 ca C S M) := by
  obtain ⟨hb, hs, hok, hok1, hz⟩ := hJ.ok (s0 := s0) (ca := ca) hn
  obtain ⟨a, ha, hI⟩ := hJ.1
  exact lw_BN hn hJ (c_rowsU Γ (by omega) hz hI ⟨rfl, rfl⟩) (m_rowsU Γ hz hs hJ.2.1 (fun i1 f1 => ⟨rfl, i1, f1⟩))
end VG
