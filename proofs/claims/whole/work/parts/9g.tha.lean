/-! ===== the class tells: a record of no bytes is told once a row ===== -/
/-- but one node of the reader has the name -/
theorem tPln_oneR {A : List SN} {B : SS} {w r v : Nat} (hH : kHn B) (hN : kGn B) (hr : r < 6 + B.ns.length) (hv : v < 6 + B.ns.length) (hkw : (nN A w).kd = 11) (hkr : (nN B.ns r).kd = 11) (hkv : (nN B.ns v).kd = 11) (h1 : tPln A B.ns w r = true) (h2 : tPln A B.ns w v = true) : v = r := by
  obtain ⟨i, rfl, hi⟩ := nN_some (ns := B.ns) (s := r) (nN_ge (ns := B.ns) (by omega)) hr
  obtain ⟨j, rfl, hj⟩ := nN_some (ns := B.ns) (s := v) (nN_ge (ns := B.ns) (by omega)) hv
  have e := (tPln_of h1 (by omega)).2.2.1.symm.trans (tPln_of h2 (by omega)).2.2.1
  have a1 := hH i _ hi (Or.inr (Or.inr hkr))
  have a2 := hH j _ hj (Or.inr (Or.inr hkv))
  unfold tNm at e
  cases ha : (nN B.ns (6 + i)).nm with
  | none => exact absurd ha a1
  | some x =>
    cases hb : (nN B.ns (6 + j)).nm with
    | none => exact absurd hb a2
    | some y =>
      rw [ha, hb] at e
      obtain ⟨x1, x2⟩ := x
      obtain ⟨y1, y2⟩ := y
      have e' : x1 = y1 := e
      subst e'
      rw [hN.2 i j _ _ x1 x2 y2 hi hj ha hb]
section THA
variable {l : Launch} {s0 : State} {a0 : Array Value} {G : va_G} {ca : Nat → ClassId} {d : Nat} {C : Nat × Nat} {S : zS} {p q mk mka : Int} {M : zM} {Q : Int → zM → Prop} {X : zM → Prop} {u e P NU NV m w r : Nat} {A B : SS} {dB : SP → Option (List Nat)}
/-- a record of no bytes has been told: where it stands is kept -/
theorem tR.memo {X9 : Nat} {o : tU} {M1 : zM} (hHB : kHn B) (hNB : kGn B) (hwl : A.ns.length ≤ 128) (hw : w < 6 + A.ns.length) (hkw : (nN A.ns w).kd = 11) (hr : r < 6 + B.ns.length) (hkr : (nN B.ns r).kd = 11) (hpl : tPln A.ns B.ns w r = true) (ho : tPl A.ns B.ns dB (tT A.ns B.ns dB m) (yN A.ns m) w r [] o) {T : Nat} (hT : T < 2147483648) (e9 : M1 56 9 = (T : Int)) (hR : tR A B dB e u X9 o M M1) : tR A B dB e u X9 o M (zu (zu (zu M1 64 (w : Int) (T : Int)) 66 (w : Int) (u : Int)) 68 (w : Int) (M1 57 1)) := by
  have fx : ∀ c j : Int, ¬ (c = 64 ∨ c = 66 ∨ c = 68) → zu (zu (zu M1 64 (w : Int) (T : Int)) 66 (w : Int) (u : Int)) 68 (w : Int) (M1 57 1) c j = M1 c j := fun c j h => by
    rw [zu_a (by omega), zu_a (by omega), zu_a (by omega)]
  refine ⟨((hR.1.zu (Or.inr (Or.inl (by omega)))).zu (Or.inr (Or.inl (by omega)))).zu (Or.inr (Or.inl (by omega))), ⟨hR.2.1.1.fr (fun j => fx 60 j (by decide)), ?_⟩, ?_⟩
  · obtain ⟨T2, t1, t2, t3⟩ := hR.2.1.2
    have hTT : T2 = T := by
      have := t2.1
      omega
    subst hTT
    refine ⟨T2, t1, ⟨(fx 56 9 (by decide)).trans e9, fun v hv => ?_⟩, fun h0 v hv hvT => ?_⟩
    · rw [zu_a (by decide), zu_a (by decide)]
      by_cases c : v = w
      · rw [c, zu_s]
        omega
      · rw [zu_k (by omega)]
        exact t2.2 v hv
    · have h0' : M1 56 11 = 0 := (fx 56 11 (by decide)).symm.trans h0
      by_cases c : v = w
      · subst c
        rcases hR.2.2 with ⟨-, y⟩ | ⟨-, -, y⟩ | ⟨y1, y2, y3, y4, y5, y6⟩
        · rw [h0'] at y; exact absurd y (by decide)
        · rw [h0'] at y; exact absurd y (by decide)
        · refine ⟨u, o.1, by rw [zu_a (by decide), zu_s], by rw [zu_s]; exact y5, by rw [fx 57 1 (by decide), y5]; exact Int.le_refl _, fun j hj => (fx 58 _ (by decide)).trans (y6 j hj), fun n9 r9 o9 z1 z2 z3 z4 => ?_⟩
          have := tPln_oneR hHB hNB hr z1 hkw hkr z2 hpl z3
          subst this
          rw [← tPl_det (fun w r o o' => tT_det m n9 w r o o') ho z4]
          exact Prod.ext rfl y2
      · rw [zu_a (by decide), zu_a (by decide), zu_k (by omega)] at hvT
        obtain ⟨f, z, x1, x2, x3, x4, x5⟩ := t3 h0' v hv hvT
        exact ⟨f, z, by rw [zu_a (by decide), zu_k (by omega)]; rw [zu_a (by decide)]; exact x1, by rw [zu_k (by omega), zu_a (by decide), zu_a (by decide)]; exact x2, by rw [fx 57 1 (by decide)]; exact x3, fun j hj => (fx 58 _ (by decide)).trans (x4 j hj), x5⟩
  · rcases hR.2.2 with ⟨y1, y2⟩ | ⟨y1, y2, y3⟩ | ⟨y1, y2, y3, y4, y5, y6⟩
    · exact Or.inl ⟨y1, (fx 56 11 (by decide)).trans y2⟩
    · exact Or.inr (Or.inl ⟨y1, y2, (fx 56 11 (by decide)).trans y3⟩)
    · exact Or.inr (Or.inr ⟨y1, y2, (fx 56 11 (by decide)).trans y3, (fx 56 10 (by decide)).trans y4, (fx 57 1 (by decide)).trans y5, fun j hj => (fx 58 _ (by decide)).trans (y6 j hj)⟩)
theorem t_rec (Γ : rt_Γ l s0 a0 G ca) (hd : 6 * m + 44 ≤ d) (hok : zok C) (hS : tSh S p q mk mka) (hC : tlC l s0 G ca C S p q mka NU NV A B dB m) (hK : tkC l s0 G ca C S p mka NU A m) (hFA : kF A) (hFB : kF B) (hHA : kHn A) (hHB : kHn B) (hNA : kGn A) (hNB : kGn B) (he : e + 1 + m ≤ 33) (hw : w < 6 + A.ns.length) (hkw : (nN A.ns w).kd = 11) (hr : r < 6 + B.ns.length) (hkr : (nN B.ns r).kd = 11) (hpl : tPln A.ns B.ns w r = true) {bs : List Nat} (hy : yN A.ns (m + 1) w bs) {o : tU} (ho0 : tPl A.ns B.ns dB (tT A.ns B.ns dB m) (yN A.ns m) w r bs o) (hG : tG M p q NU NV A B dB) (hrd : rdB M mka P bs) (hP : P + bs.length ≤ 4096) (h7 : M 56 11 = 0) (h6 : M 56 10 = (P : Int)) (hu : M 57 1 = (u : Int)) (hul : u ≤ 4096) (hO : tOr M A B dB)
    (hQ : ∀ M1 : zM, tR A B dB e u (P + bs.length) o M M1 → Q 0 M1) : zm_X7_tellRecord l s0 G ca d C S w r e M Q X := by
  obtain ⟨hs, hp, hq, hmk, hs56, g1, g2, g3, g4, g5⟩ := id hS
  have hwl := hG.1.2.2.1
  have ho := ho0
  unfold tPl at ho
  rw [if_neg (by omega), if_pos hpl, if_pos hkw] at ho
  obtain ⟨L, rfl, hL, ho⟩ := ho
  have flds : ∀ Q9 : Int → zM → Prop, (∀ M1 : zM, tR A B dB e u (P + L.flatten.length) o M M1 → Q9 0 M1) → zm_X7_tellFields l s0 G ca (d - 1) C S w r e M Q9 X := fun Q9 k => t_flds Γ (by omega) hok hS hC hK hFA hFB hHA hNA he hw hkw hr hkr hpl hL hP ho hG hrd h7 h6 hu hul hO k
  refine z_X7_tellRecord Γ (by omega) hok hs hp hq hmk hs56 ?_
  unfold zt_X7_tellRecord
  rw [zat_in (a := p + 8) (by omega) (by omega) (by decide)]
  refine Or.elim (hG.1.2.2.2.2.2.val hw) (fun hM => ?_) (fun ⟨W, hM, hW⟩ => ?_)
  · rw [hM]
    exact zIf_f (by decide) (flds _ hQ)
  · rw [hM, w32_id (x := (W : Int)) (by omega) (by omega)]
    by_cases hW0 : W = 0
    · subst hW0
      refine zIf_t rfl ?_
      have hz : L.flatten = [] := List.eq_nil_of_length_eq_zero (yW hG.1.2.2.2.2.2 (m + 1) w _ 0 hw hy hM)
      rw [hz] at ho0
      obtain ⟨-, T, hT, hC9, hmem⟩ := id hO
      have hwT := hC9.2 w (by omega)
      rw [zat_in (a := 64) (by omega) (by omega) (by decide), zat_in (a := 66) (by omega) (by omega) (by decide), zat_in (a := 68) (by omega) (by omega) (by decide), hC9.1, w32_id (x := M 64 (w : Int)) (by omega) (by omega), w32_id (x := (T : Int)) (by omega) (by omega)]
      by_cases hm : M 64 (w : Int) = (T : Int)
      · refine zIf_t hm ?_
        obtain ⟨f, z, x1, x2, x3, x4, x5⟩ := hmem h7 w hw hm
        rw [x1, x2]
        have eo : o = (z, false) := x5 m r o hr hkr hpl ho0
        rw [hu] at x3
        refine t_partR (o := 57) (ad := 58) (nd := 4096) (f := f) (bs := z) (P := P) (u := u) (e := e) (A := A) (B := B) (dB := dB) Γ (by omega) hok hS hS.ce (by omega) x4 h7 h6 hu hul hO (fun M1 hR => hQ M1 ?_)
        rw [hz, eo]
        exact hR
      · refine zIf_f hm (flds _ (fun M1 hR => ?_))
        have e9 : M1 56 9 = (T : Int) := (hR.1 _ _ (by omega) (by omega) (by omega) (by omega) (by omega)).trans hC9.1
        rw [zput_in (a := 64) (by omega) (by omega) (by decide), zput_in (a := 66) (by omega) (by omega) (by decide), zput_in (a := 68) (by omega) (by omega) (by decide), zu_a (by decide), zu_a (by decide), e9, hu]
        exact hQ _ (hR.memo hHB hNB hwl hw hkw hr hkr hpl ho0 hT e9)
    · exact zIf_f (by omega) (flds _ hQ)
end THA
