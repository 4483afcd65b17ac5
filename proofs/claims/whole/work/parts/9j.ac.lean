/-! ===== the class's Fitter: a pair by itself; all pairs ===== -/
theorem tG.f {M M1 : zM} {p q : Int} {NU NV : Nat} {A B : SS} {dB : SP → Option (List Nat)} (h : tG M p q NU NV A B dB) (f : fFr M M1) (hp : 30 ≤ p ∧ (p + 24 < 55 ∨ 138 ≤ p)) (hq : 30 ≤ q ∧ (q + 24 < 55 ∨ 138 ≤ q)) : tG M1 p q NU NV A B dB := h.fr (fun a ha => funext fun j => f a j (by omega) (by omega) (by omega))
section JC9
variable {l : Launch} {s0 : State} {a0 : Array Value} {G : va_G} {ca : Nat → ClassId} {d : Nat} {C : Nat × Nat} {S : zS} {p q : Int} {M : zM} {Q : Int → zM → Prop} {X : zM → Prop} {a NU NV w r : Nat} {A B : SS} {dB : SP → Option (List Nat)} {P O : List (Nat × Nat)}
theorem f_flL (Γ : rt_Γ l s0 a0 G ca) (hd : 4 ≤ d) (hok : zok C) (hS : ftS S p q) (hFA : kF A) (hFB : kF B) (hw : w < 6 + A.ns.length) (hkw : (nN A.ns w).kd = 11) (hr : r < 6 + B.ns.length) (hkr : (nN B.ns r).kd = 11) {w0 : rt_Wd} : ∀ (l9 : List SP) (k : Nat) (O : List (Nat × Nat)) (M : zM), (nN B.ns r).ps.drop k = l9 → k ≤ (nN B.ns r).ps.length → tG M p q NU NV A B dB → fS M a P O →
    (fFg dB (nN A.ns w).ps l9 = true → ∀ M1 : zM, fFr M M1 → fS M1 a P (fAks P O (fFl (nN A.ns w).ps l9)) → Q 1 M1) → (fFg dB (nN A.ns w).ps l9 = false → ∀ (M1 : zM) (O1 : List (Nat × Nat)), fFr M M1 → fS M1 a P O1 → Q 0 M1) → zg_X3_fitFields_2 l s0 G ca d C S w0 p q w r k M Q X := by
  obtain ⟨hs, hp, hq, h63, hp0, hq0⟩ := id hS
  intro l9
  induction l9 with
  | nil =>
    intro k O M hdr hk hG hc kY kN
    have hlen : (nN B.ns r).ps.length ≤ k := by
      have := congrArg List.length hdr
      rw [List.length_drop, List.length_nil] at this
      omega
    obtain ⟨g1, g2⟩ := g_len hG.2.1 hFB hr (by omega)
    refine zs_X3_fitFields_2 Γ (by omega) hok hs hp hq h63 ?_
    unfold zt_X3_fitFields_2
    rw [g1]
    clear g1
    rw [w32_id (x := (((nN B.ns r).ps.length : Nat) : Int)) (by omega) (by omega), w32_id (x := (k : Int)) (by omega) (by omega)]
    exact zIf_t (by omega) (kY rfl M fFr.rf hc)
  | cons z l9 ih =>
    intro k O M hdr hk hG hc kY kN
    have hz : (nN B.ns r).ps[k]? = some z := by
      have := congrArg (fun l => l[0]?) hdr
      simpa using this
    have hdr2 : (nN B.ns r).ps.drop (k + 1) = l9 := by
      have := congrArg (List.drop 1) hdr
      rw [List.drop_drop] at this
      exact this
    have hkl := (List.getElem?_eq_some_iff.mp hz).1
    have hlA := hG.1.2.2.1
    have hlB := hG.2.1.2.2.1
    obtain ⟨g1, g2⟩ := g_len hG.2.1 hFB hr (by omega)
    obtain ⟨q1, q2, q3⟩ := g_part hG.2.1 hFB hr (Or.inr hkr) hz
    refine zs_X3_fitFields_2 Γ (by omega) hok hs hp hq h63 ?_
    unfold zt_X3_fitFields_2
    rw [g1]
    clear g1
    rw [w32_id (x := (((nN B.ns r).ps.length : Nat) : Int)) (by omega) (by omega), w32_id (x := (k : Int)) (by omega) (by omega)]
    refine zIf_f (by omega) ?_
    obtain ⟨ib, hrb, hib⟩ := nN_some (ns := B.ns) (s := r) (nN_ge (ns := B.ns) (by omega)) hr
    obtain ⟨b1, b2, b3, b4, b5⟩ := g_prt hG.2.1 hFB hib (by omega) hz
    have hwd := b4.2.1 (by omega)
    rw [← hrb] at b2
    have e10 : ∀ _ : Unit, zat M (q + 10) 134 (r : Int) = ((nTot (B.ns.take ib) : Nat) : Int) := fun _ => by rw [zat_in (by omega) (by omega) (by decide)]; exact b2
    rw [e10 ()] at q1 ⊢
    rw [show ((nTot (B.ns.take ib) : Nat) : Int) + (k : Int) = ((nTot (B.ns.take ib) + k : Nat) : Int) by omega] at q1 ⊢
    have q1' : ∀ _ : Unit, zat M (q + 14) 2048 ((nTot (B.ns.take ib) + k : Nat) : Int) = ((sPn (some z) : Nat) : Int) := fun _ => q1
    clear q1
    rw [zat_in (a := q + 16) (by omega) (by omega) (by decide)]
    refine t_prt (p := p) (q := q) Γ (by omega) hok hp hq hG.1 hwd hG.2.1.2.2.2.2.1 hw (Or.inr hkw) ?_
    unfold fFg at kY kN
    unfold fFl at kY
    rw [show (k : Int) + 1 = ((k + 1 : Nat) : Int) by omega]
    cases hsp : sPrt (nN A.ns w).ps z.nm with
    | none =>
      rw [hsp] at kY kN
      dsimp only at kY kN
      refine zIf_t (by decide) ?_
      unfold zf_X6_hasDefault
      rw [zat_in (a := q + 18) (by omega) (by omega) (by decide)]
      obtain ⟨d1, d2⟩ := hG.2.2 ib k _ z hib (by omega) hz
      cases hb : dB z with
      | none =>
        rw [hb] at kN
        rw [d1 hb, if_pos (by decide)]
        exact zIf_t (by decide) (kN rfl M O fFr.rf hc)
      | some b =>
        rw [hb] at kY kN
        obtain ⟨x, x1, x2, x3, x4⟩ := d2 b hb
        rw [x1, if_neg (by rw [w32_id (by omega) (by omega)]; omega)]
        refine zIf_f (by decide) ?_
        exact ih (k + 1) O M hdr2 (by omega) hG hc (fun h => kY ((if_pos rfl).trans h)) (fun h => kN ((if_pos rfl).trans h))
    | some i =>
      rw [hsp] at kY kN
      dsimp only at kY kN
      have hil : i < (nN A.ns w).ps.length := by have := sPrtL_lt _ _ _ _ hsp; omega
      have hlA2 := (g_len hG.1 hFA hw (by omega)).2
      have hza := List.getElem?_eq_getElem hil
      obtain ⟨p1, p2, p3⟩ := g_part hG.1 hFA hw (Or.inr hkw) hza
      have n1 : ¬ (i : Int) = -1 := by omega
      have e1 : w32 (oI (some i)) = (i : Int) := oI_w (by omega)
      refine zIf_f (by rw [e1]; exact n1) ?_
      clear e1
      rw [show oI (some i) = (i : Int) from rfl, p1, q1' ()]
      clear p1
      rw [hza] at kY
      refine f_ask Γ (by omega) hok hS hc (by omega) (by omega) (fun M1 f1 h1 => ?_)
      exact ih (k + 1) _ M1 hdr2 (by omega) (hG.f f1 hp0 hq0) h1 (fun h M2 f2 h2 => kY h M2 (f1.tr f2) h2) (fun h M2 O2 f2 h2 => kN h M2 O2 (f1.tr f2) h2)
theorem f_one (Γ : rt_Γ l s0 a0 G ca) (hd : 8 ≤ d) (hok : zok C) (hS : ftS S p q) (hFA : kF A) (hFB : kF B) (hHA : kHn A) (hHB : kHn B) (hOA : kOk A) (hOB : kOk B) (hw : w < 6 + A.ns.length) (hr : r < 6 + B.ns.length) (hG : tG M p q NU NV A B dB) (hc : fS M a P O)
    (kY : fGd A.ns B.ns dB w r = true → ∀ M1 : zM, fFr M M1 → fS M1 a P (fAks P O (fAs A.ns B.ns w r)) → Q 1 M1) (kN : fGd A.ns B.ns dB w r = false → ∀ (M1 : zM) (O1 : List (Nat × Nat)), fFr M M1 → fS M1 a P O1 → Q 0 M1) : zm_X3_fitBySelves l s0 G ca d C S w r M Q X := by
  obtain ⟨hs, hp, hq, h63, hp0, hq0⟩ := id hS
  have hkA := hOA.kd hw
  have hkB := hOB.kd hr
  have hlA := hG.1.2.2.1
  have hlB := hG.2.1.2.2.1
  refine z_X3_fitBySelves Γ (by omega) hok hs hp hq h63 ?_
  unfold zt_X3_fitBySelves
  rw [g_kd hG.1 hw, g_kd hG.2.1 hr, w32_id (x := ((nN A.ns w).kd : Int)) (by omega) (by omega), w32_id (x := ((nN B.ns r).kd : Int)) (by omega) (by omega)]
  unfold fGd at kY kN
  unfold fAs at kY
  by_cases k8 : (nN A.ns w).kd = 8
  · rw [if_pos k8] at kY
    rw [if_pos k8] at kY
    refine zIf_t (by omega) ?_
    exact f_unL Γ (by omega) hok hS hFA hw k8 (by omega) _ 0 O M rfl (Nat.zero_le _) hG.1 hc (kY rfl)
  rw [if_neg k8] at kY kN
  rw [if_neg k8] at kY
  refine zIf_f (by omega) ?_
  by_cases r8 : (nN B.ns r).kd = 8
  · rw [if_pos r8] at kY kN
    rw [if_pos r8] at kY
    refine zIf_t (by omega) ?_
    refine c_fst Γ (by omega) hok hp hq hG.1 hG.2.1 hFA hFB hHA hHB hOA hOB hw hr r8 ?_
    unfold zt_X3_fitBySelves_103
    cases hf : tFst A.ns B.ns w r with
    | none =>
      rw [hf] at kN
      exact zIf_t (by decide) (zIf_t (by decide) (kN rfl M O fFr.rf hc))
    | some k =>
      rw [hf] at kY
      have hkl := tFstL_lt hf
      have hl2 := (g_len hG.2.1 hFB hr (by omega)).2
      have hz := List.getElem?_eq_getElem (show k < (nN B.ns r).ps.length by omega)
      obtain ⟨b1, b2⟩ := g_brk hG.2.1 hFB hr r8 hz
      have n1 : ¬ (k : Int) = -1 := by omega
      have e1 : w32 (oI (some k)) = (k : Int) := oI_w (by omega)
      dsimp only at kY
      rw [hz] at kY
      refine zIf_f (by rw [e1]; exact n1) ?_
      rw [show oI (some k) = (k : Int) from rfl, b1]
      clear b1
      refine f_ask Γ (by omega) hok hS hc (by omega) (by omega) (fun M1 f1 h1 => ?_)
      exact zIf_f (by rw [show (k : Int) = oI (some k) from rfl, e1]; exact n1) (kY rfl M1 f1 h1)
  rw [if_neg r8] at kY kN
  rw [if_neg r8] at kY
  refine zIf_f (by omega) ?_
  by_cases k67 : (nN A.ns w).kd = 6 ∨ (nN A.ns w).kd = 7
  · rw [if_pos k67] at kY kN
    rw [if_pos k67] at kY
    have body : zt_X3_fitBySelves_127 l s0 G ca d C S (zw s0 ca C S M) p q w r ((nN A.ns w).kd : Nat) M Q X := by
      unfold zt_X3_fitBySelves_127 zt_X3_fitBySelves_159
      rw [g_kd hG.2.1 hr, w32_id (x := ((nN A.ns w).kd : Int)) (by omega) (by omega), w32_id (x := ((nN B.ns r).kd : Int)) (by omega) (by omega)]
      by_cases ke : (nN B.ns r).kd = (nN A.ns w).kd
      · rw [if_pos ke, decide_eq_true ke] at kY
        obtain ⟨i1, i2⟩ := g_itm hG.1 hFA hw k67
        obtain ⟨j1, j2⟩ := g_itm hG.2.1 hFB hr (by omega)
        refine zIf_t (by omega) ?_
        rw [i1, j1]
        clear i1 j1
        refine f_ask Γ (by omega) hok hS hc (by omega) (by omega) (fun M1 f1 h1 => ?_)
        rw [g_kd (hG.f f1 hp0 hq0).2.1 hr, w32_id (x := ((nN B.ns r).kd : Int)) (by omega) (by omega)]
        exact zIf_t (by omega) (kY rfl M1 f1 h1)
      · rw [decide_eq_false ke] at kN
        exact zIf_f (by omega) (zIf_f (by omega) (kN rfl M O fFr.rf hc))
    by_cases k6 : (nN A.ns w).kd = 6
    · exact zIf_t (by omega) body
    · exact zIf_f (by omega) (zIf_t (by omega) body)
  rw [if_neg k67] at kY kN
  rw [if_neg k67] at kY
  refine zIf_f (by omega) (zIf_f (by omega) ?_)
  refine c_pln Γ (by omega) hok hp hq hG.1 hG.2.1 hFA hFB hHA hHB hOA hOB hw hr ?_
  cases hpl : tPln A.ns B.ns w r with
  | false =>
    rw [hpl] at kN
    exact zIf_t (by decide) (kN rfl M O fFr.rf hc)
  | true =>
    rw [hpl, if_pos rfl] at kN
    rw [hpl] at kY
    rw [if_pos rfl] at kY
    refine zIf_f (by decide) ?_
    by_cases k10 : (nN A.ns w).kd = 10
    · rw [if_pos k10] at kY kN
      have hkr : (nN B.ns r).kd = 10 := by have := (tPln_of hpl (by omega)).1; omega
      rw [if_neg (fun c => by have := c.2; omega)] at kY
      refine zIf_t (by omega) ?_
      obtain ⟨i2, e2, hi2⟩ := nN_some (ns := B.ns) (s := r) (nN_ge (ns := B.ns) (by omega)) hr
      obtain ⟨k1, k2⟩ := (hFB i2 _ hi2).2.2.2.2.2 hkr
      have hl2 := (g_len hG.2.1 hFB hr (by omega)).2
      have hdt := ((hG.2.1.2.1 i2 _ hi2).2.2.2.2.2.2 (by omega)).1
      rw [← e2] at hdt
      rw [zat_in (a := q + 6) (by omega) (by omega) (by decide), hdt, w32_id (x := (nN B.ns r).dt) (by omega) (by omega)]
      clear hdt
      refine ⟨fun c => ?_, fun c => ?_⟩
      · rw [decide_eq_false (by omega), Bool.false_or] at kY kN
        refine z_X3_hasAllSymbols Γ (by omega) hok hs hp hq h63 ?_
        unfold zt_X3_hasAllSymbols
        refine f_sgL Γ (by omega) hok hS hG.1 hG.2.1 hFA hFB hw k10 hr hkr (nN A.ns w).ps 0 rfl (Nat.zero_le _) ?_
        cases hsg : fSg (nN B.ns r).ps (nN A.ns w).ps with
        | true => exact zIf_f (by decide) (kY hsg M fFr.rf hc)
        | false => exact zIf_t (by decide) (kN hsg M O fFr.rf hc)
      · rw [decide_eq_true (by omega), Bool.true_or] at kY
        exact kY rfl M fFr.rf hc
    rw [if_neg k10] at kY kN
    refine zIf_f (by omega) ?_
    by_cases k11 : (nN A.ns w).kd = 11
    · rw [if_pos k11] at kY kN
      rw [if_pos ⟨rfl, k11⟩] at kY
      have hkr : (nN B.ns r).kd = 11 := by have := (tPln_of hpl (by omega)).1; omega
      refine zIf_t (by omega) ?_
      refine z_X3_fitFields Γ (by omega) hok hs hp hq h63 ?_
      unfold zt_X3_fitFields
      exact f_flL Γ (by omega) hok hS hFA hFB hw k11 hr hkr (nN B.ns r).ps 0 O M rfl (Nat.zero_le _) hG hc (fun h M1 f1 h1 => zIf_f (by decide) (kY h M1 f1 h1)) (fun h M1 O1 f1 h1 => zIf_t (by decide) (kN h M1 O1 f1 h1))
    · rw [if_neg k11] at kY
      rw [if_neg (fun c => k11 c.2)] at kY
      exact zIf_f (by omega) (kY rfl M fFr.rf hc)
end JC9
