/-! ===== the reference's fits: fields; a pair by itself; all pairs ===== -/
section JBB
variable {l : Launch} {s0 : State} {a0 : Array Value} {G : va_G} {ca : Nat → ClassId} {d : Nat} {C : Nat × Nat} {S : zS} {t o : Int} {M M0 : zM} {Q : Int → zM → Prop} {X : zM → Prop} {w r : Nat} {A B : SS} {xs ys : List JR} {dB : SP → Option (List Nat)} {P O : List (Nat × Nat)}
theorem h_flL (Γ : rt_Γ l s0 a0 G ca) (hd : 6 ≤ d) (hok : zok C) (hH : uH S t o ys A B dB) (hw : w < 6 + A.ns.length) (hkw : (nN A.ns w).kd = 11) (hr : r < 6 + B.ns.length) (hkr : (nN B.ns r).kd = 11) (hlA : A.ns.length ≤ 128) (hlB : B.ns.length ≤ 128) {v5 : Int} (h5 : w32 v5 = 11) {w0 : rt_Wd} : ∀ (l9 : List SP) (h : Int) (g : Bool) (O : List (Nat × Nat)) (M : zM), (∀ q ∈ l9, q ∈ (nN B.ns r).ps) → rCh M o ys 11 l9 h → uM M t o xs ys A B → qS M P O → (∀ M1 : zM, hfr M M1 → qS M1 P (fAks P O (fFl (nN A.ns w).ps l9)) → Q (b01 (g && fFg dB (nN A.ns w).ps l9)) M1) → zg_X11_may_335 l s0 G ca d C S w0 t w o v5 (b01 g) h M Q X := by
  obtain ⟨hS, hSo, hFA, hFB, hHA, hHB, hOA, hOB, hIA, hVA, hVB, hPA, hPB, hD⟩ := id hH
  obtain ⟨hs, ht, ht1⟩ := id hS
  obtain ⟨-, hto, ho1⟩ := id hSo
  intro l9
  induction l9 with
  | nil =>
    intro h g O M hall hch hU hc hQ
    have hh : h = -1 := hch
    subst hh
    refine zs_X11_may_335 Γ (by omega) hok hs ?_
    unfold zt_X11_may_335
    have := hQ M hfr.rf hc
    rw [show fFg dB (nN A.ns w).ps [] = true from rfl, Bool.and_true] at this
    exact zIf_t (by decide) ⟨b01_b g, this⟩
  | cons z l9 ih =>
    intro h g O M hall hch hU hc hQ
    obtain ⟨rfl, e2, e3, e4⟩ := hch
    have hzm := hall z List.mem_cons_self
    obtain ⟨q1, q2⟩ := r_sPn hFB hr (by omega) hzm e3
    have hla := hU.2.1.len
    -- the loop behind a field
    have next : ∀ (g1 : Bool) (O1 : List (Nat × Nat)) (M1 : zM), hfr M M1 → qS M1 P O1 → (∀ M2 : zM, hfr M M2 → qS M2 P (fAks P O1 (fFl (nN A.ns w).ps l9)) → Q (b01 (g1 && fFg dB (nN A.ns w).ps l9)) M2) → zt_X11_may_405 l s0 G ca d C S w0 t w o v5 z.kn (b01 g1) M1 Q X := fun g1 O1 M1 f1 h1 hQ1 => by
      unfold zt_X11_may_405
      have e18 : M1 (o + 18) (z.kn : Int) = M (o + 18) (z.kn : Int) := f1 _ _ (by omega) (by omega) (by omega)
      rw [e18]
      exact ⟨hto, ⟨by omega, by omega⟩, ih _ g1 O1 M1 (fun q hq => hall q (List.mem_cons_of_mem _ hq)) (e4.h f1 ho1) (hU.h f1 ht1 ho1) h1 (fun M2 f2 h2 => hQ1 M2 (f1.tr f2) h2)⟩
    refine zs_X11_may_335 Γ (by omega) hok hs ?_
    unfold zt_X11_may_335
    rw [w32_id (x := (z.kn : Int)) (by omega) (by omega)]
    refine zIf_f (by omega) (zIf_t h5 ?_)
    unfold fFg at hQ
    unfold fFl at hQ
    refine n_fl Γ (by omega) hok hs ht hto hU.1 hU.2.2.1 hU.2.1 hFA hw hkw e2 e3 (fun hn9 => ?_) (fun i a hi ha => ?_)
    · rw [hn9] at hQ
      dsimp only at hQ
      refine zIf_t (show w32 (-1) < 0 by decide) ?_
      unfold zt_X11_may_380 zt_X11_may_404 zt_X11_may_400
      cases g with
      | false => exact zIf_t (by decide) (next false O M hfr.rf hc (fun M2 f2 h2 => hQ M2 f2 h2))
      | true =>
        refine zIf_f (by decide) (zIf_f (by decide) ⟨hto, ⟨by omega, by omega⟩, ?_⟩)
        rw [e3.2.2 rfl]
        obtain ⟨ib, rb, hib⟩ := nN_some (ns := B.ns) (s := r) (nN_ge (ns := B.ns) (by omega)) hr
        obtain ⟨D1, D2⟩ := hD ib _ z hib hkr hzm
        cases hdf : z.df with
        | none =>
          rw [D1 hdf] at hQ
          exact zIf_t (show w32 (-1) < 0 by decide) (next false O M hfr.rf hc (fun M2 f2 h2 => hQ M2 f2 h2))
        | some v =>
          obtain ⟨v1, v2, b, v3, v4⟩ := D2 v hdf
          rw [v4] at hQ
          have hTl := hU.2.2.1.2.2.1
          obtain ⟨-, -, v9, -⟩ := r_nd hU.2.2.1 v1
          have e9 : oR ys (some v) = ((rP ys v : Nat) : Int) := rfl
          rw [e9, w32_id (by omega) (by omega)]
          exact zIf_f (by omega) (next true O M hfr.rf hc (fun M2 f2 h2 => hQ M2 f2 h2))
    · rw [hi] at hQ
      dsimp only at hQ
      rw [ha] at hQ
      obtain ⟨-, nch, -⟩ := r_node hU.2.1 hFA hw (by omega)
      have hmem := List.mem_of_getElem? ha
      have hak := rCh_kn nch hmem
      obtain ⟨p1, p2⟩ := r_sPn hFA hw (by omega) hmem (rCh_mem nch hmem)
      rw [w32_id (x := (a.kn : Int)) (by omega) (by omega), p1, q1]
      refine zIf_f (by omega) ⟨ht, ⟨by omega, by omega⟩, hto, ⟨by omega, by omega⟩, ?_⟩
      refine h_ask Γ hok hs hc (by omega) (by omega) (fun M1 f1 h1 => ?_)
      unfold zt_X11_may_380 zt_X11_may_404 zt_X11_may_400
      cases g with
      | false => exact zIf_t (by decide) (next false _ M1 f1 h1 (fun M2 f2 h2 => hQ M2 f2 h2))
      | true =>
        rw [w32_id (x := (a.kn : Int)) (by omega) (by omega)]
        exact zIf_f (by decide) (zIf_t (by omega) (next true _ M1 f1 h1 (fun M2 f2 h2 => hQ M2 f2 h2)))
theorem h_may (Γ : rt_Γ l s0 a0 G ca) (hd : 160 ≤ d) (hok : zok C) (hH : uH S t o ys A B dB) (hU : uM M t o xs ys A B) (hlA : A.ns.length ≤ 128) (hlB : B.ns.length ≤ 128) (hw : w < 6 + A.ns.length) (hr : r < 6 + B.ns.length) (hc : qS M P O) (hQ : ∀ M1 : zM, hfr M M1 → qS M1 P (fAks P O (fAs A.ns B.ns w r)) → Q (b01 (fGd A.ns B.ns dB w r)) M1) : zm_X11_may l s0 G ca d C S t w o r M Q X := by
  obtain ⟨hS, hSo, hFA, hFB, hHA, hHB, hOA, hOB, hIA, hVA, hVB, hPA, hPB, hD⟩ := id hH
  obtain ⟨hs, ht, ht1⟩ := id hS
  obtain ⟨-, hto, ho1⟩ := id hSo
  have hla := hU.2.1.len
  have hlb := hU.2.2.2.len
  have hka := hOA.kd hw
  have hkb := hOB.kd hr
  refine z_X11_may Γ (by omega) hok hs ?_
  unfold zt_X11_may
  rw [r_kd hU.2.1 hw, r_kd hU.2.2.2 hr, w32_id (x := ((nN A.ns w).kd : Int)) (by omega) (by omega), w32_id (x := ((nN B.ns r).kd : Int)) (by omega) (by omega)]
  refine ⟨ht, ⟨by omega, by omega⟩, ?_⟩
  unfold fGd fAs at hQ
  by_cases k8 : (nN A.ns w).kd = 8
  · rw [if_pos k8] at hQ
    rw [if_pos k8] at hQ
    obtain ⟨-, nch, -⟩ := r_node hU.2.1 hFA hw (by omega)
    rw [k8] at nch
    exact zIf_t (by omega) (h_unL Γ (by omega) hok hS hFA hw k8 hlA (by omega) _ _ O M (fun q hq => hq) nch hc hQ)
  rw [if_neg k8] at hQ
  rw [if_neg k8] at hQ
  refine zIf_f (by omega) ⟨hto, ⟨by omega, by omega⟩, ?_⟩
  by_cases r8 : (nN B.ns r).kd = 8
  · rw [if_pos r8] at hQ
    rw [if_pos r8] at hQ
    refine zIf_t (by omega) ?_
    refine m_fst Γ (by omega) hok hs ht hto hU.1 hU.2.2.1 hU.2.1 hU.2.2.2 hFA hFB hHA hHB hOA hOB hIA hw hr r8 (fun hn => ?_) (fun k q hk hq => ?_)
    · rw [hn] at hQ
      exact zIf_t (show w32 (-1) < 0 by decide) (zIf_t (show w32 (-1) < 0 by decide) (hQ M hfr.rf hc))
    · rw [hk] at hQ
      dsimp only at hQ
      rw [hq] at hQ
      obtain ⟨-, nch, -⟩ := r_node hU.2.2.2 hFB hr (by omega)
      have hmem := List.mem_of_getElem? hq
      have hkn := rCh_kn nch hmem
      obtain ⟨i2, i3⟩ := r_sPn hFB hr (by omega) hmem (rCh_mem nch hmem)
      rw [w32_id (x := (q.kn : Int)) (by omega) (by omega), i2]
      refine zIf_f (by omega) ⟨⟨by omega, by omega⟩, ?_⟩
      exact h_ask Γ hok hs hc (by omega) (by omega) (fun M1 f1 h1 => zIf_f (by omega) (hQ M1 f1 h1))
  rw [if_neg r8] at hQ
  rw [if_neg r8] at hQ
  refine zIf_f (by omega) ?_
  have t126 : ((nN A.ns w).kd < 6 ∨ (nN B.ns r).kd < 6) → ∀ w0 : rt_Wd, zt_X11_may_126 l s0 G ca d C S w0 o r ((nN A.ns w).kd : Nat) M Q X := fun hc6 w0 => by
    unfold zt_X11_may_126
    refine m_sixOf Γ hok hs (by omega) ?_
    rw [r_kd hU.2.2.2 hr]
    by_cases c6 : (nN A.ns w).kd < 6
    · rw [if_pos c6]
      rw [if_neg (by omega)] at hQ
      rw [if_neg (by omega)] at hQ
      rw [if_neg (by omega)] at hQ
      unfold tPln at hQ
      rw [if_pos c6] at hQ
      refine zIf_f (by decide) ⟨hto, ⟨by omega, by omega⟩, ?_⟩
      refine m_sixOf Γ hok hs (by omega) ?_
      rw [r_kd hU.2.2.2 hr]
      by_cases r6 : (nN B.ns r).kd < 6
      · rw [if_pos r6]
        refine zIf_f (by decide) ?_
        refine m_mSix Γ hok hs (by omega) (by omega) ?_
        cases hx : tSix (nN A.ns w).kd (nN B.ns r).kd with
        | false =>
          rw [hx] at hQ
          exact zIf_t (by decide) (hQ M hfr.rf hc)
        | true =>
          rw [hx, if_pos rfl, if_neg (by omega), if_neg (by omega)] at hQ
          exact zIf_f (by decide) (hQ M hfr.rf hc)
      · rw [if_neg r6]
        have hx : tSix (nN A.ns w).kd (nN B.ns r).kd = false := by
          unfold tSix
          exact decide_eq_false (by omega)
        rw [hx] at hQ
        exact zIf_t (by decide) (hQ M hfr.rf hc)
    · rw [if_neg c6]
      have hne : ¬ (nN A.ns w).kd = (nN B.ns r).kd := by omega
      rw [tPln_ne (by omega) hne] at hQ
      refine zIf_t (by decide) ?_
      by_cases k67 : (nN A.ns w).kd = 6 ∨ (nN A.ns w).kd = 7
      · rw [if_pos k67, if_neg (fun c => hne c.symm)] at hQ
        rw [if_pos k67, decide_eq_false (fun c => hne c.symm)] at hQ
        exact hQ M hfr.rf hc
      · rw [if_neg k67] at hQ
        rw [if_neg k67] at hQ
        rw [if_neg (fun c => Bool.noConfusion c.1)] at hQ
        exact hQ M hfr.rf hc
  refine m_sixOf Γ hok hs (by omega) ?_
  by_cases c6 : (nN A.ns w).kd < 6
  · rw [if_pos c6]
    exact zIf_f (by decide) (t126 (Or.inl c6) _)
  rw [if_neg c6]
  refine zIf_t (by decide) ?_
  rw [r_kd hU.2.2.2 hr]
  refine m_sixOf Γ hok hs (by omega) ?_
  by_cases r6 : (nN B.ns r).kd < 6
  · rw [if_pos r6]
    exact zIf_f (by decide) (t126 (Or.inr r6) _)
  rw [if_neg r6]
  refine zIf_t (by decide) ?_
  rw [r_kd hU.2.2.2 hr, w32_id (x := ((nN B.ns r).kd : Int)) (by omega) (by omega)]
  by_cases ke : (nN A.ns w).kd = (nN B.ns r).kd
  · refine zIf_t (by omega) ?_
    by_cases k67 : (nN A.ns w).kd = 6 ∨ (nN A.ns w).kd = 7
    · rw [if_pos k67, if_pos ke.symm] at hQ
      rw [if_pos k67, decide_eq_true ke.symm] at hQ
      have body : zt_X11_may_196 l s0 G ca d C S (zw s0 ca C S M) t w o r M Q X := by
        unfold zt_X11_may_196
        obtain ⟨i, i1, i2, i3, i4, -⟩ := r_kid0 hU.2.1 hFA hw (by omega)
        obtain ⟨j, j1, j2, j3, j4, -⟩ := r_kid0 hU.2.2.2 hFB hr (by omega)
        rw [i1, j1, i3, j3]
        exact ⟨ht, ⟨by omega, by omega⟩, ⟨by omega, by omega⟩, hto, ⟨by omega, by omega⟩, ⟨by omega, by omega⟩, h_ask Γ hok hs hc (by omega) (by omega) (fun M1 f1 h1 => hQ M1 f1 h1)⟩
      by_cases k6 : (nN A.ns w).kd = 6
      · exact zIf_t (by omega) body
      · exact zIf_f (by omega) (zIf_t (by omega) body)
    · rw [if_neg k67] at hQ
      rw [if_neg k67] at hQ
      refine zIf_f (by omega) (zIf_f (by omega) ?_)
      refine m_mat Γ hok hs ht hto hU.1 hU.2.2.1 hU.2.1 hU.2.2.2 hFA hFB hHA hHB hOA hOB hIA 1 (d - 1) w r _ (by omega) (Nat.le_refl 1) (fun c => absurd c k67) hw hr ?_
      rw [tMat_1 k8 r8 k67]
      cases hpl : tPln A.ns B.ns w r with
      | false =>
        rw [hpl] at hQ
        rw [if_neg (fun c => Bool.noConfusion c.1)] at hQ
        exact zIf_t (by decide) (hQ M hfr.rf hc)
      | true =>
        rw [hpl] at hQ
        rw [if_pos rfl] at hQ
        refine zIf_f (by decide) ?_
        by_cases k10 : (nN A.ns w).kd = 10
        · rw [if_neg (fun c => by have := c.2; omega)] at hQ
          rw [if_pos k10] at hQ
          obtain ⟨-, nch, -⟩ := r_node hU.2.1 hFA hw (by omega)
          rw [k10] at nch
          exact zIf_t (by omega) (h_sgL Γ (by omega) hok hS hSo hU hFB hPB hr (by omega) (hQ M hfr.rf hc) (nN A.ns w).ps _ true nch rfl)
        · rw [if_neg k10] at hQ
          refine zIf_f (by omega) ?_
          by_cases k11 : (nN A.ns w).kd = 11
          · rw [if_pos ⟨rfl, k11⟩] at hQ
            rw [if_pos k11] at hQ
            obtain ⟨-, nch, -⟩ := r_node hU.2.2.2 hFB hr (by omega)
            rw [← ke, k11] at nch
            exact h_flL Γ (by omega) hok hH hw k11 hr (by omega) hlA hlB (by rw [w32_id (by omega) (by omega)]; omega) (nN B.ns r).ps _ true O M (fun q hq => hq) nch hU hc (fun M1 f1 h1 => by rw [Bool.true_and]; exact hQ M1 f1 h1)
          · rw [if_neg (fun c => k11 c.2)] at hQ
            rw [if_neg k11] at hQ
            have k9 := (tPln_of hpl (by omega)).2.1
            have nk : ¬ w32 ((nN A.ns w).kd : Int) = 11 := by rw [w32_id (by omega) (by omega)]; omega
            refine zs_X11_may_335 Γ (by omega) hok hs ?_
            unfold zt_X11_may_335
            have h9 := hQ M hfr.rf hc
            exact ⟨fun _ => ⟨Or.inr rfl, h9⟩, fun _ => zIf_f nk ⟨Or.inr rfl, h9⟩⟩
  · exact zIf_f (by omega) (by
      rw [tPln_ne (by omega) ke] at hQ
      by_cases k67 : (nN A.ns w).kd = 6 ∨ (nN A.ns w).kd = 7
      · rw [if_pos k67, if_neg (fun c => ke c.symm)] at hQ
        rw [if_pos k67, decide_eq_false (fun c => ke c.symm)] at hQ
        exact hQ M hfr.rf hc
      · rw [if_neg k67] at hQ
        rw [if_neg k67] at hQ
        rw [if_neg (fun c => Bool.noConfusion c.1)] at hQ
        exact hQ M hfr.rf hc)
end JBB
