/-! ===== the reference's look at a schema: schemaOf is sLook ===== -/
theorem sSix_sCom {w : List Int32} {n : Nat} (h : sSix w = some n) : sCom w = none := by
  rw [sCom_not]
  refine ⟨fun e => ?_, fun e => ?_, fun e => ?_, fun e => ?_, fun e => ?_⟩ <;> (rw [e] at h; exact nomatch (h.symm.trans (show sSix _ = none by decide) : some n = none))
section TGs
variable {l : Launch} {s0 : State} {a0 : Array Value} {G : va_G} {ca : Nat → ClassId} {d : Nat} {C : Nat × Nat} {S : zS} {M : zM} {Q : Int → zM → Prop} {X : zM → Prop} {xs : List JR} {v : Nat} {t : Int} {st : SS}
theorem r_itm (Γ : rt_Γ l s0 a0 G ca) {m : Nat} (hd : 8 * m + 22 ≤ d) (hm : m + 1 ≤ 16) (hok : zok C) (ht : zTx S t) (hI : rLk l s0 G ca C S xs t m) (hT : rTx M t xs) (hv : v < xs.length) (hk1 : (xx xs v).kd = 1) (hC : rC M t xs st) (hK : kOk st) (hV : kV st) (hlt : st.ns.length < st.lk) {kd : Nat} (hkd : kd = 6 ∨ kd = 7) {q : Nat} {wb : List Int} (hq : zstr s0 q wb) (hU : st.kc + ((xx xs v).sz - 1) ≤ 2100) {w0 : rt_Wd}
    (kE : ∀ e : Nat × Nat, sItm xs (sLook xs m) v kd (iw wb) st = .error e → rE t M X e) (kO : ∀ (n : Nat) (st1 : SS), sItm xs (sLook xs m) v kd (iw wb) st = .ok (n, st1) → rO t xs M Q n st1) {v5 : Int} (hv5 : w32 v5 = 0 ↔ kd = 7) :
    zt_X10_schemaOf_265 l s0 G ca d C S w0 t (rP xs v : Nat) ((16 - (m + 1) : Nat) : Int) v5 q wb (rP xs v : Nat) M Q X := by
  unfold zt_X10_schemaOf_265
  have hlen := hC.len
  obtain ⟨v1, v2, v3, -⟩ := r_nd hT hv
  refine r_mem Γ (by omega) hok ht hT hv hk1 hq ?_
  unfold sItm at kE kO
  cases hm9 : xMem xs v (iw wb) with
  | none =>
    rw [hm9] at kE
    refine ⟨fun _ => ?_, fun c => absurd (show w32 (-1) < 0 by decide) c⟩
    unfold zt_X10_schemaOf_281
    exact ⟨⟨by omega, by omega⟩, r_need Γ (by omega) hok ht (fun _ M1 f1 => kE _ rfl M1 (by rw [v2] at f1; exact f1)) (fun c => absurd (by decide) c)⟩
  | some b =>
    rw [hm9] at kE kO
    dsimp only at kE kO
    have one := xMem_one hT.2.1 hv hm9
    obtain ⟨-, -, hb⟩ := xMem_mem hT.2.1 hv hm9
    have hbz := (jWf_at hT.2.1 hb).2.2.1
    obtain ⟨-, -, b3, -⟩ := r_nd hT hb
    refine ⟨fun c => absurd c (by rw [show oR xs (some b) = ((rP xs b : Nat) : Int) from rfl, w32_id (by omega) (by omega)]; omega), fun _ => ?_⟩
    show zt_X10_schemaOf_281 l s0 G ca d C S w0 t _ _ v5 ((rP xs b : Nat) : Int) 1 M Q X
    unfold zt_X10_schemaOf_281
    refine ⟨⟨by omega, by omega⟩, r_need Γ (by omega) hok ht (fun c => absurd c (by decide)) (fun _ => ?_)⟩
    have main : zt_X10_schemaOf_305 l s0 G ca d C S w0 t ((16 - (m + 1) : Nat) : Int) (rP xs b : Nat) kd M Q X := by
      unfold zt_X10_schemaOf_305
      refine r_shape Γ hok ht hC hlt 0 hV.2 (fun M1 r1 r2 => ?_)
      have hat : (sNew st kd none 0).ns[st.ns.length]? = some (kd, none, -1, 0, []) := sNew_at
      have hVn : kV (sNew st kd none 0) := hV.new
      have hkc : M1 t 24 = (st.kc : Int) := r1.1.2.2.1
      refine r_kid Γ hok ht hkc (by omega) (show (0 : Int) ≤ ((sNum st : Nat) : Int) by omega) (show ((sNum st : Nat) : Int) < 140 by unfold sNum; omega) (ps := []) (fun q hq => nomatch hq) (fun M2 hF => ?_)
      have hF' : kdF M1 M2 t (sNew st kd none 0).kc ((6 + st.ns.length : Nat) : Int) (SN.ps (kd, none, -1, 0, [])) := hF
      obtain ⟨p1, p2⟩ := hF'.rC r1 hVn hat (M2 := M2) (nm := []) (nd := none) (df := none) (by show st.kc + 1 ≤ _; omega) (fun _ _ _ => rfl) ⟨fun m9 h9 => (nomatch h9), fun c9 => absurd (show kd = 10 ∨ kd = 11 from c9) (by omega), fun c9 => absurd (show kd = 11 from c9) (by omega)⟩
      have hi2 : (sAdd (sNew st kd none 0) (6 + st.ns.length) [] none none).ns[st.ns.length]? = some (kd, none, -1, 0, [([], none, none, st.kc)]) := by
        unfold sAdd
        rw [nN_at hat]
        exact nPut_at hat
      have hil2 := (List.getElem?_eq_some_iff.mp hi2).1
      have hf2 := r2.tr p2
      have hnl : st.ns.length < (sNew st kd none 0).ns.length := by rw [sNew_len]; omega
      rw [show ((16 - (m + 1) : Nat) : Int) + 1 = ((16 - m : Nat) : Int) by omega]
      show zm_X10_schemaOf l s0 G ca (d - 1) C S t _ _ (bB false) M2 _ X
      refine hI (d - 1) b false (sAdd (sNew st kd none 0) (sNum st) [] none none) M2 _ X (by omega) hb (hT.fr hf2) p1 (hK.new (by omega)).add (hVn.add hnl) (by show st.kc + 1 + _ ≤ _; omega) (fun e he => (kE e (by rw [he])).fr hf2) (fun nd st1 he M4 g1 g2 => ⟨⟨by omega, by omega⟩, ?_⟩)
      obtain ⟨⟨x1, x2, x3, x4⟩, -, -⟩ := sLook_ok m _ _ _ _ _ he
      have hi1 := (x2 st.ns.length hil2).trans hi2
      have hV1 := sLook_v m _ _ _ _ _ (hVn.add hnl) he
      have fin := rC_put g1 hV1.1 hi1 (k := 0) (q := ([], none, none, st.kc)) rfl nd
      exact kO (sNum st) (sPut st1 (sNum st) 0 nd) (by rw [he]) _ fin ((hf2.tr g2).zu (by omega))
    rcases hkd with e | e
    · subst e
      exact ⟨fun c => absurd (hv5.mp c) (by decide), fun _ => main⟩
    · subst e
      exact ⟨fun _ => main, fun c => absurd (hv5.mpr rfl) c⟩
theorem r_obj (Γ : rt_Γ l s0 a0 G ca) {m : Nat} (hd : 8 * m + 24 ≤ d) (hm : m + 1 ≤ 16) (hok : zok C) (ht : zTx S t) (hI : rLk l s0 G ca C S xs t m) (hT : rTx M t xs) (hv : v < xs.length) (hk1 : (xx xs v).kd = 1) (hC : rC M t xs st) (hK : kOk st) (hV : kV st) (hlt : st.ns.length < st.lk) (hU : st.kc + ((xx xs v).sz - 1) ≤ 2100) {w0 : rt_Wd}
    (kE : ∀ e : Nat × Nat, sObj xs (sLook xs m) v st = .error e → rE t M X e) (kO : ∀ (n : Nat) (st1 : SS), sObj xs (sLook xs m) v st = .ok (n, st1) → rO t xs M Q n st1) :
    zt_X10_schemaOf_151 l s0 G ca d C S w0 t (rP xs v : Nat) ((16 - (m + 1) : Nat) : Int) 1 M Q X := by
  unfold zt_X10_schemaOf_151
  have hlen := hC.len
  obtain ⟨v1, v2, v3, -⟩ := r_nd hT hv
  refine ⟨⟨by omega, by omega⟩, r_need Γ (by omega) hok ht (fun c => absurd c (by decide)) (fun _ => ?_)⟩
  intro q163 h163
  refine r_mem Γ (by omega) hok ht hT hv hk1 h163 ?_
  unfold sObj at kE kO
  have bad7 : rE t M X (7, (xx xs v).bg) → ∀ v4 : Int, zt_X10_schemaOf_191 l s0 G ca d C S w0 t (rP xs v : Nat) ((16 - (m + 1) : Nat) : Int) v4 M Q X := fun h v4 => by
    unfold zt_X10_schemaOf_191 zt_X10_schemaOf_192
    exact ⟨⟨by omega, by omega⟩, r_need Γ (by omega) hok ht (fun _ M1 f1 => h M1 (by rw [v2] at f1; exact f1)) (fun c => absurd (by decide) c)⟩
  cases hm9 : xMem xs v (iw [116, 121, 112, 101]) with
  | none =>
    rw [hm9] at kE
    exact ⟨fun _ => bad7 (kE _ rfl) _, fun c => absurd (show w32 (-1) < 0 by decide) c⟩
  | some z =>
    rw [hm9] at kE kO
    dsimp only at kE kO
    obtain ⟨-, -, hz⟩ := xMem_mem hT.2.1 hv hm9
    obtain ⟨b1, b2, b3, -, -, -, -, b8, b9, -⟩ := r_nd hT hz
    rw [show oR xs (some z) = ((rP xs z : Nat) : Int) from rfl]
    rw [b1, w32_id (x := ((rP xs z : Nat) : Int)) (by omega) (by omega), w32_id (x := ((xx xs z).kd : Int) - 1) (by omega) (by omega)]
    refine ⟨fun c => by omega, fun _ => ⟨⟨by omega, by omega⟩, fun c => ?_, fun c => ?_⟩⟩
    case refine_2 =>
      rw [if_neg (fun h => c (by omega))] at kE
      exact bad7 (kE _ rfl) _
    have hk3 : (xx xs z).kd = 3 := by omega
    rw [if_pos hk3] at kE kO
    unfold zt_X10_schemaOf_192
    refine ⟨⟨by omega, by omega⟩, r_need Γ (by omega) hok ht (fun c => absurd c (by decide)) (fun _ => ?_)⟩
    have b6' := oI_none (o := sSix (xx xs z).ws) (fun k h => by have := sSix_lt h; omega)
    have bg' := oI_ge (o := sSix (xx xs z).ws) (fun k h => by have := sSix_lt h; omega)
    refine r_word Γ (by omega) hok ht hT hz hk3 ⟨fun c1 => ?_, fun c1 => ?_⟩
    case refine_2 =>
      refine r_word Γ (by omega) hok ht hT hz hk3 ?_
      cases hs : sSix (xx xs z).ws with
      | none => rw [hs] at c1; exact absurd (show w32 (oI none) < 0 by decide) c1
      | some n =>
        rw [sSix_sCom hs] at kO
        dsimp only at kO
        unfold sKnw at kO
        rw [hs] at kO
        exact kO n st rfl M hC sfr.rf
    have hsix : sSix (xx xs z).ws = none := by
      cases hs : sSix (xx xs z).ws with
      | none => rfl
      | some n =>
        have := bg'.mpr (by rw [hs]; exact fun h => nomatch h)
        omega
    have itm : ∀ (hc : (xx xs z).ws = iw [97, 114, 114, 97, 121] ∨ ((xx xs z).ws = iw [109, 97, 112])), zt_X10_schemaOf_241 l s0 G ca d C S w0 t (rP xs v : Nat) ((16 - (m + 1) : Nat) : Int) (rP xs z : Nat) M Q X := fun hc => by
      unfold zt_X10_schemaOf_241
      intro q244 h244
      refine r_said Γ (by omega) hok ht hT hz hk3 h244 ⟨fun c2 => ?_, fun c2 => ?_⟩
      · have hmap : (xx xs z).ws = iw [109, 97, 112] := hc.resolve_left (w32_bI.mp c2)
        have hcm : sCom (xx xs z).ws = some 7 := by rw [hmap]; decide
        rw [hcm] at kE kO
        intro q263 h263
        exact r_itm Γ (by omega) hm hok ht hI hT hv hk1 hC hK hV hlt (kd := 7) (Or.inr rfl) h263 hU kE kO ⟨fun _ => rfl, fun _ => c2⟩
      · have harr : (xx xs z).ws = iw [97, 114, 114, 97, 121] := Decidable.not_not.mp (fun h => c2 (w32_bI.mpr h))
        have hcm : sCom (xx xs z).ws = some 6 := by rw [harr]; decide
        rw [hcm] at kE kO
        intro q258 h258
        exact r_itm Γ (by omega) hm hok ht hI hT hv hk1 hC hK hV hlt (kd := 6) (Or.inl rfl) h258 hU kE kO ⟨fun c => absurd c c2, fun c => absurd c (by decide)⟩
    have nmd : ∀ kd : Nat, sCom (xx xs z).ws = some kd → (kd = 9 ∨ kd = 10 ∨ kd = 11) → zm_X10_named l s0 G ca (d - 1) C S t (rP xs v : Nat) (rP xs z : Nat) ((16 - (m + 1) : Nat) : Int) M (fun r377 M377 => Q r377 M377) X := fun kd hcm hkd => by
      rw [hcm] at kE kO
      dsimp only at kE kO
      rw [if_neg (by omega), if_neg (by omega)] at kE kO
      exact r_named Γ (by omega) hm hok ht hI hT hv hk1 hC hK hV hlt hz hk3 hcm hkd hU kE kO
    intro q222 h222
    refine r_said Γ (by omega) hok ht hT hz hk3 h222 ⟨fun d1 => ?_, fun d1 => itm (Or.inl (Decidable.not_not.mp (fun h => d1 (w32_bI.mpr h))))⟩
    intro q233 h233
    refine r_said Γ (by omega) hok ht hT hz hk3 h233 ⟨fun d2 => ?_, fun d1 => itm (Or.inr (Decidable.not_not.mp (fun h => d1 (w32_bI.mpr h))))⟩
    intro q342 h342
    refine r_said Γ (by omega) hok ht hT hz hk3 h342 ⟨fun d3 => ?_, fun d1 => nmd 9 (by rw [Decidable.not_not.mp (fun h => d1 (w32_bI.mpr h))]; decide) (Or.inl rfl)⟩
    intro q353 h353
    refine r_said Γ (by omega) hok ht hT hz hk3 h353 ⟨fun d4 => ?_, fun d1 => nmd 10 (by rw [Decidable.not_not.mp (fun h => d1 (w32_bI.mpr h))]; decide) (Or.inr (Or.inl rfl))⟩
    intro q364 h364
    refine r_said Γ (by omega) hok ht hT hz hk3 h364 ⟨fun d5 => ?_, fun d1 => nmd 11 (by rw [Decidable.not_not.mp (fun h => d1 (w32_bI.mpr h))]; decide) (Or.inr (Or.inr rfl))⟩
    have hcom : sCom (xx xs z).ws = none := sCom_not.mpr ⟨w32_bI.mp d1, w32_bI.mp d2, w32_bI.mp d3, w32_bI.mp d4, w32_bI.mp d5⟩
    rw [hcom] at kE kO
    dsimp only at kE kO
    unfold sKnw at kE kO
    rw [hsix] at kE kO
    dsimp only at kE kO
    refine r_def Γ (by omega) hok ht hT hz hk3 hC ?_
    cases hdf : sDef st.ns (xx xs z).ws with
    | none =>
      rw [hdf] at kE
      refine ⟨fun _ => ?_, fun c => absurd (show w32 (oI none) < 0 by decide) c⟩
      unfold zt_X10_schemaOf_400
      exact ⟨⟨by omega, by omega⟩, r_need Γ (by omega) hok ht (fun _ M1 f1 => kE _ rfl M1 (by rw [b2] at f1; exact f1)) (fun c => absurd (by decide) c)⟩
    | some s =>
      rw [hdf] at kO
      have hsl := sDef_lt hdf
      refine ⟨fun c => absurd c (by rw [oI_w (by omega)]; omega), fun _ => ?_⟩
      unfold zt_X10_schemaOf_400
      exact ⟨⟨by omega, by omega⟩, r_need Γ (by omega) hok ht (fun c => absurd c (by decide)) (fun _ => kO s st rfl M hC sfr.rf)⟩
theorem r_look (Γ : rt_Γ l s0 a0 G ca) (hok : zok C) (ht : zTx S t) : ∀ m : Nat, m ≤ 16 → rLk l s0 G ca C S xs t m := by
  intro m
  induction m with
  | zero =>
    intro _ d v br st M Q X hd hv hT hC hK hV hU kE kO
    refine z_X10_schemaOf Γ (by omega) hok ht ?_
    unfold zt_X10_schemaOf
    obtain ⟨v1, v2, v3, -⟩ := r_nd hT hv
    have hlk := hC.2.2.2.2.2.1
    have h17 : M t 17 = (st.lk : Int) := hC.1.1
    unfold sLook at kE
    rw [h17, w32_id (x := (st.lk : Int)) (by omega) (by omega)]
    refine ⟨fun c => ?_, fun c => ?_⟩
    · rw [if_pos (by omega)] at kE
      unfold zt_X10_schemaOf_16
      exact ⟨⟨by omega, by omega⟩, r_need Γ (by omega) hok ht (fun _ M1 f1 => kE _ rfl M1 (by rw [v2] at f1; exact f1)) (fun c => absurd (by decide) c)⟩
    · rw [if_neg (by omega)] at kE
      unfold zt_X10_schemaOf_16
      refine ⟨⟨by omega, by omega⟩, r_need Γ (by omega) hok ht (fun c => absurd c (by decide)) (fun _ => ⟨fun _ => ?_, fun c => absurd (show 16 ≤ w32 ((16 - 0 : Nat) : Int) by decide) c⟩)⟩
      unfold zt_X10_schemaOf_49
      have fs : sfr t M (zu M t 17 (M t 17 + 1)) := sfr_zt sfr.rf (Or.inr (Or.inl rfl))
      obtain ⟨-, w2, -⟩ := r_nd (hT.fr fs) hv
      exact ⟨⟨by omega, by omega⟩, r_need Γ (by omega) hok ht (fun _ M1 f1 => ((kE _ rfl).fr fs) M1 (by rw [w2] at f1; exact f1)) (fun c => absurd (by decide) c)⟩
  | succ m ih =>
    intro hm d v br st M Q X hd hv hT hC hK hV hU kE kO
    refine z_X10_schemaOf Γ (by omega) hok ht ?_
    unfold zt_X10_schemaOf
    obtain ⟨v1, v2, v3, -⟩ := r_nd hT hv
    have hlk := hC.2.2.2.2.2.1
    have h17 : M t 17 = (st.lk : Int) := hC.1.1
    unfold sLook at kE kO
    rw [h17, w32_id (x := (st.lk : Int)) (by omega) (by omega)]
    refine ⟨fun c => ?_, fun c => ?_⟩
    · rw [if_pos (by omega)] at kE
      unfold zt_X10_schemaOf_16
      exact ⟨⟨by omega, by omega⟩, r_need Γ (by omega) hok ht (fun _ M1 f1 => kE _ rfl M1 (by rw [v2] at f1; exact f1)) (fun c => absurd (by decide) c)⟩
    · rw [if_neg (by omega)] at kE kO
      dsimp only at kE kO
      unfold zt_X10_schemaOf_16
      refine ⟨⟨by omega, by omega⟩, r_need Γ (by omega) hok ht (fun c => absurd c (by decide)) (fun _ => ⟨fun c9 => absurd c9 (by rw [w32_id (by omega) (by omega)]; omega), fun _ => ?_⟩)⟩
      unfold zt_X10_schemaOf_49
      have fs : sfr t M (zu M t 17 (M t 17 + 1)) := sfr_zt sfr.rf (Or.inr (Or.inl rfl))
      have hC2 : rC (zu M t 17 (M t 17 + 1)) t xs (st.lk + 1, st.2) := by
        obtain ⟨⟨a1, a2, a3, a4⟩, h6, hn, hf, l1, l2, l3, l4⟩ := hC
        have e : ∀ a j : Int, ¬ (a = t ∧ j = 17) → zu M t 17 (M t 17 + 1) a j = M a j := fun a j h => if_neg h
        refine ⟨⟨by rw [zu_s, a1]; rfl, by rw [e _ _ (by omega)]; exact a2, by rw [e _ _ (by omega)]; exact a3, by rw [e _ _ (by omega)]; exact a4⟩, fun i hi => ?_, fun i n hi => ?_, fun i z hz => ?_, Nat.le_succ_of_le l1, show st.lk + 1 ≤ 128 by omega, l3, Nat.le_succ_of_le l4⟩
        · rw [e _ _ (by omega), e _ _ (by omega), e _ _ (by omega)]
          exact h6 i hi
        · exact (hn i n hi).mono (fun a _ _ => e _ _ (by omega)) (fun q _ a _ _ => e _ _ (by omega))
        · rw [e _ _ (by omega)]
          exact hf i z hz
      have hT2 := hT.fr fs
      have hlt : (SS.ns (st.lk + 1, st.2)).length < SS.lk (st.lk + 1, st.2) := Nat.lt_succ_of_le hC.2.2.2.2.1
      have hK2 : kOk (st.lk + 1, st.2) := hK
      have hV2 : kV (st.lk + 1, st.2) := hV
      have hU2 : SS.kc (st.lk + 1, st.2) + ((xx xs v).sz - 1) ≤ 2100 := hU
      have kE2 := fun e he => (kE e he).fr fs
      have kO2 := fun n st1 he => (kO n st1 he).fr fs
      clear kE kO
      generalize zu M t 17 (M t 17 + 1) = M2 at fs hC2 hT2 kE2 kO2 ⊢
      generalize ((st.lk + 1, st.2) : SS) = sa at hC2 hlt hK2 hV2 hU2 kE2 kO2
      obtain ⟨w1, w2, w3, -, -, -, -, w8, w9, -⟩ := r_nd hT2 hv
      have hlen := hC2.len
      refine ⟨⟨by omega, by omega⟩, r_need Γ (by omega) hok ht (fun c => absurd c (by decide)) (fun _ => ?_)⟩
      rw [w1, w32_id (x := ((xx xs v).kd : Int) - 1) (by omega) (by omega)]
      refine ⟨fun c1 => ?_, fun c1 => ⟨fun c2 => ?_, fun c2 => ⟨fun c3 => ?_, fun c3 => ?_⟩⟩⟩
      · have hk3 : (xx xs v).kd = 3 := by omega
        rw [if_pos hk3] at kE2 kO2
        unfold sKnw at kE2 kO2
        have got : ∀ n : Nat, n < 200 → rO t xs M2 Q n sa → zt_X10_schemaOf_92 l s0 G ca d C S (zw s0 ca C S M) t (rP xs v : Nat) n M2 Q X := fun n hn h => by
          unfold zt_X10_schemaOf_92 zt_X10_schemaOf_105
          refine ⟨fun c => absurd c (by rw [w32_id (by omega) (by omega)]; omega), fun _ => ⟨⟨by omega, by omega⟩, r_need Γ (by omega) hok ht (fun c => absurd c (by decide)) (fun _ => h M2 hC2 sfr.rf)⟩⟩
        refine r_word Γ (by omega) hok ht hT2 hv hk3 ?_
        cases hs : sSix (xx xs v).ws with
        | none =>
          rw [hs] at kE2 kO2
          dsimp only at kE2 kO2
          refine ⟨fun _ => ?_, fun c => absurd (show w32 (oI none) < 0 by decide) c⟩
          refine r_def Γ (by omega) hok ht hT2 hv hk3 hC2 ?_
          cases hdf : sDef (SS.ns sa) (xx xs v).ws with
          | none =>
            rw [hdf] at kE2
            unfold zt_X10_schemaOf_92 zt_X10_schemaOf_105
            exact ⟨fun _ => ⟨⟨by omega, by omega⟩, r_need Γ (by omega) hok ht (fun _ M1 f1 => kE2 _ rfl M1 (by rw [w2] at f1; exact f1)) (fun c => absurd (by decide) c)⟩, fun c => absurd (show w32 (oI none) < 0 by decide) c⟩
          | some s =>
            rw [hdf] at kO2
            have hsl := sDef_lt hdf
            exact got s (by omega) (kO2 _ _ rfl)
        | some n =>
          rw [hs] at kO2
          have := sSix_lt hs
          exact ⟨fun c => absurd c (by rw [oI_w (by omega)]; omega), fun _ => got n (by omega) (kO2 _ _ rfl)⟩
      · have hk2 : (xx xs v).kd = 2 := by omega
        rw [if_neg (by omega), if_pos hk2] at kE2 kO2
        cases br with
        | true =>
          rw [if_pos rfl] at kE2
          refine z_X10_union Γ (by omega) hok ht ?_
          unfold zt_X10_union zt_X10_union_10
          exact ⟨fun c => absurd (show w32 (bB true) = 0 from c) (by decide), fun _ => ⟨⟨by omega, by omega⟩, r_need Γ (by omega) hok ht (fun _ M1 f1 => kE2 _ rfl M1 (by rw [w2] at f1; exact f1)) (fun c => absurd (by decide) c)⟩⟩
        | false =>
          rw [if_neg (by decide)] at kE2 kO2
          exact r_uni Γ (by omega) hm hok ht (ih (by omega)) hT2 hv hk2 hC2 hK2 hV2 hlt hU2 kE2 kO2
      · have hk1 : (xx xs v).kd = 1 := by omega
        rw [if_neg (by omega), if_neg (by omega), if_pos hk1] at kE2 kO2
        exact r_obj Γ (by omega) hm hok ht (ih (by omega)) hT2 hv hk1 hC2 hK2 hV2 hlt hU2 kE2 kO2
      · rw [if_neg (by omega), if_neg (by omega), if_neg (by omega)] at kE2
        unfold zt_X10_schemaOf_151
        exact ⟨⟨by omega, by omega⟩, r_need Γ (by omega) hok ht (fun _ M1 f1 => kE2 _ rfl M1 (by rw [w2] at f1; exact f1)) (fun c => absurd (by decide) c)⟩
end TGs
