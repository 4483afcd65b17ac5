/-! ===== the Filler: items and fields ===== -/
theorem xx_bg {xs : List JR} (hw : jWf xs) (v : Nat) : (xx xs v).bg ≤ 2000 := by
  by_cases h : v < xs.length
  · exact (jWf_at hw h).2.1
  · unfold xx
    rw [List.getD_eq_getElem?_getD, List.getElem?_eq_none (by omega)]
    exact Nat.zero_le _
theorem sMap_e {h : List Nat → List Nat} {r : Except Nat (List Nat)} {e : Nat} (he : sMap h r = .error e) : r = .error e := by
  cases r with
  | error e2 => cases he; rfl
  | ok b => exact nomatch he
theorem sCat_e {f : Nat → Except Nat (List Nat)} (hf : ∀ j e : Nat, f j = .error e → e ≤ 2000) : ∀ {l : List Nat} {e : Nat}, sCat f l = .error e → e ≤ 2000 := by
  intro l
  induction l with
  | nil => intro e h; exact nomatch h
  | cons a r ih =>
    intro e h
    unfold sCat at h
    split at h
    · rename_i e2 h2
      cases h
      exact hf _ _ h2
    · exact ih (sMap_e h)
theorem sFlw_e {xs : List JR} (hw : jWf xs) {v : Nat} {f : Nat → Nat → Except Nat (List Nat)} (hf : ∀ j s e : Nat, f j s = .error e → e ≤ 2000) : ∀ {ps : List SP} {e : Nat}, sFlw xs v f ps = .error e → e ≤ 2000 := by
  intro ps
  induction ps with
  | nil => intro e h; exact nomatch h
  | cons q r ih =>
    intro e h
    unfold sFlw at h
    split at h
    · cases h; exact xx_bg hw _
    · split at h
      · rename_i e2 h2
        cases h
        exact hf _ _ _ h2
      · exact ih (sMap_e h)
theorem sDv_e {xs : List JR} (hw : jWf xs) {ns : List SN} : ∀ {m v s e : Nat}, sDv xs ns m v s = .error e → e ≤ 2000 := by
  intro m
  induction m with
  | zero => intro v s e h; cases h; exact xx_bg hw _
  | succ m ih =>
    intro v s e h
    unfold sDv at h
    have h := sMap_e h
    generalize (if (nN ns s).kd = 8 then sKid0 ns s else s) = s2 at h
    unfold sDw at h
    split at h
    · split at h
      · exact sCat_e (fun j e he => ih he) (sMap_e h)
      · cases h; exact xx_bg hw _
    · split at h
      · split at h
        · exact sCat_e (fun j e he => ih (sMap_e he)) (sMap_e h)
        · cases h; exact xx_bg hw _
      · split at h
        · split at h
          · exact sFlw_e hw (fun j s e he => ih he) h
          · cases h; exact xx_bg hw _
        · split at h
          · cases h; exact xx_bg hw _
          · exact nomatch h
section VLs
variable {l : Launch} {s0 : State} {a0 : Array Value} {G : va_G} {ca : Nat → ClassId} {d : Nat} {C : Nat × Nat} {S : zS} {M : zM} {Q : Int → zM → Prop} {X : zM → Prop} {xs : List JR} {v s : Nat} {p : Int} {NU U W : Nat} {st : SS}
/-- put keeps its promise, m brackets from the deepest -/
def cPt (l : Launch) (s0 : State) (G : va_G) (ca : Nat → ClassId) (C : Nat × Nat) (S : zS) (xs : List JR) (p : Int) (NU : Nat) (st : SS) (m : Nat) : Prop :=
  ∀ (d v s U : Nat) (M : zM) (Q : Int → zM → Prop) (X : zM → Prop), 2 * m + 24 ≤ d → v < xs.length → s < 6 + st.ns.length → hv xs m v → cTx M xs → gC M p NU st → M 25 2 = -1 → M (p + 23) 1 = (U : Int) → U + dV xs v ≤ 8192 →
    fIt p M Q U (U + dV xs v) (sDv xs st.ns (m + 1) v s) → zm_X2_put l s0 G ca d C S v s ((24 - m : Nat) : Int) M Q X
/-- an end of items, behind all or behind a misfit -/
theorem f_end (Γ : rt_Γ l s0 a0 G ca) (hd : 3 ≤ d) (hok : zok C) (hS : fSh S p) {w0 : rt_Wd} {M0 : zM} {U0 : Nat} (hU : M (p + 23) 1 = (U : Int)) (hW : U + 1 ≤ W) (hW2 : W ≤ 8192) (hQ : ∀ M1 : zM, apB M M1 (p + 23) (p + 24) U [0] → Q 0 M1) : zt_X2_putItems_128 l s0 G ca d C S w0 p M Q X := by
  unfold zt_X2_putItems_128
  have c21 := hS.1.2.1.2.2.2.2.2.2.2.2.2.2.2.2.2
  have hp0 := hS.1.2.2.2.2
  refine ⟨p + 24, 8192, c21, ?_⟩
  have e : vB (w64 0) = [0] := by decide
  refine c_addV Γ (by omega) hok c21 (by omega) hU (by omega) (fun _ M1 f => ?_) (fun h => ?_)
  · rw [e] at f
    exact hQ M1 f
  · rw [e, List.length_singleton] at h
    omega
theorem f_itmL (Γ : rt_Γ l s0 a0 G ca) {m' : Nat} (hd : 2 * m' + 25 ≤ d) (hm : m' ≤ 23) (hok : zok C) (hS : fSh S p) (hI : cPt l s0 G ca C S xs p NU st m') (hK : kOk st) (hF : kF st) (hX : xL xs) (hs : s < 6 + st.ns.length) (hk67 : (nN st.ns s).kd = 6 ∨ (nN st.ns s).kd = 7) {o : Bool} {ct : Nat} (hct : ct ≤ 2000) {w0 : rt_Wd} {f : Nat → Except Nat (List Nat)}
    (hf : ∀ j : Nat, f j = (if o = true then sMap (fun b => sKyb xs j ++ b) (sDv xs st.ns (m' + 1) j (sKid0 st.ns s)) else sDv xs st.ns (m' + 1) j (sKid0 st.ns s))) : ∀ (c i n k U : Nat) (M : zM) (v6 : Int), kidsL c (xs.drop i) n o → k + c = ct → (0 < c → v6 = i) → (∀ j ∈ xKid xs c i, hv xs m' j) → cTx M xs → gC M p NU st → M 25 2 = -1 → M (p + 23) 1 = (U : Int) → U + (12 * n + wS xs i n) + 1 ≤ 8192 →
    fIt p M Q U (U + (12 * n + wS xs i n) + 1) (sMap (fun b => b ++ [0]) (sCat f (xKid xs c i))) →
    zg_X2_putItems_60 l s0 G ca d C S w0 p s (if o = true then 1 else 2) ((24 - (m' + 1) : Nat) : Int) ct v6 k M Q X := by
  have hS0 := hS
  obtain ⟨⟨hs9, hp, hs24, hs6, hp0⟩, hs25⟩ := hS
  intro c
  induction c with
  | zero =>
    intro i n k U M v6 hk hkc hv6 hhv hT hG h25 hU hR hit
    refine zs_X2_putItems_60 Γ (by omega) hok hs9 hp hs25 hs6 ?_
    unfold zt_X2_putItems_60
    rw [w32_id (x := (ct : Int)) (by omega) (by omega), w32_id (x := (k : Int)) (by omega) (by omega)]
    refine ⟨fun _ => ?_, fun c => by omega⟩
    refine f_end (M0 := M) (U0 := U) Γ (by omega) hok hS0 hU (W := U + 1) (Nat.le_refl _) (by omega) (fun M1 f => ?_)
    exact hit.2 [0] rfl M1 (by show U + 1 ≤ _; omega) f
  | succ c ih =>
    intro i n k U M v6 hk hkc hv6 hhv hT hG h25 hU hR hit
    obtain ⟨g1, g2, g3, g4, g5, g6⟩ := kidsL_step hk
    have hl := hT.2.2
    have hfe : ∀ e : Nat, f i = .error e → e ≤ 2000 := fun e he => by
      rw [hf i] at he
      split at he
      · exact sDv_e hT.2.1 (sMap_e he)
      · exact sDv_e hT.2.1 he
    have hvi := hhv i List.mem_cons_self
    have hwk := dV_key hT.2.1 g1
    have hws := wS_add (xs := xs) (xx xs i).sz i (n - (xx xs i).sz)
    rw [show (xx xs i).sz + (n - (xx xs i).sz) = n by omega] at hws
    have hdw : dW xs i = 12 * (xx xs i).sz + wS xs i (xx xs i).sz := rfl
    obtain ⟨gi1, gi2⟩ := g_itm hG hF hs hk67
    refine zs_X2_putItems_60 Γ (by omega) hok hs9 hp hs25 hs6 ?_
    unfold zt_X2_putItems_60
    rw [w32_id (x := (ct : Int)) (by omega) (by omega), w32_id (x := (k : Int)) (by omega) (by omega), h25, hv6 (Nat.succ_pos c)]
    refine ⟨fun c9 => by omega, fun _ => ⟨fun _ => ?_, fun c9 => absurd (by decide) c9⟩⟩
    -- behind a misfit
    have bad : ∀ (e : Nat) (M2 : zM) (U2 : Nat) (v9 : Int) (k9 : Nat), U ≤ U2 → U2 + dV xs i ≤ U + dW xs i → fF p M M2 U (U2 + dV xs i) e → f i = .error e → k9 = k + 1 → zg_X2_putItems_60 l s0 G ca d C S w0 p s (if o = true then 1 else 2) ((24 - (m' + 1) : Nat) : Int) ct v9 k9 M2 Q X := fun e M2 U2 v9 k9 hU2 hU3 hfF hfi hk9 => by
      obtain ⟨f1, ⟨w, f2, f3, f4⟩, f5⟩ := hfF
      subst hk9
      have stop : zt_X2_putItems_128 l s0 G ca d C S w0 p M2 Q X := by
        refine f_end (M0 := M) (U0 := U) Γ (by omega) hok hS0 f2 (W := w + 1) (Nat.le_refl _) (by omega) (fun M3 g => ?_)
        refine hit.1 e ?_ 0 M3 ⟨?_, ⟨w + 1, g.1, by omega, by omega⟩, f5.tr g.f⟩
        · show sMap _ (sCat f (i :: xKid xs c (i + (xx xs i).sz))) = _
          unfold sCat
          rw [hfi]
          rfl
        · rw [g.w hp0]
          exact f1
      refine zs_X2_putItems_60 Γ (by omega) hok hs9 hp hs25 hs6 ?_
      unfold zt_X2_putItems_60
      refine ⟨fun _ => stop, fun _ => ⟨fun c9 => ?_, fun _ => stop⟩⟩
      rw [f1, w32_id (by omega) (by have := hfe e hfi; omega)] at c9
      omega
    have go : ∀ (M2 : zM) (U2 : Nat) (kb : List Nat), apB M M2 (p + 23) (p + 24) U kb → U2 = U + kb.length → kb.length ≤ jwl (xx xs i).kw + 1 → (∀ e : Nat, sDv xs st.ns (m' + 1) i (sKid0 st.ns s) = .error e → f i = .error e) → (∀ b : List Nat, sDv xs st.ns (m' + 1) i (sKid0 st.ns s) = .ok b → f i = .ok (kb ++ b)) →
        zt_X2_putItems_93 l s0 G ca d C S w0 p s (if o = true then 1 else 2) ((24 - (m' + 1) : Nat) : Int) ct i k M2 Q X := fun M2 U2 kb ha hU2 hkb hE hO => by
      unfold zt_X2_putItems_93
      have hT2 := hT.ff ha.f hp0
      have hG2 := hG.ff ha.f hp0
      have h252 : M2 25 2 = -1 := by rw [ha.w hp0]; exact h25
      have hU2' : M2 (p + 23) 1 = (U2 : Int) := by rw [hU2]; exact ha.1
      obtain ⟨gi1, -⟩ := g_itm hG2 hF hs hk67
      rw [gi1, show ((24 - (m' + 1) : Nat) : Int) + 1 = ((24 - m' : Nat) : Int) by omega]
      refine hI (d - 1) i (sKid0 st.ns s) U2 M2 _ X (by omega) g1 gi2 hvi hT2 hG2 h252 hU2' (by omega) ⟨fun e he x M3 hF3 => ?_, fun b he M3 hb3 ha3 => ?_⟩
      · have hF4 : fF p M M3 U (U2 + dV xs i) e := by
          have := hF3
          rw [hU2] at this
          rw [hU2]
          exact fF.app ha this
        rw [show (k : Int) + 1 = ((k + 1 : Nat) : Int) by omega]
        exact bad e M3 U2 _ (k + 1) (by omega) (by omega) hF4 (hE e he) rfl
      · rw [hU2] at ha3
        have ha4 := apB.app (by omega) ha ha3
        have hT3 := hT.ff ha4.f hp0
        have hG3 := hG.ff ha4.f hp0
        have h253 : M3 25 2 = -1 := by rw [ha4.w hp0]; exact h25
        have hr := cRec_at hT3 g1
        rw [show (k : Int) + 1 = ((k + 1 : Nat) : Int) by omega, c_zat (by omega), hr.2.2.2.2.1, g4]
        have hlen : (kb ++ b).length = kb.length + b.length := List.length_append
        have hfi := hO b he
        refine ih (i + (xx xs i).sz) (n - (xx xs i).sz) (k + 1) (U + (kb ++ b).length) M3 _ g6 (by omega) (fun hc => ?_) (fun j hj => hhv j (List.mem_cons_of_mem _ hj)) hT3 hG3 h253 ha4.1 (by omega) ⟨fun e he2 x M5 hF5 => ?_, fun bs he2 M5 hb5 ha5 => ?_⟩
        · rw [if_pos (decide_eq_true hc)]
        · refine hit.1 e ?_ x M5 ((fF.app ha4 hF5).up (by omega))
          show sMap _ (sCat f (i :: xKid xs c (i + (xx xs i).sz))) = _
          unfold sCat
          rw [hfi]
          dsimp only
          cases hr : sCat f (xKid xs c (i + (xx xs i).sz)) with
          | error e9 => rw [hr] at he2; cases he2; rfl
          | ok b9 => rw [hr] at he2; exact nomatch he2
        · have hbl : ((kb ++ b) ++ bs).length = (kb ++ b).length + bs.length := List.length_append
          refine hit.2 ((kb ++ b) ++ bs) ?_ M5 (by omega) (apB.app (by omega) ha4 ha5)
          show sMap _ (sCat f (i :: xKid xs c (i + (xx xs i).sz))) = _
          unfold sCat
          rw [hfi]
          dsimp only
          cases hr : sCat f (xKid xs c (i + (xx xs i).sz)) with
          | error e9 => rw [hr] at he2; exact nomatch he2
          | ok b9 =>
            rw [hr] at he2
            have e9 : b9 ++ [0] = bs := Except.ok.inj he2
            show Except.ok (((kb ++ b) ++ b9) ++ [0]) = _
            rw [List.append_assoc, e9]
    cases o with
    | false =>
      refine ⟨fun c9 => absurd c9 (by decide), fun _ => ?_⟩
      refine go M U [] (apB.nil hU) rfl (Nat.zero_le _) (fun e he => ?_) (fun b he => ?_)
      · rw [hf i, if_neg (by decide)]; exact he
      · rw [hf i, if_neg (by decide)]; exact he
    | true =>
      refine ⟨fun _ => ?_, fun c9 => absurd (by decide) c9⟩
      obtain ⟨ks, hks⟩ := Option.isSome_iff_exists.mp g5
      have hr := cRec_at hT g1
      have hjw : jwl (xx xs i).kw = 1 + ks.length := by rw [hks]; rfl
      rw [c_zat (by omega)]
      refine f_string Γ (by omega) hok hS0 (hr.2.2.2.2.2.2.2 ks hks).wd (by omega) ((hX i g1).2 ks hks) hU (by omega) (fun M2 hle ha => ?_)
      have ekb : sKyb xs i = sStr ks := by unfold sKyb; rw [hks]
      refine go M2 _ (sStr ks) ha rfl (by omega) (fun e he => ?_) (fun b he => ?_)
      · rw [hf i, if_pos rfl, he]; rfl
      · rw [hf i, if_pos rfl, he, ekb]; rfl
end VLs
