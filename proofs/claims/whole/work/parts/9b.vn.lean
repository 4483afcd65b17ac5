/-! ===== the Filler's put is sDv ===== -/
theorem sMap_id {h : List Nat → List Nat} (hh : ∀ b : List Nat, h b = b) (r : Except Nat (List Nat)) : sMap h r = r := by
  cases r with
  | error e => rfl
  | ok b => show Except.ok (h b) = _; rw [hh]
section VNs
variable {l : Launch} {s0 : State} {a0 : Array Value} {G : va_G} {ca : Nat → ClassId} {d : Nat} {C : Nat × Nat} {S : zS} {M : zM} {Q : Int → zM → Prop} {X : zM → Prop} {xs : List JR} {v s : Nat} {p : Int} {NU U W : Nat} {st : SS}
theorem fIt.of {r r2 : Except Nat (List Nat)} {W2 : Nat} (h : fIt p M Q U W r) (e : r2 = r) (hW : W2 ≤ W) : fIt p M Q U W2 r2 := by
  subst e
  exact ⟨fun e he x M1 f => h.1 e he x M1 (f.up hW), fun bs hb M1 hle ha => h.2 bs hb M1 (by omega) ha⟩
theorem f_items (Γ : rt_Γ l s0 a0 G ca) {m : Nat} (hd : 2 * m + 23 ≤ d) (hm : m ≤ 24) (hok : zok C) (hS : fSh S p) (hvl : v < xs.length) (hvm : hv xs m v) (hI : ∀ m' : Nat, m = m' + 1 → cPt l s0 G ca C S xs p NU st m') (hK : kOk st) (hF : kF st) (hX : xL xs) (hs : s < 6 + st.ns.length) (hk67 : (nN st.ns s).kd = 6 ∨ (nN st.ns s).kd = 7) {o : Bool} {f : Nat → Except Nat (List Nat)}
    (hf : ∀ j : Nat, f j = (if o = true then sMap (fun b => sKyb xs j ++ b) (sDv xs st.ns m j (sKid0 st.ns s)) else sDv xs st.ns m j (sKid0 st.ns s))) (hT : cTx M xs) (hG : gC M p NU st) (h25 : M 25 2 = -1) (hU : M (p + 23) 1 = (U : Int)) (hR : U + (dV xs v - 1) ≤ 8192)
    (hit : fIt p M Q U (U + (dV xs v - 1)) (if (xx xs v).kd = (if o = true then 1 else 2) then sMap (sItb (xx xs v).len) (sCat f (xKids xs v)) else .error (xx xs v).bg)) :
    zm_X2_putItems l s0 G ca d C S v s (if o = true then 1 else 2) ((24 - m : Nat) : Int) M Q X := by
  have hS0 := hS
  obtain ⟨⟨hs9, hp, hs24, hs6, hp0⟩, hs25⟩ := hS
  refine z_X2_putItems Γ (by omega) hok hs9 hp hs25 hs6 ?_
  unfold zt_X2_putItems
  have hl := hT.2.2
  have hr := cRec_at hT hvl
  have hdv := dV_eq hT.2.1 hvl
  obtain ⟨k12, -, hsz, hsz2, hln, hkids, -⟩ := jWf_at hT.2.1 hvl
  have c21 := hp.2.2.2.2.2.2.2.2.2.2.2.2.2
  have hw : w32 (if o = true then (1 : Int) else 2) = ((if o = true then 1 else 2 : Nat) : Int) := by cases o <;> decide
  rw [cK hT hvl, hw, w32_id (x := ((xx xs v).kd : Int)) (by omega) (by omega), c_zat (by omega), hr.2.2.1, w32_id (x := ((xx xs v).len : Int)) (by omega) (by omega)]
  refine ⟨fun c => ?_, fun c => ?_⟩
  case refine_2 =>
    rw [if_neg (fun h => c (by rw [h]))] at hit
    exact f_misfit Γ (by omega) hok hS0 hT hvl h25 hU (W := U + (dV xs v - 1)) (by omega) (fun M2 hF2 => hit.1 _ rfl 0 M2 hF2)
  have hkd : (xx xs v).kd = (if o = true then 1 else 2) := Int.ofNat.inj c
  rw [if_pos hkd] at hit
  have hk12 : (xx xs v).kd = 1 ∨ (xx xs v).kd = 2 := by
    cases o
    · exact Or.inr hkd
    · exact Or.inl hkd
  have hkL := hkids hk12
  have hdo : decide ((xx xs v).kd = 1) = o := by
    cases o
    · rw [decide_eq_false (by rw [hkd]; decide)]
    · rw [decide_eq_true (by rw [hkd]; decide)]
  rw [hdo] at hkL
  have hd3 : dK xs v = 12 * ((xx xs v).sz - 1) + wS xs (v + 1) ((xx xs v).sz - 1) := rfl
  refine ⟨fun c0 => ?_, fun c0 => ?_⟩
  · have h0 : (xx xs v).len = 0 := by omega
    unfold zt_X2_putItems_47
    refine zs_X2_putItems_60 Γ (by omega) hok hs9 hp hs25 hs6 ?_
    unfold zt_X2_putItems_60
    rw [h0]
    refine ⟨fun _ => ?_, fun c => absurd (by decide) c⟩
    refine f_end (M0 := M) (U0 := U) Γ (by omega) hok hS0 hU (W := U + 1) (Nat.le_refl _) (by omega) (fun M1 g => ?_)
    refine hit.2 [0] ?_ M1 (by show U + 1 ≤ _; omega) g
    unfold xKids
    rw [h0]
    rfl
  · obtain ⟨m', rfl⟩ : ∃ m' : Nat, m = m' + 1 := by
      cases m with
      | zero => exact absurd (hv_leaf hvm) (by omega)
      | succ m' => exact ⟨m', rfl⟩
    refine ⟨p + 24, 8192, c21, ?_⟩
    have hsh := vB_short (n := (xx xs v).len) (by omega)
    refine c_addV Γ (by omega) hok c21 (by omega) hU (by omega) (fun _ M1 g => ?_) (fun h => ?_)
    · rw [w64_id (x := ((xx xs v).len : Int)) (by omega) (by omega)] at g
      have hT1 := hT.ff g.f hp0
      have hr1 := cRec_at hT1 hvl
      unfold zt_X2_putItems_47
      rw [c_zat (by omega), hr1.2.2.2.1, if_neg (show ¬ (xx xs v).len = 0 by omega)]
      refine f_itmL Γ (by omega) (by omega) hok hS0 (hI m' rfl) hK hF hX hs hk67 (show (xx xs v).len ≤ 2000 by omega) hf (xx xs v).len (v + 1) ((xx xs v).sz - 1) 0 (U + (vB ((xx xs v).len : Int)).length) M1 _ hkL (Nat.zero_add _) (fun _ => rfl) (hv_kid hvm) hT1 (hG.ff g.f hp0) (by rw [g.w hp0]; exact h25) g.1 (by omega) ⟨fun e he x M3 f3 => ?_, fun bs he M3 hb3 ha3 => ?_⟩
      · refine hit.1 e ?_ x M3 ((fF.app g f3).up (by omega))
        show sMap _ (sCat f (xKid xs (xx xs v).len (v + 1))) = _
        rw [sMap_e he]
        rfl
      · refine hit.2 (vB ((xx xs v).len : Int) ++ bs) ?_ M3 (by rw [List.length_append]; omega) (apB.app (by omega) g ha3)
        show sMap _ (sCat f (xKid xs (xx xs v).len (v + 1))) = _
        cases hc : sCat f (xKid xs (xx xs v).len (v + 1)) with
        | error e => rw [hc] at he; exact nomatch he
        | ok b =>
          rw [hc] at he
          have e9 : b ++ [0] = bs := Except.ok.inj he
          show Except.ok ((if 0 < (xx xs v).len then vB ((xx xs v).len : Int) else []) ++ b ++ [0]) = _
          rw [if_pos (by omega), ← e9, List.append_assoc]
    · rw [w64_id (x := ((xx xs v).len : Int)) (by omega) (by omega)] at h
      omega
theorem f_w (Γ : rt_Γ l s0 a0 G ca) {m : Nat} (hd : 2 * m + 24 ≤ d) (hm : m ≤ 24) (hok : zok C) (hS : fSh S p) (hvl : v < xs.length) (hvm : hv xs m v) (hI : ∀ m' : Nat, m = m' + 1 → cPt l s0 G ca C S xs p NU st m') (hK : kOk st) (hF : kF st) (hD : kD st) (hX : xL xs) (hs : s < 6 + st.ns.length) {w0 : rt_Wd} (hT : cTx M xs) (hG : gC M p NU st) (h25 : M 25 2 = -1) (hU : M (p + 23) 1 = (U : Int)) (hR : U + (dV xs v - 1) ≤ 8192)
    (hit : fIt p M (fun _ M1 => Q 0 M1) U (U + (dV xs v - 1)) (sDw xs st.ns (sDv xs st.ns m) v s)) : zt_X2_put_41 l s0 G ca d C S w0 p v ((24 - m : Nat) : Int) s M Q X := by
  have hS0 := hS
  obtain ⟨⟨hs9, hp, hs24, hs6, hp0⟩, hs25⟩ := hS
  unfold zt_X2_put_41
  have hk12 := nN_kd hK s
  have hdv := dV_eq hT.2.1 hvl
  rw [g_kd hG hs, w32_id (x := ((nN st.ns s).kd : Int)) (by omega) (by omega), w32_id (x := ((24 - m : Nat) : Int)) (by omega) (by omega)]
  unfold sDw at hit
  refine ⟨fun _ => ⟨fun k6 => ?_, fun k6 => ⟨fun k7 => ?_, fun k7 => ⟨fun k11 => ?_, fun k11 => ?_⟩⟩⟩, fun c => by omega⟩
  · rw [if_pos (show (nN st.ns s).kd = 6 by omega)] at hit
    exact f_items (o := false) Γ (by omega) hm hok hS0 hvl hvm hI hK hF hX hs (by omega) (fun j => rfl) hT hG h25 hU hR hit
  · rw [if_neg (show ¬ (nN st.ns s).kd = 6 by omega), if_pos (show (nN st.ns s).kd = 7 by omega)] at hit
    exact f_items (o := true) Γ (by omega) hm hok hS0 hvl hvm hI hK hF hX hs (by omega) (fun j => rfl) hT hG h25 hU hR hit
  · rw [if_neg (show ¬ (nN st.ns s).kd = 6 by omega), if_neg (show ¬ (nN st.ns s).kd = 7 by omega), if_pos (show (nN st.ns s).kd = 11 by omega)] at hit
    obtain ⟨i, e, hi⟩ := nN_some (ns := st.ns) (s := s) (nN_ge (ns := st.ns) (by omega)) hs
    have hk11 : (nN st.ns s).kd = 11 := by omega
    refine z_X2_putFields Γ (by omega) hok hs9 hp hs25 hs6 ?_
    unfold zt_X2_putFields
    have hkv := (jWf_at hT.2.1 hvl).1
    rw [cK hT hvl, w32_id (x := ((xx xs v).kd : Int)) (by omega) (by omega)]
    refine ⟨fun c1 => ?_, fun c1 => ?_⟩
    · have hk1 : (xx xs v).kd = 1 := by omega
      rw [if_pos hk1] at hit
      have hfw := fW_le hT.2.1 hvl (hD i _ hi hk11)
      have := f_fldL (Q := fun r M1 => Q 0 M1) (X := X) (w0 := zw s0 ca C S M) Γ (d := d - 1) (by omega) hm hok hS0 hvl hk1 hF (fun j w hj => ?_) hi hk11 (nN st.ns s).ps 0 U M rfl (Nat.zero_le _) hT hG h25 hU (by omega) (hit.of rfl (by omega))
      · rw [e]
        exact this
      · have hjk := (xFind_mem hj).1
        cases m with
        | zero =>
          exfalso
          unfold xKids at hjk
          rw [hv_leaf hvm] at hjk
          exact nomatch hjk
        | succ m' => exact ⟨m', rfl, hv_kid hvm j hjk, hI m' rfl⟩
    · rw [if_neg (fun h => c1 (by omega))] at hit
      exact f_misfit Γ (by omega) hok hS0 hT hvl h25 hU (W := U + (dV xs v - 1)) (by omega) (fun M2 hF2 => hit.1 _ rfl 0 M2 hF2)
  · rw [if_neg (show ¬ (nN st.ns s).kd = 6 by omega), if_neg (show ¬ (nN st.ns s).kd = 7 by omega), if_neg (show ¬ (nN st.ns s).kd = 11 by omega)] at hit
    refine f_suits Γ (by omega) hok hS0 hT hvl hG hK hF hs ?_
    cases hpl : sPla st.ns (xx xs v) s with
    | none =>
      rw [hpl] at hit
      refine ⟨fun _ => ?_, fun c => absurd (by decide) c⟩
      exact f_misfit Γ (by omega) hok hS0 hT hvl h25 hU (W := U + (dV xs v - 1)) (by omega) (fun M2 hF2 => hit.1 _ rfl 0 M2 hF2)
    | some b =>
      rw [hpl] at hit
      refine ⟨fun c => absurd c (show ¬ w32 1 = 0 by decide), fun _ => ?_⟩
      exact f_plain Γ (by omega) hok hS0 hT hvl hG hK hF hX hs hpl hU hR (fun M1 hle ha => hit.2 b rfl M1 hle ha)
theorem f_put1 (Γ : rt_Γ l s0 a0 G ca) (hok : zok C) (hS : fSh S p) (hK : kOk st) (hF : kF st) (hD : kD st) (hX : xL xs) {m : Nat} (hm : m ≤ 24) (hI : ∀ m' : Nat, m = m' + 1 → cPt l s0 G ca C S xs p NU st m') : cPt l s0 G ca C S xs p NU st m := by
  have hS0 := hS
  obtain ⟨⟨hs9, hp, hs24, hs6, hp0⟩, hs25⟩ := hS
  intro d v s U M Q X hd hvl hs hvm hT hG h25 hU hR hit
  refine z_X2_put Γ (by omega) hok hs9 hp hs25 hs6 ?_
  unfold zt_X2_put
  have hk12 := nN_kd hK s
  have hdv := dV_eq hT.2.1 hvl
  have c21 := hp.2.2.2.2.2.2.2.2.2.2.2.2.2
  rw [g_kd hG hs, w32_id (x := ((nN st.ns s).kd : Int)) (by omega) (by omega)]
  unfold sDv at hit
  refine ⟨fun k8 => ?_, fun k8 => ?_⟩
  · have hk8 : (nN st.ns s).kd = 8 := by omega
    rw [if_pos hk8, if_pos hk8] at hit
    refine ⟨p + 24, 8192, c21, ?_⟩
    have e0 : vB (w64 0) = [0] := by decide
    refine c_addV Γ (by omega) hok c21 (by omega) hU (by omega) (fun _ M1 g => ?_) (fun h => ?_)
    · rw [e0] at g
      have hG1 := hG.ff g.f hp0
      obtain ⟨g1, g2, g3⟩ := g_brn hG1 hF hs hk8
      rw [g1]
      refine f_w Γ (by omega) hm hok hS0 hvl hvm hI hK hF hD hX g2 (hT.ff g.f hp0) hG1 (by rw [g.w hp0]; exact h25) g.1 (by show U + 1 + (dV xs v - 1) ≤ 8192; omega) ⟨fun e he x M3 f3 => ?_, fun bs he M3 hb3 ha3 => ?_⟩
      · refine hit.1 e ?_ 0 M3 ((fF.app g f3).up (by show U + 1 + _ ≤ _; omega))
        rw [he]
        rfl
      · have hb4 : U + 1 + bs.length ≤ U + 1 + (dV xs v - 1) := hb3
        refine hit.2 ([0] ++ bs) ?_ M3 (by rw [List.length_append, List.length_singleton]; omega) (apB.app (by omega) g ha3)
        rw [he]
        rfl
    · rw [e0, List.length_singleton] at h
      omega
  · have hk8 : ¬ (nN st.ns s).kd = 8 := by omega
    rw [if_neg hk8, if_neg hk8, sMap_id (fun b => List.nil_append b)] at hit
    refine f_w Γ (by omega) hm hok hS0 hvl hvm hI hK hF hD hX hs hT hG h25 hU (by omega) ⟨fun e he x M3 f3 => ?_, fun bs he M3 hb3 ha3 => ?_⟩
    · exact hit.1 e he 0 M3 (f3.up (by omega))
    · exact hit.2 bs he M3 (by omega) ha3
theorem f_put (Γ : rt_Γ l s0 a0 G ca) (hok : zok C) (hS : fSh S p) (hK : kOk st) (hF : kF st) (hD : kD st) (hX : xL xs) : ∀ m : Nat, m ≤ 24 → cPt l s0 G ca C S xs p NU st m := by
  intro m
  induction m with
  | zero => exact fun hm => f_put1 Γ hok hS hK hF hD hX hm (fun m' e => nomatch e)
  | succ m ih => exact fun hm => f_put1 Γ hok hS hK hF hD hX hm (fun m' e => by
      have : m = m' := Nat.succ.inj e
      rw [← this]
      exact ih (by omega))
end VNs
