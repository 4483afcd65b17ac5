/-! ===== the Filler: a plain value is put; a misfit ===== -/
section VKs
variable {l : Launch} {s0 : State} {a0 : Array Value} {G : va_G} {ca : Nat → ClassId} {d : Nat} {C : Nat × Nat} {S : zS} {M : zM} {Q : Int → zM → Prop} {X : zM → Prop} {xs : List JR} {v s : Nat} {p : Int} {NU U W : Nat} {st : SS}
theorem f_misfit (Γ : rt_Γ l s0 a0 G ca) (hd : 2 ≤ d) (hok : zok C) (hS : fSh S p) (hT : cTx M xs) (hv : v < xs.length) (h25 : M 25 2 = -1) (hU : M (p + 23) 1 = (U : Int)) (hW : U ≤ W) (hQ : ∀ M1 : zM, fF p M M1 U W (xx xs v).bg → Q 0 M1) : zm_X2_misfit l s0 G ca d C S v M Q X := by
  obtain ⟨⟨hs9, hp, hs24, hs6, hp0⟩, hs25⟩ := hS
  refine z_X2_misfit Γ (by omega) hok hs9 hp hs25 hs6 ?_
  unfold zt_X2_misfit
  have hl := hT.2.2
  have hr := cRec_at hT hv
  rw [h25, c_zat (by omega), hr.2.1]
  refine ⟨fun _ => hQ _ ⟨zu_s _ _ _ _, ⟨U, ?_, Nat.le_refl _, hW⟩, ffr.rf.zu⟩, fun c => absurd (by decide) c⟩
  rw [zu_a (by omega)]
  exact hU
theorem vB_one {x : Int} (h0 : 0 ≤ x) (h : x < 64) : vB x = [(2 * x).toNat] := by
  unfold vB zz
  rw [if_pos h0]
  unfold uB
  rw [if_pos (by omega)]
theorem f_plain (Γ : rt_Γ l s0 a0 G ca) (hd : 5 ≤ d) (hok : zok C) (hS : fSh S p) (hT : cTx M xs) (hv : v < xs.length) (hG : gC M p NU st) (hK : kOk st) (hF : kF st) (hX : xL xs) (hs : s < 6 + st.ns.length) {bs : List Nat} (hb : sPla st.ns (xx xs v) s = some bs) (hU : M (p + 23) 1 = (U : Int)) (hR : U + (dV xs v - 1) ≤ 8192)
    (hQ : ∀ M1 : zM, U + bs.length ≤ U + (dV xs v - 1) → apB M M1 (p + 23) (p + 24) U bs → Q 0 M1) : zm_X2_putPlain l s0 G ca d C S v s M Q X := by
  have hS0 := hS
  obtain ⟨⟨hs9, hp, hs24, hs6, hp0⟩, hs25⟩ := hS
  refine z_X2_putPlain Γ (by omega) hok hs9 hp hs25 hs6 ?_
  unfold zt_X2_putPlain
  have hl := hT.2.2
  have hr := cRec_at hT hv
  have hkv := (jWf_at hT.2.1 hv).1
  have hk12 := nN_kd hK s
  have c21 := hp.2.2.2.2.2.2.2.2.2.2.2.2.2
  have hdv := dV_eq hT.2.1 hv
  rw [g_kd hG hs, cK hT hv, w32_id (x := ((nN st.ns s).kd : Int)) (by omega) (by omega), w32_id (x := ((xx xs v).kd : Int)) (by omega) (by omega)]
  unfold sPla at hb
  have num : (xx xs v).kd = 4 → vB (xx xs v).num.toInt = bs → zm_X0_addVarint l s0 G ca (d - 1) C S (p + 23) (zf_X8_number M v) M (fun r M1 => Q 0 M1) X := fun hk4 e => by
    rw [c_num hT hv hk4]
    have hle : (vB (xx xs v).num.toInt).length ≤ 10 := vB_le
    refine c_addV Γ (by omega) hok c21 (by omega) hU (by omega) (fun _ M1 f => ?_) (fun h => ?_)
    · rw [w64_toI, e] at f
      rw [e] at hle
      exact hQ M1 (by omega) f
    · rw [w64_toI] at h
      omega
  have str : (xx xs v).kd = 3 → sStr (xx xs v).ws = bs → zm_X2_putString l s0 G ca (d - 1) C S (zat M 18 2073 (v : Int)) M (fun r M1 => Q 0 M1) X := fun hk3 e => by
    rw [if_pos hk3] at hdv
    rw [c_zat (by omega)]
    refine f_string Γ (by omega) hok hS0 (hr.2.2.2.2.2.2.1 hk3).wd (by omega) ((hX v hv).1 hk3) hU (by omega) (fun M1 h f => ?_)
    rw [e] at h f
    exact hQ M1 (by omega) f
  have boo : ∀ b : Nat, [b] = bs → Q 0 (zadd M (p + 23) (p + 24) 8192 (b : Int)) := fun b e => by
    obtain ⟨e1, -⟩ := zadd_in (c := p + 23) (a := p + 24) (n := 8192) (x := (b : Int)) hU (by omega) (by omega) (by omega) (by decide)
    rw [e1]
    subst e
    refine hQ _ (by rw [List.length_singleton]; omega) ⟨zu_s _ _ _ _, fun j hj => ?_, fun b2 j n1 n2 => ?_⟩
    · have : j = 0 := by simp only [List.length_singleton] at hj; omega
      subst this
      rw [zu_a (by omega)]
      exact zu_s _ _ _ _
    · unfold zu
      rw [if_neg n1, if_neg (fun e => n2 ⟨e.1, by omega⟩)]
  refine ⟨fun k1 => ?_, fun k1 => ⟨fun k2 => ?_, fun k2 => ⟨fun k3 => ?_, fun k3 => ⟨fun k4 => ?_, fun k4 => ⟨fun k5 => ?_, fun k5 => ⟨fun k9 => ?_, fun k9 => ⟨fun k10 => ?_, fun k10 => ?_⟩⟩⟩⟩⟩⟩⟩
  · rw [if_neg (show ¬ (nN st.ns s).kd = 0 by omega), if_pos (show (nN st.ns s).kd = 1 by omega)] at hb
    by_cases c5 : (xx xs v).kd = 5
    · rw [if_pos c5] at hb
      exact ⟨fun _ => ⟨p + 24, 8192, c21, boo 1 (Option.some.inj hb)⟩, fun c => absurd (show ((xx xs v).kd : Int) = 5 by omega) c⟩
    · rw [if_neg c5] at hb
      by_cases c6 : (xx xs v).kd = 6
      · rw [if_pos c6] at hb
        exact ⟨fun c => absurd c (by omega), fun _ => ⟨p + 24, 8192, c21, boo 0 (Option.some.inj hb)⟩⟩
      · rw [if_neg c6] at hb
        exact nomatch hb
  · rw [if_neg (show ¬ (nN st.ns s).kd = 0 by omega), if_neg (show ¬ (nN st.ns s).kd = 1 by omega), if_pos (show (nN st.ns s).kd = 2 by omega)] at hb
    by_cases c : (xx xs v).kd = 4 ∧ (xx xs v).num.toInt = w32 (xx xs v).num.toInt
    · rw [if_pos c] at hb
      exact ⟨p + 24, 8192, c21, num c.1 (Option.some.inj hb)⟩
    · rw [if_neg c] at hb
      exact nomatch hb
  · rw [if_neg (show ¬ (nN st.ns s).kd = 0 by omega), if_neg (show ¬ (nN st.ns s).kd = 1 by omega), if_neg (show ¬ (nN st.ns s).kd = 2 by omega), if_pos (show (nN st.ns s).kd = 3 by omega)] at hb
    by_cases c : (xx xs v).kd = 4
    · rw [if_pos c] at hb
      exact ⟨p + 24, 8192, c21, num c (Option.some.inj hb)⟩
    · rw [if_neg c] at hb
      exact nomatch hb
  · rw [if_neg (show ¬ (nN st.ns s).kd = 0 by omega), if_neg (show ¬ (nN st.ns s).kd = 1 by omega), if_neg (show ¬ (nN st.ns s).kd = 2 by omega), if_neg (show ¬ (nN st.ns s).kd = 3 by omega), if_pos (show (nN st.ns s).kd = 4 ∨ (nN st.ns s).kd = 5 by omega)] at hb
    by_cases c : (xx xs v).kd = 3
    · rw [if_pos c] at hb
      exact str c (Option.some.inj hb)
    · rw [if_neg c] at hb
      exact nomatch hb
  · rw [if_neg (show ¬ (nN st.ns s).kd = 0 by omega), if_neg (show ¬ (nN st.ns s).kd = 1 by omega), if_neg (show ¬ (nN st.ns s).kd = 2 by omega), if_neg (show ¬ (nN st.ns s).kd = 3 by omega), if_pos (show (nN st.ns s).kd = 4 ∨ (nN st.ns s).kd = 5 by omega)] at hb
    by_cases c : (xx xs v).kd = 3
    · rw [if_pos c] at hb
      exact str c (Option.some.inj hb)
    · rw [if_neg c] at hb
      exact nomatch hb
  · rw [if_neg (show ¬ (nN st.ns s).kd = 0 by omega), if_neg (show ¬ (nN st.ns s).kd = 1 by omega), if_neg (show ¬ (nN st.ns s).kd = 2 by omega), if_neg (show ¬ (nN st.ns s).kd = 3 by omega), if_neg (show ¬ ((nN st.ns s).kd = 4 ∨ (nN st.ns s).kd = 5) by omega), if_pos (show (nN st.ns s).kd = 9 by omega)] at hb
    by_cases c : (xx xs v).kd = 3 ∧ ((xx xs v).ws.length : Int) = (nN st.ns s).dt
    · rw [if_pos c] at hb
      have e := Option.some.inj hb
      rw [if_pos c.1] at hdv
      rw [c_zat (by omega)]
      refine f_letters Γ (by omega) hok hS0 (hr.2.2.2.2.2.2.1 c.1).wd (by omega) ((hX v hv).1 c.1) hU (by omega) (fun M1 f => ?_)
      rw [e] at f
      exact hQ M1 (by rw [← e, sLtr_len]; omega) f
    · rw [if_neg c] at hb
      exact nomatch hb
  · rw [if_neg (show ¬ (nN st.ns s).kd = 0 by omega), if_neg (show ¬ (nN st.ns s).kd = 1 by omega), if_neg (show ¬ (nN st.ns s).kd = 2 by omega), if_neg (show ¬ (nN st.ns s).kd = 3 by omega), if_neg (show ¬ ((nN st.ns s).kd = 4 ∨ (nN st.ns s).kd = 5) by omega), if_neg (show ¬ (nN st.ns s).kd = 9 by omega), if_pos (show (nN st.ns s).kd = 10 by omega)] at hb
    by_cases c : (xx xs v).kd = 3
    · rw [if_pos c] at hb
      obtain ⟨i, e, hi⟩ := nN_some (ns := st.ns) (s := s) (nN_ge (ns := st.ns) (by omega)) hs
      have hk10 : (nN st.ns (6 + i)).kd = 10 := by rw [← e]; omega
      rw [e] at hb hi
      rw [c_zat (by omega), e]
      refine g_prtN Γ (by omega) hok hS0 hG (hr.2.2.2.2.2.2.1 c).wd (by omega) hi (Or.inl hk10) ?_
      have hc1 := (hF i _ hi).2.2.2.1 (by omega)
      have hc2 := nTot_in hi
      have hc3 := hG.2.2.2.1
      refine ⟨p + 24, 8192, c21, ?_⟩
      cases hq : sPrt (nN st.ns (6 + i)).ps (xx xs v).ws with
      | none => rw [hq] at hb; exact nomatch hb
      | some k =>
        rw [hq] at hb
        have e2 : vB (k : Int) = bs := Option.some.inj hb
        have hk := sPrtL_lt _ _ _ _ hq
        rw [show oI (some k) = (k : Int) from rfl]
        have hle := vB_short (n := k) (by omega)
        refine c_addV Γ (by omega) hok c21 (by omega) hU (by omega) (fun _ M1 f => ?_) (fun h => ?_)
        · rw [w64_nat (by omega), e2] at f
          rw [e2] at hle
          exact hQ M1 (by omega) f
        · rw [w64_nat (by omega)] at h
          omega
    · rw [if_neg c] at hb
      exact nomatch hb
  · by_cases k0 : (nN st.ns s).kd = 0
    · rw [if_pos k0] at hb
      by_cases c : (xx xs v).kd = 7
      · rw [if_pos c] at hb
        have e := Option.some.inj hb
        rw [← e] at hQ
        exact hQ M (by show U + 0 ≤ _; omega) (apB.nil hU)
      · rw [if_neg c] at hb
        exact nomatch hb
    · rw [if_neg k0, if_neg (show ¬ (nN st.ns s).kd = 1 by omega), if_neg (show ¬ (nN st.ns s).kd = 2 by omega), if_neg (show ¬ (nN st.ns s).kd = 3 by omega), if_neg (show ¬ ((nN st.ns s).kd = 4 ∨ (nN st.ns s).kd = 5) by omega), if_neg (show ¬ (nN st.ns s).kd = 9 by omega), if_neg (show ¬ (nN st.ns s).kd = 10 by omega)] at hb
      exact nomatch hb
end VKs
