/-! ===== the Filler: plain values ===== -/
section VJs
variable {l : Launch} {s0 : State} {a0 : Array Value} {G : va_G} {ca : Nat → ClassId} {d : Nat} {C : Nat × Nat} {S : zS} {M : zM} {Q : Int → zM → Prop} {X : zM → Prop} {xs : List JR} {v s : Nat} {p : Int} {NU U W : Nat} {st : SS}
/-- which part a string names -/
theorem g_prtN (Γ : rt_Γ l s0 a0 G ca) (hd : 2 ≤ d) (hok : zok C) (hS : fSh S p) (hG : gC M p NU st) {lu : Nat} {k : Int} {ws : List Int32} (hw : wd (M 23) lu k ws) (hlu : lu ≤ 4096) {i : Nat} {n : SN} (hi : st.ns[i]? = some n) (hkd : n.kd = 10 ∨ n.kd = 11) (hQ : Q (oI (sPrt n.ps ws)) M) : zm_X6_partNamed l s0 G ca d C S p ((6 + i : Nat) : Int) 22 k M Q X := by
  obtain ⟨g1, g2, g3, g4, g5, -⟩ := hG
  have hil := (List.getElem?_eq_some_iff.mp hi).1
  have hti := nTot_in hi
  have hni := g2 i n hi
  refine z_X6_partNamed Γ (by omega) hok hS.1.2.1 ?_
  unfold zt_X6_partNamed
  refine c_prtL Γ (by omega) hok hS.1 hw hlu g5 hni hkd (by omega) (by omega) (fun c => ?_) n.ct 0 (Nat.zero_add _) hQ
  rw [zat_in (by omega) (by omega) (by decide)]
  exact hni.2.2.2.2.1 c
theorem kd_six {ns : List SN} {s : Nat} (h : (nN ns s).kd = 9 ∨ (nN ns s).kd = 10 ∨ (nN ns s).kd = 11 ∨ (nN ns s).kd = 8) : 6 ≤ (nN ns s).kd := by omega
theorem cK (hT : cTx M xs) (hv : v < xs.length) : zat M 8 2073 (v : Int) = ((xx xs v).kd : Int) := by
  have hl := hT.2.2.1
  rw [c_zat (by omega)]
  exact (cRec_at hT hv).1
theorem f_suits (Γ : rt_Γ l s0 a0 G ca) (hd : 4 ≤ d) (hok : zok C) (hS : fSh S p) (hT : cTx M xs) (hv : v < xs.length) (hG : gC M p NU st) (hK : kOk st) (hF : kF st) (hs : s < 6 + st.ns.length) (hQ : Q (bB (sPla st.ns (xx xs v) s).isSome) M) : zm_X2_suits l s0 G ca d C S v s M Q X := by
  have hS0 := hS
  obtain ⟨⟨hs9, hp, hs24, hs6, hp0⟩, hs25⟩ := hS
  refine z_X2_suits Γ (by omega) hok hs9 hp hs25 hs6 ?_
  unfold zt_X2_suits
  have hl := hT.2.2
  have hr := cRec_at hT hv
  have hkv := (jWf_at hT.2.1 hv).1
  have hk12 := nN_kd hK s
  rw [g_kd hG hs, cK hT hv, w32_id (x := ((nN st.ns s).kd : Int)) (by omega) (by omega), w32_id (x := ((xx xs v).kd : Int)) (by omega) (by omega)]
  have yes : (sPla st.ns (xx xs v) s).isSome = true → Q 1 M := fun h => by rw [h] at hQ; exact hQ
  have no : sPla st.ns (xx xs v) s = none → Q 0 M := fun h => by rw [h] at hQ; exact hQ
  unfold sPla at yes no
  refine ⟨fun k0 => ?_, fun k0 => ⟨fun k1 => ?_, fun k1 => ⟨fun k2 => ?_, fun k2 => ⟨fun k3 => ?_, fun k3 => ⟨fun k4 => ?_, fun k4 => ⟨fun k5 => ?_, fun k5 => ⟨fun k9 => ?_, fun k9 => ⟨fun k10 => ?_, fun k10 => ?_⟩⟩⟩⟩⟩⟩⟩⟩
  · rw [if_pos (show (nN st.ns s).kd = 0 by omega)] at yes no
    exact ⟨fun c => yes (by rw [if_pos (show (xx xs v).kd = 7 by omega)]; rfl), fun c => no (if_neg (by omega))⟩
  · rw [if_neg (show ¬ (nN st.ns s).kd = 0 by omega), if_pos (show (nN st.ns s).kd = 1 by omega)] at yes no
    exact ⟨fun c => yes (by rw [if_pos (show (xx xs v).kd = 5 by omega)]; rfl), fun c => ⟨fun c2 => yes (by rw [if_neg (show ¬ (xx xs v).kd = 5 by omega), if_pos (show (xx xs v).kd = 6 by omega)]; rfl), fun c2 => no (by rw [if_neg (show ¬ (xx xs v).kd = 5 by omega), if_neg (show ¬ (xx xs v).kd = 6 by omega)])⟩⟩
  · rw [if_neg (show ¬ (nN st.ns s).kd = 0 by omega), if_neg (show ¬ (nN st.ns s).kd = 1 by omega), if_pos (show (nN st.ns s).kd = 2 by omega)] at yes no
    refine ⟨fun c => ?_, fun c => no (if_neg (fun h => c (by omega)))⟩
    have hk4 : (xx xs v).kd = 4 := by omega
    have hb := w32_b (xx xs v).num.toInt
    rw [c_num hT hv hk4, w64_toI, w64_id (x := w32 (xx xs v).num.toInt) (by omega) (by omega)]
    exact ⟨fun c2 => yes (by rw [if_pos ⟨hk4, c2⟩]; rfl), fun c2 => no (if_neg (fun h => c2 h.2))⟩
  · rw [if_neg (show ¬ (nN st.ns s).kd = 0 by omega), if_neg (show ¬ (nN st.ns s).kd = 1 by omega), if_neg (show ¬ (nN st.ns s).kd = 2 by omega), if_pos (show (nN st.ns s).kd = 3 by omega)] at yes no
    exact ⟨fun c => yes (by rw [if_pos (show (xx xs v).kd = 4 by omega)]; rfl), fun c => no (if_neg (by omega))⟩
  · rw [if_neg (show ¬ (nN st.ns s).kd = 0 by omega), if_neg (show ¬ (nN st.ns s).kd = 1 by omega), if_neg (show ¬ (nN st.ns s).kd = 2 by omega), if_neg (show ¬ (nN st.ns s).kd = 3 by omega), if_pos (show (nN st.ns s).kd = 4 ∨ (nN st.ns s).kd = 5 by omega)] at yes no
    exact ⟨fun c => yes (by rw [if_pos (show (xx xs v).kd = 3 by omega)]; rfl), fun c => no (if_neg (by omega))⟩
  · rw [if_neg (show ¬ (nN st.ns s).kd = 0 by omega), if_neg (show ¬ (nN st.ns s).kd = 1 by omega), if_neg (show ¬ (nN st.ns s).kd = 2 by omega), if_neg (show ¬ (nN st.ns s).kd = 3 by omega), if_pos (show (nN st.ns s).kd = 4 ∨ (nN st.ns s).kd = 5 by omega)] at yes no
    exact ⟨fun c => yes (by rw [if_pos (show (xx xs v).kd = 3 by omega)]; rfl), fun c => no (if_neg (by omega))⟩
  · rw [if_neg (show ¬ (nN st.ns s).kd = 0 by omega), if_neg (show ¬ (nN st.ns s).kd = 1 by omega), if_neg (show ¬ (nN st.ns s).kd = 2 by omega), if_neg (show ¬ (nN st.ns s).kd = 3 by omega), if_neg (show ¬ ((nN st.ns s).kd = 4 ∨ (nN st.ns s).kd = 5) by omega), if_pos (show (nN st.ns s).kd = 9 by omega)] at yes no
    refine ⟨fun c => ?_, fun c => no (if_neg (fun h => c (by omega)))⟩
    have hk3 : (xx xs v).kd = 3 := by omega
    obtain ⟨i, e, hi⟩ := nN_some (ns := st.ns) (s := s) (nN_ge (ns := st.ns) (by omega)) hs
    obtain ⟨L, w1, w2, w3, w4⟩ := (hr.2.2.2.2.2.2.1 hk3).wd
    have hn := hG.2.1 i _ hi
    have hdt : zat M (p + 6) 134 (s : Int) = (nN st.ns s).dt := by
      have hl9 := hG.2.2.1
      rw [zat_in (by omega) (by omega) (by decide)]
      have := (hn.2.2.2.2.2.2 (by omega)).1
      rw [← e] at this
      exact this
    have hdb := (hF i _ hi).2.2.2.2.1 (by omega)
    rw [c_zat (by omega), w1, zat_in (by omega) (by omega) (by decide), w3, hdt, w32_id (x := ((xx xs v).ws.length : Int)) (by omega) (by omega), w32_id (x := (nN st.ns s).dt) (by omega) (by omega)]
    exact ⟨fun c2 => yes (by rw [if_pos ⟨hk3, c2⟩]; rfl), fun c2 => no (if_neg (fun h => c2 h.2))⟩
  · rw [if_neg (show ¬ (nN st.ns s).kd = 0 by omega), if_neg (show ¬ (nN st.ns s).kd = 1 by omega), if_neg (show ¬ (nN st.ns s).kd = 2 by omega), if_neg (show ¬ (nN st.ns s).kd = 3 by omega), if_neg (show ¬ ((nN st.ns s).kd = 4 ∨ (nN st.ns s).kd = 5) by omega), if_neg (show ¬ (nN st.ns s).kd = 9 by omega), if_pos (show (nN st.ns s).kd = 10 by omega)] at yes no
    refine ⟨fun c => ?_, fun c => no (if_neg (fun h => c (by omega)))⟩
    have hk3 : (xx xs v).kd = 3 := by omega
    rw [if_pos hk3] at yes no
    obtain ⟨i, e, hi⟩ := nN_some (ns := st.ns) (s := s) (nN_ge (ns := st.ns) (by omega)) hs
    have hk10 : (nN st.ns (6 + i)).kd = 10 := by rw [← e]; omega
    rw [e] at hi
    rw [c_zat (by omega), e]
    rw [e] at yes no
    refine g_prtN Γ (by omega) hok hS0 hG (hr.2.2.2.2.2.2.1 hk3).wd (by omega) hi (Or.inl hk10) ?_
    have hc1 := (hF i _ hi).2.2.2.1 (by omega)
    have hc2 := nTot_in hi
    have hc3 := hG.2.2.2.1
    have bp := oI_none (o := sPrt (nN st.ns (6 + i)).ps (xx xs v).ws) (fun m h => by have := sPrtL_lt _ _ _ _ h; omega)
    refine ⟨fun c2 => no (by rw [bp.mp c2]), fun c2 => yes ?_⟩
    cases hq : sPrt (nN st.ns (6 + i)).ps (xx xs v).ws with
    | none => exact absurd (bp.mpr hq) c2
    | some k => rfl
  · rw [if_neg (show ¬ (nN st.ns s).kd = 0 by omega), if_neg (show ¬ (nN st.ns s).kd = 1 by omega), if_neg (show ¬ (nN st.ns s).kd = 2 by omega), if_neg (show ¬ (nN st.ns s).kd = 3 by omega), if_neg (show ¬ ((nN st.ns s).kd = 4 ∨ (nN st.ns s).kd = 5) by omega), if_neg (show ¬ (nN st.ns s).kd = 9 by omega), if_neg (show ¬ (nN st.ns s).kd = 10 by omega)] at no
    exact no rfl
end VJs
