/-! ===== the reference's fit is sDv ===== -/
section VPs
variable {l : Launch} {s0 : State} {a0 : Array Value} {G : va_G} {ca : Nat → ClassId} {d : Nat} {C : Nat × Nat} {S : zS} {M : zM} {Q : Int → zM → Prop} {X : zM → Prop} {xs : List JR} {v s : Nat} {t : Int} {st : SS}
theorem r_fw (Γ : rt_Γ l s0 a0 G ca) {m : Nat} (hd : 2 * m + 21 ≤ d) (hok : zok C) (ht : zTx S t) (hvl : v < xs.length) (hvm : hv xs m v) (hI : ∀ m' : Nat, m = m' + 1 → rFt l s0 G ca C S xs t st m') (hK : kOk st) (hF : kF st) (hV : kV st) (hs : s < 6 + st.ns.length) (hk8 : ¬ (nN st.ns s).kd = 8) (hT : rTx M t xs) (hC : rC M t xs st)
    (kE : ∀ e : Nat, sDw xs st.ns (sDv xs st.ns m) v s = .error e → rE t M X (12, e)) (kO : ∀ b : List Nat, sDw xs st.ns (sDv xs st.ns m) v s = .ok b → Q 0 M) : zm_X10_fit l s0 G ca d C S t (rP xs v : Nat) s M Q X := by
  refine z_X10_fit Γ (by omega) hok ht ?_
  unfold zt_X10_fit
  have hk12 := nN_kd hK s
  have hlen := hC.len
  obtain ⟨v1, v2, v3, -, v5, v6, -, v8, v9, -⟩ := r_nd hT hvl
  have hl := hT.2.2.1
  rw [r_kd hC hs, v1, v2, w32_id (x := ((nN st.ns s).kd : Int)) (by omega) (by omega), w32_id (x := ((xx xs v).kd : Int) - 1) (by omega) (by omega)]
  unfold sDw at kE kO
  -- a plain value
  have yes : (∃ b : List Nat, sPla st.ns (xx xs v) s = some b) → ¬ (nN st.ns s).kd = 6 → ¬ (nN st.ns s).kd = 7 → ¬ (nN st.ns s).kd = 11 → zm_X10_need l s0 G ca (d - 1) C S t 1 12 ((xx xs v).bg : Nat) M (fun r M1 => Q 0 M1) X := fun ⟨b, hb⟩ h6 h7 h11 => by
    rw [if_neg h6, if_neg h7, if_neg h11, hb] at kO
    exact r_need Γ (by omega) hok ht (fun c => absurd c (by decide)) (fun _ => kO b rfl)
  have no : sPla st.ns (xx xs v) s = none → ¬ (nN st.ns s).kd = 6 → ¬ (nN st.ns s).kd = 7 → ¬ (nN st.ns s).kd = 11 → zm_X10_need l s0 G ca (d - 1) C S t 0 12 ((xx xs v).bg : Nat) M (fun r M1 => Q 0 M1) X := fun hb h6 h7 h11 => by
    rw [if_neg h6, if_neg h7, if_neg h11, hb] at kE
    exact r_need Γ (by omega) hok ht (fun _ M1 f1 => kE _ rfl M1 f1) (fun c => absurd (by decide) c)
  unfold sPla at yes no
  refine ⟨⟨by omega, by omega⟩, ⟨by omega, by omega⟩, fun k0 => ?_, fun k0 => ⟨fun k1 => ?_, fun k1 => ⟨fun k2 => ?_, fun k2 => ⟨fun k3 => ?_, fun k3 => ⟨fun k4 => ?_, fun k4 => ⟨fun k5 => ?_, fun k5 => ⟨fun k6 => ?_, fun k6 => ⟨fun k7 => ?_, fun k7 => ⟨fun k8 => absurd k8 (by omega), fun k8 => ⟨fun k9 => ?_, fun k9 => ⟨fun k10 => ?_, fun k10 => ?_⟩⟩⟩⟩⟩⟩⟩⟩⟩⟩⟩
  · rw [if_pos (show (nN st.ns s).kd = 0 by omega)] at yes no
    exact ⟨fun c => yes ⟨_, if_pos (by omega)⟩ (by omega) (by omega) (by omega), fun c => no (if_neg (by omega)) (by omega) (by omega) (by omega)⟩
  · rw [if_neg (show ¬ (nN st.ns s).kd = 0 by omega), if_pos (show (nN st.ns s).kd = 1 by omega)] at yes no
    unfold zt_X10_fit_119
    refine ⟨fun c => yes ⟨_, if_pos (by omega)⟩ (by omega) (by omega) (by omega), fun c => ⟨fun c2 => yes ⟨[0], by rw [if_neg (show ¬ (xx xs v).kd = 5 by omega), if_pos (show (xx xs v).kd = 6 by omega)]⟩ (by omega) (by omega) (by omega), fun c2 => no (by rw [if_neg (show ¬ (xx xs v).kd = 5 by omega), if_neg (show ¬ (xx xs v).kd = 6 by omega)]) (by omega) (by omega) (by omega)⟩⟩
  · rw [if_neg (show ¬ (nN st.ns s).kd = 0 by omega), if_neg (show ¬ (nN st.ns s).kd = 1 by omega), if_pos (show (nN st.ns s).kd = 2 by omega)] at yes no
    refine ⟨fun c => ?_, fun c => no (if_neg (fun h => c (by omega))) (by omega) (by omega) (by omega)⟩
    have hk4 : (xx xs v).kd = 4 := by omega
    have hb := w32_b (xx xs v).num.toInt
    rw [v5 hk4, w64_toI, w64_id (x := w32 (xx xs v).num.toInt) (by omega) (by omega)]
    exact ⟨fun c2 => yes ⟨_, if_pos ⟨hk4, c2⟩⟩ (by omega) (by omega) (by omega), fun c2 => no (if_neg (fun h => c2 h.2)) (by omega) (by omega) (by omega)⟩
  · rw [if_neg (show ¬ (nN st.ns s).kd = 0 by omega), if_neg (show ¬ (nN st.ns s).kd = 1 by omega), if_neg (show ¬ (nN st.ns s).kd = 2 by omega), if_pos (show (nN st.ns s).kd = 3 by omega)] at yes no
    exact ⟨fun c => yes ⟨_, if_pos (by omega)⟩ (by omega) (by omega) (by omega), fun c => no (if_neg (by omega)) (by omega) (by omega) (by omega)⟩
  · rw [if_neg (show ¬ (nN st.ns s).kd = 0 by omega), if_neg (show ¬ (nN st.ns s).kd = 1 by omega), if_neg (show ¬ (nN st.ns s).kd = 2 by omega), if_neg (show ¬ (nN st.ns s).kd = 3 by omega), if_pos (show (nN st.ns s).kd = 4 ∨ (nN st.ns s).kd = 5 by omega)] at yes no
    exact ⟨fun c => yes ⟨_, if_pos (by omega)⟩ (by omega) (by omega) (by omega), fun c => no (if_neg (by omega)) (by omega) (by omega) (by omega)⟩
  · rw [if_neg (show ¬ (nN st.ns s).kd = 0 by omega), if_neg (show ¬ (nN st.ns s).kd = 1 by omega), if_neg (show ¬ (nN st.ns s).kd = 2 by omega), if_neg (show ¬ (nN st.ns s).kd = 3 by omega), if_pos (show (nN st.ns s).kd = 4 ∨ (nN st.ns s).kd = 5 by omega)] at yes no
    exact ⟨fun c => yes ⟨_, if_pos (by omega)⟩ (by omega) (by omega) (by omega), fun c => no (if_neg (by omega)) (by omega) (by omega) (by omega)⟩
  · clear yes no
    have h6 : (nN st.ns s).kd = 6 := by omega
    rw [if_pos h6] at kE kO
    unfold zt_X10_fit_336
    refine ⟨fun c => ?_, fun c => r_need Γ (by omega) hok ht (fun _ M1 f1 => kE (xx xs v).bg (if_neg (by omega)) M1 f1) (fun c => absurd (by decide) c)⟩
    have hk2 : (xx xs v).kd = 2 := by omega
    rw [if_pos hk2] at kE kO
    have hkL := (jWf_at hT.2.1 hvl).2.2.2.2.2.1 (Or.inr hk2)
    rw [decide_eq_false (by omega)] at hkL
    refine r_need Γ (by omega) hok ht (fun c => absurd c (by decide)) (fun _ => ⟨⟨by omega, by omega⟩, ?_⟩)
    rw [v6 (Or.inr hk2)]
    cases m with
    | zero =>
      have h0 := hv_leaf hvm
      unfold xKids at kO
      rw [h0] at kO ⊢
      refine zs_X10_fit_350 Γ (by omega) hok ht ?_
      unfold zt_X10_fit_350
      rw [if_pos rfl]
      exact ⟨fun _ => kO _ rfl, fun c9 => absurd (by decide) c9⟩
    | succ m' =>
      refine r_elL Γ (by omega) hok ht (hI m' rfl) hT hC hF hs h6 (xx xs v).len (v + 1) _ hkL (hv_kid hvm) (fun e he => kE e ?_) (fun b he => kO (sItb (xx xs v).len b) ?_)
      · show sMap _ (sCat _ (xKid xs (xx xs v).len (v + 1))) = _
        rw [he]
        rfl
      · show sMap _ (sCat _ (xKid xs (xx xs v).len (v + 1))) = _
        rw [he]
        rfl
  · clear yes no
    have h7 : (nN st.ns s).kd = 7 := by omega
    rw [if_neg (show ¬ (nN st.ns s).kd = 6 by omega), if_pos h7] at kE kO
    unfold zt_X10_fit_402
    refine ⟨fun c => ?_, fun c => r_need Γ (by omega) hok ht (fun _ M1 f1 => kE (xx xs v).bg (if_neg (by omega)) M1 f1) (fun c => absurd (by decide) c)⟩
    have hk1 : (xx xs v).kd = 1 := by omega
    rw [if_pos hk1] at kE kO
    have hkL := (jWf_at hT.2.1 hvl).2.2.2.2.2.1 (Or.inl hk1)
    rw [decide_eq_true hk1] at hkL
    refine r_need Γ (by omega) hok ht (fun c => absurd c (by decide)) (fun _ => ⟨⟨by omega, by omega⟩, ?_⟩)
    rw [v6 (Or.inl hk1)]
    cases m with
    | zero =>
      have h0 := hv_leaf hvm
      unfold xKids at kO
      rw [h0] at kO ⊢
      refine zs_X10_fit_416 Γ (by omega) hok ht ?_
      unfold zt_X10_fit_416
      rw [if_pos rfl]
      exact ⟨fun _ => kO _ rfl, fun c9 => absurd (by decide) c9⟩
    | succ m' =>
      refine r_mpL Γ (by omega) hok ht (hI m' rfl) hT hC hF hs h7 (xx xs v).len (v + 1) _ hkL (hv_kid hvm) (fun e he => kE e ?_) (fun b he => kO (sItb (xx xs v).len b) ?_)
      · show sMap _ (sCat _ (xKid xs (xx xs v).len (v + 1))) = _
        rw [he]
        rfl
      · show sMap _ (sCat _ (xKid xs (xx xs v).len (v + 1))) = _
        rw [he]
        rfl
  · rw [if_neg (show ¬ (nN st.ns s).kd = 0 by omega), if_neg (show ¬ (nN st.ns s).kd = 1 by omega), if_neg (show ¬ (nN st.ns s).kd = 2 by omega), if_neg (show ¬ (nN st.ns s).kd = 3 by omega), if_neg (show ¬ ((nN st.ns s).kd = 4 ∨ (nN st.ns s).kd = 5) by omega), if_pos (show (nN st.ns s).kd = 9 by omega)] at yes no
    refine ⟨fun c => ?_, fun c => no (if_neg (fun h => c (by omega))) (by omega) (by omega) (by omega)⟩
    have hk3 : (xx xs v).kd = 3 := by omega
    obtain ⟨i, e, hi⟩ := nN_some (ns := st.ns) (s := s) (nN_ge (ns := st.ns) (by omega)) hs
    obtain ⟨L, w1, w2, w3⟩ := r_str hT hvl hk3
    have hdb := (hF i _ hi).2.2.2.2.1 (by omega)
    have hwd := (hC.2.2.1 i _ hi).2.2.2.2.2.1 (by omega) hdb.1
    rw [← e] at hwd
    rw [w1.2.2.1, hwd, w32_id (x := ((xx xs v).ws.length : Int)) (by omega) (by omega), w32_id (x := (nN st.ns s).dt) (by omega) (by omega)]
    exact ⟨fun c2 => yes ⟨_, if_pos ⟨hk3, c2⟩⟩ (by omega) (by omega) (by omega), fun c2 => no (if_neg (fun h => c2 h.2)) (by omega) (by omega) (by omega)⟩
  · rw [if_neg (show ¬ (nN st.ns s).kd = 0 by omega), if_neg (show ¬ (nN st.ns s).kd = 1 by omega), if_neg (show ¬ (nN st.ns s).kd = 2 by omega), if_neg (show ¬ (nN st.ns s).kd = 3 by omega), if_neg (show ¬ ((nN st.ns s).kd = 4 ∨ (nN st.ns s).kd = 5) by omega), if_neg (show ¬ (nN st.ns s).kd = 9 by omega), if_pos (show (nN st.ns s).kd = 10 by omega)] at yes no
    refine ⟨fun c => ?_, fun c => no (if_neg (fun h => c (by omega))) (by omega) (by omega) (by omega)⟩
    have hk3 : (xx xs v).kd = 3 := by omega
    rw [if_pos hk3] at yes no
    obtain ⟨i, e, hi⟩ := nN_some (ns := st.ns) (s := s) (nN_ge (ns := st.ns) (by omega)) hs
    have hk10 : (nN st.ns (6 + i)).kd = 10 := by rw [← e]; omega
    have h6' : ¬ (nN st.ns (6 + i)).kd = 6 := by omega
    have h7' : ¬ (nN st.ns (6 + i)).kd = 7 := by omega
    have h11' : ¬ (nN st.ns (6 + i)).kd = 11 := by omega
    rw [e] at hi yes no ⊢
    refine r_symb Γ (by omega) hok ht hT hvl hk3 hC hi (Or.inl hk10) ?_
    cases hq : sPrt (nN st.ns (6 + i)).ps (xx xs v).ws with
    | none =>
      rw [hq] at no
      exact ⟨fun _ => no rfl h6' h7' h11', fun c => absurd (show w32 (oI none) < 0 by decide) c⟩
    | some k =>
      rw [hq] at yes
      have := sPrtL_lt _ _ _ _ hq
      have hps := hV.len hi
      have hkc : st.kc ≤ 2100 := hC.2.2.2.2.2.2.1
      exact ⟨fun c => absurd c (by rw [oI_w (by omega)]; omega), fun _ => yes ⟨_, rfl⟩ h6' h7' h11'⟩
  · clear yes no
    have h11 : (nN st.ns s).kd = 11 := by omega
    rw [if_neg (show ¬ (nN st.ns s).kd = 6 by omega), if_neg (show ¬ (nN st.ns s).kd = 7 by omega), if_pos h11] at kE kO
    unfold zt_X10_fit_478
    obtain ⟨i, e, hi⟩ := nN_some (ns := st.ns) (s := s) (nN_ge (ns := st.ns) (by omega)) hs
    refine ⟨fun c => ?_, fun c => r_need Γ (by omega) hok ht (fun _ M1 f1 => kE (xx xs v).bg (if_neg (by omega)) M1 f1) (fun c => absurd (by decide) c)⟩
    have hk1 : (xx xs v).kd = 1 := by omega
    rw [if_pos hk1] at kE kO
    refine r_need Γ (by omega) hok ht (fun c => absurd c (by decide)) (fun _ => ?_)
    refine ⟨⟨by omega, by omega⟩, ?_⟩
    have hch := (hC.2.2.1 i _ hi).2.2.2.2.1
    rw [h11] at hch
    rw [e]
    rw [e] at hch kE kO
    refine r_ffL Γ (by omega) hok ht hvl hk1 (fun j w hj => ?_) hT hC _ _ hch (fun q hq => ?_) kE kO
    · have hjk := (xFind_mem hj).1
      cases m with
      | zero =>
        exfalso
        unfold xKids at hjk
        rw [hv_leaf hvm] at hjk
        exact nomatch hjk
      | succ m' => exact ⟨m', rfl, hv_kid hvm j hjk, hI m' rfl⟩
    · obtain ⟨nd, nd1, nd2, -⟩ := (hF i _ hi).2.1 (by omega) q (by rw [e]; exact hq)
      rw [kK_len] at nd2
      exact ⟨nd, nd1, nd2⟩
theorem r_fit1 (Γ : rt_Γ l s0 a0 G ca) (hok : zok C) (ht : zTx S t) (hK : kOk st) (hF : kF st) (hV : kV st) {m : Nat} (hI : ∀ m' : Nat, m = m' + 1 → rFt l s0 G ca C S xs t st m') : rFt l s0 G ca C S xs t st m := by
  intro d v s M Q X hd hvl hs hvm hT hC kE kO
  have hlen := hC.len
  unfold sDv at kE kO
  by_cases h8 : (nN st.ns s).kd = 8
  · rw [if_pos h8, if_pos h8] at kE kO
    obtain ⟨k, k1, k2, k3, k4, k5⟩ := r_kid0 hC hF hs (Or.inr (Or.inr h8))
    obtain ⟨-, -, v3, -⟩ := r_nd hT hvl
    refine z_X10_fit Γ (by omega) hok ht ?_
    unfold zt_X10_fit
    rw [r_kd hC hs, h8]
    refine ⟨⟨by omega, by omega⟩, ⟨by omega, by omega⟩, zIf_f (by decide) (zIf_f (by decide) (zIf_f (by decide) (zIf_f (by decide) (zIf_f (by decide) (zIf_f (by decide) (zIf_f (by decide) (zIf_f (by decide) (zIf_t (by decide) ?_))))))))⟩
    rw [k1]
    refine ⟨⟨by omega, by omega⟩, ?_⟩
    rw [k3]
    have hnu : ¬ (nN st.ns (sKid0 st.ns s)).kd = 8 := fun c => by
      have h6 : 6 ≤ sKid0 st.ns s := nN_ge (ns := st.ns) (by omega)
      obtain ⟨i, e, hi⟩ := nN_some (ns := st.ns) (s := sKid0 st.ns s) h6 k4
      refine k5 h8 8 h6 ?_ rfl
      unfold kK
      rw [List.getElem?_map, show sKid0 st.ns s - 6 = i by omega, hi]
      show some (nN st.ns (sKid0 st.ns s)).kd = some 8
      rw [c]
    exact r_fw Γ (by omega) hok ht hvl hvm hI hK hF hV k4 hnu hT hC (fun e he => kE e (by rw [he]; rfl)) (fun b he => kO ([0] ++ b) (by rw [he]; rfl))
  · rw [if_neg h8, if_neg h8, sMap_id (fun b => List.nil_append b)] at kE kO
    exact r_fw Γ (by omega) hok ht hvl hvm hI hK hF hV hs h8 hT hC kE kO
theorem r_fit (Γ : rt_Γ l s0 a0 G ca) (hok : zok C) (ht : zTx S t) (hK : kOk st) (hF : kF st) (hV : kV st) : ∀ m : Nat, rFt l s0 G ca C S xs t st m := by
  intro m
  induction m with
  | zero => exact r_fit1 Γ hok ht hK hF hV (fun m' e => nomatch e)
  | succ m ih => exact r_fit1 Γ hok ht hK hF hV (fun m' e => by
      have : m = m' := Nat.succ.inj e
      rw [← this]
      exact ih)
end VPs
