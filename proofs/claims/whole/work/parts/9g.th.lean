/-! ===== the class tells: items, plain data, a datum ===== -/
section TH9
variable {l : Launch} {s0 : State} {a0 : Array Value} {G : va_G} {ca : Nat → ClassId} {d : Nat} {C : Nat × Nat} {S : zS} {p q mk mka : Int} {M : zM} {Q : Int → zM → Prop} {X : zM → Prop} {u e P NU NV m w r : Nat} {A B : SS} {dB : SP → Option (List Nat)}
theorem t_itStop (Γ : rt_Γ l s0 a0 G ca) (hd : 5 ≤ d) (hok : zok C) (hS : tSh S p q mk mka) {w0 : rt_Wd} {v1 v2 v3 v4 v6 : Int} (h : ¬ w32 (M 56 11) = 0) (hQ : Q 0 M) : zg_X7_tellItems_23 l s0 G ca d C S w0 p q mk mka v1 v2 v3 v4 v6 M Q X := by
  obtain ⟨hs, hp, hq, hmk, hs56, g1, g2, g3, g4, g5⟩ := id hS
  refine zs_X7_tellItems_23 Γ (by omega) hok hs hp hq hmk hs56 ?_
  unfold zt_X7_tellItems_23
  have st : zt_X7_tellItems_122 l s0 G ca d C S w0 p q mk mka M Q X := by
    unfold zt_X7_tellItems_122
    exact zIf_f h hQ
  exact ⟨fun _ => st, fun _ => ⟨fun _ => st, fun _ => ⟨fun c => absurd c h, fun _ => st⟩⟩⟩
theorem t_itsR (Γ : rt_Γ l s0 a0 G ca) (hd : 6 * m + 42 ≤ d) (hok : zok C) (hS : tSh S p q mk mka) (hC : tlC l s0 G ca C S p q mka NU NV A B dB m) (hFA : kF A) (hFB : kF B) (he : e + 1 + m ≤ 33) (hw : w < 6 + A.ns.length) (hkw : (nN A.ns w).kd = 6 ∨ (nN A.ns w).kd = 7) (hr : r < 6 + B.ns.length) (hkr : (nN B.ns r).kd = (nN A.ns w).kd) {K : Nat} (hK : K ≤ 2000) {w0 : rt_Wd} : ∀ (c k u P : Nat) (rest : List Nat) (o : tU) (M : zM), k + c = K → tIt (tT A.ns B.ns dB m (sKid0 A.ns w) (sKid0 B.ns r)) (decide ((nN A.ns w).kd = 7)) c rest o → tG M p q NU NV A B dB → rdB M mka P (rest ++ vB 0) → P + rest.length + 1 ≤ 4096 → M 56 11 = 0 → M 56 10 = (P : Int) → M 57 1 = (u : Int) → u ≤ 4096 → tOr M A B dB →
    (∀ M1 : zM, tR A B dB e u (P + rest.length + 1) (tSq o (vB 0, false)) M M1 → Q 0 M1) → zg_X7_tellItems_23 l s0 G ca d C S w0 p q mk mka w r e K k M Q X := by
  obtain ⟨hs, hp, hq, hmk, hs56, g1, g2, g3, g4, g5⟩ := id hS
  have h0 : (vB 0).length = 1 := by decide
  intro c
  induction c with
  | zero =>
    intro k u P rest o M hkc ho hG hrd hP h7 h6 hu hul hO hQ
    obtain ⟨hr0, ho0⟩ := ho
    subst hr0
    subst ho0
    refine zs_X7_tellItems_23 Γ (by omega) hok hs hp hq hmk hs56 ?_
    unfold zt_X7_tellItems_23
    rw [w64_nat (n := k) (by omega), w64_id (x := ((K : Nat) : Int)) (by omega) (by omega)]
    refine zIf_t (by omega) ?_
    unfold zt_X7_tellItems_122
    rw [h7]
    refine zIf_t (by decide) ?_
    refine t_var (P := P) Γ (by omega) hok hS ⟨by decide, by decide⟩ h6 hrd.r (by rw [h0]; exact hP) ?_
    rw [h0]
    have f1 : tFr e u M (zu M 56 10 ((P + 1 : Nat) : Int)) := tFr.rf.zu (Or.inl ⟨rfl, Or.inl rfl⟩)
    rw [tSq_l] at hQ
    exact t_putR Γ (by omega) hok hS ⟨by decide, by decide⟩ ((zu_k (by decide)).trans h7) (zu_s _ _ _ _) ((zu_a (by decide)).trans hu) hul hO.ps (fun M1 hR => hQ M1 (hR.pre f1))
  | succ c ih =>
    intro k u P rest o M hkc ho hG hrd hP h7 h6 hu hul hO hQ
    obtain ⟨ky, it, r1, o1, o2, rfl, hky, hit, hrr, rfl⟩ := ho
    rw [List.append_assoc, List.append_assoc] at hrd
    rw [List.length_append, List.length_append] at hP hQ
    -- the item behind its key
    have item : ∀ M1 : zM, tR A B dB e u (P + ky.length) (ky, false) M M1 → zt_X7_tellItems_86 l s0 G ca d C S w0 p q mk mka w r e K k M1 Q X := fun M1 hR1 => by
      unfold zt_X7_tellItems_86
      refine ⟨fun c0 => ?_, fun c0 => ?_⟩
      · have hst := hR1.w.mp c0
        obtain ⟨k1, k2, k3, k4⟩ := hR1.ok hst
        have hG1 := hG.t hR1.1 g4 g5
        have hrd1 := hrd.t hR1.1 (by omega)
        obtain ⟨i1, i2⟩ := g_itm hG1.1 hFA hw hkw
        obtain ⟨j1, j2⟩ := g_itm hG1.2.1 hFB hr (by omega)
        rw [i1, j1, show (e : Int) + 1 = ((e + 1 : Nat) : Int) from rfl, show (k : Int) + 1 = ((k + 1 : Nat) : Int) from rfl]
        clear i1 j1
        refine hC (d - 1) _ _ (e + 1) (P + ky.length) _ it o1 M1 _ X (by omega) (by omega) i2 j2 hit hG1 hrd1.r.l (by omega) hst k3 k4 k1 hR1.2.1 (fun M2 hR2 => ?_)
        have hR : tR A B dB e u (P + ky.length + it.length) (tSq (ky, false) o1) M M2 := hR1.seq hst hR2 (Nat.le_succ e)
        by_cases hst2 : M2 56 11 = 0
        · obtain ⟨x1, x2, x3, x4⟩ := hR.ok hst2
          refine ih (k + 1) _ (P + ky.length + it.length) r1 o2 M2 (by omega) hrr (hG.t hR.1 g4 g5) (hrd.t hR.1 (by omega)).r.r (by omega) hst2 x3 x4 x1 hR.2.1 (fun M3 hR3 => hQ M3 ?_)
          have := hR.seq hst2 hR3 (Nat.le_refl _)
          rw [tSq_as, tSq_as, show P + (ky.length + (it.length + r1.length)) + 1 = P + ky.length + it.length + r1.length + 1 by omega]
          rw [tSq_as] at this
          exact this
        · refine t_itStop Γ (by omega) hok hS (fun c => hst2 (hR.w.mp c)) (hQ M2 ?_)
          have := hR.stop (X2 := P + (ky.length + (it.length + r1.length)) + 1) (o2 := tSq o2 (vB 0, false)) hst2
          rw [tSq_as] at this
          rw [tSq_as, tSq_as]
          exact this
      · have hst : ¬ M1 56 11 = 0 := fun h => c0 (hR1.w.mpr h)
        refine t_itStop Γ (by omega) hok hS c0 (hQ M1 ?_)
        rw [tSq_as]
        exact hR1.stop hst
    refine zs_X7_tellItems_23 Γ (by omega) hok hs hp hq hmk hs56 ?_
    unfold zt_X7_tellItems_23
    rw [w64_nat (n := k) (by omega), w64_id (x := ((K : Nat) : Int)) (by omega) (by omega), w32_id (x := (k : Int)) (by omega) (by omega), h7, g_kd hG.1 hw, w32_id (x := ((nN A.ns w).kd : Int)) (by omega) (by omega)]
    refine zIf_f (by omega) (zIf_f (by omega) (zIf_t (by decide) ⟨fun c7 => ?_, fun c7 => ?_⟩))
    · have hk7 : (nN A.ns w).kd = 7 := by omega
      have hkn : yNs ky := by
        unfold yNk at hky
        rw [if_pos (decide_eq_true hk7)] at hky
        exact hky
      refine t_skStr (st := A) (s := 5) (e := e) (P := P) Γ (by omega) hok hS hkn (by omega) (Or.inr rfl) (by omega) hG.1 h6 hrd.l (by omega) ?_
      have f1 : tFr e u M (zu M 56 10 ((P + ky.length : Nat) : Int)) := tFr.rf.zu (Or.inl ⟨rfl, Or.inl rfl⟩)
      rw [h6, zu_s]
      refine t_partR (o := mk) (ad := mka) (nd := 4096) (f := P) (bs := ky) (P := P + ky.length) (u := u) (e := e) (A := A) (B := B) Γ (by omega) hok hS hmk (by omega) (hrd.l.t f1 (by omega)) ((zu_k (by decide)).trans h7) (zu_s _ _ _ _) ((zu_a (by decide)).trans hu) hul hO.ps (fun M1 hR => item M1 (hR.pre f1))
    · have hk7 : ¬ (nN A.ns w).kd = 7 := by omega
      have hkn : ky = [] := by
        unfold yNk at hky
        rw [if_neg (by rw [decide_eq_true_iff]; exact hk7)] at hky
        exact hky
      subst hkn
      exact item M (tR.nil tFr.rf hO h7 h6 hu hul)
theorem t_its (Γ : rt_Γ l s0 a0 G ca) (hd : 6 * m + 43 ≤ d) (hok : zok C) (hS : tSh S p q mk mka) (hC : tlC l s0 G ca C S p q mka NU NV A B dB m) (hFA : kF A) (hFB : kF B) (he : e + 1 + m ≤ 33) (hw : w < 6 + A.ns.length) (hkw : (nN A.ns w).kd = 6 ∨ (nN A.ns w).kd = 7) (hr : r < 6 + B.ns.length) (hkr : (nN B.ns r).kd = (nN A.ns w).kd) {c : Nat} {rest : List Nat} {o1 : tU} (hc : c ≤ 2000) (ho : tIt (tT A.ns B.ns dB m (sKid0 A.ns w) (sKid0 B.ns r)) (decide ((nN A.ns w).kd = 7)) c rest o1) (hG : tG M p q NU NV A B dB) (hrd : rdB M mka P (yHd c rest)) (hP : P + (yHd c rest).length ≤ 4096) (h7 : M 56 11 = 0) (h6 : M 56 10 = (P : Int)) (hu : M 57 1 = (u : Int)) (hul : u ≤ 4096) (hO : tOr M A B dB)
    (hQ : ∀ M1 : zM, tR A B dB e u (P + (yHd c rest).length) (if c = 0 then (vB 0, false) else tSq (vB (c : Int), false) (tSq o1 (vB 0, false))) M M1 → Q 0 M1) : zm_X7_tellItems l s0 G ca d C S w r e M Q X := by
  obtain ⟨hs, hp, hq, hmk, hs56, g1, g2, g3, g4, g5⟩ := id hS
  have h0 : (vB 0).length = 1 := by decide
  refine z_X7_tellItems Γ (by omega) hok hs hp hq hmk hs56 ?_
  unfold zt_X7_tellItems
  unfold yHd at hrd hP hQ
  by_cases c0 : c = 0
  · subst c0
    obtain ⟨hr0, -⟩ := ho
    subst hr0
    rw [if_pos rfl] at hrd hP hQ
    rw [if_pos rfl] at hQ
    refine t_var (n := 0) Γ (by omega) hok hS ⟨by decide, by decide⟩ h6 hrd hP ?_
    have f1 : tFr e u M (zu M 56 10 ((P + (vB 0).length : Nat) : Int)) := tFr.rf.zu (Or.inl ⟨rfl, Or.inl rfl⟩)
    refine t_putR (u := u) (e := e) (A := A) (B := B) Γ (by omega) hok hS ⟨by decide, by decide⟩ ((zu_k (by decide)).trans h7) (zu_s _ _ _ _) ((zu_a (by decide)).trans hu) hul hO.ps (fun M1 hR => ?_)
    exact zIf_t (by decide) (hQ M1 (hR.pre f1))
  · rw [if_neg c0] at hrd hP hQ
    rw [if_neg c0] at hQ
    rw [List.append_assoc] at hrd
    rw [List.length_append, List.length_append, h0] at hP hQ
    refine t_var (n := (c : Int)) Γ (by omega) hok hS ⟨by omega, by omega⟩ h6 hrd.l (by omega) ?_
    have f1 : tFr e u M (zu M 56 10 ((P + (vB (c : Int)).length : Nat) : Int)) := tFr.rf.zu (Or.inl ⟨rfl, Or.inl rfl⟩)
    refine t_putR (u := u) (e := e) (A := A) (B := B) Γ (by omega) hok hS ⟨by omega, by omega⟩ ((zu_k (by decide)).trans h7) (zu_s _ _ _ _) ((zu_a (by decide)).trans hu) hul hO.ps (fun M1 hR0 => ?_)
    have hR := hR0.pre f1
    rw [w64_id (by omega) (by omega)]
    refine zIf_f (by omega) ?_
    by_cases hst : M1 56 11 = 0
    · obtain ⟨k1, k2, k3, k4⟩ := hR.ok hst
      refine t_itsR Γ (by omega) hok hS hC hFA hFB he hw hkw hr hkr hc c 0 _ (P + (vB (c : Int)).length) rest o1 M1 (Nat.zero_add _) ho (hG.t hR.1 g4 g5) (hrd.t hR.1 (by omega)).r (by omega) hst k3 k4 k1 hR.2.1 (fun M2 hR2 => hQ M2 ?_)
      rw [show P + ((vB (c : Int)).length + rest.length + 1) = P + (vB (c : Int)).length + rest.length + 1 by omega]
      exact hR.seq hst hR2 (Nat.le_refl _)
    · exact t_itStop Γ (by omega) hok hS (fun x => hst (hR.w.mp x)) (hQ M1 (hR.stop hst))
end TH9
