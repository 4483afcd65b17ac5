/-! ===== the reference tells: items, a datum ===== -/
theorem yNb_9 {f : Nat → List Nat → Prop} {ns : List SN} {s : Nat} {w : List Nat} (h : yNb f ns s w) (k : (nN ns s).kd = 9) : (w.length : Int) = (nN ns s).dt := by
  unfold yNb at h
  rw [if_neg (by omega), if_neg (by omega), if_neg (by omega), if_neg (by omega), if_pos k] at h
  exact h.1
theorem tMat_1 {A B : List SN} {w r : Nat} (h1 : ¬ (nN A w).kd = 8) (h2 : ¬ (nN B r).kd = 8) (h3 : ¬ ((nN A w).kd = 6 ∨ (nN A w).kd = 7)) : tMat A B 1 w r = tPln A B w r := by
  unfold tMat
  rw [if_neg (fun c => c.elim h1 h2), if_neg (fun c => h3 c.1)]
theorem tPln_ne {A B : List SN} {w r : Nat} (h6 : 6 ≤ (nN A w).kd) (h : ¬ (nN A w).kd = (nN B r).kd) : tPln A B w r = false := by
  unfold tPln
  rw [if_neg (by omega), decide_eq_false h]
  rfl
section NF9
variable {l : Launch} {s0 : State} {a0 : Array Value} {G : va_G} {ca : Nat → ClassId} {d : Nat} {C : Nat × Nat} {S : zS} {M : zM} {Q : Int → zM → Prop} {X : zM → Prop} {xs ys : List JR} {u P m w r : Nat} {t o : Int} {A B : SS} {dB : SP → Option (List Nat)}
theorem n_itL (Γ : rt_Γ l s0 a0 G ca) (hd : 4 * m + 202 ≤ d) (hok : zok C) (hH : uH S t o ys A B dB) (hC : nlC l s0 G ca C S t o xs ys A B dB m) (hw : w < 6 + A.ns.length) (hkw : (nN A.ns w).kd = 6 ∨ (nN A.ns w).kd = 7) (hr : r < 6 + B.ns.length) (hkr : (nN B.ns r).kd = (nN A.ns w).kd) {K : Nat} (hK0 : 0 < K) (hK : K ≤ 2000) {w0 : rt_Wd} : ∀ (c k u P : Nat) (rest : List Nat) (z : tU) (M : zM), k + c = K → tIt (tT A.ns B.ns dB m (sKid0 A.ns w) (sKid0 B.ns r)) (decide ((nN A.ns w).kd = 7)) c rest z → uM M t o xs ys A B → rdW M P (rest ++ vB 0) → P + rest.length + 1 ≤ 4200 → uS M u → M 84 24 = (P : Int) → n3 u (P + rest.length + 1) (tSq z (vB 0, false)) M Q X →
    zg_X11_tell_375 l s0 G ca d C S w0 t w o r ((nN A.ns w).kd : Nat) K k M Q X := by
  obtain ⟨hS, hSo, hFA, hFB, hHA, hHB, hOA, hOB, hIA, hVA, hVB, hPA, hPB, hD⟩ := id hH
  obtain ⟨hs, ht, ht1⟩ := id hS
  obtain ⟨-, hto, ho1⟩ := id hSo
  have h0 : (vB 0).length = 1 := by decide
  intro c
  induction c with
  | zero =>
    intro k u P rest z M hkc hz hU hrd hP hu h24 h
    obtain ⟨hr0, hz0⟩ := hz
    subst hr0
    subst hz0
    rw [tSq_l] at h
    refine zs_X11_tell_375 Γ (by omega) hok hs ?_
    unfold zt_X11_tell_375
    rw [w64_id (x := ((k : Nat) : Int)) (by omega) (by omega), w64_id (x := ((K : Nat) : Int)) (by omega) (by omega)]
    refine zIf_t (by omega) (zIf_f (by omega) ?_)
    refine s_var (P := P) Γ hok hs ⟨by decide, by decide⟩ h24 hrd.r (by rw [h0]; exact hP) ?_
    rw [h0]
    exact n_putV Γ (by omega) hok hs ⟨by decide, by decide⟩ hu.mv ((h.mv (M0 := zu M 84 24 ((P + 1 : Nat) : Int)) uFr.rf.zu).d (zu_s _ _ _ _))
  | succ c ih =>
    intro k u P rest z M hkc hz hU hrd hP hu h24 h
    obtain ⟨ky, it, r1, o1, o2, rfl, hky, hit, hrr, rfl⟩ := hz
    rw [List.append_assoc, List.append_assoc] at hrd
    rw [List.length_append, List.length_append] at hP h
    rw [tSq_as, tSq_as] at h
    have hla := hU.2.1.len
    have hlb := hU.2.2.2.len
    -- the item behind its key
    have item : ∀ M1 : zM, uO u (P + ky.length) ky M M1 → u + ky.length ≤ 4096 → n3 (u + ky.length) (P + (ky.length + (it.length + r1.length)) + 1) (tSq o1 (tSq o2 (vB 0, false))) M1 Q X → zt_X11_tell_395 l s0 G ca d C S w0 t w o r ((nN A.ns w).kd : Nat) K k M1 Q X := fun M1 ho hl h1 => by
      have hU1 := hU.u ho.2.2.2 ht1 ho1
      have hrd1 := hrd.t ho.2.2.2
      obtain ⟨i, i1, i2, i3, i4, -⟩ := r_kid0 hU1.2.1 hFA hw (by omega)
      obtain ⟨j, j1, j2, j3, j4, -⟩ := r_kid0 hU1.2.2.2 hFB hr (by omega)
      unfold zt_X11_tell_395
      rw [i1, j1, i3, j3]
      refine ⟨ht, ⟨by omega, by omega⟩, ⟨by omega, by omega⟩, hto, ⟨by omega, by omega⟩, ⟨by omega, by omega⟩, ?_⟩
      refine hC (d - 1) _ _ (P + ky.length) _ it o1 M1 _ X (by omega) i4 j4 hit hU1 hrd1.r.l (by omega) (hu.o ho hl) ho.2.1 (n3.st h1 (fun _ hl2 M2 ho2 h2 => ?_))
      rw [show (k : Int) + 1 = ((k + 1 : Nat) : Int) from rfl]
      refine ih (k + 1) _ (P + ky.length + it.length) r1 o2 M2 (by omega) hrr (hU1.u ho2.2.2.2 ht1 ho1) (hrd1.t ho2.2.2.2).r.r (by omega) ((hu.o ho hl).o ho2 hl2) ho2.2.1 ?_
      rw [show P + ky.length + it.length + r1.length + 1 = P + (ky.length + (it.length + r1.length)) + 1 by omega]
      exact h2
    refine zs_X11_tell_375 Γ (by omega) hok hs ?_
    unfold zt_X11_tell_375
    rw [w64_id (x := ((k : Nat) : Int)) (by omega) (by omega), w64_id (x := ((K : Nat) : Int)) (by omega) (by omega), w32_id (x := ((nN A.ns w).kd : Int)) (by omega) (by omega)]
    refine zIf_f (by omega) ⟨fun c7 => ?_, fun c7 => ?_⟩
    · have hk7 : (nN A.ns w).kd = 7 := by omega
      have hkn : yNs ky := by
        unfold yNk at hky
        rw [if_pos (decide_eq_true hk7)] at hky
        exact hky
      have h6 : ySix 5 ky := ⟨fun c => absurd c (by decide), fun c => absurd c (by decide), fun c => absurd c (by decide), fun _ => hkn⟩
      exact n_six (x := 5) Γ (by omega) hok hs (by decide) h6 hrd.l (by omega) hu h24 (n3.st h (fun _ hl M1 ho h1 => item M1 ho hl h1))
    · have hk7 : ¬ (nN A.ns w).kd = 7 := by omega
      have hkn : ky = [] := by
        unfold yNk at hky
        rw [if_neg (by rw [decide_eq_true_iff]; exact hk7)] at hky
        exact hky
      subst hkn
      rw [tSq_l] at h
      exact item M ⟨hu.1, h24, fun j hj => absurd hj (Nat.not_lt_zero _), uFr.rf⟩ hu.2.1 h
theorem n_its (Γ : rt_Γ l s0 a0 G ca) (hd : 4 * m + 202 ≤ d) (hok : zok C) (hH : uH S t o ys A B dB) (hC : nlC l s0 G ca C S t o xs ys A B dB m) (hw : w < 6 + A.ns.length) (hkw : (nN A.ns w).kd = 6 ∨ (nN A.ns w).kd = 7) (hr : r < 6 + B.ns.length) (hkr : (nN B.ns r).kd = (nN A.ns w).kd) {c : Nat} {rest : List Nat} {o1 : tU} (hc : c ≤ 2000) (hz : tIt (tT A.ns B.ns dB m (sKid0 A.ns w) (sKid0 B.ns r)) (decide ((nN A.ns w).kd = 7)) c rest o1) (hU : uM M t o xs ys A B) (hrd : rdW M P (yHd c rest)) (hP : P + (yHd c rest).length ≤ 4200) (hu : uS M u) (h24 : M 84 24 = (P : Int)) (h : n3 u (P + (yHd c rest).length) (if c = 0 then (vB 0, false) else tSq (vB (c : Int), false) (tSq o1 (vB 0, false))) M Q X) {w0 : rt_Wd} : zt_X11_tell_235 l s0 G ca d C S w0 t w o r ((nN A.ns w).kd : Nat) M Q X := by
  obtain ⟨hS, hSo, hFA, hFB, hHA, hHB, hOA, hOB, hIA, hVA, hVB, hPA, hPB, hD⟩ := id hH
  obtain ⟨hs, ht, ht1⟩ := id hS
  obtain ⟨-, hto, ho1⟩ := id hSo
  have h0 : (vB 0).length = 1 := by decide
  unfold zt_X11_tell_235
  unfold yHd at hrd hP h
  rw [w32_id (x := ((nN A.ns w).kd : Int)) (by omega) (by omega)]
  refine zIf_f (by omega) (zIf_f (by omega) (zIf_f (by omega) ?_))
  by_cases c0 : c = 0
  · subst c0
    obtain ⟨hr0, -⟩ := hz
    subst hr0
    rw [if_pos rfl] at hrd hP h
    rw [if_pos rfl] at h
    refine s_var (n := 0) Γ hok hs ⟨by decide, by decide⟩ h24 hrd hP ?_
    refine zIf_t (by decide) ?_
    refine zs_X11_tell_375 Γ (by omega) hok hs ?_
    unfold zt_X11_tell_375
    refine zIf_t (by decide) (zIf_t (by decide) ?_)
    exact n_putV Γ (by omega) hok hs ⟨by decide, by decide⟩ hu.mv ((h.mv (M0 := zu M 84 24 ((P + (vB 0).length : Nat) : Int)) uFr.rf.zu).d (zu_s _ _ _ _))
  · rw [if_neg c0] at hrd hP h
    rw [if_neg c0] at h
    rw [List.append_assoc] at hrd
    rw [List.length_append, List.length_append, h0] at hP h
    refine s_var (n := (c : Int)) Γ hok hs ⟨by omega, by omega⟩ h24 hrd.l (by omega) ?_
    rw [w64_id (x := (c : Int)) (by omega) (by omega)]
    refine zIf_f (by omega) ?_
    have h9 := h.mv (M0 := zu M 84 24 ((P + (vB (c : Int)).length : Nat) : Int)) uFr.rf.zu
    have f1 : uFr u M (zu M 84 24 ((P + (vB (c : Int)).length : Nat) : Int)) := uFr.rf.zu
    have hU1 := hU.u f1 ht1 ho1
    refine n_putV Γ (by omega) hok hs ⟨by omega, by omega⟩ hu.mv ((n3.st (P1 := P + (vB (c : Int)).length) (Q1 := fun _ M369 => zg_X11_tell_375 l s0 G ca d C S w0 t w o r ((nN A.ns w).kd : Nat) c 0 M369 Q X) h9 (fun _ hl M1 ho h1 => ?_)).d (zu_s _ _ _ _))
    refine n_itL Γ hd hok hH hC hw hkw hr hkr (by omega) hc c 0 _ (P + (vB (c : Int)).length) rest o1 M1 (Nat.zero_add _) hz (hU1.u ho.2.2.2 ht1 ho1) ((hrd.t f1).t ho.2.2.2).r (by omega) (hu.mv.o ho hl) ho.2.1 ?_
    rw [show P + (vB (c : Int)).length + rest.length + 1 = P + ((vB (c : Int)).length + rest.length + 1) by omega]
    exact h1
end NF9
