/-! ===== the class tells: a datum ===== -/
theorem tFstL_lt {f : Nat → Bool} : ∀ {ps : List SP} {j k : Nat}, tFstL f ps j = some k → k < j + ps.length := by
  intro ps
  induction ps with
  | nil => intro j k h; exact nomatch h
  | cons q r ih =>
    intro j k h
    unfold tFstL at h
    rw [List.length_cons]
    split at h
    · cases h; omega
    · have := ih h; omega
section TI9
variable {l : Launch} {s0 : State} {a0 : Array Value} {G : va_G} {ca : Nat → ClassId} {d : Nat} {C : Nat × Nat} {S : zS} {p q mk mka : Int} {M : zM} {Q : Int → zM → Prop} {X : zM → Prop} {u e P NU NV m w r : Nat} {A B : SS} {dB : SP → Option (List Nat)}
theorem t_plR (Γ : rt_Γ l s0 a0 G ca) (hd : 6 * m + 45 ≤ d) (hok : zok C) (hS : tSh S p q mk mka) (hC : tlC l s0 G ca C S p q mka NU NV A B dB m) (hFA : kF A) (hFB : kF B) (hHA : kHn A) (hHB : kHn B) (hOA : kOk A) (hOB : kOk B) (hNA : kGn A) (hNB : kGn B) (he : e + 1 + m ≤ 33) (hw : w < 6 + A.ns.length) (hr : r < 6 + B.ns.length) (h8 : ¬ (nN A.ns w).kd = 8) {bs : List Nat} {o : tU} (hy : yN A.ns (m + 1) w bs) (ho : tPl A.ns B.ns dB (tT A.ns B.ns dB m) (yN A.ns m) w r bs o) (hG : tG M p q NU NV A B dB) (hrd : rdB M mka P bs) (hP : P + bs.length ≤ 4096) (h7 : M 56 11 = 0) (h6 : M 56 10 = (P : Int)) (hu : M 57 1 = (u : Int)) (hul : u ≤ 4096) (hO : tOr M A B dB)
    (hQ : ∀ M1 : zM, tR A B dB e u (P + bs.length) o M M1 → Q 0 M1) : zm_X7_tellPlain l s0 G ca d C S w r e M Q X := by
  obtain ⟨hs, hp, hq, hmk, hs56, g1, g2, g3, g4, g5⟩ := id hS
  have hkA := hOA.kd hw
  have hkB := hOB.kd hr
  refine z_X7_tellPlain Γ (by omega) hok hs hp hq hmk hs56 ?_
  unfold zt_X7_tellPlain
  rw [g_kd hG.1 hw, w32_id (x := ((nN A.ns w).kd : Int)) (by omega) (by omega)]
  have ho0 := ho
  unfold tPl at ho
  by_cases k67 : (nN A.ns w).kd = 6 ∨ (nN A.ns w).kd = 7
  · rw [if_pos k67] at ho
    have body : zt_X7_tellPlain_24 l s0 G ca d C S (zw s0 ca C S M) p q mk mka w r e ((nN A.ns w).kd : Int) M Q X := by
      unfold zt_X7_tellPlain_24
      rw [g_kd hG.2.1 hr, w32_id (x := ((nN A.ns w).kd : Int)) (by omega) (by omega), w32_id (x := ((nN B.ns r).kd : Int)) (by omega) (by omega)]
      by_cases ke : (nN B.ns r).kd = (nN A.ns w).kd
      · rw [if_pos ke] at ho
        obtain ⟨c, rest, o1, rfl, hc, hi, rfl⟩ := ho
        exact zIf_t (by omega) (t_its Γ (by omega) hok hS hC hFA hFB he hw k67 hr ke hc hi hG hrd hP h7 h6 hu hul hO hQ)
      · rw [if_neg ke] at ho
        subst ho
        exact zIf_f (by omega) (t_unr Γ hok hS h7 hul hO hQ)
    by_cases k6 : (nN A.ns w).kd = 6
    · exact zIf_t (by omega) body
    · exact zIf_f (by omega) (zIf_t (by omega) body)
  · rw [if_neg k67] at ho
    refine zIf_f (by omega) (zIf_f (by omega) ?_)
    refine c_pln Γ (by omega) hok hp hq hG.1 hG.2.1 hFA hFB hHA hHB hOA hOB hw hr ?_
    cases hpl : tPln A.ns B.ns w r with
    | false =>
      rw [hpl, if_neg (by decide)] at ho
      subst ho
      exact zIf_t (by decide) (t_unr Γ hok hS h7 hul hO hQ)
    | true =>
      rw [hpl, if_pos rfl] at ho
      refine zIf_f (by decide) ?_
      by_cases k11 : (nN A.ns w).kd = 11
      · have hkr := (tPln_of hpl (by omega)).1
        exact zIf_t (by omega) (t_rec Γ (by omega) hok hS hC (t_skip Γ hok hS hFA hOA hNA m) hFA hFB hHA hHB hNA hNB he hw k11 hr (by omega) hpl hy ho0 hG hrd hP h7 h6 hu hul hO hQ)
      · rw [if_neg k11] at ho
        refine zIf_f (by omega) ?_
        by_cases k10 : (nN A.ns w).kd = 10
        · rw [if_pos k10] at ho
          obtain ⟨n, z, rfl, hz, rfl⟩ := ho
          have hkr := (tPln_of hpl (by omega)).1
          exact zIf_t (by omega) (t_symR Γ (by omega) hok hS hG hFA hFB hw hr k10 (by omega) hz h7 h6 hu hul hO hrd hP hQ)
        · rw [if_neg k10] at ho
          subst ho
          refine zIf_f (by omega) ?_
          refine t_skip Γ hok hS hFA hOA hNA (m + 1) (d - 1) w e P bs M _ X (by omega) (by omega) hw hy hG.1 h6 hrd hP ?_
          have f1 : tFr e u M (zu M 56 10 ((P + bs.length : Nat) : Int)) := tFr.rf.zu (Or.inl ⟨rfl, Or.inl rfl⟩)
          rw [h6, zu_s]
          exact t_partR (o := mk) (ad := mka) (nd := 4096) (f := P) (bs := bs) (P := P + bs.length) (u := u) (e := e) (A := A) (B := B) Γ (by omega) hok hS hmk hP (hrd.t f1 (by omega)) ((zu_k (by decide)).trans h7) (zu_s _ _ _ _) ((zu_a (by decide)).trans hu) hul hO.ps (fun M1 hR => hQ M1 (hR.pre f1))
theorem t_tell (Γ : rt_Γ l s0 a0 G ca) (hok : zok C) (hS : tSh S p q mk mka) (hFA : kF A) (hFB : kF B) (hHA : kHn A) (hHB : kHn B) (hOA : kOk A) (hOB : kOk B) (hNA : kGn A) (hNB : kGn B) : ∀ m : Nat, tlC l s0 G ca C S p q mka NU NV A B dB m := by
  obtain ⟨hs, hp, hq, hmk, hs56, g1, g2, g3, g4, g5⟩ := id hS
  intro m
  induction m with
  | zero => intro d w r e P u bs o M Q X _ _ _ _ h; exact h.elim
  | succ m ih =>
    intro d w r e P u bs o M Q X hd he hw hr ho hG hrd hP h7 h6 hu hul hO hQ
    obtain ⟨hy, ho⟩ := ho
    have hkA := hOA.kd hw
    have hkB := hOB.kd hr
    refine z_X7_tellDatum Γ (by omega) hok hs hp hq hmk hs56 ?_
    unfold zt_X7_tellDatum
    rw [w32_id (x := (e : Int)) (by omega) (by omega), g_kd hG.1 hw, g_kd hG.2.1 hr, w32_id (x := ((nN A.ns w).kd : Int)) (by omega) (by omega), w32_id (x := ((nN B.ns r).kd : Int)) (by omega) (by omega)]
    refine zIf_t (by omega) ?_
    unfold tBd at ho
    by_cases k8 : (nN A.ns w).kd = 8
    · rw [if_pos k8] at ho
      obtain ⟨n, rest, rfl, hn, ho⟩ := ho
      have hl2 := (g_len hG.1 hFA hw (by omega)).2
      rw [List.length_append] at hP hQ
      refine zIf_t (by omega) ?_
      refine t_var (n := (n : Int)) Γ (by omega) hok hS ⟨by omega, by omega⟩ h6 hrd.l (by omega) ?_
      have f1 : tFr e u M (zu M 56 10 ((P + (vB (n : Int)).length : Nat) : Int)) := tFr.rf.zu (Or.inl ⟨rfl, Or.inl rfl⟩)
      have hG1 := hG.t f1 g4 g5
      have hz := List.getElem?_eq_getElem hn
      obtain ⟨b1, b2⟩ := g_brk hG1.1 hFA hw k8 hz
      rw [b1, show (e : Int) + 1 = ((e + 1 : Nat) : Int) from rfl]
      clear b1
      rw [hz] at ho
      refine ih (d - 1) _ r (e + 1) (P + (vB (n : Int)).length) u rest o _ _ X (by omega) (by omega) b2 hr ho hG1 ((hrd.r).t f1 (by omega)) (by omega) ((zu_k (by decide)).trans h7) (zu_s _ _ _ _) ((zu_a (by decide)).trans hu) hul hO.ps (fun M1 hR => hQ M1 ?_)
      rw [show P + ((vB (n : Int)).length + rest.length) = P + (vB (n : Int)).length + rest.length by omega]
      exact (hR.up (Nat.le_succ e)).pre f1
    · rw [if_neg k8] at ho
      refine zIf_f (by omega) ?_
      by_cases r8 : (nN B.ns r).kd = 8
      · rw [if_pos r8] at ho
        refine zIf_t (by omega) ?_
        refine c_fst Γ (by omega) hok hp hq hG.1 hG.2.1 hFA hFB hHA hHB hOA hOB hw hr r8 ?_
        cases hf : tFst A.ns B.ns w r with
        | none =>
          have := ho.1 hf
          subst this
          exact zIf_t (by decide) (t_unr Γ hok hS h7 hul hO hQ)
        | some k =>
          obtain ⟨o1, ho1, rfl⟩ := ho.2 k hf
          have hkl := tFstL_lt hf
          have hl2 := (g_len hG.2.1 hFB hr (by omega)).2
          have n1 : ¬ (k : Int) = -1 := by omega
          have n2 : -9223372036854775808 ≤ (k : Int) ∧ (k : Int) < 9223372036854775808 := ⟨by omega, by omega⟩
          have n3 : 4 ≤ d - 1 := by omega
          have n4 : 6 * m + 45 ≤ d - 1 := by omega
          have hz := List.getElem?_eq_getElem (show k < (nN B.ns r).ps.length by omega)
          have e1 : w32 (oI (some k)) = (k : Int) := oI_w (by omega)
          refine zIf_f (by rw [e1]; exact n1) ?_
          rw [e1]
          clear e1
          refine t_putR (u := u) (e := e) (A := A) (B := B) Γ n3 hok hS n2 h7 h6 hu hul hO (fun M1 hR => ?_)
          refine ⟨fun c0 => ?_, fun c0 => hQ M1 (hR.stop (fun h => c0 (hR.w.mpr h)))⟩
          have hst := hR.w.mp c0
          obtain ⟨k1, k2, k3, k4⟩ := hR.ok hst
          have hG1 := hG.t hR.1 g4 g5
          obtain ⟨b1, b2⟩ := g_brk hG1.2.1 hFB hr r8 hz
          rw [show oI (some k) = (k : Int) from rfl, b1]
          clear b1
          rw [hz] at ho1
          exact t_plR Γ n4 hok hS ih hFA hFB hHA hHB hOA hOB hNA hNB (by omega) hw b2 k8 hy ho1 hG1 (hrd.t hR.1 (by omega)) hP hst k3 k4 k1 hR.2.1 (fun M2 hR2 => hQ M2 (hR.seq hst hR2 (Nat.le_refl _)))
      · rw [if_neg r8] at ho
        refine zIf_f (by omega) ?_
        exact t_plR Γ (by omega) hok hS ih hFA hFB hHA hHB hOA hOB hNA hNB (by omega) hw hr k8 hy ho hG hrd hP h7 h6 hu hul hO hQ
end TI9
