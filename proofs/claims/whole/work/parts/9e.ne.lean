/-! ===== the reference's skip of a datum ===== -/
section NE
variable {l : Launch} {s0 : State} {a0 : Array Value} {G : va_G} {ca : Nat → ClassId} {d : Nat} {C : Nat × Nat} {S : zS} {M : zM} {Q : Int → zM → Prop} {X : zM → Prop} {xs : List JR} {st : SS} {t : Int} {m s : Nat}
theorem s_str (Γ : rt_Γ l s0 a0 G ca) (hd : 3 ≤ d) (hok : zok C) (hs : zSok S) {P : Nat} {w : List Nat} (hw : yNs w) (h5 : M 84 24 = (P : Int)) (hr : rdW M P w) (hP : P + w.length ≤ 4200) {F : zM → Prop} (hF : F (zu M 84 24 ((P + w.length : Nat) : Int))) : zm_X11_readVarint l s0 G ca (d - 1) C S M (fun r M1 => zm_X11_copyBytes l s0 G ca (d - 1) C S r 0 M1 (fun _ M2 => F M2) X) X := by
  obtain ⟨sg, rfl, hsl, hsb⟩ := hw
  rw [List.length_append] at hP hF
  refine s_var Γ hok hs ⟨by omega, by omega⟩ h5 hr.l (by omega) ?_
  refine s_copy Γ (by omega) hok hs (by omega) (zu_s _ _ _ _) ?_
  rw [zu_zu, show P + (vB (sg.length : Int)).length + sg.length = P + ((vB (sg.length : Int)).length + sg.length) by omega]
  exact hF
theorem s_itsL (Γ : rt_Γ l s0 a0 G ca) (hok : zok C) (hS : mSh S t) (hC : skC l s0 G ca C S t xs st m) (hd : 3 * m + 9 ≤ d) (hF : kF st) (hs : s < 6 + st.ns.length) (hk : (nN st.ns s).kd = 6 ∨ (nN st.ns s).kd = 7) {K : Nat} (hK : K ≤ 2000) (hR : rC M t xs st) {w0 : rt_Wd} :
    ∀ (c k : Nat) (w tl : List Nat) (P : Nat), k + c = K → (0 < K → tl = vB 0) → (K = 0 → tl = []) → yNi (yN st.ns m (sKid0 st.ns s)) (decide ((nN st.ns s).kd = 7)) c w → rdW M P (w ++ tl) → P + (w ++ tl).length ≤ 4200 → Q 0 (zu M 84 24 ((P + (w ++ tl).length : Nat) : Int)) →
    zg_X11_skip_185 l s0 G ca d C S w0 t (s : Nat) (K : Nat) k (zu M 84 24 P) Q X := by
  obtain ⟨hs1, ht, ht1, ht2⟩ := id hS
  have hl := hR.len
  intro c
  induction c with
  | zero =>
    intro k w tl P hkc h1 h2 hw hr hP hQ
    have : w = [] := hw
    subst this
    refine zs_X11_skip_185 Γ (by omega) hok hs1 ?_
    unfold zt_X11_skip_185
    rw [w64_id (x := ((K : Nat) : Int)) (by omega) (by omega), w64_id (x := ((k : Nat) : Int)) (by omega) (by omega)]
    refine zIf_t (by omega) ⟨fun c0 => ?_, fun c0 => ?_⟩
    · have := h2 (by omega)
      subst this
      exact hQ
    · have := h1 (by omega)
      subst this
      rw [List.nil_append] at hr hP hQ
      refine s_var (n := 0) (P := P) Γ hok hs1 ⟨by decide, by decide⟩ (zu_s _ _ _ _) (hr.u (by decide)) hP ?_
      rw [zu_zu]
      exact hQ
  | succ c ih =>
    intro k w tl P hkc h1 h2 hw hr hP hQ
    obtain ⟨ky, it, r, rfl, hky, hit, hrr⟩ := hw
    have hR1 : rC (zu M 84 24 P) t xs st := hR.u (by omega)
    rw [List.append_assoc, List.append_assoc] at hr hP hQ
    rw [List.length_append, List.length_append] at hP hQ
    refine zs_X11_skip_185 Γ (by omega) hok hs1 ?_
    unfold zt_X11_skip_185
    rw [w64_id (x := ((K : Nat) : Int)) (by omega) (by omega), w64_id (x := ((k : Nat) : Int)) (by omega) (by omega), r_kd hR1 hs, w32_id (x := ((nN st.ns s).kd : Int)) (by omega) (by omega)]
    refine zIf_f (by omega) ⟨ht, ⟨by omega, by omega⟩, ?_⟩
    have tail : ∀ M2 : zM, M2 = zu M 84 24 ((P + ky.length : Nat) : Int) → zt_X11_skip_212 l s0 G ca d C S w0 t (s : Nat) (K : Nat) k M2 Q X := fun M2 hM2 => by
      subst hM2
      have hR2 : rC (zu M 84 24 ((P + ky.length : Nat) : Int)) t xs st := hR.u (by omega)
      obtain ⟨i1, i2, i3⟩ := r_item hR2 hF hs hk
      unfold zt_X11_skip_212
      refine ⟨ht, ⟨by omega, by omega⟩, i1, ?_⟩
      rw [i2, show (k : Int) + 1 = ((k + 1 : Nat) : Int) by omega]
      refine hC (d - 1) _ (P + ky.length) it _ _ _ (by omega) i3 hit hR2 (zu_s _ _ _ _) ((hr.r.l).u (by decide)) (by omega) ?_
      rw [zu_zu]
      refine ih (k + 1) r tl (P + ky.length + it.length) (by omega) h1 h2 hrr hr.r.r (by omega) ?_
      rw [show P + ky.length + it.length + (r ++ tl).length = P + (ky.length + (it.length + (r ++ tl).length)) by omega]
      exact hQ
    refine ⟨fun c7 => ?_, fun c7 => ?_⟩
    · have h7 : (nN st.ns s).kd = 7 := by omega
      have hkn : yNs ky := by
        unfold yNk at hky
        rw [if_pos (decide_eq_true h7)] at hky
        exact hky
      refine s_str (P := P) Γ (by omega) hok hs1 hkn (zu_s _ _ _ _) ((hr.l).u (by decide)) (by omega) (F := fun M2 => zt_X11_skip_212 l s0 G ca d C S w0 t (s : Nat) (K : Nat) k M2 Q X) ?_
      exact tail _ (zu_zu _ _ _ _ _)
    · have h7 : ¬ (nN st.ns s).kd = 7 := by omega
      have hkn : ky = [] := by
        unfold yNk at hky
        rw [if_neg (by rw [decide_eq_true_iff]; exact h7)] at hky
        exact hky
      subst hkn
      exact tail _ rfl
theorem s_fldL (Γ : rt_Γ l s0 a0 G ca) (hok : zok C) (hS : mSh S t) (hC : skC l s0 G ca C S t xs st m) (hd : 3 * m + 9 ≤ d) (hF : kF st) (hs : s < 6 + st.ns.length) (hk : (nN st.ns s).kd = 11) (hR : rC M t xs st) {w0 : rt_Wd} :
    ∀ (r : List SP) (h : Int) (w : List Nat) (P : Nat), (∀ q ∈ r, q ∈ (nN st.ns s).ps) → rCh M t xs 11 r h → yNf (yN st.ns m) r w → rdW M P w → P + w.length ≤ 4200 → Q 0 (zu M 84 24 ((P + w.length : Nat) : Int)) →
    zg_X11_skip_149 l s0 G ca d C S w0 t h (zu M 84 24 P) Q X := by
  obtain ⟨hs1, ht, ht1, ht2⟩ := id hS
  intro r
  induction r with
  | nil =>
    intro h w P hm hc hw hr hP hQ
    have hw0 : w = [] := hw
    subst hw0
    have hh : h = -1 := hc
    subst hh
    refine zs_X11_skip_149 Γ (by omega) hok hs1 ?_
    unfold zt_X11_skip_149
    exact zIf_t (by decide) hQ
  | cons z r ih =>
    intro h w P hm hc hw hr hP hQ
    obtain ⟨i, rr, rfl, hi, hrr⟩ := hw
    obtain ⟨e1, e2, e3, e4⟩ := hc
    have hR1 : rC (zu M 84 24 P) t xs st := hR.u (by omega)
    obtain ⟨i2, i3⟩ := r_sPn hF hs (by omega) (hm z List.mem_cons_self) e3
    rw [List.length_append] at hP hQ
    refine zs_X11_skip_149 Γ (by omega) hok hs1 ?_
    unfold zt_X11_skip_149
    rw [e1, w32_id (by omega) (by omega), zu_a (by omega), i2]
    refine zIf_f (by omega) ⟨ht, ⟨by omega, by omega⟩, ?_⟩
    refine hC (d - 1) _ P i _ _ _ (by omega) i3 hi hR1 (zu_s _ _ _ _) ((hr.l).u (by decide)) (by omega) ?_
    rw [zu_zu, zu_a (by omega)]
    refine ih _ rr (P + i.length) (fun q hq => hm q (List.mem_cons_of_mem _ hq)) e4 hrr hr.r (by omega) ?_
    rw [show P + i.length + rr.length = P + (i.length + rr.length) by omega]
    exact hQ
theorem s_skip (Γ : rt_Γ l s0 a0 G ca) (hok : zok C) (hS : mSh S t) (hF : kF st) (hO : kOk st) (hL : kPs st) : ∀ m : Nat, skC l s0 G ca C S t xs st m := by
  obtain ⟨hs1, ht, ht1, ht2⟩ := id hS
  intro m
  induction m with
  | zero => intro d s P w M Q X _ _ h; exact h.elim
  | succ m ih =>
    intro d s P w M Q X hd hs hw hR h5 hr hP hQ
    have hw : yNb (yN st.ns m) st.ns s w := hw
    have hk12 := hO.kd hs
    have hl := hR.len
    unfold yNb at hw
    refine z_X11_skip Γ (by omega) hok hs1 ?_
    unfold zt_X11_skip
    rw [r_kd hR hs, w32_id (x := ((nN st.ns s).kd : Int)) (by omega) (by omega)]
    refine ⟨ht, ⟨by omega, by omega⟩, ?_⟩
    by_cases k0 : (nN st.ns s).kd = 0
    · rw [if_pos k0] at hw
      subst hw
      have : zu M 84 24 ((P + ([] : List Nat).length : Nat) : Int) = M := zu_id h5
      rw [this] at hQ
      exact zIf_t (by omega) hQ
    rw [if_neg k0] at hw
    refine zIf_f (by omega) ?_
    by_cases k1 : (nN st.ns s).kd = 1
    · rw [if_pos k1] at hw
      obtain ⟨x, rfl, hx⟩ := hw
      refine zIf_t (by omega) ?_
      rw [h5]
      exact hQ
    rw [if_neg k1] at hw
    refine zIf_f (by omega) ?_
    by_cases k2 : (nN st.ns s).kd = 2 ∨ (nN st.ns s).kd = 3
    · rw [if_pos k2] at hw
      obtain ⟨n, rfl, hn1, hn2⟩ := hw
      have body : zm_X11_readVarint l s0 G ca (d - 1) C S M (fun r85 M85 => Q 0 M85) X := s_var Γ hok hs1 ⟨hn1, hn2⟩ h5 hr hP hQ
      by_cases k22 : (nN st.ns s).kd = 2
      · exact zIf_t (by omega) body
      · exact zIf_f (by omega) (zIf_t (by omega) body)
    rw [if_neg k2] at hw
    refine zIf_f (by omega) (zIf_f (by omega) ?_)
    by_cases k4 : (nN st.ns s).kd = 4 ∨ (nN st.ns s).kd = 5
    · rw [if_pos k4] at hw
      have body := s_str (l := l) (s0 := s0) (G := G) (ca := ca) (d := d) (C := C) (X := X) Γ (by omega) hok hs1 hw h5 hr hP (F := fun M2 => Q 0 M2) hQ
      by_cases k44 : (nN st.ns s).kd = 4
      · exact zIf_t (by omega) body
      · exact zIf_f (by omega) (zIf_t (by omega) body)
    rw [if_neg k4] at hw
    refine zIf_f (by omega) (zIf_f (by omega) ?_)
    by_cases k9 : (nN st.ns s).kd = 9
    · rw [if_pos k9] at hw
      refine zIf_f (by omega) (zIf_t (by omega) ?_)
      obtain ⟨e1, e2, e3⟩ := (r_node hR hF hs (by omega)).2.2 k9
      rw [e1, w32_id (by omega) (by omega), ← hw.1]
      exact s_copy Γ (by omega) hok hs1 (by omega) h5 hQ
    rw [if_neg k9] at hw
    by_cases k10 : (nN st.ns s).kd = 10
    · rw [if_pos k10] at hw
      obtain ⟨n, rfl, hn⟩ := hw
      have l2 := hL s hs (by omega)
      refine zIf_f (by omega) (zIf_f (by omega) (zIf_t (by omega) ?_))
      exact s_var Γ hok hs1 ⟨by omega, by omega⟩ h5 hr hP hQ
    rw [if_neg k10] at hw
    by_cases k8 : (nN st.ns s).kd = 8
    · rw [if_pos k8] at hw
      obtain ⟨n, r, rfl, hn, hrn⟩ := hw
      have l2 := hL s hs (by omega)
      rw [List.length_append] at hP hQ
      refine zIf_t (by omega) ?_
      refine s_var Γ hok hs1 ⟨by omega, by omega⟩ h5 hr.l (by omega) ?_
      have hR1 : rC (zu M 84 24 ((P + (vB (n : Int)).length : Nat) : Int)) t xs st := hR.u (by omega)
      obtain ⟨z, hz⟩ : ∃ z : SP, (nN st.ns s).ps[n]? = some z := ⟨_, List.getElem?_eq_getElem hn⟩
      obtain ⟨-, nch2, -⟩ := r_node hR1 hF hs (by omega)
      have hmem := List.mem_of_getElem? hz
      obtain ⟨i2, i3⟩ := r_sPn hF hs (by omega) hmem (rCh_mem nch2 hmem)
      rw [hz] at hrn
      refine z_X10_kid Γ hok ht ?_
      unfold zt_X10_kid
      refine ⟨⟨by omega, by omega⟩, ?_⟩
      have hkid := m_kidL (l := l) (s0 := s0) (G := G) (ca := ca) (d := d - 1) (C := C) (S := S) (M := zu M 84 24 ((P + (vB (n : Int)).length : Nat) : Int)) (w0 := zw s0 ca C S (zu M 84 24 ((P + (vB (n : Int)).length : Nat) : Int))) (X := X) (Q := fun r132 M132 => (0 ≤ r132 ∧ r132 < 2200) ∧ (zm_X11_skip l s0 G ca (d - 1) C S t (M132 (t + 15) r132) M132 (fun r136 M136 => Q 0 M136) X)) Γ hok ht n 0 _ _ z nch2 hz (by omega)
      rw [show n + 0 = n from rfl] at hkid
      refine hkid ⟨?_, ?_⟩
      · have := rCh_kn nch2 hmem
        exact ⟨by omega, by omega⟩
      · rw [i2]
        refine ih (d - 1) _ (P + (vB (n : Int)).length) r _ _ _ (by omega) i3 hrn hR1 (zu_s _ _ _ _) ((hr.r).u (by decide)) (by omega) ?_
        rw [zu_zu, show P + (vB (n : Int)).length + r.length = P + ((vB (n : Int)).length + r.length) by omega]
        exact hQ
    rw [if_neg k8] at hw
    refine zIf_f (by omega) (zIf_f (by omega) (zIf_f (by omega) ?_))
    by_cases k11 : (nN st.ns s).kd = 11
    · rw [if_pos k11] at hw
      refine zIf_t (by omega) ?_
      obtain ⟨-, nch, -⟩ := r_node hR hF hs (by omega)
      rw [k11] at nch
      have := s_fldL (Q := Q) (X := X) (w0 := zw s0 ca C S M) Γ hok hS ih (d := d) (by omega) hF hs k11 hR (nN st.ns s).ps _ w P (fun q hq => hq) nch hw hr hP hQ
      rw [zu_id h5] at this
      exact this
    rw [if_neg k11] at hw
    have k67 : (nN st.ns s).kd = 6 ∨ (nN st.ns s).kd = 7 := by omega
    refine zIf_f (by omega) ?_
    obtain ⟨c, r, rfl, hc, hrr⟩ := hw
    have h0 : (vB 0).length = 1 := by decide
    unfold yHd at hr hP hQ
    by_cases c0 : c = 0
    · subst c0
      have : r = [] := hrr
      subst this
      rw [if_pos rfl] at hr hP hQ
      refine s_var Γ hok hs1 ⟨by decide, by decide⟩ h5 hr.r hP ?_
      refine s_itsL (K := 0) (M := M) Γ hok hS ih (by omega) hF hs k67 (by decide) hR 0 0 [] [] (P + (vB 0).length) rfl (fun h => absurd h (Nat.lt_irrefl _)) (fun _ => rfl) rfl (fun j hj => absurd hj (Nat.not_lt_zero _)) hP ?_
      exact hQ
    · rw [if_neg c0] at hr hP hQ
      rw [List.append_assoc] at hr hP hQ
      rw [List.length_append] at hP hQ
      refine s_var (n := (c : Int)) Γ hok hs1 ⟨by omega, by omega⟩ h5 hr.l (by omega) ?_
      refine s_itsL (K := c) (M := M) Γ hok hS ih (by omega) hF hs k67 hc hR c 0 r (vB 0) (P + (vB (c : Int)).length) (by omega) (fun _ => rfl) (fun h => absurd h c0) hrr hr.r (by omega) ?_
      rw [show P + (vB (c : Int)).length + (r ++ vB 0).length = P + ((vB (c : Int)).length + (r ++ vB 0).length) by omega]
      exact hQ
end NE
