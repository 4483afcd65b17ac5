/-! ===== the class's Teller: skip ===== -/
/-- what has a width has it in every datum -/
theorem yW {M : zM} {p : Int} {st : SS} (hw : wOk M p st.ns) : ∀ (m s : Nat) (w : List Nat) (W : Nat), s < 6 + st.ns.length → yN st.ns m s w → M (p + 8) s = (W : Int) → w.length = W := by
  intro m
  induction m with
  | zero => intro s w W _ h; exact h.elim
  | succ m ih =>
    intro s w W hs h hM
    have h : yNb (yN st.ns m) st.ns s w := h
    unfold yNb at h
    by_cases c6 : s < 6
    · have e : (nN st.ns s).kd = s := by unfold nN; rw [if_pos c6]
      obtain ⟨⟨h0, h1, h2⟩, -, -⟩ := hw
      by_cases c0 : s = 0
      · subst c0
        rw [if_pos e] at h
        subst h
        have h0' : M (p + 8) ((0 : Nat) : Int) = 0 := h0
        rw [h0'] at hM
        show 0 = W
        omega
      by_cases c1 : s = 1
      · subst c1
        rw [if_neg (by omega), if_pos e] at h
        obtain ⟨x, rfl, -⟩ := h
        have h1' : M (p + 8) ((1 : Nat) : Int) = 1 := h1
        rw [h1'] at hM
        show 1 = W
        omega
      · have := h2 s (by omega) c6
        omega
    · obtain ⟨i, rfl, hi⟩ := nN_some (ns := st.ns) (s := s) (by omega) hs
      rcases hw.2.1 i _ hi with g | ⟨V, g1, -, g3⟩
      · omega
      · have hVW : V = W := by omega
        subst hVW
        rcases g3 with ⟨k1, k2⟩ | ⟨k1, -, k3⟩
        · rw [if_neg (by omega), if_neg (by omega), if_neg (by omega), if_neg (by omega), if_pos k1] at h
          have := h.1
          omega
        · rw [if_neg (by omega), if_neg (by omega), if_neg (by omega), if_neg (by omega), if_neg (by omega), if_neg (by omega), if_neg (by omega), if_pos k1] at h
          have key : ∀ (l : List SP) (w : List Nat) (V : Nat), wSm M p (6 + st.ns.length) l V → yNf (yN st.ns m) l w → w.length = V := by
            intro l
            induction l with
            | nil =>
              intro w V g1 g2
              have e1 : V = 0 := g1
              have e2 : w = [] := g2
              rw [e1, e2]
              rfl
            | cons q l ih2 =>
              intro w V g1 g2
              obtain ⟨c, a, b, d1, d2, d3, d4, d5⟩ := g1
              obtain ⟨x, r, rfl, d6, d7⟩ := g2
              have e : sPn (some q) = c := by
                unfold sPn
                dsimp only
                rw [d1]
              rw [e] at d6
              rw [List.length_append, ih c x a d2 d6 d3, ih2 r b d4 d7]
              exact d5.symm
          exact key _ _ _ k3 h
/-- a skip's promise -/
def tkC (l : Launch) (s0 : State) (G : va_G) (ca : Nat → ClassId) (C : Nat × Nat) (S : zS) (p mka : Int) (NU : Nat) (st : SS) (m : Nat) : Prop :=
  ∀ (d s e P : Nat) (w : List Nat) (M : zM) (Q : Int → zM → Prop) (X : zM → Prop), 3 * m + 8 ≤ d → e + m ≤ 33 → s < 6 + st.ns.length → yN st.ns m s w → gC M p NU st → M 56 10 = (P : Int) → rdB M mka P w → P + w.length ≤ 4096 →
    Q 0 (zu M 56 10 ((P + w.length : Nat) : Int)) → zm_X7_skip l s0 G ca d C S (s : Nat) (e : Nat) M Q X
section NC
variable {l : Launch} {s0 : State} {a0 : Array Value} {G : va_G} {ca : Nat → ClassId} {d : Nat} {C : Nat × Nat} {S : zS} {p q mk mka : Int} {M : zM} {Q : Int → zM → Prop} {X : zM → Prop} {NU : Nat} {st : SS} {m s e : Nat}
/-- what has a width is passed over in one step -/
theorem t_skW (Γ : rt_Γ l s0 a0 G ca) (hd : 5 ≤ d) (hok : zok C) (hS : tSh S p q mk mka) {P W : Nat} {w : List Nat} (hw : yN st.ns m s w) (hs : s < 6 + st.ns.length) (hG : gC M p NU st) (h5 : M 56 10 = (P : Int)) (hM : M (p + 8) (s : Nat) = (W : Int)) (hW : W ≤ 4096) (hQ : Q 0 (zu M 56 10 ((P + w.length : Nat) : Int))) : zm_X7_skip l s0 G ca d C S (s : Nat) (e : Nat) M Q X := by
  obtain ⟨hs1, hp, hq, hmk, hs54, g1, g2, g3, g4, g5⟩ := id hS
  have hl := hG.2.2.1
  refine z_X7_skip Γ (by omega) hok hs1 hp hq hmk hs54 ?_
  unfold zt_X7_skip
  rw [zat_in (a := p + 8) (by omega) (by omega) (by decide), hM, w32_id (x := (W : Int)) (by omega) (by omega), h5]
  refine zIf_f (by omega) ?_
  have := yW hG.2.2.2.2.2 m s w W hs hw hM
  rw [show (P : Int) + (W : Int) = ((P + w.length : Nat) : Int) by omega]
  exact hQ
/-- a string, by any node that is one -/
theorem t_skStr (Γ : rt_Γ l s0 a0 G ca) (hd : 5 ≤ d) (hok : zok C) (hS : tSh S p q mk mka) {P : Nat} {w : List Nat} (hw : yNs w) (hs : s < 6 + st.ns.length) (hk : (nN st.ns s).kd = 4 ∨ (nN st.ns s).kd = 5) (he : e < 33) (hG : gC M p NU st) (h5 : M 56 10 = (P : Int)) (hr : rdB M mka P w) (hP : P + w.length ≤ 4096) (hQ : Q 0 (zu M 56 10 ((P + w.length : Nat) : Int))) : zm_X7_skip l s0 G ca d C S (s : Nat) (e : Nat) M Q X := by
  have hy : yN st.ns 1 s w := by
    show yNb (yN st.ns 0) st.ns s w
    unfold yNb
    rw [if_neg (by omega), if_neg (by omega), if_neg (by omega), if_pos hk]
    exact hw
  have hl := hG.2.2.1
  refine Or.elim (hG.2.2.2.2.2.val hs) (fun hM => ?_) (fun ⟨W, hM, hW⟩ => t_skW Γ hd hok hS hy hs hG h5 hM hW hQ)
  obtain ⟨hs1, hp, hq, hmk, hs54, g1, g2, g3, g4, g5⟩ := id hS
  obtain ⟨sg, rfl, hsl, hsb⟩ := hw
  refine z_X7_skip Γ (by omega) hok hs1 hp hq hmk hs54 ?_
  unfold zt_X7_skip
  rw [zat_in (a := p + 8) (by omega) (by omega) (by decide), hM, g_kd hG hs, w32_id (x := (e : Int)) (by omega) (by omega), w32_id (x := ((nN st.ns s).kd : Int)) (by omega) (by omega)]
  rw [List.length_append] at hP hQ
  have body : zm_X7_varint l s0 G ca (d - 1) C S M (fun r90 M90 => Q 0 (zu M90 56 10 ((M90 56 10) + r90))) X := by
    refine t_var Γ (by omega) hok hS ⟨by omega, by omega⟩ h5 hr.l (by omega) ?_
    rw [zu_s, zu_zu, show ((P + (vB (sg.length : Int)).length : Nat) : Int) + (sg.length : Int) = ((P + ((vB (sg.length : Int)).length + sg.length) : Nat) : Int) by omega]
    exact hQ
  refine zIf_t (by decide) (zIf_t (by omega) (zIf_f (by omega) (zIf_f (by omega) ?_)))
  by_cases k4 : (nN st.ns s).kd = 4
  · exact zIf_t (by omega) body
  · exact zIf_f (by omega) (zIf_t (by omega) body)
theorem t_itsL (Γ : rt_Γ l s0 a0 G ca) (hok : zok C) (hS : tSh S p q mk mka) (hC : tkC l s0 G ca C S p mka NU st m) (hd : 3 * m + 9 ≤ d) (hF : kF st) (he : e + m + 1 ≤ 33) (hs : s < 6 + st.ns.length) (hk : (nN st.ns s).kd = 6 ∨ (nN st.ns s).kd = 7) {K : Nat} (hK : K ≤ 2000) (hG : gC M p NU st) {w0 : rt_Wd} :
    ∀ (c k : Nat) (w : List Nat) (P : Nat), k + c = K → yNi (yN st.ns m (sKid0 st.ns s)) (decide ((nN st.ns s).kd = 7)) c w → rdB M mka P (w ++ vB 0) → P + w.length + 1 ≤ 4096 → Q 0 (zu M 56 10 ((P + w.length + 1 : Nat) : Int)) →
    zg_X7_skipItems_15 l s0 G ca d C S w0 p q mk mka (s : Nat) (e : Nat) (K : Nat) k (zu M 56 10 P) Q X := by
  obtain ⟨hs1, hp, hq, hmk, hs54, g1, g2, g3, g4, g5⟩ := id hS
  intro c
  induction c with
  | zero =>
    intro k w P hkc hw hr hP hQ
    have : w = [] := hw
    subst this
    refine zs_X7_skipItems_15 Γ (by omega) hok hs1 hp hq hmk hs54 ?_
    unfold zt_X7_skipItems_15
    rw [w64_nat (n := k) (by omega), w64_id (x := ((K : Nat) : Int)) (by omega) (by omega)]
    refine zIf_t (by omega) ?_
    have h0 : (vB 0).length = 1 := by decide
    refine t_var (P := P) Γ (by omega) hok hS ⟨by decide, by decide⟩ (zu_s _ _ _ _) ((hr.r).u (by omega)) (by rw [h0]; exact hP) ?_
    rw [zu_zu, h0]
    exact hQ
  | succ c ih =>
    intro k w P hkc hw hr hP hQ
    obtain ⟨ky, it, r, rfl, hky, hit, hrr⟩ := hw
    have hG1 : gC (zu M 56 10 P) p NU st := hG.u (by omega)
    rw [List.append_assoc, List.append_assoc] at hr
    rw [List.length_append, List.length_append] at hP hQ
    refine zs_X7_skipItems_15 Γ (by omega) hok hs1 hp hq hmk hs54 ?_
    unfold zt_X7_skipItems_15
    rw [w64_nat (n := k) (by omega), w64_id (x := ((K : Nat) : Int)) (by omega) (by omega), w32_id (x := (k : Int)) (by omega) (by omega), g_kd hG1 hs, w32_id (x := ((nN st.ns s).kd : Int)) (by omega) (by omega)]
    refine zIf_f (by omega) (zIf_f (by omega) ?_)
    have tail : zt_X7_skipItems_50 l s0 G ca d C S w0 p q mk mka (s : Nat) (e : Nat) (K : Nat) k (zu M 56 10 ((P + ky.length : Nat) : Int)) Q X := by
      have hG2 : gC (zu M 56 10 ((P + ky.length : Nat) : Int)) p NU st := hG.u (by omega)
      obtain ⟨i1, i2⟩ := g_itm hG2 hF hs hk
      unfold zt_X7_skipItems_50
      rw [i1, show (e : Int) + 1 = ((e + 1 : Nat) : Int) by omega, show (k : Int) + 1 = ((k + 1 : Nat) : Int) by omega]
      refine hC (d - 1) _ (e + 1) (P + ky.length) it _ _ _ (by omega) (by omega) i2 hit hG2 (zu_s _ _ _ _) ((hr.r.l).u (by omega)) (by omega) ?_
      rw [zu_zu]
      refine ih (k + 1) r (P + ky.length + it.length) (by omega) hrr hr.r.r (by omega) ?_
      rw [show P + ky.length + it.length + r.length + 1 = P + (ky.length + (it.length + r.length)) + 1 by omega]
      exact hQ
    refine ⟨fun c7 => ?_, fun c7 => ?_⟩
    · have h7 : (nN st.ns s).kd = 7 := by omega
      have hkn : yNs ky := by
        unfold yNk at hky
        rw [if_pos (decide_eq_true h7)] at hky
        exact hky
      refine t_skStr (s := 5) (e := e) (P := P) Γ (by omega) hok hS hkn (by omega) (Or.inr rfl) (by omega) hG1 (zu_s _ _ _ _) ((hr.l).u (by omega)) (by omega) ?_
      rw [zu_zu]
      exact tail
    · have h7 : ¬ (nN st.ns s).kd = 7 := by omega
      have hkn : ky = [] := by
        unfold yNk at hky
        rw [if_neg (by rw [decide_eq_true_iff]; exact h7)] at hky
        exact hky
      subst hkn
      exact tail
theorem t_fldL (Γ : rt_Γ l s0 a0 G ca) (hok : zok C) (hS : tSh S p q mk mka) (hC : tkC l s0 G ca C S p mka NU st m) (hd : 3 * m + 9 ≤ d) (hF : kF st) (he : e + m + 1 ≤ 33) (hs : s < 6 + st.ns.length) (hk : (nN st.ns s).kd = 11) (hG : gC M p NU st) {w0 : rt_Wd} :
    ∀ (r : List SP) (k : Nat) (w : List Nat) (P : Nat), (nN st.ns s).ps.drop k = r → k ≤ (nN st.ns s).ps.length → yNf (yN st.ns m) r w → rdB M mka P w → P + w.length ≤ 4096 → Q 0 (zu M 56 10 ((P + w.length : Nat) : Int)) →
    zg_X7_skip_154 l s0 G ca d C S w0 p q mk mka (s : Nat) (e : Nat) k (zu M 56 10 P) Q X := by
  obtain ⟨hs1, hp, hq, hmk, hs54, g1, g2, g3, g4, g5⟩ := id hS
  intro r
  induction r with
  | nil =>
    intro k w P hdr hkl hw hr hP hQ
    have : w = [] := hw
    subst this
    have hG1 : gC (zu M 56 10 P) p NU st := hG.u (by omega)
    have hlen : (nN st.ns s).ps.length ≤ k := by
      have := congrArg List.length hdr
      rw [List.length_drop, List.length_nil] at this
      omega
    have l2 := (g_len hG1 hF hs (by omega)).2
    refine zs_X7_skip_154 Γ (by omega) hok hs1 hp hq hmk hs54 ?_
    unfold zt_X7_skip_154
    rw [(g_len hG1 hF hs (by omega)).1, w32_id (by omega) (by omega), w32_id (by omega) (by omega)]
    exact zIf_t (by omega) hQ
  | cons z r ih =>
    intro k w P hdr hkl hw hr hP hQ
    obtain ⟨i, rr, rfl, hi, hrr⟩ := hw
    have hG1 : gC (zu M 56 10 P) p NU st := hG.u (by omega)
    have hz : (nN st.ns s).ps[k]? = some z := by
      have := congrArg (fun l => l[0]?) hdr
      simpa using this
    have hdr2 : (nN st.ns s).ps.drop (k + 1) = r := by
      have := congrArg (List.drop 1) hdr
      rw [List.drop_drop] at this
      exact this
    have l2 := (g_len hG1 hF hs (by omega)).2
    obtain ⟨-, p2, p3⟩ := g_part hG1 hF hs (Or.inr hk) hz
    rw [List.length_append] at hP hQ
    refine zs_X7_skip_154 Γ (by omega) hok hs1 hp hq hmk hs54 ?_
    unfold zt_X7_skip_154
    rw [(g_len hG1 hF hs (by omega)).1, w32_id (x := (((nN st.ns s).ps.length : Nat) : Int)) (by omega) (by omega), w32_id (x := (k : Int)) (by omega) (by omega), (g_part hG1 hF hs (Or.inr hk) hz).1, show (e : Int) + 1 = ((e + 1 : Nat) : Int) by omega, show (k : Int) + 1 = ((k + 1 : Nat) : Int) by omega]
    refine zIf_f (by omega) ?_
    refine hC (d - 1) _ (e + 1) P i _ _ _ (by omega) (by omega) p2 hi hG1 (zu_s _ _ _ _) ((hr.l).u (by omega)) (by omega) ?_
    rw [zu_zu]
    refine ih (k + 1) rr (P + i.length) hdr2 (by omega) hrr hr.r (by omega) ?_
    rw [show P + i.length + rr.length = P + (i.length + rr.length) by omega]
    exact hQ
theorem t_skip (Γ : rt_Γ l s0 a0 G ca) (hok : zok C) (hS : tSh S p q mk mka) (hF : kF st) (hO : kOk st) (hN : kGn st) : ∀ m : Nat, tkC l s0 G ca C S p mka NU st m := by
  obtain ⟨hs1, hp, hq, hmk, hs54, g1, g2, g3, g4, g5⟩ := id hS
  intro m
  induction m with
  | zero => intro d s e P w M Q X _ _ _ h; exact h.elim
  | succ m ih =>
    intro d s e P w M Q X hd he hs hw hG h5 hr hP hQ
    refine Or.elim (hG.2.2.2.2.2.val hs) (fun hM => ?_) (fun ⟨W, hM, hW⟩ => t_skW Γ (by omega) hok hS hw hs hG h5 hM hW hQ)
    have hw : yNb (yN st.ns m) st.ns s w := hw
    have hk12 := hO.kd hs
    have hl := hG.2.2.1
    unfold yNb at hw
    by_cases k4 : (nN st.ns s).kd = 4 ∨ (nN st.ns s).kd = 5
    · rw [if_neg (by omega), if_neg (by omega), if_neg (by omega), if_pos k4] at hw
      exact t_skStr Γ (by omega) hok hS hw hs k4 (by omega) hG h5 hr hP hQ
    refine z_X7_skip Γ (by omega) hok hs1 hp hq hmk hs54 ?_
    unfold zt_X7_skip
    rw [zat_in (a := p + 8) (by omega) (by omega) (by decide), hM, g_kd hG hs, w32_id (x := (e : Int)) (by omega) (by omega), w32_id (x := ((nN st.ns s).kd : Int)) (by omega) (by omega)]
    refine zIf_t (by decide) (zIf_t (by omega) ?_)
    have lo : (nN st.ns s).kd = 0 ∨ (nN st.ns s).kd = 1 → False := fun k01 => by
      have hs6 : s < 6 := by
        refine Nat.lt_of_not_le (fun c => ?_)
        obtain ⟨i, e1, hi⟩ := nN_some (ns := st.ns) (s := s) c hs
        have := hN.1 i _ hi
        omega
      have e1 : (nN st.ns s).kd = s := by unfold nN; rw [if_pos hs6]
      obtain ⟨⟨w0, w1, -⟩, -, -⟩ := hG.2.2.2.2.2
      have w1' : M (p + 8) ((1 : Nat) : Int) = 1 := w1
      have w0' : M (p + 8) ((0 : Nat) : Int) = 0 := w0
      rcases k01 with k | k
      · have : s = 0 := by omega
        subst this
        omega
      · have : s = 1 := by omega
        subst this
        omega
    by_cases k0 : (nN st.ns s).kd = 0
    · exact (lo (Or.inl k0)).elim
    rw [if_neg k0] at hw
    by_cases k1 : (nN st.ns s).kd = 1
    · exact (lo (Or.inr k1)).elim
    rw [if_neg k1] at hw
    by_cases k2 : (nN st.ns s).kd = 2 ∨ (nN st.ns s).kd = 3
    · rw [if_pos k2] at hw
      obtain ⟨n, rfl, hn1, hn2⟩ := hw
      have body : zm_X7_varint l s0 G ca (d - 1) C S M (fun r84 M84 => Q 0 M84) X := t_var Γ (by omega) hok hS ⟨hn1, hn2⟩ h5 hr hP hQ
      by_cases k22 : (nN st.ns s).kd = 2
      · exact zIf_t (by omega) body
      · exact zIf_f (by omega) (zIf_t (by omega) body)
    rw [if_neg k2, if_neg k4] at hw
    refine zIf_f (by omega) (zIf_f (by omega) (zIf_f (by omega) (zIf_f (by omega) ?_)))
    by_cases k9 : (nN st.ns s).kd = 9
    · rw [if_pos k9] at hw
      exfalso
      obtain ⟨i, e1, hi⟩ := nN_some (ns := st.ns) (s := s) (nN_ge (ns := st.ns) (by omega)) hs
      have g0 := ((hF i _ hi).2.2.2.2.1 k9).1
      have := hG.2.2.2.2.2.2.2 i _ hi k9 g0
      rw [← e1, hM] at this
      omega
    rw [if_neg k9] at hw
    by_cases k10 : (nN st.ns s).kd = 10
    · rw [if_pos k10] at hw
      obtain ⟨n, rfl, hn⟩ := hw
      have l2 := (g_len hG hF hs (by omega)).2
      refine zIf_f (by omega) (zIf_f (by omega) (zIf_f (by omega) (zIf_t (by omega) ?_)))
      exact t_var Γ (by omega) hok hS ⟨by omega, by omega⟩ h5 hr hP hQ
    rw [if_neg k10] at hw
    by_cases k8 : (nN st.ns s).kd = 8
    · rw [if_pos k8] at hw
      obtain ⟨n, r, rfl, hn, hrn⟩ := hw
      have l2 := (g_len hG hF hs (by omega)).2
      rw [List.length_append] at hP hQ
      refine zIf_f (by omega) (zIf_f (by omega) (zIf_t (by omega) ?_))
      refine t_var Γ (by omega) hok hS ⟨by omega, by omega⟩ h5 hr.l (by omega) ?_
      have hG1 : gC (zu M 56 10 ((P + (vB (n : Int)).length : Nat) : Int)) p NU st := hG.u (by omega)
      obtain ⟨z, hz⟩ : ∃ z : SP, (nN st.ns s).ps[n]? = some z := ⟨_, List.getElem?_eq_getElem hn⟩
      obtain ⟨b1, b2⟩ := g_brk hG1 hF hs k8 hz
      rw [b1, show (e : Int) + 1 = ((e + 1 : Nat) : Int) by omega]
      rw [hz] at hrn
      refine ih (d - 1) _ (e + 1) (P + (vB (n : Int)).length) r _ _ _ (by omega) (by omega) b2 hrn hG1 (zu_s _ _ _ _) ((hr.r).u (by omega)) (by omega) ?_
      rw [zu_zu, show P + (vB (n : Int)).length + r.length = P + ((vB (n : Int)).length + r.length) by omega]
      exact hQ
    rw [if_neg k8] at hw
    by_cases k11 : (nN st.ns s).kd = 11
    · rw [if_pos k11] at hw
      refine zIf_f (by omega) (zIf_f (by omega) (zIf_f (by omega) (zIf_f (by omega) (zIf_t (by omega) ?_))))
      have := t_fldL (e := e) (Q := Q) (X := X) (w0 := zw s0 ca C S M) Γ hok hS ih (d := d) (by omega) hF (by omega) hs k11 hG (nN st.ns s).ps 0 w P rfl (Nat.zero_le _) hw hr hP hQ
      rw [zu_id h5] at this
      exact this
    rw [if_neg k11] at hw
    have k67 : (nN st.ns s).kd = 6 ∨ (nN st.ns s).kd = 7 := by omega
    obtain ⟨c, r, rfl, hc, hrr⟩ := hw
    have body : zm_X7_skipItems l s0 G ca (d - 1) C S (s : Nat) (e : Nat) M (fun r148 M148 => Q 0 M148) X := by
      refine z_X7_skipItems Γ (by omega) hok hs1 hp hq hmk hs54 ?_
      unfold zt_X7_skipItems
      have h0 : (vB 0).length = 1 := by decide
      unfold yHd at hr hP hQ
      by_cases c0 : c = 0
      · subst c0
        have : r = [] := hrr
        subst this
        rw [if_pos rfl] at hr hP hQ
        refine t_var Γ (by omega) hok hS ⟨by decide, by decide⟩ h5 hr.r hP ?_
        exact zIf_t (by decide) hQ
      · rw [if_neg c0] at hr hP hQ
        rw [List.append_assoc] at hr
        rw [List.length_append, List.length_append, h0] at hP hQ
        refine t_var (n := (c : Int)) Γ (by omega) hok hS ⟨by omega, by omega⟩ h5 hr.l (by omega) ?_
        rw [w64_id (by omega) (by omega)]
        refine zIf_f (by omega) ?_
        refine t_itsL (e := e) Γ hok hS ih (by omega) hF (by omega) hs k67 hc hG c 0 r (P + (vB (c : Int)).length) (by omega) hrr hr.r (by omega) ?_
        rw [show P + (vB (c : Int)).length + r.length + 1 = P + ((vB (c : Int)).length + r.length + 1) by omega]
        exact hQ
    by_cases k6 : (nN st.ns s).kd = 6
    · exact zIf_t (by omega) body
    · exact zIf_f (by omega) (zIf_t (by omega) body)
end NC
