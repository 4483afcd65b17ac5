/-! ===== the class tells: records ===== -/
/-- telling's promise -/
def tlC (l : Launch) (s0 : State) (G : va_G) (ca : Nat → ClassId) (C : Nat × Nat) (S : zS) (p q mka : Int) (NU NV : Nat) (A B : SS) (dB : SP → Option (List Nat)) (m : Nat) : Prop :=
  ∀ (d w r e P u : Nat) (bs : List Nat) (o : tU) (M : zM) (Q : Int → zM → Prop) (X : zM → Prop), 6 * m + 40 ≤ d → e + m ≤ 33 → w < 6 + A.ns.length → r < 6 + B.ns.length → tT A.ns B.ns dB m w r bs o → tG M p q NU NV A B dB → rdB M mka P bs → P + bs.length ≤ 4096 → M 56 11 = 0 → M 56 10 = (P : Int) → M 57 1 = (u : Int) → u ≤ 4096 → tOr M A B dB →
    (∀ M1 : zM, tR A B dB e u (P + bs.length) o M M1 → Q 0 M1) → zm_X7_tellDatum l s0 G ca d C S w r e M Q X
theorem tR.ps {A B : SS} {dB : SP → Option (List Nat)} {e u X : Nat} {o : tU} {M M1 : zM} (h : tR A B dB e u X o M M1) {k v : Int} (hk : ((33 * e : Nat) : Int) ≤ k) : tR A B dB e u X o M (zu M1 62 k v) := by
  obtain ⟨h1, h2, h3⟩ := h
  refine ⟨h1.zu (Or.inr (Or.inr ⟨rfl, hk⟩)), h2.fr (fun c j h => zu_ne (by omega)), ?_⟩
  rcases h3 with ⟨g1, g2⟩ | ⟨g1, g2, g3⟩ | ⟨g1, g2, g3, g4, g5, g6⟩
  · exact Or.inl ⟨g1, (zu_a (by decide)).trans g2⟩
  · exact Or.inr (Or.inl ⟨g1, g2, (zu_a (by decide)).trans g3⟩)
  · exact Or.inr (Or.inr ⟨g1, g2, (zu_a (by decide)).trans g3, (zu_a (by decide)).trans g4, (zu_a (by decide)).trans g5, fun j hj => (zu_a (by decide)).trans (g6 j hj)⟩)
theorem tSq_as (a b c : tU) : tSq (tSq a b) c = tSq a (tSq b c) := by
  obtain ⟨a1, a2⟩ := a
  obtain ⟨b1, b2⟩ := b
  cases a2 <;> cases b2 <;> simp [tSq]
theorem tSq_l (a : tU) : tSq ([], false) a = a := by
  obtain ⟨a1, a2⟩ := a
  simp [tSq]
theorem tSq_r (a : tU) : tSq a ([], false) = a := by
  obtain ⟨a1, a2⟩ := a
  cases a2 <;> simp [tSq]
section TG9
variable {l : Launch} {s0 : State} {a0 : Array Value} {G : va_G} {ca : Nat → ClassId} {d : Nat} {C : Nat × Nat} {S : zS} {p q mk mka : Int} {M : zM} {Q : Int → zM → Prop} {X : zM → Prop} {u e P NU NV m w r : Nat} {A B : SS} {dB : SP → Option (List Nat)}
theorem t_fdStop (Γ : rt_Γ l s0 a0 G ca) (hd : 5 ≤ d) (hok : zok C) (hS : tSh S p q mk mka) {w0 : rt_Wd} {v1 v2 v3 v4 v5 v6 : Int} (h : ¬ w32 (M 56 11) = 0) (hQ : Q 0 M) : zg_X7_tellFields_25 l s0 G ca d C S w0 p q mk mka v1 v2 v3 v4 v5 v6 M Q X := by
  obtain ⟨hs, hp, hq, hmk, hs56, g1, g2, g3, g4, g5⟩ := id hS
  refine zs_X7_tellFields_25 Γ (by omega) hok hs hp hq hmk hs56 ?_
  unfold zt_X7_tellFields_25
  have st : zt_X7_tellFields_174 l s0 G ca d C S w0 p q mk mka v1 v3 v4 v5 M Q X := by
    unfold zt_X7_tellFields_174
    exact zIf_f h hQ
  exact ⟨fun _ => st, fun _ => ⟨fun c => absurd c h, fun _ => st⟩⟩
theorem t_fdsL (Γ : rt_Γ l s0 a0 G ca) (hd : 6 * m + 42 ≤ d) (hok : zok C) (hS : tSh S p q mk mka) (hC : tlC l s0 G ca C S p q mka NU NV A B dB m) (hK : tkC l s0 G ca C S p mka NU A m) (hFA : kF A) (hFB : kF B) (hHA : kHn A) (hNA : kGn A) (he : e + 1 + m ≤ 33) (hw : w < 6 + A.ns.length) (hkw : (nN A.ns w).kd = 11) (hr : r < 6 + B.ns.length) (hkr : (nN B.ns r).kd = 11) (hpl : tPln A.ns B.ns w r = true) {L : List (List Nat)} (hL : tFs (yN A.ns m) (nN A.ns w).ps L) (hP : P + L.flatten.length ≤ 4096) {w0 : rt_Wd} : ∀ (l9 : List SP) (k kn u : Nat) (o : tU) (M : zM), (nN B.ns r).ps.drop k = l9 → k ≤ (nN B.ns r).ps.length → kn ≤ (nN A.ns w).ps.length → tRf (tT A.ns B.ns dB m) dB (nN A.ns w).ps L l9 o → tG M p q NU NV A B dB → rdB M mka P L.flatten → M 56 11 = 0 → (∃ P0 : Nat, M 56 10 = (P0 : Int)) → M 57 1 = (u : Int) → u ≤ 4096 → tOr M A B dB → (∀ i : Nat, i ≤ kn → M 62 ((33 * e + i : Nat) : Int) = (tBg P L i : Nat)) →
    (∀ M1 : zM, tR A B dB e u (P + L.flatten.length) o M M1 → Q 0 M1) → zg_X7_tellFields_25 l s0 G ca d C S w0 p q mk mka w r e ((e : Int) * 33) kn k M Q X := by
  obtain ⟨hs, hp, hq, hmk, hs56, g1, g2, g3, g4, g5⟩ := id hS
  have hct : (nN A.ns w).ps.length ≤ 32 := by
    obtain ⟨i, rfl, hi⟩ := nN_some (ns := A.ns) (s := w) (nN_ge (ns := A.ns) (by omega)) hw
    have h1 := (hFA i _ hi).2.2.2.1 (by omega)
    have h2 := (hNA.1 i _ hi).2
    omega
  have hLl := hL.len
  intro l9
  induction l9 with
  | nil =>
    intro k kn u o M hdr hkl hkn ho hG hrd h7 h6 hu hul hO hb hQ
    have ho' : o = ([], false) := ho
    subst ho'
    have hlen : (nN B.ns r).ps.length ≤ k := by
      have := congrArg List.length hdr
      rw [List.length_drop, List.length_nil] at this
      omega
    have hlB2 := (g_len hG.2.1 hFB hr (by omega)).2
    refine zs_X7_tellFields_25 Γ (by omega) hok hs hp hq hmk hs56 ?_
    unfold zt_X7_tellFields_25
    rw [(g_len hG.2.1 hFB hr (by omega)).1, w32_id (by omega) (by omega), w32_id (by omega) (by omega)]
    refine zIf_t (by omega) ?_
    unfold zt_X7_tellFields_174
    rw [h7]
    refine zIf_t (by decide) ?_
    rw [(g_len hG.1 hFA hw (by omega)).1]
    refine t_skF Γ (by omega) hok hS hK hFA hNA he hw hkw hL (Nat.le_refl _) hkn hP hG.1 hrd hb (fun M1 f1 f2 => ?_)
    have fr : tFr e u M M1 := fun c j n1 n2 n3 n4 n5 => f1 c j (fun h => n1 ⟨h.1, Or.inl h.2⟩) (fun h => n5 ⟨h.1, by omega⟩)
    have hG1 := hG.t fr g4 g5
    rw [(g_len hG1.1 hFA hw (by omega)).1, show (e : Int) * 33 + ((nN A.ns w).ps.length : Int) = ((33 * e + (nN A.ns w).ps.length : Nat) : Int) by omega, zat_in (a := 62) (by omega) (by omega) (by decide), f2 _ (by omega)]
    have hend : tBg P L (nN A.ns w).ps.length = P + L.flatten.length := by rw [← hLl]; exact tBg_all
    rw [hend]
    refine hQ _ (tR.nil (fr.zu (Or.inl ⟨rfl, Or.inl rfl⟩)) (hO.fr (fun c j h => ?_)) ?_ (zu_s _ _ _ _) ?_ hul)
    · rw [zu_ne (by omega)]
      exact f1 _ _ (by omega) (by omega)
    · rw [zu_k (by decide), f1 _ _ (by omega) (by omega)]
      exact h7
    · rw [zu_a (by decide), f1 _ _ (by omega) (by omega)]
      exact hu
  | cons z l9 ih =>
    intro k kn u o M hdr hkl hkn ho hG hrd h7 h6 hu hul hO hb hQ
    obtain ⟨o1, o2, ho1, ho2, rfl⟩ := ho
    have hz : (nN B.ns r).ps[k]? = some z := by
      have := congrArg (fun l => l[0]?) hdr
      simpa using this
    have hdr2 : (nN B.ns r).ps.drop (k + 1) = l9 := by
      have := congrArg (List.drop 1) hdr
      rw [List.drop_drop] at this
      exact this
    have hkl2 := (List.getElem?_eq_some_iff.mp hz).1
    have hlB3 := (g_len hG.2.1 hFB hr (by omega)).2
    have hlB2 := hG.2.1.2.2.1
    obtain ⟨ib, hrb, hib⟩ := nN_some (ns := B.ns) (s := r) (nN_ge (ns := B.ns) (by omega)) hr
    obtain ⟨b1, b2, b3, b4, b5⟩ := g_prt hG.2.1 hFB hib (by omega) hz
    rw [← hrb] at b2
    have eq10 : ∀ _ : Unit, zat M (q + 10) 134 (r : Int) = ((nTot (B.ns.take ib) : Nat) : Int) := fun _ => by rw [zat_in (by omega) (by omega) (by decide)]; exact b2
    -- the loop behind a step
    have next : ∀ (kn1 : Nat) (M1 : zM) (X1 : Nat), kn1 ≤ (nN A.ns w).ps.length → tR A B dB e u X1 o1 M M1 → (M1 56 11 = 0 → ∀ i : Nat, i ≤ kn1 → M1 62 ((33 * e + i : Nat) : Int) = (tBg P L i : Nat)) → zg_X7_tellFields_25 l s0 G ca d C S w0 p q mk mka w r e ((e : Int) * 33) kn1 ((k : Int) + 1) M1 Q X := fun kn1 M1 X1 hk1 hR hB1 => by
      by_cases hst : M1 56 11 = 0
      · obtain ⟨k1, k2, k3, k4⟩ := hR.ok hst
        have hG1 := hG.t hR.1 g4 g5
        rw [show (k : Int) + 1 = ((k + 1 : Nat) : Int) by omega]
        exact ih (k + 1) kn1 _ o2 M1 hdr2 (by omega) hk1 ho2 hG1 (hrd.t hR.1 (by omega)) hst ⟨_, k3⟩ k4 k1 hR.2.1 (hB1 hst) (fun M2 h2 => hQ M2 (hR.seq hst h2 (Nat.le_refl _)))
      · exact t_fdStop Γ (by omega) hok hS (fun c => hst (hR.w.mp c)) (hQ M1 (hR.stop hst))
    refine zs_X7_tellFields_25 Γ (by omega) hok hs hp hq hmk hs56 ?_
    unfold zt_X7_tellFields_25
    rw [(g_len hG.2.1 hFB hr (by omega)).1, eq10 (), w32_id (x := (((nN B.ns r).ps.length : Nat) : Int)) (by omega) (by omega), w32_id (x := (k : Int)) (by omega) (by omega), h7]
    refine zIf_f (by omega) (zIf_t (by decide) ?_)
    rw [show ((nTot (B.ns.take ib) : Nat) : Int) + (k : Int) = ((nTot (B.ns.take ib) + k : Nat) : Int) by omega]
    refine t_org Γ (by omega) hok hS hG hFA hFB hHA hNA hO hib hkr hz hw hkw (by rw [← hrb]; exact hpl) (fun M1 f1 hO1 => ?_)
    have fr1 : tFr e u M M1 := fun c j _ _ _ n4 _ => f1 c j (fun h => n4 (Or.inl h))
    have hG1 := hG.t fr1 g4 g5
    have hrd1 := hrd.t fr1 (by omega)
    have h71 : M1 56 11 = 0 := by rw [f1 _ _ (by decide)]; exact h7
    have hu1 : M1 57 1 = (u : Int) := by rw [f1 _ _ (by decide)]; exact hu
    have hb1 : ∀ i : Nat, i ≤ kn → M1 62 ((33 * e + i : Nat) : Int) = (tBg P L i : Nat) := fun i hi => by rw [f1 _ _ (by decide)]; exact hb i hi
    cases hsp : sPrt (nN A.ns w).ps z.nm with
    | none =>
      have hd1 := ho1.2 hsp
      refine zIf_t (by decide) ?_
      obtain ⟨P0, h6⟩ := h6
      have h61 : M1 56 10 = (P0 : Int) := by rw [f1 _ _ (by decide)]; exact h6
      refine t_defR (P := P0) (e := e + 1) Γ (by omega) hok hS hG1 hFB hib hkr hz h71 h61 hu1 hul hO1 (fun M2 hR2 => ?_)
      rw [← hd1] at hR2
      exact next kn M2 P0 hkn ((hR2.up (Nat.le_succ e)).pre fr1) (fun _ i hi => by rw [hR2.1 _ _ (by omega) (by omega) (by omega) (by omega) (by omega)]; exact hb1 i hi)
    | some i =>
      obtain ⟨a, b, y1, y2, y3⟩ := ho1.1 i hsp
      have hil := (List.getElem?_eq_some_iff.mp y1).1
      have n1 : ¬ (i : Int) = -1 := by omega
      have e1 : w32 (oI (some i)) = (i : Int) := oI_w (by omega)
      refine zIf_f (by rw [e1]; exact n1) ?_
      clear e1
      rw [show oI (some i) = (i : Int) from rfl]
      refine t_skF Γ (by omega) hok hS hK hFA hNA he hw hkw hL (by omega) hkn hP hG1.1 hrd1 hb1 (fun M2 f2 hb2 => ?_)
      have fr2 : tFr e u M1 M2 := fun c j n1 n2 n3 n4 n5 => f2 c j (fun h => n1 ⟨h.1, Or.inl h.2⟩) (fun h => n5 ⟨h.1, by omega⟩)
      rw [show (e : Int) * 33 + (i : Int) = ((33 * e + i : Nat) : Int) by omega, zat_in (a := 62) (by omega) (by omega) (by decide), hb2 i (by omega)]
      have fr3 : tFr e u M (zu M2 56 10 ((tBg P L i : Nat) : Int)) := (fr1.tr fr2 (Nat.le_refl _) (Nat.le_refl _)).zu (Or.inl ⟨rfl, Or.inl rfl⟩)
      have hG3 := hG.t fr3 g4 g5
      have hrd3 := hrd.t fr3 (by omega)
      have h73 : zu M2 56 10 ((tBg P L i : Nat) : Int) 56 11 = 0 := by rw [zu_k (by decide), f2 _ _ (by omega) (by omega)]; exact h71
      have h63 : zu M2 56 10 ((tBg P L i : Nat) : Int) 56 10 = ((tBg P L i : Nat) : Int) := zu_s _ _ _ _
      have hu3 : zu M2 56 10 ((tBg P L i : Nat) : Int) 57 1 = (u : Int) := by rw [zu_a (by decide), f2 _ _ (by omega) (by omega)]; exact hu1
      have hO3 : tOr (zu M2 56 10 ((tBg P L i : Nat) : Int)) A B dB := hO1.fr (fun c j h => by rw [zu_ne (by omega), f2 _ _ (by omega) (by omega)])
      have hb3 : ∀ j : Nat, j ≤ max kn i → zu M2 56 10 ((tBg P L i : Nat) : Int) 62 ((33 * e + j : Nat) : Int) = (tBg P L j : Nat) := fun j hj => by rw [zu_a (by decide)]; exact hb2 j hj
      generalize zu M2 56 10 ((tBg P L i : Nat) : Int) = M3 at fr3 hG3 hrd3 h73 h63 hu3 hO3 hb3 ⊢
      obtain ⟨r1, r2⟩ := tBg_at y2 hrd3
      obtain ⟨p1, p2, p3⟩ := g_part hG3.1 hFA hw (Or.inr hkw) y1
      obtain ⟨q1, q2, q3⟩ := g_part hG3.2.1 hFB hr (Or.inr hkr) hz
      have eq10' : ∀ _ : Unit, zat M3 (q + 10) 134 (r : Int) = ((nTot (B.ns.take ib) : Nat) : Int) := fun _ => by
        rw [zat_in (by omega) (by omega) (by decide)]
        have := (g_prt hG3.2.1 hFB hib (by omega) hz).2.1
        rw [← hrb] at this
        exact this
      rw [eq10' (), show ((nTot (B.ns.take ib) : Nat) : Int) + (k : Int) = ((nTot (B.ns.take ib) + k : Nat) : Int) by omega] at q1
      rw [p1, q1, show (e : Int) + 1 = ((e + 1 : Nat) : Int) from rfl]
      clear p1 q1
      refine hC (d - 1) _ _ (e + 1) (tBg P L i) u b o1 M3 _ X (by omega) (by omega) p2 q2 y3 hG3 r1 (by omega) h73 h63 hu3 hul hO3 (fun M4 hR4 => ?_)
      have hR : tR A B dB e u (tBg P L i + b.length) o1 M M4 := (hR4.up (Nat.le_succ e)).pre fr3
      have hb4 : ∀ j : Nat, j ≤ max kn i → M4 62 ((33 * e + j : Nat) : Int) = (tBg P L j : Nat) := fun j hj => by
        rw [hR4.1 _ _ (by omega) (by omega) (by omega) (by omega) (by omega)]
        exact hb3 j hj
      rw [w32_id (x := ((max kn i : Nat) : Int)) (by omega) (by omega), w32_id (x := (i : Int)) (by omega) (by omega)]
      refine ⟨fun c => ?_, fun c => ?_⟩
      · have hmx : max kn i = i := by omega
        rw [hmx, show (e : Int) * 33 + ((i : Int) + 1) = ((33 * e + (i + 1) : Nat) : Int) by omega, zput_in (by omega) (by omega) (by decide), show (i : Int) + 1 = ((i + 1 : Nat) : Int) by omega]
        refine next (i + 1) _ _ (by omega) (hR.ps (by omega)) (fun h0 j hj => ?_)
        by_cases cj : j = i + 1
        · rw [cj, zu_s]
          have h0' : M4 56 11 = 0 := (zu_a (by decide)).symm.trans h0
          rw [(hR.ok h0').2.2.1, tBg_s y2]
        · rw [zu_k (by omega)]
          exact hb4 j (by omega)
      · exact next (max kn i) _ _ (by omega) hR (fun _ j hj => hb4 j hj)
theorem t_flds (Γ : rt_Γ l s0 a0 G ca) (hd : 6 * m + 43 ≤ d) (hok : zok C) (hS : tSh S p q mk mka) (hC : tlC l s0 G ca C S p q mka NU NV A B dB m) (hK : tkC l s0 G ca C S p mka NU A m) (hFA : kF A) (hFB : kF B) (hHA : kHn A) (hNA : kGn A) (he : e + 1 + m ≤ 33) (hw : w < 6 + A.ns.length) (hkw : (nN A.ns w).kd = 11) (hr : r < 6 + B.ns.length) (hkr : (nN B.ns r).kd = 11) (hpl : tPln A.ns B.ns w r = true) {L : List (List Nat)} (hL : tFs (yN A.ns m) (nN A.ns w).ps L) (hP : P + L.flatten.length ≤ 4096) {o : tU} (ho : tRf (tT A.ns B.ns dB m) dB (nN A.ns w).ps L (nN B.ns r).ps o) (hG : tG M p q NU NV A B dB) (hrd : rdB M mka P L.flatten) (h7 : M 56 11 = 0) (h6 : M 56 10 = (P : Int)) (hu : M 57 1 = (u : Int)) (hul : u ≤ 4096) (hO : tOr M A B dB) (hQ : ∀ M1 : zM, tR A B dB e u (P + L.flatten.length) o M M1 → Q 0 M1) : zm_X7_tellFields l s0 G ca d C S w r e M Q X := by
  obtain ⟨hs, hp, hq, hmk, hs56, g1, g2, g3, g4, g5⟩ := id hS
  refine z_X7_tellFields Γ (by omega) hok hs hp hq hmk hs56 ?_
  unfold zt_X7_tellFields
  rw [h6, show zput M 62 1089 ((e : Int) * 33) (P : Int) = zu M 62 ((33 * e : Nat) : Int) (P : Int) from by rw [show (e : Int) * 33 = ((33 * e : Nat) : Int) by omega, zput_in (by omega) (by omega) (by decide)]]
  have fr : tFr e u M (zu M 62 ((33 * e : Nat) : Int) (P : Int)) := tFr.rf.zu (Or.inr (Or.inr ⟨rfl, Int.le_refl _⟩))
  exact t_fdsL Γ (by omega) hok hS hC hK hFA hFB hHA hNA he hw hkw hr hkr hpl hL hP _ 0 0 u o _ rfl (Nat.zero_le _) (Nat.zero_le _) ho (hG.t fr g4 g5) (hrd.t fr (by omega)) ((zu_a (by decide)).trans h7) ⟨P, (zu_a (by decide)).trans h6⟩ ((zu_a (by decide)).trans hu) hul (hO.fr (fun c j h => zu_ne (by omega))) (fun i hi => by
    have : i = 0 := by omega
    subst this
    exact zu_s _ _ _ _) (fun M1 h1 => hQ M1 (h1.pre fr))
end TG9
