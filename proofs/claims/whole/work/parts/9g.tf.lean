/-! ===== the class tells: symbols, defaults; fields are found ===== -/
section TF9
variable {l : Launch} {s0 : State} {a0 : Array Value} {G : va_G} {ca : Nat → ClassId} {d : Nat} {C : Nat × Nat} {S : zS} {p q mk mka : Int} {M : zM} {Q : Int → zM → Prop} {X : zM → Prop} {u e P NU NV m w r : Nat} {A B st : SS} {dB : SP → Option (List Nat)}
theorem t_symR (Γ : rt_Γ l s0 a0 G ca) (hd : 6 ≤ d) (hok : zok C) (hS : tSh S p q mk mka) (hG : tG M p q NU NV A B dB) (hFA : kF A) (hFB : kF B) (hw : w < 6 + A.ns.length) (hr : r < 6 + B.ns.length) (hkw : (nN A.ns w).kd = 10) (hkr : (nN B.ns r).kd = 10) {j : Nat} {z : SP} (hz : (nN A.ns w).ps[j]? = some z) (h7 : M 56 11 = 0) (h6 : M 56 10 = (P : Int)) (hu : M 57 1 = (u : Int)) (hul : u ≤ 4096) (hO : tOr M A B dB) (hrd : rdB M mka P (vB (j : Int))) (hP : P + (vB (j : Int)).length ≤ 4096)
    (hQ : ∀ M1 : zM, tR A B dB e u (P + (vB (j : Int)).length) (tSy (nN B.ns r) z.nm) M M1 → Q 0 M1) : zm_X7_tellSymbol l s0 G ca d C S w r M Q X := by
  obtain ⟨hs, hp, hq, hmk, hs56, g1, g2, g3, g4, g5⟩ := id hS
  have hl2 := (g_len hG.1 hFA hw (by omega)).2
  have hlB := (g_len hG.2.1 hFB hr (by omega)).2
  have hjl := (List.getElem?_eq_some_iff.mp hz).1
  refine z_X7_tellSymbol Γ (by omega) hok hs hp hq hmk hs56 ?_
  unfold zt_X7_tellSymbol
  refine t_var (n := (j : Int)) Γ (by omega) hok hS ⟨by omega, by omega⟩ h6 hrd hP ?_
  have f2 : tFr e u M (zu M 56 10 ((P + (vB (j : Int)).length : Nat) : Int)) := tFr.rf.zu (Or.inl ⟨rfl, Or.inl rfl⟩)
  have hG2 := hG.t f2 g4 g5
  have h72 : zu M 56 10 ((P + (vB (j : Int)).length : Nat) : Int) 56 11 = 0 := (zu_k (by decide)).trans h7
  have h62 : zu M 56 10 ((P + (vB (j : Int)).length : Nat) : Int) 56 10 = ((P + (vB (j : Int)).length : Nat) : Int) := zu_s _ _ _ _
  have hu2 : zu M 56 10 ((P + (vB (j : Int)).length : Nat) : Int) 57 1 = (u : Int) := (zu_a (by decide)).trans hu
  have hO2 : tOr (zu M 56 10 ((P + (vB (j : Int)).length : Nat) : Int)) A B dB := hO.ps
  generalize zu M 56 10 ((P + (vB (j : Int)).length : Nat) : Int) = M2 at f2 hG2 h72 h62 hu2 hO2 ⊢
  have hlA := hG2.1.2.2.1
  have hlB2 := hG2.2.1.2.2.1
  obtain ⟨i, rfl, hi⟩ := nN_some (ns := A.ns) (s := w) (nN_ge (ns := A.ns) (by omega)) hw
  obtain ⟨b1, b2, b3, b4, b5⟩ := g_prt hG2.1 hFA hi (by omega) hz
  rw [zat_in (a := p + 10) (by omega) (by omega) (by decide), b2, show ((nTot (A.ns.take i) : Nat) : Int) + (j : Int) = ((nTot (A.ns.take i) + j : Nat) : Int) by omega, zat_in (a := p + 16) (by omega) (by omega) (by decide)]
  refine t_prt (p := q) (q := p) Γ (by omega) hok hq hp hG2.2.1 (b4.2.1 (by omega)) hG2.1.2.2.2.2.1 hr (Or.inl hkr) ?_
  unfold tSy at hQ
  cases hsp : sPrt (nN B.ns r).ps z.nm with
  | none =>
    rw [hsp] at hQ
    dsimp only at hQ
    refine zIf_t (by decide) ?_
    unfold zt_X7_tellSymbol_50
    obtain ⟨i2, rfl, hi2⟩ := nN_some (ns := B.ns) (s := r) (nN_ge (ns := B.ns) (by omega)) hr
    obtain ⟨k1, k2⟩ := (hFB i2 _ hi2).2.2.2.2.2 hkr
    have hdt := ((hG2.2.1.2.1 i2 _ hi2).2.2.2.2.2.2 (by omega)).1
    rw [zat_in (a := q + 6) (by omega) (by omega) (by decide), hdt, w32_id (x := (nN B.ns (6 + i2)).dt) (by omega) (by omega)]
    refine ⟨fun c => ?_, fun c => ?_⟩
    · rw [if_neg (by omega)] at hQ
      exact t_unr Γ hok hS h72 hul hO2 (fun M3 h => hQ M3 (h.pre f2))
    · rw [if_pos (by omega)] at hQ
      exact t_putR Γ (by omega) hok hS ⟨by omega, by omega⟩ h72 h62 hu2 hul hO2 (fun M3 h => hQ M3 (h.pre f2))
  | some k =>
    rw [hsp] at hQ
    dsimp only at hQ
    have hkl : k < (nN B.ns r).ps.length := by have := sPrtL_lt _ _ _ _ hsp; omega
    have k1 : ¬ (k : Int) = -1 := by omega
    have k2 : -9223372036854775808 ≤ (k : Int) ∧ (k : Int) < 9223372036854775808 := ⟨by omega, by omega⟩
    have k3 : 4 ≤ d - 1 := by omega
    have e1 : w32 (oI (some k)) = (k : Int) := oI_w (by omega)
    refine zIf_f (by rw [e1]; exact k1) ?_
    unfold zt_X7_tellSymbol_50
    rw [e1]
    refine zIf_f k1 ?_
    exact t_putR Γ k3 hok hS k2 h72 h62 hu2 hul hO2 (fun M3 h => hQ M3 (h.pre f2))
theorem t_defR (Γ : rt_Γ l s0 a0 G ca) (hd : 6 ≤ d) (hok : zok C) (hS : tSh S p q mk mka) (hG : tG M p q NU NV A B dB) (hFB : kF B) {i k : Nat} {n : SN} {z : SP} (hi : B.ns[i]? = some n) (hk11 : n.kd = 11) (hz : n.ps[k]? = some z) (h7 : M 56 11 = 0) (h6 : M 56 10 = (P : Int)) (hu : M 57 1 = (u : Int)) (hul : u ≤ 4096) (hO : tOr M A B dB)
    (hQ : ∀ M1 : zM, tR A B dB e u P (tDf dB z) M M1 → Q 0 M1) : zm_X7_tellDefault l s0 G ca d C S ((nTot (B.ns.take i) + k : Nat) : Int) M Q X := by
  obtain ⟨hs, hp, hq, hmk, hs56, g1, g2, g3, g4, g5⟩ := id hS
  obtain ⟨b1, b2, b3, b4, b5⟩ := g_prt hG.2.1 hFB hi (by omega) hz
  obtain ⟨d1, d2⟩ := hG.2.2 i k n z hi hk11 hz
  refine z_X7_tellDefault Γ (by omega) hok hs hp hq hmk hs56 ?_
  unfold zt_X7_tellDefault zf_X6_hasDefault
  rw [zat_in (a := q + 18) (by omega) (by omega) (by decide), zat_in (a := q + 20) (by omega) (by omega) (by decide)]
  unfold tDf at hQ
  cases hb : dB z with
  | none =>
    rw [hb] at hQ
    rw [d1 hb, if_pos (by decide)]
    exact zIf_t (by decide) (t_unr Γ hok hS h7 hul hO hQ)
  | some b =>
    rw [hb] at hQ
    obtain ⟨a, x1, x2, x3, x4⟩ := d2 b hb
    rw [x1, x2, if_neg (by rw [w32_id (by omega) (by omega)]; omega)]
    exact zIf_f (by decide) (t_partR Γ (by omega) hok hS hq.2.2.2.2.2.2.2.2.2.2.2.2.2 x3 x4 h7 h6 hu hul hO hQ)
/-- where the field j begins -/
def tBg (P : Nat) (L : List (List Nat)) (j : Nat) : Nat := P + (L.take j).flatten.length
theorem tBg_s {P : Nat} {L : List (List Nat)} {j : Nat} {b : List Nat} (h : L[j]? = some b) : tBg P L (j + 1) = tBg P L j + b.length := by
  unfold tBg
  rw [List.take_add_one, h]
  show P + (L.take j ++ [b]).flatten.length = _
  rw [List.flatten_append, List.length_append, List.flatten_singleton, Nat.add_assoc]
theorem tBg_at {P : Nat} {L : List (List Nat)} {j : Nat} {b : List Nat} (h : L[j]? = some b) {a : Int} {M : zM} (hr : rdB M a P L.flatten) : rdB M a (tBg P L j) b ∧ tBg P L j + b.length ≤ P + L.flatten.length := by
  have hjl := (List.getElem?_eq_some_iff.mp h).1
  have e : L.flatten = (L.take j).flatten ++ (b ++ (L.drop (j + 1)).flatten) := by
    have e1 : L = L.take j ++ (b :: L.drop (j + 1)) := by
      rw [← (List.getElem?_eq_some_iff.mp h).2, ← List.drop_eq_getElem_cons hjl, List.take_append_drop]
    have e2 := congrArg List.flatten e1
    rw [List.flatten_append, List.flatten_cons] at e2
    exact e2
  rw [e] at hr
  refine ⟨hr.r.l, ?_⟩
  unfold tBg
  rw [e, List.length_append, List.length_append]
  omega
theorem tBg_z {P : Nat} {L : List (List Nat)} : tBg P L 0 = P := rfl
theorem tBg_all {P : Nat} {L : List (List Nat)} : tBg P L L.length = P + L.flatten.length := by
  unfold tBg
  rw [List.take_length]
theorem t_skFL (Γ : rt_Γ l s0 a0 G ca) (hd : 3 * m + 12 ≤ d) (hok : zok C) (hS : tSh S p q mk mka) (hC : tkC l s0 G ca C S p mka NU A m) (hFA : kF A) (hNA : kGn A) (he : e + 1 + m ≤ 33) (hw : w < 6 + A.ns.length) (hkw : (nN A.ns w).kd = 11) {L : List (List Nat)} (hL : tFs (yN A.ns m) (nN A.ns w).ps L) {up kn : Nat} (hup : up ≤ (nN A.ns w).ps.length) (hkn : kn ≤ (nN A.ns w).ps.length) (hP : P + L.flatten.length ≤ 4096) {w0 : rt_Wd} : ∀ (c j : Nat) (M : zM), up ≤ j + c → kn ≤ j → (kn < j → j ≤ up) → gC M p NU A → rdB M mka P L.flatten → (∀ i : Nat, i ≤ j → M 62 ((33 * e + i : Nat) : Int) = (tBg P L i : Nat)) →
    (∀ M1 : zM, (∀ c x : Int, ¬ (c = 56 ∧ x = 10) → ¬ (c = 62 ∧ ((33 * e + j : Nat) : Int) < x) → M1 c x = M c x) → (∀ i : Nat, i ≤ max j up → M1 62 ((33 * e + i : Nat) : Int) = (tBg P L i : Nat)) → Q ((max kn up : Nat) : Int) M1) →
    zg_X7_skipFields_10 l s0 G ca d C S w0 p q mk mka w kn up e ((e : Int) * 33) j M Q X := by
  obtain ⟨hs, hp, hq, hmk, hs56, g1, g2, g3, g4, g5⟩ := id hS
  have hct : (nN A.ns w).ps.length ≤ 32 := by
    obtain ⟨i, rfl, hi⟩ := nN_some (ns := A.ns) (s := w) (nN_ge (ns := A.ns) (by omega)) hw
    have h1 := (hFA i _ hi).2.2.2.1 (by omega)
    have h2 := (hNA.1 i _ hi).2
    omega
  have c62 : zCe S 61 62 1089 := ⟨by decide, by decide, by decide, hs 61 _ rfl, hs 62 _ rfl⟩
  have stop : ∀ (j : Nat) (M : zM), up ≤ j → kn ≤ j → (kn < j → j ≤ up) → (∀ i : Nat, i ≤ j → M 62 ((33 * e + i : Nat) : Int) = (tBg P L i : Nat)) → (∀ M1 : zM, (∀ c x : Int, ¬ (c = 56 ∧ x = 10) → ¬ (c = 62 ∧ ((33 * e + j : Nat) : Int) < x) → M1 c x = M c x) → (∀ i : Nat, i ≤ max j up → M1 62 ((33 * e + i : Nat) : Int) = (tBg P L i : Nat)) → Q ((max kn up : Nat) : Int) M1) → zg_X7_skipFields_10 l s0 G ca d C S w0 p q mk mka w kn up e ((e : Int) * 33) j M Q X := by
    intro j M h1 h2 h3 hb hQ
    refine zs_X7_skipFields_10 Γ (by omega) hok hs hp hq hmk hs56 ?_
    unfold zt_X7_skipFields_10
    rw [w32_id (x := (up : Int)) (by omega) (by omega)]
    have hj : j ≤ 32 := by
      by_cases c : kn < j
      · have := h3 c; omega
      · omega
    rw [w32_id (x := (j : Int)) (by omega) (by omega)]
    refine zIf_t (by omega) ?_
    have e1 : zmax (kn : Int) (up : Int) = ((max kn up : Nat) : Int) := by
      unfold zmax
      rw [w32_id (x := (kn : Int)) (by omega) (by omega), w32_id (x := (up : Int)) (by omega) (by omega)]
      split <;> omega
    rw [e1]
    exact hQ M (fun _ _ _ _ => rfl) (fun i hi => hb i (by omega))
  intro c
  induction c with
  | zero => intro j M h1 h2 h3 hG hr hb hQ; exact stop j M (by omega) h2 h3 hb hQ
  | succ c ih =>
    intro j M h1 h2 h3 hG hr hb hQ
    by_cases hju : up ≤ j
    · exact stop j M hju h2 h3 hb hQ
    have hlt : j < (nN A.ns w).ps.length := by omega
    refine zs_X7_skipFields_10 Γ (by omega) hok hs hp hq hmk hs56 ?_
    unfold zt_X7_skipFields_10
    rw [w32_id (x := (up : Int)) (by omega) (by omega), w32_id (x := (j : Int)) (by omega) (by omega)]
    refine zIf_f (by omega) ?_
    obtain ⟨z, hz⟩ : ∃ z : SP, (nN A.ns w).ps[j]? = some z := ⟨_, List.getElem?_eq_getElem hlt⟩
    obtain ⟨b, hb1, hb2⟩ := hL.at hz
    obtain ⟨r1, r2⟩ := tBg_at hb1 hr
    rw [show (e : Int) * 33 + (j : Int) = ((33 * e + j : Nat) : Int) by omega, zat_in (a := 62) (by omega) (by omega) (by decide), hb j (Nat.le_refl _)]
    have hG2 : gC (zu M 56 10 ((tBg P L j : Nat) : Int)) p NU A := hG.u (by omega)
    obtain ⟨p1, p2, p3⟩ := g_part hG2 hFA hw (Or.inr hkw) hz
    rw [p1, show (e : Int) + 1 = ((e + 1 : Nat) : Int) by omega]
    refine hC (d - 1) _ (e + 1) (tBg P L j) b _ _ _ (by omega) (by omega) p2 hb2 hG2 (zu_s _ _ _ _) (r1.u (by omega)) (by omega) ?_
    rw [zu_zu, zu_s, show ((33 * e + j : Nat) : Int) + 1 = ((33 * e + (j + 1) : Nat) : Int) by omega, zput_in (by omega) (by omega) (by decide), show (j : Int) + 1 = ((j + 1 : Nat) : Int) by omega, ← tBg_s hb1]
    refine ih (j + 1) _ (by omega) (by omega) (fun _ => by omega) ((hG.u (by omega)).u (by omega)) (fun x hx => ?_) (fun i hi => ?_) (fun M1 f1 f2 => ?_)
    · rw [zu_a (by omega), zu_a (by omega)]
      exact hr x hx
    · by_cases ci : i = j + 1
      · rw [ci]
        exact zu_s _ _ _ _
      · rw [zu_k (by omega), zu_a (by decide)]
        exact hb i (by omega)
    · refine hQ M1 (fun c x n1 n2 => ?_) (fun i hi => f2 i (by omega))
      rw [f1 c x n1 (fun h => n2 ⟨h.1, by omega⟩), zu_ne (fun h => n2 ⟨h.1, by omega⟩), zu_ne n1]
/-- fields up to one are passed over, and it is known where they begin -/
theorem t_skF (Γ : rt_Γ l s0 a0 G ca) (hd : 3 * m + 13 ≤ d) (hok : zok C) (hS : tSh S p q mk mka) (hC : tkC l s0 G ca C S p mka NU A m) (hFA : kF A) (hNA : kGn A) (he : e + 1 + m ≤ 33) (hw : w < 6 + A.ns.length) (hkw : (nN A.ns w).kd = 11) {L : List (List Nat)} (hL : tFs (yN A.ns m) (nN A.ns w).ps L) {up kn : Nat} (hup : up ≤ (nN A.ns w).ps.length) (hkn : kn ≤ (nN A.ns w).ps.length) (hP : P + L.flatten.length ≤ 4096) (hG : gC M p NU A) (hr : rdB M mka P L.flatten) (hb : ∀ i : Nat, i ≤ kn → M 62 ((33 * e + i : Nat) : Int) = (tBg P L i : Nat))
    (hQ : ∀ M1 : zM, (∀ c x : Int, ¬ (c = 56 ∧ x = 10) → ¬ (c = 62 ∧ ((33 * e + kn : Nat) : Int) < x) → M1 c x = M c x) → (∀ i : Nat, i ≤ max kn up → M1 62 ((33 * e + i : Nat) : Int) = (tBg P L i : Nat)) → Q ((max kn up : Nat) : Int) M1) : zm_X7_skipFields l s0 G ca d C S w kn up e M Q X := by
  obtain ⟨hs, hp, hq, hmk, hs56, g1, g2, g3, g4, g5⟩ := id hS
  refine z_X7_skipFields Γ (by omega) hok hs hp hq hmk hs56 ?_
  unfold zt_X7_skipFields
  exact t_skFL Γ (by omega) hok hS hC hFA hNA he hw hkw hL hup hkn hP up kn M (by omega) (Nat.le_refl _) (fun h => absurd h (Nat.lt_irrefl _)) hG hr hb hQ
end TF9
