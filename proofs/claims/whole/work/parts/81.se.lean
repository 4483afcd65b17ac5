/-! ===== names, parts; the name of a node ===== -/
section SEs
variable {l : Launch} {s0 : State} {a0 : Array Value} {G : va_G} {ca : Nat → ClassId} {d : Nat} {C : Nat × Nat} {S : zS} {M : zM} {Q : Int → zM → Prop} {X : zM → Prop} {xs : List JR} {v : Nat} {p : Int} {NU : Nat} {st : SS}
/-- a word more among the names -/
def nmF (M M1 : zM) (p : Int) (NU : Nat) (ws : List Int32) : Prop := M1 (p + 21) 1 = ((NU + 1 + ws.length : Nat) : Int) ∧ wd (M1 (p + 22)) (NU + 1 + ws.length) NU ws ∧ ∀ a j : Int, ¬ (a = p + 22 ∧ (NU : Int) ≤ j) → ¬ (a = p + 21 ∧ j = 1) → M1 a j = M a j
theorem c_addN (Γ : rt_Γ l s0 a0 G ca) (hd : 2 ≤ d) (hok : zok C) (hS : sSh S p) {lu : Nat} {k : Int} {ws : List Int32} (hW : wd (M 23) lu k ws) (hlu : lu ≤ 4096) (hN : M (p + 21) 1 = NU) (hr : NU + 1 + ws.length ≤ 4096) (hQ : ∀ M1 : zM, nmF M M1 p NU ws → Q NU M1) : zm_X6_addName l s0 G ca d C S p 22 k M Q X := by
  obtain ⟨hs, hp, hs24, hs6, hp0⟩ := hS
  obtain ⟨L, rfl, h2, h3, h4⟩ := hW
  refine z_X6_addName Γ (by omega) hok hp ?_
  unfold zt_X6_addName
  have cs22 : zCe S 22 23 4096 := ⟨by decide, by decide, by decide, hs 22 _ rfl, hs 23 _ rfl⟩
  have c19 := hp.2.2.2.2.2.2.2.2.2.2.2.2.1
  refine ⟨23, 4096, cs22, ?_⟩
  rw [zat_in (by omega) (by omega) (by decide), h3, show (L : Int) + 1 + (ws.length : Int) = ((L + 1 + ws.length : Nat) : Int) by omega]
  refine z_addPart Γ hok c19 cs22 (u := NU) hN (by omega) (by omega) (by omega) (fun c => by omega) (fun _ => ?_) (by omega)
  rw [hN]
  have e1 : L + 1 + ws.length - L = 1 + ws.length := by omega
  rw [e1]
  refine hQ _ ⟨by rw [zu_s]; omega, ⟨NU, rfl, by omega, ?_, fun i hi => ?_⟩, fun a j n1 n2 => ?_⟩
  · rw [zu_a (by omega)]
    unfold zcp
    rw [if_pos ⟨rfl, by omega, by omega⟩, show (L : Int) + ((NU : Int) - NU) = L by omega]
    exact h3
  · rw [zu_a (by omega)]
    unfold zcp
    rw [if_pos ⟨rfl, by omega, by omega⟩, show (L : Int) + (((NU + 1 + i : Nat) : Int) - NU) = ((L + 1 + i : Nat) : Int) by omega]
    exact h4 i hi
  · by_cases c : a = p + 21
    · rw [zu_k (fun e => n2 ⟨c, e⟩)]
      exact if_neg (fun e => by omega)
    · rw [zu_a c]
      exact if_neg (fun e => n1 ⟨e.1, e.2.1⟩)
/-- parts are set aside -/
def apF (M M1 : zM) (p s : Int) (T ct : Nat) : Prop := M1 (p + 10) s = T ∧ M1 (p + 12) s = ct ∧ M1 (p + 13) 1 = ((T + ct : Nat) : Int) ∧ (∀ P : Nat, T ≤ P → P < T + ct → M1 (p + 16) P = -1 ∧ M1 (p + 18) P = -1 ∧ M1 (p + 20) P = -1) ∧
  ∀ a j : Int, ¬ (a = p + 10 ∧ j = s) → ¬ (a = p + 12 ∧ j = s) → ¬ (a = p + 13 ∧ j = 1) → ¬ ((a = p + 14 ∨ a = p + 16 ∨ a = p + 18 ∨ a = p + 20) ∧ (T : Int) ≤ j) → M1 a j = M a j
theorem c_apsL (Γ : rt_Γ l s0 a0 G ca) (hd : 1 ≤ d) (hok : zok C) (hp : zSc S p) {s : Int} {T ct : Nat} (hT : T + ct ≤ 2048) {M0 : zM} {w0 : rt_Wd} (hQ : ∀ M1 : zM, apF M0 M1 p s T ct → Q 0 M1) : ∀ (r k : Nat) (M : zM), k + r = ct → M (p + 10) s = T → M (p + 12) s = ct → M (p + 13) 1 = ((T + k : Nat) : Int) → (∀ P : Nat, T ≤ P → P < T + k → M (p + 16) P = -1 ∧ M (p + 18) P = -1 ∧ M (p + 20) P = -1) → (∀ a j : Int, ¬ (a = p + 10 ∧ j = s) → ¬ (a = p + 12 ∧ j = s) → ¬ (a = p + 13 ∧ j = 1) → ¬ ((a = p + 14 ∨ a = p + 16 ∨ a = p + 18 ∨ a = p + 20) ∧ (T : Int) ≤ j) → M a j = M0 a j) → zg_X6_addParts_26 l s0 G ca d C S w0 p ct k M Q X := by
  intro r
  induction r with
  | zero =>
    intro k M hk h8 h10 h11 hP hf
    refine zs_X6_addParts_26 Γ hd hok hp ?_
    unfold zt_X6_addParts_26
    rw [w32_id (by omega) (by omega), w32_id (by omega) (by omega)]
    refine ⟨fun _ => hQ _ ⟨h8, h10, ?_, fun P g1 g2 => hP P g1 (by omega), hf⟩, fun c => by omega⟩
    rw [h11, show k = ct by omega]
  | succ r ih =>
    intro k M hk h8 h10 h11 hP hf
    refine zs_X6_addParts_26 Γ hd hok hp ?_
    unfold zt_X6_addParts_26
    rw [w32_id (by omega) (by omega), w32_id (by omega) (by omega)]
    refine ⟨fun c => by omega, fun _ => ?_⟩
    rw [h11, (zadd_in h11 (by omega) (by omega) (by omega) (by omega)).1, zput_in (by omega) (by omega) (by decide), zput_in (by omega) (by omega) (by decide), zput_in (by omega) (by omega) (by decide), show (k : Int) + 1 = ((k + 1 : Nat) : Int) by omega]
    refine ih (k + 1) _ (by omega) ?_ ?_ ?_ (fun P g1 g2 => ?_) (fun a j n1 n2 n3 n4 => ?_)
    · rw [zu_a (by omega), zu_a (by omega), zu_a (by omega), zu_a (by omega), zu_a (by omega)]; exact h8
    · rw [zu_a (by omega), zu_a (by omega), zu_a (by omega), zu_a (by omega), zu_a (by omega)]; exact h10
    · rw [zu_a (by omega), zu_a (by omega), zu_a (by omega), zu_s]; omega
    · by_cases c : P = T + k
      · subst c
        refine ⟨?_, ?_, ?_⟩
        · rw [zu_a (by omega), zu_a (by omega), zu_s]
        · rw [zu_a (by omega), zu_s]
        · rw [zu_s]
      · obtain ⟨f1, f2, f3⟩ := hP P g1 (by omega)
        refine ⟨?_, ?_, ?_⟩
        · rw [zu_a (by omega), zu_a (by omega), zu_k (by omega), zu_a (by omega), zu_a (by omega)]; exact f1
        · rw [zu_a (by omega), zu_k (by omega), zu_a (by omega), zu_a (by omega), zu_a (by omega)]; exact f2
        · rw [zu_k (by omega), zu_a (by omega), zu_a (by omega), zu_a (by omega), zu_a (by omega)]; exact f3
    · have e : ∀ (b : Int) (x : Int), (b = p + 14 ∨ b = p + 16 ∨ b = p + 18 ∨ b = p + 20) → ¬ (a = b ∧ j = ((T + k : Nat) : Int)) := fun b x hb c => n4 ⟨by omega, by omega⟩
      unfold zu
      rw [if_neg (e _ 0 (by omega)), if_neg (e _ 0 (by omega)), if_neg (e _ 0 (by omega)), if_neg n3, if_neg (e _ 0 (by omega))]
      exact hf a j n1 n2 n3 n4
theorem c_aps (Γ : rt_Γ l s0 a0 G ca) (hd : 1 ≤ d) (hok : zok C) (hp : zSc S p) {s T ct : Nat} (hs : s < 134) (hM : M (p + 13) 1 = T) (hT : T + ct ≤ 2048) (hQ : ∀ M1 : zM, apF M M1 p s T ct → Q 0 M1) : zm_X6_addParts l s0 G ca d C S p s ct M Q X := by
  refine z_X6_addParts Γ hd hok hp ?_
  unfold zt_X6_addParts
  rw [hM, zput_in (by omega) (by omega) (by decide), zput_in (by omega) (by omega) (by decide)]
  refine c_apsL Γ hd hok hp hT hQ ct 0 _ (by omega) ?_ (zu_s _ _ _ _) ?_ (fun P g1 g2 => by omega) (fun a j n1 n2 n3 n4 => ?_)
  · rw [zu_a (by omega), zu_s]
  · rw [zu_a (by omega), zu_a (by omega), hM, Nat.add_zero]
  · unfold zu
    rw [if_neg n2, if_neg n1]
/-- the newest node's parts -/
theorem sC_cnt {M M1 : zM} {NU i ct : Nat} {n : SN} (hC : sC M p NU st) (hp : 30 ≤ p) (hwi : M (p + 8) ((6 + i : Nat) : Int) = -1) (hi : st.ns[i]? = some n) (hl : i + 1 = st.ns.length) (h0 : n.ct = 0) (hps : n.ps = []) (hk : ¬ (n.kd = 6 ∨ n.kd = 7)) (hT : nTot st.ns + ct ≤ 2048) (hA : apF M M1 p ((6 + i : Nat) : Int) (nTot st.ns) ct) : sC M1 p NU (sCnt st (6 + i) ct) := by
  obtain ⟨⟨a1, a2, a3⟩, ⟨b1, b2, b3, b4⟩, h6, hn, hd, ⟨c1, c2, c3⟩, l1, l2, l3, l4, l5, l6, hw⟩ := hC
  obtain ⟨x1, x2, x3, x4, hf⟩ := hA
  have hnN : nN st.ns (6 + i) = n := by
    unfold nN
    rw [if_neg (by omega), show 6 + i - 6 = i by omega, List.getD_eq_getElem?_getD, hi]
    rfl
  have est : sCnt st (6 + i) ct = (st.lk, st.kc, st.ns.set i (n.kd, n.nm, n.dt, ct, n.ps), st.lt) := by
    unfold sCnt nPut
    rw [hnN, show 6 + i - 6 = i by omega]
  have hti : nTot (st.ns.take i) = nTot st.ns := by
    have := nTot_take hi
    rw [hl, nTot_all] at this
    omega
  have htk : ∀ j : Nat, j ≤ i → (st.ns.set i (n.kd, n.nm, n.dt, ct, n.ps)).take j = st.ns.take j := fun j hj => by
    rw [List.take_set_of_le hj]
  have tot : nTot (st.ns.set i (n.kd, n.nm, n.dt, ct, n.ps)) = nTot st.ns + ct := by
    rw [← nTot_all, List.length_set, ← hl, nTot_take (n := (n.kd, n.nm, n.dt, ct, n.ps)) (List.getElem?_set_self (List.getElem?_eq_some_iff.mp hi).1), htk i (Nat.le_refl _), hti]
  have lw : ∀ a j : Int, ¬ a = p + 10 → ¬ a = p + 12 → ¬ a = p + 13 → ¬ a = p + 14 → ¬ a = p + 16 → ¬ a = p + 18 → ¬ a = p + 20 → M1 a j = M a j := fun a j _ _ _ _ _ _ _ => hf a j (by omega) (by omega) (by omega) (by omega)
  have late : ∀ z ∈ st.lt, nBs (st.ns.set i (n.kd, n.nm, n.dt, ct, n.ps)) z.1 = nBs st.ns z.1 := fun z hz => by
    unfold nBs
    have := l6 z hz
    by_cases c : z.1 - 6 ≤ i
    · rw [htk _ c]
    · exact absurd hl (by omega)
  have hlate := sLate_eq late
  rw [est]
  generalize hn' : ((n.kd, n.nm, n.dt, ct, n.ps) : SN) = n' at hlate tot htk ⊢
  unfold sC
  show (M1 24 5 = st.lk ∧ _ ∧ _) ∧ (M1 (p + 1) 1 = ((6 + (st.ns.set i n').length : Nat) : Int) ∧ M1 (p + 13) 1 = nTot (st.ns.set i n') ∧ _ ∧ _) ∧ _ ∧ (∀ (j : Nat) (n : SN), (st.ns.set i n')[j]? = some n → nC M1 p NU n (6 + j) (nTot ((st.ns.set i n').take j))) ∧ (∀ P : Nat, P < nTot (st.ns.set i n') → _) ∧ (M1 26 1 = (sLate (st.ns.set i n') st.lt).length ∧ M1 28 1 = (sLate (st.ns.set i n') st.lt).length ∧ ∀ (i9 : Nat) (z : Nat × Nat), (sLate (st.ns.set i n') st.lt)[i9]? = some z → _) ∧ (st.ns.set i n').length ≤ st.lk ∧ _ ∧ nTot (st.ns.set i n') ≤ 2048 ∧ _ ∧ st.lt.length ≤ st.lk ∧ (∀ z ∈ st.lt, z.1 < 6 + (st.ns.set i n').length) ∧ wOk M1 p (st.ns.set i n')
  rw [hlate, tot, List.length_set]
  refine ⟨⟨by rw [lw _ _ (by omega) (by omega) (by omega) (by omega) (by omega) (by omega) (by omega)]; exact a1, by rw [lw _ _ (by omega) (by omega) (by omega) (by omega) (by omega) (by omega) (by omega)]; exact a2, by rw [lw _ _ (by omega) (by omega) (by omega) (by omega) (by omega) (by omega) (by omega)]; exact a3⟩, ⟨by rw [lw _ _ (by omega) (by omega) (by omega) (by omega) (by omega) (by omega) (by omega)]; exact b1, x3, by rw [lw _ _ (by omega) (by omega) (by omega) (by omega) (by omega) (by omega) (by omega)]; exact b3, by rw [lw _ _ (by omega) (by omega) (by omega) (by omega) (by omega) (by omega) (by omega)]; exact b4⟩, fun j hj => ?_, fun j m hm => ?_, fun P hP => ?_, ⟨by rw [lw _ _ (by omega) (by omega) (by omega) (by omega) (by omega) (by omega) (by omega)]; exact c1, by rw [lw _ _ (by omega) (by omega) (by omega) (by omega) (by omega) (by omega) (by omega)]; exact c2, fun j z hz => ?_⟩, l1, l2, hT, l4, l5, l6, ?_⟩
  · rw [lw _ _ (by omega) (by omega) (by omega) (by omega) (by omega) (by omega) (by omega)]
    exact h6 j hj
  · by_cases hji : j = i
    · subst hji
      rw [List.getElem?_set_self (List.getElem?_eq_some_iff.mp hi).1] at hm
      cases hm
      rw [htk _ (Nat.le_refl _), hti]
      obtain ⟨k1, k2, k3, k4, k5, k6, k7⟩ := hn j n hi
      rw [← hn']
      refine ⟨?_, fun c => ?_, fun w v c => ?_, x2, fun _ => x1, fun c => absurd c hk, fun _ => ⟨?_, ?_, fun k hk9 => ?_⟩⟩
      · rw [lw _ _ (by omega) (by omega) (by omega) (by omega) (by omega) (by omega) (by omega)]; exact k1
      · rw [lw _ _ (by omega) (by omega) (by omega) (by omega) (by omega) (by omega) (by omega)]; exact k2 c
      · rw [lw _ _ (by omega) (by omega) (by omega) (by omega) (by omega) (by omega) (by omega)]; exact (k3 w v c).mono (Nat.le_refl _) (fun j9 _ _ => lw _ _ (by omega) (by omega) (by omega) (by omega) (by omega) (by omega) (by omega))
      · rw [lw _ _ (by omega) (by omega) (by omega) (by omega) (by omega) (by omega) (by omega)]; exact (k7 hk).1
      · show n.ps.length ≤ ct
        rw [hps]
        exact Nat.zero_le _
      · show pC M1 p NU n.kd (nTot st.ns + k) n.ps[k]?
        rw [hps]
        exact (x4 _ (by omega) (by have : k < ct := hk9; omega)).1
    · rw [List.getElem?_set_ne (fun e => hji e.symm)] at hm
      have hjl := (List.getElem?_eq_some_iff.mp hm).1
      have hjt := nTot_in hm
      rw [htk _ (by omega)]
      exact (hn j m hm).mono (Nat.le_refl _) (lw _ _ (by omega) (by omega) (by omega) (by omega) (by omega) (by omega) (by omega)) (lw _ _ (by omega) (by omega) (by omega) (by omega) (by omega) (by omega) (by omega)) (lw _ _ (by omega) (by omega) (by omega) (by omega) (by omega) (by omega) (by omega)) (hf _ _ (by omega) (by omega) (by omega) (by omega)) (hf _ _ (by omega) (by omega) (by omega) (by omega)) (fun P g1 g2 => hf _ _ (by omega) (by omega) (by omega) (by omega)) (fun P g1 g2 => hf _ _ (by omega) (by omega) (by omega) (by omega)) (fun q g1 g2 => lw _ _ (by omega) (by omega) (by omega) (by omega) (by omega) (by omega) (by omega))
  · by_cases c : P < nTot st.ns
    · rw [hf (p + 18) _ (by omega) (by omega) (by omega) (by omega), hf (p + 20) _ (by omega) (by omega) (by omega) (by omega)]
      exact hd P c
    · exact (x4 P (by omega) hP).2
  · rw [lw _ _ (by omega) (by omega) (by omega) (by omega) (by omega) (by omega) (by omega), lw _ _ (by omega) (by omega) (by omega) (by omega) (by omega) (by omega) (by omega)]
    exact c3 j z hz
  · refine hw.up (by rw [List.length_set]; exact Nat.le_refl _) (fun j _ => lw _ _ (by omega) (by omega) (by omega) (by omega) (by omega) (by omega) (by omega)) (fun j m hm => ?_)
    by_cases hji : j = i
    · subst hji
      rw [List.getElem?_set_self (List.getElem?_eq_some_iff.mp hi).1] at hm
      refine Or.inr ⟨(lw _ _ (by omega) (by omega) (by omega) (by omega) (by omega) (by omega) (by omega)).trans hwi, fun h9 => ?_⟩
      cases hm
      rw [← hn'] at h9 ⊢
      refine Int.lt_of_not_ge (fun h0 => ?_)
      have := hw.2.2 j n hi h9 h0
      have h0' : 0 ≤ n.dt := h0
      omega
    · rw [List.getElem?_set_ne (fun e => hji e.symm)] at hm
      exact Or.inl hm
/-- the part that has a name -/
theorem c_prtL (Γ : rt_Γ l s0 a0 G ca) (hd : 1 ≤ d) (hok : zok C) (hS : sSh S p) {lu : Nat} {k : Int} {ws : List Int32} (hW : wd (M 23) lu k ws) (hlu : lu ≤ 4096) (hNU : NU ≤ 4096) {n : SN} {s b : Nat} (hn : nC M p NU n s b) (hkd : n.kd = 10 ∨ n.kd = 11) (hs9 : s < 134) (hb : b + n.ct ≤ 2048) {v4 : Int} (hv4 : 0 < n.ct → v4 = b) {w0 : rt_Wd} : ∀ r j : Nat, j + r = n.ct → Q (oI (sPrtL ws (n.ps.drop j) j)) M → zg_X6_partNamed_13 l s0 G ca d C S w0 p s 22 k v4 j M Q X := by
  obtain ⟨hs, hp, hs24, hs6, hp0⟩ := hS
  obtain ⟨k1, k2, k3, k4, k5, k6, k7⟩ := hn
  obtain ⟨k8, k9, k10⟩ := k7 (by omega)
  have c19 := hp.2.2.2.2.2.2.2.2.2.2.2.2.1
  have cs22 : zCe S 22 23 4096 := ⟨by decide, by decide, by decide, hs 22 _ rfl, hs 23 _ rfl⟩
  intro r
  induction r with
  | zero =>
    intro j hj hQ
    refine zs_X6_partNamed_13 Γ hd hok hp ?_
    unfold zt_X6_partNamed_13
    rw [zat_in (by omega) (by omega) (by decide), k4, w32_id (by omega) (by omega), w32_id (by omega) (by omega)]
    refine ⟨fun _ => ?_, fun c => by omega⟩
    rw [List.drop_of_length_le (by omega)] at hQ
    exact hQ
  | succ r ih =>
    intro j hj hQ
    refine zs_X6_partNamed_13 Γ hd hok hp ?_
    unfold zt_X6_partNamed_13
    rw [zat_in (a := p + 12) (by omega) (by omega) (by decide), k4, w32_id (by omega) (by omega), w32_id (by omega) (by omega), hv4 (by omega), show (b : Int) + (j : Int) = ((b + j : Nat) : Int) by omega, zat_in (by omega) (by omega) (by decide)]
    refine ⟨fun c => by omega, fun _ => ?_⟩
    have hpc := k10 j (by omega)
    have nxt : Q (oI (sPrtL ws (n.ps.drop (j + 1)) (j + 1))) M → zg_X6_partNamed_13 l s0 G ca d C S w0 p s 22 k b ((j : Int) + 1) M Q X := fun h => by
      have := ih (j + 1) (by omega) h
      rw [hv4 (by omega)] at this
      rw [show (j : Int) + 1 = ((j + 1 : Nat) : Int) by omega]
      exact this
    cases hq : n.ps[j]? with
    | none =>
      rw [hq] at hpc
      have hle := List.getElem?_eq_none_iff.mp hq
      rw [show M (p + 16) ((b + j : Nat) : Int) = -1 from hpc]
      refine c_isw0 Γ hok c19 (by decide) ⟨fun _ => nxt ?_, fun c => absurd (by decide) c⟩
      rw [List.drop_of_length_le (by omega)] at hQ ⊢
      exact hQ
    | some q =>
      rw [hq] at hpc
      have hjl := (List.getElem?_eq_some_iff.mp hq).1
      have hdr : n.ps.drop j = q :: n.ps.drop (j + 1) := by
        rw [List.drop_eq_getElem_cons hjl, (List.getElem?_eq_some_iff.mp hq).2]
      rw [hdr] at hQ
      unfold sPrtL at hQ
      refine c_isw Γ hok c19 (by decide) cs22 (by decide) (hpc.2.1 (by omega)) hNU hW hlu ?_
      by_cases ce : q.nm = ws
      · rw [if_pos ce]
        rw [if_pos ce] at hQ
        exact ⟨fun c => absurd c (by decide), fun _ => hQ⟩
      · rw [if_neg ce]
        rw [if_neg ce] at hQ
        exact ⟨fun _ => nxt hQ, fun c => absurd (by decide) c⟩
theorem nN_at {ns : List SN} {i : Nat} {n : SN} (h : ns[i]? = some n) : nN ns (6 + i) = n := by
  unfold nN
  rw [if_neg (by omega), show 6 + i - 6 = i by omega, List.getD_eq_getElem?_getD, h]
  rfl
theorem c_prt (Γ : rt_Γ l s0 a0 G ca) (hd : 3 ≤ d) (hok : zok C) (hS : sSh S p) (hT : cTx M xs) (hv : v < xs.length) (hk : (xx xs v).kd = 3) (hC : sC M p NU st) {i : Nat} {n : SN} (hi : st.ns[i]? = some n) (hkd : n.kd = 10 ∨ n.kd = 11) (hQ : Q (oI (sPrt n.ps (xx xs v).ws)) M) : zm_X1_partSaid l s0 G ca d C S ((6 + i : Nat) : Int) v M Q X := by
  have hS0 := hS
  obtain ⟨hs, hp, hs24, hs6, hp0⟩ := hS
  refine z_X1_partSaid Γ (by omega) hok hs hp hs24 hs6 ?_
  unfold zt_X1_partSaid
  have hl := hT.2.2
  have hr := cRec_at hT hv
  obtain ⟨-, -, -, hn, -, -, l1, l2, l3, l4, -⟩ := hC
  have hil := (List.getElem?_eq_some_iff.mp hi).1
  have hti := nTot_in hi
  have hni := hn i n hi
  rw [c_zat (by omega)]
  refine z_X6_partNamed Γ (by omega) hok hp ?_
  unfold zt_X6_partNamed
  refine c_prtL Γ (by omega) hok hS0 (hr.2.2.2.2.2.2.1 hk).wd (by omega) l4 hni hkd (by omega) (by omega) (fun c => ?_) n.ct 0 (Nat.zero_add _) hQ
  rw [zat_in (by omega) (by omega) (by decide)]
  exact hni.2.2.2.2.1 c
end SEs
