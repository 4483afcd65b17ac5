/-! ===== kinds stay below 12; unions ===== -/
theorem nN_kd {st : SS} (h : kOk st) (s : Nat) : (nN st.ns s).kd < 12 := by
  unfold nN
  by_cases h6 : s < 6
  · rw [if_pos h6]
    show s < 12
    omega
  · rw [if_neg h6, List.getD_eq_getElem?_getD]
    cases hg : st.ns[s - 6]? with
    | none => show 0 < 12; decide
    | some n => exact h _ n hg
theorem kOk.put {st : SS} (h : kOk st) {s kc : Nat} {n : SN} {lt : List (Nat × Nat × Option Nat)} (hn : n.kd < 12) : kOk (st.lk, kc, nPut st.ns s n, lt) := by
  intro i m hm
  have hm2 : (st.ns.set (s - 6) n)[i]? = some m := hm
  by_cases c : i = s - 6
  · subst c
    rw [List.getElem?_set_self' ] at hm2
    cases hg : st.ns[s - 6]? with
    | none => rw [hg] at hm2; exact nomatch hm2
    | some q =>
      rw [hg] at hm2
      cases hm2
      exact hn
  · rw [List.getElem?_set_ne (fun e => c e.symm)] at hm2
    exact h i m hm2
theorem kOk.add {st : SS} (h : kOk st) {s : Nat} {nm : List Int32} {nd df : Option Nat} : kOk (sAdd st s nm nd df) := h.put (n := ((nN st.ns s).kd, (nN st.ns s).nm, (nN st.ns s).dt, (nN st.ns s).ct, (nN st.ns s).ps ++ [(nm, nd, df, st.kc)])) (nN_kd h s)
theorem kOk.cnt {st : SS} (h : kOk st) {s ct : Nat} : kOk (sCnt st s ct) := h.put (n := ((nN st.ns s).kd, (nN st.ns s).nm, (nN st.ns s).dt, ct, (nN st.ns s).ps)) (nN_kd h s)
theorem kOk.pt {st : SS} (h : kOk st) {s k n : Nat} : kOk (sPut st s k n) := h.put (n := ((nN st.ns s).kd, (nN st.ns s).nm, (nN st.ns s).dt, (nN st.ns s).ct, pSet (nN st.ns s).ps k n)) (nN_kd h s)
theorem kOk.det {st : SS} (h : kOk st) {s : Nat} {x : Int} : kOk (sDet st s x) := h.put (n := ((nN st.ns s).kd, (nN st.ns s).nm, x, (nN st.ns s).ct, (nN st.ns s).ps)) (nN_kd h s)
theorem kOk.new {st : SS} (h : kOk st) {kd ct : Nat} {nm : Option (List Int32 × Nat)} (hk : kd < 12) : kOk (sNew st kd nm ct) := by
  intro i m hm
  have hm2 : (st.ns ++ [(kd, nm, -1, ct, [])])[i]? = some m := hm
  by_cases c : i < st.ns.length
  · rw [List.getElem?_append_left c] at hm2
    exact h i m hm2
  · rw [List.getElem?_append_right (by omega)] at hm2
    have := List.mem_of_getElem? hm2
    rw [List.mem_singleton] at this
    subst this
    exact hk
def sKx (L : Nat → Bool → SS → Except (Nat × Nat) (Nat × SS)) : Prop := ∀ (v : Nat) (br : Bool) (st st1 : SS) (n : Nat), kOk st → L v br st = .ok (n, st1) → kOk st1
theorem sBrn_k {xs : List JR} {L : Nat → Bool → SS → Except (Nat × Nat) (Nat × SS)} (hL : sKx L) {s : Nat} : ∀ (l : List Nat) (st st1 : SS), kOk st → sBrn xs L s l st = .ok st1 → kOk st1 := by
  intro l
  induction l with
  | nil => intro st st1 hk h; cases h; exact hk
  | cons b l ih =>
    intro st st1 hk h
    unfold sBrn at h
    split at h
    · exact nomatch h
    · rename_i n st2 h2
      split at h
      · exact nomatch h
      · have hk2 := hL _ _ _ _ _ hk h2
        exact ih _ _ hk2.add h
theorem sSym_k {xs : List JR} {s : Nat} : ∀ (l : List Nat) (st st1 : SS), kOk st → sSym xs s l st = .ok st1 → kOk st1 := by
  intro l
  induction l with
  | nil => intro st st1 hk h; cases h; exact hk
  | cons b l ih =>
    intro st st1 hk h
    unfold sSym at h
    split at h
    · exact ih _ _ hk.add h
    · exact nomatch h
theorem sFbk_k {xs : List JR} {v s s1 : Nat} {st st1 : SS} (hk : kOk st) (h : sFbk xs v s st = .ok (s1, st1)) : kOk st1 := by
  unfold sFbk at h
  split at h
  · cases h; exact hk
  · split at h
    · split at h
      · cases h; exact hk.det
      · exact nomatch h
    · exact nomatch h
theorem sEnm_k {xs : List JR} {v s s1 : Nat} {st st1 : SS} (hk : kOk st) (h : sEnm xs v s st = .ok (s1, st1)) : kOk st1 := by
  unfold sEnm at h
  split at h
  · exact nomatch h
  · split at h
    · split at h
      · exact nomatch h
      · rename_i st2 h2
        exact sFbk_k (sSym_k _ _ _ hk.cnt h2) h
    · exact nomatch h
theorem sFix_k {xs : List JR} {v s s1 : Nat} {st st1 : SS} (hk : kOk st) (h : sFix xs v s st = .ok (s1, st1)) : kOk st1 := by
  unfold sFix at h
  split at h
  · exact nomatch h
  · split at h
    · cases h; exact hk.det
    · exact nomatch h
theorem sFld_k {xs : List JR} {L : Nat → Bool → SS → Except (Nat × Nat) (Nat × SS)} (hL : sKx L) {s f : Nat} {st st1 : SS} (hk : kOk st) (h : sFld xs L s f st = .ok st1) : kOk st1 := by
  unfold sFld at h
  split at h
  · split at h
    · exact nomatch h
    · split at h
      · split at h
        · split at h
          · exact nomatch h
          · split at h
            · exact nomatch h
            · rename_i m st2 h2
              cases h
              have hk2 := hL _ _ _ _ _ hk.add h2
              exact hk2.pt
        · exact nomatch h
      · exact nomatch h
  · exact nomatch h
theorem sFds_k {xs : List JR} {L : Nat → Bool → SS → Except (Nat × Nat) (Nat × SS)} (hL : sKx L) {s : Nat} : ∀ (l : List Nat) (st st1 : SS), kOk st → sFds xs L s l st = .ok st1 → kOk st1 := by
  intro l
  induction l with
  | nil => intro st st1 hk h; cases h; exact hk
  | cons b l ih =>
    intro st st1 hk h
    unfold sFds at h
    split at h
    · exact nomatch h
    · rename_i st2 h2
      exact ih _ _ (sFld_k hL hk h2) h
theorem sLook_k {xs : List JR} : ∀ m : Nat, sKx (sLook xs m) := by
  intro m
  induction m with
  | zero =>
    intro v br st st1 n hk h
    unfold sLook at h
    split at h
    · exact nomatch h
    · exact nomatch h
  | succ m ih =>
    intro v br st st1 n hk h
    unfold sLook at h
    have hk1 : kOk (st.lk + 1, st.2) := hk
    split at h
    · exact nomatch h
    · dsimp only at h
      split at h
      · rw [(sKnw_ok h).1]; exact hk1
      · split at h
        · split at h
          · exact nomatch h
          · unfold sUni at h
            split at h
            · split at h
              · exact nomatch h
              · rename_i st2 h2
                cases h
                exact sBrn_k ih _ _ _ (hk1.new (by decide)) h2
            · exact nomatch h
        · split at h
          · unfold sObj at h
            split at h
            · exact nomatch h
            · split at h
              · split at h
                · rw [(sKnw_ok h).1]; exact hk1
                · rename_i k9 hk9
                  have itm : ∀ (kd : Nat) (w : List Int32), kd < 12 → sItm xs (sLook xs m) v kd w (st.lk + 1, st.2) = .ok (n, st1) → kOk st1 := fun kd w hkd h => by
                    unfold sItm at h
                    split at h
                    · exact nomatch h
                    · split at h
                      · exact nomatch h
                      · rename_i n2 st2 h2
                        cases h
                        have hn := hk1.new (nm := none) (ct := 0) hkd
                        have hk2 := ih _ _ _ _ _ hn.add h2
                        exact hk2.pt
                  split at h
                  · exact itm _ _ (by decide) h
                  · split at h
                    · exact itm _ _ (by decide) h
                    · unfold sNmd at h
                      split at h
                      · exact nomatch h
                      · rename_i s2 st2 h2
                        obtain ⟨n9, -, -, g3, g4⟩ := sDfn_ok h2
                        have hk2 : kOk st2 := by rw [g4]; exact hk1.new (sCom_lt hk9).1
                        split at h
                        · exact sFix_k hk2 h
                        · split at h
                          · exact sEnm_k hk2 h
                          · unfold sRec at h
                            split at h
                            · exact nomatch h
                            · split at h
                              · split at h
                                · exact nomatch h
                                · rename_i st3 h3
                                  cases h
                                  exact sFds_k ih _ _ _ hk2.cnt h3
                              · exact nomatch h
              · exact nomatch h
          · exact nomatch h
/-- look keeps its promise, m levels from the deepest -/
def cLk (l : Launch) (s0 : State) (G : va_G) (ca : Nat → ClassId) (C : Nat × Nat) (S : zS) (xs : List JR) (p : Int) (m : Nat) : Prop :=
  ∀ (d v : Nat) (br : Bool) (st : SS) (M : zM) (NU : Nat) (Q : Int → zM → Prop) (X : zM → Prop), 8 * m + 20 ≤ d → v < xs.length → cTx M xs → sC M p NU st → kOk st → NU + wS xs v (xx xs v).sz ≤ 4096 → nTot st.ns + ((xx xs v).sz - 1) ≤ 2048 →
    (∀ e : Nat × Nat, sLook xs m v br st = .error e → cE p M Q e) → (∀ (n : Nat) (st1 : SS), sLook xs m v br st = .ok (n, st1) → cO p M Q NU (wS xs v (xx xs v).sz) ((xx xs v).sz - 1) st st1 n) →
    zm_X1_look l s0 G ca d C S v ((16 - m : Nat) : Int) (bB br) M Q X
section SKs
variable {l : Launch} {s0 : State} {a0 : Array Value} {G : va_G} {ca : Nat → ClassId} {d : Nat} {C : Nat × Nat} {S : zS} {M : zM} {Q : Int → zM → Prop} {X : zM → Prop} {xs : List JR} {v : Nat} {p : Int} {NU : Nat} {st : SS}
theorem c_uniL (Γ : rt_Γ l s0 a0 G ca) {m : Nat} (hd : 8 * m + 21 ≤ d) (hm : m + 1 ≤ 16) (hok : zok C) (hS : sSh S p) (hI : cLk l s0 G ca C S xs p m) {w0 : rt_Wd} {i ct : Nat} (hct : ct ≤ 16) : ∀ (r j nn k : Nat) (M : zM) (NU : Nat) (st : SS) (n : SN) (v5 : Int), kidsL r (xs.drop j) nn false → k + r = ct → (0 < r → v5 = j) → sC M p NU st → kOk st → cTx M xs → st.ns[i]? = some n → n.kd = 8 → n.ct = ct → n.ps.length = k → (∀ q ∈ n.ps, ∃ m : Nat, q.nd = some m ∧ m < 6 + st.ns.length) → NU + wS xs j nn ≤ 4096 → nTot st.ns + (nn - r) ≤ 2048 →
    (∀ e : Nat × Nat, sBrn xs (sLook xs m) (6 + i) (xKid xs r j) st = .error e → cE p M Q e) →
    (∀ st1 : SS, sBrn xs (sLook xs m) (6 + i) (xKid xs r j) st = .ok st1 → ∀ (M1 : zM) (NU1 : Nat), sC M1 p NU1 st1 → NU1 ≤ NU + wS xs j nn → nTot st1.ns ≤ nTot st.ns + (nn - r) → dfr p M M1 → Q ((6 + i : Nat) : Int) M1) →
    zg_X1_lookAtUnion_61 l s0 G ca d C S w0 p ((16 - (m + 1) : Nat) : Int) ct ((6 + i : Nat) : Int) v5 k M Q X := by
  have hS0 := hS
  obtain ⟨hs, hp, hs24, hs6, hp0⟩ := hS
  intro r
  induction r with
  | zero =>
    intro j nn k M NU st n v5 hkL hkr hv5 hC hK hT hi hkd hnc hpl hall hW hU kE kO
    refine zs_X1_lookAtUnion_61 Γ (by omega) hok hs hp hs24 hs6 ?_
    unfold zt_X1_lookAtUnion_61
    rw [w32_id (by omega) (by omega), w32_id (by omega) (by omega)]
    exact ⟨fun _ => kO st rfl M NU hC (by omega) (by omega) dfr.rf, fun c => by omega⟩
  | succ r ih =>
    intro j nn k M NU st n v5 hkL hkr hv5 hC hK hT hi hkd hnc hpl hall hW hU kE kO
    obtain ⟨g1, g2, g3, g4, g5, g6⟩ := kidsL_step hkL
    have g7 := kidsL_le g6
    have hl := hT.2.2
    have hw1 : wS xs j nn = wS xs j (xx xs j).sz + wS xs (j + (xx xs j).sz) (nn - (xx xs j).sz) := by
      rw [← wS_add, show (xx xs j).sz + (nn - (xx xs j).sz) = nn by omega]
    refine zs_X1_lookAtUnion_61 Γ (by omega) hok hs hp hs24 hs6 ?_
    unfold zt_X1_lookAtUnion_61
    rw [w32_id (by omega) (by omega), w32_id (by omega) (by omega), hv5 (by omega), show ((16 - (m + 1) : Nat) : Int) + 1 = ((16 - m : Nat) : Int) by omega]
    refine ⟨fun c => by omega, fun _ => ?_⟩
    rw [show xKid xs (r + 1) j = j :: xKid xs r (j + (xx xs j).sz) from rfl] at kE kO
    have bad : ∀ (x : Int) (e : Nat × Nat) (M2 : zM), sF M2 e → sBrn xs (sLook xs m) (6 + i) (j :: xKid xs r (j + (xx xs j).sz)) st = .error e → dfr p M M2 → zt_X1_lookAtUnion_108 l s0 G ca d C S w0 p ((16 - (m + 1) : Nat) : Int) ct ((6 + i : Nat) : Int) (j : Int) k x M2 Q X := fun x e M2 f1 he f2 => by
      unfold zt_X1_lookAtUnion_108
      exact ⟨fun c => absurd c (sF_ne f1), fun _ => kE e he _ M2 f1 f2⟩
    refine hI (d - 1) j true st M NU _ X (by omega) g1 hT hC hK (by omega) (by omega) (fun e he x M1 f1 f2 => ?_) (fun nd st1 he M1 NU1 h1 h2 h3 h4 => ?_)
    · exact ⟨fun c => absurd c (sF_ne f1), fun _ => bad x e M1 f1 (by unfold sBrn; rw [he]) f2⟩
    · obtain ⟨⟨x1, x2, x3, x4⟩, hndl, -⟩ := sLook_ok m _ _ _ _ _ he
      have hil := (List.getElem?_eq_some_iff.mp hi).1
      have hi1 : st1.ns[i]? = some n := (x2 i hil).trans hi
      have hall1 : ∀ q ∈ n.ps, ∃ m : Nat, q.nd = some m ∧ m < 6 + st1.ns.length := fun q hq => by
        obtain ⟨m9, y1, y2⟩ := hall q hq
        exact ⟨m9, y1, by omega⟩
      have hK1 := sLook_k m _ _ _ _ _ hK he
      have h0 := h1.1.2.1
      have hT1 := hT.dfr h4
      have cons : sBrn xs (sLook xs m) (6 + i) (j :: xKid xs r (j + (xx xs j).sz)) st = if sLik st1.ns (6 + i) nd = true then .error (6, (xx xs j).bg) else sBrn xs (sLook xs m) (6 + i) (xKid xs r (j + (xx xs j).sz)) (sAdd st1 (6 + i) [] (some nd) none) := by
        show (match sLook xs m j true st with | .error e => _ | .ok (n, st1) => _) = _
        rw [he]
      refine ⟨fun _ => ?_, fun c => absurd (by rw [h0]; decide) c⟩
      refine c_lik Γ (by omega) hok hS0 h1 hK1 hi1 hkd hall1 hpl.symm hndl ?_
      refine ⟨fun c => ?_, fun c => ?_⟩
      · have hlk := w32_bB.mp c
        rw [if_neg (by rw [hlk]; exact fun h => nomatch h)] at cons
        have hg := h1.2.2.2.2.2.2.1
        have hlk1 := h1.2.2.2.2.2.2.2.1
        have h2048 := h1.2.2.2.2.2.2.2.2.1
        have htn := nTot_in hi1
        have hnC := h1.2.2.2.1 i n hi1
        unfold zt_X1_lookAtUnion_108
        refine ⟨fun _ => ?_, fun c9 => absurd (by rw [h0]; decide) c9⟩
        rw [zat_in (a := p + 10) (by omega) (by omega) (by decide), hnC.2.2.2.2.1 (by omega), show (nTot (st1.ns.take i) : Int) + (k : Int) = ((nTot (st1.ns.take i) + k : Nat) : Int) by omega, zput_in (by omega) (by omega) (by decide)]
        have hC2 := sC_addU h1 hp0 hi1 hkd (by omega) nd
        rw [hpl] at hC2
        have hd2 : dfr p M (zu M1 (p + 14) ((nTot (st1.ns.take i) + k : Nat) : Int) nd) := h4.zu (by omega)
        have hT2 := hT.dfr hd2
        have ens : (sAdd st1 (6 + i) [] (some nd) none).ns = nPut st1.ns (6 + i) (n.kd, n.nm, n.dt, n.ct, n.ps ++ [([], some nd, none, st1.kc)]) := by
          unfold sAdd
          rw [nN_at hi1]
        have hi2 : (sAdd st1 (6 + i) [] (some nd) none).ns[i]? = some (n.kd, n.nm, n.dt, n.ct, n.ps ++ [([], some nd, none, st1.kc)]) := by rw [ens]; exact nPut_at hi1
        have htot : nTot (sAdd st1 (6 + i) [] (some nd) none).ns = nTot st1.ns := by rw [ens]; exact (nPut_tot (n' := (n.kd, n.nm, n.dt, n.ct, n.ps ++ [([], some nd, none, st1.kc)])) hi1 rfl).1
        have hlen : (sAdd st1 (6 + i) [] (some nd) none).ns.length = st1.ns.length := by rw [ens]; exact nPut_len
        rw [show (k : Int) + 1 = ((k + 1 : Nat) : Int) by omega]
        refine ih (j + (xx xs j).sz) (nn - (xx xs j).sz) (k + 1) _ _ _ _ _ g6 (by omega) (fun h => c_next hT2 hkL h) hC2 hK1.add hT2 hi2 hkd hnc (by rw [← hpl]; exact List.length_append) (fun q hq => ?_) (by omega) (by omega) (fun e he2 => (kE e (cons.trans he2)).fr hd2) (fun st3 y1 M3 NU3 y3 y4 y5 y6 => kO st3 (cons.trans y1) M3 NU3 y3 (by omega) (by omega) (hd2.tr y6))
        rw [hlen]
        rcases List.mem_append.mp hq with g | g
        · exact hall1 q g
        · rw [List.mem_singleton] at g
          subst g
          exact ⟨nd, rfl, hndl⟩
      · have hlk : sLik st1.ns (6 + i) nd = true := by
          cases hb : sLik st1.ns (6 + i) nd with
          | true => rfl
          | false => exact absurd (w32_bB.mpr hb) c
        rw [if_pos hlk] at cons
        exact c_fail (k := 6) Γ (by omega) hok hS0 hT1 g1 (by decide) h0 (fun M2 f1 f2 => bad _ (6, (xx xs j).bg) M2 f1 cons (h4.tr f2))
end SKs
