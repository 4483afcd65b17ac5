/-! ===== the Drafter's enums ===== -/
theorem nPut_at {ns : List SN} {i : Nat} {n n' : SN} (hi : ns[i]? = some n) : (nPut ns (6 + i) n')[i]? = some n' := by
  unfold nPut
  rw [show 6 + i - 6 = i by omega]
  exact List.getElem?_set_self (List.getElem?_eq_some_iff.mp hi).1
theorem nPut_tot {ns : List SN} {i : Nat} {n n' : SN} (hi : ns[i]? = some n) (hct : n'.ct = n.ct) : nTot (nPut ns (6 + i) n') = nTot ns ∧ ∀ j : Nat, nTot ((nPut ns (6 + i) n').take j) = nTot (ns.take j) := by
  unfold nPut
  rw [show 6 + i - 6 = i by omega]
  have h := nTot_set hi hct
  refine ⟨?_, h⟩
  have := h ns.length
  rw [nTot_all, List.take_of_length_le (by rw [List.length_set]; exact Nat.le_refl _)] at this
  exact this
theorem nPut_len {ns : List SN} {s : Nat} {n' : SN} : (nPut ns s n').length = ns.length := List.length_set
section SIs
variable {l : Launch} {s0 : State} {a0 : Array Value} {G : va_G} {ca : Nat → ClassId} {d : Nat} {C : Nat × Nat} {S : zS} {M : zM} {Q : Int → zM → Prop} {X : zM → Prop} {xs : List JR} {v : Nat} {p : Int} {NU : Nat} {st : SS}
theorem c_fbk (Γ : rt_Γ l s0 a0 G ca) (hd : 10 ≤ d) (hok : zok C) (hS : sSh S p) (hT : cTx M xs) (hv : v < xs.length) (hk : (xx xs v).kd = 1) (hC : sC M p NU st) {i : Nat} {n : SN} (hi : st.ns[i]? = some n) (hkd : n.kd = 10)
    (kE : ∀ e : Nat × Nat, sFbk xs v (6 + i) st = .error e → cE p M Q e) (kO : ∀ st1 : SS, sFbk xs v (6 + i) st = .ok (6 + i, st1) → nTot st1.ns = nTot st.ns → ∀ M1 : zM, sC M1 p NU st1 → dfr p M M1 → Q ((6 + i : Nat) : Int) M1) : zm_X1_lookAtFallback l s0 G ca d C S v ((6 + i : Nat) : Int) M Q X := by
  have hS0 := hS
  obtain ⟨hs, hp, hs24, hs6, hp0⟩ := hS
  refine z_X1_lookAtFallback Γ (by omega) hok hs hp hs24 hs6 ?_
  unfold zt_X1_lookAtFallback
  intro q5 h5
  refine c_mem Γ (by omega) hok hs hs6 hT hv hk h5 ?_
  have hl := hT.2.2
  have h0 := hC.1.2.1
  have hil := (List.getElem?_eq_some_iff.mp hi).1
  have hg := hC.2.2.2.2.2.2.1
  have hlk := hC.2.2.2.2.2.2.2.1
  have hnC := hC.2.2.2.1 i n hi
  unfold sFbk at kE kO
  rw [nN_at hi] at kE kO
  cases hm : xMem xs v (iw [100, 101, 102, 97, 117, 108, 116]) with
  | none =>
    rw [hm] at kO
    exact ⟨fun _ => kO st rfl rfl M hC dfr.rf, fun c => absurd (by decide) c⟩
  | some m =>
    rw [hm] at kE kO
    dsimp only at kE kO
    obtain ⟨m1, m2, hmx⟩ := xMem_mem hT.2.1 hv hm
    refine ⟨fun c => by rw [oI_w (by omega)] at c; omega, fun _ => ?_⟩
    refine ⟨fun c => ?_, fun c => ?_⟩
    · have hk3 := (c_iss hT hmx).mp c
      unfold zt_X1_lookAtFallback_39
      refine ⟨fun _ => ?_, fun c9 => absurd (by decide) c9⟩
      exact c_fail (k := 12) Γ (by omega) hok hS0 hT hmx (by decide) h0 (fun M1 f1 f2 => kE (12, (xx xs m).bg) (if_neg hk3) _ M1 f1 f2)
    · have hk3 : (xx xs m).kd = 3 := Decidable.not_not.mp (fun h => c ((c_iss hT hmx).mpr h))
      rw [if_pos hk3] at kE kO
      show zm_X1_partSaid l s0 G ca (d - 1) C S ((6 + i : Nat) : Int) (m : Int) M _ X
      refine c_prt Γ (by omega) hok hS0 hT hmx hk3 hC hi (Or.inl hkd) ?_
      unfold zt_X1_lookAtFallback_39
      have hbd : ∀ (w : List Int32) (ps : List SP) (j k : Nat), sPrtL w ps j = some k → k < j + ps.length := by
        intro w ps
        induction ps with
        | nil => intro j k h; exact nomatch h
        | cons q r ih =>
          intro j k h
          unfold sPrtL at h
          rw [List.length_cons]
          split at h
          · cases h; omega
          · have := ih _ _ h; omega
      have hpl := (hnC.2.2.2.2.2.2 (by omega)).2.1
      have htn := nTot_in hi
      have h3 := hC.2.2.2.2.2.2.2.2.1
      cases hq : sPrt n.ps (xx xs m).ws with
      | none =>
        rw [hq] at kE
        refine ⟨fun _ => ?_, fun c9 => absurd (by decide) c9⟩
        exact c_fail (k := 12) Γ (by omega) hok hS0 hT hmx (by decide) h0 (fun M1 f1 f2 => kE (12, (xx xs m).bg) rfl _ M1 f1 f2)
      | some k =>
        rw [hq] at kO
        have hkb := hbd _ _ _ _ hq
        refine ⟨fun c9 => by rw [oI_w (by omega)] at c9; omega, fun _ => ?_⟩
        rw [zput_in (by omega) (by omega) (by decide)]
        refine kO (sDet st (6 + i) k) rfl ?_ _ (sC_det hC hp0 hi (by omega) (by omega) (hC.2.2.2.2.2.2.2.2.2.2.2.2.none hi (fun c => by omega) (fun c => by omega)) _) (dfr.rf.zu (by omega))
        unfold sDet
        rw [nN_at hi]
        exact (nPut_tot (n' := (n.kd, n.nm, (k : Int), n.ct, n.ps)) hi rfl).1
theorem cE.fr {M1 : zM} {e : Nat × Nat} (h : cE p M Q e) (hd : dfr p M M1) : cE p M1 Q e := fun x M2 f1 f2 => h x M2 f1 (hd.tr f2)
def sSF (xs : List JR) (v s : Nat) (l : List Nat) (st : SS) : Except (Nat × Nat) (Nat × SS) :=
  match sSym xs s l st with
  | .error e => .error e
  | .ok st1 => sFbk xs v s st1
theorem sSF_cons {s b : Nat} {bs : List Nat} : sSF xs v s (b :: bs) st = if (xx xs b).kd = 3 ∧ sNam (xx xs b).ws = true ∧ sPrt (nN st.ns s).ps (xx xs b).ws = none then sSF xs v s bs (sAdd st s (xx xs b).ws none none) else .error (11, (xx xs b).bg) := by
  unfold sSF
  rw [show sSym xs s (b :: bs) st = if (xx xs b).kd = 3 ∧ sNam (xx xs b).ws = true ∧ sPrt (nN st.ns s).ps (xx xs b).ws = none then sSym xs s bs (sAdd st s (xx xs b).ws none none) else .error (11, (xx xs b).bg) from rfl]
  by_cases c : (xx xs b).kd = 3 ∧ sNam (xx xs b).ws = true ∧ sPrt (nN st.ns s).ps (xx xs b).ws = none
  · rw [if_pos c, if_pos c]
  · rw [if_neg c, if_neg c]
theorem sPrtL_lt (w : List Int32) : ∀ (ps : List SP) (j k : Nat), sPrtL w ps j = some k → k < j + ps.length := by
  intro ps
  induction ps with
  | nil => intro j k h; exact nomatch h
  | cons q r ih =>
    intro j k h
    unfold sPrtL at h
    rw [List.length_cons]
    split at h
    · cases h; omega
    · have := ih _ _ h; omega
/-- the next of siblings -/
theorem c_next (hT : cTx M xs) {r j nn : Nat} {o : Bool} (hk : kidsL (r + 1) (xs.drop j) nn o) : 0 < r → zat M 12 2073 (j : Int) = ((j + (xx xs j).sz : Nat) : Int) := by
  intro h
  obtain ⟨g1, g2, g3, g4, g5, g6⟩ := kidsL_step hk
  have hl := hT.2.2
  have hr := cRec_at hT g1
  rw [c_zat (by omega), hr.2.2.2.2.1, g4, if_pos (decide_eq_true h)]
/-- the symbols from one of them on -/
theorem c_symL (Γ : rt_Γ l s0 a0 G ca) (hd : 12 ≤ d) (hok : zok C) (hS : sSh S p) (hv : v < xs.length) (hk : (xx xs v).kd = 1) {w0 : rt_Wd} {i ct : Nat} (hct : ct ≤ 32) : ∀ (r j nn k : Nat) (M : zM) (NU : Nat) (st : SS) (n : SN) (v5 : Int), kidsL r (xs.drop j) nn false → k + r = ct → (0 < r → v5 = j) → sC M p NU st → cTx M xs → st.ns[i]? = some n → n.kd = 10 → n.ct = ct → n.ps.length = k → NU + wS xs j nn ≤ 4096 →
    (∀ e : Nat × Nat, sSF xs v (6 + i) (xKid xs r j) st = .error e → cE p M Q e) →
    (∀ st1 : SS, sSF xs v (6 + i) (xKid xs r j) st = .ok (6 + i, st1) → nTot st1.ns = nTot st.ns → ∀ (M1 : zM) (NU1 : Nat), sC M1 p NU1 st1 → NU1 ≤ NU + wS xs j nn → dfr p M M1 → Q ((6 + i : Nat) : Int) M1) →
    zg_X1_lookAtEnum_107 l s0 G ca d C S w0 p v ((6 + i : Nat) : Int) ct v5 k M Q X := by
  have hS0 := hS
  obtain ⟨hs, hp, hs24, hs6, hp0⟩ := hS
  intro r
  induction r with
  | zero =>
    intro j nn k M NU st n v5 hkL hkr hv5 hC hT hi hkd hnc hpl hW kE kO
    refine zs_X1_lookAtEnum_107 Γ (by omega) hok hs hp hs24 hs6 ?_
    unfold zt_X1_lookAtEnum_107
    rw [w32_id (by omega) (by omega), w32_id (by omega) (by omega)]
    refine ⟨fun _ => ?_, fun c => by omega⟩
    exact c_fbk Γ (by omega) hok hS0 hT hv hk hC hi hkd (fun e he => kE e he) (fun st1 h1 h2 M1 h3 h4 => kO st1 h1 h2 M1 NU h3 (by omega) h4)
  | succ r ih =>
    intro j nn k M NU st n v5 hkL hkr hv5 hC hT hi hkd hnc hpl hW kE kO
    obtain ⟨g1, g2, g3, g4, g5, g6⟩ := kidsL_step hkL
    have hl := hT.2.2
    have h0 := hC.1.2.1
    have hil := (List.getElem?_eq_some_iff.mp hi).1
    have hg := hC.2.2.2.2.2.2.1
    have hlk := hC.2.2.2.2.2.2.2.1
    have htn := nTot_in hi
    have h2048 := hC.2.2.2.2.2.2.2.2.1
    have hnC := hC.2.2.2.1 i n hi
    refine zs_X1_lookAtEnum_107 Γ (by omega) hok hs hp hs24 hs6 ?_
    unfold zt_X1_lookAtEnum_107
    rw [w32_id (by omega) (by omega), w32_id (by omega) (by omega), hv5 (by omega)]
    refine ⟨fun c => by omega, fun _ => ?_⟩
    rw [show xKid xs (r + 1) j = j :: xKid xs r (j + (xx xs j).sz) from rfl] at kE kO
    have cons := sSF_cons (xs := xs) (v := v) (st := st) (s := 6 + i) (b := j) (bs := xKid xs r (j + (xx xs j).sz))
    rw [nN_at hi] at cons
    have no : ¬ ((xx xs j).kd = 3 ∧ sNam (xx xs j).ws = true ∧ sPrt n.ps (xx xs j).ws = none) → zm_X1_fail l s0 G ca (d - 1) C S 11 (j : Int) M (fun r151 M151 => Q r151 M151) X := fun h =>
      c_fail (k := 11) Γ (by omega) hok hS0 hT g1 (by decide) h0 (fun M1 f1 f2 => kE (11, (xx xs j).bg) (cons.trans (if_neg h)) _ M1 f1 f2)
    refine ⟨fun c => no (fun h => (c_iss hT g1).mp c h.1), fun c => ?_⟩
    have hk3 : (xx xs j).kd = 3 := Decidable.not_not.mp (fun h => c ((c_iss hT g1).mpr h))
    refine c_nam Γ (by omega) hok hs hp hs24 hs6 hT g1 hk3 ?_
    refine ⟨fun c1 => no (fun h => w32_bI.mp c1 h.2.1), fun c1 => ?_⟩
    have hnm : sNam (xx xs j).ws = true := Decidable.not_not.mp (fun h => c1 (w32_bI.mpr h))
    refine c_prt Γ (by omega) hok hS0 hT g1 hk3 hC hi (Or.inl hkd) ?_
    have bp := oI_none (o := sPrt n.ps (xx xs j).ws) (fun m h => by have := sPrtL_lt _ _ _ _ h; omega)
    refine ⟨fun c2 => ?_, fun c2 => no (fun h => c2 (bp.mpr h.2.2))⟩
    have hpn := bp.mp c2
    rw [if_pos ⟨hk3, hnm, hpn⟩] at cons
    have hr := cRec_at hT g1
    have hw1 : wS xs j nn = wS xs j (xx xs j).sz + wS xs (j + (xx xs j).sz) (nn - (xx xs j).sz) := by
      rw [← wS_add, show (xx xs j).sz + (nn - (xx xs j).sz) = nn by omega]
    have hw2 := wS_one (xs := xs) (i := j) g2
    have hw3 := jlw_w hk3
    rw [c_zat (by omega)]
    refine c_addN Γ (by omega) hok hS0 (hr.2.2.2.2.2.2.1 hk3).wd (by omega) hC.2.1.2.2.1 (by omega) (fun M1 hF => ?_)
    rw [zat_in (a := p + 10) (by omega) (by omega) (by decide), hnC.2.2.2.2.1 (by omega), show (nTot (st.ns.take i) : Int) + (k : Int) = ((nTot (st.ns.take i) + k : Nat) : Int) by omega, zput_in (by omega) (by omega) (by decide)]
    have hC2 := sC_addW hC hp0 hi (Or.inl hkd) (by omega) (by omega) hF none
    rw [hpl] at hC2
    have hd2 : dfr p M (zu M1 (p + 16) ((nTot (st.ns.take i) + k : Nat) : Int) NU) := (hF.dfr hp0).zu (by omega)
    have hT2 := hT.dfr hd2
    have hi2 : (sAdd st (6 + i) (xx xs j).ws none none).ns[i]? = some (n.kd, n.nm, n.dt, n.ct, n.ps ++ [((xx xs j).ws, none, none, st.kc)]) := by
      unfold sAdd
      rw [nN_at hi]
      exact nPut_at hi
    have htot : nTot (sAdd st (6 + i) (xx xs j).ws none none).ns = nTot st.ns := by
      unfold sAdd
      rw [nN_at hi]
      exact (nPut_tot (n' := (n.kd, n.nm, n.dt, n.ct, n.ps ++ [((xx xs j).ws, none, none, st.kc)])) hi rfl).1
    rw [show (k : Int) + 1 = ((k + 1 : Nat) : Int) by omega]
    refine ih (j + (xx xs j).sz) (nn - (xx xs j).sz) (k + 1) _ _ _ _ _ g6 (by omega) (fun h => c_next hT2 hkL h) hC2 hT2 hi2 hkd hnc (by rw [← hpl]; exact List.length_append) (by omega) (fun e he => (kE e (cons.trans he)).fr hd2) (fun st1 h1 h2 M3 NU3 h3 h4 h5 => kO st1 (cons.trans h1) (h2.trans htot) M3 NU3 h3 (by omega) (hd2.tr h5))
theorem c_enm (Γ : rt_Γ l s0 a0 G ca) (hd : 14 ≤ d) (hok : zok C) (hS : sSh S p) (hT : cTx M xs) (hv : v < xs.length) (hk : (xx xs v).kd = 1) (hC : sC M p NU st) (hlt : st.ns.length < st.lk) {L : Nat → Bool → SS → Except (Nat × Nat) (Nat × SS)} (hr : NU + wS xs v (xx xs v).sz ≤ 4096) (hU : nTot st.ns + ((xx xs v).sz - 1) ≤ 2048)
    (kE : ∀ e : Nat × Nat, sNmd xs L v 10 st = .error e → cE p M Q e) (kO : ∀ (n : Nat) (st1 : SS), sNmd xs L v 10 st = .ok (n, st1) → cO p M Q NU (wS xs v (xx xs v).sz) ((xx xs v).sz - 1) st st1 n) : zm_X1_lookAtEnum l s0 G ca d C S v M Q X := by
  have hS0 := hS
  obtain ⟨hs, hp, hs24, hs6, hp0⟩ := hS
  refine z_X1_lookAtEnum Γ (by omega) hok hs hp hs24 hs6 ?_
  unfold zt_X1_lookAtEnum
  refine c_dfn (kd := 10) Γ (by omega) hok hS0 hT hv hk hC hlt hr (fun e he x M1 f1 f2 => ⟨fun c => absurd c (sF_ne f1), fun _ => kE e (by unfold sNmd; rw [he]) x M1 f1 f2⟩) (fun n hn hk3 he M1 hC1 hd1 hw1 => ?_)
  have sm : sNmd xs L v 10 st = sEnm xs v (sNum st) (sNew st 10 (some ((xx xs n).ws, n)) 0) := by unfold sNmd; rw [he]; rfl
  rw [sm] at kE kO
  have h0 := hC1.1.2.1
  have hT1 := hT.dfr hd1
  have hl := hT.2.2
  have hat : (sNew st 10 (some ((xx xs n).ws, n)) 0).ns[st.ns.length]? = some (10, some ((xx xs n).ws, n), -1, 0, []) := sNew_at
  have htot : nTot (sNew st 10 (some ((xx xs n).ws, n)) 0).ns = nTot st.ns := by
    show nTot (st.ns ++ [_]) = _
    rw [nTot_app]
    rfl
  refine ⟨fun _ => ?_, fun c => absurd (by rw [h0]; decide) c⟩
  intro q22 h22
  refine c_mem Γ (by omega) hok hs hs6 hT1 hv hk h22 ?_
  unfold sEnm at kE kO
  cases hm : xMem xs v (iw [115, 121, 109, 98, 111, 108, 115]) with
  | none =>
    rw [hm] at kE
    refine ⟨fun _ => ?_, fun c => absurd (by decide) c⟩
    exact c_fail (k := 8) Γ (by omega) hok hS0 hT1 hv (by decide) h0 (fun M2 f1 f2 => kE (8, (xx xs v).bg) rfl _ M2 f1 (hd1.tr f2))
  | some t =>
    rw [hm] at kE kO
    dsimp only at kE kO
    obtain ⟨m1, m2, htx⟩ := xMem_mem hT.2.1 hv hm
    have hrt := cRec_at hT1 htx
    obtain ⟨hkt, -, hsz, hsz2, hln, hkids, -⟩ := jWf_at hT.2.1 htx
    have two := xMem_two hT.2.1 hv hn hm (by decide)
    obtain ⟨-, -, hnx⟩ := xMem_mem hT.2.1 hv hn
    have hw2 := wS_one (xs := xs) (i := n) (n := (xx xs n).sz) (jWf_at hT.2.1 hnx).2.2.1
    have hw3 := jlw_w hk3
    have no : ¬ ((xx xs t).kd = 2 ∧ 1 ≤ (xx xs t).len ∧ (xx xs t).len ≤ 32) → zm_X1_fail l s0 G ca (d - 1) C S 11 (t : Int) M1 (fun r80 M80 => Q r80 M80) X := fun h =>
      c_fail (k := 11) Γ (by omega) hok hS0 hT1 htx (by decide) h0 (fun M2 f1 f2 => kE (11, (xx xs t).bg) (if_neg h) _ M2 f1 (hd1.tr f2))
    rw [show oI (some t) = (t : Int) from rfl]
    refine ⟨fun c => by rw [w32_id (by omega) (by omega)] at c; omega, fun _ => ?_⟩
    rw [c_zat (by omega), hrt.1, w32_id (x := ((xx xs t).kd : Int)) (by omega) (by omega)]
    refine ⟨fun c1 => ?_, fun c1 => no (fun h => c1 (by rw [h.1]; rfl))⟩
    have hk2 : (xx xs t).kd = 2 := by omega
    have hkL := hkids (Or.inr hk2)
    rw [decide_eq_false (by omega)] at hkL
    have hle := kidsL_le hkL
    rw [c_zat (by omega), hrt.2.2.1, w32_id (x := ((xx xs t).len : Int)) (by omega) (by omega)]
    refine ⟨fun c2 => no (fun h => by omega), fun c2 => ⟨fun c3 => ?_, fun c3 => no (fun h => by omega)⟩⟩
    rw [if_pos ⟨hk2, by omega, by omega⟩] at kE kO
    have hg := hC1.2.2.2.2.2.2.1
    have hlk := hC1.2.2.2.2.2.2.2.1
    rw [sNew_len] at hg
    show zm_X6_addParts l s0 G ca (d - 1) C S p ((sNum st : Nat) : Int) _ M1 _ X
    refine c_aps Γ (by omega) hok hp (s := sNum st) (T := nTot st.ns) (by unfold sNum; have : (sNew st 10 (some ((xx xs n).ws, n)) 0).lk = st.lk := rfl; omega) (by rw [← htot]; exact hC1.2.1.2.1) (by omega) (fun M2 hA => ?_)
    have hA2 : apF M1 M2 p ((6 + st.ns.length : Nat) : Int) (nTot (sNew st 10 (some ((xx xs n).ws, n)) 0).ns) (xx xs t).len := by rw [htot]; exact hA
    have hC2 := sC_cnt hC1 hp0 hw1 hat sNew_len.symm rfl rfl (show ¬ (10 = 6 ∨ 10 = 7) by decide) (by rw [htot]; omega) hA2
    have hd2 : dfr p M M2 := hd1.tr (fun a ha => funext fun j => hA.2.2.2.2 a j (by omega) (by omega) (by omega) (by omega))
    have hT2 := hT.dfr hd2
    have hrt2 := cRec_at hT2 htx
    have hi2 : (sCnt (sNew st 10 (some ((xx xs n).ws, n)) 0) (6 + st.ns.length) (xx xs t).len).ns[st.ns.length]? = some (10, some ((xx xs n).ws, n), -1, (xx xs t).len, []) := by
      unfold sCnt
      rw [nN_at hat]
      exact nPut_at hat
    have htot2 : nTot (sCnt (sNew st 10 (some ((xx xs n).ws, n)) 0) (6 + st.ns.length) (xx xs t).len).ns = nTot st.ns + (xx xs t).len := by
      have := hC2.2.1.2.1
      have h9 := hA.2.2.1
      rw [this] at h9
      omega
    have hws : wS xs (t + 1) ((xx xs t).sz - 1) ≤ wS xs t (xx xs t).sz := wS_sub (by omega) (by omega)
    refine c_symL Γ (by omega) hok hS0 hv hk (show (xx xs t).len ≤ 32 by omega) (xx xs t).len (t + 1) ((xx xs t).sz - 1) 0 M2 _ _ _ _ hkL (Nat.zero_add _) (fun h => ?_) hC2 hT2 hi2 rfl rfl rfl (by omega) (fun e he x M3 f1 f2 => ?_) (fun st1 h1 h2 M3 NU3 h3 h4 h5 => ?_)
    · rw [c_zat (by omega), hrt2.2.2.2.1, if_neg (by omega)]
    · exact kE e he x M3 f1 (hd2.tr f2)
    · exact kO _ st1 h1 M3 NU3 h3 (by omega) (by omega) (hd2.tr h5)
end SIs
