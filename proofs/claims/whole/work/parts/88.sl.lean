/-! ===== the Drafter's unions, items and fields ===== -/
theorem sF.zu {M : zM} {e : Nat × Nat} (h : sF M e) {a k v : Int} (ha : ¬ a = 24) : sF (zu M a k v) e := ⟨by rw [zu_a (fun c => ha c.symm)]; exact h.1, by rw [zu_a (fun c => ha c.symm)]; exact h.2.1, h.2.2⟩
theorem zadd_sF {M : zM} {e : Nat × Nat} {c a x : Int} {n : Nat} (h : sF M e) (hc : ¬ c = 24) (ha : ¬ a = 24) : sF (zadd M c a n x) e := by
  unfold zadd
  split
  · exact h
  · split
    · exact (h.zu ha).zu hc
    · exact h
theorem zadd_dfr {M M1 : zM} {p c a x : Int} {n : Nat} (h : dfr p M M1) (hc : ¬ (c < 24 ∨ c = 25 ∨ (29 < c ∧ c < p) ∨ p + 24 < c)) (ha : ¬ (a < 24 ∨ a = 25 ∨ (29 < a ∧ a < p) ∨ p + 24 < a)) : dfr p M (zadd M1 c a n x) := by
  unfold zadd
  split
  · exact h
  · split
    · exact (h.zu ha).zu hc
    · exact h
theorem sCnt_new {st : SS} {kd ct : Nat} {nm : Option (List Int32 × Nat)} : sCnt (sNew st kd nm 0) (6 + st.ns.length) ct = sNew st kd nm ct := by
  unfold sCnt
  rw [nN_at sNew_at]
  unfold nPut sNew
  rw [show 6 + st.ns.length - 6 = st.ns.length by omega]
  show (st.lk, st.kc, (st.ns ++ [_]).set st.ns.length _, st.lt) = _
  rw [List.set_append_right _ _ (Nat.le_refl _), Nat.sub_self]
  rfl
theorem sNew_tot {st : SS} {kd ct : Nat} {nm : Option (List Int32 × Nat)} : nTot (sNew st kd nm ct).ns = nTot st.ns + ct := by
  show nTot (st.ns ++ [_]) = _
  rw [nTot_app]
  rfl
theorem take_eq {a b : List SN} {i : Nat} (h : ∀ j : Nat, j < i → a[j]? = b[j]?) : a.take i = b.take i := by
  refine List.ext_getElem? (fun j => ?_)
  rw [List.getElem?_take, List.getElem?_take]
  split
  · exact h j (by assumption)
  · rfl
section SLs
variable {l : Launch} {s0 : State} {a0 : Array Value} {G : va_G} {ca : Nat → ClassId} {d : Nat} {C : Nat × Nat} {S : zS} {M : zM} {Q : Int → zM → Prop} {X : zM → Prop} {xs : List JR} {v : Nat} {p : Int} {NU : Nat} {st : SS}
theorem c_uni (Γ : rt_Γ l s0 a0 G ca) {m : Nat} (hd : 8 * m + 22 ≤ d) (hm : m + 1 ≤ 16) (hok : zok C) (hS : sSh S p) (hI : cLk l s0 G ca C S xs p m) (hT : cTx M xs) (hv : v < xs.length) (hk : (xx xs v).kd = 2) (hC : sC M p NU st) (hK : kOk st) (hlt : st.ns.length < st.lk) (hW : NU + wS xs v (xx xs v).sz ≤ 4096) (hU : nTot st.ns + ((xx xs v).sz - 1) ≤ 2048)
    (kE : ∀ e : Nat × Nat, sUni xs (sLook xs m) v st = .error e → cE p M Q e) (kO : ∀ (n : Nat) (st1 : SS), sUni xs (sLook xs m) v st = .ok (n, st1) → cO p M Q NU (wS xs v (xx xs v).sz) ((xx xs v).sz - 1) st st1 n) : zm_X1_lookAtUnion l s0 G ca d C S v ((16 - (m + 1) : Nat) : Int) M Q X := by
  have hS0 := hS
  obtain ⟨hs, hp, hs24, hs6, hp0⟩ := hS
  refine z_X1_lookAtUnion Γ (by omega) hok hs hp hs24 hs6 ?_
  unfold zt_X1_lookAtUnion
  have hl := hT.2.2
  have hr := cRec_at hT hv
  obtain ⟨-, -, hsz, hsz2, hln, hkids, -⟩ := jWf_at hT.2.1 hv
  have hkL := hkids (Or.inr hk)
  rw [decide_eq_false (by omega)] at hkL
  have hle := kidsL_le hkL
  have h0 := hC.1.2.1
  have hlk := hC.2.2.2.2.2.2.2.1
  have no : ¬ (1 ≤ (xx xs v).len ∧ (xx xs v).len ≤ 16) → zm_X1_fail l s0 G ca (d - 1) C S 5 (v : Int) M (fun r23 M23 => Q r23 M23) X := fun h =>
    c_fail (k := 5) Γ (by omega) hok hS0 hT hv (by decide) h0 (fun M2 f1 f2 => kE (5, (xx xs v).bg) (if_neg h) _ M2 f1 f2)
  rw [c_zat (by omega), hr.2.2.1, w32_id (x := ((xx xs v).len : Int)) (by omega) (by omega)]
  refine ⟨fun c => no (fun h => by omega), fun c => ⟨fun c2 => ?_, fun c2 => no (fun h => by omega)⟩⟩
  rw [sC_newM hC (by omega), hC.2.1.1]
  have hN := sC_new hC hp0 hlt 8
  have hNd := zNewM_dfr (M := M) (p := p) (s := ((sNum st : Nat) : Int)) (k := 8) hp0
  show zm_X6_addParts l s0 G ca (d - 1) C S p ((sNum st : Nat) : Int) _ (zNewM M p ((sNum st : Nat) : Int) ((8 : Nat) : Int)) _ X
  refine c_aps Γ (by omega) hok hp (s := sNum st) (T := nTot st.ns) (by unfold sNum; omega) (by have := hN.2.1.2.1; rw [sNew_tot] at this; exact this) (by omega) (fun M2 hA => ?_)
  have hat : (sNew st 8 none 0).ns[st.ns.length]? = some (8, none, -1, 0, []) := sNew_at
  have hC2 := sC_cnt (ct := (xx xs v).len) hN hp0 (zNewM_w M p ((6 + st.ns.length : Nat) : Int) _) hat sNew_len.symm rfl rfl (show ¬ (8 = 6 ∨ 8 = 7) by decide) (by rw [sNew_tot]; omega) (by rw [sNew_tot]; exact hA)
  rw [sCnt_new] at hC2
  have hd2 : dfr p M M2 := hNd.tr (fun a ha => funext fun j => hA.2.2.2.2 a j (by omega) (by omega) (by omega) (by omega))
  have hT2 := hT.dfr hd2
  have hr2 := cRec_at hT2 hv
  have e1 : sUni xs (sLook xs m) v st = (match sBrn xs (sLook xs m) (sNum st) (xKids xs v) (sNew st 8 none (xx xs v).len) with | .error e => .error e | .ok st1 => .ok (sNum st, st1)) := if_pos ⟨by omega, by omega⟩
  have hwv : wS xs (v + 1) ((xx xs v).sz - 1) ≤ wS xs v (xx xs v).sz := wS_sub (by omega) (by omega)
  refine c_uniL Γ (by omega) hm hok hS0 hI (i := st.ns.length) (show (xx xs v).len ≤ 16 by omega) (xx xs v).len (v + 1) ((xx xs v).sz - 1) 0 M2 NU _ _ _ hkL (Nat.zero_add _) (fun h => ?_) hC2 (hK.new (by decide)) hT2 sNew_at rfl rfl rfl (fun q hq => (nomatch hq)) (by omega) (by rw [sNew_tot]; omega) (fun e he x M3 f1 f2 => ?_) (fun st1 h1 M3 NU3 h3 h4 h5 h6 => ?_)
  · rw [c_zat (by omega), hr2.2.2.2.1, if_neg (by omega)]
  · exact kE e (by rw [e1]; rw [show sBrn xs (sLook xs m) (sNum st) (xKids xs v) (sNew st 8 none (xx xs v).len) = .error e from he]) x M3 f1 (hd2.tr f2)
  · rw [sNew_tot] at h5
    exact kO (sNum st) st1 (by rw [e1]; rw [show sBrn xs (sLook xs m) (sNum st) (xKids xs v) (sNew st 8 none (xx xs v).len) = .ok st1 from h1]) M3 NU3 h3 (by omega) (by omega) (hd2.tr h6)
theorem c_itm (Γ : rt_Γ l s0 a0 G ca) {m : Nat} (hd : 8 * m + 22 ≤ d) (hm : m + 1 ≤ 16) (hok : zok C) (hS : sSh S p) (hI : cLk l s0 G ca C S xs p m) (hT : cTx M xs) (hv : v < xs.length) (hC : sC M p NU st) (hK : kOk st) (hlt : st.ns.length < st.lk) {kd : Nat} (hkd : kd = 6 ∨ kd = 7) {w : List Int32} (hW : NU + wS xs v (xx xs v).sz ≤ 4096) (hU : nTot st.ns + ((xx xs v).sz - 1) ≤ 2048)
    (kE : ∀ e : Nat × Nat, sItm xs (sLook xs m) v kd w st = .error e → cE p M Q e) (kO : ∀ (n : Nat) (st1 : SS), sItm xs (sLook xs m) v kd w st = .ok (n, st1) → cO p M Q NU (wS xs v (xx xs v).sz) ((xx xs v).sz - 1) st st1 n) : zm_X1_lookAtItems l s0 G ca d C S v kd (oI (xMem xs v w)) ((16 - (m + 1) : Nat) : Int) M Q X := by
  have hS0 := hS
  obtain ⟨hs, hp, hs24, hs6, hp0⟩ := hS
  refine z_X1_lookAtItems Γ (by omega) hok hs hp hs24 hs6 ?_
  unfold zt_X1_lookAtItems
  have hl := hT.2.2
  have h0 := hC.1.2.1
  have hlk := hC.2.2.2.2.2.2.2.1
  unfold sItm at kE kO
  cases hmm : xMem xs v w with
  | none =>
    rw [hmm] at kE
    refine ⟨fun _ => ?_, fun c => absurd (by decide) c⟩
    exact c_fail (k := 8) Γ (by omega) hok hS0 hT hv (by decide) h0 (fun M2 f1 f2 => kE (8, (xx xs v).bg) rfl _ M2 f1 f2)
  | some t =>
    rw [hmm] at kE kO
    dsimp only at kE kO
    obtain ⟨m1, m2, htx⟩ := xMem_mem hT.2.1 hv hmm
    have one := xMem_one hT.2.1 hv hmm
    refine ⟨fun c => by rw [oI_w (by omega)] at c; omega, fun _ => ?_⟩
    rw [sC_newM hC (by omega), hC.2.1.1, show ((16 - (m + 1) : Nat) : Int) + 1 = ((16 - m : Nat) : Int) by omega]
    have hN := sC_new hC hp0 hlt kd
    have hNd := zNewM_dfr (M := M) (p := p) (s := ((sNum st : Nat) : Int)) (k := (kd : Int)) hp0
    have hat : (sNew st kd none 0).ns[st.ns.length]? = some (kd, none, -1, 0, []) := sNew_at
    have hA := sC_addA hN hp0 hat hkd rfl
    have hT2 := hT.dfr hNd
    have ens : (sAdd (sNew st kd none 0) (6 + st.ns.length) [] none none).ns = nPut (sNew st kd none 0).ns (6 + st.ns.length) (kd, none, -1, 0, [([], none, none, (sNew st kd none 0).kc)]) := by
      unfold sAdd
      rw [nN_at hat]
      rfl
    have hat2 : (sAdd (sNew st kd none 0) (6 + st.ns.length) [] none none).ns[st.ns.length]? = some (kd, none, -1, 0, [([], none, none, (sNew st kd none 0).kc)]) := by rw [ens]; exact nPut_at hat
    have htot : nTot (sAdd (sNew st kd none 0) (6 + st.ns.length) [] none none).ns = nTot st.ns := by
      rw [ens, (nPut_tot (n' := (kd, none, -1, 0, [([], none, none, (sNew st kd none 0).kc)])) hat rfl).1, sNew_tot]
      omega
    have hlen : (sAdd (sNew st kd none 0) (6 + st.ns.length) [] none none).ns.length = st.ns.length + 1 := by rw [ens, nPut_len, sNew_len]
    show zm_X1_look l s0 G ca (d - 1) C S (t : Int) _ (bB false) _ _ X
    refine hI (d - 1) t false _ _ NU _ X (by omega) htx hT2 hA (hK.new (by omega)).add (by omega) (by omega) (fun e he x M1 f1 f2 => ?_) (fun nd st1 he M1 NU1 g1 g2 g3 g4 => ?_)
    · show Q ((sNum st : Nat) : Int) (zput M1 (p + 6) 134 ((sNum st : Nat) : Int) x)
      rw [zput_in (by unfold sNum; omega) (by unfold sNum; omega) (by decide)]
      exact kE e (by rw [show sLook xs m t false (sAdd (sNew st kd none 0) (sNum st) [] none none) = .error e from he]) _ _ (f1.zu (by omega)) ((hNd.tr f2).zu (by omega))
    · show Q ((sNum st : Nat) : Int) (zput M1 (p + 6) 134 ((sNum st : Nat) : Int) nd)
      rw [zput_in (by unfold sNum; omega) (by unfold sNum; omega) (by decide)]
      obtain ⟨⟨x1, x2, x3, x4⟩, -, -⟩ := sLook_ok m _ _ _ _ _ he
      have hi1 := (x2 st.ns.length (by omega)).trans hat2
      have hP := sC_putA g1 hp0 hi1 hkd rfl nd
      refine kO (sNum st) (sPut st1 (sNum st) 0 nd) (by rw [show sLook xs m t false (sAdd (sNew st kd none 0) (sNum st) [] none none) = .ok (nd, st1) from he]) _ NU1 hP (by omega) ?_ ((hNd.tr g4).zu (by omega))
      have e2 : nTot (sPut st1 (6 + st.ns.length) 0 nd).ns = nTot st1.ns := by
        unfold sPut
        rw [nN_at hi1]
        exact (nPut_tot (n' := (kd, none, -1, 0, pSet [([], none, none, (sNew st kd none 0).kc)] 0 nd)) hi1 rfl).1
      show nTot (sPut st1 (6 + st.ns.length) 0 nd).ns ≤ _
      rw [e2]
      omega
theorem c_fld (Γ : rt_Γ l s0 a0 G ca) {m : Nat} (hd : 8 * m + 22 ≤ d) (hm : m + 1 ≤ 16) (hok : zok C) (hS : sSh S p) (hI : cLk l s0 G ca C S xs p m) (hT : cTx M xs) (hv : v < xs.length) (hC : sC M p NU st) (hK : kOk st) {i : Nat} {n : SN} (hi : st.ns[i]? = some n) (hkd : n.kd = 11) (hpl : n.ps.length < n.ct) (hW : NU + wS xs v (xx xs v).sz ≤ 4096) (hU : nTot st.ns + ((xx xs v).sz - 1) ≤ 2048)
    (kE : ∀ e : Nat × Nat, sFld xs (sLook xs m) (6 + i) v st = .error e → cE p M Q e) (kO : ∀ st1 : SS, sFld xs (sLook xs m) (6 + i) v st = .ok st1 → ∀ (M1 : zM) (NU1 : Nat), sC M1 p NU1 st1 → NU1 ≤ NU + wS xs v (xx xs v).sz → nTot st1.ns ≤ nTot st.ns + ((xx xs v).sz - 1) → dfr p M M1 → Q 0 M1) : zm_X1_lookAtField l s0 G ca d C S ((6 + i : Nat) : Int) ((nTot (st.ns.take i) + n.ps.length : Nat) : Int) v ((16 - (m + 1) : Nat) : Int) M Q X := by
  have hS0 := hS
  obtain ⟨hs, hp, hs24, hs6, hp0⟩ := hS
  refine z_X1_lookAtField Γ (by omega) hok hs hp hs24 hs6 ?_
  unfold zt_X1_lookAtField
  have hl := hT.2.2
  have h0 := hC.1.2.1
  have hlk := hC.2.2.2.2.2.2.2.1
  have htn := nTot_in hi
  have h2048 := hC.2.2.2.2.2.2.2.2.1
  have hil := (List.getElem?_eq_some_iff.mp hi).1
  have hg := hC.2.2.2.2.2.2.1
  have hr := cRec_at hT hv
  have hkv := (jWf_at hT.2.1 hv).1
  rw [c_zat (by omega), hr.1, w32_id (x := ((xx xs v).kd : Int)) (by omega) (by omega)]
  unfold sFld at kE kO
  rw [nN_at hi] at kE kO
  refine ⟨fun c1 => ?_, fun c1 => c_fail (k := 11) Γ (by omega) hok hS0 hT hv (by decide) h0 (fun M2 f1 f2 => kE (11, (xx xs v).bg) (if_neg (fun h => c1 (by rw [h]; rfl))) _ M2 f1 f2)⟩
  have hk1 : (xx xs v).kd = 1 := by omega
  rw [if_pos hk1] at kE kO
  intro q26 h26
  refine c_mem Γ (by omega) hok hs hs6 hT hv hk1 h26 ?_
  cases hnm : xMem xs v (iw [110, 97, 109, 101]) with
  | none =>
    rw [hnm] at kE
    refine ⟨fun _ => ?_, fun c => absurd c_iss0 c⟩
    exact c_fail (k := 8) Γ (by omega) hok hS0 hT hv (by decide) h0 (fun M2 f1 f2 => kE (8, (xx xs v).bg) rfl _ M2 f1 f2)
  | some b =>
    rw [hnm] at kE kO
    dsimp only at kE kO
    obtain ⟨m1, m2, hbx⟩ := xMem_mem hT.2.1 hv hnm
    refine ⟨fun c => ?_, fun c => ?_⟩
    · have hk3 := (c_iss hT hbx).mp c
      exact c_fail (k := 8) Γ (by omega) hok hS0 hT hv (by decide) h0 (fun M2 f1 f2 => kE (8, (xx xs v).bg) (if_neg hk3) _ M2 f1 f2)
    have hk3 : (xx xs b).kd = 3 := Decidable.not_not.mp (fun h => c ((c_iss hT hbx).mpr h))
    rw [if_pos hk3] at kE kO
    have no : ¬ (sNam (xx xs b).ws = true ∧ sPrt n.ps (xx xs b).ws = none) → zm_X1_fail l s0 G ca (d - 1) C S 9 (b : Int) M (fun r79 M79 => Q 0 M79) X := fun h =>
      c_fail (k := 9) Γ (by omega) hok hS0 hT hbx (by decide) h0 (fun M2 f1 f2 => kE (9, (xx xs b).bg) (if_neg h) _ M2 f1 f2)
    show zm_X1_isName l s0 G ca (d - 1) C S (b : Int) M _ X
    refine c_nam Γ (by omega) hok hs hp hs24 hs6 hT hbx hk3 ?_
    refine ⟨fun c1 => no (fun h => w32_bI.mp c1 h.1), fun c1 => ?_⟩
    have hnam : sNam (xx xs b).ws = true := Decidable.not_not.mp (fun h => c1 (w32_bI.mpr h))
    refine c_prt Γ (by omega) hok hS0 hT hbx hk3 hC hi (Or.inr hkd) ?_
    have bp := oI_none (o := sPrt n.ps (xx xs b).ws) (fun m h => by have := sPrtL_lt _ _ _ _ h; omega)
    refine ⟨fun c2 => ?_, fun c2 => no (fun h => c2 (bp.mpr h.2))⟩
    rw [if_pos ⟨hnam, bp.mp c2⟩] at kE kO
    have hrb := cRec_at hT hbx
    have hw2 := wS_one (xs := xs) (i := b) (n := (xx xs b).sz) (jWf_at hT.2.1 hbx).2.2.1
    have hw3 := jlw_w hk3
    have hone := xMem_one hT.2.1 hv hnm
    rw [show oI (some b) = (b : Int) from rfl, c_zat (by omega)]
    refine c_addN Γ (by omega) hok hS0 (hrb.2.2.2.2.2.2.1 hk3).wd (by omega) hC.2.1.2.2.1 (by omega) (fun M1 hF => ?_)
    rw [zput_in (by omega) (by omega) (by decide)]
    have hC2 := sC_addW hC hp0 hi (Or.inr hkd) hpl (by omega) hF (xMem xs v (iw [100, 101, 102, 97, 117, 108, 116]))
    have hd2 : dfr p M (zu M1 (p + 16) ((nTot (st.ns.take i) + n.ps.length : Nat) : Int) NU) := (hF.dfr hp0).zu (by omega)
    generalize zu M1 (p + 16) ((nTot (st.ns.take i) + n.ps.length : Nat) : Int) NU = M2 at hC2 hd2 ⊢
    have hT2 := hT.dfr hd2
    have h02 := hC2.1.2.1
    generalize hdf : xMem xs v (iw [100, 101, 102, 97, 117, 108, 116]) = df at hC2 kE kO
    have ens : (sAdd st (6 + i) (xx xs b).ws none df).ns = nPut st.ns (6 + i) (n.kd, n.nm, n.dt, n.ct, n.ps ++ [((xx xs b).ws, none, df, st.kc)]) := by
      unfold sAdd
      rw [nN_at hi]
    have hi2 : (sAdd st (6 + i) (xx xs b).ws none df).ns[i]? = some (n.kd, n.nm, n.dt, n.ct, n.ps ++ [((xx xs b).ws, none, df, st.kc)]) := by rw [ens]; exact nPut_at hi
    have htot := nPut_tot (n' := (n.kd, n.nm, n.dt, n.ct, n.ps ++ [((xx xs b).ws, none, df, st.kc)])) hi rfl
    rw [← ens] at htot
    have hlen : (sAdd st (6 + i) (xx xs b).ws none df).ns.length = st.ns.length := by rw [ens]; exact nPut_len
    intro q120 h120
    refine c_mem Γ (by omega) hok hs hs6 hT2 hv hk1 h120 ?_
    cases htp : xMem xs v (iw [116, 121, 112, 101]) with
    | none =>
      rw [htp] at kE
      refine ⟨fun _ => ?_, fun c => absurd (by decide) c⟩
      exact c_fail (k := 8) Γ (by omega) hok hS0 hT2 hv (by decide) h02 (fun M3 f1 f2 => kE (8, (xx xs v).bg) rfl _ M3 f1 (hd2.tr f2))
    | some t =>
      rw [htp] at kE kO
      dsimp only at kE kO
      obtain ⟨t1, t2, htx⟩ := xMem_mem hT.2.1 hv htp
      have two := xMem_two hT.2.1 hv hnm htp (by decide)
      refine ⟨fun c => by rw [oI_w (by omega)] at c; omega, fun _ => ?_⟩
      rw [show ((16 - (m + 1) : Nat) : Int) + 1 = ((16 - m : Nat) : Int) by omega]
      have hP : nTot (st.ns.take i) + n.ps.length < 2048 := by omega
      have hdfb : ∀ z : Nat, df = some z → z < xs.length := fun z hz => by
        rw [← hdf] at hz
        exact (xMem_mem hT.2.1 hv hz).2.2
      show zm_X1_look l s0 G ca (d - 1) C S (t : Int) _ (bB false) M2 _ X
      refine hI (d - 1) t false _ M2 _ _ X (by omega) htx hT2 hC2 hK.add (by omega) (by rw [htot.1]; omega) (fun e he x M3 f1 f2 => ?_) (fun nd st1 he M3 NU3 g1 g2 g3 g4 => ?_)
      · intro q166 h166
        rw [zput_in (by omega) (by omega) (by decide)]
        have f3 : sF (zu M3 (p + 14) ((nTot (st.ns.take i) + n.ps.length : Nat) : Int) x) e := f1.zu (by omega)
        have f4 : dfr p M (zu M3 (p + 14) ((nTot (st.ns.take i) + n.ps.length : Nat) : Int) x) := (hd2.tr f2).zu (by omega)
        refine c_mem Γ (by omega) hok hs hs6 (hT.dfr f4) hv hk1 h166 ?_
        have hbad := kE e (by rw [he])
        exact ⟨fun _ => hbad _ _ f3 f4, fun _ => hbad _ _ (zadd_sF (zadd_sF f3 (by decide) (by decide)) (by decide) (by decide)) (zadd_dfr (zadd_dfr f4 (by omega) (by omega)) (by omega) (by omega))⟩
      · intro q166 h166
        rw [zput_in (by omega) (by omega) (by decide)]
        obtain ⟨⟨x1, x2, x3, x4⟩, hndl, x5⟩ := sLook_ok m _ _ _ _ _ he
        have hi1 := (x2 i (by omega)).trans hi2
        have htk : st1.ns.take i = (sAdd st (6 + i) (xx xs b).ws none df).ns.take i := take_eq (fun j hj => x2 j (by omega))
        have hbs : nTot (st1.ns.take i) = nTot (st.ns.take i) := by rw [htk]; exact htot.2 i
        have hPt := sC_putP (k := n.ps.length) g1 hp0 hi1 (show ¬ (n.kd = 6 ∨ n.kd = 7) by omega) (by show n.ps.length < (n.ps ++ [_]).length; rw [List.length_append]; exact Nat.lt_succ_self _) (show ¬ n.kd = 9 by omega) (g1.2.2.2.2.2.2.2.2.2.2.2.2.none hi1 (fun (c : n.kd = 9) => by omega) (fun _ _ => ⟨_, List.mem_append_right _ List.mem_cons_self, rfl⟩)) nd
        rw [hbs] at hPt
        have hd3 : dfr p M (zu M3 (p + 14) ((nTot (st.ns.take i) + n.ps.length : Nat) : Int) nd) := (hd2.tr g4).zu (by omega)
        generalize zu M3 (p + 14) ((nTot (st.ns.take i) + n.ps.length : Nat) : Int) nd = M4 at hPt hd3 ⊢
        have ens1 : (sPut st1 (6 + i) n.ps.length nd).ns = nPut st1.ns (6 + i) (n.kd, n.nm, n.dt, n.ct, pSet (n.ps ++ [((xx xs b).ws, none, df, st.kc)]) n.ps.length nd) := by
          unfold sPut
          rw [nN_at hi1]
        have htot1 := nPut_tot (n' := (n.kd, n.nm, n.dt, n.ct, pSet (n.ps ++ [((xx xs b).ws, none, df, st.kc)]) n.ps.length nd)) hi1 rfl
        rw [← ens1] at htot1
        have hlen1 : (sPut st1 (6 + i) n.ps.length nd).ns.length = st1.ns.length := by rw [ens1]; exact nPut_len
        have hbs1 : nBs (sPut st1 (6 + i) n.ps.length nd).ns (6 + i) = nTot (st.ns.take i) := by
          unfold nBs
          rw [show 6 + i - 6 = i by omega, htot1.2, hbs]
        have hlt1 : st1.lt.length < st1.lk := by
          have y1 : st.lt.length ≤ st.lk := hC.2.2.2.2.2.2.2.2.2.2.1
          have y2 : st1.lt.length + st.lk + 1 ≤ st.lt.length + st1.lk := x5
          omega
        refine c_mem Γ (by omega) hok hs hs6 (hT.dfr hd3) hv hk1 h166 ?_
        rw [hdf]
        have ok := kO _ (by rw [he])
        cases df with
        | none =>
          refine ⟨fun _ => ok M4 NU3 (sC_done0 hPt (by omega) hlt1) (by omega) (by show nTot (sPut st1 (6 + i) n.ps.length nd).ns ≤ _; omega) hd3, fun c => absurd (by decide) c⟩
        | some z =>
          have hz := hdfb z rfl
          have hdn := sC_done1 (s := 6 + i) (k := n.ps.length) (v := z) hPt hp0 (by omega) hlt1
          rw [hbs1] at hdn
          refine ⟨fun c => by rw [oI_w (by omega)] at c; omega, fun _ => ok _ NU3 hdn.1 (by omega) (by show nTot (sPut st1 (6 + i) n.ps.length nd).ns ≤ _; omega) (hd3.tr hdn.2)⟩
end SLs
