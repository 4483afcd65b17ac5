/-! ===== the Drafter's records, objects, and look itself ===== -/
theorem sC_lk {M : zM} {p : Int} {NU : Nat} {st : SS} (hC : sC M p NU st) (hp : 30 ≤ p) (h : st.lk < 128) : sC (zu M 24 5 ((M 24 5) + 1)) p NU (st.lk + 1, st.2) ∧ dfr p M (zu M 24 5 ((M 24 5) + 1)) := by
  obtain ⟨⟨a1, a2, a3⟩, ⟨b1, b2, b3, b4⟩, c, hn, e, ⟨f1, f2, f3⟩, l1, l2, l3, l4, l5, l6, hw⟩ := hC
  have fr : ∀ a j : Int, ¬ a = 24 → zu M 24 5 ((M 24 5) + 1) a j = M a j := fun a j h => zu_a h
  refine ⟨⟨⟨?_, by rw [zu_k (by decide)]; exact a2, by rw [zu_k (by decide)]; exact a3⟩, ⟨by rw [fr _ _ (by omega)]; exact b1, by rw [fr _ _ (by omega)]; exact b2, by rw [fr _ _ (by omega)]; exact b3, by rw [fr _ _ (by omega)]; exact b4⟩, fun i hi => by rw [fr _ _ (by omega)]; exact c i hi, fun i n hi => ?_, fun P hP => by rw [fr _ _ (by omega), fr _ _ (by omega)]; exact e P hP, ⟨by rw [fr _ _ (by omega)]; exact f1, by rw [fr _ _ (by omega)]; exact f2, fun i z hz => by rw [fr _ _ (by omega), fr _ _ (by omega)]; exact f3 i z hz⟩, Nat.le_succ_of_le l1, h, l3, l4, Nat.le_succ_of_le l5, l6, hw.up (Nat.le_refl _) (fun j _ => fr _ _ (by omega)) (fun i n h => Or.inl h)⟩, dfr.rf.zu (by omega)⟩
  · rw [zu_s, a1]
    show (st.lk : Int) + 1 = ((st.lk + 1 : Nat) : Int)
    omega
  · exact (hn i n hi).mono (Nat.le_refl _) (fr _ _ (by omega)) (fr _ _ (by omega)) (fr _ _ (by omega)) (fr _ _ (by omega)) (fr _ _ (by omega)) (fun P _ _ => fr _ _ (by omega)) (fun P _ _ => fr _ _ (by omega)) (fun P _ _ => fr _ _ (by omega))
section SMs
variable {l : Launch} {s0 : State} {a0 : Array Value} {G : va_G} {ca : Nat → ClassId} {d : Nat} {C : Nat × Nat} {S : zS} {M : zM} {Q : Int → zM → Prop} {X : zM → Prop} {xs : List JR} {v : Nat} {p : Int} {NU : Nat} {st : SS}
theorem sFld_at {i f : Nat} {st st1 : SS} {n : SN} {m : Nat} (hi : st.ns[i]? = some n) (h : sFld xs (sLook xs m) (6 + i) f st = .ok st1) : ∃ n1 : SN, st1.ns[i]? = some n1 ∧ n1.kd = n.kd ∧ n1.ct = n.ct ∧ n1.ps.length = n.ps.length + 1 ∧ ((∀ q ∈ n.ps, ∃ c : Nat, q.nd = some c ∧ c < 6 + st.ns.length) → ∀ q ∈ n1.ps, ∃ c : Nat, q.nd = some c ∧ c < 6 + st1.ns.length) := by
  have hil := (List.getElem?_eq_some_iff.mp hi).1
  unfold sFld at h
  rw [nN_at hi] at h
  split at h
  · split at h
    · exact nomatch h
    · rename_i b hb
      split at h
      · split at h
        · split at h
          · exact nomatch h
          · split at h
            · exact nomatch h
            · rename_i nd st2 h2
              cases h
              generalize xMem xs f (iw [100, 101, 102, 97, 117, 108, 116]) = df at h2 ⊢
              have ens : (sAdd st (6 + i) (xx xs b).ws none df).ns = nPut st.ns (6 + i) (n.kd, n.nm, n.dt, n.ct, n.ps ++ [((xx xs b).ws, none, df, st.kc)]) := by
                unfold sAdd
                rw [nN_at hi]
              have hi2 : (sAdd st (6 + i) (xx xs b).ws none df).ns[i]? = some (n.kd, n.nm, n.dt, n.ct, n.ps ++ [((xx xs b).ws, none, df, st.kc)]) := by rw [ens]; exact nPut_at hi
              have hlen : (sAdd st (6 + i) (xx xs b).ws none df).ns.length = st.ns.length := by rw [ens]; exact nPut_len
              obtain ⟨⟨x1, x2, x3, x4⟩, x5, -⟩ := sLook_ok m _ _ _ _ _ h2
              have hi1 := (x2 i (by omega)).trans hi2
              refine ⟨(n.kd, n.nm, n.dt, n.ct, pSet (n.ps ++ [((xx xs b).ws, none, df, st.kc)]) n.ps.length nd), ?_, rfl, rfl, ?_, fun hps => ?_⟩
              · show (sPut st2 (6 + i) n.ps.length nd).ns[i]? = _
                unfold sPut
                rw [nN_at hi1]
                exact nPut_at hi1
              · show (pSet _ _ _).length = _
                rw [pSet_len, List.length_append]
                rfl
              · have hl1 : (sPut st2 (6 + i) n.ps.length nd).ns.length = st2.ns.length := nPut_len
                show ∀ q ∈ pSet (n.ps ++ [((xx xs b).ws, none, df, st.kc)]) n.ps.length nd, ∃ c : Nat, q.nd = some c ∧ c < 6 + (sPut st2 (6 + i) n.ps.length nd).ns.length
                intro q hq
                rw [hl1]
                obtain ⟨j, hj⟩ := List.getElem?_of_mem hq
                rw [pSet_get] at hj
                by_cases hjn : n.ps.length = j
                · rw [if_pos hjn] at hj
                  obtain ⟨q0, -, hq0⟩ := Option.map_eq_some_iff.mp hj
                  rw [← hq0]
                  exact ⟨nd, rfl, x5⟩
                · rw [if_neg hjn] at hj
                  have hjl := (List.getElem?_eq_some_iff.mp hj).1
                  rw [List.length_append, List.length_singleton] at hjl
                  rw [List.getElem?_append_left (by omega)] at hj
                  obtain ⟨c, c1, c2⟩ := hps q (List.mem_of_getElem? hj)
                  exact ⟨c, c1, by omega⟩
        · exact nomatch h
      · exact nomatch h
  · exact nomatch h
theorem c_fdsL (Γ : rt_Γ l s0 a0 G ca) {m : Nat} (hd : 8 * m + 24 ≤ d) (hm : m + 1 ≤ 16) (hok : zok C) (hS : sSh S p) (hI : cLk l s0 G ca C S xs p m) {w0 : rt_Wd} {i ct : Nat} (hct : ct ≤ 32) : ∀ (r j nn k : Nat) (M : zM) (NU : Nat) (st : SS) (n : SN) (v5 : Int), kidsL r (xs.drop j) nn false → k + r = ct → (0 < r → v5 = j) → sC M p NU st → kOk st → cTx M xs → st.ns[i]? = some n → n.kd = 11 → n.ct = ct → n.ps.length = k → (∀ q ∈ n.ps, ∃ c : Nat, q.nd = some c ∧ c < 6 + st.ns.length) → NU + wS xs j nn ≤ 4096 → nTot st.ns + (nn - r) ≤ 2048 →
    (∀ e : Nat × Nat, sFds xs (sLook xs m) (6 + i) (xKid xs r j) st = .error e → cE p M Q e) →
    (∀ st1 : SS, sFds xs (sLook xs m) (6 + i) (xKid xs r j) st = .ok st1 → ∀ (M1 : zM) (NU1 : Nat), sC M1 p NU1 st1 → NU1 ≤ NU + wS xs j nn → nTot st1.ns ≤ nTot st.ns + (nn - r) → dfr p M M1 → Q ((6 + i : Nat) : Int) M1) →
    zg_X1_lookAtRecord_107 l s0 G ca d C S w0 p ((16 - (m + 1) : Nat) : Int) ((6 + i : Nat) : Int) ct v5 k M Q X := by
  have hS0 := hS
  obtain ⟨hs, hp, hs24, hs6, hp0⟩ := hS
  intro r
  induction r with
  | zero =>
    intro j nn k M NU st n v5 hkL hkr hv5 hC hK hT hi hkd hnc hpl hps hW hU kE kO
    refine zs_X1_lookAtRecord_107 Γ (by omega) hok hs hp hs24 hs6 ?_
    unfold zt_X1_lookAtRecord_107
    rw [w32_id (by omega) (by omega), w32_id (by omega) (by omega)]
    exact ⟨fun _ => c_mea Γ (by omega) hok hp hp0 hC hi hkd (by omega) hps (fun M1 m1 m2 => kO st rfl M1 NU m1 (by omega) (by omega) m2), fun c => by omega⟩
  | succ r ih =>
    intro j nn k M NU st n v5 hkL hkr hv5 hC hK hT hi hkd hnc hpl hps hW hU kE kO
    obtain ⟨g1, g2, g3, g4, g5, g6⟩ := kidsL_step hkL
    have g7 := kidsL_le g6
    have hl := hT.2.2
    have h0 := hC.1.2.1
    have hil := (List.getElem?_eq_some_iff.mp hi).1
    have hg := hC.2.2.2.2.2.2.1
    have hlk := hC.2.2.2.2.2.2.2.1
    have hnC := hC.2.2.2.1 i n hi
    have hw1 : wS xs j nn = wS xs j (xx xs j).sz + wS xs (j + (xx xs j).sz) (nn - (xx xs j).sz) := by
      rw [← wS_add, show (xx xs j).sz + (nn - (xx xs j).sz) = nn by omega]
    refine zs_X1_lookAtRecord_107 Γ (by omega) hok hs hp hs24 hs6 ?_
    unfold zt_X1_lookAtRecord_107
    rw [w32_id (by omega) (by omega), w32_id (by omega) (by omega), hv5 (by omega)]
    refine ⟨fun c => by omega, fun _ => ⟨fun _ => ?_, fun c => absurd (by rw [h0]; decide) c⟩⟩
    rw [show xKid xs (r + 1) j = j :: xKid xs r (j + (xx xs j).sz) from rfl] at kE kO
    rw [zat_in (a := p + 10) (by omega) (by omega) (by decide), hnC.2.2.2.2.1 (by omega), show (nTot (st.ns.take i) : Int) + (k : Int) = ((nTot (st.ns.take i) + n.ps.length : Nat) : Int) by omega]
    have cons : ∀ q, sFld xs (sLook xs m) (6 + i) j st = q → sFds xs (sLook xs m) (6 + i) (j :: xKid xs r (j + (xx xs j).sz)) st = (match q with | .error e => .error e | .ok st1 => sFds xs (sLook xs m) (6 + i) (xKid xs r (j + (xx xs j).sz)) st1) := fun q hq => by rw [← hq]; rfl
    refine c_fld Γ (by omega) hm hok hS0 hI hT g1 hC hK hi hkd (by omega) (by omega) (by omega) (fun e he x M1 f1 f2 => ?_) (fun st1 he M1 NU1 h1 h2 h3 h4 => ?_)
    · have hbad := kE e (cons _ he)
      refine zs_X1_lookAtRecord_107 Γ (by omega) hok hs hp hs24 hs6 ?_
      unfold zt_X1_lookAtRecord_107
      have hmx : zm_X6_measureRecord l s0 G ca (d - 1) C S p ((6 + i : Nat) : Int) M1 (fun r161 M161 => Q ((6 + i : Nat) : Int) M161) X := c_meaX Γ (by omega) hok hp (by omega) (hbad _ _ f1 f2) (fun x => hbad _ _ (f1.zu (by omega)) (f2.zu (by omega)))
      exact ⟨fun _ => hmx, fun _ => ⟨fun c => absurd c (sF_ne f1), fun _ => hmx⟩⟩
    · obtain ⟨n1, y1, y2, y3, y4, y5⟩ := sFld_at hi he
      have hT2 := hT.dfr h4
      rw [show (k : Int) + 1 = ((k + 1 : Nat) : Int) by omega]
      exact ih (j + (xx xs j).sz) (nn - (xx xs j).sz) (k + 1) _ _ _ _ _ g6 (by omega) (fun h => c_next hT2 hkL h) h1 (sFld_k (sLook_k m) hK he) hT2 y1 (by omega) (by omega) (by omega) (y5 hps) (by omega) (by omega) (fun e he2 => (kE e ((cons _ he).trans he2)).fr h4) (fun st3 z1 M3 NU3 z3 z4 z5 z6 => kO st3 ((cons _ he).trans z1) M3 NU3 z3 (by omega) (by omega) (h4.tr z6))
theorem c_rec (Γ : rt_Γ l s0 a0 G ca) {m : Nat} (hd : 8 * m + 26 ≤ d) (hm : m + 1 ≤ 16) (hok : zok C) (hS : sSh S p) (hI : cLk l s0 G ca C S xs p m) (hT : cTx M xs) (hv : v < xs.length) (hk : (xx xs v).kd = 1) (hC : sC M p NU st) (hK : kOk st) (hlt : st.ns.length < st.lk) (hr : NU + wS xs v (xx xs v).sz ≤ 4096) (hU : nTot st.ns + ((xx xs v).sz - 1) ≤ 2048)
    (kE : ∀ e : Nat × Nat, sNmd xs (sLook xs m) v 11 st = .error e → cE p M Q e) (kO : ∀ (n : Nat) (st1 : SS), sNmd xs (sLook xs m) v 11 st = .ok (n, st1) → cO p M Q NU (wS xs v (xx xs v).sz) ((xx xs v).sz - 1) st st1 n) : zm_X1_lookAtRecord l s0 G ca d C S v ((16 - (m + 1) : Nat) : Int) M Q X := by
  have hS0 := hS
  obtain ⟨hs, hp, hs24, hs6, hp0⟩ := hS
  refine z_X1_lookAtRecord Γ (by omega) hok hs hp hs24 hs6 ?_
  unfold zt_X1_lookAtRecord
  refine c_dfn (kd := 11) Γ (by omega) hok hS0 hT hv hk hC hlt hr (fun e he x M1 f1 f2 => ⟨fun c => absurd c (sF_ne f1), fun _ => kE e (by unfold sNmd; rw [he]) x M1 f1 f2⟩) (fun n hn hk3 he M1 hC1 hd1 hw1 => ?_)
  have sm : sNmd xs (sLook xs m) v 11 st = sRec xs (sLook xs m) v (sNum st) (sNew st 11 (some ((xx xs n).ws, n)) 0) := by unfold sNmd; rw [he]; rfl
  rw [sm] at kE kO
  have h0 := hC1.1.2.1
  have hT1 := hT.dfr hd1
  have hl := hT.2.2
  have hat : (sNew st 11 (some ((xx xs n).ws, n)) 0).ns[st.ns.length]? = some (11, some ((xx xs n).ws, n), -1, 0, []) := sNew_at
  refine ⟨fun _ => ?_, fun c => absurd (by rw [h0]; decide) c⟩
  intro q22 h22
  refine c_mem Γ (by omega) hok hs hs6 hT1 hv hk h22 ?_
  unfold sRec at kE kO
  cases hmm : xMem xs v (iw [102, 105, 101, 108, 100, 115]) with
  | none =>
    rw [hmm] at kE
    refine ⟨fun _ => ?_, fun c => absurd (by decide) c⟩
    exact c_fail (k := 8) Γ (by omega) hok hS0 hT1 hv (by decide) h0 (fun M2 f1 f2 => kE (8, (xx xs v).bg) rfl _ M2 f1 (hd1.tr f2))
  | some t =>
    rw [hmm] at kE kO
    dsimp only at kE kO
    obtain ⟨m1, m2, htx⟩ := xMem_mem hT.2.1 hv hmm
    have hrt := cRec_at hT1 htx
    obtain ⟨hkt, -, hsz, hsz2, hln, hkids, -⟩ := jWf_at hT.2.1 htx
    have two := xMem_two hT.2.1 hv hn hmm (by decide)
    obtain ⟨-, -, hnx⟩ := xMem_mem hT.2.1 hv hn
    have hw2 := wS_one (xs := xs) (i := n) (n := (xx xs n).sz) (jWf_at hT.2.1 hnx).2.2.1
    have hw3 := jlw_w hk3
    have no : ¬ ((xx xs t).kd = 2 ∧ (xx xs t).len ≤ 32) → zm_X1_fail l s0 G ca (d - 1) C S 11 (t : Int) M1 (fun r79 M79 => Q r79 M79) X := fun h =>
      c_fail (k := 11) Γ (by omega) hok hS0 hT1 htx (by decide) h0 (fun M2 f1 f2 => kE (11, (xx xs t).bg) (if_neg h) _ M2 f1 (hd1.tr f2))
    rw [show oI (some t) = (t : Int) from rfl]
    refine ⟨fun c => by rw [w32_id (by omega) (by omega)] at c; omega, fun _ => ?_⟩
    rw [c_zat (by omega), hrt.1, w32_id (x := ((xx xs t).kd : Int)) (by omega) (by omega)]
    refine ⟨fun c1 => ?_, fun c1 => no (fun h => c1 (by rw [h.1]; rfl))⟩
    have hk2 : (xx xs t).kd = 2 := by omega
    have hkL := hkids (Or.inr hk2)
    rw [decide_eq_false (by omega)] at hkL
    have hle := kidsL_le hkL
    rw [c_zat (by omega), hrt.2.2.1, w32_id (x := ((xx xs t).len : Int)) (by omega) (by omega)]
    refine ⟨fun c3 => ?_, fun c3 => no (fun h => by omega)⟩
    rw [if_pos ⟨hk2, by omega⟩] at kE kO
    have hg := hC1.2.2.2.2.2.2.1
    have hlk := hC1.2.2.2.2.2.2.2.1
    rw [sNew_len] at hg
    show zm_X6_addParts l s0 G ca (d - 1) C S p ((sNum st : Nat) : Int) _ M1 _ X
    refine c_aps Γ (by omega) hok hp (s := sNum st) (T := nTot st.ns) (by unfold sNum; have : (sNew st 11 (some ((xx xs n).ws, n)) 0).lk = st.lk := rfl; omega) (by have := hC1.2.1.2.1; rw [sNew_tot] at this; exact this) (by omega) (fun M2 hA => ?_)
    have hC2 := sC_cnt (ct := (xx xs t).len) hC1 hp0 hw1 hat sNew_len.symm rfl rfl (show ¬ (11 = 6 ∨ 11 = 7) by decide) (by rw [sNew_tot]; omega) (by rw [sNew_tot]; exact hA)
    have hd2 : dfr p M M2 := hd1.tr (fun a ha => funext fun j => hA.2.2.2.2 a j (by omega) (by omega) (by omega) (by omega))
    have hT2 := hT.dfr hd2
    have hrt2 := cRec_at hT2 htx
    have ecn : sCnt (sNew st 11 (some ((xx xs n).ws, n)) 0) (sNum st) (xx xs t).len = sNew st 11 (some ((xx xs n).ws, n)) (xx xs t).len := sCnt_new
    rw [ecn] at kE kO
    rw [sCnt_new] at hC2
    have hws : wS xs (t + 1) ((xx xs t).sz - 1) ≤ wS xs t (xx xs t).sz := wS_sub (by omega) (by omega)
    refine c_fdsL Γ (by omega) hm hok hS0 hI (i := st.ns.length) (show (xx xs t).len ≤ 32 by omega) (xx xs t).len (t + 1) ((xx xs t).sz - 1) 0 M2 _ _ _ _ hkL (Nat.zero_add _) (fun h => ?_) hC2 (hK.new (by decide)) hT2 sNew_at rfl rfl rfl (fun q hq => (nomatch hq)) (by omega) (by rw [sNew_tot]; omega) (fun e he x M3 f1 f2 => ?_) (fun st1 h1 M3 NU3 h3 h4 h5 h6 => ?_)
    · rw [c_zat (by omega), hrt2.2.2.2.1, if_neg (by omega)]
    · exact kE e (by rw [show sFds xs (sLook xs m) (sNum st) (xKids xs t) (sNew st 11 (some ((xx xs n).ws, n)) (xx xs t).len) = .error e from he]) x M3 f1 (hd2.tr f2)
    · rw [sNew_tot] at h5
      exact kO (sNum st) st1 (by rw [show sFds xs (sLook xs m) (sNum st) (xKids xs t) (sNew st 11 (some ((xx xs n).ws, n)) (xx xs t).len) = .ok st1 from h1]) M3 NU3 h3 (by omega) (by omega) (hd2.tr h6)
theorem c_obj (Γ : rt_Γ l s0 a0 G ca) {m : Nat} (hd : 8 * m + 27 ≤ d) (hm : m + 1 ≤ 16) (hok : zok C) (hS : sSh S p) (hI : cLk l s0 G ca C S xs p m) (hT : cTx M xs) (hv : v < xs.length) (hk : (xx xs v).kd = 1) (hC : sC M p NU st) (hK : kOk st) (hlt : st.ns.length < st.lk) (hr : NU + wS xs v (xx xs v).sz ≤ 4096) (hU : nTot st.ns + ((xx xs v).sz - 1) ≤ 2048)
    (kE : ∀ e : Nat × Nat, sObj xs (sLook xs m) v st = .error e → cE p M Q e) (kO : ∀ (n : Nat) (st1 : SS), sObj xs (sLook xs m) v st = .ok (n, st1) → cO p M Q NU (wS xs v (xx xs v).sz) ((xx xs v).sz - 1) st st1 n) : zm_X1_lookAtObject l s0 G ca d C S v ((16 - (m + 1) : Nat) : Int) M Q X := by
  have hS0 := hS
  obtain ⟨hs, hp, hs24, hs6, hp0⟩ := hS
  refine z_X1_lookAtObject Γ (by omega) hok hs hp hs24 hs6 ?_
  unfold zt_X1_lookAtObject
  have h0 := hC.1.2.1
  have hl := hT.2.2
  intro q5 h5
  refine c_mem Γ (by omega) hok hs hs6 hT hv hk h5 ?_
  unfold sObj at kE kO
  cases hmm : xMem xs v (iw [116, 121, 112, 101]) with
  | none =>
    rw [hmm] at kE
    refine ⟨fun _ => ?_, fun c => absurd c_iss0 c⟩
    exact c_fail (k := 7) Γ (by omega) hok hS0 hT hv (by decide) h0 (fun M2 f1 f2 => kE (7, (xx xs v).bg) rfl _ M2 f1 f2)
  | some t =>
    rw [hmm] at kE kO
    dsimp only at kE kO
    obtain ⟨m1, m2, htx⟩ := xMem_mem hT.2.1 hv hmm
    refine ⟨fun c => ?_, fun c => ?_⟩
    · have hk3 := (c_iss hT htx).mp c
      exact c_fail (k := 7) Γ (by omega) hok hS0 hT hv (by decide) h0 (fun M2 f1 f2 => kE (7, (xx xs v).bg) (if_neg hk3) _ M2 f1 f2)
    have hk3 : (xx xs t).kd = 3 := Decidable.not_not.mp (fun h => c ((c_iss hT htx).mpr h))
    rw [if_pos hk3] at kE kO
    show zm_X1_compound l s0 G ca (d - 1) C S (t : Int) M _ X
    refine c_com Γ (by omega) hok hs hp hs24 hs6 hT htx hk3 ?_
    cases hc : sCom (xx xs t).ws with
    | none =>
      rw [hc] at kE kO
      dsimp only at kE kO
      refine ⟨fun c => absurd c (by decide), fun _ => ⟨fun c => absurd c (by decide), fun _ => ⟨fun c => absurd c (by decide), fun _ => ⟨fun c => absurd c (by decide), fun _ => ⟨fun c => absurd c (by decide), fun _ => ?_⟩⟩⟩⟩⟩
      show zm_X1_known l s0 G ca (d - 1) C S (t : Int) M _ X
      exact c_knw Γ (by omega) hok hS0 hT htx hk3 hC (fun e he x M1 f1 f2 => kE e he x M1 f1 f2) (fun n hn => kO n st hn M NU hC (by omega) (by omega) dfr.rf)
    | some k =>
      rw [hc] at kE kO
      dsimp only at kE kO
      obtain ⟨hk12, hks⟩ := sCom_lt hc
      have ek : w32 (oI (some k)) = (k : Int) := oI_w (by omega)
      rw [ek]
      refine ⟨fun c => ?_, fun n6 => ⟨fun c => ?_, fun n7 => ⟨fun c => ?_, fun n9 => ⟨fun c => ?_, fun n10 => ⟨fun c => ?_, fun n11 => ?_⟩⟩⟩⟩⟩
      · have e : k = 6 := Int.ofNat.inj c
        subst e
        intro q81 h81
        refine c_mem Γ (by omega) hok hs hs6 hT hv hk h81 ?_
        exact c_itm (kd := 6) (w := iw [105, 116, 101, 109, 115]) Γ (by omega) hm hok hS0 hI hT hv hC hK hlt (Or.inl rfl) hr hU kE kO
      · have e : k = 7 := Int.ofNat.inj c
        subst e
        intro q100 h100
        refine c_mem Γ (by omega) hok hs hs6 hT hv hk h100 ?_
        exact c_itm (kd := 7) (w := iw [118, 97, 108, 117, 101, 115]) Γ (by omega) hm hok hS0 hI hT hv hC hK hlt (Or.inr rfl) hr hU kE kO
      · have e : k = 9 := Int.ofNat.inj c
        subst e
        exact c_fix (L := sLook xs m) Γ (by omega) hok hS0 hT hv hk hC hlt hr kE kO
      · have e : k = 10 := Int.ofNat.inj c
        subst e
        exact c_enm (L := sLook xs m) Γ (by omega) hok hS0 hT hv hk hC hlt hr hU kE kO
      · have e : k = 11 := Int.ofNat.inj c
        subst e
        exact c_rec Γ (by omega) hm hok hS0 hI hT hv hk hC hK hlt hr hU kE kO
      · exfalso
        rcases hks with h | h | h | h | h
        · exact n6 (by rw [h]; rfl)
        · exact n7 (by rw [h]; rfl)
        · exact n9 (by rw [h]; rfl)
        · exact n10 (by rw [h]; rfl)
        · exact n11 (by rw [h]; rfl)
theorem c_look (Γ : rt_Γ l s0 a0 G ca) (hok : zok C) (hS : sSh S p) : ∀ m : Nat, m ≤ 16 → cLk l s0 G ca C S xs p m := by
  have hS0 := hS
  obtain ⟨hs, hp, hs24, hs6, hp0⟩ := hS
  intro m
  induction m with
  | zero =>
    intro _ d v br st M NU Q X hd hv hT hC hK hW hU kE kO
    refine z_X1_look Γ (by omega) hok hs hp hs24 hs6 ?_
    unfold zt_X1_look
    have h0 := hC.1.2.1
    have hlk := hC.2.2.2.2.2.2.2.1
    unfold sLook at kE
    rw [hC.1.1, w32_id (by omega) (by omega)]
    refine ⟨fun c => ⟨fun c2 => absurd c2 (by decide), fun _ => ?_⟩, fun c => ?_⟩
    · exact c_fail (k := 14) Γ (by omega) hok hS0 hT hv (by decide) h0 (fun M2 f1 f2 => kE (14, (xx xs v).bg) (if_neg (by omega)) _ M2 f1 f2)
    · exact c_fail (k := 13) Γ (by omega) hok hS0 hT hv (by decide) h0 (fun M2 f1 f2 => kE (13, (xx xs v).bg) (if_pos (by omega)) _ M2 f1 f2)
  | succ m ih =>
    intro hm d v br st M NU Q X hd hv hT hC hK hW hU kE kO
    have hI := ih (by omega)
    refine z_X1_look Γ (by omega) hok hs hp hs24 hs6 ?_
    unfold zt_X1_look
    have h0 := hC.1.2.1
    have hlk := hC.2.2.2.2.2.2.2.1
    have hnl := hC.2.2.2.2.2.2.1
    have hl := hT.2.2
    have hkv := (jWf_at hT.2.1 hv).1
    unfold sLook at kE kO
    have e5 : w32 (M 24 5) = (st.lk : Int) := by rw [hC.1.1, w32_id (by omega) (by omega)]
    rw [e5]
    refine ⟨fun c => ⟨fun _ => ?_, fun c2 => absurd (by rw [w32_id (by omega) (by omega)]; omega) c2⟩, fun c => ?_⟩
    · rw [if_neg (by omega)] at kE kO
      dsimp only at kE kO
      obtain ⟨hC1, hd1⟩ := sC_lk hC hp0 (by omega)
      have hT1 := hT.dfr hd1
      have h01 := hC1.1.2.1
      have hr1 := cRec_at hT1 hv
      have hK1 : kOk (st.lk + 1, st.2) := hK
      have hlt1 : (SS.ns (st.lk + 1, st.2)).length < SS.lk (st.lk + 1, st.2) := Nat.lt_succ_of_le hnl
      generalize zu M 24 5 (M 24 5 + 1) = M1 at hC1 hd1 hT1 h01 hr1 ⊢
      rw [c_zat (by omega), hr1.1, w32_id (x := ((xx xs v).kd : Int)) (by omega) (by omega)]
      refine ⟨fun c3 => ?_, fun c3 => ⟨fun c2 => ?_, fun c2 => ⟨fun c1 => ?_, fun c1 => ?_⟩⟩⟩
      · have hk3 : (xx xs v).kd = 3 := by omega
        rw [if_pos hk3] at kE kO
        exact c_knw Γ (by omega) hok hS0 hT1 hv hk3 hC1 (fun e he x M2 f1 f2 => kE e he x M2 f1 (hd1.tr f2)) (fun n hn => kO n _ hn M1 NU hC1 (by omega) (Nat.le_add_right _ _) hd1)
      · have hk2 : (xx xs v).kd = 2 := by omega
        rw [if_neg (by omega), if_pos hk2] at kE kO
        cases br with
        | false =>
          rw [if_neg (fun h => nomatch h)] at kE kO
          refine ⟨fun _ => ?_, fun c => absurd (by decide) c⟩
          exact c_uni Γ (by omega) hm hok hS0 hI hT1 hv hk2 hC1 hK1 hlt1 hW hU (fun e he x M2 f1 f2 => kE e he x M2 f1 (hd1.tr f2)) (fun n st1 hn M2 NU2 y1 y2 y3 y4 => kO n st1 hn M2 NU2 y1 y2 y3 (hd1.tr y4))
        | true =>
          rw [if_pos rfl] at kE kO
          refine ⟨fun c => absurd c (by decide), fun _ => ?_⟩
          exact c_fail (k := 4) Γ (by omega) hok hS0 hT1 hv (by decide) h01 (fun M2 f1 f2 => kE (4, (xx xs v).bg) rfl _ M2 f1 (hd1.tr f2))
      · have hk1 : (xx xs v).kd = 1 := by omega
        rw [if_neg (by omega), if_neg (by omega), if_pos hk1] at kE kO
        exact c_obj Γ (by omega) hm hok hS0 hI hT1 hv hk1 hC1 hK1 hlt1 hW hU (fun e he x M2 f1 f2 => kE e he x M2 f1 (hd1.tr f2)) (fun n st1 hn M2 NU2 y1 y2 y3 y4 => kO n st1 hn M2 NU2 y1 y2 y3 (hd1.tr y4))
      · rw [if_neg (by omega), if_neg (by omega), if_neg (by omega)] at kE
        exact c_fail (k := 2) Γ (by omega) hok hS0 hT1 hv (by decide) h01 (fun M2 f1 f2 => kE (2, (xx xs v).bg) rfl _ M2 f1 (hd1.tr f2))
    · exact c_fail (k := 13) Γ (by omega) hok hS0 hT hv (by decide) h0 (fun M2 f1 f2 => kE (13, (xx xs v).bg) (if_pos (by omega)) _ M2 f1 f2)
end SMs
