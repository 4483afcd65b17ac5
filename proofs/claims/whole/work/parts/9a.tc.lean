/-! ===== the reference's unions ===== -/
section TCs
variable {l : Launch} {s0 : State} {a0 : Array Value} {G : va_G} {ca : Nat → ClassId} {d : Nat} {C : Nat × Nat} {S : zS} {M : zM} {Q : Int → zM → Prop} {X : zM → Prop} {xs : List JR} {v : Nat} {t : Int} {st : SS}
theorem r_uniL (Γ : rt_Γ l s0 a0 G ca) {m : Nat} (hd : 8 * m + 21 ≤ d) (hm : m + 1 ≤ 16) (hok : zok C) (ht : zTx S t) (hI : rLk l s0 G ca C S xs t m) {w0 : rt_Wd} {i : Nat} : ∀ (c j nn : Nat) (M : zM) (st : SS) (n : SN), kidsL c (xs.drop j) nn false → rTx M t xs → rC M t xs st → kOk st → kV st → st.ns[i]? = some n → n.kd = 8 → (∀ q ∈ n.ps, ∃ o : Nat, q.nd = some o ∧ o < 6 + st.ns.length) → st.kc + nn ≤ 2100 →
    (∀ e : Nat × Nat, sBrn xs (sLook xs m) (6 + i) (xKid xs c j) st = .error e → rE t M X e) →
    (∀ st1 : SS, sBrn xs (sLook xs m) (6 + i) (xKid xs c j) st = .ok st1 → rO t xs M Q (6 + i) st1) →
    zg_X10_union_75 l s0 G ca d C S w0 t ((16 - (m + 1) : Nat) : Int) ((6 + i : Nat) : Int) (lastK n.ps) (if c = 0 then -1 else ((rWp xs j : Nat) : Int)) M Q X := by
  intro c
  induction c with
  | zero =>
    intro j nn M st n hk hT hC hK hV hi hkd hall hU kE kO
    refine zs_X10_union_75 Γ (by omega) hok ht ?_
    unfold zt_X10_union_75
    rw [if_pos rfl]
    exact ⟨fun _ => kO st rfl M hC sfr.rf, fun c => absurd (by decide) c⟩
  | succ c ih =>
    intro j nn M st n hk hT hC hK hV hi hkd hall hU kE kO
    obtain ⟨g1, g2, g3, g4, g5, g6⟩ := kidsL_step hk
    have hrp := r_el g5
    obtain ⟨n1, n2, n3, n4, n5, n6, n7, -⟩ := r_nd hT g1
    have hil := (List.getElem?_eq_some_iff.mp hi).1
    have hlen : st.ns.length ≤ 128 := Nat.le_trans hC.2.2.2.2.1 hC.2.2.2.2.2.1
    refine zs_X10_union_75 Γ (by omega) hok ht ?_
    unfold zt_X10_union_75
    rw [if_neg (Nat.succ_ne_zero c), ← hrp, w32_id (by omega) (by omega), show ((16 - (m + 1) : Nat) : Int) + 1 = ((16 - m : Nat) : Int) by omega]
    unfold xKid sBrn at kE kO
    refine ⟨fun c9 => by omega, fun _ => ?_⟩
    show zm_X10_schemaOf l s0 G ca (d - 1) C S t _ _ (bB true) M _ X
    refine hI (d - 1) j true st M _ X (by omega) g1 hT hC hK hV (by omega) (fun e he => kE e (by rw [he])) (fun nd st1 he M1 f1 f2 => ?_)
    rw [he] at kE kO
    dsimp only at kE kO
    obtain ⟨⟨x1, x2, x3, x4⟩, hnd, x5⟩ := sLook_ok m _ _ _ _ _ he
    have hT1 := hT.fr f2
    have hK1 := sLook_k m _ _ _ _ _ hK he
    have hV1 := sLook_v m _ _ _ _ _ hV he
    have hc1 := sLook_c hT.2.1 m _ _ _ _ _ g1 he
    have hi1 := (x2 i hil).trans hi
    have hN1 := f1.2.2.1 i n hi1
    have hlen1 : st1.ns.length ≤ 128 := Nat.le_trans f1.2.2.2.2.1 f1.2.2.2.2.2.1
    have hch := hN1.2.2.2.2.1
    rw [hkd] at hch
    have elik : sLik st1.ns (6 + i) nd = n.ps.any (fun q => match q.nd with | none => false | some o => sAlk st1.ns o nd) := by
      unfold sLik
      rw [nN_at hi1]
      rfl
    refine ⟨⟨by omega, by omega⟩, r_alkL Γ (by omega) hok ht hT1 g1 f1 hK1 hnd n.ps _ hch (fun q hq => ?_) (fun ha => ?_) (fun ha => ?_)⟩
    · obtain ⟨o, o1, o2⟩ := hall q hq
      exact ⟨o, o1, by omega⟩
    · rw [if_pos (elik.trans ha)] at kE
      exact (kE _ rfl).fr f2
    · have hno : sLik st1.ns (6 + i) nd = false := elik.trans ha
      rw [if_neg (by rw [hno]; exact fun h => nomatch h)] at kE kO
      refine zs_X10_union_101 Γ (by omega) hok ht ?_
      unfold zt_X10_union_101
      refine ⟨fun _ => ?_, fun c9 => absurd (by decide) c9⟩
      have hkc : M1 t 24 = (st1.kc : Int) := f1.1.2.2.1
      refine r_kid Γ hok ht hkc (by omega) (by omega) (by omega) (ps := n.ps) (fun q hq => hV1.1.1 i n q hi1 hq) (fun M2 hF => ⟨⟨by omega, by omega⟩, ⟨by omega, by omega⟩, ?_⟩)
      have fs := hF.sfr
      obtain ⟨r1, r2⟩ := hF.rC f1 hV1 hi1 (M2 := zu M2 (t + 15) st1.kc nd) (nm := []) (nd := some nd) (df := none) (by omega) (fun a b h => if_neg (fun c9 => h ⟨by omega, by omega, c9.2⟩)) ⟨fun m9 h9 => by cases h9; exact zu_s _ _ _ _, fun c9 => absurd hkd (by omega), fun c9 => absurd hkd (by omega)⟩
      have hi2 : (sAdd st1 (6 + i) [] (some nd) none).ns[i]? = some (n.kd, n.nm, n.dt, n.ct, n.ps ++ [([], some nd, none, st1.kc)]) := by
        unfold sAdd
        rw [nN_at hi1]
        exact nPut_at hi1
      have hl2 : (sAdd st1 (6 + i) [] (some nd) none).ns.length = st1.ns.length := nPut_len
      have hnx : M2 (t + 7) ((rP xs j : Nat) : Int) = (if c = 0 then -1 else ((rWp xs (j + (xx xs j).sz) : Nat) : Int)) := by
        rw [fs.1 (t + 7) (by omega), f2.1 (t + 7) (by omega), n7, g4]
        by_cases c0 : c = 0
        · rw [if_pos c0, if_neg (by rw [decide_eq_false (by omega)]; exact fun h => nomatch h)]
        · rw [if_neg c0, if_pos (decide_eq_true (by omega))]
      have e9 : lastK (SN.ps (n.kd, n.nm, n.dt, n.ct, n.ps ++ [([], some nd, none, st1.kc)])) = ((st1.kc : Nat) : Int) := lastK_app
      have hall2 : ∀ q ∈ n.ps ++ [(([], some nd, none, st1.kc) : SP)], ∃ o : Nat, q.nd = some o ∧ o < 6 + (sAdd st1 (6 + i) [] (some nd) none).ns.length := fun q hq => by
        rw [hl2]
        rcases List.mem_append.mp hq with hq | hq
        · obtain ⟨o, o1, o2⟩ := hall q hq
          exact ⟨o, o1, by omega⟩
        · rw [List.mem_singleton] at hq
          subst hq
          exact ⟨nd, rfl, hnd⟩
      rw [hnx]
      have fin := ih _ _ _ _ _ g6 (hT1.fr r2) r1 hK1.add (hV1.add (by omega)) hi2 hkd hall2 (by show st1.kc + 1 + _ ≤ _; omega) (fun e he2 => ((kE e he2).fr f2).fr r2) (fun st2 he2 => ((kO st2 he2).fr f2).fr r2)
      rw [e9] at fin
      exact fin
theorem r_uni (Γ : rt_Γ l s0 a0 G ca) {m : Nat} (hd : 8 * m + 22 ≤ d) (hm : m + 1 ≤ 16) (hok : zok C) (ht : zTx S t) (hI : rLk l s0 G ca C S xs t m) (hT : rTx M t xs) (hv : v < xs.length) (hk : (xx xs v).kd = 2) (hC : rC M t xs st) (hK : kOk st) (hV : kV st) (hlt : st.ns.length < st.lk) (hU : st.kc + ((xx xs v).sz - 1) ≤ 2100)
    (kE : ∀ e : Nat × Nat, sUni xs (sLook xs m) v st = .error e → rE t M X e) (kO : ∀ (n : Nat) (st1 : SS), sUni xs (sLook xs m) v st = .ok (n, st1) → rO t xs M Q n st1) : zm_X10_union l s0 G ca d C S t (rP xs v : Nat) ((16 - (m + 1) : Nat) : Int) 0 M Q X := by
  refine z_X10_union Γ (by omega) hok ht ?_
  obtain ⟨n1, n2, n3, n4, n5, n6, n7, -⟩ := r_nd hT hv
  obtain ⟨-, hsz, hsz1, hsz2, hln, hkids, -⟩ := jWf_at hT.2.1 hv
  have hl := hT.2.2
  have hkL := hkids (Or.inr hk)
  rw [decide_eq_false (by omega)] at hkL
  unfold sUni at kE kO
  have no : ¬ (1 ≤ (xx xs v).len ∧ (xx xs v).len ≤ 16) → zm_X10_need l s0 G ca (d - 1) C S t 0 5 (M (t + 3) (rP xs v : Nat)) M (fun r53 M53 => zm_X10_shape l s0 G ca (d - 1) C S t 8 M53 (fun r59 M59 => zg_X10_union_75 l s0 G ca d C S (zw s0 ca C S M) t ((16 - (m + 1) : Nat) : Int) r59 ((-1)) (M59 (t + 6) (rP xs v : Nat)) M59 Q X) X) X := fun h => by
    rw [if_neg h] at kE
    exact r_need Γ (by omega) hok ht (fun _ M1 f1 => kE _ rfl M1 (by rw [n2] at f1; exact f1)) (fun c => absurd (by decide) c)
  unfold zt_X10_union zt_X10_union_10 zt_X10_union_45 zt_X10_union_46
  refine ⟨fun _ => ⟨⟨by omega, by omega⟩, r_need Γ (by omega) hok ht (fun c => absurd c (by decide)) (fun _ => ?_)⟩, fun c => absurd (by decide) c⟩
  rw [n4 hk, w32_id (x := ((xx xs v).len : Int)) (by omega) (by omega)]
  refine ⟨fun c => ⟨⟨by omega, by omega⟩, no (by omega)⟩, fun c => ⟨fun c2 => ⟨⟨by omega, by omega⟩, no (by omega)⟩, fun c2 => ⟨⟨by omega, by omega⟩, r_need Γ (by omega) hok ht (fun c => absurd c (by decide)) (fun _ => ?_)⟩⟩⟩
  rw [if_pos ⟨by omega, by omega⟩] at kE kO
  refine r_shape Γ hok ht hC hlt (xx xs v).len hV.2 (kd := 8) (fun M1 r1 r2 => ?_)
  rw [r2.1 (t + 6) (by omega), n6 (Or.inr hk)]
  refine r_uniL Γ (by omega) hm hok ht hI (i := st.ns.length) _ _ _ M1 _ _ hkL (hT.fr r2) r1 (hK.new (by decide)) hV.new sNew_at rfl (fun q hq => (nomatch hq)) hU (fun e he => ?_) (fun st1 he => ?_)
  · exact (kE e (by rw [show sBrn xs (sLook xs m) (sNum st) (xKids xs v) (sNew st 8 none (xx xs v).len) = .error e from he])).fr r2
  · exact (kO (sNum st) st1 (by rw [show sBrn xs (sLook xs m) (sNum st) (xKids xs v) (sNew st 8 none (xx xs v).len) = .ok st1 from he])).fr r2
end TCs
