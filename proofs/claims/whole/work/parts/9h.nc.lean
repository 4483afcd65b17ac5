/-! ===== the reference tells a default ===== -/
section NC9
variable {l : Launch} {s0 : State} {a0 : Array Value} {G : va_G} {ca : Nat → ClassId} {d : Nat} {C : Nat × Nat} {S : zS} {M : zM} {Q : Int → zM → Prop} {X : zM → Prop} {xs : List JR} {v s u : Nat} {t : Int} {st : SS}
theorem n_ffL (Γ : rt_Γ l s0 a0 G ca) {m : Nat} (hd : 2 * m + 13 ≤ d) (hok : zok C) (hS : mSh S t) (hvl : v < xs.length) (hk1 : (xx xs v).kd = 1) (hI : ∀ (j : Nat) (w : List Int32), xMem xs v w = some j → ∃ m' : Nat, m = m' + 1 ∧ hv xs m' j ∧ rDt l s0 G ca C S xs t st m') {w0 : rt_Wd} : ∀ (ps : List SP) (h : Int) (u : Nat) (b : List Nat) (M : zM), rCh M t xs 11 ps h → (∀ q ∈ ps, ∃ nd : Nat, q.nd = some nd ∧ nd < 6 + st.ns.length) → rTx M t xs → rC M t xs st → uS M u →
    sFlw xs v (sDv xs st.ns m) ps = .ok b → n2 u b M Q X → zg_X11_tellDefault_183 l s0 G ca d C S w0 t (rP xs v : Nat) h M Q X := by
  obtain ⟨hs1, ht, ht1⟩ := id hS
  intro ps
  induction ps with
  | nil =>
    intro h u b M hc _ hT hC hU he hn
    have e : h = -1 := hc
    have e2 : b = [] := by
      have e : sFlw xs v (sDv xs st.ns m) [] = .ok [] := rfl
      rw [e] at he
      injection he with he
      exact he.symm
    subst e2
    rw [e]
    refine zs_X11_tellDefault_183 Γ (by omega) hok hs1 ?_
    unfold zt_X11_tellDefault_183
    exact zIf_t (by decide) (hn.nil hU.1 hU.2.1)
  | cons q r ih =>
    intro h u b M hc hall hT hC hU he hn
    have hlen := hC.len
    obtain ⟨rfl, h2, ⟨g0, h3, -⟩, h4⟩ := hc
    obtain ⟨w, y1, y2, y3, y4⟩ := h3 (Or.inr rfl)
    obtain ⟨nd, nd1, nd2⟩ := hall q List.mem_cons_self
    have hsp : sPn (some q) = nd := by
      unfold sPn
      dsimp only
      rw [nd1]
    refine zs_X11_tellDefault_183 Γ (by omega) hok hs1 ?_
    unfold zt_X11_tellDefault_183
    rw [w32_id (x := (q.kn : Int)) (by omega) (by omega), y1]
    refine zIf_f (by omega) ⟨ht, ⟨by omega, by omega⟩, ?_⟩
    refine r_ml Γ (by omega) hok ht hT hvl hk1 y2 y3 ?_
    rw [y4]
    unfold sFlw at he
    cases hmm : xMem xs v q.nm with
    | none => rw [hmm] at he; exact nomatch he
    | some j =>
      rw [hmm] at he
      dsimp only at he
      obtain ⟨-, -, hj⟩ := xMem_mem hT.2.1 hvl hmm
      obtain ⟨m', hmm', hvj, hIj⟩ := hI j q.nm hmm
      rw [hsp, hmm'] at he
      cases hb1 : sDv xs st.ns (m' + 1) j nd with
      | error x => rw [hb1] at he; exact nomatch he
      | ok b1 =>
        rw [hb1] at he
        dsimp only at he
        rw [← hmm'] at he
        obtain ⟨b2, hb2, rfl⟩ := sMap_ok he
        rw [g0 nd nd1]
        show zm_X11_tellDefault l s0 G ca (d - 1) C S t ((rP xs j : Nat) : Int) (nd : Int) M _ X
        refine hIj (d - 1) j nd u b1 M _ X (by omega) hj nd2 hvj hT hC hU hb1 ⟨fun hl M1 o => ?_, hn.hd⟩
        have e18 : M1 (t + 18) (q.kn : Int) = M (t + 18) (q.kn : Int) := o.2.2 _ _ (by omega) (by omega)
        dsimp only
        rw [e18]
        exact ih _ _ b2 M1 (h4.mono (fun q1 _ a h1 h2 => o.2.2 a _ (by omega) (by omega))) (fun q2 hq => hall q2 (List.mem_cons_of_mem _ hq)) (hT.u o.2.2.u ht1) (hC.uf o.2.2.u ht1) (hU.t o hl) hb2 (hn.tl o)
theorem n_mpC (Γ : rt_Γ l s0 a0 G ca) (hd : 4 ≤ d) (hok : zok C) (hS : mSh S t) (hvl : v < xs.length) (hk1 : (xx xs v).kd = 1) (hT : rTx M t xs) {w0 : rt_Wd}
    (h : ∀ w9 : rt_Wd, zIf (0 < (xx xs v).len) (zm_X11_tellVarint l s0 G ca (d - 1) C S ((xx xs v).len : Nat) M (fun r343 M343 => zTx S t ∧ ((0 ≤ ((rP xs v : Nat) : Int) ∧ ((rP xs v : Nat) : Int) < 4200) ∧ (zg_X11_tellDefault_354 l s0 G ca d C S w9 t s (M343 (t + 6) (rP xs v : Nat)) M343 Q X))) X) (zg_X11_tellDefault_354 l s0 G ca d C S w9 t s (M (t + 6) (rP xs v : Nat)) M Q X)) : ∀ (c i n k : Nat), kidsL c (xs.drop i) n true → k + c = (xx xs v).len → zg_X11_tellDefault_309 l s0 G ca d C S w0 t (rP xs v : Nat) s k (if c = 0 then -1 else ((rWp xs i : Nat) : Int)) M Q X := by
  obtain ⟨hs1, ht, ht1⟩ := id hS
  obtain ⟨-, -, v3, -⟩ := r_nd hT hvl
  have hln := (jWf_at hT.2.1 hvl).2.2.2.2.1
  have hx := hT.2.2.1
  intro c
  induction c with
  | zero =>
    intro i n k _ hk
    refine zs_X11_tellDefault_309 Γ (by omega) hok hs1 ?_
    unfold zt_X11_tellDefault_309
    rw [if_pos rfl]
    refine zIf_t (by decide) ?_
    rw [w32_id (x := (k : Int)) (by omega) (by omega)]
    have h9 := h w0
    have hkk : k = (xx xs v).len := by omega
    rw [hkk]
    refine ⟨fun c => ⟨ht, ⟨by omega, by omega⟩, ?_⟩, fun c => ?_⟩
    · exact h9.2 (by omega)
    · exact h9.1 (by omega)
  | succ c ih =>
    intro i n k hkL hk
    obtain ⟨g1, g2, g3, g4, g5, g6⟩ := kidsL_step hkL
    obtain ⟨n1, n2', n3', -, -, -, n7, -⟩ := r_nd hT g1
    obtain ⟨vs, hvs⟩ := Option.isSome_iff_exists.mp g5
    have hjk : jk (xx xs i) = 1 := by unfold jk; rw [hvs]; rfl
    have hrp : rP xs i = rWp xs i + 1 := by unfold rP; rw [hjk]
    obtain ⟨-, k10, -⟩ := (rTx_at hT g1).1 vs hvs
    have hkey : M (t + 7) (rWp xs i : Nat) = (rP xs i : Nat) := by rw [k10, hrp]; omega
    refine zs_X11_tellDefault_309 Γ (by omega) hok hs1 ?_
    unfold zt_X11_tellDefault_309
    rw [if_neg (Nat.succ_ne_zero c), w32_id (x := ((rWp xs i : Nat) : Int)) (by omega) (by omega), hkey]
    refine zIf_f (by omega) ⟨ht, ⟨by omega, by omega⟩, ⟨by omega, by omega⟩, ?_⟩
    have hnx : M (t + 7) ((rP xs i : Nat) : Int) = (if c = 0 then -1 else ((rWp xs (i + (xx xs i).sz) : Nat) : Int)) := by
      rw [n7, g4]
      by_cases c0 : c = 0
      · rw [if_pos c0, if_neg (by rw [decide_eq_false (by omega)]; exact fun h => nomatch h)]
      · rw [if_neg c0, if_pos (decide_eq_true (by omega))]
    rw [hnx, show (k : Int) + 1 = ((k + 1 : Nat) : Int) by omega]
    exact ih _ _ (k + 1) g6 (by omega)
theorem n_dw (Γ : rt_Γ l s0 a0 G ca) {m : Nat} (hd : 2 * m + 13 ≤ d) (hok : zok C) (hS : mSh S t) (hvl : v < xs.length) (hvm : hv xs m v) (hI : ∀ m' : Nat, m = m' + 1 → rDt l s0 G ca C S xs t st m') (hK : kOk st) (hF : kF st) (hV : kV st) (hs : s < 6 + st.ns.length) (hk8 : ¬ (nN st.ns s).kd = 8) (hT : rTx M t xs) (hC : rC M t xs st) (hU : uS M u) {bs : List Nat} (he : sDw xs st.ns (sDv xs st.ns m) v s = .ok bs) (hn : n2 u bs M Q X) : zm_X11_tellDefault l s0 G ca d C S t (rP xs v : Nat) s M Q X := by
  obtain ⟨hs1, ht, ht1⟩ := id hS
  refine z_X11_tellDefault Γ (by omega) hok hs1 ?_
  unfold zt_X11_tellDefault
  have hk12 := nN_kd hK s
  have hlen := hC.len
  obtain ⟨v1, v2, v3, v4, v5, v6, -, v8, v9, -⟩ := r_nd hT hvl
  have hl := hT.2.2.1
  have hln := (jWf_at hT.2.1 hvl).2.2.2.2.1
  rw [r_kd hC hs, v1, w32_id (x := ((nN st.ns s).kd : Int)) (by omega) (by omega), w32_id (x := ((xx xs v).kd : Int) - 1) (by omega) (by omega)]
  unfold sDw at he
  refine ⟨ht, ⟨by omega, by omega⟩, ?_⟩
  by_cases k6 : (nN st.ns s).kd = 6
  · rw [if_pos k6] at he
    refine zIf_f (by omega) (zIf_f (by omega) (zIf_f (by omega) (zIf_f (by omega) (zIf_f (by omega) (zIf_f (by omega) (zIf_t (by omega) ⟨⟨by omega, by omega⟩, ?_⟩))))))
    by_cases hk2 : (xx xs v).kd = 2
    · rw [if_pos hk2] at he
      obtain ⟨b, hb, rfl⟩ := sMap_ok he
      unfold sItb at hn
      have hkL := (jWf_at hT.2.1 hvl).2.2.2.2.2.1 (Or.inr hk2)
      rw [decide_eq_false (by omega)] at hkL
      rw [v6 (Or.inr hk2), v4 hk2]
      unfold xKids at hb
      by_cases l0 : (xx xs v).len = 0
      · rw [l0] at hb hn ⊢
        rw [if_neg (Nat.lt_irrefl 0), List.nil_append] at hn
        have e0 : b = [] := by
          injection hb with hb
          exact hb.symm
        subst e0
        rw [if_pos rfl]
        refine zIf_t (by decide) ?_
        refine zs_X11_tellDefault_255 Γ (by omega) hok hs1 ?_
        unfold zt_X11_tellDefault_255
        exact zIf_t (by decide) (n_end Γ (by omega) hok hs1 hU hn)
      · rw [if_pos (by omega), List.append_assoc] at hn
        rw [if_neg l0]
        cases m with
        | zero => exact absurd (hv_leaf hvm) l0
        | succ m' =>
          have hw := (r_nd hT (show v + 1 < xs.length by omega)).2.2.1
          have hwp : rWp xs (v + 1) ≤ rP xs (v + 1) := Nat.le_add_right _ _
          refine zIf_f (by rw [w32_id (by omega) (by omega)]; omega) ?_
          rw [w32_id (x := (((xx xs v).len : Nat) : Int)) (by omega) (by omega)]
          refine n_putV Γ (by omega) hok hs1 ⟨by omega, by omega⟩ hU ⟨fun hl1 M1 o1 => ?_, hn.hd⟩
          have hT1 := hT.u o1.2.2.u ht1
          dsimp only
          rw [(r_nd hT1 hvl).2.2.2.2.2.1 (Or.inr hk2)]
          exact n_elL Γ (by omega) hok hS (hI m' rfl) hF hs k6 (xx xs v).len (v + 1) _ _ b M1 hkL (hv_kid hvm) hT1 (hC.uf o1.2.2.u ht1) (hU.t o1 hl1) hb (hn.tl o1)
    · rw [if_neg hk2] at he
      exact nomatch he
  rw [if_neg k6] at he
  by_cases k7 : (nN st.ns s).kd = 7
  · rw [if_pos k7] at he
    refine zIf_f (by omega) (zIf_f (by omega) (zIf_f (by omega) (zIf_f (by omega) (zIf_f (by omega) (zIf_f (by omega) (zIf_f (by omega) (zIf_f (by omega) (zIf_f (by omega) (zIf_f (by omega) (zIf_f (by omega) ⟨⟨by omega, by omega⟩, ?_⟩))))))))))
    by_cases hk1 : (xx xs v).kd = 1
    · rw [if_pos hk1] at he
      obtain ⟨b, hb, rfl⟩ := sMap_ok he
      unfold sItb at hn
      have hkL := (jWf_at hT.2.1 hvl).2.2.2.2.2.1 (Or.inl hk1)
      rw [decide_eq_true hk1] at hkL
      rw [v6 (Or.inl hk1)]
      unfold xKids at hb
      refine n_mpC Γ (by omega) hok hS hvl hk1 hT (fun w9 => ?_) (xx xs v).len (v + 1) _ 0 hkL (Nat.zero_add _)
      refine ⟨fun l0 => ?_, fun l0 => ?_⟩
      · rw [if_pos l0, List.append_assoc] at hn
        cases m with
        | zero =>
          have := hv_leaf hvm
          omega
        | succ m' =>
          refine n_putV Γ (by omega) hok hs1 ⟨by omega, by omega⟩ hU ⟨fun hl1 M1 o1 => ⟨ht, ⟨by omega, by omega⟩, ?_⟩, hn.hd⟩
          have hT1 := hT.u o1.2.2.u ht1
          rw [(r_nd hT1 hvl).2.2.2.2.2.1 (Or.inl hk1)]
          exact n_mpL Γ (by omega) hok hS (hI m' rfl) hF hs k7 (xx xs v).len (v + 1) _ _ b M1 hkL (hv_kid hvm) hT1 (hC.uf o1.2.2.u ht1) (hU.t o1 hl1) hb (hn.tl o1)
      · have l1 : (xx xs v).len = 0 := by omega
        rw [if_neg l0, List.nil_append] at hn
        rw [v6 (Or.inl hk1), l1, if_pos rfl]
        rw [l1] at hb
        have e0 : b = [] := by
          injection hb with hb
          exact hb.symm
        subst e0
        refine zs_X11_tellDefault_354 Γ (by omega) hok hs1 ?_
        unfold zt_X11_tellDefault_354
        exact zIf_t (by decide) (n_end Γ (by omega) hok hs1 hU hn)
    · rw [if_neg hk1] at he
      exact nomatch he
  rw [if_neg k7] at he
  by_cases k11 : (nN st.ns s).kd = 11
  · rw [if_pos k11] at he
    refine zIf_f (by omega) (zIf_f (by omega) (zIf_f (by omega) (zIf_f (by omega) (zIf_f (by omega) (zIf_f (by omega) (zIf_f (by omega) (zIf_f (by omega) (zIf_f (by omega) (zIf_f (by omega) (zIf_t (by omega) ?_))))))))))
    by_cases hk1 : (xx xs v).kd = 1
    · rw [if_pos hk1] at he
      obtain ⟨i, e, hi⟩ := nN_some (ns := st.ns) (s := s) (nN_ge (ns := st.ns) (by omega)) hs
      have hch := (hC.2.2.1 i _ hi).2.2.2.2.1
      rw [k11] at hch
      rw [e]
      rw [e] at hch he hi
      refine n_ffL Γ (by omega) hok hS hvl hk1 (fun j w hj => ?_) _ _ u bs M hch (fun q hq => ?_) hT hC hU he hn
      · have hjk := (xFind_mem hj).1
        cases m with
        | zero =>
          exfalso
          unfold xKids at hjk
          rw [hv_leaf hvm] at hjk
          exact nomatch hjk
        | succ m' => exact ⟨m', rfl, hv_kid hvm j hjk, hI m' rfl⟩
      · obtain ⟨nd, nd1, nd2, -⟩ := (hF i _ hi).2.1 (by rw [← e]; omega) q hq
        rw [kK_len] at nd2
        exact ⟨nd, nd1, nd2⟩
    · rw [if_neg hk1] at he
      exact nomatch he
  rw [if_neg k11] at he
  cases hp : sPla st.ns (xx xs v) s with
  | none => rw [hp] at he; exact nomatch he
  | some b =>
    rw [hp] at he
    injection he with he
    subst he
    unfold sPla at hp
    by_cases k0 : (nN st.ns s).kd = 0
    · rw [if_pos k0] at hp
      split at hp
      · injection hp with hp
        subst hp
        exact zIf_t (by omega) (hn.nil hU.1 hU.2.1)
      · exact nomatch hp
    rw [if_neg k0] at hp
    refine zIf_f (by omega) ?_
    by_cases k1 : (nN st.ns s).kd = 1
    · rw [if_pos k1] at hp
      refine zIf_t (by omega) ⟨⟨by omega, by omega⟩, ?_⟩
      split at hp
      · injection hp with hp
        subst hp
        exact zIf_t (by omega) (n_byte Γ (by omega) hok hs1 (y := 1) rfl hU.1 hU.2.1 hU.2.2 hn.1 hn.2)
      · split at hp
        · injection hp with hp
          subst hp
          exact zIf_f (by omega) (n_byte Γ (by omega) hok hs1 (y := 0) rfl hU.1 hU.2.1 hU.2.2 hn.1 hn.2)
        · exact nomatch hp
    rw [if_neg k1] at hp
    refine zIf_f (by omega) ?_
    have num : (xx xs v).kd = 4 → b = vB (xx xs v).num.toInt → (0 ≤ ((rP xs v : Nat) : Int) ∧ ((rP xs v : Nat) : Int) < 4200) ∧ zm_X11_tellVarint l s0 G ca (d - 1) C S (M (t + 4) (rP xs v : Nat)) M (fun r100 M100 => Q 0 M100) X := fun hk4 hb => by
      subst hb
      rw [v5 hk4]
      exact ⟨⟨by omega, by omega⟩, n_putV Γ (by omega) hok hs1 ⟨Int64.le_toInt _, Int64.toInt_lt _⟩ hU hn⟩
    by_cases k2 : (nN st.ns s).kd = 2
    · rw [if_pos k2] at hp
      split at hp
      · rename_i h4
        injection hp with hp
        exact zIf_t (by omega) (num h4.1 hp.symm)
      · exact nomatch hp
    rw [if_neg k2] at hp
    refine zIf_f (by omega) ?_
    by_cases k3 : (nN st.ns s).kd = 3
    · rw [if_pos k3] at hp
      split at hp
      · rename_i h4
        injection hp with hp
        exact zIf_t (by omega) (num h4 hp.symm)
      · exact nomatch hp
    rw [if_neg k3] at hp
    refine zIf_f (by omega) ?_
    by_cases k4 : (nN st.ns s).kd = 4 ∨ (nN st.ns s).kd = 5
    · rw [if_pos k4] at hp
      split at hp
      · rename_i hk3
        injection hp with hp
        subst hp
        obtain ⟨L, w1, w2, w3⟩ := r_str hT hvl hk3
        unfold sStr at hn
        have body : (0 ≤ ((rP xs v : Nat) : Int) ∧ ((rP xs v : Nat) : Int) < 4200) ∧ zm_X11_tellVarint l s0 G ca (d - 1) C S (w32 (M (t + 5) (rP xs v : Nat))) M (fun r114 M114 => zm_X11_tellString l s0 G ca (d - 1) C S t (rP xs v : Nat) M114 (fun r120 M120 => Q 0 M120) X) X := by
          rw [w1.2.2.1, w32_id (x := (((xx xs v).ws.length : Nat) : Int)) (by omega) (by omega)]
          refine ⟨⟨by omega, by omega⟩, n_putV Γ (by omega) hok hs1 ⟨by omega, by omega⟩ hU ⟨fun hl1 M1 o1 => ?_, hn.hd⟩⟩
          exact n_str Γ (by omega) hok hS (by omega) (by omega) (w1.fr (fun a h1 h2 => funext fun j => o1.2.2 a j (by omega) (by omega))) (hU.t o1 hl1) (hn.tl o1)
        by_cases k44 : (nN st.ns s).kd = 4
        · exact zIf_t (by omega) body
        · exact zIf_f (by omega) (zIf_t (by omega) body)
      · exact nomatch hp
    rw [if_neg k4] at hp
    refine zIf_f (by omega) (zIf_f (by omega) (zIf_f (by omega) (zIf_f (by omega) ?_)))
    by_cases k9 : (nN st.ns s).kd = 9
    · rw [if_pos k9] at hp
      split at hp
      · rename_i hk3
        injection hp with hp
        subst hp
        obtain ⟨L, w1, w2, w3⟩ := r_str hT hvl hk3.1
        exact zIf_t (by omega) (n_str Γ (by omega) hok hS (by omega) (by omega) w1 hU hn)
      · exact nomatch hp
    rw [if_neg k9] at hp
    refine zIf_f (by omega) ?_
    by_cases k10 : (nN st.ns s).kd = 10
    · rw [if_pos k10] at hp
      split at hp
      · rename_i hk3
        refine zIf_t (by omega) ?_
        obtain ⟨i, e, hi⟩ := nN_some (ns := st.ns) (s := s) (nN_ge (ns := st.ns) (by omega)) hs
        rw [e]
        rw [e] at hi hp
        refine r_symb Γ (by omega) hok ht hT hvl hk3 hC hi (Or.inl (by rw [← e]; exact k10)) ?_
        cases hq : sPrt (nN st.ns (6 + i)).ps (xx xs v).ws with
        | none => rw [hq] at hp; exact nomatch hp
        | some k =>
          rw [hq] at hp
          injection hp with hp
          subst hp
          have hkl := sPrtL_lt _ _ _ _ hq
          have hps := hV.len hi
          have hkc : st.kc ≤ 2100 := hC.2.2.2.2.2.2.1
          have n1 : -9223372036854775808 ≤ (k : Int) ∧ (k : Int) < 9223372036854775808 := ⟨by omega, by omega⟩
          have n2' : 4 ≤ d - 1 := by omega
          have e1 : w32 (oI (some k)) = (k : Int) := oI_w (by omega)
          rw [e1]
          exact n_putV Γ n2' hok hs1 n1 hU hn
      · exact nomatch hp
    · rw [if_neg k10] at hp
      exact nomatch hp
theorem n_df1 (Γ : rt_Γ l s0 a0 G ca) (hok : zok C) (hS : mSh S t) (hK : kOk st) (hF : kF st) (hV : kV st) {m : Nat} (hI : ∀ m' : Nat, m = m' + 1 → rDt l s0 G ca C S xs t st m') : rDt l s0 G ca C S xs t st m := by
  intro d v s u bs M Q X hd hvl hs hvm hT hC hU he hn
  obtain ⟨hs1, ht, ht1⟩ := id hS
  have hlen := hC.len
  unfold sDv at he
  by_cases h8 : (nN st.ns s).kd = 8
  · rw [if_pos h8, if_pos h8] at he
    obtain ⟨b, hb, rfl⟩ := sMap_ok he
    refine z_X11_tellDefault Γ (by omega) hok hs1 ?_
    unfold zt_X11_tellDefault
    rw [r_kd hC hs, h8]
    refine ⟨ht, ⟨by omega, by omega⟩, zIf_f (by decide) (zIf_f (by decide) (zIf_f (by decide) (zIf_f (by decide) (zIf_f (by decide) (zIf_f (by decide) (zIf_f (by decide) (zIf_t (by decide) ?_)))))))⟩
    have hn9 : n2 u (vB 0 ++ b) M Q X := by rw [vB_0]; exact hn
    refine n_putV Γ (by omega) hok hs1 ⟨by decide, by decide⟩ hU ⟨fun hl1 M1 o1 => ?_, hn9.hd⟩
    have hT1 := hT.u o1.2.2.u ht1
    have hC1 := hC.uf o1.2.2.u ht1
    obtain ⟨k, k1, k2, k3, k4, k5⟩ := r_kid0 hC1 hF hs (Or.inr (Or.inr h8))
    dsimp only
    rw [k1]
    refine ⟨⟨by omega, by omega⟩, ?_⟩
    rw [k3]
    have hnu : ¬ (nN st.ns (sKid0 st.ns s)).kd = 8 := fun c => by
      have h6 : 6 ≤ sKid0 st.ns s := nN_ge (ns := st.ns) (by omega)
      obtain ⟨i, e, hi⟩ := nN_some (ns := st.ns) (s := sKid0 st.ns s) h6 k4
      refine k5 h8 8 h6 ?_ rfl
      unfold kK
      rw [List.getElem?_map, show sKid0 st.ns s - 6 = i by omega, hi]
      show some (nN st.ns (sKid0 st.ns s)).kd = some 8
      rw [c]
    exact n_dw Γ (by omega) hok hS hvl hvm hI hK hF hV k4 hnu hT1 hC1 (hU.t o1 hl1) hb (hn9.tl o1)
  · rw [if_neg h8, if_neg h8, sMap_id (fun b => List.nil_append b)] at he
    exact n_dw Γ (by omega) hok hS hvl hvm hI hK hF hV hs h8 hT hC hU he hn
/-- defaults are told as sDv says -/
theorem n_def (Γ : rt_Γ l s0 a0 G ca) (hok : zok C) (hS : mSh S t) (hK : kOk st) (hF : kF st) (hV : kV st) : ∀ m : Nat, rDt l s0 G ca C S xs t st m := by
  intro m
  induction m with
  | zero => exact n_df1 Γ hok hS hK hF hV (fun m' e => nomatch e)
  | succ m ih => exact n_df1 Γ hok hS hK hF hV (fun m' e => by
      have : m = m' := Nat.succ.inj e
      rw [← this]
      exact ih)
end NC9
