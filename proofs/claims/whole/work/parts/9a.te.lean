/-! ===== the reference's fields ===== -/
theorem pSet_last {q : SP} {m : Nat} : ∀ {ps : List SP}, pSet (ps ++ [q]) ps.length m = ps ++ [(q.nm, some m, q.df, q.kn)] := by
  intro ps
  induction ps with
  | nil => rfl
  | cons a r ih =>
    show pSet (a :: (r ++ [q])) (r.length + 1) m = a :: (r ++ _)
    rw [pSet_consS, ih]
theorem bI_bB {p : Prop} [Decidable p] : bI p = bB (decide p) := by
  unfold bI bB
  by_cases h : p
  · rw [if_pos h, decide_eq_true h]; rfl
  · rw [if_neg h, decide_eq_false h]; rfl
section TEs
variable {l : Launch} {s0 : State} {a0 : Array Value} {G : va_G} {ca : Nat → ClassId} {d : Nat} {C : Nat × Nat} {S : zS} {M : zM} {Q : Int → zM → Prop} {X : zM → Prop} {xs : List JR} {v : Nat} {t : Int} {st : SS}
/-- is the field's name free -/
theorem r_fK (Γ : rt_Γ l s0 a0 G ca) (hd : 3 ≤ d) (hok : zok C) (ht : zTx S t) (hT : rTx M t xs) {b : Nat} (hv : b < xs.length) (hk : (xx xs b).kd = 3) {w0 : rt_Wd} {v1 v3 v5 v6 : Int} : ∀ (ps : List SP) (h : Int) (i : Nat) (g : Bool), rCh M t xs 11 ps h →
    zg_X10_fields_178 l s0 G ca d C S w0 t v1 v3 v5 v6 (rP xs b : Nat) (bB (g && decide (sPrtL (xx xs b).ws ps i = none))) (-1) M Q X →
    zg_X10_fields_178 l s0 G ca d C S w0 t v1 v3 v5 v6 (rP xs b : Nat) (bB g) h M Q X := by
  intro ps
  induction ps with
  | nil =>
    intro h i g hc hQ
    have e : h = -1 := hc
    rw [e]
    rw [decide_eq_true (show sPrtL (xx xs b).ws [] i = none from rfl), Bool.and_true] at hQ
    exact hQ
  | cons q r ih =>
    intro h i g hc hQ
    obtain ⟨rfl, h2, ⟨-, h3, -⟩, h4⟩ := hc
    obtain ⟨u, y1, y2, y3, y4⟩ := h3 (Or.inr rfl)
    obtain ⟨L, g1, g2, g3⟩ := r_str hT hv hk
    obtain ⟨L2, f1, f2, f3⟩ := r_str hT y2 y3
    refine zs_X10_fields_178 Γ (by omega) hok ht ?_
    unfold zt_X10_fields_178 zt_X10_fields_209 zt_X10_fields_210
    rw [w32_id (x := (q.kn : Int)) (by omega) (by omega), y1]
    have nxt : ∀ g2 : Bool, (g2 && decide (sPrtL (xx xs b).ws r (i + 1) = none)) = (g && decide (sPrtL (xx xs b).ws (q :: r) i = none)) → zg_X10_fields_178 l s0 G ca d C S w0 t v1 v3 v5 v6 (rP xs b : Nat) (bB g2) (M (t + 18) q.kn) M Q X := fun g2 e => ih _ (i + 1) g2 h4 (by rw [e]; exact hQ)
    refine ⟨fun c => by omega, fun _ => ⟨fun c => ⟨⟨by omega, by omega⟩, nxt false ?_⟩, fun c => ⟨⟨by omega, by omega⟩, q_same Γ hok ht ht (by omega) (by omega) (by omega) (by omega) f1 g1 (by omega) (by omega) (fun e => ?_) (fun e => ?_)⟩⟩⟩
    · rw [w32_bB.mp c, Bool.false_and, Bool.false_and]
    · refine ⟨fun c => absurd c (by decide), fun _ => ⟨⟨by omega, by omega⟩, nxt false ?_⟩⟩
      rw [Bool.false_and, decide_eq_false (fun hh => ?_), Bool.and_false]
      unfold sPrtL at hh
      rw [if_pos (by rw [← y4]; exact e)] at hh
      exact nomatch hh
    · refine ⟨fun _ => ⟨⟨by omega, by omega⟩, nxt true ?_⟩, fun c => absurd (by decide) c⟩
      have hg : g = true := by
        cases g with
        | true => rfl
        | false => exact absurd (show w32 (bB false) = 0 by decide) c
      have e2 : sPrtL (xx xs b).ws (q :: r) i = sPrtL (xx xs b).ws r (i + 1) := by
        show (if q.nm = (xx xs b).ws then some i else sPrtL (xx xs b).ws r (i + 1)) = _
        exact if_neg (fun c => e (by rw [y4]; exact c))
      rw [hg, e2]
theorem r_fld (Γ : rt_Γ l s0 a0 G ca) {m : Nat} (hd : 8 * m + 21 ≤ d) (hm : m + 1 ≤ 16) (hok : zok C) (ht : zTx S t) (hI : rLk l s0 G ca C S xs t m) (hT : rTx M t xs) (hv : v < xs.length) (hC : rC M t xs st) (hK : kOk st) (hV : kV st) {i : Nat} {n : SN} (hi : st.ns[i]? = some n) (hkd : n.kd = 11) (hU : st.kc + ((xx xs v).sz - 1) ≤ 2100) {w0 : rt_Wd}
    (kE : ∀ e : Nat × Nat, sFld xs (sLook xs m) (6 + i) v st = .error e → rE t M X e)
    (kO : ∀ (st1 : SS) (n1 : SN), sFld xs (sLook xs m) (6 + i) v st = .ok st1 → st1.ns[i]? = some n1 → n1.kd = 11 → lastK n1.ps = st.kc → ∀ M1 : zM, rC M1 t xs st1 → sfr t M M1 → zg_X10_fields_85 l s0 G ca d C S w0 t ((6 + i : Nat) : Int) ((16 - (m + 1) : Nat) : Int) st.kc (M1 (t + 7) (rP xs v : Nat)) M1 Q X) :
    zg_X10_fields_85 l s0 G ca d C S w0 t ((6 + i : Nat) : Int) ((16 - (m + 1) : Nat) : Int) (lastK n.ps) (rP xs v : Nat) M Q X := by
  refine zs_X10_fields_85 Γ (by omega) hok ht ?_
  unfold zt_X10_fields_85
  obtain ⟨v1, v2, v3, -, -, -, -, v8, v9, -⟩ := r_nd hT hv
  have hil := (List.getElem?_eq_some_iff.mp hi).1
  have hlen : st.ns.length ≤ 128 := Nat.le_trans hC.2.2.2.2.1 hC.2.2.2.2.2.1
  have hl := hT.2.2.1
  unfold sFld at kE kO
  rw [nN_at hi] at kE kO
  rw [v1, w32_id (x := ((rP xs v : Nat) : Int)) (by omega) (by omega), w32_id (x := ((xx xs v).kd : Int) - 1) (by omega) (by omega)]
  refine ⟨fun c => by omega, fun _ => ⟨⟨by omega, by omega⟩, fun c => ?_, fun c => ?_⟩⟩
  case refine_2 =>
    unfold zt_X10_fields_106
    rw [if_neg (fun h => c (by omega))] at kE
    exact ⟨⟨by omega, by omega⟩, r_need Γ (by omega) hok ht (fun _ M1 f1 => kE _ rfl M1 (by rw [v2] at f1; exact f1)) (fun c => absurd (by decide) c)⟩
  have hk1 : (xx xs v).kd = 1 := by omega
  rw [if_pos hk1] at kE kO
  unfold zt_X10_fields_106
  refine ⟨⟨by omega, by omega⟩, r_need Γ (by omega) hok ht (fun c => absurd c (by decide)) (fun _ => ?_)⟩
  intro q121 h121
  refine r_mem Γ (by omega) hok ht hT hv hk1 h121 ?_
  have bad8 : rE t M X (8, (xx xs v).bg) → ∀ v7 : Int, zt_X10_fields_149 l s0 G ca d C S w0 t ((6 + i : Nat) : Int) ((16 - (m + 1) : Nat) : Int) (lastK n.ps) (rP xs v : Nat) v7 M Q X := fun h v7 => by
    unfold zt_X10_fields_149 zt_X10_fields_150
    exact ⟨⟨by omega, by omega⟩, r_need Γ (by omega) hok ht (fun _ M1 f1 => h M1 (by rw [v2] at f1; exact f1)) (fun c => absurd (by decide) c)⟩
  cases hnm : xMem xs v (iw [110, 97, 109, 101]) with
  | none =>
    rw [hnm] at kE
    exact ⟨fun _ => bad8 (kE _ rfl) _, fun c => absurd (show w32 (-1) < 0 by decide) c⟩
  | some b =>
    rw [hnm] at kE kO
    dsimp only at kE kO
    obtain ⟨-, -, hb⟩ := xMem_mem hT.2.1 hv hnm
    obtain ⟨b1, b2, b3, -, -, -, -, b8, b9, -⟩ := r_nd hT hb
    rw [show oR xs (some b) = ((rP xs b : Nat) : Int) from rfl]
    rw [b1, w32_id (x := ((rP xs b : Nat) : Int)) (by omega) (by omega), w32_id (x := ((xx xs b).kd : Int) - 1) (by omega) (by omega)]
    refine ⟨fun c => by omega, fun _ => ⟨⟨by omega, by omega⟩, fun c => ?_, fun c => ?_⟩⟩
    case refine_2 =>
      rw [if_neg (fun h => c (by omega))] at kE
      exact bad8 (kE _ rfl) _
    have hk3 : (xx xs b).kd = 3 := by omega
    rw [if_pos hk3] at kE kO
    unfold zt_X10_fields_150
    refine ⟨⟨by omega, by omega⟩, r_need Γ (by omega) hok ht (fun c => absurd c (by decide)) (fun _ => ?_)⟩
    refine r_nam Γ hok ht hT hb ⟨⟨by omega, by omega⟩, ?_⟩
    rw [bI_bB]
    have hch := (hC.2.2.1 i n hi).2.2.2.2.1
    rw [hkd] at hch
    refine r_fK Γ (by omega) hok ht hT hb hk3 n.ps _ 0 _ hch ?_
    refine zs_X10_fields_178 Γ (by omega) hok ht ?_
    unfold zt_X10_fields_178
    refine ⟨fun _ => ⟨⟨by omega, by omega⟩, r_need Γ (by omega) hok ht (fun c M1 f1 => ?_) (fun c => ?_)⟩, fun c => absurd (by decide) c⟩
    · have hcn := w32_bB.mp c
      rw [if_neg (fun h => by
        rw [decide_eq_true (show (xx xs b).kd = 3 ∧ sNam (xx xs b).ws = true from ⟨hk3, h.1⟩), decide_eq_true (show sPrtL (xx xs b).ws n.ps 0 = none from h.2)] at hcn
        exact nomatch hcn)] at kE
      exact kE _ rfl M1 (by rw [b2] at f1; exact f1)
    · have hcn : (decide ((xx xs b).kd = 3 ∧ sNam (xx xs b).ws = true) && decide (sPrtL (xx xs b).ws n.ps 0 = none)) = true := by
        cases hb9 : (decide ((xx xs b).kd = 3 ∧ sNam (xx xs b).ws = true) && decide (sPrtL (xx xs b).ws n.ps 0 = none)) with
        | true => rfl
        | false => exact absurd (w32_bB.mpr hb9) c
      have hgood : sNam (xx xs b).ws = true ∧ sPrt n.ps (xx xs b).ws = none := by
        rw [Bool.and_eq_true] at hcn
        exact ⟨(of_decide_eq_true hcn.1).2, of_decide_eq_true hcn.2⟩
      rw [if_pos hgood] at kE kO
      clear c hcn
      intro q242 h242
      refine r_mem Γ (by omega) hok ht hT hv hk1 h242 ?_
      cases htp : xMem xs v (iw [116, 121, 112, 101]) with
      | none =>
        rw [htp] at kE
        refine ⟨fun _ => ?_, fun c => absurd (show w32 (-1) < 0 by decide) c⟩
        unfold zt_X10_fields_260
        exact ⟨⟨by omega, by omega⟩, r_need Γ (by omega) hok ht (fun _ M1 f1 => kE _ rfl M1 (by rw [v2] at f1; exact f1)) (fun c => absurd (by decide) c)⟩
      | some z =>
        rw [htp] at kE kO
        dsimp only at kE kO
        have one := xMem_one hT.2.1 hv htp
        obtain ⟨-, -, hz⟩ := xMem_mem hT.2.1 hv htp
        have hzs := (jWf_at hT.2.1 hz).2.2.1
        obtain ⟨-, -, z3, -⟩ := r_nd hT hz
        refine ⟨fun c => absurd c (by rw [show oR xs (some z) = ((rP xs z : Nat) : Int) from rfl, w32_id (by omega) (by omega)]; omega), fun _ => ?_⟩
        show zt_X10_fields_260 l s0 G ca d C S w0 t _ _ _ _ _ ((rP xs z : Nat) : Int) 1 M Q X
        unfold zt_X10_fields_260
        refine ⟨⟨by omega, by omega⟩, r_need Γ (by omega) hok ht (fun c => absurd c (by decide)) (fun _ => ?_)⟩
        have hkc : M t 24 = (st.kc : Int) := hC.1.2.2.1
        refine r_kid Γ hok ht hkc (by omega) (by omega) (by omega) (ps := n.ps) (fun q hq => hV.1.1 i n q hi hq) (fun M2 hF => ⟨⟨by omega, by omega⟩, ?_⟩)
        have fs : sfr t M (zu M2 (t + 16) st.kc (rP xs b : Nat)) := hF.sfr.zu (by omega)
        intro q299 h299
        refine r_mem Γ (by omega) hok ht (hT.fr fs) hv hk1 h299 ?_
        generalize hdf : xMem xs v (iw [100, 101, 102, 97, 117, 108, 116]) = df at kE kO
        have hkc1 : st.kc + 1 ≤ 2100 := by omega
        have hfr3 : ∀ a j : Int, ¬ (t + 15 ≤ a ∧ a ≤ t + 17 ∧ j = (st.kc : Int)) → zu (zu M2 (t + 16) st.kc (rP xs b : Nat)) (t + 17) st.kc (oR xs df) a j = M2 a j := fun a j h => by
          rw [show zu (zu M2 (t + 16) st.kc (rP xs b : Nat)) (t + 17) st.kc (oR xs df) a j = zu M2 (t + 16) st.kc (rP xs b : Nat) a j from if_neg (fun c9 => h ⟨by omega, by omega, c9.2⟩)]
          exact if_neg (fun c9 => h ⟨by omega, by omega, c9.2⟩)
        have hK3 : rK (zu (zu M2 (t + 16) st.kc (rP xs b : Nat)) (t + 17) st.kc (oR xs df)) t xs n.kd ((xx xs b).ws, none, df, st.kc) := ⟨fun m9 h9 => (nomatch h9), fun _ => ⟨b, by rw [zu_a (by omega)]; exact zu_s _ _ _ _, hb, hk3, rfl⟩, fun _ => zu_s _ _ _ _⟩
        obtain ⟨r1, r2⟩ := hF.rC hC hV hi (M2 := zu (zu M2 (t + 16) st.kc (rP xs b : Nat)) (t + 17) st.kc (oR xs df)) (nm := (xx xs b).ws) (nd := none) (df := df) hkc1 hfr3 hK3
        generalize zu (zu M2 (t + 16) st.kc (rP xs b : Nat)) (t + 17) st.kc (oR xs df) = M3 at r1 r2 ⊢
        have hi2 : (sAdd st (6 + i) (xx xs b).ws none df).ns[i]? = some (n.kd, n.nm, n.dt, n.ct, n.ps ++ [((xx xs b).ws, none, df, st.kc)]) := by
          unfold sAdd
          rw [nN_at hi]
          exact nPut_at hi
        have hil2 := (List.getElem?_eq_some_iff.mp hi2).1
        rw [show ((16 - (m + 1) : Nat) : Int) + 1 = ((16 - m : Nat) : Int) by omega]
        show zm_X10_schemaOf l s0 G ca (d - 1) C S t _ _ (bB false) M3 _ X
        have hU2 : (sAdd st (6 + i) (xx xs b).ws none df).kc + ((xx xs z).sz - 1) ≤ 2100 := by
          have e : (sAdd st (6 + i) (xx xs b).ws none df).kc = st.kc + 1 := rfl
          rw [e]
          omega
        have hV2 : kV (sAdd st (6 + i) (xx xs b).ws none df) := hV.add hil
        have hK2 : kOk (sAdd st (6 + i) (xx xs b).ws none df) := hK.add
        refine hI (d - 1) z false (sAdd st (6 + i) (xx xs b).ws none df) M3 _ X (by omega) hz (hT.fr r2) r1 hK2 hV2 hU2 (fun e he => (kE e (by rw [he])).fr r2) (fun nd st1 he M4 g1 g2 => ?_)
        obtain ⟨⟨x1, x2, x3, x4⟩, hndl, x5⟩ := sLook_ok m _ _ _ _ _ he
        have hi1 := (x2 i hil2).trans hi2
        have hil1 := (List.getElem?_eq_some_iff.mp hi1).1
        have hV1 := sLook_v m _ _ _ _ _ (hV.add hil) he
        have hlt1 : st1.lt.length < st1.lk := by
          have y1 : st.lt.length ≤ st.lk := hC.2.2.2.2.2.2.2
          have y2 : st1.lt.length + st.lk + 1 ≤ st.lt.length + st1.lk := x5
          omega
        have hlk1 : st1.lk ≤ 128 := g1.2.2.2.2.2.1
        have h29 : M4 t 29 = (st1.lt.length : Int) := g1.1.2.2.2
        rw [h29]
        refine ⟨⟨by omega, by omega⟩, ?_⟩
        have hget : ∀ x : SP, (n.ps ++ [x])[n.ps.length]? = some x := fun x => by
          rw [List.getElem?_append_right (Nat.le_refl _), Nat.sub_self]
          rfl
        have p1 := rC_put g1 hV1.1 hi1 (k := n.ps.length) (q := ((xx xs b).ws, none, df, st.kc)) (hget _) nd
        have ens1 : (sPut st1 (6 + i) n.ps.length nd).ns[i]? = some (n.kd, n.nm, n.dt, n.ct, n.ps ++ [((xx xs b).ws, some nd, df, st.kc)]) := by
          unfold sPut
          rw [nN_at hi1]
          show (nPut st1.ns (6 + i) (n.kd, n.nm, n.dt, n.ct, pSet (n.ps ++ [((xx xs b).ws, none, df, st.kc)]) n.ps.length nd))[i]? = _
          rw [pSet_last]
          exact nPut_at hi1
        have hq2 : (nN (sPut st1 (6 + i) n.ps.length nd).ns (6 + i)).ps[n.ps.length]? = some ((xx xs b).ws, some nd, df, st.kc) := by
          rw [nN_at ens1]
          exact hget _
        have p2 := rC_done p1 (s := 6 + i) (k := n.ps.length) (q := ((xx xs b).ws, some nd, df, st.kc)) hq2 hlt1 df
        have p3 : rC (zu (zu (zu M4 (t + 15) st.kc nd) (t + 19) st1.lt.length st.kc) t 29 ((st1.lt.length : Int) + 1)) t xs (sDone (sPut st1 (6 + i) n.ps.length nd) (6 + i) n.ps.length df) := p2
        have hfin : sfr t M (zu (zu (zu M4 (t + 15) st.kc nd) (t + 19) st1.lt.length st.kc) t 29 ((st1.lt.length : Int) + 1)) := sfr_zt ((((r2.tr g2).zu (by omega)).zu (by omega))) (Or.inr (Or.inr (Or.inr rfl)))
        have fin := kO (sDone (sPut st1 (6 + i) n.ps.length nd) (6 + i) n.ps.length df) _ (by rw [he]) ens1 hkd lastK_app _ p3 hfin
        have h7 : (zu (zu (zu M4 (t + 15) st.kc nd) (t + 19) st1.lt.length st.kc) t 29 ((st1.lt.length : Int) + 1)) (t + 7) ((rP xs v : Nat) : Int) = M4 (t + 7) ((rP xs v : Nat) : Int) := by
          rw [zu_a (by omega), zu_a (by omega), zu_a (by omega)]
        rw [h7] at fin
        exact fin
theorem r_fldL (Γ : rt_Γ l s0 a0 G ca) {m : Nat} (hd : 8 * m + 21 ≤ d) (hm : m + 1 ≤ 16) (hok : zok C) (ht : zTx S t) (hI : rLk l s0 G ca C S xs t m) {w0 : rt_Wd} {i : Nat} : ∀ (c j nn : Nat) (M : zM) (st : SS) (n : SN), kidsL c (xs.drop j) nn false → rTx M t xs → rC M t xs st → kOk st → kV st → st.ns[i]? = some n → n.kd = 11 → st.kc + nn ≤ 2100 →
    (∀ e : Nat × Nat, sFds xs (sLook xs m) (6 + i) (xKid xs c j) st = .error e → rE t M X e) →
    (∀ st1 : SS, sFds xs (sLook xs m) (6 + i) (xKid xs c j) st = .ok st1 → rO t xs M (fun _ M1 => Q 0 M1) (6 + i) st1) →
    zg_X10_fields_85 l s0 G ca d C S w0 t ((6 + i : Nat) : Int) ((16 - (m + 1) : Nat) : Int) (lastK n.ps) (if c = 0 then -1 else ((rWp xs j : Nat) : Int)) M Q X := by
  intro c
  induction c with
  | zero =>
    intro j nn M st n hk hT hC hK hV hi hkd hU kE kO
    refine zs_X10_fields_85 Γ (by omega) hok ht ?_
    unfold zt_X10_fields_85
    rw [if_pos rfl]
    exact ⟨fun _ => kO st rfl M hC sfr.rf, fun c => absurd (by decide) c⟩
  | succ c ih =>
    intro j nn M st n hk hT hC hK hV hi hkd hU kE kO
    obtain ⟨g1, g2, g3, g4, g5, g6⟩ := kidsL_step hk
    have hrp := r_el g5
    rw [if_neg (Nat.succ_ne_zero c), ← hrp]
    unfold xKid sFds at kE kO
    refine r_fld Γ hd hm hok ht hI hT g1 hC hK hV hi hkd (by omega) (fun e he => kE e (by rw [he])) (fun st1 n1 he hi1 hkd1 hla M1 r1 r2 => ?_)
    rw [he] at kE kO
    dsimp only at kE kO
    have hil := (List.getElem?_eq_some_iff.mp hi).1
    have hc1 := sFld_c hT.2.1 (sLook_c hT.2.1 m) g1 he
    obtain ⟨-, -, -, -, -, -, n7', -⟩ := r_nd (hT.fr r2) g1
    have hnx : M1 (t + 7) ((rP xs j : Nat) : Int) = (if c = 0 then -1 else ((rWp xs (j + (xx xs j).sz) : Nat) : Int)) := by
      rw [n7', g4]
      by_cases c0 : c = 0
      · rw [if_pos c0, if_neg (by rw [decide_eq_false (by omega)]; exact fun h => nomatch h)]
      · rw [if_neg c0, if_pos (decide_eq_true (by omega))]
    rw [hnx, ← hla]
    exact ih _ _ _ _ _ g6 (hT.fr r2) r1 (sFld_k (sLook_k m) hK he) (sFld_v (sLook_ok m) (sLook_v m) hil hV he) hi1 hkd1 (by omega) (fun e he2 => (kE e he2).fr r2) (fun st2 he2 => (kO st2 he2).fr r2)
theorem r_fields (Γ : rt_Γ l s0 a0 G ca) {m : Nat} (hd : 8 * m + 22 ≤ d) (hm : m + 1 ≤ 16) (hok : zok C) (ht : zTx S t) (hI : rLk l s0 G ca C S xs t m) (hT : rTx M t xs) (hv : v < xs.length) (hk1 : (xx xs v).kd = 1) (hC : rC M t xs st) (hK : kOk st) (hV : kV st) {i : Nat} {n : SN} (hi : st.ns[i]? = some n) (hkd : n.kd = 11) (hps : n.ps = []) (hU : st.kc + ((xx xs v).sz - 1) ≤ 2100)
    (kE : ∀ e : Nat × Nat, sRec xs (sLook xs m) v (6 + i) st = .error e → rE t M X e) (kO : ∀ st1 : SS, sRec xs (sLook xs m) v (6 + i) st = .ok (6 + i, st1) → rO t xs M (fun _ M1 => Q 0 M1) (6 + i) st1) :
    zm_X10_fields l s0 G ca d C S t ((6 + i : Nat) : Int) (rP xs v : Nat) ((16 - (m + 1) : Nat) : Int) M Q X := by
  refine z_X10_fields Γ (by omega) hok ht ?_
  unfold zt_X10_fields
  intro q2 h2
  obtain ⟨v1, v2, v3, -⟩ := r_nd hT hv
  refine r_mem Γ (by omega) hok ht hT hv hk1 h2 ?_
  unfold sRec at kE kO
  cases hm9 : xMem xs v (iw [102, 105, 101, 108, 100, 115]) with
  | none =>
    rw [hm9] at kE
    refine ⟨fun _ => ?_, fun c => absurd (show w32 (-1) < 0 by decide) c⟩
    unfold zt_X10_fields_21
    exact ⟨⟨by omega, by omega⟩, r_need Γ (by omega) hok ht (fun _ M1 f1 => kE _ rfl M1 (by rw [v2] at f1; exact f1)) (fun c => absurd (by decide) c)⟩
  | some b =>
    rw [hm9] at kE kO
    dsimp only at kE kO
    have one := xMem_one hT.2.1 hv hm9
    obtain ⟨-, -, hb⟩ := xMem_mem hT.2.1 hv hm9
    obtain ⟨n1, n2, n3, n4, n5, n6, n7, n8, n9, n10⟩ := r_nd hT hb
    obtain ⟨-, hsz, hsz1, hsz2, hln, hkids, -⟩ := jWf_at hT.2.1 hb
    have hl := hT.2.2.1
    refine ⟨fun c => absurd c (by rw [show oR xs (some b) = ((rP xs b : Nat) : Int) from rfl, w32_id (by omega) (by omega)]; omega), fun _ => ?_⟩
    show zt_X10_fields_21 l s0 G ca d C S _ t _ _ _ ((rP xs b : Nat) : Int) 1 M Q X
    unfold zt_X10_fields_21
    refine ⟨⟨by omega, by omega⟩, r_need Γ (by omega) hok ht (fun c => absurd c (by decide)) (fun _ => ⟨⟨by omega, by omega⟩, ?_⟩)⟩
    have bad : ¬ ((xx xs b).kd = 2 ∧ (xx xs b).len ≤ 32) → zt_X10_fields_60 l s0 G ca d C S (zw s0 ca C S M) t ((6 + i : Nat) : Int) ((16 - (m + 1) : Nat) : Int) (rP xs b : Nat) M Q X := fun h => by
      rw [if_neg h] at kE
      unfold zt_X10_fields_60 zt_X10_fields_61
      exact ⟨⟨by omega, by omega⟩, r_need Γ (by omega) hok ht (fun _ M1 f1 => kE _ rfl M1 (by rw [n2] at f1; exact f1)) (fun c => absurd (by decide) c)⟩
    rw [n1, w32_id (x := ((xx xs b).kd : Int) - 1) (by omega) (by omega)]
    refine ⟨fun c => ?_, fun c => bad (fun h => c (by omega))⟩
    have hk2 : (xx xs b).kd = 2 := by omega
    rw [n4 hk2, w32_id (x := ((xx xs b).len : Int)) (by omega) (by omega)]
    refine ⟨fun c => bad (by omega), fun c => ?_⟩
    rw [if_pos ⟨hk2, by omega⟩] at kE kO
    unfold zt_X10_fields_61
    refine ⟨⟨by omega, by omega⟩, r_need Γ (by omega) hok ht (fun c => absurd c (by decide)) (fun _ => ?_)⟩
    have hkL := hkids (Or.inr hk2)
    rw [decide_eq_false (by omega)] at hkL
    rw [show ((-1 : Int)) = lastK n.ps by rw [hps]; rfl, n6 (Or.inr hk2)]
    have hil := (List.getElem?_eq_some_iff.mp hi).1
    refine r_fldL Γ (by omega) hm hok ht hI _ _ _ M (sCnt st (6 + i) (xx xs b).len) (n.kd, n.nm, n.dt, (xx xs b).len, n.ps) hkL hT (rC_cnt hC hV hi _) hK.cnt (hV.cnt hil) ?_ hkd (by show st.kc + _ ≤ _; omega) (fun e he => kE e (by rw [show sFds xs (sLook xs m) (6 + i) (xKids xs b) (sCnt st (6 + i) (xx xs b).len) = .error e from he])) (fun st1 he => kO st1 (by rw [show sFds xs (sLook xs m) (6 + i) (xKids xs b) (sCnt st (6 + i) (xx xs b).len) = .ok st1 from he]))
    unfold sCnt
    rw [nN_at hi]
    exact nPut_at hi
end TEs
