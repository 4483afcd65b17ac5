/-! ===== the reference's look: fields, choices, the look itself ===== -/
theorem rCh_kn {M : zM} {t : Int} {xs : List JR} {kd : Nat} : ∀ {ps : List SP} {h : Int}, rCh M t xs kd ps h → ∀ {q : SP}, q ∈ ps → q.kn < 2200 := by
  intro ps
  induction ps with
  | nil => intro h _ q hq; exact nomatch hq
  | cons q2 r ih =>
    intro h hc q hq
    rcases List.mem_cons.mp hq with e | e
    · rw [e]; exact hc.2.1
    · exact ih hc.2.2.2 e
/-- no node has many parts -/
def kPs (st : SS) : Prop := ∀ s : Nat, s < 6 + st.ns.length → 7 < (nN st.ns s).kd → (nN st.ns s).ps.length ≤ 2048
theorem gC.ps {M : zM} {p : Int} {NU : Nat} {st : SS} (h : gC M p NU st) (hF : kF st) : kPs st := fun s hs h7 => (g_len h hF hs h7).2
section LD
variable {l : Launch} {s0 : State} {a0 : Array Value} {G : va_G} {ca : Nat → ClassId} {d : Nat} {C : Nat × Nat} {S : zS} {M M0 : zM} {Q : Int → zM → Prop} {X : zM → Prop} {b : List Nat} {y : ySt} {u : Nat} {xs : List JR} {st : SS} {t : Int} {m s : Nat}
theorem m_kidL (Γ : rt_Γ l s0 a0 G ca) (hok : zok C) (ht : zTx S t) {kd : Nat} {w0 : rt_Wd} : ∀ (i j : Nat) (ps : List SP) (h : Int) (q : SP), rCh M t xs kd ps h → ps[i]? = some q → i + j ≤ 3000 → Q q.kn M → zg_X10_kid_10 l s0 G ca d C S w0 t ((i + j : Nat) : Int) h (j : Nat) M Q X := by
  intro i
  induction i with
  | zero =>
    intro j ps h q hc hq hij hQ
    refine zs_X10_kid_10 Γ hok ht ?_
    unfold zt_X10_kid_10
    rw [Nat.zero_add]
    refine zIf_t (Int.le_refl _) ?_
    cases ps with
    | nil => exact nomatch hq
    | cons q2 r =>
      have : q2 = q := Option.some.inj hq
      subst this
      rw [hc.1]
      exact hQ
  | succ i ih =>
    intro j ps h q hc hq hij hQ
    cases ps with
    | nil => exact nomatch hq
    | cons q2 r =>
      obtain ⟨e1, e2, e3, e4⟩ := hc
      refine zs_X10_kid_10 Γ hok ht ?_
      unfold zt_X10_kid_10
      rw [w32_id (by omega) (by omega), w32_id (by omega) (by omega)]
      refine zIf_f (by omega) ⟨by omega, ?_⟩
      rw [e1, show (j : Int) + 1 = ((j + 1 : Nat) : Int) by omega, show i + 1 + j = i + (j + 1) by omega]
      exact ih (j + 1) r _ q e4 hq (by omega) hQ
theorem m_fldL (Γ : rt_Γ l s0 a0 G ca) (hok : zok C) (hS : mSh S t) (hC : rkC l s0 G ca C S t b xs st m) (hm : m < 32) (hd : 3 * m + 14 ≤ d) (hF : kF st) (hs : s < 6 + st.ns.length) (hk : (nN st.ns s).kd = 11) (hT0 : mTp M0 b) (hR0 : rC M0 t xs st) {w0 : rt_Wd} :
    ∀ (r : List SP) (h : Int) (y : ySt) (wa : List Nat) (M : zM), (∀ q ∈ r, q ∈ (nN st.ns s).ps) → rCh M0 t xs 11 r h → mO u wa y M0 M → yA b y → u + wa.length ≤ y.1 →
    (∀ e : Nat × Nat, yFld (yLook st.ns b m) r y = .error e → ∀ M1 : zM, mX b u e M0 M1 → X M1) →
    (∀ (w : List Nat) (y2 : ySt), yFld (yLook st.ns b m) r y = .ok (w, y2) → ∀ M1 : zM, mO u (wa ++ w) y2 M0 M1 → Q 0 M1) →
    zg_X11_datum_376 l s0 G ca d C S w0 t ((32 - (m + 1) : Nat) : Int) 1 h M Q X := by
  obtain ⟨hs1, ht, ht1, ht2⟩ := id hS
  intro r
  induction r with
  | nil =>
    intro h y wa M hr hc ho hA hu kE kO
    refine zs_X11_datum_376 Γ (by omega) hok hs1 ?_
    unfold zt_X11_datum_376
    have : h = -1 := hc
    subst this
    exact zIf_t (by decide) (kO [] y rfl M (by rw [List.append_nil]; exact ho))
  | cons q r ih =>
    intro h y wa M hr hc ho hA hu kE kO
    obtain ⟨e1, e2, e3, e4⟩ := hc
    have hT : mTp M b := hT0.m ho.2.2.2
    have hR := ho.2.2.2.c hR0 ⟨ht1, ht2⟩
    obtain ⟨i2, i3⟩ := r_sPn hF hs (by omega) (hr q List.mem_cons_self) e3
    have e15 : M (t + 15) q.kn = M0 (t + 15) q.kn := ho.2.2.2 _ _ (by omega) (by omega)
    refine zs_X11_datum_376 Γ (by omega) hok hs1 ?_
    unfold zt_X11_datum_376
    rw [e1, w32_id (by omega) (by omega), e15, i2, show ((32 - (m + 1) : Nat) : Int) + 1 = ((32 - m : Nat) : Int) by omega]
    refine zIf_f (by omega) ⟨ht, ⟨by omega, by omega⟩, ?_⟩
    refine hC (d - 1) _ y _ M _ _ (by omega) (by omega) i3 hA hT hR ho.1 ho.2.1 hu (fun e he M2 x => kE e ?_ _ (ho.x x)) (fun w2 y2 he M2 o2 => ?_)
    · unfold yFld
      rw [he]
    · have o3 := mO.app ho o2
      obtain ⟨b1, b2, -⟩ := (yLook_g m (sPn (some q)) y hA).2 w2 y2 he
      have e18 : M2 (t + 18) q.kn = M0 (t + 18) q.kn := o3.2.2.2 _ _ (by omega) (by omega)
      rw [e18]
      refine ih _ y2 _ M2 (fun z hz => hr z (List.mem_cons_of_mem _ hz)) e4 o3 b1 (by rw [List.length_append]; omega) (fun e he2 M3 x => kE e ?_ _ x) (fun w3 y3 he2 M3 o4 => kO (w2 ++ w3) y3 ?_ _ ?_)
      · unfold yFld
        rw [he]
        dsimp only
        rw [he2]
      · unfold yFld
        rw [he]
        dsimp only
        rw [he2]
      · rw [List.append_assoc] at o4
        exact o4
/-- the bytes of a fixed -/
theorem m_fixL (Γ : rt_Γ l s0 a0 G ca) (hd : 4 ≤ d) (hok : zok C) (hs : zSok S) (hT0 : mTp M0 b) {w0 : rt_Wd} : ∀ (n f : Nat) (wa : List Nat) (M : zM), mO u wa (f + n, y.2) M0 M → f + n ≤ b.length → u + wa.length + n ≤ 4200 → (∀ M1 : zM, mO u (wa ++ (b.drop f).take n) (f + n, y.2) M0 M1 → Q 0 M1) → zg_X11_datum_220 l s0 G ca d C S w0 1 f M Q X := by
  have hN := hT0.2.1
  intro n
  induction n with
  | zero =>
    intro f wa M ho hfn hr kO
    refine zs_X11_datum_220 Γ (by omega) hok hs ?_
    unfold zt_X11_datum_220
    rw [ho.1.1]
    refine zIf_t (Int.le_refl _) (kO M ?_)
    rw [List.take_zero, List.append_nil]
    exact ho
  | succ n ih =>
    intro f wa M ho hfn hr kO
    refine zs_X11_datum_220 Γ (by omega) hok hs ?_
    unfold zt_X11_datum_220
    have e16 : M 84 16 = ((f + (n + 1) : Nat) : Int) := ho.1.1
    have hT : mTp M b := hT0.m ho.2.2.2
    rw [e16, w32_id (by omega) (by omega), w32_id (by omega) (by omega)]
    refine zIf_f (by omega) ⟨⟨by omega, by omega⟩, ?_⟩
    rw [(hT.2.2 f (by omega)).1]
    refine z_X11_put Γ (by omega) hok hs ?_
    unfold zt_X11_put
    refine zIf_f (by decide) ?_
    refine m_byte Γ (by omega) hok hs (w8_w8 _) ho.1 ho.2.1 (by omega) (fun M1 o _ => ?_)
    have o2 := mO.app ho o
    have e : (b.drop f).take (n + 1) = b.getD f 0 :: (b.drop (f + 1)).take n := by
      rw [List.getD_eq_getElem?_getD, List.getElem?_eq_getElem (show f < b.length by omega), List.drop_eq_getElem_cons (show f < b.length by omega), List.take_succ_cons]
      rfl
    rw [show (f : Int) + 1 = ((f + 1 : Nat) : Int) by omega]
    rw [show f + (n + 1) = f + 1 + n by omega] at o2 kO
    refine ih (f + 1) _ M1 o2 (by omega) (by rw [List.length_append, List.length_singleton]; omega) (fun M2 o3 => kO M2 ?_)
    rw [e]
    rw [List.append_assoc] at o3
    exact o3
theorem m_look (Γ : rt_Γ l s0 a0 G ca) (hok : zok C) (hS : mSh S t) (hF : kF st) (hO : kOk st) (hL : kPs st) : ∀ m : Nat, rkC l s0 G ca C S t b xs st m := by
  obtain ⟨hs1, ht, ht1, ht2⟩ := id hS
  intro m
  induction m with
  | zero =>
    intro d s y u M Q X hd hm hs hA hT hR hP hu huy kE kO
    refine z_X11_datum Γ (by omega) hok hs1 ?_
    unfold zt_X11_datum
    refine zIf_f (by decide) ?_
    exact m_fail Γ (Nat.zero_le _) hok hs1 (kE _ rfl _ (mX.of mfr.rf rfl hP.1 (yE.k (by decide) (by decide) hA.1)))
  | succ m ih =>
    intro d s y u M Q X hd hm hs hA hT hR hP hu huy kE kO
    have hA1 := hA.1
    have hA2 := hA.2.1
    have hN := hT.2.1
    refine z_X11_datum Γ (by omega) hok hs1 ?_
    unfold zt_X11_datum
    rw [w32_id (x := ((32 - (m + 1) : Nat) : Int)) (by omega) (by omega)]
    refine zIf_t (by omega) ?_
    unfold zt_X11_datum_20
    unfold yLook at kE kO
    rw [hP.2.1, w32_id (x := (y.2.1 : Int)) (by omega) (by omega)]
    by_cases c8 : 4000 ≤ y.2.1
    · rw [if_pos c8] at kE
      refine zIf_t (by omega) ?_
      exact m_fail Γ (Nat.zero_le _) hok hs1 (kE _ rfl _ (mX.of mfr.rf rfl hP.1 (yE.k (by decide) (by decide) hA1)))
    rw [if_neg c8] at kE kO
    refine zIf_f (by omega) ?_
    unfold zt_X11_datum_38
    have hl := hR.len
    refine ⟨ht, ⟨by omega, by omega⟩, ?_⟩
    rw [hP.2.1, hP.1, show (y.2.1 : Int) + 1 = ((y.2.1 + 1 : Nat) : Int) by omega]
    have o1 : mO u [] (y.1, y.2.1 + 1, y.2.2) M (zu M 84 20 ((y.2.1 + 1 : Nat) : Int)) := by
      obtain ⟨p1, p2, p3⟩ := hP
      exact ⟨⟨by rw [zu_k (by decide)]; exact p1, zu_s _ _ _ _, by rw [zu_k (by decide)]; exact p3⟩, by rw [zu_k (by decide)]; exact hu, fun j hj => absurd hj (Nat.not_lt_zero _), mfr.rf.zu (by decide) (by decide)⟩
    have hAy : yA b (y.1, y.2.1 + 1, y.2.2) := ⟨hA1, by show y.2.1 + 1 ≤ 4000; omega, hA.2.2⟩
    have hu1 : u ≤ (y.1, y.2.1 + 1, y.2.2).1 := huy
    have hy1 : y.1 = (y.1, y.2.1 + 1, y.2.2).1 := rfl
    rw [hy1]
    generalize (y.1, y.2.1 + 1, y.2.2) = z at kE kO o1 hAy hu1 hy1
    have kE2 : ∀ e : Nat × Nat, yBody (yLook st.ns b m) st.ns b s z = .error e → ∀ M1 : zM, mX b u e (zu M 84 20 ((y.2.1 + 1 : Nat) : Int)) M1 → X M1 := fun e he M1 x => kE e he M1 (o1.x x)
    have kO2 : ∀ (w : List Nat) (y2 : ySt), yBody (yLook st.ns b m) st.ns b s z = .ok (w, y2) → ∀ M1 : zM, mO u w y2 (zu M 84 20 ((y.2.1 + 1 : Nat) : Int)) M1 → Q 0 M1 := fun w y2 he M1 o => kO w y2 he M1 (mO.app o1 o)
    have hT1 : mTp (zu M 84 20 ((y.2.1 + 1 : Nat) : Int)) b := hT.m o1.2.2.2
    have hR1 : rC (zu M 84 20 ((y.2.1 + 1 : Nat) : Int)) t xs st := o1.2.2.2.c hR ⟨ht1, ht2⟩
    have hP1 := o1.1
    have hU1 : zu M 84 20 ((y.2.1 + 1 : Nat) : Int) 84 15 = (u : Int) := o1.2.1
    clear kE kO o1 hP hu huy hA hT hR c8 hA2 hy1 hA1
    generalize zu M 84 20 ((y.2.1 + 1 : Nat) : Int) = M1 at kE2 kO2 hT1 hR1 hP1 hU1
    have hk12 := hO.kd hs
    have hz1 := hAy.1
    have hkd : ∀ M2 : zM, mfr u M1 M2 → M2 (t + 9) s = ((nN st.ns s).kd : Int) := fun M2 f => r_kd (f.c hR1 ⟨ht1, ht2⟩) hs
    rw [hkd M1 mfr.rf, w32_id (x := ((nN st.ns s).kd : Int)) (by omega) (by omega)]
    unfold yBody at kE2 kO2
    by_cases k0 : (nN st.ns s).kd = 0
    · rw [if_pos k0] at kO2
      exact zIf_t (by omega) (kO2 [] z rfl M1 (mO.nil hP1 hU1))
    rw [if_neg k0] at kE2 kO2
    refine zIf_f (by omega) ?_
    by_cases k1 : (nN st.ns s).kd = 1
    · rw [if_pos k1] at kE2 kO2
      refine zIf_t (by omega) ?_
      refine m_bh Γ (by omega) hok hs1 hT1 hP1.1 hz1 (fun c => kE2 (1, b.length) (by rw [if_pos c]) _ (mX.of mfr.rf rfl rfl (yE.k (by decide) (by decide) (Nat.le_refl _)))) (fun c => ?_)
      rw [if_neg (by omega)] at kE2 kO2
      have hy := (hT1.2.2 z.1 c).2
      rw [w32_id (by omega) (by omega)]
      refine ⟨fun c1 => ?_, fun c1 => ?_⟩
      · rw [if_neg (by omega)] at kO2
        refine z_X11_put Γ (by omega) hok hs1 ?_
        unfold zt_X11_put
        refine zIf_f (by decide) ?_
        have o1 := mO.mv (u := u) hP1 hU1 (q := z.1 + 1)
        refine m_byte Γ (by omega) hok hs1 rfl o1.1 (u := u) o1.2.1 (by omega) (fun M2 o _ => kO2 _ _ rfl M2 ?_)
        exact mO.app o1 o
      · rw [if_pos (by omega)] at kE2
        exact m_fail Γ (Nat.zero_le _) hok hs1 (kE2 (3, z.1) rfl _ (mX.of (mfr.rf.zu (by decide) (by decide)) rfl rfl (yE.k (by decide) (by decide) hz1)))
    rw [if_neg k1] at kE2 kO2
    refine zIf_f (by omega) ?_
    by_cases k2 : (nN st.ns s).kd = 2 ∨ (nN st.ns s).kd = 3
    · rw [if_pos k2] at kE2 kO2
      have hnum : zm_X11_varint l s0 G ca (d - 1) C S M1 (fun r150 M150 => zIf (w32 (M150 (t + 9) s) = 2) (zIf (w64 r150 = w64 (w32 r150)) (zt_X11_datum_182 l s0 G ca d C S (zw s0 ca C S M) 1 r150 M150 Q X) (zm_X11_failBytes l s0 G ca (d - 1) C S 2 (z.1 : Int) M150 (fun r179 M179 => zt_X11_datum_182 l s0 G ca d C S (zw s0 ca C S M) 1 r150 M179 Q X) X)) (zt_X11_datum_182 l s0 G ca d C S (zw s0 ca C S M) 1 r150 M150 Q X)) X := by
        refine m_var Γ (by omega) hok hs1 hz1 hT1 hP1.1 (fun e hv M2 x => kE2 e (by rw [hv]) _ (x.up (by omega))) (fun n q hv => ?_)
        obtain ⟨v1, v2, v3, v4, v5⟩ := yVar_ok hv
        have o1 := mO.mv (u := u) hP1 hU1 (q := q)
        have t182 : ¬ ((nN st.ns s).kd = 2 ∧ ¬ n = w32 n) → zt_X11_datum_182 l s0 G ca d C S (zw s0 ca C S M) 1 n (zu M1 84 16 q) Q X := fun hn => by
          unfold zt_X11_datum_182
          refine zIf_f (by decide) ?_
          refine m_putV Γ (by omega) hok hs1 ⟨v4, v5⟩ o1.1 (u := u) o1.2.1 (by omega) (fun M2 o _ => kO2 (vB n) (q, z.2) ?_ M2 (mO.app o1 o))
          rw [hv]
          dsimp only
          rw [if_neg hn]
        have hw : w64 (w32 n) = w32 n := w64_id (by have := w32_b n; omega) (by have := w32_b n; omega)
        rw [hkd _ (mfr.rf.zu (by decide) (by decide)), w32_id (x := ((nN st.ns s).kd : Int)) (by omega) (by omega), w64_id v4 v5, hw]
        refine ⟨fun c1 => ⟨fun c2 => t182 (fun h => h.2 c2), fun c2 => ?_⟩, fun c1 => t182 (fun h => c1 (by have := h.1; omega))⟩
        refine m_fail Γ (Nat.zero_le _) hok hs1 (kE2 (2, z.1) ?_ _ (mX.of (mfr.rf.zu (by decide) (by decide)) rfl rfl (yE.k (by decide) (by decide) hz1)))
        rw [hv]
        dsimp only
        rw [if_pos ⟨by omega, c2⟩]
      by_cases k22 : (nN st.ns s).kd = 2
      · exact zIf_t (by omega) hnum
      · exact zIf_f (by omega) (zIf_t (by omega) hnum)
    rw [if_neg k2] at kE2 kO2
    refine zIf_f (by omega) (zIf_f (by omega) ?_)
    by_cases k4 : (nN st.ns s).kd = 4 ∨ (nN st.ns s).kd = 5
    · rw [if_pos k4] at kE2 kO2
      have hstr : zm_X11_string l s0 G ca (d - 1) C S 1 M1 (fun r199 M199 => Q 0 M199) X := by
        refine m_str Γ (by omega) hok hs1 hAy hT1 hP1 hU1 hu1 (fun e he M2 x => kE2 e ?_ M2 x) (fun w q he M2 o => kO2 w (q, z.2) ?_ M2 o)
        · rw [he]
        · rw [he]
      by_cases k44 : (nN st.ns s).kd = 4
      · exact zIf_t (by omega) hstr
      · exact zIf_f (by omega) (zIf_t (by omega) hstr)
    rw [if_neg k4] at kE2 kO2
    refine zIf_f (by omega) (zIf_f (by omega) ?_)
    by_cases k8 : (nN st.ns s).kd = 8
    · have hb : yBody (yLook st.ns b m) st.ns b s z = (match yCho b (nN st.ns s).ps.length 4 z.1 with
        | .error e => .error e
        | .ok (n, q) => match yLook st.ns b m (sPn ((nN st.ns s).ps[n]?)) (q, z.2) with
          | .error e => .error e
          | .ok (w, s2) => .ok (vB n ++ w, s2)) := by
        unfold yBody
        rw [if_neg k0, if_neg k1, if_neg k2, if_neg k4, if_neg (by omega), if_neg (by omega), if_pos k8]
        rfl
      have kE3 : ∀ e : Nat × Nat, yBody (yLook st.ns b m) st.ns b s z = .error e → ∀ M2 : zM, mX b u e M1 M2 → X M2 := fun e he => kE2 e (by
        unfold yBody at he
        rw [if_neg k0, if_neg k1, if_neg k2, if_neg k4] at he
        exact he)
      have kO3 : ∀ (w : List Nat) (y2 : ySt), yBody (yLook st.ns b m) st.ns b s z = .ok (w, y2) → ∀ M2 : zM, mO u w y2 M1 M2 → Q 0 M2 := fun w y2 he => kO2 w y2 (by
        unfold yBody at he
        rw [if_neg k0, if_neg k1, if_neg k2, if_neg k4] at he
        exact he)
      rw [hb] at kE3 kO3
      clear kE2 kO2 hb
      refine zIf_t (by omega) ?_
      obtain ⟨n13, nch, -⟩ := r_node hR1 hF hs (by omega)
      have hps := hL s hs (by omega)
      refine m_var Γ (by omega) hok hs1 hz1 hT1 hP1.1 (fun e hv M2 x => kE3 e (by unfold yCho; rw [hv]) _ (x.up (by omega))) (fun n q hv => ?_)
      obtain ⟨v1, v2, v3, v4, v5⟩ := yVar_ok hv
      have o1 := mO.mv (u := u) hP1 hU1 (q := q)
      have e13 : zu M1 84 16 (q : Int) (t + 13) s = ((nN st.ns s).ps.length : Int) := by rw [zu_a (by omega)]; exact n13
      have tbad : n < 0 ∨ ((nN st.ns s).ps.length : Int) ≤ n → zt_X11_datum_324 l s0 G ca d C S (zw s0 ca C S M) t s ((32 - (m + 1) : Nat) : Int) 1 (z.1 : Int) n (zu M1 84 16 q) Q X := fun hn => by
        unfold zt_X11_datum_324
        refine m_fail Γ (Nat.zero_le _) hok hs1 (kE3 (4, z.1) ?_ _ (mX.of (mfr.rf.zu (by decide) (by decide)) rfl rfl (yE.k (by decide) (by decide) hz1)))
        unfold yCho
        rw [hv]
        dsimp only
        rw [if_pos hn]
      rw [e13, w64_id v4 v5, w64_nat (by omega)]
      refine ⟨fun c1 => tbad (Or.inl c1), fun c1 => ⟨fun c2 => ?_, fun c2 => tbad (Or.inr (by omega))⟩⟩
      unfold zt_X11_datum_331
      refine zIf_f (by decide) ?_
      have hcy : yCho b (nN st.ns s).ps.length 4 z.1 = .ok (n.natAbs, q) := by
        unfold yCho
        rw [hv]
        dsimp only
        rw [if_neg (by omega)]
      rw [hcy] at kE3 kO3
      dsimp only at kE3 kO3
      have hna : ((n.natAbs : Nat) : Int) = n := by omega
      rw [hna] at kO3
      refine m_putV Γ (by omega) hok hs1 ⟨v4, v5⟩ o1.1 (u := u) o1.2.1 (by omega) (fun M2 o2 _ => ?_)
      have o3 : mO u (vB n) (q, z.2) M1 M2 := mO.app o1 o2
      have hT2 := hT1.m o3.2.2.2
      have hR2 := o3.2.2.2.c hR1 ⟨ht1, ht2⟩
      obtain ⟨qq, hqq⟩ : ∃ qq : SP, (nN st.ns s).ps[n.natAbs]? = some qq := ⟨_, List.getElem?_eq_getElem (by omega)⟩
      obtain ⟨-, nch2, -⟩ := r_node hR2 hF hs (by omega)
      have hmem := List.mem_of_getElem? hqq
      have hrk := rCh_mem nch2 hmem
      obtain ⟨i2, i3⟩ := r_sPn hF hs (by omega) hmem hrk
      unfold zt_X11_datum_342
      refine ⟨ht, ?_⟩
      refine z_X10_kid Γ hok ht ?_
      unfold zt_X10_kid
      refine ⟨⟨by omega, by omega⟩, ?_⟩
      have hkid := m_kidL (l := l) (s0 := s0) (G := G) (ca := ca) (d := d - 1) (C := C) (S := S) (M := M2) (w0 := zw s0 ca C S M2) (X := X) (Q := fun r353 M353 => (0 ≤ r353 ∧ r353 < 2200) ∧ (zm_X11_datum l s0 G ca (d - 1) C S t (M353 (t + 15) r353) ((32 - (m + 1) : Nat) + 1 : Int) 1 M353 (fun r362 M362 => Q 0 M362) X)) Γ hok ht n.natAbs 0 _ _ qq nch2 hqq (by omega)
      rw [show n.natAbs + 0 = n.natAbs from rfl, hna] at hkid
      refine hkid ⟨?_, ?_⟩
      · have := rCh_kn nch2 hmem
        exact ⟨by omega, by omega⟩
      · rw [i2, show ((32 - (m + 1) : Nat) : Int) + 1 = ((32 - m : Nat) : Int) by omega]
        have hA2 : yA b (q, z.2) := ⟨v2, hAy.2⟩
        have hq2 : u + (vB n).length ≤ q := by omega
        refine ih (d - 1) _ (q, z.2) _ M2 _ _ (by omega) (by omega) i3 hA2 hT2 hR2 o3.1 o3.2.1 hq2 (fun e he M3 x => kE3 e ?_ _ (o3.x x)) (fun w2 y2 he M3 o4 => kO3 _ y2 ?_ _ (mO.app o3 o4))
        · rw [hqq, he]
        · rw [hqq, he]
    refine zIf_f (by omega) ?_
    by_cases k9 : (nN st.ns s).kd = 9
    · rw [if_pos k9] at kE2 kO2
      refine zIf_t (by omega) ?_
      obtain ⟨e1, e2, e3⟩ := (r_node hR1 hF hs (by omega)).2.2 k9
      rw [e1, w32_id (by omega) (by omega)]
      refine m_pass Γ (by omega) hok hs1 (n := (nN st.ns s).dt.toNat) hT1 hP1.1 hz1 (by omega) (by omega) (fun h => kE2 (1, b.length) (by rw [if_pos (by omega)]) _ (mX.of mfr.rf rfl rfl (yE.k (by decide) (by decide) (Nat.le_refl _)))) (fun h => ?_)
      have o1 := mO.mv (u := u) hP1 hU1 (q := z.1 + (nN st.ns s).dt.toNat)
      have hN1 := hT1.2.1
      exact m_fixL Γ (by omega) hok hs1 hT1 _ z.1 [] _ o1 h (by rw [List.length_nil]; omega) (fun M2 o => kO2 _ _ (by rw [if_neg (by omega)]; rfl) M2 o)
    rw [if_neg k9] at kE2 kO2
    refine zIf_f (by omega) ?_
    by_cases k10 : (nN st.ns s).kd = 10
    · rw [if_pos k10] at kE2 kO2
      refine zIf_t (by omega) ?_
      obtain ⟨n13, -, -⟩ := r_node hR1 hF hs (by omega)
      have hps := hL s hs (by omega)
      refine m_var Γ (by omega) hok hs1 hz1 hT1 hP1.1 (fun e hv M2 x => kE2 e (by unfold yCho; rw [hv]) _ (x.up (by omega))) (fun n q hv => ?_)
      obtain ⟨v1, v2, v3, v4, v5⟩ := yVar_ok hv
      have o1 := mO.mv (u := u) hP1 hU1 (q := q)
      have e13 : zu M1 84 16 (q : Int) (t + 13) s = ((nN st.ns s).ps.length : Int) := by rw [zu_a (by omega)]; exact n13
      have tbad : n < 0 ∨ ((nN st.ns s).ps.length : Int) ≤ n → zt_X11_datum_277 l s0 G ca d C S (zw s0 ca C S M) 1 (z.1 : Int) n (zu M1 84 16 q) Q X := fun hn => by
        unfold zt_X11_datum_277
        refine m_fail Γ (Nat.zero_le _) hok hs1 (kE2 (5, z.1) ?_ _ (mX.of (mfr.rf.zu (by decide) (by decide)) rfl rfl (yE.k (by decide) (by decide) hz1)))
        unfold yCho
        rw [hv]
        dsimp only
        rw [if_pos hn]
      rw [e13, w64_id v4 v5, w64_nat (by omega)]
      refine ⟨fun c1 => tbad (Or.inl c1), fun c1 => ⟨fun c2 => ?_, fun c2 => tbad (Or.inr (by omega))⟩⟩
      unfold zt_X11_datum_284
      refine zIf_f (by decide) ?_
      have hcy : yCho b (nN st.ns s).ps.length 5 z.1 = .ok (n.natAbs, q) := by
        unfold yCho
        rw [hv]
        dsimp only
        rw [if_neg (by omega)]
      rw [hcy] at kO2
      dsimp only at kO2
      have hna : ((n.natAbs : Nat) : Int) = n := by omega
      rw [hna] at kO2
      exact m_putV Γ (by omega) hok hs1 ⟨v4, v5⟩ o1.1 (u := u) o1.2.1 (by omega) (fun M2 o2 _ => kO2 (vB n) (q, z.2) rfl M2 (mO.app o1 o2))
    rw [if_neg k10, if_neg k8] at kE2 kO2
    refine zIf_f (by omega) ?_
    by_cases k11 : (nN st.ns s).kd = 11
    · rw [if_pos k11] at kE2 kO2
      refine zIf_t (by omega) ?_
      obtain ⟨-, nch, -⟩ := r_node hR1 hF hs (by omega)
      rw [k11] at nch
      exact m_fldL Γ hok hS ih (by omega) (by omega) hF hs k11 hT1 hR1 (nN st.ns s).ps _ z [] M1 (fun q hq => hq) nch (mO.nil hP1 hU1) hAy hu1 kE2 (fun w y2 he M2 o => kO2 w y2 he M2 o)
    rw [if_neg k11] at kE2 kO2
    refine zIf_f (by omega) ?_
    have k67 : (nN st.ns s).kd = 6 ∨ (nN st.ns s).kd = 7 := by omega
    refine z_X11_blocks Γ (by omega) hok hs1 ?_
    unfold zt_X11_blocks
    rw [hU1]
    refine m_blkL Γ hok hS ih (by omega) (by omega) hF hs k67 hT1 hR1 (b.length + 1) 0 z [] M1 (by omega) (mO.nil hP1 hU1) hAy (Nat.zero_le _) hu1 (fun e he M2 x => kE2 e ?_ M2 x) (fun w c2 y2 he M2 o => kO2 _ y2 ?_ M2 o)
    · rw [he]
    · rw [he]
      rfl
end LD
