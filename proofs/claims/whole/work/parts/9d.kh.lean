/-! ===== the class's Looker: fields, and the look itself ===== -/
theorem g_len {M : zM} {p : Int} {NU : Nat} {st : SS} (h : gC M p NU st) (hF : kF st) {s : Nat} (hs : s < 6 + st.ns.length) (h6 : 7 < (nN st.ns s).kd) : zat M (p + 12) 134 (s : Int) = ((nN st.ns s).ps.length : Int) ∧ (nN st.ns s).ps.length ≤ 2048 := by
  have hl := h.2.2.1
  obtain ⟨i, rfl, hi⟩ := nN_some (ns := st.ns) (s := s) (nN_ge (ns := st.ns) (by omega)) hs
  rw [zat_in (by omega) (by omega) (by decide)]
  generalize nN st.ns (6 + i) = n at h6 hi
  have hc := (hF i n hi).2.2.2.1 (by omega)
  have ht := nTot_in hi
  have h48 := h.2.2.2.1
  rw [hc]
  exact ⟨(h.2.1 i n hi).2.2.2.1, by omega⟩
theorem g_dt {M : zM} {p : Int} {NU : Nat} {st : SS} (h : gC M p NU st) (hF : kF st) {s : Nat} (hs : s < 6 + st.ns.length) (h9 : (nN st.ns s).kd = 9) : zat M (p + 6) 134 (s : Int) = (nN st.ns s).dt ∧ 0 ≤ (nN st.ns s).dt ∧ (nN st.ns s).dt ≤ 64 := by
  have hl := h.2.2.1
  obtain ⟨i, rfl, hi⟩ := nN_some (ns := st.ns) (s := s) (nN_ge (ns := st.ns) (by omega)) hs
  rw [zat_in (by omega) (by omega) (by decide)]
  generalize nN st.ns (6 + i) = n at h9 hi
  have hc := (hF i n hi).2.2.2.2.1 h9
  exact ⟨((h.2.1 i n hi).2.2.2.2.2.2 (by omega)).1, hc.1, hc.2⟩
theorem g_part {M : zM} {p : Int} {NU : Nat} {st : SS} (h : gC M p NU st) (hF : kF st) {s : Nat} (hs : s < 6 + st.ns.length) (hk : (nN st.ns s).kd = 8 ∨ (nN st.ns s).kd = 11) {k : Nat} {q : SP} (hq : (nN st.ns s).ps[k]? = some q) :
    zat M (p + 14) 2048 ((zat M (p + 10) 134 (s : Int)) + (k : Int)) = (sPn (some q) : Int) ∧ sPn (some q) < 6 + st.ns.length ∧ k < (nN st.ns s).ps.length := by
  have hl := h.2.2.1
  obtain ⟨i, rfl, hi⟩ := nN_some (ns := st.ns) (s := s) (nN_ge (ns := st.ns) (by omega)) hs
  generalize nN st.ns (6 + i) = n at hk hi hq
  obtain ⟨m, m1, m2, m3⟩ := (hF i n hi).2.1 (by omega) q (List.mem_of_getElem? hq)
  obtain ⟨g1, g2, g3, g4, g5⟩ := g_prt h hF hi (by omega) hq
  have e : sPn (some q) = m := by
    unfold sPn
    dsimp only
    rw [m1]
  rw [e]
  rw [kK_len] at m2
  refine ⟨?_, m2, g5⟩
  rw [zat_in (a := p + 10) (by omega) (by omega) (by decide), g2, show ((nTot (st.ns.take i) : Nat) : Int) + (k : Int) = ((nTot (st.ns.take i) + k : Nat) : Int) by omega, zat_in (by omega) (by omega) (by decide)]
  exact g4.2.2 m m1
theorem g_brk {M : zM} {p : Int} {NU : Nat} {st : SS} (h : gC M p NU st) (hF : kF st) {s : Nat} (hs : s < 6 + st.ns.length) (hk : (nN st.ns s).kd = 8) {k : Nat} {q : SP} (hq : (nN st.ns s).ps[k]? = some q) : zf_X6_branch M p s k = (sPn (some q) : Int) ∧ sPn (some q) < 6 + st.ns.length := by
  obtain ⟨g1, g2, g3⟩ := g_part h hF hs (Or.inl hk) hq
  obtain ⟨l1, l2⟩ := g_len h hF hs (by omega)
  refine ⟨?_, g2⟩
  unfold zf_X6_branch
  rw [w32_id (x := (k : Int)) (by omega) (by omega), if_neg (by omega), l1, w32_id (by omega) (by omega), if_neg (by omega)]
  exact g1
section KH
variable {l : Launch} {s0 : State} {a0 : Array Value} {G : va_G} {ca : Nat → ClassId} {d : Nat} {C : Nat × Nat} {S : zS} {p mk mka : Int} {M M0 : zM} {Q : Int → zM → Prop} {X : zM → Prop} {b : List Nat} {y : ySt} {u : Nat} {NU : Nat} {st : SS} {m s : Nat}
theorem l_fldX (Γ : rt_Γ l s0 a0 G ca) (hd : 2 ≤ d) (hok : zok C) (hS : lSh S p mk mka) (h6 : ¬ w32 (M 55 6) = 0) {v1 v2 v3 : Int} {w0 : rt_Wd} (hQ : Q 0 M) : zg_X4_lookAtFields_2 l s0 G ca d C S w0 p mk mka v1 v2 v3 M Q X := by
  obtain ⟨hs, hp, hmk, hs53, -⟩ := hS
  refine zs_X4_lookAtFields_2 Γ (by omega) hok hs hp hmk hs53 ?_
  unfold zt_X4_lookAtFields_2
  exact ⟨fun _ => hQ, fun _ => ⟨fun c => absurd c h6, fun _ => hQ⟩⟩
theorem l_fldL (Γ : rt_Γ l s0 a0 G ca) (hok : zok C) (hS : lSh S p mk mka) (hC : lkC l s0 G ca C S p mk mka b NU st m) (hm : m < 32) (hd : 5 * m + 13 ≤ d) (hF : kF st) (hs : s < 6 + st.ns.length) (hk : (nN st.ns s).kd = 11) (hT0 : lTp M0 b) (hG0 : gC M0 p NU st) {w0 : rt_Wd} :
    ∀ (r : List SP) (k : Nat) (y : ySt) (wa : List Nat) (M : zM), (nN st.ns s).ps.drop k = r → k ≤ (nN st.ns s).ps.length → lO mk mka u wa y M0 M → yA b y → u + wa.length ≤ y.1 →
    (∀ e : Nat × Nat, yFld (yLook st.ns b m) r y = .error e → ∀ M1 : zM, lX b mk mka u e M0 M1 → Q 0 M1) →
    (∀ (w : List Nat) (y2 : ySt), yFld (yLook st.ns b m) r y = .ok (w, y2) → ∀ M1 : zM, lO mk mka u (wa ++ w) y2 M0 M1 → Q 0 M1) →
    zg_X4_lookAtFields_2 l s0 G ca d C S w0 p mk mka (s : Nat) ((32 - (m + 1) : Nat) : Int) k M Q X := by
  obtain ⟨hs1, hp, hmk, hs53, g1, g2, g3, g4, g5⟩ := id hS
  intro r
  induction r with
  | nil =>
    intro k y wa M hr hkl ho hA hu kE kO
    have hG : gC M p NU st := ho.2.2.2.g hG0 ⟨g1, g2⟩ ⟨g3, g4⟩ g5
    have l2 := (g_len hG hF hs (by omega)).2
    have hlen : (nN st.ns s).ps.length ≤ k := by
      have := congrArg List.length hr
      rw [List.length_drop, List.length_nil] at this
      omega
    refine zs_X4_lookAtFields_2 Γ (by omega) hok hs1 hp hmk hs53 ?_
    unfold zt_X4_lookAtFields_2
    rw [(g_len hG hF hs (by omega)).1, w32_id (by omega) (by omega), w32_id (by omega) (by omega)]
    exact zIf_t (by omega) (kO [] y rfl M (by rw [List.append_nil]; exact ho))
  | cons q r ih =>
    intro k y wa M hr hkl ho hA hu kE kO
    have hT : lTp M b := hT0.o ho.2.2.2 g3 (by omega)
    have hG : gC M p NU st := ho.2.2.2.g hG0 ⟨g1, g2⟩ ⟨g3, g4⟩ g5
    have hq : (nN st.ns s).ps[k]? = some q := by
      have := congrArg (fun l => l[0]?) hr
      simpa using this
    have hdr : (nN st.ns s).ps.drop (k + 1) = r := by
      have := congrArg (List.drop 1) hr
      rw [List.drop_drop] at this
      exact this
    have l2 := (g_len hG hF hs (by omega)).2
    obtain ⟨-, p2, p3⟩ := g_part hG hF hs (Or.inr hk) hq
    refine zs_X4_lookAtFields_2 Γ (by omega) hok hs1 hp hmk hs53 ?_
    unfold zt_X4_lookAtFields_2
    rw [(g_len hG hF hs (by omega)).1, w32_id (x := (((nN st.ns s).ps.length : Nat) : Int)) (by omega) (by omega), w32_id (x := (k : Int)) (by omega) (by omega), ho.1.2.2.2.1, (g_part hG hF hs (Or.inr hk) hq).1, show ((32 - (m + 1) : Nat) : Int) + 1 = ((32 - m : Nat) : Int) by omega]
    refine zIf_f (by omega) (zIf_t (by decide) ?_)
    refine hC (d - 1) _ y _ M _ _ (by omega) (by omega) p2 hA hT hG ho.1 ho.2.1 hu (fun e he M2 x => ?_) (fun w2 y2 he M2 o2 => ?_)
    · have x2 := ho.x x
      refine l_fldX Γ (by omega) hok hS x2.1.w (kE e ?_ _ x2)
      unfold yFld
      rw [he]
    · have o3 := lO.app g3 g5 ho o2
      obtain ⟨b1, b2, -⟩ := (yLook_g m (sPn (some q)) y hA).2 w2 y2 he
      rw [show (k : Int) + 1 = ((k + 1 : Nat) : Int) by omega]
      refine ih (k + 1) y2 _ M2 hdr (by omega) o3 b1 (by rw [List.length_append]; omega) (fun e he2 M3 x => kE e ?_ _ x) (fun w3 y3 he2 M3 o4 => kO (w2 ++ w3) y3 ?_ _ ?_)
      · unfold yFld
        rw [he]
        dsimp only
        rw [he2]
      · unfold yFld
        rw [he]
        dsimp only
        rw [he2]
      · rw [List.append_assoc] at o4
        exact o4
theorem l_uni (Γ : rt_Γ l s0 a0 G ca) (hok : zok C) (hS : lSh S p mk mka) (hC : lkC l s0 G ca C S p mk mka b NU st m) (hm : m < 32) (hd : 5 * m + 16 ≤ d) (hF : kF st) (hs : s < 6 + st.ns.length) (hk : (nN st.ns s).kd = 8) (hT0 : lTp M b) (hG0 : gC M p NU st) (hP : lP M y) (hu : M mk 1 = (u : Int)) (hA : yA b y) (huy : u ≤ y.1)
    (kE : ∀ e : Nat × Nat, yBody (yLook st.ns b m) st.ns b s y = .error e → ∀ M1 : zM, lX b mk mka u e M M1 → Q 0 M1)
    (kO : ∀ (w : List Nat) (y2 : ySt), yBody (yLook st.ns b m) st.ns b s y = .ok (w, y2) → ∀ M1 : zM, lO mk mka u w y2 M M1 → Q 0 M1) :
    zm_X4_lookAtUnion l s0 G ca d C S (s : Nat) ((32 - (m + 1) : Nat) : Int) M Q X := by
  obtain ⟨hs1, hp, hmk, hs53, g1, g2, g3, g4, g5⟩ := id hS
  have hN := hT0.2.1
  have hA1 := hA.1
  refine z_X4_lookAtUnion Γ (by omega) hok hs1 hp hmk hs53 ?_
  unfold zt_X4_lookAtUnion
  have hb : yBody (yLook st.ns b m) st.ns b s y = (match yCho b (nN st.ns s).ps.length 4 y.1 with
    | .error e => .error e
    | .ok (n, q) => match yLook st.ns b m (sPn ((nN st.ns s).ps[n]?)) (q, y.2) with
      | .error e => .error e
      | .ok (w, s2) => .ok (vB n ++ w, s2)) := by
    unfold yBody
    rw [if_neg (by omega), if_neg (by omega), if_neg (by omega), if_neg (by omega), if_neg (by omega), if_neg (by omega), if_pos hk]
    rfl
  rw [hb] at kE kO
  have l2 := (g_len hG0 hF hs (by omega)).2
  refine l_cho (k := (nN st.ns s).ps.length) (ft := 4) Γ (by omega) hok hS hA hT0 hP hu huy (fun M1 f => (g_len ((f.o (mk := mk) (mka := mka) (u := u)).g hG0 ⟨g1, g2⟩ ⟨g3, g4⟩ g5) hF hs (by omega)).1) (by omega) (by decide) (fun e he M1 x => ?_) (fun n q he M1 o1 => ?_)
  · exact zIf_f x.1.w (kE e (by rw [he]) _ x)
  · obtain ⟨v1, v2, v3⟩ := (@yCho_g b (nN st.ns s).ps.length 4 y.1 hA1 (by decide) (by decide)).2 n q he
    have hT1 : lTp M1 b := hT0.o o1.2.2.2 g3 (by omega)
    have hG1 : gC M1 p NU st := o1.2.2.2.g hG0 ⟨g1, g2⟩ ⟨g3, g4⟩ g5
    obtain ⟨z, hz⟩ : ∃ z : SP, (nN st.ns s).ps[n]? = some z := ⟨_, List.getElem?_eq_getElem v3⟩
    obtain ⟨b1, b2⟩ := g_brk hG1 hF hs hk hz
    have hA2 : yA b (q, y.2) := ⟨v1, hA.2⟩
    rw [o1.1.2.2.2.1, b1, show ((32 - (m + 1) : Nat) : Int) + 1 = ((32 - m : Nat) : Int) by omega]
    refine zIf_t (by decide) ?_
    have huq : u + (vB (n : Int)).length ≤ q := by omega
    refine hC (d - 1) _ (q, y.2) _ M1 _ _ (by omega) (by omega) b2 hA2 hT1 hG1 o1.1 o1.2.1 huq (fun e he2 M2 x => ?_) (fun w2 y2 he2 M2 o2 => ?_)
    · refine kE e ?_ _ (o1.x x)
      rw [he]
      dsimp only
      rw [hz, he2]
    · refine kO _ y2 ?_ _ (lO.app g3 g5 o1 o2)
      rw [he]
      dsimp only
      rw [hz, he2]
/-- a node's look, one level down -/
theorem l_look (Γ : rt_Γ l s0 a0 G ca) (hok : zok C) (hS : lSh S p mk mka) (hF : kF st) (hO : kOk st) (hN : b.length ≤ 4000) : ∀ m : Nat, lkC l s0 G ca C S p mk mka b NU st m := by
  obtain ⟨hs1, hp, hmk, hs53, g1, g2, g3, g4, g5⟩ := id hS
  intro m
  induction m with
  | zero =>
    intro d s y u M Q X hd hm hs hA hT hG hP hu huy kE kO
    refine z_X4_look Γ (by omega) hok hs1 hp hmk hs53 ?_
    unfold zt_X4_look
    refine zIf_f (by decide) ?_
    have hA1 := hA.1
    exact l_fail0 Γ hok hS hP.2.2.2.1 (kE _ rfl _ (lX.of g3 hu (by omega) f53.rf rfl hP.1 (yE.k (by decide) (by decide) hA1)))
  | succ m ih =>
    intro d s y u M Q X hd hm hs hA hT hG hP hu huy kE kO
    have hA1 := hA.1
    have hA2 := hA.2.1
    refine z_X4_look Γ (by omega) hok hs1 hp hmk hs53 ?_
    unfold zt_X4_look
    rw [w32_id (x := ((32 - (m + 1) : Nat) : Int)) (by omega) (by omega)]
    refine zIf_t (by omega) ?_
    rw [hP.2.1, w32_id (x := (y.2.1 : Int)) (by omega) (by omega), show (y.2.1 : Int) + 1 = ((y.2.1 + 1 : Nat) : Int) by omega]
    unfold yLook at kE kO
    by_cases c8 : 4000 ≤ y.2.1
    · rw [if_pos c8] at kE
      refine zIf_f (by omega) ?_
      exact l_fail0 Γ hok hS hP.2.2.2.1 (kE _ rfl _ (lX.of g3 hu (by omega) f53.rf rfl hP.1 (yE.k (by decide) (by decide) hA1)))
    rw [if_neg c8] at kE kO
    refine zIf_t (by omega) ?_
    have o1 : lO mk mka u [] (y.1, y.2.1 + 1, y.2.2) M (zu M 55 4 ((y.2.1 + 1 : Nat) : Int)) := by
      obtain ⟨p1, p2, p3, p4⟩ := hP
      exact (f53.rf.zu (by decide) (by decide)).lO g3 ⟨by rw [zu_k (by decide)]; exact p1, zu_s _ _ _ _, by rw [zu_k (by decide)]; exact p3, p4.k (by decide) (by decide)⟩ hu
    have hAy : yA b (y.1, y.2.1 + 1, y.2.2) := ⟨hA1, by show y.2.1 + 1 ≤ 4000; omega, hA.2.2⟩
    have hu1 : u ≤ (y.1, y.2.1 + 1, y.2.2).1 := huy
    generalize (y.1, y.2.1 + 1, y.2.2) = z at kE kO o1 hAy hu1
    have kE2 : ∀ e : Nat × Nat, yBody (yLook st.ns b m) st.ns b s z = .error e → ∀ M1 : zM, lX b mk mka u e (zu M 55 4 ((y.2.1 + 1 : Nat) : Int)) M1 → Q 0 M1 := fun e he M1 x => kE e he M1 (o1.x x)
    have kO2 : ∀ (w : List Nat) (y2 : ySt), yBody (yLook st.ns b m) st.ns b s z = .ok (w, y2) → ∀ M1 : zM, lO mk mka u w y2 (zu M 55 4 ((y.2.1 + 1 : Nat) : Int)) M1 → Q 0 M1 := fun w y2 he M1 o => kO w y2 he M1 (lO.app g3 g5 o1 o)
    have hT1 : lTp (zu M 55 4 ((y.2.1 + 1 : Nat) : Int)) b := hT.u
    have hG1 : gC (zu M 55 4 ((y.2.1 + 1 : Nat) : Int)) p NU st := o1.2.2.2.g hG ⟨g1, g2⟩ ⟨g3, g4⟩ g5
    have hP1 := o1.1
    have hU1 := o1.2.1
    clear kE kO o1 hP hu huy hA hT hG c8 hA2
    generalize zu M 55 4 ((y.2.1 + 1 : Nat) : Int) = M1 at kE2 kO2 hT1 hG1 hP1 hU1
    have hU1 : M1 mk 1 = (u : Int) := hU1
    have hk12 := hO.kd hs
    rw [g_kd hG1 hs, w32_id (x := ((nN st.ns s).kd : Int)) (by omega) (by omega)]
    have hz1 := hAy.1
    unfold yBody at kE2 kO2
    by_cases k0 : (nN st.ns s).kd = 0
    · rw [if_pos k0] at kO2
      refine zIf_f (by omega) (zIf_f (by omega) (zIf_f (by omega) (zIf_f (by omega) (zIf_f (by omega) (zIf_f (by omega) (zIf_f (by omega) (zIf_f (by omega) (zIf_f (by omega) (zIf_f (by omega) (zIf_f (by omega) ?_))))))))))
      exact kO2 [] z rfl M1 (lO.nil hP1 hU1)
    rw [if_neg k0] at kE2 kO2
    by_cases k1 : (nN st.ns s).kd = 1
    · rw [if_pos k1] at kE2 kO2
      refine zIf_t (by omega) ?_
      refine l_boo Γ (by omega) hok hS hAy hT1 hP1 hU1 hu1 (fun h M2 x => kE2 _ (by rw [if_pos h]) M2 x) (fun h h2 M2 x => kE2 _ (by rw [if_neg (by omega), if_pos h2]) M2 x) (fun h h2 M2 o => kO2 _ _ (by rw [if_neg (by omega), if_neg (by omega)]) M2 o)
    rw [if_neg k1] at kE2 kO2
    refine zIf_f (by omega) ?_
    by_cases k2 : (nN st.ns s).kd = 2 ∨ (nN st.ns s).kd = 3
    · rw [if_pos k2] at kE2 kO2
      have hnum : ∀ (k : Int) (sm : Bool), k = (if sm = true then 1 else 0) → (sm = true ↔ (nN st.ns s).kd = 2) → zm_X4_lookAtNumber l s0 G ca (d - 1) C S k M1 (fun r139 M139 => Q 0 M139) X := fun k sm hk hsm => by
        refine l_num Γ (by omega) hok hS hAy hT1 hP1 hU1 hu1 hk (fun e he M2 x => kE2 e ?_ M2 x) (fun w q he M2 o => kO2 w (q, z.2) ?_ M2 o)
        · unfold yNum at he
          cases hv : yVar b z.1 with
          | error e2 =>
            rw [hv] at he
            injection he with he
            subst he
            rfl
          | ok r =>
            rw [hv] at he
            dsimp only at he ⊢
            by_cases c : (nN st.ns s).kd = 2 ∧ ¬ r.1 = w32 r.1
            · rw [if_pos c]
              rw [if_pos ⟨hsm.mpr c.1, c.2⟩] at he
              injection he with he
              rw [he]
            · rw [if_neg (fun h => c ⟨hsm.mp h.1, h.2⟩)] at he
              exact nomatch he
        · unfold yNum at he
          cases hv : yVar b z.1 with
          | error e2 => rw [hv] at he; exact nomatch he
          | ok r =>
            rw [hv] at he
            dsimp only at he ⊢
            by_cases c : (nN st.ns s).kd = 2 ∧ ¬ r.1 = w32 r.1
            · rw [if_pos ⟨hsm.mpr c.1, c.2⟩] at he
              exact nomatch he
            · rw [if_neg c]
              rw [if_neg (fun h => c ⟨hsm.mp h.1, h.2⟩)] at he
              injection he with he
              injection he with h1 h2
              rw [h1, h2]
      by_cases k22 : (nN st.ns s).kd = 2
      · exact zIf_t (by omega) (zIf_t (by omega) (hnum 1 true rfl ⟨fun _ => k22, fun _ => rfl⟩))
      · exact zIf_f (by omega) (zIf_t (by omega) (zIf_f (by omega) (hnum 0 false rfl ⟨fun h => (nomatch h), fun h => absurd h k22⟩)))
    rw [if_neg k2] at kE2 kO2
    refine zIf_f (by omega) (zIf_f (by omega) ?_)
    by_cases k4 : (nN st.ns s).kd = 4 ∨ (nN st.ns s).kd = 5
    · rw [if_pos k4] at kE2 kO2
      have hstr : zm_X4_lookAtString l s0 G ca (d - 1) C S M1 (fun r144 M144 => Q 0 M144) X := by
        refine l_str Γ (by omega) hok hS hAy hT1 hP1 hU1 hu1 (fun e he M2 x => kE2 e ?_ M2 x) (fun w q he M2 o => kO2 w (q, z.2) ?_ M2 o)
        · rw [he]
        · rw [he]
      by_cases k44 : (nN st.ns s).kd = 4
      · exact zIf_t (by omega) hstr
      · exact zIf_f (by omega) (zIf_t (by omega) hstr)
    rw [if_neg k4] at kE2 kO2
    refine zIf_f (by omega) (zIf_f (by omega) ?_)
    by_cases k9 : (nN st.ns s).kd = 9
    · rw [if_pos k9] at kE2 kO2
      refine zIf_f (by omega) (zIf_f (by omega) (zIf_f (by omega) (zIf_t (by omega) ?_)))
      obtain ⟨e1, e2, e3⟩ := g_dt hG1 hF hs k9
      rw [e1, w32_id (by omega) (by omega)]
      refine l_take (n := (nN st.ns s).dt.toNat) Γ (by omega) hok hS hAy hT1 hP1 hU1 hu1 (by omega) (by omega) (fun h M2 x => kE2 _ (by rw [if_pos (by omega)]) M2 x) (fun h M2 o => kO2 _ _ (by rw [if_neg (by omega)]) M2 o)
    rw [if_neg k9] at kE2 kO2
    by_cases k10 : (nN st.ns s).kd = 10
    · rw [if_pos k10] at kE2 kO2
      refine zIf_f (by omega) (zIf_f (by omega) (zIf_f (by omega) (zIf_f (by omega) (zIf_t (by omega) ?_))))
      have l2 := (g_len hG1 hF hs (by omega)).2
      refine l_cho (k := (nN st.ns s).ps.length) (ft := 5) Γ (by omega) hok hS hAy hT1 hP1 hU1 hu1 (fun M2 f => (g_len ((f.o (mk := mk) (mka := mka) (u := u)).g hG1 ⟨g1, g2⟩ ⟨g3, g4⟩ g5) hF hs (by omega)).1) (by omega) (by decide) (fun e he M2 x => kE2 e ?_ M2 x) (fun n q he M2 o => kO2 _ (q, z.2) ?_ M2 o)
      · rw [he]
      · rw [he]
    rw [if_neg k10] at kE2 kO2
    by_cases k8 : (nN st.ns s).kd = 8
    · refine zIf_f (by omega) (zIf_f (by omega) (zIf_t (by omega) ?_))
      have hb : yBody (yLook st.ns b m) st.ns b s z = (match yCho b (nN st.ns s).ps.length 4 z.1 with
        | .error e => .error e
        | .ok (n, q) => match yLook st.ns b m (sPn ((nN st.ns s).ps[n]?)) (q, z.2) with
          | .error e => .error e
          | .ok (w, s2) => .ok (vB n ++ w, s2)) := by
        unfold yBody
        rw [if_neg k0, if_neg k1, if_neg k2, if_neg k4, if_neg k9, if_neg k10, if_pos k8]
        rfl
      rw [if_pos k8] at kE2 kO2
      refine l_uni Γ hok hS ih (by omega) (by omega) hF hs k8 hT1 hG1 hP1 hU1 hAy hu1 (fun e he M2 x => kE2 e ?_ M2 x) (fun w q he M2 o => kO2 w q ?_ M2 o)
      · rw [hb] at he; exact he
      · rw [hb] at he; exact he
    rw [if_neg k8] at kE2 kO2
    by_cases k11 : (nN st.ns s).kd = 11
    · rw [if_pos k11] at kE2 kO2
      refine zIf_f (by omega) (zIf_f (by omega) (zIf_f (by omega) (zIf_f (by omega) (zIf_f (by omega) (zIf_t (by omega) ?_)))))
      refine z_X4_lookAtFields Γ (by omega) hok hs1 hp hmk hs53 ?_
      unfold zt_X4_lookAtFields
      exact l_fldL Γ hok hS ih (by omega) (by omega) hF hs k11 hT1 hG1 (nN st.ns s).ps 0 z [] M1 rfl (Nat.zero_le _) (lO.nil hP1 hU1) hAy hu1 kE2 (fun w y2 he M2 o => kO2 w y2 he M2 o)
    rw [if_neg k11] at kE2 kO2
    have k67 : (nN st.ns s).kd = 6 ∨ (nN st.ns s).kd = 7 := by omega
    have hbl : zm_X4_lookAtBlocks l s0 G ca (d - 1) C S (s : Nat) ((32 - (m + 1) : Nat) : Int) M1 (fun r180 M180 => Q 0 M180) X := by
      refine l_blk Γ hok hS ih (by omega) (by omega) hF hs k67 hT1 hG1 hN hP1 hU1 hAy hu1 (fun e he M2 x => kE2 e ?_ M2 x) (fun w c2 y2 he M2 o => kO2 _ y2 ?_ M2 o)
      · rw [he]
      · rw [he]
    by_cases k6 : (nN st.ns s).kd = 6
    · exact zIf_t (by omega) hbl
    · exact zIf_f (by omega) (zIf_t (by omega) hbl)
end KH
