/-! ===== the reference's look: items, blocks ===== -/
theorem rC.m {t : Int} {M M1 : zM} {xs : List JR} {st : SS} (hC : rC M t xs st) (h : ∀ a j : Int, t ≤ a → a ≤ t + 21 → M1 a j = M a j) : rC M1 t xs st := by
  obtain ⟨⟨a1, a2, a3, a4⟩, h6, hn, hf, l1⟩ := hC
  refine ⟨⟨by rw [h _ _ (by omega) (by omega)]; exact a1, by rw [h _ _ (by omega) (by omega)]; exact a2, by rw [h _ _ (by omega) (by omega)]; exact a3, by rw [h _ _ (by omega) (by omega)]; exact a4⟩, fun i hi => ?_, fun i n hi => ?_, fun i z hz => ?_, l1⟩
  · rw [h _ _ (by omega) (by omega), h _ _ (by omega) (by omega), h _ _ (by omega) (by omega)]
    exact h6 i hi
  · exact (hn i n hi).mono (fun a _ _ => h _ _ (by omega) (by omega)) (fun q _ a _ _ => h _ _ (by omega) (by omega))
  · rw [h _ _ (by omega) (by omega)]
    exact hf i z hz
def mSh (S : zS) (t : Int) : Prop := zSok S ∧ zTx S t ∧ 86 ≤ t ∧ t + 21 < 134
theorem mfr.c {t : Int} {u : Nat} {M M1 : zM} {xs : List JR} {st : SS} (hf : mfr u M M1) (hC : rC M t xs st) (ht : 86 ≤ t ∧ t + 21 < 134) : rC M1 t xs st := hC.m (fun a j h1 h2 => hf a j (by omega) (by omega))
/-- a node of parts -/
theorem r_node {M : zM} {t : Int} {xs : List JR} {st : SS} (hC : rC M t xs st) (hF : kF st) {s : Nat} (hs : s < 6 + st.ns.length) (h6 : 6 ≤ (nN st.ns s).kd) : M (t + 13) s = ((nN st.ns s).ps.length : Int) ∧ rCh M t xs (nN st.ns s).kd (nN st.ns s).ps (M (t + 12) s) ∧ ((nN st.ns s).kd = 9 → M (t + 11) s = (nN st.ns s).dt ∧ 0 ≤ (nN st.ns s).dt ∧ (nN st.ns s).dt ≤ 64) := by
  obtain ⟨i, rfl, hi⟩ := nN_some (ns := st.ns) (s := s) (nN_ge (ns := st.ns) h6) hs
  generalize nN st.ns (6 + i) = n at h6 hi
  obtain ⟨h1, h2, h3, h4, h5, h7, h8⟩ := hC.2.2.1 i n hi
  exact ⟨h4, h5, fun h9 => ⟨h7 h9 ((hF i n hi).2.2.2.2.1 h9).1, (hF i n hi).2.2.2.2.1 h9⟩⟩
theorem r_sPn {M : zM} {t : Int} {xs : List JR} {st : SS} (hF : kF st) {s : Nat} (hs : s < 6 + st.ns.length) (hk : (nN st.ns s).kd = 6 ∨ (nN st.ns s).kd = 7 ∨ (nN st.ns s).kd = 8 ∨ (nN st.ns s).kd = 11) {q : SP} (hq : q ∈ (nN st.ns s).ps) {kd : Nat} (hr : rK M t xs kd q) : M (t + 15) q.kn = (sPn (some q) : Int) ∧ sPn (some q) < 6 + st.ns.length := by
  obtain ⟨i, rfl, hi⟩ := nN_some (ns := st.ns) (s := s) (nN_ge (ns := st.ns) (by omega)) hs
  generalize nN st.ns (6 + i) = n at hk hi hq
  obtain ⟨m, m1, m2, m3⟩ := (hF i n hi).2.1 hk q hq
  have e : sPn (some q) = m := by
    unfold sPn
    dsimp only
    rw [m1]
  rw [e]
  rw [kK_len] at m2
  exact ⟨hr.1 m m1, m2⟩
/-- the item of an array or a map -/
theorem r_item {M : zM} {t : Int} {xs : List JR} {st : SS} (hC : rC M t xs st) (hF : kF st) {s : Nat} (hs : s < 6 + st.ns.length) (hk : (nN st.ns s).kd = 6 ∨ (nN st.ns s).kd = 7) : (0 ≤ M (t + 12) s ∧ M (t + 12) s < 2200) ∧ M (t + 15) (M (t + 12) s) = (sKid0 st.ns s : Int) ∧ sKid0 st.ns s < 6 + st.ns.length := by
  obtain ⟨-, h2, -⟩ := r_node hC hF hs (by omega)
  have h0 : ∃ q : SP, (nN st.ns s).ps = [q] := by
    obtain ⟨i, rfl, hi⟩ := nN_some (ns := st.ns) (s := s) (nN_ge (ns := st.ns) (by omega)) hs
    exact (hF i _ hi).1 hk
  obtain ⟨q, hq⟩ := h0
  have hqm : q ∈ (nN st.ns s).ps := by rw [hq]; exact List.mem_singleton.mpr rfl
  rw [hq] at h2
  obtain ⟨e1, e2, e3, -⟩ := h2
  obtain ⟨g1, g2⟩ := r_sPn hF hs (by omega) hqm e3
  have e : sKid0 st.ns s = sPn (some q) := by
    unfold sKid0
    rw [hq]
    rfl
  rw [e, e1]
  exact ⟨⟨by omega, by omega⟩, g1, g2⟩
/-- a look's promise, of the depth 32 - m -/
def rkC (l : Launch) (s0 : State) (G : va_G) (ca : Nat → ClassId) (C : Nat × Nat) (S : zS) (t : Int) (b : List Nat) (xs : List JR) (st : SS) (m : Nat) : Prop :=
  ∀ (d s : Nat) (y : ySt) (u : Nat) (M : zM) (Q : Int → zM → Prop) (X : zM → Prop), 3 * m + 12 ≤ d → m ≤ 32 → s < 6 + st.ns.length → yA b y → mTp M b → rC M t xs st → mP M y → M 84 15 = (u : Int) → u ≤ y.1 →
    (∀ e : Nat × Nat, yLook st.ns b m s y = .error e → ∀ M1 : zM, mX b u e M M1 → X M1) → (∀ (w : List Nat) (y2 : ySt), yLook st.ns b m s y = .ok (w, y2) → ∀ M1 : zM, mO u w y2 M M1 → Q 0 M1) →
    zm_X11_datum l s0 G ca d C S t (s : Nat) ((32 - m : Nat) : Int) 1 M Q X
section LC
variable {l : Launch} {s0 : State} {a0 : Array Value} {G : va_G} {ca : Nat → ClassId} {d : Nat} {C : Nat × Nat} {S : zS} {M M0 : zM} {Q : Int → zM → Prop} {X : zM → Prop} {b : List Nat} {y : ySt} {u : Nat} {xs : List JR} {st : SS} {t : Int} {m s : Nat}
theorem m_item (Γ : rt_Γ l s0 a0 G ca) (hok : zok C) (hS : mSh S t) (hC : rkC l s0 G ca C S t b xs st m) (hm : m < 32) (hd : 3 * m + 13 ≤ d) (hF : kF st) (hs : s < 6 + st.ns.length) (hk : (nN st.ns s).kd = 6 ∨ (nN st.ns s).kd = 7) (hA : yA b y) (hT : mTp M b) (hR : rC M t xs st) (hP : mP M y) (hu : M 84 15 = (u : Int)) (huy : u ≤ y.1)
    (kE1 : ∀ e : Nat × Nat, yKey b (decide ((nN st.ns s).kd = 7)) y.1 = .error e → ∀ M1 : zM, mX b u e M M1 → X M1)
    (kE2 : ∀ (w : List Nat) (q : Nat) (e : Nat × Nat), yKey b (decide ((nN st.ns s).kd = 7)) y.1 = .ok (w, q) → yLook st.ns b m (sKid0 st.ns s) (q, y.2) = .error e → ∀ M1 : zM, mX b u e M M1 → X M1)
    (kO : ∀ (w : List Nat) (q : Nat) (w2 : List Nat) (y2 : ySt), yKey b (decide ((nN st.ns s).kd = 7)) y.1 = .ok (w, q) → yLook st.ns b m (sKid0 st.ns s) (q, y.2) = .ok (w2, y2) → ∀ M1 : zM, mO u (w ++ w2) y2 M M1 → Q 0 M1) :
    zm_X11_item l s0 G ca d C S t (s : Nat) ((32 - (m + 1) : Nat) : Int) 1 M Q X := by
  obtain ⟨hs1, ht, ht1, ht2⟩ := id hS
  have hl := hR.len
  refine z_X11_item Γ (by omega) hok hs1 ?_
  unfold zt_X11_item
  refine ⟨ht, ⟨by omega, by omega⟩, ?_⟩
  have tail : ∀ (w1 : List Nat) (q : Nat) (M1 : zM), yKey b (decide ((nN st.ns s).kd = 7)) y.1 = .ok (w1, q) → mO u w1 (q, y.2) M M1 → zt_X11_item_17 l s0 G ca d C S (zw s0 ca C S M) t (s : Nat) ((32 - (m + 1) : Nat) : Int) 1 M1 Q X := fun w1 q M1 hkey o1 => by
    obtain ⟨a1, a2⟩ := (@yKey_g b (decide ((nN st.ns s).kd = 7)) y hA).2 w1 q hkey
    have hT1 := hT.m o1.2.2.2
    have hR1 := o1.2.2.2.c hR ⟨ht1, ht2⟩
    obtain ⟨i1, i2, i3⟩ := r_item hR1 hF hs hk
    unfold zt_X11_item_17
    refine ⟨ht, ⟨by omega, by omega⟩, i1, ?_⟩
    rw [i2, show ((32 - (m + 1) : Nat) : Int) + 1 = ((32 - m : Nat) : Int) by omega]
    have hlen : u + w1.length ≤ q := by omega
    refine hC (d - 1) _ (q, y.2) _ M1 _ _ (by omega) (by omega) i3 a1 hT1 hR1 o1.1 o1.2.1 hlen (fun e he M2 x => kE2 w1 q e hkey he M2 (o1.x x)) (fun w2 y2 he M2 o2 => kO w1 q w2 y2 hkey he M2 (mO.app o1 o2))
  rw [r_kd hR hs, w32_id (by have := (nN st.ns s).kd; omega) (by omega)]
  refine ⟨fun c7 => ?_, fun c7 => ?_⟩
  · have h7 : (nN st.ns s).kd = 7 := by omega
    refine m_str Γ (by omega) hok hs1 hA hT hP hu huy (fun e he M1 x => kE1 e ?_ M1 x) (fun w q he M1 o1 => tail w q M1 ?_ o1)
    · unfold yKey; rw [if_pos (decide_eq_true h7)]; exact he
    · unfold yKey; rw [if_pos (decide_eq_true h7)]; exact he
  · refine tail [] y.1 M ?_ (mO.nil hP hu)
    unfold yKey
    rw [if_neg (by rw [decide_eq_true_iff]; omega)]
theorem m_itsL (Γ : rt_Γ l s0 a0 G ca) (hok : zok C) (hS : mSh S t) (hC : rkC l s0 G ca C S t b xs st m) (hm : m < 32) (hd : 3 * m + 14 ≤ d) (hF : kF st) (hs : s < 6 + st.ns.length) (hk : (nN st.ns s).kd = 6 ∨ (nN st.ns s).kd = 7) (hT0 : mTp M0 b) (hR0 : rC M0 t xs st) {K : Nat} (hK : K ≤ 2000) {w0 : rt_Wd} {v5 v6 v7 v12 v13 v14 v16 : Int} :
    ∀ (c k : Nat) (y : ySt) (wa : List Nat) (M : zM), k + c = K → mO u wa y M0 M → yA b y → u + wa.length ≤ y.1 →
    (∀ e : Nat × Nat, yIts (yLook st.ns b m (sKid0 st.ns s)) b (decide ((nN st.ns s).kd = 7)) c y = .error e → ∀ M1 : zM, mX b u e M0 M1 → X M1) →
    (∀ (w : List Nat) (y2 : ySt), yIts (yLook st.ns b m (sKid0 st.ns s)) b (decide ((nN st.ns s).kd = 7)) c y = .ok (w, y2) → ∀ M1 : zM, mO u (wa ++ w) y2 M0 M1 →
      zIf (w32 v12 = 0) (zg_X11_blocks_12 l s0 G ca d C S w0 t (s : Nat) ((32 - (m + 1) : Nat) : Int) 1 v5 (v6 + (K : Nat)) v7 M1 Q X) (zIf (w64 v14 = w64 (w32 ((M1 84 16) - v16))) (zg_X11_blocks_12 l s0 G ca d C S w0 t (s : Nat) ((32 - (m + 1) : Nat) : Int) 1 v5 (v6 + (K : Nat)) v7 M1 Q X) (zm_X11_failBytes l s0 G ca (d - 1) C S 6 v13 M1 (fun r224 M224 => zg_X11_blocks_12 l s0 G ca d C S w0 t (s : Nat) ((32 - (m + 1) : Nat) : Int) 1 v5 (v6 + (K : Nat)) v7 M224 Q X) X))) →
    zg_X11_blocks_176 l s0 G ca d C S w0 t (s : Nat) ((32 - (m + 1) : Nat) : Int) 1 v5 v6 v7 (K : Nat) v12 v13 v14 v16 k M Q X := by
  obtain ⟨hs1, ht, ht1, ht2⟩ := id hS
  intro c
  induction c with
  | zero =>
    intro k y wa M hk ho hA hu kE kO
    refine zs_X11_blocks_176 Γ (by omega) hok hs1 ?_
    unfold zt_X11_blocks_176
    rw [w64_nat (n := k) (by omega), w64_id (x := ((K : Nat) : Int)) (by omega) (by omega)]
    refine zIf_t (by omega) ?_
    exact kO [] y rfl M (by rw [List.append_nil]; exact ho)
  | succ c ih =>
    intro k y wa M hkc ho hA hu kE kO
    have hT : mTp M b := hT0.m ho.2.2.2
    have hR := ho.2.2.2.c hR0 ⟨ht1, ht2⟩
    refine zs_X11_blocks_176 Γ (by omega) hok hs1 ?_
    unfold zt_X11_blocks_176
    rw [w64_nat (n := k) (by omega), w64_id (x := ((K : Nat) : Int)) (by omega) (by omega)]
    refine zIf_f (by omega) ?_
    refine m_item Γ hok hS hC hm (by omega) hF hs hk hA hT hR ho.1 ho.2.1 hu (fun e he M1 x => kE e ?_ _ (ho.x x)) (fun w1 q e h1 he M1 x => kE e ?_ _ (ho.x x)) (fun w1 q w2 y2 h1 he M1 o1 => ?_)
    · unfold yIts
      rw [he]
    · unfold yIts
      rw [h1]
      dsimp only
      rw [he]
    · have o3 := mO.app ho o1
      obtain ⟨a1, a2⟩ := (@yKey_g b (decide ((nN st.ns s).kd = 7)) y hA).2 w1 q h1
      obtain ⟨b1, b2, -⟩ := (yLook_g m (sKid0 st.ns s) (q, y.2) a1).2 w2 y2 he
      have b3 : w2.length + q ≤ y2.1 := b2
      rw [show (k : Int) + 1 = ((k + 1 : Nat) : Int) by omega]
      refine ih (k + 1) y2 _ M1 (by omega) o3 b1 (by rw [List.length_append, List.length_append]; omega) (fun e he2 M3 x => kE e ?_ _ x) (fun w3 y3 he2 M3 o4 => kO (w1 ++ (w2 ++ w3)) y3 ?_ _ ?_)
      · unfold yIts
        rw [h1]
        dsimp only
        rw [he]
        dsimp only
        rw [he2]
      · unfold yIts
        rw [h1]
        dsimp only
        rw [he]
        dsimp only
        rw [he2]
      · rw [List.append_assoc, List.append_assoc] at o4
        exact o4
theorem m_blkL (Γ : rt_Γ l s0 a0 G ca) (hok : zok C) (hS : mSh S t) (hC : rkC l s0 G ca C S t b xs st m) (hm : m < 32) (hd : 3 * m + 14 ≤ d) (hF : kF st) (hs : s < 6 + st.ns.length) (hk : (nN st.ns s).kd = 6 ∨ (nN st.ns s).kd = 7) (hT0 : mTp M0 b) (hR0 : rC M0 t xs st) {w0 : rt_Wd} :
    ∀ (T c : Nat) (y : ySt) (wa : List Nat) (M : zM), b.length + 1 ≤ T + y.1 → mO u wa y M0 M → yA b y → c ≤ y.2.2 → u + wa.length ≤ y.1 →
    (∀ e : Nat × Nat, yBlk (yIts (yLook st.ns b m (sKid0 st.ns s)) b (decide ((nN st.ns s).kd = 7))) b T c y = .error e → ∀ M1 : zM, mX b u e M0 M1 → X M1) →
    (∀ (w : List Nat) (c2 : Nat) (y2 : ySt), yBlk (yIts (yLook st.ns b m (sKid0 st.ns s)) b (decide ((nN st.ns s).kd = 7))) b T c y = .ok (w, c2, y2) → ∀ M1 : zM, mO u (yHd c2 (wa ++ w)) y2 M0 M1 → Q 0 M1) →
    zg_X11_blocks_12 l s0 G ca d C S w0 t (s : Nat) ((32 - (m + 1) : Nat) : Int) 1 (u : Nat) (c : Nat) 1 M Q X := by
  obtain ⟨hs1, ht, ht1, ht2⟩ := id hS
  have hN := hT0.2.1
  intro T
  induction T with
  | zero => intro c y wa M hT _ hA; have := hA.1; omega
  | succ T ih =>
    intro c y wa M hTT ho hA hc hu kE kO
    have hA1 := hA.1
    have hA3 := hA.2.2
    have hT : mTp M b := hT0.m ho.2.2.2
    refine zs_X11_blocks_12 Γ (by omega) hok hs1 ?_
    unfold zt_X11_blocks_12
    refine zIf_f (by decide) ?_
    refine m_var Γ (by omega) hok hs1 hA1 hT ho.1.1 (fun e hv M1 x => kE e (by unfold yBlk; rw [hv]) _ (ho.x (x.up (by omega)))) (fun n q hv => ?_)
    obtain ⟨v1, v2, v3, v4, v5⟩ := yVar_ok hv
    have o1 : mO u wa (q, y.2) M0 (zu M 84 16 q) := by
      have := mO.app ho (mO.mv ho.1 ho.2.1 (q := q))
      rw [List.append_nil] at this
      exact this
    rw [w64_id v4 v5]
    refine ⟨fun c0 => ?_, fun c0 => ?_⟩
    · unfold zt_X11_blocks_41
      refine zIf_t (by decide) ?_
      have hbad : ¬ (2000 - (y.2.2 : Int) < n ∨ n < (y.2.2 : Int) - 2000) := by omega
      refine zs_X11_blocks_12 Γ (by omega) hok hs1 ?_
      unfold zt_X11_blocks_12
      refine zIf_t (by decide) (zIf_f (by decide) ?_)
      refine m_ins Γ (by omega) hok hs1 (by omega) o1 (by omega) (fun M1 o2 => ?_)
      have h8 := vB_small (c := c) (by omega)
      have hl2 : (if c = 0 then wa else vB (c : Int) ++ wa).length ≤ wa.length + 2 := by
        split
        · omega
        · rw [List.length_append]; omega
      refine m_putV Γ (by omega) hok hs1 ⟨by decide, by decide⟩ o2.1 o2.2.1 (by omega) (fun M2 o3 _ => kO [] c (q, y.2) ?_ _ ?_)
      · unfold yBlk
        rw [hv]
        dsimp only
        rw [if_neg hbad, if_pos c0]
      · rw [List.append_nil]
        exact mO.app o2 o3
    · unfold zt_X11_blocks_41
      refine zIf_f (by decide) ?_
      have e19 : zu M 84 16 (q : Int) 84 19 = (y.2.2 : Int) := o1.1.2.2
      have tbad : (2000 - (y.2.2 : Int) < n ∨ n < (y.2.2 : Int) - 2000) → zt_X11_blocks_90 l s0 G ca d C S w0 t (s : Nat) ((32 - (m + 1) : Nat) : Int) 1 (u : Nat) (c : Nat) 1 (M 84 16) n 1 (zu M 84 16 q) Q X := fun hn => by
        unfold zt_X11_blocks_90
        refine zIf_f (by decide) ?_
        refine m_fail Γ (Nat.zero_le _) hok hs1 (kE (6, y.1) ?_ _ (ho.x (mX.of (mfr.rf.zu (by decide) (by decide)) rfl ho.1.1 (yE.k (by decide) (by decide) hA1))))
        unfold yBlk
        rw [hv]
        dsimp only
        rw [if_pos hn]
      have tgood : ∀ K : Nat, K = n.natAbs → ¬ (2000 - (y.2.2 : Int) < n ∨ n < (y.2.2 : Int) - 2000) → zt_X11_blocks_90 l s0 G ca d C S w0 t (s : Nat) ((32 - (m + 1) : Nat) : Int) 1 (u : Nat) (c : Nat) 1 (M 84 16) n 0 (zu M 84 16 q) Q X := fun K hKn hgood => by
        have hgg : ∀ (c : Nat) (s1 : ySt), yA b s1 → yG b s1 (yIts (yLook st.ns b m (sKid0 st.ns s)) b (decide ((nN st.ns s).kd = 7)) c s1) := fun c s1 h => yIts_g (fun s2 h2 => yLook_g m (sKid0 st.ns s) s2 h2) c s1 h
        have hun : yBlk (yIts (yLook st.ns b m (sKid0 st.ns s)) b (decide ((nN st.ns s).kd = 7))) b (T + 1) c y = yGo (if 0 < n then yIts (yLook st.ns b m (sKid0 st.ns s)) b (decide ((nN st.ns s).kd = 7)) n.natAbs (q, y.2.1, y.2.2 + n.natAbs) else yMea (yIts (yLook st.ns b m (sKid0 st.ns s)) b (decide ((nN st.ns s).kd = 7)) n.natAbs) b (q, y.2.1, y.2.2 + n.natAbs)) (fun s2 => yBlk (yIts (yLook st.ns b m (sKid0 st.ns s)) b (decide ((nN st.ns s).kd = 7))) b T (c + n.natAbs) s2) := by
          show (match yVar b y.1 with | .error e => _ | .ok (n, q) => _) = _
          rw [hv]
          dsimp only
          rw [if_neg hgood, if_neg c0]
        rw [← hKn] at hun
        have hK2 : K ≤ 2000 := by omega
        -- behind the items
        have go : ∀ (r1 : yR) (w1 : List Nat) (y2 : ySt) (M1 : zM), (yBlk (yIts (yLook st.ns b m (sKid0 st.ns s)) b (decide ((nN st.ns s).kd = 7))) b (T + 1) c y = yGo r1 (fun s2 => yBlk (yIts (yLook st.ns b m (sKid0 st.ns s)) b (decide ((nN st.ns s).kd = 7))) b T (c + K) s2)) → r1 = .ok (w1, y2) → yA b y2 → w1.length + q ≤ y2.1 → y.2.2 + K ≤ y2.2.2 → mO u (wa ++ w1) y2 M0 M1 →
            zg_X11_blocks_12 l s0 G ca d C S w0 t (s : Nat) ((32 - (m + 1) : Nat) : Int) 1 (u : Nat) ((c : Nat) + (K : Nat) : Int) 1 M1 Q X := fun r1 w1 y2 M1 hr he b1 b2 b3 o4 => by
          rw [show ((c : Nat) : Int) + ((K : Nat) : Int) = ((c + K : Nat) : Int) by omega]
          refine ih (c + K) y2 (wa ++ w1) M1 (by omega) o4 b1 (by omega) (by rw [List.length_append]; omega) (fun e he2 M3 x => kE e ?_ _ x) (fun w2 c2 y3 he2 M3 o5 => kO (w1 ++ w2) c2 y3 ?_ _ ?_)
          · rw [hr, he]
            unfold yGo
            dsimp only
            rw [he2]
          · rw [hr, he]
            unfold yGo
            dsimp only
            rw [he2]
          · rw [List.append_assoc] at o5
            exact o5
        unfold zt_X11_blocks_90
        refine zIf_t (by decide) ?_
        unfold zt_X11_blocks_105
        rw [w64_id v4 v5]
        refine ⟨fun cp => ?_, fun cp => ?_⟩
        · have hcp : 0 < n := by omega
          rw [if_pos hcp] at hun
          unfold zt_X11_blocks_117
          refine zIf_t (by decide) ?_
          unfold zt_X11_blocks_138
          refine zIf_t (by decide) ?_
          unfold zt_X11_blocks_153
          rw [e19, show (y.2.2 : Int) + n = ((y.2.2 + K : Nat) : Int) by omega, show n = (K : Int) by omega]
          have o2 : mO u wa (q, y.2.1, y.2.2 + K) M0 (zu (zu M 84 16 q) 84 19 ((y.2.2 + K : Nat) : Int)) := by
            obtain ⟨⟨p1, p2, p3⟩, r2, r3, r4⟩ := o1
            exact ⟨⟨by rw [zu_k (by decide)]; exact p1, by rw [zu_k (by decide)]; exact p2, zu_s _ _ _ _⟩, by rw [zu_k (by decide)]; exact r2, fun j hj => by rw [zu_a (by decide)]; exact r3 j hj, r4.zu (by decide) (by decide)⟩
          have hA2 : yA b (q, y.2.1, y.2.2 + K) := ⟨v2, hA.2.1, by show y.2.2 + K ≤ 2000; omega⟩
          have hy2 : u + wa.length ≤ q := by omega
          refine m_itsL Γ hok hS hC hm hd hF hs hk hT0 hR0 hK2 K 0 (q, y.2.1, y.2.2 + K) wa _ (by omega) o2 hA2 hy2 (fun e he M1 x => kE e ?_ _ x) (fun w1 y2 he M1 o4 => zIf_t (by decide) ?_)
          · rw [hun, he]
            rfl
          · obtain ⟨b1, b2, b3⟩ := (hgg K _ hA2).2 w1 y2 he
            exact go _ w1 y2 M1 hun he b1 b2 b3 o4
        · have hcp : ¬ 0 < n := by omega
          rw [if_neg hcp] at hun
          unfold zt_X11_blocks_117
          refine zIf_f (by decide) ?_
          have hT1 : mTp (zu M 84 16 q) b := hT.v (by decide)
          refine m_var Γ (by omega) hok hs1 v2 hT1 (zu_s _ _ _ _) (fun e hv2 M1 x => kE e ?_ _ (o1.x (x.up (by omega)))) (fun tt q2 hv2 => ?_)
          · rw [hun]
            unfold yMea yGo
            dsimp only
            rw [hv2]
          · obtain ⟨x1, x2, x3, x4, x5⟩ := yVar_ok hv2
            unfold zt_X11_blocks_138
            refine zIf_f (by decide) ?_
            unfold zt_X11_blocks_153
            rw [zu_zu, zu_s, zu_s]
            have o2 : mO u wa (q2, y.2.1, y.2.2 + K) M0 (zu (zu M 84 16 q2) 84 19 ((y.2.2 + K : Nat) : Int)) := by
              obtain ⟨⟨p1, p2, p3⟩, r2, r3, r4⟩ := (by
                have := mO.app ho (mO.mv ho.1 ho.2.1 (q := q2))
                rw [List.append_nil] at this
                exact this : mO u wa (q2, y.2) M0 (zu M 84 16 q2))
              exact ⟨⟨by rw [zu_k (by decide)]; exact p1, by rw [zu_k (by decide)]; exact p2, zu_s _ _ _ _⟩, by rw [zu_k (by decide)]; exact r2, fun j hj => by rw [zu_a (by decide)]; exact r3 j hj, r4.zu (by decide) (by decide)⟩
            have e19' : zu M 84 16 (q2 : Int) 84 19 = (y.2.2 : Int) := by rw [zu_k (by decide)]; exact ho.1.2.2
            rw [e19', show (y.2.2 : Int) + -n = ((y.2.2 + K : Nat) : Int) by omega, show -n = (K : Int) by omega]
            have hA2 : yA b (q2, y.2.1, y.2.2 + K) := ⟨x2, hA.2.1, by show y.2.2 + K ≤ 2000; omega⟩
            have hy2 : u + wa.length ≤ q2 := by omega
            have hmea : ∀ r1 : yR, yIts (yLook st.ns b m (sKid0 st.ns s)) b (decide ((nN st.ns s).kd = 7)) K (q2, y.2.1, y.2.2 + K) = r1 → yMea (yIts (yLook st.ns b m (sKid0 st.ns s)) b (decide ((nN st.ns s).kd = 7)) K) b (q, y.2.1, y.2.2 + K) = (match r1 with | .error e => .error e | .ok (w, s2) => if (s2.1 : Int) - q2 = tt then .ok (w, s2) else .error (6, q)) := fun r1 hr1 => by
              unfold yMea
              dsimp only
              rw [hv2]
              dsimp only
              rw [hr1]
              rfl
            refine m_itsL Γ hok hS hC hm hd hF hs hk hT0 hR0 hK2 K 0 (q2, y.2.1, y.2.2 + K) wa _ (by omega) o2 hA2 hy2 (fun e he M1 x => kE e ?_ _ x) (fun w1 y2 he M1 o4 => zIf_f (by decide) ?_)
            · rw [hun, hmea _ he]
              rfl
            · obtain ⟨b1, b2, b3⟩ := (hgg K _ hA2).2 w1 y2 he
              have b4 : w1.length + q2 ≤ y2.1 := b2
              have b5 := b1.1
              rw [w64_id x4 x5, o4.1.1, w32_id (by omega) (by omega), w64_id (by omega) (by omega)]
              refine ⟨fun ct => ?_, fun ct => ?_⟩
              · refine go _ w1 y2 M1 hun ?_ b1 (by omega) b3 o4
                rw [hmea _ he]
                dsimp only
                rw [if_pos ct.symm]
              · refine m_fail Γ (Nat.zero_le _) hok hs1 (kE (6, q) ?_ _ ?_)
                · rw [hun, hmea _ he]
                  dsimp only
                  rw [if_neg (fun h => ct h.symm)]
                  rfl
                · exact o4.x (mX.of mfr.rf rfl rfl (yE.k (by decide) (by decide) v2))
      have h72 : ∀ k0 : Int, k0 = (n.natAbs : Int) → ¬ n = -9223372036854775808 → zt_X11_blocks_72 l s0 G ca d C S w0 t (s : Nat) ((32 - (m + 1) : Nat) : Int) 1 (u : Nat) (c : Nat) 1 (M 84 16) n k0 (zu M 84 16 q) Q X := fun k0 hk0 hmin => by
        unfold zt_X11_blocks_72
        rw [e19, w32_id (x := (y.2.2 : Int)) (by omega) (by omega), w64_id (x := 2000 - (y.2.2 : Int)) (by omega) (by omega), w64_id (x := k0) (by omega) (by omega)]
        refine ⟨fun c1 => tgood _ rfl (by omega), fun c1 => ?_⟩
        unfold zt_X11_blocks_85
        exact tbad (by omega)
      rw [w64_id v4 v5]
      refine ⟨fun cm => ?_, fun cm => ⟨fun cp => h72 n (by omega) cm, fun cp => h72 (-n) (by omega) cm⟩⟩
      unfold zt_X11_blocks_85
      exact tbad (by omega)
end LC
