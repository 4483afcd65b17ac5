/-! ===== the class's Looker: blocks ===== -/
theorem zabs_nat {n : Int} (h1 : -9223372036854775808 ≤ n) (h2 : n < 9223372036854775808) : zabsL n = (n.natAbs : Int) := by
  unfold zabsL
  rw [w64_id h1 h2]
  split <;> omega
section KG
variable {l : Launch} {s0 : State} {a0 : Array Value} {G : va_G} {ca : Nat → ClassId} {d : Nat} {C : Nat × Nat} {S : zS} {p mk mka : Int} {M M0 : zM} {Q : Int → zM → Prop} {X : zM → Prop} {b : List Nat} {y : ySt} {u : Nat} {NU : Nat} {st : SS} {m s : Nat}
theorem lX.more {e : Nat × Nat} {M1 M2 : zM} (hm : 70 ≤ mk) (h : lX b mk mka u e M M1) (hf : f53 M1 M2) (e6 : M2 55 6 = M1 55 6) (e7 : M2 55 7 = M1 55 7) : lX b mk mka u e M M2 := by
  obtain ⟨⟨a1, a2, a3⟩, ⟨v, v1, v2, v3⟩, a4⟩ := h
  exact ⟨⟨by rw [e6]; exact a1, by rw [e7]; exact a2, a3⟩, ⟨v, by rw [hf mk 1 (by omega)]; exact v1, v2, v3⟩, a4.tr hf.o (Nat.le_refl _)⟩
/-- the end of the blocks -/
theorem l_bEnd (Γ : rt_Γ l s0 a0 G ca) (hd : 4 ≤ d) (hok : zok C) (hS : lSh S p mk mka) {c : Nat} {wa : List Nat} (hc : c ≤ 2000) (ho : lO mk mka u wa y M0 M) (hr : u + wa.length ≤ 4000) {w0 : rt_Wd} (kO : ∀ M1 : zM, lO mk mka u (yHd c wa) y M0 M1 → Q 0 M1) : zt_X4_lookAtBlocks_148 l s0 G ca d C S w0 p mk mka (u : Nat) (c : Nat) M Q X := by
  obtain ⟨hs1, hp, hmk, hs53, g1, g2, g3, g4, g5⟩ := id hS
  have h0 : (vB 0).length = 1 := by decide
  unfold zt_X4_lookAtBlocks_148
  rw [w32_id (x := (c : Int)) (by omega) (by omega)]
  refine ⟨fun c1 => ?_, fun c1 => ?_⟩
  · have hc0 : c = 0 := by omega
    refine l_putV Γ (by omega) hok hS ⟨by decide, by decide⟩ ho.2.1 (by omega) ho.1 (fun r M1 o1 => kO _ ?_)
    unfold yHd
    rw [if_pos hc0]
    exact lO.app g3 g5 ho o1
  · have h8 := vB_small (c := c) (by omega)
    refine l_putV Γ (by omega) hok hS ⟨by omega, by omega⟩ ho.2.1 (by omega) ho.1 (fun r M1 o1 => ?_)
    have o2 := lO.app g3 g5 ho o1
    have e2 := o2.2.1
    refine c_rot Γ (by omega) hok hmk (by omega) (w := wa) (h := vB c) e2 (by rw [List.length_append]; omega) o2.2.2.1 ho.2.1 (fun M2 r1 r2 => ?_)
    have o3 : lO mk mka u (vB c ++ wa) y M0 M2 := by
      obtain ⟨⟨p1, p2, p3, p4⟩, q2, q3, q4⟩ := o2
      have ee : ∀ k : Int, M2 55 k = M1 55 k := fun k => r2 55 k (by omega)
      refine ⟨⟨by rw [ee]; exact p1, by rw [ee]; exact p2, by rw [ee]; exact p3, ⟨by rw [ee]; exact p4.1, by rw [ee]; exact p4.2⟩⟩, ?_, r1, fun c j n1 n2 n3 => ?_⟩
      · rw [r2 mk 1 (by omega), q2, List.length_append, List.length_append]
        omega
      · rw [r2 c j n3]
        exact q4 c j n1 n2 n3
    refine l_putV Γ (by omega) hok hS ⟨by decide, by decide⟩ o3.2.1 (by rw [List.length_append]; omega) o3.1 (fun r M3 o4 => kO _ ?_)
    unfold yHd
    rw [if_neg (by omega)]
    exact lO.app g3 g5 o3 o4
/-- behind a fault -/
theorem l_blkX (Γ : rt_Γ l s0 a0 G ca) (hd : 3 ≤ d) (hok : zok C) (hS : lSh S p mk mka) {e : Nat × Nat} (hx : lX b mk mka u e M0 M) {v1 v2 v3 v4 : Int} {k : Nat} (hk : k ≤ 4096) {w0 : rt_Wd} (hQ : ∀ M1 : zM, lX b mk mka u e M0 M1 → Q 0 M1) : zg_X4_lookAtBlocks_14 l s0 G ca d C S w0 p mk mka v1 v2 v3 v4 k M Q X := by
  obtain ⟨hs1, hp, hmk, hs53, g1, g2, g3, g4, g5⟩ := id hS
  refine zs_X4_lookAtBlocks_14 Γ (by omega) hok hs1 hp hmk hs53 ?_
  unfold zt_X4_lookAtBlocks_14
  rw [w32_id (x := (k : Int)) (by omega) (by omega)]
  refine ⟨fun c1 => by omega, fun _ => ?_⟩
  refine l_varF Γ (by omega) hok hS hx.1.w (fun n M1 f e6 e7 => ?_)
  have x2 := hx.more g3 f e6 e7
  have q0 := hQ M1 x2
  have t72 : ∀ v7 : Int, zt_X4_lookAtBlocks_72 l s0 G ca d C S w0 p mk mka v1 v2 v3 v4 k v7 M1 Q X := fun v7 => by
    unfold zt_X4_lookAtBlocks_72
    exact ⟨fun c1 => absurd c1 x2.1.w, fun _ => q0⟩
  have t64 : ∀ v6 v7 : Int, zt_X4_lookAtBlocks_64 l s0 G ca d C S w0 p mk mka v1 v2 v3 v4 k v6 v7 M1 Q X := fun v6 v7 => by
    unfold zt_X4_lookAtBlocks_64
    exact l_fail1 Γ hok hS x2.1.w (t72 v7)
  exact ⟨fun _ => t64 _ _, fun _ => ⟨fun _ => t72 _, fun _ => t64 _ _⟩⟩
theorem l_blkL (Γ : rt_Γ l s0 a0 G ca) (hok : zok C) (hS : lSh S p mk mka) (hC : lkC l s0 G ca C S p mk mka b NU st m) (hm : m < 32) (hd : 5 * m + 16 ≤ d) (hF : kF st) (hs : s < 6 + st.ns.length) (hk : (nN st.ns s).kd = 6 ∨ (nN st.ns s).kd = 7) (hT0 : lTp M0 b) (hG0 : gC M0 p NU st) (hN : b.length ≤ 4000) {w0 : rt_Wd} :
    ∀ (T c k : Nat) (y : ySt) (wa : List Nat) (M : zM), b.length + 1 ≤ T + y.1 → lO mk mka u wa y M0 M → yA b y → c ≤ y.2.2 → u + wa.length ≤ y.1 → k ≤ y.1 →
    (∀ e : Nat × Nat, yBlk (yIts (yLook st.ns b m (sKid0 st.ns s)) b (decide ((nN st.ns s).kd = 7))) b T c y = .error e → ∀ M1 : zM, lX b mk mka u e M0 M1 → Q 0 M1) →
    (∀ (w : List Nat) (c2 : Nat) (y2 : ySt), yBlk (yIts (yLook st.ns b m (sKid0 st.ns s)) b (decide ((nN st.ns s).kd = 7))) b T c y = .ok (w, c2, y2) → ∀ M1 : zM, lO mk mka u (yHd c2 (wa ++ w)) y2 M0 M1 → Q 0 M1) →
    zg_X4_lookAtBlocks_14 l s0 G ca d C S w0 p mk mka (s : Nat) ((32 - (m + 1) : Nat) : Int) (u : Nat) (c : Nat) k M Q X := by
  obtain ⟨hs1, hp, hmk, hs53, g1, g2, g3, g4, g5⟩ := id hS
  intro T
  induction T with
  | zero => intro c k y wa M hT _ hA; have := hA.1; omega
  | succ T ih =>
    intro c k y wa M hTT ho hA hc hu hky kE kO
    have hA1 := hA.1
    have hA3 := hA.2.2
    have hT : lTp M b := hT0.o ho.2.2.2 g3 (by omega)
    have hG : gC M p NU st := ho.2.2.2.g hG0 ⟨g1, g2⟩ ⟨g3, g4⟩ g5
    refine zs_X4_lookAtBlocks_14 Γ (by omega) hok hs1 hp hmk hs53 ?_
    unfold zt_X4_lookAtBlocks_14
    rw [w32_id (x := (k : Int)) (by omega) (by omega)]
    refine ⟨fun c1 => by omega, fun _ => ?_⟩
    refine l_var Γ (by omega) hok hS hA1 hT ho.1.1 ho.1.2.2.2.1 (fun e hv M1 f1 f2 => ?_) (fun n q hv => ?_)
    · have x : lX b mk mka u e M0 M1 := ho.x (f2.x g3 f1 ho.2.1 (by omega))
      have q0 : Q 0 M1 := kE e (by unfold yBlk; rw [hv]) _ x
      have t72 : ∀ v7 : Int, zt_X4_lookAtBlocks_72 l s0 G ca d C S w0 p mk mka (s : Nat) ((32 - (m + 1) : Nat) : Int) (u : Nat) (c : Nat) k v7 M1 Q X := fun v7 => by
        unfold zt_X4_lookAtBlocks_72
        exact ⟨fun c1 => absurd c1 f1.w, fun _ => q0⟩
      have t64 : ∀ v6 v7 : Int, zt_X4_lookAtBlocks_64 l s0 G ca d C S w0 p mk mka (s : Nat) ((32 - (m + 1) : Nat) : Int) (u : Nat) (c : Nat) k v6 v7 M1 Q X := fun v6 v7 => by
        unfold zt_X4_lookAtBlocks_64
        exact l_fail1 Γ hok hS f1.w (t72 v7)
      exact ⟨fun _ => t64 _ _, fun _ => ⟨fun _ => t72 _, fun _ => t64 _ _⟩⟩
    · obtain ⟨v1, v2, v3, v4, v5⟩ := yVar_ok hv
      have o1 : lO mk mka u wa (q, y.2) M0 (zu M 55 3 q) := by
        have := lO.app g3 g5 ho (lO.mv g3 ho.1 ho.2.1 (q := q))
        rw [List.append_nil] at this
        exact this
      have e5 : zu M 55 3 (q : Int) 55 5 = (y.2.2 : Int) := o1.1.2.2.1
      rw [e5, w64_id v4 v5, w32_id (x := 2000 - (y.2.2 : Int)) (by omega) (by omega), w64_id (x := 2000 - (y.2.2 : Int)) (by omega) (by omega), w32_id (x := (y.2.2 : Int) - 2000) (by omega) (by omega), w64_id (x := (y.2.2 : Int) - 2000) (by omega) (by omega)]
      have t64 : (2000 - (y.2.2 : Int) < n ∨ n < (y.2.2 : Int) - 2000) → zt_X4_lookAtBlocks_64 l s0 G ca d C S w0 p mk mka (s : Nat) ((32 - (m + 1) : Nat) : Int) (u : Nat) (c : Nat) k (M 55 3) n (zu M 55 3 q) Q X := fun hn => by
        unfold zt_X4_lookAtBlocks_64
        refine l_fail0 Γ hok hS o1.1.2.2.2.1 ?_
        have x : lX b mk mka u (6, y.1) M0 (zu (zu (zu M 55 3 q) 55 6 6) 55 7 (M 55 3)) := ho.x (lX.of g3 ho.2.1 (by omega) (f53.rf.zu (by decide) (by decide)) rfl ho.1.1 (yE.k (by decide) (by decide) hA1))
        unfold zt_X4_lookAtBlocks_72
        refine ⟨fun c1 => absurd c1 x.1.w, fun _ => kE _ ?_ _ x⟩
        unfold yBlk
        rw [hv]
        dsimp only
        rw [if_pos hn]
      refine ⟨fun c1 => t64 (Or.inl c1), fun c1 => ⟨fun c2 => ?_, fun c2 => t64 (Or.inr (by omega))⟩⟩
      have hgood : ¬ (2000 - (y.2.2 : Int) < n ∨ n < (y.2.2 : Int) - 2000) := by omega
      unfold zt_X4_lookAtBlocks_72
      rw [o1.1.2.2.2.1, w64_id v4 v5]
      refine ⟨fun _ => ⟨fun c3 => ?_, fun c3 => ?_⟩, fun c3 => absurd (by decide) c3⟩
      · refine l_bEnd Γ (by omega) hok hS (by omega) o1 (by omega) (fun M1 o2 => kO [] c (q, y.2) ?_ _ (by rw [List.append_nil]; exact o2))
        unfold yBlk
        rw [hv]
        dsimp only
        rw [if_neg hgood, if_pos c3]
      · have hab : zabsL n = (n.natAbs : Int) := zabs_nat v4 v5
        rw [hab, e5, show ((c : Nat) : Int) + (n.natAbs : Int) = ((c + n.natAbs : Nat) : Int) by omega, show ((y.2.2 : Nat) : Int) + (n.natAbs : Int) = ((y.2.2 + n.natAbs : Nat) : Int) by omega, show (k : Int) + 1 = ((k + 1 : Nat) : Int) by omega]
        have hA2 : yA b (q, y.2.1, y.2.2 + n.natAbs) := ⟨v2, hA.2.1, by show y.2.2 + n.natAbs ≤ 2000; omega⟩
        have o2 : lO mk mka u wa (q, y.2.1, y.2.2 + n.natAbs) M0 (zu (zu M 55 3 q) 55 5 ((y.2.2 + n.natAbs : Nat) : Int)) := by
          obtain ⟨⟨p1, p2, p3, p4⟩, r2, r3, r4⟩ := o1
          refine ⟨⟨by rw [zu_k (by decide)]; exact p1, by rw [zu_k (by decide)]; exact p2, zu_s _ _ _ _, p4.k (by decide) (by decide)⟩, by rw [zu_a (by omega)]; exact r2, fun j hj => by rw [zu_a (by omega)]; exact r3 j hj, r4.tr (f53.rf.zu (by decide) (by decide)).o (Nat.le_refl u)⟩
        have hT2 : lTp (zu (zu M 55 3 q) 55 5 ((y.2.2 + n.natAbs : Nat) : Int)) b := hT0.o o2.2.2.2 g3 (by omega)
        have hG2 : gC (zu (zu M 55 3 q) 55 5 ((y.2.2 + n.natAbs : Nat) : Int)) p NU st := o2.2.2.2.g hG0 ⟨g1, g2⟩ ⟨g3, g4⟩ g5
        have huq : u + wa.length ≤ q := by omega
        generalize zu (zu M 55 3 q) 55 5 ((y.2.2 + n.natAbs : Nat) : Int) = M2 at o2 hT2 hG2
        have hgg : ∀ (c : Nat) (s1 : ySt), yA b s1 → yG b s1 (yIts (yLook st.ns b m (sKid0 st.ns s)) b (decide ((nN st.ns s).kd = 7)) c s1) := fun c s1 h => yIts_g (fun s2 h2 => yLook_g m (sKid0 st.ns s) s2 h2) c s1 h
        -- what comes behind the items
        have go : ∀ r1 : yR, (yBlk (yIts (yLook st.ns b m (sKid0 st.ns s)) b (decide ((nN st.ns s).kd = 7))) b (T + 1) c y = yGo r1 (fun s2 => yBlk (yIts (yLook st.ns b m (sKid0 st.ns s)) b (decide ((nN st.ns s).kd = 7))) b T (c + n.natAbs) s2)) →
            (∀ (w : List Nat) (y2 : ySt), r1 = .ok (w, y2) → yA b y2 ∧ w.length + q ≤ y2.1 ∧ y.2.2 + n.natAbs ≤ y2.2.2) →
            (∀ e : Nat × Nat, r1 = .error e → ∀ M1 : zM, lX b mk mka (u + wa.length) e M2 M1 → zg_X4_lookAtBlocks_14 l s0 G ca d C S w0 p mk mka (s : Nat) ((32 - (m + 1) : Nat) : Int) (u : Nat) ((c + n.natAbs : Nat) : Int) ((k + 1 : Nat) : Int) M1 Q X) ∧
            (∀ (w : List Nat) (y2 : ySt), r1 = .ok (w, y2) → ∀ M1 : zM, lO mk mka (u + wa.length) w y2 M2 M1 → zg_X4_lookAtBlocks_14 l s0 G ca d C S w0 p mk mka (s : Nat) ((32 - (m + 1) : Nat) : Int) (u : Nat) ((c + n.natAbs : Nat) : Int) ((k + 1 : Nat) : Int) M1 Q X) := fun r1 hr hb => by
          refine ⟨fun e he M1 x => ?_, fun w y2 he M1 o3 => ?_⟩
          · exact l_blkX Γ (by omega) hok hS (o2.x x) (by omega) (fun M3 x3 => kE e (by rw [hr, he]; rfl) M3 x3)
          · obtain ⟨b1, b2, b3⟩ := hb w y2 he
            have o4 := lO.app g3 g5 o2 o3
            refine ih (c + n.natAbs) (k + 1) y2 (wa ++ w) M1 (by omega) o4 b1 (by omega) (by rw [List.length_append]; omega) (by omega) (fun e he2 M3 x => kE e ?_ _ x) (fun w2 c2 y3 he2 M3 o5 => kO (w ++ w2) c2 y3 ?_ _ ?_)
            · rw [hr, he]
              unfold yGo
              dsimp only
              rw [he2]
            · rw [hr, he]
              unfold yGo
              dsimp only
              rw [he2]
            · rw [List.append_assoc] at o5
              exact o5
        have hun : yBlk (yIts (yLook st.ns b m (sKid0 st.ns s)) b (decide ((nN st.ns s).kd = 7))) b (T + 1) c y = yGo (if 0 < n then yIts (yLook st.ns b m (sKid0 st.ns s)) b (decide ((nN st.ns s).kd = 7)) n.natAbs (q, y.2.1, y.2.2 + n.natAbs) else yMea (yIts (yLook st.ns b m (sKid0 st.ns s)) b (decide ((nN st.ns s).kd = 7)) n.natAbs) b (q, y.2.1, y.2.2 + n.natAbs)) (fun s2 => yBlk (yIts (yLook st.ns b m (sKid0 st.ns s)) b (decide ((nN st.ns s).kd = 7))) b T (c + n.natAbs) s2) := by
          show (match yVar b y.1 with | .error e => _ | .ok (n, q) => _) = _
          rw [hv]
          dsimp only
          rw [if_neg hgood, if_neg c3]
        refine ⟨fun c4 => ?_, fun c4 => ?_⟩
        · rw [if_neg (by omega)] at hun
          obtain ⟨k1, k2⟩ := go _ hun (fun w y2 he => by
            obtain ⟨b1, b2, b3⟩ := (yMea_g (hgg n.natAbs) hA2).2 w y2 he
            have b4 : w.length + q + 1 ≤ y2.1 := b2
            exact ⟨b1, by omega, b3⟩)
          exact l_mea Γ hok hS hC hm (by omega) hF hs hk hT2 hG2 (by omega) o2.1 o2.2.1 hA2 huq (fun e he M1 x => k1 e he M1 x) (fun w y2 he M1 o => k2 w y2 he M1 o)
        · rw [if_pos (by omega)] at hun
          obtain ⟨k1, k2⟩ := go _ hun (fun w y2 he => by
            obtain ⟨b1, b2, b3⟩ := (hgg n.natAbs _ hA2).2 w y2 he
            exact ⟨b1, b2, b3⟩)
          exact l_its Γ hok hS hC hm (by omega) hF hs hk hT2 hG2 (by omega) o2.1 o2.2.1 hA2 huq (fun e he M1 x => k1 e he M1 x) (fun w y2 he M1 o => k2 w y2 he M1 o)
theorem l_blk (Γ : rt_Γ l s0 a0 G ca) (hok : zok C) (hS : lSh S p mk mka) (hC : lkC l s0 G ca C S p mk mka b NU st m) (hm : m < 32) (hd : 5 * m + 16 ≤ d) (hF : kF st) (hs : s < 6 + st.ns.length) (hk : (nN st.ns s).kd = 6 ∨ (nN st.ns s).kd = 7) (hT0 : lTp M b) (hG0 : gC M p NU st) (hN : b.length ≤ 4000) (hP : lP M y) (hu : M mk 1 = (u : Int)) (hA : yA b y) (huy : u ≤ y.1)
    (kE : ∀ e : Nat × Nat, yBlk (yIts (yLook st.ns b m (sKid0 st.ns s)) b (decide ((nN st.ns s).kd = 7))) b (b.length + 1) 0 y = .error e → ∀ M1 : zM, lX b mk mka u e M M1 → Q 0 M1)
    (kO : ∀ (w : List Nat) (c2 : Nat) (y2 : ySt), yBlk (yIts (yLook st.ns b m (sKid0 st.ns s)) b (decide ((nN st.ns s).kd = 7))) b (b.length + 1) 0 y = .ok (w, c2, y2) → ∀ M1 : zM, lO mk mka u (yHd c2 w) y2 M M1 → Q 0 M1) :
    zm_X4_lookAtBlocks l s0 G ca d C S (s : Nat) ((32 - (m + 1) : Nat) : Int) M Q X := by
  obtain ⟨hs1, hp, hmk, hs53, -⟩ := id hS
  refine z_X4_lookAtBlocks Γ (by omega) hok hs1 hp hmk hs53 ?_
  unfold zt_X4_lookAtBlocks
  rw [hu]
  exact l_blkL Γ hok hS hC hm hd hF hs hk hT0 hG0 hN (b.length + 1) 0 0 y [] M (by omega) (lO.nil hP hu) hA (Nat.zero_le _) huy (Nat.zero_le _) kE (fun w c2 y2 he M1 o => kO w c2 y2 he M1 o)
end KG
