/-! ===== the class's Looker: items, blocks ===== -/
/-- a look's promise, of the depth 32 - m -/
def lkC (l : Launch) (s0 : State) (G : va_G) (ca : Nat → ClassId) (C : Nat × Nat) (S : zS) (p mk mka : Int) (b : List Nat) (NU : Nat) (st : SS) (m : Nat) : Prop :=
  ∀ (d s : Nat) (y : ySt) (u : Nat) (M : zM) (Q : Int → zM → Prop) (X : zM → Prop), 5 * m + 12 ≤ d → m ≤ 32 → s < 6 + st.ns.length → yA b y → lTp M b → gC M p NU st → lP M y → M mk 1 = (u : Int) → u ≤ y.1 →
    (∀ e : Nat × Nat, yLook st.ns b m s y = .error e → ∀ M1 : zM, lX b mk mka u e M M1 → Q 0 M1) → (∀ (w : List Nat) (y2 : ySt), yLook st.ns b m s y = .ok (w, y2) → ∀ M1 : zM, lO mk mka u w y2 M M1 → Q 0 M1) →
    zm_X4_look l s0 G ca d C S (s : Nat) ((32 - m : Nat) : Int) M Q X
section KF
variable {l : Launch} {s0 : State} {a0 : Array Value} {G : va_G} {ca : Nat → ClassId} {d : Nat} {C : Nat × Nat} {S : zS} {p mk mka : Int} {M M0 : zM} {Q : Int → zM → Prop} {X : zM → Prop} {b : List Nat} {y : ySt} {u : Nat} {NU : Nat} {st : SS} {m s : Nat}
/-- behind a fault no items are looked at -/
theorem l_itsX (Γ : rt_Γ l s0 a0 G ca) (hd : 2 ≤ d) (hok : zok C) (hS : lSh S p mk mka) (h6 : ¬ w32 (M 55 6) = 0) {v1 v2 v3 v4 : Int} {w0 : rt_Wd} (hQ : Q 0 M) : zg_X4_lookAtItems_3 l s0 G ca d C S w0 p mk mka v1 v2 v3 v4 M Q X := by
  obtain ⟨hs, hp, hmk, hs53, -⟩ := hS
  refine zs_X4_lookAtItems_3 Γ (by omega) hok hs hp hmk hs53 ?_
  unfold zt_X4_lookAtItems_3
  exact ⟨fun _ => hQ, fun _ => ⟨fun c => absurd c h6, fun _ => hQ⟩⟩
theorem l_itsL (Γ : rt_Γ l s0 a0 G ca) (hok : zok C) (hS : lSh S p mk mka) (hC : lkC l s0 G ca C S p mk mka b NU st m) (hm : m ≤ 32) (hd : 5 * m + 13 ≤ d) (hF : kF st) (hs : s < 6 + st.ns.length) (hk : (nN st.ns s).kd = 6 ∨ (nN st.ns s).kd = 7) (hT0 : lTp M0 b) (hG0 : gC M0 p NU st) {K : Nat} (hK : K ≤ 2000) {w0 : rt_Wd} :
    ∀ (c k : Nat) (y : ySt) (wa : List Nat) (M : zM), k + c = K → lO mk mka u wa y M0 M → yA b y → u + wa.length ≤ y.1 →
    (∀ e : Nat × Nat, yIts (yLook st.ns b m (sKid0 st.ns s)) b (decide ((nN st.ns s).kd = 7)) c y = .error e → ∀ M1 : zM, lX b mk mka u e M0 M1 → Q 0 M1) →
    (∀ (w : List Nat) (y2 : ySt), yIts (yLook st.ns b m (sKid0 st.ns s)) b (decide ((nN st.ns s).kd = 7)) c y = .ok (w, y2) → ∀ M1 : zM, lO mk mka u (wa ++ w) y2 M0 M1 → Q 0 M1) →
    zg_X4_lookAtItems_3 l s0 G ca d C S w0 p mk mka (s : Nat) (K : Nat) ((32 - m : Nat) - 1 : Int) k M Q X := by
  obtain ⟨hs1, hp, hmk, hs53, g1, g2, g3, g4, g5⟩ := id hS
  intro c
  induction c with
  | zero =>
    intro k y wa M hk ho hA hu kE kO
    refine zs_X4_lookAtItems_3 Γ (by omega) hok hs1 hp hmk hs53 ?_
    unfold zt_X4_lookAtItems_3
    rw [w32_id (by omega) (by omega), w32_id (by omega) (by omega)]
    refine ⟨fun _ => kO [] y rfl M (by rw [List.append_nil]; exact ho), fun c1 => by omega⟩
  | succ c ih =>
    intro k y wa M hkc ho hA hu kE kO
    have hT : lTp M b := hT0.o ho.2.2.2 g3 (by omega)
    have hG : gC M p NU st := ho.2.2.2.g hG0 ⟨g1, g2⟩ ⟨g3, g4⟩ g5
    refine zs_X4_lookAtItems_3 Γ (by omega) hok hs1 hp hmk hs53 ?_
    unfold zt_X4_lookAtItems_3
    rw [w32_id (x := (k : Int)) (by omega) (by omega), w32_id (x := (K : Int)) (by omega) (by omega), ho.1.2.2.2.1, g_kd hG hs]
    refine ⟨fun c1 => by omega, fun _ => ⟨fun _ => ?_, fun c1 => absurd (by decide) c1⟩⟩
    have tail : ∀ (w1 : List Nat) (q : Nat) (M1 : zM), yKey b (decide ((nN st.ns s).kd = 7)) y.1 = .ok (w1, q) → lO mk mka u (wa ++ w1) (q, y.2) M0 M1 → zt_X4_lookAtItems_33 l s0 G ca d C S w0 p mk mka (s : Nat) (K : Nat) ((32 - m : Nat) - 1 : Int) k M1 Q X := fun w1 q M1 hkey o1 => by
      obtain ⟨a1, a2⟩ := (@yKey_g b (decide ((nN st.ns s).kd = 7)) y hA).2 w1 q hkey
      have hT1 : lTp M1 b := hT0.o o1.2.2.2 g3 (by omega)
      have hG1 : gC M1 p NU st := o1.2.2.2.g hG0 ⟨g1, g2⟩ ⟨g3, g4⟩ g5
      obtain ⟨i1, i2⟩ := g_itm hG1 hF hs hk
      unfold zt_X4_lookAtItems_33
      rw [o1.1.2.2.2.1, i1, show (((32 - m : Nat) : Int) - 1) + 1 = ((32 - m : Nat) : Int) by omega]
      refine ⟨fun _ => ?_, fun c1 => absurd (by decide) c1⟩
      have hlen : u + (wa ++ w1).length ≤ q := by rw [List.length_append]; omega
      refine hC (d - 1) _ (q, y.2) _ M1 _ _ (by omega) hm i2 a1 hT1 hG1 o1.1 o1.2.1 hlen (fun e he M2 x => ?_) (fun w2 y2 he M2 o2 => ?_)
      · have x2 := o1.x x
        refine l_itsX Γ (by omega) hok hS x2.1.w (kE e ?_ _ x2)
        unfold yIts
        rw [hkey]
        dsimp only
        rw [he]
      · have o3 := lO.app g3 g5 o1 o2
        obtain ⟨b1, b2, -⟩ := (yLook_g m (sKid0 st.ns s) (q, y.2) a1).2 w2 y2 he
        have b3 : w2.length + q ≤ y2.1 := b2
        refine ih (k + 1) y2 _ M2 (by omega) o3 b1 (by rw [List.length_append]; omega) (fun e he2 M3 x => kE e ?_ _ x) (fun w3 y3 he2 M3 o4 => kO (w1 ++ (w2 ++ w3)) y3 ?_ _ ?_)
        · unfold yIts
          rw [hkey]
          dsimp only
          rw [he]
          dsimp only
          rw [he2]
        · unfold yIts
          rw [hkey]
          dsimp only
          rw [he]
          dsimp only
          rw [he2]
        · rw [List.append_assoc, List.append_assoc] at o4
          exact o4
    refine ⟨fun c7 => ?_, fun c7 => ?_⟩
    · have h7 : (nN st.ns s).kd = 7 := by rw [w32_id (by omega) (by omega)] at c7; omega
      refine l_str Γ (by omega) hok hS hA hT ho.1 ho.2.1 hu (fun e he M1 x => ?_) (fun w q he M1 o1 => ?_)
      · have x2 := ho.x x
        have q0 : Q 0 M1 := kE e (by unfold yIts yKey; rw [if_pos (decide_eq_true h7), he]) _ x2
        unfold zt_X4_lookAtItems_33
        refine ⟨fun c1 => absurd c1 x2.1.w, fun _ => ?_⟩
        exact l_itsX Γ (by omega) hok hS x2.1.w q0
      · exact tail w q M1 (by unfold yKey; rw [if_pos (decide_eq_true h7)]; exact he) (lO.app g3 g5 ho o1)
    · have h7 : ¬ (nN st.ns s).kd = 7 := fun h => c7 (by rw [h]; decide)
      refine tail [] y.1 M ?_ ?_
      · unfold yKey
        rw [if_neg (by rw [decide_eq_true_iff]; exact h7)]
      · rw [List.append_nil]; exact ho
/-- the items of a block -/
theorem l_its (Γ : rt_Γ l s0 a0 G ca) (hok : zok C) (hS : lSh S p mk mka) (hC : lkC l s0 G ca C S p mk mka b NU st m) (hm : m < 32) (hd : 5 * m + 14 ≤ d) (hF : kF st) (hs : s < 6 + st.ns.length) (hk : (nN st.ns s).kd = 6 ∨ (nN st.ns s).kd = 7) (hT0 : lTp M b) (hG0 : gC M p NU st) {K : Nat} (hK : K ≤ 2000) (hP : lP M y) (hu : M mk 1 = (u : Int)) (hA : yA b y) (huy : u ≤ y.1)
    (kE : ∀ e : Nat × Nat, yIts (yLook st.ns b m (sKid0 st.ns s)) b (decide ((nN st.ns s).kd = 7)) K y = .error e → ∀ M1 : zM, lX b mk mka u e M M1 → Q 0 M1)
    (kO : ∀ (w : List Nat) (y2 : ySt), yIts (yLook st.ns b m (sKid0 st.ns s)) b (decide ((nN st.ns s).kd = 7)) K y = .ok (w, y2) → ∀ M1 : zM, lO mk mka u w y2 M M1 → Q 0 M1) :
    zm_X4_lookAtItems l s0 G ca d C S (s : Nat) (K : Nat) ((32 - (m + 1) : Nat) : Int) M Q X := by
  obtain ⟨hs1, hp, hmk, hs53, -⟩ := id hS
  refine z_X4_lookAtItems Γ (by omega) hok hs1 hp hmk hs53 ?_
  unfold zt_X4_lookAtItems
  rw [show ((32 - (m + 1) : Nat) : Int) = ((32 - m : Nat) : Int) - 1 by omega]
  exact l_itsL Γ hok hS hC (by omega) (by omega) hF hs hk hT0 hG0 hK K 0 y [] M (by omega) (lO.nil hP hu) hA huy kE (fun w y2 he M1 o => kO w y2 he M1 o)
theorem l_mea (Γ : rt_Γ l s0 a0 G ca) (hok : zok C) (hS : lSh S p mk mka) (hC : lkC l s0 G ca C S p mk mka b NU st m) (hm : m < 32) (hd : 5 * m + 15 ≤ d) (hF : kF st) (hs : s < 6 + st.ns.length) (hk : (nN st.ns s).kd = 6 ∨ (nN st.ns s).kd = 7) (hT0 : lTp M b) (hG0 : gC M p NU st) {K : Nat} (hK : K ≤ 2000) (hP : lP M y) (hu : M mk 1 = (u : Int)) (hA : yA b y) (huy : u ≤ y.1)
    (kE : ∀ e : Nat × Nat, yMea (yIts (yLook st.ns b m (sKid0 st.ns s)) b (decide ((nN st.ns s).kd = 7)) K) b y = .error e → ∀ M1 : zM, lX b mk mka u e M M1 → Q 0 M1)
    (kO : ∀ (w : List Nat) (y2 : ySt), yMea (yIts (yLook st.ns b m (sKid0 st.ns s)) b (decide ((nN st.ns s).kd = 7)) K) b y = .ok (w, y2) → ∀ M1 : zM, lO mk mka u w y2 M M1 → Q 0 M1) :
    zm_X4_lookAtMeasuredItems l s0 G ca d C S (s : Nat) (K : Nat) ((32 - (m + 1) : Nat) : Int) M Q X := by
  obtain ⟨hs1, hp, hmk, hs53, g1, g2, g3, g4, g5⟩ := id hS
  have hN := hT0.2.1
  refine z_X4_lookAtMeasuredItems Γ (by omega) hok hs1 hp hmk hs53 ?_
  unfold zt_X4_lookAtMeasuredItems
  refine l_var Γ (by omega) hok hS hA.1 hT0 hP.1 hP.2.2.2.1 (fun e hv M1 f1 f2 => ?_) (fun t q hv => ?_)
  · refine z_X4_lookAtItems Γ (by omega) hok hs1 hp hmk hs53 ?_
    unfold zt_X4_lookAtItems
    have q0 : Q 0 M1 := kE e (by unfold yMea; rw [hv]) _ (f2.x g3 f1 hu (by have := hA.1; omega))
    refine l_itsX Γ (by omega) hok hS f1.w ?_
    exact ⟨fun _ => q0, fun _ => l_fail1 Γ hok hS f1.w q0⟩
  · obtain ⟨v1, v2, v3, v4, v5⟩ := yVar_ok hv
    have o1 : lO mk mka u [] (q, y.2) M (zu M 55 3 q) := lO.mv g3 hP hu
    have hA1 : yA b (q, y.2) := ⟨v2, hA.2⟩
    have hT1 : lTp (zu M 55 3 q) b := hT0.u
    have hG1 : gC (zu M 55 3 q) p NU st := o1.2.2.2.g hG0 ⟨g1, g2⟩ ⟨g3, g4⟩ g5
    have hy1 : u ≤ q := by omega
    refine l_its Γ hok hS hC hm (by omega) hF hs hk hT1 hG1 hK o1.1 o1.2.1 hA1 hy1 (fun e he M1 x => ?_) (fun w y2 he M1 o2 => ?_)
    · have x2 := o1.x x
      have q0 : Q 0 M1 := kE e (by unfold yMea; rw [hv]; dsimp only; rw [he]) _ x2
      exact ⟨fun _ => q0, fun _ => l_fail1 Γ hok hS x2.1.w q0⟩
    · have o3 := lO.app g3 g5 o1 o2
      obtain ⟨b1, b2, -⟩ := (yIts_g (fun s2 h2 => yLook_g m (sKid0 st.ns s) s2 h2) K (q, y.2) hA1).2 w y2 he
      have b3 : w.length + q ≤ y2.1 := b2
      have b4 := b1.1
      rw [o3.1.1, zu_s, w64_id v4 v5, w32_id (by omega) (by omega), w64_id (by omega) (by omega)]
      refine ⟨fun c1 => kO w y2 ?_ _ o3, fun c1 => ?_⟩
      · unfold yMea
        rw [hv]
        dsimp only
        rw [he]
        dsimp only
        rw [if_pos c1]
      · refine l_fail0 Γ hok hS o3.1.2.2.2.1 ?_
        refine kE (6, y.1) ?_ _ ?_
        · unfold yMea
          rw [hv]
          dsimp only
          rw [he]
          dsimp only
          rw [if_neg c1]
        · obtain ⟨p1, p2, p3, p4⟩ := o3
          refine ⟨⟨?_, ?_, yE.k (by decide) (by decide) hA.1⟩, ⟨u + w.length, ?_, by omega, by omega⟩, p4.tr ((f53.rf.zu (by decide) (by decide)).zu (by decide) (by decide)).o (Nat.le_refl _)⟩
          · rw [zu_k (by decide), zu_s]; rfl
          · rw [zu_s]; exact hP.1
          · rw [zu_a (by omega), zu_a (by omega), p2]; rfl
end KF
