/-! ===== the class's Looker: strings, numbers, choices ===== -/
section KD
variable {l : Launch} {s0 : State} {a0 : Array Value} {G : va_G} {ca : Nat → ClassId} {d : Nat} {C : Nat × Nat} {S : zS} {p mk mka : Int} {M : zM} {Q : Int → zM → Prop} {X : zM → Prop} {b : List Nat} {st : ySt} {u : Nat}
/-- the place moved -/
theorem lP.mv (hP : lP M st) {q : Nat} : lP (zu M 55 3 q) (q, st.2) := by
  obtain ⟨p1, p2, p3, p4⟩ := hP
  exact ⟨zu_s _ _ _ _, by rw [zu_k (by decide)]; exact p2, by rw [zu_k (by decide)]; exact p3, p4.k (by decide) (by decide)⟩
theorem lO.mv (hm : 70 ≤ mk) (hP : lP M st) (hu : M mk 1 = (u : Int)) {q : Nat} : lO mk mka u [] (q, st.2) M (zu M 55 3 q) := (f53.rf.zu (by decide) (by decide)).lO hm hP.mv hu
/-- a fault told by the Looker -/
theorem lX.of (hm : 70 ≤ mk) (hu : M mk 1 = (u : Int)) (hu2 : u ≤ 4096) {M1 : zM} (hf : f53 M M1) {k : Int} {w : Int} {e : Nat × Nat} (h1 : k = e.1) (h2 : w = e.2) (h3 : yE b e) : lX b mk mka u e M (zu (zu M1 55 6 k) 55 7 w) := by
  refine ((hf.zu (by decide) (by decide)).zu (by decide) (by decide)).x hm ⟨?_, by rw [zu_s]; exact h2, h3⟩ hu hu2
  rw [zu_k (by decide), zu_s]
  exact h1
/-- a number's bytes are put -/
theorem l_putV (Γ : rt_Γ l s0 a0 G ca) (hd : 2 ≤ d) (hok : zok C) (hS : lSh S p mk mka) {n : Int} (hn : -9223372036854775808 ≤ n ∧ n < 9223372036854775808) (hu : M mk 1 = (u : Int)) (hul : u + (vB n).length ≤ 4096) (hP : lP M st)
    (kO : ∀ (r : Int) (M1 : zM), lO mk mka u (vB n) st M M1 → Q r M1) : zm_X0_addVarint l s0 G ca d C S mk n M Q X := by
  obtain ⟨hs, hp, hmk, hs53, g1, g2, g3, g4, g5⟩ := hS
  refine c_addV Γ hd hok hmk (by omega) hu (by omega) (fun h M1 f => ?_) (fun h => ?_)
  · rw [w64_id hn.1 hn.2] at f
    exact kO _ _ (f.o g3 g5 hP)
  · rw [w64_id hn.1 hn.2] at h
    omega
theorem l_str (Γ : rt_Γ l s0 a0 G ca) (hd : 4 ≤ d) (hok : zok C) (hS : lSh S p mk mka) (hA : yA b st) (hT : lTp M b) (hP : lP M st) (hu : M mk 1 = (u : Int)) (hus : u ≤ st.1)
    (kE : ∀ e : Nat × Nat, yStr b st.1 = .error e → ∀ M1 : zM, lX b mk mka u e M M1 → Q 0 M1) (kO : ∀ (w : List Nat) (q : Nat), yStr b st.1 = .ok (w, q) → ∀ M1 : zM, lO mk mka u w (q, st.2) M M1 → Q 0 M1) : zm_X4_lookAtString l s0 G ca d C S M Q X := by
  obtain ⟨hs, hp, hmk, hs53, g1, g2, g3, g4, g5⟩ := id hS
  have hN := hT.2.1
  have hA1 := hA.1
  refine z_X4_lookAtString Γ (by omega) hok hs hp hmk hs53 ?_
  unfold zt_X4_lookAtString
  refine l_var Γ (by omega) hok hS hA1 hT hP.1 hP.2.2.2.1 (fun e hv M1 f1 f2 => ?_) (fun n q hv => ?_)
  · refine ⟨fun _ => ?_, fun c => absurd (by decide) c⟩
    unfold zt_X4_lookAtString_23
    exact ⟨fun c => absurd c f1.w, fun _ => kE e (by unfold yStr; rw [hv]) _ (f2.x g3 f1 hu (by omega))⟩
  · obtain ⟨v1, v2, v3, v4, v5⟩ := yVar_ok hv
    have k6 : zu M 55 3 (q : Int) 55 6 = 0 := by rw [zu_k (by decide)]; exact hP.2.2.2.1
    rw [w64_id v4 v5]
    refine ⟨fun c1 => ?_, fun c1 => ?_⟩
    · unfold zt_X4_lookAtString_23
      rw [k6]
      refine ⟨fun _ => ?_, fun c => absurd (by decide) c⟩
      have o1 : lO mk mka u [] (q, st.2) M (zu M 55 3 q) := lO.mv g3 hP hu
      refine l_putV Γ (by omega) hok hS ⟨v4, v5⟩ (u := u) o1.2.1 (by omega) o1.1 (fun r M1 o2 => ?_)
      have o3 : lO mk mka u (vB n) (q, st.2) M M1 := lO.app g3 g5 o1 o2
      have hn : n = (n.toNat : Int) := by omega
      refine l_take Γ (by omega) hok hS (st := (q, st.2)) (u := u + (vB n).length) (n := n.toNat) ⟨v2, hA.2⟩ (hT.o o3.2.2.2 (by omega) (by omega)) o3.1 o3.2.1 (by show u + _ ≤ q; omega) hn v5 (fun h M2 x => ?_) (fun h M2 o4 => ?_)
      · have h0 : (b.length : Int) - q < n.toNat := h
        refine kE _ ?_ _ (o3.x x)
        unfold yStr
        rw [hv]
        dsimp only
        rw [if_neg (by omega), if_pos (by omega)]
      · have h0 : q + n.toNat ≤ b.length := h
        refine kO _ _ ?_ _ (lO.app g3 g5 o3 o4)
        unfold yStr
        rw [hv]
        dsimp only
        rw [if_neg (by omega), if_neg (by omega)]
    · refine l_fail0 Γ hok hS k6 ?_
      have x : lX b mk mka u (6, st.1) M (zu (zu (zu M 55 3 q) 55 6 6) 55 7 (M 55 3)) := lX.of g3 hu (by omega) (f53.rf.zu (by decide) (by decide)) rfl hP.1 (yE.k (by decide) (by decide) hA1)
      unfold zt_X4_lookAtString_23
      refine ⟨fun c => absurd c x.1.w, fun _ => kE _ ?_ _ x⟩
      unfold yStr
      rw [hv]
      dsimp only
      rw [if_pos (by omega)]
/-- an int or a long -/
def yNum (b : List Nat) (sm : Bool) (p : Nat) : Except (Nat × Nat) (List Nat × Nat) :=
  match yVar b p with
  | .error e => .error e
  | .ok (n, q) => if sm = true ∧ ¬ n = w32 n then .error (2, p) else .ok (vB n, q)
theorem l_num (Γ : rt_Γ l s0 a0 G ca) (hd : 4 ≤ d) (hok : zok C) (hS : lSh S p mk mka) (hA : yA b st) (hT : lTp M b) (hP : lP M st) (hu : M mk 1 = (u : Int)) (hus : u ≤ st.1) {k : Int} {sm : Bool} (hk : k = if sm = true then 1 else 0)
    (kE : ∀ e : Nat × Nat, yNum b sm st.1 = .error e → ∀ M1 : zM, lX b mk mka u e M M1 → Q 0 M1) (kO : ∀ (w : List Nat) (q : Nat), yNum b sm st.1 = .ok (w, q) → ∀ M1 : zM, lO mk mka u w (q, st.2) M M1 → Q 0 M1) : zm_X4_lookAtNumber l s0 G ca d C S k M Q X := by
  obtain ⟨hs, hp, hmk, hs53, g1, g2, g3, g4, g5⟩ := id hS
  have hN := hT.2.1
  have hA1 := hA.1
  refine z_X4_lookAtNumber Γ (by omega) hok hs hp hmk hs53 ?_
  unfold zt_X4_lookAtNumber
  refine l_var Γ (by omega) hok hS hA1 hT hP.1 hP.2.2.2.1 (fun e hv M1 f1 f2 => ?_) (fun n q hv => ?_)
  · have t : zt_X4_lookAtNumber_28 l s0 G ca d C S (zw s0 ca C S M) p mk mka 0 M1 Q X := by
      unfold zt_X4_lookAtNumber_28
      exact ⟨fun c => absurd c f1.w, fun _ => kE e (by unfold yNum; rw [hv]) _ (f2.x g3 f1 hu (by omega))⟩
    exact ⟨fun _ => t, fun _ => ⟨fun _ => t, fun c => absurd (by decide) c⟩⟩
  · obtain ⟨v1, v2, v3, v4, v5⟩ := yVar_ok hv
    have k6 : zu M 55 3 (q : Int) 55 6 = 0 := by rw [zu_k (by decide)]; exact hP.2.2.2.1
    have t : ¬ (sm = true ∧ ¬ n = w32 n) → zt_X4_lookAtNumber_28 l s0 G ca d C S (zw s0 ca C S M) p mk mka n (zu M 55 3 q) Q X := fun hn => by
      unfold zt_X4_lookAtNumber_28
      rw [k6]
      refine ⟨fun _ => ?_, fun c => absurd (by decide) c⟩
      have o1 : lO mk mka u [] (q, st.2) M (zu M 55 3 q) := lO.mv g3 hP hu
      refine l_putV Γ (by omega) hok hS ⟨v4, v5⟩ (u := u) o1.2.1 (by omega) o1.1 (fun r M1 o2 => ?_)
      refine kO _ q ?_ _ (lO.app g3 g5 o1 o2)
      show yNum b sm st.1 = _
      unfold yNum
      rw [hv]
      dsimp only
      rw [if_neg hn]
      rfl
    have hw : w64 (w32 n) = w32 n := w64_id (by have := w32_b n; omega) (by have := w32_b n; omega)
    rw [w64_id v4 v5, hw]
    refine ⟨fun c1 => t (fun h => ?_), fun c1 => ⟨fun c2 => t (fun h => h.2 c2), fun c2 => ?_⟩⟩
    · rw [hk, if_pos h.1] at c1
      exact absurd c1 (by decide)
    · have hsm : sm = true := by
        cases sm with
        | true => rfl
        | false => exact absurd (by rw [hk]; decide) c1
      refine l_fail0 Γ hok hS k6 ?_
      have x : lX b mk mka u (2, st.1) M (zu (zu (zu M 55 3 q) 55 6 2) 55 7 (M 55 3)) := lX.of g3 hu (by omega) (f53.rf.zu (by decide) (by decide)) rfl hP.1 (yE.k (by decide) (by decide) hA1)
      unfold zt_X4_lookAtNumber_28
      refine ⟨fun c => absurd c x.1.w, fun _ => kE _ ?_ _ x⟩
      unfold yNum
      rw [hv]
      dsimp only
      rw [if_pos ⟨hsm, c2⟩]
theorem l_cho (Γ : rt_Γ l s0 a0 G ca) (hd : 4 ≤ d) (hok : zok C) (hS : lSh S p mk mka) (hA : yA b st) (hT : lTp M b) (hP : lP M st) (hu : M mk 1 = (u : Int)) (hus : u ≤ st.1) {s : Int} {k ft : Nat} (hk : ∀ M1 : zM, f53 M M1 → zat M1 (p + 12) 134 s = (k : Int)) (hk2 : k < 2147483648) (hft : 0 < ft ∧ ft < 9)
    (kE : ∀ e : Nat × Nat, yCho b k ft st.1 = .error e → ∀ M1 : zM, lX b mk mka u e M M1 → Q (-1) M1) (kO : ∀ n q : Nat, yCho b k ft st.1 = .ok (n, q) → ∀ M1 : zM, lO mk mka u (vB n) (q, st.2) M M1 → Q n M1) : zm_X4_lookAtChoice l s0 G ca d C S s ft M Q X := by
  obtain ⟨hs, hp, hmk, hs53, g1, g2, g3, g4, g5⟩ := id hS
  have hN := hT.2.1
  have hA1 := hA.1
  refine z_X4_lookAtChoice Γ (by omega) hok hs hp hmk hs53 ?_
  unfold zt_X4_lookAtChoice
  refine l_var Γ (by omega) hok hS hA1 hT hP.1 hP.2.2.2.1 (fun e hv M1 f1 f2 => ?_) (fun n q hv => ?_)
  · have t : ∀ M2 : zM, M2 = M1 → zt_X4_lookAtChoice_39 l s0 G ca d C S (zw s0 ca C S M) p mk mka 0 M2 Q X := fun M2 hM2 => by
      subst hM2
      unfold zt_X4_lookAtChoice_39
      exact ⟨fun c => absurd c f1.w, fun _ => kE e (by unfold yCho; rw [hv]) _ (f2.x g3 f1 hu (by omega))⟩
    refine ⟨fun c => absurd c (by decide), fun _ => ⟨fun _ => t _ rfl, fun _ => ?_⟩⟩
    unfold zt_X4_lookAtChoice_33
    exact l_fail1 Γ hok hS f1.w (t _ rfl)
  · obtain ⟨v1, v2, v3, v4, v5⟩ := yVar_ok hv
    have k6 : zu M 55 3 (q : Int) 55 6 = 0 := by rw [zu_k (by decide)]; exact hP.2.2.2.1
    have t : n < 0 ∨ (k : Int) ≤ n → zt_X4_lookAtChoice_33 l s0 G ca d C S (zw s0 ca C S M) p mk mka ft (M 55 3) n (zu M 55 3 q) Q X := fun hn => by
      unfold zt_X4_lookAtChoice_33
      refine l_fail0 Γ hok hS k6 ?_
      have x : lX b mk mka u (ft, st.1) M (zu (zu (zu M 55 3 q) 55 6 ft) 55 7 (M 55 3)) := lX.of g3 hu (by omega) (f53.rf.zu (by decide) (by decide)) rfl hP.1 (yE.k hft.1 hft.2 hA1)
      unfold zt_X4_lookAtChoice_39
      refine ⟨fun c => absurd c x.1.w, fun _ => kE _ ?_ _ x⟩
      unfold yCho
      rw [hv]
      dsimp only
      rw [if_pos hn]
    rw [hk _ (f53.rf.zu (by decide) (by decide)), w64_id v4 v5, w64_nat hk2]
    refine ⟨fun c1 => t (Or.inl c1), fun c1 => ⟨fun c2 => ?_, fun c2 => t (Or.inr (by omega))⟩⟩
    unfold zt_X4_lookAtChoice_39
    rw [k6]
    refine ⟨fun _ => ?_, fun c => absurd (by decide) c⟩
    have o1 : lO mk mka u [] (q, st.2) M (zu M 55 3 q) := lO.mv g3 hP hu
    have hn : n = (n.natAbs : Int) := by omega
    refine l_putV Γ (by omega) hok hS ⟨v4, v5⟩ (u := u) o1.2.1 (by omega) o1.1 (fun r M1 o2 => ?_)
    have e : yCho b k ft st.1 = .ok (n.natAbs, q) := by
      unfold yCho
      rw [hv]
      dsimp only
      rw [if_neg (by omega)]
    have := kO n.natAbs q e M1 (by rw [← hn]; exact lO.app g3 g5 o1 o2)
    rw [← hn] at this
    exact this
theorem l_boo (Γ : rt_Γ l s0 a0 G ca) (hd : 4 ≤ d) (hok : zok C) (hS : lSh S p mk mka) (hA : yA b st) (hT : lTp M b) (hP : lP M st) (hu : M mk 1 = (u : Int)) (hus : u ≤ st.1)
    (k1 : b.length ≤ st.1 → ∀ M1 : zM, lX b mk mka u (1, b.length) M M1 → Q 0 M1) (k3 : st.1 < b.length → 1 < b.getD st.1 0 → ∀ M1 : zM, lX b mk mka u (3, st.1) M M1 → Q 0 M1)
    (kO : st.1 < b.length → b.getD st.1 0 ≤ 1 → ∀ M1 : zM, lO mk mka u [b.getD st.1 0] (st.1 + 1, st.2) M M1 → Q 0 M1) : zm_X4_lookAtBoolean l s0 G ca d C S M Q X := by
  obtain ⟨hs, hp, hmk, hs53, g1, g2, g3, g4, g5⟩ := id hS
  have hN := hT.2.1
  have hA1 := hA.1
  refine z_X4_lookAtBoolean Γ (by omega) hok hs hp hmk hs53 ?_
  unfold zt_X4_lookAtBoolean
  rw [hT.1, hP.1, w32_id (x := (st.1 : Int)) (by omega) (by omega), w32_id (x := (b.length : Int)) (by omega) (by omega)]
  refine ⟨fun c1 => ?_, fun c1 => ?_⟩
  · have hlt : st.1 < b.length := by omega
    have hy := (hT.2.2 _ hlt).2
    rw [hT.at hlt]
    rw [w32_id (by omega) (by omega)]
    refine ⟨fun c2 => ?_, fun c2 => ?_⟩
    · obtain ⟨e1, -⟩ := zadd_in (c := mk) (a := mka) (x := ((b.getD st.1 0 : Nat) : Int)) (n := 4096) hu (by omega) (by omega) (show (u : Int) < 4096 by omega) (by omega)
      have f : apB M (zadd M mk mka 4096 ((b.getD st.1 0 : Nat) : Int)) mk mka u [b.getD st.1 0] := by
        rw [e1]
        refine ⟨zu_s _ _ _ _, fun j hj => ?_, fun c j n1 n2 => ?_⟩
        · have : j = 0 := by simp only [List.length_singleton] at hj; omega
          subst this
          rw [zu_a (by omega)]
          exact zu_s _ _ _ _
        · rw [zu_ne n1, zu_ne (fun e => n2 ⟨e.1, by omega⟩)]
      have o1 := f.o g3 g5 hP
      generalize zadd M mk mka 4096 ((b.getD st.1 0 : Nat) : Int) = M1 at o1
      have o2 := lO.mv (mka := mka) (q := st.1 + 1) g3 o1.1 o1.2.1
      rw [o1.1.1, show (st.1 : Int) + 1 = ((st.1 + 1 : Nat) : Int) by omega]
      refine kO hlt (by omega) _ ?_
      have := lO.app g3 g5 o1 o2
      rw [List.append_nil] at this
      exact this
    · refine l_fail0 Γ hok hS hP.2.2.2.1 (k3 hlt (by omega) _ (lX.of g3 hu (by omega) f53.rf rfl rfl (yE.k (by decide) (by decide) hA1)))
  · exact l_fail0 Γ hok hS hP.2.2.2.1 (k1 (by omega) _ (lX.of g3 hu (by omega) f53.rf rfl rfl (yE.k (by decide) (by decide) (Nat.le_refl _))))
end KD
