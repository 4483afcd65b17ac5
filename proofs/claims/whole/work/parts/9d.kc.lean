/-! ===== the class's Looker: its state; faults, numbers ===== -/
def lSh (S : zS) (p mk mka : Int) : Prop := zSok S ∧ zSc S p ∧ zCe S mk mka 4096 ∧ S 55 = some (0, 4, [(3, 1), (3, p), (3, mk), (0, 0), (0, 0), (0, 0), (0, 0), (0, 0)]) ∧ 30 ≤ p ∧ (p + 24 < 55 ∨ 138 ≤ p) ∧ 70 ≤ mk ∧ mk < 84 ∧ mka = mk + 1
def lTp (M : zM) (b : List Nat) : Prop := M 1 1 = (b.length : Int) ∧ b.length ≤ 4096 ∧ ∀ j : Nat, j < b.length → M 2 (j : Int) = (b.getD j 0 : Nat) ∧ b.getD j 0 < 256
def l67 (M : zM) : Prop := M 55 6 = 0 ∧ M 55 7 = -1
theorem l67.k {M : zM} (h : l67 M) {k v : Int} (n1 : ¬ (6 : Int) = k) (n2 : ¬ (7 : Int) = k) : l67 (zu M 55 k v) := ⟨(zu_k n1).trans h.1, (zu_k n2).trans h.2⟩
def lP (M : zM) (st : ySt) : Prop := M 55 3 = (st.1 : Int) ∧ M 55 4 = (st.2.1 : Int) ∧ M 55 5 = (st.2.2 : Int) ∧ l67 M
def lF (b : List Nat) (e : Nat × Nat) (M : zM) : Prop := M 55 6 = (e.1 : Int) ∧ M 55 7 = (e.2 : Int) ∧ yE b e
/-- what a look may write: the Looker's numbers, and bytes from u on -/
def ofr (mk mka : Int) (u : Nat) (M M1 : zM) : Prop := ∀ c j : Int, ¬ (c = 55 ∧ 3 ≤ j ∧ j ≤ 7) → ¬ (c = mk ∧ j = 1) → ¬ (c = mka ∧ (u : Int) ≤ j) → M1 c j = M c j
def lO (mk mka : Int) (u : Nat) (w : List Nat) (st : ySt) (M M1 : zM) : Prop := lP M1 st ∧ M1 mk 1 = ((u + w.length : Nat) : Int) ∧ (∀ j : Nat, j < w.length → M1 mka ((u + j : Nat) : Int) = (w.getD j 0 : Nat)) ∧ ofr mk mka u M M1
def lX (b : List Nat) (mk mka : Int) (u : Nat) (e : Nat × Nat) (M M1 : zM) : Prop := lF b e M1 ∧ (∃ v : Nat, M1 mk 1 = (v : Int) ∧ u ≤ v ∧ v ≤ 4096) ∧ ofr mk mka u M M1
/-- only the Looker's numbers -/
def f53 (M M1 : zM) : Prop := ∀ c j : Int, ¬ (c = 55 ∧ 3 ≤ j ∧ j ≤ 7) → M1 c j = M c j
theorem f53.rf {M : zM} : f53 M M := fun _ _ _ => rfl
theorem f53.zu {M M1 : zM} (h : f53 M M1) {k v : Int} (h1 : 3 ≤ k) (h2 : k ≤ 7) : f53 M (zu M1 55 k v) := fun c j n => by
  rw [← h c j n]
  exact zu_ne (fun e => n ⟨e.1, by omega⟩)
theorem f53.tr {M M1 M2 : zM} (h1 : f53 M M1) (h2 : f53 M1 M2) : f53 M M2 := fun c j n => (h2 c j n).trans (h1 c j n)
theorem f53.o {mk mka : Int} {u : Nat} {M M1 : zM} (h : f53 M M1) : ofr mk mka u M M1 := fun c j n _ _ => h c j n
theorem ofr.rf {mk mka : Int} {u : Nat} {M : zM} : ofr mk mka u M M := fun _ _ _ _ _ => rfl
theorem ofr.tr {mk mka : Int} {u v : Nat} {M M1 M2 : zM} (h1 : ofr mk mka u M M1) (h2 : ofr mk mka v M1 M2) (h : u ≤ v) : ofr mk mka u M M2 := fun c j n1 n2 n3 => (h2 c j n1 n2 (fun e => n3 ⟨e.1, by omega⟩)).trans (h1 c j n1 n2 n3)
theorem lTp.o {mk mka : Int} {u : Nat} {M M1 : zM} {b : List Nat} (h : lTp M b) (hf : ofr mk mka u M M1) (hm : 70 ≤ mk) (ha : 70 ≤ mka) : lTp M1 b := by
  obtain ⟨h1, h2, h3⟩ := h
  refine ⟨?_, h2, fun j hj => ⟨?_, (h3 j hj).2⟩⟩
  · rw [hf 1 1 (by omega) (by omega) (by omega)]; exact h1
  · rw [hf 2 j (by omega) (by omega) (by omega)]; exact (h3 j hj).1
theorem ofr.g {mk mka p : Int} {u : Nat} {M M1 : zM} {NU : Nat} {st : SS} (hf : ofr mk mka u M M1) (h : gC M p NU st) (hp : 30 ≤ p ∧ (p + 24 < 55 ∨ 138 ≤ p)) (hm : 70 ≤ mk ∧ mk < 84) (ha : mka = mk + 1) : gC M1 p NU st := h.fr (fun a hh => funext fun j => hf a j (by omega) (by omega) (by omega))
theorem lO.nil {mk mka : Int} {u : Nat} {M : zM} {st : ySt} (h : lP M st) (hu : M mk 1 = (u : Int)) : lO mk mka u [] st M M := ⟨h, hu, fun j hj => absurd hj (Nat.not_lt_zero _), ofr.rf⟩
theorem lO.app {mk mka : Int} {u : Nat} {w w2 : List Nat} {st st2 : ySt} {M M1 M2 : zM} (hm : 70 ≤ mk) (ha : mka = mk + 1) (h1 : lO mk mka u w st M M1) (h2 : lO mk mka (u + w.length) w2 st2 M1 M2) : lO mk mka u (w ++ w2) st2 M M2 := by
  obtain ⟨a1, a2, a3, a4⟩ := h1
  obtain ⟨b1, b2, b3, b4⟩ := h2
  refine ⟨b1, by rw [b2, List.length_append]; omega, fun j hj => ?_, a4.tr b4 (Nat.le_add_right _ _)⟩
  rw [List.getD_eq_getElem?_getD]
  by_cases c1 : j < w.length
  · rw [List.getElem?_append_left c1, ← List.getD_eq_getElem?_getD, ← a3 j c1]
    exact b4 _ _ (by omega) (by omega) (by omega)
  · rw [List.length_append] at hj
    rw [List.getElem?_append_right (by omega), ← List.getD_eq_getElem?_getD, ← b3 (j - w.length) (by omega)]
    rw [show u + j = u + w.length + (j - w.length) by omega]
theorem lO.x {b : List Nat} {mk mka : Int} {u : Nat} {w : List Nat} {st : ySt} {e : Nat × Nat} {M M1 M2 : zM} (h1 : lO mk mka u w st M M1) (h2 : lX b mk mka (u + w.length) e M1 M2) : lX b mk mka u e M M2 := by
  obtain ⟨a1, ⟨v, v1, v2, v3⟩, a3⟩ := h2
  exact ⟨a1, ⟨v, v1, by omega, v3⟩, h1.2.2.2.tr a3 (Nat.le_add_right _ _)⟩
/-- bytes put behind, the Looker's numbers as they were -/
theorem apB.o {mk mka : Int} {u : Nat} {bs : List Nat} {st : ySt} {M M1 : zM} (hm : 70 ≤ mk) (ha : mka = mk + 1) (h : apB M M1 mk mka u bs) (hP : lP M st) : lO mk mka u bs st M M1 := by
  obtain ⟨a1, a2, a3⟩ := h
  obtain ⟨p1, p2, p3, p4⟩ := hP
  have e : ∀ k : Int, M1 55 k = M 55 k := fun k => a3 55 k (by omega) (by omega)
  exact ⟨⟨by rw [e]; exact p1, by rw [e]; exact p2, by rw [e]; exact p3, ⟨by rw [e]; exact p4.1, by rw [e]; exact p4.2⟩⟩, a1, a2, fun c j _ n2 n3 => a3 c j n2 n3⟩
/-- the Looker's numbers written -/
theorem f53.lO {mk mka : Int} {u : Nat} {st : ySt} {M M1 : zM} (h : f53 M M1) (hm : 70 ≤ mk) (hP : lP M1 st) (hu : M mk 1 = (u : Int)) : lO mk mka u [] st M M1 :=
  ⟨hP, by rw [h mk 1 (by omega)]; exact hu, fun j hj => absurd hj (Nat.not_lt_zero _), h.o⟩
theorem f53.x {b : List Nat} {mk mka : Int} {u : Nat} {e : Nat × Nat} {M M1 : zM} (h : f53 M M1) (hm : 70 ≤ mk) (hF : lF b e M1) (hu : M mk 1 = (u : Int)) (hu2 : u ≤ 4096) : lX b mk mka u e M M1 :=
  ⟨hF, ⟨u, by rw [h mk 1 (by omega)]; exact hu, Nat.le_refl _, hu2⟩, h.o⟩
section KC
variable {l : Launch} {s0 : State} {a0 : Array Value} {G : va_G} {ca : Nat → ClassId} {d : Nat} {C : Nat × Nat} {S : zS} {p mk mka : Int} {M : zM} {Q : Int → zM → Prop} {X : zM → Prop} {b : List Nat}
theorem l_fail0 (Γ : rt_Γ l s0 a0 G ca) (hok : zok C) (hS : lSh S p mk mka) {k w : Int} (h0 : M 55 6 = 0) (hQ : Q 0 (zu (zu M 55 6 k) 55 7 w)) : zm_X4_fail l s0 G ca d C S k w M Q X := by
  obtain ⟨hs, hp, hmk, hs53, -⟩ := hS
  refine z_X4_fail Γ hok hs hp hmk hs53 ?_
  unfold zt_X4_fail
  rw [h0]
  exact ⟨fun _ => hQ, fun c => absurd (by decide) c⟩
theorem lF.w {e : Nat × Nat} (h : lF b e M) : ¬ w32 (M 55 6) = 0 := by
  obtain ⟨h1, -, h3, h4, -⟩ := h
  rw [h1, w32_id (by omega) (by omega)]
  omega
theorem l_fail1 (Γ : rt_Γ l s0 a0 G ca) (hok : zok C) (hS : lSh S p mk mka) {k w : Int} (h0 : ¬ w32 (M 55 6) = 0) (hQ : Q 0 M) : zm_X4_fail l s0 G ca d C S k w M Q X := by
  obtain ⟨hs, hp, hmk, hs53, -⟩ := hS
  refine z_X4_fail Γ hok hs hp hmk hs53 ?_
  unfold zt_X4_fail
  exact ⟨fun c => absurd c h0, fun _ => hQ⟩
theorem lTp.at (hT : lTp M b) {j : Nat} (hj : j < b.length) : zat M 2 4096 (j : Int) = (b.getD j 0 : Nat) := by
  rw [zat_in (by omega) (by have := hT.2.1; omega) (by decide)]
  exact (hT.2.2 j hj).1
theorem lTp.u (hT : lTp M b) {k v : Int} : lTp (zu M 55 k v) b := by
  obtain ⟨h1, h2, h3⟩ := hT
  exact ⟨by rw [zu_a (by decide)]; exact h1, h2, fun j hj => ⟨by rw [zu_a (by decide)]; exact (h3 j hj).1, (h3 j hj).2⟩⟩
theorem uPut {u : Int} {y k : Nat} (hk : k < 10) (hu : vN u < 128 ^ k) (hy : y < 256) (h9 : k = 9 → y ≤ 1) : vN (zorL u (zshlL (w32 (zand (y : Int) 127)) (7 * (k : Int)))) = vN u + y % 128 * 2 ^ (7 * k) := by
  rw [zand127 hy, w32_id (by omega) (by omega)]
  exact vN_put hk (Nat.mod_lt _ (by decide)) (by rw [pow128]; exact hu) (fun h => by have := h9 h; omega)
theorem uPut_lt {u y k : Nat} (hu : u < 128 ^ k) : u + y % 128 * 2 ^ (7 * k) < 128 ^ (k + 1) := by
  rw [pow128, Nat.pow_succ]
  have := Nat.mul_le_mul_right (128 ^ k) (show y % 128 ≤ 127 by omega)
  omega
theorem l_varL (Γ : rt_Γ l s0 a0 G ca) (hd : 2 ≤ d) (hok : zok C) (hS : lSh S p mk mka) {f : Nat} (hf : f ≤ b.length) (hT : lTp M b) (h6 : M 55 6 = 0) {w0 : rt_Wd}
    (kE : ∀ (e : Nat × Nat), yVar b f = .error e → ∀ M1 : zM, lF b e M1 → f53 M M1 → Q 0 M1) (kO : ∀ (n : Int) (q : Nat), yVar b f = .ok (n, q) → Q n (zu M 55 3 q)) : ∀ (m k : Nat) (v2 : Int) (q : Nat), k + m = 10 → vN v2 < 128 ^ k → yV b f m (vN v2) q = yVar b f → 1 ≤ m → q ≤ b.length →
    zg_X4_varint_10 l s0 G ca d C S w0 p mk mka f v2 k (zu M 55 3 q) Q X := by
  obtain ⟨hs, hp, hmk, hs53, hz⟩ := hS
  have hN := hT.2.1
  intro m
  induction m with
  | zero => intro k v2 q _ _ _ h _; omega
  | succ m ih =>
    intro k v2 q hk hv he _ hq
    refine zs_X4_varint_10 Γ (by omega) hok hs hp hmk hs53 ?_
    unfold zt_X4_varint_10
    have hT1 : lTp (zu M 55 3 q) b := hT.u
    have e3 : zu M 55 3 (q : Int) 55 3 = (q : Int) := zu_s _ _ _ _
    rw [e3, hT1.1, w32_id (x := (k : Int)) (by omega) (by omega)]
    refine ⟨fun c1 => by omega, fun _ => ?_⟩
    unfold yV at he
    have q0 : (0 : Int) ≤ q := by omega
    by_cases cq : b.length ≤ q
    · rw [if_pos cq] at he
      have e : q = b.length := by omega
      subst e
      refine ⟨fun c1 => absurd c1 (Int.lt_irrefl _), fun _ => ?_⟩
      refine l_fail0 Γ hok ⟨hs, hp, hmk, hs53, hz⟩ (by rw [zu_k (by decide)]; exact h6) ?_
      refine kE _ he.symm _ ⟨?_, zu_s _ _ _ _, yE.k (by decide) (by decide) (Nat.le_refl _)⟩ (((f53.rf.zu (by decide) (by decide)).zu (by decide) (by decide)).zu (by decide) (by decide))
      rw [zu_k (by decide)]
      exact zu_s _ _ _ _
    · rw [if_neg cq] at he
      rw [w32_id (x := (q : Int)) (by omega) (by omega), w32_id (x := (b.length : Int)) (by omega) (by omega), hT1.at (by omega)]
      have hy := (hT1.2.2 q (by omega)).2
      generalize b.getD q 0 = y at he hy
      refine ⟨fun _ => ?_, fun c1 => by omega⟩
      have tail : ¬ (m = 0 ∧ 1 < y) → zt_X4_varint_79 l s0 G ca d C S w0 p mk mka f v2 k (y : Int) (zu M 55 3 q) Q X := fun hn => by
        rw [if_neg hn, show 9 - m = k by omega] at he
        have hp1 := uPut (u := v2) (y := y) (k := k) (by omega) hv hy (fun h => by
          rcases Nat.lt_or_ge 1 y with h2 | h2
          · exact absurd ⟨by omega, h2⟩ hn
          · exact h2)
        have hp2 := uPut_lt (y := y) hv
        unfold zt_X4_varint_79
        rw [e3, zu_zu, show (q : Int) + 1 = ((q + 1 : Nat) : Int) by omega, w32_id (x := (y : Int)) (by omega) (by omega)]
        generalize zorL v2 (zshlL (w32 (zand (y : Int) 127)) (7 * (k : Int))) = v3 at hp1
        rw [← hp1] at he hp2
        refine ⟨fun c1 => ?_, fun c1 => ?_⟩
        · rw [if_neg (by omega)] at he
          rw [show (k : Int) + 1 = ((k + 1 : Nat) : Int) by omega]
          refine ih (k + 1) v3 (q + 1) (by omega) hp2 he ?_ (by omega)
          rcases Nat.eq_zero_or_pos m with h2 | h2
          · exact absurd ⟨h2, by omega⟩ hn
          · exact h2
        · rw [if_pos (by omega)] at he
          rw [unz_uz]
          exact kO _ _ he.symm
      refine ⟨fun c9 => ?_, fun c9 => tail (by omega)⟩
      rw [w32_id (x := (y : Int)) (by omega) (by omega)]
      refine ⟨fun c1 => tail (by omega), fun c1 => ?_⟩
      rw [if_pos (by omega)] at he
      refine l_fail0 Γ hok ⟨hs, hp, hmk, hs53, hz⟩ (by rw [zu_k (by decide)]; exact h6) ?_
      refine kE _ he.symm _ ⟨?_, zu_s _ _ _ _, yE.k (by decide) (by decide) hf⟩ (((f53.rf.zu (by decide) (by decide)).zu (by decide) (by decide)).zu (by decide) (by decide))
      rw [zu_k (by decide)]
      exact zu_s _ _ _ _
/-- a number is read -/
theorem l_var (Γ : rt_Γ l s0 a0 G ca) (hd : 2 ≤ d) (hok : zok C) (hS : lSh S p mk mka) {f : Nat} (hf : f ≤ b.length) (hT : lTp M b) (h3 : M 55 3 = (f : Int)) (h6 : M 55 6 = 0)
    (kE : ∀ (e : Nat × Nat), yVar b f = .error e → ∀ M1 : zM, lF b e M1 → f53 M M1 → Q 0 M1) (kO : ∀ (n : Int) (q : Nat), yVar b f = .ok (n, q) → Q n (zu M 55 3 q)) : zm_X4_varint l s0 G ca d C S M Q X := by
  refine z_X4_varint Γ (by omega) hok hS.1 hS.2.1 hS.2.2.1 hS.2.2.2.1 ?_
  unfold zt_X4_varint
  have := l_varL (w0 := zw s0 ca C S M) (X := X) Γ hd hok hS hf hT h6 kE kO 10 0 0 f rfl (by decide) rfl (by decide) hf
  rw [zu_id h3] at this
  rw [h3]
  exact this
theorem l_varFL (Γ : rt_Γ l s0 a0 G ca) (hd : 2 ≤ d) (hok : zok C) (hS : lSh S p mk mka) {f : Int} {w0 : rt_Wd}
    (kO : ∀ (n : Int) (M1 : zM), f53 M M1 → M1 55 6 = M 55 6 → M1 55 7 = M 55 7 → Q n M1) : ∀ (m k : Nat) (v2 : Int) (M2 : zM), k + m = 10 → ¬ w32 (M2 55 6) = 0 → f53 M M2 → M2 55 6 = M 55 6 → M2 55 7 = M 55 7 →
    zg_X4_varint_10 l s0 G ca d C S w0 p mk mka f v2 k M2 Q X := by
  obtain ⟨hs, hp, hmk, hs53, hz⟩ := hS
  intro m
  induction m with
  | zero =>
    intro k v2 M2 hk h6 hf e6 e7
    refine zs_X4_varint_10 Γ (by omega) hok hs hp hmk hs53 ?_
    unfold zt_X4_varint_10
    rw [w32_id (x := (k : Int)) (by omega) (by omega)]
    exact ⟨fun _ => kO _ _ hf e6 e7, fun c1 => by omega⟩
  | succ m ih =>
    intro k v2 M2 hk h6 hf e6 e7
    refine zs_X4_varint_10 Γ (by omega) hok hs hp hmk hs53 ?_
    unfold zt_X4_varint_10
    rw [w32_id (x := (k : Int)) (by omega) (by omega)]
    have tail : ∀ v5 : Int, zt_X4_varint_79 l s0 G ca d C S w0 p mk mka f v2 k v5 M2 Q X := fun v5 => by
      unfold zt_X4_varint_79
      refine ⟨fun _ => ?_, fun _ => kO _ _ (hf.zu (by decide) (by decide)) (by rw [zu_k (by decide)]; exact e6) (by rw [zu_k (by decide)]; exact e7)⟩
      rw [show (k : Int) + 1 = ((k + 1 : Nat) : Int) by omega]
      exact ih (k + 1) _ _ (by omega) (by rw [zu_k (by decide)]; exact h6) (hf.zu (by decide) (by decide)) (by rw [zu_k (by decide)]; exact e6) (by rw [zu_k (by decide)]; exact e7)
    refine ⟨fun c1 => by omega, fun _ => ⟨fun _ => ⟨fun _ => ⟨fun _ => tail _, fun _ => ?_⟩, fun _ => tail _⟩, fun _ => ?_⟩⟩
    · exact l_fail1 Γ hok ⟨hs, hp, hmk, hs53, hz⟩ h6 (kO _ _ hf e6 e7)
    · exact l_fail1 Γ hok ⟨hs, hp, hmk, hs53, hz⟩ h6 (kO _ _ hf e6 e7)
/-- behind a fault -/
theorem l_varF (Γ : rt_Γ l s0 a0 G ca) (hd : 2 ≤ d) (hok : zok C) (hS : lSh S p mk mka) (h6 : ¬ w32 (M 55 6) = 0) (kO : ∀ (n : Int) (M1 : zM), f53 M M1 → M1 55 6 = M 55 6 → M1 55 7 = M 55 7 → Q n M1) : zm_X4_varint l s0 G ca d C S M Q X := by
  refine z_X4_varint Γ (by omega) hok hS.1 hS.2.1 hS.2.2.1 hS.2.2.2.1 ?_
  unfold zt_X4_varint
  exact l_varFL Γ hd hok hS kO 10 0 0 M rfl h6 f53.rf rfl rfl
/-- so many bytes are taken -/
theorem l_take (Γ : rt_Γ l s0 a0 G ca) (hd : 2 ≤ d) (hok : zok C) (hS : lSh S p mk mka) {st : ySt} {u n : Nat} (hA : yA b st) (hT : lTp M b) (hP : lP M st) (hu : M mk 1 = (u : Int)) (hus : u ≤ st.1) {k : Int} (hk : k = (n : Int)) (hn : k < 9223372036854775808)
    (kE : (b.length : Int) - st.1 < n → ∀ M1 : zM, lX b mk mka u (1, b.length) M M1 → Q 0 M1) (kO : st.1 + n ≤ b.length → ∀ M1 : zM, lO mk mka u ((b.drop st.1).take n) (st.1 + n, st.2) M M1 → Q 0 M1) : zm_X4_takeBytes l s0 G ca d C S k M Q X := by
  obtain ⟨hs, hp, hmk, hs53, hz⟩ := hS
  obtain ⟨g1, g2, g3, g4, g5⟩ := hz
  have hN := hT.2.1
  have hA1 := hA.1
  refine z_X4_takeBytes Γ (by omega) hok hs hp hmk hs53 ?_
  unfold zt_X4_takeBytes
  rw [hT.1, hP.1, w32_id (by omega) (by omega), w64_id (by omega) (by omega), w64_id (by omega) (by omega), hk]
  refine ⟨fun c1 => ?_, fun c1 => ?_⟩
  · have hl : ((b.drop st.1).take n).length = n := by rw [List.length_take, List.length_drop]; omega
    have hst : (st.1 : Int) + (n : Int) = ((st.1 + ((b.drop st.1).take n).length : Nat) : Int) := by rw [hl]; omega
    rw [hst]
    refine c_addP Γ hok hmk (by omega) (⟨by decide, by decide, by decide, hs 1 _ rfl, hs 2 _ rfl⟩ : zCe S 1 2 4096) (bs := (b.drop st.1).take n) hu (by omega) (by omega) (fun j hj => ?_) (fun h M1 f => ?_) (fun h => by omega)
    · rw [hl] at hj
      rw [(hT.2.2 (st.1 + j) (by omega)).1, List.getD_eq_getElem?_getD, List.getD_eq_getElem?_getD, List.getElem?_take, if_pos hj, List.getElem?_drop]
    · have f1 := f.o g3 g5 hP
      refine kO (by omega) _ ?_
      rw [f1.1.1, hl] at *
      obtain ⟨⟨p1, p2, p3, p4⟩, o2, o3, o4⟩ := f1
      refine ⟨⟨by rw [zu_s]; omega, by rw [zu_k (by decide)]; exact p2, by rw [zu_k (by decide)]; exact p3, p4.k (by decide) (by decide)⟩, by rw [zu_a (by omega)]; exact o2, fun j hj => by rw [zu_a (by omega)]; exact o3 j hj, fun c j n1 n2 n3 => ?_⟩
      rw [zu_ne (fun e => n1 ⟨e.1, by omega⟩)]
      exact o4 c j n1 n2 n3
  · refine l_fail0 Γ hok ⟨hs, hp, hmk, hs53, g1, g2, g3, g4, g5⟩ hP.2.2.2.1 ?_
    refine kE (by omega) _ (((f53.rf.zu (by decide) (by decide)).zu (by decide) (by decide)).x g3 ⟨?_, zu_s _ _ _ _, yE.k (by decide) (by decide) (Nat.le_refl _)⟩ hu (by omega))
    rw [zu_k (by decide)]
    exact zu_s _ _ _ _
end KC
