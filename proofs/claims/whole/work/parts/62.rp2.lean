/-! ===== the reference's Text: a string as a node ===== -/
theorem w8_w8 (x : Int) : w8 (w8 x) = w8 x := by
  have := w8_b x
  exact w8_id (by omega) (by omega)
/-- the letters from L on -/
def rLet (M : zM) (t : Int) (L : Nat) (ws : List Int32) : Prop := ∀ i : Nat, i < ws.length → M (t + 8) ((L + i : Nat) : Int) = w8 (ws.getD i 0).toInt ∧ 0 ≤ (ws.getD i 0).toInt ∧ (ws.getD i 0).toInt < 256
/-- nodes below W and letters below L are as they were, and all outside the block -/
def pfr (t W L : Int) (M M1 : zM) : Prop := zf8 t M M1 ∧ (∀ b j : Int, t + 2 ≤ b → b ≤ t + 7 → (0 ≤ j ∧ j < W) → M1 b j = M b j) ∧ ∀ j : Int, j < L → M1 (t + 8) j = M (t + 8) j
theorem pfr.tr {t W L W2 L2 : Int} {M M1 M2 : zM} (h1 : pfr t W L M M1) (h2 : pfr t W2 L2 M1 M2) (hW : W ≤ W2) (hL : L ≤ L2) : pfr t W L M M2 :=
  ⟨h1.1.tr h2.1, fun b j b1 b2 hj => (h2.2.1 b j b1 b2 (by omega)).trans (h1.2.1 b j b1 b2 hj), fun j hj => (h2.2.2 j (by omega)).trans (h1.2.2 j hj)⟩
theorem pfr.rf {t W L : Int} {M : zM} : pfr t W L M M := ⟨zf8.rf, fun _ _ _ _ _ => rfl, fun _ _ => rfl⟩
theorem pfr.t {t W L : Int} {M M1 : zM} (h : pfr t W L M M1) {k v : Int} (hk : k ≤ 15 := by decide) : pfr t W L M (zu M1 t k v) := ⟨h.1.zu (by omega) (by omega), fun b j b1 b2 hj => (zu_a (by omega)).trans (h.2.1 b j b1 b2 hj), fun j hj => (zu_a (by omega)).trans (h.2.2 j hj)⟩
theorem pfr.n {t W L : Int} {M M1 : zM} (h : pfr t W L M M1) {b0 j0 v : Int} (h0 : t + 2 ≤ b0) (h1 : b0 ≤ t + 7) (hj : W ≤ j0) : pfr t W L M (zu M1 b0 j0 v) := ⟨h.1.zu (by omega) (by omega), fun b j b1 b2 hj2 => (zu_k (by omega)).trans (h.2.1 b j b1 b2 hj2), fun j hj => (zu_a (by omega)).trans (h.2.2 j hj)⟩
theorem pfr.l {t W L : Int} {M M1 : zM} (h : pfr t W L M M1) {j0 v : Int} (hj : L ≤ j0) : pfr t W L M (zu M1 (t + 8) j0 v) := ⟨h.1.zu (by omega) (by omega), fun b j b1 b2 hj2 => (zu_a (by omega)).trans (h.2.1 b j b1 b2 hj2), fun j hj => (zu_k (by omega)).trans (h.2.2 j hj)⟩
theorem pfr_node {t W L k p : Int} {M : zM} : pfr t W L M (zNode M t k p W) := by
  unfold zNode
  exact ((((((pfr.rf.n (by omega) (by omega) (Int.le_refl _)).n (by omega) (by omega) (Int.le_refl _)).n (by omega) (by omega) (Int.le_refl _)).n (by omega) (by omega) (Int.le_refl _)).n (by omega) (by omega) (Int.le_refl _)).n (by omega) (by omega) (Int.le_refl _)).t
/-- behind the letters of a string that is node n -/
def rStrP (t : Int) (bt : Int → Int) (N dp W : Nat) (n : Int) (M M1 : zM) (L : Nat) (ws : List Int32) (q : Nat) : Prop :=
  RS M1 t bt N q dp W (L + ws.length) ∧ M1 (t + 5) n = M (t + 5) n + ws.length ∧ rLet M1 t L ws ∧ (∀ b j : Int, ¬ (b = t ∧ j ≤ 15) → ¬ b = t + 8 → ¬ (b = t + 5 ∧ j = n) → M1 b j = M b j) ∧ ∀ j : Int, j < L → M1 (t + 8) j = M (t + 8) j
theorem jStr_es {g : Nat → Int32} {m p : Nat} : jStr g (m + 1) p = if g p = 34 then .ok ([], p + 1) else if g p = 92 then (match jEs g p with | .error e => .error e | .ok (c, q) => jCons c (jStr g m q)) else if g p < 32 then .error p else if g p ≤ 126 then jCons (g p) (jStr g m (p + 1)) else .error p := by
  show (if g p = 34 then _ else if g p = 92 then _ else _) = _
  by_cases h1 : g p = 34
  · rw [if_pos h1, if_pos h1]
  · rw [if_neg h1, if_neg h1]
    by_cases h2 : g p = 92
    · rw [if_pos h2, if_pos h2]
      unfold jEs
      by_cases h3 : g (p + 1) = 117
      · rw [if_pos h3, if_pos h3]
        cases jFour g 4 (p + 2) 0 with
        | error e => rfl
        | ok s =>
          dsimp only
          by_cases h4 : s ≤ 255
          · rw [if_pos h4, if_pos h4]
          · rw [if_neg h4, if_neg h4]
      · rw [if_neg h3, if_neg h3]
        by_cases h4 : jEsc (g (p + 1)) = -1
        · rw [if_pos h4, if_pos h4]
        · rw [if_neg h4, if_neg h4]
    · rw [if_neg h2, if_neg h2]
section RW
variable {l : Launch} {s0 : State} {a0 : Array Value} {G : va_G} {ca : Nat → ClassId} {d : Nat} {C : Nat × Nat} {S : zS} {t : Int} {M : zM} {Q : Int → zM → Prop} {X : zM → Prop} {bt : Int → Int} {N p dp W L : Nat}
/-- one letter more -/
def zLt (M : zM) (t n : Int) (L : Nat) (r z : Int) : zM := zu (zu (zu M (t + 8) L (w8 (w8 r))) t 15 ((L : Int) + 1)) (t + 5) n (z + 1)
theorem zLt_RS {n r z : Int} (hR : RS M t bt N p dp W L) : RS (zLt M t n L r z) t bt N p dp W (L + 1) := by
  obtain ⟨h1, h2, h3, h4, h5, h6⟩ := hR
  unfold zLt
  refine ⟨?_, ?_, ?_, ?_, ?_, fun j => ?_⟩
  · simp (disch := omega) only [zu_k, zu_a, h1]
  · simp (disch := omega) only [zu_k, zu_a, h2]
  · simp (disch := omega) only [zu_k, zu_a, h3]
  · simp (disch := omega) only [zu_k, zu_a, h4]
  · rw [zu_a (by omega), zu_s]; omega
  · simp (disch := omega) only [zu_a, h6]
theorem rStrP.cons {n : Int} {M1 : zM} {q' : Nat} {r : Int} {ws : List Int32} {q : Nat} (h0 : 0 ≤ r) (h1 : r < 256) (h : rStrP t bt N dp W n (zLt (zu M t 2 q') t n L r (M (t + 5) n)) M1 (L + 1) ws q) : rStrP t bt N dp W n M M1 L (Int32.ofInt r :: ws) q := by
  obtain ⟨g1, g2, g3, g4, g5⟩ := h
  have hr : (Int32.ofInt r).toInt = r := by rw [z_toI, w32_id (by omega) (by omega)]
  refine ⟨?_, ?_, ?_, ?_, ?_⟩
  · rw [List.length_cons, show L + (ws.length + 1) = L + 1 + ws.length from by omega]; exact g1
  · rw [g2, List.length_cons]
    unfold zLt
    rw [zu_s]
    omega
  · intro i hi
    cases i with
    | zero =>
      show M1 (t + 8) ((L + 0 : Nat) : Int) = w8 (Int32.ofInt r).toInt ∧ 0 ≤ (Int32.ofInt r).toInt ∧ (Int32.ofInt r).toInt < 256
      rw [hr, g5 _ (by omega)]
      refine ⟨?_, h0, h1⟩
      unfold zLt
      rw [zu_a (by omega), zu_a (by omega), Nat.add_zero, zu_s, w8_w8]
    | succ i =>
      have := g3 i (by simpa using hi)
      rw [show L + (i + 1) = L + 1 + i from by omega]
      exact this
  · intro b j b1 b2 b3
    rw [g4 b j b1 b2 b3]
    unfold zLt
    by_cases c : b = t + 5
    · rw [zu_k (fun e => b3 ⟨c, e⟩), (zu_ne (fun c9 => b1 ⟨c9.1, by have := c9.2; omega⟩)), zu_a b2, (zu_ne (fun c9 => b1 ⟨c9.1, by have := c9.2; omega⟩))]
    · rw [zu_a c, (zu_ne (fun c9 => b1 ⟨c9.1, by have := c9.2; omega⟩)), zu_a b2, (zu_ne (fun c9 => b1 ⟨c9.1, by have := c9.2; omega⟩))]
  · intro j hj
    rw [g5 j (by omega)]
    unfold zLt
    rw [zu_a (by omega), zu_a (by omega), zu_k (by omega), zu_a (by omega)]
theorem q_strL (Γ : rt_Γ l s0 a0 G ca) (hd : 6 ≤ d) (hok : zok C) (ht : zTx S t) (hb : rOk bt N) {w0 : rt_Wd} {n : Int} (hn0 : 0 ≤ n) (hn : n < 4200) : ∀ (m p L : Nat) (M : zM), p ≤ N → N < p + m → L ≤ p → RS M t bt N p dp W L →
    (∀ e : Nat, jStr (rg bt N) m p = .error e → ∀ M1 : zM, eY t M M1 1 e → X M1) →
    (∀ (ws : List Int32) (q : Nat), jStr (rg bt N) m p = .ok (ws, q) → ∀ M1 : zM, rStrP t bt N dp W n M M1 L ws q → Q n M1) →
    zg_X10_string_27 l s0 G ca d C S w0 t n M Q X := by
  intro m
  induction m with
  | zero => intro p L M h1 h2; omega
  | succ m ih =>
    intro p L M hp hm hL hR kE kO
    have hN := hb.1
    refine zs_X10_string_27 Γ (by omega) hok ht ?_
    unfold zt_X10_string_27
    refine q_look Γ hok ht hb hR hp ?_
    have hbb := rb_b hb p
    rw [rb_w hb]
    have g34 : rg bt N p = 34 ↔ rb bt N p = 34 := g_eq hb rfl (by decide)
    have g92 : rg bt N p = 92 ↔ rb bt N p = 92 := g_eq hb rfl (by decide)
    have g32 : rg bt N p < 32 ↔ rb bt N p < 32 := g_lt hb rfl (by decide)
    have g126 : rg bt N p ≤ 126 ↔ rb bt N p ≤ 126 := g_le hb rfl (by decide)
    have h2 := hR.2.1
    have step : ∀ (r : Int) (q' : Nat), 0 ≤ r → r < 256 → p < q' → q' ≤ N →
        (∀ e : Nat, jStr (rg bt N) m q' = .error e → jStr (rg bt N) (m + 1) p = .error e) → (∀ (ws : List Int32) (q : Nat), jStr (rg bt N) m q' = .ok (ws, q) → jStr (rg bt N) (m + 1) p = .ok (Int32.ofInt r :: ws, q)) →
        zt_X10_string_91 l s0 G ca d C S w0 t n r (zu M t 2 q') Q X := by
      intro r q' r0 r1 hq hqN sE sO
      unfold zt_X10_string_91
      have hR' := hR.pos q'
      have e5 : (zu M t 2 (q' : Int)) t 15 = L := hR'.2.2.2.2.1
      have e6 : (zu M t 2 (q' : Int)) (t + 5) n = M (t + 5) n := zu_a (by omega)
      rw [e5, e6]
      refine ⟨⟨by omega, by omega⟩, ⟨hn0, hn⟩, ?_⟩
      refine ih q' (L + 1) (zLt (zu M t 2 q') t n L r (M (t + 5) n)) hqN (by omega) (by omega) (zLt_RS hR') (fun e he M1 hM1 => kE e (sE e he) M1 (hM1.of ?_)) (fun ws q hw M1 hM1 => kO _ q (sO ws q hw) M1 (rStrP.cons r0 r1 hM1))
      unfold zLt
      exact (((zf8.rf.zu (by omega) (by omega)).zu (by omega) (by omega)).zu (by omega) (by omega)).zu (by omega) (by omega)
    refine ⟨fun c => ?_, fun c => ?_⟩
    · refine kO [] (p + 1) (by rw [jStr_es, if_pos (g34.mpr c)]) _ ?_
      rw [h2, ← show ((p + 1 : Nat) : Int) = (p : Int) + 1 from by omega]
      exact ⟨hR.pos (p + 1), by rw [zu_a (by omega)]; simp, fun i hi => absurd hi (Nat.not_lt_zero _), fun b j b1 _ _ => (zu_ne (fun c9 => b1 ⟨c9.1, by have := c9.2; omega⟩)), fun j _ => zu_a (by omega)⟩
    refine q_look Γ hok ht hb hR hp ?_
    rw [rb_w hb]
    have n34 : ¬ rg bt N p = 34 := fun e => c (g34.mp e)
    have bad : (rb bt N p < 32 ∨ 126 < rb bt N p) → zt_X10_string_58 l s0 G ca d C S w0 t n (rb bt N p) M Q X := by
      intro hbad
      unfold zt_X10_string_58 zt_X10_string_59
      refine q_need0 Γ (by omega) hok ht ?_
      rw [h2]
      refine kE p ?_ _ (eY_zu zf8.rf)
      rw [jStr_es, if_neg n34, if_neg (fun e => by have := g92.mp e; omega)]
      by_cases c2 : rg bt N p < 32
      · rw [if_pos c2]
      · rw [if_neg c2, if_neg (fun e => by have := g126.mp e; have c2' : ¬ rb bt N p < 32 := fun x => c2 (g32.mpr x); omega)]
    refine ⟨fun c1 => bad (Or.inl c1), fun c1 => ⟨fun c2 => bad (Or.inr c2), fun c2 => ?_⟩⟩
    unfold zt_X10_string_59
    refine q_need1 Γ (by omega) hok ht ?_
    have hlt : p < N := (rg_T hb).lt (fun e => by have := (g_eq hb (c := -1) (k := -1) rfl (by decide)).mp e; omega)
    rw [rb_w hb]
    refine ⟨fun c3 => ?_, fun c3 => ?_⟩
    · have g := g92.mpr c3
      refine q_escaped Γ (by omega) hok ht hb hR hlt (fun e he M1 hM1 => kE e ?_ M1 hM1) (fun r q' he r0 r1 => ?_)
      · rw [jStr_es, if_neg n34, if_pos g, he]
      · have hq : p < q' ∧ q' ≤ N := by
          unfold jEs at he
          by_cases c4 : rg bt N (p + 1) = 117
          · rw [if_pos c4] at he
            cases h4 : jFour (rg bt N) 4 (p + 2) 0 with
            | error e => rw [h4] at he; exact nomatch he
            | ok s =>
              rw [h4] at he
              by_cases c5 : s ≤ 255
              · have he2 := (if_pos c5).symm.trans he
                have e9 := (Prod.mk.inj (Except.ok.inj he2)).2
                have := jFour_ok (m := 3) h4
                have := (rg_T hb).lt (p := p + 2 + 3) this
                omega
              · exact nomatch (if_neg c5).symm.trans he
          · rw [if_neg c4] at he
            by_cases c5 : jEsc (rg bt N (p + 1)) = -1
            · rw [if_pos c5] at he; exact nomatch he
            · rw [if_neg c5] at he
              have e9 := (Prod.mk.inj (Except.ok.inj he)).2
              have := (rg_T hb).lt (p := p + 1) (fun e => c5 (by rw [e]; decide))
              omega
        refine step r q' r0 r1 hq.1 hq.2 (fun e h => ?_) (fun ws q h => ?_)
        · rw [jStr_es, if_neg n34, if_pos g, he]
          show jCons _ (jStr (rg bt N) m q') = _
          rw [h]
          rfl
        · rw [jStr_es, if_neg n34, if_pos g, he]
          show jCons _ (jStr (rg bt N) m q') = _
          rw [h]
          rfl
    · have n92 : ¬ rg bt N p = 92 := fun e => c3 (g92.mp e)
      have n32 : ¬ rg bt N p < 32 := fun e => c1 (g32.mp e)
      have y126 : rg bt N p ≤ 126 := g126.mpr (by omega)
      have := step (rb bt N p) (p + 1) (by omega) (by omega) (by omega) (by omega) (fun e h => ?_) (fun ws q h => ?_)
      · rw [h2, ← show ((p + 1 : Nat) : Int) = (p : Int) + 1 from by omega]
        exact this
      · rw [jStr_es, if_neg n34, if_neg n92, if_neg n32, if_pos y126, h]
        rfl
      · rw [jStr_es, if_neg n34, if_neg n92, if_neg n32, if_pos y126, h]
        rfl
/-- node n is a string of these letters, which begin at L -/
def rStr (M : zM) (t : Int) (n : Int) (L : Nat) (ws : List Int32) : Prop := M (t + 2) n = 2 ∧ M (t + 4) n = L ∧ M (t + 5) n = ws.length ∧ rLet M t L ws
theorem q_string (Γ : rt_Γ l s0 a0 G ca) (hd : 7 ≤ d) (hok : zok C) (ht : zTx S t) (hb : rOk bt N) (hp : p < N) (hW : W < 4200) (hL : L ≤ p) (hR : RS M t bt N p dp W L)
    (kE : ∀ e : Nat, jStr (rg bt N) 4097 (p + 1) = .error e → ∀ M1 : zM, eY t M M1 1 e → X M1)
    (kO : ∀ (ws : List Int32) (q : Nat), jStr (rg bt N) 4097 (p + 1) = .ok (ws, q) → ∀ M1 : zM, RS M1 t bt N q dp (W + 1) (L + ws.length) → rStr M1 t W L ws → M1 (t + 3) W = p → M1 (t + 6) W = -1 → M1 (t + 7) W = -1 → pfr t W L M M1 → Q W M1) : zm_X10_string l s0 G ca d C S t M Q X := by
  have hN := hb.1
  refine z_X10_string Γ (by omega) hok ht ?_
  unfold zt_X10_string
  refine q_node Γ hok ht hR hW ?_
  have hR1 := zNode_RS (k := 2) hR
  refine ⟨⟨by omega, by omega⟩, ?_⟩
  rw [hR1.2.2.2.2.1, w32_id (by omega) (by omega)]
  have e2 : (zu (zNode M t 2 p W) (t + 4) W L) t 2 = p := by rw [zu_a (by omega)]; exact hR1.2.1
  have e2' : zNode M t 2 p W t 2 = p := hR1.2.1
  rw [e2', ← show ((p + 1 : Nat) : Int) = (p : Int) + 1 from by omega]
  have hR2 : RS (zu (zu (zNode M t 2 p W) (t + 4) W L) t 2 ((p + 1 : Nat) : Int)) t bt N (p + 1) dp (W + 1) L := by
    obtain ⟨g1, g2, g3, g4, g5, g6⟩ := hR1
    refine RS.pos (p := p) ⟨?_, ?_, ?_, ?_, ?_, fun j => ?_⟩ (p + 1)
    · rw [zu_a (by omega), g1]
    · rw [zu_a (by omega), g2]
    · rw [zu_a (by omega), g3]
    · rw [zu_a (by omega), g4]
    · rw [zu_a (by omega), g5]
    · rw [zu_a (by omega), g6]
  have fr : pfr t W L M (zu (zu (zNode M t 2 p W) (t + 4) W L) t 2 ((p + 1 : Nat) : Int)) := (pfr_node.n (by omega) (by omega) (Int.le_refl _)).t
  have nd : ∀ b : Int, ¬ b = t + 4 → ¬ b = t → (zu (zu (zNode M t 2 p W) (t + 4) W L) t 2 ((p + 1 : Nat) : Int)) b W = zNode M t 2 p W b W := fun b b1 b2 => by rw [zu_a b2, zu_a b1]
  refine q_strL Γ (by omega) hok ht hb (by omega) (by omega) 4097 (p + 1) L _ (by omega) (by omega) (by omega) hR2 (fun e he M1 hM1 => kE e he M1 (hM1.of fr.1)) (fun ws q hw M1 hM1 => ?_)
  obtain ⟨g1, g2, g3, g4, g5⟩ := hM1
  have z5 : zNode M t 2 p W (t + 5) W = 0 := by unfold zNode; rw [zu_a (by omega), zu_a (by omega), zu_a (by omega), zu_s]
  refine kO ws q hw M1 g1 ⟨?_, ?_, ?_, g3⟩ ?_ ?_ ?_ ?_
  · rw [g4 _ _ (by omega) (by omega) (by omega), nd _ (by omega) (by omega)]
    unfold zNode
    simp (disch := omega) only [zu_a, zu_s]
  · rw [g4 _ _ (by omega) (by omega) (by omega), zu_a (by omega), zu_s]
  · rw [g2, nd _ (by omega) (by omega), z5]
    omega
  · rw [g4 _ _ (by omega) (by omega) (by omega), nd _ (by omega) (by omega)]
    unfold zNode
    simp (disch := omega) only [zu_a, zu_s]
  · rw [g4 _ _ (by omega) (by omega) (by omega), nd _ (by omega) (by omega)]
    unfold zNode
    simp (disch := omega) only [zu_a, zu_s]
  · rw [g4 _ _ (by omega) (by omega) (by omega), nd _ (by omega) (by omega)]
    unfold zNode
    simp (disch := omega) only [zu_a, zu_s]
  · refine fr.tr (W2 := W) (L2 := L) ⟨fun b j hb9 => g4 b j (by omega) (by omega) (by omega), fun b j b1 b2 hj => g4 b j (by omega) (by omega) (by omega), fun j hj => g5 j hj⟩ (Int.le_refl _) (Int.le_refl _)
end RW
