/-! ===== the reference's Text: objects ===== -/
/-- the keys of an open object, one behind the other: their nodes, each with its value's behind it -/
def kCh (M : zM) (t : Int) (L : Nat) : List (Nat × List Int32) → Nat → Int → Prop
  | [], _, x => x = -1
  | (j, k) :: r, lo, x => x = j ∧ lo ≤ j ∧ (∃ Lk : Nat, Lk + k.length ≤ L ∧ rStr M t j Lk k) ∧ M (t + 7) j = (j : Int) + 1 ∧ kCh M t L r (j + 2) (M (t + 7) ((j : Int) + 1))
def kLast : List (Nat × List Int32) → Int
  | [] => -1
  | [(j, _)] => (j : Int) + 1
  | _ :: r => kLast r
def kAll (W : Nat) (ps : List (Nat × List Int32)) : Prop := ∀ z ∈ ps, z.1 + 1 < W
theorem kLast_lo {W : Nat} : ∀ {ps : List (Nat × List Int32)} {M : zM} {t : Int} {L lo : Nat} {x : Int}, kCh M t L ps lo x → ¬ ps = [] → (lo : Int) + 1 ≤ kLast ps := by
  intro ps
  induction ps with
  | nil => intro M t L lo x _ h; exact absurd rfl h
  | cons z r ih =>
    intro M t L lo x h _
    obtain ⟨j, k⟩ := z
    obtain ⟨-, h2, -, -, h5⟩ := h
    cases r with
    | nil => show (lo : Int) + 1 ≤ (j : Int) + 1; omega
    | cons z2 r2 =>
      have := ih h5 (by simp)
      show (lo : Int) + 1 ≤ kLast (z2 :: r2)
      omega
theorem kLast_app (ps : List (Nat × List Int32)) (j : Nat) (k : List Int32) : kLast (ps ++ [(j, k)]) = (j : Int) + 1 := by
  induction ps with
  | nil => rfl
  | cons z r ih =>
    cases r with
    | nil => rfl
    | cons z2 r2 => exact ih
theorem kLast_lt {W : Nat} {ps : List (Nat × List Int32)} (h : kAll W ps) (hn : ¬ ps = []) : 0 ≤ kLast ps ∧ kLast ps < W := by
  induction ps with
  | nil => exact absurd rfl hn
  | cons z r ih =>
    obtain ⟨j, k⟩ := z
    cases r with
    | nil =>
      have : j + 1 < W := h (j, k) List.mem_cons_self
      show 0 ≤ (j : Int) + 1 ∧ (j : Int) + 1 < W
      omega
    | cons z2 r2 => exact ih (fun z hz => h z (List.mem_cons_of_mem _ hz)) (by simp)
/-- one key more, at W -/
theorem kCh.snoc {M M1 : zM} {t : Int} {L L1 W : Nat} {k : List Int32} (hL : L ≤ L1) : ∀ {ps : List (Nat × List Int32)} {lo : Nat} {x x1 : Int}, kCh M t L ps lo x → kAll W ps → lo ≤ W →
    (∀ b j : Int, t + 2 ≤ b → b ≤ t + 7 → (lo : Int) ≤ j → j < W → ¬ (b = t + 7 ∧ j = kLast ps) → M1 b j = M b j) → (∀ j : Int, 0 ≤ j → j < L → M1 (t + 8) j = M (t + 8) j) → (∃ Lk : Nat, Lk + k.length ≤ L1 ∧ rStr M1 t W Lk k) → M1 (t + 7) W = (W : Int) + 1 → M1 (t + 7) ((W : Int) + 1) = -1 →
    (ps = [] → x1 = W) → (¬ ps = [] → x1 = x ∧ M1 (t + 7) (kLast ps) = W) → kCh M1 t L1 (ps ++ [(W, k)]) lo x1 := by
  intro ps
  induction ps with
  | nil =>
    intro lo x x1 _ _ hlo _ _ e3 e4 e5 e6 _
    exact ⟨e6 rfl, hlo, e3, e4, e5⟩
  | cons z r ih =>
    intro lo x x1 h ha hlo e1 e2 e3 e4 e5 _ e7
    obtain ⟨j, k2⟩ := z
    obtain ⟨h1, h2, ⟨Lk, h3, h4⟩, h5, h6⟩ := h
    have hj : j + 1 < W := ha (j, k2) List.mem_cons_self
    have e7' := e7 (by simp)
    have hjl : (j : Int) < kLast ((j, k2) :: r) := by
      cases r with
      | nil => show (j : Int) < (j : Int) + 1; omega
      | cons z2 r2 => have := kLast_lo (W := W) h6 (by simp); show (j : Int) < kLast (z2 :: r2); omega
    have n1 : ∀ b : Int, t + 2 ≤ b → b ≤ t + 7 → M1 b j = M b j := fun b b1 b2 => e1 b j b1 b2 (by omega) (by omega) (by omega)
    refine ⟨e7'.1.trans h1, h2, ⟨Lk, by omega, h4.mono (fun b b1 b2 => n1 b b1 (by omega)) (fun i i1 i2 => e2 i (by omega) (by omega))⟩, (n1 _ (by omega) (by omega)).trans h5, ?_⟩
    refine ih (x := M (t + 7) ((j : Int) + 1)) h6 (fun z hz => ha z (List.mem_cons_of_mem _ hz)) (by omega) (fun b i b1 b2 b3 b4 b5 => ?_) e2 e3 e4 e5 (fun hr => ?_) (fun hr => ?_)
    · refine e1 b i b1 b2 (by omega) b4 ?_
      cases r with
      | nil => intro hc; have : kLast [(j, k2)] = (j : Int) + 1 := rfl; omega
      | cons z2 r2 => exact b5
    · subst hr
      exact e7'.2
    · cases r with
      | nil => exact absurd rfl hr
      | cons z2 r2 =>
        refine ⟨?_, e7'.2⟩
        have := kLast_lo (W := W) h6 (by simp)
        exact e1 _ _ (by omega) (by omega) (by omega) (by omega) (by show ¬ (t + 7 = t + 7 ∧ (j : Int) + 1 = kLast (z2 :: r2)); omega)
theorem kCh.mono {M M1 : zM} {t : Int} {L L1 W : Nat} (hL : L ≤ L1) : ∀ {ps : List (Nat × List Int32)} {lo : Nat} {x : Int}, kCh M t L ps lo x → kAll W ps →
    (∀ b j : Int, t + 2 ≤ b → b ≤ t + 7 → (lo : Int) ≤ j → j < W → M1 b j = M b j) → (∀ j : Int, 0 ≤ j → j < L → M1 (t + 8) j = M (t + 8) j) → kCh M1 t L1 ps lo x := by
  intro ps
  induction ps with
  | nil => intro lo x h _ _ _; exact h
  | cons z r ih =>
    intro lo x h ha e1 e2
    obtain ⟨j, k2⟩ := z
    obtain ⟨h1, h2, ⟨Lk, h3, h4⟩, h5, h6⟩ := h
    have hj : j + 1 < W := ha (j, k2) List.mem_cons_self
    have n1 : ∀ b : Int, t + 2 ≤ b → b ≤ t + 7 → M1 b j = M b j := fun b b1 b2 => e1 b j b1 b2 (by omega) (by omega)
    refine ⟨h1, h2, ⟨Lk, by omega, h4.mono (fun b b1 b2 => n1 b b1 (by omega)) (fun i i1 i2 => e2 i (by omega) (by omega))⟩, (n1 _ (by omega) (by omega)).trans h5, ?_⟩
    rw [e1 (t + 7) ((j : Int) + 1) (by omega) (by omega) (by omega) (by omega)]
    exact ih h6 (fun z hz => ha z (List.mem_cons_of_mem _ hz)) (fun b i b1 b2 b3 b4 => e1 b i b1 b2 (by omega) b4) e2
section ROb
variable {l : Launch} {s0 : State} {a0 : Array Value} {G : va_G} {ca : Nat → ClassId} {d : Nat} {C : Nat × Nat} {S : zS} {t : Int} {M : zM} {Q : Int → zM → Prop} {X : zM → Prop} {bt : Int → Int} {N p dp W L : Nat}
/-- is the key there already -/
theorem q_keys (Γ : rt_Γ l s0 a0 G ca) (hd : 2 ≤ d) (hok : zok C) (ht : zTx S t) {w0 : rt_Wd} {n last : Int} {key Lk Lm : Nat} {k : List Int32} (hkey : key < 4200) (hst : rStr M t key Lk k) (hLk : Lk + k.length ≤ 4200) (hLm : Lm ≤ 4200) {fp : Int} (hfp : M (t + 3) key = fp) :
    ∀ (ps : List (Nat × List Int32)) (lo : Nat) (x : Int), kCh M t Lm ps lo x → kAll 4200 ps → (k ∈ ps.map (fun z => z.2) → ∀ M1 : zM, eY t M M1 1 fp → X M1) → (¬ k ∈ ps.map (fun z => z.2) → zt_X10_object_78 l s0 G ca d C S w0 t n last key (-1) M Q X) → zg_X10_object_78 l s0 G ca d C S w0 t n last key x M Q X := by
  intro ps
  induction ps with
  | nil =>
    intro lo x h _ _ kF
    have hx : x = -1 := h
    subst hx
    exact zs_X10_object_78 Γ (by omega) hok ht (kF (by simp))
  | cons z r ih =>
    intro lo x h ha kE kF
    obtain ⟨j, k2⟩ := z
    obtain ⟨h1, h2, ⟨Lk2, h3, h4⟩, h5, h6⟩ := h
    have hj : j + 1 < 4200 := ha (j, k2) List.mem_cons_self
    subst h1
    refine zs_X10_object_78 Γ (by omega) hok ht ?_
    unfold zt_X10_object_78
    rw [w32_id (by omega) (by omega)]
    refine ⟨fun c => by omega, fun _ => ?_⟩
    refine q_same Γ hok ht ht (by omega) (by omega) (by omega) (by omega) h4 hst (by omega) hLk (fun e => ?_) (fun e => ?_)
    · refine ⟨fun c => absurd c (by decide), fun _ => ?_⟩
      unfold zt_X10_object_101
      refine ⟨⟨by omega, by omega⟩, q_need0 Γ (by omega) hok ht (kE (by rw [← e]; simp) _ ?_)⟩
      rw [hfp]
      exact eY_zu zf8.rf
    · refine ⟨fun _ => ?_, fun c => absurd (by decide) c⟩
      unfold zt_X10_object_101
      refine ⟨⟨by omega, by omega⟩, q_need1 Γ (by omega) hok ht ?_⟩
      rw [h5]
      refine ⟨⟨by omega, by omega⟩, ⟨by omega, by omega⟩, ?_⟩
      refine ih (j + 2) (M (t + 7) ((j : Int) + 1)) h6 (fun z hz => ha z (List.mem_cons_of_mem _ hz)) (fun hm => kE (List.mem_cons_of_mem _ hm)) (fun hm => kF (fun hc => ?_))
      rcases List.mem_cons.mp hc with hc | hc
      · exact e hc.symm
      · exact hm hc
theorem q_objL (Γ : rt_Γ l s0 a0 G ca) (hd : 2 * (25 - dp) + 9 ≤ d) (hdp : dp < 24) (hok : zok C) (ht : zTx S t) (hb : rOk bt N) {w0 : rt_Wd} {n : Nat} (hn : n < 4200) : ∀ (m : Nat), (∀ i : Nat, i < m → rIV l s0 G ca C S t bt N i) → ∀ (ps : List (Nat × List Int32)) (p W L : Nat) (M : zM), p ≤ N → W ≤ 2 * p → L ≤ p → 2 * (N - p) + 2 ≤ m → RS M t bt N p (dp + 1) W L → n < W → kCh M t L ps (n + 1) (M (t + 6) n) → kAll W ps →
    (∀ e : Nat, jGo (rg bt N) m (some (true, ps.map (fun z => z.2))) dp p = .error e → ∀ M1 : zM, eY t M M1 1 e → X M1) →
    (∀ (ys : List JR) (c q : Nat), jGo (rg bt N) m (some (true, ps.map (fun z => z.2))) dp p = .ok (ys, c, q) → ∀ M1 : zM, RS M1 t bt N q (dp + 1) (W + rW ys) (L + rL ys) → rRep M1 t ys W L → lfr t n (kLast ps) W L 0 M M1 → Q n M1) →
    zg_X10_object_37 l s0 G ca d C S w0 t n (kLast ps) 1 M Q X := by
  have hN := hb.1
  have hT := rg_T hb
  intro m
  induction m with
  | zero => intro _ ps p W L M h1 h2 h3 h4; omega
  | succ m ih =>
    intro hIV ps p W L M hp hW hL hm hR hnW hch hall kE kO
    have hla : (ps = [] ∧ kLast ps = -1) ∨ (¬ ps = [] ∧ (n : Int) + 1 < kLast ps ∧ kLast ps < W) := by
      by_cases c : ps = []
      · exact Or.inl ⟨c, by rw [c]; rfl⟩
      · have h1 := kLast_lo (W := W) hch c
        have h2 := kLast_lt hall c
        exact Or.inr ⟨c, by omega, by omega⟩
    have E0 : ∀ kr, jKey (rg bt N) true (ps.map (fun z => z.2)) p = kr → jGo (rg bt N) (m + 1) (some (true, ps.map (fun z => z.2))) dp p = (match kr with
      | .error e => .error e
      | .ok (kw, p1) =>
        match jGo (rg bt N) m none (dp + 1) p1 with
        | .error e => .error e
        | .ok (xs, _, p2) =>
          if rg bt N (jSk (rg bt N) 4096 p2) = 44 then
            match jGo (rg bt N) m (some (true, ps.map (fun z => z.2) ++ kw.toList)) dp (jSk (rg bt N) 4096 (jSk (rg bt N) 4096 p2 + 1)) with
            | .error e => .error e
            | .ok (ys, c, q) => .ok (jHd kw true xs ++ ys, c + 1, q)
          else if rg bt N (jSk (rg bt N) 4096 p2) = 125 then .ok (jHd kw false xs, 1, jSk (rg bt N) 4096 p2 + 1)
          else .error (jSk (rg bt N) 4096 p2)) := by
      rintro _ rfl
      rfl
    refine zs_X10_object_37 Γ (by omega) hok ht ?_
    unfold zt_X10_object_37
    refine ⟨fun c => absurd c (by decide), fun _ => ?_⟩
    refine q_look Γ hok ht hb hR hp ?_
    rw [rb_w hb]
    have g34 : rg bt N p = 34 ↔ rb bt N p = 34 := g_eq hb rfl (by decide)
    refine ⟨fun c34 => ?_, fun c34 => ?_⟩
    rotate_left
    · unfold zt_X10_object_56
      refine q_need0 Γ (by omega) hok ht (kE p ?_ _ ?_)
      · rw [E0 (.error p) (by unfold jKey; rw [if_pos rfl, if_neg (fun h => c34 (g34.mp h))])]
      · rw [hR.2.1]; exact eY_zu zf8.rf
    unfold zt_X10_object_56
    refine q_need1 Γ (by omega) hok ht ?_
    have h34 := g34.mpr c34
    have hlt0 : p < N := hT.lt (by rw [h34]; decide)
    refine q_string Γ (by omega) hok ht hb hlt0 (by omega) hL hR (fun e he M1 hM1 => kE e ?_ M1 hM1) (fun ws q hw M65 hR65 hst h3 h6 h7 hfr65 => ?_)
    · rw [E0 (.error e) (by unfold jKey; rw [if_pos rfl, if_pos h34, he])]
    have hso := jStr_ok hT hw
    refine ⟨⟨by omega, by omega⟩, ?_⟩
    have hx65 : M65 (t + 6) n = M (t + 6) n := hfr65.2.1 _ _ (by omega) (by omega) (by omega)
    have hch65 : kCh M65 t L ps (n + 1) (M65 (t + 6) n) := by
      rw [hx65]
      exact hch.mono (Nat.le_refl _) hall (fun b j b1 b2 b3 b4 => hfr65.2.1 b j b1 b2 (by omega)) (fun j _ j2 => hfr65.2.2 j j2)
    refine q_keys Γ (by omega) hok ht (by omega) hst (by omega) (by omega) h3 ps (n + 1) _ hch65 (fun z hz => by have := hall z hz; omega) (fun hmem M1 hM1 => kE p ?_ M1 (hM1.of hfr65.1)) (fun hmem => ?_)
    · rw [E0 (.error p) (by unfold jKey; rw [if_pos rfl, if_pos h34, hw]; exact if_pos hmem)]
    unfold zt_X10_object_78
    refine ⟨fun _ => ?_, fun c => absurd (by decide) c⟩
    have hqN : q ≤ N := hso.2
    have hs1 := jSk_le hT 4096 q hqN
    have hs2 := jSk_ge (g := rg bt N) 4096 q
    refine q_blanks Γ (by omega) hok ht hb hR65 hqN ?_
    have g58 : rg bt N (jSk (rg bt N) 4096 q) = 58 ↔ rb bt N (jSk (rg bt N) 4096 q) = 58 := g_eq hb rfl (by decide)
    refine q_take Γ (by omega) hok ht hb (hR65.pos _) hs1 (by decide) (fun c58 => ?_) (fun c58 => ?_)
    rotate_left
    · refine kE (jSk (rg bt N) 4096 q) ?_ _ (eY_zu (hfr65.1.zu (by omega) (by omega)))
      rw [E0 (.error (jSk (rg bt N) 4096 q)) (by unfold jKey; rw [if_pos rfl, if_pos h34, hw]; exact (if_neg hmem).trans (if_neg (fun h => c58 (g58.mp h))))]
    have h58 := g58.mpr c58
    have hlt1 : jSk (rg bt N) 4096 q < N := hT.lt (by rw [h58]; decide)
    rw [zu_zu]
    refine q_blanks Γ (by omega) hok ht hb (hR65.pos _) (by omega) ?_
    rw [zu_zu]
    have hs3 := jSk_le hT 4096 (jSk (rg bt N) 4096 q + 1) (by omega)
    have hs4 := jSk_ge (g := rg bt N) 4096 (jSk (rg bt N) 4096 q + 1)
    obtain ⟨p1, hp1⟩ : ∃ p1 : Nat, p1 = jSk (rg bt N) 4096 (jSk (rg bt N) 4096 q + 1) := ⟨_, rfl⟩
    rw [← hp1] at hs3 hs4 ⊢
    have hKey : jKey (rg bt N) true (ps.map (fun z => z.2)) p = .ok (some ws, p1) := by
      unfold jKey
      rw [if_pos rfl, if_pos h34, hw, hp1]
      exact (if_neg hmem).trans (if_pos h58)
    have hR140 := hR65.pos p1
    have E1 := E0 _ hKey
    dsimp only at E1
    refine hIV m (by omega) (d - 1) (dp + 1) p1 (W + 1) (L + ws.length) _ _ X (by omega) (by omega) hs3 (by omega) (by omega) (by omega) hR140 (fun e he M1 hM1 => kE e (by rw [E1, he]) M1 (hM1.of (hfr65.1.zu (by omega) (by omega)))) (fun xs c q2 hv M42 hR42 hrep hfr => ?_)
    have hbo := jGo_ok hT _ _ _ _ _ _ _ hs3 hv
    obtain ⟨⟨x, rest, hx, hsz, hxk, hxm⟩, hc1⟩ := hbo.2.2.2.2.2 rfl
    have hq2 := hbo.2.2.1
    have hrl := rW_le xs
    have hs5 := jSk_le hT 4096 q2 hq2
    have hs6 := jSk_ge (g := rg bt N) 4096 q2
    have e1W : ((W + 1 : Nat) : Int) = (W : Int) + 1 := by omega
    -- between the key and the value's end: what lies below W, and node W itself
    have low : ∀ b j : Int, t + 2 ≤ b → b ≤ t + 7 → (0 ≤ j ∧ j < W) → M42 b j = M b j := fun b j b1 b2 b3 => by
      rw [hfr.2.1 b j b1 b2 (by omega), zu_a (by omega)]
      exact hfr65.2.1 b j b1 b2 b3
    have lowL : ∀ j : Int, j < L → M42 (t + 8) j = M (t + 8) j := fun j hj => by
      rw [hfr.2.2 j (by omega), zu_a (by omega)]
      exact hfr65.2.2 j hj
    have atW : ∀ b : Int, t + 2 ≤ b → b ≤ t + 7 → M42 b W = M65 b W := fun b b1 b2 => by
      rw [hfr.2.1 b W b1 b2 (by omega), zu_a (by omega)]
    have letW : ∀ j : Int, j < ((L + ws.length : Nat) : Int) → M42 (t + 8) j = M65 (t + 8) j := fun j hj => by
      rw [hfr.2.2 j (by omega), zu_a (by omega)]
    have hz42 : zf8 t M M42 := (hfr65.1.zu (by omega) (by omega)).tr hfr.1
    have hlast42 : M42 (t + 7) ((W : Int) + 1) = -1 := by
      have h9 := hrep
      rw [hx] at h9
      have := rRep_last hxk hxm h9
      rw [e1W] at this
      exact this
    have wl : w32 (kLast ps) = kLast ps := w32_id (by omega) (by omega)
    rw [wl]
    have after : ∀ M' : zM, RS M' t bt N q2 (dp + 1) (W + 1 + rW xs) (L + ws.length + rL xs) → (∀ b j : Int, ¬ (b = t + 7 ∧ j = kLast ps) → ¬ (b = t + 6 ∧ j = n) → M' b j = M42 b j) → (kLast ps < 0 → M' (t + 6) n = W) → (0 ≤ kLast ps → M' (t + 6) n = M42 (t + 6) n ∧ M' (t + 7) (kLast ps) = W) → zf8 t M42 M' → zt_X10_object_172 l s0 G ca d C S w0 t n W ((W + 1 : Nat) : Int) M' Q X := by
      intro M' hR' P2 P3 P4 Pf
      unfold zt_X10_object_172
      refine ⟨⟨by omega, by omega⟩, ?_⟩
      have hR5 : RS (zu M' (t + 7) W ((W + 1 : Nat) : Int)) t bt N q2 (dp + 1) (W + 1 + rW xs) (L + ws.length + rL xs) := hR'.of (fun k => zu_a (by omega)) (fun j => zu_a (by omega))
      refine q_blanks Γ (by omega) hok ht hb hR5 hq2 ?_
      have hR6 := hR5.pos (jSk (rg bt N) 4096 q2)
      refine q_look Γ hok ht hb hR6 hs5 ?_
      rw [rb_w hb]
      have g44 : rg bt N (jSk (rg bt N) 4096 q2) = 44 ↔ rb bt N (jSk (rg bt N) 4096 q2) = 44 := g_eq hb rfl (by decide)
      have g125 : rg bt N (jSk (rg bt N) 4096 q2) = 125 ↔ rb bt N (jSk (rg bt N) 4096 q2) = 125 := g_eq hb rfl (by decide)
      have hl9 : kLast ps < (W : Int) := by rcases hla with h9 | h9 <;> omega
      have same6 : ∀ (x9 : Int) (b j : Int), ¬ b = t → ¬ (b = t + 7 ∧ j = kLast ps) → ¬ (b = t + 6 ∧ j = n) → ¬ (b = t + 7 ∧ j = W) → (zu (zu M' (t + 7) W ((W + 1 : Nat) : Int)) t 2 x9) b j = M42 b j := fun x9 b j b0 b1 b2 b3 => by
        rw [zu_a b0]
        by_cases c9 : b = t + 7
        · rw [zu_k (fun e => b3 ⟨c9, e⟩)]; exact P2 b j b1 b2
        · rw [zu_a c9]; exact P2 b j b1 b2
      have seven : ∀ x9 : Int, (zu (zu M' (t + 7) W ((W + 1 : Nat) : Int)) t 2 x9) (t + 7) W = (W : Int) + 1 := fun x9 => by rw [zu_a (by omega), zu_s, e1W]
      have six : ∀ x9 : Int, (zu (zu M' (t + 7) W ((W + 1 : Nat) : Int)) t 2 x9) (t + 6) n = M' (t + 6) n := fun x9 => by rw [zu_a (by omega), zu_a (by omega)]
      have lst : ∀ x9 : Int, 0 ≤ kLast ps → (zu (zu M' (t + 7) W ((W + 1 : Nat) : Int)) t 2 x9) (t + 7) (kLast ps) = W := fun x9 h => by rw [zu_a (by omega), zu_k (by omega), (P4 h).2]
      have hfr6 : zf8 t M M' := hz42.tr Pf
      have strW : ∀ x9 : Int, rStr (zu (zu M' (t + 7) W ((W + 1 : Nat) : Int)) t 2 x9) t W L ws := fun x9 => hst.mono (fun b b1 b2 => (same6 x9 b W (by omega) (by omega) (by omega) (by omega)).trans (atW b b1 (by omega))) (fun j j1 j2 => (same6 x9 (t + 8) j (by omega) (by omega) (by omega) (by omega)).trans (letW j j2))
      refine ⟨fun c => ?_, fun c => ?_⟩
      · unfold zt_X10_object_202
        refine ⟨fun c9 => absurd c9 (by decide), fun _ => ?_⟩
        have h44 := g44.mpr c
        have hlt : jSk (rg bt N) 4096 q2 < N := hT.lt (by rw [h44]; decide)
        rw [hR6.2.1, ← show ((jSk (rg bt N) 4096 q2 + 1 : Nat) : Int) = (jSk (rg bt N) 4096 q2 : Int) + 1 from by omega, zu_zu]
        have hs7 := jSk_le hT 4096 (jSk (rg bt N) 4096 q2 + 1) (by omega)
        have hs8 := jSk_ge (g := rg bt N) 4096 (jSk (rg bt N) 4096 q2 + 1)
        refine q_blanks Γ (by omega) hok ht hb (hR5.pos (jSk (rg bt N) 4096 q2 + 1)) (by omega) ?_
        rw [zu_zu]
        have hks : (ps ++ [(W, ws)]).map (fun z => z.2) = ps.map (fun z => z.2) ++ (some ws).toList := by rw [List.map_append]; rfl
        have hch4 : kCh (zu (zu M' (t + 7) W ((W + 1 : Nat) : Int)) t 2 ((jSk (rg bt N) 4096 (jSk (rg bt N) 4096 q2 + 1) : Nat) : Int)) t (L + ws.length + rL xs) (ps ++ [(W, ws)]) (n + 1) ((zu (zu M' (t + 7) W ((W + 1 : Nat) : Int)) t 2 ((jSk (rg bt N) 4096 (jSk (rg bt N) 4096 q2 + 1) : Nat) : Int)) (t + 6) n) := by
          refine hch.snoc (by omega) hall (by omega) (fun b j b1 b2 b3 b4 b5 => ?_) (fun j j1 j2 => ?_) ⟨L, by omega, strW _⟩ (seven _) ?_ (fun h9 => ?_) (fun h9 => ⟨?_, ?_⟩)
          · rw [same6 _ b j (by omega) b5 (by omega) (by omega)]
            exact low b j b1 b2 (by omega)
          · rw [same6 _ (t + 8) j (by omega) (by omega) (by omega) (by omega)]
            exact lowL j j2
          · rw [same6 _ _ _ (by omega) (by omega) (by omega) (by omega)]
            exact hlast42
          · rw [six]
            exact P3 (by rw [h9]; decide)
          · rw [six, (P4 (kLast_lt hall h9).1).1]
            exact low _ _ (by omega) (by omega) (by omega)
          · exact lst _ (kLast_lt hall h9).1
        have hall4 : kAll (W + 1 + rW xs) (ps ++ [(W, ws)]) := fun z hz => by
          have hr1 : 1 ≤ rW xs := by rw [hx]; show 1 ≤ jk x + 1 + rW rest; omega
          rcases List.mem_append.mp hz with h9 | h9
          · have := hall z h9; omega
          · rw [List.mem_singleton.mp h9]; show W + 1 < _; omega
        have hih := ih (fun i hi => hIV i (by omega)) (ps ++ [(W, ws)]) (jSk (rg bt N) 4096 (jSk (rg bt N) 4096 q2 + 1)) (W + 1 + rW xs) (L + ws.length + rL xs) _ hs7 (by omega) (by omega) (by omega) (hR5.pos (jSk (rg bt N) 4096 (jSk (rg bt N) 4096 q2 + 1))) (by omega) hch4 hall4
        rw [kLast_app, hks] at hih
        rw [e1W]
        refine hih (fun e he M1 hM1 => kE e (by rw [E1, hv]; dsimp only; rw [if_pos h44, he]) M1 (hM1.of ((hfr6.zu (by omega) (by omega)).zu (by omega) (by omega)))) (fun ys c2 q9 hy M1 hR1 hrep1 hl1 => ?_)
        have hw9 := rW_hd (rest := rest) (kw := some ws) (more := true) hxk
        rw [← hx] at hw9
        have hw1 : rW (jHd (some ws) true xs) = rW xs + 1 := hw9.1
        have hw2 : rL (jHd (some ws) true xs) = rL xs + ws.length := hw9.2
        obtain ⟨l1, l2, l3, l4, l5, l6⟩ := hl1
        have l6' := l6 (by omega)
        refine kO (jHd (some ws) true xs ++ ys) (c2 + 1) q9 (by rw [E1, hv]; dsimp only; rw [if_pos h44, hy]) M1 ?_ ?_ ?_
        · rw [rW_app, rL_app, hw1, hw2, show W + (rW xs + 1 + rW ys) = W + 1 + rW xs + rW ys from by omega, show L + (rL xs + ws.length + rL ys) = L + ws.length + rL xs + rL ys from by omega]
          exact hR1
        · refine rRep.app ?_ ?_
          · have hxl := hx
            rw [hx] at hrep ⊢
            refine rRep.hd (W1 := W + 1) (L1 := L + ws.length) hxk (by rw [hsz, hx]) rfl rfl hrep (fun b j b1 b2 b3 b4 b5 => ?_) (fun j j1 j2 => ?_) ?_ (fun k hk9 => ?_)
            · rw [← hx] at b4
              rw [l2 b j b1 b2 (by omega) (by omega) (by omega) (by omega)]
              exact same6 _ b j (by omega) (by omega) (by omega) (by omega)
            · rw [← hx] at j2
              rw [l3 j (by omega)]
              exact same6 _ (t + 8) j (by omega) (by omega) (by omega) (by omega)
            · rw [if_pos rfl, ← hx, e1W]
              exact l6'.2
            · cases hk9
              refine ⟨(strW _).mono (fun b b1 b2 => l2 b W b1 (by omega) (by omega) (by omega) (by omega) (by omega)) (fun j j1 j2 => l3 j (by omega)), ?_⟩
              rw [l2 _ _ (by omega) (by omega) (by omega) (by omega) (by omega) (by omega)]
              exact seven _
          · rw [hw1, hw2, show W + (rW xs + 1) = W + 1 + rW xs from by omega, show L + (rL xs + ws.length) = L + ws.length + rL xs from by omega]
            exact hrep1
        · refine ⟨((hfr6.zu (by omega) (by omega)).zu (by omega) (by omega)).tr l1, fun b j b1 b2 b3 b4 b5 b6 => ?_, fun j hj => ?_, ?_, fun h => ?_, fun h => ⟨?_, ?_⟩⟩
          · rw [l2 b j b1 b2 (by omega) b4 b5 (by omega), same6 _ b j (by omega) b6 b5 (by omega)]
            exact low b j b1 b2 b3
          · rw [l3 j (by omega), same6 _ (t + 8) j (by omega) (by omega) (by omega) (by omega)]
            exact lowL j hj
          · rw [l4, same6 _ _ _ (by omega) (by omega) (by omega) (by omega), low _ _ (by omega) (by omega) (by omega)]
          · rw [l6'.1, six]
            exact P3 h
          · rw [l6'.1, six, (P4 h).1]
            exact low _ _ (by omega) (by omega) (by omega)
          · rw [l2 _ _ (by omega) (by omega) (by omega) (by omega) (by omega) (by omega)]
            exact lst _ h
      · unfold zt_X10_object_202
        refine ⟨fun _ => ?_, fun c9 => absurd (by decide) c9⟩
        have n44 : ¬ rg bt N (jSk (rg bt N) 4096 q2) = 44 := fun h => c (g44.mp h)
        refine zs_X10_object_37 Γ (by omega) hok ht ?_
        unfold zt_X10_object_37
        refine ⟨fun _ => ?_, fun c9 => absurd (by decide) c9⟩
        refine q_take Γ (by omega) hok ht hb hR6 hs5 (by decide) (fun c2 => ?_) (fun c2 => ?_)
        · rw [zu_zu]
          have hw9 := rW_hd (rest := rest) (kw := some ws) (more := false) hxk
          rw [← hx] at hw9
          have hw1 : rW (jHd (some ws) false xs) = rW xs + 1 := hw9.1
          have hw2 : rL (jHd (some ws) false xs) = rL xs + ws.length := hw9.2
          refine kO (jHd (some ws) false xs) 1 (jSk (rg bt N) 4096 q2 + 1) (by rw [E1, hv]; dsimp only; rw [if_neg n44, if_pos (g125.mpr c2)]) _ ?_ ?_ ?_
          · rw [hw1, hw2, show W + (rW xs + 1) = W + 1 + rW xs from by omega, show L + (rL xs + ws.length) = L + ws.length + rL xs from by omega]
            exact hR5.pos _
          · rw [hx] at hrep ⊢
            refine rRep.hd (W1 := W + 1) (L1 := L + ws.length) hxk (by rw [hsz, hx]) rfl rfl hrep (fun b j b1 b2 b3 b4 b5 => ?_) (fun j j1 j2 => ?_) ?_ (fun k hk9 => ?_)
            · exact same6 _ b j (by omega) (by omega) (by omega) (by omega)
            · exact same6 _ (t + 8) j (by omega) (by omega) (by omega) (by omega)
            · rw [if_neg (by decide)]
              refine (same6 _ _ _ (by omega) (by omega) (by omega) (by omega)).trans ?_
              rw [e1W]
              exact hlast42
            · cases hk9
              exact ⟨strW _, seven _⟩
          · refine ⟨(hfr6.zu (by omega) (by omega)).zu (by omega) (by omega), fun b j b1 b2 b3 b4 b5 b6 => ?_, fun j hj => ?_, ?_, fun h => ?_, fun h => ⟨?_, ?_⟩⟩
            · rw [same6 _ b j (by omega) b6 b5 (by omega)]
              exact low b j b1 b2 b3
            · rw [same6 _ (t + 8) j (by omega) (by omega) (by omega) (by omega)]
              exact lowL j hj
            · rw [same6 _ _ _ (by omega) (by omega) (by omega) (by omega), low _ _ (by omega) (by omega) (by omega)]
              omega
            · rw [six]; exact P3 h
            · rw [six, (P4 h).1]
              exact low _ _ (by omega) (by omega) (by omega)
            · exact lst _ h
        · refine kE (jSk (rg bt N) 4096 q2) (by rw [E1, hv]; dsimp only; rw [if_neg n44, if_neg (fun h => c2 (g125.mp h))]) _ (eY_zu ?_)
          exact (hfr6.zu (by omega) (by omega)).zu (by omega) (by omega)
    refine ⟨fun c => ⟨⟨by omega, by omega⟩, ?_⟩, fun c => ⟨⟨by omega, by omega⟩, ?_⟩⟩
    · refine after _ (hR42.of (fun k => zu_a (by omega)) (fun j => zu_a (by omega))) (fun b j b1 _ => ?_) (fun h => by omega) (fun _ => ⟨zu_a (by omega), zu_s _ _ _ _⟩) (zf8.rf.zu (by omega) (by omega))
      by_cases c9 : b = t + 7
      · exact zu_k (fun e => b1 ⟨c9, e⟩)
      · exact zu_a c9
    · refine after _ (hR42.of (fun k => zu_a (by omega)) (fun j => zu_a (by omega))) (fun b j _ b2 => ?_) (fun _ => zu_s _ _ _ _) (fun h => by omega) (zf8.rf.zu (by omega) (by omega))
      by_cases c9 : b = t + 6
      · exact zu_k (fun e => b2 ⟨c9, e⟩)
      · exact zu_a c9
end ROb
