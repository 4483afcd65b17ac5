/-! ===== the reference's Text: lists ===== -/
/-- value() keeps its promise at the fuel m -/
def rIV (l : Launch) (s0 : State) (G : va_G) (ca : Nat → ClassId) (C : Nat × Nat) (S : zS) (t : Int) (bt : Int → Int) (N m : Nat) : Prop :=
  ∀ (d dp p W L : Nat) (M : zM) (Q : Int → zM → Prop) (X : zM → Prop), 2 * (25 - dp) + 10 ≤ d → dp ≤ 24 → p ≤ N → W ≤ 2 * p → L ≤ p → 2 * (N - p) + 1 ≤ m → RS M t bt N p dp W L →
    (∀ e : Nat, jGo (rg bt N) m none dp p = .error e → ∀ M1 : zM, eY t M M1 1 e → X M1) →
    (∀ (xs : List JR) (c q : Nat), jGo (rg bt N) m none dp p = .ok (xs, c, q) → ∀ M1 : zM, RS M1 t bt N q dp (W + rW xs) (L + rL xs) → rRep M1 t xs W L → pfr t W L M M1 → Q W M1) →
    zm_X10_value l s0 G ca d C S t M Q X
/-- behind the parts of node n, c of them, from W on, linked to the last one ahead -/
def lfr (t n last : Int) (W L c : Nat) (M M1 : zM) : Prop := zf8 t M M1 ∧ (∀ b j : Int, t + 2 ≤ b → b ≤ t + 7 → (0 ≤ j ∧ j < W) → ¬ (b = t + 5 ∧ j = n) → ¬ (b = t + 6 ∧ j = n) → ¬ (b = t + 7 ∧ j = last) → M1 b j = M b j) ∧ (∀ j : Int, j < L → M1 (t + 8) j = M (t + 8) j) ∧
  M1 (t + 5) n = M (t + 5) n + c ∧ (last < 0 → M1 (t + 6) n = W) ∧ (0 ≤ last → M1 (t + 6) n = M (t + 6) n ∧ M1 (t + 7) last = W)
theorem rRep_last {M : zM} {t : Int} {x : JR} {rest : List JR} {W L : Nat} (hk : x.kw = none) (hm : x.more = false) (h : rRep M t (x :: rest) W L) : M (t + 7) W = -1 := by
  obtain ⟨-, h2, -⟩ := h
  have z1 : jk x = 0 := by unfold jk; rw [hk]; rfl
  have := h2.2.2.2.2.2.2
  rw [z1, hm] at this
  exact this
section RLs
variable {l : Launch} {s0 : State} {a0 : Array Value} {G : va_G} {ca : Nat → ClassId} {d : Nat} {C : Nat × Nat} {S : zS} {t : Int} {M : zM} {Q : Int → zM → Prop} {X : zM → Prop} {bt : Int → Int} {N p dp W L : Nat}
theorem RS.of {M1 : zM} (h : RS M t bt N p dp W L) (e : ∀ k : Int, M1 t k = M t k) (e1 : ∀ j : Int, M1 (t + 1) j = M (t + 1) j) : RS M1 t bt N p dp W L := by
  obtain ⟨h1, h2, h3, h4, h5, h6⟩ := h
  exact ⟨(e _).trans h1, (e _).trans h2, (e _).trans h3, (e _).trans h4, (e _).trans h5, fun j => (e1 j).trans (h6 j)⟩
theorem jGo_l {g : Nat → Int32} {m dp p : Nat} {ks : List (List Int32)} : jGo g (m + 1) (some (false, ks)) dp p = match jGo g m none (dp + 1) p with
      | .error e => .error e
      | .ok (xs, _, p2) =>
        if g (jSk g 4096 p2) = 44 then
          match jGo g m (some (false, ks)) dp (jSk g 4096 (jSk g 4096 p2 + 1)) with
          | .error e => .error e
          | .ok (ys, c, q) => .ok (jHd none true xs ++ ys, c + 1, q)
        else if g (jSk g 4096 p2) = 93 then .ok (jHd none false xs, 1, jSk g 4096 p2 + 1)
        else .error (jSk g 4096 p2) := by
  have e : ks ++ (none : Option (List Int32)).toList = ks := List.append_nil ks
  show (match jGo g m none (dp + 1) p with | .error e => _ | .ok (xs, _, p2) => _) = _
  rw [e]
  rfl
theorem q_listL (Γ : rt_Γ l s0 a0 G ca) (hd : 2 * (25 - dp) + 9 ≤ d) (hdp : dp < 24) (hok : zok C) (ht : zTx S t) (hb : rOk bt N) {w0 : rt_Wd} {n : Nat} (hn : n < 4200) {ks : List (List Int32)} : ∀ (m : Nat), (∀ i : Nat, i < m → rIV l s0 G ca C S t bt N i) → ∀ (p W L : Nat) (last : Int) (M : zM), p ≤ N → W ≤ 2 * p → L ≤ p → 2 * (N - p) + 2 ≤ m → RS M t bt N p (dp + 1) W L → n < W → (last = -1 ∨ (n < last ∧ last < W)) →
    (∀ e : Nat, jGo (rg bt N) m (some (false, ks)) dp p = .error e → ∀ M1 : zM, eY t M M1 1 e → X M1) →
    (∀ (ys : List JR) (c q : Nat), jGo (rg bt N) m (some (false, ks)) dp p = .ok (ys, c, q) → ∀ M1 : zM, RS M1 t bt N q (dp + 1) (W + rW ys) (L + rL ys) → rRep M1 t ys W L → lfr t n last W L c M M1 → Q n M1) →
    zg_X10_list_37 l s0 G ca d C S w0 t n last 1 M Q X := by
  have hN := hb.1
  have hT := rg_T hb
  intro m
  induction m with
  | zero => intro _ p W L last M h1 h2 h3 h4; omega
  | succ m ih =>
    intro hIV p W L last M hp hW hL hm hR hnW hla kE kO
    refine zs_X10_list_37 Γ (by omega) hok ht ?_
    unfold zt_X10_list_37
    refine ⟨fun c => absurd c (by decide), fun _ => ?_⟩
    refine hIV m (by omega) (d - 1) (dp + 1) p W L M _ X (by omega) (by omega) hp hW hL (by omega) hR (fun e he M1 hM1 => kE e (by rw [jGo_l, he]) M1 hM1) (fun xs c q2 hv M42 hR42 hrep hfr => ?_)
    have hbo := jGo_ok hT _ _ _ _ _ _ _ hp hv
    obtain ⟨⟨x, rest, hx, hsz, hxk, hxm⟩, hc1⟩ := hbo.2.2.2.2.2 rfl
    have hq2 := hbo.2.2.1
    have hrl := rW_le xs
    have hs1 := jSk_le hT 4096 q2 hq2
    have hs2 := jSk_ge (g := rg bt N) 4096 q2
    rw [w32_id (by omega) (by omega)]
    have after : ∀ M' : zM, RS M' t bt N q2 (dp + 1) (W + rW xs) (L + rL xs) → (∀ b j : Int, ¬ (b = t + 7 ∧ j = last) → ¬ (b = t + 6 ∧ j = n) → M' b j = M42 b j) → (last < 0 → M' (t + 6) n = W) → (0 ≤ last → M' (t + 6) n = M42 (t + 6) n ∧ M' (t + 7) last = W) → zf8 t M42 M' → zt_X10_list_70 l s0 G ca d C S w0 t n W M' Q X := by
      intro M' hR' P2 P3 P4 Pf
      unfold zt_X10_list_70
      refine ⟨⟨by omega, by omega⟩, ?_⟩
      have hz : M' (t + 5) n = M (t + 5) n := (P2 _ _ (by omega) (by omega)).trans (hfr.2.1 _ _ (by omega) (by omega) (by omega))
      have hR5 : RS (zu M' (t + 5) n (M' (t + 5) n + 1)) t bt N q2 (dp + 1) (W + rW xs) (L + rL xs) := hR'.of (fun k => zu_a (by omega)) (fun j => zu_a (by omega))
      refine q_blanks Γ (by omega) hok ht hb hR5 hq2 ?_
      have hR6 := hR5.pos (jSk (rg bt N) 4096 q2)
      refine q_look Γ hok ht hb hR6 hs1 ?_
      rw [rb_w hb]
      have g44 : rg bt N (jSk (rg bt N) 4096 q2) = 44 ↔ rb bt N (jSk (rg bt N) 4096 q2) = 44 := g_eq hb rfl (by decide)
      have g93 : rg bt N (jSk (rg bt N) 4096 q2) = 93 ↔ rb bt N (jSk (rg bt N) 4096 q2) = 93 := g_eq hb rfl (by decide)
      -- what all memories behind have: nothing but n's, last's and the place
      have same6 : ∀ (x9 : Int) (b j : Int), ¬ b = t → ¬ (b = t + 7 ∧ j = last) → ¬ (b = t + 6 ∧ j = n) → ¬ (b = t + 5 ∧ j = n) → (zu (zu M' (t + 5) n (M' (t + 5) n + 1)) t 2 x9) b j = M42 b j := fun x9 b j b0 b1 b2 b3 => by
        rw [zu_a b0]
        by_cases c9 : b = t + 5
        · rw [zu_k (fun e => b3 ⟨c9, e⟩)]; exact P2 b j b1 b2
        · rw [zu_a c9]; exact P2 b j b1 b2
      have hfr6 : zf8 t M M' := hfr.1.tr Pf
      refine ⟨fun c => ?_, fun c => ?_⟩
      · unfold zt_X10_list_101
        refine ⟨fun c9 => absurd c9 (by decide), fun _ => ?_⟩
        have h44 := g44.mpr c
        have hlt : jSk (rg bt N) 4096 q2 < N := hT.lt (by rw [h44]; decide)
        rw [hR6.2.1, ← show ((jSk (rg bt N) 4096 q2 + 1 : Nat) : Int) = (jSk (rg bt N) 4096 q2 : Int) + 1 from by omega, zu_zu]
        have hs3 := jSk_le hT 4096 (jSk (rg bt N) 4096 q2 + 1) (by omega)
        have hs4 := jSk_ge (g := rg bt N) 4096 (jSk (rg bt N) 4096 q2 + 1)
        refine q_blanks Γ (by omega) hok ht hb (hR5.pos (jSk (rg bt N) 4096 q2 + 1)) (by omega) ?_
        rw [zu_zu]
        refine ih (fun i hi => hIV i (by omega)) (jSk (rg bt N) 4096 (jSk (rg bt N) 4096 q2 + 1)) (W + rW xs) (L + rL xs) W _ hs3 (by omega) (by omega) (by omega) (hR5.pos _) (by omega) (Or.inr ⟨by omega, by rw [hx]; show (W : Int) < ((W + (jk x + 1 + rW rest) : Nat) : Int); omega⟩) (fun e he M1 hM1 => kE e (by rw [jGo_l, hv]; dsimp only; rw [if_pos h44, he]) M1 (hM1.of ((hfr6.zu (by omega) (by omega)).zu (by omega) (by omega)))) (fun ys c2 q hy M1 hR1 hrep1 hl1 => ?_)
        have hw := rW_hd (rest := rest) (kw := none) (more := true) hxk
        rw [← hx] at hw
        have hw1 : rW (jHd none true xs) = rW xs := hw.1
        have hw2 : rL (jHd none true xs) = rL xs := hw.2
        obtain ⟨l1, l2, l3, l4, l5, l6⟩ := hl1
        have l6' := l6 (by omega)
        refine kO (jHd none true xs ++ ys) (c2 + 1) q (by rw [jGo_l, hv]; dsimp only; rw [if_pos h44, hy]) M1 ?_ ?_ ?_
        · rw [rW_app, rL_app, hw1, hw2, ← Nat.add_assoc, ← Nat.add_assoc]
          exact hR1
        · refine rRep.app ?_ ?_
          · rw [hx] at hrep ⊢
            refine rRep.hd hxk (by rw [hsz, hx]) rfl rfl hrep (fun b j b1 b2 b3 b4 b5 => ?_) (fun j j1 j2 => ?_) ?_ (fun k hk9 => nomatch hk9)
            · rw [← hx] at b4
              have b5' : ¬ (b = t + 7 ∧ j = (W : Int)) := b5
              have b3' : (W : Int) ≤ j := b3
              have b4' : j < ((W + rW xs : Nat) : Int) := b4
              rw [l2 b j b1 b2 (by omega) (by omega) (by omega) b5']
              exact same6 _ b j (by omega) (by omega) (by omega) (by omega)
            · rw [← hx] at j2
              have j2' : j < ((L + rL xs : Nat) : Int) := j2
              rw [l3 j (by omega)]
              exact same6 _ (t + 8) j (by omega) (by omega) (by omega) (by omega)
            · rw [if_pos rfl, ← hx]
              exact l6'.2
          · rw [hw1, hw2]
            exact hrep1
        · refine ⟨((hfr6.zu (by omega) (by omega)).zu (by omega) (by omega)).tr l1, fun b j b1 b2 b3 b4 b5 b6 => ?_, fun j hj => ?_, ?_, fun h => ?_, fun h => ?_⟩
          · rw [l2 b j b1 b2 (by omega) b4 b5 (by omega), same6 _ b j (by omega) b6 b5 b4]
            exact hfr.2.1 b j b1 b2 b3
          · rw [l3 j (by omega), same6 _ (t + 8) j (by omega) (by omega) (by omega) (by omega)]
            exact hfr.2.2 j hj
          · rw [l4, zu_a (by omega), zu_s, hz]; omega
          · rw [l6'.1, zu_a (by omega), zu_a (by omega)]
            exact P3 h
          · refine ⟨?_, ?_⟩
            · rw [l6'.1, zu_a (by omega), zu_a (by omega), (P4 h).1]
              exact hfr.2.1 _ _ (by omega) (by omega) (by omega)
            · have hl9 : last < (W : Int) := by rcases hla with h9 | h9 <;> omega
              rw [l2 _ _ (by omega) (by omega) (by omega) (by omega) (by omega) (by omega), zu_a (by omega), zu_a (by omega), (P4 h).2]
      · unfold zt_X10_list_101
        refine ⟨fun _ => ?_, fun c9 => absurd (by decide) c9⟩
        have n44 : ¬ rg bt N (jSk (rg bt N) 4096 q2) = 44 := fun h => c (g44.mp h)
        refine zs_X10_list_37 Γ (by omega) hok ht ?_
        unfold zt_X10_list_37
        refine ⟨fun _ => ?_, fun c9 => absurd (by decide) c9⟩
        refine q_take Γ (by omega) hok ht hb hR6 hs1 (by decide) (fun c2 => ?_) (fun c2 => ?_)
        · rw [zu_zu]
          have hw := rW_hd (rest := rest) (kw := none) (more := false) hxk
          rw [← hx] at hw
          have hw1 : rW (jHd none false xs) = rW xs := hw.1
          have hw2 : rL (jHd none false xs) = rL xs := hw.2
          refine kO (jHd none false xs) 1 (jSk (rg bt N) 4096 q2 + 1) (by rw [jGo_l, hv]; dsimp only; rw [if_neg n44, if_pos (g93.mpr c2)]) _ ?_ ?_ ?_
          · rw [hw1, hw2]
            exact hR5.pos _
          · have hlast := by rw [hx] at hrep; exact rRep_last hxk hxm hrep
            rw [hx] at hrep ⊢
            refine rRep.hd hxk (by rw [hsz, hx]) rfl rfl hrep (fun b j b1 b2 b3 b4 b5 => ?_) (fun j j1 j2 => ?_) ?_ (fun k hk9 => nomatch hk9)
            · have b3' : (W : Int) ≤ j := b3
              exact same6 _ b j (by omega) (by omega) (by omega) (by omega)
            · exact same6 _ (t + 8) j (by omega) (by omega) (by omega) (by omega)
            · rw [if_neg (by decide), same6 _ _ _ (by omega) (by show ¬ (t + 7 = t + 7 ∧ ((W + kwW none : Nat) : Int) = last); show ¬ (t + 7 = t + 7 ∧ ((W : Nat) : Int) = last); omega) (by omega) (by omega)]
              exact hlast
          · have hl9 : last < (W : Int) := by rcases hla with h9 | h9 <;> omega
            refine ⟨(hfr6.zu (by omega) (by omega)).zu (by omega) (by omega), fun b j b1 b2 b3 b4 b5 b6 => ?_, fun j hj => ?_, ?_, fun h => ?_, fun h => ⟨?_, ?_⟩⟩
            · rw [same6 _ b j (by omega) b6 b5 b4]
              exact hfr.2.1 b j b1 b2 b3
            · rw [same6 _ (t + 8) j (by omega) (by omega) (by omega) (by omega)]
              exact hfr.2.2 j hj
            · rw [zu_a (by omega), zu_s, hz]; omega
            · rw [zu_a (by omega), zu_a (by omega)]; exact P3 h
            · rw [zu_a (by omega), zu_a (by omega), (P4 h).1]
              exact hfr.2.1 _ _ (by omega) (by omega) (by omega)
            · rw [zu_a (by omega), zu_a (by omega), (P4 h).2]
        · refine kE (jSk (rg bt N) 4096 q2) (by rw [jGo_l, hv]; dsimp only; rw [if_neg n44, if_neg (fun h => c2 (g93.mp h))]) _ (eY_zu ?_)
          exact (hfr6.zu (by omega) (by omega)).zu (by omega) (by omega)
    refine ⟨fun c => ⟨⟨by omega, by omega⟩, ?_⟩, fun c => ⟨⟨by omega, by omega⟩, ?_⟩⟩
    · refine after _ (hR42.of (fun k => zu_a (by omega)) (fun j => zu_a (by omega))) (fun b j b1 _ => ?_) (fun h => by omega) (fun _ => ⟨zu_a (by omega), zu_s _ _ _ _⟩) (zf8.rf.zu (by omega) (by omega))
      by_cases c9 : b = t + 7
      · exact zu_k (fun e => b1 ⟨c9, e⟩)
      · exact zu_a c9
    · refine after _ (hR42.of (fun k => zu_a (by omega)) (fun j => zu_a (by omega))) (fun b j _ b2 => ?_) (fun _ => zu_s _ _ _ _) (fun h => by omega) (zf8.rf.zu (by omega) (by omega))
      by_cases c9 : b = t + 6
      · exact zu_k (fun e => b2 ⟨c9, e⟩)
      · exact zu_a c9
end RLs
