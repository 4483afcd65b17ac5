/-! ===== the reference's Text: any value ===== -/
/-- what an open bracket at p comes to -/
def jBr (g : Nat → Int32) (m : Nat) (o : Bool) (dp p : Nat) : Except Nat (List JR × Nat × Nat) :=
  if g (jSk g 4096 (p + 1)) = jCl o then .ok ([(jKd o, p, 0, [], none, 0, 1, false)], 1, jSk g 4096 (p + 1) + 1)
  else match jGo g m (some (o, [])) dp (jSk g 4096 (p + 1)) with
    | .error e => .error e
    | .ok (xs, c, q) => .ok ((jKd o, p, 0, [], none, c, xs.length + 1, false) :: xs, 1, q)
theorem rRep_one {M : zM} {t : Int} {x : JR} {W L : Nat} (hk : x.kw = none) (hm : x.more = false) (hs : x.sz = 1) (h : rNd M t x W L (-1)) : rRep M t [x] W L := by
  have z1 : jk x = 0 := by unfold jk; rw [hk] <;> rfl
  have z2 : jkl x = 0 := by unfold jkl; rw [hk] <;> rfl
  refine ⟨fun k hk9 => by rw [hk] at hk9; exact (nomatch hk9), ?_, by omega, trivial⟩
  rw [z1, z2, hm]
  exact h
section RVa
variable {l : Launch} {s0 : State} {a0 : Array Value} {G : va_G} {ca : Nat → ClassId} {d : Nat} {C : Nat × Nat} {S : zS} {t : Int} {M : zM} {Q : Int → zM → Prop} {X : zM → Prop} {bt : Int → Int} {N p dp W L : Nat}
theorem RS.deep (h : RS M t bt N p dp W L) (dp' : Nat) : RS (zu M t 3 dp') t bt N p dp' W L := by
  obtain ⟨h1, h2, h3, h4, h5, h6⟩ := h
  exact ⟨by rw [zu_k (by decide), h1], by rw [zu_k (by decide), h2], zu_s _ _ _ _, by rw [zu_k (by decide), h4], by rw [zu_k (by decide), h5], fun j => by rw [zu_a (by omega), h6]⟩
theorem q_list (Γ : rt_Γ l s0 a0 G ca) (hd : 2 * (25 - dp) + 9 ≤ d) (hdp : dp < 24) (hok : zok C) (ht : zTx S t) (hb : rOk bt N) {m : Nat} (hIV : ∀ i : Nat, i < m → rIV l s0 G ca C S t bt N i) (hp : p < N) (hW : W ≤ 2 * p) (hL : L ≤ p) (hm : 2 * (N - p) ≤ m) (hR : RS M t bt N p (dp + 1) W L)
    (kE : ∀ e : Nat, jBr (rg bt N) m false dp p = .error e → ∀ M1 : zM, eY t M M1 1 e → X M1)
    (kO : ∀ (xs : List JR) (c q : Nat), jBr (rg bt N) m false dp p = .ok (xs, c, q) → ∀ M1 : zM, RS M1 t bt N q (dp + 1) (W + rW xs) (L + rL xs) → rRep M1 t xs W L → pfr t W L M M1 → Q W M1) : zm_X10_list l s0 G ca d C S t M Q X := by
  have hN := hb.1
  have hT := rg_T hb
  refine z_X10_list Γ (by omega) hok ht ?_
  unfold zt_X10_list
  refine q_node Γ hok ht hR (by omega) ?_
  have hR1 := zNode_RS (k := 1) hR
  obtain ⟨n2, n3, n4, n5, n6, n7⟩ := zNode_at (t := t) (k := 1) (p := p) (W := W) (M := M)
  rw [hR1.2.1, ← show ((p + 1 : Nat) : Int) = (p : Int) + 1 from by omega]
  refine q_blanks Γ (by omega) hok ht hb (hR1.pos (p + 1)) (by omega) ?_
  rw [zu_zu]
  have hs1 := jSk_le hT 4096 (p + 1) (by omega)
  have hs2 := jSk_ge (g := rg bt N) 4096 (p + 1)
  obtain ⟨p1, hp1⟩ : ∃ p1 : Nat, p1 = jSk (rg bt N) 4096 (p + 1) := ⟨_, rfl⟩
  rw [← hp1] at hs1 hs2 ⊢
  have hR2 := hR1.pos p1
  refine q_look Γ hok ht hb hR2 hs1 ?_
  rw [rb_w hb]
  have g93 : rg bt N p1 = 93 ↔ rb bt N p1 = 93 := g_eq hb rfl (by decide)
  have fr0 : pfr t W L M (zNode M t 1 p W) := pfr_node
  have at0 : ∀ (x9 : Int) (b : Int), ¬ b = t → (zu (zNode M t 1 p W) t 2 x9) b W = zNode M t 1 p W b W := fun x9 b h => zu_a h
  refine ⟨fun c => ?_, fun c => ?_⟩
  · refine zs_X10_list_37 Γ (by omega) hok ht ?_
    unfold zt_X10_list_37
    refine ⟨fun _ => ?_, fun c9 => absurd (by decide) c9⟩
    refine q_take Γ (by omega) hok ht hb hR2 hs1 (by decide) (fun _ => ?_) (fun c2 => absurd c c2)
    rw [zu_zu]
    refine kO [(2, p, 0, [], none, 0, 1, false)] 1 (p1 + 1) ?_ _ ?_ ?_ fr0.t
    · unfold jBr
      rw [← hp1]
      exact if_pos (g93.mpr c)
    · exact hR1.pos (p1 + 1)
    · refine rRep_one rfl rfl rfl ⟨?_, ?_, fun h => (nomatch h), fun h => (nomatch h), fun _ => ?_, fun _ => ?_, ?_⟩
      · rw [at0 _ _ (by omega), n2] <;> rfl
      · rw [at0 _ _ (by omega), n3] <;> rfl
      · rw [at0 _ _ (by omega), n5] <;> rfl
      · rw [at0 _ _ (by omega), n6] <;> rfl
      · rw [at0 _ _ (by omega), n7]
  · have hne : ¬ rg bt N (jSk (rg bt N) 4096 (p + 1)) = jCl false := fun h => c (g93.mp (by rw [hp1]; exact h))
    refine q_listL Γ (by omega) hdp hok ht hb (n := W) (by omega) (ks := []) m hIV p1 (W + 1) L (-1) _ hs1 (by omega) (by omega) (by omega) hR2 (by omega) (Or.inl rfl) (fun e he M1 hM1 => kE e ?_ M1 (hM1.of fr0.t.1)) (fun ys c2 q hy M1 hR9 hrep hl => ?_)
    · unfold jBr
      refine (if_neg hne).trans ?_
      rw [← hp1, he]
    · have hbo := jGo_ok hT _ _ _ _ _ _ _ hs1 hy
      obtain ⟨l1, l2, l3, l4, l5, l6⟩ := hl
      have e0 : rW ((2, p, 0, [], none, c2, ys.length + 1, false) :: ys) = 1 + rW ys := by show 0 + 1 + rW ys = _; omega
      have e1 : rL ((2, p, 0, [], none, c2, ys.length + 1, false) :: ys) = rL ys := by show 0 + 0 + rL ys = _; omega
      refine kO ((2, p, 0, [], none, c2, ys.length + 1, false) :: ys) 1 q ?_ M1 ?_ ?_ ?_
      · unfold jBr
        refine (if_neg hne).trans ?_
        rw [← hp1, hy]
        rfl
      · rw [e0, e1, show W + (1 + rW ys) = W + 1 + rW ys from by omega]
        exact hR9
      · refine ⟨fun k hk9 => (nomatch hk9), ⟨?_, ?_, fun h => (nomatch h), fun h => (nomatch h), fun _ => ?_, fun _ => ?_, ?_⟩, ?_, ?_⟩
        · rw [show ((W + jk (2, p, 0, [], none, c2, ys.length + 1, false) : Nat) : Int) = (W : Int) from rfl, l2 _ _ (by omega) (by omega) (by omega) (by omega) (by omega) (by omega), at0 _ _ (by omega), n2] <;> rfl
        · rw [show ((W + jk (2, p, 0, [], none, c2, ys.length + 1, false) : Nat) : Int) = (W : Int) from rfl, l2 _ _ (by omega) (by omega) (by omega) (by omega) (by omega) (by omega), at0 _ _ (by omega), n3] <;> rfl
        · rw [show ((W + jk (2, p, 0, [], none, c2, ys.length + 1, false) : Nat) : Int) = (W : Int) from rfl, l4, at0 _ _ (by omega), n5]; show (0 : Int) + (c2 : Int) = (c2 : Int); omega
        · rw [show ((W + jk (2, p, 0, [], none, c2, ys.length + 1, false) : Nat) : Int) = (W : Int) from rfl, l5 (by decide)]
          show ((W + 1 : Nat) : Int) = if c2 = 0 then -1 else (W : Int) + 1
          rw [if_neg (by omega)]; omega
        · rw [show ((W + jk (2, p, 0, [], none, c2, ys.length + 1, false) : Nat) : Int) = (W : Int) from rfl, l2 _ _ (by omega) (by omega) (by omega) (by omega) (by omega) (by omega), at0 _ _ (by omega), n7] <;> rfl
        · show ys.length + 1 - 1 ≤ ys.length; omega
        · exact hrep
      · exact fr0.t.tr (W2 := W) (L2 := L) ⟨l1, fun b j b1 b2 hj => l2 b j b1 b2 (by omega) (by omega) (by omega) (by omega), fun j hj => l3 j (by omega)⟩ (Int.le_refl _) (Int.le_refl _)
theorem q_object (Γ : rt_Γ l s0 a0 G ca) (hd : 2 * (25 - dp) + 9 ≤ d) (hdp : dp < 24) (hok : zok C) (ht : zTx S t) (hb : rOk bt N) {m : Nat} (hIV : ∀ i : Nat, i < m → rIV l s0 G ca C S t bt N i) (hp : p < N) (hW : W ≤ 2 * p) (hL : L ≤ p) (hm : 2 * (N - p) ≤ m) (hR : RS M t bt N p (dp + 1) W L)
    (kE : ∀ e : Nat, jBr (rg bt N) m true dp p = .error e → ∀ M1 : zM, eY t M M1 1 e → X M1)
    (kO : ∀ (xs : List JR) (c q : Nat), jBr (rg bt N) m true dp p = .ok (xs, c, q) → ∀ M1 : zM, RS M1 t bt N q (dp + 1) (W + rW xs) (L + rL xs) → rRep M1 t xs W L → pfr t W L M M1 → Q W M1) : zm_X10_object l s0 G ca d C S t M Q X := by
  have hN := hb.1
  have hT := rg_T hb
  refine z_X10_object Γ (by omega) hok ht ?_
  unfold zt_X10_object
  refine q_node Γ hok ht hR (by omega) ?_
  have hR1 := zNode_RS (k := 0) hR
  obtain ⟨n2, n3, n4, n5, n6, n7⟩ := zNode_at (t := t) (k := 0) (p := p) (W := W) (M := M)
  rw [hR1.2.1, ← show ((p + 1 : Nat) : Int) = (p : Int) + 1 from by omega]
  refine q_blanks Γ (by omega) hok ht hb (hR1.pos (p + 1)) (by omega) ?_
  rw [zu_zu]
  have hs1 := jSk_le hT 4096 (p + 1) (by omega)
  have hs2 := jSk_ge (g := rg bt N) 4096 (p + 1)
  obtain ⟨p1, hp1⟩ : ∃ p1 : Nat, p1 = jSk (rg bt N) 4096 (p + 1) := ⟨_, rfl⟩
  rw [← hp1] at hs1 hs2 ⊢
  have hR2 := hR1.pos p1
  refine q_look Γ hok ht hb hR2 hs1 ?_
  rw [rb_w hb]
  have g125 : rg bt N p1 = 125 ↔ rb bt N p1 = 125 := g_eq hb rfl (by decide)
  have fr0 : pfr t W L M (zNode M t 0 p W) := pfr_node
  have at0 : ∀ (x9 : Int) (b : Int), ¬ b = t → (zu (zNode M t 0 p W) t 2 x9) b W = zNode M t 0 p W b W := fun x9 b h => zu_a h
  refine ⟨fun c => ?_, fun c => ?_⟩
  · refine zs_X10_object_37 Γ (by omega) hok ht ?_
    unfold zt_X10_object_37
    refine ⟨fun _ => ?_, fun c9 => absurd (by decide) c9⟩
    refine q_take Γ (by omega) hok ht hb hR2 hs1 (by decide) (fun _ => ?_) (fun c2 => absurd c c2)
    rw [zu_zu]
    refine kO [(1, p, 0, [], none, 0, 1, false)] 1 (p1 + 1) ?_ _ ?_ ?_ fr0.t
    · unfold jBr
      rw [← hp1]
      exact if_pos (g125.mpr c)
    · exact hR1.pos (p1 + 1)
    · refine rRep_one rfl rfl rfl ⟨?_, ?_, fun h => (nomatch h), fun h => (nomatch h), fun h => (nomatch h), fun _ => ?_, ?_⟩
      · rw [at0 _ _ (by omega), n2] <;> rfl
      · rw [at0 _ _ (by omega), n3] <;> rfl
      · rw [at0 _ _ (by omega), n6] <;> rfl
      · rw [at0 _ _ (by omega), n7]
  · have hne : ¬ rg bt N (jSk (rg bt N) 4096 (p + 1)) = jCl true := fun h => c (g125.mp (by rw [hp1]; exact h))
    refine q_objL Γ (by omega) hdp hok ht hb (n := W) (by omega) m hIV [] p1 (W + 1) L _ hs1 (by omega) (by omega) (by omega) hR2 (by omega) ?_ (fun z hz => absurd hz (by simp)) (fun e he M1 hM1 => kE e ?_ M1 (hM1.of fr0.t.1)) (fun ys c2 q hy M1 hR9 hrep hl => ?_)
    · show (zu (zNode M t 0 p W) t 2 (p1 : Int)) (t + 6) W = -1
      rw [at0 _ _ (by omega), n6]
    · unfold jBr
      refine (if_neg hne).trans ?_
      rw [← hp1]
      have he' : jGo (rg bt N) m (some (true, [])) dp p1 = .error e := he
      rw [he']
    · have hy' : jGo (rg bt N) m (some (true, [])) dp p1 = .ok (ys, c2, q) := hy
      have hbo := jGo_ok hT _ _ _ _ _ _ _ hs1 hy'
      obtain ⟨l1, l2, l3, l4, l5, l6⟩ := hl
      have l2' : ∀ b j : Int, t + 2 ≤ b → b ≤ t + 7 → (0 ≤ j ∧ j < ((W + 1 : Nat) : Int)) → ¬ (b = t + 5 ∧ j = W) → ¬ (b = t + 6 ∧ j = W) → ¬ (b = t + 7 ∧ j = -1) → M1 b j = (zu (zNode M t 0 p W) t 2 (p1 : Int)) b j := l2
      have l5' : M1 (t + 6) W = ((W + 1 : Nat) : Int) := l5 (by decide)
      have e0 : rW ((1, p, 0, [], none, c2, ys.length + 1, false) :: ys) = 1 + rW ys := by show 0 + 1 + rW ys = _; omega
      have e1 : rL ((1, p, 0, [], none, c2, ys.length + 1, false) :: ys) = rL ys := by show 0 + 0 + rL ys = _; omega
      refine kO ((1, p, 0, [], none, c2, ys.length + 1, false) :: ys) 1 q ?_ M1 ?_ ?_ ?_
      · unfold jBr
        refine (if_neg hne).trans ?_
        rw [← hp1, hy']
        rfl
      · rw [e0, e1, show W + (1 + rW ys) = W + 1 + rW ys from by omega]
        exact hR9
      · refine ⟨fun k hk9 => (nomatch hk9), ⟨?_, ?_, fun h => (nomatch h), fun h => (nomatch h), fun h => (nomatch h), fun _ => ?_, ?_⟩, ?_, ?_⟩
        · rw [show ((W + jk (1, p, 0, [], none, c2, ys.length + 1, false) : Nat) : Int) = (W : Int) from rfl, l2' _ _ (by omega) (by omega) (by omega) (by omega) (by omega) (by omega), at0 _ _ (by omega), n2] <;> rfl
        · rw [show ((W + jk (1, p, 0, [], none, c2, ys.length + 1, false) : Nat) : Int) = (W : Int) from rfl, l2' _ _ (by omega) (by omega) (by omega) (by omega) (by omega) (by omega), at0 _ _ (by omega), n3] <;> rfl
        · rw [show ((W + jk (1, p, 0, [], none, c2, ys.length + 1, false) : Nat) : Int) = (W : Int) from rfl, l5']
          show ((W + 1 : Nat) : Int) = if c2 = 0 then -1 else (W : Int) + 1
          rw [if_neg (by omega)]; omega
        · rw [show ((W + jk (1, p, 0, [], none, c2, ys.length + 1, false) : Nat) : Int) = (W : Int) from rfl, l2' _ _ (by omega) (by omega) (by omega) (by omega) (by omega) (by omega), at0 _ _ (by omega), n7] <;> rfl
        · show ys.length + 1 - 1 ≤ ys.length; omega
        · exact hrep
      · exact fr0.t.tr (W2 := W) (L2 := L) ⟨l1, fun b j b1 b2 hj => l2' b j b1 b2 (by omega) (by omega) (by omega) (by omega), fun j hj => l3 j (by omega)⟩ (Int.le_refl _) (Int.le_refl _)
theorem r_val (Γ : rt_Γ l s0 a0 G ca) (hok : zok C) (ht : zTx S t) (hb : rOk bt N) : ∀ m : Nat, rIV l s0 G ca C S t bt N m := by
  intro m
  induction m using Nat.strongRecOn with
  | ind m ih =>
  intro d dp p W L M Q X hd hdp hp hW hL hm hR kE kO
  have hN := hb.1
  have hT := rg_T hb
  cases m with
  | zero => omega
  | succ m =>
  have hIV : ∀ i : Nat, i < m → rIV l s0 G ca C S t bt N i := fun i hi => ih i (by omega)
  refine z_X10_value Γ (by omega) hok ht ?_
  unfold zt_X10_value
  refine q_look Γ hok ht hb hR hp ?_
  have hbb := rb_b hb p
  rw [rb_w hb]
  have g123 : rg bt N p = 123 ↔ rb bt N p = 123 := g_eq hb rfl (by decide)
  have g91 : rg bt N p = 91 ↔ rb bt N p = 91 := g_eq hb rfl (by decide)
  have g34 : rg bt N p = 34 ↔ rb bt N p = 34 := g_eq hb rfl (by decide)
  have g116 : rg bt N p = 116 ↔ rb bt N p = 116 := g_eq hb rfl (by decide)
  have g102 : rg bt N p = 102 ↔ rb bt N p = 102 := g_eq hb rfl (by decide)
  have g110 : rg bt N p = 110 ↔ rb bt N p = 110 := g_eq hb rfl (by decide)
  have g45 : rg bt N p = 45 ↔ rb bt N p = 45 := g_eq hb rfl (by decide)
  have hdg : jDgt (rg bt N p) ↔ ¬ rb bt N p < 48 ∧ ¬ 57 < rb bt N p := by
    show (¬ rg bt N p < 48 ∧ ¬ 57 < rg bt N p) ↔ _
    rw [g_lt hb (c := 48) (k := 48) rfl (by decide), g_gt hb (c := 57) (k := 57) rfl (by decide)]
  have wdp : w32 (M t 3) = dp := by rw [hR.2.2.1]; exact w32_id (by omega) (by omega)
  have e3 : ((dp + 1 : Nat) : Int) = (dp : Int) + 1 := by omega
  have brk : (rb bt N p = 123 ∨ rb bt N p = 91) → zt_X10_value_17 l s0 G ca d C S (zw s0 ca C S M) t (rb bt N p) M Q X := by
    intro hbr
    have hlt : p < N := hT.lt (by rcases hbr with h | h; rw [g123.mpr h]; decide; rw [g91.mpr h]; decide)
    have hor : rg bt N p = 123 ∨ rg bt N p = 91 := hbr.imp g123.mpr g91.mpr
    unfold zt_X10_value_17
    rw [wdp]
    refine ⟨fun c => ?_, fun c => ?_⟩
    · unfold zt_X10_value_32
      refine q_need0 Γ (by omega) hok ht (kE p ?_ _ ?_)
      · unfold jGo; rw [if_pos hor, if_pos (by omega)]
      · rw [hR.2.1]; exact eY_zu zf8.rf
    · unfold zt_X10_value_32
      refine q_need1 Γ (by omega) hok ht ?_
      rw [rb_w hb, hR.2.2.1, ← e3]
      have hR1 := hR.deep (dp + 1)
      have fr1 : zf8 t M (zu M t 3 ((dp + 1 : Nat) : Int)) := zf8.rf.zu (by omega) (by omega)
      have fin : ∀ (xs : List JR) (c9 q : Nat), jGo (rg bt N) (m + 1) none dp p = .ok (xs, c9, q) → ∀ M1 : zM, RS M1 t bt N q (dp + 1) (W + rW xs) (L + rL xs) → rRep M1 t xs W L → pfr t W L (zu M t 3 ((dp + 1 : Nat) : Int)) M1 → zt_X10_value_67 l s0 G ca d C S (zw s0 ca C S M) t W M1 Q X := by
        intro xs c9 q hj M1 hR9 hrep hfr
        unfold zt_X10_value_67
        rw [hR9.2.2.1, show ((dp + 1 : Nat) : Int) - 1 = (dp : Int) from by omega]
        refine kO xs c9 q hj _ (hR9.deep dp) (hrep.mono (fun b j b1 b2 _ _ => zu_a (by omega)) (fun j _ _ => zu_a (by omega))) ?_
        exact (pfr.rf.t.tr hfr (Int.le_refl _) (Int.le_refl _)).t
      have E : ∀ o : Bool, decide (rg bt N p = 123) = o → jGo (rg bt N) (m + 1) none dp p = jBr (rg bt N) m o dp p := by
        rintro o rfl
        unfold jGo
        rw [if_pos hor, if_neg (by omega)]
        rfl
      refine ⟨fun c2 => ?_, fun c2 => ?_⟩
      · have E1 := E true (decide_eq_true (g123.mpr c2))
        exact q_object Γ (by omega) (by omega) hok ht hb hIV hlt hW hL (by omega) hR1 (fun e he M1 hM1 => kE e (E1.trans he) M1 (hM1.of fr1)) (fun xs c9 q hj M1 h1 h2 h3 => fin xs c9 q (E1.trans hj) M1 h1 h2 h3)
      · have E1 := E false (decide_eq_false (fun h => c2 (g123.mp h)))
        exact q_list Γ (by omega) (by omega) hok ht hb hIV hlt hW hL (by omega) hR1 (fun e he M1 hM1 => kE e (E1.trans he) M1 (hM1.of fr1)) (fun xs c9 q hj M1 h1 h2 h3 => fin xs c9 q (E1.trans hj) M1 h1 h2 h3)
  refine ⟨fun c => brk (Or.inl c), fun c1 => ⟨fun c => brk (Or.inr c), fun c2 => ?_⟩⟩
  have n12 : ¬ (rg bt N p = 123 ∨ rg bt N p = 91) := fun h => h.elim (fun h => c1 (g123.mp h)) (fun h => c2 (g91.mp h))
  refine ⟨fun c => ?_, fun c3 => ?_⟩
  · have h34 := g34.mpr c
    have hlt : p < N := hT.lt (by rw [h34]; decide)
    refine q_string Γ (by omega) hok ht hb hlt (by omega) hL hR (fun e he M1 hM1 => kE e (by unfold jGo; rw [if_neg n12, if_pos h34, he] <;> rfl) M1 hM1) (fun ws q hw M1 h1 h2 h3 h6 h7 hf => ?_)
    have e0 : rW [(3, p, 0, ws, none, 0, 1, false)] = 1 := rfl
    have e1 : rL [(3, p, 0, ws, none, 0, 1, false)] = ws.length := by show 0 + (if 3 = 3 then ws.length else 0) + 0 = _; rw [if_pos rfl]; omega
    refine kO [(3, p, 0, ws, none, 0, 1, false)] 1 q (by unfold jGo; rw [if_neg n12, if_pos h34, hw] <;> rfl) M1 (by rw [e0, e1]; exact h1) ?_ hf
    refine rRep_one rfl rfl rfl ⟨?_, h3, fun h => (nomatch h), fun _ => h2, fun h => (nomatch h), fun h => ?_, h7⟩
    · rw [h2.1] <;> rfl
    · rcases h with h | h <;> exact nomatch h
  have n34 : ¬ rg bt N p = 34 := fun h => c3 (g34.mp h)
  -- a number, or what begins none
  have num : ¬ rb bt N p = 116 → ¬ rb bt N p = 102 → ¬ rb bt N p = 110 → zm_X10_number l s0 G ca (d - 1) C S t M (fun r110 M110 => Q r110 M110) X := by
    intro n1 n2 n3
    have Ej : ∀ x, jNum (rg bt N) p = x → jGo (rg bt N) (m + 1) none dp p = (match x with | .error e => .error e | .ok (q, x) => .ok ([(4, p, x, [], none, 0, 1, false)], 1, q)) := by
      rintro _ rfl
      show (if rg bt N p = 123 ∨ rg bt N p = 91 then _ else _) = _
      rw [if_neg n12, if_neg n34, if_neg (fun h => n1 (g116.mp h)), if_neg (fun h => n2 (g102.mp h)), if_neg (fun h => n3 (g110.mp h))]
      cases jNum (rg bt N) p <;> rfl
    refine q_number Γ (by omega) hok ht hb hp (by omega) hR (fun e he M1 hM1 => kE e (by rw [Ej _ he]) M1 hM1) (fun q x hx M1 h1 h2 h3 h4 h7 hf => ?_)
    refine kO [(4, p, x, [], none, 0, 1, false)] 1 q (by rw [Ej _ hx]) M1 h1 ?_ hf
    refine rRep_one rfl rfl rfl ⟨?_, h3, fun _ => h4, fun h => (nomatch h), fun h => (nomatch h), fun h => ?_, h7⟩
    · rw [h2] <;> rfl
    · rcases h with h | h <;> exact nomatch h
  have word : ¬ rb bt N p = 45 → ¬ jDgt (rg bt N p) → zt_X10_value_114 l s0 G ca d C S (zw s0 ca C S M) t (rb bt N p) M Q X := by
    intro n45 nd
    have leaf : ∀ (kd : Nat) (k : Int) (bs : List Int) (q9 : Nat), k = (kd : Int) - 1 → ¬ kd = 4 → ¬ kd = 3 → ¬ kd = 2 → ¬ kd = 1 → zstr s0 q9 bs → (∀ e : Nat, jLit (rg bt N) (bs.map Int32.ofInt) bs.length 0 p = .error e → jGo (rg bt N) (m + 1) none dp p = .error e) → (∀ q : Nat, jLit (rg bt N) (bs.map Int32.ofInt) bs.length 0 p = .ok q → jGo (rg bt N) (m + 1) none dp p = .ok ([(kd, p, 0, [], none, 0, 1, false)], 1, q)) → zg_X10_value_169 l s0 G ca d C S (zw s0 ca C S M) t W q9 bs 0 (zNode M t k p W) Q X := by
      intro kd k bs q9 hk k4 k3 k2 k1 hq hE hO
      obtain ⟨m2, m3, m4, m5, m6, m7⟩ := zNode_at (t := t) (k := k) (p := p) (W := W) (M := M)
      refine q_wordL Γ (by omega) hok ht hb hq bs.length 0 p _ (by omega) hp (zNode_RS hR) (fun e he M1 hM1 => kE e (hE e he) M1 (hM1.of (pfr_node (W := W) (L := L)).1)) (fun q hq9 => ?_)
      have e1 : rL [(kd, p, 0, [], none, 0, 1, false)] = 0 := by show 0 + (if kd = 3 then 0 else 0) + 0 = 0; rw [if_neg k3]
      refine kO [(kd, p, 0, [], none, 0, 1, false)] 1 q (hO q hq9) _ (by rw [e1]; exact (zNode_RS hR).pos q) ?_ pfr_node.t
      have e6 : (fun b : Int => (zu (zNode M t k p W) t 2 (q : Int)) b W) = fun b : Int => (zu (zNode M t k p W) t 2 (q : Int)) b W := rfl
      refine rRep_one rfl rfl rfl ⟨?_, ?_, fun h => absurd h k4, fun h => absurd h k3, fun h => absurd h k2, fun h => (h.elim k1 k2).elim, ?_⟩
      · rw [zu_a (by omega), m2, hk] <;> rfl
      · rw [zu_a (by omega), m3] <;> rfl
      · rw [zu_a (by omega), m7]
    unfold zt_X10_value_114
    rw [rb_w hb]
    refine ⟨fun c => ?_, fun c4 => ⟨fun c => ?_, fun c5 => ?_⟩⟩
    · unfold zt_X10_value_137
      refine q_node Γ hok ht hR (by omega) ?_
      rw [rb_w hb]
      refine ⟨fun _ => fun q9 hq => leaf 5 4 _ q9 rfl (by decide) (by decide) (by decide) (by decide) hq (fun e he => ?_) (fun q he => ?_), fun h => absurd c h⟩
      · have he' : jLit (rg bt N) [116, 114, 117, 101] 4 0 p = .error e := he
        unfold jGo; rw [if_neg n12, if_neg n34, if_pos (g116.mpr c), he'] <;> rfl
      · have he' : jLit (rg bt N) [116, 114, 117, 101] 4 0 p = .ok q := he
        unfold jGo; rw [if_neg n12, if_neg n34, if_pos (g116.mpr c), he'] <;> rfl
    · unfold zt_X10_value_137
      refine q_node Γ hok ht hR (by omega) ?_
      rw [rb_w hb]
      refine ⟨fun h => absurd h c4, fun _ => ⟨fun _ => fun q9 hq => leaf 6 5 _ q9 rfl (by decide) (by decide) (by decide) (by decide) hq (fun e he => ?_) (fun q he => ?_), fun h => absurd c h⟩⟩
      · have he' : jLit (rg bt N) [102, 97, 108, 115, 101] 5 0 p = .error e := he
        unfold jGo; rw [if_neg n12, if_neg n34, if_neg (fun h => c4 (g116.mp h)), if_pos (g102.mpr c), he'] <;> rfl
      · have he' : jLit (rg bt N) [102, 97, 108, 115, 101] 5 0 p = .ok q := he
        unfold jGo; rw [if_neg n12, if_neg n34, if_neg (fun h => c4 (g116.mp h)), if_pos (g102.mpr c), he'] <;> rfl
    · unfold zt_X10_value_137
      refine q_node Γ hok ht hR (by omega) ?_
      rw [rb_w hb]
      refine ⟨fun h => absurd h c4, fun _ => ⟨fun h => absurd h c5, fun _ => fun q9 hq => leaf 7 6 _ q9 rfl (by decide) (by decide) (by decide) (by decide) hq (fun e he => ?_) (fun q he => ?_)⟩⟩
      · have he' : jLit (rg bt N) [110, 117, 108, 108] 4 0 p = .error e := he
        by_cases c6 : rb bt N p = 110
        · unfold jGo; rw [if_neg n12, if_neg n34, if_neg (fun h => c4 (g116.mp h)), if_neg (fun h => c5 (g102.mp h)), if_pos (g110.mpr c6), he'] <;> rfl
        · have hep : e = p := by
            have h9 : jLit (rg bt N) [110, 117, 108, 108] 4 0 p = .error p := if_neg (fun h => c6 (g110.mp h))
            exact Except.error.inj (he'.symm.trans h9)
          rw [hep]
          have hn : jNum (rg bt N) p = .error p := by unfold jNum; rw [if_neg (fun h => n45 (g45.mp h)), if_neg nd]
          unfold jGo; rw [if_neg n12, if_neg n34, if_neg (fun h => c4 (g116.mp h)), if_neg (fun h => c5 (g102.mp h)), if_neg (fun h => c6 (g110.mp h)), hn]
      · have he' : jLit (rg bt N) [110, 117, 108, 108] 4 0 p = .ok q := he
        have c6 : rb bt N p = 110 := by
          by_cases c6 : rb bt N p = 110
          · exact c6
          · have h9 : jLit (rg bt N) [110, 117, 108, 108] 4 0 p = .error p := if_neg (fun h => c6 (g110.mp h))
            exact nomatch he'.symm.trans h9
        unfold jGo; rw [if_neg n12, if_neg n34, if_neg (fun h => c4 (g116.mp h)), if_neg (fun h => c5 (g102.mp h)), if_pos (g110.mpr c6), he'] <;> rfl
  refine ⟨fun c => num (by omega) (by omega) (by omega), fun c4 => ⟨fun c => word c4 (fun h => (hdg.mp h).1 c), fun c5 => ⟨fun c => word c4 (fun h => (hdg.mp h).2 c), fun c6 => num (by omega) (by omega) (by omega)⟩⟩⟩
end RVa
