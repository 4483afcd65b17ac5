/-! ===== the reference's Text: a number as a node ===== -/
section RV3
variable {l : Launch} {s0 : State} {a0 : Array Value} {G : va_G} {ca : Nat → ClassId} {d : Nat} {C : Nat × Nat} {S : zS} {t : Int} {M : zM} {Q : Int → zM → Prop} {X : zM → Prop} {bt : Int → Int} {N p dp W L : Nat}
theorem zNode_at {t k p W : Int} {M : zM} : zNode M t k p W (t + 2) W = k ∧ zNode M t k p W (t + 3) W = p ∧ zNode M t k p W (t + 4) W = 0 ∧ zNode M t k p W (t + 5) W = 0 ∧ zNode M t k p W (t + 6) W = -1 ∧ zNode M t k p W (t + 7) W = -1 := by
  unfold zNode
  refine ⟨?_, ?_, ?_, ?_, ?_, ?_⟩ <;> simp (disch := omega) only [zu_a, zu_s]
/-- from the first digit on, at p1: the node has been made -/
theorem q_num1 (Γ : rt_Γ l s0 a0 G ca) (hd : 3 ≤ d) (hok : zok C) (ht : zTx S t) (hb : rOk bt N) {w0 : rt_Wd} {below : Bool} {n : Nat} (hn : n < 4200) {p1 : Nat} {fp : Int} {M2 : zM} (hp1 : p1 ≤ N) (hR : RS M2 t bt N p dp W L) (hk : M2 (t + 2) n = 3) (hz : M2 (t + 5) n = 0) (hfp : M2 (t + 3) n = fp)
    (kE1 : ¬ jDgt (rg bt N p1) → ∀ M1 : zM, eY t M2 M1 1 p1 → X M1)
    (kE2 : jDgt (rg bt N p1) → (jDig (rg bt N) (nBo below) (if rg bt N p1 = 48 then 1 else 4096) p1 1 0).2.1 = 0 → ∀ M1 : zM, eY t M2 M1 1 fp → X M1)
    (kO : jDgt (rg bt N p1) → ∀ v' : Int, ¬ (jDig (rg bt N) (nBo below) (if rg bt N p1 = 48 then 1 else 4096) p1 1 0).2.1 = 0 → (jDig (rg bt N) (nBo below) (if rg bt N p1 = 48 then 1 else 4096) p1 1 0).2.2 = Int64.ofInt v' → nLo below ≤ v' → v' ≤ 0 → ∀ M1 : zM, rNumP t bt N dp W L n (zu M2 t 2 p1) M1 (jDig (rg bt N) (nBo below) (if rg bt N p1 = 48 then 1 else 4096) p1 1 0).1 (if below = true then v' else -v') → Q n M1) :
    zt_X10_number_39 l s0 G ca d C S w0 t n (nBv below) p1 M2 Q X := by
  unfold zt_X10_number_39
  have hR1 := hR.pos p1
  have hbb := rb_b hb p1
  have hN := hb.1
  have hdg : jDgt (rg bt N p1) ↔ ¬ rb bt N p1 < 48 ∧ ¬ 57 < rb bt N p1 := by
    show (¬ rg bt N p1 < 48 ∧ ¬ 57 < rg bt N p1) ↔ _
    rw [g_lt hb (c := 48) (k := 48) rfl (by decide), g_gt hb (c := 57) (k := 57) rfl (by decide)]
  have bad : ¬ jDgt (rg bt N p1) → zt_X10_number_65 l s0 G ca d C S w0 t n (nBv below) (zu M2 t 2 p1) Q X := by
    intro h
    unfold zt_X10_number_65 zt_X10_number_66
    refine q_need0 Γ (by omega) hok ht (kE1 h _ ?_)
    rw [zu_s]
    exact eY_zu (zf8.rf.zu (by omega) (by omega))
  refine q_look Γ hok ht hb hR1 hp1 ?_
  rw [rb_w hb]
  refine ⟨fun c => bad (fun h => (hdg.mp h).1 c), fun c1 => ?_⟩
  refine q_look Γ hok ht hb hR1 hp1 ?_
  rw [rb_w hb]
  refine ⟨fun c => bad (fun h => (hdg.mp h).2 c), fun c2 => ?_⟩
  have hD : jDgt (rg bt N p1) := hdg.mpr ⟨c1, c2⟩
  unfold zt_X10_number_66
  refine q_need1 Γ (by omega) hok ht ?_
  refine q_look Γ hok ht hb hR1 hp1 ?_
  rw [rb_w hb]
  have g48 : rg bt N p1 = 48 ↔ rb bt N p1 = 48 := g_eq hb rfl (by decide)
  have e2 : zu M2 t 2 (p1 : Int) (t + 2) n = 3 := by rw [zu_a (by omega), hk]
  have e5 : zu M2 t 2 (p1 : Int) (t + 5) n = 0 := by rw [zu_a (by omega), hz]
  have e3 : zu M2 t 2 (p1 : Int) (t + 3) n = fp := by rw [zu_a (by omega), hfp]
  have hlo : nLo below ≤ 0 := by cases below <;> decide
  have key : ∀ (zi : Int) (m : Nat), (if rg bt N p1 = 48 then 1 else 4096) = m → ((zi = 0 ∧ N < p1 + m) ∨ (zi = 1 ∧ (0 : Int) = 0 ∧ ((m = 1 ∧ (0 : Int) = 0 ∧ rb bt N p1 = 48) ∨ (m = 0 ∧ (0 : Int) < 0)))) → zg_X10_number_95 l s0 G ca d C S w0 t n (nBv below) zi 1 0 (zu M2 t 2 p1) Q X := by
    intro zi m hm hmode
    rw [hm] at kE2 kO
    refine q_numL Γ (by omega) hok ht hb (by omega) (by omega) m p1 0 1 0 0 _ hp1 hR1 e2 e5 (Int.le_refl _) (by omega) e3 hlo (Int.le_refl _) (Or.inr ⟨rfl, rfl⟩) hmode (fun h M1 hM1 => kE2 hD h M1 (hM1.of (zf8.rf.zu (by omega) (by omega)))) (fun v' h1 h2 h3 h4 M1 hM1 => kO hD v' h1 h2 h3 h4 M1 hM1)
  refine ⟨fun c => key 1 1 (if_pos (g48.mpr c)) (Or.inr ⟨rfl, rfl, Or.inl ⟨rfl, rfl, c⟩⟩), fun c => key 0 4096 (if_neg (fun h => c (g48.mp h))) (Or.inl ⟨rfl, by omega⟩)⟩
theorem q_number (Γ : rt_Γ l s0 a0 G ca) (hd : 3 ≤ d) (hok : zok C) (ht : zTx S t) (hb : rOk bt N) (hp : p ≤ N) (hW : W < 4200) (hR : RS M t bt N p dp W L)
    (kE : ∀ e : Nat, jNum (rg bt N) p = .error e → ∀ M1 : zM, eY t M M1 1 e → X M1)
    (kO : ∀ (q : Nat) (x : Int64), jNum (rg bt N) p = .ok (q, x) → ∀ M1 : zM, RS M1 t bt N q dp (W + 1) L → M1 (t + 2) W = 3 → M1 (t + 3) W = p → M1 (t + 4) W = x.toInt → M1 (t + 7) W = -1 → pfr t W L M M1 → Q W M1) : zm_X10_number l s0 G ca d C S t M Q X := by
  have hN := hb.1
  refine z_X10_number Γ (by omega) hok ht ?_
  unfold zt_X10_number
  refine q_node Γ hok ht hR hW ?_
  have hR1 := zNode_RS (k := 3) hR
  obtain ⟨n2, n3, n4, n5, n6, n7⟩ := zNode_at (t := t) (k := 3) (p := p) (W := W) (M := M)
  refine q_look Γ hok ht hb hR1 hp ?_
  rw [rb_w hb]
  have g45 : rg bt N p = 45 ↔ rb bt N p = 45 := g_eq hb rfl (by decide)
  have fr0 : pfr t W L M (zNode M t 3 p W) := pfr_node
  have fin : ∀ (M1 : zM) (p1 q : Nat) (x : Int), rNumP t bt N dp (W + 1) L W (zu (zNode M t 3 p W) t 2 p1) M1 q x → RS M1 t bt N q dp (W + 1) L ∧ M1 (t + 2) W = 3 ∧ M1 (t + 3) W = p ∧ M1 (t + 7) W = -1 ∧ pfr t W L M M1 := by
    intro M1 p1 q x h
    obtain ⟨g1, g2, g3⟩ := h
    refine ⟨g1, ?_, ?_, ?_, ?_⟩
    · rw [g3 _ _ (by omega) (by omega) (by omega), zu_a (by omega), n2]
    · rw [g3 _ _ (by omega) (by omega) (by omega), zu_a (by omega), n3]
    · rw [g3 _ _ (by omega) (by omega) (by omega), zu_a (by omega), n7]
    · exact fr0.t.tr (W2 := W) (L2 := L) ⟨fun b j hb9 => g3 b j (by omega) (by omega) (by omega), fun b j b1 b2 hj => g3 b j (by omega) (by omega) (by omega), fun j hj => g3 _ j (by omega) (by omega) (by omega)⟩ (Int.le_refl _) (Int.le_refl _)
  refine ⟨fun c => ?_, fun c => ?_⟩
  · have hlt : p < N := (rg_T hb).lt (by rw [g45.mpr c]; decide)
    have h45 := g45.mpr c
    unfold zt_X10_number_20
    refine ⟨fun c9 => absurd c9 (by decide), fun _ => ?_⟩
    rw [hR1.2.1, ← show ((p + 1 : Nat) : Int) = (p : Int) + 1 from by omega]
    refine q_num1 (below := true) Γ hd hok ht hb hW (by omega) hR1 n2 n5 n3 (fun h M1 hM1 => kE (p + 1) ?_ M1 (hM1.of fr0.1)) (fun hD h M1 hM1 => kE p ?_ M1 (hM1.of fr0.1)) (fun hD v' h1 h2 h3 h4 M1 hM1 => ?_)
    · unfold jNum; rw [if_pos h45, if_neg h]
    · unfold jNum; rw [if_pos h45, if_pos hD]; exact if_pos h
    · obtain ⟨f1, f2, f3, f4, f5⟩ := fin M1 _ _ _ hM1
      refine kO _ (Int64.ofInt v') ?_ M1 f1 f2 f3 ?_ f4 f5
      · unfold jNum; rw [if_pos h45, if_pos hD, ← h2]; exact if_neg h1
      · have h3' : -9223372036854775808 ≤ v' := h3
        rw [hM1.2.1, if_pos rfl, z_toL, w64_id (by omega) (by omega)]
  · have n45 : ¬ rg bt N p = 45 := fun h => c (g45.mp h)
    unfold zt_X10_number_20
    refine ⟨fun _ => ?_, fun c9 => absurd (by decide) c9⟩
    rw [hR1.2.1]
    refine q_num1 (below := false) Γ hd hok ht hb hW (by omega) hR1 n2 n5 n3 (fun h M1 hM1 => kE p ?_ M1 (hM1.of fr0.1)) (fun hD h M1 hM1 => kE p ?_ M1 (hM1.of fr0.1)) (fun hD v' h1 h2 h3 h4 M1 hM1 => ?_)
    · unfold jNum; rw [if_neg n45, if_neg h]
    · unfold jNum; rw [if_neg n45, if_pos hD]; exact if_pos h
    · obtain ⟨f1, f2, f3, f4, f5⟩ := fin M1 _ _ _ hM1
      refine kO _ (-Int64.ofInt v') ?_ M1 f1 f2 f3 ?_ f4 f5
      · unfold jNum; rw [if_neg n45, if_pos hD, ← h2]; exact if_neg h1
      · have h3' : -9223372036854775807 ≤ v' := h3
        rw [hM1.2.1, if_neg (by decide), ← Int64.ofInt_neg, z_toL, w64_id (by omega) (by omega)]
end RV3
