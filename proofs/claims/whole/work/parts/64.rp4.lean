/-! ===== the reference's Text: numbers ===== -/
/-- behind a number, node n: its value -/
def rNumP (t : Int) (bt : Int → Int) (N dp W L : Nat) (n : Int) (M M1 : zM) (q : Nat) (x : Int) : Prop :=
  RS M1 t bt N q dp W L ∧ M1 (t + 4) n = x ∧ ∀ b j : Int, ¬ (b = t ∧ j ≤ 15) → ¬ (b = t + 5 ∧ j = n) → ¬ (b = t + 4 ∧ j = n) → M1 b j = M b j
abbrev nBo (below : Bool) : Int64 := if below = true then -9223372036854775808 else -9223372036854775807
abbrev nLo (below : Bool) : Int := if below = true then -9223372036854775808 else -9223372036854775807
abbrev nBv (below : Bool) : Int := if below = true then 1 else 0
section RV2
variable {l : Launch} {s0 : State} {a0 : Array Value} {G : va_G} {ca : Nat → ClassId} {d : Nat} {C : Nat × Nat} {S : zS} {t : Int} {M : zM} {Q : Int → zM → Prop} {X : zM → Prop} {bt : Int → Int} {N p dp W L : Nat}
theorem q_numL (Γ : rt_Γ l s0 a0 G ca) (hd : 2 ≤ d) (hok : zok C) (ht : zTx S t) (hb : rOk bt N) {w0 : rt_Wd} {below : Bool} {n fp zi : Int} (hn0 : 0 ≤ n) (hn : n < 4200) : ∀ (m p : Nat) (v i z : Int) (s : Int64) (M : zM), p ≤ N → RS M t bt N p dp W L → M (t + 2) n = 3 → M (t + 5) n = z → 0 ≤ z → z ≤ p → M (t + 3) n = fp → nLo below ≤ v → v ≤ 0 → (i = 0 ∨ (i = 1 ∧ s = Int64.ofInt v)) →
    ((zi = 0 ∧ N < p + m) ∨ (zi = 1 ∧ v = 0 ∧ ((m = 1 ∧ z = 0 ∧ rb bt N p = 48) ∨ (m = 0 ∧ 0 < z)))) →
    ((jDig (rg bt N) (nBo below) m p (Int32.ofInt i) s).2.1 = 0 → ∀ M1 : zM, eY t M M1 1 fp → X M1) →
    (∀ v' : Int, ¬ (jDig (rg bt N) (nBo below) m p (Int32.ofInt i) s).2.1 = 0 → (jDig (rg bt N) (nBo below) m p (Int32.ofInt i) s).2.2 = Int64.ofInt v' → nLo below ≤ v' → v' ≤ 0 → ∀ M1 : zM, rNumP t bt N dp W L n M M1 (jDig (rg bt N) (nBo below) m p (Int32.ofInt i) s).1 (if below = true then v' else -v') → Q n M1) →
    zg_X10_number_95 l s0 G ca d C S w0 t n (nBv below) zi i v M Q X := by
  have hN := hb.1
  have wbv : w32 (nBv below) = nBv below := by cases below <;> decide
  intro m
  induction m with
  | zero =>
    intro p v i z s M hp hR hk hz hz0 hzp hfp hv0 hv1 his hmode kE kO
    have hz1 : zi = 1 ∧ v = 0 ∧ 0 < z := by rcases hmode with ⟨-, h⟩ | ⟨h1, h2, ⟨h3, -, -⟩ | ⟨-, h3⟩⟩ <;> omega
    have wi : w32 i = i := by rcases his with rfl | ⟨rfl, -⟩ <;> decide
    have fin : zt_X10_number_243 l s0 G ca d C S w0 t n (nBv below) i v M Q X := by
      unfold zt_X10_number_243
      refine ⟨⟨hn0, hn⟩, ?_⟩
      refine q_need Γ (by omega) hok ht (fun c => kE ?_ _ (by rw [hfp]; exact eY_zu zf8.rf)) (fun c => ?_)
      · rw [wi] at c
        show Int32.ofInt i = 0
        rw [c]
        rfl
      · rw [wi] at c
        have hi1 : i = 1 ∧ s = Int64.ofInt v := his.resolve_left c
        have K := kO v (by show ¬ Int32.ofInt i = 0; rw [hi1.1]; decide) hi1.2 hv0 hv1
        rw [wbv]
        have fr : ∀ x : Int, rNumP t bt N dp W L n M (zu M (t + 4) n x) p x := fun x => ⟨by
          obtain ⟨g1, g2, g3, g4, g5, g6⟩ := hR
          exact ⟨by rw [zu_a (by omega), g1], by rw [zu_a (by omega), g2], by rw [zu_a (by omega), g3], by rw [zu_a (by omega), g4], by rw [zu_a (by omega), g5], fun j => by rw [zu_a (by omega), g6]⟩, zu_s _ _ _ _, fun b j b1 b2 b3 => by
          by_cases c9 : b = t + 4
          · exact zu_k (fun e => b3 ⟨c9, e⟩)
          · exact zu_a c9⟩
        cases below
        · exact ⟨fun _ => K _ (fr _), fun c9 => absurd rfl c9⟩
        · exact ⟨fun c9 => absurd c9 (by decide), fun _ => K _ (fr _)⟩
    refine zs_X10_number_95 Γ (by omega) hok ht ?_
    unfold zt_X10_number_95
    refine q_look Γ hok ht hb hR hp ?_
    refine ⟨fun _ => fin, fun _ => ?_⟩
    refine q_look Γ hok ht hb hR hp ?_
    refine ⟨fun _ => fin, fun _ => ?_⟩
    rw [hz1.1, hk, hz, hz1.2.1]
    rw [hz1.2.1] at fin
    refine ⟨fun c => absurd c (by decide), fun _ => ⟨fun _ => ⟨⟨hn0, hn⟩, ⟨fun _ => ⟨fun c => ?_, fun _ => fin⟩, fun _ => fin⟩⟩, fun _ => fin⟩⟩
    rw [w32_id (by omega) (by omega)] at c
    omega
  | succ m ih =>
    intro p v i z s M hp hR hk hz hz0 hzp hfp hv0 hv1 his hmode kE kO
    have wi : w32 i = i := by rcases his with rfl | ⟨rfl, -⟩ <;> decide
    have hbb := rb_b hb p
    have hlo : -9223372036854775808 ≤ nLo below := by cases below <;> decide
    have wv : w64 v = v := w64_id (by omega) (by omega)
    have hdg : jDgt (rg bt N p) ↔ ¬ rb bt N p < 48 ∧ ¬ 57 < rb bt N p := by
      show (¬ rg bt N p < 48 ∧ ¬ 57 < rg bt N p) ↔ _
      rw [g_lt hb (c := 48) (k := 48) rfl (by decide), g_gt hb (c := 57) (k := 57) rfl (by decide)]
    have fin : ¬ jDgt (rg bt N p) → zt_X10_number_243 l s0 G ca d C S w0 t n (nBv below) i v M Q X := by
      intro hnd
      have hj : jDig (rg bt N) (nBo below) (m + 1) p (Int32.ofInt i) s = (p, Int32.ofInt i, s) := if_neg hnd
      rw [hj] at kE kO
      unfold zt_X10_number_243
      refine ⟨⟨hn0, hn⟩, ?_⟩
      refine q_need Γ (by omega) hok ht (fun c => kE ?_ _ (by rw [hfp]; exact eY_zu zf8.rf)) (fun c => ?_)
      · rw [wi] at c
        show Int32.ofInt i = 0
        rw [c]
        rfl
      · rw [wi] at c
        have hi1 : i = 1 ∧ s = Int64.ofInt v := his.resolve_left c
        have K := kO v (by show ¬ Int32.ofInt i = 0; rw [hi1.1]; decide) hi1.2 hv0 hv1
        rw [wbv]
        have fr : ∀ x : Int, rNumP t bt N dp W L n M (zu M (t + 4) n x) p x := fun x => ⟨by
          obtain ⟨g1, g2, g3, g4, g5, g6⟩ := hR
          exact ⟨by rw [zu_a (by omega), g1], by rw [zu_a (by omega), g2], by rw [zu_a (by omega), g3], by rw [zu_a (by omega), g4], by rw [zu_a (by omega), g5], fun j => by rw [zu_a (by omega), g6]⟩, zu_s _ _ _ _, fun b j b1 b2 b3 => by
          by_cases c9 : b = t + 4
          · exact zu_k (fun e => b3 ⟨c9, e⟩)
          · exact zu_a c9⟩
        cases below
        · exact ⟨fun _ => K _ (fr _), fun c9 => absurd rfl c9⟩
        · exact ⟨fun c9 => absurd c9 (by decide), fun _ => K _ (fr _)⟩
    refine zs_X10_number_95 Γ (by omega) hok ht ?_
    unfold zt_X10_number_95
    refine q_look Γ hok ht hb hR hp ?_
    rw [rb_w hb]
    refine ⟨fun c => fin (fun h => (hdg.mp h).1 c), fun c1 => ?_⟩
    refine q_look Γ hok ht hb hR hp ?_
    rw [rb_w hb]
    refine ⟨fun c => fin (fun h => (hdg.mp h).2 c), fun c2 => ?_⟩
    have hD : jDgt (rg bt N p) := hdg.mpr ⟨c1, c2⟩
    have hlt : p < N := jDgt_lt (rg_T hb) hD
    have hdgt : rg bt N p - 48 = Int32.ofInt (rb bt N p - 48) := by rw [Int32.ofInt_sub]; rfl
    have hj : jDig (rg bt N) (nBo below) (m + 1) p (Int32.ofInt i) s = jDig (rg bt N) (nBo below) m (p + 1) (jDin (nBo below) (rg bt N p - 48) (Int32.ofInt i) s) (jDsu (rg bt N p - 48) (jDin (nBo below) (rg bt N p - 48) (Int32.ofInt i) s) s) := if_pos hD
    rw [hj] at kE kO
    have e3 : ((p + 1 : Nat) : Int) = (p : Int) + 1 := by omega
    -- one digit more, good or not
    have go : ∀ (i' v' : Int) (s' : Int64), jDin (nBo below) (rg bt N p - 48) (Int32.ofInt i) s = Int32.ofInt i' → (i' = 1 → jDsu (rg bt N p - 48) (Int32.ofInt i') s = Int64.ofInt v') → (i' = 0 ∨ i' = 1) → nLo below ≤ v' → v' ≤ 0 → (zi = 1 → v' = 0) → zt_X10_number_218 l s0 G ca d C S w0 t n (nBv below) zi i' v' M Q X := by
      intro i' v' _ hji hjs hi' hv0' hv1' hzv
      rw [hji] at kE kO
      unfold zt_X10_number_218
      refine ⟨⟨hn0, hn⟩, ?_⟩
      rw [hz, hR.2.1, ← e3]
      have hRa : RS (zu M (t + 5) n (z + 1)) t bt N p dp W L := by
        obtain ⟨g1, g2, g3, g4, g5, g6⟩ := hR
        exact ⟨by rw [zu_a (by omega), g1], by rw [zu_a (by omega), g2], by rw [zu_a (by omega), g3], by rw [zu_a (by omega), g4], by rw [zu_a (by omega), g5], fun j => by rw [zu_a (by omega), g6]⟩
      refine ih (p + 1) v' i' (z + 1) (jDsu (rg bt N p - 48) (Int32.ofInt i') s) _ (by omega) (hRa.pos (p + 1)) (by rw [zu_a (by omega), zu_a (by omega), hk]) (by rw [zu_a (by omega), zu_s]) (by omega) (by omega) (by rw [zu_a (by omega), zu_a (by omega), hfp]) hv0' hv1' (hi'.imp id (fun h => ⟨h, hjs h⟩)) ?_ (fun h M1 hM1 => kE h M1 (hM1.of ((zf8.rf.zu (by omega) (by omega)).zu (by omega) (by omega)))) (fun v9 h1 h2 h3 h4 M1 hM1 => kO v9 h1 h2 h3 h4 M1 ⟨hM1.1, hM1.2.1, fun b j b1 b2 b3 => ?_⟩)
      · rcases hmode with ⟨h1, h2⟩ | ⟨h1, h2, ⟨h3, h4, h5⟩ | ⟨h3, h4⟩⟩
        · exact Or.inl ⟨h1, by omega⟩
        · exact Or.inr ⟨h1, hzv h1, Or.inr ⟨by omega, by omega⟩⟩
        · omega
      · rw [hM1.2.2 b j b1 b2 b3, (zu_ne (fun c9 => b1 ⟨c9.1, by have := c9.2; omega⟩))]
        by_cases c9 : b = t + 5
        · exact zu_k (fun e => b2 ⟨c9, e⟩)
        · exact zu_a c9
    have hjd : i = 1 → jDin (nBo below) (rg bt N p - 48) (Int32.ofInt i) s = if (-922337203685477580 < v ∨ (v = -922337203685477580 ∧ rb bt N p - 48 ≤ if below = true then 8 else 7)) then 1 else 0 := by
      intro h1
      have hs := (his.resolve_left (by omega)).2
      rw [hdgt, hs, h1]
      have := jDin_eq (below := below) (i := 1) (v := v) (dg := rb bt N p - 48) (Or.inr rfl) (by omega) (by omega) (by omega) (by omega)
      simp only [true_and] at this
      exact this
    have bad : (i = 0 ∨ ¬ (-922337203685477580 < v ∨ (v = -922337203685477580 ∧ rb bt N p - 48 ≤ if below = true then 8 else 7))) → zt_X10_number_195 l s0 G ca d C S w0 t n (nBv below) zi v (rb bt N p - 48) M Q X := by
      intro h
      unfold zt_X10_number_195 zt_X10_number_196
      refine ⟨fun _ => ?_, fun c => absurd (by decide) c⟩
      refine go 0 v 0 ?_ (fun h => absurd h (by decide)) (Or.inl rfl) hv0 hv1 (fun h1 => by rcases hmode with ⟨h9, -⟩ | ⟨-, h9, -⟩ <;> omega)
      rcases his with h0 | h1
      · rw [h0]; rfl
      · rw [hjd h1.1, if_neg (h.resolve_left (by omega))]; rfl
    have good : i = 1 → (-922337203685477580 < v ∨ (v = -922337203685477580 ∧ rb bt N p - 48 ≤ if below = true then 8 else 7)) → zt_X10_number_191 l s0 G ca d C S w0 t n (nBv below) zi v (rb bt N p - 48) M Q X := by
      intro h1 h2
      have hs := (his.resolve_left (by omega)).2
      unfold zt_X10_number_191 zt_X10_number_196
      refine ⟨fun c => absurd c (by decide), fun _ => ?_⟩
      rw [w32_id (x := rb bt N p - 48) (by omega) (by omega)]
      refine go 1 (10 * v - (rb bt N p - 48)) 0 (by rw [hjd h1, if_pos h2]; rfl) (fun _ => ?_) (Or.inr rfl) ?_ (by omega) (fun hz1 => ?_)
      · unfold jDsu
        rw [if_neg (by decide), hs, hdgt]
        rw [Int64.ofInt_sub, Int64.ofInt_mul, Int64.mul_comm]
        congr 1
        rw [← Int64.toInt_inj, Int32.toInt_toInt64, z_toI, z_toL, w32_id (by omega) (by omega), w64_id (by omega) (by omega)]
      · cases below
        · have h3 : -922337203685477580 < v ∨ (v = -922337203685477580 ∧ rb bt N p - 48 ≤ 7) := h2
          show -9223372036854775807 ≤ _
          omega
        · have h3 : -922337203685477580 < v ∨ (v = -922337203685477580 ∧ rb bt N p - 48 ≤ 8) := h2
          show -9223372036854775808 ≤ _
          omega
      · -- with a first 0 the digit is 0
        rcases hmode with ⟨h9, -⟩ | ⟨-, h9, ⟨-, -, h8⟩ | ⟨h8, -⟩⟩ <;> omega
    have mid : zt_X10_number_143 l s0 G ca d C S w0 t n (nBv below) zi i v M Q X := by
      unfold zt_X10_number_143
      refine q_look Γ hok ht hb hR hp ?_
      rw [wi, wv]
      refine ⟨fun c => bad (Or.inl c), fun c => ?_⟩
      have hi1 := (his.resolve_left c).1
      refine ⟨fun c3 => good hi1 (Or.inl c3), fun c3 => ⟨fun c4 => ?_, fun c4 => bad (Or.inr (by omega))⟩⟩
      rw [wbv]
      have w88 : w32 (rb bt N p - 48) = rb bt N p - 48 := w32_id (by omega) (by omega)
      cases below
      · refine ⟨fun _ => ?_, fun c9 => absurd rfl c9⟩
        unfold zt_X10_number_188
        rw [w88, show w32 7 = 7 from by decide]
        exact ⟨fun c5 => bad (Or.inr (fun h => by have h3 : -922337203685477580 < v ∨ (v = -922337203685477580 ∧ rb bt N p - 48 ≤ 7) := h; omega)), fun c5 => good hi1 (Or.inr ⟨c4, show rb bt N p - 48 ≤ 7 by omega⟩)⟩
      · refine ⟨fun c9 => absurd c9 (by decide), fun _ => ?_⟩
        unfold zt_X10_number_188
        rw [w88, show w32 8 = 8 from by decide]
        exact ⟨fun c5 => bad (Or.inr (fun h => by have h3 : -922337203685477580 < v ∨ (v = -922337203685477580 ∧ rb bt N p - 48 ≤ 8) := h; omega)), fun c5 => good hi1 (Or.inr ⟨c4, show rb bt N p - 48 ≤ 8 by omega⟩)⟩
    rcases hmode with ⟨h1, h2⟩ | ⟨h1, h2, ⟨h3, h4, h5⟩ | ⟨h3, h4⟩⟩
    · refine ⟨fun _ => mid, fun c => absurd (by rw [h1]; decide) c⟩
    · refine ⟨fun c => absurd c (by rw [h1]; decide), fun _ => ?_⟩
      rw [wv, hk, hz, h4]
      exact ⟨fun _ => ⟨⟨hn0, hn⟩, ⟨fun _ => ⟨fun _ => mid, fun c => absurd (by decide) c⟩, fun c => absurd (by decide) c⟩⟩, fun c => absurd h2 c⟩
    · omega
end RV2
