/-! ===== the class's draft is sDra ===== -/
section UDs
variable {l : Launch} {s0 : State} {a0 : Array Value} {G : va_G} {ca : Nat → ClassId} {d : Nat} {C : Nat × Nat} {S : zS} {M : zM} {Q : Int → zM → Prop} {X : zM → Prop} {xs : List JR} {v : Nat} {p : Int} {NU U W P nd : Nat} {st : SS}
theorem c_clrL (Γ : rt_Γ l s0 a0 G ca) (hd : 2 ≤ d) (hok : zok C) (hp : zSc S p) {w0 : rt_Wd} {M0 : zM} (hQ : ∀ M1 : zM, M1 (p + 1) 1 = 6 → (∀ i : Nat, i < 6 → M1 (p + 2) i = i) → (M1 (p + 8) 0 = 0 ∧ M1 (p + 8) 1 = 1 ∧ ∀ i : Nat, 2 ≤ i → i < 6 → M1 (p + 8) i = -1) → M1 (p + 13) 1 = 0 → M1 (p + 21) 1 = 0 → M1 (p + 23) 1 = 0 → (∀ a : Int, ¬ (a = p ∨ a = p + 1 ∨ a = p + 2 ∨ a = p + 8 ∨ a = p + 13 ∨ a = p + 21 ∨ a = p + 23) → M1 a = M0 a) → Q 0 M1) : ∀ (r k : Nat) (M : zM), k + r = 6 → M (p + 1) 1 = (k : Int) → (∀ i : Nat, i < k → M (p + 2) i = i) → (∀ i : Nat, i < k → M (p + 8) i = -1) → (∀ a : Int, ¬ (a = p + 1 ∨ a = p + 2 ∨ a = p + 8) → M a = M0 a) → zg_X6_clear_10 l s0 G ca d C S w0 p k M Q X := by
  have c1 := hp.2.2.1
  intro r
  induction r with
  | zero =>
    intro k M hk h1 h2 h3 hf
    refine zs_X6_clear_10 Γ (by omega) hok hp ?_
    unfold zt_X6_clear_10
    rw [w32_id (by omega) (by omega)]
    refine ⟨fun _ => ?_, fun c => by omega⟩
    rw [zput_in (by decide) (by decide) (by decide), zput_in (by decide) (by decide) (by decide), zcut_in (by decide) (by decide) (by decide), zcut_in (by decide) (by decide) (by decide), zcut_in (by decide) (by decide) (by decide)]
    refine hQ _ ?_ (fun i hi => ?_) ⟨?_, ?_, fun i hi hi6 => ?_⟩ ?_ ?_ ?_ (fun a ha => ?_)
    · rw [zu_a (by omega), zu_a (by omega), zu_a (by omega), zu_a (by omega), zu_a (by omega), zu_a (by omega), h1]
      omega
    · rw [zu_a (by omega), zu_a (by omega), zu_a (by omega), zu_a (by omega), zu_a (by omega), zu_a (by omega)]
      exact h2 i (by omega)
    · rw [zu_a (by omega), zu_a (by omega), zu_a (by omega), zu_a (by omega), zu_k (by omega), zu_s]
    · rw [zu_a (by omega), zu_a (by omega), zu_a (by omega), zu_a (by omega), zu_s]
    · rw [zu_a (by omega), zu_a (by omega), zu_a (by omega), zu_a (by omega), zu_k (by omega), zu_k (by omega)]
      exact h3 i (by omega)
    · rw [zu_a (by omega), zu_a (by omega), zu_a (by omega), zu_s]
    · rw [zu_a (by omega), zu_a (by omega), zu_s]
    · rw [zu_a (by omega), zu_s]
    · rw [← hf a (by omega)]
      funext j
      rw [zu_a (by omega), zu_a (by omega), zu_a (by omega), zu_a (by omega), zu_a (by omega), zu_a (by omega)]
  | succ r ih =>
    intro k M hk h1 h2 h3 hf
    refine zs_X6_clear_10 Γ (by omega) hok hp ?_
    unfold zt_X6_clear_10
    rw [w32_id (by omega) (by omega)]
    refine ⟨fun c => by omega, fun _ => ?_⟩
    obtain ⟨e1, -⟩ := zadd_in (c := p + 1) (a := p + 2) (n := 134) (x := (k : Int)) h1 (by omega) (by omega) (by omega) (by decide)
    rw [e1, zput_in (by omega) (by omega) (by decide), show (k : Int) + 1 = ((k + 1 : Nat) : Int) by omega]
    refine ih (k + 1) _ (by omega) ?_ (fun i hi => ?_) (fun i hi => ?_) (fun a ha => ?_)
    · rw [zu_a (by omega), zu_s]
    · rw [zu_a (by omega), zu_a (by omega)]
      by_cases c : i = k
      · subst c
        exact zu_s _ _ _ _
      · rw [zu_k (by omega)]
        exact h2 i (by omega)
    · by_cases c : i = k
      · subst c
        exact zu_s _ _ _ _
      · rw [zu_k (by omega), zu_a (by omega), zu_a (by omega)]
        exact h3 i (by omega)
    · rw [← hf a ha]
      funext j
      rw [zu_a (by omega), zu_a (by omega), zu_a (by omega)]
theorem c_clr (Γ : rt_Γ l s0 a0 G ca) (hd : 2 ≤ d) (hok : zok C) (hp : zSc S p) (hQ : ∀ M1 : zM, M1 (p + 1) 1 = 6 → (∀ i : Nat, i < 6 → M1 (p + 2) i = i) → (M1 (p + 8) 0 = 0 ∧ M1 (p + 8) 1 = 1 ∧ ∀ i : Nat, 2 ≤ i → i < 6 → M1 (p + 8) i = -1) → M1 (p + 13) 1 = 0 → M1 (p + 21) 1 = 0 → M1 (p + 23) 1 = 0 → (∀ a : Int, ¬ (a = p ∨ a = p + 1 ∨ a = p + 2 ∨ a = p + 8 ∨ a = p + 13 ∨ a = p + 21 ∨ a = p + 23) → M1 a = M a) → Q 0 M1) : zm_X6_clear l s0 G ca d C S p M Q X := by
  refine z_X6_clear Γ (by omega) hok hp ?_
  unfold zt_X6_clear
  rw [zcut_in (by decide) (by decide) (by decide)]
  refine c_clrL (M0 := M) Γ hd hok hp hQ 6 0 _ rfl (zu_s _ _ _ _) (fun i hi => absurd hi (Nat.not_lt_zero _)) (fun i hi => absurd hi (Nat.not_lt_zero _)) (fun a ha => ?_)
  funext j
  rw [zu_a (by omega)]
theorem c_draft (Γ : rt_Γ l s0 a0 G ca) (hd : 200 ≤ d) (hok : zok C) (hS : dSh S p) (h0 : 0 < xs.length) (hX : xL xs) (hH : hA xs) (hWt : 12 * xs.length + jLw xs ≤ 8192) (hT : cTx M xs) (h3 : M 24 3 = p)
    (kE : ∀ e : Nat × Nat, sDra xs = .error e → ∀ M1 : zM, M1 24 7 = (e.2 : Int) → M1 24 3 = p → drf p M M1 → 0 < e.1 ∧ e.1 < 100 → Q e.1 M1)
    (kO : ∀ (n : Nat) (st : SS), sDra xs = .ok (n, st) → sFin xs n st → ∀ (M1 : zM) (NU U : Nat), pS M1 p xs n st NU U → M1 24 7 = -1 → M1 24 3 = p → drf p M M1 → Q 0 M1) : zm_X1_draft l s0 G ca d C S 6 M Q X := by
  have hS0 := hS
  obtain ⟨hs, hp, h24, h25, h6, hp0⟩ := hS
  have hw := hT.2.1
  have hl := hT.2.2
  refine z_X1_draft Γ (by omega) hok hs h6 h24 h25 ?_
  unfold zt_X1_draft
  rw [h3]
  refine zIf_f (by decide) ⟨hp, ?_⟩
  refine c_clr Γ (by omega) hok hp (fun M1 c1 c2 c8 c11 c19 c21 cf => ?_)
  rw [zcut_in (by decide) (by decide) (by decide), zcut_in (by decide) (by decide) (by decide)]
  have f1 : ∀ a : Int, ¬ (a = p ∨ a = p + 1 ∨ a = p + 2 ∨ a = p + 8 ∨ a = p + 13 ∨ a = p + 21 ∨ a = p + 23) → ∀ j : Int, ¬ (a = 24 ∧ j = 4) → M1 a j = M a j := fun a ha j hj => by
    rw [cf a ha]
    exact if_neg hj
  have e3 : zu (zu M1 26 1 0) 28 1 0 24 3 = p := by
    rw [zu_a (by decide), zu_a (by decide), f1 24 (by omega) 3 (by decide)]
    exact h3
  generalize hM2 : zu (zu (zu (zu (zu M1 26 1 0) 28 1 0) 24 5 0) 24 6 0) 24 7 (-1) = M2
  have b5 : M2 24 5 = 0 := by rw [← hM2, zu_k (by decide), zu_k (by decide), zu_s]
  have b6 : M2 24 6 = 0 := by rw [← hM2, zu_k (by decide), zu_s]
  have b7 : M2 24 7 = -1 := by rw [← hM2, zu_s]
  have b3 : M2 24 3 = p := by rw [← hM2, zu_k (by decide), zu_k (by decide), zu_k (by decide)]; exact e3
  have b4 : M2 24 4 = 6 := by rw [← hM2, zu_k (by decide), zu_k (by decide), zu_k (by decide), zu_a (by decide), zu_a (by decide), cf 24 (by omega), zu_s]
  have b26 : M2 26 1 = 0 := by rw [← hM2, zu_a (by decide), zu_a (by decide), zu_a (by decide), zu_a (by decide), zu_s]
  have b28 : M2 28 1 = 0 := by rw [← hM2, zu_a (by decide), zu_a (by decide), zu_a (by decide), zu_s]
  have fr : ∀ a j : Int, ¬ a = 24 → ¬ a = 26 → ¬ a = 28 → M2 a j = M1 a j := fun a j n1 n2 n3 => by rw [← hM2, zu_a n1, zu_a n1, zu_a n1, zu_a n3, zu_a n2]
  have hdr : drf p M M2 := fun a ha => funext fun j => by
    rw [fr a j (by omega) (by omega) (by omega)]
    exact f1 a (by omega) j (by omega)
  clear hM2
  have hT2 : cTx M2 xs := hT.fr (fun a h1 h2 => hdr a (by omega))
  have hC : sC M2 p 0 (0, 0, [], []) := by
    refine ⟨⟨b5, b6, b7⟩, ⟨?_, ?_, ?_, ?_⟩, fun i hi => ?_, fun i n hi => ?_, fun P hP => absurd hP (Nat.not_lt_zero _), ⟨b26, b28, fun i z hz => ?_⟩, Nat.le_refl _, Nat.zero_le _, Nat.zero_le _, Nat.zero_le _, Nat.le_refl _, fun z hz => (nomatch hz), ⟨by rw [fr _ _ (by omega) (by omega) (by omega)]; exact c8.1, by rw [fr _ _ (by omega) (by omega) (by omega)]; exact c8.2.1, fun i h1 h2 => by rw [fr _ _ (by omega) (by omega) (by omega)]; exact c8.2.2 i h1 h2⟩, fun i n hi => ?_, fun i n hi => ?_⟩
    · rw [fr _ _ (by omega) (by omega) (by omega)]; exact c1
    · rw [fr _ _ (by omega) (by omega) (by omega)]; exact c11
    · rw [fr _ _ (by omega) (by omega) (by omega)]; exact c19
    · rw [fr _ _ (by omega) (by omega) (by omega)]; exact c21
    · rw [fr _ _ (by omega) (by omega) (by omega)]; exact c2 i hi
    · have : (SS.ns (0, 0, [], []))[i]? = none := rfl
      rw [this] at hi
      exact nomatch hi
    · have : (sLate (SS.ns (0, 0, [], [])) (SS.lt (0, 0, [], [])))[i]? = none := rfl
      rw [this] at hz
      exact nomatch hz
    · rw [show (SS.ns (0, 0, [], []))[i]? = none from rfl] at hi
      exact nomatch hi
    · rw [show (SS.ns (0, 0, [], []))[i]? = none from rfl] at hi
      exact nomatch hi
  have k1 : kOk (0, 0, [], []) := fun i m hm => by
    have : (SS.ns (0, 0, [], []))[i]? = none := rfl
    rw [this] at hm
    exact nomatch hm
  have hw0 : wS xs 0 (xx xs 0).sz ≤ jLw xs := by
    have h9 := wS_sub (xs := xs) (i := 0) (j := 0) (a := xs.length) (b := (xx xs 0).sz) (Nat.le_refl _) (by have := (jWf_at hw h0).2.2.2.1; omega)
    rw [wS_all] at h9
    exact h9
  have hsz := (jWf_at hw h0).2.2.2.1
  refine z24 (p := p) h24 b3 b4 ?_
  show zm_X1_look l s0 G ca (d - 1) C (S24 S p) ((0 : Nat) : Int) ((16 - 16 : Nat) : Int) (bB false) M2 _ _
  refine c_look Γ hok hS0.s24 16 (Nat.le_refl _) (d - 1) 0 false (0, 0, [], []) M2 0 _ _ (by omega) h0 hT2 hC k1 (by omega) (by show 0 + _ ≤ _; omega) (fun e he => ?_) (fun n st he => ?_)
  · intro x M3 g1 g2
    refine ⟨by rw [e3]; exact hp, ?_⟩
    rw [e3]
    have hd4 : ∀ y : Int, drf p M (zu (zu (zu M3 24 4 6) 24 3 p) p 12 y) := fun y => (((hdr.tr g2.d).zu (by omega)).zu (by omega)).zu (by omega)
    obtain ⟨s1, s2, s3, s4⟩ := g1
    have hne : sDra xs = .error e := by
      unfold sDra sTop
      rw [he]
    refine zs_X1_draft_65 Γ (by omega) hok hs h6 h24 h25 ?_
    unfold zt_X1_draft_65
    have e6 : ∀ y : Int, zu (zu (zu M3 24 4 6) 24 3 p) p 12 y 24 6 = (e.1 : Int) := fun y => by
      rw [zu_a (by omega), zu_k (by decide), zu_k (by decide)]
      exact s1
    rw [e6]
    have fin := fun y : Int => kE e hne (zu (zu (zu M3 24 4 6) 24 3 p) p 12 y) (by rw [zu_a (by omega), zu_k (by decide), zu_k (by decide)]; exact s2) (by rw [zu_a (by omega), zu_s]) (hd4 y) ⟨s3, s4⟩
    exact ⟨fun _ => fin _, fun _ => ⟨fun c => by rw [w32_id (by omega) (by omega)] at c; omega, fun _ => fin _⟩⟩
  · intro M3 NU3 g1 g2 g3 g4
    refine ⟨by rw [e3]; exact hp, ?_⟩
    rw [e3]
    have htop : sTop xs = .ok (n, st) := he
    have hfin := sTop_fin hw h0 htop
    have hd4 : drf p M (zu (zu (zu M3 24 4 6) 24 3 p) p 12 (n : Int)) := (((hdr.tr g4.d).zu (by omega)).zu (by omega)).zu (by omega)
    generalize hM5 : zu (zu (zu M3 24 4 6) 24 3 p) p 12 (n : Int) = M5 at hd4
    have fr5 : ∀ a j : Int, ¬ (a = 24 ∧ (j = 4 ∨ j = 3)) → ¬ (a = p ∧ j = 12) → M5 a j = M3 a j := fun a j n1 n2 => by
      rw [← hM5]
      unfold zu
      rw [if_neg n2, if_neg (fun h => n1 ⟨h.1, Or.inr h.2⟩), if_neg (fun h => n1 ⟨h.1, Or.inl h.2⟩)]
    have d11 : M5 p 12 = (n : Int) := by rw [← hM5, zu_s]
    have d3 : M5 24 3 = p := by rw [← hM5, zu_a (by omega), zu_s]
    have d4 : M5 24 4 = 6 := by rw [← hM5, zu_a (by omega), zu_k (by decide), zu_s]
    clear hM5
    have hT5 : cTx M5 xs := hT.fr (fun a h1 h2 => hd4 a (by omega))
    have hG5 : gC M5 p NU3 st := g1.g.fr (fun a h => funext fun j => fr5 a j (by omega) (by omega))
    obtain ⟨⟨a5, a6, a7⟩, ⟨a1, a11, a19, a21⟩, -, -, a16, ⟨a26, a28, aL⟩, -, a128, -, -, alt, -, -⟩ := g1
    have hlW := hfin.2.2.2.2.2.2.1
    have hdw : dW xs 0 ≤ 8192 := by unfold dW; omega
    show zg_X1_draft_65 l s0 G ca d C S _ ((sLate st.ns []).length : Nat) M5 Q X
    refine c_lateL Γ (by omega) hok hS0 hfin hw hX hH (Nat.le_trans alt a128) st.lt [] 0 M5 rfl hT5 hG5 ⟨d11, by rw [fr5 _ _ (by omega) (by omega)]; exact a11⟩ ⟨by rw [fr5 _ _ (by omega) (by omega)]; exact a26, fun i z hz => by rw [fr5 _ _ (by omega) (by omega), fr5 _ _ (by omega) (by omega)]; exact aL i z hz⟩ d3 d4 (by rw [fr5 _ _ (by omega) (by omega)]; exact a6) (by rw [fr5 _ _ (by omega) (by omega)]; exact a7) (by rw [fr5 _ _ (by omega) (by omega)]; exact a21) (by omega) ⟨fun z hz => (nomatch hz), fun P hP _ => by rw [fr5 _ _ (by omega) (by omega)]; exact (a16 P hP).1⟩ (fun e he2 M6 q1 q2 q3 => ?_) (fun hn M6 U6 q1 q2 q3 q4 => ?_)
    · refine kE (12, e) ?_ M6 q1 q2 (hd4.tr q3) (show (0 : Nat) < 12 ∧ 12 < 100 by decide)
      unfold sDra
      rw [htop]
      dsimp only
      rw [he2]
    · refine kO n st ?_ hfin M6 NU3 U6 q1 q2 q3 (hd4.tr q4)
      unfold sDra
      rw [htop]
      dsimp only
      rw [hn]
end UDs
