/-! ===== the reference's Text: six words, names, faults ===== -/
section RYs
variable {l : Launch} {s0 : State} {a0 : Array Value} {G : va_G} {ca : Nat → ClassId} {d : Nat} {C : Nat × Nat} {S : zS} {M : zM} {Q : Int → zM → Prop} {X : zM → Prop} {xs : List JR} {v : Nat} {t : Int}
/-- a string's node -/
theorem r_str (hT : rTx M t xs) (hv : v < xs.length) (hk : (xx xs v).kd = 3) : ∃ L : Nat, rStr M t (rP xs v : Nat) L (xx xs v).ws ∧ L + (xx xs v).ws.length ≤ 2000 ∧ rP xs v < 4000 := by
  obtain ⟨-, h2, h3, -, h5⟩ := rTx_at hT hv
  exact ⟨_, h2.2.2.2.1 hk, h5 hk, h3⟩
theorem r_said (Γ : rt_Γ l s0 a0 G ca) (hd : 4 ≤ d) (hok : zok C) (ht : zTx S t) (hT : rTx M t xs) (hv : v < xs.length) (hk : (xx xs v).kd = 3) {w : Nat} {wb : List Int} (hw : zstr s0 w wb) (hQ : Q (bI ((xx xs v).ws = iw wb)) M) : zm_X10_is l s0 G ca d C S t (rP xs v : Nat) w M Q X := by
  obtain ⟨L, h1, h2, h3⟩ := r_str hT hv hk
  exact r_is Γ hd hok ht hw (by omega) (by omega) h1 (by omega) hQ
theorem r_word (Γ : rt_Γ l s0 a0 G ca) (hd : 5 ≤ d) (hok : zok C) (ht : zTx S t) (hT : rTx M t xs) (hv : v < xs.length) (hk : (xx xs v).kd = 3) (hQ : Q (oI (sSix (xx xs v).ws)) M) : zm_X10_word l s0 G ca d C S t (rP xs v : Nat) M Q X := by
  refine z_X10_word Γ (by omega) hok ht ?_
  unfold zt_X10_word
  unfold sSix at hQ
  intro q2 h2
  refine r_said Γ (by omega) hok ht hT hv hk h2 ⟨fun c1 => ?_, fun c1 => ?_⟩
  case refine_2 => rw [if_pos (Decidable.not_not.mp (fun h => c1 (w32_bI.mpr h)))] at hQ; exact hQ
  rw [if_neg (w32_bI.mp c1)] at hQ
  intro q3 h3
  refine r_said Γ (by omega) hok ht hT hv hk h3 ⟨fun c1 => ?_, fun c1 => ?_⟩
  case refine_2 => rw [if_pos (Decidable.not_not.mp (fun h => c1 (w32_bI.mpr h)))] at hQ; exact hQ
  rw [if_neg (w32_bI.mp c1)] at hQ
  intro q4 h4
  refine r_said Γ (by omega) hok ht hT hv hk h4 ⟨fun c1 => ?_, fun c1 => ?_⟩
  case refine_2 => rw [if_pos (Decidable.not_not.mp (fun h => c1 (w32_bI.mpr h)))] at hQ; exact hQ
  rw [if_neg (w32_bI.mp c1)] at hQ
  intro q5 h5
  refine r_said Γ (by omega) hok ht hT hv hk h5 ⟨fun c1 => ?_, fun c1 => ?_⟩
  case refine_2 => rw [if_pos (Decidable.not_not.mp (fun h => c1 (w32_bI.mpr h)))] at hQ; exact hQ
  rw [if_neg (w32_bI.mp c1)] at hQ
  intro q6 h6
  refine r_said Γ (by omega) hok ht hT hv hk h6 ⟨fun c1 => ?_, fun c1 => ?_⟩
  case refine_2 => rw [if_pos (Decidable.not_not.mp (fun h => c1 (w32_bI.mpr h)))] at hQ; exact hQ
  rw [if_neg (w32_bI.mp c1)] at hQ
  intro q7 h7
  refine r_said Γ (by omega) hok ht hT hv hk h7 ⟨fun c1 => ?_, fun c1 => ?_⟩
  case refine_2 => rw [if_pos (Decidable.not_not.mp (fun h => c1 (w32_bI.mpr h)))] at hQ; exact hQ
  rw [if_neg (w32_bI.mp c1)] at hQ
  exact hQ
theorem r_nam0 (Γ : rt_Γ l s0 a0 G ca) (hok : zok C) (ht : zTx S t) {w0 : rt_Wd} {n k : Int} (hn0 : 0 ≤ n) (hn : n < 4200) (hQ : Q 0 M) : zg_X10_isName_38 l s0 G ca d C S w0 t n 0 k M Q X := by
  refine zs_X10_isName_38 Γ hok ht ?_
  unfold zt_X10_isName_38
  exact ⟨⟨hn0, hn⟩, fun _ => ⟨Or.inl rfl, hQ⟩, fun _ => ⟨fun _ => ⟨Or.inl rfl, hQ⟩, fun c => absurd (by decide) c⟩⟩
theorem r_namL (Γ : rt_Γ l s0 a0 G ca) (hok : zok C) (ht : zTx S t) {w0 : rt_Wd} {n : Int} (hn0 : 0 ≤ n) (hn : n < 4200) {L : Nat} {ws : List Int32} (hs : rStr M t n L ws) (hL : L + ws.length ≤ 4200) : ∀ r k : Nat, k + r = ws.length → Q (bI (sChr (ws.drop k) k = true)) M → zg_X10_isName_38 l s0 G ca d C S w0 t n 1 k M Q X := by
  obtain ⟨k1, k2, k3, k4⟩ := hs
  intro r
  induction r with
  | zero =>
    intro k hk hQ
    refine zs_X10_isName_38 Γ hok ht ?_
    unfold zt_X10_isName_38
    rw [k3, w32_id (by omega) (by omega), w32_id (by omega) (by omega)]
    refine ⟨⟨hn0, hn⟩, fun _ => ⟨Or.inr rfl, ?_⟩, fun c => by omega⟩
    rw [List.drop_of_length_le (by omega)] at hQ
    exact hQ
  | succ r ih =>
    intro k hk hQ
    have hdr : ws.drop k = ws.getD k 0 :: ws.drop (k + 1) := by
      rw [List.getD_eq_getElem?_getD, List.getElem?_eq_getElem (show k < ws.length by omega)]
      exact List.drop_eq_getElem_cons (by omega)
    rw [hdr] at hQ
    unfold sChr at hQ
    obtain ⟨x1, x2, x3⟩ := k4 k (by omega)
    generalize hc : (ws.getD k 0).toInt = b at hQ x1 x2 x3
    have hb8 := w8_b b
    have hlow : b < 128 → w8 b = b := fun h => w8_id (by omega) h
    have hhi : ¬ b < 128 → w8 b < 0 := fun h => by
      unfold w8
      rw [Int.bmod_def]
      split <;> omega
    refine zs_X10_isName_38 Γ hok ht ?_
    unfold zt_X10_isName_38
    rw [k3, k2, show (L : Int) + (k : Int) = ((L + k : Nat) : Int) by omega, x1]
    generalize hB : w8 b = B at hb8 hlow hhi
    rw [w32_id (x := (ws.length : Int)) (by omega) (by omega), w32_id (x := (k : Int)) (by omega) (by omega), w32_id (x := B) (by omega) (by omega)]
    have e1 : (k : Int) + 1 = ((k + 1 : Nat) : Int) := by omega
    have yes : sLet b → zg_X10_isName_38 l s0 G ca d C S w0 t n 1 ((k : Int) + 1) M Q X := fun h => by
      rw [e1]
      refine ih (k + 1) (by omega) ?_
      rw [decide_eq_true h, Bool.true_or, Bool.true_and] at hQ
      exact hQ
    have yesd : (48 ≤ b ∧ b ≤ 57) → 0 < k → zg_X10_isName_38 l s0 G ca d C S w0 t n 1 ((k : Int) + 1) M Q X := fun h h2 => by
      rw [e1]
      refine ih (k + 1) (by omega) ?_
      rw [decide_eq_true h, decide_eq_true h2, Bool.true_and, Bool.or_true, Bool.true_and] at hQ
      exact hQ
    have no : ¬ sLet b → ¬ (0 < k ∧ 48 ≤ b ∧ b ≤ 57) → zg_X10_isName_38 l s0 G ca d C S w0 t n 0 ((k : Int) + 1) M Q X := fun h h2 => by
      have e : (decide (sLet b) || (decide (0 < k) && decide (48 ≤ b ∧ b ≤ 57))) = false := by
        rw [decide_eq_false h, Bool.false_or, ← Bool.decide_and]
        exact decide_eq_false h2
      rw [e, Bool.false_and] at hQ
      exact r_nam0 Γ hok ht hn0 hn hQ
    have hlet : sLet b ↔ ((97 ≤ B ∧ B ≤ 122) ∨ (65 ≤ B ∧ B ≤ 90) ∨ B = 95) := by
      by_cases c : b < 128
      · rw [hlow c]
      · have := hhi c
        exact ⟨fun h => by omega, fun h => by omega⟩
    have hdig : (48 ≤ b ∧ b ≤ 57) ↔ (48 ≤ B ∧ B ≤ 57) := by
      by_cases c : b < 128
      · rw [hlow c]
      · have := hhi c
        exact ⟨fun h => by omega, fun h => by omega⟩
    clear hlow hhi hc x1
    have t117 : ∀ v5 : Int, (v5 = 0 ∨ v5 = 1) → (v5 = 1 ↔ 48 ≤ B ∧ B ≤ 57) → ¬ (97 ≤ B ∧ B ≤ 122) → ¬ (65 ≤ B ∧ B ≤ 90) → zt_X10_isName_117 l s0 G ca d C S w0 t n k B v5 M Q X := by
      intro v5 h5 g5 n1 n2
      unfold zt_X10_isName_117
      rw [w32_id (x := B) (by omega) (by omega), w32_id (x := v5) (by omega) (by omega), w32_id (x := (k : Int)) (by omega) (by omega)]
      refine ⟨fun c1 => yes (hlet.mpr (Or.inr (Or.inr c1))), fun c1 => ?_⟩
      have nl : ¬ sLet b := fun h => by have := hlet.mp h; omega
      exact ⟨fun c2 => no nl (fun h => by have := g5.mpr (hdig.mp h.2); omega), fun c2 => ⟨fun c3 => no nl (fun h => by omega), fun c3 => yesd (hdig.mpr (g5.mp (by omega))) (by omega)⟩⟩
    have t103 : ∀ v5 : Int, (v5 = 0 ∨ v5 = 1) → (v5 = 1 ↔ 48 ≤ B ∧ B ≤ 57) → ¬ (97 ≤ B ∧ B ≤ 122) → zt_X10_isName_103 l s0 G ca d C S w0 t n k B v5 M Q X := by
      intro v5 h5 g5 n1
      unfold zt_X10_isName_103
      rw [w32_id (x := B) (by omega) (by omega)]
      exact ⟨fun c => t117 v5 h5 g5 n1 (by omega), fun c => ⟨fun c2 => yes (hlet.mpr (Or.inr (Or.inl ⟨by omega, c2⟩))), fun c2 => t117 v5 h5 g5 n1 (by omega)⟩⟩
    have t87 : ∀ v5 : Int, (v5 = 0 ∨ v5 = 1) → (v5 = 1 ↔ 48 ≤ B ∧ B ≤ 57) → zt_X10_isName_87 l s0 G ca d C S w0 t n k B v5 M Q X := by
      intro v5 h5 g5
      unfold zt_X10_isName_87
      rw [w32_id (x := B) (by omega) (by omega)]
      exact ⟨fun c => t103 v5 h5 g5 (by omega), fun c => ⟨fun c2 => yes (hlet.mpr (Or.inl ⟨by omega, c2⟩)), fun c2 => t103 v5 h5 g5 (by omega)⟩⟩
    refine ⟨⟨hn0, hn⟩, fun c => by omega, fun _ => ⟨fun c => absurd c (by decide), fun _ => ⟨⟨by omega, by omega⟩, fun c1 => ?_, fun c1 => ⟨fun c2 => ?_, fun c2 => ?_⟩⟩⟩⟩
    · unfold zt_X10_isName_86
      exact t87 0 (Or.inl rfl) ⟨fun h => absurd h (by decide), fun h => by omega⟩
    · unfold zt_X10_isName_86
      exact t87 0 (Or.inl rfl) ⟨fun h => absurd h (by decide), fun h => by omega⟩
    · exact t87 1 (Or.inr rfl) ⟨fun _ => ⟨by omega, by omega⟩, fun _ => rfl⟩
theorem r_nam (Γ : rt_Γ l s0 a0 G ca) (hok : zok C) (ht : zTx S t) (hT : rTx M t xs) (hv : v < xs.length) (hQ : Q (bI ((xx xs v).kd = 3 ∧ sNam (xx xs v).ws = true)) M) : zm_X10_isName l s0 G ca d C S t (rP xs v : Nat) M Q X := by
  refine z_X10_isName Γ hok ht ?_
  unfold zt_X10_isName
  obtain ⟨-, h2, h3, -, -⟩ := rTx_at hT hv
  have hkv := (jWf_at hT.2.1 hv).1
  have hk1 := h2.1
  rw [hk1, w32_id (x := ((xx xs v).kd : Int) - 1) (by omega) (by omega)]
  refine ⟨⟨by omega, by omega⟩, fun c => ?_, fun c => ?_⟩
  · have hk : (xx xs v).kd = 3 := by omega
    obtain ⟨L, g1, g2, g3⟩ := r_str hT hv hk
    rw [g1.2.2.1, w32_id (by omega) (by omega)]
    unfold bI sNam at hQ
    refine ⟨fun c1 => ?_, fun c1 => ⟨fun c2 => ?_, fun c2 => ?_⟩⟩
    · rw [if_neg (fun h => by rw [decide_eq_false (by omega), Bool.false_and] at h; exact nomatch h.2)] at hQ
      exact r_nam0 Γ hok ht (by omega) (by omega) hQ
    · rw [if_neg (fun h => by rw [decide_eq_false (by omega), Bool.false_and] at h; exact nomatch h.2)] at hQ
      exact r_nam0 Γ hok ht (by omega) (by omega) hQ
    · refine r_namL Γ hok ht (by omega) (by omega) g1 (by omega) _ 0 (Nat.zero_add _) ?_
      unfold bI
      by_cases cs : sChr (xx xs v).ws 0 = true
      · rw [if_pos ⟨hk, by rw [decide_eq_true (by omega), Bool.true_and]; exact cs⟩] at hQ
        rw [if_pos (by exact cs)]
        exact hQ
      · rw [if_neg (fun h => cs (by have := h.2; rw [decide_eq_true (by omega), Bool.true_and] at this; exact this))] at hQ
        rw [if_neg (by exact cs)]
        exact hQ
  · unfold bI at hQ
    rw [if_neg (fun h => c (by rw [h.1]; rfl))] at hQ
    exact r_nam0 Γ hok ht (by omega) (by omega) hQ
/-- need: a fault is thrown, or nothing is done -/
theorem r_need (Γ : rt_Γ l s0 a0 G ca) (hd : 1 ≤ d) (hok : zok C) (ht : zTx S t) {g c w : Int} (hX : w32 g = 0 → ∀ M1 : zM, eX t M M1 c w → X M1) (hQ : ¬ w32 g = 0 → Q 0 M) : zm_X10_need l s0 G ca d C S t g c w M Q X := by
  refine z_X10_need Γ hd hok ht ?_
  unfold zt_X10_need
  refine ⟨fun c1 => z_X10_fail Γ hok ht ?_, hQ⟩
  unfold zt_X10_fail
  exact hX c1 _ ⟨by rw [zu_k (by decide), zu_s], zu_s _ _ _ _, (zfr.rf.zu (by omega) (by omega)).zu (by omega) (by omega)⟩
end RYs
