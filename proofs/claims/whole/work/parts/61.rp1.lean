/-! ===== the reference's Text: strings ===== -/
def hxI (c : Int) : Int := if c < 48 then -1 else if c ≤ 57 then c - 48 else if 97 ≤ c ∧ c ≤ 102 then c - 97 + 10 else if 65 ≤ c ∧ c ≤ 70 then c - 65 + 10 else -1
theorem hxI_all : ∀ k : Fin 256, jHex (Int32.ofInt ((k : Nat) - 128)) = Int32.ofInt (hxI ((k : Nat) - 128)) := by decide +kernel
theorem hxI_eq {c : Int} (h0 : -128 ≤ c) (h1 : c < 128) : jHex (Int32.ofInt c) = Int32.ofInt (hxI c) := by
  have := hxI_all ⟨(c + 128).toNat, by omega⟩
  simp only at this
  rw [show (((c + 128).toNat : Nat) : Int) - 128 = c from by omega] at this
  exact this
theorem hxI_b (c : Int) : -1 ≤ hxI c ∧ hxI c < 16 := by unfold hxI; repeat' split <;> omega
def esI (c : Int) : Int := if c = 34 then 34 else if c = 92 then 92 else if c = 47 then 47 else if c = 98 then 8 else if c = 102 then 12 else if c = 110 then 10 else if c = 114 then 13 else if c = 116 then 9 else -1
theorem esI_all : ∀ k : Fin 256, jEsc (Int32.ofInt ((k : Nat) - 128)) = Int32.ofInt (esI ((k : Nat) - 128)) := by decide +kernel
theorem esI_eq {c : Int} (h0 : -128 ≤ c) (h1 : c < 128) : jEsc (Int32.ofInt c) = Int32.ofInt (esI c) := by
  have := esI_all ⟨(c + 128).toNat, by omega⟩
  simp only at this
  rw [show (((c + 128).toNat : Nat) : Int) - 128 = c from by omega] at this
  exact this
theorem esI_b (c : Int) : -1 ≤ esI c ∧ esI c < 128 := by unfold esI; repeat' split <;> omega
theorem zix_es (c : Int) : zix [34, 92, 47, 98, 102, 110, 114, 116] c 0 = if c = 34 then 0 else if c = 92 then 1 else if c = 47 then 2 else if c = 98 then 3 else if c = 102 then 4 else if c = 110 then 5 else if c = 114 then 6 else if c = 116 then 7 else -1 := by
  simp only [zix, eq_comm (b := c)]
  rfl
theorem i2c_ok {c : Int} (h0 : 0 ≤ c) (h1 : c < 128) : ((Int32.ofInt c).toUInt32 % 65536).toInt32 = Int32.ofInt c := by
  have key : ∀ k : Fin 128, ((Int32.ofInt ((k : Nat) : Int)).toUInt32 % 65536).toInt32 = Int32.ofInt ((k : Nat) : Int) := by decide +kernel
  have := key ⟨c.toNat, by omega⟩
  simp only [Int.toNat_of_nonneg h0] at this
  exact this
/-- outside the block of the Text at t nothing has changed -/
theorem zu_ne {M : zM} {a k v b j : Int} (h : ¬ (b = a ∧ j = k)) : zu M a k v b j = M b j := if_neg h
def zf8 (t : Int) (M M1 : zM) : Prop := ∀ b j : Int, (b < t ∨ t + 8 < b ∨ (b = t ∧ 15 < j)) → M1 b j = M b j
theorem zf8.rf {t : Int} {M : zM} : zf8 t M M := fun _ _ _ => rfl
theorem zf8.tr {t : Int} {M M1 M2 : zM} (h1 : zf8 t M M1) (h2 : zf8 t M1 M2) : zf8 t M M2 := fun b j h => (h2 b j h).trans (h1 b j h)
theorem zf8.zu {t : Int} {M M1 : zM} (h : zf8 t M M1) {a k v : Int} (h0 : t ≤ a) (h1 : a ≤ t + 8 ∧ (a = t → k ≤ 15)) : zf8 t M (zu M1 a k v) := fun b j hb => (zu_ne (fun c => by
  obtain ⟨c1, c2⟩ := c
  have h2 := h1.2
  omega)).trans (h b j hb)
/-- outside the block of the Text at t nothing has changed -/
def zfr (t : Int) (M M1 : zM) : Prop := ∀ b j : Int, (b < t ∨ t + 21 < b) → M1 b j = M b j
theorem zfr.rf {t : Int} {M : zM} : zfr t M M := fun _ _ _ => rfl
theorem zfr.tr {t : Int} {M M1 M2 : zM} (h1 : zfr t M M1) (h2 : zfr t M1 M2) : zfr t M M2 := fun b j h => (h2 b j h).trans (h1 b j h)
theorem zfr.zu {t : Int} {M M1 : zM} (h : zfr t M M1) {a k v : Int} (h0 : t ≤ a) (h1 : a ≤ t + 21) : zfr t M (zu M1 a k v) := fun b j hb => (zu_a (by omega)).trans (h b j hb)
theorem zf8.w {t : Int} {M M1 : zM} (h : zf8 t M M1) : zfr t M M1 := fun b j hb => h b j (by omega)
def eX (t : Int) (M M1 : zM) (c e : Int) : Prop := M1 t 4 = c ∧ M1 t 5 = e ∧ zfr t M M1
theorem eX.of {t : Int} {M M1 M2 : zM} {c e : Int} (h : zfr t M M1) (h2 : eX t M1 M2 c e) : eX t M M2 c e := ⟨h2.1, h2.2.1, h.tr h2.2.2⟩
theorem eX_zu {t : Int} {M M1 : zM} {c e : Int} (h : zfr t M M1) : eX t M (zu (zu M1 t 4 c) t 5 e) c e := ⟨by rw [zu_k (by decide), zu_s], zu_s _ _ _ _, (h.zu (by omega) (by omega)).zu (by omega) (by omega)⟩
/-- a fault has been told: 1, at e -/
def eY (t : Int) (M M1 : zM) (c e : Int) : Prop := M1 t 4 = c ∧ M1 t 5 = e ∧ zf8 t M M1
theorem eY.of {t : Int} {M M1 M2 : zM} {c e : Int} (h : zf8 t M M1) (h2 : eY t M1 M2 c e) : eY t M M2 c e := ⟨h2.1, h2.2.1, h.tr h2.2.2⟩
theorem eY_zu {t : Int} {M M1 : zM} {c e : Int} (h : zf8 t M M1) : eY t M (zu (zu M1 t 4 c) t 5 e) c e := ⟨by rw [zu_k (by decide), zu_s], zu_s _ _ _ _, (h.zu (by omega) (by omega)).zu (by omega) (by omega)⟩
section RQ
variable {l : Launch} {s0 : State} {a0 : Array Value} {G : va_G} {ca : Nat → ClassId} {d : Nat} {C : Nat × Nat} {S : zS} {t : Int} {M : zM} {Q : Int → zM → Prop} {X : zM → Prop} {bt : Int → Int} {N p dp W L : Nat}
theorem q_hex (Γ : rt_Γ l s0 a0 G ca) (hok : zok C) {c : Int} (h0 : -128 ≤ c) (h1 : c < 128) (h : Q (hxI c) M) : zm_X10_hex l s0 G ca d C S c M Q X := by
  refine z_X10_hex Γ hok ?_
  unfold zt_X10_hex zt_X10_hex_19 zt_X10_hex_41
  rw [w32_id (by omega) (by omega)]
  unfold hxI at h
  have A : ∀ P : Prop, (¬ (48 ≤ c ∧ c ≤ 57) → P) → (¬ (48 ≤ c ∧ c ≤ 57) → P) := fun _ x => x
  have key : ¬ (48 ≤ c ∧ c ≤ 57) → zIf (c < 97) (zIf (c < 65) (Q (-1) M) (zIf (70 < c) (Q (-1) M) (Q (c - 65 + 10) M))) (zIf (102 < c) (zIf (c < 65) (Q (-1) M) (zIf (70 < c) (Q (-1) M) (Q (c - 65 + 10) M))) (Q (c - 97 + 10) M)) := by
    intro hc
    refine ⟨fun c1 => ⟨fun c2 => ?_, fun c2 => ⟨fun c3 => ?_, fun c3 => ?_⟩⟩, fun c1 => ⟨fun c2 => ⟨fun c3 => by omega, fun c3 => ⟨fun c4 => ?_, fun c4 => by omega⟩⟩, fun c2 => ?_⟩⟩
    · by_cases z : c < 48
      · rw [if_pos z] at h; exact h
      · rw [if_neg z, if_neg (by omega), if_neg (by omega), if_neg (by omega)] at h; exact h
    · rw [if_neg (by omega), if_neg (by omega), if_neg (by omega), if_neg (by omega)] at h; exact h
    · rw [if_neg (by omega), if_neg (by omega), if_neg (by omega), if_pos (by omega)] at h; exact h
    · rw [if_neg (by omega), if_neg (by omega), if_neg (by omega), if_neg (by omega)] at h; exact h
    · rw [if_neg (by omega), if_neg (by omega), if_pos (by omega)] at h; exact h
  refine ⟨fun c1 => key (by omega), fun c1 => ⟨fun c2 => key (by omega), fun c2 => ?_⟩⟩
  rw [if_neg (by omega), if_pos (by omega)] at h
  exact h
/-- four digits from p on, k of them left, with the sum s -/
theorem q_fourL (Γ : rt_Γ l s0 a0 G ca) (hd : 4 ≤ d) (hok : zok C) (ht : zTx S t) (hb : rOk bt N) {w0 : rt_Wd} {from9 : Nat} (hf : from9 ≤ N) : ∀ (k p : Nat) (s : Int) (M : zM), k ≤ 4 → p ≤ N → 0 ≤ s → s < 16 ^ (4 - k) → RS M t bt N p dp W L →
    (∀ e : Nat, jFour (rg bt N) k p (Int32.ofInt s) = .error e → ∀ M1 : zM, eY t M M1 1 e → X M1) →
    (∀ r : Int, jFour (rg bt N) k p (Int32.ofInt s) = .ok (Int32.ofInt r) → 0 ≤ r → r < 65536 → (r < 256 → Q r (zu M t 2 ((p + k : Nat) : Int))) ∧ (256 ≤ r → ∀ M1 : zM, eY t M M1 1 from9 → X M1)) →
    zg_X10_escaped_135 l s0 G ca d C S w0 t from9 s (4 - k) M Q X := by
  intro k
  induction k with
  | zero =>
    intro p s M h4 hp h0 h1 hR kE kO
    refine zs_X10_escaped_135 Γ (by omega) hok ht ?_
    unfold zt_X10_escaped_135
    have hs : s < 65536 := h1
    obtain ⟨k1, k2⟩ := kO s rfl h0 hs
    refine ⟨fun _ => ?_, fun c => absurd (show (4 : Int) ≤ w32 (4 - 0) from by decide) (by simpa using c)⟩
    rw [w32_id (by omega) (by omega)]
    refine ⟨fun c => q_need0 Γ (by omega) hok ht (k2 c _ (eY_zu zf8.rf)), fun c => q_need1 Γ (by omega) hok ht ?_⟩
    have := k1 (by omega)
    rw [Nat.add_zero, zu_id hR.2.1] at this
    exact this
  | succ k ih =>
    intro p s M h4 hp h0 h1 hR kE kO
    refine zs_X10_escaped_135 Γ (by omega) hok ht ?_
    unfold zt_X10_escaped_135
    have hw : w32 ((4 : Int) - ((k + 1 : Nat) : Int)) = 4 - ((k + 1 : Nat) : Int) := w32_id (by omega) (by omega)
    rw [hw]
    refine ⟨fun c => by omega, fun _ => ?_⟩
    refine q_look Γ hok ht hb hR hp ?_
    have hbb := rb_b hb p
    refine q_hex Γ hok hbb.1 hbb.2 ?_
    have hh := hxI_b (rb bt N p)
    have hx : jHex (rg bt N p) = Int32.ofInt (hxI (rb bt N p)) := hxI_eq hbb.1 hbb.2
    have hm1 : jHex (rg bt N p) = -1 ↔ hxI (rb bt N p) = -1 := by
      rw [hx]
      have := z_eq (hxI (rb bt N p)) (-1)
      rw [w32_id (x := hxI (rb bt N p)) (by omega) (by omega), show w32 (-1) = -1 from by decide] at this
      exact this
    rw [w32_id (by omega) (by omega)]
    have h2 := hR.2.1
    refine ⟨fun c => ?_, fun c => ?_⟩
    · unfold zt_X10_escaped_157
      refine q_need0 Γ (by omega) hok ht ?_
      rw [h2]
      refine kE p ?_ _ (eY_zu zf8.rf)
      show (if jHex (rg bt N p) = -1 then Except.error p else _) = _
      rw [if_pos (hm1.mpr (by omega))]
    · unfold zt_X10_escaped_157
      refine q_need1 Γ (by omega) hok ht ?_
      refine q_look Γ hok ht hb hR hp ?_
      refine q_hex Γ hok hbb.1 hbb.2 ?_
      have hne : ¬ jHex (rg bt N p) = -1 := fun e => by have := hm1.mp e; omega
      have hlt : p < N := (rg_T hb).lt (fun e => hne (by rw [e]; decide))
      have e1 : (4 : Int) - ((k + 1 : Nat) : Int) + 1 = 4 - (k : Int) := by omega
      have e2 : jFour (rg bt N) (k + 1) p (Int32.ofInt s) = jFour (rg bt N) k (p + 1) (Int32.ofInt (16 * s + hxI (rb bt N p))) := by
        show (if jHex (rg bt N p) = -1 then Except.error p else jFour (rg bt N) k (p + 1) (Int32.ofInt s * 16 + jHex (rg bt N p))) = _
        rw [if_neg hne, hx, Int32.ofInt_add, Int32.ofInt_mul, Int32.mul_comm]
        rfl
      have e3 : ((p + 1 : Nat) : Int) = (p : Int) + 1 := by omega
      rw [e1, h2, ← e3]
      have hpow : (16 : Int) ^ (4 - k) = 16 * 16 ^ (4 - (k + 1)) := by
        rw [show 4 - k = 4 - (k + 1) + 1 from by omega, Int.pow_succ]
        omega
      refine ih (p + 1) _ _ (by omega) (by omega) (by omega) (by omega) (hR.pos (p + 1)) (fun e he M1 hM1 => kE e (e2.trans he) M1 (hM1.of (zf8.rf.zu (by omega) (by omega)))) (fun r hr r0 r1 => ?_)
      obtain ⟨k1, k2⟩ := kO r (e2.trans hr) r0 r1
      refine ⟨fun c9 => ?_, fun c9 M1 hM1 => k2 c9 M1 (hM1.of (zf8.rf.zu (by omega) (by omega)))⟩
      rw [zu_zu, show p + 1 + k = p + (k + 1) from by omega]
      exact k1 c9
/-- what a backslash at p tells, and where it ends -/
def jEs (g : Nat → Int32) (p : Nat) : Except Nat (Int32 × Nat) :=
  if g (p + 1) = 117 then
    match jFour g 4 (p + 2) 0 with
    | .error q => .error q
    | .ok s => if s ≤ 255 then .ok (s, p + 6) else .error p
  else if jEsc (g (p + 1)) = -1 then .error (p + 1) else .ok (jEsc (g (p + 1)), p + 2)
theorem jFour_b {g : Nat → Int32} {bt : Int → Int} {N : Nat} (hb : rOk bt N) (hg : g = rg bt N) : ∀ (k p : Nat) (s : Int), k ≤ 4 → 0 ≤ s → s < 16 ^ (4 - k) → ∀ r : Int32, jFour g k p (Int32.ofInt s) = .ok r → ∃ r9 : Int, r = Int32.ofInt r9 ∧ 0 ≤ r9 ∧ r9 < 65536 := by
  intro k
  induction k with
  | zero =>
    intro p s _ h0 h1 r hr
    exact ⟨s, (Except.ok.inj hr).symm, h0, h1⟩
  | succ k ih =>
    intro p s hk h0 h1 r hr
    subst hg
    have hbb := rb_b hb p
    have hh := hxI_b (rb bt N p)
    have hx : jHex (rg bt N p) = Int32.ofInt (hxI (rb bt N p)) := hxI_eq hbb.1 hbb.2
    by_cases c : jHex (rg bt N p) = -1
    · exact nomatch (if_pos c).symm.trans hr
    · have hr2 := (if_neg c).symm.trans hr
      have hn : ¬ hxI (rb bt N p) = -1 := fun e => c (by rw [hx, e]; rfl)
      have hpow : (16 : Int) ^ (4 - k) = 16 * 16 ^ (4 - (k + 1)) := by
        rw [show 4 - k = 4 - (k + 1) + 1 from by omega, Int.pow_succ]
        omega
      refine ih (p + 1) (16 * s + hxI (rb bt N p)) (by omega) (by omega) (by omega) r ?_
      rw [Int32.ofInt_add, Int32.ofInt_mul, ← hx, Int32.mul_comm]
      exact hr2
theorem q_escaped (Γ : rt_Γ l s0 a0 G ca) (hd : 5 ≤ d) (hok : zok C) (ht : zTx S t) (hb : rOk bt N) (hR : RS M t bt N p dp W L) (hp : p < N)
    (kE : ∀ e : Nat, jEs (rg bt N) p = .error e → ∀ M1 : zM, eY t M M1 1 e → X M1)
    (kO : ∀ (r : Int) (q : Nat), jEs (rg bt N) p = .ok (Int32.ofInt r, q) → 0 ≤ r → r < 256 → Q r (zu M t 2 q)) : zm_X10_escaped l s0 G ca d C S t M Q X := by
  refine z_X10_escaped Γ (by omega) hok ht ?_
  unfold zt_X10_escaped
  have h2 := hR.2.1
  rw [h2]
  have e3 : ((p + 1 : Nat) : Int) = (p : Int) + 1 := by omega
  rw [← e3]
  have hR1 := hR.pos (p + 1)
  refine q_look Γ hok ht hb hR1 (by omega) ?_
  have hbb := rb_b hb (p + 1)
  rw [rb_w hb]
  have hes : jEsc (rg bt N (p + 1)) = Int32.ofInt (esI (rb bt N (p + 1))) := esI_eq hbb.1 hbb.2
  have heb := esI_b (rb bt N (p + 1))
  have g117 : rg bt N (p + 1) = 117 ↔ rb bt N (p + 1) = 117 := g_eq hb rfl (by decide)
  have fr1 : zf8 t M (zu M t 2 ((p + 1 : Nat) : Int)) := zf8.rf.zu (by omega) (by omega)
  -- what is no letter of the eight
  have none9 : esI (rb bt N (p + 1)) = -1 → zm_X10_take l s0 G ca (d - 1) C S t 117 (zu M t 2 ((p + 1 : Nat) : Int)) (fun r126 M126 => zg_X10_escaped_135 l s0 G ca d C S (zw s0 ca C S M) t p 0 0 M126 Q X) X := by
    intro en
    have em1 : jEsc (rg bt N (p + 1)) = -1 := by rw [hes, en]; rfl
    refine q_take Γ (by omega) hok ht hb hR1 (by omega) (by decide) (fun c => ?_) (fun c => ?_)
    · have hlt : p + 1 < N := (rg_T hb).lt (by rw [g117.mpr c]; decide)
      rw [zu_zu]
      have hE : ∀ {x : Except Nat (Int32 × Nat)}, (match jFour (rg bt N) 4 (p + 2) 0 with | .error q => Except.error q | .ok s => if s ≤ 255 then .ok (s, p + 6) else .error p) = x → jEs (rg bt N) p = x := fun hx => (if_pos (g117.mpr c)).trans hx
      refine q_fourL Γ (by omega) hok ht hb (by omega) 4 (p + 1 + 1) 0 _ (by omega) (by omega) (by omega) (by decide) (hR.pos (p + 1 + 1)) (fun e he M1 hM1 => kE e (hE ?_) M1 (hM1.of (zf8.rf.zu (by omega) (by omega)))) (fun r hr r0 r1 => ⟨fun c9 => ?_, fun c9 M1 hM1 => kE p (hE ?_) M1 (hM1.of (zf8.rf.zu (by omega) (by omega)))⟩)
      · have he' : jFour (rg bt N) 4 (p + 2) 0 = .error e := he
        rw [he']
      · have hr' : jFour (rg bt N) 4 (p + 2) 0 = .ok (Int32.ofInt r) := hr
        rw [zu_zu]
        refine kO r (p + 1 + 1 + 4) (hE ?_) r0 c9
        rw [hr']
        exact if_pos ((z_le r 255).mpr (by rw [w32_id (by omega) (by omega), show w32 255 = 255 from by decide]; omega))
      · have hr' : jFour (rg bt N) 4 (p + 2) 0 = .ok (Int32.ofInt r) := hr
        rw [hr']
        exact if_neg (fun cc => by have := (z_le r 255).mp cc; rw [w32_id (by omega) (by omega), show w32 255 = 255 from by decide] at this; omega)
    · refine kE (p + 1) ?_ _ (eY_zu fr1)
      unfold jEs
      rw [if_neg (fun e => c (g117.mp e)), if_pos em1]
  have some9 : ∀ v : Int, esI (rb bt N (p + 1)) = v → 0 ≤ v → Q v (zu (zu M t 2 ((p + 1 : Nat) : Int)) t 2 ((zu M t 2 ((p + 1 : Nat) : Int)) t 2 + 1)) := by
    intro v hv v0
    rw [zu_s, zu_zu]
    have n117 : ¬ rb bt N (p + 1) = 117 := fun e => by rw [e] at hv; have : esI 117 = -1 := by decide
                                                       omega
    have := kO v (p + 2) ?_ v0 (by omega)
    · rw [show ((p + 2 : Nat) : Int) = ((p + 1 : Nat) : Int) + 1 from by omega] at this
      exact this
    · unfold jEs
      rw [if_neg (fun e => n117 (g117.mp e)), hes, hv, if_neg]
      intro e
      have := (z_eq v (-1)).mp (by rw [e]; rfl)
      rw [w32_id (by omega) (by omega), show w32 (-1) = -1 from by decide] at this
      omega
  refine ⟨fun c0 => fun q28 hq28 => ⟨⟨c0, by omega, i2c_ok c0 hbb.2⟩, ⟨c0, hbb.2⟩, ?_⟩, fun c0 => ?_⟩
  · unfold zt_X10_escaped_35
    rw [zix_es]
    unfold esI at none9 some9
    by_cases c1 : rb bt N (p + 1) = 34
    · simp only [if_pos c1] at some9 ⊢
      exact ⟨fun x => absurd x (by decide), fun _ => ⟨fun _ => some9 34 rfl (by decide), fun x => absurd (show w32 0 = 0 by decide) x⟩⟩
    by_cases c2 : rb bt N (p + 1) = 92
    · simp only [if_neg c1, if_pos c2] at some9 ⊢
      exact ⟨fun x => absurd x (by decide), fun _ => ⟨fun x => absurd x (by decide), fun _ => ⟨fun _ => some9 92 rfl (by decide), fun x => absurd (show w32 1 = 1 by decide) x⟩⟩⟩
    by_cases c3 : rb bt N (p + 1) = 47
    · simp only [if_neg c1, if_neg c2, if_pos c3] at some9 ⊢
      exact ⟨fun x => absurd x (by decide), fun _ => ⟨fun x => absurd x (by decide), fun _ => ⟨fun x => absurd x (by decide), fun _ => ⟨fun _ => some9 47 rfl (by decide), fun x => absurd (show w32 2 = 2 by decide) x⟩⟩⟩⟩
    by_cases c4 : rb bt N (p + 1) = 98
    · simp only [if_neg c1, if_neg c2, if_neg c3, if_pos c4] at some9 ⊢
      exact ⟨fun x => absurd x (by decide), fun _ => ⟨fun x => absurd x (by decide), fun _ => ⟨fun x => absurd x (by decide), fun _ => ⟨fun x => absurd x (by decide), fun _ => ⟨fun _ => some9 8 rfl (by decide), fun x => absurd (show w32 3 = 3 by decide) x⟩⟩⟩⟩⟩
    by_cases c5 : rb bt N (p + 1) = 102
    · simp only [if_neg c1, if_neg c2, if_neg c3, if_neg c4, if_pos c5] at some9 ⊢
      exact ⟨fun x => absurd x (by decide), fun _ => ⟨fun x => absurd x (by decide), fun _ => ⟨fun x => absurd x (by decide), fun _ => ⟨fun x => absurd x (by decide), fun _ => ⟨fun x => absurd x (by decide), fun _ => ⟨fun _ => some9 12 rfl (by decide), fun x => absurd (show w32 4 = 4 by decide) x⟩⟩⟩⟩⟩⟩
    by_cases c6 : rb bt N (p + 1) = 110
    · simp only [if_neg c1, if_neg c2, if_neg c3, if_neg c4, if_neg c5, if_pos c6] at some9 ⊢
      exact ⟨fun x => absurd x (by decide), fun _ => ⟨fun x => absurd x (by decide), fun _ => ⟨fun x => absurd x (by decide), fun _ => ⟨fun x => absurd x (by decide), fun _ => ⟨fun x => absurd x (by decide), fun _ => ⟨fun x => absurd x (by decide), fun _ => ⟨fun _ => some9 10 rfl (by decide), fun x => absurd (show w32 5 = 5 by decide) x⟩⟩⟩⟩⟩⟩⟩
    by_cases c7 : rb bt N (p + 1) = 114
    · simp only [if_neg c1, if_neg c2, if_neg c3, if_neg c4, if_neg c5, if_neg c6, if_pos c7] at some9 ⊢
      exact ⟨fun x => absurd x (by decide), fun _ => ⟨fun x => absurd x (by decide), fun _ => ⟨fun x => absurd x (by decide), fun _ => ⟨fun x => absurd x (by decide), fun _ => ⟨fun x => absurd x (by decide), fun _ => ⟨fun x => absurd x (by decide), fun _ => ⟨fun x => absurd x (by decide), fun _ => ⟨fun _ => some9 13 rfl (by decide), fun x => absurd (show w32 6 = 6 by decide) x⟩⟩⟩⟩⟩⟩⟩⟩
    by_cases c8 : rb bt N (p + 1) = 116
    · simp only [if_neg c1, if_neg c2, if_neg c3, if_neg c4, if_neg c5, if_neg c6, if_neg c7, if_pos c8] at some9 ⊢
      exact ⟨fun x => absurd x (by decide), fun _ => ⟨fun x => absurd x (by decide), fun _ => ⟨fun x => absurd x (by decide), fun _ => ⟨fun x => absurd x (by decide), fun _ => ⟨fun x => absurd x (by decide), fun _ => ⟨fun x => absurd x (by decide), fun _ => ⟨fun x => absurd x (by decide), fun _ => ⟨fun x => absurd x (by decide), fun _ => some9 9 rfl (by decide)⟩⟩⟩⟩⟩⟩⟩⟩
    simp only [if_neg c1, if_neg c2, if_neg c3, if_neg c4, if_neg c5, if_neg c6, if_neg c7, if_neg c8] at none9 ⊢
    exact ⟨fun _ => none9 trivial, fun x => absurd (show w32 (-1) < 0 by decide) x⟩
  · unfold zt_X10_escaped_35
    refine ⟨fun _ => none9 ?_, fun x => absurd (show w32 (-1) < 0 by decide) x⟩
    unfold esI
    rw [if_neg (by omega), if_neg (by omega), if_neg (by omega), if_neg (by omega), if_neg (by omega), if_neg (by omega), if_neg (by omega), if_neg (by omega)]
end RQ
