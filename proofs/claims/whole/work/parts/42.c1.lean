/-! ===== Cells: the small methods' promises ===== -/
def zat (M : zM) (a : Int) (n : Nat) (x : Int) : Int := if w32 x < 0 then 0 else if (n : Int) ≤ w32 x then 0 else M a (w32 x)
def zpeek (M : zM) (c a : Int) (n : Nat) (x : Int) : Int := if w32 x < 0 then -1 else if w32 (M c 1) ≤ w32 x then -1 else if (n : Int) ≤ w32 x then -1 else M a (w32 x)
def zput (M : zM) (a : Int) (n : Nat) (x v : Int) : zM := if w32 x < 0 then M else if (n : Int) ≤ w32 x then M else zu M a (w32 x) v
def zaddv (M : zM) (c : Int) (n : Nat) : Int := if w32 (M c 1) < 0 then 0 else if w32 (M c 1) < (n : Int) then 1 else 0
def zadd (M : zM) (c a : Int) (n : Nat) (x : Int) : zM := if w32 (M c 1) < 0 then M else if w32 (M c 1) < (n : Int) then zu (zu M a (w32 (M c 1)) x) c 1 (zu M a (w32 (M c 1)) x c 1 + 1) else M
def zcut (M : zM) (c : Int) (n : Nat) (k : Int) : zM := if w32 k < 0 then M else if (n : Int) < w32 k then M else zu M c 1 k
theorem zat_in {M : zM} {a : Int} {n : Nat} {x : Int} (h0 : 0 ≤ x) (h1 : x < (n : Int)) (hn : (n : Int) ≤ 2147483648) : zat M a n x = M a x := by
  unfold zat
  rw [w32_id (by omega) (by omega), if_neg (by omega), if_neg (by omega)]
theorem zput_in {M : zM} {a : Int} {n : Nat} {x v : Int} (h0 : 0 ≤ x) (h1 : x < (n : Int)) (hn : (n : Int) ≤ 2147483648) : zput M a n x v = zu M a x v := by
  unfold zput
  rw [w32_id (by omega) (by omega), if_neg (by omega), if_neg (by omega)]
theorem zat_neg {M : zM} {a : Int} {n : Nat} : zat M a n (-1) = 0 := by
  unfold zat
  rw [if_pos (by decide)]
theorem zpeek_in {M : zM} {c a : Int} {n : Nat} {x u : Int} (hu : M c 1 = u) (h0 : 0 ≤ x) (h1 : x < u) (h2 : u ≤ (n : Int)) (hn : (n : Int) < 2147483648) : zpeek M c a n x = M a x := by
  unfold zpeek
  rw [hu, w32_id (x := x) (by omega) (by omega), w32_id (x := u) (by omega) (by omega), if_neg (by omega), if_neg (by omega), if_neg (by omega)]
theorem zpeek_out {M : zM} {c a : Int} {n : Nat} {x u : Int} (hu : M c 1 = u) (h0 : 0 ≤ u) (h1 : u ≤ x) (h2 : x < 2147483648) : zpeek M c a n x = -1 := by
  unfold zpeek
  rw [hu, w32_id (x := x) (by omega) (by omega), w32_id (x := u) (by omega) (by omega), if_neg (by omega), if_pos (by omega)]
theorem zadd_in {M : zM} {c a : Int} {n : Nat} {x u : Int} (hu : M c 1 = u) (hca : ¬ c = a) (h0 : 0 ≤ u) (h1 : u < (n : Int)) (hn : (n : Int) < 2147483648) : zadd M c a n x = zu (zu M a u x) c 1 (u + 1) ∧ zaddv M c n = 1 := by
  unfold zadd zaddv
  have e1 : ¬ u < 0 := by omega
  simp only [hu, w32_id (x := u) (by omega) (by omega), if_neg e1, if_pos h1, zu_a hca, and_self]
theorem zadd_full {M : zM} {c a : Int} {n : Nat} {x u : Int} (hu : M c 1 = u) (h0 : 0 ≤ u) (h1 : (n : Int) ≤ u) (hn : u < 2147483648) : zadd M c a n x = M ∧ zaddv M c n = 0 := by
  unfold zadd zaddv
  have e1 : ¬ u < 0 := by omega
  have e2 : ¬ u < (n : Int) := by omega
  simp only [hu, w32_id (x := u) (by omega) (by omega), if_neg e1, if_neg e2, and_self]
theorem zcut_in {M : zM} {c : Int} {n : Nat} {k : Int} (h0 : 0 ≤ k) (h1 : k ≤ (n : Int)) (hn : (n : Int) < 2147483648) : zcut M c n k = zu M c 1 k := by
  unfold zcut
  rw [w32_id (x := k) (by omega) (by omega), if_neg (by omega), if_neg (by omega)]
section K0
variable {l : Launch} {s0 : State} {a0 : Array Value} {G : va_G} {ca : Nat → ClassId} {d : Nat} {C : Nat × Nat} {S : zS} {c a : Int} {n : Nat} {M : zM} {Q : Int → zM → Prop} {X : zM → Prop}
theorem k_X0_count (Γ : rt_Γ l s0 a0 G ca) (hok : zok C) (hc : zCe S c a n) (h : Q (M c 1) M) : zm_X0_count l s0 G ca d C S c M Q X := z_X0_count Γ hok hc h
theorem k_X0_at (Γ : rt_Γ l s0 a0 G ca) (hok : zok C) (hc : zCe S c a n) {i : Int} (h : Q (zat M a n i) M) : zm_X0_at l s0 G ca d C S c i M Q X := by
  have hn := hc.2.2.1
  refine z_X0_at Γ hok hc ?_
  unfold zt_X0_at
  unfold zat at h
  rw [w32_id (x := (n : Int)) (by omega) (by omega)]
  by_cases h1 : w32 i < 0
  · refine zIf_t h1 ?_; rw [if_pos h1] at h; exact h
  · refine zIf_f h1 ?_; rw [if_neg h1] at h
    by_cases h2 : (n : Int) ≤ w32 i
    · refine zIf_t h2 ?_; rw [if_pos h2] at h; exact h
    · refine zIf_f h2 ?_; rw [if_neg h2] at h
      exact ⟨⟨by omega, by omega⟩, h⟩
theorem k_X0_peek (Γ : rt_Γ l s0 a0 G ca) (hok : zok C) (hc : zCe S c a n) {i : Int} (h : Q (zpeek M c a n i) M) : zm_X0_peek l s0 G ca d C S c i M Q X := by
  have hn := hc.2.2.1
  refine z_X0_peek Γ hok hc ?_
  unfold zt_X0_peek
  unfold zpeek at h
  rw [w32_id (x := (n : Int)) (by omega) (by omega)]
  by_cases h1 : w32 i < 0
  · refine zIf_t h1 ?_; rw [if_pos h1] at h; exact h
  · refine zIf_f h1 ?_; rw [if_neg h1] at h
    by_cases h3 : w32 (M c 1) ≤ w32 i
    · refine zIf_t h3 ?_; rw [if_pos h3] at h; exact h
    · refine zIf_f h3 ?_; rw [if_neg h3] at h
      by_cases h2 : (n : Int) ≤ w32 i
      · refine zIf_t h2 ?_; rw [if_pos h2] at h; exact h
      · refine zIf_f h2 ?_; rw [if_neg h2] at h
        exact ⟨⟨by omega, by omega⟩, h⟩
theorem k_X0_put (Γ : rt_Γ l s0 a0 G ca) (hok : zok C) (hc : zCe S c a n) {i x : Int} (h : Q 0 (zput M a n i x)) : zm_X0_put l s0 G ca d C S c i x M Q X := by
  have hn := hc.2.2.1
  refine z_X0_put Γ hok hc ?_
  unfold zt_X0_put
  unfold zput at h
  rw [w32_id (x := (n : Int)) (by omega) (by omega)]
  by_cases h1 : w32 i < 0
  · refine zIf_t h1 ?_; rw [if_pos h1] at h; exact h
  · refine zIf_f h1 ?_; rw [if_neg h1] at h
    by_cases h2 : (n : Int) ≤ w32 i
    · refine zIf_t h2 ?_; rw [if_pos h2] at h; exact h
    · refine zIf_f h2 ?_; rw [if_neg h2] at h
      exact ⟨⟨by omega, by omega⟩, h⟩
theorem k_X0_add (Γ : rt_Γ l s0 a0 G ca) (hok : zok C) (hc : zCe S c a n) {x : Int} (h : Q (zaddv M c n) (zadd M c a n x)) : zm_X0_add l s0 G ca d C S c x M Q X := by
  have hn := hc.2.2.1
  refine z_X0_add Γ hok hc ?_
  unfold zt_X0_add
  unfold zaddv zadd at h
  rw [w32_id (x := (n : Int)) (by omega) (by omega)]
  by_cases h1 : w32 (M c 1) < 0
  · rw [if_pos h1, if_pos h1] at h; exact zIf_t h1 h
  · rw [if_neg h1, if_neg h1] at h; refine zIf_f h1 ?_
    by_cases h2 : w32 (M c 1) < (n : Int)
    · rw [if_pos h2, if_pos h2] at h; refine zIf_t h2 ?_
      exact ⟨⟨by omega, by omega⟩, h⟩
    · rw [if_neg h2, if_neg h2] at h; exact zIf_f h2 h
theorem k_X0_cut (Γ : rt_Γ l s0 a0 G ca) (hok : zok C) (hc : zCe S c a n) {k : Int} (h : Q 0 (zcut M c n k)) : zm_X0_cut l s0 G ca d C S c k M Q X := by
  have hn := hc.2.2.1
  refine z_X0_cut Γ hok hc ?_
  unfold zt_X0_cut
  unfold zcut at h
  rw [w32_id (x := (n : Int)) (by omega) (by omega)]
  by_cases h1 : w32 k < 0
  · refine zIf_t h1 ?_; rw [if_pos h1] at h; exact h
  · refine zIf_f h1 ?_; rw [if_neg h1] at h
    by_cases h2 : (n : Int) < w32 k
    · refine zIf_t h2 ?_; rw [if_pos h2] at h; exact h
    · refine zIf_f h2 ?_; rw [if_neg h2] at h; exact h
end K0
