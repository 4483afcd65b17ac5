/-! ===== Cells turned about ===== -/
/-- from lo to hi the other way round -/
def rvP (M M1 : zM) (a lo hi : Int) : Prop := (∀ k : Int, lo ≤ k → k ≤ hi → M1 a k = M a (lo + hi - k)) ∧ ∀ c j : Int, ¬ (c = a ∧ lo ≤ j ∧ j ≤ hi) → M1 c j = M c j
section KE
variable {l : Launch} {s0 : State} {a0 : Array Value} {G : va_G} {ca : Nat → ClassId} {d : Nat} {C : Nat × Nat} {S : zS} {c a : Int} {n : Nat} {M : zM} {Q : Int → zM → Prop} {X : zM → Prop}
theorem c_revL (Γ : rt_Γ l s0 a0 G ca) (hd : 2 ≤ d) (hok : zok C) (hc : zCe S c a n) {w0 : rt_Wd} : ∀ (f : Nat) (lo hi : Int) (M : zM), hi - lo < f → 0 ≤ lo → -1 ≤ hi → hi < n → lo ≤ n → (∀ M1 : zM, rvP M M1 a lo hi → Q 0 M1) → zg_X0_reverse_7 l s0 G ca d C S w0 c a n lo hi M Q X := by
  have hn := hc.2.2.1
  intro f
  induction f with
  | zero =>
    intro lo hi M hf h0 h1 h2 h3 kO
    refine zs_X0_reverse_7 Γ (by omega) hok hc ?_
    unfold zt_X0_reverse_7
    rw [w32_id (by omega) (by omega), w32_id (by omega) (by omega)]
    exact ⟨fun _ => kO M ⟨fun k e1 e2 => by omega, fun _ _ _ => rfl⟩, fun c1 => by omega⟩
  | succ f ih =>
    intro lo hi M hf h0 h1 h2 h3 kO
    refine zs_X0_reverse_7 Γ (by omega) hok hc ?_
    unfold zt_X0_reverse_7
    rw [w32_id (by omega) (by omega), w32_id (by omega) (by omega)]
    refine ⟨fun c1 => kO M ⟨fun k e1 e2 => ?_, fun _ _ _ => rfl⟩, fun c1 => ?_⟩
    · rw [show lo + hi - k = k by omega]
    · refine k_X0_at Γ hok hc ?_
      refine k_X0_at Γ hok hc ?_
      refine k_X0_put Γ hok hc ?_
      refine k_X0_put Γ hok hc ?_
      rw [zat_in (by omega) (by omega) (by omega), zat_in (by omega) (by omega) (by omega), zput_in (by omega) (by omega) (by omega), zput_in (by omega) (by omega) (by omega)]
      refine ih (lo + 1) (hi + -1) _ (by omega) (by omega) (by omega) (by omega) (by omega) (fun M1 h => kO M1 ⟨fun k e1 e2 => ?_, fun b j nn => ?_⟩)
      · by_cases k1 : k = lo
        · subst k1
          rw [h.2 a k (by omega), zu_k (by omega), zu_s]
          rw [show k + hi - k = hi by omega]
        · by_cases k2 : k = hi
          · subst k2
            rw [h.2 a k (by omega), zu_s]
            rw [show lo + k - k = lo by omega]
          · rw [h.1 k (by omega) (by omega), zu_k (by omega), zu_k (by omega)]
            rw [show lo + 1 + (hi + -1) - k = lo + hi - k by omega]
      · rw [h.2 b j (fun e => nn ⟨e.1, by omega, by omega⟩), zu_ne (fun e => nn ⟨e.1, by omega, by omega⟩), zu_ne (fun e => nn ⟨e.1, by omega, by omega⟩)]
theorem c_rev (Γ : rt_Γ l s0 a0 G ca) (hd : 2 ≤ d) (hok : zok C) (hc : zCe S c a n) {f e : Int} (h0 : 0 ≤ f) (h1 : f ≤ e) (h2 : e ≤ n) (kO : ∀ M1 : zM, rvP M M1 a f (e - 1) → Q 0 M1) : zm_X0_reverse l s0 G ca d C S c f e M Q X := by
  refine z_X0_reverse Γ (by omega) hok hc ?_
  unfold zt_X0_reverse
  exact c_revL Γ hd hok hc (e.toNat + 1) f (e - 1) M (by omega) h0 (by omega) (by omega) (by omega) kO
/-- two stretches change places -/
theorem c_rot (Γ : rt_Γ l s0 a0 G ca) (hd : 3 ≤ d) (hok : zok C) (hc : zCe S c a n) (hca : ¬ c = a) {u : Nat} {w h : List Nat} (hu : M c 1 = ((u + (w ++ h).length : Nat) : Int)) (hun : u + (w ++ h).length ≤ n) (hw : ∀ j : Nat, j < (w ++ h).length → M a ((u + j : Nat) : Int) = ((w ++ h).getD j 0 : Nat)) {m : Int} (hm : m = ((u + w.length : Nat) : Int))
    (kO : ∀ M1 : zM, (∀ j : Nat, j < (h ++ w).length → M1 a ((u + j : Nat) : Int) = ((h ++ w).getD j 0 : Nat)) → (∀ b j : Int, ¬ (b = a ∧ (u : Int) ≤ j) → M1 b j = M b j) → Q 0 M1) : zm_X0_rotate l s0 G ca d C S c (u : Nat) m M Q X := by
  have hn := hc.2.2.1
  refine z_X0_rotate Γ (by omega) hok hc ?_
  unfold zt_X0_rotate
  rw [List.length_append] at hu hun hw
  refine c_rev Γ (by omega) hok hc (by omega) (by omega) (by omega) (fun M1 r1 => ?_)
  have e1 : M1 c 1 = M c 1 := r1.2 c 1 (fun e => hca e.1)
  refine c_rev Γ (by omega) hok hc (by omega) (by rw [e1, hu]; omega) (by rw [e1, hu]; omega) (fun M2 r2 => ?_)
  have e2 : M2 c 1 = M c 1 := (r2.2 c 1 (fun e => hca e.1)).trans e1
  rw [e1, hu] at r2
  refine c_rev Γ (by omega) hok hc (by omega) (by rw [e2, hu]; omega) (by rw [e2, hu]; omega) (fun M3 r3 => ?_)
  rw [e2, hu] at r3
  subst hm
  refine kO M3 (fun j hj => ?_) (fun b j nn => ?_)
  · rw [List.length_append] at hj
    rw [r3.1 _ (by omega) (by omega)]
    by_cases c1 : j < h.length
    · rw [r2.1 _ (by omega) (by omega)]
      have := hw (w.length + j) (by omega)
      rw [List.getD_eq_getElem?_getD, List.getElem?_append_right (by omega), show w.length + j - w.length = j by omega] at this
      rw [List.getD_eq_getElem?_getD, List.getElem?_append_left c1, ← this, r1.2 _ _ (by omega)]
      congr 1
      omega
    · have := hw (j - h.length) (by omega)
      rw [List.getD_eq_getElem?_getD, List.getElem?_append_left (by omega)] at this
      rw [List.getD_eq_getElem?_getD, List.getElem?_append_right (by omega), ← this, r2.2 _ _ (by omega), r1.1 _ (by omega) (by omega)]
      congr 1
      omega
  · rw [r3.2 b j (fun e => nn ⟨e.1, by omega⟩), r2.2 b j (fun e => nn ⟨e.1, by omega⟩), r1.2 b j (fun e => nn ⟨e.1, by omega⟩)]
end KE
