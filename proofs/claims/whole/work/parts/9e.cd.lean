/-! ===== the reference's read of a text ===== -/
theorem rg_ext {b1 b2 : Int → Int} {N : Nat} (h : ∀ j : Nat, j < N → b1 j = b2 j) : rg b1 N = rg b2 N := by
  funext p
  unfold rg rb
  by_cases c : p < N
  · rw [if_pos c, if_pos c, h p c]
  · rw [if_neg c, if_neg c]
theorem jTx_w {bt : Int → Int} {N : Nat} (hb : rOk bt N) {xs : List JR} (h : jTx (rg bt N) N = .ok xs) : 2 * xs.length + jLw xs ≤ N + 1 ∧ 0 < xs.length := by
  have hT := rg_T hb
  unfold jTx jFin at h
  cases hg : jGo (rg bt N) 4001 none 0 (jSk (rg bt N) 4096 0) with
  | error e => rw [hg] at h; exact nomatch h
  | ok r =>
    obtain ⟨ys, c, q⟩ := r
    rw [hg] at h
    dsimp only at h
    split at h
    · cases h
      have hs := jSk_le hT 4096 0 (Nat.zero_le _)
      obtain ⟨g1, g2, g3, g4, g5, g6⟩ := jGo_ok hT _ _ _ _ _ _ _ hs hg
      have g8 : jSk (rg bt N) 4096 0 + 2 * xs.length + jLw xs ≤ q + 1 := jGo_w hT _ _ _ _ _ _ _ hs hg
      obtain ⟨⟨x, r, e1, -⟩, -⟩ := g6 rfl
      refine ⟨by omega, ?_⟩
      rw [e1]
      exact Nat.succ_pos _
    · exact nomatch h
section CD
variable {l : Launch} {s0 : State} {a0 : Array Value} {G : va_G} {ca : Nat → ClassId} {d : Nat} {C : Nat × Nat} {S : zS} {M M0 : zM} {Q : Int → zM → Prop} {X : zM → Prop} {t o : Int} {A f n : Nat} {bt : Int → Int}
/-- nothing is told yet; the schema is written -/
theorem r_tellL (Γ : rt_Γ l s0 a0 G ca) (hd : 200 ≤ d) (hok : zok C) (ht : zTx S t) (ho : 0 ≤ o ∧ S o = some (2, A, []) ∧ A < 2147483648) {xs : List JR} {root : Nat} {st : SS} (hw : 2 * xs.length + jLw xs ≤ 1400) (h0 : 0 < xs.length) (hTop : sTop xs = .ok (root, st)) (hNm : kNm st) (hT0 : rTx M0 t xs) (hC0 : rC M0 t xs st) (h31 : M0 t 31 = (root : Int)) (h33 : M0 t 33 = 0) {w0 : rt_Wd}
    (kO : ∀ M1 : zM, wfr t M0 M1 → Q 0 M1) : ∀ (r k : Nat) (M : zM), k + r = 6 + st.ns.length → (∀ a j : Int, ¬ a = t + 21 → M a j = M0 a j) → (∀ i : Nat, i < k → M (t + 21) i = 0) → zg_X10_read_147 l s0 G ca d C S w0 t o A k M Q X := by
  have hl := hC0.len
  intro r
  induction r with
  | zero =>
    intro k M hk hM h21
    refine zs_X10_read_147 Γ (by omega) hok ht ho ?_
    unfold zt_X10_read_147
    have hwf : wfr t M0 M := fun a j _ _ n3 => hM a j n3
    have hC := hC0.w hwf
    rw [hC.1.2.1, w32_id (by omega) (by omega), w32_id (by omega) (by omega)]
    refine zIf_t (by omega) ?_
    rw [hM t 31 (by omega), h31]
    have hwv : 2 * wv xs 0 ≤ 4201 := by
      have h1 := (jWf_at hT0.2.1 h0).2.2.2.1
      have h2 : wS xs 0 (xx xs 0).sz ≤ jLw xs := by
        have h3 := wS_add (xs := xs) (xx xs 0).sz 0 (xs.length - (xx xs 0).sz)
        rw [show (xx xs 0).sz + (xs.length - (xx xs 0).sz) = xs.length by omega, wS_all] at h3
        omega
      unfold wv
      omega
    refine r_write Γ hok ht hT0.2.1 hNm 16 (d - 1) 0 false (0, 0, [], []) st root 0 M _ _ (by omega) h0 hTop (fun i n hi => ?_) (fun i _ _ _ => rfl) (hT0.w hwf) hC (fun i m hi hm => ?_) ?_ (by omega) (fun M1 A' _ _ _ hf => kO M1 (hwf.tr hf))
    · have : (SS.ns (0, 0, [], []))[i]? = none := rfl
      rw [this] at hi
      exact nomatch hi
    · show M (t + 21) ((6 + i : Nat) : Int) = if i < 0 then 1 else 0
      rw [if_neg (Nat.not_lt_zero _)]
      have hlt := (List.getElem?_eq_some_iff.mp hi).1
      exact h21 (6 + i) (by omega)
    · rw [hM t 33 (by omega)]; exact h33
  | succ r ih =>
    intro k M hk hM h21
    refine zs_X10_read_147 Γ (by omega) hok ht ho ?_
    unfold zt_X10_read_147
    have e16 : M t 16 = ((6 + st.ns.length : Nat) : Int) := by rw [hM t 16 (by omega)]; exact hC0.1.2.1
    rw [e16, w32_id (by omega) (by omega), w32_id (by omega) (by omega)]
    refine zIf_f (by omega) ⟨⟨by omega, by omega⟩, ?_⟩
    rw [show (k : Int) + 1 = ((k + 1 : Nat) : Int) by omega]
    refine ih (k + 1) _ (by omega) (fun a j hj => by rw [zu_a hj]; exact hM a j hj) (fun i hi => ?_)
    by_cases e : i = k
    · subst e
      exact zu_s _ _ _ _
    · rw [zu_k (by omega)]
      exact h21 i (by omega)
/-- what stands when the six are being told -/
def rdI (M : zM) (t : Int) (bt : Int → Int) (n k : Nat) : Prop := (M t 1 = (n : Int) ∧ M t 2 = 0 ∧ M t 3 = 0 ∧ M t 7 = 0 ∧ M t 15 = 0 ∧ M t 16 = 6) ∧ (∀ j : Nat, j < n → M (t + 1) j = bt j) ∧ ∀ i : Nat, i < k → M (t + 9) i = i ∧ M (t + 10) i = -1 ∧ M (t + 12) i = -1
theorem r_read (Γ : rt_Γ l s0 a0 G ca) (hd : 300 ≤ d) (hok : zok C) (ht : zTx S t) (ho : 0 ≤ o ∧ S o = some (2, A, []) ∧ A < 2147483648) (hot : o < t ∨ t + 21 < o) (hfn : f + n ≤ A) (hn : n ≤ 1300) (hbt : rOk bt n) (hsrc : ∀ j : Nat, j < n → M o ((f + j : Nat) : Int) = bt j)
    (kT : ∀ e : Nat, jTx (rg bt n) n = .error e → ∀ M1 : zM, eX t M M1 1 e → Q 1 M1)
    (kE : ∀ (xs : List JR) (e : Nat × Nat), jTx (rg bt n) n = .ok xs → sDra xs = .error e → ∀ M1 : zM, eX t M M1 e.1 e.2 → Q e.1 M1)
    (kO : ∀ (xs : List JR) (root : Nat) (st : SS), jTx (rg bt n) n = .ok xs → sDra xs = .ok (root, st) → sFin xs root st → ∀ M1 : zM, rTx M1 t xs → rC M1 t xs st → M1 t 31 = (root : Int) → zfr t M M1 → Q 0 M1) : zc_X10_read l s0 G ca d C S t o f n M Q := by
  refine z_X10_read (X := fun _ => True) Γ (by omega) hok ht ho ?_
  unfold zt_X10_read
  -- the six
  have six : ∀ (w0 : rt_Wd) (r k : Nat) (M1 : zM), k + r = 6 → zfr t M M1 → rdI M1 t bt n k → zg_X10_read_62 l s0 G ca d C S w0 t o A k M1 Q (fun _ => True) := by
    intro w0 r
    induction r with
    | zero =>
      intro k M1 hk hf hI
      obtain ⟨⟨i1, i2, i3, i4, i5, i6⟩, hb, h6⟩ := hI
      refine zs_X10_read_62 Γ (by omega) hok ht ho ?_
      unfold zt_X10_read_62
      rw [w32_id (by omega) (by omega)]
      refine zIf_t (by omega) ?_
      have hb2 : rOk (M1 (t + 1)) n := ⟨hbt.1, fun j hj => by rw [hb j hj]; exact hbt.2 j hj⟩
      have hg : rg (M1 (t + 1)) n = rg bt n := rg_ext hb
      have fq : zfr t M (zu (zu (zu (zu (zu (zu M1 t 17 0) t 24 0) t 29 0) t 4 0) t 5 (-1)) t 33 0) := (((((hf.zu (by omega) (by omega)).zu (by omega) (by omega)).zu (by omega) (by omega)).zu (by omega) (by omega)).zu (by omega) (by omega)).zu (by omega) (by omega)
      have ek : ∀ j : Int, ¬ j = 17 → ¬ j = 24 → ¬ j = 29 → ¬ j = 4 → ¬ j = 5 → ¬ j = 33 → zu (zu (zu (zu (zu (zu M1 t 17 0) t 24 0) t 29 0) t 4 0) t 5 (-1)) t 33 0 t j = M1 t j := fun j a1 a2 a3 a4 a5 a6 => by rw [zu_k a6, zu_k a5, zu_k a4, zu_k a3, zu_k a2, zu_k a1]
      have ea : ∀ a j : Int, ¬ a = t → zu (zu (zu (zu (zu (zu M1 t 17 0) t 24 0) t 29 0) t 4 0) t 5 (-1)) t 33 0 a j = M1 a j := fun a j h => by rw [zu_a h, zu_a h, zu_a h, zu_a h, zu_a h, zu_a h]
      have e17 : zu (zu (zu (zu (zu (zu M1 t 17 0) t 24 0) t 29 0) t 4 0) t 5 (-1)) t 33 0 t 17 = 0 := by rw [zu_k (by decide), zu_k (by decide), zu_k (by decide), zu_k (by decide), zu_k (by decide), zu_s]
      have e24 : zu (zu (zu (zu (zu (zu M1 t 17 0) t 24 0) t 29 0) t 4 0) t 5 (-1)) t 33 0 t 24 = 0 := by rw [zu_k (by decide), zu_k (by decide), zu_k (by decide), zu_k (by decide), zu_s]
      have e29 : zu (zu (zu (zu (zu (zu M1 t 17 0) t 24 0) t 29 0) t 4 0) t 5 (-1)) t 33 0 t 29 = 0 := by rw [zu_k (by decide), zu_k (by decide), zu_k (by decide), zu_s]
      have e33 : zu (zu (zu (zu (zu (zu M1 t 17 0) t 24 0) t 29 0) t 4 0) t 5 (-1)) t 33 0 t 33 = 0 := zu_s _ _ _ _
      generalize zu (zu (zu (zu (zu (zu M1 t 17 0) t 24 0) t 29 0) t 4 0) t 5 (-1)) t 33 0 = M2 at fq ek ea e17 e24 e29 e33
      have hR : RS M2 t (M1 (t + 1)) n 0 0 0 0 := ⟨by rw [ek _ (by decide) (by decide) (by decide) (by decide) (by decide) (by decide)]; exact i1, by rw [ek _ (by decide) (by decide) (by decide) (by decide) (by decide) (by decide)]; exact i2, by rw [ek _ (by decide) (by decide) (by decide) (by decide) (by decide) (by decide)]; exact i3, by rw [ek _ (by decide) (by decide) (by decide) (by decide) (by decide) (by decide)]; exact i4, by rw [ek _ (by decide) (by decide) (by decide) (by decide) (by decide) (by decide)]; exact i5, fun j => ea _ _ (by omega)⟩
      have h60 : r60 M2 t := ⟨⟨e17, by rw [ek _ (by decide) (by decide) (by decide) (by decide) (by decide) (by decide)]; exact i6, e24, e29⟩, fun i hi => by
        rw [ea _ _ (by omega), ea _ _ (by omega), ea _ _ (by omega)]
        exact h6 i (by omega)⟩
      refine r_readAll Γ (by omega) hok ht hb2 hn hR h60 (fun e he M3 x => ?_) (fun xs e he hs M3 x => ?_) (fun xs root st he hs hF M3 a1 a2 a3 a4 a5 => ?_)
      · rw [hg] at he
        have x2 := eX.of fq x
        have h4 : M3 t 4 = 1 := x2.1
        rw [h4]
        exact kT e he M3 x2
      · rw [hg] at he
        have x2 := eX.of fq x
        have h4 : M3 t 4 = (e.1 : Int) := x2.1
        rw [h4]
        exact kE xs e he hs M3 x2
      · obtain ⟨w1, w2⟩ := jTx_w hb2 he
        rw [hg] at he
        have hTop : sTop xs = .ok (root, st) := by
          unfold sDra at hs
          cases hk9 : sTop xs with
          | error e => rw [hk9] at hs; exact nomatch hs
          | ok r9 =>
            rw [hk9] at hs
            obtain ⟨n9, st9⟩ := r9
            dsimp only at hs
            split at hs
            · exact nomatch hs
            · injection hs with hs
              rw [hs]
        exact r_tellL Γ (by omega) hok ht ho (by omega) w2 hTop (sTop_nm hTop) a1 a2 a3 (by rw [a5 33 (by decide)]; exact e33) (fun M4 hf4 => kO xs root st he hs hF M4 (a1.w hf4) (a2.w hf4) (by rw [hf4 t 31 (by omega) (by omega) (by omega)]; exact a3) (fq.tr (a4.tr (fun b j hb => hf4 b j (by omega) (by omega) (by omega))))) (6 + st.ns.length) 0 M3 (Nat.zero_add _) (fun _ _ _ => rfl) (fun i hi => absurd hi (Nat.not_lt_zero _))
    | succ r ih =>
      intro k M1 hk hf hI
      obtain ⟨⟨i1, i2, i3, i4, i5, i6⟩, hb, h6⟩ := hI
      refine zs_X10_read_62 Γ (by omega) hok ht ho ?_
      unfold zt_X10_read_62
      rw [w32_id (by omega) (by omega)]
      refine zIf_f (by omega) ⟨⟨by omega, by omega⟩, ?_⟩
      rw [show (k : Int) + 1 = ((k + 1 : Nat) : Int) by omega]
      have e : ∀ a j : Int, ¬ a = t + 9 → ¬ a = t + 10 → ¬ a = t + 12 → zu (zu (zu M1 (t + 9) k k) (t + 10) k (-1)) (t + 12) k (-1) a j = M1 a j := fun a j h1 h2 h3 => by rw [zu_a h3, zu_a h2, zu_a h1]
      refine ih (k + 1) _ (by omega) (((hf.zu (by omega) (by omega)).zu (by omega) (by omega)).zu (by omega) (by omega)) ⟨⟨by rw [e _ _ (by omega) (by omega) (by omega)]; exact i1, by rw [e _ _ (by omega) (by omega) (by omega)]; exact i2, by rw [e _ _ (by omega) (by omega) (by omega)]; exact i3, by rw [e _ _ (by omega) (by omega) (by omega)]; exact i4, by rw [e _ _ (by omega) (by omega) (by omega)]; exact i5, by rw [e _ _ (by omega) (by omega) (by omega)]; exact i6⟩, fun j hj => by rw [e _ _ (by omega) (by omega) (by omega)]; exact hb j hj, fun i hi => ?_⟩
      by_cases c : i = k
      · subst c
        refine ⟨?_, ?_, zu_s _ _ _ _⟩
        · rw [zu_a (by omega), zu_a (by omega), zu_s]
        · rw [zu_a (by omega), zu_s]
      · rw [zu_a (show ¬ t + 9 = t + 12 by omega), zu_a (show ¬ t + 9 = t + 10 by omega), zu_k (by omega), zu_a (show ¬ t + 10 = t + 12 by omega), zu_k (by omega), zu_a (show ¬ t + 10 = t + 9 by omega), zu_k (by omega), zu_a (show ¬ t + 12 = t + 10 by omega), zu_a (show ¬ t + 12 = t + 9 by omega)]
        exact h6 i (by omega)
  -- the bytes
  have cp : ∀ (w0 : rt_Wd) (r k : Nat) (M1 : zM), k + r = n → zfr t M M1 → (∀ j : Nat, j < k → M1 (t + 1) j = bt j) → zg_X10_read_3 l s0 G ca d C S w0 t o A f n k M1 Q (fun _ => True) := by
    intro w0 r
    induction r with
    | zero =>
      intro k M1 hk hf hb
      refine zs_X10_read_3 Γ (by omega) hok ht ho ?_
      unfold zt_X10_read_3
      rw [w32_id (by omega) (by omega), w32_id (by omega) (by omega)]
      refine zIf_t (by omega) ?_
      refine six w0 6 0 _ rfl ((((((hf.zu (by omega) (by omega)).zu (by omega) (by omega)).zu (by omega) (by omega)).zu (by omega) (by omega)).zu (by omega) (by omega)).zu (by omega) (by omega)) ⟨⟨?_, ?_, ?_, ?_, ?_, zu_s _ _ _ _⟩, fun j hj => ?_, fun i hi => absurd hi (Nat.not_lt_zero _)⟩
      · rw [zu_k (by decide), zu_k (by decide), zu_k (by decide), zu_k (by decide), zu_k (by decide), zu_s]
      · rw [zu_k (by decide), zu_k (by decide), zu_k (by decide), zu_k (by decide), zu_s]
      · rw [zu_k (by decide), zu_k (by decide), zu_k (by decide), zu_s]
      · rw [zu_k (by decide), zu_k (by decide), zu_s]
      · rw [zu_k (by decide), zu_s]
      · rw [zu_a (by omega), zu_a (by omega), zu_a (by omega), zu_a (by omega), zu_a (by omega), zu_a (by omega)]
        exact hb j (by omega)
    | succ r ih =>
      intro k M1 hk hf hb
      refine zs_X10_read_3 Γ (by omega) hok ht ho ?_
      unfold zt_X10_read_3
      rw [w32_id (by omega) (by omega), w32_id (by omega) (by omega)]
      refine zIf_f (by omega) ⟨⟨by omega, by omega⟩, ⟨by omega, by omega⟩, ?_⟩
      rw [show (f : Int) + (k : Int) = ((f + k : Nat) : Int) by omega, hf o _ hot, hsrc k (by omega), show (k : Int) + 1 = ((k + 1 : Nat) : Int) by omega]
      refine ih (k + 1) _ (by omega) (hf.zu (by omega) (by omega)) (fun j hj => ?_)
      by_cases c : j = k
      · subst c
        rw [zu_s]
        have := hbt.2 j (by omega)
        exact w8_id (by omega) (by omega)
      · rw [zu_k (by omega)]
        exact hb j (by omega)
  exact cp (zw s0 ca C S M) n 0 M (Nat.zero_add _) zfr.rf (fun j hj => absurd hj (Nat.not_lt_zero _))
end CD
