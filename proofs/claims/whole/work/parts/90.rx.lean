/-! ===== the reference's Text: where the values' nodes are; its words and members ===== -/
/-- the node ahead of which the value i stands with its key -/
def rWp (xs : List JR) (i : Nat) : Nat := rW (xs.take i)
/-- the value's own node -/
def rP (xs : List JR) (i : Nat) : Nat := rWp xs i + jk (xx xs i)
def rLp (xs : List JR) (i : Nat) : Nat := rL (xs.take i)
theorem rWp_next {xs : List JR} {i : Nat} (h : i < xs.length) : rWp xs (i + 1) = rP xs i + 1 := by
  unfold rP rWp
  rw [List.take_add_one, xx_lt h]
  show rW (xs.take i ++ [xx xs i]) = _
  rw [rW_app]
  simp only [rW]
  omega
theorem rRep_at {M : zM} {t : Int} : ∀ {xs : List JR} {W L i : Nat}, rRep M t xs W L → (∀ j : Nat, j < xs.length → 1 ≤ (xx xs j).sz) → i < xs.length →
    (∀ k : List Int32, (xx xs i).kw = some k → rStr M t ((W + rWp xs i : Nat) : Int) (L + rLp xs i) k ∧ M (t + 7) ((W + rWp xs i : Nat) : Int) = ((W + rWp xs i : Nat) : Int) + 1) ∧
    rNd M t (xx xs i) ((W + rP xs i : Nat) : Int) (L + rLp xs i + jkl (xx xs i)) (if (xx xs i).more = true then ((W + rWp xs (i + (xx xs i).sz) : Nat) : Int) else -1) := by
  intro xs
  induction xs with
  | nil => intro W L i _ _ h; exact absurd h (Nat.not_lt_zero _)
  | cons x xs ih =>
    intro W L i h hsz hi
    obtain ⟨h1, h2, h3, h4⟩ := h
    cases i with
    | zero =>
      have e : xx (x :: xs) 0 = x := rfl
      have s1 := hsz 0 (by simp)
      rw [e] at s1 ⊢
      have e1 : rWp (x :: xs) 0 = 0 := rfl
      have e2 : rLp (x :: xs) 0 = 0 := rfl
      have e3 : rP (x :: xs) 0 = jk x := Nat.zero_add _
      have e4 : rWp (x :: xs) (0 + x.sz) = jk x + 1 + rW (xs.take (x.sz - 1)) := by
        unfold rWp
        rw [show 0 + x.sz = (x.sz - 1) + 1 by omega]
        rfl
      rw [e1, e2, e3, e4]
      refine ⟨fun k hk => h1 k hk, ?_⟩
      rw [show W + (jk x + 1 + rW (xs.take (x.sz - 1))) = W + jk x + 1 + rW (xs.take (x.sz - 1)) by omega]
      exact h2
    | succ i =>
      have e : xx (x :: xs) (i + 1) = xx xs i := rfl
      rw [List.length_cons] at hi
      have := ih (i := i) h4 (fun j hj => hsz (j + 1) (by rw [List.length_cons]; omega)) (by omega)
      rw [e]
      have e1 : rWp (x :: xs) (i + 1) = jk x + 1 + rWp xs i := rfl
      have e2 : rLp (x :: xs) (i + 1) = jkl x + jsl x + rLp xs i := rfl
      have e3 : rP (x :: xs) (i + 1) = jk x + 1 + rP xs i := by
        unfold rP
        rw [e1, e]
        omega
      have e4 : rWp (x :: xs) (i + 1 + (xx xs i).sz) = jk x + 1 + rWp xs (i + (xx xs i).sz) := by
        rw [show i + 1 + (xx xs i).sz = (i + (xx xs i).sz) + 1 by omega]
        rfl
      rw [e1, e2, e3, e4]
      rw [show W + (jk x + 1 + rWp xs i) = W + jk x + 1 + rWp xs i by omega, show W + (jk x + 1 + rP xs i) = W + jk x + 1 + rP xs i by omega, show W + (jk x + 1 + rWp xs (i + (xx xs i).sz)) = W + jk x + 1 + rWp xs (i + (xx xs i).sz) by omega, show L + (jkl x + jsl x + rLp xs i) = L + jkl x + jsl x + rLp xs i by omega]
      exact this
/-- the reference's Text holds xs -/
def rTx (M : zM) (t : Int) (xs : List JR) : Prop := rRep M t xs 0 0 ∧ jWf xs ∧ xs.length ≤ 2000 ∧ jLw xs ≤ 2000
theorem rW_take {xs : List JR} {i : Nat} : rW (xs.take i) ≤ rW xs := by
  have : rW xs = rW (xs.take i) + rW (xs.drop i) := by rw [← rW_app, List.take_append_drop]
  omega
theorem rL_take {xs : List JR} {i : Nat} : rL (xs.take i) ≤ rL xs := by
  have : rL xs = rL (xs.take i) + rL (xs.drop i) := by rw [← rL_app, List.take_append_drop]
  omega
theorem rTx_at {M : zM} {t : Int} {xs : List JR} (hT : rTx M t xs) {i : Nat} (hi : i < xs.length) :
    (∀ k : List Int32, (xx xs i).kw = some k → rStr M t (rWp xs i : Nat) (rLp xs i) k ∧ M (t + 7) (rWp xs i : Nat) = ((rWp xs i : Nat) : Int) + 1 ∧ rLp xs i + k.length ≤ 2000) ∧
    rNd M t (xx xs i) (rP xs i : Nat) (rLp xs i + jkl (xx xs i)) (if (xx xs i).more = true then ((rWp xs (i + (xx xs i).sz) : Nat) : Int) else -1) ∧ rP xs i < 4000 ∧ rWp xs i ≤ rP xs i ∧ ((xx xs i).kd = 3 → rLp xs i + jkl (xx xs i) + (xx xs i).ws.length ≤ 2000) := by
  obtain ⟨h1, h2, h3, h4⟩ := hT
  have := rRep_at h1 (fun j hj => (jWf_at h2 hj).2.2.1) hi
  rw [Nat.zero_add, Nat.zero_add, Nat.zero_add, Nat.zero_add] at this
  have hw := rW_le xs
  have n1 := rWp_next hi
  have n2 : rWp xs (i + 1) ≤ rW xs := rW_take
  have n3 : rL (xs.take (i + 1)) ≤ rL xs := rL_take
  have n4 : rL (xs.take (i + 1)) = rLp xs i + (jkl (xx xs i) + jsl (xx xs i)) := by
    rw [List.take_add_one, xx_lt hi]
    show rL (xs.take i ++ [xx xs i]) = _
    rw [rL_app]
    simp only [rL]
    rfl
  refine ⟨fun k hk => ⟨(this.1 k hk).1, (this.1 k hk).2, ?_⟩, this.2, by omega, ?_, fun hk => ?_⟩
  · have : jkl (xx xs i) = k.length := by unfold jkl; rw [hk]; rfl
    omega
  · unfold rP; omega
  · have : jsl (xx xs i) = (xx xs i).ws.length := by unfold jsl; rw [if_pos hk]
    omega
section RXs
variable {l : Launch} {s0 : State} {a0 : Array Value} {G : va_G} {ca : Nat → ClassId} {d : Nat} {C : Nat × Nat} {S : zS} {M : zM} {Q : Int → zM → Prop} {X : zM → Prop} {xs : List JR} {v : Nat} {t : Int}
theorem w8_asc {x b : Int} (h0 : 0 ≤ x) (h1 : x < 256) (g0 : 0 ≤ b) (g1 : b < 128) : w8 x = b ↔ x = b := by
  by_cases c : x < 128
  · rw [w8_id (by omega) c]
  · constructor
    · intro e
      unfold w8 at e
      rw [Int.bmod_def] at e
      split at e <;> omega
    · intro e; omega
theorem r_isL (Γ : rt_Γ l s0 a0 G ca) (hd : 4 ≤ d) (hok : zok C) (ht : zTx S t) {w : Nat} {wb : List Int} (hw : zstr s0 w wb) {w0 : rt_Wd} {n : Int} (hn0 : 0 ≤ n) (hn : n < 4200) {L : Nat} {ws : List Int32} (hs : rStr M t n L ws) (hL : L + ws.length ≤ 4200) (hlen : ws.length = wb.length) (hQ : Q (bI (ws = iw wb)) M) : ∀ k j : Nat, j + k = wb.length → (∀ i : Nat, i < j → ws.getD i 0 = (iw wb).getD i 0) → zg_X10_is_32 l s0 G ca d C S w0 t w wb n 1 j M Q X := by
  obtain ⟨k1, k2, k3, k4⟩ := hs
  have hb := hw.2.2
  have stop : ∀ j : Nat, ¬ ws = iw wb → zg_X10_is_32 l s0 G ca d C S w0 t w wb n 0 j M Q X := fun j hne => by
    refine zs_X10_is_32 Γ hd hok ht hw ?_
    unfold zt_X10_is_32
    unfold bI at hQ
    rw [if_neg hne] at hQ
    exact ⟨fun _ => ⟨Or.inl rfl, hQ⟩, fun _ => ⟨fun _ => ⟨Or.inl rfl, hQ⟩, fun c => absurd (by decide) c⟩⟩
  intro k
  induction k with
  | zero =>
    intro j hj hp
    refine zs_X10_is_32 Γ hd hok ht hw ?_
    unfold zt_X10_is_32
    rw [w32_id (by omega) (by omega), w32_id (by omega) (by omega)]
    refine ⟨fun _ => ⟨Or.inr rfl, ?_⟩, fun c => by omega⟩
    unfold bI at hQ
    rw [if_pos (ws_eq.mpr ⟨by rw [hlen, iw_len], fun i hi => hp i (by omega)⟩)] at hQ
    exact hQ
  | succ k ih =>
    intro j hj hp
    refine zs_X10_is_32 Γ hd hok ht hw ?_
    unfold zt_X10_is_32
    have hwb := hw.2.1 (wb.getD j 0) (by
      rw [List.getD_eq_getElem?_getD, List.getElem?_eq_getElem (show j < wb.length by omega)]
      exact List.getElem_mem _)
    obtain ⟨x1, x2, x3⟩ := k4 j (by omega)
    have hb8 := w8_b (ws.getD j 0).toInt
    rw [w32_id (x := (wb.length : Int)) (by omega) (by omega), w32_id (x := (j : Int)) (by omega) (by omega), k2, show (L : Int) + (j : Int) = ((L + j : Nat) : Int) by omega, x1, Int.toNat_natCast, w32_id (x := w8 (ws.getD j 0).toInt) (by omega) (by omega), w32_id (x := wb.getD j 0) (by omega) (by omega), show (j : Int) + 1 = ((j + 1 : Nat) : Int) by omega]
    refine ⟨fun c => by omega, fun _ => ⟨fun c => absurd c (by decide), fun _ => ⟨⟨hn0, hn⟩, ⟨by omega, by omega⟩, ⟨by omega, by omega⟩, fun ce => ?_, fun cn => ?_⟩⟩⟩
    · refine ih (j + 1) (by omega) (fun i hi => ?_)
      by_cases hij : i = j
      · subst hij
        rw [iw_get (by omega)]
        refine toI_inj ?_
        rw [(w8_asc x2 x3 hwb.1 hwb.2).mp ce, z_toI, w32_id (by omega) (by omega)]
      · exact hp i (by omega)
    · refine stop (j + 1) (fun e => ?_)
      have := (ws_eq.mp e).2 j (by omega)
      rw [iw_get (by omega)] at this
      refine cn ((w8_asc x2 x3 hwb.1 hwb.2).mpr ?_)
      rw [this, z_toI, w32_id (by omega) (by omega)]
theorem r_is (Γ : rt_Γ l s0 a0 G ca) (hd : 4 ≤ d) (hok : zok C) (ht : zTx S t) {w : Nat} {wb : List Int} (hw : zstr s0 w wb) {n : Int} (hn0 : 0 ≤ n) (hn : n < 4200) {L : Nat} {ws : List Int32} (hs : rStr M t n L ws) (hL : L + ws.length ≤ 4200) (hQ : Q (bI (ws = iw wb)) M) : zm_X10_is l s0 G ca d C S t n w M Q X := by
  refine z_X10_is Γ hd hok ht hw ?_
  unfold zt_X10_is
  have hb := hw.2.2
  rw [hs.1, hs.2.2.1, w32_id (x := (ws.length : Int)) (by omega) (by omega), w32_id (x := (wb.length : Int)) (by omega) (by omega)]
  refine ⟨⟨hn0, hn⟩, fun _ => ⟨fun ce => ?_, fun cn => ?_⟩, fun c => absurd (by decide) c⟩
  · exact r_isL Γ hd hok ht hw hn0 hn hs hL (by omega) hQ wb.length 0 (Nat.zero_add _) (fun i hi => absurd hi (Nat.not_lt_zero _))
  · refine zs_X10_is_32 Γ hd hok ht hw ?_
    unfold zt_X10_is_32
    unfold bI at hQ
    rw [if_neg (fun e => cn (by rw [(ws_eq.mp e).1, iw_len]))] at hQ
    exact ⟨fun _ => ⟨Or.inl rfl, hQ⟩, fun _ => ⟨fun _ => ⟨Or.inl rfl, hQ⟩, fun c => absurd (by decide) c⟩⟩
/-- a value's node, or none -/
def oR (xs : List JR) : Option Nat → Int
  | none => -1
  | some j => (rP xs j : Nat)
theorem r_memL (Γ : rt_Γ l s0 a0 G ca) (hd : 5 ≤ d) (hok : zok C) (ht : zTx S t) (hT : rTx M t xs) {w : Nat} {wb : List Int} (hw : zstr s0 w wb) {w0 : rt_Wd} : ∀ (c i n : Nat), kidsL c (xs.drop i) n true → Q (oR xs (xFind xs (iw wb) (xKid xs c i))) M → zg_X10_member_7 l s0 G ca d C S w0 t w wb (if c = 0 then -1 else ((rWp xs i : Nat) : Int)) M Q X := by
  intro c
  induction c with
  | zero =>
    intro i n _ hQ
    refine zs_X10_member_7 Γ (by omega) hok ht hw ?_
    unfold zt_X10_member_7
    rw [if_pos rfl]
    exact ⟨fun _ => hQ, fun c9 => absurd (by decide) c9⟩
  | succ c ih =>
    intro i n hk hQ
    obtain ⟨g1, g2, g3, g4, g5, g6⟩ := kidsL_step hk
    refine zs_X10_member_7 Γ (by omega) hok ht hw ?_
    unfold zt_X10_member_7
    obtain ⟨h1, h2, h3, h4, -⟩ := rTx_at hT g1
    obtain ⟨ws, hws⟩ := Option.isSome_iff_exists.mp g5
    obtain ⟨k1, k2, k3⟩ := h1 ws hws
    rw [if_neg (Nat.succ_ne_zero c), w32_id (by omega) (by omega)]
    refine ⟨fun c9 => by omega, fun _ => ?_⟩
    refine r_is Γ (by omega) hok ht hw (by omega) (by omega) k1 (by omega) ?_
    have hjk : jk (xx xs i) = 1 := by unfold jk; rw [hws]; rfl
    have hrp : rP xs i = rWp xs i + 1 := by unfold rP; rw [hjk]
    have hkey : M (t + 7) (rWp xs i : Nat) = (rP xs i : Nat) := by rw [k2, hrp]; omega
    unfold xKid xFind at hQ
    rw [hws] at hQ
    by_cases ce : ws = iw wb
    · rw [if_pos (by rw [ce])] at hQ
      refine ⟨fun c9 => absurd ce (w32_bI.mp c9), fun _ => ⟨⟨by omega, by omega⟩, ?_⟩⟩
      rw [hkey]
      exact hQ
    · rw [if_neg (fun e => ce (Option.some.inj e))] at hQ
      refine ⟨fun _ => ⟨⟨by omega, by omega⟩, ?_⟩, fun c9 => absurd (w32_bI.mpr ce) c9⟩
      rw [hkey]
      refine ⟨⟨by omega, by omega⟩, ?_⟩
      have hnx := h2.2.2.2.2.2.2
      rw [hnx, g4]
      have := ih _ _ g6 hQ
      by_cases c0 : c = 0
      · subst c0
        rw [if_pos rfl] at this
        rw [if_neg (by decide)]
        exact this
      · rw [if_neg c0] at this
        rw [if_pos (decide_eq_true (by omega))]
        exact this
theorem r_mem (Γ : rt_Γ l s0 a0 G ca) (hd : 5 ≤ d) (hok : zok C) (ht : zTx S t) (hT : rTx M t xs) (hv : v < xs.length) (hk : (xx xs v).kd = 1) {w : Nat} {wb : List Int} (hw : zstr s0 w wb) (hQ : Q (oR xs (xMem xs v (iw wb))) M) : zm_X10_member l s0 G ca d C S t (rP xs v : Nat) w M Q X := by
  refine z_X10_member Γ (by omega) hok ht hw ?_
  unfold zt_X10_member
  obtain ⟨h1, h2, h3, h4, -⟩ := rTx_at hT hv
  obtain ⟨g1, g2, g3, g4, g5, g6, g7⟩ := jWf_at hT.2.1 hv
  have hkk := g6 (Or.inl hk)
  rw [decide_eq_true hk] at hkk
  refine ⟨⟨by omega, by omega⟩, ?_⟩
  rw [h2.2.2.2.2.2.1 (Or.inl hk)]
  have := r_memL (Q := Q) (X := X) (w0 := zw s0 ca C S M) Γ hd hok ht hT hw (xx xs v).len (v + 1) _ hkk hQ
  rw [rWp_next hv] at this
  exact this
end RXs
