/-! ===== the class reads a text, in z ===== -/
/-- a text of N bytes on the class's tape -/
def cOk (bt : Int → Int) (N : Nat) : Prop := N < 2000 ∧ ∀ j : Nat, j < N → 0 ≤ bt j ∧ bt j < 256
theorem crb_b {bt : Int → Int} {N : Nat} (h : cOk bt N) (p : Nat) : -1 ≤ rb bt N p ∧ rb bt N p < 256 := by
  unfold rb
  split
  · rename_i c
    have := h.2 p c
    omega
  · omega
theorem crb_w {bt : Int → Int} {N : Nat} (h : cOk bt N) (p : Nat) : w32 (rb bt N p) = rb bt N p := by
  have := crb_b h p
  exact w32_id (by omega) (by omega)
theorem cg_eq {bt : Int → Int} {N p : Nat} (h : cOk bt N) {c : Int} {k : Int32} (hk : Int32.ofInt c = k) (hc : w32 c = c) : rg bt N p = k ↔ rb bt N p = c := by
  subst hk
  unfold rg
  rw [z_eq, crb_w h, hc]
theorem crg_T {bt : Int → Int} {N : Nat} (h : cOk bt N) : jT (rg bt N) N := ⟨h.1, fun p hp => by unfold rg rb; rw [if_neg (by omega)]; rfl⟩
/-- what the whole text says: its values, or where its first fault is -/
def jFin (g : Nat → Int32) (N : Nat) : Except Nat (List JR × Nat × Nat) → Except Nat (List JR)
  | .error e => .error e
  | .ok (xs, _, q) => if jSk g 4096 q = N then .ok xs else .error (jSk g 4096 q)
def jTx (g : Nat → Int32) (N : Nat) : Except Nat (List JR) := jFin g N (jGo g 4001 none 0 (jSk g 4096 0))
/-- the tape holds the text -/
def cTp (M : zM) (bt : Int → Int) (N : Nat) : Prop := M 1 1 = N ∧ ∀ j : Int, M 2 j = bt j
theorem zMet_S {l : Launch} {s0 : State} {G : va_G} {ca : Nat → ClassId} {k : Cond} {y : MethodName} {t d : Nat} {av : List Value} {C : Nat × Nat} {S S' : zS} {M : zM} {Q : Int → zM → Prop} {X : zM → Prop} {a c : Int} {k9 : Nat} {ci : Nat} {tys tys' : List (Nat × Int)} {c9 : Int} (hS : S a = some (0, ci, tys)) (hS' : S' a = some (0, ci, tys')) (hr : ∀ b : Int, ¬ b = a → S' b = S b) (hk : tys[k9]? = some (2, c9)) (hk' : tys' = tys.set k9 (3, c)) (hM : M a k9 = c)
    (h : zMet l s0 G ca k y t d av C S' M (fun v M1 => Q v (zu M1 a k9 c)) (fun M1 => X (zu M1 a k9 c))) : zMet l s0 G ca k y t d av C S M Q X := by
  have key : ∀ (C9 : Nat × Nat) (M9 : zM), zw s0 ca C9 S' M9 = zw s0 ca C9 S (zu M9 a k9 c) := by
    intro C9 M9
    refine Prod.ext rfl (Prod.ext rfl (funext fun j => ?_))
    show (S' (j : Int)).map (zcell s0 ca (M9 j)) = (S (j : Int)).map (zcell s0 ca (zu M9 a k9 c j))
    by_cases hj : (j : Int) = a
    · rw [hj, hS, hS']
      show some (Sum.inr (ci, zfs s0 (M9 a) 0 tys')) = some (Sum.inr (ci, zfs s0 (zu M9 a k9 c a) 0 tys))
      have e1 : zfs s0 (zu M9 a k9 c a) 0 tys = (zfs s0 (M9 a) 0 tys).set k9 (zv s0 2 c) := by
        rw [zfs_set (tc := (2, c9)) hk (show (2 : Nat) ≠ 3 by decide), Nat.zero_add]
        congr 1
        funext i
        unfold zu
        simp
      rw [e1, hk']
      congr 2
      -- the constant in the list is the value set
      have gen : ∀ (tys : List (Nat × Int)) (b k : Nat) (m : Int → Int) (c8 : Int), tys[k]? = some (2, c8) → zfs s0 m b (tys.set k (3, c)) = (zfs s0 m b tys).set k (zv s0 2 c) := by
        intro tys
        induction tys with
        | nil => intro b k m c8 h9; simp at h9
        | cons q r ih =>
          intro b k m c8 h9
          cases k with
          | zero => rfl
          | succ k =>
            simp only [List.getElem?_cons_succ] at h9
            show zv s0 (zft q) (zfx m b q) :: zfs s0 m (b + 1) (r.set k (3, c)) = zv s0 (zft q) (zfx m b q) :: (zfs s0 m (b + 1) r).set k (zv s0 2 c)
            rw [ih (b + 1) k m c8 h9]
      rw [gen tys 0 k9 (M9 a) c9 hk]
    · rw [hr _ hj]
      have : zu M9 a k9 c j = M9 j := funext fun i => zu_a hj
      rw [this]
  have hw : zw s0 ca C S M = zw s0 ca C S' M := by rw [key, zu_id hM]
  show rt_Met l s0 G k y d av (zw s0 ca C S M) (zQ s0 ca t C S Q X)
  rw [hw]
  refine rt_Met.mono (fun r w1 q => ?_) h
  rcases q with ⟨v, M1, h1, h2, h3⟩ | ⟨h1, n, M1, h2, h3, h4, h5⟩
  · exact Or.inl ⟨v, zu M1 a k9 c, h1, by rw [h2, key], h3⟩
  · exact Or.inr ⟨h1, n, zu M1 a k9 c, h2, h3, by rw [h4, key], h5⟩
/-- outside the class's Text nothing has changed -/
def cfr (M M1 : zM) : Prop := ∀ a : Int, (a < 6 ∨ 23 < a) → M1 a = M a
section CQ
variable {l : Launch} {s0 : State} {a0 : Array Value} {G : va_G} {ca : Nat → ClassId} {d : Nat} {C : Nat × Nat} {S : zS} {M : zM} {Q : Int → zM → Prop} {X : zM → Prop} {bt : Int → Int} {N p : Nat}
theorem cpk (hb : cOk bt N) (hT : cTp M bt N) {q : Nat} (hq : q < 2147483648) : zpeek M 1 2 4096 q = rb bt N q := by
  have hN := hb.1
  unfold rb
  by_cases c : q < N
  · rw [if_pos c, zpeek_in hT.1 (by omega) (by omega) (by omega) (by decide), hT.2]
  · rw [if_neg c, zpeek_out hT.1 (by omega) (by omega) (by omega)]
theorem cTp.zu (hT : cTp M bt N) {a k v : Int} (ha : ¬ a = 1) (ha2 : ¬ a = 2) : cTp (zu M a k v) bt N := ⟨by rw [zu_a (by omega), hT.1], fun j => by rw [zu_a (by omega), hT.2]⟩
theorem q_cskL (Γ : rt_Γ l s0 a0 G ca) (hd : 1 ≤ d) (hok : zok C) (hs : zSok S) (hs6 : S 6 = some (0, 8, [(3, 7), (3, 9), (3, 11), (3, 13), (3, 15), (3, 17), (3, 19), (3, 21), (3, 22), (3, 1), (0, 0), (0, 0), (0, 0)])) (hb : cOk bt N) {w0 : rt_Wd} : ∀ (k p : Nat) (M : zM), k ≤ 4096 → p ≤ N → cTp M bt N → M 6 11 = p → Q 0 (zu M 6 11 (jSk (rg bt N) k p)) → zg_X8_skipBlanks_2 l s0 G ca d C S w0 ((4096 : Int) - k) M Q X := by
  intro k
  induction k with
  | zero =>
    intro p M hk hp hT h2 hQ
    refine zs_X8_skipBlanks_2 Γ (by omega) hok hs hs6 ?_
    unfold zt_X8_skipBlanks_2
    refine ⟨fun _ => ?_, fun c => absurd (by decide) c⟩
    have : zu M 6 11 (jSk (rg bt N) 0 p) = M := zu_id h2
    rw [this] at hQ
    exact hQ
  | succ k ih =>
    intro p M hk hp hT h2 hQ
    have hN := hb.1
    refine zs_X8_skipBlanks_2 Γ (by omega) hok hs hs6 ?_
    unfold zt_X8_skipBlanks_2
    rw [w32_id (by omega) (by omega), h2, cpk hb hT (by omega), crb_w hb]
    have g9 : rg bt N p = 9 ↔ rb bt N p = 9 := cg_eq hb rfl (by decide)
    have g10 : rg bt N p = 10 ↔ rb bt N p = 10 := cg_eq hb rfl (by decide)
    have g13 : rg bt N p = 13 ↔ rb bt N p = 13 := cg_eq hb rfl (by decide)
    have g32 : rg bt N p = 32 ↔ rb bt N p = 32 := cg_eq hb rfl (by decide)
    have yes : (rg bt N p = 9 ∨ rg bt N p = 10 ∨ rg bt N p = 13 ∨ rg bt N p = 32) → zt_X8_skipBlanks_46 l s0 G ca d C S w0 ((4096 : Int) - ((k + 1 : Nat) : Int)) M Q X := fun e => by
      unfold zt_X8_skipBlanks_46
      have hlt : p < N := (crg_T hb).lt (by rcases e with e | e | e | e <;> rw [e] <;> decide)
      rw [h2, show (4096 : Int) - ((k + 1 : Nat) : Int) + 1 = 4096 - (k : Int) from by omega, ← show ((p + 1 : Nat) : Int) = (p : Int) + 1 from by omega]
      refine ih (p + 1) _ (by omega) (by omega) (hT.zu (by decide) (by decide)) (zu_s _ _ _ _) ?_
      rw [jSk_step, if_pos e] at hQ
      rw [zu_zu]
      exact hQ
    refine ⟨fun c => by omega, fun _ => ⟨fun c => yes (Or.inl (g9.mpr c)), fun c1 => ⟨fun c => yes (Or.inr (Or.inl (g10.mpr c))), fun c2 => ⟨fun c => yes (Or.inr (Or.inr (Or.inl (g13.mpr c)))), fun c3 => ⟨fun c => yes (Or.inr (Or.inr (Or.inr (g32.mpr c)))), fun c4 => ?_⟩⟩⟩⟩⟩
    rw [jSk_step, if_neg ?_, zu_id h2] at hQ
    · exact hQ
    · rintro (e | e | e | e)
      · exact c1 (g9.mp e)
      · exact c2 (g10.mp e)
      · exact c3 (g13.mp e)
      · exact c4 (g32.mp e)
theorem q_csk (Γ : rt_Γ l s0 a0 G ca) (hd : 1 ≤ d) (hok : zok C) (hs : zSok S) (hs6 : S 6 = some (0, 8, [(3, 7), (3, 9), (3, 11), (3, 13), (3, 15), (3, 17), (3, 19), (3, 21), (3, 22), (3, 1), (0, 0), (0, 0), (0, 0)])) (hb : cOk bt N) (hp : p ≤ N) (hT : cTp M bt N) (h2 : M 6 11 = p) (h : Q 0 (zu M 6 11 (jSk (rg bt N) 4096 p))) : zm_X8_skipBlanks l s0 G ca d C S M Q X := by
  refine z_X8_skipBlanks Γ (by omega) hok hs hs6 ?_
  unfold zt_X8_skipBlanks
  exact q_cskL Γ hd hok hs hs6 hb 4096 p M (Nat.le_refl _) hp hT h2 h
/-- from any place -/
theorem q_cskA (Γ : rt_Γ l s0 a0 G ca) (hd : 1 ≤ d) (hok : zok C) (hs : zSok S) (hs6 : S 6 = some (0, 8, [(3, 7), (3, 9), (3, 11), (3, 13), (3, 15), (3, 17), (3, 19), (3, 21), (3, 22), (3, 1), (0, 0), (0, 0), (0, 0)])) (h : ∀ x : Int, Q 0 (zu M 6 11 x)) : zm_X8_skipBlanks l s0 G ca d C S M Q X := by
  refine z_X8_skipBlanks Γ (by omega) hok hs hs6 ?_
  unfold zt_X8_skipBlanks
  have key : ∀ (k : Nat) (M1 : zM), k ≤ 4096 → (∃ x : Int, M1 = zu M 6 11 x) → zg_X8_skipBlanks_2 l s0 G ca d C S (zw s0 ca C S M) ((4096 : Int) - k) M1 Q X := by
    intro k
    induction k with
    | zero =>
      rintro M1 _ ⟨x, rfl⟩
      refine zs_X8_skipBlanks_2 Γ (by omega) hok hs hs6 ?_
      unfold zt_X8_skipBlanks_2
      exact ⟨fun _ => h x, fun c => absurd (by decide) c⟩
    | succ k ih =>
      rintro M1 hk ⟨x, rfl⟩
      refine zs_X8_skipBlanks_2 Γ (by omega) hok hs hs6 ?_
      unfold zt_X8_skipBlanks_2
      rw [w32_id (by omega) (by omega)]
      have yes : zt_X8_skipBlanks_46 l s0 G ca d C S (zw s0 ca C S M) ((4096 : Int) - ((k + 1 : Nat) : Int)) (zu M 6 11 x) Q X := by
        unfold zt_X8_skipBlanks_46
        rw [show (4096 : Int) - ((k + 1 : Nat) : Int) + 1 = 4096 - (k : Int) from by omega]
        exact ih _ (by omega) ⟨_, zu_zu _ _ _ _ _⟩
      exact ⟨fun _ => h x, fun _ => ⟨fun _ => yes, fun _ => ⟨fun _ => yes, fun _ => ⟨fun _ => yes, fun _ => ⟨fun _ => yes, fun _ => h x⟩⟩⟩⟩⟩
  refine key 4096 M (Nat.le_refl _) ⟨M 6 11, (zu_id rfl).symm⟩
theorem zI_ofInt {f : Nat → Int32} : (fun j : Nat => Int32.ofInt (zI f (j : Int))) = f := zI_of f
/-- parseValue from the text's first value on -/
theorem q_cval (Γ : rt_Γ l s0 a0 G ca) (hd : 56 ≤ d) (hok : zok C) (hs : zSok S) (hs6 : S 6 = some (0, 8, [(3, 7), (3, 9), (3, 11), (3, 13), (3, 15), (3, 17), (3, 19), (3, 21), (3, 22), (3, 1), (0, 0), (0, 0), (0, 0)])) (hb : cOk bt N) (hp : p ≤ N) (hT : cTp M bt N) (h0 : c0 M) (h10 : M 6 10 = 0) (h11 : M 6 11 = p) (h12 : M 6 12 = -1) (h22 : M 22 1 = 0)
    (kE : ∀ e : Nat, jGo (rg bt N) 4001 none 0 p = .error e → ∀ M1 : zM, M1 6 12 = e → cfr M M1 → c0 M1 → Q 0 M1)
    (kO : ∀ (xs : List JR) (c q : Nat), jGo (rg bt N) 4001 none 0 p = .ok (xs, c, q) → ∀ M1 : zM, M1 6 11 = q → M1 6 12 = -1 → cRep M1 (jLw xs) xs → cfr M M1 → c0 M1 → Q 0 M1) : zm_X8_parseValue l s0 G ca d C S 0 M Q X := by
  have hN := hb.1
  have hTj := crg_T hb
  have hok2 : rt_ok (zw s0 ca C S M) := ⟨by have := hok.1; show C.1 ≤ _; omega, by have := hok.2; show C.2 ≤ _; omega⟩
  have hC : rt_C s0 ca (zw s0 ca C S M) 1 4096 (fun j => Int32.ofInt (M 2 j)) (Int32.ofInt N) := by
    refine ⟨?_, ?_⟩
    · show (S 1).map _ = _
      rw [show S 1 = some (0, 0, [(3, 2), (0, 0)]) from hs 1 _ rfl]
      show some (Sum.inr (0, [zv s0 2 2, zv s0 0 (M 1 1)])) = _
      rw [hT.1]
      rfl
    · show (S 2).map _ = _
      rw [show S 2 = some (1, 4096, []) from hs 2 _ rfl]
      rfl
  have hg : ∀ q : Nat, q < 65536 → cl_peek 4096 (fun j => Int32.ofInt (M 2 j)) (Int32.ofInt N) (nI q) = rg bt N q := by
    intro q hq
    unfold cl_peek rg rb
    rw [if_neg (nI_pos (by omega))]
    have eN : Int32.ofInt (N : Int) = nI N := Int32.ofInt_eq_ofNat
    rw [eN]
    by_cases c : q < N
    · rw [if_neg (nI_ge c (by omega)), if_neg (nI_ge (by omega) (by decide)), nI_clamp (by omega), if_pos c]
      exact congrArg Int32.ofInt (hT.2 _)
    · rw [if_pos (nI_le (by omega) (by omega)), if_neg c]; rfl
  have hj := j_val Γ (t := 6) hC (by decide) (by omega) hg hok2 hTj 4001 d 0 p 0 0 (fun j => Int32.ofInt (M 8 j)) (fun j => Int32.ofInt (M 10 j)) (fun j => Int32.ofInt (M 12 j)) (fun j => Int32.ofInt (M 14 j)) (fun j => Int32.ofInt (M 16 j)) (fun j => Int32.ofInt (M 18 j)) (fun j => Int32.ofInt (M 20 j)) (fun j => Int64.ofInt (M 21 j)) (fun j => Int32.ofInt (M 23 j)) (by omega) (by omega) hp (by omega) (by omega) (by omega)
  have hw : rt_bk (zw s0 ca C S M) 6 (tx_L s0 ca 6 (rt_r s0 1) (nI 0) (nI p) (-1) (fun j => Int32.ofInt (M 8 j)) (fun j => Int32.ofInt (M 10 j)) (fun j => Int32.ofInt (M 12 j)) (fun j => Int32.ofInt (M 14 j)) (fun j => Int32.ofInt (M 16 j)) (fun j => Int32.ofInt (M 18 j)) (fun j => Int32.ofInt (M 20 j)) (fun j => Int64.ofInt (M 21 j)) (fun j => Int32.ofInt (M 23 j)) (nI 0)) = zw s0 ca C S M := by
    have e := zTb_w (s0 := s0) (ca := ca) (C := C) hs hs6 h0 (M 6 10) (M 6 11) (M 6 12) (M 8) (M 10) (M 12) (M 14) (M 16) (M 18) (M 20) (M 21) (M 23) (M 22 1)
    rw [zTb_id, h10, h11, h12, h22] at e
    have ep : Int32.ofInt (p : Int) = nI p := Int32.ofInt_eq_ofNat
    rw [ep] at e
    exact e
  rw [hw] at hj
  have back : ∀ (vals pos wrong : Int32) (k b nx fi pa wo ke : Nat → Int32) (nu : Nat → Int64) (le : Nat → Int32) (lu : Int32), rt_bk (zw s0 ca C S M) 6 (tx_L s0 ca 6 (rt_r s0 1) vals pos wrong k b nx fi pa wo ke nu le lu) = zw s0 ca C S (zTb M vals.toInt pos.toInt wrong.toInt (zI k) (zI b) (zI nx) (zI fi) (zI pa) (zI wo) (zI ke) (zI6 nu) (zI le) lu.toInt) := by
    intro vals pos wrong k b nx fi pa wo ke nu le lu
    have e := zTb_w (s0 := s0) (ca := ca) (C := C) hs hs6 h0 vals.toInt pos.toInt wrong.toInt (zI k) (zI b) (zI nx) (zI fi) (zI pa) (zI wo) (zI ke) (zI6 nu) (zI le) lu.toInt
    rw [zI_of, zI_of, zI_of, zI_of, zI_of, zI_of, zI_of, zI6_of, zI_of, Int32.ofInt_toInt, Int32.ofInt_toInt, Int32.ofInt_toInt, Int32.ofInt_toInt] at e
    exact e
  have fr : ∀ (vals pos wrong : Int) (k b nx fi pa wo ke nu le : Int → Int) (lu : Int), cfr M (zTb M vals pos wrong k b nx fi pa wo ke nu le lu) ∧ c0 (zTb M vals pos wrong k b nx fi pa wo ke nu le lu) := by
    intro vals pos wrong k b nx fi pa wo ke nu le lu
    refine ⟨fun a ha => ?_, h0⟩
    unfold zTb
    rw [if_neg (by omega), if_neg (by omega), if_neg (by omega), if_neg (by omega), if_neg (by omega), if_neg (by omega), if_neg (by omega), if_neg (by omega), if_neg (by omega), if_neg (by omega), if_neg (by omega)]
  show rt_Met l s0 G _ _ d [zv s0 2 6, zv s0 0 0] (zw s0 ca C S M) (zQ s0 ca 0 C S Q X)
  cases hG : jGo (rg bt N) 4001 none 0 p with
  | error e =>
    have hlt := jGo_lt hTj _ _ _ _ _ hp hG
    refine rt_Met.mono (fun r w1 h => ?_) (hj.1 e hG)
    obtain ⟨rfl, vals, pos, k, b, nx, fi, pa, wo, ke, nu, le, lu, rfl⟩ := h
    rw [back]
    refine Or.inl ⟨0, _, rfl, rfl, kE e hG _ ?_ (fr _ _ _ _ _ _ _ _ _ _ _ _ _).1 (fr _ _ _ _ _ _ _ _ _ _ _ _ _).2⟩
    show (nI e).toInt = (e : Int)
    exact nI_toInt (by omega)
  | ok r9 =>
    obtain ⟨xs, c, q⟩ := r9
    have hbo := jGo_ok hTj _ _ _ _ _ _ _ hp hG
    have hwf := (jGo_wf hTj _ _ _ _ _ _ _ hp hG).1
    refine rt_Met.mono (fun r w1 h => ?_) (hj.2 xs c q hG)
    obtain ⟨rfl, k, b, nx, fi, pa, wo, ke, nu, le, rfl, -, -, -, hrep⟩ := h
    rw [back]
    refine Or.inl ⟨0, _, rfl, rfl, kO xs c q hG _ ?_ ?_ ?_ (fr _ _ _ _ _ _ _ _ _ _ _ _ _).1 (fr _ _ _ _ _ _ _ _ _ _ _ _ _).2⟩
    · show (nI q).toInt = (q : Int)
      exact nI_toInt (by omega)
    · show (-1 : Int32).toInt = -1
      decide
    · rw [Nat.zero_add] at hrep
      have hbd : ∀ (ys : List JR), jWf ys → ∀ (i : Nat) (x : JR), ys[i]? = some x → i < ys.length ∧ x.kd < 10 ∧ x.bg < 5000 ∧ x.len ≤ ys.length ∧ i + x.sz ≤ ys.length := by
        intro ys
        induction ys with
        | nil => intro _ i x hx; simp at hx
        | cons y ys ih =>
          intro hy i x hx
          obtain ⟨w1, w2, w3, w4, w5, w6, w7, w8⟩ := hy
          cases i with
          | zero =>
            simp only [List.getElem?_cons_zero, Option.some.injEq] at hx
            subst hx
            rw [List.length_cons]
            omega
          | succ i =>
            simp only [List.getElem?_cons_succ] at hx
            have := ih w8 i x hx
            rw [List.length_cons]
            omega
      refine cRep_of (k := k) (b := b) (nx := nx) (fi := fi) (pa := pa) (wo := wo) (ke := ke) (nu := nu) (le := le) (by omega) (fun i x hx => by have := hbd xs hwf i x hx; omega) hrep ?_ ?_ ?_ ?_ ?_ ?_ ?_ ?_ ?_
      all_goals
        intro j
        first
        | exact congrArg Int32.toInt (congrArg _ (Int.toNat_natCast j))
        | exact congrArg Int64.toInt (congrArg _ (Int.toNat_natCast j))
end CQ
