/-! ===== the reference's Text: what its nodes say ===== -/
def kwW : Option (List Int32) → Nat
  | none => 0
  | some _ => 1
def kwL : Option (List Int32) → Nat
  | none => 0
  | some k => k.length
def jk (x : JR) : Nat := kwW x.kw
def jkl (x : JR) : Nat := kwL x.kw
def jsl (x : JR) : Nat := if x.kd = 3 then x.ws.length else 0
def rW : List JR → Nat
  | [] => 0
  | x :: xs => jk x + 1 + rW xs
def rL : List JR → Nat
  | [] => 0
  | x :: xs => jkl x + jsl x + rL xs
/-- node j is the value x; its letters begin at L; nxt stands behind it -/
def rNd (M : zM) (t : Int) (x : JR) (j : Int) (L : Nat) (nxt : Int) : Prop := M (t + 2) j = (x.kd : Int) - 1 ∧ M (t + 3) j = x.bg ∧ (x.kd = 4 → M (t + 4) j = x.num.toInt) ∧ (x.kd = 3 → rStr M t j L x.ws) ∧ (x.kd = 2 → M (t + 5) j = x.len) ∧ ((x.kd = 1 ∨ x.kd = 2) → M (t + 6) j = if x.len = 0 then -1 else j + 1) ∧ M (t + 7) j = nxt
/-- the values xs stand from node W on, their letters from L on -/
def rRep (M : zM) (t : Int) : List JR → Nat → Nat → Prop
  | [], _, _ => True
  | x :: xs, W, L => (∀ k : List Int32, x.kw = some k → rStr M t W L k ∧ M (t + 7) W = (W : Int) + 1) ∧
      rNd M t x ((W + jk x : Nat) : Int) (L + jkl x) (if x.more = true then ((W + jk x + 1 + rW (xs.take (x.sz - 1)) : Nat) : Int) else -1) ∧ x.sz - 1 ≤ xs.length ∧ rRep M t xs (W + jk x + 1) (L + jkl x + jsl x)
theorem rW_app (xs ys : List JR) : rW (xs ++ ys) = rW xs + rW ys := by
  induction xs with
  | nil => simp [rW]
  | cons x xs ih => simp only [List.cons_append, rW, ih]; omega
theorem rL_app (xs ys : List JR) : rL (xs ++ ys) = rL xs + rL ys := by
  induction xs with
  | nil => simp [rL]
  | cons x xs ih => simp only [List.cons_append, rL, ih]; omega
theorem rW_le (xs : List JR) : rW xs ≤ xs.length + jLw xs ∧ rL xs ≤ jLw xs := by
  induction xs with
  | nil => simp [rW, rL]
  | cons x xs ih =>
    rw [jLw_cons, List.length_cons]
    unfold rW rL jk jkl jsl jlw jwl
    cases x.kw <;> simp only [kwW, kwL] <;> split <;> omega
theorem rLet.mono {M M1 : zM} {t : Int} {L : Nat} {ws : List Int32} (h : rLet M t L ws) (e : ∀ j : Int, (L : Int) ≤ j → j < ((L + ws.length : Nat) : Int) → M1 (t + 8) j = M (t + 8) j) : rLet M1 t L ws := fun i hi => by
  obtain ⟨h1, h2⟩ := h i hi
  exact ⟨(e _ (by omega) (by omega)).trans h1, h2⟩
theorem rStr.mono {M M1 : zM} {t n : Int} {L : Nat} {ws : List Int32} (h : rStr M t n L ws) (e1 : ∀ b : Int, t + 2 ≤ b → b ≤ t + 5 → M1 b n = M b n) (e : ∀ j : Int, (L : Int) ≤ j → j < ((L + ws.length : Nat) : Int) → M1 (t + 8) j = M (t + 8) j) : rStr M1 t n L ws :=
  ⟨(e1 _ (by omega) (by omega)).trans h.1, (e1 _ (by omega) (by omega)).trans h.2.1, (e1 _ (by omega) (by omega)).trans h.2.2.1, h.2.2.2.mono e⟩
theorem rNd.mono {M M1 : zM} {t : Int} {x : JR} {j : Int} {L : Nat} {nxt : Int} (h : rNd M t x j L nxt) (e1 : ∀ b : Int, t + 2 ≤ b → b ≤ t + 7 → M1 b j = M b j) (e : ∀ i : Int, (L : Int) ≤ i → i < ((L + jsl x : Nat) : Int) → M1 (t + 8) i = M (t + 8) i) : rNd M1 t x j L nxt := by
  obtain ⟨h1, h2, h3, h4, h5, h6, h7⟩ := h
  refine ⟨(e1 _ (by omega) (by omega)).trans h1, (e1 _ (by omega) (by omega)).trans h2, fun k => (e1 _ (by omega) (by omega)).trans (h3 k), fun k => (h4 k).mono (fun b b1 b2 => e1 b b1 (by omega)) (fun i i1 i2 => e i i1 ?_), fun k => (e1 _ (by omega) (by omega)).trans (h5 k), fun k => (e1 _ (by omega) (by omega)).trans (h6 k), (e1 _ (by omega) (by omega)).trans h7⟩
  unfold jsl
  rw [if_pos k]
  exact i2
theorem rRep.mono {M M1 : zM} {t : Int} : ∀ {xs : List JR} {W L : Nat}, rRep M t xs W L → (∀ b j : Int, t + 2 ≤ b → b ≤ t + 7 → (W : Int) ≤ j → j < ((W + rW xs : Nat) : Int) → M1 b j = M b j) → (∀ j : Int, (L : Int) ≤ j → j < ((L + rL xs : Nat) : Int) → M1 (t + 8) j = M (t + 8) j) → rRep M1 t xs W L := by
  intro xs
  induction xs with
  | nil => intro W L _ _ _; trivial
  | cons x xs ih =>
    intro W L h e1 e2
    obtain ⟨h1, h2, h3, h4⟩ := h
    have hw : rW (x :: xs) = jk x + 1 + rW xs := rfl
    have hl : rL (x :: xs) = jkl x + jsl x + rL xs := rfl
    rw [hw] at e1
    rw [hl] at e2
    refine ⟨fun k hk => ?_, ?_, h3, ih h4 (fun b j b1 b2 b3 b4 => e1 b j b1 b2 (by omega) (by omega)) (fun j j1 j2 => e2 j (by omega) (by omega))⟩
    · obtain ⟨g1, g2⟩ := h1 k hk
      have hjl : jkl x = k.length := by unfold jkl; rw [hk]; rfl
      have hj : jk x = 1 := by unfold jk; rw [hk]; rfl
      exact ⟨g1.mono (fun b b1 b2 => e1 b _ b1 (by omega) (by omega) (by omega)) (fun j j1 j2 => e2 j (by omega) (by omega)), (e1 _ _ (by omega) (by omega) (by omega) (by omega)).trans g2⟩
    · exact h2.mono (fun b b1 b2 => e1 b _ b1 b2 (by omega) (by omega)) (fun i i1 i2 => e2 i (by omega) (by omega))
theorem rRep.app {M : zM} {t : Int} {ys : List JR} : ∀ {xs : List JR} {W L : Nat}, rRep M t xs W L → rRep M t ys (W + rW xs) (L + rL xs) → rRep M t (xs ++ ys) W L := by
  intro xs
  induction xs with
  | nil => intro W L _ h; exact h
  | cons x xs ih =>
    intro W L h hy
    obtain ⟨h1, h2, h3, h4⟩ := h
    have hw : rW (x :: xs) = jk x + 1 + rW xs := rfl
    have hl : rL (x :: xs) = jkl x + jsl x + rL xs := rfl
    rw [hw, hl] at hy
    show rRep M t (x :: (xs ++ ys)) W L
    refine ⟨h1, ?_, by rw [List.length_append]; omega, ih h4 ?_⟩
    · rw [List.take_append_of_le_length h3]
      exact h2
    · rw [show W + jk x + 1 + rW xs = W + (jk x + 1 + rW xs) from by omega, show L + jkl x + jsl x + rL xs = L + (jkl x + jsl x + rL xs) from by omega]
      exact hy
/-- the head gets a key and, perhaps, a sibling -/
theorem rRep.hd {M M1 : zM} {t : Int} {x : JR} {rest : List JR} {W L W1 L1 : Nat} {kw : Option (List Int32)} {more : Bool} (hk : x.kw = none) (hsz : x.sz = (x :: rest).length)
    (hW : W1 = W + kwW kw) (hL : L1 = L + kwL kw) (h : rRep M t (x :: rest) W1 L1)
    (e1 : ∀ b j : Int, t + 2 ≤ b → b ≤ t + 7 → (W1 : Int) ≤ j → j < ((W1 + rW (x :: rest) : Nat) : Int) → ¬ (b = t + 7 ∧ j = W1) → M1 b j = M b j) (e2 : ∀ j : Int, (L1 : Int) ≤ j → j < ((L1 + rL (x :: rest) : Nat) : Int) → M1 (t + 8) j = M (t + 8) j)
    (e3 : M1 (t + 7) W1 = if more = true then ((W1 + rW (x :: rest) : Nat) : Int) else -1) (e4 : ∀ k : List Int32, kw = some k → rStr M1 t W L k ∧ M1 (t + 7) W = (W : Int) + 1) : rRep M1 t (jHd kw more (x :: rest)) W L := by
  obtain ⟨h1, h2, h3, h4⟩ := h
  have z1 : jk x = 0 := by unfold jk; rw [hk]; rfl
  have z2 : jkl x = 0 := by unfold jkl; rw [hk]; rfl
  have hw : rW (x :: rest) = 1 + rW rest := by show jk x + 1 + rW rest = _; omega
  have hl : rL (x :: rest) = jsl x + rL rest := by show jkl x + jsl x + rL rest = _; omega
  rw [hw] at e1 e3
  rw [hl] at e2
  have hlen : x.sz - 1 = rest.length := by rw [hsz]; rfl
  obtain ⟨x1, x2, x3, x4, x5, x6, x7, x8⟩ := x
  have hjk : jk (x1, x2, x3, x4, kw, x6, x7, more) = kwW kw := rfl
  have hjl : jkl (x1, x2, x3, x4, kw, x6, x7, more) = kwL kw := rfl
  have hWW : W + jk (x1, x2, x3, x4, kw, x6, x7, more) = W1 := by rw [hjk, hW]
  have hLL : L + jkl (x1, x2, x3, x4, kw, x6, x7, more) = L1 := by rw [hjl, hL]
  rw [z1, z2, Nat.add_zero, Nat.add_zero] at h2
  rw [z1, z2, Nat.add_zero, Nat.add_zero] at h4
  refine ⟨fun k hk9 => e4 k hk9, ?_, h3, ?_⟩
  · rw [hWW, hLL]
    obtain ⟨g1, g2, g3, g4, g5, g6, g7⟩ := h2
    have n1 : ∀ b : Int, t + 2 ≤ b → b ≤ t + 6 → M1 b W1 = M b W1 := fun b b1 b2 => e1 b W1 b1 (by omega) (by omega) (by omega) (by omega)
    refine ⟨(n1 _ (by omega) (by omega)).trans g1, (n1 _ (by omega) (by omega)).trans g2, fun c => (n1 _ (by omega) (by omega)).trans (g3 c), fun c => (g4 c).mono (fun b b1 b2 => n1 b b1 (by omega)) (fun i i1 i2 => e2 i i1 ?_), fun c => (n1 _ (by omega) (by omega)).trans (g5 c), fun c => (n1 _ (by omega) (by omega)).trans (g6 c), ?_⟩
    · have : jsl (x1, x2, x3, x4, x5, x6, x7, x8) = x4.length := if_pos c
      rw [this]
      have i2' : i < ((L1 + x4.length : Nat) : Int) := i2
      omega
    · rw [e3]
      show _ = if more = true then ((W1 + 1 + rW (rest.take (x7 - 1)) : Nat) : Int) else -1
      have : rest.take (x7 - 1) = rest := by rw [show x7 - 1 = rest.length from hlen, List.take_length]
      rw [this, show W1 + (1 + rW rest) = W1 + 1 + rW rest from by omega]
  · rw [hWW, hLL]
    exact h4.mono (fun b j b1 b2 b3 b4 => e1 b j b1 b2 (by omega) (by omega) (by omega)) (fun j j1 j2 => e2 j (by have : jsl (x1, x2, x3, x4, x5, x6, x7, x8) = jsl (x1, x2, x3, x4, kw, x6, x7, more) := rfl; omega) (by have : jsl (x1, x2, x3, x4, x5, x6, x7, x8) = jsl (x1, x2, x3, x4, kw, x6, x7, more) := rfl; omega))
theorem rW_hd {x : JR} {rest : List JR} {kw : Option (List Int32)} {more : Bool} (hk : x.kw = none) : rW (jHd kw more (x :: rest)) = rW (x :: rest) + kwW kw ∧ rL (jHd kw more (x :: rest)) = rL (x :: rest) + kwL kw := by
  obtain ⟨x1, x2, x3, x4, x5, x6, x7, x8⟩ := x
  have hk' : x5 = none := hk
  subst hk'
  show jk (x1, x2, x3, x4, kw, x6, x7, more) + 1 + rW rest = jk (x1, x2, x3, x4, none, x6, x7, x8) + 1 + rW rest + _ ∧ jkl (x1, x2, x3, x4, kw, x6, x7, more) + jsl (x1, x2, x3, x4, kw, x6, x7, more) + rL rest = jkl (x1, x2, x3, x4, none, x6, x7, x8) + jsl (x1, x2, x3, x4, none, x6, x7, x8) + rL rest + _
  have hj : jsl (x1, x2, x3, x4, kw, x6, x7, more) = jsl (x1, x2, x3, x4, none, x6, x7, x8) := rfl
  rw [hj]
  have a1 : jk (x1, x2, x3, x4, kw, x6, x7, more) = kwW kw := rfl
  have a2 : jk (x1, x2, x3, x4, none, x6, x7, x8) = 0 := rfl
  have a3 : jkl (x1, x2, x3, x4, kw, x6, x7, more) = kwL kw := rfl
  have a4 : jkl (x1, x2, x3, x4, none, x6, x7, x8) = 0 := rfl
  rw [a1, a2, a3, a4]
  omega
theorem w8_inj {a b : Int} (h0 : 0 ≤ a) (h1 : a < 256) (g0 : 0 ≤ b) (g1 : b < 256) (h : w8 a = w8 b) : a = b := by
  have key : ∀ x : Fin 256, (w8 ((x : Nat) : Int)).emod 256 = ((x : Nat) : Int) := by decide +kernel
  have e1 := key ⟨a.toNat, by omega⟩
  have e2 := key ⟨b.toNat, by omega⟩
  simp only [Int.toNat_of_nonneg h0] at e1
  simp only [Int.toNat_of_nonneg g0] at e2
  rw [← e1, ← e2, h]
section RS2
variable {l : Launch} {s0 : State} {a0 : Array Value} {G : va_G} {ca : Nat → ClassId} {d : Nat} {C : Nat × Nat} {S : zS} {t : Int} {M : zM} {Q : Int → zM → Prop} {X : zM → Prop}
theorem q_sameL (Γ : rt_Γ l s0 a0 G ca) (hok : zok C) (ht : zTx S t) {o : Int} (ho : zTx S o) {w0 : rt_Wd} {a b : Int} {La Lb : Nat} {u v : List Int32} (ha0 : 0 ≤ a) (ha : a < 4200) (hb0 : 0 ≤ b) (hb : b < 4200) (hu : rStr M t a La u) (hv : rStr M o b Lb v) (hlen : u.length = v.length) (hLa : La + u.length ≤ 4200) (hLb : Lb + v.length ≤ 4200)
    (k1 : u = v → Q 1 M) (k0 : ¬ u = v → Q 0 M) : ∀ (m i : Nat), i + m = u.length → (∀ j : Nat, j < i → u.getD j 0 = v.getD j 0) → zg_X10_same_20 l s0 G ca d C S w0 t a o b i M Q X := by
  intro m
  induction m with
  | zero =>
    intro i hi heq
    refine zs_X10_same_20 Γ hok ht ?_
    unfold zt_X10_same_20
    refine ⟨⟨ha0, ha⟩, ⟨fun _ => k1 ?_, fun c => ?_⟩⟩
    · refine List.ext_getElem hlen (fun j h1 h2 => ?_)
      have := heq j (by omega)
      simpa [List.getD, List.getElem?_eq_getElem h1, List.getElem?_eq_getElem h2] using this
    · rw [hu.2.2.1, w32_id (by omega) (by omega), w32_id (by omega) (by omega)] at c
      omega
  | succ m ih =>
    intro i hi heq
    refine zs_X10_same_20 Γ hok ht ?_
    unfold zt_X10_same_20
    refine ⟨⟨ha0, ha⟩, ⟨fun c => ?_, fun _ => ?_⟩⟩
    · rw [hu.2.2.1, w32_id (by omega) (by omega), w32_id (by omega) (by omega)] at c
      omega
    · obtain ⟨g1, g2, g3⟩ := hu.2.2.2 i (by omega)
      obtain ⟨f1, f2, f3⟩ := hv.2.2.2 i (by omega)
      rw [hu.2.1, hv.2.1]
      have e1 : (La : Int) + (i : Int) = ((La + i : Nat) : Int) := by omega
      have e2 : (Lb : Int) + (i : Int) = ((Lb + i : Nat) : Int) := by omega
      rw [e1, e2, g1, f1]
      refine ⟨⟨by omega, by omega⟩, ho, ⟨hb0, hb⟩, ⟨by omega, by omega⟩, ?_⟩
      have b1 := w8_b (u.getD i 0).toInt
      have b2 := w8_b (v.getD i 0).toInt
      rw [w32_id (by omega) (by omega), w32_id (by omega) (by omega)]
      refine ⟨fun c => ?_, fun c => k0 (fun e => c (by rw [e]))⟩
      have e3 : (i : Int) + 1 = ((i + 1 : Nat) : Int) := by omega
      rw [e3]
      refine ih (i + 1) (by omega) (fun j hj => ?_)
      by_cases hji : j = i
      · subst hji
        exact Int32.toInt_inj.mp (w8_inj g2 g3 f2 f3 c)
      · exact heq j (by omega)
theorem q_same (Γ : rt_Γ l s0 a0 G ca) (hok : zok C) (ht : zTx S t) {o : Int} (ho : zTx S o) {a b : Int} {La Lb : Nat} {u v : List Int32} (ha0 : 0 ≤ a) (ha : a < 4200) (hb0 : 0 ≤ b) (hb : b < 4200) (hu : rStr M t a La u) (hv : rStr M o b Lb v) (hLa : La + u.length ≤ 4200) (hLb : Lb + v.length ≤ 4200)
    (k1 : u = v → Q 1 M) (k0 : ¬ u = v → Q 0 M) : zm_X10_same l s0 G ca d C S t a o b M Q X := by
  refine z_X10_same Γ hok ht ?_
  unfold zt_X10_same
  refine ⟨⟨ha0, ha⟩, ho, ⟨hb0, hb⟩, ?_⟩
  rw [hu.2.2.1, hv.2.2.1, w32_id (by omega) (by omega), w32_id (by omega) (by omega)]
  refine ⟨fun c => ?_, fun c => k0 (fun e => c (by rw [e]))⟩
  exact q_sameL Γ hok ht ho ha0 ha hb0 hb hu hv (by omega) hLa hLb k1 k0 u.length 0 (by omega) (fun j hj => absurd hj (Nat.not_lt_zero _))
end RS2
