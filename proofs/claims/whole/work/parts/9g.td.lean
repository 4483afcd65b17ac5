/-! ===== the class tells: frames, what has been told ===== -/
def tFr (e u : Nat) (M M1 : zM) : Prop := ∀ c j : Int, ¬ (c = 56 ∧ (j = 10 ∨ j = 11)) → ¬ (c = 57 ∧ j = 1) → ¬ (c = 58 ∧ (u : Int) ≤ j) → ¬ (c = 60 ∨ c = 64 ∨ c = 66 ∨ c = 68) → ¬ (c = 62 ∧ ((33 * e : Nat) : Int) ≤ j) → M1 c j = M c j
theorem tFr.rf {e u : Nat} {M : zM} : tFr e u M M := fun _ _ _ _ _ _ _ => rfl
theorem tFr.tr {e e1 u u1 : Nat} {M M1 M2 : zM} (h : tFr e u M M1) (h1 : tFr e1 u1 M1 M2) (he : e ≤ e1) (hu : u ≤ u1) : tFr e u M M2 := fun c j n1 n2 n3 n4 n5 => (h1 c j n1 n2 (fun x => n3 ⟨x.1, by omega⟩) n4 (fun x => n5 ⟨x.1, by omega⟩)).trans (h c j n1 n2 n3 n4 n5)
theorem tFr.zu {e u : Nat} {M M1 : zM} (h : tFr e u M M1) {a k v : Int} (ha : (a = 56 ∧ (k = 10 ∨ k = 11)) ∨ (a = 60 ∨ a = 64 ∨ a = 66 ∨ a = 68) ∨ (a = 62 ∧ ((33 * e : Nat) : Int) ≤ k)) : tFr e u M (zu M1 a k v) := fun c j n1 n2 n3 n4 n5 => by
  rw [← h c j n1 n2 n3 n4 n5]
  exact if_neg (fun x => by
    obtain ⟨rfl, rfl⟩ := x
    rcases ha with g | g | g
    · exact n1 g
    · exact n4 g
    · exact n5 g)
theorem apB.t {M M1 : zM} {e u : Nat} {bs : List Nat} (h : apB M M1 57 58 u bs) : tFr e u M M1 := fun c j _ n2 n3 _ _ => h.2.2 c j n2 n3
theorem avF.t {M M1 : zM} {e u n : Nat} (h : avF M M1 57 58 u n) : tFr e u M M1 := fun c j _ n2 n3 _ _ => h.2 c j n2 n3
/-- what the Teller knows of the reader's fields: where they come from -/
def tOq (M : zM) (A B : SS) : Prop := ∀ (i k : Nat) (n : SN) (z : SP), B.ns[i]? = some n → n.kd = 11 → n.ps[k]? = some z → M 60 ((nTot (B.ns.take i) + k : Nat) : Int) = -2 ∨
  ∀ w : Nat, w < 6 + A.ns.length → (nN A.ns w).kd = 11 → tPln A.ns B.ns w (6 + i) = true → M 60 ((nTot (B.ns.take i) + k : Nat) : Int) = oI (sPrt (nN A.ns w).ps z.nm)
theorem tOq.fr {M M1 : zM} {A B : SS} (h : tOq M A B) (e : ∀ j : Int, M1 60 j = M 60 j) : tOq M1 A B := fun i k n z h1 h2 h3 => by
  rw [e]
  exact h i k n z h1 h2 h3
/-- what a record of no bytes tells, whichever way it is looked at -/
def tZe (A B : SS) (dB : SP → Option (List Nat)) (w : Nat) (z : List Nat) : Prop := ∀ (m r : Nat) (o : tU), r < 6 + B.ns.length → (nN B.ns r).kd = 11 → tPln A.ns B.ns w r = true → tPl A.ns B.ns dB (tT A.ns B.ns dB m) (yN A.ns m) w r [] o → o = (z, false)
/-- how often has been told; no record was told later -/
def tCt (M : zM) (T : Nat) : Prop := M 56 9 = (T : Int) ∧ ∀ w : Nat, w < 134 → 0 ≤ M 64 (w : Int) ∧ M 64 (w : Int) ≤ (T : Int)
theorem tCt.fr {M M1 : zM} {T : Nat} (h : tCt M T) (e : ∀ c j : Int, (c = 56 ∧ j = 9) ∨ c = 64 → M1 c j = M c j) : tCt M1 T := ⟨(e _ _ (Or.inl ⟨rfl, rfl⟩)).trans h.1, fun w hw => by rw [e _ _ (Or.inr rfl)]; exact h.2 w hw⟩
/-- a record of no bytes that was told in this row stands in what was told -/
def tMo (M : zM) (A B : SS) (dB : SP → Option (List Nat)) : Prop := ∃ T : Nat, T < 2147483648 ∧ tCt M T ∧ (M 56 11 = 0 → ∀ w : Nat, w < 6 + A.ns.length → M 64 (w : Int) = (T : Int) → ∃ (f : Nat) (z : List Nat), M 66 (w : Int) = (f : Int) ∧ M 68 (w : Int) = ((f + z.length : Nat) : Int) ∧ ((f + z.length : Nat) : Int) ≤ M 57 1 ∧ rdB M 58 f z ∧ tZe A B dB w z)
theorem tMo.fr {M M1 : zM} {A B : SS} {dB : SP → Option (List Nat)} (h : tMo M A B dB) (e : ∀ c j : Int, (c = 56 ∧ (j = 9 ∨ j = 11)) ∨ (c = 57 ∧ j = 1) ∨ c = 58 ∨ c = 64 ∨ c = 66 ∨ c = 68 → M1 c j = M c j) : tMo M1 A B dB := by
  obtain ⟨T, t1, t2, t3⟩ := h
  refine ⟨T, t1, t2.fr (fun c j h => e c j (by omega)), fun h0 w hw hT => ?_⟩
  obtain ⟨f, z, x1, x2, x3, x4, x5⟩ := t3 ((e _ _ (by omega)).symm.trans h0) w hw ((e _ _ (by omega)).symm.trans hT)
  exact ⟨f, z, (e _ _ (by omega)).trans x1, (e _ _ (by omega)).trans x2, by rw [e 57 1 (by omega)]; exact x3, fun j hj => (e _ _ (by omega)).trans (x4 j hj), x5⟩
theorem tMo.ap {M M1 : zM} {A B : SS} {dB : SP → Option (List Nat)} {u : Nat} {bs : List Nat} (h : tMo M A B dB) (hu : M 57 1 = (u : Int)) (g : apB M M1 57 58 u bs) : tMo M1 A B dB := by
  obtain ⟨T, t1, t2, t3⟩ := h
  obtain ⟨g1, g2, g3⟩ := g
  refine ⟨T, t1, t2.fr (fun c j h => g3 c j (by omega) (by omega)), fun h0 w hw hT => ?_⟩
  obtain ⟨f, z, x1, x2, x3, x4, x5⟩ := t3 ((g3 _ _ (by omega) (by omega)).symm.trans h0) w hw ((g3 _ _ (by omega) (by omega)).symm.trans hT)
  rw [hu] at x3
  refine ⟨f, z, (g3 _ _ (by omega) (by omega)).trans x1, (g3 _ _ (by omega) (by omega)).trans x2, by rw [g1]; omega, fun j hj => ?_, x5⟩
  rw [g3 _ _ (by omega) (by omega)]
  exact x4 j hj
theorem tMo.st {M M1 : zM} {A B : SS} {dB : SP → Option (List Nat)} (h : tMo M A B dB) (e : ∀ c j : Int, (c = 56 ∧ j = 9) ∨ c = 64 → M1 c j = M c j) (hn : ¬ M1 56 11 = 0) : tMo M1 A B dB := by
  obtain ⟨T, t1, t2, -⟩ := h
  exact ⟨T, t1, t2.fr e, fun h0 => absurd h0 hn⟩
/-- what the Teller knows while a row is told -/
def tOr (M : zM) (A B : SS) (dB : SP → Option (List Nat)) : Prop := tOq M A B ∧ tMo M A B dB
theorem tOr.fr {M M1 : zM} {A B : SS} {dB : SP → Option (List Nat)} (h : tOr M A B dB) (e : ∀ c j : Int, (c = 56 ∧ (j = 9 ∨ j = 11)) ∨ (c = 57 ∧ j = 1) ∨ c = 58 ∨ c = 60 ∨ c = 64 ∨ c = 66 ∨ c = 68 → M1 c j = M c j) : tOr M1 A B dB := ⟨h.1.fr (fun j => e _ _ (by omega)), h.2.fr (fun c j h => e c j (by omega))⟩
theorem tOr.ps {M : zM} {A B : SS} {dB : SP → Option (List Nat)} {v : Int} (h : tOr M A B dB) : tOr (zu M 56 10 v) A B dB := h.fr (fun c j h => zu_ne (by omega))
theorem tOr.ap {M M1 : zM} {A B : SS} {dB : SP → Option (List Nat)} {u : Nat} {bs : List Nat} (h : tOr M A B dB) (hu : M 57 1 = (u : Int)) (g : apB M M1 57 58 u bs) : tOr M1 A B dB := ⟨h.1.fr (fun j => g.2.2 _ _ (by omega) (by omega)), h.2.ap hu g⟩
theorem tOr.st {M M1 : zM} {A B : SS} {dB : SP → Option (List Nat)} (h : tOr M A B dB) (e : ∀ c j : Int, (c = 56 ∧ j = 9) ∨ c = 60 ∨ c = 64 → M1 c j = M c j) (hn : ¬ M1 56 11 = 0) : tOr M1 A B dB := ⟨h.1.fr (fun j => e _ _ (by omega)), h.2.st (fun c j h => e c j (by omega)) hn⟩
/-- the reader's defaults -/
def tDm (M : zM) (q : Int) (B : SS) (dB : SP → Option (List Nat)) : Prop := ∀ (i k : Nat) (n : SN) (z : SP), B.ns[i]? = some n → n.kd = 11 → n.ps[k]? = some z → (dB z = none → M (q + 18) ((nTot (B.ns.take i) + k : Nat) : Int) = -1) ∧ ∀ b : List Nat, dB z = some b → dfl M q 8192 (nTot (B.ns.take i) + k) b
def tG (M : zM) (p q : Int) (NU NV : Nat) (A B : SS) (dB : SP → Option (List Nat)) : Prop := gC M p NU A ∧ gC M q NV B ∧ tDm M q B dB
theorem tG.fr {M M1 : zM} {p q : Int} {NU NV : Nat} {A B : SS} {dB : SP → Option (List Nat)} (h : tG M p q NU NV A B dB) (e : ∀ a : Int, (p + 2 ≤ a ∧ a ≤ p + 24) ∨ (q + 2 ≤ a ∧ a ≤ q + 24) → M1 a = M a) : tG M1 p q NU NV A B dB := by
  obtain ⟨h1, h2, h3⟩ := h
  refine ⟨h1.fr (fun a ha => e a (by omega)), h2.fr (fun a ha => e a (by omega)), fun i k n z g1 g2 g3 => ?_⟩
  obtain ⟨k1, k2⟩ := h3 i k n z g1 g2 g3
  refine ⟨fun c => by rw [e (q + 18) (by omega)]; exact k1 c, fun b hb => ?_⟩
  obtain ⟨a, d1, d2, d3, d4⟩ := k2 b hb
  exact ⟨a, by rw [e (q + 18) (by omega)]; exact d1, by rw [e (q + 20) (by omega)]; exact d2, d3, fun j hj => by rw [e (q + 24) (by omega)]; exact d4 j hj⟩
theorem tG.t {M M1 : zM} {p q : Int} {NU NV e u : Nat} {A B : SS} {dB : SP → Option (List Nat)} (h : tG M p q NU NV A B dB) (f : tFr e u M M1) (hp : 30 ≤ p ∧ (p + 24 < 55 ∨ 138 ≤ p)) (hq : 30 ≤ q ∧ (q + 24 < 55 ∨ 138 ≤ q)) : tG M1 p q NU NV A B dB := h.fr (fun a ha => funext fun j => f a j (by omega) (by omega) (by omega) (by omega) (by omega))
theorem rdB.t {M M1 : zM} {a : Int} {P e u : Nat} {w : List Nat} (h : rdB M a P w) (f : tFr e u M M1) (ha : 70 ≤ a) : rdB M1 a P w := fun j hj => by rw [f _ _ (by omega) (by omega) (by omega) (by omega) (by omega)]; exact h j hj
/-- what telling leaves: it is full, or unresolved, or told, and the place is X -/
def tR (A B : SS) (dB : SP → Option (List Nat)) (e u X : Nat) (o : tU) (M M1 : zM) : Prop := tFr e u M M1 ∧ tOr M1 A B dB ∧ ((4096 < u + o.1.length ∧ M1 56 11 = -31) ∨ (u + o.1.length ≤ 4096 ∧ o.2 = true ∧ M1 56 11 = -20) ∨
  (u + o.1.length ≤ 4096 ∧ o.2 = false ∧ M1 56 11 = 0 ∧ M1 56 10 = (X : Int) ∧ M1 57 1 = ((u + o.1.length : Nat) : Int) ∧ ∀ j : Nat, j < o.1.length → M1 58 ((u + j : Nat) : Int) = (o.1.getD j 0 : Nat)))
theorem tSq_len {a b : tU} : a.1.length ≤ (tSq a b).1.length := by
  unfold tSq
  split
  · exact Nat.le_refl _
  · show _ ≤ (a.1 ++ b.1).length
    rw [List.length_append]
    omega
theorem tR.stop {A B : SS} {dB : SP → Option (List Nat)} {e u X X2 : Nat} {o o2 : tU} {M M1 : zM} (h : tR A B dB e u X o M M1) (hs : ¬ M1 56 11 = 0) : tR A B dB e u X2 (tSq o o2) M M1 := by
  obtain ⟨h1, h2, h3⟩ := h
  refine ⟨h1, h2, ?_⟩
  rcases h3 with ⟨g1, g2⟩ | ⟨g1, g2, g3⟩ | ⟨-, -, g, -⟩
  · have := tSq_len (a := o) (b := o2)
    exact Or.inl ⟨by omega, g2⟩
  · have : tSq o o2 = o := if_pos g2
    rw [this]
    exact Or.inr (Or.inl ⟨g1, g2, g3⟩)
  · exact absurd g hs
theorem tR.ok {A B : SS} {dB : SP → Option (List Nat)} {e u X : Nat} {o : tU} {M M1 : zM} (h : tR A B dB e u X o M M1) (h0 : M1 56 11 = 0) : u + o.1.length ≤ 4096 ∧ o.2 = false ∧ M1 56 10 = (X : Int) ∧ M1 57 1 = ((u + o.1.length : Nat) : Int) := by
  obtain ⟨-, -, h3⟩ := h
  rcases h3 with ⟨-, g⟩ | ⟨-, -, g⟩ | ⟨g1, g2, -, g4, g5, -⟩
  · rw [h0] at g; exact absurd g (by decide)
  · rw [h0] at g; exact absurd g (by decide)
  · exact ⟨g1, g2, g4, g5⟩
theorem tR.w {A B : SS} {dB : SP → Option (List Nat)} {e u X : Nat} {o : tU} {M M1 : zM} (h : tR A B dB e u X o M M1) : w32 (M1 56 11) = 0 ↔ M1 56 11 = 0 := by
  have : M1 56 11 = -31 ∨ M1 56 11 = -20 ∨ M1 56 11 = 0 := by
    obtain ⟨-, -, h3⟩ := h
    rcases h3 with ⟨-, g⟩ | ⟨-, -, g⟩ | ⟨-, -, g, -⟩
    · exact Or.inl g
    · exact Or.inr (Or.inl g)
    · exact Or.inr (Or.inr g)
  rw [w32_id (by omega) (by omega)]
theorem tR.seq {A B : SS} {dB : SP → Option (List Nat)} {e e1 u X X2 : Nat} {o o2 : tU} {M M1 M2 : zM} (h : tR A B dB e u X o M M1) (h0 : M1 56 11 = 0) (h2 : tR A B dB e1 (u + o.1.length) X2 o2 M1 M2) (he : e ≤ e1) : tR A B dB e u X2 (tSq o o2) M M2 := by
  obtain ⟨f1, -, h3⟩ := h
  obtain ⟨f2, r2, k3⟩ := h2
  have hf := f1.tr f2 he (Nat.le_add_right _ _)
  rcases h3 with ⟨-, g⟩ | ⟨-, -, g⟩ | ⟨g1, g2, -, g4, g5, g6⟩
  · rw [h0] at g; exact absurd g (by decide)
  · rw [h0] at g; exact absurd g (by decide)
  · have e9 : tSq o o2 = (o.1 ++ o2.1, o2.2) := if_neg (by rw [g2]; decide)
    rw [e9]
    refine ⟨hf, r2, ?_⟩
    show (4096 < u + (o.1 ++ o2.1).length ∧ _) ∨ (u + (o.1 ++ o2.1).length ≤ 4096 ∧ o2.2 = true ∧ _) ∨ (u + (o.1 ++ o2.1).length ≤ 4096 ∧ o2.2 = false ∧ _ ∧ _ ∧ M2 57 1 = ((u + (o.1 ++ o2.1).length : Nat) : Int) ∧ ∀ j : Nat, j < (o.1 ++ o2.1).length → M2 58 ((u + j : Nat) : Int) = ((o.1 ++ o2.1).getD j 0 : Nat))
    rw [List.length_append]
    rcases k3 with ⟨k1, k2⟩ | ⟨k1, k2, k3⟩ | ⟨k1, k2, k3, k4, k5, k6⟩
    · exact Or.inl ⟨by omega, k2⟩
    · exact Or.inr (Or.inl ⟨by omega, k2, k3⟩)
    · refine Or.inr (Or.inr ⟨by omega, k2, k3, k4, by rw [k5]; omega, fun j hj => ?_⟩)
      rw [List.getD_eq_getElem?_getD]
      by_cases c1 : j < o.1.length
      · rw [List.getElem?_append_left c1, ← List.getD_eq_getElem?_getD, ← g6 j c1]
        exact f2 _ _ (by omega) (by omega) (by omega) (by omega) (by omega)
      · rw [List.getElem?_append_right (by omega), ← List.getD_eq_getElem?_getD, ← k6 (j - o.1.length) (by omega)]
        rw [show u + j = u + o.1.length + (j - o.1.length) by omega]
theorem tR.up {A B : SS} {dB : SP → Option (List Nat)} {e e1 u X : Nat} {o : tU} {M M1 : zM} (h : tR A B dB e1 u X o M M1) (he : e ≤ e1) : tR A B dB e u X o M M1 := ⟨fun c j n1 n2 n3 n4 n5 => h.1 c j n1 n2 n3 n4 (fun x => n5 ⟨x.1, by omega⟩), h.2⟩
/-- nothing told -/
theorem tR.nil {A B : SS} {dB : SP → Option (List Nat)} {e u X : Nat} {M M1 : zM} (hf : tFr e u M M1) (ho : tOr M1 A B dB) (h0 : M1 56 11 = 0) (h6 : M1 56 10 = (X : Int)) (hu : M1 57 1 = (u : Int)) (hul : u ≤ 4096) : tR A B dB e u X ([], false) M M1 := ⟨hf, ho, Or.inr (Or.inr ⟨hul, rfl, h0, h6, hu, fun j hj => absurd hj (Nat.not_lt_zero _)⟩)⟩
/-- from behind a step that tells nothing -/
theorem tR.pre {A B : SS} {dB : SP → Option (List Nat)} {e u X : Nat} {o : tU} {M M0 M1 : zM} (hf : tFr e u M M0) (h : tR A B dB e u X o M0 M1) : tR A B dB e u X o M M1 := ⟨hf.tr h.1 (Nat.le_refl _) (Nat.le_refl _), h.2⟩
section TD9
variable {l : Launch} {s0 : State} {a0 : Array Value} {G : va_G} {ca : Nat → ClassId} {d : Nat} {C : Nat × Nat} {S : zS} {p q mk mka : Int} {M : zM} {Q : Int → zM → Prop} {X : zM → Prop} {u e P : Nat} {A B : SS} {dB : SP → Option (List Nat)}
theorem t_putR (Γ : rt_Γ l s0 a0 G ca) (hd : 4 ≤ d) (hok : zok C) (hS : tSh S p q mk mka) {n : Int} (hn : -9223372036854775808 ≤ n ∧ n < 9223372036854775808) (h7 : M 56 11 = 0) (h6 : M 56 10 = (P : Int)) (hu : M 57 1 = (u : Int)) (hul : u ≤ 4096) (hO : tOr M A B dB)
    (hQ : ∀ M1 : zM, tR A B dB e u P (vB n, false) M M1 → Q 0 M1) : zm_X7_put l s0 G ca d C S n M Q X := by
  refine t_put Γ hd hok hS hn h7 hu hul (fun h M1 f => hQ M1 ⟨f.t, hO.ap hu f, Or.inr (Or.inr ⟨h, rfl, ?_, ?_, f.1, f.2.1⟩)⟩) (fun h M1 f => hQ _ ⟨f.t.zu (Or.inl ⟨rfl, Or.inr rfl⟩), hO.st (fun c j h => (zu_ne (by omega)).trans (f.2 c j (by omega) (by omega))) (by rw [zu_s]; decide), Or.inl ⟨h, zu_s _ _ _ _⟩⟩)
  · rw [f.2.2 56 11 (by decide) (by omega)]; exact h7
  · rw [f.2.2 56 10 (by decide) (by omega)]; exact h6
theorem t_partR (Γ : rt_Γ l s0 a0 G ca) (hd : 4 ≤ d) (hok : zok C) (hS : tSh S p q mk mka) {o ad : Int} {nd f : Nat} {bs : List Nat} (ho : zCe S o ad nd) (hf : f + bs.length ≤ nd) (hb : rdB M ad f bs) (h7 : M 56 11 = 0) (h6 : M 56 10 = (P : Int)) (hu : M 57 1 = (u : Int)) (hul : u ≤ 4096) (hO : tOr M A B dB)
    (hQ : ∀ M1 : zM, tR A B dB e u P (bs, false) M M1 → Q 0 M1) : zm_X7_putPart l s0 G ca d C S o f ((f + bs.length : Nat) : Int) M Q X := by
  refine t_part Γ hd hok hS ho hf hb h7 hu hul (fun h M1 f => hQ M1 ⟨f.t, hO.ap hu f, Or.inr (Or.inr ⟨h, rfl, ?_, ?_, f.1, f.2.1⟩)⟩) (fun h => hQ _ ⟨tFr.rf.zu (Or.inl ⟨rfl, Or.inr rfl⟩), hO.st (fun c j h => zu_ne (by omega)) (by rw [zu_s]; decide), Or.inl ⟨h, zu_s _ _ _ _⟩⟩)
  · rw [f.2.2 56 11 (by decide) (by omega)]; exact h7
  · rw [f.2.2 56 10 (by decide) (by omega)]; exact h6
theorem t_unr (Γ : rt_Γ l s0 a0 G ca) (hok : zok C) (hS : tSh S p q mk mka) (h7 : M 56 11 = 0) (hul : u ≤ 4096) (hO : tOr M A B dB) (hQ : ∀ M1 : zM, tR A B dB e u P ([], true) M M1 → Q 0 M1) : zm_X7_halt l s0 G ca d C S (-20) M Q X :=
  t_halt0 Γ hok hS h7 (hQ _ ⟨tFr.rf.zu (Or.inl ⟨rfl, Or.inr rfl⟩), hO.st (fun c j h => zu_ne (by omega)) (by rw [zu_s]; decide), Or.inr (Or.inl ⟨hul, rfl, zu_s _ _ _ _⟩)⟩)
end TD9
