/-! ===== what a text says; the reference's schema ===== -/
/-- the schema that the bytes say, or the fault and its place -/
def sRs (tb : List Nat) : Except (Nat × Nat) (List JR × Nat × SS) := match jTx (rg (tbF tb) tb.length) tb.length with
  | .error e => .error (1, e)
  | .ok xs => match sDra xs with
    | .error e => .error e
    | .ok z => .ok (xs, z)
def kup (ks : kST) (u : Nat) (z : List Nat × List JR × Nat × SS) : kST := fun k => if k = u then some z else ks k
/-- the rows, when the schema at u is another -/
def lup (ow : Int) (u : Nat) (L : List (List Nat)) : List (List Nat) := if ow = (u : Int) then [] else L
def oup (ow : Int) (u : Nat) : Int := if ow = (u : Int) then -1 else ow
theorem sRs_ok {tb : List Nat} {xs : List JR} {root : Nat} {st : SS} (hl : tb.length ≤ 1300) (hb : ∀ x ∈ tb, x < 256) (h : sRs tb = .ok (xs, root, st)) : gT tb xs root st := by
  unfold sRs at h
  cases hj : jTx (rg (tbF tb) tb.length) tb.length with
  | error e => rw [hj] at h; exact nomatch h
  | ok ys =>
    rw [hj] at h
    dsimp only at h
    cases hd : sDra ys with
    | error e => rw [hd] at h; exact nomatch h
    | ok z =>
      rw [hd] at h
      dsimp only at h
      injection h with h
      injection h with h1 h2
      subst h1
      subst h2
      exact ⟨⟨hl, hb⟩, hj, hd⟩
section QBA
variable {l : Launch} {s0 : State} {a0 : Array Value} {G : va_G} {ca : Nat → ClassId} {d : Nat} {C : Nat × Nat} {S : zS} {M M0 : zM} {Q : Nat × Nat → Int → zM → Prop} {tb : List Nat} {ks : kST} {L : List (List Nat)} {ow : Int} {out : List Nat} {pl : Int}
theorem m_kpL (Γ : rt_Γ l s0 a0 G ca) (hd : 1 ≤ d) (hok : zok C) (hs : zSok S) {u : Nat} (hu : u < 8) (hl : tb.length ≤ 1300) (h2 : M0 84 2 = (tb.length : Int)) (h79 : ∀ j : Nat, j < tb.length → M0 85 (j : Int) = w8 (tb.getD j 0 : Nat)) {w0 : rt_Wd} (hQ : ∀ M1 : zM, (∀ c j : Int, ¬ (c = 130 ∧ ((4096 * u : Nat) : Int) ≤ j ∧ j < ((4096 * u + 1300 : Nat) : Int)) → M1 c j = M0 c j) → (∀ j : Nat, j < tb.length → M1 130 ((4096 * u + j : Nat) : Int) = w8 (tb.getD j 0 : Nat)) → zt_X11_schema_66 l s0 G ca d C S w0 u tb.length M1 Q) : ∀ (c j : Nat) (M : zM), j + c = tb.length → (∀ c j : Int, ¬ (c = 130 ∧ ((4096 * u : Nat) : Int) ≤ j ∧ j < ((4096 * u + 1300 : Nat) : Int)) → M c j = M0 c j) → (∀ i : Nat, i < j → M 130 ((4096 * u + i : Nat) : Int) = w8 (tb.getD i 0 : Nat)) → zg_X11_schema_66 l s0 G ca d C S w0 u j M Q := by
  intro c
  induction c with
  | zero =>
    intro j M hj hf h
    have : j = tb.length := by omega
    subst this
    exact zs_X11_schema_66 Γ hd hok hs (hQ M hf h)
  | succ c ih =>
    intro j M hj hf h
    refine zs_X11_schema_66 Γ hd hok hs ?_
    unfold zt_X11_schema_66
    rw [hf _ _ (by omega), h2, w32_id (x := ((tb.length : Nat) : Int)) (by omega) (by omega), w32_id (x := (j : Int)) (by omega) (by omega), hf 85 j (by omega), h79 j (by omega), w8_w8]
    rw [show (4096 * (u : Int)) + (j : Int) = ((4096 * u + j : Nat) : Int) by omega]
    refine zIf_f (by omega) ⟨⟨by omega, by omega⟩, ⟨by omega, by omega⟩, ?_⟩
    rw [show (j : Int) + 1 = ((j + 1 : Nat) : Int) by omega]
    refine ih (j + 1) _ (by omega) (fun c k n => (zu_ne (fun e => n ⟨e.1, by omega⟩)).trans (hf c k n)) (fun i hi => ?_)
    by_cases ci : i = j
    · subst ci
      exact zu_s _ _ _ _
    · rw [zu_k (by omega)]
      exact h i (by omega)
theorem m_schemaU (Γ : rt_Γ l s0 a0 G ca) (hd : 404 ≤ d) (hb : zokB C) (hs : zSok S) {p : Int} (hp : -2147483648 ≤ p ∧ p < 2147483648) (hI : mI M tb ks L ow out pl) (hD : dOk ks L ow) (htb : tb.length ≤ 1300 ∧ ∀ x ∈ tb, x < 256) (hpos : ∀ e : Nat × Nat, sRs tb = .error e → 0 < e.1 ∧ e.1 < 100)
    (k1 : ¬ (0 ≤ p ∧ p < 8) → ∀ M1 : zM, mI M1 tb ks L ow out pl → mfm M M1 → M1 84 0 = 1 → Q C 0 M1)
    (k0 : ∀ u : Nat, p = (u : Int) → u < 8 →
      (∀ e : Nat × Nat, sRs tb = .error e → ∀ (C1 : Nat × Nat) (M1 : zM), zcl 1 C C1 → mI M1 tb ks L ow out e.2 → mfm M M1 → M1 84 0 = 0 → Q C1 e.1 M1) ∧
      ∀ z : List JR × Nat × SS, sRs tb = .ok z → ∀ (C1 : Nat × Nat) (M1 : zM), zcl 1 C C1 → mI M1 [] (kup ks u (tb, z)) (lup ow u L) (oup ow u) out (-1) → mfm M M1 → M1 84 0 = 0 → Q C1 0 M1) : zu_X11_schema l s0 G ca d C S p M Q := by
  have hok : zok C := ⟨by have := hb.1; omega, by have := hb.2; omega⟩
  have f1 : ∀ v : Int, mI (zu M 84 0 v) tb ks L ow out pl ∧ mfm M (zu M 84 0 v) ∧ zu M 84 0 v 84 0 = v := fun v => ⟨hI.fr (fun c j h => zu_ne (fun e => by omega)), mfm.rf.zu (by decide), zu_s _ _ _ _⟩
  refine z_X11_schema Γ (by omega) hok hs ?_
  unfold zt_X11_schema zt_X11_schema_13
  refine m_isP Γ (by omega) hok hs hp (fun a1 a2 => zIf_f (by decide) ?_) (fun hn => zIf_t (by decide) ?_)
  · obtain ⟨u, rfl⟩ : ∃ u : Nat, p = (u : Int) := ⟨p.toNat, by omega⟩
    have hu : u < 8 := by omega
    obtain ⟨kF, kO⟩ := k0 u rfl hu
    refine m_refd Γ (by omega) hok hs (Or.inl rfl) (Or.inl rfl) (fun _ _ => ?_) (fun h => absurd h (by decide)) (fun _ h => absurd h (by decide))
    refine zIf_t (by decide) ?_
    obtain ⟨i1, i2, i3⟩ := f1 0
    rw [i1.1.1]
    obtain ⟨h1, h2⟩ := tbF_r (br := fun j => w8 (tb.getD j.toNat 0 : Nat)) htb.1 htb.2 (fun j hj => rfl)
    -- behind the reading
    have bas : ∀ (M1 : zM) (x : Int), zfr 86 (zu M 84 0 0) M1 → mI (zu M1 84 3 x) tb ks L ow out x ∧ mfm M (zu M1 84 3 x) ∧ zu M1 84 3 x 84 0 = 0 := fun M1 x hf => by
      have fr : ∀ c j : Int, ¬ (c = 84 ∧ j = 3) → (c < 86 ∨ 107 < c) → zu M1 84 3 x c j = zu M 84 0 0 c j := fun c j n1 n2 => (zu_ne n1).trans (hf c j (by omega))
      exact ⟨i1.ld (fun c j h => fr c j (by omega) (by omega)) ⟨(fr _ _ (by decide) (by decide)).trans i1.1.1, fun j hj => (fr _ _ (by omega) (by omega)).trans (i1.1.2 j hj)⟩ ⟨(fr _ _ (by decide) (by decide)).trans i1.2.2.1.1, (fr _ _ (by decide) (by decide)).trans i1.2.2.1.2.1, (fr _ _ (by decide) (by decide)).trans i1.2.2.1.2.2.1, fun j hj => (fr _ _ (by omega) (by omega)).trans (i1.2.2.1.2.2.2 j hj)⟩ (zu_s _ _ _ _), fun c j h => by rw [fr c j (by omega) (by omega)]; exact i2 c j h, (fr _ _ (by decide) (by decide)).trans i3⟩
    have key := r_read (l := l) (s0 := s0) (a0 := a0) (G := G) (ca := ca) (d := d - 1) (C := C) (S := S) (M := zu M 84 0 0) (t := 86) (o := 85) (A := 4096) (f := 0) (n := tb.length) (bt := fun j => w8 (tb.getD j.toNat 0 : Nat)) (Q := fun v M1 => (∃ e : Nat × Nat, sRs tb = .error e ∧ v = (e.1 : Int) ∧ M1 86 5 = (e.2 : Int) ∧ zfr 86 (zu M 84 0 0) M1) ∨ ∃ z : List JR × Nat × SS, sRs tb = .ok z ∧ v = 0 ∧ zfr 86 (zu M 84 0 0) M1) Γ (by omega) hok (zTx_of hs).1 ⟨by decide, hs 85 _ rfl, by decide⟩ (by decide) (by omega) htb.1 h1 (fun j hj => by rw [Nat.zero_add]; exact i1.1.2 j hj) (fun e he M1 hx => Or.inl ⟨(1, e), by unfold sRs; rw [← h2, he], rfl, hx.2.1, hx.2.2⟩) (fun xs e he hd2 M1 hx => Or.inl ⟨e, by unfold sRs; rw [← h2, he]; dsimp only; rw [hd2], rfl, hx.2.1, hx.2.2⟩) (fun xs r2 st2 he hd2 _ M1 m1 m2 m3 m4 => Or.inr ⟨(xs, r2, st2), by unfold sRs; rw [← h2, he]; dsimp only; rw [hd2], rfl, m4⟩)
    refine zMetC.u key (fun C1 v M1 c1 c2 c3 c4 hq => ?_)
    have hc : zcl 1 C C1 := ⟨c1, c2, c3, c4⟩
    have hok1 : zok C1 := hc.ok hb (by decide)
    refine ⟨hok1, ?_⟩
    unfold zt_X11_schema_55
    rcases hq with ⟨e, he, rfl, g1, g2⟩ | ⟨z, he, rfl, g2⟩
    · obtain ⟨e1, e2⟩ := hpos e he
      have n0 : ¬ (e.1 : Int) ≤ 0 := by omega
      have ew : w32 (e.1 : Int) = (e.1 : Int) := w32_id (by omega) (by omega)
      rw [g1, ew]
      obtain ⟨x1, x2, x3⟩ := bas M1 (e.2 : Int) g2
      exact zIf_f n0 (zIf_f n0 (kF e he C1 _ hc x1 x2 x3))
    · obtain ⟨x1, x2, x3⟩ := bas M1 (-1) g2
      refine zIf_t (by decide) (zIf_t (by decide) ?_)
      refine m_kpL (M0 := zu M1 84 3 (-1)) (tb := tb) Γ (by omega) hok1 hs hu htb.1 x1.1.1 x1.1.2 (fun M2 g4 g5 => ?_) tb.length 0 _ (Nat.zero_add _) (fun _ _ _ => rfl) (fun i hi => absurd hi (Nat.not_lt_zero _))
      unfold zt_X11_schema_66
      have e2 : M2 84 2 = (tb.length : Int) := (g4 _ _ (by omega)).trans x1.1.1
      have e9 : M2 84 9 = ow := (g4 _ _ (by omega)).trans x1.2.2.1.1
      have how : -1 ≤ ow ∧ ow < 8 := by
        rcases hD.2.1 with ⟨e1, -⟩ | ⟨k, z9, e1, e2, -⟩
        · omega
        · have := (hD.1 k z9 e2).1
          omega
      rw [e2, e9, w32_id (x := ((tb.length : Nat) : Int)) (by omega) (by omega), w32_id (x := (u : Int)) (by omega) (by omega), w32_id (x := ow) (by omega) (by omega)]
      refine zIf_t (Int.le_refl _) ⟨⟨by omega, by omega⟩, ?_⟩
      -- the kept texts now
      have kk : ∀ M3 : zM, (∀ c j : Int, ¬ c = 84 → M3 c j = zu M2 131 (u : Int) (tb.length : Int) c j) → ∀ k : Nat, k < 8 → (kup ks u (tb, z) k = none → M3 131 (k : Int) = -1) ∧ ∀ y : List Nat × List JR × Nat × SS, kup ks u (tb, z) k = some y → kpt M3 k y.1 := fun M3 h3 k hk => by
        unfold kup
        by_cases ck : k = u
        · rw [if_pos ck]
          refine ⟨fun h => (nomatch h), fun y hy => ?_⟩
          have : (tb, z) = y := Option.some.inj hy
          subst this
          rw [ck]
          exact ⟨by rw [h3 _ _ (by decide), zu_s], fun j hj => by rw [h3 _ _ (by decide), zu_a (by decide)]; exact g5 j hj⟩
        · rw [if_neg ck]
          obtain ⟨y1, y2⟩ := x1.2.1 k hk
          refine ⟨fun h => ?_, fun y hy => ?_⟩
          · rw [h3 _ _ (by decide), zu_k (by omega), g4 _ _ (by omega)]
            exact y1 h
          · obtain ⟨q1, q2⟩ := y2 y hy
            have hyl := (hD.1 k y hy).2.1.1
            refine ⟨by rw [h3 _ _ (by decide), zu_k (by omega), g4 _ _ (by omega)]; exact q1, fun j hj => ?_⟩
            rw [h3 _ _ (by decide), zu_a (by decide), g4 _ _ (by omega)]
            exact q2 j hj
      have ot : ∀ c j : Int, ¬ c = 130 → ¬ c = 131 → zu M2 131 (u : Int) (tb.length : Int) c j = zu M1 84 3 (-1) c j := fun c j n1 n2 => by
        rw [zu_a n2]
        exact g4 c j (fun e => n1 e.1)
      refine ⟨fun co => ?_, fun co => ?_⟩
      · have eL : lup ow u L = [] := if_pos co
        have eo : oup ow u = -1 := if_pos co
        have fr : ∀ c j : Int, ¬ (c = 84 ∧ (j = 2 ∨ j = 9 ∨ j = 10 ∨ j = 11)) → zu (zu (zu (zu (zu M2 131 (u : Int) (tb.length : Int)) 84 2 0) 84 9 (-1)) 84 10 0) 84 11 0 c j = zu M2 131 (u : Int) (tb.length : Int) c j := fun c j n => by
          rw [zu_ne (fun e => n ⟨e.1, by omega⟩), zu_ne (fun e => n ⟨e.1, by omega⟩), zu_ne (fun e => n ⟨e.1, by omega⟩), zu_ne (fun e => n ⟨e.1, by omega⟩)]
        have h9 := kO z he C1 (zu (zu (zu (zu (zu M2 131 (u : Int) (tb.length : Int)) 84 2 0) 84 9 (-1)) 84 10 0) 84 11 0) hc
        rw [eL, eo] at h9
        refine h9 ⟨⟨?_, fun j hj => absurd hj (Nat.not_lt_zero _)⟩, kk _ (fun c j n => fr c j (fun e => n e.1)), ⟨?_, ?_, ?_, fun j hj => absurd hj (Nat.not_lt_zero _)⟩, ⟨?_, fun j hj => ?_⟩, ?_⟩ (fun c j h => ?_) ?_
        · rw [zu_k (by decide), zu_k (by decide), zu_k (by decide), zu_s]; rfl
        · rw [zu_k (by decide), zu_k (by decide), zu_s]
        · rw [zu_k (by decide), zu_s]; rfl
        · rw [zu_s]; rfl
        · rw [fr _ _ (by decide), ot _ _ (by decide) (by decide)]; exact x1.2.2.2.1.1
        · rw [fr _ _ (by omega), ot _ _ (by decide) (by decide)]; exact x1.2.2.2.1.2 j hj
        · rw [fr _ _ (by decide), ot _ _ (by decide) (by decide)]; exact x1.2.2.2.2
        · rw [fr c j (by omega), ot c j (by omega) (by omega)]; exact x2 c j h
        · rw [fr _ _ (by decide), ot _ _ (by decide) (by decide)]; exact x3
      · have eL : lup ow u L = L := if_neg co
        have eo : oup ow u = ow := if_neg co
        have fr : ∀ c j : Int, ¬ (c = 84 ∧ j = 2) → zu (zu M2 131 (u : Int) (tb.length : Int)) 84 2 0 c j = zu M2 131 (u : Int) (tb.length : Int) c j := fun c j n => zu_ne n
        have h9 := kO z he C1 (zu (zu M2 131 (u : Int) (tb.length : Int)) 84 2 0) hc
        rw [eL, eo] at h9
        refine h9 ⟨⟨?_, fun j hj => absurd hj (Nat.not_lt_zero _)⟩, kk _ (fun c j n => fr c j (fun e => n e.1)), ⟨?_, ?_, ?_, fun j hj => ?_⟩, ⟨?_, fun j hj => ?_⟩, ?_⟩ (fun c j h => ?_) ?_
        · rw [zu_s]; rfl
        · rw [fr _ _ (by decide), ot _ _ (by decide) (by decide)]; exact x1.2.2.1.1
        · rw [fr _ _ (by decide), ot _ _ (by decide) (by decide)]; exact x1.2.2.1.2.1
        · rw [fr _ _ (by decide), ot _ _ (by decide) (by decide)]; exact x1.2.2.1.2.2.1
        · rw [fr _ _ (by omega), ot _ _ (by decide) (by decide)]; exact x1.2.2.1.2.2.2 j hj
        · rw [fr _ _ (by decide), ot _ _ (by decide) (by decide)]; exact x1.2.2.2.1.1
        · rw [fr _ _ (by omega), ot _ _ (by decide) (by decide)]; exact x1.2.2.2.1.2 j hj
        · rw [fr _ _ (by decide), ot _ _ (by decide) (by decide)]; exact x1.2.2.2.2
        · rw [fr c j (by omega), ot c j (by omega) (by omega)]; exact x2 c j h
        · rw [fr _ _ (by decide), ot _ _ (by decide) (by decide)]; exact x3
  · exact m_refd Γ (by omega) hok hs (Or.inr rfl) (Or.inl rfl) (fun h => absurd h (by decide)) (fun _ => zIf_f (by decide) (k1 hn _ (f1 1).1 (f1 1).2.1 (f1 1).2.2)) (fun h => absurd h (by decide))
end QBA
