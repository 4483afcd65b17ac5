/-! ===== the reference tells all rows ===== -/
/-- what the telling of rows may write -/
def mfl (M M1 : zM) : Prop := ∀ c j : Int, ¬ (c = 84 ∧ (j = 15 ∨ j = 17 ∨ j = 18 ∨ j = 24 ∨ j = 25)) → ¬ c = 134 → M1 c j = M c j
theorem mfl.rf {M : zM} : mfl M M := fun _ _ _ _ => rfl
theorem mfl.tr {M M1 M2 : zM} (h : mfl M M1) (h1 : mfl M1 M2) : mfl M M2 := fun c j n1 n2 => (h1 c j n1 n2).trans (h c j n1 n2)
theorem mfl.zu {M M1 : zM} (h : mfl M M1) {k v : Int} (hk : k = 15 ∨ k = 17 ∨ k = 18 ∨ k = 24 ∨ k = 25) : mfl M (zu M1 84 k v) := fun c j n1 n2 => by
  rw [zu_ne (fun e => n1 ⟨e.1, by omega⟩)]
  exact h c j n1 n2
theorem uFr.l {M M1 : zM} (h : uFr 0 M M1) : mfl M M1 := fun c j n1 n2 => h c j (fun e => n1 ⟨e.1, by omega⟩) (fun e => n2 e.1)
theorem mfl.i {M M1 : zM} {tb : List Nat} {ks : kST} {L : List (List Nat)} {ow : Int} {out : List Nat} {pl : Int} (f : mfl M M1) (h : mI M tb ks L ow out pl) : mI M1 tb ks L ow out pl := h.fr (fun c j hc => f c j (by omega) (by omega))
theorem mfl.m {M M1 : zM} (f : mfl M M1) : mfm M M1 := fun c j hc => f c j (by omega) (by omega)
theorem uM.l {M M1 : zM} {xs ys : List JR} {A B : SS} (h : uM M 86 108 xs ys A B) (f : mfl M M1) : uM M1 86 108 xs ys A B := ⟨h.1.m (fun a j h1 h2 => f a j (by omega) (by omega)), h.2.1.m (fun a j h1 h2 => f a j (by omega) (by omega)), h.2.2.1.m (fun a j h1 h2 => f a j (by omega) (by omega)), h.2.2.2.m (fun a j h1 h2 => f a j (by omega) (by omega))⟩
section MBA
variable {l : Launch} {s0 : State} {a0 : Array Value} {G : va_G} {ca : Nat → ClassId} {d : Nat} {C C0 : Nat × Nat} {S : zS} {M M0 : zM} {Q : Nat × Nat → Int → zM → Prop} {tb : List Nat} {ks : kST} {L : List (List Nat)} {ow : Int} {out : List Nat} {pl : Int} {A B : List Nat × List JR × Nat × SS} {os : Nat → tU}
/-- a row of the reference's -/
theorem m_rowU (Γ : rt_Γ l s0 a0 G ca) (hd : 401 ≤ d) (hok : zok C) (hs : zSok S) (gA : gT A.1 A.2.1 A.2.2.1 A.2.2.2) (gB : gT B.1 B.2.1 B.2.2.1 B.2.2.2) (hU : uM M 86 108 A.2.1 B.2.1 A.2.2.2 B.2.2.2) (hrA : M 86 31 = (A.2.2.1 : Int)) (hrB : M 108 31 = (B.2.2.1 : Int)) (hrd : rdW M 0 L.flatten) (hl1 : L.flatten.length ≤ 4000) {i : Nat} {bs : List Nat} (hi : L[i]? = some bs) {o : tU} (ho : tT A.2.2.2.ns B.2.2.2.ns (dBy B.2.1 B.2.2.2) 32 A.2.2.1 B.2.2.1 bs o) (h15 : M 84 15 = 0) (h24 : M 84 24 = ((L.take i).flatten.length : Int))
    (kQ : gdR o → ∀ M1 : zM, mfl M M1 → M1 84 24 = ((L.take (i + 1)).flatten.length : Int) → M1 84 15 = (o.1.length : Int) → (∀ j : Nat, j < o.1.length → M1 134 (j : Int) = w8 (o.1.getD j 0 : Nat)) → Q C 0 M1) (kE : ¬ gdR o → ∀ (C1 : Nat × Nat) (M1 : zM) (v : Int), zcl 1 C C1 → mfl M M1 → ((4096 < o.1.length ∧ v = -31) ∨ (o.1.length ≤ 4096 ∧ v = -20)) → Q C1 v M1) : zu_X11_tellRow l s0 G ca d C S 4096 M Q := by
  have kKA := gA.k
  have kKB := gB.k
  have hb : rdW M 0 L.flatten := hrd
  obtain ⟨b1, b2⟩ := tBg_w (P := 0) hi hb
  have eP : tBg 0 L i = (L.take i).flatten.length := Nat.zero_add _
  have eP1 : tBg 0 L (i + 1) = (L.take (i + 1)).flatten.length := Nat.zero_add _
  have eS := tBg_s (P := 0) hi
  rw [eP] at b1 b2 eS
  rw [eP1] at eS
  have f0 : mfl M (zu M 84 25 4096) := mfl.rf.zu (by decide)
  have key := m_row (C := C) (d := d) (Q := fun v M1 => v = 0 ∧ gdR o ∧ mfl M M1 ∧ M1 84 24 = ((L.take (i + 1)).flatten.length : Int) ∧ M1 84 15 = (o.1.length : Int) ∧ ∀ j : Nat, j < o.1.length → M1 134 (j : Int) = w8 (o.1.getD j 0 : Nat)) (E := fun v M1 => ¬ gdR o ∧ mfl M M1 ∧ ((4096 < o.1.length ∧ v = -31) ∨ (o.1.length ≤ 4096 ∧ v = -20))) Γ (by omega) hok (kAl.u hs kKA kKB) hU hrA hrB kKA.2.1.2.2.2.2.2.2.2 kKB.2.1.2.2.2.2.2.2.2 ho h15 h24 b1 (by omega) (fun h1 h2 M1 x => ?_) (fun h1 M1 x => ?_) (fun h1 h2 M1 x => ?_)
  · exact zMetE.u key (fun v M1 ⟨e, h1, h2, h3, h4, h5⟩ => by subst e; exact kQ h1 M1 h2 h3 h4 h5) (fun C1 v M1 c1 c2 c3 c4 ⟨h1, h2, h3⟩ => kE h1 C1 M1 v ⟨c1, c2, c3, c4⟩ h2 h3)
  · obtain ⟨x1, x2, x3, x4⟩ := x
    refine ⟨rfl, ⟨h1, h2⟩, f0.tr x4.l, ?_, ?_, fun j hj => ?_⟩
    · rw [x2, ← eS]
    · rw [x1, Nat.zero_add]
    · have := x3 j hj
      rw [Nat.zero_add] at this
      exact this
  · exact ⟨fun h => by have := h.1; omega, f0.tr x.l, Or.inl ⟨h1, rfl⟩⟩
  · exact ⟨fun h => Bool.noConfusion (h.2.symm.trans h2), f0.tr x.l, Or.inr ⟨h1, rfl⟩⟩
theorem m_allL (Γ : rt_Γ l s0 a0 G ca) (hd : 402 ≤ d) (hb : zokB C0) (hs : zSok S) (gA : gT A.1 A.2.1 A.2.2.1 A.2.2.2) (gB : gT B.1 B.2.1 B.2.2.1 B.2.2.2) (hU : uM M0 86 108 A.2.1 B.2.1 A.2.2.2 B.2.2.2) (hrA : M0 86 31 = (A.2.2.1 : Int)) (hrB : M0 108 31 = (B.2.2.1 : Int)) (hrd : rdW M0 0 L.flatten) (hl1 : L.flatten.length ≤ 4000) (hl2 : L.length ≤ 4000) (h10 : M0 84 10 = (L.length : Int)) (ho : ∀ (i : Nat) (bs : List Nat), L[i]? = some bs → tT A.2.2.2.ns B.2.2.2.ns (dBy B.2.1 B.2.2.2) 32 A.2.2.1 B.2.2.1 bs (os i)) (hQ : ∀ (C1 : Nat × Nat) (r : Nat) (M1 : zM), zcl 3 C0 C1 → aAn L.length os r → mfl M0 M1 → Q C1 r M1) {w0 : rt_Wd} (hc : zcl 2 C0 C) : ∀ (c j : Nat) (M : zM), j + c = L.length → (∀ i : Nat, i < j → gdR (os i)) → mfl M0 M → M 84 24 = ((L.take j).flatten.length : Int) → zg_X11_all_81 l s0 G ca d C S w0 j 1 M Q := by
  have hok : zok C := hc.ok hb (by decide)
  have hc3 : zcl 3 C0 C := ⟨hc.1, by have := hc.2.1; omega, hc.2.2.1, by have := hc.2.2.2; omega⟩
  intro c
  induction c with
  | zero =>
    intro j M hj hg hf h24
    have : j = L.length := by omega
    subst this
    refine zs_X11_all_81 Γ (by omega) hok hs ?_
    unfold zt_X11_all_81
    rw [hf 84 10 (by decide) (by decide), h10, w32_id (x := ((L.length : Nat) : Int)) (by omega) (by omega)]
    exact zIf_f (by decide) (zIf_t (Int.le_refl _) (hQ C L.length M hc3 ⟨Nat.le_refl _, hg, fun h => absurd h (Nat.lt_irrefl _)⟩ hf))
  | succ c ih =>
    intro j M hj hg hf h24
    obtain ⟨bs, hbs⟩ : ∃ bs, L[j]? = some bs := ⟨_, List.getElem?_eq_getElem (show j < L.length by omega)⟩
    refine zs_X11_all_81 Γ (by omega) hok hs ?_
    unfold zt_X11_all_81
    rw [hf 84 10 (by decide) (by decide), h10, w32_id (x := ((L.length : Nat) : Int)) (by omega) (by omega), w32_id (x := (j : Int)) (by omega) (by omega)]
    refine zIf_f (by decide) (zIf_f (by omega) ?_)
    have f1 : mfl M0 (zu M 84 15 0) := hf.zu (by decide)
    refine m_rowU (A := A) (B := B) (o := os j) (bs := bs) (L := L) (i := j) Γ (by omega) hok hs gA gB (hU.l f1) ((f1 _ _ (by decide) (by decide)).trans hrA) ((f1 _ _ (by decide) (by decide)).trans hrB) (fun x hx => (f1 _ _ (by omega) (by omega)).trans (hrd x hx)) hl1 hbs (ho j bs hbs) (zu_s _ _ _ _) ((zu_k (by decide)).trans h24) (fun hgd M1 f2 h24' _ _ => ?_) (fun hgd C1 M1 v c1 f2 hv => ?_)
    · refine ⟨hok, zIf_t (by decide) ?_⟩
      unfold zt_X11_all_113
      refine zIf_f (by decide) ?_
      rw [show (j : Int) + 1 = ((j + 1 : Nat) : Int) by omega]
      refine ih (j + 1) M1 (by omega) (fun i hi => ?_) (f1.tr f2) h24'
      by_cases ci : i = j
      · rw [ci]; exact hgd
      · exact hg i (by omega)
    · have hc1 : zcl 3 C0 C1 := hc.tr c1
      have hok1 : zok C1 := hc1.ok hb (by decide)
      have hv0 : ¬ w32 v = 0 := by
        rcases hv with ⟨-, rfl⟩ | ⟨-, rfl⟩ <;> decide
      refine ⟨hok1, zIf_f hv0 ?_⟩
      unfold zt_X11_all_113
      refine zIf_t (by decide) ?_
      refine zs_X11_all_81 Γ (by omega) hok1 hs ?_
      unfold zt_X11_all_81
      exact zIf_t (by decide) (hQ C1 j M1 hc1 ⟨by omega, hg, fun _ => hgd⟩ (f1.tr f2))
theorem m_allU (Γ : rt_Γ l s0 a0 G ca) (hd : 403 ≤ d) (hb : zokB C) (hs : zSok S) {p : Int} (hp : -2147483648 ≤ p ∧ p < 2147483648) (hI : mI M tb ks L ow out pl) (hD : dOk ks L ow)
    (k1 : ¬ (0 ≤ p ∧ p < 8) → ∀ M1 : zM, mI M1 tb ks L ow out pl → mfm M M1 → M1 84 0 = 1 → Q C 0 M1)
    (k2 : (0 ≤ p ∧ p < 8) → ks p.toNat = none → ∀ M1 : zM, mI M1 tb ks L ow out pl → mfm M M1 → M1 84 0 = 2 → Q C 0 M1)
    (k0 : ∀ (u : Nat) (B : List Nat × List JR × Nat × SS), p = (u : Int) → ks u = some B → (∀ (k : Nat) (z : List Nat × List JR × Nat × SS), ow = (k : Int) → ks k = some z → ∀ (i : Nat) (bs : List Nat), L[i]? = some bs → tT z.2.2.2.ns B.2.2.2.ns (dBy B.2.1 B.2.2.2) 32 z.2.2.1 B.2.2.1 bs (os i)) ∧ ∀ (C1 : Nat × Nat) (r : Nat) (M1 : zM), zcl 3 C C1 → aAn L.length os r → mI M1 tb ks L ow out pl → mfm M M1 → M1 84 0 = 0 → Q C1 r M1) : zu_X11_all l s0 G ca d C S p M Q := by
  have hok : zok C := ⟨by have := hb.1; omega, by have := hb.2; omega⟩
  have f1 : ∀ v : Int, mI (zu M 84 0 v) tb ks L ow out pl ∧ mfm M (zu M 84 0 v) ∧ zu M 84 0 v 84 0 = v := fun v => ⟨hI.fr (fun c j h => zu_ne (fun e => by omega)), mfm.rf.zu (by decide), zu_s _ _ _ _⟩
  refine z_X11_all Γ (by omega) hok hs ?_
  unfold zt_X11_all zt_X11_all_13 zt_X11_all_33
  refine m_isP Γ (by omega) hok hs hp (fun a1 a2 => zIf_f (by decide) ?_) (fun hn => zIf_t (by decide) ?_)
  · refine m_isP Γ (by omega) hok hs hp (fun _ _ => zIf_f (by decide) ⟨⟨a1, a2⟩, ?_⟩) (fun a => absurd ⟨a1, a2⟩ a)
    obtain ⟨u, rfl⟩ : ∃ u : Nat, p = (u : Int) := ⟨p.toNat, by omega⟩
    obtain ⟨hu0, hu1⟩ := hI.2.1 u (by omega)
    unfold zt_X11_all_34
    cases hku : ks u with
    | none =>
      rw [hu0 hku]
      refine zIf_f (by decide) ?_
      exact m_refd Γ (by omega) hok hs (Or.inl rfl) (Or.inr rfl) (fun _ h => absurd h (by decide)) (fun h => absurd h (by decide)) (fun _ _ => zIf_f (by decide) (k2 ⟨a1, a2⟩ (by rw [Int.toNat_natCast]; exact hku) _ (f1 2).1 (f1 2).2.1 (f1 2).2.2))
    | some B =>
      have kB := hu1 B hku
      have gB := (hD.1 u B hku).2
      have lB := gB.1.1
      obtain ⟨ho, hQ⟩ := k0 u B rfl hku
      rw [kB.1, w32_id (by omega) (by omega)]
      refine zIf_t (by omega) ?_
      refine m_refd Γ (by omega) hok hs (Or.inl rfl) (Or.inl rfl) (fun _ _ => ?_) (fun h => absurd h (by decide)) (fun _ h => absurd h (by decide))
      refine zIf_t (by decide) ?_
      obtain ⟨i1, i2, i3⟩ := f1 0
      have e10 : zu M 84 0 0 84 10 = (L.length : Int) := i1.2.2.1.2.1
      have e9 : zu M 84 0 0 84 9 = ow := i1.2.2.1.1
      rw [e10, e9, w32_id (x := ((L.length : Nat) : Int)) (by have := hD.2.2.2; omega) (by have := hD.2.2.2; omega)]
      refine ⟨fun c0 => ?_, fun c0 => ?_⟩
      · refine hQ C 0 _ zcl.rf ⟨Nat.zero_le _, fun i hi => absurd hi (Nat.not_lt_zero _), fun h => by omega⟩ i1 i2 i3
      · rcases hD.2.1 with ⟨e1, e2⟩ | ⟨k, z, e1, e2, e3⟩
        · rw [e2] at c0
          exact absurd rfl c0
        · obtain ⟨hk, gz⟩ := hD.1 k z e2
          have kz := (hI.2.1 k hk).2 z e2
          rw [e1]
          refine m_two (Q := fun C2 _ M2 => zok C2 ∧ _) Γ (by omega) hb hs hk (by omega) gz gB (kz.fr (fun a j h => zu_a (by omega))) (kB.fr (fun a j h => zu_a (by omega))) (fun C1 M1 c1 hU hrA hrB hfx => ?_)
          have hok1 : zok C1 := c1.ok hb (by decide)
          refine ⟨hok1, ?_⟩
          have j1 : mI (zu M1 84 24 0) tb ks L ow out pl := i1.fr (fun c j h => by rw [zu_ne (fun e => by omega), hfx c j (by omega)])
          have jf : mfm M (zu M1 84 24 0) := fun c j h => by
            rw [zu_a (by omega), hfx c j (by omega)]
            exact i2 c j h
          have g1 : mfl M1 (zu M1 84 24 0) := mfl.rf.zu (by decide)
          have j0 : zu M1 84 24 0 84 0 = 0 := by
            rw [zu_k (by decide), hfx _ _ (by decide)]
            exact i3
          exact m_allL (C0 := C) (M0 := zu M1 84 24 0) (A := z) (B := B) (L := L) (os := os) Γ (by omega) hb hs gz gB (hU.l g1) ((zu_a (by decide)).trans hrA) ((zu_a (by decide)).trans hrB) j1.2.2.1.2.2.2 hD.2.2.1 hD.2.2.2 j1.2.2.1.2.1 (ho k z e1 e2) (fun C2 r M2 c2 h1 h2 => hQ C2 r M2 c2 h1 (h2.i j1) (jf.tr h2.m) ((h2 _ _ (by decide) (by decide)).trans j0)) c1 L.length 0 _ (Nat.zero_add _) (fun i hi => absurd hi (Nat.not_lt_zero _)) mfl.rf (zu_s _ _ _ _)
  · refine m_isP Γ (by omega) hok hs hp (fun a1 a2 => absurd ⟨a1, a2⟩ hn) (fun _ => zIf_t (by decide) ?_)
    unfold zt_X11_all_34
    exact m_refd Γ (by omega) hok hs (Or.inr rfl) (Or.inl rfl) (fun h => absurd h (by decide)) (fun _ => zIf_f (by decide) (k1 hn _ (f1 1).1 (f1 1).2.1 (f1 1).2.2)) (fun h => absurd h (by decide))
end MBA
