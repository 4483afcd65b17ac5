/-! ===== the class tells all rows ===== -/
/-- a row that can be told -/
def gdR (o : tU) : Prop := o.1.length ≤ 4096 ∧ o.2 = false
theorem wAn.c {o : tU} {v : Int} {M : zM} (h : wAn o v M) : (gdR o ∧ v = 0 ∧ M 57 1 = (o.1.length : Int) ∧ ∀ j : Nat, j < o.1.length → M 58 (j : Int) = (o.1.getD j 0 : Nat)) ∨ (¬ gdR o ∧ ((4096 < o.1.length ∧ v = -31) ∨ (o.1.length ≤ 4096 ∧ v = -20))) := by
  rcases h with ⟨a, b⟩ | ⟨a, b, c⟩ | ⟨a, b, c, e⟩
  · exact Or.inr ⟨fun h => by have := h.1; omega, Or.inl ⟨a, b⟩⟩
  · exact Or.inr ⟨fun h => Bool.noConfusion (h.2.symm.trans b), Or.inr ⟨a, c⟩⟩
  · exact Or.inl ⟨⟨a, b⟩, c, e⟩
/-- what the Teller may write -/
def tfx (M M1 : zM) : Prop := ∀ c j : Int, ¬ (56 ≤ c ∧ c ≤ 68) → M1 c j = M c j
theorem tfx.rf {M : zM} : tfx M M := fun _ _ _ => rfl
theorem tfx.tr {M M1 M2 : zM} (h : tfx M M1) (h1 : tfx M1 M2) : tfx M M2 := fun c j n => (h1 c j n).trans (h c j n)
theorem tfx.c {M M1 : zM} (h : tfx M M1) : cfx M M1 := fun c j n => h c j (by omega)
theorem tfx.s {M M1 : zM} {a : Nat} (h : tfx M M1) (hs : fSn M a) : fSn M1 a := ⟨(h _ _ (by decide)).trans hs.1, fun c hc => by rw [h _ _ (by decide)]; exact hs.2 c hc⟩
theorem wfr9.t {M M1 : zM} (h : wfr9 M M1) : tfx M M1 := fun c j n => h c j (by omega) (by omega) (by omega) (by omega) (by omega)
/-- the number of the first row that can't be told, or how many rows there are -/
def aAn (n : Nat) (os : Nat → tU) (r : Nat) : Prop := r ≤ n ∧ (∀ i : Nat, i < r → gdR (os i)) ∧ (r < n → ¬ gdR (os r))
section MB9
variable {l : Launch} {s0 : State} {a0 : Array Value} {G : va_G} {ca : Nat → ClassId} {d : Nat} {C : Nat × Nat} {S : zS} {M M0 : zM} {Q : Int → zM → Prop} {X : zM → Prop} {tb : List Nat} {ks : kST} {L : List (List Nat)} {ow : Int} {out : List Nat} {pl : Int} {a n : Nat} {A B : List Nat × List JR × Nat × SS} {p q cu : Int} {os : Nat → tU}
/-- a row of the class's, its schemas prepared -/
theorem c_rowU (Γ : rt_Γ l s0 a0 G ca) (hd : 301 ≤ d) (hok : zok C) (hs : zSok S) (h56 : S 56 = some (0, 7, [(3, 57), (3, 59), (3, 61), (3, 63), (3, 65), (3, 67), (2, 0), (2, 0), (2, 0), (0, 0), (0, 0), (0, 0)])) (hp : pOK S n p) (hq : pOK S n q) (hcu : cu = 74 ∨ cu = 79) (gA : gT A.1 A.2.1 A.2.2.1 A.2.2.2) (gB : gT B.1 B.2.1 B.2.2.1 B.2.2.2) (pA : ∃ NU U : Nat, pS M p A.2.1 A.2.2.1 A.2.2.2 NU U) (pB : ∃ NU U : Nat, pS M q B.2.1 B.2.2.1 B.2.2.2 NU U) (h4 : M 56 7 = p) (h5 : M 56 8 = q) (hL : rws M cu L) (hl1 : L.flatten.length ≤ 4000) (hl2 : L.length ≤ 4000) {i : Nat} {bs : List Nat} (hi : L[i]? = some bs) {o : tU} (ho : tT A.2.2.2.ns B.2.2.2.ns (dBy B.2.1 B.2.2.2) 32 A.2.2.1 B.2.2.1 bs o) (hO : tOq M A.2.2.2 B.2.2.2) {T : Nat} (hT : tCt M T) (hT1 : T + 1 < 2147483648)
    (hQ : ∀ (v : Int) (M1 : zM), tfx M M1 → M1 56 7 = p → M1 56 8 = q → tOq M1 A.2.2.2 B.2.2.2 → tCt M1 (T + 1) → wAn o v M1 → Q v M1) : zm_X7_tell l s0 G ca d C S cu i M Q X := by
  obtain ⟨NU, U, p3⟩ := pA
  obtain ⟨NV, V, q3⟩ := pB
  have kKA := gA.k
  have kKB := gB.k
  obtain ⟨f1, f2, f3, f4, f5, f6, f7, f8⟩ := kKA.2.1
  obtain ⟨g1, g2, g3, g4, g5, g6, g7, g8⟩ := kKB.2.1
  have hrw : zRw S cu := by
    rcases hcu with h | h
    · rw [h]; exact (zRw_of hs).1
    · rw [h]; exact (zRw_of hs).2
  refine t_row (NU := NU) (NV := NV) (A := A.2.2.2) (B := B.2.2.2) (dB := dBy B.2.1 B.2.2.2) (rA := A.2.2.1) (rB := B.2.2.1) (p := p) (q := q) Γ (by omega) hok ⟨hs, hp.1, hq.1, hrw, h56, hp.2.1, hq.2.1, by omega, by omega⟩ f4 g4 kKA.2.2.2.1 kKB.2.2.2.1 f1 g1 kKA.2.2.2.2.1 kKB.2.2.2.2.1 (p3.g q3) p3.2.1.1 q3.2.1.1 f8 g8 h4 h5 hL (by omega) (by omega) hi ho hO hT hT1 (fun v M1 w1 w2 w9 w3 => ?_)
  exact hQ v M1 w1.t ((w1 _ _ (by decide) (by decide) (by decide) (by decide) (by decide)).trans h4) ((w1 _ _ (by decide) (by decide) (by decide) (by decide) (by decide)).trans h5) w2 w9 w3
theorem c_allL (Γ : rt_Γ l s0 a0 G ca) (hd : 302 ≤ d) (hok : zok C) (hs : zSok S) (h56 : S 56 = some (0, 7, [(3, 57), (3, 59), (3, 61), (3, 63), (3, 65), (3, 67), (2, 0), (2, 0), (2, 0), (0, 0), (0, 0), (0, 0)])) (hp : pOK S n p) (hq : pOK S n q) (hcu : cu = 74 ∨ cu = 79) (gA : gT A.1 A.2.1 A.2.2.1 A.2.2.2) (gB : gT B.1 B.2.1 B.2.2.1 B.2.2.2) (pA : ∃ NU U : Nat, pS M0 p A.2.1 A.2.2.1 A.2.2.2 NU U) (pB : ∃ NU U : Nat, pS M0 q B.2.1 B.2.2.1 B.2.2.2 NU U) (h8 : M0 0 8 = cu) (hL : rws M0 cu L) (hl1 : L.flatten.length ≤ 4000) (hl2 : L.length ≤ 4000) (ho : ∀ (i : Nat) (bs : List Nat), L[i]? = some bs → tT A.2.2.2.ns B.2.2.2.ns (dBy B.2.1 B.2.2.2) 32 A.2.2.1 B.2.2.1 bs (os i)) {T : Nat} (hT0 : T + 4001 < 2147483648) (hQ : ∀ (r : Nat) (M1 : zM), aAn L.length os r → tfx M0 M1 → (∃ T1 : Nat, T1 ≤ T + 4000 ∧ tCt M1 T1) → Q r M1) {w0 : rt_Wd} : ∀ (c j : Nat) (M : zM), j + c = L.length → (∀ i : Nat, i < j → gdR (os i)) → tfx M0 M → M 56 7 = p → M 56 8 = q → tOq M A.2.2.2 B.2.2.2 → tCt M (T + j) → zg_X9_all_51 l s0 G ca d C S w0 j M Q X := by
  have hrw : zRw S cu := by
    rcases hcu with h | h
    · rw [h]; exact (zRw_of hs).1
    · rw [h]; exact (zRw_of hs).2
  have hp0 := hp.2.1
  have hq0 := hq.2.1
  intro c
  induction c with
  | zero =>
    intro j M hj hg hf h4 h5 hO hC
    have : j = L.length := by omega
    subst this
    refine zs_X9_all_51 Γ (by omega) hok hs h56 ?_
    unfold zt_X9_all_51
    have hLM : rws M cu L := hL.fr (fun c j c1 c2 => hf c j (by omega))
    rw [hf 0 8 (by decide), h8, hLM.2.2.1, w32_id (by omega) (by omega)]
    exact ⟨hrw, zIf_t (Int.le_refl _) (hQ L.length M ⟨Nat.le_refl _, hg, fun h => absurd h (Nat.lt_irrefl _)⟩ hf ⟨T + L.length, by omega, hC⟩)⟩
  | succ c ih =>
    intro j M hj hg hf h4 h5 hO hC
    obtain ⟨bs, hbs⟩ : ∃ bs, L[j]? = some bs := ⟨_, List.getElem?_eq_getElem (show j < L.length by omega)⟩
    have hLM : rws M cu L := hL.fr (fun c j c1 c2 => hf c j (by omega))
    refine zs_X9_all_51 Γ (by omega) hok hs h56 ?_
    unfold zt_X9_all_51
    rw [hf 0 8 (by decide), h8, hLM.2.2.1, w32_id (x := ((L.length : Nat) : Int)) (by omega) (by omega), w32_id (x := (j : Int)) (by omega) (by omega)]
    refine ⟨hrw, zIf_f (by omega) ?_⟩
    have pA1 : ∃ NU U : Nat, pS M p A.2.1 A.2.2.1 A.2.2.2 NU U := by
      obtain ⟨NU, U, h⟩ := pA
      exact ⟨NU, U, h.fr (fun a h1 h2 => funext fun j => hf a j (by omega))⟩
    have pB1 : ∃ NU U : Nat, pS M q B.2.1 B.2.2.1 B.2.2.2 NU U := by
      obtain ⟨NU, U, h⟩ := pB
      exact ⟨NU, U, h.fr (fun a h1 h2 => funext fun j => hf a j (by omega))⟩
    refine c_rowU (p := p) (q := q) Γ (by omega) hok hs h56 hp hq hcu gA gB pA1 pB1 h4 h5 hLM hl1 hl2 hbs (ho j bs hbs) hO hC (by omega) (fun v M1 w1 w4 w5 w6 w9 w7 => ?_)
    rcases w7.c with ⟨y1, y2, -⟩ | ⟨y1, y2⟩
    · subst y2
      refine zIf_t (by decide) ?_
      rw [show (j : Int) + 1 = ((j + 1 : Nat) : Int) by omega]
      refine ih (j + 1) M1 (by omega) (fun i hi => ?_) (hf.tr w1) w4 w5 w6 w9
      by_cases ci : i = j
      · rw [ci]; exact y1
      · exact hg i (by omega)
    · have hv : ¬ w32 v = 0 := by
        rcases y2 with ⟨-, rfl⟩ | ⟨-, rfl⟩ <;> decide
      exact zIf_f hv (hQ j M1 ⟨by omega, hg, fun _ => y1⟩ (hf.tr w1) ⟨T + j + 1, by omega, w9⟩)
/-- the writer of the rows -/
theorem c_wrt (Γ : rt_Γ l s0 a0 G ca) (hok : zok C) (hI : cI S n M tb ks L ow out pl a) (hD : dOk ks L ow) (h0 : ow = -1 → L = [] → Q (-1) M) (h1 : ∀ (k : Nat) (z : List Nat × List JR × Nat × SS), ow = (k : Int) → ks k = some z → (∀ w ∈ L, yN z.2.2.2.ns 32 z.2.2.1 w) → ∀ p : Int, pOK S n p → (∃ NU U : Nat, pS M p z.2.1 z.2.2.1 z.2.2.2 NU U) → Q p M) : zm_X9_writer l s0 G ca d C S M Q X := by
  obtain ⟨⟨hs, dy⟩, ⟨pf, hP⟩, -, -, h10, -⟩ := id hI
  refine z_X9_writer Γ hok hs ?_
  unfold zt_X9_writer
  rw [h10]
  rcases hD.2.1 with ⟨e1, e2⟩ | ⟨k, z, e1, e2, e3⟩
  · rw [e1]
    exact zIf_t (by decide) (h0 e1 e2)
  · obtain ⟨hk, -⟩ := hD.1 k z e2
    obtain ⟨p1, p2, p3⟩ := (hP.1 k hk).2 z e2
    rw [e1, w32_id (by omega) (by omega)]
    refine zIf_f (by omega) (zIf_f (by omega) ⟨⟨by omega, by omega⟩, ?_⟩)
    rw [p1]
    exact h1 k z e1 e2 e3 _ p2 p3
theorem c_allU (Γ : rt_Γ l s0 a0 G ca) (hd : 303 ≤ d) (hok : zok C) (hI : cI S n M tb ks L ow out pl a) (hD : dOk ks L ow) (ha : a < 80000) {u : Nat} (hB : ks u = some B) (ho : ∀ (k : Nat) (z : List Nat × List JR × Nat × SS), ow = (k : Int) → ks k = some z → ∀ (i : Nat) (bs : List Nat), L[i]? = some bs → tT z.2.2.2.ns B.2.2.2.ns (dBy B.2.1 B.2.2.2) 32 z.2.2.1 B.2.2.1 bs (os i))
    (hQ : ∀ (r : Nat) (M1 : zM), aAn L.length os r → cI S n M1 tb ks L ow out pl (a + 1) → mfc M M1 → Q r M1) : zm_X9_all l s0 G ca d C S u M Q X := by
  obtain ⟨⟨hs, dy⟩, ⟨pf, hP⟩, -, ⟨cu, sp, hcs, h8, h9, hL⟩, h10, -, -, hfS, -⟩ := id hI
  obtain ⟨hu, gB⟩ := hD.1 u B hB
  obtain ⟨q1, q2, q3⟩ := (hP.1 u hu).2 B hB
  have hq0 := q2.2.1
  have h56 := dy.2.2.2.2.1
  have hrw : zRw S cu := by
    rcases hcs with h | h
    · rw [h.1]; exact (zRw_of hs).1
    · rw [h.1]; exact (zRw_of hs).2
  obtain ⟨⟨b0, hb0, hfS⟩, T, hT, hC9⟩ := hfS
  have fin : ∀ M1 : zM, tfx M M1 → (∃ T1 : Nat, T1 ≤ T + 4000 ∧ tCt M1 T1) → cI S n M1 tb ks L ow out pl (a + 1) ∧ mfc M M1 := fun M1 f ⟨T1, t1, t2⟩ => ⟨hI.fx f.c ⟨⟨b0, by omega, f.s hfS⟩, T1, by omega, t2⟩, f.c.c⟩
  refine z_X9_all Γ (by omega) hok hs h56 ?_
  unfold zt_X9_all
  rw [q1, w32_id (x := (u : Int)) (by omega) (by omega)]
  refine zIf_f (by omega) (zIf_t (by omega) ⟨⟨by omega, by omega⟩, zIf_f (by omega) ?_⟩)
  obtain ⟨NV, V, q4⟩ := id q3
  have hg := gB.k
  have hpt : ∀ (p : Int) (A : SS) (Q9 : Int → zM → Prop), (∀ M1 : zM, (∀ c j : Int, ¬ (c = 56 ∧ (j = 7 ∨ j = 8)) → ¬ c = 60 → M1 c j = M c j) → M1 56 7 = p → M1 56 8 = pf u → tOq M1 A B.2.2.2 → Q9 0 M1) → zm_X7_prepare l s0 G ca (d - 1) C S p (pf u) M Q9 X := fun p A Q9 k => t_prep (p := p) (q := pf u) (A := A) (B := B.2.2.2) Γ (by omega) hok hs q2.1 h56 hq0 hg.2.1.2.2.2.1 q4.2.1.2 q4.1.2.2.2.1 k
  refine c_wrt Γ hok hI hD (fun e1 e2 => ?_) (fun k z e1 e2 e3 p p2 p3 => ?_)
  · refine hpt (-1) B.2.2.2 _ (fun M1 f1 f4 f5 f6 => ?_)
    have f : tfx M M1 := fun c j hc => f1 c j (by omega) (by omega)
    refine zs_X9_all_51 Γ (by omega) hok hs h56 ?_
    unfold zt_X9_all_51
    have hLM : rws M1 cu L := hL.fr (fun c j c1 c2 => f c j (by omega))
    rw [f 0 8 (by decide), h8, hLM.2.2.1, e2]
    obtain ⟨x1, x2⟩ := fin M1 f ⟨T, by omega, hC9.fr (fun c j h => f1 c j (by omega) (by omega))⟩
    have := hQ 0 M1 ⟨Nat.zero_le _, fun i hi => absurd hi (Nat.not_lt_zero _), fun h => by rw [e2] at h; exact absurd h (Nat.not_lt_zero _)⟩ x1 x2
    exact ⟨hrw, zIf_t (by decide) this⟩
  · refine hpt p z.2.2.2 _ (fun M1 f1 f4 f5 f6 => ?_)
    have f : tfx M M1 := fun c j hc => f1 c j (by omega) (by omega)
    obtain ⟨-, gz⟩ := hD.1 k z e2
    exact c_allL (M0 := M) (p := p) (q := pf u) (A := z) (B := B) Γ (by omega) hok hs h56 p2 q2 (by omega) gz gB p3 q3 h8 hL hD.2.2.1 hD.2.2.2 (ho k z e1 e2) (T := T) (by omega) (fun r M2 h1 h2 h3 => hQ r M2 h1 (fin M2 h2 h3).1 (fin M2 h2 h3).2) L.length 0 M1 (Nat.zero_add _) (fun i hi => absurd hi (Nat.not_lt_zero _)) f f4 f5 f6 (hC9.fr (fun c j h => f1 c j (by omega) (by omega)))
end MB9
