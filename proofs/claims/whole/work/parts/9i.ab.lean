/-! ===== the class tells a row ===== -/
/-- the shapes within the telling of a row -/
def S56 (S : zS) (p q mk : Int) : zS := fun b => if b = ((56 : Nat) : Int) then some (0, 7, [(3, 57), (3, 59), (3, 61), (3, 63), (3, 65), (3, 67), (3, mk), (3, p), (3, q), (0, 0), (0, 0), (0, 0)]) else S b
theorem z56 {S : zS} {l : Launch} {s0 : State} {G : va_G} {ca : Nat → ClassId} {k : Cond} {y : MethodName} {t d : Nat} {av : List Value} {C : Nat × Nat} {M : zM} {Q : Int → zM → Prop} {X : zM → Prop} {p q mk : Int} (hs56 : S 56 = some (0, 7, [(3, 57), (3, 59), (3, 61), (3, 63), (3, 65), (3, 67), (2, 0), (2, 0), (2, 0), (0, 0), (0, 0), (0, 0)])) (h3 : M 56 6 = mk) (h4 : M 56 7 = p) (h5 : M 56 8 = q) (h : zMet l s0 G ca k y t d av C (S56 S p q mk) M (fun v M1 => Q v (zu (zu (zu M1 56 8 q) 56 7 p) 56 6 mk)) (fun M1 => X (zu (zu (zu M1 56 8 q) 56 7 p) 56 6 mk))) : zMet l s0 G ca k y t d av C S M Q X := by
  let S1 : zS := fun b => if b = ((56 : Nat) : Int) then some (0, 7, [(3, 57), (3, 59), (3, 61), (3, 63), (3, 65), (3, 67), (3, mk), (2, 0), (2, 0), (0, 0), (0, 0), (0, 0)]) else S b
  have h56 : S1 56 = some (0, 7, [(3, 57), (3, 59), (3, 61), (3, 63), (3, 65), (3, 67), (3, mk), (2, 0), (2, 0), (0, 0), (0, 0), (0, 0)]) := if_pos rfl
  let S2 : zS := fun b => if b = ((56 : Nat) : Int) then some (0, 7, [(3, 57), (3, 59), (3, 61), (3, 63), (3, 65), (3, 67), (3, mk), (3, p), (2, 0), (0, 0), (0, 0), (0, 0)]) else S b
  have g56 : S2 56 = some (0, 7, [(3, 57), (3, 59), (3, 61), (3, 63), (3, 65), (3, 67), (3, mk), (3, p), (2, 0), (0, 0), (0, 0), (0, 0)]) := if_pos rfl
  refine zMet_S (S' := S1) (a := 56) (c := mk) (k9 := 6) hs56 h56 (fun b hb => if_neg hb) rfl rfl h3 ?_
  refine zMet_S (S' := S2) (a := 56) (c := p) (k9 := 7) h56 g56 (fun b hb => ?_) rfl rfl h4 ?_
  · show (if b = ((56 : Nat) : Int) then _ else S b) = (if b = ((56 : Nat) : Int) then _ else S b)
    rw [if_neg (show ¬ b = ((56 : Nat) : Int) from hb), if_neg (show ¬ b = ((56 : Nat) : Int) from hb)]
  · refine zMet_S (S' := S56 S p q mk) (a := 56) (c := q) (k9 := 8) g56 (if_pos rfl) (fun b hb => ?_) rfl rfl h5 h
    show (if b = ((56 : Nat) : Int) then _ else S b) = (if b = ((56 : Nat) : Int) then _ else S b)
    rw [if_neg (show ¬ b = ((56 : Nat) : Int) from hb), if_neg (show ¬ b = ((56 : Nat) : Int) from hb)]
/-- the Teller between calls -/
def wSh (S : zS) (p q r : Int) : Prop := zSok S ∧ zSc S p ∧ zSc S q ∧ zRw S r ∧ S 56 = some (0, 7, [(3, 57), (3, 59), (3, 61), (3, 63), (3, 65), (3, 67), (2, 0), (2, 0), (2, 0), (0, 0), (0, 0), (0, 0)]) ∧ (30 ≤ p ∧ (p + 24 < 55 ∨ 138 ≤ p)) ∧ (30 ≤ q ∧ (q + 24 < 55 ∨ 138 ≤ q)) ∧ 70 ≤ r ∧ r < 80
theorem wSh.t {S : zS} {p q r : Int} (h : wSh S p q r) : tSh (S56 S p q (r + 1)) p q (r + 1) (r + 2) := by
  obtain ⟨hs, hp, hq, hr, h56, hp0, hq0, r0, r1⟩ := h
  exact ⟨hs.upd (Or.inl rfl), hp.fr (fun a h1 h2 => if_neg (by omega)), hq.fr (fun a h1 h2 => if_neg (by omega)), hr.2.2.1.fr (if_neg (by omega)) (if_neg (by omega)), if_pos rfl, by omega, by omega, by omega, hp0, hq0⟩
/-- what the telling of a row may write -/
def wfr9 (M M1 : zM) : Prop := ∀ c j : Int, ¬ (c = 56 ∧ (j = 6 ∨ j = 9 ∨ j = 10 ∨ j = 11)) → ¬ c = 57 → ¬ c = 58 → ¬ (c = 60 ∨ c = 64 ∨ c = 66 ∨ c = 68) → ¬ c = 62 → M1 c j = M c j
/-- what a row's telling answers -/
def wAn (o : tU) (v : Int) (M1 : zM) : Prop := (4096 < o.1.length ∧ v = -31) ∨ (o.1.length ≤ 4096 ∧ o.2 = true ∧ v = -20) ∨ (o.1.length ≤ 4096 ∧ o.2 = false ∧ v = 0 ∧ M1 57 1 = (o.1.length : Int) ∧ ∀ j : Nat, j < o.1.length → M1 58 (j : Int) = (o.1.getD j 0 : Nat))
section IB9
variable {l : Launch} {s0 : State} {a0 : Array Value} {G : va_G} {ca : Nat → ClassId} {d : Nat} {C : Nat × Nat} {S : zS} {p q r : Int} {M : zM} {Q : Int → zM → Prop} {X : zM → Prop} {NU NV rA rB : Nat} {A B : SS} {dB : SP → Option (List Nat)}
theorem t_row (Γ : rt_Γ l s0 a0 G ca) (hd : 300 ≤ d) (hok : zok C) (hS : wSh S p q r) (hFA : kF A) (hFB : kF B) (hHA : kHn A) (hHB : kHn B) (hOA : kOk A) (hOB : kOk B) (hNA : kGn A) (hNB : kGn B) (hG : tG M p q NU NV A B dB) (hrA : M p 12 = (rA : Int)) (hrB : M q 12 = (rB : Int)) (hA : rA < 6 + A.ns.length) (hB : rB < 6 + B.ns.length) (h4 : M 56 7 = p) (h5 : M 56 8 = q) {L : List (List Nat)} (hL : rws M r L) (hl1 : L.flatten.length ≤ 4096) (hl2 : L.length ≤ 4096) {i : Nat} {bs : List Nat} (hi : L[i]? = some bs) {o : tU} (ho : tT A.ns B.ns dB 32 rA rB bs o) (hO : tOq M A B) {T : Nat} (hT : tCt M T) (hT1 : T + 1 < 2147483648)
    (hQ : ∀ (v : Int) (M1 : zM), wfr9 M M1 → tOq M1 A B → tCt M1 (T + 1) → wAn o v M1 → Q v M1) : zm_X7_tell l s0 G ca d C S r i M Q X := by
  obtain ⟨hs, hp, hq, hr, h56, hp0, hq0, r0, r1⟩ := id hS
  have hil := (List.getElem?_eq_some_iff.mp hi).1
  refine z_X7_tell Γ (by omega) hok hs h56 ?_
  unfold zt_X7_tell
  have e4 : zu M 57 1 0 56 7 = p := (zu_a (by decide)).trans h4
  have e5 : zu M 57 1 0 56 8 = q := (zu_a (by decide)).trans h5
  have e9 : zu M 57 1 0 56 9 = (T : Int) := (zu_a (by decide)).trans hT.1
  rw [zcut0, e4, e5, e9]
  refine zIf_f (by omega) (zIf_f (by omega) (zIf_f (by omega) ⟨hr, hp, hq, ?_⟩))
  have es : zat (zu (zu (zu (zu M 57 1 0) 56 9 ((T : Int) + 1)) 56 11 0) 56 6 (r + 1)) (r + 4) 4096 (i : Int) = ((L.take i).flatten.length : Int) := by
    rw [zat_in (by omega) (by omega) (by decide), zu_a (by omega), zu_a (by omega), zu_a (by omega), zu_a (by omega)]
    exact hL.2.2.2 i hil
  rw [es]
  have fr : ∀ c j : Int, ¬ (c = 56 ∧ (j = 6 ∨ j = 9 ∨ j = 10 ∨ j = 11)) → ¬ (c = 57 ∧ j = 1) → zu (zu (zu (zu (zu M 57 1 0) 56 9 ((T : Int) + 1)) 56 11 0) 56 6 (r + 1)) 56 10 ((L.take i).flatten.length : Int) c j = M c j := fun c j n1 n2 => by
    rw [zu_ne (fun e => n1 ⟨e.1, by omega⟩), zu_ne (fun e => n1 ⟨e.1, by omega⟩), zu_ne (fun e => n1 ⟨e.1, by omega⟩), zu_ne (fun e => n1 ⟨e.1, by omega⟩), zu_ne n2]
  have f3 : zu (zu (zu (zu (zu M 57 1 0) 56 9 ((T : Int) + 1)) 56 11 0) 56 6 (r + 1)) 56 10 ((L.take i).flatten.length : Int) 56 6 = r + 1 := (zu_k (by decide)).trans (zu_s _ _ _ _)
  have f6 : zu (zu (zu (zu (zu M 57 1 0) 56 9 ((T : Int) + 1)) 56 11 0) 56 6 (r + 1)) 56 10 ((L.take i).flatten.length : Int) 56 10 = ((L.take i).flatten.length : Int) := zu_s _ _ _ _
  have f7 : zu (zu (zu (zu (zu M 57 1 0) 56 9 ((T : Int) + 1)) 56 11 0) 56 6 (r + 1)) 56 10 ((L.take i).flatten.length : Int) 56 11 = 0 := (zu_k (by decide)).trans ((zu_k (by decide)).trans (zu_s _ _ _ _))
  have f57 : zu (zu (zu (zu (zu M 57 1 0) 56 9 ((T : Int) + 1)) 56 11 0) 56 6 (r + 1)) 56 10 ((L.take i).flatten.length : Int) 57 1 = ((0 : Nat) : Int) := (zu_a (by decide)).trans ((zu_a (by decide)).trans ((zu_a (by decide)).trans ((zu_a (by decide)).trans (zu_s _ _ _ _))))
  have f9 : zu (zu (zu (zu (zu M 57 1 0) 56 9 ((T : Int) + 1)) 56 11 0) 56 6 (r + 1)) 56 10 ((L.take i).flatten.length : Int) 56 9 = ((T + 1 : Nat) : Int) := (zu_k (by decide)).trans ((zu_k (by decide)).trans ((zu_k (by decide)).trans (zu_s _ _ _ _)))
  generalize zu (zu (zu (zu (zu M 57 1 0) 56 9 ((T : Int) + 1)) 56 11 0) 56 6 (r + 1)) 56 10 ((L.take i).flatten.length : Int) = M3 at fr f3 f6 f7 f57 f9 ⊢
  rw [fr p 12 (by omega) (by omega), hrA, fr q 12 (by omega) (by omega), hrB]
  have g4 : M3 56 7 = p := (fr _ _ (by omega) (by omega)).trans h4
  have g5 : M3 56 8 = q := (fr _ _ (by omega) (by omega)).trans h5
  refine z56 (p := p) (q := q) (mk := r + 1) h56 f3 g4 g5 ?_
  have hG3 : tG M3 p q NU NV A B dB := hG.fr (fun a ha => funext fun j => fr a j (by omega) (by omega))
  have hb : rdB M (r + 2) 0 L.flatten := fun j hj => by rw [Nat.zero_add]; exact hL.2.1 j hj
  obtain ⟨b1, b2⟩ := tBg_at (P := 0) hi hb
  have eP : tBg 0 L i = (L.take i).flatten.length := Nat.zero_add _
  rw [eP] at b1 b2
  have hb3 : rdB M3 (r + 2) (L.take i).flatten.length bs := fun j hj => by
    rw [fr _ _ (by omega) (by omega)]
    exact b1 j hj
  have hC3 : tCt M3 (T + 1) := ⟨f9, fun v hv => by
    have := hT.2 v hv
    rw [fr 64 _ (by omega) (by omega)]
    omega⟩
  have hlA := hG.1.2.2.1
  have hO3 : tOr M3 A B dB := ⟨hO.fr (fun j => fr _ _ (by omega) (by omega)), T + 1, hT1, hC3, fun _ v hv h => by
    have := hT.2 v (by omega)
    rw [fr 64 _ (by omega) (by omega)] at h
    omega⟩
  refine t_tell (p := p) (q := q) (mk := r + 1) (mka := r + 2) Γ hok hS.t hFA hFB hHA hHB hOA hOB hNA hNB 32 (d - 1) rA rB 0 (L.take i).flatten.length 0 bs o M3 _ _ (by omega) (by omega) hA hB ho hG3 hb3 (by omega) f7 f6 f57 (Nat.zero_le _) hO3 (fun M4 hR => ?_)
  obtain ⟨x1, x2, x3⟩ := hR
  have i3 : M4 56 6 = r + 1 := (x1 _ _ (by omega) (by omega) (by omega) (by omega) (by omega)).trans f3
  have i4 : M4 56 7 = p := (x1 _ _ (by omega) (by omega) (by omega) (by omega) (by omega)).trans g4
  have i5 : M4 56 8 = q := (x1 _ _ (by omega) (by omega) (by omega) (by omega) (by omega)).trans g5
  rw [zu_id i5, zu_id i4, zu_id i3]
  have hC4 : tCt M4 (T + 1) := by
    obtain ⟨T2, -, t2, -⟩ := x2.2
    have k1 := t2.1
    have k2 := (x1 56 9 (by omega) (by omega) (by omega) (by omega) (by omega)).trans f9
    have : T2 = T + 1 := by omega
    rw [← this]
    exact t2
  refine hQ _ M4 (fun c j n1 n2 n3 n4 n5 => ?_) x2.1 hC4 ?_
  · rw [x1 c j (fun h => n1 ⟨h.1, by omega⟩) (fun h => n2 h.1) (fun h => n3 h.1) n4 (fun h => n5 h.1)]
    exact fr c j n1 (fun h => n2 h.1)
  · rcases x3 with ⟨y1, y2⟩ | ⟨y1, y2, y3⟩ | ⟨y1, y2, y3, y4, y5, y6⟩
    · exact Or.inl ⟨by omega, y2⟩
    · exact Or.inr (Or.inl ⟨by omega, y2, y3⟩)
    · rw [Nat.zero_add] at y5
      refine Or.inr (Or.inr ⟨by omega, y2, y3, y5, fun j hj => ?_⟩)
      have := y6 j hj
      rw [Nat.zero_add] at this
      exact this
/-- behind prepare nothing is known of any field -/
theorem t_prepL (Γ : rt_Γ l s0 a0 G ca) (hd : 3 ≤ d) (hok : zok C) (hs : zSok S) (h56 : S 56 = some (0, 7, [(3, 57), (3, 59), (3, 61), (3, 63), (3, 65), (3, 67), (2, 0), (2, 0), (2, 0), (0, 0), (0, 0), (0, 0)])) {n : Nat} (hn : n ≤ 2048) {w0 : rt_Wd} : ∀ (c j : Nat) (M : zM), j + c = n → (∀ i : Nat, i < j → M 60 (i : Int) = -2) → (∀ M1 : zM, (∀ a k : Int, ¬ a = 60 → M1 a k = M a k) → (∀ i : Nat, i < n → M1 60 (i : Int) = -2) → Q 0 M1) → zg_X7_prepare_26 l s0 G ca d C S w0 n j M Q X := by
  intro c
  induction c with
  | zero =>
    intro j M hj h hQ
    have : j = n := by omega
    subst this
    refine zs_X7_prepare_26 Γ (by omega) hok hs h56 ?_
    unfold zt_X7_prepare_26
    exact zIf_t (Int.le_refl _) (hQ M (fun _ _ _ => rfl) h)
  | succ c ih =>
    intro j M hj h hQ
    refine zs_X7_prepare_26 Γ (by omega) hok hs h56 ?_
    unfold zt_X7_prepare_26
    rw [w32_id (x := (n : Int)) (by omega) (by omega), w32_id (x := (j : Int)) (by omega) (by omega)]
    refine zIf_f (by omega) ?_
    rw [zput_in (by omega) (by omega) (by decide), show (j : Int) + 1 = ((j + 1 : Nat) : Int) by omega]
    refine ih (j + 1) _ (by omega) (fun i hi => ?_) (fun M1 f1 f2 => hQ M1 (fun a k na => ?_) f2)
    · by_cases c1 : i = j
      · subst c1
        exact zu_s _ _ _ _
      · rw [zu_k (by omega)]
        exact h i (by omega)
    · rw [f1 a k na, zu_a na]
theorem t_prep (Γ : rt_Γ l s0 a0 G ca) (hd : 3 ≤ d) (hok : zok C) (hs : zSok S) (hq : zSc S q) (h56 : S 56 = some (0, 7, [(3, 57), (3, 59), (3, 61), (3, 63), (3, 65), (3, 67), (2, 0), (2, 0), (2, 0), (0, 0), (0, 0), (0, 0)])) (hq0 : 30 ≤ q ∧ (q + 24 < 55 ∨ 138 ≤ q)) (hFB : kF B) (hq13 : M (q + 13) 1 = (nTot B.ns : Int)) (hB : nTot B.ns ≤ 2048)
    (hQ : ∀ M1 : zM, (∀ a k : Int, ¬ (a = 56 ∧ (k = 7 ∨ k = 8)) → ¬ a = 60 → M1 a k = M a k) → M1 56 7 = p → M1 56 8 = q → tOq M1 A B → Q 0 M1) : zm_X7_prepare l s0 G ca d C S p q M Q X := by
  refine z_X7_prepare Γ (by omega) hok hs h56 ?_
  unfold zt_X7_prepare
  refine zIf_f (by omega) ⟨hq, ?_⟩
  rw [zu_a (by omega), zu_a (by omega), hq13]
  refine t_prepL Γ hd hok hs h56 hB (nTot B.ns) 0 _ (Nat.zero_add _) (fun i hi => absurd hi (Nat.not_lt_zero _)) (fun M1 f1 f2 => hQ M1 (fun a k n1 n2 => ?_) ?_ ?_ ?_)
  · rw [f1 a k n2, zu_ne (fun h => n1 ⟨h.1, Or.inr h.2⟩), zu_ne (fun h => n1 ⟨h.1, Or.inl h.2⟩)]
  · rw [f1 _ _ (by decide), zu_k (by decide), zu_s]
  · rw [f1 _ _ (by decide), zu_s]
  · intro i k n z h1 h2 h3
    refine Or.inl (f2 _ ?_)
    have hk := (List.getElem?_eq_some_iff.mp h3).1
    have hct := (hFB i n h1).2.2.2.1 (by omega)
    have := nTot_in h1
    omega
end IB9
