/-! ===== rows that were taken are normal; the class's load ===== -/
theorem yRows_n {ns : List SN} {b : List Nat} {root : Nat} (hb : ∀ x ∈ b, x < 256) (hN : b.length ≤ 4000) (hdt : ∀ s, (nN ns s).kd = 9 → 0 ≤ (nN ns s).dt) : ∀ (T p : Nat) (L : List (List Nat)), p ≤ b.length → yRows ns b root T p = .ok L → (∀ w ∈ L, yN ns 32 root w) ∧ L.flatten.length + p ≤ b.length ∧ L.length + p ≤ b.length := by
  intro T
  induction T with
  | zero => intro p L _ h; exact nomatch h
  | succ T ih =>
    intro p L hp h
    unfold yRows at h
    by_cases c : b.length ≤ p
    · rw [if_pos c] at h
      injection h with h
      subst h
      exact ⟨(fun w hw => (nomatch hw)), by rw [List.flatten_nil, List.length_nil]; omega, by rw [List.length_nil]; omega⟩
    · rw [if_neg c] at h
      have hA : yA b (p, 0, 0) := ⟨hp, Nat.zero_le _, Nat.zero_le _⟩
      cases hl : yLook ns b 32 root (p, 0, 0) with
      | error e => rw [hl] at h; exact nomatch h
      | ok z =>
        obtain ⟨w, s2⟩ := z
        rw [hl] at h
        dsimp only at h
        obtain ⟨g1, g2, -⟩ := (yLook_g 32 root (p, 0, 0) hA).2 w s2 hl
        have g2' : w.length + p ≤ s2.1 := g2
        by_cases c2 : s2.1 = p
        · rw [if_pos c2] at h
          exact nomatch h
        · rw [if_neg c2] at h
          cases hr : yRows ns b root T s2.1 with
          | error e => rw [hr] at h; exact nomatch h
          | ok L1 =>
            rw [hr] at h
            dsimp only at h
            injection h with h
            subst h
            obtain ⟨k1, k2, k3⟩ := ih s2.1 L1 g1.1 hr
            refine ⟨fun x hx => ?_, ?_, ?_⟩
            · rcases List.mem_cons.mp hx with e | e
              · rw [e]; exact yLook_n hb hN hdt 32 root (p, 0, 0) w s2 hA hl
              · exact k1 x e
            · rw [List.flatten_cons, List.length_append]
              omega
            · rw [List.length_cons]
              omega
theorem yAll_n {ns : List SN} {b : List Nat} {root : Nat} {L : List (List Nat)} (hb : ∀ x ∈ b, x < 256) (hN : b.length ≤ 4000) (hdt : ∀ s, (nN ns s).kd = 9 → 0 ≤ (nN ns s).dt) (h : yAll ns b root = .ok L) : (∀ w ∈ L, yN ns 32 root w) ∧ L.flatten.length ≤ b.length ∧ L.length ≤ b.length := by
  unfold yAll at h
  by_cases c : b.length = 0
  · rw [if_pos c] at h
    exact nomatch h
  · rw [if_neg c] at h
    exact yRows_n hb hN hdt _ 0 L (Nat.zero_le _) h
theorem yRows_e {ns : List SN} {b : List Nat} {root : Nat} {e : Nat × Nat} : ∀ (T p : Nat), p ≤ b.length → yRows ns b root T p = .error (some e) → yE b e := by
  intro T
  induction T with
  | zero =>
    intro p _ h
    injection h with h
    exact nomatch h
  | succ T ih =>
    intro p hp h
    unfold yRows at h
    by_cases c : b.length ≤ p
    · rw [if_pos c] at h
      exact nomatch h
    · rw [if_neg c] at h
      have hA : yA b (p, 0, 0) := ⟨hp, Nat.zero_le _, Nat.zero_le _⟩
      cases hl : yLook ns b 32 root (p, 0, 0) with
      | error e2 =>
        rw [hl] at h
        dsimp only at h
        injection h with h
        injection h with h
        subst h
        exact (yLook_g 32 root (p, 0, 0) hA).1 _ hl
      | ok z =>
        obtain ⟨w, s2⟩ := z
        rw [hl] at h
        dsimp only at h
        obtain ⟨g1, g2, -⟩ := (yLook_g 32 root (p, 0, 0) hA).2 w s2 hl
        by_cases c2 : s2.1 = p
        · rw [if_pos c2] at h
          injection h with h
          exact nomatch h
        · rw [if_neg c2] at h
          cases hr : yRows ns b root T s2.1 with
          | error x =>
            rw [hr] at h
            dsimp only at h
            injection h with h
            subst h
            exact ih s2.1 g1.1 hr
          | ok L1 =>
            rw [hr] at h
            exact nomatch h
theorem yAll_e {ns : List SN} {b : List Nat} {root : Nat} {e : Nat × Nat} (h : yAll ns b root = .error (some e)) : yE b e := by
  unfold yAll at h
  by_cases c : b.length = 0
  · rw [if_pos c] at h
    injection h with h
    exact nomatch h
  · rw [if_neg c] at h
    exact yRows_e _ 0 (Nat.zero_le _) h
theorem kF.dt {st : SS} (hF : kF st) (s : Nat) (h : (nN st.ns s).kd = 9) : 0 ≤ (nN st.ns s).dt := by
  by_cases hs : s < 6 + st.ns.length
  · obtain ⟨i, rfl, hi⟩ := nN_some (ns := st.ns) (s := s) (nN_ge (ns := st.ns) (by omega)) hs
    exact ((hF i _ hi).2.2.2.2.1 h).1
  · exfalso
    unfold nN at h
    rw [if_neg (by omega), List.getD_eq_getElem?_getD, List.getElem?_eq_none (by omega)] at h
    exact absurd h (show ¬ (0 : Nat) = 9 by decide)
theorem cI.ld {S : zS} {n : Nat} {M M1 : zM} {tb tb1 : List Nat} {ks : kST} {L L1 : List (List Nat)} {ow ow1 : Int} {out : List Nat} {pl pl1 : Int} {a : Nat} {sp : Int} (h : cI S n M tb ks L ow out pl a) (hsp : sp = 74 ∨ sp = 79) (f : ∀ c j : Int, ¬ (c = 0 ∧ 8 ≤ j ∧ j ≤ 11) → ¬ (c = 1 ∧ j = 1) → ¬ c = 55 → ¬ (sp + 1 ≤ c ∧ c ≤ sp + 4) → M1 c j = M c j) (ht : M1 1 1 = (tb1.length : Int) ∧ ∀ j : Nat, j < tb1.length → M1 2 (j : Int) = (tb1.getD j 0 : Nat)) (hr : ∃ cu sp : Int, ((cu = 74 ∧ sp = 79) ∨ (cu = 79 ∧ sp = 74)) ∧ M1 0 8 = cu ∧ M1 0 9 = sp ∧ rws M1 cu L1) (ho : M1 0 10 = ow1) (hp : M1 0 11 = pl1) : cI S n M1 tb1 ks L1 ow1 out pl1 a := by
  obtain ⟨h1, ⟨pf, h2⟩, h3, -, h8, h9, h10, h11, h12⟩ := h
  have g : ∀ c j : Int, ¬ c = 0 → ¬ c = 1 → ¬ c = 55 → (c < 74 ∨ 84 ≤ c) → M1 c j = M c j := fun c j n1 n2 n3 n4 => f c j (fun e => n1 e.1) (fun e => n2 e.1) n3 (by omega)
  refine ⟨h1, ⟨pf, h2.fx (fun c j hc => g c j (by omega) (by omega) (by omega) (by omega))⟩, ht, hr, ho, ⟨(g _ _ (by decide) (by decide) (by decide) (by decide)).trans h9.1, fun j hj => (g _ _ (by decide) (by decide) (by decide) (by decide)).trans (h9.2 j hj)⟩, hp, h11.fr (fun c j h => g c j (by omega) (by omega) (by omega) (by omega)), ?_⟩
  obtain ⟨z1, z2, z3, z4, z5, z6, z7⟩ := h12
  exact ⟨(g _ _ (by decide) (by decide) (by decide) (by decide)).trans z1, (g _ _ (by decide) (by decide) (by decide) (by decide)).trans z2, (g _ _ (by decide) (by decide) (by decide) (by decide)).trans z3, (g _ _ (by decide) (by decide) (by decide) (by decide)).trans z4, (g _ _ (by decide) (by decide) (by decide) (by decide)).trans z5, (g _ _ (by decide) (by decide) (by decide) (by decide)).trans z6, (g _ _ (by decide) (by decide) (by decide) (by decide)).trans z7⟩
section OB9
variable {l : Launch} {s0 : State} {a0 : Array Value} {G : va_G} {ca : Nat → ClassId} {d : Nat} {C : Nat × Nat} {S : zS} {M : zM} {Q : Int → zM → Prop} {X : zM → Prop} {tb : List Nat} {ks : kST} {L : List (List Nat)} {ow : Int} {out : List Nat} {pl : Int} {a n : Nat} {A : List Nat × List JR × Nat × SS}
theorem c_loadU (Γ : rt_Γ l s0 a0 G ca) (hd : 202 ≤ d) (hok : zok C) (hI : cI S n M tb ks L ow out pl a) (hD : dOk ks L ow) (htb : tb.length ≤ 4000 ∧ ∀ x ∈ tb, x < 256) {u : Nat} (hA : ks u = some A)
    (kE : ∀ e : Nat × Nat, yAll A.2.2.2.ns tb A.2.2.1 = .error (some e) → ∀ M1 : zM, cI S n M1 tb ks L ow out e.2 a → mfc M M1 → Q (-(e.1 : Int)) M1) (kN : yAll A.2.2.2.ns tb A.2.2.1 = .error none → ∀ M1 : zM, cI S n M1 tb ks L ow out (-1) a → mfc M M1 → Q (-34) M1)
    (kO : ∀ L1 : List (List Nat), yAll A.2.2.2.ns tb A.2.2.1 = .ok L1 → ∀ M1 : zM, cI S n M1 [] ks L1 u out (-1) a → mfc M M1 → Q (L1.length : Nat) M1) : zm_X9_load l s0 G ca d C S u M Q X := by
  obtain ⟨⟨hs, dy⟩, ⟨pf, hP⟩, ht, ⟨cu, sp, hcs, h8, h9, hL⟩, h10, ho, hpl, hfS, -⟩ := id hI
  obtain ⟨hu, gA⟩ := hD.1 u A hA
  obtain ⟨p1, p2, NU, U, p3⟩ := (hP.1 u hu).2 A hA
  have hp0 := p2.2.1
  have kA := gA.k
  obtain ⟨f1, f2, f3, f4, f5, f6, f7, f8⟩ := kA.2.1
  have h55 := dy.2.2.2.1
  have hsp : sp = 74 ∨ sp = 79 := by omega
  have hrw : zRw S sp := by
    rcases hsp with h | h
    · rw [h]; exact (zRw_of hs).1
    · rw [h]; exact (zRw_of hs).2
  have hlT : lTp M tb := ⟨ht.1, by omega, fun j hj => ⟨ht.2 j hj, tb_at htb.2 j⟩⟩
  refine z_X9_load Γ (by omega) hok hs h55 ?_
  unfold zt_X9_load
  rw [p1, h9, w32_id (x := (u : Int)) (by omega) (by omega)]
  refine zIf_f (by omega) (zIf_t (by omega) ⟨⟨by omega, by omega⟩, zIf_f (by omega) ?_⟩)
  -- a fault: the place is noted
  have flt : ∀ (M1 : zM) (x : Int), M1 55 7 = x → vfr sp M M1 → cI S n (zu M1 0 11 x) tb ks L ow out x a ∧ mfc M (zu M1 0 11 x) := fun M1 x hx hv => by
    have fr : ∀ c j : Int, ¬ (c = 0 ∧ 8 ≤ j ∧ j ≤ 11) → ¬ c = 55 → ¬ (sp + 1 ≤ c ∧ c ≤ sp + 4) → zu M1 0 11 x c j = M c j := fun c j n1 n2 n3 => by
      rw [zu_ne (fun e => n1 ⟨e.1, by omega⟩)]
      exact hv c j (fun e => n2 e.1) n3
    have fr0 : ∀ j : Int, j = 8 ∨ j = 9 ∨ j = 10 → zu M1 0 11 x 0 j = M 0 j := fun j hj => by
      rw [zu_k (by omega)]
      exact hv 0 j (by omega) (by omega)
    refine ⟨hI.ld hsp (fun c j n1 _ n3 n4 => fr c j n1 n3 n4) ⟨(fr 1 1 (by decide) (by decide) (by omega)).trans ht.1, fun j hj => (fr 2 j (by omega) (by decide) (by omega)).trans (ht.2 j hj)⟩ ⟨cu, sp, hcs, (fr0 8 (by decide)).trans h8, (fr0 9 (by decide)).trans h9, hL.fr (fun c j c1 c2 => fr c j (by omega) (by omega) (by omega))⟩ ((fr0 10 (by decide)).trans h10) (zu_s _ _ _ _), fun c j h1 h2 => ?_⟩
    exact fr c j (by omega) (by omega) (by omega)
  refine l_rows (p := pf u) (r := sp) (st := A.2.2.2) (root := A.2.2.1) (b := tb) (NU := NU) Γ (by omega) hok ⟨hs, p2.1, hrw, h55, hp0, by omega, by omega⟩ f4 f1 htb.1 hlT p3.1 p3.2.1.1 f8 (fun e he M1 g1 g2 => ?_) (fun he M1 g1 g2 => ?_) (fun L1 he M1 g1 g2 g3 => ?_)
  · refine zd_X4_wrongPlace Γ hok hs h55 ?_
    unfold ztd_X4_wrongPlace
    rw [g1]
    obtain ⟨x1, x2⟩ := flt M1 _ g1 g2
    obtain ⟨e1, e2, e3⟩ := yAll_e he
    exact zIf_f (by rw [w32_id (by omega) (by omega)]; omega) (kE e he _ x1 x2)
  · refine zd_X4_wrongPlace Γ hok hs h55 ?_
    unfold ztd_X4_wrongPlace
    rw [g1]
    obtain ⟨x1, x2⟩ := flt M1 _ g1 g2
    exact zIf_f (by decide) (kN he _ x1 x2)
  · refine zd_X4_wrongPlace Γ hok hs h55 ?_
    unfold ztd_X4_wrongPlace
    rw [g1]
    have hn := yAll_n htb.2 htb.1 (fun s h => f4.dt s h) he
    refine zIf_t (by rw [w32_id (by omega) (by omega)]; omega) ?_
    have e08 : M1 0 8 = cu := (g2 _ _ (by omega) (by omega)).trans h8
    have e09 : M1 0 9 = sp := (g2 _ _ (by omega) (by omega)).trans h9
    rw [e08, e09, zcut0]
    have fr : ∀ c j : Int, ¬ (c = 0 ∧ 8 ≤ j ∧ j ≤ 11) → ¬ (c = 1 ∧ j = 1) → zu (zu (zu (zu (zu M1 0 11 (-1)) 0 8 sp) 0 9 cu) 0 10 (u : Int)) 1 1 0 c j = M1 c j := fun c j n1 n2 => by
      rw [zu_ne n2, zu_ne (fun e => n1 ⟨e.1, by omega⟩), zu_ne (fun e => n1 ⟨e.1, by omega⟩), zu_ne (fun e => n1 ⟨e.1, by omega⟩), zu_ne (fun e => n1 ⟨e.1, by omega⟩)]
    refine kO L1 he _ (hI.ld hsp (fun c j n1 n2 n3 n4 => (fr c j n1 n2).trans (g2 c j (fun e => n3 e.1) n4)) ⟨zu_s _ _ _ _, fun j hj => absurd hj (Nat.not_lt_zero _)⟩ ⟨sp, cu, by omega, ?_, ?_, g3.fr (fun c j c1 c2 => fr c j (by omega) (by omega))⟩ ?_ ?_) (fun c j h1 h2 => ?_)
    · rw [zu_a (by decide), zu_k (by decide), zu_k (by decide), zu_s]
    · rw [zu_a (by decide), zu_k (by decide), zu_s]
    · rw [zu_a (by decide), zu_s]
    · rw [zu_a (by decide), zu_k (by decide), zu_k (by decide), zu_k (by decide), zu_s]
    · rw [fr c j (by omega) (by omega)]
      exact g2 c j (by omega) (by omega)
end OB9
