/-! ===== the reference's look: a part more; alike ===== -/
theorem lastK_app {q : SP} : ∀ {ps : List SP}, lastK (ps ++ [q]) = q.kn := by
  intro ps
  induction ps with
  | nil => rfl
  | cons a r ih =>
    cases r with
    | nil => rfl
    | cons b r => exact ih
/-- a fault is told -/
def rE (t : Int) (M : zM) (X : zM → Prop) (e : Nat × Nat) : Prop := ∀ M1 : zM, eX t M M1 e.1 e.2 → X M1
def rO (t : Int) (xs : List JR) (M : zM) (Q : Int → zM → Prop) (n : Nat) (st1 : SS) : Prop := ∀ M1 : zM, rC M1 t xs st1 → sfr t M M1 → Q n M1
theorem rE.fr {t : Int} {M M1 : zM} {X : zM → Prop} {e : Nat × Nat} (h : rE t M X e) (h1 : sfr t M M1) : rE t M1 X e := fun M2 h2 => h M2 (h1.eX h2)
theorem rO.fr {t : Int} {xs : List JR} {M M1 : zM} {Q : Int → zM → Prop} {n : Nat} {st1 : SS} (h : rO t xs M Q n st1) (h1 : sfr t M M1) : rO t xs M1 Q n st1 := fun M2 h2 h3 => h M2 h2 (h1.tr h3)
/-- schemaOf keeps its promise, m levels from the deepest -/
def rLk (l : Launch) (s0 : State) (G : va_G) (ca : Nat → ClassId) (C : Nat × Nat) (S : zS) (xs : List JR) (t : Int) (m : Nat) : Prop :=
  ∀ (d v : Nat) (br : Bool) (st : SS) (M : zM) (Q : Int → zM → Prop) (X : zM → Prop), 8 * m + 20 ≤ d → v < xs.length → rTx M t xs → rC M t xs st → kOk st → kV st → st.kc + ((xx xs v).sz - 1) ≤ 2100 →
    (∀ e : Nat × Nat, sLook xs m v br st = .error e → rE t M X e) → (∀ (n : Nat) (st1 : SS), sLook xs m v br st = .ok (n, st1) → rO t xs M Q n st1) →
    zm_X10_schemaOf l s0 G ca d C S t (rP xs v : Nat) ((16 - m : Nat) : Int) (bB br) M Q X
section TBs
variable {l : Launch} {s0 : State} {a0 : Array Value} {G : va_G} {ca : Nat → ClassId} {d : Nat} {C : Nat × Nat} {S : zS} {M : zM} {Q : Int → zM → Prop} {X : zM → Prop} {xs : List JR} {v : Nat} {t : Int} {st : SS}
theorem r_nd (hT : rTx M t xs) (hv : v < xs.length) : M (t + 2) (rP xs v : Nat) = ((xx xs v).kd : Int) - 1 ∧ M (t + 3) (rP xs v : Nat) = ((xx xs v).bg : Int) ∧ rP xs v < 4000 ∧ ((xx xs v).kd = 2 → M (t + 5) (rP xs v : Nat) = ((xx xs v).len : Int)) ∧ ((xx xs v).kd = 4 → M (t + 4) (rP xs v : Nat) = (xx xs v).num.toInt) ∧
    (((xx xs v).kd = 1 ∨ (xx xs v).kd = 2) → M (t + 6) (rP xs v : Nat) = if (xx xs v).len = 0 then -1 else ((rWp xs (v + 1) : Nat) : Int)) ∧ M (t + 7) (rP xs v : Nat) = (if (xx xs v).more = true then ((rWp xs (v + (xx xs v).sz) : Nat) : Int) else -1) ∧ 1 ≤ (xx xs v).kd ∧ (xx xs v).kd ≤ 7 ∧ (xx xs v).bg ≤ 2000 := by
  obtain ⟨-, ⟨h1, h2, h3, h4, h5, h6, h7⟩, h8, -, -⟩ := rTx_at hT hv
  obtain ⟨⟨g1, g2⟩, g3, -⟩ := jWf_at hT.2.1 hv
  refine ⟨h1, h2, h8, h5, h3, fun c => ?_, h7, g1, g2, g3⟩
  rw [h6 c, rWp_next hv]
  rfl
/-- an element of a list has no key: its node -/
theorem r_el (h : (xx xs v).kw.isSome = false) : rP xs v = rWp xs v := by
  unfold rP jk
  have : (xx xs v).kw = none := by
    cases hk : (xx xs v).kw with
    | none => rfl
    | some k => rw [hk] at h; exact nomatch h
  rw [this]
  rfl
theorem r_kd (hC : rC M t xs st) {s : Nat} (hs : s < 6 + st.ns.length) : M (t + 9) s = ((nN st.ns s).kd : Int) := by
  by_cases h6 : s < 6
  · unfold nN
    rw [if_pos h6]
    exact (hC.2.1 s h6).1
  · have hg : st.ns[s - 6]? = some st.ns[s - 6] := List.getElem?_eq_getElem (by omega)
    have := (hC.2.2.1 _ _ hg).1
    have e := nN_at hg
    rw [show 6 + (s - 6) = s by omega] at this e
    rw [e]
    exact this
/-- a kid more -/
theorem kdF.rC {M1 M2 : zM} {i : Nat} {n : SN} (hF : kdF M M1 t st.kc ((6 + i : Nat) : Int) n.ps) (hC : rC M t xs st) (hV : kV st) (hi : st.ns[i]? = some n) {nm : List Int32} {nd df : Option Nat} (hkc : st.kc + 1 ≤ 2100)
    (h2 : ∀ a j : Int, ¬ (t + 15 ≤ a ∧ a ≤ t + 17 ∧ j = st.kc) → M2 a j = M1 a j) (hK : rK M2 t xs n.kd (nm, nd, df, st.kc)) : rC M2 t xs (sAdd st (6 + i) nm nd df) ∧ sfr t M M2 := by
  obtain ⟨f1, f2, f3, f4, f5, f6⟩ := hF
  have hb : ¬ n.ps = [] → ∃ k : Nat, lastK n.ps = k := fun h => by
    obtain ⟨q, -, g⟩ := lastK_mem h
    exact ⟨_, g⟩
  refine ⟨rC_add hC hV.1 hi nm nd df hkc hV.2 (fun a j n1 n2 n3 n4 n5 => ?_) ?_ ?_ (fun h => ?_) (fun h => ?_) ?_ hK, fun a ha => funext fun j => ?_, fun j hj => ?_⟩
  · rw [h2 _ _ (fun c => n2 ⟨c.1, by omega, c.2.2⟩)]
    exact f1 a j n1 n2 n3 n4 n5
  · rw [h2 _ _ (by omega)]; exact f2
  · rw [h2 _ _ (by omega)]; exact f3
  · rw [h2 _ _ (by omega)]; exact f4 h
  · rw [h2 _ _ (by omega)]; exact f5 h
  · rw [h2 _ _ (by omega)]; exact f6
  · rw [h2 _ _ (by omega)]
    exact f1 a j (by omega) (by omega) (by omega) (by omega) (by omega)
  · rw [h2 _ _ (by omega)]
    exact f1 t j (by omega) (by omega) (by omega) (by omega) (by omega)
theorem kdF.sfr {M1 : zM} {kc : Nat} {s : Int} {ps : List SP} (hF : kdF M M1 t kc s ps) : sfr t M M1 := ⟨fun a ha => funext fun j => hF.1 a j (by omega) (by omega) (by omega) (by omega) (by omega), fun j hj => hF.1 t j (by omega) (by omega) (by omega) (by omega) (by omega)⟩
theorem r_alk (Γ : rt_Γ l s0 a0 G ca) (hok : zok C) (ht : zTx S t) (hC : rC M t xs st) (hK : kOk st) {o n : Nat} (ho : o < 6 + st.ns.length) (hn : n < 6 + st.ns.length) (hQ : Q (bI (sAlk st.ns o n = true)) M) : zm_X10_alike l s0 G ca d C S t o n M Q X := by
  have hl := hC.2.2.2.2.2.1
  have hl2 := hC.2.2.2.2.1
  refine z_X10_alike Γ hok ht ?_
  unfold zt_X10_alike
  have k1 := nN_kd hK o
  have k2 := nN_kd hK n
  rw [r_kd hC ho, r_kd hC hn, w32_id (x := (o : Int)) (by omega) (by omega), w32_id (x := (n : Int)) (by omega) (by omega), w32_id (x := ((nN st.ns o).kd : Int)) (by omega) (by omega), w32_id (x := ((nN st.ns n).kd : Int)) (by omega) (by omega)]
  unfold bI sAlk at hQ
  have yes : (decide (o = n) || (decide ((nN st.ns n).kd = 6 ∨ (nN st.ns n).kd = 7) && decide ((nN st.ns o).kd = (nN st.ns n).kd))) = true → Q 1 M := fun h => by
    rw [if_pos h] at hQ
    exact hQ
  have no : ¬ (decide (o = n) || (decide ((nN st.ns n).kd = 6 ∨ (nN st.ns n).kd = 7) && decide ((nN st.ns o).kd = (nN st.ns n).kd))) = true → Q 0 M := fun h => by
    rw [if_neg h] at hQ
    exact hQ
  refine ⟨fun c => yes (by rw [decide_eq_true (Int.ofNat.inj c)]; rfl), fun c => ⟨⟨by omega, by omega⟩, ⟨by omega, by omega⟩, fun c1 => ⟨fun c2 => yes ?_, fun c2 => ⟨fun c3 => yes ?_, fun c3 => no ?_⟩⟩, fun c1 => no ?_⟩⟩
  · rw [decide_eq_true (show (nN st.ns n).kd = 6 ∨ (nN st.ns n).kd = 7 by omega), decide_eq_true (show (nN st.ns o).kd = (nN st.ns n).kd by omega), Bool.and_self, Bool.or_true]
  · rw [decide_eq_true (show (nN st.ns n).kd = 6 ∨ (nN st.ns n).kd = 7 by omega), decide_eq_true (show (nN st.ns o).kd = (nN st.ns n).kd by omega), Bool.and_self, Bool.or_true]
  · rw [decide_eq_false (fun e => c (by rw [e])), decide_eq_false (show ¬ ((nN st.ns n).kd = 6 ∨ (nN st.ns n).kd = 7) by omega)]
    exact fun h => nomatch h
  · rw [decide_eq_false (fun e => c (by rw [e])), decide_eq_false (show ¬ (nN st.ns o).kd = (nN st.ns n).kd by omega), Bool.and_false]
    exact fun h => nomatch h
/-- no branch of the union is alike -/
theorem r_alkL (Γ : rt_Γ l s0 a0 G ca) (hd : 3 ≤ d) (hok : zok C) (ht : zTx S t) (hT : rTx M t xs) (hv : v < xs.length) (hC : rC M t xs st) (hK : kOk st) {nd : Nat} (hnd : nd < 6 + st.ns.length) {w0 : rt_Wd} {v2 v4 v5 : Int} : ∀ (ps : List SP) (h : Int), rCh M t xs 8 ps h → (∀ q ∈ ps, ∃ o : Nat, q.nd = some o ∧ o < 6 + st.ns.length) →
    (ps.any (fun q => match q.nd with | none => false | some o => sAlk st.ns o nd) = true → rE t M X (6, (xx xs v).bg)) →
    (ps.any (fun q => match q.nd with | none => false | some o => sAlk st.ns o nd) = false → zg_X10_union_101 l s0 G ca d C S w0 t v2 v4 v5 (rP xs v : Nat) nd (-1) M Q X) →
    zg_X10_union_101 l s0 G ca d C S w0 t v2 v4 v5 (rP xs v : Nat) nd h M Q X := by
  obtain ⟨-, n2, n3, -⟩ := r_nd hT hv
  have hb := (jWf_at hT.2.1 hv).2.1
  intro ps
  induction ps with
  | nil =>
    intro h hc _ _ hQ
    have e : h = -1 := hc
    rw [e]
    exact hQ rfl
  | cons q r ih =>
    intro h hc hall hE hQ
    obtain ⟨rfl, h2, h3, h4⟩ := hc
    obtain ⟨o, g1, g2⟩ := hall q List.mem_cons_self
    have e : (q :: r).any (fun q => match q.nd with | none => false | some o => sAlk st.ns o nd) = (sAlk st.ns o nd || r.any (fun q => match q.nd with | none => false | some o => sAlk st.ns o nd)) := by
      rw [List.any_cons, g1]
    rw [e] at hE hQ
    refine zs_X10_union_101 Γ (by omega) hok ht ?_
    unfold zt_X10_union_101 zt_X10_union_128
    rw [w32_id (x := (q.kn : Int)) (by omega) (by omega), h3.1 o g1]
    refine ⟨fun c => by omega, fun _ => ⟨⟨by omega, by omega⟩, r_alk Γ hok ht hC hK g2 hnd ⟨fun c => ?_, fun c => ?_⟩⟩⟩
    · have hno : sAlk st.ns o nd = false := by
        cases hs : sAlk st.ns o nd with
        | true => rw [hs] at c; exact absurd c (by decide)
        | false => rfl
      rw [hno, Bool.false_or] at hE hQ
      exact ⟨⟨by omega, by omega⟩, r_need Γ (by omega) hok ht (fun c1 => absurd c1 (by decide)) (fun _ => ⟨⟨by omega, by omega⟩, ih _ h4 (fun q hq => hall q (List.mem_cons_of_mem _ hq)) hE hQ⟩)⟩
    · have hyes : sAlk st.ns o nd = true := by
        cases hs : sAlk st.ns o nd with
        | true => rfl
        | false => rw [hs] at c; exact absurd (show w32 (bI (false = true)) = 0 by decide) c
      rw [hyes, Bool.true_or] at hE
      exact ⟨⟨by omega, by omega⟩, r_need Γ (by omega) hok ht (fun _ M1 f1 => hE rfl M1 (by rw [n2] at f1; exact f1)) (fun c1 => absurd (by decide) c1)⟩
end TBs
