/-! ===== the normal form of a datum ===== -/
/-- bytes with their number before them -/
def yNs (w : List Nat) : Prop := ∃ s : List Nat, w = vB s.length ++ s ∧ s.length ≤ 4000 ∧ ∀ x ∈ s, x < 256
def yNk (mp : Bool) (w : List Nat) : Prop := if mp = true then yNs w else w = []
def yNi (f : List Nat → Prop) (mp : Bool) : Nat → List Nat → Prop
  | 0, w => w = []
  | c + 1, w => ∃ k i r : List Nat, w = k ++ (i ++ r) ∧ yNk mp k ∧ f i ∧ yNi f mp c r
def yNf (f : Nat → List Nat → Prop) : List SP → List Nat → Prop
  | [], w => w = []
  | q :: l, w => ∃ i r : List Nat, w = i ++ r ∧ f (sPn (some q)) i ∧ yNf f l r
def yNb (f : Nat → List Nat → Prop) (ns : List SN) (s : Nat) (w : List Nat) : Prop :=
  if (nN ns s).kd = 0 then w = []
  else if (nN ns s).kd = 1 then ∃ x : Nat, w = [x] ∧ x ≤ 1
  else if (nN ns s).kd = 2 ∨ (nN ns s).kd = 3 then ∃ n : Int, w = vB n ∧ -9223372036854775808 ≤ n ∧ n < 9223372036854775808
  else if (nN ns s).kd = 4 ∨ (nN ns s).kd = 5 then yNs w
  else if (nN ns s).kd = 9 then (w.length : Int) = (nN ns s).dt ∧ ∀ x ∈ w, x < 256
  else if (nN ns s).kd = 10 then ∃ n : Nat, w = vB n ∧ n < (nN ns s).ps.length
  else if (nN ns s).kd = 8 then ∃ (n : Nat) (r : List Nat), w = vB n ++ r ∧ n < (nN ns s).ps.length ∧ f (sPn ((nN ns s).ps[n]?)) r
  else if (nN ns s).kd = 11 then yNf f (nN ns s).ps w
  else ∃ (c : Nat) (r : List Nat), w = yHd c r ∧ c ≤ 2000 ∧ yNi (f (sKid0 ns s)) (decide ((nN ns s).kd = 7)) c r
/-- w is a normal datum of the node s, not more than m deep -/
def yN (ns : List SN) : Nat → Nat → List Nat → Prop
  | 0, _, _ => False
  | m + 1, s, w => yNb (yN ns m) ns s w
theorem yNi.app {f : List Nat → Prop} {mp : Bool} : ∀ {c : Nat} {w : List Nat}, yNi f mp c w → ∀ {c2 : Nat} {w2 : List Nat}, yNi f mp c2 w2 → yNi f mp (c + c2) (w ++ w2) := by
  intro c
  induction c with
  | zero =>
    intro w h c2 w2 h2
    have : w = [] := h
    subst this
    rw [Nat.zero_add, List.nil_append]
    exact h2
  | succ c ih =>
    intro w h c2 w2 h2
    obtain ⟨k, i, r, rfl, hk, hi, hr⟩ := h
    rw [show c + 1 + c2 = (c + c2) + 1 by omega]
    exact ⟨k, i, r ++ w2, by rw [List.append_assoc, List.append_assoc], hk, hi, ih hr h2⟩
theorem yStr_n {b : List Nat} (hb : ∀ x ∈ b, x < 256) (hN : b.length ≤ 4000) {p q : Nat} {w : List Nat} (h : yStr b p = .ok (w, q)) : yNs w := by
  obtain ⟨n, m, h1, h2, h3, h4, h5⟩ := yStr_ok h
  have hl : ((b.drop m).take n).length = n := by rw [List.length_take, List.length_drop]; omega
  refine ⟨(b.drop m).take n, by rw [hl]; exact h4, by omega, fun x hx => hb x (List.mem_of_mem_drop (List.mem_of_mem_take hx))⟩
theorem yKey_n {b : List Nat} (hb : ∀ x ∈ b, x < 256) (hN : b.length ≤ 4000) {mp : Bool} {p q : Nat} {w : List Nat} (h : yKey b mp p = .ok (w, q)) : yNk mp w := by
  unfold yKey at h
  unfold yNk
  by_cases c : mp = true
  · rw [if_pos c] at h ⊢
    exact yStr_n hb hN h
  · rw [if_neg c] at h ⊢
    injection h with h
    injection h with h1 h2
    exact h1.symm
theorem yIts_n {f : ySt → yR} {F : List Nat → Prop} {b : List Nat} (hb : ∀ x ∈ b, x < 256) (hN : b.length ≤ 4000) {mp : Bool} (hf : ∀ s, yA b s → yG b s (f s)) (hF : ∀ s w s2, yA b s → f s = .ok (w, s2) → F w) : ∀ (c : Nat) (s : ySt) (w : List Nat) (s2 : ySt), yA b s → yIts f b mp c s = .ok (w, s2) → yNi F mp c w := by
  intro c
  induction c with
  | zero =>
    intro s w s2 _ h
    unfold yIts at h
    injection h with h
    injection h with h1 h2
    exact h1.symm
  | succ c ih =>
    intro s w s2 hA h
    unfold yIts at h
    cases hk : yKey b mp s.1 with
    | error e => rw [hk] at h; exact nomatch h
    | ok r =>
      obtain ⟨w1, q⟩ := r
      rw [hk] at h
      dsimp only at h
      have a1 := ((@yKey_g b mp s hA).2 w1 q hk).1
      cases hk2 : f (q, s.2) with
      | error e => rw [hk2] at h; exact nomatch h
      | ok r2 =>
        obtain ⟨w2, s3⟩ := r2
        rw [hk2] at h
        dsimp only at h
        have b1 := ((hf _ a1).2 w2 s3 hk2).1
        cases hk3 : yIts f b mp c s3 with
        | error e => rw [hk3] at h; exact nomatch h
        | ok r3 =>
          obtain ⟨w3, s4⟩ := r3
          rw [hk3] at h
          injection h with h
          injection h with h1 h2
          exact ⟨w1, w2, w3, h1.symm, yKey_n hb hN hk, hF _ _ _ a1 hk2, ih s3 w3 s4 b1 hk3⟩
theorem yFld_n {f : Nat → ySt → yR} {F : Nat → List Nat → Prop} {b : List Nat} (hf : ∀ n s, yA b s → yG b s (f n s)) (hF : ∀ n s w s2, yA b s → f n s = .ok (w, s2) → F n w) : ∀ (l : List SP) (s : ySt) (w : List Nat) (s2 : ySt), yA b s → yFld f l s = .ok (w, s2) → yNf F l w := by
  intro l
  induction l with
  | nil =>
    intro s w s2 _ h
    unfold yFld at h
    injection h with h
    injection h with h1 h2
    exact h1.symm
  | cons q l ih =>
    intro s w s2 hA h
    unfold yFld at h
    cases hk2 : f (sPn (some q)) s with
    | error e => rw [hk2] at h; exact nomatch h
    | ok r2 =>
      obtain ⟨w2, s3⟩ := r2
      rw [hk2] at h
      dsimp only at h
      have b1 := ((hf _ s hA).2 w2 s3 hk2).1
      cases hk3 : yFld f l s3 with
      | error e => rw [hk3] at h; exact nomatch h
      | ok r3 =>
        obtain ⟨w3, s4⟩ := r3
        rw [hk3] at h
        injection h with h
        injection h with h1 h2
        exact ⟨w2, w3, h1.symm, hF _ _ _ _ hA hk2, ih s3 w3 s4 b1 hk3⟩
theorem yMea_n {g : ySt → yR} {F : List Nat → Prop} {b : List Nat} (hg : ∀ s w s2, yA b s → g s = .ok (w, s2) → F w) {s s2 : ySt} {w : List Nat} (hA : yA b s) (h : yMea g b s = .ok (w, s2)) : F w := by
  unfold yMea at h
  cases hv : yVar b s.1 with
  | error e => rw [hv] at h; exact nomatch h
  | ok r =>
    obtain ⟨t, q⟩ := r
    rw [hv] at h
    dsimp only at h
    have v2 := (yVar_ok hv).2.1
    cases hk : g (q, s.2) with
    | error e => rw [hk] at h; exact nomatch h
    | ok r2 =>
      obtain ⟨w2, s3⟩ := r2
      rw [hk] at h
      dsimp only at h
      split at h
      · injection h with h
        injection h with h1 h2
        rw [← h1]
        exact hg (q, s.2) _ _ ⟨v2, hA.2⟩ hk
      · exact nomatch h
theorem yBlk_n {g : Nat → ySt → yR} {F : List Nat → Prop} {mp : Bool} {b : List Nat} (hgg : ∀ c s, yA b s → yG b s (g c s)) (hg : ∀ c s w s2, yA b s → g c s = .ok (w, s2) → yNi F mp c w) : ∀ (T c : Nat) (s : ySt) (w : List Nat) (c2 : Nat) (s2 : ySt), yA b s → c ≤ s.2.2 → yBlk g b T c s = .ok (w, c2, s2) → ∃ k : Nat, c2 = c + k ∧ yNi F mp k w := by
  intro T
  induction T with
  | zero => intro c s w c2 s2 _ _ h; exact nomatch h
  | succ T ih =>
    intro c s w c2 s2 hA hc h
    unfold yBlk at h
    cases hv : yVar b s.1 with
    | error e => rw [hv] at h; exact nomatch h
    | ok r =>
      obtain ⟨n, q⟩ := r
      obtain ⟨v1, v2, v3, -, -⟩ := yVar_ok hv
      rw [hv] at h
      dsimp only at h
      by_cases c1 : 2000 - (s.2.2 : Int) < n ∨ n < (s.2.2 : Int) - 2000
      · rw [if_pos c1] at h; exact nomatch h
      rw [if_neg c1] at h
      by_cases c0 : n = 0
      · rw [if_pos c0] at h
        injection h with h
        injection h with h1 h2
        injection h2 with h2 h3
        exact ⟨0, by omega, h1.symm⟩
      rw [if_neg c0] at h
      have hA1 : yA b (q, s.2.1, s.2.2 + n.natAbs) := ⟨v2, hA.2.1, by show s.2.2 + n.natAbs ≤ 2000; have := hA.2.2; omega⟩
      have key : ∀ r1 : yR, (∀ w3 s3, r1 = .ok (w3, s3) → yA b s3 ∧ s.2.2 + n.natAbs ≤ s3.2.2 ∧ yNi F mp n.natAbs w3) → yGo r1 (fun s2 => yBlk g b T (c + n.natAbs) s2) = .ok (w, c2, s2) → ∃ k : Nat, c2 = c + k ∧ yNi F mp k w := fun r1 hr hh => by
        cases r1 with
        | error e => exact nomatch hh
        | ok r2 =>
          obtain ⟨w3, s3⟩ := r2
          obtain ⟨b1, b2, b3⟩ := hr w3 s3 rfl
          unfold yGo at hh
          dsimp only at hh
          cases hk : yBlk g b T (c + n.natAbs) s3 with
          | error e => rw [hk] at hh; exact nomatch hh
          | ok r4 =>
            obtain ⟨w4, c4, s4⟩ := r4
            rw [hk] at hh
            injection hh with hh
            injection hh with h1 h2
            injection h2 with h2 h3
            obtain ⟨k, e1, e2⟩ := ih _ _ _ _ _ b1 (by omega) hk
            exact ⟨n.natAbs + k, by omega, by rw [← h1]; exact b3.app e2⟩
      refine key _ (fun w3 s3 h3 => ?_) h
      by_cases cp : 0 < n
      · rw [if_pos cp] at h3
        obtain ⟨b1, b2, b4⟩ := (hgg _ _ hA1).2 w3 s3 h3
        exact ⟨b1, b4, hg _ _ _ _ hA1 h3⟩
      · rw [if_neg cp] at h3
        obtain ⟨b1, b2, b4⟩ := (yMea_g (hgg n.natAbs) hA1).2 w3 s3 h3
        exact ⟨b1, b4, yMea_n (F := yNi F mp n.natAbs) (fun s w s2 => hg _ s w s2) hA1 h3⟩
theorem yLook_n {ns : List SN} {b : List Nat} (hb : ∀ x ∈ b, x < 256) (hN : b.length ≤ 4000) (hdt : ∀ s, (nN ns s).kd = 9 → 0 ≤ (nN ns s).dt) : ∀ (m s : Nat) (st : ySt) (w : List Nat) (s2 : ySt), yA b st → yLook ns b m s st = .ok (w, s2) → yN ns m s w := by
  intro m
  induction m with
  | zero => intro s st w s2 _ h; exact nomatch h
  | succ m ih =>
    intro s st w s2 hA h
    unfold yLook at h
    by_cases c8 : 4000 ≤ st.2.1
    · rw [if_pos c8] at h; exact nomatch h
    rw [if_neg c8] at h
    have hAz : yA b (st.1, st.2.1 + 1, st.2.2) := ⟨hA.1, by show st.2.1 + 1 ≤ 4000; omega, hA.2.2⟩
    generalize (st.1, st.2.1 + 1, st.2.2) = z at h hAz
    show yNb (yN ns m) ns s w
    unfold yBody at h
    unfold yNb
    by_cases k0 : (nN ns s).kd = 0
    · rw [if_pos k0] at h ⊢
      injection h with h
      injection h with h1 h2
      exact h1.symm
    rw [if_neg k0] at h ⊢
    by_cases k1 : (nN ns s).kd = 1
    · rw [if_pos k1] at h ⊢
      split at h
      · exact nomatch h
      · split at h
        · exact nomatch h
        · injection h with h
          injection h with h1 h2
          exact ⟨_, h1.symm, by omega⟩
    rw [if_neg k1] at h ⊢
    by_cases k2 : (nN ns s).kd = 2 ∨ (nN ns s).kd = 3
    · rw [if_pos k2] at h ⊢
      cases hv : yVar b z.1 with
      | error e => rw [hv] at h; exact nomatch h
      | ok r =>
        obtain ⟨n, q⟩ := r
        obtain ⟨-, -, -, v4, v5⟩ := yVar_ok hv
        rw [hv] at h
        dsimp only at h
        split at h
        · exact nomatch h
        · injection h with h
          injection h with h1 h2
          exact ⟨n, h1.symm, v4, v5⟩
    rw [if_neg k2] at h ⊢
    by_cases k4 : (nN ns s).kd = 4 ∨ (nN ns s).kd = 5
    · rw [if_pos k4] at h ⊢
      cases hv : yStr b z.1 with
      | error e => rw [hv] at h; exact nomatch h
      | ok r =>
        obtain ⟨w2, q⟩ := r
        rw [hv] at h
        injection h with h
        injection h with h1 h2
        rw [← h1]
        exact yStr_n hb hN hv
    rw [if_neg k4] at h ⊢
    by_cases k9 : (nN ns s).kd = 9
    · rw [if_pos k9] at h ⊢
      have h0 := hdt s k9
      split at h
      · exact nomatch h
      · injection h with h
        injection h with h1 h2
        have hz := hAz.1
        refine ⟨?_, fun x hx => ?_⟩
        · rw [← h1, List.length_take, List.length_drop]
          omega
        · rw [← h1] at hx
          exact hb x (List.mem_of_mem_drop (List.mem_of_mem_take hx))
    rw [if_neg k9] at h ⊢
    by_cases k10 : (nN ns s).kd = 10
    · rw [if_pos k10] at h ⊢
      cases hv : yCho b (nN ns s).ps.length 5 z.1 with
      | error e => rw [hv] at h; exact nomatch h
      | ok r =>
        obtain ⟨n, q⟩ := r
        have v := (@yCho_g b (nN ns s).ps.length 5 z.1 hAz.1 (by decide) (by decide)).2 n q hv
        rw [hv] at h
        injection h with h
        injection h with h1 h2
        exact ⟨n, h1.symm, v.2.2⟩
    rw [if_neg k10] at h ⊢
    by_cases k8 : (nN ns s).kd = 8
    · rw [if_pos k8] at h ⊢
      cases hv : yCho b (nN ns s).ps.length 4 z.1 with
      | error e => rw [hv] at h; exact nomatch h
      | ok r =>
        obtain ⟨n, q⟩ := r
        have v := (@yCho_g b (nN ns s).ps.length 4 z.1 hAz.1 (by decide) (by decide)).2 n q hv
        rw [hv] at h
        dsimp only at h
        cases hk : yLook ns b m (sPn ((nN ns s).ps[n]?)) (q, z.2) with
        | error e => rw [hk] at h; exact nomatch h
        | ok r2 =>
          obtain ⟨w2, s3⟩ := r2
          rw [hk] at h
          injection h with h
          injection h with h1 h2
          exact ⟨n, w2, h1.symm, v.2.2, ih _ (q, z.2) _ _ ⟨v.1, hAz.2⟩ hk⟩
    rw [if_neg k8] at h ⊢
    by_cases k11 : (nN ns s).kd = 11
    · rw [if_pos k11] at h ⊢
      exact yFld_n (fun n s hs => yLook_g m n s hs) (fun n s w s2 hs hh => ih n s w s2 hs hh) _ _ _ _ hAz h
    rw [if_neg k11] at h ⊢
    cases hk : yBlk (yIts (yLook ns b m (sKid0 ns s)) b (decide ((nN ns s).kd = 7))) b (b.length + 1) 0 z with
    | error e => rw [hk] at h; exact nomatch h
    | ok r =>
      obtain ⟨w2, c, s3⟩ := r
      have hgg : ∀ (c : Nat) (s1 : ySt), yA b s1 → yG b s1 (yIts (yLook ns b m (sKid0 ns s)) b (decide ((nN ns s).kd = 7)) c s1) := fun c s1 h => yIts_g (fun s2 h2 => yLook_g m (sKid0 ns s) s2 h2) c s1 h
      obtain ⟨g1, g2, g3, g4, g5, g6, g7⟩ := (yBlk_g hgg (b.length + 1) 0 z hAz (Nat.zero_le _)).2 w2 c s3 hk
      obtain ⟨k, e1, e2⟩ := yBlk_n (F := yN ns m (sKid0 ns s)) hgg (fun c s w s2 hs hh => yIts_n hb hN (fun s2 h2 => yLook_g m _ s2 h2) (fun s w s2 hs hh => ih _ s w s2 hs hh) c s w s2 hs hh) _ _ _ _ _ _ hAz (Nat.zero_le _) hk
      rw [hk] at h
      injection h with h
      injection h with h1 h2
      refine ⟨c, w2, h1.symm, by have := g1.2.2; omega, ?_⟩
      rw [e1, Nat.zero_add]
      exact e2
