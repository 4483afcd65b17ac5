/-! ===== the values of a text hang together ===== -/
/-- c siblings, over n entries of the list; with keys or without -/
def kidsL : Nat → List JR → Nat → Bool → Prop
  | 0, _, n, _ => n = 0
  | c + 1, l, n, o => ∃ (y : JR) (r : List JR), l = y :: r ∧ 1 ≤ y.sz ∧ y.sz ≤ n ∧ y.more = decide (0 < c) ∧ y.kw.isSome = o ∧ kidsL c (l.drop y.sz) (n - y.sz) o
def jWf : List JR → Prop
  | [] => True
  | x :: xs => (1 ≤ x.kd ∧ x.kd ≤ 7) ∧ x.bg ≤ 2000 ∧ 1 ≤ x.sz ∧ x.sz ≤ xs.length + 1 ∧ x.len ≤ xs.length ∧ ((x.kd = 1 ∨ x.kd = 2) → kidsL x.len xs (x.sz - 1) (decide (x.kd = 1))) ∧ (¬ (x.kd = 1 ∨ x.kd = 2) → x.len = 0 ∧ x.sz = 1) ∧ jWf xs
theorem kidsL.app {ys : List JR} {o : Bool} : ∀ {c : Nat} {l : List JR} {n : Nat}, kidsL c l n o → n ≤ l.length → kidsL c (l ++ ys) n o := by
  intro c
  induction c with
  | zero => intro l n h _; exact h
  | succ c ih =>
    intro l n h hn
    obtain ⟨y, r, rfl, h1, h2, h3, h4, h5⟩ := h
    refine ⟨y, r ++ ys, rfl, h1, h2, h3, h4, ?_⟩
    have := ih h5 (by rw [List.length_drop]; omega)
    rw [List.drop_append_of_le_length (by omega)]
    exact this
theorem jWf.app {ys : List JR} (hy : jWf ys) : ∀ {xs : List JR}, jWf xs → jWf (xs ++ ys) := by
  intro xs
  induction xs with
  | nil => intro _; exact hy
  | cons x xs ih =>
    intro h
    obtain ⟨h1, h2, h3, h4, h5, h6, h7, h8⟩ := h
    refine ⟨h1, h2, h3, ?_, ?_, fun c => (h6 c).app (by omega), h7, ih h8⟩
    · show x.sz ≤ (xs ++ ys).length + 1; rw [List.length_append]; omega
    · show x.len ≤ (xs ++ ys).length; rw [List.length_append]; omega
theorem jWf.hd {kw : Option (List Int32)} {more : Bool} {xs : List JR} (h : jWf xs) : jWf (jHd kw more xs) := by
  cases xs with
  | nil => exact h
  | cons x xs => exact h
theorem kidsL_le {o : Bool} : ∀ {c : Nat} {l : List JR} {n : Nat}, kidsL c l n o → c ≤ n := by
  intro c
  induction c with
  | zero => intro l n _; omega
  | succ c ih =>
    intro l n h
    obtain ⟨y, r, -, h1, h2, -, -, h5⟩ := h
    have := ih h5
    omega
theorem jGo_wf {g : Nat → Int32} {N : Nat} (hT : jT g N) : ∀ (m : Nat) (md : Option (Bool × List (List Int32))) (dp p c q : Nat) (xs : List JR), p ≤ N → jGo g m md dp p = .ok (xs, c, q) → jWf xs ∧ ∀ o ks, md = some (o, ks) → kidsL c xs xs.length o := by
  have hN := hT.1
  intro m
  induction m with
  | zero => exact fun md dp p c q xs hp h => by cases md <;> exact nomatch h
  | succ m ih =>
    intro md dp p c q xs hp h
    cases md with
    | none =>
      refine ⟨?_, fun o ks e => nomatch e⟩
      have leaf : ∀ (kd : Nat) (num : Int64) (ws : List Int32), 1 ≤ kd → kd ≤ 7 → jWf [(kd, p, num, ws, none, 0, 1, false)] := fun kd num ws k1 k2 => by
        refine ⟨⟨k1, k2⟩, ?_, ?_, ?_, ?_, fun _ => ?_, fun _ => ⟨rfl, rfl⟩, trivial⟩
        · show p ≤ 2000; omega
        · show 1 ≤ 1; omega
        · show 1 ≤ 0 + 1; omega
        · show 0 ≤ 0; omega
        · show (1 : Nat) - 1 = 0; rfl
      unfold jGo at h
      by_cases h1 : g p = 123 ∨ g p = 91
      · rw [if_pos h1] at h
        by_cases h2 : 24 ≤ dp
        · rw [if_pos h2] at h; exact nomatch h
        · rw [if_neg h2] at h
          have hkd : 1 ≤ jKd (decide (g p = 123)) ∧ jKd (decide (g p = 123)) ≤ 7 := by unfold jKd; split <;> omega
          by_cases h3 : g (jSk g 4096 (p + 1)) = jCl (decide (g p = 123))
          · rw [if_pos h3] at h
            cases h
            exact leaf _ _ _ hkd.1 hkd.2
          · rw [if_neg h3] at h
            have hlt := hT.lt (p := p) (by rcases h1 with e | e <;> rw [e] <;> decide)
            have hs := jSk_le hT 4096 (p + 1) (by omega)
            cases hi : jGo g m (some (decide (g p = 123), [])) dp (jSk g 4096 (p + 1)) with
            | error e => rw [hi] at h; exact nomatch h
            | ok r =>
              obtain ⟨ys, c9, q9⟩ := r
              rw [hi] at h
              cases h
              obtain ⟨w1, w2⟩ := ih _ _ _ _ _ _ hs hi
              have w3 := w2 _ _ rfl
              have hle := kidsL_le w3
              refine ⟨hkd, ?_, ?_, ?_, hle, fun _ => ?_, fun c9 => ?_, w1⟩
              · show p ≤ 2000; omega
              · show 1 ≤ ys.length + 1; omega
              · show ys.length + 1 ≤ ys.length + 1; omega
              · show kidsL c9 ys (ys.length + 1 - 1) (decide (jKd (decide (g p = 123)) = 1))
                have : decide (jKd (decide (g p = 123)) = 1) = decide (g p = 123) := by unfold jKd; by_cases e : g p = 123 <;> simp [e]
                rw [this]
                exact w3
              · exact absurd (show jKd (decide (g p = 123)) = 1 ∨ jKd (decide (g p = 123)) = 2 from by unfold jKd; split <;> omega) c9
      · rw [if_neg h1] at h
        by_cases h2 : g p = 34
        · rw [if_pos h2] at h
          cases hs : jStr g 4097 (p + 1) with
          | error e => rw [hs] at h; exact nomatch h
          | ok r => obtain ⟨ws, q9⟩ := r; rw [hs] at h; cases h; exact leaf 3 _ _ (by omega) (by omega)
        · rw [if_neg h2] at h
          have lf : ∀ (kd : Nat) (r : Except Nat Nat), 1 ≤ kd → kd ≤ 7 → jLeaf kd p r = .ok (xs, c, q) → jWf xs := fun kd r k1 k2 hr => by
            cases r with
            | error e => exact nomatch hr
            | ok q9 => cases hr; exact leaf kd _ _ k1 k2
          by_cases h3 : g p = 116
          · rw [if_pos h3] at h; exact lf _ _ (by omega) (by omega) h
          · rw [if_neg h3] at h
            by_cases h4 : g p = 102
            · rw [if_pos h4] at h; exact lf _ _ (by omega) (by omega) h
            · rw [if_neg h4] at h
              by_cases h5 : g p = 110
              · rw [if_pos h5] at h; exact lf _ _ (by omega) (by omega) h
              · rw [if_neg h5] at h
                cases hn : jNum g p with
                | error e => rw [hn] at h; exact nomatch h
                | ok r => obtain ⟨q9, x9⟩ := r; rw [hn] at h; cases h; exact leaf 4 _ _ (by omega) (by omega)
    | some om =>
      obtain ⟨o, ks⟩ := om
      unfold jGo at h
      cases hk : jKey g o ks p with
      | error e => rw [hk] at h; exact nomatch h
      | ok r =>
        obtain ⟨kw, p1⟩ := r
        rw [hk] at h
        dsimp only at h
        have hkk := jKey_ok hT hp hk
        have hks : kw.isSome = o := by
          unfold jKey at hk
          cases o with
          | false => rw [if_neg (by decide)] at hk; cases hk; rfl
          | true =>
            rw [if_pos rfl] at hk
            by_cases k1 : g p = 34
            · rw [if_pos k1] at hk
              cases ks9 : jStr g 4097 (p + 1) with
              | error e => rw [ks9] at hk; exact nomatch hk
              | ok r =>
                obtain ⟨ws, q9⟩ := r
                rw [ks9] at hk
                dsimp only at hk
                by_cases k2 : ws ∈ ks
                · rw [if_pos k2] at hk; exact nomatch hk
                · rw [if_neg k2] at hk
                  by_cases k3 : g (jSk g 4096 q9) = 58
                  · rw [if_pos k3] at hk; cases hk; rfl
                  · rw [if_neg k3] at hk; exact nomatch hk
            · rw [if_neg k1] at hk; exact nomatch hk
        cases hv : jGo g m none (dp + 1) p1 with
        | error e => rw [hv] at h; exact nomatch h
        | ok r =>
          obtain ⟨xs1, c1, p2⟩ := r
          rw [hv] at h
          dsimp only at h
          have hbo := jGo_ok hT _ _ _ _ _ _ _ hkk.2 hv
          obtain ⟨⟨x, rest, hx, hsz, hxk, hxm⟩, -⟩ := hbo.2.2.2.2.2 rfl
          have w1 := (ih _ _ _ _ _ _ hkk.2 hv).1
          have hhd : ∀ more : Bool, jHd kw more xs1 = (x.kd, x.bg, x.num, x.ws, kw, x.len, x.sz, more) :: rest := fun more => by rw [hx]; rfl
          have hlen : xs1.length = rest.length + 1 := by rw [hx]; rfl
          by_cases h4 : g (jSk g 4096 p2) = 44
          · rw [if_pos h4] at h
            have hlt := hT.lt (p := jSk g 4096 p2) (by rw [h4]; decide)
            have hs := jSk_le hT 4096 (jSk g 4096 p2 + 1) (by omega)
            cases hi : jGo g m (some (o, ks ++ kw.toList)) dp (jSk g 4096 (jSk g 4096 p2 + 1)) with
            | error e => rw [hi] at h; exact nomatch h
            | ok r =>
              obtain ⟨ys, c2, q2⟩ := r
              rw [hi] at h
              cases h
              obtain ⟨v1, v2⟩ := ih _ _ _ _ _ _ hs hi
              have v3 := v2 _ _ rfl
              have hbo2 := jGo_ok hT _ _ _ _ _ _ _ hs hi
              refine ⟨jWf.app v1 w1.hd, fun o9 ks9 e9 => ?_⟩
              cases e9
              rw [hhd]
              refine ⟨_, rest ++ ys, rfl, ?_, ?_, ?_, hks, ?_⟩
              · show 1 ≤ x.sz; omega
              · show x.sz ≤ (((x.kd, x.bg, x.num, x.ws, kw, x.len, x.sz, true) : JR) :: (rest ++ ys)).length; rw [List.length_cons, List.length_append]; omega
              · show true = decide (0 < c2); exact (decide_eq_true (by omega)).symm
              · have e1 : ((((x.kd, x.bg, x.num, x.ws, kw, x.len, x.sz, true) : JR) :: rest) ++ ys).drop x.sz = ys := by
                  rw [hsz, hlen]
                  exact List.drop_left' rfl
                have e2 : ((((x.kd, x.bg, x.num, x.ws, kw, x.len, x.sz, true) : JR) :: rest) ++ ys).length - x.sz = ys.length := by rw [List.length_append, List.length_cons, hsz, hlen]; omega
                show kidsL c2 (((((x.kd, x.bg, x.num, x.ws, kw, x.len, x.sz, true) : JR) :: rest) ++ ys).drop x.sz) (((((x.kd, x.bg, x.num, x.ws, kw, x.len, x.sz, true) : JR) :: rest) ++ ys).length - x.sz) o
                rw [e1, e2]
                exact v3
          · rw [if_neg h4] at h
            by_cases h5 : g (jSk g 4096 p2) = jCl o
            · rw [if_pos h5] at h
              cases h
              refine ⟨w1.hd, fun o9 ks9 e9 => ?_⟩
              cases e9
              rw [hhd]
              refine ⟨_, rest, rfl, ?_, ?_, rfl, hks, ?_⟩
              · show 1 ≤ x.sz; omega
              · show x.sz ≤ rest.length + 1; omega
              · show rest.length + 1 - x.sz = 0; omega
            · rw [if_neg h5] at h; exact nomatch h
