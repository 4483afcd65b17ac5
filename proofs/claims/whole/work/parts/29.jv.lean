/-! ===== the values that a text's bytes say, one behind the other ===== -/
/-- a value: its kind, where it begins, its number, its letters, its key, how many parts, how many values in all, whether a sibling comes behind -/
abbrev JR : Type := Nat × Nat × Int64 × List Int32 × Option (List Int32) × Nat × Nat × Bool
abbrev JR.kd (x : JR) : Nat := x.1
abbrev JR.bg (x : JR) : Nat := x.2.1
abbrev JR.num (x : JR) : Int64 := x.2.2.1
abbrev JR.ws (x : JR) : List Int32 := x.2.2.2.1
abbrev JR.kw (x : JR) : Option (List Int32) := x.2.2.2.2.1
abbrev JR.len (x : JR) : Nat := x.2.2.2.2.2.1
abbrev JR.sz (x : JR) : Nat := x.2.2.2.2.2.2.1
abbrev JR.more (x : JR) : Bool := x.2.2.2.2.2.2.2
def jwl (o : Option (List Int32)) : Nat := match o with
  | none => 0
  | some ws => 1 + ws.length
/-- how many cells of letters -/
def jlw (x : JR) : Nat := (if x.kd = 3 then 1 + x.ws.length else 0) + jwl x.kw
def jLw (xs : List JR) : Nat := (xs.map jlw).sum
/-- its first value gets a key, and a sibling -/
def jHd (kw : Option (List Int32)) (more : Bool) : List JR → List JR
  | [] => []
  | x :: xs => (x.kd, x.bg, x.num, x.ws, kw, x.len, x.sz, more) :: xs
def jNum (g : Nat → Int32) (p : Nat) : Except Nat (Nat × Int64) :=
  if g p = 45 then
    if jDgt (g (p + 1)) then
      if (jDig g (-9223372036854775808) (if g (p + 1) = 48 then 1 else 4096) (p + 1) 1 0).2.1 = 0 then .error p
      else .ok ((jDig g (-9223372036854775808) (if g (p + 1) = 48 then 1 else 4096) (p + 1) 1 0).1, (jDig g (-9223372036854775808) (if g (p + 1) = 48 then 1 else 4096) (p + 1) 1 0).2.2)
    else .error (p + 1)
  else if jDgt (g p) then
    if (jDig g (-9223372036854775807) (if g p = 48 then 1 else 4096) p 1 0).2.1 = 0 then .error p
    else .ok ((jDig g (-9223372036854775807) (if g p = 48 then 1 else 4096) p 1 0).1, -(jDig g (-9223372036854775807) (if g p = 48 then 1 else 4096) p 1 0).2.2)
  else .error p
def jLeaf (kd p : Nat) : Except Nat Nat → Except Nat (List JR × Nat × Nat)
  | .error e => .error e
  | .ok q => .ok ([(kd, p, 0, [], none, 0, 1, false)], 1, q)
/-- a member's string and colon, up to where its value is; in a list nothing -/
def jKey (g : Nat → Int32) (o : Bool) (ks : List (List Int32)) (p : Nat) : Except Nat (Option (List Int32) × Nat) :=
  if o = true then
    if g p = 34 then
      match jStr g 4097 (p + 1) with
      | .error e => .error e
      | .ok (ws, q) => if ws ∈ ks then .error p else if g (jSk g 4096 q) = 58 then .ok (some ws, jSk g 4096 (jSk g 4096 q + 1)) else .error (jSk g 4096 q)
    else .error p
  else .ok (none, p)
def jCl (o : Bool) : Int32 := if o = true then 125 else 93
def jKd (o : Bool) : Nat := if o = true then 1 else 2
/-- none: a value; some: the parts of an open bracket from one of them on, with the keys ahead of it; the values, how many parts, where it ends -/
def jGo (g : Nat → Int32) : Nat → Option (Bool × List (List Int32)) → Nat → Nat → Except Nat (List JR × Nat × Nat)
  | 0, _, _, p => .error p
  | m + 1, none, dp, p =>
    if g p = 123 ∨ g p = 91 then
      if 24 ≤ dp then .error p
      else if g (jSk g 4096 (p + 1)) = jCl (decide (g p = 123)) then .ok ([(jKd (decide (g p = 123)), p, 0, [], none, 0, 1, false)], 1, jSk g 4096 (p + 1) + 1)
      else match jGo g m (some (decide (g p = 123), [])) dp (jSk g 4096 (p + 1)) with
        | .error e => .error e
        | .ok (xs, c, q) => .ok ((jKd (decide (g p = 123)), p, 0, [], none, c, xs.length + 1, false) :: xs, 1, q)
    else if g p = 34 then
      match jStr g 4097 (p + 1) with
      | .error e => .error e
      | .ok (ws, q) => .ok ([(3, p, 0, ws, none, 0, 1, false)], 1, q)
    else if g p = 116 then jLeaf 5 p (jLit g [116, 114, 117, 101] 4 0 p)
    else if g p = 102 then jLeaf 6 p (jLit g [102, 97, 108, 115, 101] 5 0 p)
    else if g p = 110 then jLeaf 7 p (jLit g [110, 117, 108, 108] 4 0 p)
    else match jNum g p with
      | .error e => .error e
      | .ok (q, x) => .ok ([(4, p, x, [], none, 0, 1, false)], 1, q)
  | m + 1, some (o, ks), dp, p =>
    match jKey g o ks p with
    | .error e => .error e
    | .ok (kw, p1) =>
      match jGo g m none (dp + 1) p1 with
      | .error e => .error e
      | .ok (xs, _, p2) =>
        if g (jSk g 4096 p2) = 44 then
          match jGo g m (some (o, ks ++ kw.toList)) dp (jSk g 4096 (jSk g 4096 p2 + 1)) with
          | .error e => .error e
          | .ok (ys, c, q) => .ok (jHd kw true xs ++ ys, c + 1, q)
        else if g (jSk g 4096 p2) = jCl o then .ok (jHd kw false xs, 1, jSk g 4096 p2 + 1)
        else .error (jSk g 4096 p2)
def jIsW (le : Nat → Int32) (lu : Nat) (x : Int32) (ws : List Int32) : Prop := ∃ L : Nat, x = nI L ∧ L + 1 + ws.length ≤ lu ∧ le L = nI ws.length ∧ ∀ i : Nat, i < ws.length → le (L + 1 + i) = ws.getD i 0
/-- the rows say the value x at j; the letters end at lu -/
def jRec (k b nx fi pa wo ke : Nat → Int32) (nu : Nat → Int64) (le : Nat → Int32) (lu : Nat) (x : JR) (j : Nat) : Prop :=
  k j = nI x.kd ∧ b j = nI x.bg ∧ pa j = nI x.len ∧ fi j = (if x.len = 0 then -1 else nI (j + 1)) ∧ nx j = (if x.more = true then nI (j + x.sz) else -1) ∧
  (x.kd = 4 → nu j = x.num) ∧ (x.kd = 3 → jIsW le lu (wo j) x.ws) ∧ ∀ ws : List Int32, x.kw = some ws → jIsW le lu (ke j) ws
def jRep (k b nx fi pa wo ke : Nat → Int32) (nu : Nat → Int64) (le : Nat → Int32) (lu : Nat) (xs : List JR) (V : Nat) : Prop :=
  ∀ (i : Nat) (x : JR), xs[i]? = some x → jRec k b nx fi pa wo ke nu le lu x (V + i)
theorem jHd_len (kw : Option (List Int32)) (more : Bool) (xs : List JR) : (jHd kw more xs).length = xs.length := by
  cases xs <;> rfl
theorem jAnd_nm1 (x : Int32) : ¬ (x &&& 255) = -1 := by
  obtain ⟨j, hj, e⟩ := pk_andE x (m := 255) 8 (by decide)
  rw [e]
  exact nI_nm1 (by omega)
theorem jLit_ok {g : Nat → Int32} {N : Nat} (hN : jT g N) {bs : List Int32} {m i p q : Nat} (hp : p ≤ N) (h : jLit g bs m i p = .ok q) : q = p + m ∧ q ≤ N := by
  induction m generalizing i p with
  | zero =>
    have : p = q := Except.ok.inj h
    omega
  | succ m ih =>
    by_cases c : g p = (bs.getD i 0 &&& 255)
    · have hl := hN.lt (p := p) (by rw [c]; exact jAnd_nm1 _)
      have := ih (i := i + 1) (p := p + 1) (by omega) ((if_pos c).symm.trans h)
      omega
    · exact nomatch (if_neg c).symm.trans h
theorem jDig_ge {g : Nat → Int32} {bo : Int64} {m p : Nat} {i : Int32} {s : Int64} : p ≤ (jDig g bo m p i s).1 := by
  induction m generalizing p i s with
  | zero => exact Nat.le_refl _
  | succ m ih =>
    by_cases c : jDgt (g p)
    · rw [show jDig g bo (m + 1) p i s = _ from if_pos c]
      exact Nat.le_trans (Nat.le_succ p) ih
    · rw [show jDig g bo (m + 1) p i s = _ from if_neg c]
      exact Nat.le_refl _
theorem jDig_gt {g : Nat → Int32} {bo : Int64} {m p : Nat} {i : Int32} {s : Int64} (c : jDgt (g p)) : p < (jDig g bo (m + 1) p i s).1 := by
  rw [show jDig g bo (m + 1) p i s = _ from if_pos c]
  exact jDig_ge
theorem jDgt_lt {g : Nat → Int32} {N p : Nat} (hN : jT g N) (c : jDgt (g p)) : p < N := hN.lt (fun h => jDgt_m1 (h ▸ c))
theorem jDig_le {g : Nat → Int32} {bo : Int64} {N m p : Nat} {i : Int32} {s : Int64} (hN : jT g N) (hp : p ≤ N) : (jDig g bo m p i s).1 ≤ N := by
  induction m generalizing p i s with
  | zero => exact hp
  | succ m ih =>
    by_cases c : jDgt (g p)
    · rw [show jDig g bo (m + 1) p i s = _ from if_pos c]
      exact ih (jDgt_lt hN c)
    · rw [show jDig g bo (m + 1) p i s = _ from if_neg c]
      exact hp
theorem jNum_ok {g : Nat → Int32} {N p q : Nat} {x : Int64} (hN : jT g N) (h : jNum g p = .ok (q, x)) : p < q ∧ q ≤ N := by
  have key : ∀ (bo : Int64) (p1 : Nat), jDgt (g p1) → p1 < (jDig g bo (if g p1 = 48 then 1 else 4096) p1 1 0).1 ∧ (jDig g bo (if g p1 = 48 then 1 else 4096) p1 1 0).1 ≤ N := fun bo p1 c =>
    ⟨by by_cases z : g p1 = 48
        · rw [if_pos z]; exact jDig_gt c
        · rw [if_neg z]; exact jDig_gt c, jDig_le hN (Nat.le_of_lt (jDgt_lt hN c))⟩
  unfold jNum at h
  split at h
  · split at h
    · rename_i c
      by_cases z : (jDig g (-9223372036854775808) (if g (p + 1) = 48 then 1 else 4096) (p + 1) 1 0).2.1 = 0
      · rw [if_pos z] at h
        exact nomatch h
      · rw [if_neg z] at h
        have := key (-9223372036854775808) (p + 1) c
        rw [← (Prod.mk.inj (Except.ok.inj h)).1]
        omega
    · exact nomatch h
  · split at h
    · rename_i c
      by_cases z : (jDig g (-9223372036854775807) (if g p = 48 then 1 else 4096) p 1 0).2.1 = 0
      · rw [if_pos z] at h
        exact nomatch h
      · rw [if_neg z] at h
        have := key (-9223372036854775807) p c
        rw [← (Prod.mk.inj (Except.ok.inj h)).1]
        omega
    · exact nomatch h
theorem jKey_ok {g : Nat → Int32} {N : Nat} (hN : jT g N) {o : Bool} {ks : List (List Int32)} {p p1 : Nat} {kw : Option (List Int32)} (hp : p ≤ N) (h : jKey g o ks p = .ok (kw, p1)) : p + jwl kw ≤ p1 ∧ p1 ≤ N := by
  unfold jKey at h
  split at h
  · split at h
    · split at h
      · exact nomatch h
      · rename_i ws q hs
        have hq := jStr_ok hN hs
        split at h
        · exact nomatch h
        · split at h
          · rename_i h58
            obtain ⟨e1, e2⟩ := Prod.mk.inj (Except.ok.inj h)
            have hl := hN.lt (p := jSk g 4096 q) (by rw [h58]; decide)
            have hk := jSk_le hN 4096 (jSk g 4096 q + 1) (by omega)
            have g1 := jSk_ge (g := g) 4096 q
            have g2 := jSk_ge (g := g) 4096 (jSk g 4096 q + 1)
            rw [← e1, ← e2]
            show p + (1 + ws.length) ≤ _ ∧ _
            omega
          · exact nomatch h
    · exact nomatch h
  · obtain ⟨e1, e2⟩ := Prod.mk.inj (Except.ok.inj h)
    rw [← e1, ← e2]
    exact ⟨Nat.le_refl _, hp⟩
theorem jLw_cons (x : JR) (xs : List JR) : jLw (x :: xs) = jlw x + jLw xs := by simp [jLw]
theorem jLw_app (xs ys : List JR) : jLw (xs ++ ys) = jLw xs + jLw ys := by simp [jLw]
theorem jLw_hd {kw : Option (List Int32)} {more : Bool} {x : JR} {xs : List JR} (h : x.kw = none) : jLw (jHd kw more (x :: xs)) = jLw (x :: xs) + jwl kw := by
  show jLw ((x.kd, x.bg, x.num, x.ws, kw, x.len, x.sz, more) :: xs) = _
  rw [jLw_cons, jLw_cons]
  show ((if x.kd = 3 then 1 + x.ws.length else 0) + jwl kw) + jLw xs = ((if x.kd = 3 then 1 + x.ws.length else 0) + jwl x.kw) + jLw xs + jwl kw
  rw [h]
  show _ = _ + 0 + jLw xs + jwl kw
  omega
/-- of a value: its own record first -/
def jOne (xs : List JR) : Prop := ∃ (x : JR) (ys : List JR), xs = x :: ys ∧ x.sz = xs.length ∧ x.kw = none ∧ x.more = false
theorem jOk1 {α : Type} {a : List JR} {b : Nat} {c : Nat} {x : List JR} {y z : Nat} (h : (Except.ok (a, b, c) : Except Nat (List JR × Nat × Nat)) = .ok (x, y, z)) : a = x ∧ b = y ∧ c = z := by
  cases h
  exact ⟨rfl, rfl, rfl⟩
theorem jLeaf_ok {kd p c q : Nat} {r : Except Nat Nat} {xs : List JR} (h : jLeaf kd p r = .ok (xs, c, q)) : r = .ok q ∧ xs = [(kd, p, 0, [], none, 0, 1, false)] ∧ c = 1 := by
  cases r with
  | error e => exact nomatch h
  | ok q1 =>
    cases h
    exact ⟨rfl, rfl, rfl⟩
theorem jGo_ok {g : Nat → Int32} {N : Nat} (hN : jT g N) : ∀ (m : Nat) (md : Option (Bool × List (List Int32))) (dp p c q : Nat) (xs : List JR), p ≤ N → jGo g m md dp p = .ok (xs, c, q) → p + xs.length ≤ q ∧ p + jLw xs ≤ q ∧ q ≤ N ∧ 1 ≤ xs.length ∧ 1 ≤ c ∧ (md = none → jOne xs ∧ c = 1) := by
  intro m
  induction m with
  | zero => exact fun md dp p c q xs hp h => by cases md <;> exact nomatch h
  | succ m ih =>
    intro md dp p c q xs hp h
    have leaf : ∀ (kd : Nat) (bs : List Int32) (n : Nat), ¬ kd = 3 → 1 ≤ n → jLeaf kd p (jLit g bs n 0 p) = .ok (xs, c, q) → p + xs.length ≤ q ∧ p + jLw xs ≤ q ∧ q ≤ N ∧ 1 ≤ xs.length ∧ 1 ≤ c ∧ (md = none → jOne xs ∧ c = 1) := by
      intro kd bs n hk hn h
      obtain ⟨h1, rfl, rfl⟩ := jLeaf_ok h
      have := jLit_ok hN hp h1
      have hw : jLw [(kd, p, 0, [], none, 0, 1, false)] = 0 := by
        rw [jLw_cons]
        show ((if kd = 3 then _ else 0) + 0) + 0 = 0
        rw [if_neg hk, Nat.add_zero]
      rw [hw]
      show p + 1 ≤ q ∧ p + 0 ≤ q ∧ q ≤ N ∧ 1 ≤ 1 ∧ _ ∧ _
      exact ⟨by omega, by omega, by omega, by omega, by omega, fun _ => ⟨⟨_, _, rfl, rfl, rfl, rfl⟩, rfl⟩⟩
    cases md with
    | none =>
      unfold jGo at h
      split at h
      · rename_i hop
        have hl := hN.lt (p := p) (hop.elim (fun e => by rw [e]; decide) (fun e => by rw [e]; decide))
        have hk := jSk_le hN 4096 (p + 1) (by omega)
        have hg := jSk_ge (g := g) 4096 (p + 1)
        split at h
        · exact nomatch h
        · split at h
          · rename_i hc
            have hl2 := hN.lt (p := jSk g 4096 (p + 1)) (by rw [hc]; unfold jCl; split <;> decide)
            obtain ⟨rfl, rfl, rfl⟩ := jOk1 (α := Nat) h
            have hw : jLw [(jKd (decide (g p = 123)), p, 0, [], none, 0, 1, false)] = 0 := by
              rw [jLw_cons]
              show ((if jKd _ = 3 then _ else 0) + 0) + 0 = 0
              rw [if_neg (by unfold jKd; split <;> decide), Nat.add_zero]
            rw [hw]
            show p + 1 ≤ _ ∧ p + 0 ≤ _ ∧ _ ≤ N ∧ 1 ≤ 1 ∧ _ ∧ _
            exact ⟨by omega, by omega, by omega, by omega, by omega, fun _ => ⟨⟨_, _, rfl, rfl, rfl, rfl⟩, rfl⟩⟩
          · split at h
            · exact nomatch h
            · rename_i xs1 c1 q1 hgo
              have := ih _ _ _ _ _ _ hk hgo
              obtain ⟨rfl, rfl, rfl⟩ := jOk1 (α := Nat) h
              have hw : jLw ((jKd (decide (g p = 123)), p, 0, [], none, c1, xs1.length + 1, false) :: xs1) = jLw xs1 := by
                rw [jLw_cons]
                show ((if jKd _ = 3 then _ else 0) + 0) + jLw xs1 = jLw xs1
                rw [if_neg (by unfold jKd; split <;> decide)]
                omega
              rw [hw, List.length_cons]
              exact ⟨by omega, by omega, by omega, by omega, by omega, fun _ => ⟨⟨_, _, rfl, rfl, rfl, rfl⟩, rfl⟩⟩
      · split at h
        · split at h
          · exact nomatch h
          · rename_i ws q1 hs
            have := jStr_ok hN hs
            obtain ⟨rfl, rfl, rfl⟩ := jOk1 (α := Nat) h
            have hw : jLw [(3, p, 0, ws, none, 0, 1, false)] = 1 + ws.length := by
              rw [jLw_cons]
              show ((if (3 : Nat) = 3 then 1 + ws.length else 0) + 0) + 0 = _
              rw [if_pos rfl]
              omega
            rw [hw]
            show p + 1 ≤ _ ∧ _ ∧ _ ≤ N ∧ 1 ≤ 1 ∧ _ ∧ _
            exact ⟨by omega, by omega, by omega, by omega, by omega, fun _ => ⟨⟨_, _, rfl, rfl, rfl, rfl⟩, rfl⟩⟩
        · split at h
          · exact leaf _ _ _ (by decide) (by decide) h
          · split at h
            · exact leaf _ _ _ (by decide) (by decide) h
            · split at h
              · exact leaf _ _ _ (by decide) (by decide) h
              · split at h
                · exact nomatch h
                · rename_i q1 x hnum
                  have := jNum_ok hN hnum
                  obtain ⟨rfl, rfl, rfl⟩ := jOk1 (α := Nat) h
                  have hw : jLw [(4, p, x, [], none, 0, 1, false)] = 0 := by
                    rw [jLw_cons]
                    show ((if (4 : Nat) = 3 then _ else 0) + 0) + 0 = 0
                    rw [if_neg (by decide), Nat.add_zero]
                  rw [hw]
                  show p + 1 ≤ _ ∧ p + 0 ≤ _ ∧ _ ≤ N ∧ 1 ≤ 1 ∧ _ ∧ _
                  exact ⟨by omega, by omega, by omega, by omega, by omega, fun _ => ⟨⟨_, _, rfl, rfl, rfl, rfl⟩, rfl⟩⟩
    | some ok =>
      obtain ⟨o, ks⟩ := ok
      unfold jGo at h
      split at h
      · exact nomatch h
      · rename_i kw p1 hkey
        have hk := jKey_ok hN hp hkey
        split at h
        · exact nomatch h
        · rename_i xs1 c1 p2 hv
          have hv1 := ih _ _ _ _ _ _ hk.2 hv
          obtain ⟨⟨x, ys, rfl, _, hkw, _⟩, _⟩ := hv1.2.2.2.2.2 rfl
          have hs := jSk_le hN 4096 p2 hv1.2.2.1
          have hs2 := jSk_ge (g := g) 4096 p2
          split at h
          · rename_i h44
            have hl := hN.lt (p := jSk g 4096 p2) (by rw [h44]; decide)
            have hs3 := jSk_le hN 4096 (jSk g 4096 p2 + 1) (by omega)
            have hs4 := jSk_ge (g := g) 4096 (jSk g 4096 p2 + 1)
            split at h
            · exact nomatch h
            · rename_i ys1 c2 q2 hr
              have hr1 := ih _ _ _ _ _ _ hs3 hr
              obtain ⟨rfl, rfl, rfl⟩ := jOk1 (α := Nat) h
              rw [List.length_append, jLw_app, jHd_len, jLw_hd hkw]
              exact ⟨by omega, by omega, by omega, by omega, by omega, fun e => nomatch e⟩
          · split at h
            · rename_i hcl
              have hl := hN.lt (p := jSk g 4096 p2) (by rw [hcl]; unfold jCl; split <;> decide)
              obtain ⟨rfl, rfl, rfl⟩ := jOk1 (α := Nat) h
              rw [jHd_len, jLw_hd hkw]
              exact ⟨by omega, by omega, by omega, by omega, by omega, fun e => nomatch e⟩
            · exact nomatch h
