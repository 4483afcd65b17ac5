/-! ===== a text is twice as long as it has values, and has its letters besides ===== -/
theorem jGo_w {g : Nat → Int32} {N : Nat} (hN : jT g N) : ∀ (m : Nat) (md : Option (Bool × List (List Int32))) (dp p c q : Nat) (xs : List JR), p ≤ N → jGo g m md dp p = .ok (xs, c, q) → p + 2 * xs.length + jLw xs ≤ q + (if md.isSome = true then 0 else 1) := by
  intro m
  induction m with
  | zero => exact fun md dp p c q xs hp h => by cases md <;> exact nomatch h
  | succ m ih =>
    intro md dp p c q xs hp h
    have leaf : ∀ (kd : Nat) (bs : List Int32) (n : Nat), ¬ kd = 3 → 1 ≤ n → jLeaf kd p (jLit g bs n 0 p) = .ok (xs, c, q) → p + 2 * xs.length + jLw xs ≤ q + 1 := by
      intro kd bs n hk hn h
      obtain ⟨h1, rfl, rfl⟩ := jLeaf_ok h
      have := jLit_ok hN hp h1
      have hw : jLw [(kd, p, 0, [], none, 0, 1, false)] = 0 := by
        rw [jLw_cons]
        show ((if kd = 3 then _ else 0) + 0) + 0 = 0
        rw [if_neg hk, Nat.add_zero]
      rw [hw]
      show p + 2 * 1 + 0 ≤ q + 1
      omega
    cases md with
    | none =>
      show p + 2 * xs.length + jLw xs ≤ q + 1
      unfold jGo at h
      split at h
      · rename_i hop
        have hl := hN.lt (p := p) (hop.elim (fun e => by rw [e]; decide) (fun e => by rw [e]; decide))
        have hk := jSk_le hN 4096 (p + 1) (by omega)
        have hg := jSk_ge (g := g) 4096 (p + 1)
        split at h
        · exact nomatch h
        · split at h
          · obtain ⟨rfl, rfl, rfl⟩ := jOk1 (α := Nat) h
            have hw : jLw [(jKd (decide (g p = 123)), p, 0, [], none, 0, 1, false)] = 0 := by
              rw [jLw_cons]
              show ((if jKd _ = 3 then _ else 0) + 0) + 0 = 0
              rw [if_neg (by unfold jKd; split <;> decide), Nat.add_zero]
            rw [hw]
            show p + 2 * 1 + 0 ≤ _
            omega
          · split at h
            · exact nomatch h
            · rename_i xs1 c1 q1 hgo
              have h9 : _ + 2 * xs1.length + jLw xs1 ≤ q1 + 0 := ih _ _ _ _ _ _ hk hgo
              obtain ⟨rfl, rfl, rfl⟩ := jOk1 (α := Nat) h
              have hw : jLw ((jKd (decide (g p = 123)), p, 0, [], none, c1, xs1.length + 1, false) :: xs1) = jLw xs1 := by
                rw [jLw_cons]
                show ((if jKd _ = 3 then _ else 0) + 0) + jLw xs1 = jLw xs1
                rw [if_neg (by unfold jKd; split <;> decide)]
                omega
              rw [hw, List.length_cons]
              omega
      · split at h
        · split at h
          · exact nomatch h
          · rename_i ws q1 hs
            have := jStr_ok hN hs
            obtain ⟨rfl, rfl, rfl⟩ := jOk1 (α := Nat) h
            have hw : jLw [(3, p, 0, ws, none, 0, 1, false)] = 1 + ws.length := by
              rw [jLw_cons]
              show ((if (3 : Nat) = 3 then 1 + ws.length else 0) + 0) + 0 = _
              rw [if_pos rfl]
              omega
            rw [hw]
            show p + 2 * 1 + _ ≤ _
            omega
        · split at h
          · exact leaf _ _ _ (by decide) (by decide) h
          · split at h
            · exact leaf _ _ _ (by decide) (by decide) h
            · split at h
              · exact leaf _ _ _ (by decide) (by decide) h
              · split at h
                · exact nomatch h
                · rename_i q1 x hnum
                  have := jNum_ok hN hnum
                  obtain ⟨rfl, rfl, rfl⟩ := jOk1 (α := Nat) h
                  have hw : jLw [(4, p, x, [], none, 0, 1, false)] = 0 := by
                    rw [jLw_cons]
                    show ((if (4 : Nat) = 3 then _ else 0) + 0) + 0 = 0
                    rw [if_neg (by decide), Nat.add_zero]
                  rw [hw]
                  show p + 2 * 1 + 0 ≤ _
                  omega
    | some ok =>
      obtain ⟨o, ks⟩ := ok
      show p + 2 * xs.length + jLw xs ≤ q + 0
      unfold jGo at h
      split at h
      · exact nomatch h
      · rename_i kw p1 hkey
        have hk := jKey_ok hN hp hkey
        split at h
        · exact nomatch h
        · rename_i xs1 c1 p2 hv
          have hv1 := jGo_ok hN _ _ _ _ _ _ _ hk.2 hv
          have hv2 : p1 + 2 * xs1.length + jLw xs1 ≤ p2 + 1 := ih _ _ _ _ _ _ hk.2 hv
          obtain ⟨⟨x, ys, rfl, _, hkw, _⟩, _⟩ := hv1.2.2.2.2.2 rfl
          have hs := jSk_le hN 4096 p2 hv1.2.2.1
          have hs2 := jSk_ge (g := g) 4096 p2
          split at h
          · rename_i h44
            have hl := hN.lt (p := jSk g 4096 p2) (by rw [h44]; decide)
            have hs3 := jSk_le hN 4096 (jSk g 4096 p2 + 1) (by omega)
            have hs4 := jSk_ge (g := g) 4096 (jSk g 4096 p2 + 1)
            split at h
            · exact nomatch h
            · rename_i ys1 c2 q2 hr
              have hr1 : _ + 2 * ys1.length + jLw ys1 ≤ q2 + 0 := ih _ _ _ _ _ _ hs3 hr
              obtain ⟨rfl, rfl, rfl⟩ := jOk1 (α := Nat) h
              rw [List.length_append, jLw_app, jHd_len, jLw_hd hkw]
              omega
          · split at h
            · obtain ⟨rfl, rfl, rfl⟩ := jOk1 (α := Nat) h
              rw [jHd_len, jLw_hd hkw]
              omega
            · exact nomatch h
