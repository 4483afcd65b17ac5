/-! ===== the class's Fitter: asking for a pair; symbols, fields, branches ===== -/
theorem zdiv_n {c m : Nat} (hc : c < 2147483648) (hm : 0 < m ∧ m < 2147483648) : zdiv (c : Int) (m : Int) = ((c / m : Nat) : Int) := by
  have e1 : (Int32.ofInt (c : Int)).toInt = c := by rw [Int32.toInt_ofInt]; exact w32_id (x := (c : Int)) (by omega) (by omega)
  have e2 : (Int32.ofInt (m : Int)).toInt = m := by rw [Int32.toInt_ofInt]; exact w32_id (x := (m : Int)) (by omega) (by omega)
  have hl : c / m ≤ c := Nat.div_le_self c m
  have e3 : ∀ x : Nat, x < 2147483648 → Int.bmod (x : Int) (2 ^ 32) = (x : Int) := fun x hx => w32_id (by omega) (by omega)
  unfold zdiv
  rw [Int32.toInt_div, e1, e2, ← Int.ofNat_tdiv]
  exact e3 _ (Nat.lt_of_le_of_lt hl hc)
theorem zrem_n {c m : Nat} (hc : c < 2147483648) (hm : 0 < m ∧ m < 2147483648) : zrem (c : Int) (m : Int) = ((c % m : Nat) : Int) := by
  have e1 : (Int32.ofInt (c : Int)).toInt = c := by rw [Int32.toInt_ofInt]; exact w32_id (x := (c : Int)) (by omega) (by omega)
  have e2 : (Int32.ofInt (m : Int)).toInt = m := by rw [Int32.toInt_ofInt]; exact w32_id (x := (m : Int)) (by omega) (by omega)
  have hd := zdiv_n hc hm
  unfold zdiv at hd
  have hmul : c / m * m + c % m = c := by rw [Nat.mul_comm]; exact Nat.div_add_mod c m
  have hlt : c % m < m := Nat.mod_lt c hm.1
  have e3 : Int.bmod ((c / m * m : Nat) : Int) (2 ^ 32) = ((c / m * m : Nat) : Int) := w32_id (x := ((c / m * m : Nat) : Int)) (by omega) (by omega)
  have e4 : Int.bmod ((c % m : Nat) : Int) (2 ^ 32) = ((c % m : Nat) : Int) := w32_id (x := ((c % m : Nat) : Int)) (by omega) (by omega)
  unfold zrem
  rw [Int32.toInt_sub, Int32.toInt_mul, hd, e1, e2, ← Int.natCast_mul, e3, show (c : Int) - ((c / m * m : Nat) : Int) = ((c % m : Nat) : Int) by omega]
  exact e4
def ftS (S : zS) (p q : Int) : Prop := zSok S ∧ zSc S p ∧ zSc S q ∧ S 69 = some (0, 3, [(3, 70), (3, 72), (3, p), (3, q), (0, 0)]) ∧ (30 ≤ p ∧ (p + 24 < 55 ∨ 138 ≤ p)) ∧ (30 ≤ q ∧ (q + 24 < 55 ∨ 138 ≤ q))
/-- what asking may write -/
def fFr (M M1 : zM) : Prop := ∀ c j : Int, ¬ c = 71 → ¬ (c = 72 ∧ j = 1) → ¬ c = 73 → M1 c j = M c j
theorem fFr.rf {M : zM} : fFr M M := fun _ _ _ _ _ => rfl
theorem fFr.tr {M M1 M2 : zM} (h : fFr M M1) (h1 : fFr M1 M2) : fFr M M2 := fun c j n1 n2 n3 => (h1 c j n1 n2 n3).trans (h c j n1 n2 n3)
def fCd (x : Nat × Nat) : Nat := x.1 * 134 + x.2
/-- the memory says which pairs were asked for, and which are open -/
def fC (M : zM) (a : Nat) (P O : List (Nat × Nat)) : Prop := M 69 4 = (a : Int) ∧ (∀ x ∈ P ++ O, M 71 (fCd x : Nat) = (a : Int)) ∧ (∀ c : Nat, c < 17956 → (0 ≤ M 71 (c : Int) ∧ M 71 (c : Int) ≤ a) ∧ (M 71 (c : Int) = (a : Int) → ∃ x ∈ P ++ O, c = fCd x)) ∧ M 72 1 = (O.length : Int) ∧ ∀ (j : Nat) (x : Nat × Nat), O[j]? = some x → M 73 (j : Int) = (fCd x : Nat)
def fS (M : zM) (a : Nat) (P O : List (Nat × Nat)) : Prop := fC M a P O ∧ (P ++ O).Nodup ∧ (∀ x ∈ P ++ O, x.1 < 134 ∧ x.2 < 134) ∧ a < 100000
theorem fCd_inj {x y : Nat × Nat} (hx : x.1 < 134 ∧ x.2 < 134) (hy : y.1 < 134 ∧ y.2 < 134) (h : fCd x = fCd y) : x = y := by
  unfold fCd at h
  exact Prod.ext (by omega) (by omega)
theorem fCd_lt {x : Nat × Nat} (hx : x.1 < 134 ∧ x.2 < 134) : fCd x < 17956 := by
  unfold fCd
  omega
section JB9
variable {l : Launch} {s0 : State} {a0 : Array Value} {G : va_G} {ca : Nat → ClassId} {d : Nat} {C : Nat × Nat} {S : zS} {p q : Int} {M : zM} {Q : Int → zM → Prop} {X : zM → Prop} {a NU NV w r : Nat} {A B : SS} {dB : SP → Option (List Nat)} {P O : List (Nat × Nat)}
theorem f_ask (Γ : rt_Γ l s0 a0 G ca) (hd : 1 ≤ d) (hok : zok C) (hS : ftS S p q) (hc : fS M a P O) {w r : Nat} (hw : w < 134) (hr : r < 134) (hQ : ∀ M1 : zM, fFr M M1 → fS M1 a P (fAk P O (w, r)) → Q 0 M1) : zm_X3_ask l s0 G ca d C S w r M Q X := by
  obtain ⟨hs, hp, hq, h63, hp0, hq0⟩ := hS
  obtain ⟨⟨c1, c2, c3, c4, c5⟩, hn, hb, ha⟩ := id hc
  have hlt : fCd (w, r) < 17956 := fCd_lt ⟨hw, hr⟩
  have ecd : (w : Int) * 134 + (r : Int) = ((fCd (w, r) : Nat) : Int) := by unfold fCd; omega
  refine z_X3_ask Γ hd hok hs hp hq h63 ?_
  unfold zt_X3_ask
  obtain ⟨⟨b1, b2⟩, b3⟩ := c3 _ hlt
  rw [ecd, zat_in (by omega) (by omega) (by decide), c1, w32_id (x := (a : Int)) (by omega) (by omega), w32_id (x := M 71 ((fCd (w, r) : Nat) : Int)) (by omega) (by omega)]
  refine ⟨fun e => ?_, fun e => ?_⟩
  · have hm : (w, r) ∈ P ++ O := by
      obtain ⟨x, x1, x2⟩ := b3 e
      rw [fCd_inj ⟨hw, hr⟩ (hb x x1) x2]
      exact x1
    refine hQ M fFr.rf ?_
    unfold fAk
    rw [if_pos hm]
    exact hc
  · have hm : ¬ (w, r) ∈ P ++ O := fun h => e (c2 _ h)
    have hnd := fAk_nd (x := (w, r)) hn
    have hbd : ∀ x ∈ P ++ fAk P O (w, r), x.1 < 134 ∧ x.2 < 134 := fun x hx => by
      rcases fAk_mem.mp hx with h | h
      · exact hb x h
      · rw [h]; exact ⟨hw, hr⟩
    have hlen := nd_pairs hnd hbd
    have eAk : fAk P O (w, r) = O ++ [(w, r)] := by unfold fAk; rw [if_neg hm]
    rw [eAk] at hnd hbd hlen hQ
    rw [List.length_append, List.length_append, List.length_singleton] at hlen
    rw [zput_in (by omega) (by omega) (by decide)]
    obtain ⟨ea, -⟩ := zadd_in (M := zu M 71 ((fCd (w, r) : Nat) : Int) (a : Int)) (c := 72) (a := 73) (n := 17956) (x := ((fCd (w, r) : Nat) : Int)) (u := (O.length : Int)) ((zu_a (by decide)).trans c4) (by decide) (by omega) (by omega) (by decide)
    rw [ea]
    have f65 : ∀ j : Int, zu (zu (zu M 71 ((fCd (w, r) : Nat) : Int) (a : Int)) 73 (O.length : Int) ((fCd (w, r) : Nat) : Int)) 72 1 ((O.length : Int) + 1) 71 j = if j = ((fCd (w, r) : Nat) : Int) then (a : Int) else M 71 j := fun j => by
      rw [zu_a (by decide), zu_a (by decide)]
      split
      · rename_i h; rw [h]; exact zu_s _ _ _ _
      · rename_i h; exact zu_k h
    refine hQ _ (fun c j n1 n2 n3 => by rw [zu_ne n2, zu_a n3, zu_a n1]) ⟨⟨?_, fun x hx => ?_, fun c hc9 => ⟨?_, fun h9 => ?_⟩, ?_, fun j x hj => ?_⟩, hnd, hbd, ha⟩
    · rw [zu_a (by decide), zu_a (by decide), zu_a (by decide)]
      exact c1
    · rw [f65]
      split
      · rfl
      · rename_i h
        rw [← List.append_assoc] at hx
        rcases List.mem_append.mp hx with h1 | h1
        · exact c2 x h1
        · rw [List.mem_singleton] at h1
          exact absurd (by rw [h1]) h
    · rw [f65]
      split
      · exact ⟨by omega, Int.le_refl _⟩
      · exact (c3 c hc9).1
    · rw [f65] at h9
      rw [← List.append_assoc]
      split at h9
      · rename_i h
        exact ⟨(w, r), List.mem_append.mpr (Or.inr List.mem_cons_self), Int.ofNat.inj h⟩
      · obtain ⟨x, x1, x2⟩ := (c3 c hc9).2 h9
        exact ⟨x, List.mem_append.mpr (Or.inl x1), x2⟩
    · rw [zu_s, List.length_append, List.length_singleton]
      rfl
    · rw [zu_a (by decide)]
      by_cases cj : j < O.length
      · rw [List.getElem?_append_left cj] at hj
        rw [zu_k (by omega), zu_a (by decide)]
        exact c5 j x hj
      · have hj9 := (List.getElem?_eq_some_iff.mp hj).1
        rw [List.length_append, List.length_singleton] at hj9
        have : j = O.length := by omega
        subst this
        rw [List.getElem?_append_right (Nat.le_refl _), Nat.sub_self] at hj
        have : (w, r) = x := Option.some.inj hj
        rw [← this]
        exact zu_s _ _ _ _
theorem f_unL (Γ : rt_Γ l s0 a0 G ca) (hd : 4 ≤ d) (hok : zok C) (hS : ftS S p q) (hFA : kF A) (hw : w < 6 + A.ns.length) (h8 : (nN A.ns w).kd = 8) (hr : r < 134) {w0 : rt_Wd} : ∀ (l9 : List SP) (k : Nat) (O : List (Nat × Nat)) (M : zM), (nN A.ns w).ps.drop k = l9 → k ≤ (nN A.ns w).ps.length → gC M p NU A → fS M a P O → (∀ M1 : zM, fFr M M1 → fS M1 a P (fAks P O (fUn r l9)) → Q 1 M1) → zg_X3_fitBySelves_18 l s0 G ca d C S w0 p q w r k M Q X := by
  obtain ⟨hs, hp, hq, h63, hp0, hq0⟩ := id hS
  intro l9
  induction l9 with
  | nil =>
    intro k O M hdr hk hG hc hQ
    have hlen : (nN A.ns w).ps.length ≤ k := by
      have := congrArg List.length hdr
      rw [List.length_drop, List.length_nil] at this
      omega
    obtain ⟨g1, g2⟩ := g_len hG hFA hw (by omega)
    refine zs_X3_fitBySelves_18 Γ (by omega) hok hs hp hq h63 ?_
    unfold zt_X3_fitBySelves_18
    rw [g1]
    clear g1
    rw [w32_id (x := (((nN A.ns w).ps.length : Nat) : Int)) (by omega) (by omega), w32_id (x := (k : Int)) (by omega) (by omega)]
    exact zIf_t (by omega) (hQ M fFr.rf hc)
  | cons z l9 ih =>
    intro k O M hdr hk hG hc hQ
    have hz : (nN A.ns w).ps[k]? = some z := by
      have := congrArg (fun l => l[0]?) hdr
      simpa using this
    have hdr2 : (nN A.ns w).ps.drop (k + 1) = l9 := by
      have := congrArg (List.drop 1) hdr
      rw [List.drop_drop] at this
      exact this
    have hkl := (List.getElem?_eq_some_iff.mp hz).1
    obtain ⟨g1, g2⟩ := g_len hG hFA hw (by omega)
    obtain ⟨b1, b2⟩ := g_brk hG hFA hw h8 hz
    have hl := hG.2.2.1
    refine zs_X3_fitBySelves_18 Γ (by omega) hok hs hp hq h63 ?_
    unfold zt_X3_fitBySelves_18
    rw [g1]
    clear g1
    rw [w32_id (x := (((nN A.ns w).ps.length : Nat) : Int)) (by omega) (by omega), w32_id (x := (k : Int)) (by omega) (by omega)]
    refine zIf_f (by omega) ?_
    rw [b1, show (k : Int) + 1 = ((k + 1 : Nat) : Int) by omega]
    refine f_ask Γ (by omega) hok hS hc (by omega) hr (fun M1 f1 h1 => ?_)
    exact ih (k + 1) _ M1 hdr2 (by omega) (hG.fr (fun c hc9 => funext fun j => f1 c j (by omega) (by omega) (by omega))) h1 (fun M2 f2 h2 => hQ M2 (f1.tr f2) h2)
theorem f_sgL (Γ : rt_Γ l s0 a0 G ca) (hd : 4 ≤ d) (hok : zok C) (hS : ftS S p q) (hGA : gC M p NU A) (hGB : gC M q NV B) (hFA : kF A) (hFB : kF B) (hw : w < 6 + A.ns.length) (hkw : (nN A.ns w).kd = 10) (hr : r < 6 + B.ns.length) (hkr : (nN B.ns r).kd = 10) {w0 : rt_Wd} : ∀ (l9 : List SP) (k : Nat), (nN A.ns w).ps.drop k = l9 → k ≤ (nN A.ns w).ps.length → Q (b01 (fSg (nN B.ns r).ps l9)) M → zg_X3_hasAllSymbols_2 l s0 G ca d C S w0 p q w r k M Q X := by
  obtain ⟨hs, hp, hq, h63, hp0, hq0⟩ := id hS
  obtain ⟨g1, g2⟩ := g_len hGA hFA hw (by omega)
  have hlA := hGA.2.2.1
  have hlB := hGB.2.2.1
  intro l9
  induction l9 with
  | nil =>
    intro k hdr hk hQ
    have hlen : (nN A.ns w).ps.length ≤ k := by
      have := congrArg List.length hdr
      rw [List.length_drop, List.length_nil] at this
      omega
    refine zs_X3_hasAllSymbols_2 Γ (by omega) hok hs hp hq h63 ?_
    unfold zt_X3_hasAllSymbols_2
    rw [g1, w32_id (x := (((nN A.ns w).ps.length : Nat) : Int)) (by omega) (by omega), w32_id (x := (k : Int)) (by omega) (by omega)]
    exact zIf_t (by omega) hQ
  | cons z l9 ih =>
    intro k hdr hk hQ
    have hz : (nN A.ns w).ps[k]? = some z := by
      have := congrArg (fun l => l[0]?) hdr
      simpa using this
    have hdr2 : (nN A.ns w).ps.drop (k + 1) = l9 := by
      have := congrArg (List.drop 1) hdr
      rw [List.drop_drop] at this
      exact this
    have hkl := (List.getElem?_eq_some_iff.mp hz).1
    obtain ⟨i, rfl, hi⟩ := nN_some (ns := A.ns) (s := w) (nN_ge (ns := A.ns) (by omega)) hw
    obtain ⟨b1, b2, b3, b4, b5⟩ := g_prt hGA hFA hi (by omega) hz
    have hwd := b4.2.1 (by omega)
    refine zs_X3_hasAllSymbols_2 Γ (by omega) hok hs hp hq h63 ?_
    unfold zt_X3_hasAllSymbols_2
    rw [g1, w32_id (x := (((nN A.ns (6 + i)).ps.length : Nat) : Int)) (by omega) (by omega), w32_id (x := (k : Int)) (by omega) (by omega)]
    refine zIf_f (by omega) ?_
    rw [zat_in (a := p + 10) (by omega) (by omega) (by decide), b2, show ((nTot (A.ns.take i) : Nat) : Int) + (k : Int) = ((nTot (A.ns.take i) + k : Nat) : Int) by omega, zat_in (a := p + 16) (by omega) (by omega) (by decide)]
    refine t_prt (p := q) (q := p) Γ (by omega) hok hq hp hGB hwd hGA.2.2.2.2.1 hr (Or.inl hkr) ?_
    unfold fSg at hQ
    cases hsp : sPrt (nN B.ns r).ps z.nm with
    | none =>
      rw [hsp] at hQ
      exact zIf_t (by decide) hQ
    | some j =>
      rw [hsp] at hQ
      have hjl : j < (nN B.ns r).ps.length := by have := sPrtL_lt _ _ _ _ hsp; omega
      have hg := (g_len hGB hFB hr (by omega)).2
      exact zIf_f (by rw [oI_w (by omega)]; omega) (ih (k + 1) hdr2 (by omega) hQ)
end JB9
