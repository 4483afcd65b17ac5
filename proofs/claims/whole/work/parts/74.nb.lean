/-! ===== jGo asks only of bytes below 128: both sides read the same ===== -/
def nb (c : Int32) : Int32 := if 0 ≤ c ∧ c < 128 then c else -1
theorem i32le {a b : Int32} : a ≤ b ↔ a.toInt ≤ b.toInt := Int32.le_iff_toInt_le
theorem i32lt {a b : Int32} : a < b ↔ a.toInt < b.toInt := Int32.lt_iff_toInt_lt
theorem nb_eq {c k : Int32} (hk : 0 ≤ k ∧ k < 128) : nb c = k ↔ c = k := by
  unfold nb
  by_cases h : 0 ≤ c ∧ c < 128
  · rw [if_pos h]
  · rw [if_neg h]
    constructor
    · intro e
      rw [← e] at hk
      exact absurd hk.1 (by decide)
    · intro e
      rw [e] at h
      exact absurd hk h
theorem nb_in {c : Int32} (h : 0 ≤ c ∧ c < 128) : nb c = c := if_pos h
theorem nb_out {c : Int32} (h : ¬ (0 ≤ c ∧ c < 128)) : nb c = -1 := if_neg h
theorem nb_hex (c : Int32) : jHex (nb c) = jHex c := by
  by_cases h : 0 ≤ c ∧ c < 128
  · rw [nb_in h]
  · rw [nb_out h]
    have h1 : jHex (-1) = -1 := by decide
    rw [h1]
    have h0 : (0 : Int32).toInt = 0 := by decide
    have h128 : (128 : Int32).toInt = 128 := by decide
    have h48 : (48 : Int32).toInt = 48 := by decide
    have h57 : (57 : Int32).toInt = 57 := by decide
    have h97 : (97 : Int32).toInt = 97 := by decide
    have h102 : (102 : Int32).toInt = 102 := by decide
    have h65 : (65 : Int32).toInt = 65 := by decide
    have h70 : (70 : Int32).toInt = 70 := by decide
    rw [i32le, i32lt, h0, h128] at h
    unfold jHex
    by_cases a : c < 48
    · rw [if_pos a]
    · rw [if_neg a]
      rw [i32lt, h48] at a
      rw [if_neg (by rw [i32lt, h57]; omega), if_neg (by rw [i32lt, i32lt, h97, h102]; omega), if_neg (by rw [i32lt, i32lt, h65, h70]; omega)]
theorem nb_esc (c : Int32) : jEsc (nb c) = jEsc c := by
  unfold jEsc
  simp (disch := decide) only [nb_eq]
  by_cases h : c = 34 ∨ c = 47 ∨ c = 92
  · rw [if_pos h, if_pos h, nb_in (by rcases h with e | e | e <;> rw [e] <;> decide)]
  · rw [if_neg h, if_neg h]
theorem nb_dgt (c : Int32) : jDgt (nb c) ↔ jDgt c := by
  by_cases h : 0 ≤ c ∧ c < 128
  · rw [nb_in h]
  · rw [nb_out h]
    refine ⟨fun a => absurd a jDgt_m1, fun a => ?_⟩
    exfalso
    apply h
    unfold jDgt at a
    have h0 : (0 : Int32).toInt = 0 := by decide
    have h128 : (128 : Int32).toInt = 128 := by decide
    have h48 : (48 : Int32).toInt = 48 := by decide
    have h57 : (57 : Int32).toInt = 57 := by decide
    simp only [i32le, i32lt, h48, h57] at a
    simp only [i32le, i32lt, h0, h128]
    omega
theorem nb_dg {c : Int32} (a : jDgt c) : nb c = c := nb_in (by
  unfold jDgt at a
  have h0 : (0 : Int32).toInt = 0 := by decide
  have h128 : (128 : Int32).toInt = 128 := by decide
  have h48 : (48 : Int32).toInt = 48 := by decide
  have h57 : (57 : Int32).toInt = 57 := by decide
  simp only [i32le, i32lt, h48, h57] at a
  simp only [i32le, i32lt, h0, h128]
  omega)
section NB
variable {g : Nat → Int32}
def ng (g : Nat → Int32) : Nat → Int32 := fun p => nb (g p)
theorem nb_sk : ∀ k p : Nat, jSk (ng g) k p = jSk g k p := by
  intro k
  induction k with
  | zero => intro p; rfl
  | succ k ih =>
    intro p
    unfold jSk
    show (if nb (g p) = 9 ∨ nb (g p) = 10 ∨ nb (g p) = 13 ∨ nb (g p) = 32 then _ else _) = _
    simp (disch := decide) only [nb_eq, ih]
theorem nb_four : ∀ (k p : Nat) (s : Int32), jFour (ng g) k p s = jFour g k p s := by
  intro k
  induction k with
  | zero => intro p s; rfl
  | succ k ih =>
    intro p s
    unfold jFour
    show (if jHex (nb (g p)) = -1 then _ else jFour (ng g) k (p + 1) (s * 16 + jHex (nb (g p)))) = _
    rw [nb_hex, ih]
theorem nb_str : ∀ m p : Nat, jStr (ng g) m p = jStr g m p := by
  intro m
  induction m using Nat.strongRecOn with
  | ind m ih =>
    intro p
    cases m with
    | zero => rfl
    | succ m =>
      rw [jStr_es, jStr_es]
      have e0 : ng g p = nb (g p) := rfl
      have es : jEs (ng g) p = jEs g p := by
        unfold jEs
        show (if nb (g (p + 1)) = 117 then _ else if jEsc (nb (g (p + 1))) = -1 then _ else Except.ok (jEsc (nb (g (p + 1))), _)) = _
        simp (disch := decide) only [nb_eq, nb_esc, nb_four]
      rw [es, e0, ih m (by omega) (p + 1)]
      simp (disch := decide) only [nb_eq]
      have e2 : ∀ c q, jCons c (jStr (ng g) m q) = jCons c (jStr g m q) := fun c q => by rw [ih m (by omega) q]
      have e3 : (match jEs g p with | .error e => Except.error e | .ok (c, q) => jCons c (jStr (ng g) m q)) = (match jEs g p with | .error e => Except.error e | .ok (c, q) => jCons c (jStr g m q)) := by
        cases jEs g p with
        | error e => rfl
        | ok r => exact e2 _ _
      by_cases h1 : g p = 34
      · rw [if_pos h1, if_pos h1]
      · rw [if_neg h1, if_neg h1]
        by_cases h2 : g p = 92
        · rw [if_pos h2, if_pos h2]
          exact e3
        · rw [if_neg h2, if_neg h2]
          by_cases h : 0 ≤ g p ∧ g p < 128
          · rw [nb_in h]
          · rw [nb_out h, if_pos (by decide)]
            by_cases h3 : g p < 32
            · rw [if_pos h3]
            · rw [if_neg h3, if_neg ?_]
              intro h4
              apply h
              have h0 : (0 : Int32).toInt = 0 := by decide
              have h128 : (128 : Int32).toInt = 128 := by decide
              have h32 : (32 : Int32).toInt = 32 := by decide
              have h126 : (126 : Int32).toInt = 126 := by decide
              rw [i32lt, h32] at h3
              rw [i32le, h126] at h4
              rw [i32le, i32lt, h0, h128]
              omega
theorem nb_lit {bs : List Int32} (hb : ∀ i : Nat, 0 ≤ (bs.getD i 0 &&& 255) ∧ (bs.getD i 0 &&& 255) < 128) : ∀ m i p : Nat, jLit (ng g) bs m i p = jLit g bs m i p := by
  intro m
  induction m with
  | zero => intro i p; rfl
  | succ m ih =>
    intro i p
    unfold jLit
    show (if nb (g p) = _ then _ else _) = _
    simp only [nb_eq (hb i), ih]
theorem nb_dig {bo : Int64} : ∀ (m p : Nat) (i : Int32) (s : Int64), jDig (ng g) bo m p i s = jDig g bo m p i s := by
  intro m
  induction m with
  | zero => intro p i s; rfl
  | succ m ih =>
    intro p i s
    unfold jDig
    by_cases h : jDgt (g p)
    · rw [if_pos h, if_pos (show jDgt (ng g p) from (nb_dgt _).mpr h), ih]
      show jDig g bo m (p + 1) (jDin bo (nb (g p) - 48) i s) (jDsu (nb (g p) - 48) (jDin bo (nb (g p) - 48) i s) s) = _
      rw [nb_dg h]
    · rw [if_neg h, if_neg (show ¬ jDgt (ng g p) from fun c => h ((nb_dgt _).mp c))]
theorem nb_num (p : Nat) : jNum (ng g) p = jNum g p := by
  unfold jNum
  have e1 : (ng g (p + 1) = 48) = (g (p + 1) = 48) := propext (nb_eq (by decide))
  have e2 : (ng g p = 48) = (g p = 48) := propext (nb_eq (by decide))
  have e3 : (ng g p = 45) = (g p = 45) := propext (nb_eq (by decide))
  have e4 : ∀ q, jDgt (ng g q) = jDgt (g q) := fun q => propext (nb_dgt _)
  simp only [e1, e2, e3, e4, nb_dig]
theorem nb_key (o : Bool) (ks : List (List Int32)) (p : Nat) : jKey (ng g) o ks p = jKey g o ks p := by
  unfold jKey
  have e : ∀ q, (ng g q = 58) = (g q = 58) := fun q => propext (nb_eq (by decide))
  have e9 : (ng g p = 34) = (g p = 34) := propext (nb_eq (by decide))
  simp only [e, e9, nb_str, nb_sk]
theorem nb_cl (o : Bool) : 0 ≤ jCl o ∧ jCl o < 128 := by cases o <;> decide
theorem nb_go : ∀ (m : Nat) (md : Option (Bool × List (List Int32))) (dp p : Nat), jGo (ng g) m md dp p = jGo g m md dp p := by
  intro m
  induction m with
  | zero => intro md dp p; cases md <;> rfl
  | succ m ih =>
    intro md dp p
    have e1 : ∀ q, (ng g q = 123) = (g q = 123) := fun q => propext (nb_eq (by decide))
    have e2 : ∀ q, (ng g q = 91) = (g q = 91) := fun q => propext (nb_eq (by decide))
    have e3 : ∀ q, (ng g q = 34) = (g q = 34) := fun q => propext (nb_eq (by decide))
    have e4 : ∀ q, (ng g q = 116) = (g q = 116) := fun q => propext (nb_eq (by decide))
    have e5 : ∀ q, (ng g q = 102) = (g q = 102) := fun q => propext (nb_eq (by decide))
    have e6 : ∀ q, (ng g q = 110) = (g q = 110) := fun q => propext (nb_eq (by decide))
    have e7 : ∀ q, (ng g q = 44) = (g q = 44) := fun q => propext (nb_eq (by decide))
    have e8 : ∀ q o, (ng g q = jCl o) = (g q = jCl o) := fun q o => propext (nb_eq (nb_cl o))
    have small : ∀ bs : List Int32, (∀ b ∈ bs, 0 ≤ (b &&& 255) ∧ (b &&& 255) < 128) → ∀ i : Nat, 0 ≤ (bs.getD i 0 &&& 255) ∧ (bs.getD i 0 &&& 255) < 128 := fun bs hb i => by
      by_cases hi : i < bs.length
      · rw [show bs.getD i 0 = bs[i] from by rw [List.getD_eq_getElem?_getD, List.getElem?_eq_getElem hi]; rfl]
        exact hb _ (List.getElem_mem hi)
      · rw [show bs.getD i 0 = 0 from by rw [List.getD_eq_getElem?_getD, List.getElem?_eq_none (by omega)]; rfl]
        decide
    have l1 : ∀ p, jLit (ng g) [116, 114, 117, 101] 4 0 p = jLit g [116, 114, 117, 101] 4 0 p := fun p => nb_lit (small _ (by decide)) _ _ _
    have l2 : ∀ p, jLit (ng g) [102, 97, 108, 115, 101] 5 0 p = jLit g [102, 97, 108, 115, 101] 5 0 p := fun p => nb_lit (small _ (by decide)) _ _ _
    have l3 : ∀ p, jLit (ng g) [110, 117, 108, 108] 4 0 p = jLit g [110, 117, 108, 108] 4 0 p := fun p => nb_lit (small _ (by decide)) _ _ _
    cases md with
    | none =>
      unfold jGo
      simp only [e1, e2, e3, e4, e5, e6, e8, nb_sk, nb_str, l1, l2, l3, nb_num, ih]
    | some om =>
      obtain ⟨o, ks⟩ := om
      unfold jGo
      simp only [e7, e8, nb_sk, nb_key, ih]
theorem nb_tx (N : Nat) : jTx (ng g) N = jTx g N := by
  unfold jTx
  rw [nb_go, nb_sk]
  cases jGo g 4001 none 0 (jSk g 4096 0) with
  | error e => rfl
  | ok r =>
    obtain ⟨xs, c, q⟩ := r
    show (if jSk (ng g) 4096 q = N then _ else Except.error (jSk (ng g) 4096 q)) = _
    rw [nb_sk]
    rfl
end NB
/-- the class's bytes and the reference's -/
theorem jTx_two {bc br : Int → Int} {N : Nat} (hc : cOk bc N) (hr : ∀ j : Nat, j < N → br j = w8 (bc j)) : jTx (rg br N) N = jTx (rg bc N) N := by
  have e : ng (rg br N) = ng (rg bc N) := by
    funext p
    show nb (rg br N p) = nb (rg bc N p)
    unfold rg rb
    by_cases h : p < N
    · rw [if_pos h, if_pos h, hr p h]
      have hb := hc.2 p h
      generalize bc (p : Int) = b at hb ⊢
      have h0 : (0 : Int32).toInt = 0 := by decide
      have h128 : (128 : Int32).toInt = 128 := by decide
      by_cases c : b < 128
      · rw [w8_id (by omega) (by omega)]
      · have h8 := w8_b b
        have h9 : w8 b < 0 := by
          unfold w8
          rw [Int.bmod_def]
          split <;> omega
        rw [nb_out, nb_out]
        · rw [i32le, i32lt, z_toI, w32_id (by omega) (by omega), h0, h128]; omega
        · rw [i32le, i32lt, z_toI, w32_id (by omega) (by omega), h0, h128]; omega
    · rw [if_neg h, if_neg h]
  rw [← nb_tx, e, nb_tx]
