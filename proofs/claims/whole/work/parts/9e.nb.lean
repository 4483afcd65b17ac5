/-! ===== the class's Teller: a datum is passed over ===== -/
def rdB (M : zM) (a : Int) (P : Nat) (w : List Nat) : Prop := ∀ j : Nat, j < w.length → M a ((P + j : Nat) : Int) = (w.getD j 0 : Nat)
theorem rdB.l {M : zM} {a : Int} {P : Nat} {w1 w2 : List Nat} (h : rdB M a P (w1 ++ w2)) : rdB M a P w1 := fun j hj => by
  rw [h j (by rw [List.length_append]; omega), List.getD_eq_getElem?_getD, List.getElem?_append_left hj, ← List.getD_eq_getElem?_getD]
theorem rdB.r {M : zM} {a : Int} {P : Nat} {w1 w2 : List Nat} (h : rdB M a P (w1 ++ w2)) : rdB M a (P + w1.length) w2 := fun j hj => by
  have := h (w1.length + j) (by rw [List.length_append]; omega)
  rw [List.getD_eq_getElem?_getD, List.getElem?_append_right (by omega), show w1.length + j - w1.length = j by omega, ← List.getD_eq_getElem?_getD] at this
  rw [show P + w1.length + j = P + (w1.length + j) by omega]
  exact this
theorem rdB.u {M : zM} {a : Int} {P : Nat} {w : List Nat} (h : rdB M a P w) {b k v : Int} (n : ¬ a = b) : rdB (zu M b k v) a P w := fun j hj => by rw [zu_a n]; exact h j hj
theorem rdB.cons {M : zM} {a : Int} {P x : Nat} {w : List Nat} (h : rdB M a P (x :: w)) : M a (P : Int) = (x : Int) ∧ rdB M a (P + 1) w := ⟨h 0 (Nat.succ_pos _), fun j hj => by
  have := h (j + 1) (by rw [List.length_cons]; omega)
  rw [show P + 1 + j = P + (j + 1) by omega]
  exact this⟩
def tSh (S : zS) (p q mk mka : Int) : Prop := zSok S ∧ zSc S p ∧ zSc S q ∧ zCe S mk mka 4096 ∧ S 56 = some (0, 7, [(3, 57), (3, 59), (3, 61), (3, 63), (3, 65), (3, 67), (3, mk), (3, p), (3, q), (0, 0), (0, 0), (0, 0)]) ∧ 70 ≤ mk ∧ mk < 84 ∧ mka = mk + 1 ∧ (30 ≤ p ∧ (p + 24 < 55 ∨ 138 ≤ p)) ∧ (30 ≤ q ∧ (q + 24 < 55 ∨ 138 ≤ q))
theorem gC.u {M : zM} {p : Int} {NU : Nat} {st : SS} (h : gC M p NU st) {b k v : Int} (hb : b < p ∨ p + 24 < b) : gC (zu M b k v) p NU st := h.fr (fun a ha => funext fun j => zu_a (by omega))
section NB2
variable {l : Launch} {s0 : State} {a0 : Array Value} {G : va_G} {ca : Nat → ClassId} {d : Nat} {C : Nat × Nat} {S : zS} {p q mk mka : Int} {M : zM} {Q : Int → zM → Prop} {X : zM → Prop} {NU : Nat} {st : SS}
theorem t_varL (Γ : rt_Γ l s0 a0 G ca) (hd : 2 ≤ d) (hok : zok C) (hS : tSh S p q mk mka) {w0 : rt_Wd} : ∀ (m k : Nat) (v1 : Int) (u P : Nat), k + m = 10 → vN v1 < 128 ^ k → u < 128 ^ m → vN v1 + u * 128 ^ k < 18446744073709551616 → rdB M mka P (uB m u) → P + (uB m u).length ≤ 4096 → Q (uz (vN v1 + u * 128 ^ k)) (zu M 56 10 ((P + (uB m u).length : Nat) : Int)) →
    zg_X7_varint_4 l s0 G ca d C S w0 p q mk mka v1 k (zu M 56 10 P) Q X := by
  obtain ⟨hs, hp, hq, hmk, hs54, g1, g2, g3, g4, g5⟩ := hS
  intro m
  induction m with
  | zero =>
    intro k v1 u P hk hv hu ht hr hP hQ
    have hu0 : u = 0 := by
      have : u < 1 := hu
      omega
    subst hu0
    refine zs_X7_varint_4 Γ (by omega) hok hs hp hq hmk hs54 ?_
    unfold zt_X7_varint_4
    rw [w32_id (by omega) (by omega)]
    refine zIf_t (by omega) ?_
    unfold zt_X7_varint_64
    rw [unz_uz]
    rw [Nat.zero_mul, Nat.add_zero] at hQ
    exact hQ
  | succ m ih =>
    intro k v1 u P hk hv hu ht hr hP hQ
    refine zs_X7_varint_4 Γ (by omega) hok hs hp hq hmk hs54 ?_
    unfold zt_X7_varint_4
    rw [w32_id (x := (k : Int)) (by omega) (by omega)]
    refine zIf_f (by omega) ?_
    rw [zu_s, zu_zu, show (P : Int) + 1 = ((P + 1 : Nat) : Int) by omega]
    by_cases hlt : u < 128
    · have e : uB (m + 1) u = [u] := by unfold uB; rw [if_pos hlt]
      rw [e] at hr hP hQ
      have hP1 : P + 1 ≤ 4096 := hP
      have hy := (rdB.cons hr).1
      rw [zat_in (by omega) (by omega) (by decide), zu_a (by omega), hy, w32_id (x := (u : Int)) (by omega) (by omega)]
      have h9 : k = 9 → u ≤ 1 := fun h => by
        subst h
        have h2 : (128 : Nat) ^ 9 = 9223372036854775808 := by decide
        rw [h2] at ht
        omega
      have hput := uPut (u := v1) (y := u) (k := k) (by omega) hv (by omega) h9
      rw [Nat.mod_eq_of_lt hlt, pow128] at hput
      refine zIf_f (by omega) ?_
      unfold zt_X7_varint_64
      rw [unz_uz, hput]
      exact hQ
    · have e : uB (m + 1) u = (u % 128 + 128) :: uB m (u / 128) := by
        show (if u < 128 then _ else _) = _
        rw [if_neg hlt]
      rw [e] at hr hP hQ
      rw [List.length_cons] at hP hQ
      obtain ⟨hy, hr2⟩ := rdB.cons hr
      rw [zat_in (by omega) (by omega) (by decide), zu_a (by omega), hy, w32_id (x := ((u % 128 + 128 : Nat) : Int)) (by omega) (by omega)]
      have hk9 : ¬ k = 9 := fun h => by
        have : m = 0 := by omega
        subst this
        exact hlt hu
      have hput := uPut (u := v1) (y := u % 128 + 128) (k := k) (by omega) hv (by omega) (fun h => absurd h hk9)
      rw [show (u % 128 + 128) % 128 = u % 128 by omega, pow128] at hput
      have hlt2 := uPut_lt (y := u) hv
      rw [pow128] at hlt2
      refine zIf_t (by omega) ?_
      rw [show (k : Int) + 1 = ((k + 1 : Nat) : Int) by omega]
      generalize zorL v1 (zshlL (w32 (zand ((u % 128 + 128 : Nat) : Int) 127)) (7 * (k : Int))) = v3 at hput
      rw [← hput] at hlt2
      have htot : vN v3 + u / 128 * 128 ^ (k + 1) = vN v1 + u * 128 ^ k := by
        rw [hput, Nat.pow_succ, Nat.add_assoc]
        congr 1
        have h1 : u / 128 * (128 ^ k * 128) = u / 128 * 128 * 128 ^ k := by
          rw [Nat.mul_comm (128 ^ k) 128, Nat.mul_assoc]
        rw [h1, ← Nat.add_mul]
        congr 1
        omega
      refine ih (k + 1) v3 (u / 128) (P + 1) (by omega) hlt2 (Nat.div_lt_of_lt_mul (by rw [Nat.mul_comm, ← Nat.pow_succ]; exact hu)) (by rw [htot]; exact ht) hr2 (by omega) ?_
      rw [htot, show P + 1 + (uB m (u / 128)).length = P + ((uB m (u / 128)).length + 1) by omega]
      exact hQ
/-- a number of the row -/
theorem t_var (Γ : rt_Γ l s0 a0 G ca) (hd : 3 ≤ d) (hok : zok C) (hS : tSh S p q mk mka) {n : Int} {P : Nat} (hn : -9223372036854775808 ≤ n ∧ n < 9223372036854775808) (h5 : M 56 10 = (P : Int)) (hr : rdB M mka P (vB n)) (hP : P + (vB n).length ≤ 4096) (hQ : Q n (zu M 56 10 ((P + (vB n).length : Nat) : Int))) : zm_X7_varint l s0 G ca d C S M Q X := by
  refine z_X7_varint Γ (by omega) hok hS.1 hS.2.1 hS.2.2.1 hS.2.2.2.1 hS.2.2.2.2.1 ?_
  unfold zt_X7_varint
  have hz := zz_lt hn.1 hn.2
  have h0 : vN 0 = 0 := by decide
  have := t_varL (d := d) (M := M) (Q := Q) (X := X) (w0 := zw s0 ca C S M) Γ (by omega) hok hS 10 0 0 (zz n) P rfl (by rw [h0]; decide) (Nat.lt_of_lt_of_le hz (by decide)) (by rw [h0, Nat.pow_zero, Nat.mul_one]; omega) hr hP (by rw [h0, Nat.zero_add, Nat.pow_zero, Nat.mul_one, uz_zz]; exact hQ)
  rw [zu_id h5] at this
  exact this
end NB2
