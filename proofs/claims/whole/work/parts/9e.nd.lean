/-! ===== the reference's skip ===== -/
def rdW (M : zM) (P : Nat) (w : List Nat) : Prop := ∀ j : Nat, j < w.length → M 132 ((P + j : Nat) : Int) = w8 (w.getD j 0 : Nat)
theorem rdW.l {M : zM} {P : Nat} {w1 w2 : List Nat} (h : rdW M P (w1 ++ w2)) : rdW M P w1 := fun j hj => by
  rw [h j (by rw [List.length_append]; omega), List.getD_eq_getElem?_getD, List.getElem?_append_left hj, ← List.getD_eq_getElem?_getD]
theorem rdW.r {M : zM} {P : Nat} {w1 w2 : List Nat} (h : rdW M P (w1 ++ w2)) : rdW M (P + w1.length) w2 := fun j hj => by
  have := h (w1.length + j) (by rw [List.length_append]; omega)
  rw [List.getD_eq_getElem?_getD, List.getElem?_append_right (by omega), show w1.length + j - w1.length = j by omega, ← List.getD_eq_getElem?_getD] at this
  rw [show P + w1.length + j = P + (w1.length + j) by omega]
  exact this
theorem rdW.u {M : zM} {P : Nat} {w : List Nat} (h : rdW M P w) {b k v : Int} (n : ¬ (132 : Int) = b) : rdW (zu M b k v) P w := fun j hj => by rw [zu_a n]; exact h j hj
theorem rdW.cons {M : zM} {P x : Nat} {w : List Nat} (h : rdW M P (x :: w)) : M 132 (P : Int) = w8 (x : Int) ∧ rdW M (P + 1) w := ⟨h 0 (Nat.succ_pos _), fun j hj => by
  have := h (j + 1) (by rw [List.length_cons]; omega)
  rw [show P + 1 + j = P + (j + 1) by omega]
  exact this⟩
theorem rC.u {M : zM} {t : Int} {xs : List JR} {st : SS} (h : rC M t xs st) {b k v : Int} (hb : b < t) : rC (zu M b k v) t xs st := h.m (fun a j h1 h2 => zu_a (by omega))
/-- a skip's promise -/
def skC (l : Launch) (s0 : State) (G : va_G) (ca : Nat → ClassId) (C : Nat × Nat) (S : zS) (t : Int) (xs : List JR) (st : SS) (m : Nat) : Prop :=
  ∀ (d s P : Nat) (w : List Nat) (M : zM) (Q : Int → zM → Prop) (X : zM → Prop), 3 * m + 8 ≤ d → s < 6 + st.ns.length → yN st.ns m s w → rC M t xs st → M 84 24 = (P : Int) → rdW M P w → P + w.length ≤ 4200 →
    Q 0 (zu M 84 24 ((P + w.length : Nat) : Int)) → zm_X11_skip l s0 G ca d C S t (s : Nat) M Q X
section ND
variable {l : Launch} {s0 : State} {a0 : Array Value} {G : va_G} {ca : Nat → ClassId} {d : Nat} {C : Nat × Nat} {S : zS} {M : zM} {Q : Int → zM → Prop} {X : zM → Prop} {xs : List JR} {st : SS} {t : Int} {m s : Nat}
theorem s_varL (Γ : rt_Γ l s0 a0 G ca) (hok : zok C) (hs : zSok S) {w0 : rt_Wd} : ∀ (m k : Nat) (v1 v4 : Int) (u P : Nat), k + (m + 1) = 10 → 127 < v4 → v4 < 256 → vN v1 < 128 ^ k → u < 128 ^ (m + 1) → vN v1 + u * 128 ^ k < 18446744073709551616 → rdW M P (uB (m + 1) u) → P + (uB (m + 1) u).length ≤ 4200 → Q (uz (vN v1 + u * 128 ^ k)) (zu M 84 24 ((P + (uB (m + 1) u).length : Nat) : Int)) →
    zg_X11_readVarint_9 l s0 G ca d C S w0 v1 (7 * (k : Int)) v4 (zu M 84 24 P) Q X := by
  intro m
  induction m with
  | zero =>
    intro k v1 v4 u P hk h4 h4b hv hu ht hr hP hQ
    have hlt : u < 128 := hu
    have e : uB (0 + 1) u = [u] := by unfold uB; rw [if_pos hlt]
    rw [e] at hr hP hQ
    have hP1 : P + 1 ≤ 4200 := hP
    have hy := (rdW.cons hr).1
    refine zs_X11_readVarint_9 Γ hok hs ?_
    unfold zt_X11_readVarint_9
    rw [w32_id (by omega) (by omega), zu_s, zu_zu, zu_a (by decide), hy, zand255 (by omega), show (P : Int) + 1 = ((P + 1 : Nat) : Int) by omega]
    refine zIf_f (by omega) ⟨⟨by omega, by omega⟩, ?_⟩
    have h9 : k = 9 → u ≤ 1 := fun h => by
      subst h
      have h2 : (128 : Nat) ^ 9 = 9223372036854775808 := by decide
      rw [h2] at ht
      omega
    have hput := uPut (u := v1) (y := u) (k := k) (by omega) hv (by omega) h9
    rw [Nat.mod_eq_of_lt hlt, pow128] at hput
    refine zs_X11_readVarint_9 Γ hok hs ?_
    unfold zt_X11_readVarint_9
    rw [w32_id (x := (u : Int)) (by omega) (by omega)]
    refine zIf_t (by omega) ?_
    rw [unz_uz, hput]
    exact hQ
  | succ m ih =>
    intro k v1 v4 u P hk h4 h4b hv hu ht hr hP hQ
    refine zs_X11_readVarint_9 Γ hok hs ?_
    unfold zt_X11_readVarint_9
    rw [w32_id (by omega) (by omega), zu_s, zu_zu, zu_a (by decide), show (P : Int) + 1 = ((P + 1 : Nat) : Int) by omega]
    by_cases hlt : u < 128
    · have e : uB (m + 1 + 1) u = [u] := by unfold uB; rw [if_pos hlt]
      rw [e] at hr hP hQ
      have hP1 : P + 1 ≤ 4200 := hP
      have hy := (rdW.cons hr).1
      rw [hy, zand255 (by omega)]
      refine zIf_f (by omega) ⟨⟨by omega, by omega⟩, ?_⟩
      have hput := uPut (u := v1) (y := u) (k := k) (by omega) hv (by omega) (fun h => by omega)
      rw [Nat.mod_eq_of_lt hlt, pow128] at hput
      refine zs_X11_readVarint_9 Γ hok hs ?_
      unfold zt_X11_readVarint_9
      rw [w32_id (x := (u : Int)) (by omega) (by omega)]
      refine zIf_t (by omega) ?_
      rw [unz_uz, hput]
      exact hQ
    · have e : uB (m + 1 + 1) u = (u % 128 + 128) :: uB (m + 1) (u / 128) := by
        show (if u < 128 then _ else _) = _
        rw [if_neg hlt]
      rw [e] at hr hP hQ
      rw [List.length_cons] at hP hQ
      obtain ⟨hy, hr2⟩ := rdW.cons hr
      rw [hy, zand255 (by omega)]
      refine zIf_f (by omega) ⟨⟨by omega, by omega⟩, ?_⟩
      have hput := uPut (u := v1) (y := u % 128 + 128) (k := k) (by omega) hv (by omega) (fun h => by omega)
      rw [show (u % 128 + 128) % 128 = u % 128 by omega, pow128] at hput
      have hlt2 := uPut_lt (y := u) hv
      rw [pow128] at hlt2
      rw [show 7 * (k : Int) + 7 = 7 * ((k + 1 : Nat) : Int) by omega]
      generalize zorL v1 (zshlL (w32 (zand ((u % 128 + 128 : Nat) : Int) 127)) (7 * (k : Int))) = v3 at hput
      rw [← hput] at hlt2
      have htot : vN v3 + u / 128 * 128 ^ (k + 1) = vN v1 + u * 128 ^ k := by
        rw [hput, Nat.pow_succ, Nat.add_assoc]
        congr 1
        have h1 : u / 128 * (128 ^ k * 128) = u / 128 * 128 * 128 ^ k := by
          rw [Nat.mul_comm (128 ^ k) 128, Nat.mul_assoc]
        rw [h1, ← Nat.add_mul]
        congr 1
        omega
      refine ih (k + 1) v3 _ (u / 128) (P + 1) (by omega) (by omega) (by omega) hlt2 (Nat.div_lt_of_lt_mul (by rw [Nat.mul_comm, ← Nat.pow_succ]; exact hu)) (by rw [htot]; exact ht) hr2 (by omega) ?_
      rw [htot, show P + 1 + (uB (m + 1) (u / 128)).length = P + ((uB (m + 1) (u / 128)).length + 1) by omega]
      exact hQ
theorem s_var (Γ : rt_Γ l s0 a0 G ca) (hok : zok C) (hs : zSok S) {n : Int} {P : Nat} (hn : -9223372036854775808 ≤ n ∧ n < 9223372036854775808) (h5 : M 84 24 = (P : Int)) (hr : rdW M P (vB n)) (hP : P + (vB n).length ≤ 4200) (hQ : Q n (zu M 84 24 ((P + (vB n).length : Nat) : Int))) : zm_X11_readVarint l s0 G ca d C S M Q X := by
  refine z_X11_readVarint Γ hok hs ?_
  unfold zt_X11_readVarint
  have hz := zz_lt hn.1 hn.2
  have h0 : vN 0 = 0 := by decide
  have := s_varL (d := d) (M := M) (Q := Q) (X := X) (w0 := zw s0 ca C S M) Γ hok hs 9 0 0 128 (zz n) P rfl (by decide) (by decide) (by rw [h0]; decide) (Nat.lt_of_lt_of_le hz (by decide)) (by rw [h0, Nat.pow_zero, Nat.mul_one]; omega) hr hP (by rw [h0, Nat.zero_add, Nat.pow_zero, Nat.mul_one, uz_zz]; exact hQ)
  rw [zu_id h5] at this
  exact this
/-- bytes are passed over -/
theorem s_copy (Γ : rt_Γ l s0 a0 G ca) (hd : 2 ≤ d) (hok : zok C) (hs : zSok S) {n : Nat} {P : Nat} (hn : n ≤ 4200) (h5 : M 84 24 = (P : Int)) (hQ : Q 0 (zu M 84 24 ((P + n : Nat) : Int))) : zm_X11_copyBytes l s0 G ca d C S n 0 M Q X := by
  refine z_X11_copyBytes Γ (by omega) hok hs ?_
  unfold zt_X11_copyBytes
  have gen : ∀ (w0 : rt_Wd) (r k : Nat), k + r = n → zg_X11_copyBytes_3 l s0 G ca d C S w0 (n : Nat) 0 (k : Nat) (zu M 84 24 ((P + k : Nat) : Int)) Q X := by
    intro w0 r
    induction r with
    | zero =>
      intro k hk
      refine zs_X11_copyBytes_3 Γ (by omega) hok hs ?_
      unfold zt_X11_copyBytes_3
      rw [w64_id (by omega) (by omega), w64_id (by omega) (by omega)]
      refine zIf_t (by omega) ?_
      have : k = n := by omega
      subst this
      exact hQ
    | succ r ih =>
      intro k hk
      refine zs_X11_copyBytes_3 Γ (by omega) hok hs ?_
      unfold zt_X11_copyBytes_3
      rw [w64_id (by omega) (by omega), w64_id (by omega) (by omega)]
      refine zIf_f (by omega) (zIf_t (by decide) ?_)
      unfold zt_X11_copyBytes_27
      rw [zu_s, zu_zu, show ((P + k : Nat) : Int) + 1 = ((P + (k + 1) : Nat) : Int) by omega, show (k : Int) + 1 = ((k + 1 : Nat) : Int) by omega]
      exact ih (k + 1) (by omega)
  have := gen (zw s0 ca C S M) n 0 (Nat.zero_add _)
  rw [Nat.add_zero, zu_id h5] at this
  exact this
end ND
