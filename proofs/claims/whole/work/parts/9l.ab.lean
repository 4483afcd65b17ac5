/-! ===== the reference reads a kept text again; tells rows; whether one fits ===== -/
/-- room for what a call may make -/
def zokB (C : Nat × Nat) : Prop := C.1 ≤ 590000 ∧ C.2 ≤ 7200000
/-- some exceptions more -/
def zcl (n : Nat) (C C1 : Nat × Nat) : Prop := C.1 ≤ C1.1 ∧ C1.1 ≤ C.1 + n ∧ C.2 ≤ C1.2 ∧ C1.2 ≤ C.2 + 6 * n
theorem zcl.rf {n : Nat} {C : Nat × Nat} : zcl n C C := ⟨Nat.le_refl _, Nat.le_add_right _ _, Nat.le_refl _, Nat.le_add_right _ _⟩
theorem zcl.tr {n m : Nat} {C C1 C2 : Nat × Nat} (h : zcl n C C1) (h1 : zcl m C1 C2) : zcl (n + m) C C2 := by
  obtain ⟨a1, a2, a3, a4⟩ := h
  obtain ⟨b1, b2, b3, b4⟩ := h1
  exact ⟨by omega, by omega, by omega, by omega⟩
theorem zcl.ok {n : Nat} {C C1 : Nat × Nat} (h : zcl n C C1) (hb : zokB C) (hn : n ≤ 1000) : zok C1 := by
  obtain ⟨a1, a2, a3, a4⟩ := h
  obtain ⟨b1, b2⟩ := hb
  exact ⟨by omega, by omega⟩
/-- the kept text k of the reference -/
def kpt (M : zM) (k : Nat) (tb : List Nat) : Prop := M 131 (k : Int) = (tb.length : Int) ∧ ∀ j : Nat, j < tb.length → M 130 ((4096 * k + j : Nat) : Int) = w8 (tb.getD j 0 : Nat)
theorem kpt.fr {M M1 : zM} {k : Nat} {tb : List Nat} (h : kpt M k tb) (e : ∀ a j : Int, a = 130 ∨ a = 131 → M1 a j = M a j) : kpt M1 k tb := ⟨(e _ _ (Or.inr rfl)).trans h.1, fun j hj => (e _ _ (Or.inl rfl)).trans (h.2 j hj)⟩
section LB
variable {l : Launch} {s0 : State} {a0 : Array Value} {G : va_G} {ca : Nat → ClassId} {d : Nat} {C : Nat × Nat} {S : zS} {t : Int} {M : zM} {Q : Nat × Nat → Int → zM → Prop} {root : Nat} {st : SS} {xs : List JR} {tb : List Nat} {k : Nat}
theorem r_get (Γ : rt_Γ l s0 a0 G ca) (hd : 302 ≤ d) (hok : zok C) (hb : C.1 ≤ 598000 ∧ C.2 ≤ 7280000) (hs : zSok S) (ht : t = 86 ∨ t = 108) (hk : k < 8) (hg : gT tb xs root st) (hM : kpt M k tb)
    (kO : ∀ (C1 : Nat × Nat) (M1 : zM), zcl 1 C C1 → rTx M1 t xs → rC M1 t xs st → M1 t 31 = (root : Int) → zfr t M M1 → Q C1 0 M1) : zu_X11_read l s0 G ca d C S t k M Q := by
  have htx : zTx S t := by
    rcases ht with h | h
    · rw [h]; exact (zTx_of hs).1
    · rw [h]; exact (zTx_of hs).2
  obtain ⟨⟨g1, g2⟩, g3, g4⟩ := id hg
  refine z_X11_read Γ (by omega) hok hs ?_
  unfold zt_X11_read
  refine ⟨⟨by omega, by omega⟩, htx, ?_⟩
  rw [hM.1, show (4096 * (k : Int)) = ((4096 * k : Nat) : Int) by omega]
  obtain ⟨h1, h2⟩ := tbF_r (br := fun j => w8 (tb.getD j.toNat 0 : Nat)) g1 g2 (fun j hj => rfl)
  have hread := r_read (l := l) (s0 := s0) (a0 := a0) (G := G) (ca := ca) (d := d - 1) (C := C) (S := S) (M := M) (t := t) (o := 130) (A := 32768) (f := 4096 * k) (n := tb.length) (bt := fun j => w8 (tb.getD j.toNat 0 : Nat)) (Q := fun v M1 => v = 0 ∧ rTx M1 t xs ∧ rC M1 t xs st ∧ M1 t 31 = (root : Int) ∧ zfr t M M1) Γ (by omega) hok htx ⟨by decide, hs 130 _ rfl, by decide⟩ (by omega) (by omega) g1 h1 (fun j hj => hM.2 j hj) (fun e he => ?_) (fun xs2 e he hd2 => ?_) (fun xs2 r2 st2 he hd2 _ M1 m1 m2 m3 m4 => ?_)
  · refine zMetC.u hread (fun C1 v M1 c1 c2 c3 c4 hq => ?_)
    obtain ⟨rfl, q1, q2, q3, q4⟩ := hq
    exact ⟨⟨by omega, by omega⟩, kO C1 M1 ⟨c1, c2, c3, c4⟩ q1 q2 q3 q4⟩
  · rw [h2, g3] at he
    exact nomatch he
  · rw [h2, g3] at he
    cases he
    rw [g4] at hd2
    exact nomatch hd2
  · rw [h2, g3] at he
    cases he
    rw [g4] at hd2
    cases hd2
    exact ⟨rfl, m1, m2, m3, m4⟩
end LB
