/-! ===== the reference's look: its state; bytes put ===== -/
def mTp (M : zM) (b : List Nat) : Prop := M 84 2 = (b.length : Int) ∧ b.length ≤ 4000 ∧ ∀ j : Nat, j < b.length → M 85 (j : Int) = w8 (b.getD j 0 : Nat) ∧ b.getD j 0 < 256
def mP (M : zM) (st : ySt) : Prop := M 84 16 = (st.1 : Int) ∧ M 84 20 = (st.2.1 : Int) ∧ M 84 19 = (st.2.2 : Int)
/-- what a look may write -/
def mfr (u : Nat) (M M1 : zM) : Prop := ∀ c j : Int, ¬ (c = 84 ∧ 15 ≤ j ∧ j ≤ 20) → ¬ (c = 134 ∧ (u : Int) ≤ j) → M1 c j = M c j
def mO (u : Nat) (w : List Nat) (st : ySt) (M M1 : zM) : Prop := mP M1 st ∧ M1 84 15 = ((u + w.length : Nat) : Int) ∧ (∀ j : Nat, j < w.length → M1 134 ((u + j : Nat) : Int) = w8 (w.getD j 0 : Nat)) ∧ mfr u M M1
def mX (b : List Nat) (u : Nat) (e : Nat × Nat) (M M1 : zM) : Prop := (M1 84 17 = (e.1 : Int) ∧ M1 84 18 = (e.2 : Int) ∧ yE b e) ∧ mfr u M M1
theorem mfr.rf {u : Nat} {M : zM} : mfr u M M := fun _ _ _ _ => rfl
theorem mfr.tr {u v : Nat} {M M1 M2 : zM} (h1 : mfr u M M1) (h2 : mfr v M1 M2) (h : u ≤ v) : mfr u M M2 := fun c j n1 n2 => (h2 c j n1 (fun e => n2 ⟨e.1, by omega⟩)).trans (h1 c j n1 n2)
theorem mfr.zu {u : Nat} {M M1 : zM} (h : mfr u M M1) {k v : Int} (h1 : 15 ≤ k) (h2 : k ≤ 20) : mfr u M (zu M1 84 k v) := fun c j n1 n2 => by
  rw [← h c j n1 n2]
  exact zu_ne (fun e => n1 ⟨e.1, by omega⟩)
theorem mTp.m {u : Nat} {M M1 : zM} {b : List Nat} (h : mTp M b) (hf : mfr u M M1) : mTp M1 b := by
  obtain ⟨h1, h2, h3⟩ := h
  refine ⟨?_, h2, fun j hj => ⟨?_, (h3 j hj).2⟩⟩
  · rw [hf 84 2 (by omega) (by omega)]; exact h1
  · rw [hf 85 j (by omega) (by omega)]; exact (h3 j hj).1
theorem mO.nil {u : Nat} {M : zM} {st : ySt} (h : mP M st) (hu : M 84 15 = (u : Int)) : mO u [] st M M := ⟨h, hu, fun j hj => absurd hj (Nat.not_lt_zero _), mfr.rf⟩
theorem mO.app {u : Nat} {w w2 : List Nat} {st st2 : ySt} {M M1 M2 : zM} (h1 : mO u w st M M1) (h2 : mO (u + w.length) w2 st2 M1 M2) : mO u (w ++ w2) st2 M M2 := by
  obtain ⟨a1, a2, a3, a4⟩ := h1
  obtain ⟨b1, b2, b3, b4⟩ := h2
  refine ⟨b1, by rw [b2, List.length_append]; omega, fun j hj => ?_, a4.tr b4 (Nat.le_add_right _ _)⟩
  rw [List.getD_eq_getElem?_getD]
  by_cases c1 : j < w.length
  · rw [List.getElem?_append_left c1, ← List.getD_eq_getElem?_getD, ← a3 j c1]
    exact b4 _ _ (by omega) (by omega)
  · rw [List.length_append] at hj
    rw [List.getElem?_append_right (by omega), ← List.getD_eq_getElem?_getD, ← b3 (j - w.length) (by omega)]
    rw [show u + j = u + w.length + (j - w.length) by omega]
theorem mO.x {b : List Nat} {u : Nat} {w : List Nat} {st : ySt} {e : Nat × Nat} {M M1 M2 : zM} (h1 : mO u w st M M1) (h2 : mX b (u + w.length) e M1 M2) : mX b u e M M2 := ⟨h2.1, h1.2.2.2.tr h2.2 (Nat.le_add_right _ _)⟩
/-- the place moved -/
theorem mO.mv {u : Nat} {M : zM} {st : ySt} (hP : mP M st) (hu : M 84 15 = (u : Int)) {q : Nat} : mO u [] (q, st.2) M (zu M 84 16 q) := by
  obtain ⟨p1, p2, p3⟩ := hP
  exact ⟨⟨zu_s _ _ _ _, by rw [zu_k (by decide)]; exact p2, by rw [zu_k (by decide)]; exact p3⟩, by rw [zu_k (by decide)]; exact hu, fun j hj => absurd hj (Nat.not_lt_zero _), mfr.rf.zu (by decide) (by decide)⟩
theorem mX.of {b : List Nat} {u : Nat} {M M1 : zM} (hf : mfr u M M1) {k w : Int} {e : Nat × Nat} (h1 : k = e.1) (h2 : w = e.2) (h3 : yE b e) : mX b u e M (zu (zu M1 84 17 k) 84 18 w) :=
  ⟨⟨by rw [zu_k (by decide), zu_s]; exact h1, by rw [zu_s]; exact h2, h3⟩, (hf.zu (by decide) (by decide)).zu (by decide) (by decide)⟩
set_option maxRecDepth 20000 in
theorem zand255 {y : Nat} (h : y < 256) : zand (w8 (y : Int)) 255 = (y : Int) := by
  have e : zand (w8 (y : Int)) 255 = ((Int32.ofInt (w8 (y : Int))).toUInt32 &&& (255 : UInt32)).toInt32.toInt := rfl
  have hb := w8_b (y : Int)
  have hm : (w8 (y : Int) - (y : Int)) % 256 = 0 := by
    unfold w8
    rw [← Int.emod_emod_of_dvd _ (show (256 : Int) ∣ 256 from Int.dvd_refl _)]
    have := Int.bmod_emod (x := (y : Int)) (m := 256)
    omega
  have h1 : ((Int32.ofInt (w8 (y : Int))).toUInt32 &&& (255 : UInt32)).toNat = y := by
    rw [UInt32.toNat_and]
    show (Int32.ofInt (w8 (y : Int))).toUInt32.toNat &&& 255 = _
    have : (((Int32.ofInt (w8 (y : Int))).toUInt32.toNat : Nat) : Int) = w8 (y : Int) % 4294967296 := by
      show (((BitVec.ofInt 32 (w8 (y : Int))).toNat : Nat) : Int) = _
      rw [BitVec.toNat_ofInt]
      omega
    have h2 : (Int32.ofInt (w8 (y : Int))).toUInt32.toNat % 256 = y := by omega
    generalize (Int32.ofInt (w8 (y : Int))).toUInt32.toNat = z at h2
    have h3 : z &&& (2 ^ 8 - 1) = z % 2 ^ 8 := Nat.and_two_pow_sub_one_eq_mod z 8
    exact h3.trans h2
  rw [e]
  generalize (Int32.ofInt (w8 (y : Int))).toUInt32 &&& (255 : UInt32) = z at h1
  show z.toBitVec.toInt = _
  have h2 : z.toBitVec.toNat = y := h1
  rw [BitVec.toInt_eq_toNat_of_lt (by omega), h2]
theorem w8_vN (v : Int) : w8 v = w8 (vN v : Int) := by
  unfold w8
  rw [Int.bmod_def, Int.bmod_def]
  have h := vN_eq v
  have e : (vN v : Int) % ((256 : Nat) : Int) = v % ((256 : Nat) : Int) := by omega
  rw [e]
/-- behind v nothing is put -/
def mtl (v : Nat) (M M1 : zM) : Prop := ∀ j : Int, (v : Int) ≤ j → M1 134 j = M 134 j
section LA
variable {l : Launch} {s0 : State} {a0 : Array Value} {G : va_G} {ca : Nat → ClassId} {d : Nat} {C : Nat × Nat} {S : zS} {M : zM} {Q : Int → zM → Prop} {X : zM → Prop} {b : List Nat} {st : ySt} {u : Nat}
theorem m_fail (Γ : rt_Γ l s0 a0 G ca) (hd : 0 ≤ d) (hok : zok C) (hs : zSok S) {k w : Int} (hX : X (zu (zu M 84 17 k) 84 18 w)) : zm_X11_failBytes l s0 G ca d C S k w M Q X := by
  refine z_X11_failBytes Γ hok hs ?_
  unfold zt_X11_failBytes
  exact hX
/-- a byte is put -/
theorem m_byte (Γ : rt_Γ l s0 a0 G ca) (hd : 2 ≤ d) (hok : zok C) (hs : zSok S) {v : Int} {y : Nat} (hv : w8 v = w8 (y : Int)) (hP : mP M st) (hu : M 84 15 = (u : Int)) (hu2 : u < 4200) (kO : ∀ M1 : zM, mO u [y] st M M1 → mtl (u + 1) M M1 → Q 0 M1) : zm_X11_putByte l s0 G ca d C S v M Q X := by
  refine z_X11_putByte Γ hok hs ?_
  unfold zt_X11_putByte
  rw [hu, w32_id (by omega) (by omega)]
  refine ⟨fun c => by omega, fun _ => ⟨⟨by omega, by omega⟩, ?_⟩⟩
  unfold zt_X11_putByte_21
  rw [w8_w8, hv, zu_a (by decide), hu]
  obtain ⟨p1, p2, p3⟩ := hP
  refine kO _ ⟨⟨by rw [zu_k (by decide), zu_a (by decide)]; exact p1, by rw [zu_k (by decide), zu_a (by decide)]; exact p2, by rw [zu_k (by decide), zu_a (by decide)]; exact p3⟩, by rw [zu_s]; rfl, fun j hj => ?_, fun c j n1 n2 => ?_⟩ ?_
  · have : j = 0 := by simp only [List.length_singleton] at hj; omega
    subst this
    rw [zu_a (by decide)]
    exact zu_s _ _ _ _
  · rw [zu_ne (fun e => n1 ⟨e.1, by omega⟩), zu_ne (fun e => n2 ⟨e.1, by omega⟩)]
  · exact fun j hj => by rw [zu_a (by decide), zu_k (by omega)]
theorem m_putVL (Γ : rt_Γ l s0 a0 G ca) (hd : 3 ≤ d) (hok : zok C) (hs : zSok S) {w0 : rt_Wd} : ∀ (m : Nat) (v3 : Int) (u : Nat) (M : zM), vN v3 < 128 ^ (m + 1) → mP M st → M 84 15 = (u : Int) → u + m + 1 ≤ 4200 → (∀ M1 : zM, mO u (uB (m + 1) (vN v3)) st M M1 → mtl (u + (uB (m + 1) (vN v3)).length) M M1 → Q 0 M1) → zg_X11_putVarint_9 l s0 G ca d C S w0 v3 M Q X := by
  intro m
  induction m with
  | zero =>
    intro v3 u M hv hP hu hur kO
    refine zs_X11_putVarint_9 Γ (by omega) hok hs ?_
    unfold zt_X11_putVarint_9
    have hv1 : vN v3 < 128 := hv
    have e : uB (0 + 1) (vN v3) = [vN v3] := by unfold uB; rw [if_pos hv1]
    rw [e] at kO
    refine zIf_t ((zushr_w0 v3).mpr hv1) ?_
    exact m_byte Γ (by omega) hok hs (y := vN v3) (w8_vN v3) hP hu (by omega) kO
  | succ m ih =>
    intro v3 u M hv hP hu hur kO
    refine zs_X11_putVarint_9 Γ (by omega) hok hs ?_
    unfold zt_X11_putVarint_9
    by_cases hv1 : vN v3 < 128
    · have e : uB (m + 1 + 1) (vN v3) = [vN v3] := by unfold uB; rw [if_pos hv1]
      rw [e] at kO
      refine zIf_t ((zushr_w0 v3).mpr hv1) ?_
      exact m_byte Γ (by omega) hok hs (y := vN v3) (w8_vN v3) hP hu (by omega) kO
    · have e : uB (m + 1 + 1) (vN v3) = (vN v3 % 128 + 128) :: uB (m + 1) (vN v3 / 128) := by
        show (if vN v3 < 128 then _ else _) = _
        rw [if_neg hv1]
      rw [e] at kO
      refine zIf_f (fun h => hv1 ((zushr_w0 v3).mp h)) ?_
      rw [vN_and127, zor128' (Nat.mod_lt _ (by decide))]
      refine m_byte Γ (by omega) hok hs (y := vN v3 % 128 + 128) rfl hP hu (by omega) (fun M1 o ot => ?_)
      have hsh := vN_shr7 v3
      refine ih (zushrL v3 7) (u + 1) M1 (by rw [hsh]; exact Nat.div_lt_of_lt_mul (by rw [Nat.mul_comm, ← Nat.pow_succ]; exact hv)) o.1 o.2.1 (by omega) (fun M2 o2 ot2 => ?_)
      rw [hsh] at o2 ot2
      refine kO _ (mO.app o o2) (fun j hj => ?_)
      rw [List.length_cons] at hj
      rw [ot2 j (by omega), ot j (by omega)]
/-- a number's bytes are put -/
theorem m_putV (Γ : rt_Γ l s0 a0 G ca) (hd : 4 ≤ d) (hok : zok C) (hs : zSok S) {n : Int} (hn : -9223372036854775808 ≤ n ∧ n < 9223372036854775808) (hP : mP M st) (hu : M 84 15 = (u : Int)) (hur : u + 10 ≤ 4200) (kO : ∀ M1 : zM, mO u (vB n) st M M1 → mtl (u + (vB n).length) M M1 → Q 0 M1) : zm_X11_putVarint l s0 G ca d C S n M Q X := by
  refine z_X11_putVarint Γ (by omega) hok hs ?_
  unfold zt_X11_putVarint
  have e := vN_zz n
  have hlt := vN_lt (zxorL (zshlL n 1) (zshrL n 63))
  rw [w64_id hn.1 hn.2] at e
  unfold vB at kO
  rw [← e] at kO
  exact m_putVL Γ (by omega) hok hs 9 _ u M (Nat.lt_of_lt_of_le hlt (by decide)) hP hu (by omega) kO
end LA
