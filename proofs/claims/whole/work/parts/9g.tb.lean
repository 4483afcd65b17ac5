/-! ===== the reference tells: bytes and numbers ===== -/
/-- what telling may write -/
def tfr (u : Nat) (M M1 : zM) : Prop := ∀ c j : Int, ¬ (c = 84 ∧ (j = 15 ∨ j = 17 ∨ j = 18)) → ¬ (c = 134 ∧ (u : Int) ≤ j) → M1 c j = M c j
theorem tfr.rf {u : Nat} {M : zM} : tfr u M M := fun _ _ _ _ => rfl
theorem tfr.tr {u v : Nat} {M M1 M2 : zM} (h1 : tfr u M M1) (h2 : tfr v M1 M2) (h : u ≤ v) : tfr u M M2 := fun c j n1 n2 => (h2 c j n1 (fun e => n2 ⟨e.1, by omega⟩)).trans (h1 c j n1 n2)
/-- the bytes w are told behind the u there were -/
def tO2 (u : Nat) (w : List Nat) (M M1 : zM) : Prop := M1 84 15 = ((u + w.length : Nat) : Int) ∧ (∀ j : Nat, j < w.length → M1 134 ((u + j : Nat) : Int) = w8 (w.getD j 0 : Nat)) ∧ tfr u M M1
/-- it was stopped: 31, no room; 20, unresolved -/
def tX2 (u : Nat) (k : Int) (M M1 : zM) : Prop := M1 84 17 = k ∧ tfr u M M1
theorem tO2.nil {u : Nat} {M : zM} (hu : M 84 15 = (u : Int)) : tO2 u [] M M := ⟨hu, fun j hj => absurd hj (Nat.not_lt_zero _), tfr.rf⟩
theorem tO2.app {u : Nat} {w w2 : List Nat} {M M1 M2 : zM} (h1 : tO2 u w M M1) (h2 : tO2 (u + w.length) w2 M1 M2) : tO2 u (w ++ w2) M M2 := by
  obtain ⟨a2, a3, a4⟩ := h1
  obtain ⟨b2, b3, b4⟩ := h2
  refine ⟨by rw [b2, List.length_append]; omega, fun j hj => ?_, a4.tr b4 (Nat.le_add_right _ _)⟩
  rw [List.getD_eq_getElem?_getD]
  by_cases c1 : j < w.length
  · rw [List.getElem?_append_left c1, ← List.getD_eq_getElem?_getD, ← a3 j c1]
    exact b4 _ _ (by omega) (by omega)
  · rw [List.length_append] at hj
    rw [List.getElem?_append_right (by omega), ← List.getD_eq_getElem?_getD, ← b3 (j - w.length) (by omega)]
    rw [show u + j = u + w.length + (j - w.length) by omega]
theorem tO2.x {u : Nat} {w : List Nat} {k : Int} {M M1 M2 : zM} (h1 : tO2 u w M M1) (h2 : tX2 (u + w.length) k M1 M2) : tX2 u k M M2 := ⟨h2.1, h1.2.2.tr h2.2 (Nat.le_add_right _ _)⟩
section TB9
variable {l : Launch} {s0 : State} {a0 : Array Value} {G : va_G} {ca : Nat → ClassId} {d : Nat} {C : Nat × Nat} {S : zS} {M : zM} {Q : Int → zM → Prop} {X : zM → Prop} {u : Nat}
theorem n_byte (Γ : rt_Γ l s0 a0 G ca) (hd : 2 ≤ d) (hok : zok C) (hs : zSok S) {v : Int} {y : Nat} (hv : w8 v = w8 (y : Int)) (hu : M 84 15 = (u : Int)) (hul : u ≤ 4096) (h25 : M 84 25 = 4096)
    (kO : u + 1 ≤ 4096 → ∀ M1 : zM, tO2 u [y] M M1 → Q 0 M1) (kX : 4096 < u + 1 → ∀ M1 : zM, tX2 u 31 M M1 → X M1) : zm_X11_tellByte l s0 G ca d C S v M Q X := by
  refine z_X11_tellByte Γ (by omega) hok hs ?_
  unfold zt_X11_tellByte
  rw [hu, h25, w32_id (by omega) (by omega), w32_id (by omega) (by omega)]
  refine ⟨fun c => ?_, fun c => ?_⟩
  · refine m_fail Γ (Nat.zero_le _) hok hs (kX (by omega) _ ⟨by rw [zu_k (by decide), zu_s], fun a j n1 n2 => ?_⟩)
    rw [zu_ne (fun e => n1 ⟨e.1, by omega⟩), zu_ne (fun e => n1 ⟨e.1, by omega⟩)]
  · unfold zt_X11_tellByte_18
    rw [hu, w8_w8, hv]
    refine ⟨⟨by omega, by omega⟩, kO (by omega) _ ⟨by rw [zu_s]; rfl, fun j hj => ?_, fun a j n1 n2 => ?_⟩⟩
    · have : j = 0 := by simp only [List.length_singleton] at hj; omega
      subst this
      rw [zu_a (by decide)]
      exact zu_s _ _ _ _
    · rw [zu_ne (fun e => n1 ⟨e.1, by omega⟩), zu_ne (fun e => n2 ⟨e.1, by omega⟩)]
theorem n_varL (Γ : rt_Γ l s0 a0 G ca) (hd : 3 ≤ d) (hok : zok C) (hs : zSok S) {w0 : rt_Wd} : ∀ (m : Nat) (v3 : Int) (u : Nat) (M : zM), vN v3 < 128 ^ (m + 1) → M 84 15 = (u : Int) → u ≤ 4096 → M 84 25 = 4096 → (u + (uB (m + 1) (vN v3)).length ≤ 4096 → ∀ M1 : zM, tO2 u (uB (m + 1) (vN v3)) M M1 → Q 0 M1) → (4096 < u + (uB (m + 1) (vN v3)).length → ∀ M1 : zM, tX2 u 31 M M1 → X M1) → zg_X11_tellVarint_9 l s0 G ca d C S w0 v3 M Q X := by
  intro m
  induction m with
  | zero =>
    intro v3 u M hv hu hul h25 kO kX
    refine zs_X11_tellVarint_9 Γ (by omega) hok hs ?_
    unfold zt_X11_tellVarint_9
    have hv1 : vN v3 < 128 := hv
    have e : uB (0 + 1) (vN v3) = [vN v3] := by unfold uB; rw [if_pos hv1]
    rw [e] at kO kX
    refine zIf_t ((zushr_w0 v3).mpr hv1) ?_
    exact n_byte Γ (by omega) hok hs (y := vN v3) (w8_vN v3) hu hul h25 kO kX
  | succ m ih =>
    intro v3 u M hv hu hul h25 kO kX
    refine zs_X11_tellVarint_9 Γ (by omega) hok hs ?_
    unfold zt_X11_tellVarint_9
    by_cases hv1 : vN v3 < 128
    · have e : uB (m + 1 + 1) (vN v3) = [vN v3] := by unfold uB; rw [if_pos hv1]
      rw [e] at kO kX
      refine zIf_t ((zushr_w0 v3).mpr hv1) ?_
      exact n_byte Γ (by omega) hok hs (y := vN v3) (w8_vN v3) hu hul h25 kO kX
    · have e : uB (m + 1 + 1) (vN v3) = (vN v3 % 128 + 128) :: uB (m + 1) (vN v3 / 128) := by
        show (if vN v3 < 128 then _ else _) = _
        rw [if_neg hv1]
      rw [e, List.length_cons] at kO kX
      refine zIf_f (fun h => hv1 ((zushr_w0 v3).mp h)) ?_
      rw [vN_and127, zor128' (Nat.mod_lt _ (by decide))]
      refine n_byte Γ (by omega) hok hs (y := vN v3 % 128 + 128) rfl hu hul h25 (fun h1 M1 o => ?_) (fun h1 M1 x => kX (by omega) M1 x)
      have hsh := vN_shr7 v3
      have h25b : M1 84 25 = 4096 := by rw [o.2.2 84 25 (by omega) (by omega)]; exact h25
      refine ih (zushrL v3 7) (u + 1) M1 (by rw [hsh]; exact Nat.div_lt_of_lt_mul (by rw [Nat.mul_comm, ← Nat.pow_succ]; exact hv)) o.1 h1 h25b (fun h2 M2 o2 => ?_) (fun h2 M2 x => ?_)
      · rw [hsh] at h2 o2
        exact kO (by omega) _ (tO2.app o o2)
      · rw [hsh] at h2
        exact kX (by omega) _ (o.x x)
/-- a number is told, or there is no room for it -/
theorem n_put (Γ : rt_Γ l s0 a0 G ca) (hd : 4 ≤ d) (hok : zok C) (hs : zSok S) {n : Int} (hn : -9223372036854775808 ≤ n ∧ n < 9223372036854775808) (hu : M 84 15 = (u : Int)) (hul : u ≤ 4096) (h25 : M 84 25 = 4096) (kO : u + (vB n).length ≤ 4096 → ∀ M1 : zM, tO2 u (vB n) M M1 → Q 0 M1) (kX : 4096 < u + (vB n).length → ∀ M1 : zM, tX2 u 31 M M1 → X M1) : zm_X11_tellVarint l s0 G ca d C S n M Q X := by
  refine z_X11_tellVarint Γ (by omega) hok hs ?_
  unfold zt_X11_tellVarint
  have e := vN_zz n
  have hlt := vN_lt (zxorL (zshlL n 1) (zshrL n 63))
  rw [w64_id hn.1 hn.2] at e
  unfold vB at kO kX
  rw [← e] at kO kX
  exact n_varL Γ (by omega) hok hs 9 _ u M (Nat.lt_of_lt_of_le hlt (by decide)) hu hul h25 kO kX
end TB9
