/-! ===== Cells: bytes are put behind what stands ===== -/
/-- the bytes bs stand behind the u there were -/
def apB (M M1 : zM) (c a : Int) (u : Nat) (bs : List Nat) : Prop :=
  M1 c 1 = ((u + bs.length : Nat) : Int) ∧ (∀ j : Nat, j < bs.length → M1 a ((u + j : Nat) : Int) = (bs.getD j 0 : Nat)) ∧ ∀ b j : Int, ¬ (b = c ∧ j = 1) → ¬ (b = a ∧ (u : Int) ≤ j) → M1 b j = M b j
/-- no room: something may stand behind what stood there -/
def avF (M M1 : zM) (c a : Int) (u n : Nat) : Prop := (∃ w : Nat, M1 c 1 = (w : Int) ∧ u ≤ w ∧ w ≤ n) ∧ ∀ b j : Int, ¬ (b = c ∧ j = 1) → ¬ (b = a ∧ (u : Int) ≤ j) → M1 b j = M b j
theorem apB.nil {M : zM} {c a : Int} {u : Nat} (h : M c 1 = (u : Int)) : apB M M c a u [] := ⟨h, fun j hj => absurd hj (Nat.not_lt_zero _), fun _ _ _ _ => rfl⟩
theorem apB.app {M M1 M2 : zM} {c a : Int} {u : Nat} {bs cs : List Nat} (hca : ¬ c = a) (h1 : apB M M1 c a u bs) (h2 : apB M1 M2 c a (u + bs.length) cs) : apB M M2 c a u (bs ++ cs) := by
  obtain ⟨a1, a2, a3⟩ := h1
  obtain ⟨b1, b2, b3⟩ := h2
  refine ⟨by rw [b1, List.length_append]; omega, fun j hj => ?_, fun b j n1 n2 => ?_⟩
  · rw [List.getD_eq_getElem?_getD]
    by_cases c1 : j < bs.length
    · rw [List.getElem?_append_left c1, ← List.getD_eq_getElem?_getD, ← a2 j c1]
      exact b3 _ _ (fun h => hca h.1.symm) (fun h => by omega)
    · rw [List.length_append] at hj
      rw [List.getElem?_append_right (by omega), ← List.getD_eq_getElem?_getD, ← b2 (j - bs.length) (by omega)]
      rw [show u + j = u + bs.length + (j - bs.length) by omega]
  · rw [b3 b j n1 (fun h => n2 ⟨h.1, by omega⟩)]
    exact a3 b j n1 n2
theorem apB.fail {M M1 M2 : zM} {c a : Int} {u n : Nat} {bs : List Nat} (h1 : apB M M1 c a u bs) (h2 : avF M1 M2 c a (u + bs.length) n) : avF M M2 c a u n := by
  obtain ⟨⟨w, w1, w2, w3⟩, b3⟩ := h2
  exact ⟨⟨w, w1, by omega, w3⟩, fun b j n1 n2 => (b3 b j n1 (fun h => n2 ⟨h.1, by omega⟩)).trans (h1.2.2 b j n1 n2)⟩
theorem avF.rf {M : zM} {c a : Int} {u n : Nat} (h : M c 1 = (u : Int)) (hu : u ≤ n) : avF M M c a u n := ⟨⟨u, h, Nat.le_refl _, hu⟩, fun _ _ _ _ => rfl⟩
section VB
variable {l : Launch} {s0 : State} {a0 : Array Value} {G : va_G} {ca : Nat → ClassId} {d : Nat} {C : Nat × Nat} {S : zS} {c a : Int} {n : Nat} {M : zM} {Q : Int → zM → Prop} {X : zM → Prop}
theorem c_add1 (Γ : rt_Γ l s0 a0 G ca) (hok : zok C) (hc : zCe S c a n) (hca : ¬ c = a) {x u : Nat} (hu : M c 1 = (u : Int)) (hun : u ≤ n)
    (k1 : u + 1 ≤ n → ∀ M1 : zM, apB M M1 c a u [x] → Q 1 M1) (k0 : n < u + 1 → Q 0 M) : zm_X0_add l s0 G ca d C S c (x : Int) M Q X := by
  have hn := hc.2.2.1
  refine k_X0_add Γ hok hc ?_
  by_cases h : u < n
  · obtain ⟨e1, e2⟩ := zadd_in (x := (x : Int)) hu hca (by omega) (show (u : Int) < n by omega) (by omega)
    rw [e1, e2]
    refine k1 h _ ⟨zu_s _ _ _ _, fun j hj => ?_, fun b j n1 n2 => ?_⟩
    · have : j = 0 := by simp only [List.length_singleton] at hj; omega
      subst this
      rw [zu_a (fun e => hca e.symm)]
      exact zu_s _ _ _ _
    · unfold zu
      rw [if_neg n1, if_neg (fun e => n2 ⟨e.1, by omega⟩)]
  · obtain ⟨e1, e2⟩ := zadd_full (x := (x : Int)) hu (by omega) (show (n : Int) ≤ u by omega) (by omega)
    rw [e1, e2]
    exact k0 (by omega)
theorem c_addVL (Γ : rt_Γ l s0 a0 G ca) (hd : 2 ≤ d) (hok : zok C) (hc : zCe S c a n) (hca : ¬ c = a) {w0 : rt_Wd} : ∀ (m k : Nat) (v3 : Int) (u : Nat) (M : zM), k + (m + 1) = 10 → vN v3 < 128 ^ (m + 1) → M c 1 = (u : Int) → u ≤ n →
    (u + (uB (m + 1) (vN v3)).length ≤ n → ∀ M1 : zM, apB M M1 c a u (uB (m + 1) (vN v3)) → Q 1 M1) → (n < u + (uB (m + 1) (vN v3)).length → ∀ M1 : zM, avF M M1 c a u n → Q 0 M1) →
    zg_X0_addVarint_12 l s0 G ca d C S w0 c a n v3 k M Q X := by
  intro m
  induction m with
  | zero =>
    intro k v3 u M hk hv hu hun k1 k0
    refine zs_X0_addVarint_12 Γ (by omega) hok hc ?_
    unfold zt_X0_addVarint_12
    have hv1 : vN v3 < 128 := hv
    have e : uB (0 + 1) (vN v3) = [vN v3] := by unfold uB; rw [if_pos hv1]
    rw [e] at k1 k0
    rw [w32_id (x := (k : Int)) (by omega) (by omega)]
    refine ⟨fun c1 => by omega, fun _ => ⟨fun _ => ?_, fun c1 => absurd ((zushr_w0 v3).mpr hv1) c1⟩⟩
    unfold zt_X0_addVarint_33
    refine ⟨fun c1 => absurd c1 (by decide), fun _ => ?_⟩
    unfold zt_X0_addVarint_54
    rw [vN_and127, Nat.mod_eq_of_lt hv1, zor0' hv1]
    refine c_add1 Γ hok hc hca hu hun (fun h M1 f => ?_) (fun h => ?_)
    · exact ⟨fun c1 => absurd c1 (by decide), fun _ => ⟨fun c1 => absurd c1 (by decide), fun _ => k1 h M1 f⟩⟩
    · exact ⟨fun _ => k0 h M (avF.rf hu hun), fun c1 => absurd (by decide) c1⟩
  | succ m ih =>
    intro k v3 u M hk hv hu hun k1 k0
    refine zs_X0_addVarint_12 Γ (by omega) hok hc ?_
    unfold zt_X0_addVarint_12
    rw [w32_id (x := (k : Int)) (by omega) (by omega)]
    refine ⟨fun c1 => by omega, fun _ => ⟨fun cz => ?_, fun cz => ?_⟩⟩
    · have hv1 := (zushr_w0 v3).mp cz
      have e : uB (m + 1 + 1) (vN v3) = [vN v3] := by unfold uB; rw [if_pos hv1]
      rw [e] at k1 k0
      unfold zt_X0_addVarint_33
      refine ⟨fun c1 => absurd c1 (by decide), fun _ => ?_⟩
      unfold zt_X0_addVarint_54
      rw [vN_and127, Nat.mod_eq_of_lt hv1, zor0' hv1]
      refine c_add1 Γ hok hc hca hu hun (fun h M1 f => ?_) (fun h => ?_)
      · exact ⟨fun c1 => absurd c1 (by decide), fun _ => ⟨fun c1 => absurd c1 (by decide), fun _ => k1 h M1 f⟩⟩
      · exact ⟨fun _ => k0 h M (avF.rf hu hun), fun c1 => absurd (by decide) c1⟩
    · have hv1 : ¬ vN v3 < 128 := fun h => cz ((zushr_w0 v3).mpr h)
      have e : uB (m + 1 + 1) (vN v3) = (vN v3 % 128 + 128) :: uB (m + 1) (vN v3 / 128) := by
        show (if vN v3 < 128 then _ else _) = _
        rw [if_neg hv1]
      rw [e, List.length_cons] at k1 k0
      unfold zt_X0_addVarint_33
      refine ⟨fun _ => ?_, fun c1 => absurd (by decide) c1⟩
      unfold zt_X0_addVarint_54
      rw [vN_and127, zor128' (Nat.mod_lt _ (by decide)), show (k : Int) + 1 = ((k + 1 : Nat) : Int) by omega]
      refine c_add1 Γ hok hc hca hu hun (fun h M1 f => ?_) (fun h => ?_)
      · refine ⟨fun c1 => absurd c1 (by decide), fun _ => ⟨fun _ => ?_, fun c1 => absurd (by decide) c1⟩⟩
        have hsh := vN_shr7 v3
        have hl1 : vN (zushrL v3 7) < 128 ^ (m + 1) := by
          rw [hsh]
          exact Nat.div_lt_of_lt_mul (by rw [Nat.mul_comm, ← Nat.pow_succ]; exact hv)
        refine ih (k + 1) (zushrL v3 7) (u + 1) M1 (by omega) hl1 f.1 h (fun h2 M2 g => ?_) (fun h2 M2 g => ?_)
        · rw [hsh] at h2 g
          exact k1 (by omega) M2 (apB.app hca f g)
        · rw [hsh] at h2
          exact k0 (by omega) M2 (f.fail g)
      · exact ⟨fun _ => k0 (by omega) M (avF.rf hu hun), fun c1 => absurd (by decide) c1⟩
/-- a number in its bytes -/
theorem c_addV (Γ : rt_Γ l s0 a0 G ca) (hd : 2 ≤ d) (hok : zok C) (hc : zCe S c a n) (hca : ¬ c = a) {v : Int} {u : Nat} (hu : M c 1 = (u : Int)) (hun : u ≤ n)
    (k1 : u + (vB (w64 v)).length ≤ n → ∀ M1 : zM, apB M M1 c a u (vB (w64 v)) → Q 1 M1) (k0 : n < u + (vB (w64 v)).length → ∀ M1 : zM, avF M M1 c a u n → Q 0 M1) : zm_X0_addVarint l s0 G ca d C S c v M Q X := by
  refine z_X0_addVarint Γ (by omega) hok hc ?_
  unfold zt_X0_addVarint
  have e := vN_zz v
  have hlt := vN_lt (zxorL (zshlL v 1) (zshrL v 63))
  unfold vB at k1 k0
  rw [← e] at k1 k0
  exact c_addVL Γ hd hok hc hca 9 0 _ u M rfl (Nat.lt_of_lt_of_le hlt (by decide)) hu hun k1 k0
/-- a part of other Cells -/
theorem c_addP (Γ : rt_Γ l s0 a0 G ca) (hok : zok C) (hc : zCe S c a n) (hca : ¬ c = a) {o ad : Int} {nd : Nat} (ho : zCe S o ad nd) {f u : Nat} {bs : List Nat} (hu : M c 1 = (u : Int)) (hun : u ≤ n) (hf : f + bs.length ≤ nd) (hb : ∀ j : Nat, j < bs.length → M ad ((f + j : Nat) : Int) = (bs.getD j 0 : Nat))
    (k1 : u + bs.length ≤ n → ∀ M1 : zM, apB M M1 c a u bs → Q 1 M1) (k0 : n < u + bs.length → Q 0 M) : zm_X0_addPart l s0 G ca d C S c o (f : Nat) ((f + bs.length : Nat) : Int) M Q X := by
  refine z_addPart Γ hok hc ho hu hun (Nat.le_add_right _ _) hf (fun h => k0 (by omega)) (fun h => ?_) hca
  refine k1 (by omega) _ ⟨by rw [zu_s]; omega, fun j hj => ?_, fun b j n1 n2 => ?_⟩
  · rw [zu_a (fun e => hca e.symm)]
    unfold zcp
    rw [if_pos ⟨rfl, by omega, by omega⟩, ← hb j hj, show (f : Int) + (((u + j : Nat) : Int) - (u : Int)) = ((f + j : Nat) : Int) by omega]
  · unfold zu
    rw [if_neg n1]
    unfold zcp
    rw [if_neg (fun e => n2 ⟨e.1, by omega⟩)]
end VB
