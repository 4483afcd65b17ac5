/-! ===== the reference's Text: words and numbers ===== -/
theorem getD_map0 (bs : List Int) (i : Nat) : (bs.map Int32.ofInt).getD i 0 = Int32.ofInt (bs.getD i 0) := by
  by_cases h : i < bs.length
  · simp [List.getD, List.getElem?_map, List.getElem?_eq_getElem h]
  · simp [List.getD, List.getElem?_eq_none (Nat.le_of_not_lt h)]
theorem getD_b {bs : List Int} (h : ∀ b ∈ bs, 0 ≤ b ∧ b < 128) (i : Nat) : 0 ≤ bs.getD i 0 ∧ bs.getD i 0 < 128 := by
  by_cases hi : i < bs.length
  · have e : bs.getD i 0 = bs[i] := by simp [List.getD, List.getElem?_eq_getElem hi]
    rw [e]
    exact h _ (List.getElem_mem hi)
  · have e : bs.getD i 0 = 0 := by simp [List.getD, List.getElem?_eq_none (Nat.le_of_not_lt hi)]
    omega
theorem z_chr' {b : Int} (h0 : 0 ≤ b) (h1 : b < 128) : Int32.ofInt b &&& 255 = Int32.ofInt b := by
  have := z_chr ⟨b.toNat, by omega⟩
  simp only [Int.toNat_of_nonneg h0] at this
  exact this
section RV
variable {l : Launch} {s0 : State} {a0 : Array Value} {G : va_G} {ca : Nat → ClassId} {d : Nat} {C : Nat × Nat} {S : zS} {t : Int} {M : zM} {Q : Int → zM → Prop} {X : zM → Prop} {bt : Int → Int} {N p dp W L : Nat}
theorem q_wordL (Γ : rt_Γ l s0 a0 G ca) (hd : 5 ≤ d) (hok : zok C) (ht : zTx S t) (hb : rOk bt N) {w0 : rt_Wd} {v : Int} {q9 : Nat} {bs : List Int} (hq : zstr s0 q9 bs) : ∀ (m i p : Nat) (M : zM), i + m = bs.length → p ≤ N → RS M t bt N p dp W L →
    (∀ e : Nat, jLit (rg bt N) (bs.map Int32.ofInt) m i p = .error e → ∀ M1 : zM, eY t M M1 1 e → X M1) →
    (∀ q : Nat, jLit (rg bt N) (bs.map Int32.ofInt) m i p = .ok q → Q v (zu M t 2 q)) → zg_X10_value_169 l s0 G ca d C S w0 t v q9 bs i M Q X := by
  have hlen := hq.2.2
  intro m
  induction m with
  | zero =>
    intro i p M hi hp hR kE kO
    refine zs_X10_value_169 Γ (by omega) hok ht hq ?_
    unfold zt_X10_value_169
    rw [w32_id (by omega) (by omega), w32_id (by omega) (by omega)]
    refine ⟨fun _ => ?_, fun c => by omega⟩
    have := kO p rfl
    rw [zu_id hR.2.1] at this
    exact this
  | succ m ih =>
    intro i p M hi hp hR kE kO
    refine zs_X10_value_169 Γ (by omega) hok ht hq ?_
    unfold zt_X10_value_169
    rw [w32_id (by omega) (by omega), w32_id (by omega) (by omega)]
    refine ⟨fun c => by omega, fun _ => ⟨⟨by omega, by omega⟩, ?_⟩⟩
    have hbi := getD_b hq.2.1 i
    rw [Int.toNat_natCast]
    have hc : w32 (bs.getD i 0) = bs.getD i 0 := w32_id (by omega) (by omega)
    have hg : rg bt N p = ((bs.map Int32.ofInt).getD i 0 &&& 255) ↔ rb bt N p = bs.getD i 0 := by
      rw [getD_map0, z_chr' hbi.1 hbi.2]
      exact g_eq hb rfl hc
    have e3 : ((i + 1 : Nat) : Int) = (i : Int) + 1 := by omega
    refine q_take Γ (by omega) hok ht hb hR hp hc (fun c => ?_) (fun c => ?_)
    · have hlt : p < N := (rg_T hb).lt (fun e => by have := (g_eq hb (c := -1) (k := -1) rfl (by decide)).mp e; omega)
      rw [← e3]
      refine ih (i + 1) (p + 1) _ (by omega) (by omega) (hR.pos (p + 1)) (fun e he M1 hM1 => kE e ((if_pos (hg.mpr c)).trans he) M1 (hM1.of (zf8.rf.zu (by omega) (by omega)))) (fun q hq9 => ?_)
      rw [zu_zu]
      exact kO q ((if_pos (hg.mpr c)).trans hq9)
    · exact kE p (if_neg (fun e => c (hg.mp e))) _ (eY_zu zf8.rf)
/-- the bound on the next digit, by both -/
theorem jDin_eq {below : Bool} {i : Int32} {v dg : Int} (hi : i = 0 ∨ i = 1) (h0 : 0 ≤ dg) (h1 : dg < 10) (hv0 : -9223372036854775808 ≤ v) (hv1 : v < 9223372036854775808) :
    jDin (if below = true then -9223372036854775808 else -9223372036854775807) (Int32.ofInt dg) i (Int64.ofInt v) = if i = 1 ∧ (-922337203685477580 < v ∨ (v = -922337203685477580 ∧ dg ≤ if below = true then 8 else 7)) then 1 else 0 := by
  have hq : ((if below = true then -9223372036854775808 else -9223372036854775807 : Int64) + (Int32.ofInt dg).toInt64) / 10 = Int64.ofInt (if dg ≤ (if below = true then 8 else 7) then -922337203685477580 else -922337203685477579) := by
    have key : ∀ k : Fin 10, ((if below = true then -9223372036854775808 else -9223372036854775807 : Int64) + (Int32.ofInt ((k : Nat) : Int)).toInt64) / 10 = Int64.ofInt (if ((k : Nat) : Int) ≤ (if below = true then 8 else 7) then -922337203685477580 else -922337203685477579) := by
      cases below <;> decide +kernel
    have := key ⟨dg.toNat, by omega⟩
    simp only [Int.toNat_of_nonneg h0] at this
    exact this
  unfold jDin
  rw [hq]
  generalize (if below = true then (8 : Int) else 7) = lim at *
  obtain ⟨T, hT⟩ : ∃ T : Int, T = if dg ≤ lim then -922337203685477580 else -922337203685477579 := ⟨_, rfl⟩
  rw [← hT]
  have hTc : (dg ≤ lim ∧ T = -922337203685477580) ∨ (¬ dg ≤ lim ∧ T = -922337203685477579) := by
    by_cases c : dg ≤ lim
    · exact Or.inl ⟨c, by rw [hT, if_pos c]⟩
    · exact Or.inr ⟨c, by rw [hT, if_neg c]⟩
  rcases hi with rfl | rfl
  · rw [if_pos rfl, if_neg (fun c => absurd c.1 (by decide))]
  · rw [if_neg (by decide)]
    have hge := lg_cmp_ge (Int64.ofInt v) (Int64.ofInt T)
    have hle : Int64.ofInt T ≤ Int64.ofInt v ↔ T ≤ v := by
      rw [Int64.le_iff_toInt_le, z_toL, z_toL, w64_id (x := v) hv0 hv1, w64_id (by omega) (by omega)]
    by_cases c : v < T
    · rw [if_pos (Int32.not_le.mp (fun x => Int.not_le.mpr c (hle.mp (hge.mp x)))), if_neg]
      rintro ⟨-, h⟩
      omega
    · rw [if_neg (fun x => Int32.not_le.mpr x (hge.mpr (hle.mpr (by omega)))), if_pos]
      refine ⟨rfl, ?_⟩
      omega
end RV
