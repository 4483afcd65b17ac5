/-! ===== the class's Teller: what is told, and when it stops ===== -/
section TA9
variable {l : Launch} {s0 : State} {a0 : Array Value} {G : va_G} {ca : Nat → ClassId} {d : Nat} {C : Nat × Nat} {S : zS} {p q mk mka : Int} {M : zM} {Q : Int → zM → Prop} {X : zM → Prop} {u : Nat}
theorem tSh.ce (hS : tSh S p q mk mka) : zCe S 57 58 4096 := ⟨by decide, by decide, by decide, hS.1 57 _ rfl, hS.1 58 _ rfl⟩
theorem t_halt0 (Γ : rt_Γ l s0 a0 G ca) (hok : zok C) (hS : tSh S p q mk mka) {v : Int} (h6 : M 56 11 = 0) (hQ : Q 0 (zu M 56 11 v)) : zm_X7_halt l s0 G ca d C S v M Q X := by
  refine z_X7_halt Γ hok hS.1 hS.2.1 hS.2.2.1 hS.2.2.2.1 hS.2.2.2.2.1 ?_
  unfold zt_X7_halt
  rw [h6]
  exact ⟨fun _ => hQ, fun c => absurd (by decide) c⟩
theorem t_halt1 (Γ : rt_Γ l s0 a0 G ca) (hok : zok C) (hS : tSh S p q mk mka) {v : Int} (h6 : ¬ w32 (M 56 11) = 0) (hQ : Q 0 M) : zm_X7_halt l s0 G ca d C S v M Q X := by
  refine z_X7_halt Γ hok hS.1 hS.2.1 hS.2.2.1 hS.2.2.2.1 hS.2.2.2.2.1 ?_
  unfold zt_X7_halt
  exact ⟨fun c => absurd c h6, fun _ => hQ⟩
/-- behind a stop nothing is told -/
theorem t_putX (Γ : rt_Γ l s0 a0 G ca) (hd : 4 ≤ d) (hok : zok C) (hS : tSh S p q mk mka) {n : Int} (h6 : ¬ w32 (M 56 11) = 0) (hQ : Q 0 M) : zm_X7_put l s0 G ca d C S n M Q X := by
  refine z_X7_put Γ (by omega) hok hS.1 hS.2.1 hS.2.2.1 hS.2.2.2.1 hS.2.2.2.2.1 ?_
  unfold zt_X7_put
  exact ⟨fun c => absurd c h6, fun _ => hQ⟩
/-- a number is told, or there is no room for it -/
theorem t_put (Γ : rt_Γ l s0 a0 G ca) (hd : 4 ≤ d) (hok : zok C) (hS : tSh S p q mk mka) {n : Int} (hn : -9223372036854775808 ≤ n ∧ n < 9223372036854775808) (h6 : M 56 11 = 0) (hu : M 57 1 = (u : Int)) (hul : u ≤ 4096)
    (k1 : u + (vB n).length ≤ 4096 → ∀ M1 : zM, apB M M1 57 58 u (vB n) → Q 0 M1) (k0 : 4096 < u + (vB n).length → ∀ M1 : zM, avF M M1 57 58 u 4096 → Q 0 (zu M1 56 11 (-31))) : zm_X7_put l s0 G ca d C S n M Q X := by
  refine z_X7_put Γ (by omega) hok hS.1 hS.2.1 hS.2.2.1 hS.2.2.2.1 hS.2.2.2.2.1 ?_
  unfold zt_X7_put
  rw [h6]
  refine zIf_t (by decide) ?_
  refine c_addV Γ (by omega) hok hS.ce (by decide) hu hul (fun h M1 f => ?_) (fun h M1 f => ?_)
  · rw [w64_id hn.1 hn.2] at h f
    exact zIf_f (by decide) (k1 h M1 f)
  · rw [w64_id hn.1 hn.2] at h
    refine zIf_t (by decide) (t_halt0 Γ hok hS ?_ (k0 h M1 f))
    rw [f.2 56 11 (by decide) (by omega)]
    exact h6
theorem t_partX (Γ : rt_Γ l s0 a0 G ca) (hd : 4 ≤ d) (hok : zok C) (hS : tSh S p q mk mka) {o f e : Int} {ad : Int} {nd : Nat} (ho : zCe S o ad nd) (h6 : ¬ w32 (M 56 11) = 0) (hQ : Q 0 M) : zm_X7_putPart l s0 G ca d C S o f e M Q X := by
  refine z_X7_putPart Γ (by omega) hok hS.1 hS.2.1 hS.2.2.1 hS.2.2.2.1 hS.2.2.2.2.1 ?_
  unfold zt_X7_putPart
  exact ⟨fun c => absurd c h6, fun _ => hQ⟩
/-- bytes of other Cells are told, or there is no room for them -/
theorem t_part (Γ : rt_Γ l s0 a0 G ca) (hd : 4 ≤ d) (hok : zok C) (hS : tSh S p q mk mka) {o ad : Int} {nd f : Nat} {bs : List Nat} (ho : zCe S o ad nd) (hf : f + bs.length ≤ nd) (hb : rdB M ad f bs) (h6 : M 56 11 = 0) (hu : M 57 1 = (u : Int)) (hul : u ≤ 4096)
    (k1 : u + bs.length ≤ 4096 → ∀ M1 : zM, apB M M1 57 58 u bs → Q 0 M1) (k0 : 4096 < u + bs.length → Q 0 (zu M 56 11 (-31))) : zm_X7_putPart l s0 G ca d C S o f ((f + bs.length : Nat) : Int) M Q X := by
  refine z_X7_putPart Γ (by omega) hok hS.1 hS.2.1 hS.2.2.1 hS.2.2.2.1 hS.2.2.2.2.1 ?_
  unfold zt_X7_putPart
  rw [h6]
  refine zIf_t (by decide) ?_
  refine c_addP Γ hok hS.ce (by decide) ho hu hul hf hb (fun h M1 g => zIf_f (by decide) (k1 h M1 g)) (fun h => zIf_t (by decide) (t_halt0 Γ hok hS h6 (k0 h)))
end TA9
