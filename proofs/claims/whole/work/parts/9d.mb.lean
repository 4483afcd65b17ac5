/-! ===== the class's lookAtRows ===== -/
def yAll (ns : List SN) (b : List Nat) (root : Nat) : Except (Option (Nat × Nat)) (List (List Nat)) := if b.length = 0 then .error none else yRows ns b root (b.length + 1) 0
theorem zcut0 {M : zM} {c : Int} : zcut M c 4096 0 = zu M c 1 0 := by
  unfold zcut
  rw [show w32 0 = 0 by decide, if_neg (by decide), if_neg (by decide)]
theorem l_rows {l : Launch} {s0 : State} {a0 : Array Value} {G : va_G} {ca : Nat → ClassId} {d : Nat} {C : Nat × Nat} {S : zS} {M : zM} {Q : Int → zM → Prop} {X : zM → Prop} {b : List Nat} {st : SS} {NU root : Nat} {p r : Int} (Γ : rt_Γ l s0 a0 G ca) (hd : 200 ≤ d) (hok : zok C) (hS : vSh S p r) (hF : kF st) (hO : kOk st) (hN : b.length ≤ 4000) (hT0 : lTp M b) (hG0 : gC M p NU st) (hroot : M p 12 = (root : Int)) (hrt : root < 6 + st.ns.length)
    (kE : ∀ e : Nat × Nat, yAll st.ns b root = .error (some e) → ∀ M1 : zM, M1 55 7 = (e.2 : Int) → vfr r M M1 → Q (-(e.1 : Int)) M1)
    (kN : yAll st.ns b root = .error none → ∀ M1 : zM, M1 55 7 = -1 → vfr r M M1 → Q (-34) M1)
    (kO : ∀ L : List (List Nat), yAll st.ns b root = .ok L → ∀ M1 : zM, M1 55 7 = -1 → vfr r M M1 → rws M1 r L → Q (L.length : Nat) M1) : zm_X4_lookAtRows l s0 G ca d C S 1 p r M Q X := by
  obtain ⟨hs, hp, hr, h53, hp0, r0, r1⟩ := id hS
  refine z_X4_lookAtRows Γ (by omega) hok hs h53 ?_
  unfold zt_X4_lookAtRows
  refine zIf_f (by decide) (zIf_f (by omega) (zIf_f (by omega) ⟨2, 4096, ⟨by decide, by decide, by decide, hs 1 _ rfl, hs 2 _ rfl⟩, ?_⟩))
  have f0 : vfr r M (zu (zu (zu M 55 7 (-1)) 55 6 0) 55 3 0) := ((vfr.rf.u53 (by decide) (by decide)).u53 (by decide) (by decide)).u53 (by decide) (by decide)
  rw [f0 1 1 (by omega) (by omega), hT0.1, w32_id (by omega) (by omega)]
  unfold yAll at kE kN kO
  refine ⟨fun c => ?_, fun c => ⟨hr, ?_⟩⟩
  · rw [if_pos (by omega)] at kN
    exact kN rfl _ (by rw [zu_k (by decide), zu_k (by decide), zu_s]) f0
  · rw [if_neg (by omega)] at kE kN kO
    rw [zcut0, zcut0]
    have hf : vfr r M (zu (zu (zu (zu (zu (zu (zu (zu M 55 7 (-1)) 55 6 0) 55 3 0) 55 0 1) 55 1 p) 55 2 (r + 1)) (r + 1) 1 0) (r + 3) 1 0) := ((((f0.u53 (by decide) (by decide)).u53 (by decide) (by decide)).u53 (by decide) (by decide)).ur (by omega) (by omega)).ur (by omega) (by omega)
    refine l_rowsL Γ hd hok hS hF hO hN hT0 hG0 (by rw [Int.add_zero]; exact hroot) hrt (b.length + 1) 0 [] _ (by omega) (Nat.zero_le _) (Nat.zero_le _) (Nat.zero_le _) hf ⟨?_, ?_, ?_⟩ ?_ ⟨?_, ?_⟩ ⟨?_, fun j hj => absurd hj (Nat.not_lt_zero _), ?_, fun i hi => absurd hi (Nat.not_lt_zero _)⟩ kE kN (fun L2 h M1 => kO L2 h M1)
    · rw [zu_a (by omega), zu_a (by omega), zu_k (by decide), zu_k (by decide), zu_s]
    · rw [zu_a (by omega), zu_a (by omega), zu_k (by decide), zu_s]
    · rw [zu_a (by omega), zu_a (by omega), zu_s]
    · rw [zu_a (by omega), zu_a (by omega), zu_k (by decide), zu_k (by decide), zu_k (by decide), zu_s]
      rfl
    · rw [zu_a (by omega), zu_a (by omega), zu_k (by decide), zu_k (by decide), zu_k (by decide), zu_k (by decide), zu_s]
    · rw [zu_a (by omega), zu_a (by omega), zu_k (by decide), zu_k (by decide), zu_k (by decide), zu_k (by decide), zu_k (by decide), zu_s]
    · rw [zu_a (by omega), zu_s]
      rfl
    · rw [zu_s]
      rfl
