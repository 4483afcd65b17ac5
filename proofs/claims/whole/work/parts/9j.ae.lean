/-! ===== the class's Fitter: fit ===== -/
section JE9
variable {l : Launch} {s0 : State} {a0 : Array Value} {G : va_G} {ca : Nat → ClassId} {d : Nat} {C : Nat × Nat} {S : zS} {p q : Int} {M : zM} {Q : Int → zM → Prop} {X : zM → Prop} {a NU NV rA rB : Nat} {A B : SS} {dB : SP → Option (List Nat)}
theorem f_fit (Γ : rt_Γ l s0 a0 G ca) (hd : 12 ≤ d) (hok : zok C) (hS : xSh S p q) (hFA : kF A) (hFB : kF B) (hHA : kHn A) (hHB : kHn B) (hOA : kOk A) (hOB : kOk B) (hG : tG M p q NU NV A B dB) (hrA : M p 12 = (rA : Int)) (hrB : M q 12 = (rB : Int)) (hA : rA < 6 + A.ns.length) (hB : rB < 6 + B.ns.length) (hn : fSn M a) (ha : a < 90000)
    (kY : fFt A.ns B.ns dB (rA, rB) → ∀ M1 : zM, xfr M M1 → fSn M1 (a + 1) → Q 1 M1) (kN : ¬ fFt A.ns B.ns dB (rA, rB) → ∀ M1 : zM, xfr M M1 → fSn M1 (a + 1) → Q 0 M1) : zm_X3_fit l s0 G ca d C S p q M Q X := by
  obtain ⟨hs, hp, hq, h63, hp0, hq0⟩ := id hS
  refine z_X3_fit Γ (by omega) hok hs h63 ?_
  unfold zt_X3_fit
  refine zIf_f (by omega) (zIf_f (by omega) ?_)
  rw [zcut_in (by decide) (by decide) (by decide), hn.1]
  have fr : ∀ c j : Int, ¬ c = 69 → ¬ (c = 72 ∧ j = 1) → zu (zu (zu (zu M 69 2 p) 69 3 q) 69 4 ((a : Int) + 1)) 72 1 0 c j = M c j := fun c j n1 n2 => by rw [zu_ne n2, zu_a n1, zu_a n1, zu_a n1]
  have g2 : zu (zu (zu (zu M 69 2 p) 69 3 q) 69 4 ((a : Int) + 1)) 72 1 0 69 2 = p := by rw [zu_a (by decide), zu_k (by decide), zu_k (by decide), zu_s]
  have g3 : zu (zu (zu (zu M 69 2 p) 69 3 q) 69 4 ((a : Int) + 1)) 72 1 0 69 3 = q := by rw [zu_a (by decide), zu_k (by decide), zu_s]
  have g4 : zu (zu (zu (zu M 69 2 p) 69 3 q) 69 4 ((a : Int) + 1)) 72 1 0 69 4 = ((a + 1 : Nat) : Int) := by rw [zu_a (by decide), zu_s]; rfl
  have g6 : zu (zu (zu (zu M 69 2 p) 69 3 q) 69 4 ((a : Int) + 1)) 72 1 0 72 1 = 0 := zu_s _ _ _ _
  generalize zu (zu (zu (zu M 69 2 p) 69 3 q) 69 4 ((a : Int) + 1)) 72 1 0 = M1 at fr g2 g3 g4 g6 ⊢
  rw [g2, g3, fr p 12 (by omega) (by omega), fr q 12 (by omega) (by omega), hrA, hrB]
  have hG1 : tG M1 p q NU NV A B dB := hG.fr (fun b hb9 => funext fun j => fr b j (by omega) (by omega))
  have hlA := hG.1.2.2.1
  have hlB := hG.2.1.2.2.1
  have h3 : ∀ c : Nat, c < 17956 → (0 ≤ M1 71 (c : Int) ∧ M1 71 (c : Int) ≤ ((a + 1 : Nat) : Int)) ∧ (M1 71 (c : Int) = ((a + 1 : Nat) : Int) → ∃ x ∈ ([] : List (Nat × Nat)) ++ [], c = fCd x) := fun c hc => by
    rw [fr 71 c (by decide) (by omega)]
    obtain ⟨k1, k2⟩ := hn.2 c hc
    exact ⟨⟨k1, by omega⟩, fun h => by omega⟩
  have h0 : fS M1 (a + 1) [] [] := ⟨⟨g4, (fun x hx => (nomatch hx)), h3, g6, (fun j x hj => (nomatch hj))⟩, List.nodup_nil, (fun x hx => (nomatch hx)), by omega⟩
  · refine ⟨hp, hq, z63 (p := p) (q := q) h63 g2 g3 ?_⟩
    refine f_ask Γ (by omega) hok hS.f h0 (by omega) (by omega) (fun M2 f2 h2 => ?_)
    have i2 : M2 69 2 = p := (f2 _ _ (by decide) (by decide) (by decide)).trans g2
    have i3 : M2 69 3 = q := (f2 _ _ (by decide) (by decide) (by decide)).trans g3
    rw [zu_id i3, zu_id i2]
    have e1 : fAk [] [] (rA, rB) = [(rA, rB)] := rfl
    rw [e1] at h2
    exact f_fitL (M0 := M) Γ (by omega) hok hS hFA hFB hHA hHB hOA hOB kY kN 17956 [] [(rA, rB)] M2 (Nat.le_add_left _ _) h2 fIv.start (fun x hx => by
      have : x = (rA, rB) := List.mem_singleton.mp hx
      subst this
      exact ⟨hA, hB⟩) (hG1.f f2 hp0 hq0) i2 i3 (fun b j n1 n2 n3 n4 => (f2 b j n2 n3 n4).trans (fr b j n1 n3))
end JE9
