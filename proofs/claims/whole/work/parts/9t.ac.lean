/-! ===== the class's schema: the state behind ===== -/
section TAC
variable {l : Launch} {s0 : State} {a0 : Array Value} {G : va_G} {ca : Nat → ClassId} {d : Nat} {C : Nat × Nat} {S : zS} {M : zM} {Q : Nat × Nat → zS → Int → zM → Prop} {tb : List Nat} {ks : kST} {L : List (List Nat)} {ow : Int} {out : List Nat} {pl : Int} {a : Nat}
theorem c_schema2 (Γ : rt_Γ l s0 a0 G ca) (hd : 4 ≤ d) (hb : C.1 + 30 ≤ 590000 ∧ C.2 + 21400 ≤ 7200000) (h132 : 138 ≤ C.1) (hz : zL.length ≤ 138) (hS : ∀ b : Int, (C.1 : Int) ≤ b → S b = none) (hI : cI S C.1 M tb ks L ow out (-1) a) {pf : Nat → Int} (hP : cP S C.1 M ks pf) (how : -1 ≤ ow ∧ ow < 8) {u : Nat} (hu : u < 8) {z : List Nat × List JR × Nat × SS} (h8 : ∃ NU U : Nat, pS M (pf 8) z.2.1 z.2.2.1 z.2.2.2 NU U)
    (hQ : ∀ (C1 : Nat × Nat) (S1 : zS) (M1 : zM), C.1 ≤ C1.1 ∧ C1.1 ≤ C.1 + 25 ∧ C.2 ≤ C1.2 ∧ C1.2 ≤ C.2 + 21321 → cI S1 C1.1 M1 [] (kup ks u z) (lup ow u L) (oup ow u) out (-1) a → (∀ b : Int, (C1.1 : Int) ≤ b → S1 b = none) → mfc M M1 → Q C1 S1 0 M1) :
    zs_handOver l s0 G ca (d - 1) C S (M 5 (u : Int)) M (fun C S r87 M87 => zok C ∧ (zSok S ∧ (zSc S r87 ∧ (zIf (w32 (M87 0 10) = (u : Int)) (zRw S (M87 0 8) ∧ (Q C S 0 ((zcut ((zu (((zcut ((zcut ((zu M87 5 (u : Int) r87)) ((M87 0 8) + 1) 4096 0)) ((M87 0 8) + 3) 4096 0))) 0 10 ((-1)))) 1 4096 0)))) (Q C S 0 ((zcut ((zu M87 5 (u : Int) r87)) 1 4096 0))))))) := by
  obtain ⟨⟨hs, dy⟩, -, ht, ⟨cu, sp, hcs, e8, e9, hL⟩, e10, ho, e11, hfS, hc0⟩ := id hI
  obtain ⟨g1, ⟨g2, g3⟩, g4⟩ := id hP
  have hp8 := g3.2.1
  -- the state, from the shapes and the plan that is drafted in next
  have fin : ∀ (C1 : Nat × Nat) (S1 : zS) (M87 : zM) (np : Int), (C.1 ≤ C1.1 ∧ C1.1 ≤ C.1 + 25 ∧ C.2 ≤ C1.2 ∧ C1.2 ≤ C.2 + 21321) → zSok S1 → dyS S1 → (∀ p : Int, pOK S C.1 p → pOK S1 C1.1 p) → pOK S1 C1.1 np → (∀ b : Int, (C1.1 : Int) ≤ b → S1 b = none) → (∀ c j : Int, c < (C.1 : Int) → ¬ (c = 24 ∧ j = 3) → M87 c j = M c j) → M87 24 3 = np → (np + 24 < pf 8 ∨ pf 8 + 24 < np) → (∀ k : Nat, k < 8 → ¬ k = u → ¬ ks k = none → np + 24 < pf k ∨ pf k + 24 < np) → zok C1 ∧ (zSok S1 ∧ (zSc S1 (M 24 3) ∧ (zIf (w32 (M87 0 10) = (u : Int)) (zRw S1 (M87 0 8) ∧ (Q C1 S1 0 ((zcut ((zu (((zcut ((zcut ((zu M87 5 (u : Int) (M 24 3))) ((M87 0 8) + 1) 4096 0)) ((M87 0 8) + 3) 4096 0))) 0 10 ((-1)))) 1 4096 0)))) (Q C1 S1 0 ((zcut ((zu M87 5 (u : Int) (M 24 3))) 1 4096 0)))))) := fun C1 S1 M87 np hc hs1 dy1 hpp hnp hn1 fr h24 ha8 hak => by
    have e08 : M87 0 8 = cu := (fr _ _ (by omega) (by decide)).trans e8
    have e010 : M87 0 10 = ow := (fr _ _ (by omega) (by decide)).trans e10
    rw [g2, e08, e010, w32_id (x := ow) (by omega) (by omega)]
    have hrw : zRw S1 cu := by
      rcases hcs with h | h
      · rw [h.1]; exact (zRw_of hs1).1
      · rw [h.1]; exact (zRw_of hs1).2
    -- any memory that differs in these cells alone
    have st : ∀ (M2 : zM) (L1 : List (List Nat)) (ow1 : Int), (∀ c j : Int, c < (C.1 : Int) → ¬ (c = 24 ∧ j = 3) → ¬ (c = 5 ∧ j = (u : Int)) → ¬ (c = 1 ∧ j = 1) → ¬ (c = 0 ∧ j = 10) → ¬ ((c = cu + 1 ∨ c = cu + 3) ∧ j = 1) → M2 c j = M c j) → M2 5 (u : Int) = pf 8 → M2 24 3 = np → M2 1 1 = 0 → M2 0 10 = ow1 → rws M2 cu L1 → cI S1 C1.1 M2 [] (kup ks u z) L1 ow1 out (-1) a ∧ mfc M M2 := fun M2 L1 ow1 f x5 x24 x1 x10 xL => by
      have nw : cP S1 C1.1 M2 (kup ks u z) (pfN pf u np) := hP.new hu hpp hnp h8 (fun c j hc => f c j (by omega) (by omega) (by omega) (by omega) (by omega) (by omega)) (fun j hj => f _ _ (by omega) (by omega) (by omega) (by omega) (by omega) (by omega)) x5 x24 ha8 hak
      refine ⟨⟨⟨hs1, dy1⟩, ⟨_, nw⟩, ⟨x1, fun j hj => absurd hj (Nat.not_lt_zero _)⟩, ⟨cu, sp, hcs, ?_, ?_, xL⟩, x10, ⟨?_, fun j hj => ?_⟩, ?_, ?_, ?_⟩, fun c j c1 c2 => f c j (by omega) (by omega) (by omega) (by omega) (by omega) (by omega)⟩
      · exact (f _ _ (by omega) (by omega) (by omega) (by omega) (by omega) (by omega)).trans e8
      · exact (f _ _ (by omega) (by omega) (by omega) (by omega) (by omega) (by omega)).trans e9
      · exact (f _ _ (by omega) (by omega) (by omega) (by omega) (by omega) (by omega)).trans ho.1
      · exact (f _ _ (by omega) (by omega) (by omega) (by omega) (by omega) (by omega)).trans (ho.2 j hj)
      · exact (f _ _ (by omega) (by omega) (by omega) (by omega) (by omega) (by omega)).trans e11
      · exact hfS.fr (fun c j h => f c j (by omega) (by omega) (by omega) (by omega) (by omega) (by omega))
      · obtain ⟨z1, z2, z3, z4, z5, z6, z7⟩ := hc0
        have q : ∀ c : Int, 7 ≤ c → c ≤ 19 → M2 c 1 = M c 1 := fun c c1 c2 => f _ _ (by omega) (by omega) (by omega) (by omega) (by omega) (by omega)
        exact ⟨(q _ (by decide) (by decide)).trans z1, (q _ (by decide) (by decide)).trans z2, (q _ (by decide) (by decide)).trans z3, (q _ (by decide) (by decide)).trans z4, (q _ (by decide) (by decide)).trans z5, (q _ (by decide) (by decide)).trans z6, (q _ (by decide) (by decide)).trans z7⟩
    refine ⟨⟨by omega, by omega⟩, hs1, (hpp _ g3).1, fun co => ⟨hrw, ?_⟩, fun co => ?_⟩
    · rw [zcut0, zcut0, zcut0]
      have eL : lup ow u L = [] := if_pos co
      have eo : oup ow u = -1 := if_pos co
      have h9 := hQ C1 S1 (zu (zu (zu (zu (zu M87 5 (u : Int) (pf 8)) (cu + 1) 1 0) (cu + 3) 1 0) 0 10 (-1)) 1 1 0) hc
      rw [eL, eo] at h9
      obtain ⟨x1, x2⟩ := st (zu (zu (zu (zu (zu M87 5 (u : Int) (pf 8)) (cu + 1) 1 0) (cu + 3) 1 0) 0 10 (-1)) 1 1 0) [] (-1) (fun c j n1 n2 n3 n4 n5 n6 => by
        rw [zu_ne n4, zu_ne n5, zu_ne (fun e => n6 ⟨Or.inr e.1, e.2⟩), zu_ne (fun e => n6 ⟨Or.inl e.1, e.2⟩), zu_ne n3]
        exact fr c j n1 n2) (by rw [zu_a (by decide), zu_a (by decide), zu_a (by omega), zu_a (by omega), zu_s]) (by rw [zu_a (by decide), zu_a (by decide), zu_a (by omega), zu_a (by omega), zu_a (by decide)]; exact h24) (zu_s _ _ _ _) (by rw [zu_a (by decide), zu_s]) ⟨by rw [zu_a (by omega), zu_a (by omega), zu_a (by omega), zu_s]; rfl, fun j hj => absurd hj (Nat.not_lt_zero _), by rw [zu_a (by omega), zu_a (by omega), zu_s]; rfl, fun i hi => absurd hi (Nat.not_lt_zero _)⟩
      exact h9 x1 hn1 x2
    · rw [zcut0]
      have eL : lup ow u L = L := if_neg co
      have eo : oup ow u = ow := if_neg co
      have h9 := hQ C1 S1 (zu (zu M87 5 (u : Int) (pf 8)) 1 1 0) hc
      rw [eL, eo] at h9
      obtain ⟨x1, x2⟩ := st (zu (zu M87 5 (u : Int) (pf 8)) 1 1 0) L ow (fun c j n1 n2 n3 n4 n5 n6 => by
        rw [zu_ne n4, zu_ne n3]
        exact fr c j n1 n2) (by rw [zu_a (by decide), zu_s]) (by rw [zu_a (by decide), zu_a (by decide)]; exact h24) (zu_s _ _ _ _) (by rw [zu_a (by decide), zu_a (by decide)]; exact e010) (hL.fr (fun c j c1 c2 => by rw [zu_a (by omega), zu_a (by omega)]; exact fr c j (by omega) (by omega)))
      exact h9 x1 hn1 x2
  refine z_handOver Γ (by omega) ⟨by omega, by omega⟩ dy.2.1 hS (by omega) (by rw [g2]; omega) (fun hn => ?_) (fun hn => ?_)
  · have hlen : (nSh C.1).length = 25 := rfl
    refine fin (C.1 + 25, C.2 + 21321) _ _ (C.1 : Int) ⟨by show C.1 ≤ C.1 + 25; omega, Nat.le_refl _, by show C.2 ≤ C.2 + 21321; omega, Nat.le_refl _⟩ (hs.ap h132 hz _) (dy.ap h132 _) (fun p hp => hp.ap (nSh C.1)) ⟨Sap_sc, ⟨by omega, Or.inr (by omega)⟩, by show (C.1 : Int) + 24 < ((C.1 + 25 : Nat) : Int); omega⟩ (fun b hb9 => ?_) (fun c j c1 n1 => ?_) (zu_s _ _ _ _) (Or.inr g3.2.2) (fun k hk hku hkn => ?_)
    · have hb9' : ((C.1 + 25 : Nat) : Int) ≤ b := hb9
      exact (if_neg (by rw [hlen]; omega)).trans (hS b (by omega))
    · rw [zu_ne n1]
      exact if_neg (by omega)
    · cases hkk : ks k with
      | none => exact absurd hkk hkn
      | some y => exact Or.inr ((g1 k hk).2 y hkk).2.1.2.2
  · cases hku : ks u with
    | none => exact absurd (show M 5 (u : Int) < 0 by rw [(g1 u hu).1 hku]; decide) hn
    | some y =>
      obtain ⟨x1, x2, -⟩ := (g1 u hu).2 y hku
      have hy : ¬ ks u = none := by rw [hku]; exact fun h => nomatch h
      refine fin C S _ (pf u) ⟨Nat.le_refl _, by omega, Nat.le_refl _, by omega⟩ hs dy (fun p hp => hp) x2 hS (fun c j c1 n1 => zu_ne n1) (by rw [zu_s]; exact x1) (g4 u 8 (by omega) (by decide) (by omega) (Or.inr hy) (Or.inl rfl)) (fun k hk hku2 hkn => g4 u k (by omega) (by omega) (fun e => hku2 e.symm) (Or.inr hy) (Or.inr hkn))
end TAC
