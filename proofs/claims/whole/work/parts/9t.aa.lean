/-! ===== the class's schema, from state to state ===== -/
theorem jTx_e {bt : Int → Int} {N e : Nat} (hb : cOk bt N) (h : jTx (rg bt N) N = .error e) : e < N + 7 := by
  have hT := crg_T hb
  unfold jTx jFin at h
  have hs := jSk_le hT 4096 0 (Nat.zero_le _)
  cases hg : jGo (rg bt N) 4001 none 0 (jSk (rg bt N) 4096 0) with
  | error e2 =>
    rw [hg] at h
    dsimp only at h
    injection h with h
    subst h
    exact jGo_lt hT _ _ _ _ _ hs hg
  | ok r =>
    obtain ⟨ys, c, q⟩ := r
    rw [hg] at h
    dsimp only at h
    split at h
    · exact nomatch h
    · injection h with h
      have hq : q ≤ N := by have := jGo_ok hT _ _ _ _ _ _ _ hs hg; omega
      have hj := jSk_le hT 4096 q hq
      omega
/-- what parsing and drafting may write, the Drafter's schema being p -/
def sfx (p : Int) (M M1 : zM) : Prop := ∀ c j : Int, ¬ (c = 0 ∧ j = 11) → ¬ (6 ≤ c ∧ c ≤ 29) → ¬ (p ≤ c ∧ c ≤ p + 24) → M1 c j = M c j
theorem cI.sc {S : zS} {n : Nat} {M M1 : zM} {tb : List Nat} {ks : kST} {L : List (List Nat)} {ow : Int} {out : List Nat} {pl pl1 : Int} {a : Nat} {pf : Nat → Int} (h : cI S n M tb ks L ow out pl a) (hP : cP S n M ks pf) (f : sfx (pf 8) M M1) (h24 : M1 24 3 = pf 8) (h11 : M1 0 11 = pl1) (h0 : c0 M1) : cI S n M1 tb ks L ow out pl1 a ∧ cP S n M1 ks pf := by
  obtain ⟨h1, -, h3, ⟨cu, sp, h4, h5, h6, h7⟩, h8, h9, h10, hfS, h12⟩ := h
  obtain ⟨g1, ⟨g2, g3⟩, g4⟩ := id hP
  have hp0 := g3.2.1
  have fr : ∀ c j : Int, ¬ (c = 0 ∧ j = 11) → (c < 6 ∨ (55 ≤ c ∧ c < 138)) → M1 c j = M c j := fun c j n1 n2 => f c j n1 (by omega) (by omega)
  have hP1 : cP S n M1 ks pf := by
    refine ⟨fun k hk => ⟨fun c => (fr _ _ (by omega) (by decide)).trans ((g1 k hk).1 c), fun z hz => ?_⟩, ⟨h24, g3⟩, g4⟩
    obtain ⟨x1, x2, NU, U, x3⟩ := (g1 k hk).2 z hz
    have hx0 := x2.2.1
    have hap := g4 k 8 (by omega) (by decide) (by omega) (Or.inr (by rw [hz]; exact fun h => nomatch h)) (Or.inl rfl)
    exact ⟨(fr _ _ (by omega) (by decide)).trans x1, x2, NU, U, x3.fr (fun b h1 h2 => funext fun j => f b j (by omega) (by omega) (by omega))⟩
  exact ⟨⟨h1, ⟨pf, hP1⟩, ⟨(fr _ _ (by decide) (by decide)).trans h3.1, fun j hj => (fr _ _ (by omega) (by decide)).trans (h3.2 j hj)⟩, ⟨cu, sp, h4, (fr _ _ (by decide) (by decide)).trans h5, (fr _ _ (by decide) (by decide)).trans h6, h7.fr (fun c j c1 c2 => fr c j (by omega) (by omega))⟩, (fr _ _ (by decide) (by decide)).trans h8, ⟨(fr _ _ (by decide) (by decide)).trans h9.1, fun j hj => (fr _ _ (by omega) (by decide)).trans (h9.2 j hj)⟩, h11, hfS.fr (fun c j h => fr c j (by omega) (by omega)), h0⟩, hP1⟩
theorem sfx.c {p : Int} {M M1 : zM} (f : sfx p M M1) (hp : 30 ≤ p ∧ (p + 24 < 55 ∨ 138 ≤ p)) : mfc M M1 := fun c j h1 h2 => f c j (by omega) (by omega) (by omega)
section TA0
variable {l : Launch} {s0 : State} {a0 : Array Value} {G : va_G} {ca : Nat → ClassId} {d : Nat} {C : Nat × Nat} {S : zS} {M : zM} {Q : Nat × Nat → zS → Int → zM → Prop} {tb : List Nat} {ks : kST} {L : List (List Nat)} {ow : Int} {out : List Nat} {pl : Int} {a n : Nat}
/-- parsing and drafting: a fault, or the Drafter's schema is what the text says; then the kept one is handed over -/
theorem c_schema1 (Γ : rt_Γ l s0 a0 G ca) (hd : 300 ≤ d) (hok : zok C) (hI : cI S n M tb ks L ow out pl a) (htb : tb.length ≤ 1300 ∧ ∀ x ∈ tb, x < 256) {u : Nat} (hu : u < 8)
    (kF : ∀ e : Nat × Nat, sRs tb = .error e → 0 < e.1 ∧ e.1 < 100 → ∀ M1 : zM, cI S n M1 tb ks L ow out e.2 a → mfc M M1 → Q C S e.1 M1)
    (kO : ∀ (xs : List JR) (root : Nat) (st : SS), sRs tb = .ok (xs, root, st) → ∀ (M1 : zM) (pf : Nat → Int), cI S n M1 tb ks L ow out (-1) a → cP S n M1 ks pf → (∃ NU U : Nat, pS M1 (pf 8) xs root st NU U) → mfc M M1 → zs_handOver l s0 G ca (d - 1) C S (M1 5 (u : Int)) M1 (fun C S r87 M87 => zok C ∧ (zSok S ∧ (zSc S r87 ∧ (zIf (w32 (M87 0 10) = (u : Int)) (zRw S (M87 0 8) ∧ (Q C S 0 ((zcut ((zu (((zcut ((zcut ((zu M87 5 (u : Int) r87)) ((M87 0 8) + 1) 4096 0)) ((M87 0 8) + 3) 4096 0))) 0 10 ((-1)))) 1 4096 0)))) (Q C S 0 ((zcut ((zu M87 5 (u : Int) r87)) 1 4096 0)))))))) : zs_X9_schema l s0 G ca d C S u M Q := by
  obtain ⟨⟨hs, dy⟩, ⟨pf, hP⟩, ht, -, -, -, hpl, -, hc0⟩ := id hI
  obtain ⟨dy6, dy24, dy25, -⟩ := id dy
  obtain ⟨-, ⟨h24, p8⟩, -⟩ := id hP
  have hp0 := p8.2.1
  have hbt : cOk (M 2) tb.length := ⟨by omega, fun j hj => by
    rw [ht.2 j hj]
    have := tb_at htb.2 j
    omega⟩
  have hrg : rg (M 2) tb.length = rg (tbF tb) tb.length := rg_ext (fun j hj => by rw [ht.2 j hj]; rfl)
  refine z_X9_schema Γ (by omega) hok hs dy6 dy24 dy25 ?_
  unfold zt_X9_schema
  rw [w32_id (x := (u : Int)) (by omega) (by omega)]
  refine zIf_f (by omega) (zIf_t (by omega) ?_)
  refine q_parse (bt := M 2) (N := tb.length) Γ (by omega) hok hs dy6 hbt ⟨ht.1, fun j => rfl⟩ hc0 (fun e he M1 f1 z1 => ?_) (fun xs he M1 r1 f1 z1 z9 => ?_)
  · have hlt := jTx_e hbt he
    rw [hrg] at he
    have n1 : ¬ w32 (e : Int) = -1 := by rw [w32_id (by omega) (by omega)]; omega
    refine zIf_f n1 ?_
    have f2 : sfx (pf 8) M (zu M1 0 11 (e : Int)) := fun c j n1 n2 _ => (zu_ne n1).trans (congrFun (f1 c (by omega)) j)
    have c2 : c0 (zu M1 0 11 (e : Int)) := z1
    obtain ⟨x1, -⟩ := hI.sc hP f2 (by rw [zu_a (by decide), f1 24 (by decide)]; exact h24) (zu_s _ _ _ _) c2
    refine kF (1, e) (by unfold sRs; rw [he]) ⟨Nat.one_pos, show 1 < 100 by decide⟩ _ x1 (f2.c hp0)
  · rw [hrg] at he
    have htk := tOk_c htb.1 htb.2 he
    refine zIf_t (by decide) ?_
    have hcT : cTx (zu M1 0 11 (-1)) xs := cTx.fr ⟨r1, htk.1, htk.2.2.2.2.1, htk.2.2.2.2.2.1⟩ (fun b h1 h2 => funext fun j => zu_a (by omega))
    have e9 : zu M1 0 11 (-1) 6 9 = 1 := (zu_a (by decide)).trans z9
    let S6 : zS := fun b => if b = ((6 : Nat) : Int) then some (0, 8, [(3, 7), (3, 9), (3, 11), (3, 13), (3, 15), (3, 17), (3, 19), (3, 21), (3, 22), (3, 1), (0, 0), (0, 0), (0, 0)]) else S b
    have h66 : S6 6 = some (0, 8, [(3, 7), (3, 9), (3, 11), (3, 13), (3, 15), (3, 17), (3, 19), (3, 21), (3, 22), (3, 1), (0, 0), (0, 0), (0, 0)]) := if_pos rfl
    have hdS : dSh S6 (pf 8) := ⟨hs.upd (Or.inl rfl), p8.1.fr (fun b h1 h2 => if_neg (by omega)), (if_neg (by decide)).trans dy24, (if_neg (by decide)).trans dy25, h66, hp0.1, hp0.2⟩
    have e24 : zu M1 0 11 (-1) 24 3 = pf 8 := by rw [zu_a (by decide), f1 24 (by decide)]; exact h24
    have z1' : c0 (zu M1 0 11 (-1)) := z1
    have fA : ∀ c j : Int, ¬ (c = 0 ∧ j = 11) → ¬ (6 ≤ c ∧ c ≤ 29) → zu M1 0 11 (-1) c j = M c j := fun c j n1 n2 => (zu_ne n1).trans (congrFun (f1 c (by omega)) j)
    have n1 : ¬ w32 (-1 : Int) = 5 := by decide
    generalize zu M1 0 11 (-1) = M1' at hcT e9 e24 z1' fA ⊢
    refine zMet_S (S' := S6) (a := 6) (c := 1) (k9 := 9) dy6 h66 (fun b hb => if_neg hb) rfl rfl e9 ?_
    -- behind the draft
    have beh : ∀ (M2 : zM) (x : Int), M2 24 3 = pf 8 → drf (pf 8) M1' M2 → zu M2 6 ((9 : Nat) : Int) 1 = M2 ∧ cI S n (zu M2 0 11 x) tb ks L ow out x a ∧ cP S n (zu M2 0 11 x) ks pf ∧ mfc M (zu M2 0 11 x) := fun M2 x g2 g3 => by
      have e1 : M2 6 9 = 1 := by rw [g3 6 (by omega)]; exact e9
      have f2 : sfx (pf 8) M (zu M2 0 11 x) := fun c j n1 n2 n3 => by
        rw [zu_ne n1, g3 c (by omega)]
        exact fA c j n1 n2
      have c2 : c0 (zu M2 0 11 x) := by
        have c3 : c0 M2 := by
          unfold c0
          rw [g3 7 (by omega), g3 9 (by omega), g3 11 (by omega), g3 13 (by omega), g3 15 (by omega), g3 17 (by omega), g3 19 (by omega)]
          exact z1'
        exact c3
      obtain ⟨x1, x2⟩ := hI.sc hP f2 (by rw [zu_a (by decide)]; exact g2) (zu_s _ _ _ _) c2
      exact ⟨zu_id e1, x1, x2, f2.c hp0⟩
    refine c_draft (p := pf 8) (xs := xs) Γ (by omega) hok hdS htk.2.1 htk.2.2.1 htk.2.2.2.1 htk.2.2.2.2.2.2.1 hcT e24 (fun e he2 M2 g1 g2 g3 g4 => ?_) (fun root st he2 hfin M2 NU U g1 g2 g3 g4 => ?_)
    · obtain ⟨y1, y2, y3, y4⟩ := beh M2 (e.2 : Int) g2 g3
      have n0 : ¬ w32 (e.1 : Int) = 0 := by rw [w32_id (by omega) (by omega)]; omega
      rw [y1]
      refine zd_X1_wrongPlace Γ hok hs dy6 dy24 ?_
      unfold ztd_X1_wrongPlace
      rw [g1]
      exact zIf_f n0 (kF e (by unfold sRs; rw [he]; dsimp only; rw [he2]) g4 _ y2 y4)
    · obtain ⟨y1, y2, y3, y4⟩ := beh M2 (-1) g3 g4
      rw [y1]
      refine zd_X1_wrongPlace Γ hok hs dy6 dy24 ?_
      unfold ztd_X1_wrongPlace
      rw [g2]
      refine zIf_t (by decide) ⟨⟨by omega, by omega⟩, ?_⟩
      have e5 : M2 5 (u : Int) = zu M2 0 11 (-1) 5 (u : Int) := (zu_a (by decide)).symm
      rw [e5]
      exact kO xs root st (by unfold sRs; rw [he]; dsimp only; rw [he2]) _ pf y2 y3 ⟨NU, U, g1.fr (fun b h1 h2 => funext fun j => zu_a (by omega))⟩ y4
end TA0
