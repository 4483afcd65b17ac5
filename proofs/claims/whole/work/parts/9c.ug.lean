/-! ===== the reference's readAll ===== -/
section UGs
variable {l : Launch} {s0 : State} {a0 : Array Value} {G : va_G} {ca : Nat → ClassId} {d : Nat} {C : Nat × Nat} {S : zS} {M : zM} {Q : Int → zM → Prop} {X : zM → Prop} {xs : List JR} {v : Nat} {t : Int} {st : SS} {bt : Int → Int} {N : Nat}
/-- no shapes yet but the six -/
def r60 (M : zM) (t : Int) : Prop := (M t 17 = 0 ∧ M t 16 = 6 ∧ M t 24 = 0 ∧ M t 29 = 0) ∧ ∀ i : Nat, i < 6 → M (t + 9) i = i ∧ M (t + 10) i = -1 ∧ M (t + 12) i = -1
theorem r60.rc {M : zM} {t : Int} {xs : List JR} (h : r60 M t) : rC M t xs (0, 0, [], []) := by
  obtain ⟨⟨h1, h2, h3, h4⟩, h5⟩ := h
  refine ⟨⟨h1, h2, h3, h4⟩, h5, fun i n hi => ?_, fun i z hi => ?_, Nat.le_refl _, Nat.zero_le _, Nat.zero_le _, Nat.le_refl _⟩
  · have : (SS.ns (0, 0, [], []))[i]? = none := rfl
    rw [this] at hi
    exact nomatch hi
  · have : (SS.lt (0, 0, [], []))[i]? = none := rfl
    rw [this] at hi
    exact nomatch hi
theorem r60.fr {M M1 : zM} {t : Int} (h : r60 M t) (e : ∀ j : Int, 15 < j → M1 t j = M t j) (e2 : ∀ a : Int, t + 9 ≤ a → a ≤ t + 12 → M1 a = M a) : r60 M1 t := by
  obtain ⟨⟨h1, h2, h3, h4⟩, h5⟩ := h
  exact ⟨⟨by rw [e _ (by decide)]; exact h1, by rw [e _ (by decide)]; exact h2, by rw [e _ (by decide)]; exact h3, by rw [e _ (by decide)]; exact h4⟩, fun i hi => by
    rw [e2 _ (by omega) (by omega), e2 _ (by omega) (by omega), e2 _ (by omega) (by omega)]
    exact h5 i hi⟩
theorem eY.w {t : Int} {M M1 : zM} {c e : Int} (h : eY t M M1 c e) : eX t M M1 c e := ⟨h.1, h.2.1, h.2.2.w⟩
theorem rC.s31 {M : zM} {t : Int} {xs : List JR} {st : SS} (h : rC M t xs st) {x : Int} : rC (zu M t 31 x) t xs st := by
  obtain ⟨⟨a1, a2, a3, a4⟩, h6, hn, hf, l1⟩ := h
  have e : ∀ a j : Int, ¬ (a = t ∧ j = 31) → zu M t 31 x a j = M a j := fun a j h => zu_ne h
  refine ⟨⟨by rw [e _ _ (by omega)]; exact a1, by rw [e _ _ (by omega)]; exact a2, by rw [e _ _ (by omega)]; exact a3, by rw [e _ _ (by omega)]; exact a4⟩, fun i hi => ?_, fun i n hi => ?_, fun i z hz => ?_, l1⟩
  · rw [e _ _ (by omega), e _ _ (by omega), e _ _ (by omega)]
    exact h6 i hi
  · exact (hn i n hi).mono (fun a _ _ => e _ _ (by omega)) (fun q _ a _ _ => e _ _ (by omega))
  · rw [e _ _ (by omega)]
    exact hf i z hz
theorem r_readAll (Γ : rt_Γ l s0 a0 G ca) (hd : 200 ≤ d) (hok : zok C) (ht : zTx S t) (hb : rOk bt N) (hN : N ≤ 1300) (hR : RS M t bt N 0 0 0 0) (h60 : r60 M t)
    (kT : ∀ e : Nat, jTx (rg bt N) N = .error e → rE t M X (1, e))
    (kE : ∀ (xs : List JR) (e : Nat × Nat), jTx (rg bt N) N = .ok xs → sDra xs = .error e → rE t M X e)
    (kO : ∀ (xs : List JR) (n : Nat) (st : SS), jTx (rg bt N) N = .ok xs → sDra xs = .ok (n, st) → sFin xs n st → ∀ M1 : zM, rTx M1 t xs → rC M1 t xs st → M1 t 31 = (n : Int) → zfr t M M1 → (∀ j : Int, 31 < j → M1 t j = M t j) → Q 0 M1) : zm_X10_readAll l s0 G ca d C S t M Q X := by
  have hTj := rg_T hb
  refine z_X10_readAll Γ (by omega) hok ht ?_
  unfold zt_X10_readAll
  have hs0 := jSk_le hTj 4096 0 (Nat.zero_le _)
  refine q_blanks Γ (by omega) hok ht hb hR (Nat.zero_le _) ?_
  have f0 : zf8 t M (zu M t 2 (jSk (rg bt N) 4096 0)) := zf8.rf.zu (by omega) (by omega)
  refine r_val Γ hok ht hb 4001 (d - 1) 0 (jSk (rg bt N) 4096 0) 0 0 _ _ X (by omega) (by omega) hs0 (Nat.zero_le _) (Nat.zero_le _) (by have := hb.1; omega) (hR.pos _) (fun e he M1 f1 => ?_) (fun xs c q he M1 g1 g2 g3 => ?_)
  · refine kT e ?_ M1 (eX.of f0.w f1.w)
    unfold jTx jFin
    rw [he]
  · obtain ⟨o1, o2, o3, o4, o5, o6⟩ := jGo_ok hTj _ _ _ _ _ _ _ hs0 he
    have hzf : zf8 t M M1 := f0.tr g3.1
    have hg2 := g1.2.1
    have fr1 : zf8 t M (zu M1 t 6 (M1 t 2)) := hzf.zu (by omega) (by omega)
    have hR2 : RS (zu M1 t 6 (M1 t 2)) t bt N q 0 (0 + rW xs) (0 + rL xs) := by
      obtain ⟨r1, r2, r3, r4, r5, r6⟩ := g1
      exact ⟨by rw [zu_k (by decide)]; exact r1, by rw [zu_k (by decide)]; exact r2, by rw [zu_k (by decide)]; exact r3, by rw [zu_k (by decide)]; exact r4, by rw [zu_k (by decide)]; exact r5, fun j => by rw [zu_a (by omega)]; exact r6 j⟩
    refine q_blanks Γ (by omega) hok ht hb hR2 o3 ?_
    have hsq := jSk_le hTj 4096 q o3
    have fr2 : zf8 t M (zu (zu M1 t 6 (M1 t 2)) t 2 (jSk (rg bt N) 4096 q)) := fr1.zu (by omega) (by omega)
    have e1 : zu (zu M1 t 6 (M1 t 2)) t 2 (jSk (rg bt N) 4096 q) t 1 = (N : Int) := by rw [zu_k (by decide)]; exact hR2.1
    have e2 : zu (zu M1 t 6 (M1 t 2)) t 2 (jSk (rg bt N) 4096 q) t 2 = (jSk (rg bt N) 4096 q : Int) := zu_s _ _ _ _
    have hrep : rRep (zu (zu M1 t 6 (M1 t 2)) t 2 (jSk (rg bt N) 4096 q)) t xs 0 0 := rRep.fr (fun a h1 h2 => funext fun j => by rw [zu_a (by omega), zu_a (by omega)]) g2
    generalize zu (zu M1 t 6 (M1 t 2)) t 2 (jSk (rg bt N) 4096 q) = M2 at fr2 e1 e2 hrep ⊢
    have hb9 := hb.1
    rw [e1, e2, w32_id (x := ((N : Nat) : Int)) (by omega) (by omega), w32_id (x := ((jSk (rg bt N) 4096 q : Nat) : Int)) (by omega) (by omega)]
    unfold zt_X10_readAll_38
    refine ⟨fun ce => ?_, fun ce => ?_⟩
    · have hq : jSk (rg bt N) 4096 q = N := by omega
      have htx : jTx (rg bt N) N = .ok xs := by
        unfold jTx jFin
        rw [he]
        dsimp only
        rw [if_pos hq]
      obtain ⟨t1, t2, t3, t4, t5, t6, t7, t8⟩ := jTx_tOk hb hN htx
      refine r_need Γ (by omega) hok ht (fun c9 => absurd c9 (by decide)) (fun _ => ?_)
      have hT2 : rTx M2 t xs := ⟨hrep, t1, t5, t6⟩
      have hC2 : rC M2 t xs (0, 0, [], []) := r60.rc (h60.fr (fun j hj => fr2 t j (by omega)) (fun a h1 h2 => funext fun j => fr2 a j (by omega)))
      have k1 : kOk (0, 0, [], []) := fun i m hm => by
        have : (SS.ns (0, 0, [], []))[i]? = none := rfl
        rw [this] at hm
        exact nomatch hm
      have eno : ∀ (i : Nat) (m : SN), ¬ (SS.ns (0, 0, [], []))[i]? = some m := fun i m hh => by
        have : (SS.ns (0, 0, [], []))[i]? = none := rfl
        rw [this] at hh
        exact nomatch hh
      have k2 : kV (0, 0, [], []) := ⟨⟨fun i m q hm => absurd hm (eno i m), fun i j m m2 q r hm => absurd hm (eno i m), fun i m hm => absurd hm (eno i m)⟩, fun z hz => nomatch hz⟩
      have hP0 : rP xs 0 = 0 := by
        unfold rP rWp jk
        rw [t8]
        rfl
      have hsz := (jWf_at t1 t2).2.2.2.1
      have hlk := r_look (xs := xs) (l := l) (s0 := s0) (a0 := a0) (G := G) (ca := ca) (C := C) (S := S) (t := t) Γ hok ht 16 (Nat.le_refl _)
      have hlk2 := hlk (d - 1) 0 false (0, 0, [], []) M2 (fun r51 M51 => zg_X10_readAll_59 l s0 G ca d C S (zw s0 ca C S M) t 0 (zu M51 t 31 r51) Q X) X (by omega) t2 hT2 hC2 k1 k2 (by show 0 + _ ≤ _; omega) (fun e he2 => ?_) (fun n st he2 => ?_)
      · rw [hP0] at hlk2
        exact hlk2
      · refine (fun M3 f3 => kE xs e htx ?_ M3 (eX.of fr2.w f3))
        unfold sDra sTop
        rw [he2]
      · intro M3 f1 f2
        have htop : sTop xs = .ok (n, st) := he2
        have hfin := sTop_fin t1 t2 htop
        have hT3 : rTx (zu M3 t 31 (n : Int)) t xs := ⟨rRep.fr (fun a h1 h2 => funext fun j => zu_a (by omega)) (hT2.fr f2).1, hT2.2⟩
        have hfr : zfr t M (zu M3 t 31 (n : Int)) := fun b j hb2 => by
          rw [zu_a (by omega), f2.1 b (by omega)]
          exact fr2.w b j hb2
        refine r_lateL Γ (by omega) hok ht hfin t4 hT3 f1.s31 st.lt [] rfl (fun e he3 => ?_) (fun hn => ?_)
        · intro M4 f4
          refine kE xs (12, e) htx ?_ M4 (eX.of hfr f4)
          unfold sDra
          rw [htop]
          dsimp only
          rw [he3]
        · refine kO xs n st htx ?_ hfin _ hT3 f1.s31 (zu_s _ _ _ _) hfr (fun j hj => ?_)
          · unfold sDra
            rw [htop]
            dsimp only
            rw [hn]
          · rw [zu_k (by omega), f2.2 j (by omega)]
            exact fr2 t j (by omega)
    · have hne : ¬ jSk (rg bt N) 4096 q = N := fun h => ce (by rw [h])
      refine r_need Γ (by omega) hok ht (fun _ M3 f3 => ?_) (fun c9 => absurd (by decide) c9)
      rw [e2] at f3
      refine kT (jSk (rg bt N) 4096 q) ?_ M3 (eX.of fr2.w f3)
      unfold jTx jFin
      rw [he]
      dsimp only
      rw [if_neg hne]
end UGs
