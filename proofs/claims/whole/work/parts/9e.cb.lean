/-! ===== the reference's lookAtRows ===== -/
/-- what looking at all of the tape may write -/
def nfr (M M1 : zM) : Prop := ∀ c j : Int, ¬ (c = 84 ∧ (j = 3 ∨ (15 ≤ j ∧ j ≤ 20))) → ¬ c = 134 → M1 c j = M c j
theorem nfr.rf {M : zM} : nfr M M := fun _ _ _ _ => rfl
theorem nfr.tr {M M1 M2 : zM} (h1 : nfr M M1) (h2 : nfr M1 M2) : nfr M M2 := fun c j n1 n2 => (h2 c j n1 n2).trans (h1 c j n1 n2)
theorem nfr.u {M M1 : zM} (h : nfr M M1) {k v : Int} (hk : k = 3 ∨ (15 ≤ k ∧ k ≤ 20)) : nfr M (zu M1 84 k v) := fun c j n1 n2 => by
  rw [← h c j n1 n2]
  exact zu_ne (fun e => n1 ⟨e.1, by omega⟩)
theorem mfr.n {u : Nat} {M M1 : zM} (h : mfr u M M1) : nfr M M1 := fun c j n1 n2 => h c j (fun e => n1 ⟨e.1, Or.inr e.2⟩) (fun e => n2 e.1)
theorem nfr.c {t : Int} {M M1 : zM} {xs : List JR} {st : SS} (hf : nfr M M1) (hC : rC M t xs st) (ht : 86 ≤ t ∧ t + 21 < 134) : rC M1 t xs st := hC.m (fun a j h1 h2 => hf a j (by omega) (by omega))
theorem nfr.t {M M1 : zM} {b : List Nat} (hf : nfr M M1) (h : mTp M b) : mTp M1 b := by
  obtain ⟨a1, a2, a3⟩ := h
  exact ⟨by rw [hf 84 2 (by omega) (by omega)]; exact a1, a2, fun j hj => ⟨by rw [hf 85 j (by omega) (by omega)]; exact (a3 j hj).1, (a3 j hj).2⟩⟩
/-- what is made -/
def mds (M : zM) (w : List Nat) : Prop := M 84 15 = (w.length : Int) ∧ ∀ j : Nat, j < w.length → M 134 (j : Int) = w8 (w.getD j 0 : Nat)
section CB
variable {l : Launch} {s0 : State} {a0 : Array Value} {G : va_G} {ca : Nat → ClassId} {d : Nat} {C : Nat × Nat} {S : zS} {M M0 : zM} {Q : Int → zM → Prop} {X : zM → Prop} {b : List Nat} {xs : List JR} {st : SS} {root : Nat} {t : Int}
theorem m_rowsL (Γ : rt_Γ l s0 a0 G ca) (hd : 200 ≤ d) (hok : zok C) (hS : mSh S t) (hF : kF st) (hO : kOk st) (hL : kPs st) (hT0 : mTp M0 b) (hR0 : rC M0 t xs st) (hroot : M0 t 31 = (root : Int)) (hrt : root < 6 + st.ns.length) {w0 : rt_Wd} :
    ∀ (T q : Nat) (L : List (List Nat)) (M : zM), b.length + 1 ≤ T + q → q ≤ b.length → L.flatten.length ≤ q → L.length ≤ q → nfr M0 M → M 84 16 = (q : Int) → M 84 3 = -1 → mds M L.flatten →
    (∀ e : Nat × Nat, yRows st.ns b root T q = .error (some e) → ∀ M1 : zM, M1 84 3 = (e.2 : Int) → nfr M0 M1 → Q (-(e.1 : Int)) M1) →
    (yRows st.ns b root T q = .error none → ∀ M1 : zM, M1 84 3 = -1 → nfr M0 M1 → Q (-34) M1) →
    (∀ L2 : List (List Nat), yRows st.ns b root T q = .ok L2 → ∀ M1 : zM, M1 84 3 = -1 → nfr M0 M1 → mds M1 (L ++ L2).flatten → Q ((L ++ L2).length : Nat) M1) →
    zg_X11_lookAtRows_27 l s0 G ca d C S w0 t 1 L.length M Q X := by
  obtain ⟨hs, ht, ht1, ht2⟩ := id hS
  have hN := hT0.2.1
  intro T
  induction T with
  | zero => intro q L M hT hq; omega
  | succ T ih =>
    intro q L M hTq hq hLf hLl hf h16 h3 hm kE kN kO
    have hT := hf.t hT0
    have hR := hf.c hR0 ⟨ht1, ht2⟩
    have hrtM : M t 31 = (root : Int) := by rw [hf t 31 (by omega) (by omega)]; exact hroot
    refine zs_X11_lookAtRows_27 Γ (by omega) hok hs ?_
    unfold zt_X11_lookAtRows_27
    rw [h16, hT.1, w32_id (x := (b.length : Int)) (by omega) (by omega), w32_id (x := (q : Int)) (by omega) (by omega)]
    unfold yRows at kE kN kO
    refine ⟨fun c1 => ?_, fun c1 => ⟨ht, ?_⟩⟩
    · rw [if_pos (by omega)] at kO
      have := kO [] rfl M h3 hf (by rw [List.append_nil]; exact hm)
      rw [List.append_nil] at this
      exact this
    · rw [if_neg (by omega)] at kE kN kO
      rw [hrtM]
      have f1 : nfr M (zu (zu M 84 19 0) 84 20 0) := (nfr.rf.u (by decide)).u (by decide)
      have hP1 : mP (zu (zu M 84 19 0) 84 20 0) (q, 0, 0) := ⟨by rw [zu_k (by decide), zu_k (by decide)]; exact h16, zu_s _ _ _ _, by rw [zu_k (by decide), zu_s]; rfl⟩
      have h15 : zu (zu M 84 19 0) 84 20 0 84 15 = (L.flatten.length : Int) := by rw [zu_k (by decide), zu_k (by decide)]; exact hm.1
      have e124 : ∀ j : Int, zu (zu M 84 19 0) 84 20 0 134 j = M 134 j := fun j => by rw [zu_a (by decide), zu_a (by decide)]
      have e3 : zu (zu M 84 19 0) 84 20 0 84 3 = -1 := by rw [zu_k (by decide), zu_k (by decide)]; exact h3
      generalize zu (zu M 84 19 0) 84 20 0 = M1 at f1 hP1 h15 e124 e3
      have hA : yA b (q, 0, 0) := ⟨hq, Nat.zero_le _, Nat.zero_le _⟩
      refine m_look (C := C) Γ hok hS hF hO hL 32 (d - 1) root (q, 0, 0) L.flatten.length M1 _ _ (by omega) (Nat.le_refl _) hrt hA (f1.t hT) (f1.c hR ⟨ht1, ht2⟩) hP1 h15 hLf (fun e he M2 x => ?_) (fun w y2 he M2 o => ?_)
      · rw [x.1.1]
        refine kE e (by rw [he]) _ ?_ ((hf.tr (f1.tr x.2.n)).u (by decide))
        rw [zu_s]
        exact x.1.2.1
      · obtain ⟨b1, b2, -⟩ := (yLook_g 32 root (q, 0, 0) hA).2 w y2 he
        have b3 : w.length + q ≤ y2.1 := b2
        have b4 := b1.1
        have k3 : M2 84 3 = -1 := by rw [o.2.2.2 84 3 (by omega) (by omega)]; exact e3
        rw [o.1.1, w32_id (by omega) (by omega)]
        have hf2 := hf.tr (f1.tr o.2.2.2.n)
        refine ⟨fun c2 => kN (by rw [he]; dsimp only; rw [if_pos (by omega)]) M2 k3 hf2, fun c2 => ?_⟩
        rw [show ((L.length : Nat) : Int) + 1 = (((L ++ [w]).length : Nat) : Int) by rw [List.length_append, List.length_singleton]; omega]
        have hlf : (L ++ [w]).flatten.length = L.flatten.length + w.length := by rw [flat_snoc, List.length_append]
        have hne : ¬ y2.1 = q := by omega
        refine ih y2.1 (L ++ [w]) M2 (by omega) b4 (by rw [hlf]; omega) (by rw [List.length_append, List.length_singleton]; omega) hf2 o.1.1 k3 ⟨?_, fun j hj => ?_⟩ (fun e h2 => kE e ?_) (fun h2 => kN ?_) (fun L2 h2 => ?_)
        · rw [hlf]; exact o.2.1
        · rw [hlf] at hj
          rw [flat_snoc, List.getD_eq_getElem?_getD]
          by_cases cj : j < L.flatten.length
          · rw [List.getElem?_append_left cj, ← List.getD_eq_getElem?_getD, ← hm.2 j cj, ← e124 j]
            exact o.2.2.2 _ _ (by omega) (by omega)
          · rw [List.getElem?_append_right (by omega), ← List.getD_eq_getElem?_getD, ← o.2.2.1 (j - L.flatten.length) (by omega)]
            rw [show L.flatten.length + (j - L.flatten.length) = j by omega]
        · rw [he]
          dsimp only
          rw [if_neg hne, h2]
        · rw [he]
          dsimp only
          rw [if_neg hne, h2]
        · have := kO (w :: L2) (by rw [he]; dsimp only; rw [if_neg hne, h2])
          rw [show L ++ w :: L2 = L ++ [w] ++ L2 by rw [List.append_assoc]; rfl] at this
          exact this
theorem m_rows (Γ : rt_Γ l s0 a0 G ca) (hd : 200 ≤ d) (hok : zok C) (hS : mSh S t) (hF : kF st) (hO : kOk st) (hL : kPs st) (hT0 : mTp M b) (hR0 : rC M t xs st) (hroot : M t 31 = (root : Int)) (hrt : root < 6 + st.ns.length)
    (kE : ∀ e : Nat × Nat, yAll st.ns b root = .error (some e) → ∀ M1 : zM, M1 84 3 = (e.2 : Int) → nfr M M1 → Q (-(e.1 : Int)) M1)
    (kN : yAll st.ns b root = .error none → ∀ M1 : zM, M1 84 3 = -1 → nfr M M1 → Q (-34) M1)
    (kO : ∀ L : List (List Nat), yAll st.ns b root = .ok L → ∀ M1 : zM, M1 84 3 = -1 → nfr M M1 → mds M1 L.flatten → Q (L.length : Nat) M1) : zc_X11_lookAtRows l s0 G ca d C S t 1 M Q := by
  obtain ⟨hs, ht, ht1, ht2⟩ := id hS
  have hN := hT0.2.1
  refine z_X11_lookAtRows (X := fun _ => True) Γ (by omega) hok hs ?_
  unfold zt_X11_lookAtRows
  have f0 : nfr M (zu (zu (zu M 84 16 0) 84 15 0) 84 3 (-1)) := ((nfr.rf.u (by decide)).u (by decide)).u (by decide)
  rw [hT0.1, w32_id (by omega) (by omega)]
  unfold yAll at kE kN kO
  refine ⟨fun c => ?_, fun c => ?_⟩
  · rw [if_pos (by omega)] at kN
    exact kN rfl _ (zu_s _ _ _ _) f0
  · rw [if_neg (by omega)] at kE kN kO
    refine m_rowsL Γ hd hok hS hF hO hL hT0 hR0 hroot hrt (b.length + 1) 0 [] _ (by omega) (Nat.zero_le _) (Nat.zero_le _) (Nat.zero_le _) f0 ?_ (zu_s _ _ _ _) ⟨?_, fun j hj => absurd hj (Nat.not_lt_zero _)⟩ kE kN (fun L2 h M1 => kO L2 h M1)
    · rw [zu_k (by decide), zu_k (by decide), zu_s]
      rfl
    · rw [zu_k (by decide), zu_s]
      rfl
end CB
