/-! ===== a shape's name; a field is done; addKid ===== -/
section SUs
variable {l : Launch} {s0 : State} {a0 : Array Value} {G : va_G} {ca : Nat → ClassId} {d : Nat} {C : Nat × Nat} {S : zS} {M : zM} {Q : Int → zM → Prop} {X : zM → Prop} {xs : List JR} {v : Nat} {t : Int} {st : SS}
theorem rC_nam {kd ct : Nat} (hC : rC M t xs (sNew st kd none ct)) (hU : kU (sNew st kd none ct)) (hv : v < xs.length) (hk : (xx xs v).kd = 3) : rC (zu M (t + 10) ((sNum st : Nat) : Int) (rP xs v : Nat)) t xs (sNew st kd (some ((xx xs v).ws, v)) ct) := by
  have hat : (sNew st kd none ct).ns[st.ns.length]? = some (kd, none, -1, ct, []) := sNew_at
  have hn := hC.2.2.1 _ _ hat
  have e : nPut (sNew st kd none ct).ns (6 + st.ns.length) (kd, some ((xx xs v).ws, v), -1, ct, []) = (sNew st kd (some ((xx xs v).ws, v)) ct).ns := by
    unfold nPut sNew
    rw [show 6 + st.ns.length - 6 = st.ns.length by omega]
    show (st.ns ++ [_]).set st.ns.length _ = st.ns ++ [_]
    rw [List.set_append_right _ _ (Nat.le_refl _), Nat.sub_self]
    rfl
  have hup := rC_upd (M2 := zu M (t + 10) ((sNum st : Nat) : Int) (rP xs v : Nat)) hC hU hat (n' := (kd, some ((xx xs v).ws, v), -1, ct, [])) rfl (fun a j n1 n2 => if_neg (fun c => n1 ⟨by omega, by omega, c.2⟩)) ?_
  · rw [e] at hup
    exact hup
  · obtain ⟨h1, h2, h3, h4, h5, h6, h7⟩ := hn
    have e9 : ∀ a j : Int, ¬ a = t + 10 → zu M (t + 10) ((sNum st : Nat) : Int) (rP xs v : Nat) a j = M a j := fun a j h => zu_a h
    refine ⟨by rw [e9 _ _ (by omega)]; exact h1, fun c => (nomatch c), fun w u c => ?_, by rw [e9 _ _ (by omega)]; exact h4, ?_, fun c c2 => by rw [e9 _ _ (by omega)]; exact h6 c c2, fun c => by rw [e9 _ _ (by omega)]; exact h7 c⟩
    · cases c
      exact ⟨zu_s _ _ _ _, hv, hk, rfl⟩
    · show zu M (t + 10) _ _ (t + 12) _ = -1
      rw [e9 _ _ (by omega)]
      exact h5
theorem rC_done (hC : rC M t xs st) {s k : Nat} {q : SP} (hq : (nN st.ns s).ps[k]? = some q) (hl : st.lt.length < st.lk) (df : Option Nat) : rC (zu (zu M (t + 19) st.lt.length q.kn) t 29 ((st.lt.length : Int) + 1)) t xs (sDone st s k df) := by
  obtain ⟨⟨a1, a2, a3, a4⟩, h6, hns, hft, l1, l2, l3, l4⟩ := hC
  have e : ∀ a j : Int, ¬ a = t + 19 → ¬ (a = t ∧ j = 29) → zu (zu M (t + 19) st.lt.length q.kn) t 29 ((st.lt.length : Int) + 1) a j = M a j := fun a j n1 n2 => (if_neg n2).trans (zu_a n1)
  have hlen : (sDone st s k df).lt.length = st.lt.length + 1 := List.length_append
  refine ⟨⟨by rw [e _ _ (by omega) (by omega)]; exact a1, by rw [e _ _ (by omega) (by omega)]; exact a2, by rw [e _ _ (by omega) (by omega)]; exact a3, ?_⟩, fun i hi => ?_, fun i n hi => ?_, fun i z hz => ?_, l1, l2, l3, ?_⟩
  · rw [zu_s, hlen]
    omega
  · obtain ⟨g1, g2, g3⟩ := h6 i hi
    exact ⟨by rw [e _ _ (by omega) (by omega)]; exact g1, by rw [e _ _ (by omega) (by omega)]; exact g2, by rw [e _ _ (by omega) (by omega)]; exact g3⟩
  · exact (hns i n hi).mono (fun a _ _ => e _ _ (by omega) (by omega)) (fun q _ a _ _ => e _ _ (by omega) (by omega))
  · have hz2 : (st.lt ++ [(s, k, df)])[i]? = some z := hz
    by_cases hi : i < st.lt.length
    · rw [List.getElem?_append_left hi] at hz2
      obtain ⟨q2, g1, g2⟩ := hft i z hz2
      refine ⟨q2, g1, ?_⟩
      rw [zu_a (by omega), zu_k (by omega)]
      exact g2
    · rw [List.getElem?_append_right (by omega)] at hz2
      by_cases hi2 : i = st.lt.length
      · subst hi2
        rw [Nat.sub_self] at hz2
        cases hz2
        refine ⟨q, hq, ?_⟩
        rw [zu_a (by omega), zu_s]
      · rw [List.getElem?_eq_none (by simp only [List.length_singleton]; omega)] at hz2
        exact nomatch hz2
  · rw [hlen]
    exact hl
/-- behind addKid -/
def kdF (M M1 : zM) (t : Int) (kc : Nat) (s : Int) (ps : List SP) : Prop :=
  (∀ a j : Int, ¬ (a = t ∧ j = 24) → ¬ (t + 15 ≤ a ∧ a ≤ t + 18 ∧ j = kc) → ¬ (a = t + 18 ∧ ¬ ps = [] ∧ j = lastK ps) → ¬ (a = t + 12 ∧ ps = [] ∧ j = s) → ¬ (a = t + 13 ∧ j = s) → M1 a j = M a j) ∧
  M1 t 24 = ((kc + 1 : Nat) : Int) ∧ M1 (t + 18) kc = -1 ∧ (¬ ps = [] → M1 (t + 18) (lastK ps) = kc) ∧ (ps = [] → M1 (t + 12) s = kc) ∧ M1 (t + 13) s = M (t + 13) s + 1
theorem r_kid (Γ : rt_Γ l s0 a0 G ca) (hok : zok C) (ht : zTx S t) {kc : Nat} (hkc : M t 24 = kc) (hb : kc < 2200) {s : Int} (hs0 : 0 ≤ s) (hs : s < 140) {ps : List SP} (hps : ∀ q ∈ ps, q.kn < kc) (hQ : ∀ M1 : zM, kdF M M1 t kc s ps → Q kc M1) : zm_X10_addKid l s0 G ca d C S t s (lastK ps) M Q X := by
  refine z_X10_addKid Γ hok ht ?_
  unfold zt_X10_addKid zt_X10_addKid_64
  rw [hkc]
  refine ⟨⟨by omega, by omega⟩, fun c => ?_, fun c => ?_⟩
  · have hne : ¬ ps = [] := fun e => by
      rw [e] at c
      exact absurd c (by decide)
    obtain ⟨q, g1, g2⟩ := lastK_mem hne
    have hql := hps q g1
    rw [g2]
    refine ⟨⟨by omega, by omega⟩, ⟨hs0, hs⟩, hQ _ ⟨fun a j n1 n2 n3 n4 n5 => ?_, ?_, ?_, fun _ => ?_, fun e => absurd e hne, ?_⟩⟩
    · unfold zu
      rw [if_neg n5, if_neg (fun e => n3 ⟨e.1, hne, by rw [g2]; exact e.2⟩), if_neg (fun e => n2 ⟨by omega, by omega, e.2⟩), if_neg (fun e => n2 ⟨by omega, by omega, e.2⟩), if_neg (fun e => n2 ⟨by omega, by omega, e.2⟩), if_neg (fun e => n2 ⟨by omega, by omega, e.2⟩), if_neg n1]
    · rw [zu_a (by omega), zu_a (by omega), zu_a (by omega), zu_a (by omega), zu_a (by omega), zu_a (by omega), zu_s]; omega
    · rw [zu_a (by omega), zu_k (by omega), zu_s]
    · rw [g2, zu_a (by omega), zu_s]
    · rw [zu_s, zu_a (by omega), zu_a (by omega), zu_a (by omega), zu_a (by omega), zu_a (by omega), zu_a (by omega)]
  · have hn : ps = [] := by
      cases hp : ps with
      | nil => rfl
      | cons a r =>
        exfalso
        obtain ⟨q, g1, g2⟩ := lastK_mem (ps := ps) (by rw [hp]; exact fun h => nomatch h)
        have hql := hps q g1
        rw [g2, w32_id (by omega) (by omega)] at c
        omega
    refine ⟨⟨hs0, hs⟩, ⟨hs0, hs⟩, hQ _ ⟨fun a j n1 n2 n3 n4 n5 => ?_, ?_, ?_, fun e => absurd hn e, fun _ => ?_, ?_⟩⟩
    · unfold zu
      rw [if_neg n5, if_neg (fun e => n4 ⟨e.1, hn, e.2⟩), if_neg (fun e => n2 ⟨by omega, by omega, e.2⟩), if_neg (fun e => n2 ⟨by omega, by omega, e.2⟩), if_neg (fun e => n2 ⟨by omega, by omega, e.2⟩), if_neg (fun e => n2 ⟨by omega, by omega, e.2⟩), if_neg n1]
    · rw [zu_a (by omega), zu_a (by omega), zu_a (by omega), zu_a (by omega), zu_a (by omega), zu_a (by omega), zu_s]; omega
    · rw [zu_a (by omega), zu_a (by omega), zu_s]
    · rw [zu_a (by omega), zu_s]
    · rw [zu_s, zu_a (by omega), zu_a (by omega), zu_a (by omega), zu_a (by omega), zu_a (by omega), zu_a (by omega)]
end SUs
