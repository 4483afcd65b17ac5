/-! ===== the reference's shapes: what stays ===== -/
theorem rStr.fr {M M1 : zM} {t j : Int} {L : Nat} {ws : List Int32} (h : rStr M t j L ws) (e : ∀ a : Int, t + 2 ≤ a → a ≤ t + 8 → M1 a = M a) : rStr M1 t j L ws := by
  unfold rStr rLet at *
  rw [e (t + 2) (by omega) (by omega), e (t + 4) (by omega) (by omega), e (t + 5) (by omega) (by omega), e (t + 8) (by omega) (by omega)]
  exact h
theorem rRep.fr {M M1 : zM} {t : Int} (e : ∀ a : Int, t + 2 ≤ a → a ≤ t + 8 → M1 a = M a) : ∀ {xs : List JR} {W L : Nat}, rRep M t xs W L → rRep M1 t xs W L := by
  intro xs
  induction xs with
  | nil => intro W L _; trivial
  | cons x xs ih =>
    intro W L h
    obtain ⟨h1, h2, h3, h4⟩ := h
    refine ⟨fun k hk => ⟨(h1 k hk).1.fr e, by rw [e (t + 7) (by omega) (by omega)]; exact (h1 k hk).2⟩, ?_, h3, ih h4⟩
    obtain ⟨g1, g2, g3, g4, g5, g6, g7⟩ := h2
    exact ⟨by rw [e (t + 2) (by omega) (by omega)]; exact g1, by rw [e (t + 3) (by omega) (by omega)]; exact g2, fun c => by rw [e (t + 4) (by omega) (by omega)]; exact g3 c, fun c => (g4 c).fr e, fun c => by rw [e (t + 5) (by omega) (by omega)]; exact g5 c, fun c => by rw [e (t + 6) (by omega) (by omega)]; exact g6 c, by rw [e (t + 7) (by omega) (by omega)]; exact g7⟩
/-- what a look at the schema may write -/
def sfr (t : Int) (M M1 : zM) : Prop := (∀ a : Int, (a < t ∨ (t + 1 ≤ a ∧ a ≤ t + 8) ∨ t + 19 < a) → M1 a = M a) ∧ ∀ j : Int, ¬ (j = 16 ∨ j = 17 ∨ j = 24 ∨ j = 29) → M1 t j = M t j
theorem sfr.rf {t : Int} {M : zM} : sfr t M M := ⟨fun _ _ => rfl, fun _ _ => rfl⟩
theorem sfr.tr {t : Int} {M M1 M2 : zM} (h1 : sfr t M M1) (h2 : sfr t M1 M2) : sfr t M M2 := ⟨fun a h => (h2.1 a h).trans (h1.1 a h), fun j h => (h2.2 j h).trans (h1.2 j h)⟩
theorem sfr.zu {t : Int} {M M1 : zM} (h : sfr t M M1) {a k v : Int} (ha : t + 9 ≤ a ∧ a ≤ t + 19) : sfr t M (zu M1 a k v) := ⟨fun b hb => by
  rw [← h.1 b hb]
  exact funext fun j => zu_a (by omega), fun j hj => (zu_a (by omega)).trans (h.2 j hj)⟩
theorem sfr_zt {t : Int} {M M1 : zM} (h : sfr t M M1) {k v : Int} (hk : k = 16 ∨ k = 17 ∨ k = 24 ∨ k = 29) : sfr t M (zu M1 t k v) := ⟨fun b hb => by
  rw [← h.1 b hb]
  exact funext fun j => zu_a (by omega), fun j hj => (zu_k (fun e => hj (by rw [e]; exact hk))).trans (h.2 j hj)⟩
theorem sfr.eX {t : Int} {M M1 M2 : zM} {c e : Int} (h : sfr t M M1) (h2 : eX t M1 M2 c e) : eX t M M2 c e := ⟨h2.1, h2.2.1, fun b j hb => (h2.2.2 b j hb).trans (by rw [h.1 b (by omega)])⟩
theorem rTx.fr {M M1 : zM} {t : Int} {xs : List JR} (hT : rTx M t xs) (h : sfr t M M1) : rTx M1 t xs := ⟨rRep.fr (fun a h1 h2 => h.1 a (by omega)) hT.1, hT.2⟩
theorem rK.mono {M M1 : zM} {t : Int} {xs : List JR} {kd : Nat} {q : SP} (h : rK M t xs kd q) (e : ∀ a : Int, t + 15 ≤ a → a ≤ t + 17 → M1 a q.kn = M a q.kn) : rK M1 t xs kd q :=
  ⟨fun m hm => by rw [e _ (by omega) (by omega)]; exact h.1 m hm, fun c => by
    obtain ⟨v, h1, h2⟩ := h.2.1 c
    exact ⟨v, by rw [e _ (by omega) (by omega)]; exact h1, h2⟩, fun c => by rw [e _ (by omega) (by omega)]; exact h.2.2 c⟩
theorem rCh.mono {M M1 : zM} {t : Int} {xs : List JR} {kd : Nat} : ∀ {ps : List SP} {h : Int}, rCh M t xs kd ps h → (∀ q ∈ ps, ∀ a : Int, t + 15 ≤ a → a ≤ t + 18 → M1 a q.kn = M a q.kn) → rCh M1 t xs kd ps h := by
  intro ps
  induction ps with
  | nil => intro h hc _; exact hc
  | cons q r ih =>
    intro h hc e
    obtain ⟨h1, h2, h3, h4⟩ := hc
    have eq := e q List.mem_cons_self
    refine ⟨h1, h2, h3.mono (fun a g1 g2 => eq a g1 (by omega)), ?_⟩
    rw [eq _ (by omega) (by omega)]
    exact ih h4 (fun q' hq => e q' (List.mem_cons_of_mem _ hq))
theorem rN.mono {M M1 : zM} {t : Int} {xs : List JR} {n : SN} {s : Nat} (h : rN M t xs n s) (e : ∀ a : Int, t + 9 ≤ a → a ≤ t + 14 → M1 a s = M a s) (ek : ∀ q ∈ n.ps, ∀ a : Int, t + 15 ≤ a → a ≤ t + 18 → M1 a q.kn = M a q.kn) : rN M1 t xs n s := by
  obtain ⟨h1, h2, h3, h4, h5, h6, h7⟩ := h
  exact ⟨by rw [e _ (by omega) (by omega)]; exact h1, fun c => by rw [e _ (by omega) (by omega)]; exact h2 c, fun w v c => by rw [e _ (by omega) (by omega)]; exact h3 w v c, by rw [e _ (by omega) (by omega)]; exact h4, by rw [e _ (by omega) (by omega)]; exact h5.mono ek, fun c c2 => by rw [e _ (by omega) (by omega)]; exact h6 c c2, fun c => by rw [e _ (by omega) (by omega)]; exact h7 c⟩
section SAs
variable {l : Launch} {s0 : State} {a0 : Array Value} {G : va_G} {ca : Nat → ClassId} {d : Nat} {C : Nat × Nat} {S : zS} {M : zM} {Q : Int → zM → Prop} {X : zM → Prop} {xs : List JR} {v : Nat} {t : Int} {st : SS}
/-- a shape more -/
theorem r_shape (Γ : rt_Γ l s0 a0 G ca) (hok : zok C) (ht : zTx S t) (hC : rC M t xs st) (hlt : st.ns.length < st.lk) {kd : Nat} (ct : Nat) (hlv : ∀ z ∈ st.lt, z.1 < 6 + st.ns.length) (hQ : ∀ M1 : zM, rC M1 t xs (sNew st kd none ct) → sfr t M M1 → Q (sNum st : Nat) M1) : zm_X10_shape l s0 G ca d C S t kd M Q X := by
  refine z_X10_shape Γ hok ht ?_
  unfold zt_X10_shape
  obtain ⟨⟨a1, a2, a3, a4⟩, h6, hn, hf, l1, l2, l3, l4⟩ := hC
  rw [a2]
  refine ⟨⟨by omega, by omega⟩, ?_⟩
  generalize hM1 : zu (zu (zu (zu (zu (zu (zu M (t + 9) ((6 + st.ns.length : Nat) : Int) kd) (t + 10) ((6 + st.ns.length : Nat) : Int) (-1)) (t + 11) ((6 + st.ns.length : Nat) : Int) 0) (t + 12) ((6 + st.ns.length : Nat) : Int) (-1)) (t + 13) ((6 + st.ns.length : Nat) : Int) 0) (t + 14) ((6 + st.ns.length : Nat) : Int) (-1)) t 16 (((6 + st.ns.length : Nat) : Int) + 1) = M1
  have fr : ∀ a j : Int, ¬ (a = t ∧ j = 16) → ¬ (t + 9 ≤ a ∧ a ≤ t + 14 ∧ j = ((6 + st.ns.length : Nat) : Int)) → M1 a j = M a j := fun a j n1 n2 => by
    rw [← hM1]
    unfold zu
    rw [if_neg n1, if_neg (fun c => n2 ⟨by omega, by omega, c.2⟩), if_neg (fun c => n2 ⟨by omega, by omega, c.2⟩), if_neg (fun c => n2 ⟨by omega, by omega, c.2⟩), if_neg (fun c => n2 ⟨by omega, by omega, c.2⟩), if_neg (fun c => n2 ⟨by omega, by omega, c.2⟩), if_neg (fun c => n2 ⟨by omega, by omega, c.2⟩)]
  have hq := hQ M1 ?_ ?_
  · rw [show ((sNum st : Nat) : Int) = ((6 + st.ns.length : Nat) : Int) + 1 - 1 by unfold sNum; omega] at hq
    exact hq
  · refine ⟨⟨by rw [fr _ _ (by omega) (by omega)]; exact a1, ?_, by rw [fr _ _ (by omega) (by omega)]; exact a3, by rw [fr _ _ (by omega) (by omega)]; exact a4⟩, fun i hi => ?_, fun i n hin => ?_, fun i z hz => ?_, ?_, l2, l3, l4⟩
    · rw [← hM1, zu_s, sNew_len]
      omega
    · obtain ⟨g1, g2, g3⟩ := h6 i hi
      exact ⟨by rw [fr _ _ (by omega) (by omega)]; exact g1, by rw [fr _ _ (by omega) (by omega)]; exact g2, by rw [fr _ _ (by omega) (by omega)]; exact g3⟩
    · by_cases hlt2 : i < st.ns.length
      · have hin2 : st.ns[i]? = some n := by
          have : (st.ns ++ [(kd, none, -1, ct, [])])[i]? = some n := hin
          rw [List.getElem?_append_left hlt2] at this
          exact this
        exact (hn i n hin2).mono (fun a _ _ => fr _ _ (by omega) (by omega)) (fun q _ a _ _ => fr _ _ (by omega) (by omega))
      · have hi2 : i = st.ns.length := by
          have := (List.getElem?_eq_some_iff.mp hin).1
          rw [sNew_len] at this
          omega
        subst hi2
        rw [sNew_at] at hin
        cases hin
        refine ⟨?_, fun _ => ?_, fun w v c => (nomatch c), ?_, ?_, fun c c2 => ?_, fun c => ?_⟩
        · rw [← hM1, zu_a (by omega), zu_a (by omega), zu_a (by omega), zu_a (by omega), zu_a (by omega), zu_a (by omega), zu_s]
        · rw [← hM1, zu_a (by omega), zu_a (by omega), zu_a (by omega), zu_a (by omega), zu_a (by omega), zu_s]
        · rw [← hM1, zu_a (by omega), zu_a (by omega), zu_s]; rfl
        · show M1 (t + 12) _ = -1
          rw [← hM1, zu_a (by omega), zu_a (by omega), zu_a (by omega), zu_s]
        · exact absurd (show (0 : Int) ≤ -1 from c2) (by decide)
        · rw [← hM1, zu_a (by omega), zu_s]
    · obtain ⟨q, g1, g2⟩ := hf i z hz
      refine ⟨q, ?_, by rw [fr _ _ (by omega) (by omega)]; exact g2⟩
      have hzl := hlv z (List.mem_of_getElem? hz)
      have : nN (sNew st kd none ct).ns z.1 = nN st.ns z.1 := by
        unfold nN
        by_cases c : z.1 < 6
        · rw [if_pos c, if_pos c]
        · rw [if_neg c, if_neg c, List.getD_eq_getElem?_getD, List.getD_eq_getElem?_getD]
          show ((st.ns ++ [_])[z.1 - 6]?).getD _ = _
          rw [List.getElem?_append_left (by omega)]
      rw [this]
      exact g1
    · rw [sNew_len]
      show _ ≤ st.lk
      omega
  · rw [← hM1]
    exact sfr_zt ((((((sfr.rf.zu (by omega)).zu (by omega)).zu (by omega)).zu (by omega)).zu (by omega)).zu (by omega)) (Or.inl rfl)
end SAs
