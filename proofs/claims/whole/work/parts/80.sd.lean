/-! ===== the plan's steps in memory ===== -/
theorem nC.mono {M M1 : zM} {p : Int} {NU NU1 : Nat} {n : SN} {s b : Nat} (h : nC M p NU n s b) (hl : NU ≤ NU1) (e2 : M1 (p + 2) s = M (p + 2) s) (e4 : M1 (p + 4) s = M (p + 4) s) (e6 : M1 (p + 6) s = M (p + 6) s) (e8 : M1 (p + 10) s = M (p + 10) s) (e10 : M1 (p + 12) s = M (p + 12) s) (e12 : ∀ P : Nat, b ≤ P → P < b + n.ct → M1 (p + 14) P = M (p + 14) P) (e14 : ∀ P : Nat, b ≤ P → P < b + n.ct → M1 (p + 16) P = M (p + 16) P) (e20 : ∀ j : Int, 0 ≤ j → j < NU → M1 (p + 22) j = M (p + 22) j) : nC M1 p NU1 n s b := by
  obtain ⟨h1, h2, h3, h4, h5, h6, h7⟩ := h
  refine ⟨by rw [e2, h1], fun c => by rw [e4, h2 c], fun w v c => by rw [e4]; exact (h3 w v c).mono hl e20, by rw [e10, h4], fun c => by rw [e8, h5 c], fun c => ⟨(h6 c).1, fun q m g1 g2 => by rw [e6]; exact (h6 c).2 q m g1 g2⟩, fun c => ⟨by rw [e6]; exact (h7 c).1, (h7 c).2.1, fun k hk => ?_⟩⟩
  have := (h7 c).2.2 k hk
  cases hq : n.ps[k]? with
  | none =>
    rw [hq] at this
    show M1 (p + 16) ((b + k : Nat) : Int) = -1
    rw [e14 _ (by omega) (by omega)]
    exact this
  | some q =>
    rw [hq] at this
    obtain ⟨g1, g2, g3⟩ := this
    refine ⟨fun c => by rw [e14 _ (by omega) (by omega)]; exact g1 c, fun c => by rw [e14 _ (by omega) (by omega)]; exact (g2 c).mono hl e20, fun m hm => by rw [e12 _ (by omega) (by omega)]; exact g3 m hm⟩
theorem nTot_take {ns : List SN} {i : Nat} {n : SN} (h : ns[i]? = some n) : nTot (ns.take (i + 1)) = nTot (ns.take i) + n.ct := by
  rw [List.take_add_one, h]
  show nTot (ns.take i ++ [n]) = _
  rw [nTot_app]
  simp [nTot]
theorem nTot_mono {ns : List SN} {i j : Nat} (h : i ≤ j) : nTot (ns.take i) ≤ nTot (ns.take j) := by
  have : ns.take i = (ns.take j).take i := by rw [List.take_take, Nat.min_eq_left h]
  have e : nTot (ns.take j) = nTot ((ns.take j).take i) + nTot ((ns.take j).drop i) := by rw [← nTot_app, List.take_append_drop]
  rw [← this] at e
  omega
theorem nTot_le {ns : List SN} {i : Nat} : nTot (ns.take i) ≤ nTot ns := by
  have e : nTot ns = nTot (ns.take i) + nTot (ns.drop i) := by rw [← nTot_app, List.take_append_drop]
  omega
theorem nTot_in {ns : List SN} {i : Nat} {n : SN} (h : ns[i]? = some n) : nTot (ns.take i) + n.ct ≤ nTot ns := by
  rw [← nTot_take h]
  exact nTot_le
theorem nTot_set {ns : List SN} {i : Nat} {n n' : SN} (h : ns[i]? = some n) (hct : n'.ct = n.ct) : ∀ j : Nat, nTot ((ns.set i n').take j) = nTot (ns.take j) := by
  induction ns generalizing i with
  | nil => exact nomatch h
  | cons a r ih =>
    intro j
    cases j with
    | zero => rfl
    | succ j =>
      cases i with
      | zero =>
        simp only [List.getElem?_cons_zero, Option.some.injEq] at h
        subst h
        show n'.ct + nTot (r.take j) = a.ct + nTot (r.take j)
        rw [hct]
      | succ i =>
        simp only [List.getElem?_cons_succ] at h
        show a.ct + nTot ((r.set i n').take j) = a.ct + nTot (r.take j)
        rw [ih h]
theorem nTot_all (ns : List SN) : nTot (ns.take ns.length) = nTot ns := by rw [List.take_length]
theorem sLate_eq {ns ns' : List SN} : ∀ {lt : List (Nat × Nat × Option Nat)}, (∀ z ∈ lt, nBs ns' z.1 = nBs ns z.1) → sLate ns' lt = sLate ns lt := by
  intro lt
  induction lt with
  | nil => intro _; rfl
  | cons z r ih =>
    intro h
    have h1 := h z List.mem_cons_self
    have h2 := ih (fun y hy => h y (List.mem_cons_of_mem _ hy))
    unfold sLate
    cases z.2.2 with
    | none => exact h2
    | some v =>
      show (nBs ns' z.1 + z.2.1, v) :: sLate ns' r = (nBs ns z.1 + z.2.1, v) :: sLate ns r
      rw [h1, h2]
/-- the memory behind addNode -/
def zNewM (M : zM) (p : Int) (s kd : Int) : zM := zu (zu (zu (zu (zu (zu (zu M (p + 2) s kd) (p + 1) 1 (s + 1)) (p + 4) s (-1)) (p + 6) s (-1)) (p + 8) s (-1)) (p + 10) s 0) (p + 12) s 0
theorem zNewM_w (M : zM) (p s kd : Int) : zNewM M p s kd (p + 8) s = -1 := by
  unfold zNewM
  rw [zu_a (by omega), zu_a (by omega), zu_s]
theorem sC_newM {M : zM} {p : Int} {NU : Nat} {st : SS} (hC : sC M p NU st) (hlt : st.ns.length < 128) {k : Int} : zput (zput (zput (zput (zput (zadd M (p + 1) (p + 2) 134 k) (p + 4) 134 (M (p + 1) 1) (-1)) (p + 6) 134 (M (p + 1) 1) (-1)) (p + 8) 134 (M (p + 1) 1) (-1)) (p + 10) 134 (M (p + 1) 1) 0) (p + 12) 134 (M (p + 1) 1) 0 = zNewM M p ((sNum st : Nat) : Int) k := by
  have b1 := hC.2.1.1
  unfold sNum zNewM
  rw [b1, (zadd_in b1 (by omega) (by omega) (by omega) (by omega)).1, zput_in (by omega) (by omega) (by decide), zput_in (by omega) (by omega) (by decide), zput_in (by omega) (by omega) (by decide), zput_in (by omega) (by omega) (by decide), zput_in (by omega) (by omega) (by decide)]
theorem sC_new {M : zM} {p : Int} {NU : Nat} {st : SS} (hC : sC M p NU st) (hp : 30 ≤ p) (hlt : st.ns.length < st.lk) (kd : Nat) : sC (zNewM M p ((sNum st : Nat) : Int) kd) p NU (sNew st kd none 0) := by
  obtain ⟨⟨a1, a2, a3⟩, ⟨b1, b2, b3, b4⟩, h6, hn, hd, ⟨c1, c2, c3⟩, l1, l2, l3, l4, l5, l6, hw⟩ := hC
  have tot : nTot (sNew st kd none 0).ns = nTot st.ns := by
    show nTot (st.ns ++ [(kd, none, -1, 0, [])]) = _
    rw [nTot_app]
    rfl
  have fr : ∀ a j : Int, ¬ (a = p + 1 ∧ j = 1) → ¬ (j = (sNum st : Nat) ∧ p ≤ a) → zNewM M p ((sNum st : Nat) : Int) kd a j = M a j := by
    intro a j n1 n2
    unfold zNewM zu
    rw [if_neg (fun c => n2 ⟨c.2, by omega⟩), if_neg (fun c => n2 ⟨c.2, by omega⟩), if_neg (fun c => n2 ⟨c.2, by omega⟩), if_neg (fun c => n2 ⟨c.2, by omega⟩), if_neg (fun c => n2 ⟨c.2, by omega⟩), if_neg n1, if_neg (fun c => n2 ⟨c.2, by omega⟩)]
  have lw : ∀ a j : Int, a < p → zNewM M p ((sNum st : Nat) : Int) kd a j = M a j := fun a j h => fr a j (by omega) (by omega)
  have hpx : ∀ a j : Int, ¬ (a = p + 1) → ¬ (a = p + 2) → ¬ (a = p + 4) → ¬ (a = p + 6) → ¬ (a = p + 8) → ¬ (a = p + 10) → ¬ (a = p + 12) → zNewM M p ((sNum st : Nat) : Int) kd a j = M a j := by
    intro a j n1 n2 n3 n4 n7 n5 n6
    unfold zNewM zu
    rw [if_neg (fun c => n6 c.1), if_neg (fun c => n5 c.1), if_neg (fun c => n7 c.1), if_neg (fun c => n4 c.1), if_neg (fun c => n3 c.1), if_neg (fun c => n1 c.1), if_neg (fun c => n2 c.1)]
  have late : sLate (sNew st kd none 0).ns (sNew st kd none 0).lt = sLate st.ns st.lt := by
    refine sLate_eq (fun z hz => ?_)
    have := l6 z hz
    show nTot ((st.ns ++ [(kd, none, -1, 0, [])]).take (z.1 - 6)) = nTot (st.ns.take (z.1 - 6))
    rw [List.take_append_of_le_length (by omega)]
  have hlen : (sNew st kd none 0).ns.length = st.ns.length + 1 := by
    show (st.ns ++ [_]).length = _
    rw [List.length_append]
    rfl
  unfold sC
  rw [late, tot, hlen]
  refine ⟨⟨by rw [lw _ _ (by omega)]; exact a1, by rw [lw _ _ (by omega)]; exact a2, by rw [lw _ _ (by omega)]; exact a3⟩, ⟨?_, by rw [hpx _ _ (by omega) (by omega) (by omega) (by omega) (by omega) (by omega) (by omega)]; exact b2, by rw [hpx _ _ (by omega) (by omega) (by omega) (by omega) (by omega) (by omega) (by omega)]; exact b3, by rw [hpx _ _ (by omega) (by omega) (by omega) (by omega) (by omega) (by omega) (by omega)]; exact b4⟩, fun i hi => ?_, fun i n hin => ?_, fun P hP => ?_, ⟨by rw [lw _ _ (by omega)]; exact c1, by rw [lw _ _ (by omega)]; exact c2, fun i z hz => ?_⟩, by show _ ≤ st.lk; omega, l2, l3, l4, l5, fun z hz => ?_, ?_⟩
  · unfold zNewM sNum
    rw [zu_a (by omega), zu_a (by omega), zu_a (by omega), zu_a (by omega), zu_a (by omega), zu_s]
    omega
  · rw [fr _ _ (by omega) (by unfold sNum; omega)]
    exact h6 i hi
  · by_cases hlt2 : i < st.ns.length
    · have hin2 : st.ns[i]? = some n := by
        have : (st.ns ++ [(kd, none, -1, 0, [])])[i]? = some n := hin
        rw [List.getElem?_append_left hlt2] at this
        exact this
      have e : ∀ a : Int, p ≤ a → ¬ a = p + 1 → zNewM M p ((sNum st : Nat) : Int) kd a ((6 + i : Nat) : Int) = M a ((6 + i : Nat) : Int) := fun a h1 h2 => fr a _ (by omega) (by unfold sNum; omega)
      have := hn i n hin2
      have ht : (sNew st kd none 0).ns.take i = st.ns.take i := List.take_append_of_le_length (by omega)
      rw [ht]
      refine this.mono (Nat.le_refl _) (e _ (by omega) (by omega)) (e _ (by omega) (by omega)) (e _ (by omega) (by omega)) (e _ (by omega) (by omega)) (e _ (by omega) (by omega)) (fun P _ _ => hpx _ _ (by omega) (by omega) (by omega) (by omega) (by omega) (by omega) (by omega)) (fun P _ _ => hpx _ _ (by omega) (by omega) (by omega) (by omega) (by omega) (by omega) (by omega)) (fun j _ _ => hpx _ _ (by omega) (by omega) (by omega) (by omega) (by omega) (by omega) (by omega))
    · have hi2 : i = st.ns.length := by
        have := (List.getElem?_eq_some_iff.mp hin).1
        omega
      subst hi2
      have hnn : n = (kd, none, -1, 0, []) := by
        have : (st.ns ++ [(kd, none, -1, 0, [])])[st.ns.length]? = some n := hin
        rw [List.getElem?_append_right (Nat.le_refl _), Nat.sub_self] at this
        exact (Option.some.inj this).symm
      subst hnn
      have es : ((6 + st.ns.length : Nat) : Int) = ((sNum st : Nat) : Int) := rfl
      refine ⟨?_, fun _ => ?_, fun w v c => (nomatch c), ?_, fun c => absurd c (Nat.lt_irrefl 0), fun _ => ⟨rfl, fun q m c => (nomatch c)⟩, fun _ => ⟨?_, Nat.le_refl _, fun k hk => absurd hk (Nat.not_lt_zero _)⟩⟩
      · rw [es]; unfold zNewM
        rw [zu_a (by omega), zu_a (by omega), zu_a (by omega), zu_a (by omega), zu_a (by omega), zu_a (by omega), zu_s]
      · rw [es]; unfold zNewM
        rw [zu_a (by omega), zu_a (by omega), zu_a (by omega), zu_a (by omega), zu_s]
      · rw [es]; unfold zNewM
        rw [zu_s]
        rfl
      · rw [es]; unfold zNewM
        rw [zu_a (by omega), zu_a (by omega), zu_a (by omega), zu_s]
  · rw [hpx _ _ (by omega) (by omega) (by omega) (by omega) (by omega) (by omega) (by omega), hpx _ _ (by omega) (by omega) (by omega) (by omega) (by omega) (by omega) (by omega)]
    exact hd P hP
  · rw [lw _ _ (by omega), lw _ _ (by omega)]
    exact c3 i z hz
  · have := l6 z hz
    omega
  · refine hw.up (by rw [hlen]; omega) (fun j hj => fr _ _ (by omega) (by unfold sNum; omega)) (fun i n hi => ?_)
    by_cases hlt2 : i < st.ns.length
    · refine Or.inl ?_
      have : (st.ns ++ [(kd, none, -1, 0, [])])[i]? = some n := hi
      rw [List.getElem?_append_left hlt2] at this
      exact this
    · have hi2 : i = st.ns.length := by
        have := (List.getElem?_eq_some_iff.mp hi).1
        omega
      subst hi2
      have hnn : n = (kd, none, -1, 0, []) := by
        have : (st.ns ++ [(kd, none, -1, 0, [])])[st.ns.length]? = some n := hi
        rw [List.getElem?_append_right (Nat.le_refl _), Nat.sub_self] at this
        exact (Option.some.inj this).symm
      subst hnn
      exact Or.inr ⟨zNewM_w M p ((6 + st.ns.length : Nat) : Int) kd, fun _ => by show (-1 : Int) < 0; decide⟩
theorem zNewM_dfr {M : zM} {p s k : Int} (hp : 30 ≤ p) : dfr p M (zNewM M p s k) := ((((((dfr.rf.zu (by omega)).zu (by omega)).zu (by omega)).zu (by omega)).zu (by omega)).zu (by omega)).zu (by omega)
/-- one node changes -/
theorem sC_upd {M M1 : zM} {p : Int} {NU NU1 : Nat} {st : SS} (hC : sC M p NU st) (hp : 30 ≤ p) {i : Nat} {n n' : SN} (hi : st.ns[i]? = some n) (hct : n'.ct = n.ct) (hl : NU ≤ NU1) (hl1 : NU1 ≤ 4096) (kc : Nat) (hwi : M (p + 8) ((6 + i : Nat) : Int) = -1) (hwn : (M1 (p + 8) ((6 + i : Nat) : Int) = -1 ∧ (n'.kd = 9 → n'.dt < 0)) ∨ ∃ W : Nat, M1 (p + 8) ((6 + i : Nat) : Int) = (W : Int) ∧ W ≤ 4096 ∧ wN M p (6 + st.ns.length) n' W)
    (hf : ∀ a j : Int, ¬ (a = p + 4 ∧ j = ((6 + i : Nat) : Int)) → ¬ (a = p + 6 ∧ j = ((6 + i : Nat) : Int)) → ¬ ((a = p + 14 ∨ a = p + 16) ∧ (nTot (st.ns.take i) : Int) ≤ j ∧ j < ((nTot (st.ns.take i) + n.ct : Nat) : Int)) → ¬ (a = p + 22 ∧ (NU : Int) ≤ j) → ¬ (a = p + 21 ∧ j = 1) → ¬ (a = p + 8 ∧ j = ((6 + i : Nat) : Int)) → M1 a j = M a j)
    (h19 : M1 (p + 21) 1 = NU1) (hn' : nC M1 p NU1 n' (6 + i) (nTot (st.ns.take i))) : sC M1 p NU1 (st.lk, kc, nPut st.ns (6 + i) n', st.lt) := by
  obtain ⟨⟨a1, a2, a3⟩, ⟨b1, b2, b3, b4⟩, h6, hn, hd, ⟨c1, c2, c3⟩, l1, l2, l3, l4, l5, l6, hw⟩ := hC
  have hil := (List.getElem?_eq_some_iff.mp hi).1
  have ens : nPut st.ns (6 + i) n' = st.ns.set i n' := by unfold nPut; rw [show 6 + i - 6 = i by omega]
  have htk := nTot_set hi hct
  have tot : nTot (st.ns.set i n') = nTot st.ns := by
    have := htk st.ns.length
    rw [nTot_all, ← nTot_all (st.ns.set i n'), List.length_set] at *
    exact this
  have late : sLate (st.ns.set i n') st.lt = sLate st.ns st.lt := sLate_eq (fun z _ => htk _)
  have lw : ∀ a j : Int, ¬ a = p + 4 → ¬ a = p + 6 → ¬ a = p + 14 → ¬ a = p + 16 → ¬ a = p + 22 → ¬ a = p + 21 → ¬ a = p + 8 → M1 a j = M a j := fun a j _ _ _ _ _ _ _ => hf a j (by omega) (by omega) (by omega) (by omega) (by omega) (by omega)
  rw [ens]
  unfold sC
  show (M1 24 5 = st.lk ∧ _ ∧ _) ∧ (M1 (p + 1) 1 = ((6 + (st.ns.set i n').length : Nat) : Int) ∧ M1 (p + 13) 1 = nTot (st.ns.set i n') ∧ _ ∧ _) ∧ _ ∧ (∀ (j : Nat) (n : SN), (st.ns.set i n')[j]? = some n → nC M1 p NU1 n (6 + j) (nTot ((st.ns.set i n').take j))) ∧ (∀ P : Nat, P < nTot (st.ns.set i n') → _) ∧ (M1 26 1 = (sLate (st.ns.set i n') st.lt).length ∧ M1 28 1 = (sLate (st.ns.set i n') st.lt).length ∧ ∀ (i9 : Nat) (z : Nat × Nat), (sLate (st.ns.set i n') st.lt)[i9]? = some z → _) ∧ (st.ns.set i n').length ≤ st.lk ∧ _ ∧ nTot (st.ns.set i n') ≤ 2048 ∧ _ ∧ st.lt.length ≤ st.lk ∧ (∀ z ∈ st.lt, z.1 < 6 + (st.ns.set i n').length) ∧ wOk M1 p (st.ns.set i n')
  rw [late, tot, List.length_set]
  refine ⟨⟨by rw [lw _ _ (by omega) (by omega) (by omega) (by omega) (by omega) (by omega) (by omega)]; exact a1, by rw [lw _ _ (by omega) (by omega) (by omega) (by omega) (by omega) (by omega) (by omega)]; exact a2, by rw [lw _ _ (by omega) (by omega) (by omega) (by omega) (by omega) (by omega) (by omega)]; exact a3⟩, ⟨by rw [lw _ _ (by omega) (by omega) (by omega) (by omega) (by omega) (by omega) (by omega)]; exact b1, by rw [lw _ _ (by omega) (by omega) (by omega) (by omega) (by omega) (by omega) (by omega)]; exact b2, h19, by rw [lw _ _ (by omega) (by omega) (by omega) (by omega) (by omega) (by omega) (by omega)]; exact b4⟩, fun j hj => ?_, fun j m hm => ?_, fun P hP => ?_, ⟨by rw [lw _ _ (by omega) (by omega) (by omega) (by omega) (by omega) (by omega) (by omega)]; exact c1, by rw [lw _ _ (by omega) (by omega) (by omega) (by omega) (by omega) (by omega) (by omega)]; exact c2, fun j z hz => ?_⟩, l1, l2, l3, hl1, l5, l6, ?_⟩
  · rw [lw _ _ (by omega) (by omega) (by omega) (by omega) (by omega) (by omega) (by omega)]
    exact h6 j hj
  · rw [htk]
    by_cases hji : j = i
    · subst hji
      rw [List.getElem?_set_self hil] at hm
      cases hm
      exact hn'
    · rw [List.getElem?_set_ne (fun e => hji e.symm)] at hm
      have hold := hn j m hm
      have d1 := nTot_take hi
      have d2 := nTot_take hm
      have disj : ∀ P : Nat, nTot (st.ns.take j) ≤ P → P < nTot (st.ns.take j) + m.ct → ¬ ((nTot (st.ns.take i) : Int) ≤ (P : Int) ∧ (P : Int) < ((nTot (st.ns.take i) + n.ct : Nat) : Int)) := by
        intro P g1 g2 g3
        rcases Nat.lt_or_gt_of_ne hji with h | h
        · have := nTot_mono (ns := st.ns) (show j + 1 ≤ i by omega); omega
        · have := nTot_mono (ns := st.ns) (show i + 1 ≤ j by omega); omega
      exact hold.mono hl (lw _ _ (by omega) (by omega) (by omega) (by omega) (by omega) (by omega) (by omega)) (hf _ _ (by omega) (by omega) (by omega) (by omega) (by omega) (by omega)) (hf _ _ (by omega) (by omega) (by omega) (by omega) (by omega) (by omega)) (lw _ _ (by omega) (by omega) (by omega) (by omega) (by omega) (by omega) (by omega)) (lw _ _ (by omega) (by omega) (by omega) (by omega) (by omega) (by omega) (by omega)) (fun P g1 g2 => hf _ _ (by omega) (by omega) (fun c => disj P g1 g2 c.2) (by omega) (by omega) (by omega)) (fun P g1 g2 => hf _ _ (by omega) (by omega) (fun c => disj P g1 g2 c.2) (by omega) (by omega) (by omega)) (fun q g1 g2 => hf _ _ (by omega) (by omega) (by omega) (by omega) (by omega) (by omega))
  · rw [lw _ _ (by omega) (by omega) (by omega) (by omega) (by omega) (by omega) (by omega), lw _ _ (by omega) (by omega) (by omega) (by omega) (by omega) (by omega) (by omega)]
    exact hd P hP
  · rw [lw _ _ (by omega) (by omega) (by omega) (by omega) (by omega) (by omega) (by omega), lw _ _ (by omega) (by omega) (by omega) (by omega) (by omega) (by omega) (by omega)]
    exact c3 j z hz
  · exact hw.upd hi hwi (fun j hj => hf _ _ (by omega) (by omega) (by omega) (by omega) (by omega) (by omega)) hwn
theorem list_set_at {ns : List SN} {i : Nat} {n : SN} (h : ns[i]? = some n) : ns.set i n = ns := by
  obtain ⟨h1, h2⟩ := List.getElem?_eq_some_iff.mp h
  subst h2
  exact List.set_getElem_self h1
/-- a node's width -/
theorem sC_wid {M : zM} {p : Int} {NU : Nat} {st : SS} (hC : sC M p NU st) (hp : 30 ≤ p) {i : Nat} {n : SN} (hi : st.ns[i]? = some n) {W : Nat} (hw : wN M p (6 + st.ns.length) n W) (hW : W ≤ 4096) (hM : M (p + 8) ((6 + i : Nat) : Int) = -1 ∨ M (p + 8) ((6 + i : Nat) : Int) = (W : Int)) : sC (zu M (p + 8) ((6 + i : Nat) : Int) W) p NU st := by
  rcases hM with hM | hM
  · obtain ⟨⟨a1, a2, a3⟩, ⟨b1, b2, b3, b4⟩, h6, hn, hd, ⟨c1, c2, c3⟩, l1, l2, l3, l4, l5, l6, hw9⟩ := hC
    have e : ∀ a j : Int, ¬ a = p + 8 → zu M (p + 8) ((6 + i : Nat) : Int) W a j = M a j := fun a j h => zu_a h
    refine ⟨⟨by rw [e _ _ (by omega)]; exact a1, by rw [e _ _ (by omega)]; exact a2, by rw [e _ _ (by omega)]; exact a3⟩, ⟨by rw [e _ _ (by omega)]; exact b1, by rw [e _ _ (by omega)]; exact b2, by rw [e _ _ (by omega)]; exact b3, by rw [e _ _ (by omega)]; exact b4⟩, fun j hj => by rw [e _ _ (by omega)]; exact h6 j hj, fun j m hm => ?_, fun P hP => by rw [e _ _ (by omega), e _ _ (by omega)]; exact hd P hP, ⟨by rw [e _ _ (by omega)]; exact c1, by rw [e _ _ (by omega)]; exact c2, fun j z hz => by rw [e _ _ (by omega), e _ _ (by omega)]; exact c3 j z hz⟩, l1, l2, l3, l4, l5, l6, ?_⟩
    · exact (hn j m hm).mono (Nat.le_refl _) (e _ _ (by omega)) (e _ _ (by omega)) (e _ _ (by omega)) (e _ _ (by omega)) (e _ _ (by omega)) (fun P _ _ => e _ _ (by omega)) (fun P _ _ => e _ _ (by omega)) (fun P _ _ => e _ _ (by omega))
    · have := hw9.upd (M1 := zu M (p + 8) ((6 + i : Nat) : Int) W) (n' := n) hi hM (fun j hj => zu_k (by omega)) (Or.inr ⟨W, zu_s _ _ _ _, hW, hw⟩)
      rw [list_set_at hi] at this
      exact this
  · rw [zu_id hM]
    exact hC
