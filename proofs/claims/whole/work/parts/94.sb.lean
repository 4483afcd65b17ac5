/-! ===== kids have numbers of their own; a kid more ===== -/
def kU (st : SS) : Prop := (∀ (i : Nat) (n : SN) (q : SP), st.ns[i]? = some n → q ∈ n.ps → q.kn < st.kc) ∧ (∀ (i j : Nat) (n m : SN) (q r : SP), st.ns[i]? = some n → st.ns[j]? = some m → q ∈ n.ps → r ∈ m.ps → q.kn = r.kn → i = j) ∧ ∀ (i : Nat) (n : SN), st.ns[i]? = some n → n.ps.Pairwise (fun q r => ¬ q.kn = r.kn)
def lastK : List SP → Int
  | [] => -1
  | [q] => q.kn
  | _ :: q :: r => lastK (q :: r)
theorem lastK_mem : ∀ {ps : List SP}, ¬ ps = [] → ∃ q ∈ ps, lastK ps = q.kn := by
  intro ps
  induction ps with
  | nil => intro h; exact absurd rfl h
  | cons a r ih =>
    intro _
    cases r with
    | nil => exact ⟨a, List.mem_cons_self, rfl⟩
    | cons b r =>
      obtain ⟨q, h1, h2⟩ := ih (fun h => nomatch h)
      exact ⟨q, List.mem_cons_of_mem _ h1, h2⟩
theorem rCh_app {M M2 : zM} {t : Int} {xs : List JR} {kd : Nat} {q9 : SP} (h9 : q9.kn < 2200) (hq9 : rK M2 t xs kd q9) (hn9 : M2 (t + 18) q9.kn = -1) : ∀ {ps : List SP} {h : Int}, rCh M t xs kd ps h → ps.Pairwise (fun q r => ¬ q.kn = r.kn) → (∀ q ∈ ps, ∀ a : Int, t + 15 ≤ a → a ≤ t + 18 → ¬ (a = t + 18 ∧ (q.kn : Int) = lastK ps) → M2 a q.kn = M a q.kn) → (¬ ps = [] → M2 (t + 18) (lastK ps) = q9.kn) → rCh M2 t xs kd (ps ++ [q9]) (if ps = [] then (q9.kn : Int) else h) := by
  intro ps
  induction ps with
  | nil =>
    intro h hc _ _ _
    rw [if_pos rfl]
    exact ⟨rfl, h9, hq9, hn9⟩
  | cons a r ih =>
    intro h hc hp e hl
    obtain ⟨h1, h2, h3, h4⟩ := hc
    rw [if_neg (fun c => nomatch c)]
    have ea := e a List.mem_cons_self
    refine ⟨h1, h2, h3.mono (fun b g1 g2 => ea b g1 (by omega) (by omega)), ?_⟩
    cases r with
    | nil =>
      have hl2 := hl (fun c => nomatch c)
      have hl3 : M2 (t + 18) (a.kn : Int) = q9.kn := hl2
      show rCh M2 t xs kd [q9] (M2 (t + 18) a.kn)
      rw [hl3]
      exact ⟨rfl, h9, hq9, hn9⟩
    | cons b r =>
      have hp2 := List.pairwise_cons.mp hp
      have hla : ¬ (a.kn : Int) = lastK (b :: r) := fun c => by
        obtain ⟨q, g1, g2⟩ := lastK_mem (ps := b :: r) (fun c => nomatch c)
        rw [g2] at c
        exact hp2.1 q g1 (Int.ofNat.inj c)
      have := ih (h := M (t + 18) a.kn) h4 hp2.2 (fun q hq x g1 g2 g3 => e q (List.mem_cons_of_mem _ hq) x g1 g2 g3) (fun _ => hl (fun c => nomatch c))
      rw [if_neg (fun c => nomatch c)] at this
      show rCh M2 t xs kd ((b :: r) ++ [q9]) (M2 (t + 18) a.kn)
      rw [ea (t + 18) (by omega) (by omega) (fun c => hla c.2)]
      exact this
section SBs
variable {M : zM} {xs : List JR} {t : Int} {st : SS}
/-- a kid more, its place in the chain made -/
theorem rC_add {M2 : zM} (hC : rC M t xs st) (hU : kU st) {i : Nat} {n : SN} (hi : st.ns[i]? = some n) (nm : List Int32) (nd df : Option Nat) (hkc : st.kc + 1 ≤ 2100) (hlv : ∀ z ∈ st.lt, z.1 < 6 + st.ns.length)
    (hf : ∀ a j : Int, ¬ (a = t ∧ j = 24) → ¬ (t + 15 ≤ a ∧ a ≤ t + 18 ∧ j = st.kc) → ¬ (a = t + 18 ∧ ¬ n.ps = [] ∧ j = lastK n.ps) → ¬ (a = t + 12 ∧ n.ps = [] ∧ j = ((6 + i : Nat) : Int)) → ¬ (a = t + 13 ∧ j = ((6 + i : Nat) : Int)) → M2 a j = M a j)
    (h24 : M2 t 24 = ((st.kc + 1 : Nat) : Int)) (hn : M2 (t + 18) st.kc = -1) (hl : ¬ n.ps = [] → M2 (t + 18) (lastK n.ps) = st.kc) (h12 : n.ps = [] → M2 (t + 12) ((6 + i : Nat) : Int) = st.kc) (h13 : M2 (t + 13) ((6 + i : Nat) : Int) = M (t + 13) ((6 + i : Nat) : Int) + 1)
    (hK : rK M2 t xs n.kd (nm, nd, df, st.kc)) : rC M2 t xs (sAdd st (6 + i) nm nd df) := by
  obtain ⟨⟨a1, a2, a3, a4⟩, h6, hns, hft, l1, l2, l3, l4⟩ := hC
  obtain ⟨u1, u2, u3⟩ := hU
  have hil := (List.getElem?_eq_some_iff.mp hi).1
  have est : sAdd st (6 + i) nm nd df = (st.lk, st.kc + 1, st.ns.set i (n.kd, n.nm, n.dt, n.ct, n.ps ++ [(nm, nd, df, st.kc)]), st.lt) := by
    unfold sAdd nPut
    rw [nN_at hi, show 6 + i - 6 = i by omega]
  have lst : ∀ (j : Nat) (m : SN) (q : SP), st.ns[j]? = some m → q ∈ m.ps → ¬ j = i → ¬ n.ps = [] → ¬ (q.kn : Int) = lastK n.ps := fun j m q hj hq hji hne c => by
    obtain ⟨r, g1, g2⟩ := lastK_mem hne
    rw [g2] at c
    exact hji (u2 j i m n q r hj hi hq g1 (Int.ofNat.inj c))
  rw [est]
  refine ⟨⟨by rw [hf _ _ (by omega) (by omega) (by omega) (by omega) (by omega)]; exact a1, ?_, h24, by rw [hf _ _ (by omega) (by omega) (by omega) (by omega) (by omega)]; exact a4⟩, fun k hk => ?_, fun j m hm => ?_, fun k z hz => ?_, ?_, l2, hkc, l4⟩
  · show M2 t 16 = ((6 + (st.ns.set i _).length : Nat) : Int)
    rw [List.length_set, hf _ _ (by omega) (by omega) (by omega) (by omega) (by omega)]
    exact a2
  · obtain ⟨g1, g2, g3⟩ := h6 k hk
    exact ⟨by rw [hf _ _ (by omega) (by omega) (by omega) (by omega) (by omega)]; exact g1, by rw [hf _ _ (by omega) (by omega) (by omega) (by omega) (by omega)]; exact g2, by rw [hf _ _ (by omega) (by omega) (by omega) (by omega) (by omega)]; exact g3⟩
  · by_cases hji : j = i
    · subst hji
      have hm2 : (st.ns.set j (n.kd, n.nm, n.dt, n.ct, n.ps ++ [(nm, nd, df, st.kc)]))[j]? = some m := hm
      rw [List.getElem?_set_self hil] at hm2
      cases hm2
      obtain ⟨k1, k2, k3, k4, k5, k6, k7⟩ := hns j n hi
      have same : ∀ a : Int, ¬ a = t + 12 → ¬ a = t + 13 → t + 9 ≤ a → a ≤ t + 14 → M2 a ((6 + j : Nat) : Int) = M a ((6 + j : Nat) : Int) := fun a _ _ _ _ => hf _ _ (by omega) (by omega) (by omega) (by omega) (by omega)
      refine ⟨by rw [same _ (by omega) (by omega) (by omega) (by omega)]; exact k1, fun c => by rw [same _ (by omega) (by omega) (by omega) (by omega)]; exact k2 c, fun w v c => by rw [same _ (by omega) (by omega) (by omega) (by omega)]; exact k3 w v c, ?_, ?_, fun c c2 => by rw [same _ (by omega) (by omega) (by omega) (by omega)]; exact k6 c c2, fun c => by rw [same _ (by omega) (by omega) (by omega) (by omega)]; exact k7 c⟩
      · show M2 (t + 13) ((6 + j : Nat) : Int) = ((n.ps ++ [(nm, nd, df, st.kc)]).length : Nat)
        rw [h13, k4, List.length_append]
        rfl
      · show rCh M2 t xs n.kd (n.ps ++ [(nm, nd, df, st.kc)]) (M2 (t + 12) ((6 + j : Nat) : Int))
        have := rCh_app (M2 := M2) (q9 := (nm, nd, df, st.kc)) (show st.kc < 2200 by omega) hK hn k5 (u3 j n hi) (fun q hq a g1 g2 g3 => by
          have := u1 j n q hi hq
          exact hf _ _ (by omega) (by omega) (fun c => g3 ⟨c.1, c.2.2⟩) (by omega) (by omega)) hl
        by_cases hne : n.ps = []
        · rw [if_pos hne] at this
          rw [h12 hne]
          exact this
        · rw [if_neg hne] at this
          rw [hf _ _ (by omega) (by omega) (by omega) (fun c => hne c.2.1) (by omega)]
          exact this
    · have hm2 : (st.ns.set i (n.kd, n.nm, n.dt, n.ct, n.ps ++ [(nm, nd, df, st.kc)]))[j]? = some m := hm
      rw [List.getElem?_set_ne (fun e => hji e.symm)] at hm2
      refine (hns j m hm2).mono (fun a g1 g2 => hf _ _ (by omega) (by omega) (by omega) (by omega) (by omega)) (fun q hq a g1 g2 => ?_)
      have := u1 j m q hm2 hq
      exact hf _ _ (by omega) (by omega) (fun c => lst j m q hm2 hq hji c.2.1 c.2.2) (by omega) (by omega)
  · obtain ⟨q, g1, g2⟩ := hft k z hz
    refine ⟨q, ?_, by rw [hf _ _ (by omega) (by omega) (by omega) (by omega) (by omega)]; exact g2⟩
    by_cases hzi : z.1 = 6 + i
    · rw [hzi] at g1 ⊢
      rw [nN_at hi] at g1
      show (nN (st.ns.set i _) (6 + i)).ps[z.2.1]? = _
      rw [nN_at (List.getElem?_set_self hil)]
      show (n.ps ++ [_])[z.2.1]? = _
      rw [List.getElem?_append_left (List.getElem?_eq_some_iff.mp g1).1]
      exact g1
    · have : nN (st.ns.set i (n.kd, n.nm, n.dt, n.ct, n.ps ++ [(nm, nd, df, st.kc)])) z.1 = nN st.ns z.1 := by
        unfold nN
        by_cases c : z.1 < 6
        · rw [if_pos c, if_pos c]
        · rw [if_neg c, if_neg c, List.getD_eq_getElem?_getD, List.getD_eq_getElem?_getD, List.getElem?_set_ne (by omega)]
      show (nN (st.ns.set i _) z.1).ps[z.2.1]? = _
      rw [this]
      exact g1
  · show (st.ns.set i _).length ≤ st.lk
    rw [List.length_set]
    exact l1
end SBs
