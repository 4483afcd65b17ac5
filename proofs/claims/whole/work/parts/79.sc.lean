/-! ===== the class's plan says what the text says so far ===== -/
def nTot : List SN → Nat
  | [] => 0
  | n :: r => n.ct + nTot r
theorem nTot_app (a b : List SN) : nTot (a ++ b) = nTot a + nTot b := by
  induction a with
  | nil => simp [nTot]
  | cons x a ih => simp only [List.cons_append, nTot, ih]; omega
/-- where the parts of the node s begin -/
def nBs (ns : List SN) (s : Nat) : Nat := nTot (ns.take (s - 6))
/-- the part at P; none: not yet looked at -/
def pC (M : zM) (p : Int) (NU kd : Nat) (P : Nat) : Option SP → Prop
  | none => M (p + 16) P = -1
  | some q => (kd = 8 → M (p + 16) P = -1) ∧ (¬ kd = 8 → wd (M (p + 22)) NU (M (p + 16) P) q.nm) ∧ ∀ m : Nat, q.nd = some m → M (p + 14) P = m
/-- the node n at s, its parts from b on -/
def nC (M : zM) (p : Int) (NU : Nat) (n : SN) (s b : Nat) : Prop :=
  M (p + 2) s = n.kd ∧ (n.nm = none → M (p + 4) s = -1) ∧ (∀ (w : List Int32) (v : Nat), n.nm = some (w, v) → wd (M (p + 22)) NU (M (p + 4) s) w) ∧ M (p + 12) s = n.ct ∧ (0 < n.ct → M (p + 10) s = b) ∧
  ((n.kd = 6 ∨ n.kd = 7) → n.ct = 0 ∧ ∀ (q : SP) (m : Nat), n.ps[0]? = some q → q.nd = some m → M (p + 6) s = m) ∧
  (¬ (n.kd = 6 ∨ n.kd = 7) → M (p + 6) s = n.dt ∧ n.ps.length ≤ n.ct ∧ ∀ k : Nat, k < n.ct → pC M p NU n.kd (b + k) n.ps[k]?)
/-- the late fields: which part, which value -/
def sLate (ns : List SN) : List (Nat × Nat × Option Nat) → List (Nat × Nat)
  | [] => []
  | z :: r => match z.2.2 with
    | none => sLate ns r
    | some v => (nBs ns z.1 + z.2.1, v) :: sLate ns r
/-- the widths that are known: the sum of those of the parts -/
def wSm (M : zM) (p : Int) (L : Nat) : List SP → Nat → Prop
  | [], W => W = 0
  | q :: r, W => ∃ c a b : Nat, q.nd = some c ∧ c < L ∧ M (p + 8) c = (a : Int) ∧ wSm M p L r b ∧ W = a + b
def wN (M : zM) (p : Int) (L : Nat) (n : SN) (W : Nat) : Prop := (n.kd = 9 ∧ n.dt = (W : Int)) ∨ (n.kd = 11 ∧ n.ps.length = n.ct ∧ wSm M p L n.ps W)
def wOk (M : zM) (p : Int) (ns : List SN) : Prop := (M (p + 8) 0 = 0 ∧ M (p + 8) 1 = 1 ∧ ∀ i : Nat, 2 ≤ i → i < 6 → M (p + 8) i = -1) ∧
  (∀ (i : Nat) (n : SN), ns[i]? = some n → M (p + 8) ((6 + i : Nat) : Int) = -1 ∨ ∃ W : Nat, M (p + 8) ((6 + i : Nat) : Int) = (W : Int) ∧ W ≤ 4096 ∧ wN M p (6 + ns.length) n W) ∧
  ∀ (i : Nat) (n : SN), ns[i]? = some n → n.kd = 9 → 0 ≤ n.dt → M (p + 8) ((6 + i : Nat) : Int) = n.dt
theorem wSm.fr {M M1 : zM} {p : Int} {L L1 : Nat} (hL : L ≤ L1) (e : ∀ c : Nat, c < L → M1 (p + 8) c = M (p + 8) c) : ∀ {ps : List SP} {W : Nat}, wSm M p L ps W → wSm M1 p L1 ps W := by
  intro ps
  induction ps with
  | nil => intro W h; exact h
  | cons q r ih =>
    intro W h
    obtain ⟨c, a, b, h1, h2, h3, h4, h5⟩ := h
    exact ⟨c, a, b, h1, Nat.lt_of_lt_of_le h2 hL, by rw [e c h2]; exact h3, ih h4, h5⟩
theorem wSm.nd {M : zM} {p : Int} {L : Nat} : ∀ {ps : List SP} {W : Nat}, wSm M p L ps W → ∀ q ∈ ps, ¬ q.nd = none := by
  intro ps
  induction ps with
  | nil => intro W _ q h; exact nomatch h
  | cons q r ih =>
    intro W h q9 hq
    obtain ⟨c, a, b, h1, h2, h3, h4, h5⟩ := h
    rcases List.mem_cons.mp hq with g | g
    · rw [g, h1]; exact fun x => nomatch x
    · exact ih h4 q9 g
theorem wSm.fn {M : zM} {p : Int} {L : Nat} : ∀ {ps : List SP} {W W1 : Nat}, wSm M p L ps W → wSm M p L ps W1 → W = W1 := by
  intro ps
  induction ps with
  | nil => intro W W1 h h1; exact Eq.trans h (Eq.symm h1)
  | cons q r ih =>
    intro W W1 h h1
    obtain ⟨c, a, b, g1, g2, g3, g4, g5⟩ := h
    obtain ⟨c', a', b', k1, k2, k3, k4, k5⟩ := h1
    rw [g1] at k1
    cases k1
    rw [g3] at k3
    have := ih g4 k4
    omega
theorem wN.fr {M M1 : zM} {p : Int} {L L1 W : Nat} {n : SN} (hL : L ≤ L1) (e : ∀ c : Nat, c < L → M1 (p + 8) c = M (p + 8) c) (h : wN M p L n W) : wN M1 p L1 n W := by
  rcases h with h | ⟨h1, h2, h3⟩
  · exact Or.inl h
  · exact Or.inr ⟨h1, h2, h3.fr hL e⟩
theorem wOk.up {M M1 : zM} {p : Int} {ns ns1 : List SN} (h : wOk M p ns) (hL : ns.length ≤ ns1.length) (e : ∀ j : Nat, j < 6 + ns.length → M1 (p + 8) j = M (p + 8) j) (hn : ∀ (i : Nat) (n : SN), ns1[i]? = some n → ns[i]? = some n ∨ (M1 (p + 8) ((6 + i : Nat) : Int) = -1 ∧ (n.kd = 9 → n.dt < 0))) : wOk M1 p ns1 := by
  obtain ⟨⟨h0, h1, h2⟩, h3, h4⟩ := h
  have e0 := e 0 (by omega)
  have e1 := e 1 (by omega)
  refine ⟨⟨e0.trans h0, e1.trans h1, fun i hi hj => (e i (by omega)).trans (h2 i hi hj)⟩, fun i n hi => ?_, fun i n hi h9 hd => ?_⟩
  · rcases hn i n hi with g | g
    · have hil := (List.getElem?_eq_some_iff.mp g).1
      rw [e (6 + i) (by omega)]
      rcases h3 i n g with k | ⟨W, k1, k2, k3⟩
      · exact Or.inl k
      · exact Or.inr ⟨W, k1, k2, k3.fr (by omega) e⟩
    · exact Or.inl g.1
  · rcases hn i n hi with g | g
    · have hil := (List.getElem?_eq_some_iff.mp g).1
      rw [e (6 + i) (by omega)]
      exact h4 i n g h9 hd
    · have := g.2 h9
      omega
theorem wOk.none {M : zM} {p : Int} {ns : List SN} (h : wOk M p ns) {i : Nat} {n : SN} (hi : ns[i]? = some n) (h9 : n.kd = 9 → n.dt < 0) (h11 : n.kd = 11 → n.ps.length = n.ct → ∃ q ∈ n.ps, q.nd = none) : M (p + 8) ((6 + i : Nat) : Int) = -1 := by
  rcases h.2.1 i n hi with k | ⟨W, k1, k2, k3⟩
  · exact k
  · rcases k3 with ⟨g1, g2⟩ | ⟨g1, g2, g3⟩
    · have := h9 g1
      omega
    · obtain ⟨q, q1, q2⟩ := h11 g1 g2
      exact absurd q2 (g3.nd q q1)
/-- one node changes, its width too -/
theorem wOk.upd {M M1 : zM} {p : Int} {ns : List SN} (h : wOk M p ns) {i : Nat} {n n' : SN} (hi : ns[i]? = some n) (hM : M (p + 8) ((6 + i : Nat) : Int) = -1) (e : ∀ j : Nat, ¬ j = 6 + i → M1 (p + 8) j = M (p + 8) j)
    (hn : (M1 (p + 8) ((6 + i : Nat) : Int) = -1 ∧ (n'.kd = 9 → n'.dt < 0)) ∨ ∃ W : Nat, M1 (p + 8) ((6 + i : Nat) : Int) = (W : Int) ∧ W ≤ 4096 ∧ wN M p (6 + ns.length) n' W) : wOk M1 p (ns.set i n') := by
  obtain ⟨⟨h0, h1, h2⟩, h3, h4⟩ := h
  have hil := (List.getElem?_eq_some_iff.mp hi).1
  have sm : ∀ {ps : List SP} {V : Nat}, wSm M p (6 + ns.length) ps V → wSm M1 p (6 + (ns.set i n').length) ps V := by
    intro ps
    induction ps with
    | nil => intro V g; exact g
    | cons q r ih =>
      intro V g
      obtain ⟨c, a, b, g1, g2, g3, g4, g5⟩ := g
      refine ⟨c, a, b, g1, by rw [List.length_set]; exact g2, ?_, ih g4, g5⟩
      rw [e c (fun x => by rw [x, hM] at g3; omega)]
      exact g3
  have sn : ∀ {m : SN} {V : Nat}, wN M p (6 + ns.length) m V → wN M1 p (6 + (ns.set i n').length) m V := by
    intro m V g
    rcases g with g | ⟨g1, g2, g3⟩
    · exact Or.inl g
    · exact Or.inr ⟨g1, g2, sm g3⟩
  have e0 := e 0 (by omega)
  have e1 := e 1 (by omega)
  refine ⟨⟨e0.trans h0, e1.trans h1, fun j hj hj6 => (e j (by omega)).trans (h2 j hj hj6)⟩, fun j m hm => ?_, fun j m hm h9 hd => ?_⟩
  · by_cases hji : j = i
    · subst hji
      rw [List.getElem?_set_self hil] at hm
      cases hm
      rcases hn with g | ⟨W, g1, g2, g3⟩
      · exact Or.inl g.1
      · exact Or.inr ⟨W, g1, g2, sn g3⟩
    · rw [List.getElem?_set_ne (fun x => hji x.symm)] at hm
      rw [e (6 + j) (by omega)]
      rcases h3 j m hm with k | ⟨V, k1, k2, k3⟩
      · exact Or.inl k
      · exact Or.inr ⟨V, k1, k2, sn k3⟩
  · by_cases hji : j = i
    · subst hji
      rw [List.getElem?_set_self hil] at hm
      cases hm
      rcases hn with g | ⟨W, g1, g2, g3⟩
      · have := g.2 h9
        omega
      · rcases g3 with ⟨-, k⟩ | ⟨k, -, -⟩
        · rw [g1, k]
        · omega
    · rw [List.getElem?_set_ne (fun x => hji x.symm)] at hm
      rw [e (6 + j) (by omega)]
      exact h4 j m hm h9 hd
def sC (M : zM) (p : Int) (NU : Nat) (st : SS) : Prop :=
  (M 24 5 = st.lk ∧ M 24 6 = 0 ∧ M 24 7 = -1) ∧ (M (p + 1) 1 = ((6 + st.ns.length : Nat) : Int) ∧ M (p + 13) 1 = nTot st.ns ∧ M (p + 21) 1 = NU ∧ M (p + 23) 1 = 0) ∧ (∀ i : Nat, i < 6 → M (p + 2) i = i) ∧
  (∀ (i : Nat) (n : SN), st.ns[i]? = some n → nC M p NU n (6 + i) (nTot (st.ns.take i))) ∧ (∀ P : Nat, P < nTot st.ns → M (p + 18) P = -1 ∧ M (p + 20) P = -1) ∧
  (M 26 1 = (sLate st.ns st.lt).length ∧ M 28 1 = (sLate st.ns st.lt).length ∧ ∀ (i : Nat) (z : Nat × Nat), (sLate st.ns st.lt)[i]? = some z → M 27 i = z.1 ∧ M 29 i = z.2) ∧
  st.ns.length ≤ st.lk ∧ st.lk ≤ 128 ∧ nTot st.ns ≤ 2048 ∧ NU ≤ 4096 ∧ st.lt.length ≤ st.lk ∧ (∀ z ∈ st.lt, z.1 < 6 + st.ns.length) ∧ wOk M p st.ns
/-- the Drafter's shapes -/
def sSh (S : zS) (p : Int) : Prop := zSok S ∧ zSc S p ∧ S 24 = some (0, 1, [(3, 25), (3, 26), (3, 28), (3, p), (3, 6), (0, 0), (0, 0), (0, 0)]) ∧ S 6 = some (0, 8, [(3, 7), (3, 9), (3, 11), (3, 13), (3, 15), (3, 17), (3, 19), (3, 21), (3, 22), (3, 1), (0, 0), (0, 0), (0, 0)]) ∧ 30 ≤ p
/-- a fault is told -/
def sF (M : zM) (e : Nat × Nat) : Prop := M 24 6 = e.1 ∧ M 24 7 = e.2 ∧ 0 < e.1 ∧ e.1 < 100
/-- what the Drafter may write -/
def dfr (p : Int) (M M1 : zM) : Prop := ∀ a : Int, (a < 24 ∨ a = 25 ∨ (29 < a ∧ a < p) ∨ p + 24 < a) → M1 a = M a
theorem dfr.rf {p : Int} {M : zM} : dfr p M M := fun _ _ => rfl
theorem dfr.tr {p : Int} {M M1 M2 : zM} (h1 : dfr p M M1) (h2 : dfr p M1 M2) : dfr p M M2 := fun a h => (h2 a h).trans (h1 a h)
theorem dfr.zu {p : Int} {M M1 : zM} (h1 : dfr p M M1) {a k v : Int} (ha : ¬ (a < 24 ∨ a = 25 ∨ (29 < a ∧ a < p) ∨ p + 24 < a)) : dfr p M (zu M1 a k v) := fun b h => by
  rw [← h1 b h]
  exact funext fun j => zu_a (fun e => ha (e ▸ h))
theorem cTx.dfr {p : Int} {M M1 : zM} {xs : List JR} (hT : cTx M xs) (h : dfr p M M1) : cTx M1 xs := hT.fr (fun a h1 h2 => h a (by omega))
section SCs
variable {l : Launch} {s0 : State} {a0 : Array Value} {G : va_G} {ca : Nat → ClassId} {d : Nat} {C : Nat × Nat} {S : zS} {M : zM} {Q : Int → zM → Prop} {X : zM → Prop} {xs : List JR} {v : Nat} {p : Int} {NU : Nat} {st : SS}
theorem c_fail (Γ : rt_Γ l s0 a0 G ca) (hd : 2 ≤ d) (hok : zok C) (hS : sSh S p) (hT : cTx M xs) (hv : v < xs.length) {k : Nat} (hk : 0 < k ∧ k < 100) (h0 : M 24 6 = 0) (hQ : ∀ M1 : zM, sF M1 (k, (xx xs v).bg) → dfr p M M1 → Q 0 M1) : zm_X1_fail l s0 G ca d C S k v M Q X := by
  obtain ⟨hs, hp, hs24, hs6, hp0⟩ := hS
  refine z_X1_fail Γ hd hok hs hp hs24 hs6 ?_
  unfold zt_X1_fail
  have hl := hT.2.2
  have hr := cRec_at hT hv
  rw [h0, c_zat (by omega), zu_a (by decide), hr.2.1]
  refine ⟨fun _ => ?_, fun c => absurd (by decide) c⟩
  refine hQ _ ⟨?_, zu_s _ _ _ _, hk⟩ ((dfr.rf.zu (by omega)).zu (by omega))
  rw [zu_k (by decide), zu_s]
theorem c_defL (Γ : rt_Γ l s0 a0 G ca) (hd : 5 ≤ d) (hok : zok C) (hS : sSh S p) {lu : Nat} {k : Int} {ws : List Int32} (hW : wd (M 23) lu k ws) (hlu : lu ≤ 4096) (hC : sC M p NU st) {w0 : rt_Wd} : ∀ (r : List SN) (i : Nat), st.ns.drop i = r → i ≤ st.ns.length → Q (oI (sDefL ws r (6 + i))) M → zg_X6_nodeNamed_3 l s0 G ca d C S w0 p 22 k ((6 + i : Nat) : Int) M Q X := by
  obtain ⟨hs, hp, hs24, hs6, hp0⟩ := hS
  obtain ⟨-, ⟨b1, -⟩, -, hn, -, -, l1, l2, -, l4, -⟩ := hC
  intro r
  induction r with
  | nil =>
    intro i hi hil hQ
    have hlen : st.ns.length ≤ i := by
      have := congrArg List.length hi
      rw [List.length_drop, List.length_nil] at this
      omega
    refine zs_X6_nodeNamed_3 Γ (by omega) hok hp ?_
    unfold zt_X6_nodeNamed_3
    rw [b1, w32_id (by omega) (by omega), w32_id (by omega) (by omega)]
    exact ⟨fun _ => hQ, fun c => by omega⟩
  | cons n r ih =>
    intro i hi hil hQ
    have hni : st.ns[i]? = some n := by
      have := congrArg (fun l => l[0]?) hi
      simpa using this
    have hlt := (List.getElem?_eq_some_iff.mp hni).1
    have hdr : st.ns.drop (i + 1) = r := by
      have := congrArg (List.drop 1) hi
      rw [List.drop_drop] at this
      exact this
    refine zs_X6_nodeNamed_3 Γ (by omega) hok hp ?_
    unfold zt_X6_nodeNamed_3
    rw [b1, w32_id (by omega) (by omega), w32_id (by omega) (by omega)]
    refine ⟨fun c => by omega, fun _ => ?_⟩
    obtain ⟨-, k2, k3, -⟩ := hn i n hni
    have c19 := hp.2.2.2.2.2.2.2.2.2.2.2.2.1
    have cs22 : zCe S 22 23 4096 := ⟨by decide, by decide, by decide, hs 22 _ rfl, hs 23 _ rfl⟩
    have nxt : (¬ n.nm.map (fun q => q.1) = some ws) → zg_X6_nodeNamed_3 l s0 G ca d C S w0 p 22 k (((6 + i : Nat) : Int) + 1) M Q X := fun hne => by
      rw [show ((6 + i : Nat) : Int) + 1 = ((6 + (i + 1) : Nat) : Int) by omega]
      refine ih (i + 1) hdr (by omega) ?_
      unfold sDefL at hQ
      rw [if_neg hne] at hQ
      exact hQ
    rw [zat_in (by omega) (by omega) (by decide)]
    cases hnm : n.nm with
    | none =>
      rw [k2 hnm]
      refine c_isw0 Γ hok c19 (by decide) ⟨fun _ => nxt (by rw [hnm]; exact fun h => nomatch h), fun c => absurd (by decide) c⟩
    | some q =>
      refine c_isw Γ hok c19 (by decide) cs22 (by decide) (k3 q.1 q.2 hnm) l4 hW hlu ?_
      by_cases ce : q.1 = ws
      · rw [if_pos ce]
        refine ⟨fun c => absurd c (by decide), fun _ => ?_⟩
        unfold sDefL at hQ
        rw [if_pos (by rw [hnm, ← ce]; rfl)] at hQ
        exact hQ
      · rw [if_neg ce]
        exact ⟨fun _ => nxt (by rw [hnm]; exact fun h => ce (Option.some.inj h)), fun c => absurd (by decide) c⟩
theorem c_def (Γ : rt_Γ l s0 a0 G ca) (hd : 7 ≤ d) (hok : zok C) (hS : sSh S p) (hT : cTx M xs) (hv : v < xs.length) (hk : (xx xs v).kd = 3) (hC : sC M p NU st) (hQ : Q (oI (sDef st.ns (xx xs v).ws)) M) : zm_X1_defined l s0 G ca d C S v M Q X := by
  have hS0 := hS
  obtain ⟨hs, hp, hs24, hs6, hp0⟩ := hS
  refine z_X1_defined Γ (by omega) hok hs hp hs24 hs6 ?_
  unfold zt_X1_defined
  have hl := hT.2.2
  have hr := cRec_at hT hv
  rw [c_zat (by omega)]
  refine z_X6_nodeNamed Γ (by omega) hok hp ?_
  unfold zt_X6_nodeNamed
  exact c_defL Γ (by omega) hok hS0 (hr.2.2.2.2.2.2.1 hk).wd (by omega) hC st.ns 0 rfl (Nat.zero_le _) hQ
theorem c_knw (Γ : rt_Γ l s0 a0 G ca) (hd : 8 ≤ d) (hok : zok C) (hS : sSh S p) (hT : cTx M xs) (hv : v < xs.length) (hk : (xx xs v).kd = 3) (hC : sC M p NU st)
    (kE : ∀ e : Nat × Nat, sKnw xs st v = .error e → ∀ (r : Int) (M1 : zM), sF M1 e → dfr p M M1 → Q r M1) (kO : ∀ n : Nat, sKnw xs st v = .ok (n, st) → Q n M) : zm_X1_known l s0 G ca d C S v M Q X := by
  have hS0 := hS
  obtain ⟨hs, hp, hs24, hs6, hp0⟩ := hS
  refine z_X1_known Γ (by omega) hok hs hp hs24 hs6 ?_
  unfold zt_X1_known
  refine c_six Γ (by omega) hok hs hp hs24 hs6 hT hv hk ?_
  unfold sKnw at kE kO
  cases h1 : sSix (xx xs v).ws with
  | some n =>
    rw [h1] at kO
    have hn6 : n < 6 := by
      unfold sSix at h1
      repeat' split at h1
      all_goals first | (cases h1; decide) | exact nomatch h1
    show zIf (w32 (n : Int) = -1) _ _
    rw [w32_id (by omega) (by omega)]
    exact ⟨fun c => by omega, fun _ => kO n rfl⟩
  | none =>
    rw [h1] at kE kO
    dsimp only at kE kO
    refine ⟨fun _ => ?_, fun c => absurd (by decide) c⟩
    refine c_def Γ (by omega) hok hS0 hT hv hk hC ?_
    cases h2 : sDef st.ns (xx xs v).ws with
    | some n =>
      rw [h2] at kO
      have hn6 : n < 6 + st.ns.length := by
        have gen : ∀ (w : List Int32) (r : List SN) (s n : Nat), sDefL w r s = some n → n < s + r.length := by
          intro w r
          induction r with
          | nil => intro s n h; exact nomatch h
          | cons a r ih =>
            intro s n h
            unfold sDefL at h
            rw [List.length_cons]
            split at h
            · cases h; omega
            · have := ih _ _ h; omega
        exact gen _ _ _ _ h2
      have hln := hC.2.2.2.2.2.2.1
      have hlk := hC.2.2.2.2.2.2.2.1
      show zIf (w32 (n : Int) = -1) _ _
      rw [w32_id (by omega) (by omega)]
      exact ⟨fun c => by omega, fun _ => kO n rfl⟩
    | none =>
      rw [h2] at kE
      refine ⟨fun _ => ?_, fun c => absurd (by decide) c⟩
      exact c_fail (k := 3) Γ (by omega) hok hS0 hT hv (by decide) hC.1.2.1 (fun M1 f1 f2 => kE _ rfl _ M1 f1 f2)
end SCs
