/-! ===== whether one schema fits another: the pairs that are asked for ===== -/
def fUn (r : Nat) : List SP → List (Nat × Nat)
  | [] => []
  | q :: l => (sPn (some q), r) :: fUn r l
def fFl (ps : List SP) : List SP → List (Nat × Nat)
  | [] => []
  | q :: l => match sPrt ps q.nm with
    | none => fFl ps l
    | some i => (sPn ps[i]?, sPn (some q)) :: fFl ps l
def fFg (dB : SP → Option (List Nat)) (ps : List SP) : List SP → Bool
  | [] => true
  | q :: l => match sPrt ps q.nm with
    | none => if (dB q).isSome = true then fFg dB ps l else false
    | some _ => fFg dB ps l
def fSg (ps : List SP) : List SP → Bool
  | [] => true
  | z :: l => match sPrt ps z.nm with
    | none => false
    | some _ => fSg ps l
/-- what a pair asks for -/
def fAs (A B : List SN) (w r : Nat) : List (Nat × Nat) :=
  if (nN A w).kd = 8 then fUn r (nN A w).ps
  else if (nN B r).kd = 8 then match tFst A B w r with
    | none => []
    | some k => [(w, sPn (nN B r).ps[k]?)]
  else if (nN A w).kd = 6 ∨ (nN A w).kd = 7 then if (nN B r).kd = (nN A w).kd then [(sKid0 A w, sKid0 B r)] else []
  else if tPln A B w r = true ∧ (nN A w).kd = 11 then fFl (nN A w).ps (nN B r).ps
  else []
/-- whether a pair fits by itself -/
def fGd (A B : List SN) (dB : SP → Option (List Nat)) (w r : Nat) : Bool :=
  if (nN A w).kd = 8 then true
  else if (nN B r).kd = 8 then (tFst A B w r).isSome
  else if (nN A w).kd = 6 ∨ (nN A w).kd = 7 then decide ((nN B r).kd = (nN A w).kd)
  else if tPln A B w r = true then
    if (nN A w).kd = 10 then decide (0 ≤ (nN B r).dt) || fSg (nN B r).ps (nN A w).ps
    else if (nN A w).kd = 11 then fFg dB (nN A w).ps (nN B r).ps
    else true
  else false
def fRe (A B : List SN) (x0 x : Nat × Nat) : Prop := ∀ R : Nat × Nat → Prop, R x0 → (∀ y : Nat × Nat, R y → ∀ z ∈ fAs A B y.1 y.2, R z) → R x
/-- one fits the other -/
def fFt (A B : List SN) (dB : SP → Option (List Nat)) (x0 : Nat × Nat) : Prop := ∀ x : Nat × Nat, fRe A B x0 x → fGd A B dB x.1 x.2 = true
def fAk (P O : List (Nat × Nat)) (x : Nat × Nat) : List (Nat × Nat) := if x ∈ P ++ O then O else O ++ [x]
def fAks (P : List (Nat × Nat)) : List (Nat × Nat) → List (Nat × Nat) → List (Nat × Nat)
  | O, [] => O
  | O, y :: ys => fAks P (fAk P O y) ys
theorem fAk_mem {P O : List (Nat × Nat)} {x y : Nat × Nat} : y ∈ P ++ fAk P O x ↔ y ∈ P ++ O ∨ y = x := by
  unfold fAk
  split
  · rename_i h
    exact ⟨Or.inl, fun e => e.elim id (fun e => e ▸ h)⟩
  · rw [← List.append_assoc, List.mem_append, List.mem_singleton]
theorem fAk_nd {P O : List (Nat × Nat)} {x : Nat × Nat} (h : (P ++ O).Nodup) : (P ++ fAk P O x).Nodup := by
  unfold fAk
  split
  · exact h
  · rename_i hn
    rw [← List.append_assoc]
    exact List.nodup_append.mpr ⟨h, by simp, fun a ha b hb e => by
      rw [List.mem_singleton] at hb
      rw [hb] at e
      exact hn (e ▸ ha)⟩
theorem fAks_mem {P : List (Nat × Nat)} {y : Nat × Nat} : ∀ {ys O : List (Nat × Nat)}, y ∈ P ++ fAks P O ys ↔ y ∈ P ++ O ∨ y ∈ ys := by
  intro ys
  induction ys with
  | nil => intro O; exact ⟨Or.inl, fun h => h.elim id (fun h => nomatch h)⟩
  | cons z ys ih =>
    intro O
    show y ∈ P ++ fAks P (fAk P O z) ys ↔ _
    rw [ih, fAk_mem, List.mem_cons, or_assoc]
theorem fAks_nd {P : List (Nat × Nat)} : ∀ {ys O : List (Nat × Nat)}, (P ++ O).Nodup → (P ++ fAks P O ys).Nodup := by
  intro ys
  induction ys with
  | nil => intro O h; exact h
  | cons z ys ih => intro O h; exact ih (fAk_nd h)
theorem fNd_len : ∀ (N : Nat) (L : List Nat), L.Nodup → (∀ x ∈ L, x < N) → L.length ≤ N := by
  intro N
  induction N with
  | zero =>
    intro L _ h
    cases L with
    | nil => exact Nat.le_refl 0
    | cons a l => exact absurd (h a List.mem_cons_self) (Nat.not_lt_zero a)
  | succ N ih =>
    intro L hn h
    have h1 := ih (L.erase N) (hn.erase N) (fun x hx => by
      have h2 := (hn.mem_erase_iff).mp hx
      have := h x h2.2
      omega)
    have h3 := List.length_erase (a := N) (l := L)
    split at h3 <;> omega
theorem nd_pairs {n : Nat} {L : List (Nat × Nat)} (h : L.Nodup) (hb : ∀ x ∈ L, x.1 < n ∧ x.2 < n) : L.length ≤ n * n := by
  have h1 := fNd_len (n * n) (L.map (fun x => x.1 * n + x.2)) ?_ ?_
  · rw [List.length_map] at h1
    exact h1
  · show List.Pairwise (fun a b => a ≠ b) (L.map (fun x => x.1 * n + x.2))
    rw [List.pairwise_map]
    refine List.Pairwise.imp_of_mem ?_ (show List.Pairwise (fun a b => a ≠ b) L from h)
    intro a b ha hb2 hab e
    have a1 := hb a ha
    have b1 := hb b hb2
    have hn : 0 < n := by omega
    have e1 : (a.1 * n + a.2) / n = (b.1 * n + b.2) / n := by rw [e]
    have e2 : (a.1 * n + a.2) % n = (b.1 * n + b.2) % n := by rw [e]
    rw [Nat.add_comm, Nat.add_mul_div_right _ _ hn, Nat.div_eq_of_lt a1.2, Nat.add_comm (b.1 * n), Nat.add_mul_div_right _ _ hn, Nat.div_eq_of_lt b1.2] at e1
    rw [Nat.add_comm, Nat.add_mul_mod_self_right, Nat.mod_eq_of_lt a1.2, Nat.add_comm (b.1 * n), Nat.add_mul_mod_self_right, Nat.mod_eq_of_lt b1.2] at e2
    exact hab (Prod.ext (by omega) e2)
  · intro y hy
    obtain ⟨x, hx, rfl⟩ := List.mem_map.mp hy
    have := hb x hx
    have h2 : x.1 * n + n ≤ n * n := by
      rw [← Nat.succ_mul]
      exact Nat.mul_le_mul_right n this.1
    show x.1 * n + x.2 < n * n
    omega
def fIv (A B : List SN) (dB : SP → Option (List Nat)) (x0 : Nat × Nat) (P O : List (Nat × Nat)) : Prop := (P ++ O).Nodup ∧ x0 ∈ P ++ O ∧ (∀ x ∈ P ++ O, fRe A B x0 x) ∧ ∀ x ∈ P, fGd A B dB x.1 x.2 = true ∧ ∀ y ∈ fAs A B x.1 x.2, y ∈ P ++ O
theorem fIv.step {A B : List SN} {dB : SP → Option (List Nat)} {x0 x : Nat × Nat} {P O O1 : List (Nat × Nat)} (h : fIv A B dB x0 P O) (hm : ∀ y : Nat × Nat, y ∈ (P ++ [x]) ++ O1 ↔ y ∈ P ++ O) (hn : ((P ++ [x]) ++ O1).Nodup) (hg : fGd A B dB x.1 x.2 = true) : fIv A B dB x0 (P ++ [x]) (fAks (P ++ [x]) O1 (fAs A B x.1 x.2)) := by
  obtain ⟨h1, h2, h3, h4⟩ := h
  have hx : fRe A B x0 x := h3 x ((hm x).mp (List.mem_append.mpr (Or.inl (List.mem_append.mpr (Or.inr List.mem_cons_self)))))
  refine ⟨fAks_nd hn, fAks_mem.mpr (Or.inl ((hm x0).mpr h2)), fun y hy => ?_, fun y hy => ?_⟩
  · rcases fAks_mem.mp hy with e | e
    · exact h3 y ((hm y).mp e)
    · exact fun R r0 rs => rs x (hx R r0 rs) y e
  · rcases List.mem_append.mp hy with e | e
    · obtain ⟨g1, g2⟩ := h4 y e
      exact ⟨g1, fun z hz => fAks_mem.mpr (Or.inl ((hm z).mpr (g2 z hz)))⟩
    · rw [List.mem_singleton] at e
      subst e
      exact ⟨hg, fun z hz => fAks_mem.mpr (Or.inr hz)⟩
theorem fIv.end {A B : List SN} {dB : SP → Option (List Nat)} {x0 : Nat × Nat} {P : List (Nat × Nat)} (h : fIv A B dB x0 P []) : fFt A B dB x0 := by
  obtain ⟨h1, h2, h3, h4⟩ := h
  rw [List.append_nil] at h2
  intro x hx
  refine (h4 x (hx (fun y => y ∈ P) h2 (fun y hy z hz => ?_))).1
  have := (h4 y hy).2 z hz
  rw [List.append_nil] at this
  exact this
theorem fIv.bad {A B : List SN} {dB : SP → Option (List Nat)} {x0 x : Nat × Nat} {P O : List (Nat × Nat)} (h : fIv A B dB x0 P O) (hx : x ∈ P ++ O) (hg : fGd A B dB x.1 x.2 = false) : ¬ fFt A B dB x0 := fun hf => by
  have := hf x (h.2.2.1 x hx)
  rw [hg] at this
  exact nomatch this
theorem fIv.start {A B : List SN} {dB : SP → Option (List Nat)} {x0 : Nat × Nat} : fIv A B dB x0 [] [x0] := ⟨by simp, List.mem_cons_self, fun x hx => by
  have : x = x0 := List.mem_singleton.mp hx
  subst this
  exact fun R r0 _ => r0, fun x hx => nomatch hx⟩
theorem sPn_lt {st : SS} (hF : kF st) {s : Nat} (hs : s < 6 + st.ns.length) (hk : (nN st.ns s).kd = 6 ∨ (nN st.ns s).kd = 7 ∨ (nN st.ns s).kd = 8 ∨ (nN st.ns s).kd = 11) {q : SP} (hq : q ∈ (nN st.ns s).ps) : sPn (some q) < 6 + st.ns.length := by
  obtain ⟨i, rfl, hi⟩ := nN_some (ns := st.ns) (s := s) (nN_ge (ns := st.ns) (by omega)) hs
  generalize nN st.ns (6 + i) = n at hk hi hq
  obtain ⟨m, m1, m2, m3⟩ := (hF i n hi).2.1 hk q hq
  have e : sPn (some q) = m := by
    unfold sPn
    dsimp only
    rw [m1]
  rw [e, ← kK_len (st := st)]
  exact m2
theorem sKid0_lt {st : SS} (hF : kF st) {s : Nat} (hs : s < 6 + st.ns.length) (hk : (nN st.ns s).kd = 6 ∨ (nN st.ns s).kd = 7) : sKid0 st.ns s < 6 + st.ns.length := by
  have hq : ∃ q : SP, (nN st.ns s).ps = [q] := by
    obtain ⟨i, rfl, hi⟩ := nN_some (ns := st.ns) (s := s) (nN_ge (ns := st.ns) (by omega)) hs
    exact (hF i _ hi).1 hk
  obtain ⟨q, hq⟩ := hq
  unfold sKid0
  rw [hq]
  exact sPn_lt hF hs (by omega) (by rw [hq]; exact List.mem_cons_self)
/-- what is asked for is there -/
theorem fAs_in {A B : SS} (hFA : kF A) (hFB : kF B) {w r : Nat} (hw : w < 6 + A.ns.length) (hr : r < 6 + B.ns.length) {y : Nat × Nat} (hy : y ∈ fAs A.ns B.ns w r) : y.1 < 6 + A.ns.length ∧ y.2 < 6 + B.ns.length := by
  unfold fAs at hy
  split at hy
  · rename_i k8
    have key : ∀ l : List SP, (∀ q ∈ l, q ∈ (nN A.ns w).ps) → y ∈ fUn r l → y.1 < 6 + A.ns.length ∧ y.2 < 6 + B.ns.length := by
      intro l
      induction l with
      | nil => intro _ h; exact nomatch h
      | cons q l ih =>
        intro h1 h2
        rcases List.mem_cons.mp h2 with e | e
        · rw [e]
          exact ⟨sPn_lt hFA hw (by omega) (h1 q List.mem_cons_self), hr⟩
        · exact ih (fun q2 h => h1 q2 (List.mem_cons_of_mem _ h)) e
    exact key _ (fun q h => h) hy
  split at hy
  · rename_i k8
    split at hy
    · exact nomatch hy
    · rename_i k hk
      rw [List.mem_singleton] at hy
      subst hy
      have hkl := tFstL_lt hk
      refine ⟨hw, ?_⟩
      have hz := List.getElem?_eq_getElem (show k < (nN B.ns r).ps.length by omega)
      show sPn (nN B.ns r).ps[k]? < _
      rw [hz]
      exact sPn_lt hFB hr (by omega) (List.mem_of_getElem? hz)
  split at hy
  · rename_i k67
    split at hy
    · rename_i ke
      rw [List.mem_singleton] at hy
      subst hy
      exact ⟨sKid0_lt hFA hw k67, sKid0_lt hFB hr (by omega)⟩
    · exact nomatch hy
  split at hy
  · rename_i k11
    have key : ∀ l : List SP, (∀ q ∈ l, q ∈ (nN B.ns r).ps) → y ∈ fFl (nN A.ns w).ps l → y.1 < 6 + A.ns.length ∧ y.2 < 6 + B.ns.length := by
      intro l
      induction l with
      | nil => intro _ h; exact nomatch h
      | cons q l ih =>
        intro h1 h2
        unfold fFl at h2
        split at h2
        · exact ih (fun q2 h => h1 q2 (List.mem_cons_of_mem _ h)) h2
        · rename_i i hi
          rcases List.mem_cons.mp h2 with e | e
          · rw [e]
            have hil : i < (nN A.ns w).ps.length := by have := sPrtL_lt _ _ _ _ hi; omega
            have hz := List.getElem?_eq_getElem hil
            refine ⟨?_, sPn_lt hFB hr (Or.inr (Or.inr (Or.inr ((tPln_of k11.1 (by omega)).1.symm.trans k11.2)))) (h1 q List.mem_cons_self)⟩
            show sPn (nN A.ns w).ps[i]? < _
            rw [hz]
            exact sPn_lt hFA hw (by omega) (List.mem_of_getElem? hz)
          · exact ih (fun q2 h => h1 q2 (List.mem_cons_of_mem _ h)) e
    exact key _ (fun q h => h) hy
  · exact nomatch hy
