/-! ===== what a datum of no bytes tells is one thing ===== -/
theorem vB_nil {n : Int} {r : List Nat} (h : [] = vB n ++ r) : False := by
  have h1 : 1 ≤ (vB n).length := uB_pos (m := 9)
  have h2 := congrArg List.length h
  rw [List.length_append, List.length_nil] at h2
  omega
theorem yHd_nil {c : Nat} {r : List Nat} (h : [] = yHd c r) : False := by
  have h2 := congrArg List.length h
  rw [yHd_len, List.length_nil] at h2
  omega
theorem tFs_nil {f : Nat → List Nat → Prop} : ∀ {ps : List SP} {L : List (List Nat)}, tFs f ps L → L.flatten = [] → L = List.replicate ps.length [] := by
  intro ps
  induction ps with
  | nil => intro L h _; exact h
  | cons q r ih =>
    intro L h hz
    obtain ⟨i, L1, rfl, h1, h2⟩ := h
    rw [List.flatten_cons] at hz
    obtain ⟨z1, z2⟩ := List.append_eq_nil_iff.mp hz
    rw [z1, ih h2 z2]
    rfl
theorem tRf_det {f g : Nat → Nat → List Nat → tU → Prop} {dB : SP → Option (List Nat)} {ps : List SP} {N : Nat} (ih : ∀ (w r : Nat) (o o' : tU), f w r [] o → g w r [] o' → o = o') : ∀ (l : List SP) (o o' : tU), tRf f dB ps (List.replicate N []) l o → tRf g dB ps (List.replicate N []) l o' → o = o' := by
  intro l
  induction l with
  | nil =>
    intro o o' h h'
    have e : o = ([], false) := h
    have e' : o' = ([], false) := h'
    rw [e, e']
  | cons q l ih2 =>
    intro o o' h h'
    obtain ⟨o1, o2, a1, a2, rfl⟩ := h
    obtain ⟨p1, p2, b1, b2, rfl⟩ := h'
    have e2 := ih2 o2 p2 a2 b2
    have e1 : o1 = p1 := by
      cases hs : sPrt ps q.nm with
      | none => rw [a1.2 hs, b1.2 hs]
      | some i =>
        obtain ⟨a, b, x1, x2, x3⟩ := a1.1 i hs
        obtain ⟨a', b', y1, y2, y3⟩ := b1.1 i hs
        have ea : a = a' := Option.some.inj (x1.symm.trans y1)
        have eb : b = [] := List.eq_of_mem_replicate (List.mem_of_getElem? x2)
        have eb' : b' = [] := List.eq_of_mem_replicate (List.mem_of_getElem? y2)
        subst ea eb eb'
        exact ih _ _ _ _ x3 y3
    rw [e1, e2]
theorem tPl_det {A B : List SN} {dB : SP → Option (List Nat)} {f g : Nat → Nat → List Nat → tU → Prop} {f2 g2 : Nat → List Nat → Prop} (ih : ∀ (w r : Nat) (o o' : tU), f w r [] o → g w r [] o' → o = o') {w r : Nat} {o o' : tU} (h : tPl A B dB f f2 w r [] o) (h' : tPl A B dB g g2 w r [] o') : o = o' := by
  unfold tPl at h h'
  by_cases k67 : (nN A w).kd = 6 ∨ (nN A w).kd = 7
  · rw [if_pos k67] at h h'
    by_cases ke : (nN B r).kd = (nN A w).kd
    · rw [if_pos ke] at h
      obtain ⟨c, rest, o1, e, -⟩ := h
      exact (yHd_nil e).elim
    · rw [if_neg ke] at h h'
      rw [h, h']
  · rw [if_neg k67] at h h'
    by_cases kp : tPln A B w r = true
    · rw [if_pos kp] at h h'
      by_cases k11 : (nN A w).kd = 11
      · rw [if_pos k11] at h h'
        obtain ⟨L, e, hL, hR⟩ := h
        obtain ⟨L', e', hL', hR'⟩ := h'
        have q := tFs_nil hL e.symm
        have q' := tFs_nil hL' e'.symm
        subst q q'
        exact tRf_det ih _ _ _ hR hR'
      · rw [if_neg k11] at h h'
        by_cases k10 : (nN A w).kd = 10
        · rw [if_pos k10] at h
          obtain ⟨n, z, e, -⟩ := h
          exact (vB_nil (r := []) (by rw [List.append_nil]; exact e)).elim
        · rw [if_neg k10] at h h'
          rw [h, h']
    · rw [if_neg kp] at h h'
      rw [h, h']
theorem tT_det {A B : List SN} {dB : SP → Option (List Nat)} : ∀ (m n w r : Nat) (o o' : tU), tT A B dB m w r [] o → tT A B dB n w r [] o' → o = o' := by
  intro m
  induction m with
  | zero => intro n w r o o' h; exact h.elim
  | succ m ih =>
    intro n w r o o' h h'
    cases n with
    | zero => exact h'.elim
    | succ n =>
      obtain ⟨-, h⟩ := h
      obtain ⟨-, h'⟩ := h'
      unfold tBd at h h'
      by_cases k8 : (nN A w).kd = 8
      · rw [if_pos k8] at h
        obtain ⟨k, rest, e, -⟩ := h
        exact (vB_nil e).elim
      · rw [if_neg k8] at h h'
        by_cases r8 : (nN B r).kd = 8
        · rw [if_pos r8] at h h'
          cases hf : tFst A B w r with
          | none => rw [h.1 hf, h'.1 hf]
          | some k =>
            obtain ⟨o1, a1, rfl⟩ := h.2 k hf
            obtain ⟨p1, b1, rfl⟩ := h'.2 k hf
            rw [tPl_det (fun w r o o' => ih n w r o o') a1 b1]
        · rw [if_neg r8] at h h'
          exact tPl_det (fun w r o o' => ih n w r o o') h h'
