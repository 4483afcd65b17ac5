/-! ===== all of the tape as rows: its spec; the class's lookAtRows ===== -/
def yRows (ns : List SN) (b : List Nat) (root : Nat) : Nat → Nat → Except (Option (Nat × Nat)) (List (List Nat))
  | 0, _ => .error none
  | T + 1, p => if b.length ≤ p then .ok [] else match yLook ns b 32 root (p, 0, 0) with
    | .error e => .error (some e)
    | .ok (w, s2) => if s2.1 = p then .error none else match yRows ns b root T s2.1 with
      | .error e => .error e
      | .ok L => .ok (w :: L)
/-- rows stand: their bytes, and where they begin -/
def rws (M : zM) (r : Int) (L : List (List Nat)) : Prop := M (r + 1) 1 = (L.flatten.length : Int) ∧ (∀ j : Nat, j < L.flatten.length → M (r + 2) (j : Int) = (L.flatten.getD j 0 : Nat)) ∧ M (r + 3) 1 = (L.length : Int) ∧ ∀ i : Nat, i < L.length → M (r + 4) (i : Int) = ((L.take i).flatten.length : Int)
/-- the shapes within a look -/
def S53 (S : zS) (p mk : Int) : zS := fun b => if b = ((55 : Nat) : Int) then some (0, 4, [(3, 1), (3, p), (3, mk), (0, 0), (0, 0), (0, 0), (0, 0), (0, 0)]) else S b
theorem z53 {S : zS} {l : Launch} {s0 : State} {G : va_G} {ca : Nat → ClassId} {k : Cond} {y : MethodName} {t d : Nat} {av : List Value} {C : Nat × Nat} {M : zM} {Q : Int → zM → Prop} {X : zM → Prop} {p mk : Int} (hs53 : S 55 = some (0, 4, [(2, 0), (2, 0), (2, 0), (0, 0), (0, 0), (0, 0), (0, 0), (0, 0)])) (h0 : M 55 0 = 1) (h1 : M 55 1 = p) (h2 : M 55 2 = mk) (h : zMet l s0 G ca k y t d av C (S53 S p mk) M (fun v M1 => Q v (zu (zu (zu M1 55 2 mk) 55 1 p) 55 0 1)) (fun M1 => X (zu (zu (zu M1 55 2 mk) 55 1 p) 55 0 1))) : zMet l s0 G ca k y t d av C S M Q X := by
  let S1 : zS := fun b => if b = ((55 : Nat) : Int) then some (0, 4, [(3, 1), (2, 0), (2, 0), (0, 0), (0, 0), (0, 0), (0, 0), (0, 0)]) else S b
  have h53 : S1 55 = some (0, 4, [(3, 1), (2, 0), (2, 0), (0, 0), (0, 0), (0, 0), (0, 0), (0, 0)]) := if_pos rfl
  let S2 : zS := fun b => if b = ((55 : Nat) : Int) then some (0, 4, [(3, 1), (3, p), (2, 0), (0, 0), (0, 0), (0, 0), (0, 0), (0, 0)]) else S b
  have g53 : S2 55 = some (0, 4, [(3, 1), (3, p), (2, 0), (0, 0), (0, 0), (0, 0), (0, 0), (0, 0)]) := if_pos rfl
  refine zMet_S (S' := S1) (a := 55) (c := 1) (k9 := 0) hs53 h53 (fun b hb => if_neg hb) rfl rfl h0 ?_
  refine zMet_S (S' := S2) (a := 55) (c := p) (k9 := 1) h53 g53 (fun b hb => ?_) rfl rfl h1 ?_
  · show (if b = ((55 : Nat) : Int) then _ else S b) = (if b = ((55 : Nat) : Int) then _ else S b)
    rw [if_neg (show ¬ b = ((55 : Nat) : Int) from hb), if_neg (show ¬ b = ((55 : Nat) : Int) from hb)]
  · refine zMet_S (S' := S53 S p mk) (a := 55) (c := mk) (k9 := 2) g53 (if_pos rfl) (fun b hb => ?_) rfl rfl h2 h
    show (if b = ((55 : Nat) : Int) then _ else S b) = (if b = ((55 : Nat) : Int) then _ else S b)
    rw [if_neg (show ¬ b = ((55 : Nat) : Int) from hb), if_neg (show ¬ b = ((55 : Nat) : Int) from hb)]
/-- the Looker between calls -/
def vSh (S : zS) (p r : Int) : Prop := zSok S ∧ zSc S p ∧ zRw S r ∧ S 55 = some (0, 4, [(2, 0), (2, 0), (2, 0), (0, 0), (0, 0), (0, 0), (0, 0), (0, 0)]) ∧ (30 ≤ p ∧ (p + 24 < 55 ∨ 138 ≤ p)) ∧ 70 ≤ r ∧ r < 80
theorem zCe.fr {S S' : zS} {c a : Int} {n : Nat} (h : zCe S c a n) (e1 : S' c = S c) (e2 : S' a = S a) : zCe S' c a n := ⟨h.1, h.2.1, h.2.2.1, e1.trans h.2.2.2.1, e2.trans h.2.2.2.2⟩
theorem vSh.l {S : zS} {p r : Int} (h : vSh S p r) : lSh (S53 S p (r + 1)) p (r + 1) (r + 2) := by
  obtain ⟨hs, hp, hr, h53, hp0, r0, r1⟩ := h
  exact ⟨hs.upd (Or.inl rfl), hp.fr (fun a h1 h2 => if_neg (by omega)), hr.2.2.1.fr (if_neg (by omega)) (if_neg (by omega)), if_pos rfl, by omega, hp0.2, by omega, by omega, by omega⟩
/-- what looking at all of the tape may write -/
def vfr (r : Int) (M M1 : zM) : Prop := ∀ c j : Int, ¬ (c = 55 ∧ 0 ≤ j ∧ j ≤ 7) → ¬ (r + 1 ≤ c ∧ c ≤ r + 4) → M1 c j = M c j
theorem vfr.tr {r : Int} {M M1 M2 : zM} (h1 : vfr r M M1) (h2 : vfr r M1 M2) : vfr r M M2 := fun c j n1 n2 => (h2 c j n1 n2).trans (h1 c j n1 n2)
theorem vfr.rf {r : Int} {M : zM} : vfr r M M := fun _ _ _ _ => rfl
theorem vfr.u53 {r : Int} {M M1 : zM} (h : vfr r M M1) {k v : Int} (h1 : 0 ≤ k) (h2 : k ≤ 7) : vfr r M (zu M1 55 k v) := fun c j n1 n2 => by
  rw [← h c j n1 n2]
  exact zu_ne (fun e => n1 ⟨e.1, by omega⟩)
theorem vfr.ur {r : Int} {M M1 : zM} (h : vfr r M M1) {a k v : Int} (h1 : r + 1 ≤ a) (h2 : a ≤ r + 4) : vfr r M (zu M1 a k v) := fun c j n1 n2 => by
  rw [← h c j n1 n2]
  exact zu_ne (fun e => n2 ⟨by omega, by omega⟩)
theorem ofr.v {r : Int} {u : Nat} {M M1 : zM} (h : ofr (r + 1) (r + 2) u M M1) : vfr r M M1 := fun c j n1 n2 => h c j (fun e => n1 ⟨e.1, by omega⟩) (fun e => n2 (by omega)) (fun e => n2 (by omega))
/-- the Looker's own fields are as they were told -/
def v012 (M : zM) (p r : Int) : Prop := M 55 0 = 1 ∧ M 55 1 = p ∧ M 55 2 = r + 1
theorem v012.id {M : zM} {p r : Int} (h : v012 M p r) : zu (zu (zu M 55 2 (r + 1)) 55 1 p) 55 0 1 = M := by
  obtain ⟨h0, h1, h2⟩ := h
  rw [zu_id h2, zu_id h1, zu_id h0]
theorem v012.o {M M1 : zM} {p r : Int} {u : Nat} (h : v012 M p r) (hf : ofr (r + 1) (r + 2) u M M1) (hr : 70 ≤ r) : v012 M1 p r := by
  obtain ⟨h0, h1, h2⟩ := h
  exact ⟨by rw [hf 55 0 (by omega) (by omega) (by omega)]; exact h0, by rw [hf 55 1 (by omega) (by omega) (by omega)]; exact h1, by rw [hf 55 2 (by omega) (by omega) (by omega)]; exact h2⟩
theorem flat_snoc (L : List (List Nat)) (w : List Nat) : (L ++ [w]).flatten = L.flatten ++ w := by
  rw [List.flatten_append]
  simp
section MA
variable {l : Launch} {s0 : State} {a0 : Array Value} {G : va_G} {ca : Nat → ClassId} {d : Nat} {C : Nat × Nat} {S : zS} {M M0 : zM} {Q : Int → zM → Prop} {X : zM → Prop} {b : List Nat} {st : SS} {NU root : Nat} {p r : Int}
theorem l_rowsL (Γ : rt_Γ l s0 a0 G ca) (hd : 200 ≤ d) (hok : zok C) (hS : vSh S p r) (hF : kF st) (hO : kOk st) (hN : b.length ≤ 4000) (hT0 : lTp M0 b) (hG0 : gC M0 p NU st) (hroot : M0 (p + 0) 12 = (root : Int)) (hrt : root < 6 + st.ns.length) {w0 : rt_Wd} :
    ∀ (T q : Nat) (L : List (List Nat)) (M : zM), b.length + 1 ≤ T + q → q ≤ b.length → L.flatten.length ≤ q → L.length ≤ q → vfr r M0 M → v012 M p r → M 55 3 = (q : Int) → l67 M → rws M r L →
    (∀ e : Nat × Nat, yRows st.ns b root T q = .error (some e) → ∀ M1 : zM, M1 55 7 = (e.2 : Int) → vfr r M0 M1 → Q (-(e.1 : Int)) M1) →
    (yRows st.ns b root T q = .error none → ∀ M1 : zM, M1 55 7 = -1 → vfr r M0 M1 → Q (-34) M1) →
    (∀ L2 : List (List Nat), yRows st.ns b root T q = .ok L2 → ∀ M1 : zM, M1 55 7 = -1 → vfr r M0 M1 → rws M1 r (L ++ L2) → Q ((L ++ L2).length : Nat) M1) →
    zg_X4_lookAtRows_62 l s0 G ca d C S w0 r L.length M Q X := by
  obtain ⟨hs, hp, hr, h53, hp0, r0, r1⟩ := id hS
  intro T
  induction T with
  | zero => intro q L M hT hq; omega
  | succ T ih =>
    intro q L M hTq hq hLf hLl hf h012 h3 h67 hrw kE kN kO
    have hT : lTp M b := by
      obtain ⟨a1, a2, a3⟩ := hT0
      refine ⟨by rw [hf 1 1 (by omega) (by omega)]; exact a1, a2, fun j hj => ⟨by rw [hf 2 j (by omega) (by omega)]; exact (a3 j hj).1, (a3 j hj).2⟩⟩
    have hG : gC M p NU st := hG0.fr (fun a ha => funext fun j => hf a j (by omega) (by omega))
    have hrtM : M p 12 = (root : Int) := by rw [hf p 12 (by omega) (by omega)]; rw [Int.add_zero] at hroot; exact hroot
    refine zs_X4_lookAtRows_62 Γ (by omega) hok hs h53 ?_
    unfold zt_X4_lookAtRows_62
    rw [w32_id (x := (L.length : Int)) (by omega) (by omega)]
    refine zIf_f (by omega) ⟨2, 4096, ?_, ?_⟩
    · rw [h012.1]
      exact ⟨by decide, by decide, by decide, hs 1 _ rfl, hs 2 _ rfl⟩
    rw [h012.1, hT.1, h3, w32_id (x := (b.length : Int)) (by omega) (by omega), w32_id (x := (q : Int)) (by omega) (by omega)]
    unfold yRows at kE kN kO
    refine ⟨fun c1 => ⟨hr, ?_⟩, fun c1 => ⟨hr, ?_⟩⟩
    · rw [if_pos (by omega)] at kO
      have := kO [] rfl M h67.2 hf (by rw [List.append_nil]; exact hrw)
      rw [List.append_nil] at this
      rw [hrw.2.2.1]
      exact this
    · rw [if_neg (by omega)] at kE kN kO
      have e1 : zu (zu M 55 4 0) 55 5 0 (r + 1) 1 = (L.flatten.length : Int) := by rw [zu_a (by omega), zu_a (by omega)]; exact hrw.1
      have e3 : zu (zu M 55 4 0) 55 5 0 (r + 3) 1 = (L.length : Int) := by rw [zu_a (by omega), zu_a (by omega)]; exact hrw.2.2.1
      obtain ⟨ea, -⟩ := zadd_in (c := r + 3) (a := r + 4) (x := ((L.flatten.length : Nat) : Int)) (n := 4096) e3 (by omega) (by omega) (show ((L.length : Nat) : Int) < 4096 by omega) (by omega)
      rw [e1, ea]
      have g : ∀ c j : Int, ¬ (c = 55 ∧ 4 ≤ j ∧ j ≤ 5) → ¬ (c = r + 3 ∧ j = 1) → ¬ (c = r + 4 ∧ j = (L.length : Int)) → zu (zu (zu (zu M 55 4 0) 55 5 0) (r + 4) ((L.length : Nat) : Int) ((L.flatten.length : Nat) : Int)) (r + 3) 1 (((L.length : Nat) : Int) + 1) c j = M c j := fun c j n1 n2 n3 => by
        rw [zu_ne n2, zu_ne n3, zu_ne (fun e => n1 ⟨e.1, by omega⟩), zu_ne (fun e => n1 ⟨e.1, by omega⟩)]
      have gs : zu (zu (zu (zu M 55 4 0) 55 5 0) (r + 4) ((L.length : Nat) : Int) ((L.flatten.length : Nat) : Int)) (r + 3) 1 (((L.length : Nat) : Int) + 1) (r + 3) 1 = ((L.length + 1 : Nat) : Int) := by rw [zu_s]; omega
      have g4 : zu (zu (zu (zu M 55 4 0) 55 5 0) (r + 4) ((L.length : Nat) : Int) ((L.flatten.length : Nat) : Int)) (r + 3) 1 (((L.length : Nat) : Int) + 1) (r + 4) (L.length : Int) = (L.flatten.length : Int) := by rw [zu_a (by omega), zu_s]
      have gp4 : zu (zu (zu (zu M 55 4 0) 55 5 0) (r + 4) ((L.length : Nat) : Int) ((L.flatten.length : Nat) : Int)) (r + 3) 1 (((L.length : Nat) : Int) + 1) 55 4 = 0 := by rw [zu_a (by omega), zu_a (by omega), zu_k (by decide), zu_s]
      have gp5 : zu (zu (zu (zu M 55 4 0) 55 5 0) (r + 4) ((L.length : Nat) : Int) ((L.flatten.length : Nat) : Int)) (r + 3) 1 (((L.length : Nat) : Int) + 1) 55 5 = 0 := by rw [zu_a (by omega), zu_a (by omega), zu_s]
      generalize zu (zu (zu (zu M 55 4 0) 55 5 0) (r + 4) ((L.length : Nat) : Int) ((L.flatten.length : Nat) : Int)) (r + 3) 1 (((L.length : Nat) : Int) + 1) = M1 at g gs g4 gp4 gp5
      have h012a : v012 M1 p r := ⟨by rw [g 55 0 (by omega) (by omega) (by omega)]; exact h012.1, by rw [g 55 1 (by omega) (by omega) (by omega)]; exact h012.2.1, by rw [g 55 2 (by omega) (by omega) (by omega)]; exact h012.2.2⟩
      have hf1 : vfr r M0 M1 := fun c j n1 n2 => (g c j (fun e => n1 ⟨e.1, by omega⟩) (fun e => n2 (by omega)) (fun e => n2 (by omega))).trans (hf c j n1 n2)
      have hT1 : lTp M1 b := by
        obtain ⟨a1, a2, a3⟩ := hT
        refine ⟨by rw [g 1 1 (by omega) (by omega) (by omega)]; exact a1, a2, fun j hj => ⟨by rw [g 2 j (by omega) (by omega) (by omega)]; exact (a3 j hj).1, (a3 j hj).2⟩⟩
      have hG1 : gC M1 p NU st := hG.fr (fun a ha => funext fun j => g a j (by omega) (by omega) (by omega))
      have hP1 : lP M1 (q, 0, 0) := ⟨by rw [g 55 3 (by omega) (by omega) (by omega)]; exact h3, gp4, gp5, by rw [g 55 6 (by omega) (by omega) (by omega)]; exact h67.1, by rw [g 55 7 (by omega) (by omega) (by omega)]; exact h67.2⟩
      have hu1 : M1 (r + 1) 1 = (L.flatten.length : Int) := by rw [g _ _ (by omega) (by omega) (by omega)]; exact hrw.1
      have hrt1 : M1 p 12 = (root : Int) := by rw [g _ _ (by omega) (by omega) (by omega)]; exact hrtM
      rw [h012a.2.1]
      refine ⟨hp, ?_⟩
      rw [hrt1]
      refine z53 (p := p) (mk := r + 1) h53 h012a.1 h012a.2.1 h012a.2.2 ?_
      have hA : yA b (q, 0, 0) := ⟨hq, Nat.zero_le _, Nat.zero_le _⟩
      refine l_look (p := p) (mk := r + 1) (mka := r + 2) (C := C) (NU := NU) Γ hok hS.l hF hO hN 32 (d - 1) root (q, 0, 0) L.flatten.length M1 _ _ (by omega) (Nat.le_refl _) hrt hA hT1 hG1 hP1 hu1 hLf (fun e he M2 x => ?_) (fun w y2 he M2 o => ?_)
      · have k0 : v012 M2 p r := h012a.o x.2.2 r0
        rw [k0.id]
        refine zIf_f x.1.w ?_
        rw [x.1.1]
        refine kE e (by rw [he]) M2 x.1.2.1 (hf1.tr x.2.2.v)
      · have k0 : v012 M2 p r := h012a.o o.2.2.2 r0
        rw [k0.id, o.1.2.2.2.1]
        refine zIf_t (by decide) ?_
        obtain ⟨b1, b2, -⟩ := (yLook_g 32 root (q, 0, 0) hA).2 w y2 he
        have b3 : w.length + q ≤ y2.1 := b2
        have b4 := b1.1
        rw [o.1.1, w32_id (by omega) (by omega)]
        refine ⟨fun c2 => kN (by rw [he]; dsimp only; rw [if_pos (by omega)]) M2 o.1.2.2.2.2 (hf1.tr o.2.2.2.v), fun c2 => ?_⟩
        rw [show ((L.length : Nat) : Int) + 1 = (((L ++ [w]).length : Nat) : Int) by rw [List.length_append, List.length_singleton]; omega]
        have hlf : (L ++ [w]).flatten.length = L.flatten.length + w.length := by rw [flat_snoc, List.length_append]
        have hne : ¬ y2.1 = q := by omega
        refine ih y2.1 (L ++ [w]) M2 (by omega) b4 (by rw [hlf]; omega) (by rw [List.length_append, List.length_singleton]; omega) (hf1.tr o.2.2.2.v) k0 o.1.1 o.1.2.2.2 ⟨?_, fun j hj => ?_, ?_, fun i hi => ?_⟩ (fun e h2 => kE e ?_) (fun h2 => kN ?_) (fun L2 h2 => ?_)
        · rw [hlf]; exact o.2.1
        · rw [hlf] at hj
          rw [flat_snoc, List.getD_eq_getElem?_getD]
          by_cases cj : j < L.flatten.length
          · rw [List.getElem?_append_left cj, ← List.getD_eq_getElem?_getD, ← hrw.2.1 j cj, ← g (r + 2) j (by omega) (by omega) (by omega)]
            exact o.2.2.2 _ _ (by omega) (by omega) (by omega)
          · rw [List.getElem?_append_right (by omega), ← List.getD_eq_getElem?_getD, ← o.2.2.1 (j - L.flatten.length) (by omega)]
            rw [show L.flatten.length + (j - L.flatten.length) = j by omega]
        · rw [o.2.2.2 _ _ (by omega) (by omega) (by omega), gs, List.length_append, List.length_singleton]
        · rw [List.length_append, List.length_singleton] at hi
          rw [o.2.2.2 _ _ (by omega) (by omega) (by omega)]
          by_cases ci : i < L.length
          · rw [g (r + 4) i (by omega) (by omega) (by omega), hrw.2.2.2 i ci, List.take_append_of_le_length (by omega)]
          · have : i = L.length := by omega
            subst this
            rw [g4, List.take_append_of_le_length (Nat.le_refl _), List.take_length]
        · rw [he]
          dsimp only
          rw [if_neg hne, h2]
        · rw [he]
          dsimp only
          rw [if_neg hne, h2]
        · have := kO (w :: L2) (by rw [he]; dsimp only; rw [if_neg hne, h2])
          rw [show L ++ w :: L2 = L ++ [w] ++ L2 by rw [List.append_assoc]; rfl] at this
          exact this
end MA
