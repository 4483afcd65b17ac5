/-! ===== the class's Fitter: all pairs ===== -/
def S63 (S : zS) (p q : Int) : zS := fun b => if b = ((69 : Nat) : Int) then some (0, 3, [(3, 70), (3, 72), (3, p), (3, q), (0, 0)]) else S b
theorem z63 {S : zS} {l : Launch} {s0 : State} {G : va_G} {ca : Nat → ClassId} {k : Cond} {y : MethodName} {t d : Nat} {av : List Value} {C : Nat × Nat} {M : zM} {Q : Int → zM → Prop} {X : zM → Prop} {p q : Int} (hs63 : S 69 = some (0, 3, [(3, 70), (3, 72), (2, 0), (2, 0), (0, 0)])) (h2 : M 69 2 = p) (h3 : M 69 3 = q) (h : zMet l s0 G ca k y t d av C (S63 S p q) M (fun v M1 => Q v (zu (zu M1 69 3 q) 69 2 p)) (fun M1 => X (zu (zu M1 69 3 q) 69 2 p))) : zMet l s0 G ca k y t d av C S M Q X := by
  let S1 : zS := fun b => if b = ((69 : Nat) : Int) then some (0, 3, [(3, 70), (3, 72), (3, p), (2, 0), (0, 0)]) else S b
  have h63 : S1 69 = some (0, 3, [(3, 70), (3, 72), (3, p), (2, 0), (0, 0)]) := if_pos rfl
  refine zMet_S (S' := S1) (a := 69) (c := p) (k9 := 2) hs63 h63 (fun b hb => if_neg hb) rfl rfl h2 ?_
  refine zMet_S (S' := S63 S p q) (a := 69) (c := q) (k9 := 3) h63 (if_pos rfl) (fun b hb => ?_) rfl rfl h3 h
  show (if b = ((69 : Nat) : Int) then _ else S b) = (if b = ((69 : Nat) : Int) then _ else S b)
  rw [if_neg (show ¬ b = ((69 : Nat) : Int) from hb), if_neg (show ¬ b = ((69 : Nat) : Int) from hb)]
/-- the Fitter between calls -/
def xSh (S : zS) (p q : Int) : Prop := zSok S ∧ zSc S p ∧ zSc S q ∧ S 69 = some (0, 3, [(3, 70), (3, 72), (2, 0), (2, 0), (0, 0)]) ∧ (30 ≤ p ∧ (p + 24 < 55 ∨ 138 ≤ p)) ∧ (30 ≤ q ∧ (q + 24 < 55 ∨ 138 ≤ q))
theorem xSh.f {S : zS} {p q : Int} (h : xSh S p q) : ftS (S63 S p q) p q := by
  obtain ⟨hs, hp, hq, h63, hp0, hq0⟩ := h
  exact ⟨hs.upd (Or.inl rfl), hp.fr (fun a h1 h2 => if_neg (by omega)), hq.fr (fun a h1 h2 => if_neg (by omega)), if_pos rfl, hp0, hq0⟩
/-- the numbers of the askings before -/
def fSn (M : zM) (a : Nat) : Prop := M 69 4 = (a : Int) ∧ ∀ c : Nat, c < 17956 → 0 ≤ M 71 (c : Int) ∧ M 71 (c : Int) ≤ a
/-- what the asking whether one fits may write -/
def xfr (M M1 : zM) : Prop := ∀ c j : Int, ¬ c = 69 → ¬ c = 71 → ¬ (c = 72 ∧ j = 1) → ¬ c = 73 → M1 c j = M c j
section JD9
variable {l : Launch} {s0 : State} {a0 : Array Value} {G : va_G} {ca : Nat → ClassId} {d : Nat} {C : Nat × Nat} {S : zS} {p q : Int} {M M0 : zM} {Q : Int → zM → Prop} {X : zM → Prop} {a NU NV w r : Nat} {A B : SS} {dB : SP → Option (List Nat)}
theorem f_fitL (Γ : rt_Γ l s0 a0 G ca) (hd : 10 ≤ d) (hok : zok C) (hS : xSh S p q) (hFA : kF A) (hFB : kF B) (hHA : kHn A) (hHB : kHn B) (hOA : kOk A) (hOB : kOk B) {x0 : Nat × Nat} (kY : fFt A.ns B.ns dB x0 → ∀ M1 : zM, xfr M0 M1 → fSn M1 a → Q 1 M1) (kN : ¬ fFt A.ns B.ns dB x0 → ∀ M1 : zM, xfr M0 M1 → fSn M1 a → Q 0 M1) {w0 : rt_Wd} : ∀ (c : Nat) (P O : List (Nat × Nat)) (M : zM), 17956 ≤ P.length + c → fS M a P O → fIv A.ns B.ns dB x0 P O → (∀ x ∈ P ++ O, x.1 < 6 + A.ns.length ∧ x.2 < 6 + B.ns.length) → tG M p q NU NV A B dB → M 69 2 = p → M 69 3 = q → xfr M0 M → zg_X3_fit_58 l s0 G ca d C S w0 P.length M Q X := by
  obtain ⟨hs, hp, hq, h63, hp0, hq0⟩ := id hS
  intro c
  induction c with
  | zero =>
    intro P O M hP hc hI hin hG h2 h3 hf
    have hlen := nd_pairs hc.2.1 hc.2.2.1
    rw [List.length_append] at hlen
    have hO : O = [] := List.length_eq_zero_iff.mp (by omega)
    subst hO
    refine zs_X3_fit_58 Γ (by omega) hok hs h63 ?_
    unfold zt_X3_fit_58
    rw [w32_id (x := (P.length : Int)) (by omega) (by omega)]
    exact zIf_t (by omega) (kY hI.end M hf ⟨hc.1.1, fun c hc9 => (hc.1.2.2.1 c hc9).1⟩)
  | succ c ih =>
    intro P O M hP hc hI hin hG h2 h3 hf
    have hlen := nd_pairs hc.2.1 hc.2.2.1
    rw [List.length_append] at hlen
    refine zs_X3_fit_58 Γ (by omega) hok hs h63 ?_
    unfold zt_X3_fit_58
    rw [hc.1.2.2.2.1, w32_id (x := (P.length : Int)) (by omega) (by omega), w32_id (x := (O.length : Int)) (by omega) (by omega)]
    by_cases hO : O = []
    · subst hO
      have hq := kY hI.end M hf ⟨hc.1.1, fun c hc9 => (hc.1.2.2.1 c hc9).1⟩
      exact ⟨fun _ => hq, fun _ => zIf_t (by decide) hq⟩
    · obtain ⟨x, O1, rfl⟩ : ∃ (x : Nat × Nat) (O1 : List (Nat × Nat)), O = O1 ++ [x] := ⟨O.getLast hO, O.dropLast, (List.dropLast_concat_getLast hO).symm⟩
      obtain ⟨⟨c1, c2, c3, c4, c5⟩, hn, hb, ha⟩ := id hc
      have hl1 : (O1 ++ [x]).length = O1.length + 1 := by rw [List.length_append, List.length_singleton]
      rw [hl1] at hlen c4 ⊢
      have hmem : ∀ y : Nat × Nat, y ∈ (P ++ [x]) ++ O1 ↔ y ∈ P ++ (O1 ++ [x]) := fun y => by
        simp only [List.mem_append, List.mem_singleton]
        constructor
        · rintro ((h | h) | h)
          · exact Or.inl h
          · exact Or.inr (Or.inr h)
          · exact Or.inr (Or.inl h)
        · rintro (h | h | h)
          · exact Or.inl (Or.inl h)
          · exact Or.inr h
          · exact Or.inl (Or.inr h)
      have hperm : ((P ++ [x]) ++ O1).Perm (P ++ (O1 ++ [x])) := by
        rw [List.append_assoc]
        exact List.Perm.append_left P List.perm_append_comm
      have hnd : ((P ++ [x]) ++ O1).Nodup := hperm.nodup_iff.mpr hn
      have hxm : x ∈ P ++ (O1 ++ [x]) := (hmem x).mp (List.mem_append.mpr (Or.inl (List.mem_append.mpr (Or.inr List.mem_cons_self))))
      have hxb := hb x hxm
      have hxi := hin x hxm
      have ecut : zcut M 72 17956 (((O1.length + 1 : Nat) : Int) - 1) = zu M 72 1 (O1.length : Int) := by
        rw [show ((O1.length + 1 : Nat) : Int) - 1 = (O1.length : Int) by omega]
        exact zcut_in (by omega) (by omega) (by decide)
      have eat : zat M 73 17956 (((O1.length + 1 : Nat) : Int) - 1) = ((fCd x : Nat) : Int) := by
        rw [show ((O1.length + 1 : Nat) : Int) - 1 = (O1.length : Int) by omega, zat_in (by omega) (by omega) (by decide)]
        exact c5 _ x (by rw [List.getElem?_append_right (Nat.le_refl _), Nat.sub_self]; rfl)
      have hcd := fCd_lt hxb
      have ed : fCd x / 134 = x.1 := by unfold fCd; omega
      have er : fCd x % 134 = x.2 := by unfold fCd; omega
      rw [ecut, eat, show (134 : Int) = ((134 : Nat) : Int) from rfl, zdiv_n (by omega) (by decide), zrem_n (by omega) (by decide), ed, er]
      refine zIf_f (by omega) (zIf_f (by omega) ?_)
      have hc1 : fS (zu M 72 1 (O1.length : Int)) a (P ++ [x]) O1 := ⟨⟨(zu_a (by decide)).trans c1, fun y hy => (zu_a (by decide)).trans (c2 y ((hmem y).mp hy)), fun k hk => ?_, zu_s _ _ _ _, fun j y hj => ?_⟩, hnd, fun y hy => hb y ((hmem y).mp hy), ha⟩
      · have hf1 : ∀ b j : Int, ¬ b = 72 → zu M 72 1 (O1.length : Int) b j = M b j := fun b j n => zu_a n
        have hG1 : tG (zu M 72 1 (O1.length : Int)) p q NU NV A B dB := hG.fr (fun b hb9 => funext fun j => hf1 b j (by omega))
        have g2 : zu M 72 1 (O1.length : Int) 69 2 = p := (hf1 _ _ (by decide)).trans h2
        have g3 : zu M 72 1 (O1.length : Int) 69 3 = q := (hf1 _ _ (by decide)).trans h3
        have hf2 : xfr M0 (zu M 72 1 (O1.length : Int)) := fun b j n1 n2 n3 n4 => (zu_ne n3).trans (hf b j n1 n2 n3 n4)
        generalize zu M 72 1 (O1.length : Int) = M1 at hc1 hG1 g2 g3 hf2 ⊢
        refine z63 (p := p) (q := q) h63 g2 g3 ?_
        refine f_one (P := P ++ [x]) (O := O1) Γ (by omega) hok hS.f hFA hFB hHA hHB hOA hOB hxi.1 hxi.2 hG1 hc1 (fun hg M2 f2 hs2 => ?_) (fun hg M2 O2 f2 hs2 => ?_)
        · have i2 : M2 69 2 = p := (f2 _ _ (by decide) (by decide) (by decide)).trans g2
          have i3 : M2 69 3 = q := (f2 _ _ (by decide) (by decide) (by decide)).trans g3
          rw [zu_id i3, zu_id i2]
          refine zIf_f (by decide) ?_
          rw [show (P.length : Int) + 1 = (((P ++ [x]).length : Nat) : Int) by rw [List.length_append, List.length_singleton]; omega]
          refine ih (P ++ [x]) _ M2 (by rw [List.length_append, List.length_singleton]; omega) hs2 (hI.step hmem hnd hg) (fun y hy => ?_) (hG1.f f2 hp0 hq0) i2 i3 (fun b j n1 n2 n3 n4 => (f2 b j n2 n3 n4).trans (hf2 b j n1 n2 n3 n4))
          rcases fAks_mem.mp hy with e | e
          · exact hin y ((hmem y).mp e)
          · exact fAs_in hFA hFB hxi.1 hxi.2 e
        · have i2 : M2 69 2 = p := (f2 _ _ (by decide) (by decide) (by decide)).trans g2
          have i3 : M2 69 3 = q := (f2 _ _ (by decide) (by decide) (by decide)).trans g3
          rw [zu_id i3, zu_id i2]
          exact zIf_t (by decide) (kN (hI.bad hxm hg) M2 (fun b j n1 n2 n3 n4 => (f2 b j n2 n3 n4).trans (hf2 b j n1 n2 n3 n4)) ⟨hs2.1.1, fun k hk => (hs2.1.2.2.1 k hk).1⟩)
      · rw [zu_a (by decide)]
        obtain ⟨k1, k2⟩ := c3 k hk
        exact ⟨k1, fun h => by
          obtain ⟨y, y1, y2⟩ := k2 h
          exact ⟨y, (hmem y).mpr y1, y2⟩⟩
      · rw [zu_a (by decide)]
        have hjl := (List.getElem?_eq_some_iff.mp hj).1
        exact c5 j y (by rw [List.getElem?_append_left hjl]; exact hj)
end JD9
