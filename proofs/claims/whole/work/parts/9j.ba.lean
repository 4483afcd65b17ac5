/-! ===== the reference's fits: asking for a pair; a pair by itself ===== -/
def hfr (M M1 : zM) : Prop := ∀ c j : Int, ¬ (c = 84 ∧ j = 23) → ¬ c = 135 → ¬ c = 136 → M1 c j = M c j
theorem hfr.rf {M : zM} : hfr M M := fun _ _ _ _ _ => rfl
theorem hfr.tr {M M1 M2 : zM} (h : hfr M M1) (h1 : hfr M1 M2) : hfr M M2 := fun c j n1 n2 n3 => (h1 c j n1 n2 n3).trans (h c j n1 n2 n3)
theorem uM.h {M M1 : zM} {t o : Int} {xs ys : List JR} {A B : SS} (h : uM M t o xs ys A B) (f : hfr M M1) (ht : 86 ≤ t ∧ t + 21 < 134) (ho : 86 ≤ o ∧ o + 21 < 134) : uM M1 t o xs ys A B := ⟨h.1.m (fun a j h1 h2 => f a j (by omega) (by omega) (by omega)), h.2.1.m (fun a j h1 h2 => f a j (by omega) (by omega) (by omega)), h.2.2.1.m (fun a j h1 h2 => f a j (by omega) (by omega) (by omega)), h.2.2.2.m (fun a j h1 h2 => f a j (by omega) (by omega) (by omega))⟩
theorem rCh.h {M M1 : zM} {t : Int} {xs : List JR} {kd : Nat} {ps : List SP} {h : Int} (hc : rCh M t xs kd ps h) (f : hfr M M1) (ht : 86 ≤ t ∧ t + 21 < 134) : rCh M1 t xs kd ps h := hc.mono (fun q _ a h1 h2 => f a _ (by omega) (by omega) (by omega))
def hCd (x : Nat × Nat) : Nat := 140 * x.1 + x.2
def hC (M : zM) (P O : List (Nat × Nat)) : Prop := (∀ x ∈ P ++ O, M 135 (hCd x : Nat) = 1) ∧ (∀ c : Nat, c < 19600 → (M 135 (c : Int) = 0 ∨ M 135 (c : Int) = 1) ∧ (M 135 (c : Int) = 1 → ∃ x ∈ P ++ O, c = hCd x)) ∧ M 84 23 = ((P ++ O).length : Int) ∧ ∀ (j : Nat) (x : Nat × Nat), (P ++ O)[j]? = some x → M 136 (j : Int) = (hCd x : Nat)
def qS (M : zM) (P O : List (Nat × Nat)) : Prop := hC M P O ∧ (P ++ O).Nodup ∧ ∀ x ∈ P ++ O, x.1 < 134 ∧ x.2 < 134
theorem hCd_inj {x y : Nat × Nat} (hx : x.1 < 134 ∧ x.2 < 134) (hy : y.1 < 134 ∧ y.2 < 134) (h : hCd x = hCd y) : x = y := by
  unfold hCd at h
  exact Prod.ext (by omega) (by omega)
theorem hCd_lt {x : Nat × Nat} (hx : x.1 < 134 ∧ x.2 < 134) : hCd x < 19600 := by
  unfold hCd
  omega
section JBA
variable {l : Launch} {s0 : State} {a0 : Array Value} {G : va_G} {ca : Nat → ClassId} {d : Nat} {C : Nat × Nat} {S : zS} {t o : Int} {M : zM} {Q : Int → zM → Prop} {X : zM → Prop} {w r : Nat} {A B : SS} {xs ys : List JR} {dB : SP → Option (List Nat)} {P O : List (Nat × Nat)}
theorem h_ask (Γ : rt_Γ l s0 a0 G ca) (hok : zok C) (hs : zSok S) (hc : qS M P O) {w r : Nat} (hw : w < 134) (hr : r < 134) (hQ : ∀ M1 : zM, hfr M M1 → qS M1 P (fAk P O (w, r)) → Q 0 M1) : zm_X11_ask l s0 G ca d C S w r M Q X := by
  obtain ⟨⟨c2, c3, c4, c5⟩, hn, hb⟩ := id hc
  have hlt : hCd (w, r) < 19600 := hCd_lt ⟨hw, hr⟩
  have ecd : (140 * (w : Int)) + (r : Int) = ((hCd (w, r) : Nat) : Int) := by unfold hCd; omega
  refine z_X11_ask Γ hok hs ?_
  unfold zt_X11_ask
  obtain ⟨b1, b3⟩ := c3 _ hlt
  rw [ecd]
  refine ⟨⟨by omega, by omega⟩, fun e => ?_, fun e => ?_⟩
  · have hm : ¬ (w, r) ∈ P ++ O := fun h => by
      rw [c2 _ h] at e
      exact absurd e (by decide)
    have hnd := fAk_nd (x := (w, r)) hn
    have hbd : ∀ x ∈ P ++ fAk P O (w, r), x.1 < 134 ∧ x.2 < 134 := fun x hx => by
      rcases fAk_mem.mp hx with h | h
      · exact hb x h
      · rw [h]; exact ⟨hw, hr⟩
    have hlen := nd_pairs hnd hbd
    have eAk : fAk P O (w, r) = O ++ [(w, r)] := by unfold fAk; rw [if_neg hm]
    rw [eAk] at hnd hbd hlen hQ
    have e9 : P ++ (O ++ [(w, r)]) = (P ++ O) ++ [(w, r)] := (List.append_assoc _ _ _).symm
    have hl9 : ((P ++ O) ++ [(w, r)]).length = (P ++ O).length + 1 := by rw [List.length_append, List.length_singleton]
    rw [e9, hl9] at hlen
    rw [c4]
    refine ⟨⟨by omega, by omega⟩, ?_⟩
    have f129 : ∀ j : Int, zu (zu (zu M 135 ((hCd (w, r) : Nat) : Int) 1) 136 ((P ++ O).length : Int) ((hCd (w, r) : Nat) : Int)) 84 23 (((P ++ O).length : Int) + 1) 135 j = if j = ((hCd (w, r) : Nat) : Int) then 1 else M 135 j := fun j => by
      rw [zu_a (by decide), zu_a (by decide)]
      split
      · rename_i h; rw [h]; exact zu_s _ _ _ _
      · rename_i h; exact zu_k h
    refine hQ _ (fun c j n1 n2 n3 => by rw [zu_ne n1, zu_a n3, zu_a n2]) ⟨⟨fun x hx => ?_, fun c hc9 => ⟨?_, fun h9 => ?_⟩, ?_, fun j x hj => ?_⟩, hnd, hbd⟩
    · rw [f129]
      split
      · rfl
      · rename_i h
        rw [e9] at hx
        rcases List.mem_append.mp hx with h1 | h1
        · exact c2 x h1
        · rw [List.mem_singleton] at h1
          exact absurd (by rw [h1]) h
    · rw [f129]
      split
      · exact Or.inr rfl
      · exact (c3 c hc9).1
    · rw [f129] at h9
      rw [e9]
      split at h9
      · rename_i h
        exact ⟨(w, r), List.mem_append.mpr (Or.inr List.mem_cons_self), Int.ofNat.inj h⟩
      · obtain ⟨x, x1, x2⟩ := (c3 c hc9).2 h9
        exact ⟨x, List.mem_append.mpr (Or.inl x1), x2⟩
    · rw [zu_s, e9, hl9]
      rfl
    · rw [zu_a (by decide)]
      rw [e9] at hj
      by_cases cj : j < (P ++ O).length
      · rw [List.getElem?_append_left cj] at hj
        rw [zu_k (by omega), zu_a (by decide)]
        exact c5 j x hj
      · have hj9 := (List.getElem?_eq_some_iff.mp hj).1
        rw [hl9] at hj9
        have : j = (P ++ O).length := by omega
        subst this
        rw [List.getElem?_append_right (Nat.le_refl _), Nat.sub_self] at hj
        have : (w, r) = x := Option.some.inj hj
        rw [← this]
        exact zu_s _ _ _ _
  · have hm : (w, r) ∈ P ++ O := by
      have h1 : M 135 ((hCd (w, r) : Nat) : Int) = 1 := by
        rcases b1 with h | h
        · exact absurd (by rw [h]; decide) e
        · exact h
      obtain ⟨x, x1, x2⟩ := b3 h1
      rw [hCd_inj ⟨hw, hr⟩ (hb x x1) x2]
      exact x1
    refine hQ M hfr.rf ?_
    have eAk : fAk P O (w, r) = O := by unfold fAk; rw [if_pos hm]
    rw [eAk]
    exact hc
theorem h_unL (Γ : rt_Γ l s0 a0 G ca) (hd : 2 ≤ d) (hok : zok C) (hS : mSh S t) (hFA : kF A) (hw : w < 6 + A.ns.length) (h8 : (nN A.ns w).kd = 8) (hl : A.ns.length ≤ 128) (hr : r < 134) {w0 : rt_Wd} : ∀ (l9 : List SP) (h : Int) (O : List (Nat × Nat)) (M : zM), (∀ q ∈ l9, q ∈ (nN A.ns w).ps) → rCh M t xs 8 l9 h → qS M P O → (∀ M1 : zM, hfr M M1 → qS M1 P (fAks P O (fUn r l9)) → Q 1 M1) → zg_X11_may_23 l s0 G ca d C S w0 t r h M Q X := by
  obtain ⟨hs, ht, ht1⟩ := id hS
  intro l9
  induction l9 with
  | nil =>
    intro h O M hall hch hc hQ
    have hh : h = -1 := hch
    subst hh
    refine zs_X11_may_23 Γ (by omega) hok hs ?_
    unfold zt_X11_may_23
    exact zIf_t (by decide) (hQ M hfr.rf hc)
  | cons z l9 ih =>
    intro h O M hall hch hc hQ
    obtain ⟨rfl, e2, e3, e4⟩ := hch
    obtain ⟨i2, i3⟩ := r_sPn hFA hw (by omega) (hall z List.mem_cons_self) e3
    refine zs_X11_may_23 Γ (by omega) hok hs ?_
    unfold zt_X11_may_23
    rw [w32_id (x := (z.kn : Int)) (by omega) (by omega), i2]
    refine zIf_f (by omega) ⟨ht, ⟨by omega, by omega⟩, ?_⟩
    refine h_ask Γ hok hs hc (by omega) hr (fun M1 f1 h1 => ?_)
    have e18 : M1 (t + 18) (z.kn : Int) = M (t + 18) (z.kn : Int) := f1 _ _ (by omega) (by omega) (by omega)
    rw [e18]
    exact ih _ _ M1 (fun q hq => hall q (List.mem_cons_of_mem _ hq)) (e4.h f1 ht1) h1 (fun M2 f2 h2 => hQ M2 (f1.tr f2) h2)
theorem h_sgL (Γ : rt_Γ l s0 a0 G ca) (hd : 4 ≤ d) (hok : zok C) (hSt : mSh S t) (hSo : mSh S o) (hU : uM M t o xs ys A B) (hFB : kF B) (hPB : kPs B) (hr : r < 6 + B.ns.length) (hkr : (nN B.ns r).kd = 10) {fin : Bool} {w0 : rt_Wd}
    (kQ : Q (b01 (decide (0 ≤ (nN B.ns r).dt) || fin)) M) : ∀ (l9 : List SP) (h : Int) (g : Bool), rCh M t xs 10 l9 h → (g && fSg (nN B.ns r).ps l9) = fin → zg_X11_may_256 l s0 G ca d C S w0 t o r (b01 g) h M Q X := by
  obtain ⟨hs, ht, ht1⟩ := id hSt
  obtain ⟨-, hto, ho1⟩ := id hSo
  have hlb := hU.2.2.2.len
  intro l9
  induction l9 with
  | nil =>
    intro h g hch hg
    have hh : h = -1 := hch
    subst hh
    refine zs_X11_may_256 Γ (by omega) hok hs ?_
    unfold zt_X11_may_256
    obtain ⟨i2, e2, hi2⟩ := nN_some (ns := B.ns) (s := r) (nN_ge (ns := B.ns) (by omega)) hr
    have hrN := hU.2.2.2.2.2.1 i2 _ hi2
    have hkf := (hFB i2 _ hi2).2.2.2.2.2 (by omega)
    have hpl := hPB r hr (by omega)
    rw [← e2] at hrN
    rw [show fSg (nN B.ns r).ps [] = true from rfl, Bool.and_true] at hg
    refine zIf_t (by decide) ⟨hto, ⟨by omega, by omega⟩, ?_⟩
    rw [hrN.2.2.2.2.2.2 (by omega), w32_id (x := (nN B.ns r).dt) (by omega) (by omega)]
    subst hg
    refine ⟨fun c => ?_, fun c => ?_⟩
    · rw [decide_eq_true c] at kQ
      exact kQ
    · rw [decide_eq_false c] at kQ
      cases g with
      | true => exact zIf_f (by decide) kQ
      | false => exact zIf_t (by decide) kQ
  | cons z l9 ih =>
    intro h g hch hg
    obtain ⟨rfl, e2, e3, e4⟩ := hch
    refine zs_X11_may_256 Γ (by omega) hok hs ?_
    unfold zt_X11_may_256 zt_X11_may_287 zt_X11_may_288
    rw [w32_id (x := (z.kn : Int)) (by omega) (by omega)]
    refine zIf_f (by omega) ?_
    cases g with
    | false => exact zIf_t (by decide) ⟨ht, ⟨by omega, by omega⟩, ih _ false e4 (by rw [← hg]; rfl)⟩
    | true =>
      refine zIf_f (by decide) ⟨ht, ⟨by omega, by omega⟩, hto, ?_⟩
      obtain ⟨v, y1, y2, y3, y4⟩ := e3.2.1 (Or.inl rfl)
      rw [y1]
      refine n_sy Γ (by omega) hok ht hto hU.1 hU.2.2.1 hU.2.2.2 hFB y2 y3 hr hkr ?_
      rw [y4]
      unfold fSg at hg
      cases hsp : sPrt (nN B.ns r).ps z.nm with
      | none =>
        rw [hsp] at hg
        exact zIf_t (show w32 (oI none) < 0 by decide) ⟨ht, ⟨by omega, by omega⟩, ih _ false e4 (by rw [← hg]; rfl)⟩
      | some k =>
        rw [hsp] at hg
        have hkl : k < (nN B.ns r).ps.length := by have := sPrtL_lt _ _ _ _ hsp; omega
        have hl2 := hPB r hr (by omega)
        have n1 : ¬ (k : Int) < 0 := by omega
        have n2 : 0 ≤ (z.kn : Int) ∧ (z.kn : Int) < 2200 := ⟨by omega, by omega⟩
        exact zIf_f (by rw [oI_w (by omega)]; exact n1) ⟨ht, n2, ih _ true e4 hg⟩
end JBA
