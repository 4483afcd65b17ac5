/-! ===== the reference's fits: all pairs ===== -/
section JBC
variable {l : Launch} {s0 : State} {a0 : Array Value} {G : va_G} {ca : Nat → ClassId} {d : Nat} {C : Nat × Nat} {S : zS} {t o : Int} {M M0 : zM} {Q : Int → zM → Prop} {X : zM → Prop} {rA rB : Nat} {A B : SS} {xs ys : List JR} {dB : SP → Option (List Nat)}
theorem h_allL (Γ : rt_Γ l s0 a0 G ca) (hd : 162 ≤ d) (hok : zok C) (hH : uH S t o ys A B dB) (hlA : A.ns.length ≤ 128) (hlB : B.ns.length ≤ 128) {x0 : Nat × Nat} (kY : fFt A.ns B.ns dB x0 → ∀ M1 : zM, hfr M0 M1 → Q 1 M1) (kN : ¬ fFt A.ns B.ns dB x0 → ∀ M1 : zM, hfr M0 M1 → Q 0 M1) {w0 : rt_Wd} : ∀ (c : Nat) (P O : List (Nat × Nat)) (M : zM), 17957 ≤ P.length + c → qS M P O → fIv A.ns B.ns dB x0 P O → (∀ x ∈ P ++ O, x.1 < 6 + A.ns.length ∧ x.2 < 6 + B.ns.length) → uM M t o xs ys A B → hfr M0 M → zg_X11_fitsAll_44 l s0 G ca d C S w0 t o 1 P.length M Q X := by
  obtain ⟨hS, hSo, hFA, hFB, hHA, hHB, hOA, hOB, hIA, hVA, hVB, hPA, hPB, hD⟩ := id hH
  obtain ⟨hs, ht, ht1⟩ := id hS
  obtain ⟨-, hto, ho1⟩ := id hSo
  intro c
  induction c with
  | zero =>
    intro P O M hP hc hI hin hU hf
    have hlen := nd_pairs hc.2.1 hc.2.2
    rw [List.length_append] at hlen
    omega
  | succ c ih =>
    intro P O M hP hc hI hin hU hf
    have hlen := nd_pairs hc.2.1 hc.2.2
    refine zs_X11_fitsAll_44 Γ (by omega) hok hs ?_
    unfold zt_X11_fitsAll_44
    rw [hc.1.2.2.1]
    rw [w32_id (x := (((P ++ O).length : Nat) : Int)) (by omega) (by omega)]
    rw [List.length_append] at hlen ⊢
    rw [w32_id (x := (P.length : Int)) (by omega) (by omega)]
    cases O with
    | nil => exact zIf_t (by rw [List.length_nil]; omega) ⟨Or.inr rfl, kY hI.end M hf⟩
    | cons x O1 =>
      rw [List.length_cons] at hlen ⊢
      refine zIf_f (by omega) (zIf_f (by decide) ⟨⟨by omega, by omega⟩, ?_⟩)
      have e9 : (P ++ [x]) ++ O1 = P ++ (x :: O1) := List.append_assoc P [x] O1
      have hxm : x ∈ P ++ (x :: O1) := List.mem_append.mpr (Or.inr List.mem_cons_self)
      have hxb := hc.2.2 x hxm
      have hxi := hin x hxm
      have hcd := hCd_lt hxb
      have e130 : M 136 (P.length : Int) = ((hCd x : Nat) : Int) := hc.1.2.2.2 _ x (by rw [List.getElem?_append_right (Nat.le_refl _), Nat.sub_self]; rfl)
      have ed : hCd x / 140 = x.1 := by unfold hCd; omega
      have er : hCd x % 140 = x.2 := by unfold hCd; omega
      rw [e130, show (140 : Int) = ((140 : Nat) : Int) from rfl, zdiv_n (by omega) (by decide), zrem_n (by omega) (by decide), ed, er]
      have hc1 : qS M (P ++ [x]) O1 := by
        unfold qS hC
        rw [e9]
        exact hc
      have eL : (P.length : Int) + 1 = (((P ++ [x]).length : Nat) : Int) := by rw [List.length_append, List.length_singleton]; omega
      refine h_may Γ (by omega) hok hH hU hlA hlB hxi.1 hxi.2 hc1 (fun M1 f1 h1 => ?_)
      have hf1 : hfr M0 M1 := hf.tr f1
      cases hg : fGd A.ns B.ns dB x.1 x.2 with
      | true =>
        show zg_X11_fitsAll_44 l s0 G ca d C S w0 t o 1 ((P.length : Int) + 1) M1 Q X
        rw [eL]
        refine ih (P ++ [x]) _ M1 (by rw [List.length_append, List.length_singleton]; omega) h1 (hI.step (fun y => by rw [e9]) (by rw [e9]; exact hc.2.1) hg) (fun y hy => ?_) (hU.h f1 ht1 ho1) hf1
        rcases fAks_mem.mp hy with e | e
        · rw [e9] at e
          exact hin y e
        · exact fAs_in hFA hFB hxi.1 hxi.2 e
      | false =>
        show zg_X11_fitsAll_44 l s0 G ca d C S w0 t o 0 ((P.length : Int) + 1) M1 Q X
        have h0 := kN (hI.bad hxm hg) M1 hf1
        refine zs_X11_fitsAll_44 Γ (by omega) hok hs ?_
        unfold zt_X11_fitsAll_44
        exact ⟨fun _ => ⟨Or.inl rfl, h0⟩, fun _ => zIf_t (by decide) ⟨Or.inl rfl, h0⟩⟩
theorem h_clrL (Γ : rt_Γ l s0 a0 G ca) (hd : 1 ≤ d) (hok : zok C) (hs : zSok S) {w0 : rt_Wd} (k : ∀ M1 : zM, hfr M0 M1 → (∀ i : Nat, i < 19600 → M1 135 (i : Int) = 0) → zt_X11_fitsAll_2 l s0 G ca d C S w0 t o 19600 M1 Q X) : ∀ (c j : Nat) (M : zM), j + c = 19600 → hfr M0 M → (∀ i : Nat, i < j → M 135 (i : Int) = 0) → zg_X11_fitsAll_2 l s0 G ca d C S w0 t o j M Q X := by
  intro c
  induction c with
  | zero =>
    intro j M hj hf h
    have : j = 19600 := by omega
    subst this
    exact zs_X11_fitsAll_2 Γ hd hok hs (k M hf h)
  | succ c ih =>
    intro j M hj hf h
    refine zs_X11_fitsAll_2 Γ hd hok hs ?_
    unfold zt_X11_fitsAll_2
    rw [w32_id (x := (j : Int)) (by omega) (by omega)]
    refine zIf_f (by omega) ⟨⟨by omega, by omega⟩, ?_⟩
    rw [show (j : Int) + 1 = ((j + 1 : Nat) : Int) by omega]
    refine ih (j + 1) _ (by omega) (fun c k n1 n2 n3 => (zu_a n2).trans (hf c k n1 n2 n3)) (fun i hi => ?_)
    by_cases c1 : i = j
    · subst c1
      exact zu_s _ _ _ _
    · rw [zu_k (by omega)]
      exact h i (by omega)
theorem h_fits (Γ : rt_Γ l s0 a0 G ca) (hd : 162 ≤ d) (hok : zok C) (hH : uH S t o ys A B dB) (hU : uM M t o xs ys A B) (hlA : A.ns.length ≤ 128) (hlB : B.ns.length ≤ 128) (hrA : M t 31 = (rA : Int)) (hrB : M o 31 = (rB : Int)) (hA : rA < 6 + A.ns.length) (hB : rB < 6 + B.ns.length)
    (kY : fFt A.ns B.ns dB (rA, rB) → ∀ M1 : zM, hfr M M1 → Q 1 M1) (kN : ¬ fFt A.ns B.ns dB (rA, rB) → ∀ M1 : zM, hfr M M1 → Q 0 M1) : zm_X11_fitsAll l s0 G ca d C S t o M Q X := by
  obtain ⟨hS, hSo, hFA, hFB, hHA, hHB, hOA, hOB, hIA, hVA, hVB, hPA, hPB, hD⟩ := id hH
  obtain ⟨hs, ht, ht1⟩ := id hS
  obtain ⟨-, hto, ho1⟩ := id hSo
  refine z_X11_fitsAll Γ (by omega) hok hs ?_
  unfold zt_X11_fitsAll
  refine h_clrL (M0 := M) Γ (by omega) hok hs (fun M1 f1 h1 => ?_) 19600 0 M (Nat.zero_add _) hfr.rf (fun i hi => absurd hi (Nat.not_lt_zero _))
  unfold zt_X11_fitsAll_2
  refine zIf_t (by decide) ⟨ht, hto, ?_⟩
  rw [f1 t 31 (by omega) (by omega) (by omega), f1 o 31 (by omega) (by omega) (by omega), hrA, hrB]
  have f2 : hfr M (zu M1 84 23 0) := fun c k n1 n2 n3 => (zu_ne n1).trans (f1 c k n1 n2 n3)
  have h0 : qS (zu M1 84 23 0) [] [] := ⟨⟨(fun x hx => (nomatch hx)), (fun c hc => by
    rw [zu_a (by decide), h1 c hc]
    exact ⟨Or.inl rfl, fun h => absurd h (by decide)⟩), zu_s _ _ _ _, (fun j x hj => (nomatch hj))⟩, List.nodup_nil, (fun x hx => (nomatch hx))⟩
  refine h_ask Γ hok hs h0 (by omega) (by omega) (fun M2 f3 h2 => ?_)
  have e1 : fAk [] [] (rA, rB) = [(rA, rB)] := rfl
  rw [e1] at h2
  exact h_allL (M0 := M) Γ hd hok hH hlA hlB kY kN 17957 [] [(rA, rB)] M2 (Nat.le_add_left _ _) h2 fIv.start (fun x hx => by
    have : x = (rA, rB) := List.mem_singleton.mp hx
    subst this
    exact ⟨hA, hB⟩) (hU.h (f2.tr f3) ht1 ho1) (f2.tr f3)
end JBC
