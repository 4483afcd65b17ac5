/-! ===== the reference's matches ===== -/
theorem r_nmw {M : zM} {t : Int} {xs : List JR} {st : SS} (hC : rC M t xs st) (hH : kHn st) {s : Nat} (hs : s < 6 + st.ns.length) (hk : (nN st.ns s).kd = 9 ∨ (nN st.ns s).kd = 10 ∨ (nN st.ns s).kd = 11) : ∃ v : Nat, M (t + 10) s = (rP xs v : Nat) ∧ v < xs.length ∧ (xx xs v).kd = 3 ∧ (xx xs v).ws = tNm (nN st.ns s) := by
  obtain ⟨i, rfl, hi⟩ := nN_some (ns := st.ns) (s := s) (nN_ge (ns := st.ns) (by omega)) hs
  generalize nN st.ns (6 + i) = n at hk hi
  have h1 := hH i n hi hk
  obtain ⟨-, -, h3, -⟩ := hC.2.2.1 i n hi
  unfold tNm
  cases hn : n.nm with
  | none => exact absurd hn h1
  | some q =>
    obtain ⟨ws, v⟩ := q
    exact ⟨v, h3 ws v hn⟩
theorem kI.kid {st : SS} (h : kI st) (hF : kF st) {s : Nat} (hs : s < 6 + st.ns.length) (hk : (nN st.ns s).kd = 6 ∨ (nN st.ns s).kd = 7) (hk2 : (nN st.ns (sKid0 st.ns s)).kd = 6 ∨ (nN st.ns (sKid0 st.ns s)).kd = 7) : s < sKid0 st.ns s := by
  obtain ⟨i, rfl, hi⟩ := nN_some (ns := st.ns) (s := s) (nN_ge (ns := st.ns) (by omega)) hs
  obtain ⟨q, hq⟩ := (hF i _ hi).1 hk
  have hqm : q ∈ (nN st.ns (6 + i)).ps := by rw [hq]; exact List.mem_singleton.mpr rfl
  obtain ⟨k, k1, k2, -⟩ := (hF i _ hi).2.1 (by omega) q hqm
  have e : sKid0 st.ns (6 + i) = k := by
    unfold sKid0
    rw [hq]
    show sPn (some q) = k
    unfold sPn
    dsimp only
    rw [k1]
  rw [e] at hk2 ⊢
  rw [kK_len] at k2
  have k6 : 6 ≤ k := nN_ge (ns := st.ns) (by omega)
  obtain ⟨j, rfl, hj⟩ := nN_some (ns := st.ns) (s := k) k6 k2
  refine (h i _ hi hk q hqm _ k1).2 k6 ?_
  rw [show 6 + j - 6 = j by omega]
  unfold kK
  rw [List.getElem?_map, hj]
  rcases hk2 with e | e
  · exact Or.inl (congrArg some e)
  · exact Or.inr (congrArg some e)
section JC
variable {l : Launch} {s0 : State} {a0 : Array Value} {G : va_G} {ca : Nat → ClassId} {d : Nat} {C : Nat × Nat} {S : zS} {t o : Int} {M : zM} {Q : Int → zM → Prop} {X : zM → Prop} {xs ys : List JR} {A B : SS} {w r : Nat}
theorem m_sixOf (Γ : rt_Γ l s0 a0 G ca) (hok : zok C) (hs : zSok S) {k : Nat} (hk : k < 12) (hQ : Q (if k < 6 then 1 else 0) M) : zm_X11_sixOf l s0 G ca d C S k M Q X := by
  refine z_X11_sixOf Γ hok hs ?_
  unfold zt_X11_sixOf
  rw [w32_id (by omega) (by omega)]
  refine ⟨fun c => ?_, fun c => ?_⟩
  · rw [if_neg (by omega)] at hQ; exact hQ
  · rw [if_pos (by omega)] at hQ; exact hQ
theorem m_mSix (Γ : rt_Γ l s0 a0 G ca) (hok : zok C) (hs : zSok S) {x y : Nat} (hx : x < 12) (hy : y < 12) (hQ : Q (b01 (tSix x y)) M) : zm_X11_matchesSix l s0 G ca d C S x y M Q X := by
  refine z_X11_matchesSix Γ hok hs ?_
  unfold zt_X11_matchesSix
  unfold tSix at hQ
  rw [w32_id (x := (x : Int)) (by omega) (by omega), w32_id (x := (y : Int)) (by omega) (by omega)]
  have t25 : ¬ x = y → (x = 4 ∨ x = 5) → zt_X11_matchesSix_25 l s0 G ca d C S (zw s0 ca C S M) (y : Int) M Q X := fun n1 h45 => by
    unfold zt_X11_matchesSix_25
    rw [w32_id (by omega) (by omega)]
    refine ⟨fun c => ?_, fun c => ⟨fun c5 => ?_, fun c5 => ?_⟩⟩
    · rw [decide_eq_true (by omega)] at hQ; exact hQ
    · rw [decide_eq_true (by omega)] at hQ; exact hQ
    · rw [decide_eq_false (by omega)] at hQ; exact hQ
  have t15 : ¬ x = y → ¬ (x = 2 ∧ y = 3) → zt_X11_matchesSix_15 l s0 G ca d C S (zw s0 ca C S M) (x : Int) (y : Int) M Q X := fun n1 n2 => by
    unfold zt_X11_matchesSix_15
    rw [w32_id (by omega) (by omega)]
    by_cases c4 : x = 4
    · exact zIf_t (by omega) (t25 n1 (Or.inl c4))
    · by_cases c5 : x = 5
      · exact zIf_f (by omega) (zIf_t (by omega) (t25 n1 (Or.inr c5)))
      · refine zIf_f (by omega) (zIf_f (by omega) ?_)
        rw [decide_eq_false (by omega)] at hQ; exact hQ
  refine ⟨fun c => ?_, fun c => ?_⟩
  · rw [decide_eq_true (by omega)] at hQ; exact hQ
  · by_cases c2 : x = 2
    · refine zIf_t (by omega) ⟨fun c3 => ?_, fun c3 => t15 (by omega) (by omega)⟩
      rw [decide_eq_true (by omega)] at hQ; exact hQ
    · exact zIf_f (by omega) (t15 (by omega) (by omega))
theorem m_mat (Γ : rt_Γ l s0 a0 G ca) (hok : zok C) (hs : zSok S) (ht : zTx S t) (hto : zTx S o) (hTA : rTx M t xs) (hTB : rTx M o ys) (hCA : rC M t xs A) (hCB : rC M o ys B) (hFA : kF A) (hFB : kF B) (hHA : kHn A) (hHB : kHn B) (hOA : kOk A) (hOB : kOk B) (hIA : kI A) : ∀ (m d w r : Nat) (Q : Int → zM → Prop), m + 8 ≤ d → 1 ≤ m → ((nN A.ns w).kd = 6 ∨ (nN A.ns w).kd = 7 → 135 ≤ m + w) → w < 6 + A.ns.length → r < 6 + B.ns.length → Q (b01 (tMat A.ns B.ns m w r)) M → zm_X11_matches l s0 G ca d C S t w o r M Q X := by
  intro m
  induction m with
  | zero => intro d w r Q _ h; omega
  | succ m ih =>
    intro d w r Q hd _ hm hw hr hQ
    have hka := hOA.kd hw
    have hkb := hOB.kd hr
    have hla := hCA.len
    have hlb := hCB.len
    refine z_X11_matches Γ (by omega) hok hs ?_
    unfold zt_X11_matches
    unfold tMat at hQ
    rw [r_kd hCA hw, r_kd hCB hr, w32_id (x := ((nN A.ns w).kd : Int)) (by omega) (by omega), w32_id (x := ((nN B.ns r).kd : Int)) (by omega) (by omega)]
    refine ⟨ht, ⟨by omega, by omega⟩, hto, ⟨by omega, by omega⟩, ?_⟩
    by_cases k8 : (nN A.ns w).kd = 8
    · rw [if_pos (Or.inl k8)] at hQ
      exact zIf_t (by omega) hQ
    refine zIf_f (by omega) ?_
    by_cases k8b : (nN B.ns r).kd = 8
    · rw [if_pos (Or.inr k8b)] at hQ
      exact zIf_t (by omega) hQ
    refine zIf_f (by omega) ?_
    rw [if_neg (by omega)] at hQ
    have t48 : (nN A.ns w).kd < 6 ∨ (nN B.ns r).kd < 6 → zt_X11_matches_48 l s0 G ca d C S (zw s0 ca C S M) ((nN A.ns w).kd : Int) ((nN B.ns r).kd : Int) M Q X := fun h6 => by
      rw [if_neg (by omega)] at hQ
      unfold tPln at hQ
      unfold zt_X11_matches_48
      refine m_sixOf Γ hok hs hka ?_
      by_cases a6 : (nN A.ns w).kd < 6
      · rw [if_pos a6] at hQ ⊢
        refine zIf_f (by decide) (m_sixOf Γ hok hs hkb ?_)
        by_cases b6 : (nN B.ns r).kd < 6
        · rw [if_pos b6]
          refine zIf_f (by decide) (m_mSix Γ hok hs hka hkb ?_)
          cases hsx : tSix (nN A.ns w).kd (nN B.ns r).kd with
          | true => rw [hsx] at hQ; exact zIf_f (by decide) hQ
          | false => rw [hsx] at hQ; exact zIf_t (by decide) hQ
        · rw [if_neg b6]
          refine zIf_t (by decide) ?_
          unfold tSix at hQ
          rw [decide_eq_false (by omega)] at hQ
          exact hQ
      · rw [if_neg a6] at hQ ⊢
        refine zIf_t (by decide) ?_
        rw [decide_eq_false (show ¬ (nN A.ns w).kd = (nN B.ns r).kd by omega), Bool.false_and] at hQ
        exact hQ
    refine m_sixOf Γ hok hs hka ?_
    by_cases a6 : (nN A.ns w).kd < 6
    · rw [if_pos a6]
      exact zIf_f (by decide) (t48 (Or.inl a6))
    rw [if_neg a6]
    refine zIf_t (by decide) (m_sixOf Γ hok hs hkb ?_)
    by_cases b6 : (nN B.ns r).kd < 6
    · rw [if_pos b6]
      exact zIf_f (by decide) (t48 (Or.inr b6))
    rw [if_neg b6]
    refine zIf_t (by decide) ?_
    by_cases ee : (nN A.ns w).kd = (nN B.ns r).kd
    · refine zIf_t (by omega) ?_
      by_cases k67 : (nN A.ns w).kd = 6 ∨ (nN A.ns w).kd = 7
      · rw [if_pos ⟨k67, ee.symm⟩] at hQ
        have t103 : zt_X11_matches_103 l s0 G ca d C S (zw s0 ca C S M) t w o r M Q X := by
          obtain ⟨i1, i2, i3⟩ := r_item hCA hFA hw k67
          obtain ⟨j1, j2, j3⟩ := r_item hCB hFB hr (by omega)
          unfold zt_X11_matches_103
          refine ⟨ht, ⟨by omega, by omega⟩, i1, hto, ⟨by omega, by omega⟩, j1, ?_⟩
          rw [i2, j2]
          have h135 := hm k67
          refine ih (d - 1) _ _ _ (by omega) (by omega) (fun h2 => ?_) i3 j3 ⟨b01_b _, hQ⟩
          have := hIA.kid hFA hw k67 h2
          omega
        by_cases k6 : (nN A.ns w).kd = 6
        · exact zIf_t (by omega) t103
        · exact zIf_f (by omega) (zIf_t (by omega) t103)
      · rw [if_neg (fun h => k67 h.1)] at hQ
        refine zIf_f (by omega) (zIf_f (by omega) ?_)
        unfold tPln at hQ
        have k911 : (nN A.ns w).kd = 9 ∨ (nN A.ns w).kd = 10 ∨ (nN A.ns w).kd = 11 := by omega
        rw [if_neg a6, decide_eq_true ee, Bool.true_and, decide_eq_true k911, Bool.true_and] at hQ
        obtain ⟨v, v1, v2, v3, v4⟩ := r_nmw hCA hHA hw k911
        obtain ⟨u, u1, u2, u3, u4⟩ := r_nmw hCB hHB hr (by omega)
        obtain ⟨L, g1, g2, g3⟩ := r_str hTA v2 v3
        obtain ⟨L2, f1, f2, f3⟩ := r_str hTB u2 u3
        rw [v1, u1]
        have h9w : (nN A.ns w).kd = 9 → M (t + 11) w = (nN A.ns w).dt ∧ M (o + 11) r = (nN B.ns r).dt ∧ w32 (nN A.ns w).dt = (nN A.ns w).dt ∧ w32 (nN B.ns r).dt = (nN B.ns r).dt := fun h9 => by
          obtain ⟨d1, d2, d3⟩ := (r_node hCA hFA hw (by omega)).2.2 h9
          obtain ⟨e1, e2, e3⟩ := (r_node hCB hFB hr (by omega)).2.2 (by omega)
          exact ⟨d1, e1, w32_id (by omega) (by omega), w32_id (by omega) (by omega)⟩
        refine q_same Γ hok ht hto (by omega) (by omega) (by omega) (by omega) g1 f1 (by omega) (by omega) (fun e => ?_) (fun e => ?_)
        · rw [v4, u4] at e
          rw [decide_eq_true e, Bool.true_and] at hQ
          refine zIf_f (by decide) ⟨fun c9 => ?_, fun c9 => ?_⟩
          · have h9 : (nN A.ns w).kd = 9 := by omega
            obtain ⟨z1, z2, z3, z4⟩ := h9w h9
            rw [z1, z2, z3, z4]
            refine ⟨fun c => ?_, fun c => ?_⟩
            · rw [decide_eq_true (fun _ => c)] at hQ; exact hQ
            · rw [decide_eq_false (fun h => c (h h9))] at hQ; exact hQ
          · rw [decide_eq_true (fun h => absurd h (show ¬ (nN A.ns w).kd = 9 by omega))] at hQ
            exact hQ
        · rw [v4, u4] at e
          rw [decide_eq_false e, Bool.false_and] at hQ
          exact zIf_t (by decide) hQ
    · refine zIf_f (by omega) ?_
      rw [if_neg (fun h => ee h.2.symm)] at hQ
      unfold tPln at hQ
      rw [if_neg a6, decide_eq_false ee, Bool.false_and] at hQ
      exact hQ
end JC
