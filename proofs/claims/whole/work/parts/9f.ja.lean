/-! ===== which schema matches which: its spec; the class's matchPlainly and match ===== -/
def tSix (x y : Nat) : Bool := decide (x = y ∨ (x = 2 ∧ y = 3) ∨ ((x = 4 ∨ x = 5) ∧ (y = 4 ∨ y = 5)))
def tNm (n : SN) : List Int32 := match n.nm with
  | none => []
  | some q => q.1
/-- two nodes that are no unions, arrays or maps -/
def tPln (A B : List SN) (w r : Nat) : Bool :=
  if (nN A w).kd < 6 then tSix (nN A w).kd (nN B r).kd
  else decide ((nN A w).kd = (nN B r).kd) && (decide ((nN A w).kd = 9 ∨ (nN A w).kd = 10 ∨ (nN A w).kd = 11) && (decide (tNm (nN A w) = tNm (nN B r)) && decide ((nN A w).kd = 9 → (nN A w).dt = (nN B r).dt)))
def tMat (A B : List SN) : Nat → Nat → Nat → Bool
  | 0, _, _ => false
  | m + 1, w, r => if (nN A w).kd = 8 ∨ (nN B r).kd = 8 then true else if ((nN A w).kd = 6 ∨ (nN A w).kd = 7) ∧ (nN B r).kd = (nN A w).kd then tMat A B m (sKid0 A w) (sKid0 B r) else tPln A B w r
def b01 (b : Bool) : Int := if b = true then 1 else 0
theorem b01_b (b : Bool) : b01 b = 0 ∨ b01 b = 1 := by cases b <;> decide
theorem g_nmw {M : zM} {p : Int} {NU : Nat} {st : SS} (h : gC M p NU st) (hH : kHn st) {s : Nat} (hs : s < 6 + st.ns.length) (hk : (nN st.ns s).kd = 9 ∨ (nN st.ns s).kd = 10 ∨ (nN st.ns s).kd = 11) : wd (M (p + 22)) NU (zat M (p + 4) 134 (s : Int)) (tNm (nN st.ns s)) := by
  have hl := h.2.2.1
  obtain ⟨i, rfl, hi⟩ := nN_some (ns := st.ns) (s := s) (nN_ge (ns := st.ns) (by omega)) hs
  rw [zat_in (by omega) (by omega) (by decide)]
  generalize nN st.ns (6 + i) = n at hk hi
  have h1 := hH i n hi hk
  obtain ⟨-, -, h3, -⟩ := h.2.1 i n hi
  unfold tNm
  cases hn : n.nm with
  | none => exact absurd hn h1
  | some q =>
    obtain ⟨ws, v⟩ := q
    exact h3 ws v hn
section JA
variable {l : Launch} {s0 : State} {a0 : Array Value} {G : va_G} {ca : Nat → ClassId} {d : Nat} {C : Nat × Nat} {S : zS} {p q : Int} {M : zM} {Q : Int → zM → Prop} {X : zM → Prop} {NU NV : Nat} {A B : SS} {w r : Nat}
theorem c_pln (Γ : rt_Γ l s0 a0 G ca) (hd : 3 ≤ d) (hok : zok C) (hp : zSc S p) (hq : zSc S q) (hGA : gC M p NU A) (hGB : gC M q NV B) (hFA : kF A) (hFB : kF B) (hHA : kHn A) (hHB : kHn B) (hOA : kOk A) (hOB : kOk B) (hw : w < 6 + A.ns.length) (hr : r < 6 + B.ns.length) (hQ : Q (b01 (tPln A.ns B.ns w r)) M) : zm_X6_matchPlainly l s0 G ca d C S p w q r M Q X := by
  refine z_X6_matchPlainly Γ (by omega) hok ?_
  unfold zt_X6_matchPlainly
  have hka := hOA.kd hw
  have hkb := hOB.kd hr
  have eA := g_kd hGA hw
  have eB := g_kd hGB hr
  rw [eA, eB, w32_id (x := ((nN A.ns w).kd : Int)) (by clear eA eB; omega) (by clear eA eB; omega), w32_id (x := ((nN B.ns r).kd : Int)) (by clear eA eB; omega) (by clear eA eB; omega)]
  clear eA eB
  refine ⟨hp, hq, ?_⟩
  unfold tPln at hQ
  refine ⟨fun c6 => ?_, fun c6 => ?_⟩
  · rw [if_neg (by omega)] at hQ
    refine ⟨fun ce => ?_, fun ce => ?_⟩
    · have ee : (nN A.ns w).kd = (nN B.ns r).kd := by omega
      rw [decide_eq_true ee, Bool.true_and] at hQ
      by_cases k : (nN A.ns w).kd = 9 ∨ (nN A.ns w).kd = 10 ∨ (nN A.ns w).kd = 11
      · rw [decide_eq_true k, Bool.true_and] at hQ
        have body : zt_X6_matchPlainly_106 l s0 G ca d C S (zw s0 ca C S M) p w q r ((nN A.ns w).kd : Int) M Q X := by
          unfold zt_X6_matchPlainly_106
          refine ⟨hp, hq, ?_⟩
          have hwA := g_nmw hGA hHA hw k
          have hwB := g_nmw hGB hHB hr (by omega)
          refine c_isw Γ hok hp.2.2.2.2.2.2.2.2.2.2.2.2.1 (by decide) hq.2.2.2.2.2.2.2.2.2.2.2.2.1 (by decide) hwA hGA.2.2.2.2.1 hwB hGB.2.2.2.2.1 ?_
          by_cases cn : tNm (nN A.ns w) = tNm (nN B.ns r)
          · rw [if_pos cn]
            rw [decide_eq_true cn, Bool.true_and] at hQ
            refine zIf_f (by decide) ⟨fun c9 => ?_, fun c9 => ?_⟩
            · have h9 : (nN A.ns w).kd = 9 := by rw [w32_id (by omega) (by omega)] at c9; omega
              obtain ⟨d1, d2, d3⟩ := g_dt hGA hFA hw h9
              obtain ⟨e1, e2, e3⟩ := g_dt hGB hFB hr (by omega)
              rw [d1, e1, w32_id (by omega) (by omega), w32_id (by omega) (by omega)]
              refine ⟨fun c => ?_, fun c => ?_⟩
              · rw [decide_eq_true (fun _ => c)] at hQ
                exact hQ
              · rw [decide_eq_false (fun h => c (h h9))] at hQ
                exact hQ
            · have h9 : ¬ (nN A.ns w).kd = 9 := fun h => c9 (by rw [h]; decide)
              rw [decide_eq_true (fun h => absurd h h9)] at hQ
              exact hQ
          · rw [if_neg cn]
            rw [decide_eq_false cn, Bool.false_and] at hQ
            exact zIf_t (by decide) hQ
        by_cases k9 : (nN A.ns w).kd = 9
        · exact zIf_t (by omega) body
        · by_cases k10 : (nN A.ns w).kd = 10
          · exact zIf_f (by omega) (zIf_t (by omega) body)
          · exact zIf_f (by omega) (zIf_f (by omega) (zIf_t (by omega) body))
      · rw [decide_eq_false k, Bool.false_and] at hQ
        exact zIf_f (by omega) (zIf_f (by omega) (zIf_f (by omega) hQ))
    · rw [decide_eq_false (show ¬ (nN A.ns w).kd = (nN B.ns r).kd by omega), Bool.false_and] at hQ
      exact hQ
  · rw [if_pos (by omega)] at hQ
    unfold tSix at hQ
    generalize (nN A.ns w).kd = x at *
    generalize (nN B.ns r).kd = y at *
    have t58 : ¬ x = y → ¬ (x = 2 ∧ y = 3) → ¬ (x = 4 ∧ y = 5) → zt_X6_matchPlainly_58 l s0 G ca d C S (zw s0 ca C S M) (x : Int) (y : Int) M Q X := fun n1 n2 n3 => by
      unfold zt_X6_matchPlainly_58
      rw [w32_id (by omega) (by omega), w32_id (by omega) (by omega)]
      by_cases c : x = 5
      · refine zIf_t (by omega) ⟨fun c4 => ?_, fun c4 => ?_⟩
        · rw [decide_eq_true (by omega)] at hQ; exact hQ
        · rw [decide_eq_false (by omega)] at hQ; exact hQ
      · refine zIf_f (by omega) ?_
        rw [decide_eq_false (by omega)] at hQ; exact hQ
    have t46 : ¬ x = y → ¬ (x = 2 ∧ y = 3) → zt_X6_matchPlainly_46 l s0 G ca d C S (zw s0 ca C S M) (x : Int) (y : Int) M Q X := fun n1 n2 => by
      unfold zt_X6_matchPlainly_46
      rw [w32_id (by omega) (by omega), w32_id (by omega) (by omega)]
      by_cases c : x = 4
      · refine zIf_t (by omega) ⟨fun c4 => ?_, fun c4 => t58 n1 n2 (by omega)⟩
        rw [decide_eq_true (by omega)] at hQ; exact hQ
      · exact zIf_f (by omega) (t58 n1 n2 (by omega))
    refine ⟨fun c => ?_, fun c => ?_⟩
    · rw [decide_eq_true (by omega)] at hQ; exact hQ
    · by_cases c2 : x = 2
      · refine zIf_t (by omega) ⟨fun c3 => ?_, fun c3 => t46 (by omega) (by omega)⟩
        rw [decide_eq_true (by omega)] at hQ; exact hQ
      · exact zIf_f (by omega) (t46 (by omega) (by omega))
/-- two schemas, the depth of arrays in arrays bounded by the turns -/
theorem c_matL (Γ : rt_Γ l s0 a0 G ca) (hd : 4 ≤ d) (hok : zok C) (hp : zSc S p) (hq : zSc S q) (hGA : gC M p NU A) (hGB : gC M q NV B) (hFA : kF A) (hFB : kF B) (hHA : kHn A) (hHB : kHn B) (hOA : kOk A) (hOB : kOk B) {w0 : rt_Wd} : ∀ (m k w r : Nat), k + m = 134 → w < 6 + A.ns.length → r < 6 + B.ns.length → Q (b01 (tMat A.ns B.ns m w r)) M → zg_X6_match_9 l s0 G ca d C S w0 p q w r k M Q X := by
  intro m
  induction m with
  | zero =>
    intro k w r hk hw hr hQ
    refine zs_X6_match_9 Γ (by omega) hok ?_
    unfold zt_X6_match_9
    rw [w32_id (by omega) (by omega)]
    exact zIf_t (by omega) hQ
  | succ m ih =>
    intro k w r hk hw hr hQ
    have hka := hOA.kd hw
    have hkb := hOB.kd hr
    refine zs_X6_match_9 Γ (by omega) hok ?_
    unfold zt_X6_match_9
    unfold tMat at hQ
    rw [w32_id (x := (k : Int)) (by omega) (by omega), g_kd hGA hw, g_kd hGB hr, w32_id (x := ((nN A.ns w).kd : Int)) (by omega) (by omega), w32_id (x := ((nN B.ns r).kd : Int)) (by omega) (by omega)]
    refine zIf_f (by omega) ⟨hp, ?_⟩
    by_cases k8 : (nN A.ns w).kd = 8
    · rw [if_pos (Or.inl k8)] at hQ
      exact zIf_t (by omega) hQ
    refine zIf_f (by omega) ⟨hq, ?_⟩
    by_cases k8b : (nN B.ns r).kd = 8
    · rw [if_pos (Or.inr k8b)] at hQ
      exact zIf_t (by omega) hQ
    rw [if_neg (by omega)] at hQ
    refine zIf_f (by omega) ?_
    have plain : (¬ (((nN A.ns w).kd = 6 ∨ (nN A.ns w).kd = 7) ∧ (nN B.ns r).kd = (nN A.ns w).kd)) → zm_X6_matchPlainly l s0 G ca (d - 1) C S p w q r M (fun r76 M76 => (r76 = 0 ∨ r76 = 1) ∧ Q r76 M76) X := fun hn => by
      rw [if_neg hn] at hQ
      exact c_pln Γ (by omega) hok hp hq hGA hGB hFA hFB hHA hHB hOA hOB hw hr ⟨b01_b _, hQ⟩
    have t59 : ((nN A.ns w).kd = 6 ∨ (nN A.ns w).kd = 7) → zt_X6_match_59 l s0 G ca d C S w0 p q w r k ((nN A.ns w).kd : Int) M Q X := fun h67 => by
      unfold zt_X6_match_59
      rw [g_kd hGB hr, w32_id (x := ((nN A.ns w).kd : Int)) (by omega) (by omega), w32_id (x := ((nN B.ns r).kd : Int)) (by omega) (by omega)]
      refine ⟨hq, fun ce => ⟨hp, ?_⟩, fun ce => plain (fun h => ce (by omega))⟩
      rw [if_pos ⟨h67, by omega⟩] at hQ
      obtain ⟨i1, i2⟩ := g_itm hGA hFA hw h67
      obtain ⟨j1, j2⟩ := g_itm hGB hFB hr (by omega)
      rw [i1, j1, show (k : Int) + 1 = ((k + 1 : Nat) : Int) by clear i1 j1; omega]
      exact ih (k + 1) _ _ (by clear i1 j1; omega) i2 j2 hQ
    by_cases k6 : (nN A.ns w).kd = 6
    · exact zIf_t (by omega) (t59 (Or.inl k6))
    · by_cases k7 : (nN A.ns w).kd = 7
      · exact zIf_f (by omega) (zIf_t (by omega) (t59 (Or.inr k7)))
      · exact zIf_f (by omega) (zIf_f (by omega) (plain (by omega)))
theorem c_mat (Γ : rt_Γ l s0 a0 G ca) (hd : 5 ≤ d) (hok : zok C) (hp : zSc S p) (hq : zSc S q) (hGA : gC M p NU A) (hGB : gC M q NV B) (hFA : kF A) (hFB : kF B) (hHA : kHn A) (hHB : kHn B) (hOA : kOk A) (hOB : kOk B) (hw : w < 6 + A.ns.length) (hr : r < 6 + B.ns.length) (hQ : Q (b01 (tMat A.ns B.ns 134 w r)) M) : zm_X6_match l s0 G ca d C S p w q r M Q X := by
  refine z_X6_match Γ (by omega) hok ?_
  unfold zt_X6_match
  exact c_matL Γ (by omega) hok hp hq hGA hGB hFA hFB hHA hHB hOA hOB 134 0 w r rfl hw hr hQ
end JA
