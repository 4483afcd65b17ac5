/-! ===== the Drafter's smaller looks ===== -/
def cE (p : Int) (M : zM) (Q : Int → zM → Prop) (e : Nat × Nat) : Prop := ∀ (x : Int) (M1 : zM), sF M1 e → dfr p M M1 → Q x M1
def cO (p : Int) (M : zM) (Q : Int → zM → Prop) (NU W U : Nat) (st st1 : SS) (n : Nat) : Prop := ∀ (M1 : zM) (NU1 : Nat), sC M1 p NU1 st1 → NU1 ≤ NU + W → nTot st1.ns ≤ nTot st.ns + U → dfr p M M1 → Q n M1
theorem sF_ne {M : zM} {e : Nat × Nat} (h : sF M e) : ¬ w32 (M 24 6) = 0 := by
  obtain ⟨h1, -, h3, h4⟩ := h
  rw [h1, w32_id (by omega) (by omega)]
  omega
theorem oI_none {o : Option Nat} (h : ∀ n : Nat, o = some n → n < 2147483648) : w32 (oI o) = -1 ↔ o = none := by
  cases o with
  | none => exact ⟨fun _ => rfl, fun _ => by decide⟩
  | some n =>
    have := h n rfl
    have e : w32 (oI (some n)) = (n : Int) := w32_id (x := (n : Int)) (by omega) (by omega)
    rw [e]
    exact ⟨fun c => by omega, fun c => nomatch c⟩
theorem oI_w {n : Nat} (h : n < 2147483648) : w32 (oI (some n)) = (n : Int) := w32_id (x := (n : Int)) (by omega) (by omega)
theorem nmF.dfr {M M1 : zM} {p : Int} {NU : Nat} {ws : List Int32} (h : nmF M M1 p NU ws) (hp : 30 ≤ p) : dfr p M M1 := fun a ha => funext fun j => h.2.2 a j (by omega) (by omega)
section SHs
variable {l : Launch} {s0 : State} {a0 : Array Value} {G : va_G} {ca : Nat → ClassId} {d : Nat} {C : Nat × Nat} {S : zS} {M : zM} {Q : Int → zM → Prop} {X : zM → Prop} {xs : List JR} {v : Nat} {p : Int} {NU : Nat} {st : SS}
theorem c_iss (hT : cTx M xs) {n : Nat} (hn : n < xs.length) : w32 (zf_X8_isString M (oI (some n))) = 0 ↔ ¬ (xx xs n).kd = 3 := by
  have hl := hT.2.2
  have hr := cRec_at hT hn
  have hk := (jWf_at hT.2.1 hn).1
  unfold zf_X8_isString
  rw [oI_w (by omega), if_neg (by omega)]
  show w32 (if w32 (zat M 8 2073 (n : Int)) = 3 then 1 else 0) = 0 ↔ _
  rw [c_zat (by omega), hr.1, w32_id (x := ((xx xs n).kd : Int)) (by omega) (by omega)]
  by_cases c : (xx xs n).kd = 3
  · rw [if_pos (show ((xx xs n).kd : Int) = 3 by omega)]
    exact ⟨fun h => absurd h (by decide), fun h => absurd c h⟩
  · rw [if_neg (show ¬ ((xx xs n).kd : Int) = 3 by omega)]
    exact ⟨fun _ => c, fun _ => by decide⟩
theorem c_iss0 : w32 (zf_X8_isString M (oI none)) = 0 := by
  unfold zf_X8_isString
  rw [if_pos (show w32 (oI none) = -1 by decide)]
  decide
theorem sCom_lt {w : List Int32} {n : Nat} (h : sCom w = some n) : n < 12 ∧ (n = 6 ∨ n = 7 ∨ n = 9 ∨ n = 10 ∨ n = 11) := by
  unfold sCom at h
  repeat' split at h
  all_goals first | (cases h; decide) | exact nomatch h
theorem c_dfn (Γ : rt_Γ l s0 a0 G ca) (hd : 10 ≤ d) (hok : zok C) (hS : sSh S p) (hT : cTx M xs) (hv : v < xs.length) (hk : (xx xs v).kd = 1) (hC : sC M p NU st) (hlt : st.ns.length < st.lk) {kd : Nat} (hr : NU + wS xs v (xx xs v).sz ≤ 4096)
    (kE : ∀ e : Nat × Nat, sDfn xs st v kd = .error e → cE p M Q e)
    (kO : ∀ n : Nat, xMem xs v (iw [110, 97, 109, 101]) = some n → (xx xs n).kd = 3 → sDfn xs st v kd = .ok (sNum st, sNew st kd (some ((xx xs n).ws, n)) 0) → ∀ M1 : zM, sC M1 p (NU + 1 + (xx xs n).ws.length) (sNew st kd (some ((xx xs n).ws, n)) 0) → dfr p M M1 → M1 (p + 8) ((6 + st.ns.length : Nat) : Int) = -1 → Q (sNum st : Nat) M1) : zm_X1_define l s0 G ca d C S v kd M Q X := by
  have hS0 := hS
  obtain ⟨hs, hp, hs24, hs6, hp0⟩ := hS
  refine z_X1_define Γ (by omega) hok hs hp hs24 hs6 ?_
  unfold zt_X1_define
  intro q5 h5
  refine c_mem Γ (by omega) hok hs hs6 hT hv hk h5 ?_
  have hl := hT.2.2
  have h0 := hC.1.2.1
  have hln := hC.2.2.2.2.2.2.2.1
  cases hm : xMem xs v (iw [110, 97, 109, 101]) with
  | none =>
    refine ⟨fun _ => ?_, fun c => absurd c_iss0 c⟩
    exact c_fail (k := 8) Γ (by omega) hok hS0 hT hv (by decide) h0 (fun M1 f1 f2 => kE (8, (xx xs v).bg) (by unfold sDfn; rw [hm]) _ M1 f1 f2)
  | some n =>
    obtain ⟨m1, m2, hn⟩ := xMem_mem hT.2.1 hv hm
    refine ⟨fun c => ?_, fun c => ?_⟩
    · have hk3 := (c_iss hT hn).mp c
      exact c_fail (k := 8) Γ (by omega) hok hS0 hT hv (by decide) h0 (fun M1 f1 f2 => kE (8, (xx xs v).bg) (by unfold sDfn; rw [hm]; exact if_neg hk3) _ M1 f1 f2)
    · have hk3 : (xx xs n).kd = 3 := Decidable.not_not.mp (fun h => c ((c_iss hT hn).mpr h))
      have sd : sDfn xs st v kd = if sNam (xx xs n).ws = true ∧ sSix (xx xs n).ws = none ∧ sCom (xx xs n).ws = none ∧ sDef st.ns (xx xs n).ws = none then .ok (sNum st, sNew st kd (some ((xx xs n).ws, n)) 0) else .error (9, (xx xs n).bg) := by
        unfold sDfn
        rw [hm]
        exact if_pos hk3
      have no : ¬ (sNam (xx xs n).ws = true ∧ sSix (xx xs n).ws = none ∧ sCom (xx xs n).ws = none ∧ sDef st.ns (xx xs n).ws = none) → zm_X1_fail l s0 G ca (d - 1) C S 9 n M (fun r69 M69 => Q r69 M69) X := fun h =>
        c_fail (k := 9) Γ (by omega) hok hS0 hT hn (by decide) h0 (fun M1 f1 f2 => kE (9, (xx xs n).bg) (sd.trans (if_neg h)) _ M1 f1 f2)
      show zm_X1_isName l s0 G ca (d - 1) C S (n : Int) M _ X
      refine c_nam Γ (by omega) hok hs hp hs24 hs6 hT hn hk3 ?_
      refine ⟨fun c1 => no (fun h => w32_bI.mp c1 h.1), fun c1 => ?_⟩
      have g1 : sNam (xx xs n).ws = true := Decidable.not_not.mp (fun h => c1 (w32_bI.mpr h))
      refine c_six Γ (by omega) hok hs hp hs24 hs6 hT hn hk3 ?_
      have b6 := oI_none (o := sSix (xx xs n).ws) (fun m h => by have := sSix_lt h; omega)
      refine ⟨fun c2 => ?_, fun c2 => no (fun h => c2 (b6.mpr h.2.1))⟩
      have g2 := b6.mp c2
      refine c_com Γ (by omega) hok hs hp hs24 hs6 hT hn hk3 ?_
      have bc := oI_none (o := sCom (xx xs n).ws) (fun m h => by have := (sCom_lt h).1; omega)
      refine ⟨fun c3 => ?_, fun c3 => no (fun h => c3 (bc.mpr h.2.2.1))⟩
      have g3 := bc.mp c3
      refine c_def Γ (by omega) hok hS0 hT hn hk3 hC ?_
      have bd := oI_none (o := sDef st.ns (xx xs n).ws) (fun m h => by have := sDefL_lt _ _ _ _ h; omega)
      refine ⟨fun c4 => ?_, fun c4 => no (fun h => c4 (bd.mpr h.2.2.2))⟩
      have g4 := bd.mp c4
      rw [if_pos ⟨g1, g2, g3, g4⟩] at sd
      rw [sC_newM hC (by omega), hC.2.1.1]
      have hN := sC_new hC hp0 hlt kd
      have hNd := zNewM_dfr (M := M) (p := p) (s := ((sNum st : Nat) : Int)) (k := (kd : Int)) hp0
      have hT2 := hT.dfr hNd
      have hw : 1 + (xx xs n).ws.length ≤ wS xs v (xx xs v).sz := by
        have h1 := (xMem_one hT.2.1 hv hm).2
        have h2 := wS_one (xs := xs) (i := n) (n := (xx xs n).sz) (jWf_at hT.2.1 hn).2.2.1
        have h3 := jlw_w hk3
        omega
      have hr2 := cRec_at hT2 hn
      rw [show oI (some n) = (n : Int) from rfl, c_zat (by omega)]
      refine c_addN Γ (by omega) hok hS0 (hr2.2.2.2.2.2.2.1 hk3).wd (by omega) hN.2.1.2.2.1 (by omega) (fun M1 hF => ?_)
      show Q ((sNum st : Nat) : Int) (zput M1 (p + 4) 134 ((sNum st : Nat) : Int) NU)
      rw [zput_in (by unfold sNum; omega) (by unfold sNum; omega) (by decide)]
      refine kO n hm hk3 sd _ ?_ ((hNd.tr (hF.dfr hp0)).zu (by omega)) ((zu_a (by omega)).trans ((hF.2.2 _ _ (by omega) (by omega)).trans (zNewM_w M p ((6 + st.ns.length : Nat) : Int) kd)))
      have hat : (sNew st kd none 0).ns[st.ns.length]? = some (kd, none, -1, 0, []) := sNew_at
      have hold := hN.2.2.2.1 _ _ hat
      have hup := sC_upd (M1 := zu M1 (p + 4) ((sNum st : Nat) : Int) NU) (NU1 := NU + 1 + (xx xs n).ws.length) hN hp0 hat (n' := (kd, some ((xx xs n).ws, n), -1, 0, [])) rfl (by omega) (by omega) st.kc (zNewM_w M p ((6 + st.ns.length : Nat) : Int) kd) (Or.inl ⟨(zu_a (by omega)).trans ((hF.2.2 _ _ (by omega) (by omega)).trans (zNewM_w M p ((6 + st.ns.length : Nat) : Int) kd)), fun _ => by show (-1 : Int) < 0; decide⟩)
        (fun a j n1 _ _ n4 n5 _ => (if_neg n1).trans (hF.2.2 a j n4 n5)) (by rw [zu_a (by omega)]; exact hF.1) ?_
      · have e : (nPut (sNew st kd none 0).ns (6 + st.ns.length) (kd, some ((xx xs n).ws, n), -1, 0, [])) = (sNew st kd (some ((xx xs n).ws, n)) 0).ns := by
          unfold nPut sNew
          rw [show 6 + st.ns.length - 6 = st.ns.length by omega]
          show (st.ns ++ [_]).set st.ns.length _ = st.ns ++ [_]
          rw [List.set_append_right _ _ (Nat.le_refl _), Nat.sub_self]
          rfl
        rw [e] at hup
        exact hup
      · obtain ⟨h1, h2, h3, h4, h5, h6, h7⟩ := hold
        have e : ∀ a j : Int, ¬ a = p + 4 → ¬ a = p + 22 → ¬ a = p + 21 → zu M1 (p + 4) ((sNum st : Nat) : Int) NU a j = zNewM M p ((sNum st : Nat) : Int) kd a j := fun a j n1 n2 n3 => (zu_a n1).trans (hF.2.2 a j (by omega) (by omega))
        refine ⟨by rw [e _ _ (by omega) (by omega) (by omega)]; exact h1, fun c => (nomatch c), fun w v9 c => ?_, by rw [e _ _ (by omega) (by omega) (by omega)]; exact h4, fun c => absurd c (Nat.lt_irrefl 0), fun c => ⟨rfl, fun q m c9 => (nomatch c9)⟩, fun c => ⟨by rw [e _ _ (by omega) (by omega) (by omega)]; exact (h7 c).1, Nat.le_refl _, fun k hk9 => absurd hk9 (Nat.not_lt_zero _)⟩⟩
        cases c
        show wd _ _ (zu M1 (p + 4) ((sNum st : Nat) : Int) NU (p + 4) ((sNum st : Nat) : Int)) _
        rw [zu_s]
        exact hF.2.1.mono (Nat.le_refl _) (fun j _ _ => zu_a (by omega))
theorem c_num (hT : cTx M xs) {n : Nat} (hn : n < xs.length) (hk : (xx xs n).kd = 4) : zf_X8_number M n = (xx xs n).num.toInt := by
  have hl := hT.2.2
  have hr := cRec_at hT hn
  unfold zf_X8_number
  rw [w32_id (by omega) (by omega), if_neg (by omega), if_neg (by omega)]
  exact hr.2.2.2.2.2.1 hk
theorem w64_toI (x : Int64) : w64 x.toInt = x.toInt := w64_id (Int64.le_toInt x) (Int64.toInt_lt x)
theorem c_fix (Γ : rt_Γ l s0 a0 G ca) (hd : 11 ≤ d) (hok : zok C) (hS : sSh S p) (hT : cTx M xs) (hv : v < xs.length) (hk : (xx xs v).kd = 1) (hC : sC M p NU st) (hlt : st.ns.length < st.lk) {L : Nat → Bool → SS → Except (Nat × Nat) (Nat × SS)} (hr : NU + wS xs v (xx xs v).sz ≤ 4096)
    (kE : ∀ e : Nat × Nat, sNmd xs L v 9 st = .error e → cE p M Q e) (kO : ∀ (n : Nat) (st1 : SS), sNmd xs L v 9 st = .ok (n, st1) → cO p M Q NU (wS xs v (xx xs v).sz) ((xx xs v).sz - 1) st st1 n) : zm_X1_lookAtFixed l s0 G ca d C S v M Q X := by
  have hS0 := hS
  obtain ⟨hs, hp, hs24, hs6, hp0⟩ := hS
  refine z_X1_lookAtFixed Γ (by omega) hok hs hp hs24 hs6 ?_
  unfold zt_X1_lookAtFixed
  refine c_dfn (kd := 9) Γ (by omega) hok hS0 hT hv hk hC hlt hr (fun e he x M1 f1 f2 => ⟨fun c => absurd c (sF_ne f1), fun _ => kE e (by unfold sNmd; rw [he]) x M1 f1 f2⟩) (fun n hn hk3 he M1 hC1 hd1 hw1 => ?_)
  have sm : sNmd xs L v 9 st = sFix xs v (sNum st) (sNew st 9 (some ((xx xs n).ws, n)) 0) := by unfold sNmd; rw [he]; rfl
  rw [sm] at kE kO
  have h0 := hC1.1.2.1
  have hT1 := hT.dfr hd1
  have hl := hT.2.2
  have hat : (sNew st 9 (some ((xx xs n).ws, n)) 0).ns[st.ns.length]? = some (9, some ((xx xs n).ws, n), -1, 0, []) := sNew_at
  refine ⟨fun _ => ?_, fun c => absurd (by rw [h0]; decide) c⟩
  intro q22 h22
  refine c_mem Γ (by omega) hok hs hs6 hT1 hv hk h22 ?_
  unfold sFix at kE kO
  cases hm : xMem xs v (iw [115, 105, 122, 101]) with
  | none =>
    rw [hm] at kE
    refine ⟨fun _ => ?_, fun c => absurd (by decide) c⟩
    exact c_fail (k := 8) Γ (by omega) hok hS0 hT1 hv (by decide) h0 (fun M2 f1 f2 => kE (8, (xx xs v).bg) rfl _ M2 f1 (hd1.tr f2))
  | some m =>
    rw [hm] at kE kO
    dsimp only at kE kO
    obtain ⟨m1, m2, hmx⟩ := xMem_mem hT.2.1 hv hm
    have hrm := cRec_at hT1 hmx
    have hkm := (jWf_at hT.2.1 hmx).1
    have no : ¬ ((xx xs m).kd = 4 ∧ 0 ≤ (xx xs m).num.toInt ∧ (xx xs m).num.toInt ≤ 64) → zm_X1_fail l s0 G ca (d - 1) C S 10 (m : Int) M1 (fun r85 M85 => Q r85 M85) X := fun h =>
      c_fail (k := 10) Γ (by omega) hok hS0 hT1 hmx (by decide) h0 (fun M2 f1 f2 => kE (10, (xx xs m).bg) (if_neg h) _ M2 f1 (hd1.tr f2))
    rw [show oI (some m) = (m : Int) from rfl]
    refine ⟨fun c => by rw [w32_id (by omega) (by omega)] at c; omega, fun _ => ?_⟩
    rw [c_zat (by omega), hrm.1, w32_id (by omega) (by omega)]
    refine ⟨fun c1 => ?_, fun c1 => no (fun h => c1 (by rw [h.1]; rfl))⟩
    have hk4 : (xx xs m).kd = 4 := by omega
    rw [c_num hT1 hmx hk4, w64_toI]
    refine ⟨fun c2 => no (fun h => by omega), fun c2 => ⟨fun c3 => ?_, fun c3 => no (fun h => by omega)⟩⟩
    have hg := hC1.2.2.2.2.2.2.1
    rw [sNew_len] at hg
    have hlk := hC1.2.2.2.2.2.2.2.1
    have hlk9 : (sNew st 9 (some ((xx xs n).ws, n)) 0).lk = st.lk := rfl
    rw [zput_in (by unfold sNum; omega) (by unfold sNum; omega) (by decide), zput_in (by unfold sNum; omega) (by unfold sNum; omega) (by decide)]
    have hwid := sC_fx hC1 hp0 hat (show ¬ (9 = 6 ∨ 9 = 7) by decide) rfl hw1 (xx xs m).num.toInt (by omega) (by omega)
    refine kO _ _ (if_pos ⟨hk4, by omega, c3⟩) _ _ hwid ?_ ?_ ((hd1.zu (by omega)).zu (by omega))
    · have h1 := (xMem_one hT.2.1 hv hn).2
      obtain ⟨-, -, hnx⟩ := xMem_mem hT.2.1 hv hn
      have h2 := wS_one (xs := xs) (i := n) (n := (xx xs n).sz) (jWf_at hT.2.1 hnx).2.2.1
      have h3 := jlw_w hk3
      omega
    · have e : nTot (sDet (sNew st 9 (some ((xx xs n).ws, n)) 0) (6 + st.ns.length) (xx xs m).num.toInt).ns = nTot st.ns := by
        unfold sDet nPut
        rw [nN_at hat, show 6 + st.ns.length - 6 = st.ns.length by omega]
        have := nTot_set (ns := (sNew st 9 (some ((xx xs n).ws, n)) 0).ns) (n' := (9, some ((xx xs n).ws, n), (xx xs m).num.toInt, 0, [])) hat rfl (st.ns.length + 1)
        rw [List.take_of_length_le (by rw [List.length_set, sNew_len]; omega), List.take_of_length_le (by rw [sNew_len]; omega)] at this
        refine this.trans ?_
        show nTot (st.ns ++ [_]) = _
        rw [nTot_app]
        rfl
      show nTot (sDet (sNew st 9 (some ((xx xs n).ws, n)) 0) (6 + st.ns.length) (xx xs m).num.toInt).ns ≤ _
      rw [e]
      omega
end SHs
