/-! ===== the law's loop ===== -/
theorem lJ.nx {C : Nat × Nat} {S : zS} {M : zM} {n : Nat} {tb : List Nat} {ks : kST} {L : List (List Nat)} {ow : Int} {out : List Nat} {pl : Int} (h : lJ C S M n tb ks L ow out pl) : lJ C S M (n + 1) tb ks L ow out pl := by
  obtain ⟨⟨a, ha, hc⟩, hI, ⟨d1, d2, d3, d4, d5⟩, n1, n2, n3, n4⟩ := h
  exact ⟨⟨a, by omega, hc⟩, hI, ⟨d1, d2, d3, d4, by omega⟩, n1, n2, by omega, by omega⟩
theorem nI_p {n k N : Nat} (h : 6 * n + 6 ≤ N) (hN : N ≤ 384) (hk : k < 6) : vp_in (nI (6 * n + k)) N := vp_in_iff.mpr (by
  rw [nI_toInt (by omega)]
  exact ⟨by omega, by omega⟩)
theorem nI_gt {n N : Nat} (hn : n ≤ 64) (hN : N ≤ 384) : (nI N - 6 < nI (6 * n)) ↔ N < 6 * n + 6 := by
  have e6 : (6 : Int32).toInt = 6 := by decide
  have hs : (nI N - 6).toInt = (N : Int) - 6 := by
    rw [Int32.toInt_sub, nI_toInt (by omega), e6]
    exact Int.bmod_eq_of_le (by omega) (by omega)
  rw [Int32.lt_iff_toInt_lt, hs, nI_toInt (by omega)]
  omega
set_option maxRecDepth 100000 in
theorem lw_it {l : Launch} {s0 : State} {a0 : Array Value} {G : va_G} {ca : Nat → ClassId} (Γ : rt_Γ l s0 a0 G ca) {nm : String} {tab : List ExceptionTableEntry} {b N : Nat} {xs : Nat → Int32} (hX : va_X b N xs s0 s0.heap) (hN : N ≤ 384) (hbl : b < s0.heap.size) {n : Nat} (hn : 6 * n + 6 ≤ N) {w : rt_Wd} (hw : lI s0 ca n w) (kk : ∀ w2 : rt_Wd, lI s0 ca (n + 1) w2 → rt_Go l s0 G RL nm cL_law 7 (some .boolean) tab 2036 rt_w0 rt_Ql 701 [(4, .int (nI (6 * n))), (3, rt_r s0 137), (2, rt_r s0 84), (1, rt_r s0 0), (0, .ref b)] [] w2) : rt_Go l s0 G RL nm cL_law 7 (some .boolean) tab 2036 rt_w0 rt_Ql 33 [(4, .int (nI (6 * n))), (3, rt_r s0 137), (2, rt_r s0 84), (1, rt_r s0 0), (0, .ref b)] [] w := by
  obtain ⟨C, S, M, tb, ks, L, ow, out, pl, rfl, hJ⟩ := hw
  have hn64 : n < 64 := by omega
  obtain ⟨-, hs, hok, -, -⟩ := hJ.ok (s0 := s0) (ca := ca) hn64
  obtain ⟨f0, hX0⟩ := lw_0 (s0 := s0) (ca := ca) (C := C) (M := M) hs
  have h1 : vp_in (nI (6 * n) + 1) N := (show nI (6 * n) + 1 = nI (6 * n + 1) from nI_add _ 1) ▸ nI_p hn hN (by decide)
  have h2 : vp_in (nI (6 * n) + 2) N := (show nI (6 * n) + 2 = nI (6 * n + 2) from nI_add _ 2) ▸ nI_p hn hN (by decide)
  have h3 : vp_in (nI (6 * n) + 3) N := (show nI (6 * n) + 3 = nI (6 * n + 3) from nI_add _ 3) ▸ nI_p hn hN (by decide)
  have h4 : vp_in (nI (6 * n) + 4) N := (show nI (6 * n) + 4 = nI (6 * n + 4) from nI_add _ 4) ▸ nI_p hn hN (by decide)
  have h5 : vp_in (nI (6 * n) + 5) N := (show nI (6 * n) + 5 = nI (6 * n + 5) from nI_add _ 5) ▸ nI_p hn hN (by decide)
  refine rt_aloadA_n dL_law_33 rfl (j := 4) rfl ?_
  refine rt_iload dL_law_34 (j := 0) rfl ?_
  refine rt_sld hX hbl dL_law_36 (nI_p (k := 0) hn hN (by decide)) ?_
  refine rt_bipush (v := 15) dL_law_37 (by decide) ?_
  refine rt_iand dL_law_39 ?_
  obtain ⟨j, hj, ej⟩ := pk_andE (xs (nI (6 * n)).toNatClampNeg) (m := 15) 4 (by decide)
  rw [ej]
  match j, hj with
  | 0, _ =>
    refine rt_tableIn (tgt := 100) dL_law_40 (show ¬ (nI 0).toInt < 0 by decide) (show ¬ (10 : Int) < (nI 0).toInt by decide) (off := 60) (by decide) (by decide) ?_
    obtain ⟨k, PA, hA, hB⟩ := lw_s_feed Γ hn64 hJ (xs (nI (6 * n) + 1).toNatClampNeg) (xs (nI (6 * n) + 2).toNatClampNeg) (xs (nI (6 * n) + 3).toNatClampNeg) (xs (nI (6 * n) + 4).toNatClampNeg) (xs (nI (6 * n) + 5).toNatClampNeg)
    exact lw_g_feed Γ hX hbl h1 h2 h3 h4 h5 hok hA hB kk
  | 1, _ =>
    refine rt_tableIn (tgt := 204) dL_law_40 (show ¬ (nI 1).toInt < 0 by decide) (show ¬ (10 : Int) < (nI 1).toInt by decide) (off := 164) (by decide) (by decide) ?_
    obtain ⟨k, PA, hA, hB⟩ := lw_s_end Γ hn64 hJ (xs (nI (6 * n) + 1).toNatClampNeg)
    exact lw_g_end Γ hX hbl h1 hok hA hB kk
  | 2, _ =>
    refine rt_tableIn (tgt := 240) dL_law_40 (show ¬ (nI 2).toInt < 0 by decide) (show ¬ (10 : Int) < (nI 2).toInt by decide) (off := 200) (by decide) (by decide) ?_
    obtain ⟨k, PA, hA, hB⟩ := lw_s_schema Γ hn64 hJ (xs (nI (6 * n) + 1).toNatClampNeg)
    exact lw_g_schema Γ hX hbl h1 hok hA hB kk
  | 3, _ =>
    refine rt_tableIn (tgt := 296) dL_law_40 (show ¬ (nI 3).toInt < 0 by decide) (show ¬ (10 : Int) < (nI 3).toInt by decide) (off := 256) (by decide) (by decide) ?_
    obtain ⟨k, PA, hA, hB⟩ := lw_s_load Γ hn64 hJ (xs (nI (6 * n) + 1).toNatClampNeg)
    exact lw_g_load Γ hX hbl h1 hok hA hB kk
  | 4, _ =>
    refine rt_tableIn (tgt := 352) dL_law_40 (show ¬ (nI 4).toInt < 0 by decide) (show ¬ (10 : Int) < (nI 4).toInt by decide) (off := 312) (by decide) (by decide) ?_
    obtain ⟨PA, hA, hB⟩ := lw_s_place Γ hn64 hJ
    exact lw_g_place Γ hX hbl hok hX0 hA hB kk
  | 5, _ =>
    refine rt_tableIn (tgt := 365) dL_law_40 (show ¬ (nI 5).toInt < 0 by decide) (show ¬ (10 : Int) < (nI 5).toInt by decide) (off := 325) (by decide) (by decide) ?_
    obtain ⟨PA, hA, hB⟩ := lw_s_rows Γ hn64 hJ
    exact lw_g_rows Γ hX hbl hok hX0 hA hB kk
  | 6, _ =>
    refine rt_tableIn (tgt := 378) dL_law_40 (show ¬ (nI 6).toInt < 0 by decide) (show ¬ (10 : Int) < (nI 6).toInt by decide) (off := 338) (by decide) (by decide) ?_
    obtain ⟨k, PA, hA, hB⟩ := lw_s_size Γ hn64 hJ (xs (nI (6 * n) + 1).toNatClampNeg)
    exact lw_g_size Γ hX hbl h1 hok hA hB kk
  | 7, _ =>
    refine rt_tableIn (tgt := 434) dL_law_40 (show ¬ (nI 7).toInt < 0 by decide) (show ¬ (10 : Int) < (nI 7).toInt by decide) (off := 394) (by decide) (by decide) ?_
    obtain ⟨k, PA, hA, hB⟩ := lw_s_letter Γ hn64 hJ (xs (nI (6 * n) + 1).toNatClampNeg) (xs (nI (6 * n) + 2).toNatClampNeg)
    exact lw_g_letter Γ hX hbl h1 h2 hok hA hB kk
  | 8, _ =>
    refine rt_tableIn (tgt := 502) dL_law_40 (show ¬ (nI 8).toInt < 0 by decide) (show ¬ (10 : Int) < (nI 8).toInt by decide) (off := 462) (by decide) (by decide) ?_
    obtain ⟨k, PA, hA, hB⟩ := lw_s_read Γ hn64 hJ (xs (nI (6 * n) + 1).toNatClampNeg) (xs (nI (6 * n) + 2).toNatClampNeg)
    exact lw_g_read Γ hX hbl h1 h2 hok hA hB kk
  | 9, _ =>
    refine rt_tableIn (tgt := 570) dL_law_40 (show ¬ (nI 9).toInt < 0 by decide) (show ¬ (10 : Int) < (nI 9).toInt by decide) (off := 530) (by decide) (by decide) ?_
    obtain ⟨k, PA, hA, hB⟩ := lw_s_all Γ hn64 hJ (xs (nI (6 * n) + 1).toNatClampNeg)
    exact lw_g_all Γ hX hbl h1 hok hA hB kk
  | 10, _ =>
    refine rt_tableIn (tgt := 626) dL_law_40 (show ¬ (nI 10).toInt < 0 by decide) (show ¬ (10 : Int) < (nI 10).toInt by decide) (off := 586) (by decide) (by decide) ?_
    obtain ⟨k, PA, hA, hB⟩ := lw_s_fits Γ hn64 hJ (xs (nI (6 * n) + 1).toNatClampNeg) (xs (nI (6 * n) + 2).toNatClampNeg)
    exact lw_g_fits Γ hX hbl h1 h2 hok hA hB kk
  | 11, _ =>
    refine rt_tableOut (tgt := 701) dL_law_40 (show (nI 11).toInt < 0 ∨ (10 : Int) < (nI 11).toInt by decide) (by decide) ?_
    exact kk _ ⟨C, S, M, tb, ks, L, ow, out, pl, rfl, hJ.nx⟩
  | 12, _ =>
    refine rt_tableOut (tgt := 701) dL_law_40 (show (nI 12).toInt < 0 ∨ (10 : Int) < (nI 12).toInt by decide) (by decide) ?_
    exact kk _ ⟨C, S, M, tb, ks, L, ow, out, pl, rfl, hJ.nx⟩
  | 13, _ =>
    refine rt_tableOut (tgt := 701) dL_law_40 (show (nI 13).toInt < 0 ∨ (10 : Int) < (nI 13).toInt by decide) (by decide) ?_
    exact kk _ ⟨C, S, M, tb, ks, L, ow, out, pl, rfl, hJ.nx⟩
  | 14, _ =>
    refine rt_tableOut (tgt := 701) dL_law_40 (show (nI 14).toInt < 0 ∨ (10 : Int) < (nI 14).toInt by decide) (by decide) ?_
    exact kk _ ⟨C, S, M, tb, ks, L, ow, out, pl, rfl, hJ.nx⟩
  | 15, _ =>
    refine rt_tableOut (tgt := 701) dL_law_40 (show (nI 15).toInt < 0 ∨ (10 : Int) < (nI 15).toInt by decide) (by decide) ?_
    exact kk _ ⟨C, S, M, tb, ks, L, ow, out, pl, rfl, hJ.nx⟩
  | j + 16, h => exact absurd h (by omega)
set_option maxRecDepth 100000 in
theorem lw_loop {l : Launch} {s0 : State} {a0 : Array Value} {G : va_G} {ca : Nat → ClassId} (Γ : rt_Γ l s0 a0 G ca) {nm : String} {tab : List ExceptionTableEntry} {b N : Nat} {xs : Nat → Int32} (hX : va_X b N xs s0 s0.heap) (hN : N ≤ 384) (hbl : b < s0.heap.size) : ∀ (m n : Nat), n + m = 64 → ∀ w : rt_Wd, lI s0 ca n w → rt_Go l s0 G RL nm cL_law 7 (some .boolean) tab 2036 rt_w0 rt_Ql 23 [(4, .int (nI (6 * n))), (3, rt_r s0 137), (2, rt_r s0 84), (1, rt_r s0 0), (0, .ref b)] [] w := by
  intro m
  induction m with
  | zero =>
    intro n hn w hw
    have hlast : nI N - 6 < nI (6 * n) := (nI_gt (by omega) hN).mpr (by omega)
    refine rt_iload dL_law_23 (j := 0) rfl ?_
    refine rt_aloadA_n dL_law_25 rfl (j := 4) rfl ?_
    refine rt_slen hX hbl dL_law_26 ?_
    refine rt_bipush (v := 6) dL_law_27 (by decide) ?_
    refine rt_isub dL_law_29 ?_
    refine rt_icmp_gt (tgt := 707) dL_law_30 (by decide) (fun _ => ?_) (fun c30 => absurd hlast c30)
    obtain ⟨C, S, M, tb, ks, L, ow, out, pl, rfl, hJ⟩ := hw
    have n3 := hJ.2.2.2.2.2.1
    have n4 := hJ.2.2.2.2.2.2
    refine rt_iconst (v := 1) dL_law_707 (by decide) ?_
    exact rt_zret dL_law_708 rfl rfl (⟨rfl, show C.1 ≤ 600000 from Nat.le_trans n3 (by omega), show C.2 ≤ 7300000 from Nat.le_trans n4 (by omega)⟩)
  | succ m ih =>
    intro n hn w hw
    refine rt_iload dL_law_23 (j := 0) rfl ?_
    refine rt_aloadA_n dL_law_25 rfl (j := 4) rfl ?_
    refine rt_slen hX hbl dL_law_26 ?_
    refine rt_bipush (v := 6) dL_law_27 (by decide) ?_
    refine rt_isub dL_law_29 ?_
    refine rt_icmp_gt (tgt := 707) dL_law_30 (by decide) (fun _ => ?_) (fun c30 => ?_)
    · obtain ⟨C, S, M, tb, ks, L, ow, out, pl, rfl, hJ⟩ := hw
      have n3 := hJ.2.2.2.2.2.1
      have n4 := hJ.2.2.2.2.2.2
      refine rt_iconst (v := 1) dL_law_707 (by decide) ?_
      exact rt_zret dL_law_708 rfl rfl (⟨rfl, show C.1 ≤ 600000 from Nat.le_trans n3 (by omega), show C.2 ≤ 7300000 from Nat.le_trans n4 (by omega)⟩)
    · have hle : 6 * n + 6 ≤ N := Nat.not_lt.mp (fun h => c30 ((nI_gt (by omega) hN).mpr h))
      refine lw_it Γ hX hN hbl hle hw (fun w2 hw2 => ?_)
      refine rt_iinc (v := nI (6 * (n + 1))) (lv' := [(4, .int (nI (6 * (n + 1)))), (3, rt_r s0 137), (2, rt_r s0 84), (1, rt_r s0 0), (0, .ref b)]) dL_law_701 (j := 0) rfl (show nI (6 * n) + 6 = nI (6 * n + 6) from nI_add _ 6) (by decide) rfl ?_
      refine rt_goto (tgt := 23) dL_law_704 (by decide) ?_
      exact ih (n + 1) (by omega) w2 hw2
theorem lw_lI0 (s0 : State) (ca : Nat → ClassId) : lI s0 ca 0 (lw_W s0 ca) := ⟨(138, 298622), lw_S, lw_m, [], fun _ => none, [], -1, [], -1, lw_Wz s0 ca, ⟨0, Nat.le_refl _, lw_cI⟩, lw_mI, ⟨lw_dOk, bN.nil, Nat.zero_le _, bN.nil, Nat.zero_le _⟩, fun b hb => lw_Sno b hb, Nat.le_refl _, Nat.le_refl _, Nat.le_refl _⟩
