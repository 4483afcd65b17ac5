/-! ===== the law's loop, one call at most ===== -/
set_option maxRecDepth 100000 in
theorem lw_one {l : Launch} {s0 : State} {a0 : Array Value} {G : va_G} {ca : Nat → ClassId} (Γ : rt_Γ l s0 a0 G ca) {nm : String} {tab : List ExceptionTableEntry} {b : Nat} {xs : Nat → Int32} {L : Nat} (hX : va_X b L xs s0 s0.heap) (hL : L ≤ 6) (hbl : b < s0.heap.size) : rt_Go l s0 G RL nm cL_law 7 (some .boolean) tab 2036 rt_w0 rt_Ql 23 [(4, .int 0), (3, rt_r s0 127), (2, rt_r s0 74), (1, rt_r s0 0), (0, .ref b)] [] (lw_W s0 ca) := by
  rcases Nat.lt_or_eq_of_le hL with h | rfl
  · refine rt_iload dL_law_23 (j := 0) rfl ?_
    refine rt_aloadA_n dL_law_25 rfl (j := 4) rfl ?_
    refine rt_slen hX hbl dL_law_26 ?_
    refine rt_bipush (v := 6) dL_law_27 (by decide) ?_
    refine rt_isub dL_law_29 ?_
    refine rt_icmp_gt (tgt := 707) dL_law_30 (by decide) (fun _ => ?_) (fun c30 => absurd (show nI L - 6 < 0 from (show ∀ n : Fin 6, nI n.1 - 6 < 0 by decide) ⟨L, h⟩) c30)
    refine rt_iconst (v := 1) dL_law_707 (by decide) ?_
    exact rt_zret dL_law_708 rfl rfl (⟨rfl, (lw_ok s0 ca).1, (lw_ok s0 ca).2⟩)
  · refine rt_iload dL_law_23 (j := 0) rfl ?_
    refine rt_aloadA_n dL_law_25 rfl (j := 4) rfl ?_
    refine rt_slen hX hbl dL_law_26 ?_
    refine rt_bipush (v := 6) dL_law_27 (by decide) ?_
    refine rt_isub dL_law_29 ?_
    refine rt_icmp_gt (tgt := 707) dL_law_30 (by decide) (fun c30 => absurd c30 (show ¬ nI 6 - 6 < 0 by decide)) (fun _ => ?_)
    refine rt_aloadA_n dL_law_33 rfl (j := 4) rfl ?_
    refine rt_iload dL_law_34 (j := 0) rfl ?_
    refine rt_sld hX hbl dL_law_36 (vp_in_iff.mpr ⟨by decide, by decide⟩) ?_
    refine rt_bipush (v := 15) dL_law_37 (by decide) ?_
    refine rt_iand dL_law_39 ?_
    obtain ⟨j, hj, ej⟩ := pk_andE (xs (0 : Int32).toNatClampNeg) (m := 15) 4 (by decide)
    rw [ej]
    match j, hj with
    | 0, _ =>
      refine rt_tableIn (tgt := 100) dL_law_40 (show ¬ (nI 0).toInt < 0 by decide) (show ¬ (10 : Int) < (nI 0).toInt by decide) (off := 60) (by decide) (by decide) ?_
      exact lw_o_feed Γ hX hbl 
    | 1, _ =>
      refine rt_tableIn (tgt := 204) dL_law_40 (show ¬ (nI 1).toInt < 0 by decide) (show ¬ (10 : Int) < (nI 1).toInt by decide) (off := 164) (by decide) (by decide) ?_
      by_cases hn : (xs ((0 + 1) : Int32).toNatClampNeg) < 0
      · exact lw_o_endT Γ hX hbl hn
      · by_cases h9 : (xs ((0 + 1) : Int32).toNatClampNeg) ≤ 0
        · exact lw_o_end Γ hX hbl hn h9
        · exact lw_o_endU Γ hX hbl hn h9
    | 2, _ =>
      refine rt_tableIn (tgt := 240) dL_law_40 (show ¬ (nI 2).toInt < 0 by decide) (show ¬ (10 : Int) < (nI 2).toInt by decide) (off := 200) (by decide) (by decide) ?_
      by_cases hn : (xs ((0 + 1) : Int32).toNatClampNeg) < 0
      · exact lw_o_schemaT Γ hX hbl hn
      · by_cases h9 : (xs ((0 + 1) : Int32).toNatClampNeg) < 8
        · exact lw_o_schema Γ hX hbl hn h9
        · exact lw_o_schemaU Γ hX hbl hn h9
    | 3, _ =>
      refine rt_tableIn (tgt := 296) dL_law_40 (show ¬ (nI 3).toInt < 0 by decide) (show ¬ (10 : Int) < (nI 3).toInt by decide) (off := 256) (by decide) (by decide) ?_
      by_cases hn : (xs ((0 + 1) : Int32).toNatClampNeg) < 0
      · exact lw_o_loadT Γ hX hbl hn
      · by_cases h9 : (xs ((0 + 1) : Int32).toNatClampNeg) < 8
        · exact lw_o_loadV Γ hX hbl hn h9
        · exact lw_o_loadU Γ hX hbl hn h9
    | 4, _ =>
      refine rt_tableIn (tgt := 352) dL_law_40 (show ¬ (nI 4).toInt < 0 by decide) (show ¬ (10 : Int) < (nI 4).toInt by decide) (off := 312) (by decide) (by decide) ?_
      exact lw_o_place Γ hX hbl 
    | 5, _ =>
      refine rt_tableIn (tgt := 365) dL_law_40 (show ¬ (nI 5).toInt < 0 by decide) (show ¬ (10 : Int) < (nI 5).toInt by decide) (off := 325) (by decide) (by decide) ?_
      exact lw_o_rows Γ hX hbl 
    | 6, _ =>
      refine rt_tableIn (tgt := 378) dL_law_40 (show ¬ (nI 6).toInt < 0 by decide) (show ¬ (10 : Int) < (nI 6).toInt by decide) (off := 338) (by decide) (by decide) ?_
      by_cases h0 : (xs ((0 + 1) : Int32).toNatClampNeg) = 0
      · exact lw_o_size0 Γ hX hbl h0
      · by_cases h9 : (xs ((0 + 1) : Int32).toNatClampNeg) = 1
        · exact lw_o_size1 Γ hX hbl h9
        · by_cases hn : (xs ((0 + 1) : Int32).toNatClampNeg) < 0
          · exact lw_o_sizeT Γ hX hbl h0 h9 hn
          · exact lw_o_sizeU Γ hX hbl h0 h9 hn
    | 7, _ =>
      refine rt_tableIn (tgt := 434) dL_law_40 (show ¬ (nI 7).toInt < 0 by decide) (show ¬ (10 : Int) < (nI 7).toInt by decide) (off := 394) (by decide) (by decide) ?_
      by_cases h0 : (xs ((0 + 2) : Int32).toNatClampNeg) = 0
      · by_cases hn : (xs ((0 + 1) : Int32).toNatClampNeg) < 0
        · exact lw_o_letter0I Γ hX hbl h0 hn
        · exact lw_o_letter0J Γ hX hbl h0 hn
      · by_cases h9 : (xs ((0 + 2) : Int32).toNatClampNeg) = 1
        · by_cases hn : (xs ((0 + 1) : Int32).toNatClampNeg) < 0
          · exact lw_o_letter1I Γ hX hbl h9 hn
          · exact lw_o_letter1J Γ hX hbl h9 hn
        · by_cases hn : (xs ((0 + 2) : Int32).toNatClampNeg) < 0
          · exact lw_o_letterT Γ hX hbl h0 h9 hn
          · exact lw_o_letterU Γ hX hbl h0 h9 hn
    | 8, _ =>
      refine rt_tableIn (tgt := 502) dL_law_40 (show ¬ (nI 8).toInt < 0 by decide) (show ¬ (10 : Int) < (nI 8).toInt by decide) (off := 462) (by decide) (by decide) ?_
      by_cases hn : (xs ((0 + 1) : Int32).toNatClampNeg) < 0
      · exact lw_o_readT Γ hX hbl hn
      · by_cases h9 : (xs ((0 + 1) : Int32).toNatClampNeg) < 8
        · by_cases hi : (xs ((0 + 2) : Int32).toNatClampNeg) < 0
          · exact lw_o_readV Γ hX hbl hn h9 hi
          · exact lw_o_readW Γ hX hbl hn h9 hi
        · exact lw_o_readU Γ hX hbl hn h9
    | 9, _ =>
      refine rt_tableIn (tgt := 570) dL_law_40 (show ¬ (nI 9).toInt < 0 by decide) (show ¬ (10 : Int) < (nI 9).toInt by decide) (off := 530) (by decide) (by decide) ?_
      by_cases hn : (xs ((0 + 1) : Int32).toNatClampNeg) < 0
      · exact lw_o_allT Γ hX hbl hn
      · by_cases h9 : (xs ((0 + 1) : Int32).toNatClampNeg) < 8
        · exact lw_o_allV Γ hX hbl hn h9
        · exact lw_o_allU Γ hX hbl hn h9
    | 10, _ =>
      refine rt_tableIn (tgt := 626) dL_law_40 (show ¬ (nI 10).toInt < 0 by decide) (show ¬ (10 : Int) < (nI 10).toInt by decide) (off := 586) (by decide) (by decide) ?_
      by_cases hn : (xs ((0 + 1) : Int32).toNatClampNeg) < 0
      · exact lw_o_fitsT Γ hX hbl hn
      · by_cases h9 : (xs ((0 + 1) : Int32).toNatClampNeg) < 8
        · by_cases hi : (xs ((0 + 2) : Int32).toNatClampNeg) < 0
          · exact lw_o_fitsV Γ hX hbl hn h9 hi
          · by_cases hj : (xs ((0 + 2) : Int32).toNatClampNeg) < 8
            · exact lw_o_fitsX Γ hX hbl hn h9 hi hj
            · exact lw_o_fitsW Γ hX hbl hn h9 hi hj
        · exact lw_o_fitsU Γ hX hbl hn h9
    | 11, _ =>
      refine rt_tableOut (tgt := 701) dL_law_40 (show (nI 11).toInt < 0 ∨ (10 : Int) < (nI 11).toInt by decide) (by decide) ?_
      exact rt_lfew [0, 4] rfl (lw_tail Γ hX hbl (lw_ok s0 ca))
    | 12, _ =>
      refine rt_tableOut (tgt := 701) dL_law_40 (show (nI 12).toInt < 0 ∨ (10 : Int) < (nI 12).toInt by decide) (by decide) ?_
      exact rt_lfew [0, 4] rfl (lw_tail Γ hX hbl (lw_ok s0 ca))
    | 13, _ =>
      refine rt_tableOut (tgt := 701) dL_law_40 (show (nI 13).toInt < 0 ∨ (10 : Int) < (nI 13).toInt by decide) (by decide) ?_
      exact rt_lfew [0, 4] rfl (lw_tail Γ hX hbl (lw_ok s0 ca))
    | 14, _ =>
      refine rt_tableOut (tgt := 701) dL_law_40 (show (nI 14).toInt < 0 ∨ (10 : Int) < (nI 14).toInt by decide) (by decide) ?_
      exact rt_lfew [0, 4] rfl (lw_tail Γ hX hbl (lw_ok s0 ca))
    | 15, _ =>
      refine rt_tableOut (tgt := 701) dL_law_40 (show (nI 15).toInt < 0 ∨ (10 : Int) < (nI 15).toInt by decide) (by decide) ?_
      exact rt_lfew [0, 4] rfl (lw_tail Γ hX hbl (lw_ok s0 ca))
    | n + 16, h => exact absurd h (by omega)
