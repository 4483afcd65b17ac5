/-! ===== texts: what a text's bytes say; the class's Text ===== -/
section RTte
variable {l : Launch} {s0 : State} {G : va_G} {own nm : String} {cc : ByteArray} {nL : Nat} {ret : Option FieldType} {tab : List ExceptionTableEntry} {d : Nat} {w0 w : rt_Wd} {Q : rt_Res → rt_Wd → Prop} {pc : Nat} {lv : List (Nat × Value)} {st : List Value}
theorem rt_te {x y : Int32} (h : x = y) (k : rt_Go l s0 G own nm cc nL ret tab d w0 Q pc lv (.int y :: st) w) : rt_Go l s0 G own nm cc nL ret tab d w0 Q pc lv (.int x :: st) w := h ▸ k
end RTte
def jSk (g : Nat → Int32) : Nat → Nat → Nat
  | 0, p => p
  | k + 1, p => if g p = 9 ∨ g p = 10 ∨ g p = 13 ∨ g p = 32 then jSk g k (p + 1) else p
def jHex (c : Int32) : Int32 := if c < 48 then -1 else if ¬ 57 < c then c - 48 else if ¬ c < 97 ∧ ¬ 102 < c then c - 97 + 10 else if ¬ c < 65 ∧ ¬ 70 < c then c - 65 + 10 else -1
def jEsc (c : Int32) : Int32 := if c = 34 ∨ c = 47 ∨ c = 92 then c else if c = 98 then 8 else if c = 102 then 12 else if c = 110 then 10 else if c = 114 then 13 else if c = 116 then 9 else -1
def jFour (g : Nat → Int32) : Nat → Nat → Int32 → Except Nat Int32
  | 0, _, s => .ok s
  | k + 1, p, s => if jHex (g p) = -1 then .error p else jFour g k (p + 1) (s * 16 + jHex (g p))
def jStr (g : Nat → Int32) : Nat → Nat → List Int32 → Except Nat (List Int32 × Nat)
  | 0, p, _ => .error p
  | k + 1, p, a =>
    if g p = 34 then .ok (a, p + 1)
    else if g p = 92 then
      if g (p + 1) = 117 then
        match jFour g 4 (p + 2) 0 with
        | .error q => .error q
        | .ok s => if s ≤ 255 then jStr g k (p + 6) (a ++ [s]) else .error p
      else if jEsc (g (p + 1)) = -1 then .error (p + 1) else jStr g k (p + 2) (a ++ [jEsc (g (p + 1))])
    else if g p < 32 ∨ 126 < g p then .error p
    else jStr g k (p + 1) (a ++ [g p])
set_option maxRecDepth 100000 in
theorem j_skipL {l : Launch} {s0 : State} {a0 : Array Value} {G : va_G} {ca : Nat → ClassId} (Γ : rt_Γ l s0 a0 G ca) {d : Nat} {w v0 : rt_Wd} {t : Nat} {vals : Int32} {wrong : Int32} {k : Nat → Int32} {b : Nat → Int32} {nx : Nat → Int32} {fi : Nat → Int32} {pa : Nat → Int32} {wo : Nat → Int32} {ke : Nat → Int32} {nu : Nat → Int64} {le : Nat → Int32} {lu : Int32} (hd : 1 ≤ d) {tp n : Nat} {f : Nat → Int32} {u : Int32} {g : Nat → Int32} (hT : rt_C s0 ca w tp n f u) (hn : n < 2 ^ 31) (htp : tp + 1 < t ∨ t + 18 ≤ tp) (hg : ∀ p : Nat, p < 65536 → cl_peek n f u (nI p) = g p) (hok : rt_ok w) : ∀ m i p : Nat, i + m = 4096 → p + m < 65536 → rt_Go l s0 G RX8 "skipBlanks" cX8_skipBlanks 3 (Option.none : Option FieldType) [] d v0 (rt_is (.inl none) (rt_bk w t (tx_L s0 ca t (rt_r s0 tp) vals (nI (jSk g m p)) wrong k b nx fi pa wo ke nu le lu))) 2 [(1, .int (nI i)), (0, rt_r s0 t)] [] (rt_bk w t (tx_L s0 ca t (rt_r s0 tp) vals (nI p) wrong k b nx fi pa wo ke nu le lu)) := by
  intro m
  induction m with
  | zero =>
    intro i p hi hp
    obtain rfl : i = 4096 := by omega
    refine rt_iload_n dX8_skipBlanks_2 rfl (j := 0) rfl ?_
    refine rt_sipush (v := 4096) dX8_skipBlanks_3 (by decide) ?_
    refine rt_icmp_ge (tgt := 62) dX8_skipBlanks_6 (by decide) (fun _ => ?_) (fun c6 => absurd (by decide) c6)
    exact rt_vret dX8_skipBlanks_62 rfl (⟨rfl, rfl⟩)
  | succ m ih =>
    intro i p hi hp
    refine rt_iload_n dX8_skipBlanks_2 rfl (j := 0) rfl ?_
    refine rt_sipush (v := 4096) dX8_skipBlanks_3 (by decide) ?_
    refine rt_icmp_ge (tgt := 62) dX8_skipBlanks_6 (by decide) (fun c6 => absurd c6 (show ¬ nI 4096 ≤ nI i from nI_ge (by omega) (by decide))) (fun _ => ?_)
    refine rt_aload_n dX8_skipBlanks_9 rfl (j := 1) rfl ?_
    refine rt_bGet Γ kf_RX8_57 dX8_skipBlanks_10 (L := (tx_L s0 ca t (rt_r s0 tp) vals (nI p) wrong k b nx fi pa wo ke nu le lu)) rfl rfl ?_
    refine rt_aload_n dX8_skipBlanks_13 rfl (j := 1) rfl ?_
    refine rt_bGet Γ kf_RX8_67 dX8_skipBlanks_14 (L := (tx_L s0 ca t (rt_r s0 tp) vals (nI p) wrong k b nx fi pa wo ke nu le lu)) rfl rfl ?_
    refine rt_callV Γ kk_X0_peek kc_RX8_86 (c_X0_peek Γ (d := d - 1) (x := (nI p)) (hT.bk htp) hn) (by omega) (by decide) (As := [.int (nI p)]) (show (parseMethodDescriptor yX0_peek.desc).map (fun q => q.parameters.length) = some 1 by decide +kernel) hok (Nat.le_of_ble_eq_true rfl) dX8_skipBlanks_17 (hT.bk htp).1 rfl rfl rfl (rt_kr (st2 := [.int (cl_peek n f u (nI p))]) rfl ?_) rt_kx
    refine rt_te (y := g p) (hg p (by omega)) ?_
    refine rt_istore_n (lv' := [(2, .int (g p)), (1, .int (nI i)), (0, rt_r s0 t)]) dX8_skipBlanks_20 rfl (by decide) rfl ?_
    refine rt_iload_n dX8_skipBlanks_21 rfl (j := 0) rfl ?_
    refine rt_bipush (v := 9) dX8_skipBlanks_22 (by decide) ?_
    refine rt_icmp_eq (tgt := 46) dX8_skipBlanks_24 (by decide) (fun h1 => ?_) (fun h1 => ?_)
    · rw [show jSk g (m + 1) p = jSk g m (p + 1) from if_pos (Or.inl h1)]
      refine rt_aload_n dX8_skipBlanks_46 rfl (j := 2) rfl ?_
      refine rt_dup dX8_skipBlanks_47 rfl ?_
      refine rt_bGet Γ kf_RX8_67 dX8_skipBlanks_48 (L := (tx_L s0 ca t (rt_r s0 tp) vals (nI p) wrong k b nx fi pa wo ke nu le lu)) rfl rfl ?_
      refine rt_iconst (v := 1) dX8_skipBlanks_51 (by decide) ?_
      refine rt_iadd dX8_skipBlanks_52 ?_
      refine rt_te (y := nI (p + 1)) (nI_1 _) ?_
      refine rt_bPut Γ kp_RX8_67 dX8_skipBlanks_53 (L := (tx_L s0 ca t (rt_r s0 tp) vals (nI p) wrong k b nx fi pa wo ke nu le lu)) rfl (Nat.le_of_ble_eq_true rfl) rfl rfl (L' := (tx_L s0 ca t (rt_r s0 tp) vals (nI (p + 1)) wrong k b nx fi pa wo ke nu le lu)) rfl ?_
      refine rt_iinc (v := nI (i + 1)) (lv' := [(1, .int (nI (i + 1))), (2, .int (g p)), (0, rt_r s0 t)]) dX8_skipBlanks_56 (j := 1) rfl ((nI_1 i).symm ▸ rfl) (by decide) rfl ?_
      refine rt_goto (tgt := 2) dX8_skipBlanks_59 (by decide) ?_
      exact rt_lfew [0, 2] rfl (ih (i + 1) (p + 1) (by omega) (by omega))
    · refine rt_iload_n dX8_skipBlanks_27 rfl (j := 0) rfl ?_
      refine rt_bipush (v := 10) dX8_skipBlanks_28 (by decide) ?_
      refine rt_icmp_eq (tgt := 46) dX8_skipBlanks_30 (by decide) (fun h2 => ?_) (fun h2 => ?_)
      · rw [show jSk g (m + 1) p = jSk g m (p + 1) from if_pos (Or.inr (Or.inl h2))]
        refine rt_aload_n dX8_skipBlanks_46 rfl (j := 2) rfl ?_
        refine rt_dup dX8_skipBlanks_47 rfl ?_
        refine rt_bGet Γ kf_RX8_67 dX8_skipBlanks_48 (L := (tx_L s0 ca t (rt_r s0 tp) vals (nI p) wrong k b nx fi pa wo ke nu le lu)) rfl rfl ?_
        refine rt_iconst (v := 1) dX8_skipBlanks_51 (by decide) ?_
        refine rt_iadd dX8_skipBlanks_52 ?_
        refine rt_te (y := nI (p + 1)) (nI_1 _) ?_
        refine rt_bPut Γ kp_RX8_67 dX8_skipBlanks_53 (L := (tx_L s0 ca t (rt_r s0 tp) vals (nI p) wrong k b nx fi pa wo ke nu le lu)) rfl (Nat.le_of_ble_eq_true rfl) rfl rfl (L' := (tx_L s0 ca t (rt_r s0 tp) vals (nI (p + 1)) wrong k b nx fi pa wo ke nu le lu)) rfl ?_
        refine rt_iinc (v := nI (i + 1)) (lv' := [(1, .int (nI (i + 1))), (2, .int (g p)), (0, rt_r s0 t)]) dX8_skipBlanks_56 (j := 1) rfl ((nI_1 i).symm ▸ rfl) (by decide) rfl ?_
        refine rt_goto (tgt := 2) dX8_skipBlanks_59 (by decide) ?_
        exact rt_lfew [0, 2] rfl (ih (i + 1) (p + 1) (by omega) (by omega))
      · refine rt_iload_n dX8_skipBlanks_33 rfl (j := 0) rfl ?_
        refine rt_bipush (v := 13) dX8_skipBlanks_34 (by decide) ?_
        refine rt_icmp_eq (tgt := 46) dX8_skipBlanks_36 (by decide) (fun h3 => ?_) (fun h3 => ?_)
        · rw [show jSk g (m + 1) p = jSk g m (p + 1) from if_pos (Or.inr (Or.inr (Or.inl h3)))]
          refine rt_aload_n dX8_skipBlanks_46 rfl (j := 2) rfl ?_
          refine rt_dup dX8_skipBlanks_47 rfl ?_
          refine rt_bGet Γ kf_RX8_67 dX8_skipBlanks_48 (L := (tx_L s0 ca t (rt_r s0 tp) vals (nI p) wrong k b nx fi pa wo ke nu le lu)) rfl rfl ?_
          refine rt_iconst (v := 1) dX8_skipBlanks_51 (by decide) ?_
          refine rt_iadd dX8_skipBlanks_52 ?_
          refine rt_te (y := nI (p + 1)) (nI_1 _) ?_
          refine rt_bPut Γ kp_RX8_67 dX8_skipBlanks_53 (L := (tx_L s0 ca t (rt_r s0 tp) vals (nI p) wrong k b nx fi pa wo ke nu le lu)) rfl (Nat.le_of_ble_eq_true rfl) rfl rfl (L' := (tx_L s0 ca t (rt_r s0 tp) vals (nI (p + 1)) wrong k b nx fi pa wo ke nu le lu)) rfl ?_
          refine rt_iinc (v := nI (i + 1)) (lv' := [(1, .int (nI (i + 1))), (2, .int (g p)), (0, rt_r s0 t)]) dX8_skipBlanks_56 (j := 1) rfl ((nI_1 i).symm ▸ rfl) (by decide) rfl ?_
          refine rt_goto (tgt := 2) dX8_skipBlanks_59 (by decide) ?_
          exact rt_lfew [0, 2] rfl (ih (i + 1) (p + 1) (by omega) (by omega))
        · refine rt_iload_n dX8_skipBlanks_39 rfl (j := 0) rfl ?_
          refine rt_bipush (v := 32) dX8_skipBlanks_40 (by decide) ?_
          refine rt_icmp_eq (tgt := 46) dX8_skipBlanks_42 (by decide) (fun h4 => ?_) (fun h4 => ?_)
          · rw [show jSk g (m + 1) p = jSk g m (p + 1) from if_pos (Or.inr (Or.inr (Or.inr h4)))]
            refine rt_aload_n dX8_skipBlanks_46 rfl (j := 2) rfl ?_
            refine rt_dup dX8_skipBlanks_47 rfl ?_
            refine rt_bGet Γ kf_RX8_67 dX8_skipBlanks_48 (L := (tx_L s0 ca t (rt_r s0 tp) vals (nI p) wrong k b nx fi pa wo ke nu le lu)) rfl rfl ?_
            refine rt_iconst (v := 1) dX8_skipBlanks_51 (by decide) ?_
            refine rt_iadd dX8_skipBlanks_52 ?_
            refine rt_te (y := nI (p + 1)) (nI_1 _) ?_
            refine rt_bPut Γ kp_RX8_67 dX8_skipBlanks_53 (L := (tx_L s0 ca t (rt_r s0 tp) vals (nI p) wrong k b nx fi pa wo ke nu le lu)) rfl (Nat.le_of_ble_eq_true rfl) rfl rfl (L' := (tx_L s0 ca t (rt_r s0 tp) vals (nI (p + 1)) wrong k b nx fi pa wo ke nu le lu)) rfl ?_
            refine rt_iinc (v := nI (i + 1)) (lv' := [(1, .int (nI (i + 1))), (2, .int (g p)), (0, rt_r s0 t)]) dX8_skipBlanks_56 (j := 1) rfl ((nI_1 i).symm ▸ rfl) (by decide) rfl ?_
            refine rt_goto (tgt := 2) dX8_skipBlanks_59 (by decide) ?_
            exact rt_lfew [0, 2] rfl (ih (i + 1) (p + 1) (by omega) (by omega))
          · rw [show jSk g (m + 1) p = p from if_neg (fun h => h.elim h1 (fun h => h.elim h2 (fun h => h.elim h3 h4)))]
            exact rt_vret dX8_skipBlanks_45 rfl (⟨rfl, rfl⟩)
set_option maxRecDepth 100000 in
theorem j_skip {l : Launch} {s0 : State} {a0 : Array Value} {G : va_G} {ca : Nat → ClassId} (Γ : rt_Γ l s0 a0 G ca) {d : Nat} {w : rt_Wd} {t : Nat} {vals : Int32} {wrong : Int32} {k : Nat → Int32} {b : Nat → Int32} {nx : Nat → Int32} {fi : Nat → Int32} {pa : Nat → Int32} {wo : Nat → Int32} {ke : Nat → Int32} {nu : Nat → Int64} {le : Nat → Int32} {lu : Int32} (hd : 1 ≤ d) {tp n : Nat} {f : Nat → Int32} {u : Int32} {g : Nat → Int32} (hT : rt_C s0 ca w tp n f u) (hn : n < 2 ^ 31) (htp : tp + 1 < t ∨ t + 18 ≤ tp) (hg : ∀ p : Nat, p < 65536 → cl_peek n f u (nI p) = g p) (hok : rt_ok w) {p : Nat} (hp : p < 60000) : rt_Met l s0 G (.code yX8_skipBlanks cX8_skipBlanks 3 (Option.none : Option FieldType)) yX8_skipBlanks d [rt_r s0 t] (rt_bk w t (tx_L s0 ca t (rt_r s0 tp) vals (nI p) wrong k b nx fi pa wo ke nu le lu)) (rt_is (.inl none) (rt_bk w t (tx_L s0 ca t (rt_r s0 tp) vals (nI (jSk g 4096 p)) wrong k b nx fi pa wo ke nu le lu))) := by
  refine rt_met Γ kk_X8_skipBlanks rfl (Nat.le_of_ble_eq_true rfl) rfl ?_
  refine rt_iconst (v := 0) dX8_skipBlanks_0 (by decide) ?_
  refine rt_istore_n (lv' := [(1, .int 0), (0, rt_r s0 t)]) dX8_skipBlanks_1 rfl (by decide) rfl ?_
  exact j_skipL Γ hd hT hn htp hg hok 4096 0 p rfl (by omega)
