/-! ===== texts: what a text's bytes say; the class's Text ===== -/
section RTte
variable {l : Launch} {s0 : State} {G : va_G} {own nm : String} {cc : ByteArray} {nL : Nat} {ret : Option FieldType} {tab : List ExceptionTableEntry} {d : Nat} {w0 w : rt_Wd} {Q : rt_Res → rt_Wd → Prop} {pc : Nat} {lv : List (Nat × Value)} {st : List Value}
theorem rt_te {x y : Int32} (h : x = y) (k : rt_Go l s0 G own nm cc nL ret tab d w0 Q pc lv (.int y :: st) w) : rt_Go l s0 G own nm cc nL ret tab d w0 Q pc lv (.int x :: st) w := h ▸ k
end RTte
def jSk (g : Nat → Int32) : Nat → Nat → Nat
  | 0, p => p
  | k + 1, p => if g p = 9 ∨ g p = 10 ∨ g p = 13 ∨ g p = 32 then jSk g k (p + 1) else p
def jHex (c : Int32) : Int32 := if c < 48 then -1 else if ¬ 57 < c then c - 48 else if ¬ c < 97 ∧ ¬ 102 < c then c - 97 + 10 else if ¬ c < 65 ∧ ¬ 70 < c then c - 65 + 10 else -1
def jEsc (c : Int32) : Int32 := if c = 34 ∨ c = 47 ∨ c = 92 then c else if c = 98 then 8 else if c = 102 then 12 else if c = 110 then 10 else if c = 114 then 13 else if c = 116 then 9 else -1
def jFour (g : Nat → Int32) : Nat → Nat → Int32 → Except Nat Int32
  | 0, _, s => .ok s
  | k + 1, p, s => if jHex (g p) = -1 then .error p else jFour g k (p + 1) (s * 16 + jHex (g p))
def jCons (c : Int32) : Except Nat (List Int32 × Nat) → Except Nat (List Int32 × Nat)
  | .error e => .error e
  | .ok (ws, q) => .ok (c :: ws, q)
def jStr (g : Nat → Int32) : Nat → Nat → Except Nat (List Int32 × Nat)
  | 0, p => .error p
  | m + 1, p =>
    if g p = 34 then .ok ([], p + 1)
    else if g p = 92 then
      if g (p + 1) = 117 then
        match jFour g 4 (p + 2) 0 with
        | .error q => .error q
        | .ok s => if s ≤ 255 then jCons s (jStr g m (p + 6)) else .error p
      else if jEsc (g (p + 1)) = -1 then .error (p + 1) else jCons (jEsc (g (p + 1))) (jStr g m (p + 2))
    else if g p < 32 then .error p
    else if g p ≤ 126 then jCons (g p) (jStr g m (p + 1))
    else .error p
def jApp (le : Nat → Int32) : Nat → List Int32 → (Nat → Int32)
  | _, [] => le
  | L, c :: ws => jApp (upd le L c) (L + 1) ws
theorem i_lit {v c : Int32} {z : Int} (h : ¬ v = c) (hz : c.toInt = z) : ¬ z = v.toInt := fun e => h (Int32.toInt_inj.mp (by rw [← e, hz]))
theorem cl_putN {n : Nat} {f : Nat → Int32} {i : Nat} {v : Int32} (h : i < n) (hn : n < 2 ^ 31) : cl_put n f (nI i) v = upd f i v := by
  unfold cl_put
  rw [if_neg (nI_pos (by omega)), if_neg (nI_ge h hn), nI_clamp (by omega)]
set_option maxRecDepth 100000 in
theorem j_skipL {l : Launch} {s0 : State} {a0 : Array Value} {G : va_G} {ca : Nat → ClassId} (Γ : rt_Γ l s0 a0 G ca) {d : Nat} {w v0 : rt_Wd} {t : Nat} {vals : Int32} {wrong : Int32} {k : Nat → Int32} {b : Nat → Int32} {nx : Nat → Int32} {fi : Nat → Int32} {pa : Nat → Int32} {wo : Nat → Int32} {ke : Nat → Int32} {nu : Nat → Int64} {le : Nat → Int32} {lu : Int32} (hd : 1 ≤ d) {tp n : Nat} {f : Nat → Int32} {u : Int32} {g : Nat → Int32} (hT : rt_C s0 ca w tp n f u) (hn : n < 2 ^ 31) (htp : tp + 1 < t ∨ t + 18 ≤ tp) (hg : ∀ p : Nat, p < 65536 → cl_peek n f u (nI p) = g p) (hok : rt_ok w) : ∀ m i p : Nat, i + m = 4096 → p + m < 65536 → rt_Go l s0 G RX8 "skipBlanks" cX8_skipBlanks 3 (Option.none : Option FieldType) [] d v0 (rt_is (.inl none) (rt_bk w t (tx_L s0 ca t (rt_r s0 tp) vals (nI (jSk g m p)) wrong k b nx fi pa wo ke nu le lu))) 2 [(1, .int (nI i)), (0, rt_r s0 t)] [] (rt_bk w t (tx_L s0 ca t (rt_r s0 tp) vals (nI p) wrong k b nx fi pa wo ke nu le lu)) := by
  intro m
  induction m with
  | zero =>
    intro i p hi hp
    obtain rfl : i = 4096 := by omega
    refine rt_iload_n dX8_skipBlanks_2 rfl (j := 0) rfl ?_
    refine rt_sipush (v := 4096) dX8_skipBlanks_3 (by decide) ?_
    refine rt_icmp_ge (tgt := 62) dX8_skipBlanks_6 (by decide) (fun _ => ?_) (fun c6 => absurd (by decide) c6)
    exact rt_vret dX8_skipBlanks_62 rfl (⟨rfl, rfl⟩)
  | succ m ih =>
    intro i p hi hp
    refine rt_iload_n dX8_skipBlanks_2 rfl (j := 0) rfl ?_
    refine rt_sipush (v := 4096) dX8_skipBlanks_3 (by decide) ?_
    refine rt_icmp_ge (tgt := 62) dX8_skipBlanks_6 (by decide) (fun c6 => absurd c6 (show ¬ nI 4096 ≤ nI i from nI_ge (by omega) (by decide))) (fun _ => ?_)
    refine rt_aload_n dX8_skipBlanks_9 rfl (j := 1) rfl ?_
    refine rt_bGet Γ kf_RX8_57 dX8_skipBlanks_10 (L := (tx_L s0 ca t (rt_r s0 tp) vals (nI p) wrong k b nx fi pa wo ke nu le lu)) rfl rfl ?_
    refine rt_aload_n dX8_skipBlanks_13 rfl (j := 1) rfl ?_
    refine rt_bGet Γ kf_RX8_67 dX8_skipBlanks_14 (L := (tx_L s0 ca t (rt_r s0 tp) vals (nI p) wrong k b nx fi pa wo ke nu le lu)) rfl rfl ?_
    refine rt_callV Γ kk_X0_peek kc_RX8_86 (c_X0_peek Γ (d := d - 1) (x := (nI p)) (hT.bk htp) hn) (by omega) (by decide) (As := [.int (nI p)]) (show (parseMethodDescriptor yX0_peek.desc).map (fun q => q.parameters.length) = some 1 by decide +kernel) hok (Nat.le_of_ble_eq_true rfl) dX8_skipBlanks_17 (hT.bk htp).1 rfl rfl rfl (rt_kr (st2 := [.int (cl_peek n f u (nI p))]) rfl ?_) rt_kx
    refine rt_te (y := g p) (hg p (by omega)) ?_
    refine rt_istore_n (lv' := [(2, .int (g p)), (1, .int (nI i)), (0, rt_r s0 t)]) dX8_skipBlanks_20 rfl (by decide) rfl ?_
    refine rt_iload_n dX8_skipBlanks_21 rfl (j := 0) rfl ?_
    refine rt_bipush (v := 9) dX8_skipBlanks_22 (by decide) ?_
    refine rt_icmp_eq (tgt := 46) dX8_skipBlanks_24 (by decide) (fun h1 => ?_) (fun h1 => ?_)
    · rw [show jSk g (m + 1) p = jSk g m (p + 1) from if_pos (Or.inl h1)]
      refine rt_aload_n dX8_skipBlanks_46 rfl (j := 2) rfl ?_
      refine rt_dup dX8_skipBlanks_47 rfl ?_
      refine rt_bGet Γ kf_RX8_67 dX8_skipBlanks_48 (L := (tx_L s0 ca t (rt_r s0 tp) vals (nI p) wrong k b nx fi pa wo ke nu le lu)) rfl rfl ?_
      refine rt_iconst (v := 1) dX8_skipBlanks_51 (by decide) ?_
      refine rt_iadd dX8_skipBlanks_52 ?_
      refine rt_te (y := nI (p + 1)) (nI_1 _) ?_
      refine rt_bPut Γ kp_RX8_67 dX8_skipBlanks_53 (L := (tx_L s0 ca t (rt_r s0 tp) vals (nI p) wrong k b nx fi pa wo ke nu le lu)) rfl (Nat.le_of_ble_eq_true rfl) rfl rfl (L' := (tx_L s0 ca t (rt_r s0 tp) vals (nI (p + 1)) wrong k b nx fi pa wo ke nu le lu)) rfl ?_
      refine rt_iinc (v := nI (i + 1)) (lv' := [(1, .int (nI (i + 1))), (2, .int (g p)), (0, rt_r s0 t)]) dX8_skipBlanks_56 (j := 1) rfl ((nI_1 i).symm ▸ rfl) (by decide) rfl ?_
      refine rt_goto (tgt := 2) dX8_skipBlanks_59 (by decide) ?_
      exact rt_lfew [0, 2] rfl (ih (i + 1) (p + 1) (by omega) (by omega))
    · refine rt_iload_n dX8_skipBlanks_27 rfl (j := 0) rfl ?_
      refine rt_bipush (v := 10) dX8_skipBlanks_28 (by decide) ?_
      refine rt_icmp_eq (tgt := 46) dX8_skipBlanks_30 (by decide) (fun h2 => ?_) (fun h2 => ?_)
      · rw [show jSk g (m + 1) p = jSk g m (p + 1) from if_pos (Or.inr (Or.inl h2))]
        refine rt_aload_n dX8_skipBlanks_46 rfl (j := 2) rfl ?_
        refine rt_dup dX8_skipBlanks_47 rfl ?_
        refine rt_bGet Γ kf_RX8_67 dX8_skipBlanks_48 (L := (tx_L s0 ca t (rt_r s0 tp) vals (nI p) wrong k b nx fi pa wo ke nu le lu)) rfl rfl ?_
        refine rt_iconst (v := 1) dX8_skipBlanks_51 (by decide) ?_
        refine rt_iadd dX8_skipBlanks_52 ?_
        refine rt_te (y := nI (p + 1)) (nI_1 _) ?_
        refine rt_bPut Γ kp_RX8_67 dX8_skipBlanks_53 (L := (tx_L s0 ca t (rt_r s0 tp) vals (nI p) wrong k b nx fi pa wo ke nu le lu)) rfl (Nat.le_of_ble_eq_true rfl) rfl rfl (L' := (tx_L s0 ca t (rt_r s0 tp) vals (nI (p + 1)) wrong k b nx fi pa wo ke nu le lu)) rfl ?_
        refine rt_iinc (v := nI (i + 1)) (lv' := [(1, .int (nI (i + 1))), (2, .int (g p)), (0, rt_r s0 t)]) dX8_skipBlanks_56 (j := 1) rfl ((nI_1 i).symm ▸ rfl) (by decide) rfl ?_
        refine rt_goto (tgt := 2) dX8_skipBlanks_59 (by decide) ?_
        exact rt_lfew [0, 2] rfl (ih (i + 1) (p + 1) (by omega) (by omega))
      · refine rt_iload_n dX8_skipBlanks_33 rfl (j := 0) rfl ?_
        refine rt_bipush (v := 13) dX8_skipBlanks_34 (by decide) ?_
        refine rt_icmp_eq (tgt := 46) dX8_skipBlanks_36 (by decide) (fun h3 => ?_) (fun h3 => ?_)
        · rw [show jSk g (m + 1) p = jSk g m (p + 1) from if_pos (Or.inr (Or.inr (Or.inl h3)))]
          refine rt_aload_n dX8_skipBlanks_46 rfl (j := 2) rfl ?_
          refine rt_dup dX8_skipBlanks_47 rfl ?_
          refine rt_bGet Γ kf_RX8_67 dX8_skipBlanks_48 (L := (tx_L s0 ca t (rt_r s0 tp) vals (nI p) wrong k b nx fi pa wo ke nu le lu)) rfl rfl ?_
          refine rt_iconst (v := 1) dX8_skipBlanks_51 (by decide) ?_
          refine rt_iadd dX8_skipBlanks_52 ?_
          refine rt_te (y := nI (p + 1)) (nI_1 _) ?_
          refine rt_bPut Γ kp_RX8_67 dX8_skipBlanks_53 (L := (tx_L s0 ca t (rt_r s0 tp) vals (nI p) wrong k b nx fi pa wo ke nu le lu)) rfl (Nat.le_of_ble_eq_true rfl) rfl rfl (L' := (tx_L s0 ca t (rt_r s0 tp) vals (nI (p + 1)) wrong k b nx fi pa wo ke nu le lu)) rfl ?_
          refine rt_iinc (v := nI (i + 1)) (lv' := [(1, .int (nI (i + 1))), (2, .int (g p)), (0, rt_r s0 t)]) dX8_skipBlanks_56 (j := 1) rfl ((nI_1 i).symm ▸ rfl) (by decide) rfl ?_
          refine rt_goto (tgt := 2) dX8_skipBlanks_59 (by decide) ?_
          exact rt_lfew [0, 2] rfl (ih (i + 1) (p + 1) (by omega) (by omega))
        · refine rt_iload_n dX8_skipBlanks_39 rfl (j := 0) rfl ?_
          refine rt_bipush (v := 32) dX8_skipBlanks_40 (by decide) ?_
          refine rt_icmp_eq (tgt := 46) dX8_skipBlanks_42 (by decide) (fun h4 => ?_) (fun h4 => ?_)
          · rw [show jSk g (m + 1) p = jSk g m (p + 1) from if_pos (Or.inr (Or.inr (Or.inr h4)))]
            refine rt_aload_n dX8_skipBlanks_46 rfl (j := 2) rfl ?_
            refine rt_dup dX8_skipBlanks_47 rfl ?_
            refine rt_bGet Γ kf_RX8_67 dX8_skipBlanks_48 (L := (tx_L s0 ca t (rt_r s0 tp) vals (nI p) wrong k b nx fi pa wo ke nu le lu)) rfl rfl ?_
            refine rt_iconst (v := 1) dX8_skipBlanks_51 (by decide) ?_
            refine rt_iadd dX8_skipBlanks_52 ?_
            refine rt_te (y := nI (p + 1)) (nI_1 _) ?_
            refine rt_bPut Γ kp_RX8_67 dX8_skipBlanks_53 (L := (tx_L s0 ca t (rt_r s0 tp) vals (nI p) wrong k b nx fi pa wo ke nu le lu)) rfl (Nat.le_of_ble_eq_true rfl) rfl rfl (L' := (tx_L s0 ca t (rt_r s0 tp) vals (nI (p + 1)) wrong k b nx fi pa wo ke nu le lu)) rfl ?_
            refine rt_iinc (v := nI (i + 1)) (lv' := [(1, .int (nI (i + 1))), (2, .int (g p)), (0, rt_r s0 t)]) dX8_skipBlanks_56 (j := 1) rfl ((nI_1 i).symm ▸ rfl) (by decide) rfl ?_
            refine rt_goto (tgt := 2) dX8_skipBlanks_59 (by decide) ?_
            exact rt_lfew [0, 2] rfl (ih (i + 1) (p + 1) (by omega) (by omega))
          · rw [show jSk g (m + 1) p = p from if_neg (fun h => h.elim h1 (fun h => h.elim h2 (fun h => h.elim h3 h4)))]
            exact rt_vret dX8_skipBlanks_45 rfl (⟨rfl, rfl⟩)
set_option maxRecDepth 100000 in
theorem j_skip {l : Launch} {s0 : State} {a0 : Array Value} {G : va_G} {ca : Nat → ClassId} (Γ : rt_Γ l s0 a0 G ca) {d : Nat} {w : rt_Wd} {t : Nat} {vals : Int32} {wrong : Int32} {k : Nat → Int32} {b : Nat → Int32} {nx : Nat → Int32} {fi : Nat → Int32} {pa : Nat → Int32} {wo : Nat → Int32} {ke : Nat → Int32} {nu : Nat → Int64} {le : Nat → Int32} {lu : Int32} (hd : 1 ≤ d) {tp n : Nat} {f : Nat → Int32} {u : Int32} {g : Nat → Int32} (hT : rt_C s0 ca w tp n f u) (hn : n < 2 ^ 31) (htp : tp + 1 < t ∨ t + 18 ≤ tp) (hg : ∀ p : Nat, p < 65536 → cl_peek n f u (nI p) = g p) (hok : rt_ok w) {p : Nat} (hp : p < 60000) : rt_Met l s0 G (.code yX8_skipBlanks cX8_skipBlanks 3 (Option.none : Option FieldType)) yX8_skipBlanks d [rt_r s0 t] (rt_bk w t (tx_L s0 ca t (rt_r s0 tp) vals (nI p) wrong k b nx fi pa wo ke nu le lu)) (rt_is (.inl none) (rt_bk w t (tx_L s0 ca t (rt_r s0 tp) vals (nI (jSk g 4096 p)) wrong k b nx fi pa wo ke nu le lu))) := by
  refine rt_met Γ kk_X8_skipBlanks rfl (Nat.le_of_ble_eq_true rfl) rfl ?_
  refine rt_iconst (v := 0) dX8_skipBlanks_0 (by decide) ?_
  refine rt_istore_n (lv' := [(1, .int 0), (0, rt_r s0 t)]) dX8_skipBlanks_1 rfl (by decide) rfl ?_
  exact j_skipL Γ hd hT hn htp hg hok 4096 0 p rfl (by omega)
set_option maxRecDepth 100000 in
theorem j_hex {l : Launch} {s0 : State} {a0 : Array Value} {G : va_G} {ca : Nat → ClassId} (Γ : rt_Γ l s0 a0 G ca) {d : Nat} {w : rt_Wd} {v : Int32} : rt_Met l s0 G (.code yX8_hexDigit cX8_hexDigit 1 (Option.some FieldType.int)) yX8_hexDigit d [.int v] w (rt_is (.inl (some (.int (jHex v)))) w) := by
  refine rt_met Γ kk_X8_hexDigit rfl (Nat.le_of_ble_eq_true rfl) rfl ?_
  refine rt_iload_n dX8_hexDigit_0 rfl (j := 0) rfl ?_
  refine rt_bipush (v := 48) dX8_hexDigit_1 (by decide) ?_
  refine rt_icmp_lt (tgt := 17) dX8_hexDigit_3 (by decide) (fun c3 => ?_) (fun c3 => ?_)
  · refine rt_iload_n dX8_hexDigit_17 rfl (j := 0) rfl ?_
    refine rt_bipush (v := 97) dX8_hexDigit_18 (by decide) ?_
    refine rt_icmp_lt (tgt := 37) dX8_hexDigit_20 (by decide) (fun _ => ?_) (fun c20 => absurd (Int32.lt_trans c3 (by decide)) c20)
    refine rt_iload_n dX8_hexDigit_37 rfl (j := 0) rfl ?_
    refine rt_bipush (v := 65) dX8_hexDigit_38 (by decide) ?_
    refine rt_icmp_lt (tgt := 57) dX8_hexDigit_40 (by decide) (fun _ => ?_) (fun c40 => absurd (Int32.lt_trans c3 (by decide)) c40)
    refine rt_iconst (v := (-1)) dX8_hexDigit_57 (by decide) ?_
    exact rt_iret dX8_hexDigit_58 rfl (⟨by unfold jHex; rw [if_pos c3], rfl⟩)
  · refine rt_iload_n dX8_hexDigit_6 rfl (j := 0) rfl ?_
    refine rt_bipush (v := 57) dX8_hexDigit_7 (by decide) ?_
    refine rt_icmp_gt (tgt := 17) dX8_hexDigit_9 (by decide) (fun c9 => ?_) (fun c9 => ?_)
    · refine rt_iload_n dX8_hexDigit_17 rfl (j := 0) rfl ?_
      refine rt_bipush (v := 97) dX8_hexDigit_18 (by decide) ?_
      refine rt_icmp_lt (tgt := 37) dX8_hexDigit_20 (by decide) (fun c20 => ?_) (fun c20 => ?_)
      · refine rt_iload_n dX8_hexDigit_37 rfl (j := 0) rfl ?_
        refine rt_bipush (v := 65) dX8_hexDigit_38 (by decide) ?_
        refine rt_icmp_lt (tgt := 57) dX8_hexDigit_40 (by decide) (fun c40 => ?_) (fun c40 => ?_)
        · refine rt_iconst (v := (-1)) dX8_hexDigit_57 (by decide) ?_
          exact rt_iret dX8_hexDigit_58 rfl (⟨by unfold jHex; rw [if_neg c3, if_neg (fun h => h c9), if_neg (fun h => h.1 c20), if_neg (fun h => h.1 c40)], rfl⟩)
        · refine rt_iload_n dX8_hexDigit_43 rfl (j := 0) rfl ?_
          refine rt_bipush (v := 70) dX8_hexDigit_44 (by decide) ?_
          refine rt_icmp_gt (tgt := 57) dX8_hexDigit_46 (by decide) (fun c46 => ?_) (fun c46 => ?_)
          · refine rt_iconst (v := (-1)) dX8_hexDigit_57 (by decide) ?_
            exact rt_iret dX8_hexDigit_58 rfl (⟨by unfold jHex; rw [if_neg c3, if_neg (fun h => h c9), if_neg (fun h => h.1 c20), if_neg (fun h => h.2 c46)], rfl⟩)
          · refine rt_iload_n dX8_hexDigit_49 rfl (j := 0) rfl ?_
            refine rt_bipush (v := 65) dX8_hexDigit_50 (by decide) ?_
            refine rt_isub dX8_hexDigit_52 ?_
            refine rt_bipush (v := 10) dX8_hexDigit_53 (by decide) ?_
            refine rt_iadd dX8_hexDigit_55 ?_
            exact rt_iret dX8_hexDigit_56 rfl (⟨by unfold jHex; rw [if_neg c3, if_neg (fun h => h c9), if_neg (fun h => h.1 c20), if_pos ⟨c40, c46⟩], rfl⟩)
      · refine rt_iload_n dX8_hexDigit_23 rfl (j := 0) rfl ?_
        refine rt_bipush (v := 102) dX8_hexDigit_24 (by decide) ?_
        refine rt_icmp_gt (tgt := 37) dX8_hexDigit_26 (by decide) (fun c26 => ?_) (fun c26 => ?_)
        · refine rt_iload_n dX8_hexDigit_37 rfl (j := 0) rfl ?_
          refine rt_bipush (v := 65) dX8_hexDigit_38 (by decide) ?_
          refine rt_icmp_lt (tgt := 57) dX8_hexDigit_40 (by decide) (fun c40 => ?_) (fun c40 => ?_)
          · refine rt_iconst (v := (-1)) dX8_hexDigit_57 (by decide) ?_
            exact rt_iret dX8_hexDigit_58 rfl (⟨by unfold jHex; rw [if_neg c3, if_neg (fun h => h c9), if_neg (fun h => h.2 c26), if_neg (fun h => h.1 c40)], rfl⟩)
          · refine rt_iload_n dX8_hexDigit_43 rfl (j := 0) rfl ?_
            refine rt_bipush (v := 70) dX8_hexDigit_44 (by decide) ?_
            refine rt_icmp_gt (tgt := 57) dX8_hexDigit_46 (by decide) (fun c46 => ?_) (fun c46 => ?_)
            · refine rt_iconst (v := (-1)) dX8_hexDigit_57 (by decide) ?_
              exact rt_iret dX8_hexDigit_58 rfl (⟨by unfold jHex; rw [if_neg c3, if_neg (fun h => h c9), if_neg (fun h => h.2 c26), if_neg (fun h => h.2 c46)], rfl⟩)
            · refine rt_iload_n dX8_hexDigit_49 rfl (j := 0) rfl ?_
              refine rt_bipush (v := 65) dX8_hexDigit_50 (by decide) ?_
              refine rt_isub dX8_hexDigit_52 ?_
              refine rt_bipush (v := 10) dX8_hexDigit_53 (by decide) ?_
              refine rt_iadd dX8_hexDigit_55 ?_
              exact rt_iret dX8_hexDigit_56 rfl (⟨by unfold jHex; rw [if_neg c3, if_neg (fun h => h c9), if_neg (fun h => h.2 c26), if_pos ⟨c40, c46⟩], rfl⟩)
        · refine rt_iload_n dX8_hexDigit_29 rfl (j := 0) rfl ?_
          refine rt_bipush (v := 97) dX8_hexDigit_30 (by decide) ?_
          refine rt_isub dX8_hexDigit_32 ?_
          refine rt_bipush (v := 10) dX8_hexDigit_33 (by decide) ?_
          refine rt_iadd dX8_hexDigit_35 ?_
          exact rt_iret dX8_hexDigit_36 rfl (⟨by unfold jHex; rw [if_neg c3, if_neg (fun h => h c9), if_pos ⟨c20, c26⟩], rfl⟩)
    · refine rt_iload_n dX8_hexDigit_12 rfl (j := 0) rfl ?_
      refine rt_bipush (v := 48) dX8_hexDigit_13 (by decide) ?_
      refine rt_isub dX8_hexDigit_15 ?_
      exact rt_iret dX8_hexDigit_16 rfl (⟨by unfold jHex; rw [if_neg c3, if_pos c9], rfl⟩)
set_option maxRecDepth 100000 in
theorem j_esc {l : Launch} {s0 : State} {a0 : Array Value} {G : va_G} {ca : Nat → ClassId} (Γ : rt_Γ l s0 a0 G ca) {d : Nat} {w : rt_Wd} {v : Int32} : rt_Met l s0 G (.code yX8_escaped cX8_escaped 1 (Option.some FieldType.int)) yX8_escaped d [.int v] w (rt_is (.inl (some (.int (jEsc v)))) w) := by
  refine rt_met Γ kk_X8_escaped rfl (Nat.le_of_ble_eq_true rfl) rfl ?_
  refine rt_iload_n dX8_escaped_0 rfl (j := 0) rfl ?_
  by_cases h34 : v = 34
  · subst h34
    refine rt_lookup (tgt := 76) (off := 75) dX8_escaped_1 (by decide) (by decide) (by decide) ?_
    refine rt_iload_n dX8_escaped_76 rfl (j := 0) rfl ?_
    exact rt_iret dX8_escaped_77 rfl (⟨by decide, rfl⟩)
  by_cases h47 : v = 47
  · subst h47
    refine rt_lookup (tgt := 76) (off := 75) dX8_escaped_1 (by decide) (by decide) (by decide) ?_
    refine rt_iload_n dX8_escaped_76 rfl (j := 0) rfl ?_
    exact rt_iret dX8_escaped_77 rfl (⟨by decide, rfl⟩)
  by_cases h92 : v = 92
  · subst h92
    refine rt_lookup (tgt := 76) (off := 75) dX8_escaped_1 (by decide) (by decide) (by decide) ?_
    refine rt_iload_n dX8_escaped_76 rfl (j := 0) rfl ?_
    exact rt_iret dX8_escaped_77 rfl (⟨by decide, rfl⟩)
  by_cases h98 : v = 98
  · subst h98
    refine rt_lookup (tgt := 78) (off := 77) dX8_escaped_1 (by decide) (by decide) (by decide) ?_
    refine rt_bipush (v := 8) dX8_escaped_78 (by decide) ?_
    exact rt_iret dX8_escaped_80 rfl (⟨by decide, rfl⟩)
  by_cases h102 : v = 102
  · subst h102
    refine rt_lookup (tgt := 81) (off := 80) dX8_escaped_1 (by decide) (by decide) (by decide) ?_
    refine rt_bipush (v := 12) dX8_escaped_81 (by decide) ?_
    exact rt_iret dX8_escaped_83 rfl (⟨by decide, rfl⟩)
  by_cases h110 : v = 110
  · subst h110
    refine rt_lookup (tgt := 84) (off := 83) dX8_escaped_1 (by decide) (by decide) (by decide) ?_
    refine rt_bipush (v := 10) dX8_escaped_84 (by decide) ?_
    exact rt_iret dX8_escaped_86 rfl (⟨by decide, rfl⟩)
  by_cases h114 : v = 114
  · subst h114
    refine rt_lookup (tgt := 87) (off := 86) dX8_escaped_1 (by decide) (by decide) (by decide) ?_
    refine rt_bipush (v := 13) dX8_escaped_87 (by decide) ?_
    exact rt_iret dX8_escaped_89 rfl (⟨by decide, rfl⟩)
  by_cases h116 : v = 116
  · subst h116
    refine rt_lookup (tgt := 90) (off := 89) dX8_escaped_1 (by decide) (by decide) (by decide) ?_
    refine rt_bipush (v := 9) dX8_escaped_90 (by decide) ?_
    exact rt_iret dX8_escaped_92 rfl (⟨by decide, rfl⟩)
  refine rt_lookup (tgt := 93) (off := 92) dX8_escaped_1 (by decide) ?_ (by decide) ?_
  · show Op.lookupswitch.offset [(34, 75), (47, 75), (92, 75), (98, 77), (102, 80), (110, 83), (114, 86), (116, 89)] 92 v.toInt = 92
    simp only [Op.lookupswitch.offset]
    rw [if_neg (i_lit h34 (z := 34) (by decide)), if_neg (i_lit h47 (z := 47) (by decide)), if_neg (i_lit h92 (z := 92) (by decide)), if_neg (i_lit h98 (z := 98) (by decide)), if_neg (i_lit h102 (z := 102) (by decide)), if_neg (i_lit h110 (z := 110) (by decide)), if_neg (i_lit h114 (z := 114) (by decide)), if_neg (i_lit h116 (z := 116) (by decide))]
  refine rt_iconst (v := (-1)) dX8_escaped_93 (by decide) ?_
  exact rt_iret dX8_escaped_94 rfl (⟨by unfold jEsc; rw [if_neg (fun h => h.elim h34 (fun h => h.elim h47 h92)), if_neg h98, if_neg h102, if_neg h110, if_neg h114, if_neg h116], rfl⟩)
set_option maxRecDepth 100000 in
theorem j_escF {l : Launch} {s0 : State} {a0 : Array Value} {G : va_G} {ca : Nat → ClassId} (Γ : rt_Γ l s0 a0 G ca) {d : Nat} {w : rt_Wd} {t : Nat} {vals : Int32} {k : Nat → Int32} {b : Nat → Int32} {nx : Nat → Int32} {fi : Nat → Int32} {pa : Nat → Int32} {wo : Nat → Int32} {ke : Nat → Int32} {nu : Nat → Int64} {le : Nat → Int32} (hd : 1 ≤ d) {tp n : Nat} {f : Nat → Int32} {u : Int32} {g : Nat → Int32} (hT : rt_C s0 ca w tp n f u) (hn : n < 2 ^ 31) (htp : tp + 1 < t ∨ t + 18 ≤ tp) (hg : ∀ p : Nat, p < 65536 → cl_peek n f u (nI p) = g p) (hok : rt_ok w) {p L : Nat} (hp : p < 60000) (h : jEsc (g (p + 1)) = -1) : rt_Met l s0 G (.code yX8_parseEscape cX8_parseEscape 2 (Option.none : Option FieldType)) yX8_parseEscape d [rt_r s0 t] (rt_bk w t (tx_L s0 ca t (rt_r s0 tp) vals (nI p) (-1) k b nx fi pa wo ke nu le (nI L))) (rt_is (.inl none) (rt_bk w t (tx_L s0 ca t (rt_r s0 tp) vals (nI (p + 1)) (nI (p + 1)) k b nx fi pa wo ke nu le (nI L)))) := by
  refine rt_met Γ kk_X8_parseEscape rfl (Nat.le_of_ble_eq_true rfl) rfl ?_
  refine rt_aload_n dX8_parseEscape_0 rfl (j := 0) rfl ?_
  refine rt_dup dX8_parseEscape_1 rfl ?_
  refine rt_bGet Γ kf_RX8_67 dX8_parseEscape_2 (L := (tx_L s0 ca t (rt_r s0 tp) vals (nI p) (-1) k b nx fi pa wo ke nu le (nI L))) rfl rfl ?_
  refine rt_iconst (v := 1) dX8_parseEscape_5 (by decide) ?_
  refine rt_iadd dX8_parseEscape_6 ?_
  refine rt_te (y := nI (p + 1)) (nI_1 _) ?_
  refine rt_bPut Γ kp_RX8_67 dX8_parseEscape_7 (L := (tx_L s0 ca t (rt_r s0 tp) vals (nI p) (-1) k b nx fi pa wo ke nu le (nI L))) rfl (Nat.le_of_ble_eq_true rfl) rfl rfl (L' := (tx_L s0 ca t (rt_r s0 tp) vals (nI (p + 1)) (-1) k b nx fi pa wo ke nu le (nI L))) rfl ?_
  refine rt_aload_n dX8_parseEscape_10 rfl (j := 0) rfl ?_
  refine rt_bGet Γ kf_RX8_57 dX8_parseEscape_11 (L := (tx_L s0 ca t (rt_r s0 tp) vals (nI (p + 1)) (-1) k b nx fi pa wo ke nu le (nI L))) rfl rfl ?_
  refine rt_aload_n dX8_parseEscape_14 rfl (j := 0) rfl ?_
  refine rt_bGet Γ kf_RX8_67 dX8_parseEscape_15 (L := (tx_L s0 ca t (rt_r s0 tp) vals (nI (p + 1)) (-1) k b nx fi pa wo ke nu le (nI L))) rfl rfl ?_
  refine rt_callV Γ kk_X0_peek kc_RX8_86 (c_X0_peek Γ (d := d - 1) (x := (nI (p + 1))) (hT.bk htp) hn) (by omega) (by decide) (As := [.int (nI (p + 1))]) (show (parseMethodDescriptor yX0_peek.desc).map (fun q => q.parameters.length) = some 1 by decide +kernel) hok (Nat.le_of_ble_eq_true rfl) dX8_parseEscape_18 (hT.bk htp).1 rfl rfl rfl (rt_kr (st2 := [.int (cl_peek n f u (nI (p + 1)))]) rfl ?_) rt_kx
  refine rt_te (y := g (p + 1)) (hg (p + 1) (by omega)) ?_
  refine rt_callS Γ kk_X8_escaped kc_RX8_154 (j_esc Γ (d := d - 1)) (by omega) (by decide) (As := [.int (g (p + 1))]) (show (parseMethodDescriptor yX8_escaped.desc).map (fun q => q.parameters.length) = some 1 by decide +kernel) hok (Nat.le_of_ble_eq_true rfl) dX8_parseEscape_21 rfl rfl (rt_kr (st2 := [.int (jEsc (g (p + 1)))]) rfl ?_) rt_kx
  refine rt_istore_n (lv' := [(1, .int (jEsc (g (p + 1)))), (0, rt_r s0 t)]) dX8_parseEscape_24 rfl (by decide) rfl ?_
  refine rt_iload_n dX8_parseEscape_25 rfl (j := 0) rfl ?_
  refine rt_iconst (v := (-1)) dX8_parseEscape_26 (by decide) ?_
  refine rt_icmp_ne (tgt := 39) dX8_parseEscape_27 (by decide) (fun c27 => absurd c27 (fun c => c h)) (fun _ => ?_)
  refine rt_aload_n dX8_parseEscape_30 rfl (j := 1) rfl ?_
  refine rt_aload_n dX8_parseEscape_31 rfl (j := 1) rfl ?_
  refine rt_bGet Γ kf_RX8_67 dX8_parseEscape_32 (L := (tx_L s0 ca t (rt_r s0 tp) vals (nI (p + 1)) (-1) k b nx fi pa wo ke nu le (nI L))) rfl rfl ?_
  refine rt_callV Γ kk_X8_fail kc_RX8_83 (c_X8_fail0 Γ (d := d - 1)) (by omega) (by decide) (As := [.int (nI (p + 1))]) (show (parseMethodDescriptor yX8_fail.desc).map (fun q => q.parameters.length) = some 1 by decide +kernel) hok (Nat.le_of_ble_eq_true rfl) dX8_parseEscape_35 ((rt_bk_0 w t (tx_L s0 ca t (rt_r s0 tp) vals (nI (p + 1)) (-1) k b nx fi pa wo ke nu le (nI L)) (Nat.le_of_ble_eq_true rfl)).trans rfl) rfl rfl rfl (rt_kr (st2 := []) rfl ?_) rt_kx
  exact rt_vret dX8_parseEscape_38 rfl (⟨rfl, rfl⟩)
set_option maxRecDepth 100000 in
theorem j_escT {l : Launch} {s0 : State} {a0 : Array Value} {G : va_G} {ca : Nat → ClassId} (Γ : rt_Γ l s0 a0 G ca) {d : Nat} {w : rt_Wd} {t : Nat} {vals : Int32} {k : Nat → Int32} {b : Nat → Int32} {nx : Nat → Int32} {fi : Nat → Int32} {pa : Nat → Int32} {wo : Nat → Int32} {ke : Nat → Int32} {nu : Nat → Int64} {le : Nat → Int32} (hd : 1 ≤ d) {tp n : Nat} {f : Nat → Int32} {u : Int32} {g : Nat → Int32} (hT : rt_C s0 ca w tp n f u) (hn : n < 2 ^ 31) (htp : tp + 1 < t ∨ t + 18 ≤ tp) (hg : ∀ p : Nat, p < 65536 → cl_peek n f u (nI p) = g p) (hok : rt_ok w) {p L : Nat} (hp : p < 60000) (hL : L < 4096) (h : ¬ jEsc (g (p + 1)) = -1) : rt_Met l s0 G (.code yX8_parseEscape cX8_parseEscape 2 (Option.none : Option FieldType)) yX8_parseEscape d [rt_r s0 t] (rt_bk w t (tx_L s0 ca t (rt_r s0 tp) vals (nI p) (-1) k b nx fi pa wo ke nu le (nI L))) (rt_is (.inl none) (rt_bk w t (tx_L s0 ca t (rt_r s0 tp) vals (nI (p + 2)) (-1) k b nx fi pa wo ke nu (upd le L (jEsc (g (p + 1)))) (nI (L + 1))))) := by
  refine rt_met Γ kk_X8_parseEscape rfl (Nat.le_of_ble_eq_true rfl) rfl ?_
  refine rt_aload_n dX8_parseEscape_0 rfl (j := 0) rfl ?_
  refine rt_dup dX8_parseEscape_1 rfl ?_
  refine rt_bGet Γ kf_RX8_67 dX8_parseEscape_2 (L := (tx_L s0 ca t (rt_r s0 tp) vals (nI p) (-1) k b nx fi pa wo ke nu le (nI L))) rfl rfl ?_
  refine rt_iconst (v := 1) dX8_parseEscape_5 (by decide) ?_
  refine rt_iadd dX8_parseEscape_6 ?_
  refine rt_te (y := nI (p + 1)) (nI_1 _) ?_
  refine rt_bPut Γ kp_RX8_67 dX8_parseEscape_7 (L := (tx_L s0 ca t (rt_r s0 tp) vals (nI p) (-1) k b nx fi pa wo ke nu le (nI L))) rfl (Nat.le_of_ble_eq_true rfl) rfl rfl (L' := (tx_L s0 ca t (rt_r s0 tp) vals (nI (p + 1)) (-1) k b nx fi pa wo ke nu le (nI L))) rfl ?_
  refine rt_aload_n dX8_parseEscape_10 rfl (j := 0) rfl ?_
  refine rt_bGet Γ kf_RX8_57 dX8_parseEscape_11 (L := (tx_L s0 ca t (rt_r s0 tp) vals (nI (p + 1)) (-1) k b nx fi pa wo ke nu le (nI L))) rfl rfl ?_
  refine rt_aload_n dX8_parseEscape_14 rfl (j := 0) rfl ?_
  refine rt_bGet Γ kf_RX8_67 dX8_parseEscape_15 (L := (tx_L s0 ca t (rt_r s0 tp) vals (nI (p + 1)) (-1) k b nx fi pa wo ke nu le (nI L))) rfl rfl ?_
  refine rt_callV Γ kk_X0_peek kc_RX8_86 (c_X0_peek Γ (d := d - 1) (x := (nI (p + 1))) (hT.bk htp) hn) (by omega) (by decide) (As := [.int (nI (p + 1))]) (show (parseMethodDescriptor yX0_peek.desc).map (fun q => q.parameters.length) = some 1 by decide +kernel) hok (Nat.le_of_ble_eq_true rfl) dX8_parseEscape_18 (hT.bk htp).1 rfl rfl rfl (rt_kr (st2 := [.int (cl_peek n f u (nI (p + 1)))]) rfl ?_) rt_kx
  refine rt_te (y := g (p + 1)) (hg (p + 1) (by omega)) ?_
  refine rt_callS Γ kk_X8_escaped kc_RX8_154 (j_esc Γ (d := d - 1)) (by omega) (by decide) (As := [.int (g (p + 1))]) (show (parseMethodDescriptor yX8_escaped.desc).map (fun q => q.parameters.length) = some 1 by decide +kernel) hok (Nat.le_of_ble_eq_true rfl) dX8_parseEscape_21 rfl rfl (rt_kr (st2 := [.int (jEsc (g (p + 1)))]) rfl ?_) rt_kx
  refine rt_istore_n (lv' := [(1, .int (jEsc (g (p + 1)))), (0, rt_r s0 t)]) dX8_parseEscape_24 rfl (by decide) rfl ?_
  refine rt_iload_n dX8_parseEscape_25 rfl (j := 0) rfl ?_
  refine rt_iconst (v := (-1)) dX8_parseEscape_26 (by decide) ?_
  refine rt_icmp_ne (tgt := 39) dX8_parseEscape_27 (by decide) (fun _ => ?_) (fun c27 => absurd c27 h)
  refine rt_aload_n dX8_parseEscape_39 rfl (j := 1) rfl ?_
  refine rt_bGet Γ kf_RX8_42 dX8_parseEscape_40 (L := (tx_L s0 ca t (rt_r s0 tp) vals (nI (p + 1)) (-1) k b nx fi pa wo ke nu le (nI L))) rfl rfl ?_
  refine rt_iload_n dX8_parseEscape_43 rfl (j := 0) rfl ?_
  refine rt_callV Γ kk_X0_add kc_RX8_145 (c_X0_add Γ (d := d - 1) (k := L) (v := (jEsc (g (p + 1)))) (rt_bk_C (t := t) (L := (tx_L s0 ca t (rt_r s0 tp) vals (nI (p + 1)) (-1) k b nx fi pa wo ke nu le (nI L))) 16 (Nat.le_of_ble_eq_true rfl) rfl rfl) (by decide) (by omega)) (by omega) (by decide) (As := [.int (jEsc (g (p + 1)))]) (show (parseMethodDescriptor yX0_add.desc).map (fun q => q.parameters.length) = some 1 by decide +kernel) hok (Nat.le_of_ble_eq_true rfl) dX8_parseEscape_44 (rt_bk_C (t := t) (L := (tx_L s0 ca t (rt_r s0 tp) vals (nI (p + 1)) (-1) k b nx fi pa wo ke nu le (nI L))) 16 (Nat.le_of_ble_eq_true rfl) rfl rfl).1 rfl rfl rfl (rt_kr (st2 := [.int 1]) rfl ?_) rt_kx
  refine rt_weq (w' := (rt_bk w t (tx_L s0 ca t (rt_r s0 tp) vals (nI (p + 1)) (-1) k b nx fi pa wo ke nu (upd le L (jEsc (g (p + 1)))) (nI (L + 1))))) (rt_bk_cs 16 (Nat.le_of_ble_eq_true rfl)) ?_
  refine rt_pop dX8_parseEscape_47 rfl ?_
  refine rt_aload_n dX8_parseEscape_48 rfl (j := 1) rfl ?_
  refine rt_dup dX8_parseEscape_49 rfl ?_
  refine rt_bGet Γ kf_RX8_67 dX8_parseEscape_50 (L := (tx_L s0 ca t (rt_r s0 tp) vals (nI (p + 1)) (-1) k b nx fi pa wo ke nu (upd le L (jEsc (g (p + 1)))) (nI (L + 1)))) rfl rfl ?_
  refine rt_iconst (v := 1) dX8_parseEscape_53 (by decide) ?_
  refine rt_iadd dX8_parseEscape_54 ?_
  refine rt_te (y := nI (p + 2)) (nI_1 (p + 1)) ?_
  refine rt_bPut Γ kp_RX8_67 dX8_parseEscape_55 (L := (tx_L s0 ca t (rt_r s0 tp) vals (nI (p + 1)) (-1) k b nx fi pa wo ke nu (upd le L (jEsc (g (p + 1)))) (nI (L + 1)))) rfl (Nat.le_of_ble_eq_true rfl) rfl rfl (L' := (tx_L s0 ca t (rt_r s0 tp) vals (nI (p + 2)) (-1) k b nx fi pa wo ke nu (upd le L (jEsc (g (p + 1)))) (nI (L + 1)))) rfl ?_
  exact rt_vret dX8_parseEscape_58 rfl (⟨rfl, rfl⟩)
set_option maxRecDepth 100000 in
theorem j_fourL {l : Launch} {s0 : State} {a0 : Array Value} {G : va_G} {ca : Nat → ClassId} (Γ : rt_Γ l s0 a0 G ca) {d : Nat} {w v0 : rt_Wd} {t : Nat} {vals : Int32} {k : Nat → Int32} {b : Nat → Int32} {nx : Nat → Int32} {fi : Nat → Int32} {pa : Nat → Int32} {wo : Nat → Int32} {ke : Nat → Int32} {nu : Nat → Int64} {le : Nat → Int32} {lu : Int32} {Q : rt_Res → rt_Wd → Prop} {fr : Int32} (hd : 1 ≤ d) {tp n : Nat} {f : Nat → Int32} {u : Int32} {g : Nat → Int32} (hT : rt_C s0 ca w tp n f u) (hn : n < 2 ^ 31) (htp : tp + 1 < t ∨ t + 18 ≤ tp) (hg : ∀ p : Nat, p < 65536 → cl_peek n f u (nI p) = g p) (hok : rt_ok w) : ∀ (m i q : Nat) (s : Int32), i + m = 4 → q + m < 60000 → (∀ e : Nat, jFour g m q s = .error e → Q (.inl none) (rt_bk w t (tx_L s0 ca t (rt_r s0 tp) vals (nI e) (nI e) k b nx fi pa wo ke nu le lu))) → (∀ s1 : Int32, jFour g m q s = .ok s1 → rt_Go l s0 G RX8 "parseFourDigits" cX8_parseFourDigits 5 (Option.none : Option FieldType) [] d v0 Q 79 [(2, .int s1), (1, .int fr), (0, rt_r s0 t)] [] (rt_bk w t (tx_L s0 ca t (rt_r s0 tp) vals (nI (q + m)) (-1) k b nx fi pa wo ke nu le lu))) → rt_Go l s0 G RX8 "parseFourDigits" cX8_parseFourDigits 5 (Option.none : Option FieldType) [] d v0 Q 19 [(3, .int (nI i)), (2, .int s), (1, .int fr), (0, rt_r s0 t)] [] (rt_bk w t (tx_L s0 ca t (rt_r s0 tp) vals (nI q) (-1) k b nx fi pa wo ke nu le lu)) := by
  intro m
  induction m with
  | zero =>
    intro i q s hi hq k1 k2
    obtain rfl : i = 4 := by omega
    refine rt_iload_n dX8_parseFourDigits_19 rfl (j := 0) rfl ?_
    refine rt_iconst (v := 4) dX8_parseFourDigits_20 (by decide) ?_
    refine rt_icmp_ge (tgt := 79) dX8_parseFourDigits_21 (by decide) (fun _ => ?_) (fun c21 => absurd (by decide) c21)
    exact rt_lfew [1, 2, 3] rfl (k2 s rfl)
  | succ m ih =>
    intro i q s hi hq k1 k2
    refine rt_iload_n dX8_parseFourDigits_19 rfl (j := 0) rfl ?_
    refine rt_iconst (v := 4) dX8_parseFourDigits_20 (by decide) ?_
    refine rt_icmp_ge (tgt := 79) dX8_parseFourDigits_21 (by decide) (fun c21 => absurd c21 (show ¬ nI 4 ≤ nI i from nI_ge (by omega) (by decide))) (fun _ => ?_)
    refine rt_aload_n dX8_parseFourDigits_24 rfl (j := 3) rfl ?_
    refine rt_bGet Γ kf_RX8_57 dX8_parseFourDigits_25 (L := (tx_L s0 ca t (rt_r s0 tp) vals (nI q) (-1) k b nx fi pa wo ke nu le lu)) rfl rfl ?_
    refine rt_aload_n dX8_parseFourDigits_28 rfl (j := 3) rfl ?_
    refine rt_bGet Γ kf_RX8_67 dX8_parseFourDigits_29 (L := (tx_L s0 ca t (rt_r s0 tp) vals (nI q) (-1) k b nx fi pa wo ke nu le lu)) rfl rfl ?_
    refine rt_callV Γ kk_X0_peek kc_RX8_86 (c_X0_peek Γ (d := d - 1) (x := (nI q)) (hT.bk htp) hn) (by omega) (by decide) (As := [.int (nI q)]) (show (parseMethodDescriptor yX0_peek.desc).map (fun q => q.parameters.length) = some 1 by decide +kernel) hok (Nat.le_of_ble_eq_true rfl) dX8_parseFourDigits_32 (hT.bk htp).1 rfl rfl rfl (rt_kr (st2 := [.int (cl_peek n f u (nI q))]) rfl ?_) rt_kx
    refine rt_te (y := g q) (hg q (by omega)) ?_
    refine rt_callS Γ kk_X8_hexDigit kc_RX8_157 (j_hex Γ (d := d - 1)) (by omega) (by decide) (As := [.int (g q)]) (show (parseMethodDescriptor yX8_hexDigit.desc).map (fun q => q.parameters.length) = some 1 by decide +kernel) hok (Nat.le_of_ble_eq_true rfl) dX8_parseFourDigits_35 rfl rfl (rt_kr (st2 := [.int (jHex (g q))]) rfl ?_) rt_kx
    refine rt_istore (lv' := [(4, .int (jHex (g q))), (3, .int (nI i)), (2, .int s), (1, .int fr), (0, rt_r s0 t)]) dX8_parseFourDigits_38 (by decide) rfl ?_
    refine rt_iload dX8_parseFourDigits_40 (j := 0) rfl ?_
    refine rt_iconst (v := (-1)) dX8_parseFourDigits_42 (by decide) ?_
    refine rt_icmp_ne (tgt := 55) dX8_parseFourDigits_43 (by decide) (fun c43 => ?_) (fun c43 => ?_)
    · refine rt_iload_n dX8_parseFourDigits_55 rfl (j := 2) rfl ?_
      refine rt_bipush (v := 16) dX8_parseFourDigits_56 (by decide) ?_
      refine rt_imul dX8_parseFourDigits_58 ?_
      refine rt_iload dX8_parseFourDigits_59 (j := 0) rfl ?_
      refine rt_iadd dX8_parseFourDigits_61 ?_
      refine rt_istore_n (lv' := [(2, .int ((s * 16) + (jHex (g q)))), (4, .int (jHex (g q))), (3, .int (nI i)), (1, .int fr), (0, rt_r s0 t)]) dX8_parseFourDigits_62 rfl (by decide) rfl ?_
      refine rt_aload_n dX8_parseFourDigits_63 rfl (j := 4) rfl ?_
      refine rt_dup dX8_parseFourDigits_64 rfl ?_
      refine rt_bGet Γ kf_RX8_67 dX8_parseFourDigits_65 (L := (tx_L s0 ca t (rt_r s0 tp) vals (nI q) (-1) k b nx fi pa wo ke nu le lu)) rfl rfl ?_
      refine rt_iconst (v := 1) dX8_parseFourDigits_68 (by decide) ?_
      refine rt_iadd dX8_parseFourDigits_69 ?_
      refine rt_te (y := nI (q + 1)) (nI_1 _) ?_
      refine rt_bPut Γ kp_RX8_67 dX8_parseFourDigits_70 (L := (tx_L s0 ca t (rt_r s0 tp) vals (nI q) (-1) k b nx fi pa wo ke nu le lu)) rfl (Nat.le_of_ble_eq_true rfl) rfl rfl (L' := (tx_L s0 ca t (rt_r s0 tp) vals (nI (q + 1)) (-1) k b nx fi pa wo ke nu le lu)) rfl ?_
      refine rt_iinc (v := nI (i + 1)) (lv' := [(3, .int (nI (i + 1))), (2, .int ((s * 16) + (jHex (g q)))), (4, .int (jHex (g q))), (1, .int fr), (0, rt_r s0 t)]) dX8_parseFourDigits_73 (j := 2) rfl ((nI_1 i).symm ▸ rfl) (by decide) rfl ?_
      have hs : jFour g (m + 1) q s = jFour g m (q + 1) (s * 16 + jHex (g q)) := if_neg c43
      refine rt_goto (tgt := 19) dX8_parseFourDigits_76 (by decide) ?_
      exact rt_lfew [0, 1, 3, 4] rfl (ih (i + 1) (q + 1) _ (by omega) (by omega) (fun e he => k1 e (hs.trans he)) (fun s1 h1 => (show q + (m + 1) = q + 1 + m by omega) ▸ k2 s1 (hs.trans h1)))
    · refine rt_aload_n dX8_parseFourDigits_46 rfl (j := 4) rfl ?_
      refine rt_aload_n dX8_parseFourDigits_47 rfl (j := 4) rfl ?_
      refine rt_bGet Γ kf_RX8_67 dX8_parseFourDigits_48 (L := (tx_L s0 ca t (rt_r s0 tp) vals (nI q) (-1) k b nx fi pa wo ke nu le lu)) rfl rfl ?_
      refine rt_callV Γ kk_X8_fail kc_RX8_83 (c_X8_fail0 Γ (d := d - 1)) (by omega) (by decide) (As := [.int (nI q)]) (show (parseMethodDescriptor yX8_fail.desc).map (fun q => q.parameters.length) = some 1 by decide +kernel) hok (Nat.le_of_ble_eq_true rfl) dX8_parseFourDigits_51 ((rt_bk_0 w t (tx_L s0 ca t (rt_r s0 tp) vals (nI q) (-1) k b nx fi pa wo ke nu le lu) (Nat.le_of_ble_eq_true rfl)).trans rfl) rfl rfl rfl (rt_kr (st2 := []) rfl ?_) rt_kx
      exact rt_vret dX8_parseFourDigits_54 rfl (k1 q (if_pos c43))
set_option maxRecDepth 100000 in
theorem j_fourE {l : Launch} {s0 : State} {a0 : Array Value} {G : va_G} {ca : Nat → ClassId} (Γ : rt_Γ l s0 a0 G ca) {d : Nat} {w : rt_Wd} {t : Nat} {vals : Int32} {k : Nat → Int32} {b : Nat → Int32} {nx : Nat → Int32} {fi : Nat → Int32} {pa : Nat → Int32} {wo : Nat → Int32} {ke : Nat → Int32} {nu : Nat → Int64} {le : Nat → Int32} (hd : 1 ≤ d) {tp n : Nat} {f : Nat → Int32} {u : Int32} {g : Nat → Int32} (hT : rt_C s0 ca w tp n f u) (hn : n < 2 ^ 31) (htp : tp + 1 < t ∨ t + 18 ≤ tp) (hg : ∀ p : Nat, p < 65536 → cl_peek n f u (nI p) = g p) (hok : rt_ok w) {p L : Nat} (hp : p < 50000) {e : Nat} (h : jFour g 4 (p + 2) 0 = .error e) : rt_Met l s0 G (.code yX8_parseFourDigits cX8_parseFourDigits 5 (Option.none : Option FieldType)) yX8_parseFourDigits d [rt_r s0 t] (rt_bk w t (tx_L s0 ca t (rt_r s0 tp) vals (nI p) (-1) k b nx fi pa wo ke nu le (nI L))) (rt_is (.inl none) (rt_bk w t (tx_L s0 ca t (rt_r s0 tp) vals (nI e) (nI e) k b nx fi pa wo ke nu le (nI L)))) := by
  refine rt_met Γ kk_X8_parseFourDigits rfl (Nat.le_of_ble_eq_true rfl) rfl ?_
  refine rt_aload_n dX8_parseFourDigits_0 rfl (j := 0) rfl ?_
  refine rt_bGet Γ kf_RX8_67 dX8_parseFourDigits_1 (L := (tx_L s0 ca t (rt_r s0 tp) vals (nI p) (-1) k b nx fi pa wo ke nu le (nI L))) rfl rfl ?_
  refine rt_istore_n (lv' := [(1, .int (nI p)), (0, rt_r s0 t)]) dX8_parseFourDigits_4 rfl (by decide) rfl ?_
  refine rt_iconst (v := 0) dX8_parseFourDigits_5 (by decide) ?_
  refine rt_istore_n (lv' := [(2, .int 0), (1, .int (nI p)), (0, rt_r s0 t)]) dX8_parseFourDigits_6 rfl (by decide) rfl ?_
  refine rt_aload_n dX8_parseFourDigits_7 rfl (j := 2) rfl ?_
  refine rt_dup dX8_parseFourDigits_8 rfl ?_
  refine rt_bGet Γ kf_RX8_67 dX8_parseFourDigits_9 (L := (tx_L s0 ca t (rt_r s0 tp) vals (nI p) (-1) k b nx fi pa wo ke nu le (nI L))) rfl rfl ?_
  refine rt_iconst (v := 2) dX8_parseFourDigits_12 (by decide) ?_
  refine rt_iadd dX8_parseFourDigits_13 ?_
  refine rt_te (y := nI (p + 2)) (nI_add p 2) ?_
  refine rt_bPut Γ kp_RX8_67 dX8_parseFourDigits_14 (L := (tx_L s0 ca t (rt_r s0 tp) vals (nI p) (-1) k b nx fi pa wo ke nu le (nI L))) rfl (Nat.le_of_ble_eq_true rfl) rfl rfl (L' := (tx_L s0 ca t (rt_r s0 tp) vals (nI (p + 2)) (-1) k b nx fi pa wo ke nu le (nI L))) rfl ?_
  refine rt_iconst (v := 0) dX8_parseFourDigits_17 (by decide) ?_
  refine rt_istore_n (lv' := [(3, .int 0), (2, .int 0), (1, .int (nI p)), (0, rt_r s0 t)]) dX8_parseFourDigits_18 rfl (by decide) rfl ?_
  refine rt_lfew [0, 1, 2, 3] rfl (j_fourL Γ hd hT hn htp hg hok 4 0 (p + 2) 0 rfl (by omega) (fun e1 h1 => ?_) (fun s1 h1 => ?_))
  · obtain rfl : e1 = e := Except.error.inj (h1.symm.trans h)
    exact ⟨rfl, rfl⟩
  · exact nomatch h1.symm.trans h
set_option maxRecDepth 100000 in
theorem j_fourF {l : Launch} {s0 : State} {a0 : Array Value} {G : va_G} {ca : Nat → ClassId} (Γ : rt_Γ l s0 a0 G ca) {d : Nat} {w : rt_Wd} {t : Nat} {vals : Int32} {k : Nat → Int32} {b : Nat → Int32} {nx : Nat → Int32} {fi : Nat → Int32} {pa : Nat → Int32} {wo : Nat → Int32} {ke : Nat → Int32} {nu : Nat → Int64} {le : Nat → Int32} (hd : 1 ≤ d) {tp n : Nat} {f : Nat → Int32} {u : Int32} {g : Nat → Int32} (hT : rt_C s0 ca w tp n f u) (hn : n < 2 ^ 31) (htp : tp + 1 < t ∨ t + 18 ≤ tp) (hg : ∀ p : Nat, p < 65536 → cl_peek n f u (nI p) = g p) (hok : rt_ok w) {p L : Nat} (hp : p < 50000) {s : Int32} (h : jFour g 4 (p + 2) 0 = .ok s) (hs : ¬ s ≤ 255) : rt_Met l s0 G (.code yX8_parseFourDigits cX8_parseFourDigits 5 (Option.none : Option FieldType)) yX8_parseFourDigits d [rt_r s0 t] (rt_bk w t (tx_L s0 ca t (rt_r s0 tp) vals (nI p) (-1) k b nx fi pa wo ke nu le (nI L))) (rt_is (.inl none) (rt_bk w t (tx_L s0 ca t (rt_r s0 tp) vals (nI (p + 6)) (nI p) k b nx fi pa wo ke nu le (nI L)))) := by
  refine rt_met Γ kk_X8_parseFourDigits rfl (Nat.le_of_ble_eq_true rfl) rfl ?_
  refine rt_aload_n dX8_parseFourDigits_0 rfl (j := 0) rfl ?_
  refine rt_bGet Γ kf_RX8_67 dX8_parseFourDigits_1 (L := (tx_L s0 ca t (rt_r s0 tp) vals (nI p) (-1) k b nx fi pa wo ke nu le (nI L))) rfl rfl ?_
  refine rt_istore_n (lv' := [(1, .int (nI p)), (0, rt_r s0 t)]) dX8_parseFourDigits_4 rfl (by decide) rfl ?_
  refine rt_iconst (v := 0) dX8_parseFourDigits_5 (by decide) ?_
  refine rt_istore_n (lv' := [(2, .int 0), (1, .int (nI p)), (0, rt_r s0 t)]) dX8_parseFourDigits_6 rfl (by decide) rfl ?_
  refine rt_aload_n dX8_parseFourDigits_7 rfl (j := 2) rfl ?_
  refine rt_dup dX8_parseFourDigits_8 rfl ?_
  refine rt_bGet Γ kf_RX8_67 dX8_parseFourDigits_9 (L := (tx_L s0 ca t (rt_r s0 tp) vals (nI p) (-1) k b nx fi pa wo ke nu le (nI L))) rfl rfl ?_
  refine rt_iconst (v := 2) dX8_parseFourDigits_12 (by decide) ?_
  refine rt_iadd dX8_parseFourDigits_13 ?_
  refine rt_te (y := nI (p + 2)) (nI_add p 2) ?_
  refine rt_bPut Γ kp_RX8_67 dX8_parseFourDigits_14 (L := (tx_L s0 ca t (rt_r s0 tp) vals (nI p) (-1) k b nx fi pa wo ke nu le (nI L))) rfl (Nat.le_of_ble_eq_true rfl) rfl rfl (L' := (tx_L s0 ca t (rt_r s0 tp) vals (nI (p + 2)) (-1) k b nx fi pa wo ke nu le (nI L))) rfl ?_
  refine rt_iconst (v := 0) dX8_parseFourDigits_17 (by decide) ?_
  refine rt_istore_n (lv' := [(3, .int 0), (2, .int 0), (1, .int (nI p)), (0, rt_r s0 t)]) dX8_parseFourDigits_18 rfl (by decide) rfl ?_
  refine rt_lfew [0, 1, 2, 3] rfl (j_fourL Γ hd hT hn htp hg hok 4 0 (p + 2) 0 rfl (by omega) (fun e1 h1 => nomatch h1.symm.trans h) (fun s1 h1 => ?_))
  obtain rfl : s1 = s := Except.ok.inj (h1.symm.trans h)
  refine rt_iload_n dX8_parseFourDigits_79 rfl (j := 0) rfl ?_
  refine rt_sipush (v := 255) dX8_parseFourDigits_80 (by decide) ?_
  refine rt_icmp_le (tgt := 94) dX8_parseFourDigits_83 (by decide) (fun c83 => absurd c83 hs) (fun _ => ?_)
  refine rt_aload_n dX8_parseFourDigits_86 rfl (j := 2) rfl ?_
  refine rt_iload_n dX8_parseFourDigits_87 rfl (j := 1) rfl ?_
  refine rt_callV Γ kk_X8_fail kc_RX8_83 (c_X8_fail0 Γ (d := d - 1)) (by omega) (by decide) (As := [.int (nI p)]) (show (parseMethodDescriptor yX8_fail.desc).map (fun q => q.parameters.length) = some 1 by decide +kernel) hok (Nat.le_of_ble_eq_true rfl) dX8_parseFourDigits_88 ((rt_bk_0 w t (tx_L s0 ca t (rt_r s0 tp) vals (nI (p + 2 + 4)) (-1) k b nx fi pa wo ke nu le (nI L)) (Nat.le_of_ble_eq_true rfl)).trans rfl) rfl rfl rfl (rt_kr (st2 := []) rfl ?_) rt_kx
  refine rt_goto (tgt := 103) dX8_parseFourDigits_91 (by decide) ?_
  exact rt_vret dX8_parseFourDigits_103 rfl (⟨rfl, rfl⟩)
set_option maxRecDepth 100000 in
theorem j_fourT {l : Launch} {s0 : State} {a0 : Array Value} {G : va_G} {ca : Nat → ClassId} (Γ : rt_Γ l s0 a0 G ca) {d : Nat} {w : rt_Wd} {t : Nat} {vals : Int32} {k : Nat → Int32} {b : Nat → Int32} {nx : Nat → Int32} {fi : Nat → Int32} {pa : Nat → Int32} {wo : Nat → Int32} {ke : Nat → Int32} {nu : Nat → Int64} {le : Nat → Int32} (hd : 1 ≤ d) {tp n : Nat} {f : Nat → Int32} {u : Int32} {g : Nat → Int32} (hT : rt_C s0 ca w tp n f u) (hn : n < 2 ^ 31) (htp : tp + 1 < t ∨ t + 18 ≤ tp) (hg : ∀ p : Nat, p < 65536 → cl_peek n f u (nI p) = g p) (hok : rt_ok w) {p L : Nat} (hp : p < 50000) {s : Int32} (hL : L < 4096) (h : jFour g 4 (p + 2) 0 = .ok s) (hs : s ≤ 255) : rt_Met l s0 G (.code yX8_parseFourDigits cX8_parseFourDigits 5 (Option.none : Option FieldType)) yX8_parseFourDigits d [rt_r s0 t] (rt_bk w t (tx_L s0 ca t (rt_r s0 tp) vals (nI p) (-1) k b nx fi pa wo ke nu le (nI L))) (rt_is (.inl none) (rt_bk w t (tx_L s0 ca t (rt_r s0 tp) vals (nI (p + 6)) (-1) k b nx fi pa wo ke nu (upd le L s) (nI (L + 1))))) := by
  refine rt_met Γ kk_X8_parseFourDigits rfl (Nat.le_of_ble_eq_true rfl) rfl ?_
  refine rt_aload_n dX8_parseFourDigits_0 rfl (j := 0) rfl ?_
  refine rt_bGet Γ kf_RX8_67 dX8_parseFourDigits_1 (L := (tx_L s0 ca t (rt_r s0 tp) vals (nI p) (-1) k b nx fi pa wo ke nu le (nI L))) rfl rfl ?_
  refine rt_istore_n (lv' := [(1, .int (nI p)), (0, rt_r s0 t)]) dX8_parseFourDigits_4 rfl (by decide) rfl ?_
  refine rt_iconst (v := 0) dX8_parseFourDigits_5 (by decide) ?_
  refine rt_istore_n (lv' := [(2, .int 0), (1, .int (nI p)), (0, rt_r s0 t)]) dX8_parseFourDigits_6 rfl (by decide) rfl ?_
  refine rt_aload_n dX8_parseFourDigits_7 rfl (j := 2) rfl ?_
  refine rt_dup dX8_parseFourDigits_8 rfl ?_
  refine rt_bGet Γ kf_RX8_67 dX8_parseFourDigits_9 (L := (tx_L s0 ca t (rt_r s0 tp) vals (nI p) (-1) k b nx fi pa wo ke nu le (nI L))) rfl rfl ?_
  refine rt_iconst (v := 2) dX8_parseFourDigits_12 (by decide) ?_
  refine rt_iadd dX8_parseFourDigits_13 ?_
  refine rt_te (y := nI (p + 2)) (nI_add p 2) ?_
  refine rt_bPut Γ kp_RX8_67 dX8_parseFourDigits_14 (L := (tx_L s0 ca t (rt_r s0 tp) vals (nI p) (-1) k b nx fi pa wo ke nu le (nI L))) rfl (Nat.le_of_ble_eq_true rfl) rfl rfl (L' := (tx_L s0 ca t (rt_r s0 tp) vals (nI (p + 2)) (-1) k b nx fi pa wo ke nu le (nI L))) rfl ?_
  refine rt_iconst (v := 0) dX8_parseFourDigits_17 (by decide) ?_
  refine rt_istore_n (lv' := [(3, .int 0), (2, .int 0), (1, .int (nI p)), (0, rt_r s0 t)]) dX8_parseFourDigits_18 rfl (by decide) rfl ?_
  refine rt_lfew [0, 1, 2, 3] rfl (j_fourL Γ hd hT hn htp hg hok 4 0 (p + 2) 0 rfl (by omega) (fun e1 h1 => nomatch h1.symm.trans h) (fun s1 h1 => ?_))
  obtain rfl : s1 = s := Except.ok.inj (h1.symm.trans h)
  refine rt_iload_n dX8_parseFourDigits_79 rfl (j := 0) rfl ?_
  refine rt_sipush (v := 255) dX8_parseFourDigits_80 (by decide) ?_
  refine rt_icmp_le (tgt := 94) dX8_parseFourDigits_83 (by decide) (fun _ => ?_) (fun c83 => absurd hs c83)
  refine rt_aload_n dX8_parseFourDigits_94 rfl (j := 2) rfl ?_
  refine rt_bGet Γ kf_RX8_42 dX8_parseFourDigits_95 (L := (tx_L s0 ca t (rt_r s0 tp) vals (nI (p + 2 + 4)) (-1) k b nx fi pa wo ke nu le (nI L))) rfl rfl ?_
  refine rt_iload_n dX8_parseFourDigits_98 rfl (j := 0) rfl ?_
  refine rt_callV Γ kk_X0_add kc_RX8_145 (c_X0_add Γ (d := d - 1) (k := L) (v := s1) (rt_bk_C (t := t) (L := (tx_L s0 ca t (rt_r s0 tp) vals (nI (p + 2 + 4)) (-1) k b nx fi pa wo ke nu le (nI L))) 16 (Nat.le_of_ble_eq_true rfl) rfl rfl) (by decide) (by omega)) (by omega) (by decide) (As := [.int s1]) (show (parseMethodDescriptor yX0_add.desc).map (fun q => q.parameters.length) = some 1 by decide +kernel) hok (Nat.le_of_ble_eq_true rfl) dX8_parseFourDigits_99 (rt_bk_C (t := t) (L := (tx_L s0 ca t (rt_r s0 tp) vals (nI (p + 2 + 4)) (-1) k b nx fi pa wo ke nu le (nI L))) 16 (Nat.le_of_ble_eq_true rfl) rfl rfl).1 rfl rfl rfl (rt_kr (st2 := [.int 1]) rfl ?_) rt_kx
  refine rt_weq (w' := (rt_bk w t (tx_L s0 ca t (rt_r s0 tp) vals (nI (p + 2 + 4)) (-1) k b nx fi pa wo ke nu (upd le L s1) (nI (L + 1))))) (rt_bk_cs 16 (Nat.le_of_ble_eq_true rfl)) ?_
  refine rt_pop dX8_parseFourDigits_102 rfl ?_
  exact rt_vret dX8_parseFourDigits_103 rfl (⟨rfl, rfl⟩)
theorem nI_nm1 {e : Nat} (h : e < 2 ^ 31) : ¬ nI e = -1 := fun c => nI_pos h (by rw [c]; decide)
theorem jHex_m1 : jHex (-1) = -1 := by decide
theorem jEsc_m1 : jEsc (-1) = -1 := by decide
theorem jFour_lt {g : Nat → Int32} {m q e : Nat} {s : Int32} (h : jFour g m q s = .error e) : e < q + m := by
  induction m generalizing q s with
  | zero => exact nomatch h
  | succ m ih =>
    by_cases c : jHex (g q) = -1
    · have h1 : jFour g (m + 1) q s = .error q := if_pos c
      have := Except.error.inj (h1.symm.trans h)
      omega
    · have h1 : jFour g (m + 1) q s = jFour g m (q + 1) (s * 16 + jHex (g q)) := if_neg c
      have := ih (h1.symm.trans h)
      omega
theorem jFour_ok {g : Nat → Int32} {m q : Nat} {s r : Int32} (h : jFour g (m + 1) q s = .ok r) : ¬ g (q + m) = -1 := by
  induction m generalizing q s with
  | zero =>
    intro c
    have h1 : jFour g 1 q s = .error q := if_pos (by rw [show g q = -1 from c]; exact jHex_m1)
    exact nomatch h1.symm.trans h
  | succ m ih =>
    by_cases c : jHex (g q) = -1
    · have h1 : jFour g (m + 2) q s = .error q := if_pos c
      exact nomatch h1.symm.trans h
    · have h1 : jFour g (m + 2) q s = jFour g (m + 1) (q + 1) (s * 16 + jHex (g q)) := if_neg c
      have := ih (h1.symm.trans h)
      rwa [show q + 1 + m = q + (m + 1) by omega] at this
/-- a tape of N bytes -/
def jT (g : Nat → Int32) (N : Nat) : Prop := N < 2000 ∧ ∀ p : Nat, N ≤ p → g p = -1
theorem jT.lt {g : Nat → Int32} {N p : Nat} (h : jT g N) (hp : ¬ g p = -1) : p < N := Nat.lt_of_not_le (fun c => hp (h.2 p c))
set_option maxRecDepth 100000 in
theorem j_strX {l : Launch} {s0 : State} {a0 : Array Value} {G : va_G} {ca : Nat → ClassId} (Γ : rt_Γ l s0 a0 G ca) {d : Nat} {w v0 : rt_Wd} {t : Nat} {vals : Int32} {pos : Int32} {wrong : Int32} {k : Nat → Int32} {b : Nat → Int32} {nx : Nat → Int32} {fi : Nat → Int32} {pa : Nat → Int32} {wo : Nat → Int32} {ke : Nat → Int32} {nu : Nat → Int64} {le : Nat → Int32} {lu : Int32} {Q : rt_Res → rt_Wd → Prop} {tp z : Nat} {x : Int32} (hw : ¬ wrong = -1) (kk : rt_Go l s0 G RX8 "parseString" cX8_parseString 4 (Option.some FieldType.int) [] d v0 Q 167 [(1, .int (nI z)), (0, rt_r s0 t)] [] (rt_bk w t (tx_L s0 ca t (rt_r s0 tp) vals pos wrong k b nx fi pa wo ke nu le lu))) : rt_Go l s0 G RX8 "parseString" cX8_parseString 4 (Option.some FieldType.int) [] d v0 Q 29 [(2, .int x), (1, .int (nI z)), (0, rt_r s0 t)] [] (rt_bk w t (tx_L s0 ca t (rt_r s0 tp) vals pos wrong k b nx fi pa wo ke nu le lu)) := by
  refine rt_iload_n dX8_parseString_29 rfl (j := 0) rfl ?_
  refine rt_sipush (v := 4096) dX8_parseString_30 (by decide) ?_
  refine rt_icmp_gt (tgt := 167) dX8_parseString_33 (by decide) (fun c33 => ?_) (fun c33 => ?_)
  · exact rt_lfew [1, 2] rfl kk
  · refine rt_aload_n dX8_parseString_36 rfl (j := 2) rfl ?_
    refine rt_bGet Γ kf_RX8_70 dX8_parseString_37 (L := (tx_L s0 ca t (rt_r s0 tp) vals pos wrong k b nx fi pa wo ke nu le lu)) rfl rfl ?_
    refine rt_iconst (v := (-1)) dX8_parseString_40 (by decide) ?_
    refine rt_icmp_ne (tgt := 167) dX8_parseString_41 (by decide) (fun _ => ?_) (fun c41 => absurd c41 hw)
    exact rt_lfew [1, 2] rfl kk
set_option maxRecDepth 100000 in
theorem j_strL {l : Launch} {s0 : State} {a0 : Array Value} {G : va_G} {ca : Nat → ClassId} (Γ : rt_Γ l s0 a0 G ca) {d : Nat} {w v0 : rt_Wd} {t : Nat} {vals : Int32} {k : Nat → Int32} {b : Nat → Int32} {nx : Nat → Int32} {fi : Nat → Int32} {pa : Nat → Int32} {wo : Nat → Int32} {ke : Nat → Int32} {nu : Nat → Int64} {le : Nat → Int32} {Q : rt_Res → rt_Wd → Prop} {z : Nat} (hd : 2 ≤ d) {tp n : Nat} {f : Nat → Int32} {u : Int32} {g : Nat → Int32} (hT : rt_C s0 ca w tp n f u) (hn : n < 2 ^ 31) (htp : tp + 1 < t ∨ t + 18 ≤ tp) (hg : ∀ p : Nat, p < 65536 → cl_peek n f u (nI p) = g p) (hok : rt_ok w) {N : Nat} (hN : jT g N) : ∀ (m i p L : Nat) (le : Nat → Int32), i + m = 4097 → p ≤ N → N < p + m → L + (N - p) < 4096 → (∀ e : Nat, jStr g m p = .error e → ∀ (p1 L1 : Nat) (l1 : Nat → Int32), rt_Go l s0 G RX8 "parseString" cX8_parseString 4 (Option.some FieldType.int) [] d v0 Q 167 [(1, .int (nI z)), (0, rt_r s0 t)] [] (rt_bk w t (tx_L s0 ca t (rt_r s0 tp) vals (nI p1) (nI e) k b nx fi pa wo ke nu l1 (nI L1)))) → (∀ (ws : List Int32) (p1 : Nat), jStr g m p = .ok (ws, p1) → rt_Go l s0 G RX8 "parseString" cX8_parseString 4 (Option.some FieldType.int) [] d v0 Q 167 [(1, .int (nI z)), (0, rt_r s0 t)] [] (rt_bk w t (tx_L s0 ca t (rt_r s0 tp) vals (nI p1) (-1) k b nx fi pa wo ke nu (jApp le L ws) (nI (L + ws.length))))) → rt_Go l s0 G RX8 "parseString" cX8_parseString 4 (Option.some FieldType.int) [] d v0 Q 29 [(2, .int (nI i)), (1, .int (nI z)), (0, rt_r s0 t)] [] (rt_bk w t (tx_L s0 ca t (rt_r s0 tp) vals (nI p) (-1) k b nx fi pa wo ke nu le (nI L))) := by
  have hN0 : N < 2000 := hN.1
  intro m
  induction m with
  | zero =>
    intro i p L le hi hp hm hL k1 k2
    exact absurd hm (by omega)
  | succ m ih =>
    intro i p L le hi hp hm hL k1 k2
    refine rt_iload_n dX8_parseString_29 rfl (j := 0) rfl ?_
    refine rt_sipush (v := 4096) dX8_parseString_30 (by decide) ?_
    refine rt_icmp_gt (tgt := 167) dX8_parseString_33 (by decide) (fun c33 => absurd c33 (show ¬ nI 4096 < nI i from nI_nlt (by omega) (by decide))) (fun _ => ?_)
    refine rt_aload_n dX8_parseString_36 rfl (j := 2) rfl ?_
    refine rt_bGet Γ kf_RX8_70 dX8_parseString_37 (L := (tx_L s0 ca t (rt_r s0 tp) vals (nI p) (-1) k b nx fi pa wo ke nu le (nI L))) rfl rfl ?_
    refine rt_iconst (v := (-1)) dX8_parseString_40 (by decide) ?_
    refine rt_icmp_ne (tgt := 167) dX8_parseString_41 (by decide) (fun c41 => absurd c41 (fun h => h rfl)) (fun _ => ?_)
    refine rt_aload_n dX8_parseString_44 rfl (j := 2) rfl ?_
    refine rt_bGet Γ kf_RX8_57 dX8_parseString_45 (L := (tx_L s0 ca t (rt_r s0 tp) vals (nI p) (-1) k b nx fi pa wo ke nu le (nI L))) rfl rfl ?_
    refine rt_aload_n dX8_parseString_48 rfl (j := 2) rfl ?_
    refine rt_bGet Γ kf_RX8_67 dX8_parseString_49 (L := (tx_L s0 ca t (rt_r s0 tp) vals (nI p) (-1) k b nx fi pa wo ke nu le (nI L))) rfl rfl ?_
    refine rt_callV Γ kk_X0_peek kc_RX8_86 (c_X0_peek Γ (d := d - 1) (x := (nI p)) (hT.bk htp) hn) (by omega) (by decide) (As := [.int (nI p)]) (show (parseMethodDescriptor yX0_peek.desc).map (fun q => q.parameters.length) = some 1 by decide +kernel) hok (Nat.le_of_ble_eq_true rfl) dX8_parseString_52 (hT.bk htp).1 rfl rfl rfl (rt_kr (st2 := [.int (cl_peek n f u (nI p))]) rfl ?_) rt_kx
    refine rt_te (y := g p) (hg p (by omega)) ?_
    refine rt_istore_n (lv' := [(3, .int (g p)), (2, .int (nI i)), (1, .int (nI z)), (0, rt_r s0 t)]) dX8_parseString_55 rfl (by decide) rfl ?_
    refine rt_iload_n dX8_parseString_56 rfl (j := 0) rfl ?_
    refine rt_bipush (v := 34) dX8_parseString_57 (by decide) ?_
    refine rt_icmp_ne (tgt := 75) dX8_parseString_59 (by decide) (fun c59 => ?_) (fun c59 => ?_)
    · refine rt_iload_n dX8_parseString_75 rfl (j := 0) rfl ?_
      refine rt_bipush (v := 92) dX8_parseString_76 (by decide) ?_
      refine rt_icmp_ne (tgt := 106) dX8_parseString_78 (by decide) (fun c78 => ?_) (fun c78 => ?_)
      · refine rt_iload_n dX8_parseString_106 rfl (j := 0) rfl ?_
        refine rt_bipush (v := 92) dX8_parseString_107 (by decide) ?_
        refine rt_icmp_ne (tgt := 119) dX8_parseString_109 (by decide) (fun _ => ?_) (fun c109 => absurd c109 c78)
        refine rt_iload_n dX8_parseString_119 rfl (j := 0) rfl ?_
        refine rt_bipush (v := 32) dX8_parseString_120 (by decide) ?_
        refine rt_icmp_lt (tgt := 131) dX8_parseString_122 (by decide) (fun c122 => ?_) (fun c122 => ?_)
        · refine rt_aload_n dX8_parseString_131 rfl (j := 3) rfl ?_
          refine rt_aload_n dX8_parseString_132 rfl (j := 3) rfl ?_
          refine rt_bGet Γ kf_RX8_67 dX8_parseString_133 (L := (tx_L s0 ca t (rt_r s0 tp) vals (nI p) (-1) k b nx fi pa wo ke nu le (nI L))) rfl rfl ?_
          refine rt_callV Γ kk_X8_fail kc_RX8_83 (c_X8_fail0 Γ (d := d - 1)) (by omega) (by decide) (As := [.int (nI p)]) (show (parseMethodDescriptor yX8_fail.desc).map (fun q => q.parameters.length) = some 1 by decide +kernel) hok (Nat.le_of_ble_eq_true rfl) dX8_parseString_136 ((rt_bk_0 w t (tx_L s0 ca t (rt_r s0 tp) vals (nI p) (-1) k b nx fi pa wo ke nu le (nI L)) (Nat.le_of_ble_eq_true rfl)).trans rfl) rfl rfl rfl (rt_kr (st2 := []) rfl ?_) rt_kx
          refine rt_goto (tgt := 161) dX8_parseString_139 (by decide) ?_
          refine rt_iinc (v := nI (i + 1)) (lv' := [(2, .int (nI (i + 1))), (3, .int (g p)), (1, .int (nI z)), (0, rt_r s0 t)]) dX8_parseString_161 (j := 1) rfl ((nI_1 i).symm ▸ rfl) (by decide) rfl ?_
          refine rt_goto (tgt := 29) dX8_parseString_164 (by decide) ?_
          exact rt_lfew [0, 2, 3] rfl (j_strX Γ (nI_nm1 (by omega)) (k1 p ((if_neg c59).trans ((if_neg c78).trans (if_pos c122))) p L _))
        · refine rt_iload_n dX8_parseString_125 rfl (j := 0) rfl ?_
          refine rt_bipush (v := 126) dX8_parseString_126 (by decide) ?_
          refine rt_icmp_le (tgt := 142) dX8_parseString_128 (by decide) (fun c128 => ?_) (fun c128 => ?_)
          · refine rt_aload_n dX8_parseString_142 rfl (j := 3) rfl ?_
            refine rt_bGet Γ kf_RX8_42 dX8_parseString_143 (L := (tx_L s0 ca t (rt_r s0 tp) vals (nI p) (-1) k b nx fi pa wo ke nu le (nI L))) rfl rfl ?_
            refine rt_iload_n dX8_parseString_146 rfl (j := 0) rfl ?_
            refine rt_callV Γ kk_X0_add kc_RX8_145 (c_X0_add Γ (d := d - 1) (k := L) (v := (g p)) (rt_bk_C (t := t) (L := (tx_L s0 ca t (rt_r s0 tp) vals (nI p) (-1) k b nx fi pa wo ke nu le (nI L))) 16 (Nat.le_of_ble_eq_true rfl) rfl rfl) (by decide) (by omega)) (by omega) (by decide) (As := [.int (g p)]) (show (parseMethodDescriptor yX0_add.desc).map (fun q => q.parameters.length) = some 1 by decide +kernel) hok (Nat.le_of_ble_eq_true rfl) dX8_parseString_147 (rt_bk_C (t := t) (L := (tx_L s0 ca t (rt_r s0 tp) vals (nI p) (-1) k b nx fi pa wo ke nu le (nI L))) 16 (Nat.le_of_ble_eq_true rfl) rfl rfl).1 rfl rfl rfl (rt_kr (st2 := [.int 1]) rfl ?_) rt_kx
            refine rt_weq (w' := (rt_bk w t (tx_L s0 ca t (rt_r s0 tp) vals (nI p) (-1) k b nx fi pa wo ke nu (upd le L (g p)) (nI (L + 1))))) (rt_bk_cs 16 (Nat.le_of_ble_eq_true rfl)) ?_
            refine rt_pop dX8_parseString_150 rfl ?_
            refine rt_aload_n dX8_parseString_151 rfl (j := 3) rfl ?_
            refine rt_dup dX8_parseString_152 rfl ?_
            refine rt_bGet Γ kf_RX8_67 dX8_parseString_153 (L := (tx_L s0 ca t (rt_r s0 tp) vals (nI p) (-1) k b nx fi pa wo ke nu (upd le L (g p)) (nI (L + 1)))) rfl rfl ?_
            refine rt_iconst (v := 1) dX8_parseString_156 (by decide) ?_
            refine rt_iadd dX8_parseString_157 ?_
            refine rt_te (y := nI (p + 1)) (nI_1 _) ?_
            refine rt_bPut Γ kp_RX8_67 dX8_parseString_158 (L := (tx_L s0 ca t (rt_r s0 tp) vals (nI p) (-1) k b nx fi pa wo ke nu (upd le L (g p)) (nI (L + 1)))) rfl (Nat.le_of_ble_eq_true rfl) rfl rfl (L' := (tx_L s0 ca t (rt_r s0 tp) vals (nI (p + 1)) (-1) k b nx fi pa wo ke nu (upd le L (g p)) (nI (L + 1)))) rfl ?_
            refine rt_iinc (v := nI (i + 1)) (lv' := [(2, .int (nI (i + 1))), (3, .int (g p)), (1, .int (nI z)), (0, rt_r s0 t)]) dX8_parseString_161 (j := 1) rfl ((nI_1 i).symm ▸ rfl) (by decide) rfl ?_
            have hs : jStr g (m + 1) p = jCons (g p) (jStr g m (p + 1)) := (if_neg c59).trans ((if_neg c78).trans ((if_neg c122).trans (if_pos c128)))
            have hlt : p < N := hN.lt (fun c => c122 (by rw [c]; decide))
            refine rt_goto (tgt := 29) dX8_parseString_164 (by decide) ?_
            exact rt_lfew [0, 2, 3] rfl (ih (i + 1) (p + 1) (L + 1) _ (by omega) (by omega) (by omega) (by omega) (fun e he => k1 e (hs.trans (by rw [he]; rfl))) (fun ws p1 h1 => (show L + (ws.length + 1) = L + 1 + ws.length by omega) ▸ k2 (g p :: ws) p1 (hs.trans (by rw [h1]; rfl))))
          · refine rt_aload_n dX8_parseString_131 rfl (j := 3) rfl ?_
            refine rt_aload_n dX8_parseString_132 rfl (j := 3) rfl ?_
            refine rt_bGet Γ kf_RX8_67 dX8_parseString_133 (L := (tx_L s0 ca t (rt_r s0 tp) vals (nI p) (-1) k b nx fi pa wo ke nu le (nI L))) rfl rfl ?_
            refine rt_callV Γ kk_X8_fail kc_RX8_83 (c_X8_fail0 Γ (d := d - 1)) (by omega) (by decide) (As := [.int (nI p)]) (show (parseMethodDescriptor yX8_fail.desc).map (fun q => q.parameters.length) = some 1 by decide +kernel) hok (Nat.le_of_ble_eq_true rfl) dX8_parseString_136 ((rt_bk_0 w t (tx_L s0 ca t (rt_r s0 tp) vals (nI p) (-1) k b nx fi pa wo ke nu le (nI L)) (Nat.le_of_ble_eq_true rfl)).trans rfl) rfl rfl rfl (rt_kr (st2 := []) rfl ?_) rt_kx
            refine rt_goto (tgt := 161) dX8_parseString_139 (by decide) ?_
            refine rt_iinc (v := nI (i + 1)) (lv' := [(2, .int (nI (i + 1))), (3, .int (g p)), (1, .int (nI z)), (0, rt_r s0 t)]) dX8_parseString_161 (j := 1) rfl ((nI_1 i).symm ▸ rfl) (by decide) rfl ?_
            refine rt_goto (tgt := 29) dX8_parseString_164 (by decide) ?_
            exact rt_lfew [0, 2, 3] rfl (j_strX Γ (nI_nm1 (by omega)) (k1 p ((if_neg c59).trans ((if_neg c78).trans ((if_neg c122).trans (if_neg c128)))) p L _))
      · refine rt_aload_n dX8_parseString_81 rfl (j := 3) rfl ?_
        refine rt_bGet Γ kf_RX8_57 dX8_parseString_82 (L := (tx_L s0 ca t (rt_r s0 tp) vals (nI p) (-1) k b nx fi pa wo ke nu le (nI L))) rfl rfl ?_
        refine rt_aload_n dX8_parseString_85 rfl (j := 3) rfl ?_
        refine rt_bGet Γ kf_RX8_67 dX8_parseString_86 (L := (tx_L s0 ca t (rt_r s0 tp) vals (nI p) (-1) k b nx fi pa wo ke nu le (nI L))) rfl rfl ?_
        refine rt_iconst (v := 1) dX8_parseString_89 (by decide) ?_
        refine rt_iadd dX8_parseString_90 ?_
        refine rt_te (y := nI (p + 1)) (nI_1 _) ?_
        refine rt_callV Γ kk_X0_peek kc_RX8_86 (c_X0_peek Γ (d := d - 1) (x := (nI (p + 1))) (hT.bk htp) hn) (by omega) (by decide) (As := [.int (nI (p + 1))]) (show (parseMethodDescriptor yX0_peek.desc).map (fun q => q.parameters.length) = some 1 by decide +kernel) hok (Nat.le_of_ble_eq_true rfl) dX8_parseString_91 (hT.bk htp).1 rfl rfl rfl (rt_kr (st2 := [.int (cl_peek n f u (nI (p + 1)))]) rfl ?_) rt_kx
        refine rt_te (y := g (p + 1)) (hg (p + 1) (by omega)) ?_
        refine rt_bipush (v := 117) dX8_parseString_94 (by decide) ?_
        refine rt_icmp_ne (tgt := 106) dX8_parseString_96 (by decide) (fun c96 => ?_) (fun c96 => ?_)
        · refine rt_iload_n dX8_parseString_106 rfl (j := 0) rfl ?_
          refine rt_bipush (v := 92) dX8_parseString_107 (by decide) ?_
          refine rt_icmp_ne (tgt := 119) dX8_parseString_109 (by decide) (fun c109 => absurd c109 (fun h => h c78)) (fun _ => ?_)
          refine rt_aload_n dX8_parseString_112 rfl (j := 3) rfl ?_
          by_cases h5 : jEsc (g (p + 1)) = -1
          · refine rt_callV Γ kk_X8_parseEscape kc_RX8_151 (j_escF Γ (d := d - 1) (by omega) hT hn htp hg hok (by omega) h5) (by omega) (by decide) (As := []) (show (parseMethodDescriptor yX8_parseEscape.desc).map (fun q => q.parameters.length) = some 0 by decide +kernel) hok (Nat.le_of_ble_eq_true rfl) dX8_parseString_113 ((rt_bk_0 w t (tx_L s0 ca t (rt_r s0 tp) vals (nI p) (-1) k b nx fi pa wo ke nu le (nI L)) (Nat.le_of_ble_eq_true rfl)).trans rfl) rfl rfl rfl (rt_kr (st2 := []) rfl ?_) rt_kx
            refine rt_goto (tgt := 161) dX8_parseString_116 (by decide) ?_
            refine rt_iinc (v := nI (i + 1)) (lv' := [(2, .int (nI (i + 1))), (3, .int (g p)), (1, .int (nI z)), (0, rt_r s0 t)]) dX8_parseString_161 (j := 1) rfl ((nI_1 i).symm ▸ rfl) (by decide) rfl ?_
            refine rt_goto (tgt := 29) dX8_parseString_164 (by decide) ?_
            exact rt_lfew [0, 2, 3] rfl (j_strX Γ (nI_nm1 (by omega)) (k1 (p + 1) ((if_neg c59).trans ((if_pos c78).trans ((if_neg c96).trans (if_pos h5)))) (p + 1) L _))
          · refine rt_callV Γ kk_X8_parseEscape kc_RX8_151 (j_escT Γ (d := d - 1) (by omega) hT hn htp hg hok (by omega) (by omega) h5) (by omega) (by decide) (As := []) (show (parseMethodDescriptor yX8_parseEscape.desc).map (fun q => q.parameters.length) = some 0 by decide +kernel) hok (Nat.le_of_ble_eq_true rfl) dX8_parseString_113 ((rt_bk_0 w t (tx_L s0 ca t (rt_r s0 tp) vals (nI p) (-1) k b nx fi pa wo ke nu le (nI L)) (Nat.le_of_ble_eq_true rfl)).trans rfl) rfl rfl rfl (rt_kr (st2 := []) rfl ?_) rt_kx
            refine rt_goto (tgt := 161) dX8_parseString_116 (by decide) ?_
            refine rt_iinc (v := nI (i + 1)) (lv' := [(2, .int (nI (i + 1))), (3, .int (g p)), (1, .int (nI z)), (0, rt_r s0 t)]) dX8_parseString_161 (j := 1) rfl ((nI_1 i).symm ▸ rfl) (by decide) rfl ?_
            have hs : jStr g (m + 1) p = jCons (jEsc (g (p + 1))) (jStr g m (p + 2)) := (if_neg c59).trans ((if_pos c78).trans ((if_neg c96).trans (if_neg h5)))
            have hlt : p + 1 < N := hN.lt (fun c => h5 (by rw [c]; exact jEsc_m1))
            refine rt_goto (tgt := 29) dX8_parseString_164 (by decide) ?_
            exact rt_lfew [0, 2, 3] rfl (ih (i + 1) (p + 2) (L + 1) _ (by omega) (by omega) (by omega) (by omega) (fun e he => k1 e (hs.trans (by rw [he]; rfl))) (fun ws p1 h1 => (show L + (ws.length + 1) = L + 1 + ws.length by omega) ▸ k2 (jEsc (g (p + 1)) :: ws) p1 (hs.trans (by rw [h1]; rfl))))
        · refine rt_aload_n dX8_parseString_99 rfl (j := 3) rfl ?_
          cases h4 : jFour g 4 (p + 2) 0 with
          | error e =>
            have he : e < p + 6 := by have := jFour_lt h4; omega
            refine rt_callV Γ kk_X8_parseFourDigits kc_RX8_148 (j_fourE Γ (d := d - 1) (by omega) hT hn htp hg hok (by omega) h4) (by omega) (by decide) (As := []) (show (parseMethodDescriptor yX8_parseFourDigits.desc).map (fun q => q.parameters.length) = some 0 by decide +kernel) hok (Nat.le_of_ble_eq_true rfl) dX8_parseString_100 ((rt_bk_0 w t (tx_L s0 ca t (rt_r s0 tp) vals (nI p) (-1) k b nx fi pa wo ke nu le (nI L)) (Nat.le_of_ble_eq_true rfl)).trans rfl) rfl rfl rfl (rt_kr (st2 := []) rfl ?_) rt_kx
            refine rt_goto (tgt := 161) dX8_parseString_103 (by decide) ?_
            refine rt_iinc (v := nI (i + 1)) (lv' := [(2, .int (nI (i + 1))), (3, .int (g p)), (1, .int (nI z)), (0, rt_r s0 t)]) dX8_parseString_161 (j := 1) rfl ((nI_1 i).symm ▸ rfl) (by decide) rfl ?_
            refine rt_goto (tgt := 29) dX8_parseString_164 (by decide) ?_
            exact rt_lfew [0, 2, 3] rfl (j_strX Γ (nI_nm1 (by omega)) (k1 e ((if_neg c59).trans ((if_pos c78).trans ((if_pos c96).trans (by rw [h4])))) e L _))
          | ok s =>
            by_cases hs4 : s ≤ 255
            · refine rt_callV Γ kk_X8_parseFourDigits kc_RX8_148 (j_fourT Γ (d := d - 1) (by omega) hT hn htp hg hok (by omega) (by omega) h4 hs4) (by omega) (by decide) (As := []) (show (parseMethodDescriptor yX8_parseFourDigits.desc).map (fun q => q.parameters.length) = some 0 by decide +kernel) hok (Nat.le_of_ble_eq_true rfl) dX8_parseString_100 ((rt_bk_0 w t (tx_L s0 ca t (rt_r s0 tp) vals (nI p) (-1) k b nx fi pa wo ke nu le (nI L)) (Nat.le_of_ble_eq_true rfl)).trans rfl) rfl rfl rfl (rt_kr (st2 := []) rfl ?_) rt_kx
              refine rt_goto (tgt := 161) dX8_parseString_103 (by decide) ?_
              refine rt_iinc (v := nI (i + 1)) (lv' := [(2, .int (nI (i + 1))), (3, .int (g p)), (1, .int (nI z)), (0, rt_r s0 t)]) dX8_parseString_161 (j := 1) rfl ((nI_1 i).symm ▸ rfl) (by decide) rfl ?_
              have hs : jStr g (m + 1) p = jCons s (jStr g m (p + 6)) := (if_neg c59).trans ((if_pos c78).trans ((if_pos c96).trans (by rw [h4]; exact if_pos hs4)))
              have hlt : p + 5 < N := hN.lt (by have := jFour_ok h4; rwa [show p + 2 + 3 = p + 5 by omega] at this)
              refine rt_goto (tgt := 29) dX8_parseString_164 (by decide) ?_
              exact rt_lfew [0, 2, 3] rfl (ih (i + 1) (p + 6) (L + 1) _ (by omega) (by omega) (by omega) (by omega) (fun e he => k1 e (hs.trans (by rw [he]; rfl))) (fun ws p1 h1 => (show L + (ws.length + 1) = L + 1 + ws.length by omega) ▸ k2 (s :: ws) p1 (hs.trans (by rw [h1]; rfl))))
            · refine rt_callV Γ kk_X8_parseFourDigits kc_RX8_148 (j_fourF Γ (d := d - 1) (by omega) hT hn htp hg hok (by omega) h4 hs4) (by omega) (by decide) (As := []) (show (parseMethodDescriptor yX8_parseFourDigits.desc).map (fun q => q.parameters.length) = some 0 by decide +kernel) hok (Nat.le_of_ble_eq_true rfl) dX8_parseString_100 ((rt_bk_0 w t (tx_L s0 ca t (rt_r s0 tp) vals (nI p) (-1) k b nx fi pa wo ke nu le (nI L)) (Nat.le_of_ble_eq_true rfl)).trans rfl) rfl rfl rfl (rt_kr (st2 := []) rfl ?_) rt_kx
              refine rt_goto (tgt := 161) dX8_parseString_103 (by decide) ?_
              refine rt_iinc (v := nI (i + 1)) (lv' := [(2, .int (nI (i + 1))), (3, .int (g p)), (1, .int (nI z)), (0, rt_r s0 t)]) dX8_parseString_161 (j := 1) rfl ((nI_1 i).symm ▸ rfl) (by decide) rfl ?_
              refine rt_goto (tgt := 29) dX8_parseString_164 (by decide) ?_
              exact rt_lfew [0, 2, 3] rfl (j_strX Γ (nI_nm1 (by omega)) (k1 p ((if_neg c59).trans ((if_pos c78).trans ((if_pos c96).trans (by rw [h4]; exact if_neg hs4)))) (p + 6) L _))
    · refine rt_aload_n dX8_parseString_62 rfl (j := 3) rfl ?_
      refine rt_dup dX8_parseString_63 rfl ?_
      refine rt_bGet Γ kf_RX8_67 dX8_parseString_64 (L := (tx_L s0 ca t (rt_r s0 tp) vals (nI p) (-1) k b nx fi pa wo ke nu le (nI L))) rfl rfl ?_
      refine rt_iconst (v := 1) dX8_parseString_67 (by decide) ?_
      refine rt_iadd dX8_parseString_68 ?_
      refine rt_te (y := nI (p + 1)) (nI_1 _) ?_
      refine rt_bPut Γ kp_RX8_67 dX8_parseString_69 (L := (tx_L s0 ca t (rt_r s0 tp) vals (nI p) (-1) k b nx fi pa wo ke nu le (nI L))) rfl (Nat.le_of_ble_eq_true rfl) rfl rfl (L' := (tx_L s0 ca t (rt_r s0 tp) vals (nI (p + 1)) (-1) k b nx fi pa wo ke nu le (nI L))) rfl ?_
      refine rt_goto (tgt := 167) dX8_parseString_72 (by decide) ?_
      exact rt_lfew [2, 3] rfl (k2 [] (p + 1) (if_pos c59))
/-- the class's Text behind a fault at e: its rows may say anything -/
def tx_B (s0 : State) (ca : Nat → ClassId) (w : rt_Wd) (t tp e : Nat) (w1 : rt_Wd) : Prop := ∃ (vals pos : Int32) (k b nx fi pa wo ke : Nat → Int32) (nu : Nat → Int64) (le : Nat → Int32) (lu : Int32), w1 = rt_bk w t (tx_L s0 ca t (rt_r s0 tp) vals pos (nI e) k b nx fi pa wo ke nu le lu)
/-- a word: its length and its letters -/
def jWord (le : Nat → Int32) (L : Nat) (ws : List Int32) : Nat → Int32 := upd (jApp (upd le L 0) (L + 1) ws) L (nI ws.length)
theorem jStr_lt {g : Nat → Int32} {N : Nat} (hN : jT g N) {m p e : Nat} (hp : p ≤ N) (hm : N < p + m) (h : jStr g m p = .error e) : e < N + 6 := by
  induction m generalizing p with
  | zero => exact absurd hm (by omega)
  | succ m ih =>
    have hc : ∀ {c : Int32} {r : Except Nat (List Int32 × Nat)}, jCons c r = .error e → r = .error e := by
      intro c r h
      cases r with
      | error q => exact h
      | ok x => exact nomatch h
    unfold jStr at h
    split at h
    · exact nomatch h
    · split at h
      · rename_i h92
        have := hN.lt (p := p) (by rw [h92]; decide)
        split at h
        · split at h
          · rename_i q hq
            have := jFour_lt hq
            cases h
            omega
          · rename_i s hs
            split at h
            · have hl := hN.lt (jFour_ok hs)
              exact ih (by omega) (by omega) (hc h)
            · cases h
              omega
        · split at h
          · cases h
            omega
          · rename_i h5
            have hl := hN.lt (p := p + 1) (fun c => h5 (by rw [c]; exact jEsc_m1))
            exact ih (by omega) (by omega) (hc h)
      · split at h
        · cases h
          omega
        · rename_i h32
          split at h
          · have hl := hN.lt (p := p) (fun c => h32 (by rw [c]; decide))
            exact ih (by omega) (by omega) (hc h)
          · cases h
            omega
theorem jStr_ok {g : Nat → Int32} {N : Nat} (hN : jT g N) {m p q : Nat} {ws : List Int32} (h : jStr g m p = .ok (ws, q)) : p + ws.length < q ∧ q ≤ N := by
  induction m generalizing p ws with
  | zero => exact nomatch h
  | succ m ih =>
    have hc : ∀ {c : Int32} {p1 a : Nat}, p + 1 ≤ p1 → jCons c (jStr g m p1) = .ok (ws, q) → p + ws.length < q ∧ q ≤ N := by
      intro c p1 a hp h
      cases hr : jStr g m p1 with
      | error q => rw [hr] at h; exact nomatch h
      | ok x =>
        obtain ⟨w1, q1⟩ := x
        rw [hr] at h
        cases h
        have := ih hr
        rw [List.length_cons]
        omega
    unfold jStr at h
    split at h
    · rename_i h34
      have := hN.lt (p := p) (by rw [h34]; decide)
      cases h
      exact ⟨Nat.lt_succ_self p, by omega⟩
    · split at h
      · split at h
        · split at h
          · exact nomatch h
          · split at h
            · exact hc (a := 0) (by omega) h
            · exact nomatch h
        · split at h
          · exact nomatch h
          · exact hc (a := 0) (by omega) h
      · split at h
        · exact nomatch h
        · split at h
          · exact hc (a := 0) (by omega) h
          · exact nomatch h
set_option maxRecDepth 100000 in
theorem j_strE {l : Launch} {s0 : State} {a0 : Array Value} {G : va_G} {ca : Nat → ClassId} (Γ : rt_Γ l s0 a0 G ca) {d : Nat} {w : rt_Wd} {t : Nat} {vals : Int32} {k : Nat → Int32} {b : Nat → Int32} {nx : Nat → Int32} {fi : Nat → Int32} {pa : Nat → Int32} {wo : Nat → Int32} {ke : Nat → Int32} {nu : Nat → Int64} {le : Nat → Int32} (hd : 2 ≤ d) {tp n : Nat} {f : Nat → Int32} {u : Int32} {g : Nat → Int32} (hT : rt_C s0 ca w tp n f u) (hn : n < 2 ^ 31) (htp : tp + 1 < t ∨ t + 18 ≤ tp) (hg : ∀ p : Nat, p < 65536 → cl_peek n f u (nI p) = g p) (hok : rt_ok w) {N : Nat} (hN : jT g N) {p L : Nat} (hp : p < N) (hL : L + (N - p) < 4096) {e : Nat} (h : jStr g 4097 (p + 1) = .error e) : rt_Met l s0 G (.code yX8_parseString cX8_parseString 4 (Option.some FieldType.int)) yX8_parseString d [rt_r s0 t] (rt_bk w t (tx_L s0 ca t (rt_r s0 tp) vals (nI p) (-1) k b nx fi pa wo ke nu le (nI L))) (fun r w1 => r = .inl (some (.int (nI L))) ∧ tx_B s0 ca w t tp e w1) := by
  refine rt_met Γ kk_X8_parseString rfl (Nat.le_of_ble_eq_true rfl) rfl ?_
  have hN0 := hN.1
  refine rt_aload_n dX8_parseString_0 rfl (j := 0) rfl ?_
  refine rt_bGet Γ kf_RX8_42 dX8_parseString_1 (L := (tx_L s0 ca t (rt_r s0 tp) vals (nI p) (-1) k b nx fi pa wo ke nu le (nI L))) rfl rfl ?_
  refine rt_callV Γ kk_X0_count kc_RX8_79 (c_X0_count Γ (d := d - 1) (rt_bk_C (t := t) (L := (tx_L s0 ca t (rt_r s0 tp) vals (nI p) (-1) k b nx fi pa wo ke nu le (nI L))) 16 (Nat.le_of_ble_eq_true rfl) rfl rfl)) (by omega) (by decide) (As := []) (show (parseMethodDescriptor yX0_count.desc).map (fun q => q.parameters.length) = some 0 by decide +kernel) hok (Nat.le_of_ble_eq_true rfl) dX8_parseString_4 (rt_bk_C (t := t) (L := (tx_L s0 ca t (rt_r s0 tp) vals (nI p) (-1) k b nx fi pa wo ke nu le (nI L))) 16 (Nat.le_of_ble_eq_true rfl) rfl rfl).1 rfl rfl rfl (rt_kr (st2 := [.int (nI L)]) rfl ?_) rt_kx
  refine rt_istore_n (lv' := [(1, .int (nI L)), (0, rt_r s0 t)]) dX8_parseString_7 rfl (by decide) rfl ?_
  refine rt_aload_n dX8_parseString_8 rfl (j := 1) rfl ?_
  refine rt_bGet Γ kf_RX8_42 dX8_parseString_9 (L := (tx_L s0 ca t (rt_r s0 tp) vals (nI p) (-1) k b nx fi pa wo ke nu le (nI L))) rfl rfl ?_
  refine rt_iconst (v := 0) dX8_parseString_12 (by decide) ?_
  refine rt_callV Γ kk_X0_add kc_RX8_145 (c_X0_add Γ (d := d - 1) (k := L) (v := 0) (rt_bk_C (t := t) (L := (tx_L s0 ca t (rt_r s0 tp) vals (nI p) (-1) k b nx fi pa wo ke nu le (nI L))) 16 (Nat.le_of_ble_eq_true rfl) rfl rfl) (by decide) (by omega)) (by omega) (by decide) (As := [.int 0]) (show (parseMethodDescriptor yX0_add.desc).map (fun q => q.parameters.length) = some 1 by decide +kernel) hok (Nat.le_of_ble_eq_true rfl) dX8_parseString_13 (rt_bk_C (t := t) (L := (tx_L s0 ca t (rt_r s0 tp) vals (nI p) (-1) k b nx fi pa wo ke nu le (nI L))) 16 (Nat.le_of_ble_eq_true rfl) rfl rfl).1 rfl rfl rfl (rt_kr (st2 := [.int 1]) rfl ?_) rt_kx
  refine rt_weq (w' := (rt_bk w t (tx_L s0 ca t (rt_r s0 tp) vals (nI p) (-1) k b nx fi pa wo ke nu (upd le L 0) (nI (L + 1))))) (rt_bk_cs 16 (Nat.le_of_ble_eq_true rfl)) ?_
  refine rt_pop dX8_parseString_16 rfl ?_
  refine rt_aload_n dX8_parseString_17 rfl (j := 1) rfl ?_
  refine rt_dup dX8_parseString_18 rfl ?_
  refine rt_bGet Γ kf_RX8_67 dX8_parseString_19 (L := (tx_L s0 ca t (rt_r s0 tp) vals (nI p) (-1) k b nx fi pa wo ke nu (upd le L 0) (nI (L + 1)))) rfl rfl ?_
  refine rt_iconst (v := 1) dX8_parseString_22 (by decide) ?_
  refine rt_iadd dX8_parseString_23 ?_
  refine rt_te (y := nI (p + 1)) (nI_1 _) ?_
  refine rt_bPut Γ kp_RX8_67 dX8_parseString_24 (L := (tx_L s0 ca t (rt_r s0 tp) vals (nI p) (-1) k b nx fi pa wo ke nu (upd le L 0) (nI (L + 1)))) rfl (Nat.le_of_ble_eq_true rfl) rfl rfl (L' := (tx_L s0 ca t (rt_r s0 tp) vals (nI (p + 1)) (-1) k b nx fi pa wo ke nu (upd le L 0) (nI (L + 1)))) rfl ?_
  refine rt_iconst (v := 0) dX8_parseString_27 (by decide) ?_
  refine rt_istore_n (lv' := [(2, .int 0), (1, .int (nI L)), (0, rt_r s0 t)]) dX8_parseString_28 rfl (by decide) rfl ?_
  refine rt_lfew [0, 1, 2] rfl (j_strL Γ (le := le) hd hT hn htp hg hok hN 4097 0 (p + 1) (L + 1) _ rfl (by omega) (by omega) (by omega) (fun e1 h1 p1 L1 l1 => ?_) (fun ws p1 h1 => nomatch h1.symm.trans h))
  obtain rfl : e1 = e := Except.error.inj (h1.symm.trans h)
  refine rt_aload_n dX8_parseString_167 rfl (j := 1) rfl ?_
  refine rt_bGet Γ kf_RX8_42 dX8_parseString_168 (L := (tx_L s0 ca t (rt_r s0 tp) vals (nI p1) (nI e1) k b nx fi pa wo ke nu l1 (nI L1))) rfl rfl ?_
  refine rt_iload_n dX8_parseString_171 rfl (j := 0) rfl ?_
  refine rt_aload_n dX8_parseString_172 rfl (j := 1) rfl ?_
  refine rt_bGet Γ kf_RX8_42 dX8_parseString_173 (L := (tx_L s0 ca t (rt_r s0 tp) vals (nI p1) (nI e1) k b nx fi pa wo ke nu l1 (nI L1))) rfl rfl ?_
  refine rt_callV Γ kk_X0_count kc_RX8_79 (c_X0_count Γ (d := d - 1) (rt_bk_C (t := t) (L := (tx_L s0 ca t (rt_r s0 tp) vals (nI p1) (nI e1) k b nx fi pa wo ke nu l1 (nI L1))) 16 (Nat.le_of_ble_eq_true rfl) rfl rfl)) (by omega) (by decide) (As := []) (show (parseMethodDescriptor yX0_count.desc).map (fun q => q.parameters.length) = some 0 by decide +kernel) hok (Nat.le_of_ble_eq_true rfl) dX8_parseString_176 (rt_bk_C (t := t) (L := (tx_L s0 ca t (rt_r s0 tp) vals (nI p1) (nI e1) k b nx fi pa wo ke nu l1 (nI L1))) 16 (Nat.le_of_ble_eq_true rfl) rfl rfl).1 rfl rfl rfl (rt_kr (st2 := [.int (nI L1), .int (nI L), rt_r s0 (t + 16)]) rfl ?_) rt_kx
  refine rt_iload_n dX8_parseString_179 rfl (j := 0) rfl ?_
  refine rt_isub dX8_parseString_180 ?_
  refine rt_iconst (v := 1) dX8_parseString_181 (by decide) ?_
  refine rt_isub dX8_parseString_182 ?_
  refine rt_callV Γ kk_X0_put kc_RX8_89 (c_X0_put Γ (d := d - 1) (x := nI L) (rt_bk_C (t := t) (L := (tx_L s0 ca t (rt_r s0 tp) vals (nI p1) (nI e1) k b nx fi pa wo ke nu l1 (nI L1))) 16 (Nat.le_of_ble_eq_true rfl) rfl rfl) (by decide)) (by omega) (by decide) (As := [.int (nI L), .int (((nI L1) - (nI L)) - 1)]) (show (parseMethodDescriptor yX0_put.desc).map (fun q => q.parameters.length) = some 2 by decide +kernel) hok (Nat.le_of_ble_eq_true rfl) dX8_parseString_183 (rt_bk_C (t := t) (L := (tx_L s0 ca t (rt_r s0 tp) vals (nI p1) (nI e1) k b nx fi pa wo ke nu l1 (nI L1))) 16 (Nat.le_of_ble_eq_true rfl) rfl rfl).1 rfl rfl rfl (rt_kr (st2 := []) rfl ?_) rt_kx
  refine rt_weq (w' := (rt_bk w t (tx_L s0 ca t (rt_r s0 tp) vals (nI p1) (nI e1) k b nx fi pa wo ke nu (cl_put 4096 l1 (nI L) (((nI L1) - (nI L)) - 1)) (nI L1)))) (rt_bk_cs 16 (Nat.le_of_ble_eq_true rfl)) ?_
  refine rt_iload_n dX8_parseString_186 rfl (j := 0) rfl ?_
  exact rt_iret dX8_parseString_187 rfl (⟨rfl, _, _, _, _, _, _, _, _, _, _, _, _, rfl⟩)
set_option maxRecDepth 100000 in
theorem j_strT {l : Launch} {s0 : State} {a0 : Array Value} {G : va_G} {ca : Nat → ClassId} (Γ : rt_Γ l s0 a0 G ca) {d : Nat} {w : rt_Wd} {t : Nat} {vals : Int32} {k : Nat → Int32} {b : Nat → Int32} {nx : Nat → Int32} {fi : Nat → Int32} {pa : Nat → Int32} {wo : Nat → Int32} {ke : Nat → Int32} {nu : Nat → Int64} {le : Nat → Int32} (hd : 2 ≤ d) {tp n : Nat} {f : Nat → Int32} {u : Int32} {g : Nat → Int32} (hT : rt_C s0 ca w tp n f u) (hn : n < 2 ^ 31) (htp : tp + 1 < t ∨ t + 18 ≤ tp) (hg : ∀ p : Nat, p < 65536 → cl_peek n f u (nI p) = g p) (hok : rt_ok w) {N : Nat} (hN : jT g N) {p L : Nat} (hp : p < N) (hL : L + (N - p) < 4096) {ws : List Int32} {p1 : Nat} (h : jStr g 4097 (p + 1) = .ok (ws, p1)) : rt_Met l s0 G (.code yX8_parseString cX8_parseString 4 (Option.some FieldType.int)) yX8_parseString d [rt_r s0 t] (rt_bk w t (tx_L s0 ca t (rt_r s0 tp) vals (nI p) (-1) k b nx fi pa wo ke nu le (nI L))) (rt_is (.inl (some (.int (nI L)))) (rt_bk w t (tx_L s0 ca t (rt_r s0 tp) vals (nI p1) (-1) k b nx fi pa wo ke nu (jWord le L ws) (nI (L + 1 + ws.length))))) := by
  refine rt_met Γ kk_X8_parseString rfl (Nat.le_of_ble_eq_true rfl) rfl ?_
  have hN0 := hN.1
  refine rt_aload_n dX8_parseString_0 rfl (j := 0) rfl ?_
  refine rt_bGet Γ kf_RX8_42 dX8_parseString_1 (L := (tx_L s0 ca t (rt_r s0 tp) vals (nI p) (-1) k b nx fi pa wo ke nu le (nI L))) rfl rfl ?_
  refine rt_callV Γ kk_X0_count kc_RX8_79 (c_X0_count Γ (d := d - 1) (rt_bk_C (t := t) (L := (tx_L s0 ca t (rt_r s0 tp) vals (nI p) (-1) k b nx fi pa wo ke nu le (nI L))) 16 (Nat.le_of_ble_eq_true rfl) rfl rfl)) (by omega) (by decide) (As := []) (show (parseMethodDescriptor yX0_count.desc).map (fun q => q.parameters.length) = some 0 by decide +kernel) hok (Nat.le_of_ble_eq_true rfl) dX8_parseString_4 (rt_bk_C (t := t) (L := (tx_L s0 ca t (rt_r s0 tp) vals (nI p) (-1) k b nx fi pa wo ke nu le (nI L))) 16 (Nat.le_of_ble_eq_true rfl) rfl rfl).1 rfl rfl rfl (rt_kr (st2 := [.int (nI L)]) rfl ?_) rt_kx
  refine rt_istore_n (lv' := [(1, .int (nI L)), (0, rt_r s0 t)]) dX8_parseString_7 rfl (by decide) rfl ?_
  refine rt_aload_n dX8_parseString_8 rfl (j := 1) rfl ?_
  refine rt_bGet Γ kf_RX8_42 dX8_parseString_9 (L := (tx_L s0 ca t (rt_r s0 tp) vals (nI p) (-1) k b nx fi pa wo ke nu le (nI L))) rfl rfl ?_
  refine rt_iconst (v := 0) dX8_parseString_12 (by decide) ?_
  refine rt_callV Γ kk_X0_add kc_RX8_145 (c_X0_add Γ (d := d - 1) (k := L) (v := 0) (rt_bk_C (t := t) (L := (tx_L s0 ca t (rt_r s0 tp) vals (nI p) (-1) k b nx fi pa wo ke nu le (nI L))) 16 (Nat.le_of_ble_eq_true rfl) rfl rfl) (by decide) (by omega)) (by omega) (by decide) (As := [.int 0]) (show (parseMethodDescriptor yX0_add.desc).map (fun q => q.parameters.length) = some 1 by decide +kernel) hok (Nat.le_of_ble_eq_true rfl) dX8_parseString_13 (rt_bk_C (t := t) (L := (tx_L s0 ca t (rt_r s0 tp) vals (nI p) (-1) k b nx fi pa wo ke nu le (nI L))) 16 (Nat.le_of_ble_eq_true rfl) rfl rfl).1 rfl rfl rfl (rt_kr (st2 := [.int 1]) rfl ?_) rt_kx
  refine rt_weq (w' := (rt_bk w t (tx_L s0 ca t (rt_r s0 tp) vals (nI p) (-1) k b nx fi pa wo ke nu (upd le L 0) (nI (L + 1))))) (rt_bk_cs 16 (Nat.le_of_ble_eq_true rfl)) ?_
  refine rt_pop dX8_parseString_16 rfl ?_
  refine rt_aload_n dX8_parseString_17 rfl (j := 1) rfl ?_
  refine rt_dup dX8_parseString_18 rfl ?_
  refine rt_bGet Γ kf_RX8_67 dX8_parseString_19 (L := (tx_L s0 ca t (rt_r s0 tp) vals (nI p) (-1) k b nx fi pa wo ke nu (upd le L 0) (nI (L + 1)))) rfl rfl ?_
  refine rt_iconst (v := 1) dX8_parseString_22 (by decide) ?_
  refine rt_iadd dX8_parseString_23 ?_
  refine rt_te (y := nI (p + 1)) (nI_1 _) ?_
  refine rt_bPut Γ kp_RX8_67 dX8_parseString_24 (L := (tx_L s0 ca t (rt_r s0 tp) vals (nI p) (-1) k b nx fi pa wo ke nu (upd le L 0) (nI (L + 1)))) rfl (Nat.le_of_ble_eq_true rfl) rfl rfl (L' := (tx_L s0 ca t (rt_r s0 tp) vals (nI (p + 1)) (-1) k b nx fi pa wo ke nu (upd le L 0) (nI (L + 1)))) rfl ?_
  refine rt_iconst (v := 0) dX8_parseString_27 (by decide) ?_
  refine rt_istore_n (lv' := [(2, .int 0), (1, .int (nI L)), (0, rt_r s0 t)]) dX8_parseString_28 rfl (by decide) rfl ?_
  refine rt_lfew [0, 1, 2] rfl (j_strL Γ (le := le) hd hT hn htp hg hok hN 4097 0 (p + 1) (L + 1) _ rfl (by omega) (by omega) (by omega) (fun e1 h1 p1 L1 l1 => nomatch h1.symm.trans h) (fun ws1 p2 h1 => ?_))
  obtain ⟨rfl, rfl⟩ : ws1 = ws ∧ p2 = p1 := Prod.mk.inj (Except.ok.inj (h1.symm.trans h))
  have hlen := jStr_ok hN h
  refine rt_aload_n dX8_parseString_167 rfl (j := 1) rfl ?_
  refine rt_bGet Γ kf_RX8_42 dX8_parseString_168 (L := (tx_L s0 ca t (rt_r s0 tp) vals (nI p2) (-1) k b nx fi pa wo ke nu (jApp (upd le L 0) (L + 1) ws1) (nI (L + 1 + ws1.length)))) rfl rfl ?_
  refine rt_iload_n dX8_parseString_171 rfl (j := 0) rfl ?_
  refine rt_aload_n dX8_parseString_172 rfl (j := 1) rfl ?_
  refine rt_bGet Γ kf_RX8_42 dX8_parseString_173 (L := (tx_L s0 ca t (rt_r s0 tp) vals (nI p2) (-1) k b nx fi pa wo ke nu (jApp (upd le L 0) (L + 1) ws1) (nI (L + 1 + ws1.length)))) rfl rfl ?_
  refine rt_callV Γ kk_X0_count kc_RX8_79 (c_X0_count Γ (d := d - 1) (rt_bk_C (t := t) (L := (tx_L s0 ca t (rt_r s0 tp) vals (nI p2) (-1) k b nx fi pa wo ke nu (jApp (upd le L 0) (L + 1) ws1) (nI (L + 1 + ws1.length)))) 16 (Nat.le_of_ble_eq_true rfl) rfl rfl)) (by omega) (by decide) (As := []) (show (parseMethodDescriptor yX0_count.desc).map (fun q => q.parameters.length) = some 0 by decide +kernel) hok (Nat.le_of_ble_eq_true rfl) dX8_parseString_176 (rt_bk_C (t := t) (L := (tx_L s0 ca t (rt_r s0 tp) vals (nI p2) (-1) k b nx fi pa wo ke nu (jApp (upd le L 0) (L + 1) ws1) (nI (L + 1 + ws1.length)))) 16 (Nat.le_of_ble_eq_true rfl) rfl rfl).1 rfl rfl rfl (rt_kr (st2 := [.int (nI (L + 1 + ws1.length)), .int (nI L), rt_r s0 (t + 16)]) rfl ?_) rt_kx
  refine rt_iload_n dX8_parseString_179 rfl (j := 0) rfl ?_
  refine rt_isub dX8_parseString_180 ?_
  refine rt_iconst (v := 1) dX8_parseString_181 (by decide) ?_
  refine rt_isub dX8_parseString_182 ?_
  refine rt_te (y := nI ws1.length) (by rw [pk_sub (by omega), show L + 1 + ws1.length - L = ws1.length + 1 by omega, nI_pred]) ?_
  refine rt_callV Γ kk_X0_put kc_RX8_89 (c_X0_put Γ (d := d - 1) (x := nI L) (rt_bk_C (t := t) (L := (tx_L s0 ca t (rt_r s0 tp) vals (nI p2) (-1) k b nx fi pa wo ke nu (jApp (upd le L 0) (L + 1) ws1) (nI (L + 1 + ws1.length)))) 16 (Nat.le_of_ble_eq_true rfl) rfl rfl) (by decide)) (by omega) (by decide) (As := [.int (nI L), .int (nI ws1.length)]) (show (parseMethodDescriptor yX0_put.desc).map (fun q => q.parameters.length) = some 2 by decide +kernel) hok (Nat.le_of_ble_eq_true rfl) dX8_parseString_183 (rt_bk_C (t := t) (L := (tx_L s0 ca t (rt_r s0 tp) vals (nI p2) (-1) k b nx fi pa wo ke nu (jApp (upd le L 0) (L + 1) ws1) (nI (L + 1 + ws1.length)))) 16 (Nat.le_of_ble_eq_true rfl) rfl rfl).1 rfl rfl rfl (rt_kr (st2 := []) rfl ?_) rt_kx
  refine rt_weq (w' := (rt_bk w t (tx_L s0 ca t (rt_r s0 tp) vals (nI p2) (-1) k b nx fi pa wo ke nu (cl_put 4096 (jApp (upd le L 0) (L + 1) ws1) (nI L) (nI ws1.length)) (nI (L + 1 + ws1.length))))) (rt_bk_cs 16 (Nat.le_of_ble_eq_true rfl)) ?_
  refine rt_weq (w' := (rt_bk w t (tx_L s0 ca t (rt_r s0 tp) vals (nI p2) (-1) k b nx fi pa wo ke nu (jWord le L ws1) (nI (L + 1 + ws1.length))))) (by rw [cl_putN (by omega) (by decide)]; rfl) ?_
  refine rt_iload_n dX8_parseString_186 rfl (j := 0) rfl ?_
  exact rt_iret dX8_parseString_187 rfl (⟨rfl, rfl⟩)
