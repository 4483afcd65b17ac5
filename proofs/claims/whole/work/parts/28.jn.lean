/-! ===== the three words, numbers ===== -/
def jLit (g : Nat → Int32) (bs : List Int32) : Nat → Nat → Nat → Except Nat Nat
  | 0, _, p => .ok p
  | m + 1, i, p => if g p = (bs.getD i 0 &&& 255) then jLit g bs m (i + 1) (p + 1) else .error p
set_option maxRecDepth 100000 in
theorem j_wordL {l : Launch} {s0 : State} {a0 : Array Value} {G : va_G} {ca : Nat → ClassId} (Γ : rt_Γ l s0 a0 G ca) {d : Nat} {w v0 : rt_Wd} {t : Nat} {vals : Int32} {k : Nat → Int32} {b : Nat → Int32} {nx : Nat → Int32} {fi : Nat → Int32} {pa : Nat → Int32} {wo : Nat → Int32} {ke : Nat → Int32} {nu : Nat → Int64} {le : Nat → Int32} {lu : Int32} {Q : rt_Res → rt_Wd → Prop} (hd : 4 ≤ d) {tp n : Nat} {f : Nat → Int32} {u : Int32} {g : Nat → Int32} (hT : rt_C s0 ca w tp n f u) (hn : n < 2 ^ 31) (htp : tp + 1 < t ∨ t + 18 ≤ tp) (hg : ∀ p : Nat, p < 65536 → cl_peek n f u (nI p) = g p) (hok : rt_ok w) {a : Nat} {bs : List Int32} {v v2 : Int32} (hs : rt_str s0 a bs) (hb : bs.length < 100) : ∀ (m i p : Nat), i + m = bs.length → p + m < 60000 → (∀ e : Nat, jLit g bs m i p = .error e → Q (.inl none) (rt_bk w t (tx_L s0 ca t (rt_r s0 tp) vals (nI e) (nI e) k b nx fi pa wo ke nu le lu))) → (∀ p1 : Nat, jLit g bs m i p = .ok p1 → Q (.inl none) (rt_bk w t (tx_L s0 ca t (rt_r s0 tp) vals (nI p1) (-1) k b nx fi pa wo ke nu le lu))) → rt_Go l s0 G RX8 "parseWord" cX8_parseWord 5 (Option.none : Option FieldType) [] d v0 Q 12 [(4, .int (nI i)), (3, .ref a), (2, .int v2), (1, .int v), (0, rt_r s0 t)] [] (rt_bk w t (tx_L s0 ca t (rt_r s0 tp) vals (nI p) (-1) k b nx fi pa wo ke nu le lu)) := by
  intro m
  induction m with
  | zero =>
    intro i p hi hp k1 k2
    refine rt_iload dX8_parseWord_12 (j := 0) rfl ?_
    refine rt_aloadA_n dX8_parseWord_14 rfl (j := 1) rfl ?_
    refine rt_callO Γ kk_J0_length_8abf5 kc_RX8_124 hs.choose_spec.1 (c_J0_length_8abf5 Γ (d := d - 1) (w := (rt_bk w t (tx_L s0 ca t (rt_r s0 tp) vals (nI p) (-1) k b nx fi pa wo ke nu le lu))) (by omega) hok hs (by omega)) (by omega) (by decide) (As := []) (show (parseMethodDescriptor yJ0_length_8abf5.desc).map (fun q => q.parameters.length) = some 0 by decide +kernel) hok (Nat.le_of_ble_eq_true rfl) dX8_parseWord_15 rfl rfl (rt_kr (st2 := [.int (nI bs.length), .int (nI i)]) rfl ?_) rt_kx
    refine rt_icmp_ge (tgt := 66) dX8_parseWord_18 (by decide) (fun _ => ?_) (fun c18 => absurd (nI_le (by omega) (by omega)) c18)
    exact rt_vret dX8_parseWord_66 rfl (k2 p rfl)
  | succ m ih =>
    intro i p hi hp k1 k2
    refine rt_iload dX8_parseWord_12 (j := 0) rfl ?_
    refine rt_aloadA_n dX8_parseWord_14 rfl (j := 1) rfl ?_
    refine rt_callO Γ kk_J0_length_8abf5 kc_RX8_124 hs.choose_spec.1 (c_J0_length_8abf5 Γ (d := d - 1) (w := (rt_bk w t (tx_L s0 ca t (rt_r s0 tp) vals (nI p) (-1) k b nx fi pa wo ke nu le lu))) (by omega) hok hs (by omega)) (by omega) (by decide) (As := []) (show (parseMethodDescriptor yJ0_length_8abf5.desc).map (fun q => q.parameters.length) = some 0 by decide +kernel) hok (Nat.le_of_ble_eq_true rfl) dX8_parseWord_15 rfl rfl (rt_kr (st2 := [.int (nI bs.length), .int (nI i)]) rfl ?_) rt_kx
    refine rt_icmp_ge (tgt := 66) dX8_parseWord_18 (by decide) (fun c18 => absurd c18 (nI_ge (by omega) (by omega))) (fun _ => ?_)
    refine rt_aload_n dX8_parseWord_21 rfl (j := 4) rfl ?_
    refine rt_bGet Γ kf_RX8_57 dX8_parseWord_22 (L := (tx_L s0 ca t (rt_r s0 tp) vals (nI p) (-1) k b nx fi pa wo ke nu le lu)) rfl rfl ?_
    refine rt_aload_n dX8_parseWord_25 rfl (j := 4) rfl ?_
    refine rt_bGet Γ kf_RX8_67 dX8_parseWord_26 (L := (tx_L s0 ca t (rt_r s0 tp) vals (nI p) (-1) k b nx fi pa wo ke nu le lu)) rfl rfl ?_
    refine rt_callV Γ kk_X0_peek kc_RX8_86 (c_X0_peek Γ (d := d - 1) (x := (nI p)) (hT.bk htp) hn) (by omega) (by decide) (As := [.int (nI p)]) (show (parseMethodDescriptor yX0_peek.desc).map (fun q => q.parameters.length) = some 1 by decide +kernel) hok (Nat.le_of_ble_eq_true rfl) dX8_parseWord_29 (hT.bk htp).1 rfl rfl rfl (rt_kr (st2 := [.int (cl_peek n f u (nI p))]) rfl ?_) rt_kx
    refine rt_te (y := g p) (hg p (by omega)) ?_
    refine rt_aloadA_n dX8_parseWord_32 rfl (j := 1) rfl ?_
    refine rt_iload dX8_parseWord_33 (j := 0) rfl ?_
    refine rt_callO Γ kk_J0_charAt_5068e kc_RX8_129 hs.choose_spec.1 (c_J0_charAt_5068e Γ (d := d - 1) (w := (rt_bk w t (tx_L s0 ca t (rt_r s0 tp) vals (nI p) (-1) k b nx fi pa wo ke nu le lu))) (i := nI i) (by omega) hok hs (nI_pos (by omega)) (nI_lt (by omega) (by omega)) (pk_in i _ (by omega) rfl (by omega))) (by omega) (by decide) (As := [.int (nI i)]) (show (parseMethodDescriptor yJ0_charAt_5068e.desc).map (fun q => q.parameters.length) = some 1 by decide +kernel) hok (Nat.le_of_ble_eq_true rfl) dX8_parseWord_35 rfl rfl (rt_kr (st2 := [.int (bs.getD (nI i).toNatClampNeg 0 &&& 255), .int (g p)]) rfl ?_) rt_kx
    rw [nI_clamp (by omega)]
    refine rt_icmp_eq (tgt := 50) dX8_parseWord_38 (by decide) (fun c38 => ?_) (fun c38 => ?_)
    · refine rt_aload_n dX8_parseWord_50 rfl (j := 4) rfl ?_
      refine rt_dup dX8_parseWord_51 rfl ?_
      refine rt_bGet Γ kf_RX8_67 dX8_parseWord_52 (L := (tx_L s0 ca t (rt_r s0 tp) vals (nI p) (-1) k b nx fi pa wo ke nu le lu)) rfl rfl ?_
      refine rt_iconst (v := 1) dX8_parseWord_55 (by decide) ?_
      refine rt_iadd dX8_parseWord_56 ?_
      refine rt_te (y := nI (p + 1)) (nI_1 _) ?_
      refine rt_bPut Γ kp_RX8_67 dX8_parseWord_57 (L := (tx_L s0 ca t (rt_r s0 tp) vals (nI p) (-1) k b nx fi pa wo ke nu le lu)) rfl (Nat.le_of_ble_eq_true rfl) rfl rfl (L' := (tx_L s0 ca t (rt_r s0 tp) vals (nI (p + 1)) (-1) k b nx fi pa wo ke nu le lu)) rfl ?_
      refine rt_iinc (v := nI (i + 1)) (lv' := [(4, .int (nI (i + 1))), (3, .ref a), (2, .int v2), (1, .int v), (0, rt_r s0 t)]) dX8_parseWord_60 (j := 0) rfl ((nI_1 i).symm ▸ rfl) (by decide) rfl ?_
      refine rt_goto (tgt := 12) dX8_parseWord_63 (by decide) ?_
      have hs1 : jLit g bs (m + 1) i p = jLit g bs m (i + 1) (p + 1) := if_pos c38
      exact rt_lfew [0, 1, 2, 3, 4] rfl (ih (i + 1) (p + 1) (by omega) (by omega) (fun e he => k1 e (hs1.trans he)) (fun p1 he => k2 p1 (hs1.trans he)))
    · refine rt_aload_n dX8_parseWord_41 rfl (j := 4) rfl ?_
      refine rt_aload_n dX8_parseWord_42 rfl (j := 4) rfl ?_
      refine rt_bGet Γ kf_RX8_67 dX8_parseWord_43 (L := (tx_L s0 ca t (rt_r s0 tp) vals (nI p) (-1) k b nx fi pa wo ke nu le lu)) rfl rfl ?_
      refine rt_callV Γ kk_X8_fail kc_RX8_83 (c_X8_fail0 Γ (d := d - 1)) (by omega) (by decide) (As := [.int (nI p)]) (show (parseMethodDescriptor yX8_fail.desc).map (fun q => q.parameters.length) = some 1 by decide +kernel) hok (Nat.le_of_ble_eq_true rfl) dX8_parseWord_46 ((rt_bk_0 w t (tx_L s0 ca t (rt_r s0 tp) vals (nI p) (-1) k b nx fi pa wo ke nu le lu) (Nat.le_of_ble_eq_true rfl)).trans rfl) rfl rfl rfl (rt_kr (st2 := []) rfl ?_) rt_kx
      exact rt_vret dX8_parseWord_49 rfl (k1 p (if_neg c38))
set_option maxRecDepth 100000 in
theorem j_wordF {l : Launch} {s0 : State} {a0 : Array Value} {G : va_G} {ca : Nat → ClassId} (Γ : rt_Γ l s0 a0 G ca) {d : Nat} {w : rt_Wd} {t : Nat} {vals : Int32} {k : Nat → Int32} {b : Nat → Int32} {nx : Nat → Int32} {fi : Nat → Int32} {pa : Nat → Int32} {wo : Nat → Int32} {ke : Nat → Int32} {nu : Nat → Int64} {le : Nat → Int32} {lu : Int32} (hd : 4 ≤ d) {tp n : Nat} {f : Nat → Int32} {u : Int32} {g : Nat → Int32} (hT : rt_C s0 ca w tp n f u) (hn : n < 2 ^ 31) (htp : tp + 1 < t ∨ t + 18 ≤ tp) (hg : ∀ p : Nat, p < 65536 → cl_peek n f u (nI p) = g p) (hok : rt_ok w) {a : Nat} {bs : List Int32} {v v2 : Int32} (hs : rt_str s0 a bs) (hb : bs.length < 100) {p e : Nat} (hp : p < 50000) (h : jLit g bs bs.length 0 p = .error e) : rt_Met l s0 G (.code yX8_parseWord cX8_parseWord 5 (Option.none : Option FieldType)) yX8_parseWord d [rt_r s0 t, .int v, .int v2, .ref a] (rt_bk w t (tx_L s0 ca t (rt_r s0 tp) vals (nI p) (-1) k b nx fi pa wo ke nu le lu)) (rt_is (.inl none) (rt_bk w t (tx_L s0 ca t (rt_r s0 tp) vals (nI e) (nI e) (cl_put 2073 k v v2) b nx fi pa wo ke nu le lu))) := by
  refine rt_met Γ kk_X8_parseWord rfl (Nat.le_of_ble_eq_true rfl) rfl ?_
  refine rt_aload_n dX8_parseWord_0 rfl (j := 0) rfl ?_
  refine rt_bGet Γ kf_RX8_16 dX8_parseWord_1 (L := (tx_L s0 ca t (rt_r s0 tp) vals (nI p) (-1) k b nx fi pa wo ke nu le lu)) rfl rfl ?_
  refine rt_iload_n dX8_parseWord_4 rfl (j := 1) rfl ?_
  refine rt_iload_n dX8_parseWord_5 rfl (j := 2) rfl ?_
  refine rt_callV Γ kk_X0_put kc_RX8_89 (c_X0_put Γ (d := d - 1) (rt_bk_C (t := t) (L := (tx_L s0 ca t (rt_r s0 tp) vals (nI p) (-1) k b nx fi pa wo ke nu le lu)) 1 (Nat.le_of_ble_eq_true rfl) rfl rfl) (by decide)) (by omega) (by decide) (As := [.int v, .int v2]) (show (parseMethodDescriptor yX0_put.desc).map (fun q => q.parameters.length) = some 2 by decide +kernel) hok (Nat.le_of_ble_eq_true rfl) dX8_parseWord_6 (rt_bk_C (t := t) (L := (tx_L s0 ca t (rt_r s0 tp) vals (nI p) (-1) k b nx fi pa wo ke nu le lu)) 1 (Nat.le_of_ble_eq_true rfl) rfl rfl).1 rfl rfl rfl (rt_kr (st2 := []) rfl ?_) rt_kx
  refine rt_weq (w' := (rt_bk w t (tx_L s0 ca t (rt_r s0 tp) vals (nI p) (-1) (cl_put 2073 k v v2) b nx fi pa wo ke nu le lu))) (rt_bk_cs 1 (Nat.le_of_ble_eq_true rfl)) ?_
  refine rt_iconst (v := 0) dX8_parseWord_9 (by decide) ?_
  refine rt_istore (lv' := [(4, .int 0), (0, rt_r s0 t), (1, .int v), (2, .int v2), (3, .ref a)]) dX8_parseWord_10 (by decide) rfl ?_
  exact rt_lfew [0, 4, 3, 2, 1] rfl (j_wordL Γ hd hT hn htp hg hok hs hb bs.length 0 p (by omega) (by omega) (fun e1 h1 => ⟨rfl, by obtain rfl : e1 = e := Except.error.inj (h1.symm.trans h); rfl⟩) (fun p1 h1 => nomatch h1.symm.trans h))
set_option maxRecDepth 100000 in
theorem j_wordT {l : Launch} {s0 : State} {a0 : Array Value} {G : va_G} {ca : Nat → ClassId} (Γ : rt_Γ l s0 a0 G ca) {d : Nat} {w : rt_Wd} {t : Nat} {vals : Int32} {k : Nat → Int32} {b : Nat → Int32} {nx : Nat → Int32} {fi : Nat → Int32} {pa : Nat → Int32} {wo : Nat → Int32} {ke : Nat → Int32} {nu : Nat → Int64} {le : Nat → Int32} {lu : Int32} (hd : 4 ≤ d) {tp n : Nat} {f : Nat → Int32} {u : Int32} {g : Nat → Int32} (hT : rt_C s0 ca w tp n f u) (hn : n < 2 ^ 31) (htp : tp + 1 < t ∨ t + 18 ≤ tp) (hg : ∀ p : Nat, p < 65536 → cl_peek n f u (nI p) = g p) (hok : rt_ok w) {a : Nat} {bs : List Int32} {v v2 : Int32} (hs : rt_str s0 a bs) (hb : bs.length < 100) {p p1 : Nat} (hp : p < 50000) (h : jLit g bs bs.length 0 p = .ok p1) : rt_Met l s0 G (.code yX8_parseWord cX8_parseWord 5 (Option.none : Option FieldType)) yX8_parseWord d [rt_r s0 t, .int v, .int v2, .ref a] (rt_bk w t (tx_L s0 ca t (rt_r s0 tp) vals (nI p) (-1) k b nx fi pa wo ke nu le lu)) (rt_is (.inl none) (rt_bk w t (tx_L s0 ca t (rt_r s0 tp) vals (nI p1) (-1) (cl_put 2073 k v v2) b nx fi pa wo ke nu le lu))) := by
  refine rt_met Γ kk_X8_parseWord rfl (Nat.le_of_ble_eq_true rfl) rfl ?_
  refine rt_aload_n dX8_parseWord_0 rfl (j := 0) rfl ?_
  refine rt_bGet Γ kf_RX8_16 dX8_parseWord_1 (L := (tx_L s0 ca t (rt_r s0 tp) vals (nI p) (-1) k b nx fi pa wo ke nu le lu)) rfl rfl ?_
  refine rt_iload_n dX8_parseWord_4 rfl (j := 1) rfl ?_
  refine rt_iload_n dX8_parseWord_5 rfl (j := 2) rfl ?_
  refine rt_callV Γ kk_X0_put kc_RX8_89 (c_X0_put Γ (d := d - 1) (rt_bk_C (t := t) (L := (tx_L s0 ca t (rt_r s0 tp) vals (nI p) (-1) k b nx fi pa wo ke nu le lu)) 1 (Nat.le_of_ble_eq_true rfl) rfl rfl) (by decide)) (by omega) (by decide) (As := [.int v, .int v2]) (show (parseMethodDescriptor yX0_put.desc).map (fun q => q.parameters.length) = some 2 by decide +kernel) hok (Nat.le_of_ble_eq_true rfl) dX8_parseWord_6 (rt_bk_C (t := t) (L := (tx_L s0 ca t (rt_r s0 tp) vals (nI p) (-1) k b nx fi pa wo ke nu le lu)) 1 (Nat.le_of_ble_eq_true rfl) rfl rfl).1 rfl rfl rfl (rt_kr (st2 := []) rfl ?_) rt_kx
  refine rt_weq (w' := (rt_bk w t (tx_L s0 ca t (rt_r s0 tp) vals (nI p) (-1) (cl_put 2073 k v v2) b nx fi pa wo ke nu le lu))) (rt_bk_cs 1 (Nat.le_of_ble_eq_true rfl)) ?_
  refine rt_iconst (v := 0) dX8_parseWord_9 (by decide) ?_
  refine rt_istore (lv' := [(4, .int 0), (0, rt_r s0 t), (1, .int v), (2, .int v2), (3, .ref a)]) dX8_parseWord_10 (by decide) rfl ?_
  exact rt_lfew [0, 4, 3, 2, 1] rfl (j_wordL Γ hd hT hn htp hg hok hs hb bs.length 0 p (by omega) (by omega) (fun e1 h1 => nomatch h1.symm.trans h) (fun p2 h1 => ⟨rfl, by obtain rfl : p2 = p1 := Except.ok.inj (h1.symm.trans h); rfl⟩))
