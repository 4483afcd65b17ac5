/-! ===== the three words, numbers ===== -/
def jLit (g : Nat → Int32) (bs : List Int32) : Nat → Nat → Nat → Except Nat Nat
  | 0, _, p => .ok p
  | m + 1, i, p => if g p = (bs.getD i 0 &&& 255) then jLit g bs m (i + 1) (p + 1) else .error p
set_option maxRecDepth 100000 in
theorem j_wordL {l : Launch} {s0 : State} {a0 : Array Value} {G : va_G} {ca : Nat → ClassId} (Γ : rt_Γ l s0 a0 G ca) {d : Nat} {w v0 : rt_Wd} {t : Nat} {vals : Int32} {k : Nat → Int32} {b : Nat → Int32} {nx : Nat → Int32} {fi : Nat → Int32} {pa : Nat → Int32} {wo : Nat → Int32} {ke : Nat → Int32} {nu : Nat → Int64} {le : Nat → Int32} {lu : Int32} {Q : rt_Res → rt_Wd → Prop} (hd : 4 ≤ d) {tp n : Nat} {f : Nat → Int32} {u : Int32} {g : Nat → Int32} (hT : rt_C s0 ca w tp n f u) (hn : n < 2 ^ 31) (htp : tp + 1 < t ∨ t + 18 ≤ tp) (hg : ∀ p : Nat, p < 65536 → cl_peek n f u (nI p) = g p) (hok : rt_ok w) {a : Nat} {bs : List Int32} {v v2 : Int32} (hs : rt_str s0 a bs) (hb : bs.length < 100) : ∀ (m i p : Nat), i + m = bs.length → p + m < 60000 → (∀ e : Nat, jLit g bs m i p = .error e → Q (.inl none) (rt_bk w t (tx_L s0 ca t (rt_r s0 tp) vals (nI e) (nI e) k b nx fi pa wo ke nu le lu))) → (∀ p1 : Nat, jLit g bs m i p = .ok p1 → Q (.inl none) (rt_bk w t (tx_L s0 ca t (rt_r s0 tp) vals (nI p1) (-1) k b nx fi pa wo ke nu le lu))) → rt_Go l s0 G RX8 "parseWord" cX8_parseWord 5 (Option.none : Option FieldType) [] d v0 Q 12 [(4, .int (nI i)), (3, .ref a), (2, .int v2), (1, .int v), (0, rt_r s0 t)] [] (rt_bk w t (tx_L s0 ca t (rt_r s0 tp) vals (nI p) (-1) k b nx fi pa wo ke nu le lu)) := by
  intro m
  induction m with
  | zero =>
    intro i p hi hp k1 k2
    refine rt_iload dX8_parseWord_12 (j := 0) rfl ?_
    refine rt_aloadA_n dX8_parseWord_14 rfl (j := 1) rfl ?_
    refine rt_callO Γ kk_J0_length_8abf5 kc_RX8_124 hs.choose_spec.1 (c_J0_length_8abf5 Γ (d := d - 1) (w := (rt_bk w t (tx_L s0 ca t (rt_r s0 tp) vals (nI p) (-1) k b nx fi pa wo ke nu le lu))) (by omega) hok hs (by omega)) (by omega) (by decide) (As := []) (show (parseMethodDescriptor yJ0_length_8abf5.desc).map (fun q => q.parameters.length) = some 0 by decide +kernel) hok (Nat.le_of_ble_eq_true rfl) dX8_parseWord_15 rfl rfl (rt_kr (st2 := [.int (nI bs.length), .int (nI i)]) rfl ?_) rt_kx
    refine rt_icmp_ge (tgt := 66) dX8_parseWord_18 (by decide) (fun _ => ?_) (fun c18 => absurd (nI_le (by omega) (by omega)) c18)
    exact rt_vret dX8_parseWord_66 rfl (k2 p rfl)
  | succ m ih =>
    intro i p hi hp k1 k2
    refine rt_iload dX8_parseWord_12 (j := 0) rfl ?_
    refine rt_aloadA_n dX8_parseWord_14 rfl (j := 1) rfl ?_
    refine rt_callO Γ kk_J0_length_8abf5 kc_RX8_124 hs.choose_spec.1 (c_J0_length_8abf5 Γ (d := d - 1) (w := (rt_bk w t (tx_L s0 ca t (rt_r s0 tp) vals (nI p) (-1) k b nx fi pa wo ke nu le lu))) (by omega) hok hs (by omega)) (by omega) (by decide) (As := []) (show (parseMethodDescriptor yJ0_length_8abf5.desc).map (fun q => q.parameters.length) = some 0 by decide +kernel) hok (Nat.le_of_ble_eq_true rfl) dX8_parseWord_15 rfl rfl (rt_kr (st2 := [.int (nI bs.length), .int (nI i)]) rfl ?_) rt_kx
    refine rt_icmp_ge (tgt := 66) dX8_parseWord_18 (by decide) (fun c18 => absurd c18 (nI_ge (by omega) (by omega))) (fun _ => ?_)
    refine rt_aload_n dX8_parseWord_21 rfl (j := 4) rfl ?_
    refine rt_bGet Γ kf_RX8_57 dX8_parseWord_22 (L := (tx_L s0 ca t (rt_r s0 tp) vals (nI p) (-1) k b nx fi pa wo ke nu le lu)) rfl rfl ?_
    refine rt_aload_n dX8_parseWord_25 rfl (j := 4) rfl ?_
    refine rt_bGet Γ kf_RX8_67 dX8_parseWord_26 (L := (tx_L s0 ca t (rt_r s0 tp) vals (nI p) (-1) k b nx fi pa wo ke nu le lu)) rfl rfl ?_
    refine rt_callV Γ kk_X0_peek kc_RX8_86 (c_X0_peek Γ (d := d - 1) (x := (nI p)) (hT.bk htp) hn) (by omega) (by decide) (As := [.int (nI p)]) (show (parseMethodDescriptor yX0_peek.desc).map (fun q => q.parameters.length) = some 1 by decide +kernel) hok (Nat.le_of_ble_eq_true rfl) dX8_parseWord_29 (hT.bk htp).1 rfl rfl rfl (rt_kr (st2 := [.int (cl_peek n f u (nI p))]) rfl ?_) rt_kx
    refine rt_te (y := g p) (hg p (by omega)) ?_
    refine rt_aloadA_n dX8_parseWord_32 rfl (j := 1) rfl ?_
    refine rt_iload dX8_parseWord_33 (j := 0) rfl ?_
    refine rt_callO Γ kk_J0_charAt_5068e kc_RX8_129 hs.choose_spec.1 (c_J0_charAt_5068e Γ (d := d - 1) (w := (rt_bk w t (tx_L s0 ca t (rt_r s0 tp) vals (nI p) (-1) k b nx fi pa wo ke nu le lu))) (i := nI i) (by omega) hok hs (nI_pos (by omega)) (nI_lt (by omega) (by omega)) (pk_in i _ (by omega) rfl (by omega))) (by omega) (by decide) (As := [.int (nI i)]) (show (parseMethodDescriptor yJ0_charAt_5068e.desc).map (fun q => q.parameters.length) = some 1 by decide +kernel) hok (Nat.le_of_ble_eq_true rfl) dX8_parseWord_35 rfl rfl (rt_kr (st2 := [.int (bs.getD (nI i).toNatClampNeg 0 &&& 255), .int (g p)]) rfl ?_) rt_kx
    rw [nI_clamp (by omega)]
    refine rt_icmp_eq (tgt := 50) dX8_parseWord_38 (by decide) (fun c38 => ?_) (fun c38 => ?_)
    · refine rt_aload_n dX8_parseWord_50 rfl (j := 4) rfl ?_
      refine rt_dup dX8_parseWord_51 rfl ?_
      refine rt_bGet Γ kf_RX8_67 dX8_parseWord_52 (L := (tx_L s0 ca t (rt_r s0 tp) vals (nI p) (-1) k b nx fi pa wo ke nu le lu)) rfl rfl ?_
      refine rt_iconst (v := 1) dX8_parseWord_55 (by decide) ?_
      refine rt_iadd dX8_parseWord_56 ?_
      refine rt_te (y := nI (p + 1)) (nI_1 _) ?_
      refine rt_bPut Γ kp_RX8_67 dX8_parseWord_57 (L := (tx_L s0 ca t (rt_r s0 tp) vals (nI p) (-1) k b nx fi pa wo ke nu le lu)) rfl (Nat.le_of_ble_eq_true rfl) rfl rfl (L' := (tx_L s0 ca t (rt_r s0 tp) vals (nI (p + 1)) (-1) k b nx fi pa wo ke nu le lu)) rfl ?_
      refine rt_iinc (v := nI (i + 1)) (lv' := [(4, .int (nI (i + 1))), (3, .ref a), (2, .int v2), (1, .int v), (0, rt_r s0 t)]) dX8_parseWord_60 (j := 0) rfl ((nI_1 i).symm ▸ rfl) (by decide) rfl ?_
      refine rt_goto (tgt := 12) dX8_parseWord_63 (by decide) ?_
      have hs1 : jLit g bs (m + 1) i p = jLit g bs m (i + 1) (p + 1) := if_pos c38
      exact rt_lfew [0, 1, 2, 3, 4] rfl (ih (i + 1) (p + 1) (by omega) (by omega) (fun e he => k1 e (hs1.trans he)) (fun p1 he => k2 p1 (hs1.trans he)))
    · refine rt_aload_n dX8_parseWord_41 rfl (j := 4) rfl ?_
      refine rt_aload_n dX8_parseWord_42 rfl (j := 4) rfl ?_
      refine rt_bGet Γ kf_RX8_67 dX8_parseWord_43 (L := (tx_L s0 ca t (rt_r s0 tp) vals (nI p) (-1) k b nx fi pa wo ke nu le lu)) rfl rfl ?_
      refine rt_callV Γ kk_X8_fail kc_RX8_83 (c_X8_fail0 Γ (d := d - 1)) (by omega) (by decide) (As := [.int (nI p)]) (show (parseMethodDescriptor yX8_fail.desc).map (fun q => q.parameters.length) = some 1 by decide +kernel) hok (Nat.le_of_ble_eq_true rfl) dX8_parseWord_46 ((rt_bk_0 w t (tx_L s0 ca t (rt_r s0 tp) vals (nI p) (-1) k b nx fi pa wo ke nu le lu) (Nat.le_of_ble_eq_true rfl)).trans rfl) rfl rfl rfl (rt_kr (st2 := []) rfl ?_) rt_kx
      exact rt_vret dX8_parseWord_49 rfl (k1 p (if_neg c38))
set_option maxRecDepth 100000 in
theorem j_wordF {l : Launch} {s0 : State} {a0 : Array Value} {G : va_G} {ca : Nat → ClassId} (Γ : rt_Γ l s0 a0 G ca) {d : Nat} {w : rt_Wd} {t : Nat} {vals : Int32} {k : Nat → Int32} {b : Nat → Int32} {nx : Nat → Int32} {fi : Nat → Int32} {pa : Nat → Int32} {wo : Nat → Int32} {ke : Nat → Int32} {nu : Nat → Int64} {le : Nat → Int32} {lu : Int32} (hd : 4 ≤ d) {tp n : Nat} {f : Nat → Int32} {u : Int32} {g : Nat → Int32} (hT : rt_C s0 ca w tp n f u) (hn : n < 2 ^ 31) (htp : tp + 1 < t ∨ t + 18 ≤ tp) (hg : ∀ p : Nat, p < 65536 → cl_peek n f u (nI p) = g p) (hok : rt_ok w) {a : Nat} {bs : List Int32} {v v2 : Int32} (hs : rt_str s0 a bs) (hb : bs.length < 100) {p e : Nat} (hp : p < 50000) (h : jLit g bs bs.length 0 p = .error e) : rt_Met l s0 G (.code yX8_parseWord cX8_parseWord 5 (Option.none : Option FieldType)) yX8_parseWord d [rt_r s0 t, .int v, .int v2, .ref a] (rt_bk w t (tx_L s0 ca t (rt_r s0 tp) vals (nI p) (-1) k b nx fi pa wo ke nu le lu)) (rt_is (.inl none) (rt_bk w t (tx_L s0 ca t (rt_r s0 tp) vals (nI e) (nI e) (cl_put 2073 k v v2) b nx fi pa wo ke nu le lu))) := by
  refine rt_met Γ kk_X8_parseWord rfl (Nat.le_of_ble_eq_true rfl) rfl ?_
  refine rt_aload_n dX8_parseWord_0 rfl (j := 0) rfl ?_
  refine rt_bGet Γ kf_RX8_16 dX8_parseWord_1 (L := (tx_L s0 ca t (rt_r s0 tp) vals (nI p) (-1) k b nx fi pa wo ke nu le lu)) rfl rfl ?_
  refine rt_iload_n dX8_parseWord_4 rfl (j := 1) rfl ?_
  refine rt_iload_n dX8_parseWord_5 rfl (j := 2) rfl ?_
  refine rt_callV Γ kk_X0_put kc_RX8_89 (c_X0_put Γ (d := d - 1) (rt_bk_C (t := t) (L := (tx_L s0 ca t (rt_r s0 tp) vals (nI p) (-1) k b nx fi pa wo ke nu le lu)) 1 (Nat.le_of_ble_eq_true rfl) rfl rfl) (by decide)) (by omega) (by decide) (As := [.int v, .int v2]) (show (parseMethodDescriptor yX0_put.desc).map (fun q => q.parameters.length) = some 2 by decide +kernel) hok (Nat.le_of_ble_eq_true rfl) dX8_parseWord_6 (rt_bk_C (t := t) (L := (tx_L s0 ca t (rt_r s0 tp) vals (nI p) (-1) k b nx fi pa wo ke nu le lu)) 1 (Nat.le_of_ble_eq_true rfl) rfl rfl).1 rfl rfl rfl (rt_kr (st2 := []) rfl ?_) rt_kx
  refine rt_weq (w' := (rt_bk w t (tx_L s0 ca t (rt_r s0 tp) vals (nI p) (-1) (cl_put 2073 k v v2) b nx fi pa wo ke nu le lu))) (rt_bk_cs 1 (Nat.le_of_ble_eq_true rfl)) ?_
  refine rt_iconst (v := 0) dX8_parseWord_9 (by decide) ?_
  refine rt_istore (lv' := [(4, .int 0), (0, rt_r s0 t), (1, .int v), (2, .int v2), (3, .ref a)]) dX8_parseWord_10 (by decide) rfl ?_
  exact rt_lfew [0, 4, 3, 2, 1] rfl (j_wordL Γ hd hT hn htp hg hok hs hb bs.length 0 p (by omega) (by omega) (fun e1 h1 => ⟨rfl, by obtain rfl : e1 = e := Except.error.inj (h1.symm.trans h); rfl⟩) (fun p1 h1 => nomatch h1.symm.trans h))
set_option maxRecDepth 100000 in
theorem j_wordT {l : Launch} {s0 : State} {a0 : Array Value} {G : va_G} {ca : Nat → ClassId} (Γ : rt_Γ l s0 a0 G ca) {d : Nat} {w : rt_Wd} {t : Nat} {vals : Int32} {k : Nat → Int32} {b : Nat → Int32} {nx : Nat → Int32} {fi : Nat → Int32} {pa : Nat → Int32} {wo : Nat → Int32} {ke : Nat → Int32} {nu : Nat → Int64} {le : Nat → Int32} {lu : Int32} (hd : 4 ≤ d) {tp n : Nat} {f : Nat → Int32} {u : Int32} {g : Nat → Int32} (hT : rt_C s0 ca w tp n f u) (hn : n < 2 ^ 31) (htp : tp + 1 < t ∨ t + 18 ≤ tp) (hg : ∀ p : Nat, p < 65536 → cl_peek n f u (nI p) = g p) (hok : rt_ok w) {a : Nat} {bs : List Int32} {v v2 : Int32} (hs : rt_str s0 a bs) (hb : bs.length < 100) {p p1 : Nat} (hp : p < 50000) (h : jLit g bs bs.length 0 p = .ok p1) : rt_Met l s0 G (.code yX8_parseWord cX8_parseWord 5 (Option.none : Option FieldType)) yX8_parseWord d [rt_r s0 t, .int v, .int v2, .ref a] (rt_bk w t (tx_L s0 ca t (rt_r s0 tp) vals (nI p) (-1) k b nx fi pa wo ke nu le lu)) (rt_is (.inl none) (rt_bk w t (tx_L s0 ca t (rt_r s0 tp) vals (nI p1) (-1) (cl_put 2073 k v v2) b nx fi pa wo ke nu le lu))) := by
  refine rt_met Γ kk_X8_parseWord rfl (Nat.le_of_ble_eq_true rfl) rfl ?_
  refine rt_aload_n dX8_parseWord_0 rfl (j := 0) rfl ?_
  refine rt_bGet Γ kf_RX8_16 dX8_parseWord_1 (L := (tx_L s0 ca t (rt_r s0 tp) vals (nI p) (-1) k b nx fi pa wo ke nu le lu)) rfl rfl ?_
  refine rt_iload_n dX8_parseWord_4 rfl (j := 1) rfl ?_
  refine rt_iload_n dX8_parseWord_5 rfl (j := 2) rfl ?_
  refine rt_callV Γ kk_X0_put kc_RX8_89 (c_X0_put Γ (d := d - 1) (rt_bk_C (t := t) (L := (tx_L s0 ca t (rt_r s0 tp) vals (nI p) (-1) k b nx fi pa wo ke nu le lu)) 1 (Nat.le_of_ble_eq_true rfl) rfl rfl) (by decide)) (by omega) (by decide) (As := [.int v, .int v2]) (show (parseMethodDescriptor yX0_put.desc).map (fun q => q.parameters.length) = some 2 by decide +kernel) hok (Nat.le_of_ble_eq_true rfl) dX8_parseWord_6 (rt_bk_C (t := t) (L := (tx_L s0 ca t (rt_r s0 tp) vals (nI p) (-1) k b nx fi pa wo ke nu le lu)) 1 (Nat.le_of_ble_eq_true rfl) rfl rfl).1 rfl rfl rfl (rt_kr (st2 := []) rfl ?_) rt_kx
  refine rt_weq (w' := (rt_bk w t (tx_L s0 ca t (rt_r s0 tp) vals (nI p) (-1) (cl_put 2073 k v v2) b nx fi pa wo ke nu le lu))) (rt_bk_cs 1 (Nat.le_of_ble_eq_true rfl)) ?_
  refine rt_iconst (v := 0) dX8_parseWord_9 (by decide) ?_
  refine rt_istore (lv' := [(4, .int 0), (0, rt_r s0 t), (1, .int v), (2, .int v2), (3, .ref a)]) dX8_parseWord_10 (by decide) rfl ?_
  exact rt_lfew [0, 4, 3, 2, 1] rfl (j_wordL Γ hd hT hn htp hg hok hs hb bs.length 0 p (by omega) (by omega) (fun e1 h1 => nomatch h1.symm.trans h) (fun p2 h1 => ⟨rfl, by obtain rfl : p2 = p1 := Except.ok.inj (h1.symm.trans h); rfl⟩))
abbrev jDgt (c : Int32) : Prop := ¬ c < 48 ∧ ¬ 57 < c
def jDin (bo : Int64) (dg i : Int32) (s : Int64) : Int32 := if i = 0 then 0 else if lg_cmp s ((bo + dg.toInt64) / 10) < 0 then 0 else 1
def jDsu (dg i1 : Int32) (s : Int64) : Int64 := if i1 = 0 then 0 else s * 10 - dg.toInt64
def jDig (g : Nat → Int32) (bo : Int64) : Nat → Nat → Int32 → Int64 → Nat × Int32 × Int64
  | 0, p, i, s => (p, i, s)
  | m + 1, p, i, s => if jDgt (g p) then jDig g bo m (p + 1) (jDin bo (g p - 48) i s) (jDsu (g p - 48) (jDin bo (g p - 48) i s) s) else (p, i, s)
theorem jDgt_m1 : ¬ jDgt (-1) := by decide
set_option maxRecDepth 100000 in
theorem j_dig {l : Launch} {s0 : State} {a0 : Array Value} {G : va_G} {ca : Nat → ClassId} (Γ : rt_Γ l s0 a0 G ca) {d : Nat} {w : rt_Wd} {v : Int32} : rt_Met l s0 G (.code yX8_isDigit cX8_isDigit 1 (Option.some FieldType.boolean)) yX8_isDigit d [.int v] w (rt_ww (jDgt v) w) := by
  refine rt_met Γ kk_X8_isDigit rfl (Nat.le_of_ble_eq_true rfl) rfl ?_
  refine rt_iload_n dX8_isDigit_0 rfl (j := 0) rfl ?_
  refine rt_bipush (v := 48) dX8_isDigit_1 (by decide) ?_
  refine rt_icmp_lt (tgt := 16) dX8_isDigit_3 (by decide) (fun c3 => ?_) (fun c3 => ?_)
  · refine rt_iconst (v := 0) dX8_isDigit_16 (by decide) ?_
    exact rt_zret dX8_isDigit_17 rfl rfl (⟨rfl, Or.inr ⟨rfl, fun h => h.1 c3⟩⟩)
  · refine rt_iload_n dX8_isDigit_6 rfl (j := 0) rfl ?_
    refine rt_bipush (v := 57) dX8_isDigit_7 (by decide) ?_
    refine rt_icmp_gt (tgt := 16) dX8_isDigit_9 (by decide) (fun c9 => ?_) (fun c9 => ?_)
    · refine rt_iconst (v := 0) dX8_isDigit_16 (by decide) ?_
      exact rt_zret dX8_isDigit_17 rfl rfl (⟨rfl, Or.inr ⟨rfl, fun h => h.2 c9⟩⟩)
    · refine rt_iconst (v := 1) dX8_isDigit_12 (by decide) ?_
      refine rt_goto (tgt := 17) dX8_isDigit_13 (by decide) ?_
      exact rt_zret dX8_isDigit_17 rfl rfl (⟨rfl, Or.inl ⟨rfl, c3, c9⟩⟩)
set_option maxRecDepth 100000 in
theorem j_numL {l : Launch} {s0 : State} {a0 : Array Value} {G : va_G} {ca : Nat → ClassId} (Γ : rt_Γ l s0 a0 G ca) {d : Nat} {w v0 : rt_Wd} {t : Nat} {vals : Int32} {k : Nat → Int32} {b : Nat → Int32} {nx : Nat → Int32} {fi : Nat → Int32} {pa : Nat → Int32} {wo : Nat → Int32} {ke : Nat → Int32} {nu : Nat → Int64} {le : Nat → Int32} {lu : Int32} {Q : rt_Res → rt_Wd → Prop} {M : Nat} {bo : Int64} {be fr v : Int32} (hM : M < 5000) (hd : 1 ≤ d) {tp n : Nat} {f : Nat → Int32} {u : Int32} {g : Nat → Int32} (hT : rt_C s0 ca w tp n f u) (hn : n < 2 ^ 31) (htp : tp + 1 < t ∨ t + 18 ≤ tp) (hg : ∀ p : Nat, p < 65536 → cl_peek n f u (nI p) = g p) (hok : rt_ok w) : ∀ (m j p : Nat) (i : Int32) (s : Int64), j + m = M → p + m < 60000 → (∀ (p1 : Nat) (i1 : Int32) (s1 : Int64), jDig g bo m p i s = (p1, i1, s1) → rt_Go l s0 G RX8 "parseNumber" cX8_parseNumber 12 (Option.none : Option FieldType) [] d v0 Q 221 [(7, .long s1), (6, .int i1), (3, .int be), (2, .int fr), (1, .int v), (0, rt_r s0 t)] [] (rt_bk w t (tx_L s0 ca t (rt_r s0 tp) vals (nI p1) (-1) k b nx fi pa wo ke nu le lu))) → rt_Go l s0 G RX8 "parseNumber" cX8_parseNumber 12 (Option.none : Option FieldType) [] d v0 Q 116 [(10, .int (nI j)), (9, .int (nI M)), (7, .long s), (6, .int i), (4, .long bo), (3, .int be), (2, .int fr), (1, .int v), (0, rt_r s0 t)] [] (rt_bk w t (tx_L s0 ca t (rt_r s0 tp) vals (nI p) (-1) k b nx fi pa wo ke nu le lu)) := by
  intro m
  induction m with
  | zero =>
    intro j p i s hi hp k1
    refine rt_iload dX8_parseNumber_116 (j := 0) rfl ?_
    refine rt_iload dX8_parseNumber_118 (j := 1) rfl ?_
    refine rt_icmp_ge (tgt := 221) dX8_parseNumber_120 (by decide) (fun _ => ?_) (fun c120 => absurd (nI_le (by omega) (by omega)) c120)
    exact rt_lfew [2, 3, 5, 6, 7, 8] rfl (k1 p i s rfl)
  | succ m ih =>
    intro j p i s hi hp k1
    refine rt_iload dX8_parseNumber_116 (j := 0) rfl ?_
    refine rt_iload dX8_parseNumber_118 (j := 1) rfl ?_
    refine rt_icmp_ge (tgt := 221) dX8_parseNumber_120 (by decide) (fun c120 => absurd c120 (nI_ge (by omega) (by omega))) (fun _ => ?_)
    refine rt_aload_n dX8_parseNumber_123 rfl (j := 8) rfl ?_
    refine rt_bGet Γ kf_RX8_57 dX8_parseNumber_124 (L := (tx_L s0 ca t (rt_r s0 tp) vals (nI p) (-1) k b nx fi pa wo ke nu le lu)) rfl rfl ?_
    refine rt_aload_n dX8_parseNumber_127 rfl (j := 8) rfl ?_
    refine rt_bGet Γ kf_RX8_67 dX8_parseNumber_128 (L := (tx_L s0 ca t (rt_r s0 tp) vals (nI p) (-1) k b nx fi pa wo ke nu le lu)) rfl rfl ?_
    refine rt_callV Γ kk_X0_peek kc_RX8_86 (c_X0_peek Γ (d := d - 1) (x := (nI p)) (hT.bk htp) hn) (by omega) (by decide) (As := [.int (nI p)]) (show (parseMethodDescriptor yX0_peek.desc).map (fun q => q.parameters.length) = some 1 by decide +kernel) hok (Nat.le_of_ble_eq_true rfl) dX8_parseNumber_131 (hT.bk htp).1 rfl rfl rfl (rt_kr (st2 := [.int (cl_peek n f u (nI p))]) rfl ?_) rt_kx
    refine rt_te (y := g p) (hg p (by omega)) ?_
    refine rt_callS Γ kk_X8_isDigit kc_RX8_133 (j_dig Γ (d := d - 1) (v := g p) (w := (rt_bk w t (tx_L s0 ca t (rt_r s0 tp) vals (nI p) (-1) k b nx fi pa wo ke nu le lu)))) (by omega) (by decide) (As := [.int (g p)]) (show (parseMethodDescriptor yX8_isDigit.desc).map (fun q => q.parameters.length) = some 1 by decide +kernel) hok (Nat.le_of_ble_eq_true rfl) dX8_parseNumber_134 rfl rfl (fun v9 w9 hq => ?_) (fun X w9 hq => hq.2.elim (fun h => nomatch h.1) (fun h => nomatch h.1))
    obtain ⟨rfl, ⟨e9, hW⟩ | ⟨e9, hW⟩⟩ := hq
    · cases e9
      show rt_Go l s0 G RX8 "parseNumber" cX8_parseNumber 12 (Option.none : Option FieldType) [] d _ _ (134 + 3) [(10, .int (nI j)), (9, .int (nI M)), (7, .long s), (6, .int i), (4, .long bo), (3, .int be), (2, .int fr), (1, .int v), (0, rt_r s0 t)] [.int 1] (rt_bk w t (tx_L s0 ca t (rt_r s0 tp) vals (nI p) (-1) k b nx fi pa wo ke nu le lu))
      refine rt_if_eq (tgt := 221) dX8_parseNumber_137 (by decide) (fun c137 => absurd c137 (by decide)) (fun _ => ?_)
      refine rt_aload_n dX8_parseNumber_140 rfl (j := 8) rfl ?_
      refine rt_bGet Γ kf_RX8_57 dX8_parseNumber_141 (L := (tx_L s0 ca t (rt_r s0 tp) vals (nI p) (-1) k b nx fi pa wo ke nu le lu)) rfl rfl ?_
      refine rt_aload_n dX8_parseNumber_144 rfl (j := 8) rfl ?_
      refine rt_bGet Γ kf_RX8_67 dX8_parseNumber_145 (L := (tx_L s0 ca t (rt_r s0 tp) vals (nI p) (-1) k b nx fi pa wo ke nu le lu)) rfl rfl ?_
      refine rt_callV Γ kk_X0_peek kc_RX8_86 (c_X0_peek Γ (d := d - 1) (x := (nI p)) (hT.bk htp) hn) (by omega) (by decide) (As := [.int (nI p)]) (show (parseMethodDescriptor yX0_peek.desc).map (fun q => q.parameters.length) = some 1 by decide +kernel) hok (Nat.le_of_ble_eq_true rfl) dX8_parseNumber_148 (hT.bk htp).1 rfl rfl rfl (rt_kr (st2 := [.int (cl_peek n f u (nI p))]) rfl ?_) rt_kx
      refine rt_te (y := g p) (hg p (by omega)) ?_
      refine rt_bipush (v := 48) dX8_parseNumber_151 (by decide) ?_
      refine rt_isub dX8_parseNumber_153 ?_
      refine rt_istore (lv' := [(11, .int ((g p) - 48)), (10, .int (nI j)), (9, .int (nI M)), (7, .long s), (6, .int i), (4, .long bo), (3, .int be), (2, .int fr), (1, .int v), (0, rt_r s0 t)]) dX8_parseNumber_154 (by decide) rfl ?_
      refine rt_iload dX8_parseNumber_156 (j := 4) rfl ?_
      refine rt_if_eq (tgt := 181) dX8_parseNumber_158 (by decide) (fun c158 => ?_) (fun c158 => ?_)
      · refine rt_iconst (v := 0) dX8_parseNumber_181 (by decide) ?_
        have hi1 : jDin bo (g p - 48) i s = 0 := if_pos c158
        refine rt_istore (lv' := [(6, .int 0), (11, .int ((g p) - 48)), (10, .int (nI j)), (9, .int (nI M)), (7, .long s), (4, .long bo), (3, .int be), (2, .int fr), (1, .int v), (0, rt_r s0 t)]) dX8_parseNumber_182 (by decide) rfl ?_
        refine rt_iload dX8_parseNumber_184 (j := 0) rfl ?_
        refine rt_if_eq (tgt := 202) dX8_parseNumber_186 (by decide) (fun _ => ?_) (fun c186 => absurd rfl c186)
        refine rt_lconst (v := 0) dX8_parseNumber_202 (by decide) ?_
        refine rt_lstore (lv' := [(7, .long 0), (6, .int 0), (11, .int ((g p) - 48)), (10, .int (nI j)), (9, .int (nI M)), (4, .long bo), (3, .int be), (2, .int fr), (1, .int v), (0, rt_r s0 t)]) dX8_parseNumber_203 (by decide) rfl ?_
        refine rt_aload_n dX8_parseNumber_205 rfl (j := 9) rfl ?_
        refine rt_dup dX8_parseNumber_206 rfl ?_
        refine rt_bGet Γ kf_RX8_67 dX8_parseNumber_207 (L := (tx_L s0 ca t (rt_r s0 tp) vals (nI p) (-1) k b nx fi pa wo ke nu le lu)) rfl rfl ?_
        refine rt_iconst (v := 1) dX8_parseNumber_210 (by decide) ?_
        refine rt_iadd dX8_parseNumber_211 ?_
        refine rt_te (y := nI (p + 1)) (nI_1 _) ?_
        refine rt_bPut Γ kp_RX8_67 dX8_parseNumber_212 (L := (tx_L s0 ca t (rt_r s0 tp) vals (nI p) (-1) k b nx fi pa wo ke nu le lu)) rfl (Nat.le_of_ble_eq_true rfl) rfl rfl (L' := (tx_L s0 ca t (rt_r s0 tp) vals (nI (p + 1)) (-1) k b nx fi pa wo ke nu le lu)) rfl ?_
        refine rt_iinc (v := nI (j + 1)) (lv' := [(10, .int (nI (j + 1))), (7, .long 0), (6, .int 0), (11, .int ((g p) - 48)), (9, .int (nI M)), (4, .long bo), (3, .int be), (2, .int fr), (1, .int v), (0, rt_r s0 t)]) dX8_parseNumber_215 (j := 3) rfl ((nI_1 j).symm ▸ rfl) (by decide) rfl ?_
        refine rt_goto (tgt := 116) dX8_parseNumber_218 (by decide) ?_
        have hs1 : jDig g bo (m + 1) p i s = jDig g bo m (p + 1) 0 0 := (if_pos hW).trans (by rw [hi1]; rfl)
        exact rt_lfew [0, 4, 1, 2, 5, 6, 7, 8, 9] rfl (ih (j + 1) (p + 1) _ _ (by omega) (by omega) (fun p1 i1 s1 he => k1 p1 i1 s1 (hs1.trans he)))
      · refine rt_lload dX8_parseNumber_161 (j := 3) rfl ?_
        refine rt_lload dX8_parseNumber_163 (j := 5) rfl ?_
        refine rt_iload dX8_parseNumber_165 (j := 0) rfl ?_
        refine rt_i2l dX8_parseNumber_167 rfl ?_
        refine rt_ladd dX8_parseNumber_168 ?_
        refine rt_ldc2 Γ dX8_parseNumber_169 kv_RX8_143 ?_
        refine rt_ldiv dX8_parseNumber_172 (by decide) ?_
        refine rt_lcmp dX8_parseNumber_173 ?_
        refine rt_if_lt (tgt := 181) dX8_parseNumber_174 (by decide) (fun c174 => ?_) (fun c174 => ?_)
        · refine rt_iconst (v := 0) dX8_parseNumber_181 (by decide) ?_
          have hi1 : jDin bo (g p - 48) i s = 0 := (if_neg c158).trans (if_pos c174)
          refine rt_istore (lv' := [(6, .int 0), (11, .int ((g p) - 48)), (10, .int (nI j)), (9, .int (nI M)), (7, .long s), (4, .long bo), (3, .int be), (2, .int fr), (1, .int v), (0, rt_r s0 t)]) dX8_parseNumber_182 (by decide) rfl ?_
          refine rt_iload dX8_parseNumber_184 (j := 0) rfl ?_
          refine rt_if_eq (tgt := 202) dX8_parseNumber_186 (by decide) (fun _ => ?_) (fun c186 => absurd rfl c186)
          refine rt_lconst (v := 0) dX8_parseNumber_202 (by decide) ?_
          refine rt_lstore (lv' := [(7, .long 0), (6, .int 0), (11, .int ((g p) - 48)), (10, .int (nI j)), (9, .int (nI M)), (4, .long bo), (3, .int be), (2, .int fr), (1, .int v), (0, rt_r s0 t)]) dX8_parseNumber_203 (by decide) rfl ?_
          refine rt_aload_n dX8_parseNumber_205 rfl (j := 9) rfl ?_
          refine rt_dup dX8_parseNumber_206 rfl ?_
          refine rt_bGet Γ kf_RX8_67 dX8_parseNumber_207 (L := (tx_L s0 ca t (rt_r s0 tp) vals (nI p) (-1) k b nx fi pa wo ke nu le lu)) rfl rfl ?_
          refine rt_iconst (v := 1) dX8_parseNumber_210 (by decide) ?_
          refine rt_iadd dX8_parseNumber_211 ?_
          refine rt_te (y := nI (p + 1)) (nI_1 _) ?_
          refine rt_bPut Γ kp_RX8_67 dX8_parseNumber_212 (L := (tx_L s0 ca t (rt_r s0 tp) vals (nI p) (-1) k b nx fi pa wo ke nu le lu)) rfl (Nat.le_of_ble_eq_true rfl) rfl rfl (L' := (tx_L s0 ca t (rt_r s0 tp) vals (nI (p + 1)) (-1) k b nx fi pa wo ke nu le lu)) rfl ?_
          refine rt_iinc (v := nI (j + 1)) (lv' := [(10, .int (nI (j + 1))), (7, .long 0), (6, .int 0), (11, .int ((g p) - 48)), (9, .int (nI M)), (4, .long bo), (3, .int be), (2, .int fr), (1, .int v), (0, rt_r s0 t)]) dX8_parseNumber_215 (j := 3) rfl ((nI_1 j).symm ▸ rfl) (by decide) rfl ?_
          refine rt_goto (tgt := 116) dX8_parseNumber_218 (by decide) ?_
          have hs1 : jDig g bo (m + 1) p i s = jDig g bo m (p + 1) 0 0 := (if_pos hW).trans (by rw [hi1]; rfl)
          exact rt_lfew [0, 4, 1, 2, 5, 6, 7, 8, 9] rfl (ih (j + 1) (p + 1) _ _ (by omega) (by omega) (fun p1 i1 s1 he => k1 p1 i1 s1 (hs1.trans he)))
        · refine rt_iconst (v := 1) dX8_parseNumber_177 (by decide) ?_
          refine rt_goto (tgt := 182) dX8_parseNumber_178 (by decide) ?_
          have hi1 : jDin bo (g p - 48) i s = 1 := (if_neg c158).trans (if_neg c174)
          refine rt_istore (lv' := [(6, .int 1), (11, .int ((g p) - 48)), (10, .int (nI j)), (9, .int (nI M)), (7, .long s), (4, .long bo), (3, .int be), (2, .int fr), (1, .int v), (0, rt_r s0 t)]) dX8_parseNumber_182 (by decide) rfl ?_
          refine rt_iload dX8_parseNumber_184 (j := 0) rfl ?_
          refine rt_if_eq (tgt := 202) dX8_parseNumber_186 (by decide) (fun c186 => absurd c186 (by decide)) (fun _ => ?_)
          refine rt_lload dX8_parseNumber_189 (j := 4) rfl ?_
          refine rt_ldc2 Γ dX8_parseNumber_191 kv_RX8_143 ?_
          refine rt_lmul dX8_parseNumber_194 ?_
          refine rt_iload dX8_parseNumber_195 (j := 1) rfl ?_
          refine rt_i2l dX8_parseNumber_197 rfl ?_
          refine rt_lsub dX8_parseNumber_198 ?_
          refine rt_goto (tgt := 203) dX8_parseNumber_199 (by decide) ?_
          refine rt_lstore (lv' := [(7, .long ((s * 10) - (((g p) - 48).toInt64))), (6, .int 1), (11, .int ((g p) - 48)), (10, .int (nI j)), (9, .int (nI M)), (4, .long bo), (3, .int be), (2, .int fr), (1, .int v), (0, rt_r s0 t)]) dX8_parseNumber_203 (by decide) rfl ?_
          refine rt_aload_n dX8_parseNumber_205 rfl (j := 9) rfl ?_
          refine rt_dup dX8_parseNumber_206 rfl ?_
          refine rt_bGet Γ kf_RX8_67 dX8_parseNumber_207 (L := (tx_L s0 ca t (rt_r s0 tp) vals (nI p) (-1) k b nx fi pa wo ke nu le lu)) rfl rfl ?_
          refine rt_iconst (v := 1) dX8_parseNumber_210 (by decide) ?_
          refine rt_iadd dX8_parseNumber_211 ?_
          refine rt_te (y := nI (p + 1)) (nI_1 _) ?_
          refine rt_bPut Γ kp_RX8_67 dX8_parseNumber_212 (L := (tx_L s0 ca t (rt_r s0 tp) vals (nI p) (-1) k b nx fi pa wo ke nu le lu)) rfl (Nat.le_of_ble_eq_true rfl) rfl rfl (L' := (tx_L s0 ca t (rt_r s0 tp) vals (nI (p + 1)) (-1) k b nx fi pa wo ke nu le lu)) rfl ?_
          refine rt_iinc (v := nI (j + 1)) (lv' := [(10, .int (nI (j + 1))), (7, .long ((s * 10) - (((g p) - 48).toInt64))), (6, .int 1), (11, .int ((g p) - 48)), (9, .int (nI M)), (4, .long bo), (3, .int be), (2, .int fr), (1, .int v), (0, rt_r s0 t)]) dX8_parseNumber_215 (j := 3) rfl ((nI_1 j).symm ▸ rfl) (by decide) rfl ?_
          refine rt_goto (tgt := 116) dX8_parseNumber_218 (by decide) ?_
          have hs1 : jDig g bo (m + 1) p i s = jDig g bo m (p + 1) 1 (s * 10 - (g p - 48).toInt64) := (if_pos hW).trans (by rw [hi1]; rfl)
          exact rt_lfew [0, 4, 1, 2, 5, 6, 7, 8, 9] rfl (ih (j + 1) (p + 1) _ _ (by omega) (by omega) (fun p1 i1 s1 he => k1 p1 i1 s1 (hs1.trans he)))
    · cases e9
      show rt_Go l s0 G RX8 "parseNumber" cX8_parseNumber 12 (Option.none : Option FieldType) [] d _ _ (134 + 3) [(10, .int (nI j)), (9, .int (nI M)), (7, .long s), (6, .int i), (4, .long bo), (3, .int be), (2, .int fr), (1, .int v), (0, rt_r s0 t)] [.int 0] (rt_bk w t (tx_L s0 ca t (rt_r s0 tp) vals (nI p) (-1) k b nx fi pa wo ke nu le lu))
      refine rt_if_eq (tgt := 221) dX8_parseNumber_137 (by decide) (fun _ => ?_) (fun c137 => absurd rfl c137)
      exact rt_lfew [2, 3, 5, 6, 7, 8] rfl (k1 p i s (if_neg hW))
set_option maxRecDepth 100000 in
theorem j_num11 {l : Launch} {s0 : State} {a0 : Array Value} {G : va_G} {ca : Nat → ClassId} (Γ : rt_Γ l s0 a0 G ca) {d : Nat} {w : rt_Wd} {t : Nat} {vals : Int32} {k : Nat → Int32} {b : Nat → Int32} {nx : Nat → Int32} {fi : Nat → Int32} {pa : Nat → Int32} {wo : Nat → Int32} {ke : Nat → Int32} {nu : Nat → Int64} {le : Nat → Int32} {lu : Int32} (hd : 2 ≤ d) {tp n : Nat} {f : Nat → Int32} {u : Int32} {g : Nat → Int32} (hT : rt_C s0 ca w tp n f u) (hn : n < 2 ^ 31) (htp : tp + 1 < t ∨ t + 18 ≤ tp) (hg : ∀ p : Nat, p < 65536 → cl_peek n f u (nI p) = g p) (hok : rt_ok w) {p V : Nat} (hp : p < 50000) (hV : V < 2073) (hm : g p = 45) (hz : ¬ jDgt (g (p + 1))) : rt_Met l s0 G (.code yX8_parseNumber cX8_parseNumber 12 (Option.none : Option FieldType)) yX8_parseNumber d [rt_r s0 t, .int (nI V)] (rt_bk w t (tx_L s0 ca t (rt_r s0 tp) vals (nI p) (-1) k b nx fi pa wo ke nu le lu)) (rt_is (.inl none) (rt_bk w t (tx_L s0 ca t (rt_r s0 tp) vals (nI (p + 1)) (nI (p + 1)) k b nx fi pa wo ke nu le lu))) := by
  refine rt_met Γ kk_X8_parseNumber rfl (Nat.le_of_ble_eq_true rfl) rfl ?_
  refine rt_aload_n dX8_parseNumber_0 rfl (j := 0) rfl ?_
  refine rt_bGet Γ kf_RX8_67 dX8_parseNumber_1 (L := (tx_L s0 ca t (rt_r s0 tp) vals (nI p) (-1) k b nx fi pa wo ke nu le lu)) rfl rfl ?_
  refine rt_istore_n (lv' := [(2, .int (nI p)), (0, rt_r s0 t), (1, .int (nI V))]) dX8_parseNumber_4 rfl (by decide) rfl ?_
  refine rt_aload_n dX8_parseNumber_5 rfl (j := 1) rfl ?_
  refine rt_bGet Γ kf_RX8_57 dX8_parseNumber_6 (L := (tx_L s0 ca t (rt_r s0 tp) vals (nI p) (-1) k b nx fi pa wo ke nu le lu)) rfl rfl ?_
  refine rt_aload_n dX8_parseNumber_9 rfl (j := 1) rfl ?_
  refine rt_bGet Γ kf_RX8_67 dX8_parseNumber_10 (L := (tx_L s0 ca t (rt_r s0 tp) vals (nI p) (-1) k b nx fi pa wo ke nu le lu)) rfl rfl ?_
  refine rt_callV Γ kk_X0_peek kc_RX8_86 (c_X0_peek Γ (d := d - 1) (x := (nI p)) (hT.bk htp) hn) (by omega) (by decide) (As := [.int (nI p)]) (show (parseMethodDescriptor yX0_peek.desc).map (fun q => q.parameters.length) = some 1 by decide +kernel) hok (Nat.le_of_ble_eq_true rfl) dX8_parseNumber_13 (hT.bk htp).1 rfl rfl rfl (rt_kr (st2 := [.int (cl_peek n f u (nI p))]) rfl ?_) rt_kx
  refine rt_te (y := g p) (hg p (by omega)) ?_
  refine rt_bipush (v := 45) dX8_parseNumber_16 (by decide) ?_
  refine rt_icmp_ne (tgt := 25) dX8_parseNumber_18 (by decide) (fun c18 => absurd c18 (fun c => c hm)) (fun _ => ?_)
  refine rt_iconst (v := 1) dX8_parseNumber_21 (by decide) ?_
  refine rt_goto (tgt := 26) dX8_parseNumber_22 (by decide) ?_
  refine rt_istore_n (lv' := [(3, .int 1), (2, .int (nI p)), (0, rt_r s0 t), (1, .int (nI V))]) dX8_parseNumber_26 rfl (by decide) rfl ?_
  refine rt_iload_n dX8_parseNumber_27 rfl (j := 0) rfl ?_
  refine rt_if_eq (tgt := 41) dX8_parseNumber_28 (by decide) (fun c28 => absurd c28 (by decide)) (fun _ => ?_)
  refine rt_aload_n dX8_parseNumber_31 rfl (j := 2) rfl ?_
  refine rt_dup dX8_parseNumber_32 rfl ?_
  refine rt_bGet Γ kf_RX8_67 dX8_parseNumber_33 (L := (tx_L s0 ca t (rt_r s0 tp) vals (nI p) (-1) k b nx fi pa wo ke nu le lu)) rfl rfl ?_
  refine rt_iconst (v := 1) dX8_parseNumber_36 (by decide) ?_
  refine rt_iadd dX8_parseNumber_37 ?_
  refine rt_te (y := nI (p + 1)) (nI_1 _) ?_
  refine rt_bPut Γ kp_RX8_67 dX8_parseNumber_38 (L := (tx_L s0 ca t (rt_r s0 tp) vals (nI p) (-1) k b nx fi pa wo ke nu le lu)) rfl (Nat.le_of_ble_eq_true rfl) rfl rfl (L' := (tx_L s0 ca t (rt_r s0 tp) vals (nI (p + 1)) (-1) k b nx fi pa wo ke nu le lu)) rfl ?_
  refine rt_aload_n dX8_parseNumber_41 rfl (j := 2) rfl ?_
  refine rt_bGet Γ kf_RX8_57 dX8_parseNumber_42 (L := (tx_L s0 ca t (rt_r s0 tp) vals (nI (p + 1)) (-1) k b nx fi pa wo ke nu le lu)) rfl rfl ?_
  refine rt_aload_n dX8_parseNumber_45 rfl (j := 2) rfl ?_
  refine rt_bGet Γ kf_RX8_67 dX8_parseNumber_46 (L := (tx_L s0 ca t (rt_r s0 tp) vals (nI (p + 1)) (-1) k b nx fi pa wo ke nu le lu)) rfl rfl ?_
  refine rt_callV Γ kk_X0_peek kc_RX8_86 (c_X0_peek Γ (d := d - 1) (x := (nI (p + 1))) (hT.bk htp) hn) (by omega) (by decide) (As := [.int (nI (p + 1))]) (show (parseMethodDescriptor yX0_peek.desc).map (fun q => q.parameters.length) = some 1 by decide +kernel) hok (Nat.le_of_ble_eq_true rfl) dX8_parseNumber_49 (hT.bk htp).1 rfl rfl rfl (rt_kr (st2 := [.int (cl_peek n f u (nI (p + 1)))]) rfl ?_) rt_kx
  refine rt_te (y := g (p + 1)) (hg (p + 1) (by omega)) ?_
  refine rt_callS Γ kk_X8_isDigit kc_RX8_133 (j_dig Γ (d := d - 1) (v := g (p + 1)) (w := (rt_bk w t (tx_L s0 ca t (rt_r s0 tp) vals (nI (p + 1)) (-1) k b nx fi pa wo ke nu le lu)))) (by omega) (by decide) (As := [.int (g (p + 1))]) (show (parseMethodDescriptor yX8_isDigit.desc).map (fun q => q.parameters.length) = some 1 by decide +kernel) hok (Nat.le_of_ble_eq_true rfl) dX8_parseNumber_52 rfl rfl (fun v9 w9 hq => ?_) (fun X w9 hq => hq.2.elim (fun h => nomatch h.1) (fun h => nomatch h.1))
  obtain ⟨rfl, ⟨e9, hW⟩ | ⟨e9, hW⟩⟩ := hq
  · cases e9
    show rt_Go l s0 G RX8 "parseNumber" cX8_parseNumber 12 (Option.none : Option FieldType) [] d _ _ (52 + 3) [(3, .int 1), (2, .int (nI p)), (0, rt_r s0 t), (1, .int (nI V))] [.int 1] (rt_bk w t (tx_L s0 ca t (rt_r s0 tp) vals (nI (p + 1)) (-1) k b nx fi pa wo ke nu le lu))
    exact absurd hW hz
  · cases e9
    show rt_Go l s0 G RX8 "parseNumber" cX8_parseNumber 12 (Option.none : Option FieldType) [] d _ _ (52 + 3) [(3, .int 1), (2, .int (nI p)), (0, rt_r s0 t), (1, .int (nI V))] [.int 0] (rt_bk w t (tx_L s0 ca t (rt_r s0 tp) vals (nI (p + 1)) (-1) k b nx fi pa wo ke nu le lu))
    refine rt_if_ne (tgt := 67) dX8_parseNumber_55 (by decide) (fun c55 => absurd c55 (fun h => h rfl)) (fun _ => ?_)
    refine rt_aload_n dX8_parseNumber_58 rfl (j := 2) rfl ?_
    refine rt_aload_n dX8_parseNumber_59 rfl (j := 2) rfl ?_
    refine rt_bGet Γ kf_RX8_67 dX8_parseNumber_60 (L := (tx_L s0 ca t (rt_r s0 tp) vals (nI (p + 1)) (-1) k b nx fi pa wo ke nu le lu)) rfl rfl ?_
    refine rt_callV Γ kk_X8_fail kc_RX8_83 (c_X8_fail0 Γ (d := d - 1)) (by omega) (by decide) (As := [.int (nI (p + 1))]) (show (parseMethodDescriptor yX8_fail.desc).map (fun q => q.parameters.length) = some 1 by decide +kernel) hok (Nat.le_of_ble_eq_true rfl) dX8_parseNumber_63 ((rt_bk_0 w t (tx_L s0 ca t (rt_r s0 tp) vals (nI (p + 1)) (-1) k b nx fi pa wo ke nu le lu) (Nat.le_of_ble_eq_true rfl)).trans rfl) rfl rfl rfl (rt_kr (st2 := []) rfl ?_) rt_kx
    exact rt_vret dX8_parseNumber_66 rfl (⟨rfl, rfl⟩)
set_option maxRecDepth 100000 in
theorem j_num31 {l : Launch} {s0 : State} {a0 : Array Value} {G : va_G} {ca : Nat → ClassId} (Γ : rt_Γ l s0 a0 G ca) {d : Nat} {w : rt_Wd} {t : Nat} {vals : Int32} {k : Nat → Int32} {b : Nat → Int32} {nx : Nat → Int32} {fi : Nat → Int32} {pa : Nat → Int32} {wo : Nat → Int32} {ke : Nat → Int32} {nu : Nat → Int64} {le : Nat → Int32} {lu : Int32} (hd : 2 ≤ d) {tp n : Nat} {f : Nat → Int32} {u : Int32} {g : Nat → Int32} (hT : rt_C s0 ca w tp n f u) (hn : n < 2 ^ 31) (htp : tp + 1 < t ∨ t + 18 ≤ tp) (hg : ∀ p : Nat, p < 65536 → cl_peek n f u (nI p) = g p) (hok : rt_ok w) {p V : Nat} (hp : p < 50000) (hV : V < 2073) (hm : g p = 45) (hz : jDgt (g (p + 1))) {q : Nat} {i1 : Int32} {s1 : Int64} (hr : jDig g (-9223372036854775808) (if g (p + 1) = 48 then 1 else 4096) (p + 1) 1 0 = (q, i1, s1)) (hi : ¬ i1 = 0) : rt_Met l s0 G (.code yX8_parseNumber cX8_parseNumber 12 (Option.none : Option FieldType)) yX8_parseNumber d [rt_r s0 t, .int (nI V)] (rt_bk w t (tx_L s0 ca t (rt_r s0 tp) vals (nI p) (-1) k b nx fi pa wo ke nu le lu)) (rt_is (.inl none) (rt_bk w t (tx_L s0 ca t (rt_r s0 tp) vals (nI q) (-1) k b nx fi pa wo ke (vp_updL nu V s1) le lu))) := by
  refine rt_met Γ kk_X8_parseNumber rfl (Nat.le_of_ble_eq_true rfl) rfl ?_
  refine rt_aload_n dX8_parseNumber_0 rfl (j := 0) rfl ?_
  refine rt_bGet Γ kf_RX8_67 dX8_parseNumber_1 (L := (tx_L s0 ca t (rt_r s0 tp) vals (nI p) (-1) k b nx fi pa wo ke nu le lu)) rfl rfl ?_
  refine rt_istore_n (lv' := [(2, .int (nI p)), (0, rt_r s0 t), (1, .int (nI V))]) dX8_parseNumber_4 rfl (by decide) rfl ?_
  refine rt_aload_n dX8_parseNumber_5 rfl (j := 1) rfl ?_
  refine rt_bGet Γ kf_RX8_57 dX8_parseNumber_6 (L := (tx_L s0 ca t (rt_r s0 tp) vals (nI p) (-1) k b nx fi pa wo ke nu le lu)) rfl rfl ?_
  refine rt_aload_n dX8_parseNumber_9 rfl (j := 1) rfl ?_
  refine rt_bGet Γ kf_RX8_67 dX8_parseNumber_10 (L := (tx_L s0 ca t (rt_r s0 tp) vals (nI p) (-1) k b nx fi pa wo ke nu le lu)) rfl rfl ?_
  refine rt_callV Γ kk_X0_peek kc_RX8_86 (c_X0_peek Γ (d := d - 1) (x := (nI p)) (hT.bk htp) hn) (by omega) (by decide) (As := [.int (nI p)]) (show (parseMethodDescriptor yX0_peek.desc).map (fun q => q.parameters.length) = some 1 by decide +kernel) hok (Nat.le_of_ble_eq_true rfl) dX8_parseNumber_13 (hT.bk htp).1 rfl rfl rfl (rt_kr (st2 := [.int (cl_peek n f u (nI p))]) rfl ?_) rt_kx
  refine rt_te (y := g p) (hg p (by omega)) ?_
  refine rt_bipush (v := 45) dX8_parseNumber_16 (by decide) ?_
  refine rt_icmp_ne (tgt := 25) dX8_parseNumber_18 (by decide) (fun c18 => absurd c18 (fun c => c hm)) (fun _ => ?_)
  refine rt_iconst (v := 1) dX8_parseNumber_21 (by decide) ?_
  refine rt_goto (tgt := 26) dX8_parseNumber_22 (by decide) ?_
  refine rt_istore_n (lv' := [(3, .int 1), (2, .int (nI p)), (0, rt_r s0 t), (1, .int (nI V))]) dX8_parseNumber_26 rfl (by decide) rfl ?_
  refine rt_iload_n dX8_parseNumber_27 rfl (j := 0) rfl ?_
  refine rt_if_eq (tgt := 41) dX8_parseNumber_28 (by decide) (fun c28 => absurd c28 (by decide)) (fun _ => ?_)
  refine rt_aload_n dX8_parseNumber_31 rfl (j := 2) rfl ?_
  refine rt_dup dX8_parseNumber_32 rfl ?_
  refine rt_bGet Γ kf_RX8_67 dX8_parseNumber_33 (L := (tx_L s0 ca t (rt_r s0 tp) vals (nI p) (-1) k b nx fi pa wo ke nu le lu)) rfl rfl ?_
  refine rt_iconst (v := 1) dX8_parseNumber_36 (by decide) ?_
  refine rt_iadd dX8_parseNumber_37 ?_
  refine rt_te (y := nI (p + 1)) (nI_1 _) ?_
  refine rt_bPut Γ kp_RX8_67 dX8_parseNumber_38 (L := (tx_L s0 ca t (rt_r s0 tp) vals (nI p) (-1) k b nx fi pa wo ke nu le lu)) rfl (Nat.le_of_ble_eq_true rfl) rfl rfl (L' := (tx_L s0 ca t (rt_r s0 tp) vals (nI (p + 1)) (-1) k b nx fi pa wo ke nu le lu)) rfl ?_
  refine rt_aload_n dX8_parseNumber_41 rfl (j := 2) rfl ?_
  refine rt_bGet Γ kf_RX8_57 dX8_parseNumber_42 (L := (tx_L s0 ca t (rt_r s0 tp) vals (nI (p + 1)) (-1) k b nx fi pa wo ke nu le lu)) rfl rfl ?_
  refine rt_aload_n dX8_parseNumber_45 rfl (j := 2) rfl ?_
  refine rt_bGet Γ kf_RX8_67 dX8_parseNumber_46 (L := (tx_L s0 ca t (rt_r s0 tp) vals (nI (p + 1)) (-1) k b nx fi pa wo ke nu le lu)) rfl rfl ?_
  refine rt_callV Γ kk_X0_peek kc_RX8_86 (c_X0_peek Γ (d := d - 1) (x := (nI (p + 1))) (hT.bk htp) hn) (by omega) (by decide) (As := [.int (nI (p + 1))]) (show (parseMethodDescriptor yX0_peek.desc).map (fun q => q.parameters.length) = some 1 by decide +kernel) hok (Nat.le_of_ble_eq_true rfl) dX8_parseNumber_49 (hT.bk htp).1 rfl rfl rfl (rt_kr (st2 := [.int (cl_peek n f u (nI (p + 1)))]) rfl ?_) rt_kx
  refine rt_te (y := g (p + 1)) (hg (p + 1) (by omega)) ?_
  refine rt_callS Γ kk_X8_isDigit kc_RX8_133 (j_dig Γ (d := d - 1) (v := g (p + 1)) (w := (rt_bk w t (tx_L s0 ca t (rt_r s0 tp) vals (nI (p + 1)) (-1) k b nx fi pa wo ke nu le lu)))) (by omega) (by decide) (As := [.int (g (p + 1))]) (show (parseMethodDescriptor yX8_isDigit.desc).map (fun q => q.parameters.length) = some 1 by decide +kernel) hok (Nat.le_of_ble_eq_true rfl) dX8_parseNumber_52 rfl rfl (fun v9 w9 hq => ?_) (fun X w9 hq => hq.2.elim (fun h => nomatch h.1) (fun h => nomatch h.1))
  obtain ⟨rfl, ⟨e9, hW⟩ | ⟨e9, hW⟩⟩ := hq
  · cases e9
    show rt_Go l s0 G RX8 "parseNumber" cX8_parseNumber 12 (Option.none : Option FieldType) [] d _ _ (52 + 3) [(3, .int 1), (2, .int (nI p)), (0, rt_r s0 t), (1, .int (nI V))] [.int 1] (rt_bk w t (tx_L s0 ca t (rt_r s0 tp) vals (nI (p + 1)) (-1) k b nx fi pa wo ke nu le lu))
    refine rt_if_ne (tgt := 67) dX8_parseNumber_55 (by decide) (fun _ => ?_) (fun c55 => absurd c55 (by decide))
    refine rt_iload_n dX8_parseNumber_67 rfl (j := 0) rfl ?_
    refine rt_if_eq (tgt := 77) dX8_parseNumber_68 (by decide) (fun c68 => absurd c68 (by decide)) (fun _ => ?_)
    refine rt_ldc2 Γ dX8_parseNumber_71 kv_RX8_139 ?_
    refine rt_goto (tgt := 80) dX8_parseNumber_74 (by decide) ?_
    refine rt_lstore (lv' := [(4, .long (-9223372036854775808)), (3, .int 1), (2, .int (nI p)), (0, rt_r s0 t), (1, .int (nI V))]) dX8_parseNumber_80 (by decide) rfl ?_
    refine rt_iconst (v := 1) dX8_parseNumber_82 (by decide) ?_
    refine rt_istore (lv' := [(6, .int 1), (4, .long (-9223372036854775808)), (3, .int 1), (2, .int (nI p)), (0, rt_r s0 t), (1, .int (nI V))]) dX8_parseNumber_83 (by decide) rfl ?_
    refine rt_lconst (v := 0) dX8_parseNumber_85 (by decide) ?_
    refine rt_lstore (lv' := [(7, .long 0), (6, .int 1), (4, .long (-9223372036854775808)), (3, .int 1), (2, .int (nI p)), (0, rt_r s0 t), (1, .int (nI V))]) dX8_parseNumber_86 (by decide) rfl ?_
    refine rt_aload_n dX8_parseNumber_88 rfl (j := 5) rfl ?_
    refine rt_bGet Γ kf_RX8_57 dX8_parseNumber_89 (L := (tx_L s0 ca t (rt_r s0 tp) vals (nI (p + 1)) (-1) k b nx fi pa wo ke nu le lu)) rfl rfl ?_
    refine rt_aload_n dX8_parseNumber_92 rfl (j := 5) rfl ?_
    refine rt_bGet Γ kf_RX8_67 dX8_parseNumber_93 (L := (tx_L s0 ca t (rt_r s0 tp) vals (nI (p + 1)) (-1) k b nx fi pa wo ke nu le lu)) rfl rfl ?_
    refine rt_callV Γ kk_X0_peek kc_RX8_86 (c_X0_peek Γ (d := d - 1) (x := (nI (p + 1))) (hT.bk htp) hn) (by omega) (by decide) (As := [.int (nI (p + 1))]) (show (parseMethodDescriptor yX0_peek.desc).map (fun q => q.parameters.length) = some 1 by decide +kernel) hok (Nat.le_of_ble_eq_true rfl) dX8_parseNumber_96 (hT.bk htp).1 rfl rfl rfl (rt_kr (st2 := [.int (cl_peek n f u (nI (p + 1)))]) rfl ?_) rt_kx
    refine rt_te (y := g (p + 1)) (hg (p + 1) (by omega)) ?_
    refine rt_bipush (v := 48) dX8_parseNumber_99 (by decide) ?_
    refine rt_icmp_ne (tgt := 108) dX8_parseNumber_101 (by decide) (fun c101 => ?_) (fun c101 => ?_)
    · refine rt_sipush (v := 4096) dX8_parseNumber_108 (by decide) ?_
      refine rt_istore (lv' := [(9, .int 4096), (7, .long 0), (6, .int 1), (4, .long (-9223372036854775808)), (3, .int 1), (2, .int (nI p)), (0, rt_r s0 t), (1, .int (nI V))]) dX8_parseNumber_111 (by decide) rfl ?_
      refine rt_iconst (v := 0) dX8_parseNumber_113 (by decide) ?_
      refine rt_istore (lv' := [(10, .int 0), (9, .int 4096), (7, .long 0), (6, .int 1), (4, .long (-9223372036854775808)), (3, .int 1), (2, .int (nI p)), (0, rt_r s0 t), (1, .int (nI V))]) dX8_parseNumber_114 (by decide) rfl ?_
      have hr1 : jDig g (-9223372036854775808) 4096 (p + 1) 1 0 = (q, i1, s1) := by rw [← hr, if_neg c101]
      refine rt_lfew [0, 1, 2, 3, 4, 5, 6, 8, 7] rfl (j_numL Γ (by decide) (by omega) hT hn htp hg hok 4096 0 (p + 1) 1 0 rfl (by omega) (fun p2 i2 s2 h2 => ?_))
      obtain ⟨rfl, rfl, rfl⟩ : p2 = q ∧ i2 = i1 ∧ s2 = s1 := by have h3 := h2.symm.trans hr1; exact ⟨congrArg (fun x => x.1) h3, congrArg (fun x => x.2.1) h3, congrArg (fun x => x.2.2) h3⟩
      refine rt_iload dX8_parseNumber_221 (j := 1) rfl ?_
      refine rt_if_ne (tgt := 231) dX8_parseNumber_223 (by decide) (fun _ => ?_) (fun c223 => absurd c223 hi)
      refine rt_iload_n dX8_parseNumber_231 rfl (j := 4) rfl ?_
      refine rt_if_lt (tgt := 262) dX8_parseNumber_232 (by decide) (fun c232 => absurd c232 (nI_pos (by omega))) (fun _ => ?_)
      refine rt_iload_n dX8_parseNumber_235 rfl (j := 4) rfl ?_
      refine rt_aload_n dX8_parseNumber_236 rfl (j := 5) rfl ?_
      refine rt_bGet Γ kf_RX8_38 dX8_parseNumber_237 (L := (tx_L s0 ca t (rt_r s0 tp) vals (nI p2) (-1) k b nx fi pa wo ke nu le lu)) rfl rfl ?_
      refine rt_alen Γ dX8_parseNumber_240 (t := 2) rfl (rt_bk_at w t (tx_L s0 ca t (rt_r s0 tp) vals (nI p2) (-1) k b nx fi pa wo ke nu le lu) 15 (Nat.le_of_ble_eq_true rfl)) (v := nI 2073) rfl ?_
      refine rt_icmp_ge (tgt := 262) dX8_parseNumber_241 (by decide) (fun c241 => absurd c241 (nI_ge hV (by decide))) (fun _ => ?_)
      refine rt_aload_n dX8_parseNumber_244 rfl (j := 5) rfl ?_
      refine rt_bGet Γ kf_RX8_38 dX8_parseNumber_245 (L := (tx_L s0 ca t (rt_r s0 tp) vals (nI p2) (-1) k b nx fi pa wo ke nu le lu)) rfl rfl ?_
      refine rt_iload_n dX8_parseNumber_248 rfl (j := 4) rfl ?_
      refine rt_iload_n dX8_parseNumber_249 rfl (j := 2) rfl ?_
      refine rt_if_eq (tgt := 258) dX8_parseNumber_250 (by decide) (fun c250 => absurd c250 (by decide)) (fun _ => ?_)
      refine rt_lload dX8_parseNumber_253 (j := 0) rfl ?_
      refine rt_goto (tgt := 261) dX8_parseNumber_255 (by decide) ?_
      refine rt_bLast Γ dX8_parseNumber_261 (m := 15) (L := (tx_L s0 ca t (rt_r s0 tp) vals (nI p2) (-1) k b nx fi pa wo ke nu le lu)) rfl (pk_in V 2073 hV rfl (by decide)) (L' := (tx_L s0 ca t (rt_r s0 tp) vals (nI p2) (-1) k b nx fi pa wo ke (vp_updL nu (nI V).toNatClampNeg s2) le lu)) rfl ?_
      refine rt_weq (w' := (rt_bk w t (tx_L s0 ca t (rt_r s0 tp) vals (nI p2) (-1) k b nx fi pa wo ke (vp_updL nu V s2) le lu))) (by rw [nI_clamp (by omega)]) ?_
      exact rt_vret dX8_parseNumber_262 rfl (⟨rfl, rfl⟩)
    · refine rt_iconst (v := 1) dX8_parseNumber_104 (by decide) ?_
      refine rt_goto (tgt := 111) dX8_parseNumber_105 (by decide) ?_
      refine rt_istore (lv' := [(9, .int 1), (7, .long 0), (6, .int 1), (4, .long (-9223372036854775808)), (3, .int 1), (2, .int (nI p)), (0, rt_r s0 t), (1, .int (nI V))]) dX8_parseNumber_111 (by decide) rfl ?_
      refine rt_iconst (v := 0) dX8_parseNumber_113 (by decide) ?_
      refine rt_istore (lv' := [(10, .int 0), (9, .int 1), (7, .long 0), (6, .int 1), (4, .long (-9223372036854775808)), (3, .int 1), (2, .int (nI p)), (0, rt_r s0 t), (1, .int (nI V))]) dX8_parseNumber_114 (by decide) rfl ?_
      have hr1 : jDig g (-9223372036854775808) 1 (p + 1) 1 0 = (q, i1, s1) := by rw [← hr, if_pos c101]
      refine rt_lfew [0, 1, 2, 3, 4, 5, 6, 8, 7] rfl (j_numL Γ (by decide) (by omega) hT hn htp hg hok 1 0 (p + 1) 1 0 rfl (by omega) (fun p2 i2 s2 h2 => ?_))
      obtain ⟨rfl, rfl, rfl⟩ : p2 = q ∧ i2 = i1 ∧ s2 = s1 := by have h3 := h2.symm.trans hr1; exact ⟨congrArg (fun x => x.1) h3, congrArg (fun x => x.2.1) h3, congrArg (fun x => x.2.2) h3⟩
      refine rt_iload dX8_parseNumber_221 (j := 1) rfl ?_
      refine rt_if_ne (tgt := 231) dX8_parseNumber_223 (by decide) (fun _ => ?_) (fun c223 => absurd c223 hi)
      refine rt_iload_n dX8_parseNumber_231 rfl (j := 4) rfl ?_
      refine rt_if_lt (tgt := 262) dX8_parseNumber_232 (by decide) (fun c232 => absurd c232 (nI_pos (by omega))) (fun _ => ?_)
      refine rt_iload_n dX8_parseNumber_235 rfl (j := 4) rfl ?_
      refine rt_aload_n dX8_parseNumber_236 rfl (j := 5) rfl ?_
      refine rt_bGet Γ kf_RX8_38 dX8_parseNumber_237 (L := (tx_L s0 ca t (rt_r s0 tp) vals (nI p2) (-1) k b nx fi pa wo ke nu le lu)) rfl rfl ?_
      refine rt_alen Γ dX8_parseNumber_240 (t := 2) rfl (rt_bk_at w t (tx_L s0 ca t (rt_r s0 tp) vals (nI p2) (-1) k b nx fi pa wo ke nu le lu) 15 (Nat.le_of_ble_eq_true rfl)) (v := nI 2073) rfl ?_
      refine rt_icmp_ge (tgt := 262) dX8_parseNumber_241 (by decide) (fun c241 => absurd c241 (nI_ge hV (by decide))) (fun _ => ?_)
      refine rt_aload_n dX8_parseNumber_244 rfl (j := 5) rfl ?_
      refine rt_bGet Γ kf_RX8_38 dX8_parseNumber_245 (L := (tx_L s0 ca t (rt_r s0 tp) vals (nI p2) (-1) k b nx fi pa wo ke nu le lu)) rfl rfl ?_
      refine rt_iload_n dX8_parseNumber_248 rfl (j := 4) rfl ?_
      refine rt_iload_n dX8_parseNumber_249 rfl (j := 2) rfl ?_
      refine rt_if_eq (tgt := 258) dX8_parseNumber_250 (by decide) (fun c250 => absurd c250 (by decide)) (fun _ => ?_)
      refine rt_lload dX8_parseNumber_253 (j := 0) rfl ?_
      refine rt_goto (tgt := 261) dX8_parseNumber_255 (by decide) ?_
      refine rt_bLast Γ dX8_parseNumber_261 (m := 15) (L := (tx_L s0 ca t (rt_r s0 tp) vals (nI p2) (-1) k b nx fi pa wo ke nu le lu)) rfl (pk_in V 2073 hV rfl (by decide)) (L' := (tx_L s0 ca t (rt_r s0 tp) vals (nI p2) (-1) k b nx fi pa wo ke (vp_updL nu (nI V).toNatClampNeg s2) le lu)) rfl ?_
      refine rt_weq (w' := (rt_bk w t (tx_L s0 ca t (rt_r s0 tp) vals (nI p2) (-1) k b nx fi pa wo ke (vp_updL nu V s2) le lu))) (by rw [nI_clamp (by omega)]) ?_
      exact rt_vret dX8_parseNumber_262 rfl (⟨rfl, rfl⟩)
  · cases e9
    show rt_Go l s0 G RX8 "parseNumber" cX8_parseNumber 12 (Option.none : Option FieldType) [] d _ _ (52 + 3) [(3, .int 1), (2, .int (nI p)), (0, rt_r s0 t), (1, .int (nI V))] [.int 0] (rt_bk w t (tx_L s0 ca t (rt_r s0 tp) vals (nI (p + 1)) (-1) k b nx fi pa wo ke nu le lu))
    exact absurd hz hW
set_option maxRecDepth 100000 in
theorem j_num21 {l : Launch} {s0 : State} {a0 : Array Value} {G : va_G} {ca : Nat → ClassId} (Γ : rt_Γ l s0 a0 G ca) {d : Nat} {w : rt_Wd} {t : Nat} {vals : Int32} {k : Nat → Int32} {b : Nat → Int32} {nx : Nat → Int32} {fi : Nat → Int32} {pa : Nat → Int32} {wo : Nat → Int32} {ke : Nat → Int32} {nu : Nat → Int64} {le : Nat → Int32} {lu : Int32} (hd : 2 ≤ d) {tp n : Nat} {f : Nat → Int32} {u : Int32} {g : Nat → Int32} (hT : rt_C s0 ca w tp n f u) (hn : n < 2 ^ 31) (htp : tp + 1 < t ∨ t + 18 ≤ tp) (hg : ∀ p : Nat, p < 65536 → cl_peek n f u (nI p) = g p) (hok : rt_ok w) {p V : Nat} (hp : p < 50000) (hV : V < 2073) (hm : g p = 45) (hz : jDgt (g (p + 1))) {q : Nat} {i1 : Int32} {s1 : Int64} (hr : jDig g (-9223372036854775808) (if g (p + 1) = 48 then 1 else 4096) (p + 1) 1 0 = (q, i1, s1)) (hi : i1 = 0) : rt_Met l s0 G (.code yX8_parseNumber cX8_parseNumber 12 (Option.none : Option FieldType)) yX8_parseNumber d [rt_r s0 t, .int (nI V)] (rt_bk w t (tx_L s0 ca t (rt_r s0 tp) vals (nI p) (-1) k b nx fi pa wo ke nu le lu)) (fun r w1 => r = .inl none ∧ tx_B s0 ca w t tp p w1) := by
  refine rt_met Γ kk_X8_parseNumber rfl (Nat.le_of_ble_eq_true rfl) rfl ?_
  refine rt_aload_n dX8_parseNumber_0 rfl (j := 0) rfl ?_
  refine rt_bGet Γ kf_RX8_67 dX8_parseNumber_1 (L := (tx_L s0 ca t (rt_r s0 tp) vals (nI p) (-1) k b nx fi pa wo ke nu le lu)) rfl rfl ?_
  refine rt_istore_n (lv' := [(2, .int (nI p)), (0, rt_r s0 t), (1, .int (nI V))]) dX8_parseNumber_4 rfl (by decide) rfl ?_
  refine rt_aload_n dX8_parseNumber_5 rfl (j := 1) rfl ?_
  refine rt_bGet Γ kf_RX8_57 dX8_parseNumber_6 (L := (tx_L s0 ca t (rt_r s0 tp) vals (nI p) (-1) k b nx fi pa wo ke nu le lu)) rfl rfl ?_
  refine rt_aload_n dX8_parseNumber_9 rfl (j := 1) rfl ?_
  refine rt_bGet Γ kf_RX8_67 dX8_parseNumber_10 (L := (tx_L s0 ca t (rt_r s0 tp) vals (nI p) (-1) k b nx fi pa wo ke nu le lu)) rfl rfl ?_
  refine rt_callV Γ kk_X0_peek kc_RX8_86 (c_X0_peek Γ (d := d - 1) (x := (nI p)) (hT.bk htp) hn) (by omega) (by decide) (As := [.int (nI p)]) (show (parseMethodDescriptor yX0_peek.desc).map (fun q => q.parameters.length) = some 1 by decide +kernel) hok (Nat.le_of_ble_eq_true rfl) dX8_parseNumber_13 (hT.bk htp).1 rfl rfl rfl (rt_kr (st2 := [.int (cl_peek n f u (nI p))]) rfl ?_) rt_kx
  refine rt_te (y := g p) (hg p (by omega)) ?_
  refine rt_bipush (v := 45) dX8_parseNumber_16 (by decide) ?_
  refine rt_icmp_ne (tgt := 25) dX8_parseNumber_18 (by decide) (fun c18 => absurd c18 (fun c => c hm)) (fun _ => ?_)
  refine rt_iconst (v := 1) dX8_parseNumber_21 (by decide) ?_
  refine rt_goto (tgt := 26) dX8_parseNumber_22 (by decide) ?_
  refine rt_istore_n (lv' := [(3, .int 1), (2, .int (nI p)), (0, rt_r s0 t), (1, .int (nI V))]) dX8_parseNumber_26 rfl (by decide) rfl ?_
  refine rt_iload_n dX8_parseNumber_27 rfl (j := 0) rfl ?_
  refine rt_if_eq (tgt := 41) dX8_parseNumber_28 (by decide) (fun c28 => absurd c28 (by decide)) (fun _ => ?_)
  refine rt_aload_n dX8_parseNumber_31 rfl (j := 2) rfl ?_
  refine rt_dup dX8_parseNumber_32 rfl ?_
  refine rt_bGet Γ kf_RX8_67 dX8_parseNumber_33 (L := (tx_L s0 ca t (rt_r s0 tp) vals (nI p) (-1) k b nx fi pa wo ke nu le lu)) rfl rfl ?_
  refine rt_iconst (v := 1) dX8_parseNumber_36 (by decide) ?_
  refine rt_iadd dX8_parseNumber_37 ?_
  refine rt_te (y := nI (p + 1)) (nI_1 _) ?_
  refine rt_bPut Γ kp_RX8_67 dX8_parseNumber_38 (L := (tx_L s0 ca t (rt_r s0 tp) vals (nI p) (-1) k b nx fi pa wo ke nu le lu)) rfl (Nat.le_of_ble_eq_true rfl) rfl rfl (L' := (tx_L s0 ca t (rt_r s0 tp) vals (nI (p + 1)) (-1) k b nx fi pa wo ke nu le lu)) rfl ?_
  refine rt_aload_n dX8_parseNumber_41 rfl (j := 2) rfl ?_
  refine rt_bGet Γ kf_RX8_57 dX8_parseNumber_42 (L := (tx_L s0 ca t (rt_r s0 tp) vals (nI (p + 1)) (-1) k b nx fi pa wo ke nu le lu)) rfl rfl ?_
  refine rt_aload_n dX8_parseNumber_45 rfl (j := 2) rfl ?_
  refine rt_bGet Γ kf_RX8_67 dX8_parseNumber_46 (L := (tx_L s0 ca t (rt_r s0 tp) vals (nI (p + 1)) (-1) k b nx fi pa wo ke nu le lu)) rfl rfl ?_
  refine rt_callV Γ kk_X0_peek kc_RX8_86 (c_X0_peek Γ (d := d - 1) (x := (nI (p + 1))) (hT.bk htp) hn) (by omega) (by decide) (As := [.int (nI (p + 1))]) (show (parseMethodDescriptor yX0_peek.desc).map (fun q => q.parameters.length) = some 1 by decide +kernel) hok (Nat.le_of_ble_eq_true rfl) dX8_parseNumber_49 (hT.bk htp).1 rfl rfl rfl (rt_kr (st2 := [.int (cl_peek n f u (nI (p + 1)))]) rfl ?_) rt_kx
  refine rt_te (y := g (p + 1)) (hg (p + 1) (by omega)) ?_
  refine rt_callS Γ kk_X8_isDigit kc_RX8_133 (j_dig Γ (d := d - 1) (v := g (p + 1)) (w := (rt_bk w t (tx_L s0 ca t (rt_r s0 tp) vals (nI (p + 1)) (-1) k b nx fi pa wo ke nu le lu)))) (by omega) (by decide) (As := [.int (g (p + 1))]) (show (parseMethodDescriptor yX8_isDigit.desc).map (fun q => q.parameters.length) = some 1 by decide +kernel) hok (Nat.le_of_ble_eq_true rfl) dX8_parseNumber_52 rfl rfl (fun v9 w9 hq => ?_) (fun X w9 hq => hq.2.elim (fun h => nomatch h.1) (fun h => nomatch h.1))
  obtain ⟨rfl, ⟨e9, hW⟩ | ⟨e9, hW⟩⟩ := hq
  · cases e9
    show rt_Go l s0 G RX8 "parseNumber" cX8_parseNumber 12 (Option.none : Option FieldType) [] d _ _ (52 + 3) [(3, .int 1), (2, .int (nI p)), (0, rt_r s0 t), (1, .int (nI V))] [.int 1] (rt_bk w t (tx_L s0 ca t (rt_r s0 tp) vals (nI (p + 1)) (-1) k b nx fi pa wo ke nu le lu))
    refine rt_if_ne (tgt := 67) dX8_parseNumber_55 (by decide) (fun _ => ?_) (fun c55 => absurd c55 (by decide))
    refine rt_iload_n dX8_parseNumber_67 rfl (j := 0) rfl ?_
    refine rt_if_eq (tgt := 77) dX8_parseNumber_68 (by decide) (fun c68 => absurd c68 (by decide)) (fun _ => ?_)
    refine rt_ldc2 Γ dX8_parseNumber_71 kv_RX8_139 ?_
    refine rt_goto (tgt := 80) dX8_parseNumber_74 (by decide) ?_
    refine rt_lstore (lv' := [(4, .long (-9223372036854775808)), (3, .int 1), (2, .int (nI p)), (0, rt_r s0 t), (1, .int (nI V))]) dX8_parseNumber_80 (by decide) rfl ?_
    refine rt_iconst (v := 1) dX8_parseNumber_82 (by decide) ?_
    refine rt_istore (lv' := [(6, .int 1), (4, .long (-9223372036854775808)), (3, .int 1), (2, .int (nI p)), (0, rt_r s0 t), (1, .int (nI V))]) dX8_parseNumber_83 (by decide) rfl ?_
    refine rt_lconst (v := 0) dX8_parseNumber_85 (by decide) ?_
    refine rt_lstore (lv' := [(7, .long 0), (6, .int 1), (4, .long (-9223372036854775808)), (3, .int 1), (2, .int (nI p)), (0, rt_r s0 t), (1, .int (nI V))]) dX8_parseNumber_86 (by decide) rfl ?_
    refine rt_aload_n dX8_parseNumber_88 rfl (j := 5) rfl ?_
    refine rt_bGet Γ kf_RX8_57 dX8_parseNumber_89 (L := (tx_L s0 ca t (rt_r s0 tp) vals (nI (p + 1)) (-1) k b nx fi pa wo ke nu le lu)) rfl rfl ?_
    refine rt_aload_n dX8_parseNumber_92 rfl (j := 5) rfl ?_
    refine rt_bGet Γ kf_RX8_67 dX8_parseNumber_93 (L := (tx_L s0 ca t (rt_r s0 tp) vals (nI (p + 1)) (-1) k b nx fi pa wo ke nu le lu)) rfl rfl ?_
    refine rt_callV Γ kk_X0_peek kc_RX8_86 (c_X0_peek Γ (d := d - 1) (x := (nI (p + 1))) (hT.bk htp) hn) (by omega) (by decide) (As := [.int (nI (p + 1))]) (show (parseMethodDescriptor yX0_peek.desc).map (fun q => q.parameters.length) = some 1 by decide +kernel) hok (Nat.le_of_ble_eq_true rfl) dX8_parseNumber_96 (hT.bk htp).1 rfl rfl rfl (rt_kr (st2 := [.int (cl_peek n f u (nI (p + 1)))]) rfl ?_) rt_kx
    refine rt_te (y := g (p + 1)) (hg (p + 1) (by omega)) ?_
    refine rt_bipush (v := 48) dX8_parseNumber_99 (by decide) ?_
    refine rt_icmp_ne (tgt := 108) dX8_parseNumber_101 (by decide) (fun c101 => ?_) (fun c101 => ?_)
    · refine rt_sipush (v := 4096) dX8_parseNumber_108 (by decide) ?_
      refine rt_istore (lv' := [(9, .int 4096), (7, .long 0), (6, .int 1), (4, .long (-9223372036854775808)), (3, .int 1), (2, .int (nI p)), (0, rt_r s0 t), (1, .int (nI V))]) dX8_parseNumber_111 (by decide) rfl ?_
      refine rt_iconst (v := 0) dX8_parseNumber_113 (by decide) ?_
      refine rt_istore (lv' := [(10, .int 0), (9, .int 4096), (7, .long 0), (6, .int 1), (4, .long (-9223372036854775808)), (3, .int 1), (2, .int (nI p)), (0, rt_r s0 t), (1, .int (nI V))]) dX8_parseNumber_114 (by decide) rfl ?_
      have hr1 : jDig g (-9223372036854775808) 4096 (p + 1) 1 0 = (q, i1, s1) := by rw [← hr, if_neg c101]
      refine rt_lfew [0, 1, 2, 3, 4, 5, 6, 8, 7] rfl (j_numL Γ (by decide) (by omega) hT hn htp hg hok 4096 0 (p + 1) 1 0 rfl (by omega) (fun p2 i2 s2 h2 => ?_))
      obtain ⟨rfl, rfl, rfl⟩ : p2 = q ∧ i2 = i1 ∧ s2 = s1 := by have h3 := h2.symm.trans hr1; exact ⟨congrArg (fun x => x.1) h3, congrArg (fun x => x.2.1) h3, congrArg (fun x => x.2.2) h3⟩
      refine rt_iload dX8_parseNumber_221 (j := 1) rfl ?_
      refine rt_if_ne (tgt := 231) dX8_parseNumber_223 (by decide) (fun c223 => absurd c223 (fun h => h hi)) (fun _ => ?_)
      refine rt_aload_n dX8_parseNumber_226 rfl (j := 5) rfl ?_
      refine rt_iload_n dX8_parseNumber_227 rfl (j := 3) rfl ?_
      refine rt_callV Γ kk_X8_fail kc_RX8_83 (c_X8_fail0 Γ (d := d - 1)) (by omega) (by decide) (As := [.int (nI p)]) (show (parseMethodDescriptor yX8_fail.desc).map (fun q => q.parameters.length) = some 1 by decide +kernel) hok (Nat.le_of_ble_eq_true rfl) dX8_parseNumber_228 ((rt_bk_0 w t (tx_L s0 ca t (rt_r s0 tp) vals (nI p2) (-1) k b nx fi pa wo ke nu le lu) (Nat.le_of_ble_eq_true rfl)).trans rfl) rfl rfl rfl (rt_kr (st2 := []) rfl ?_) rt_kx
      refine rt_iload_n dX8_parseNumber_231 rfl (j := 4) rfl ?_
      refine rt_if_lt (tgt := 262) dX8_parseNumber_232 (by decide) (fun c232 => absurd c232 (nI_pos (by omega))) (fun _ => ?_)
      refine rt_iload_n dX8_parseNumber_235 rfl (j := 4) rfl ?_
      refine rt_aload_n dX8_parseNumber_236 rfl (j := 5) rfl ?_
      refine rt_bGet Γ kf_RX8_38 dX8_parseNumber_237 (L := (tx_L s0 ca t (rt_r s0 tp) vals (nI p2) (nI p) k b nx fi pa wo ke nu le lu)) rfl rfl ?_
      refine rt_alen Γ dX8_parseNumber_240 (t := 2) rfl (rt_bk_at w t (tx_L s0 ca t (rt_r s0 tp) vals (nI p2) (nI p) k b nx fi pa wo ke nu le lu) 15 (Nat.le_of_ble_eq_true rfl)) (v := nI 2073) rfl ?_
      refine rt_icmp_ge (tgt := 262) dX8_parseNumber_241 (by decide) (fun c241 => absurd c241 (nI_ge hV (by decide))) (fun _ => ?_)
      refine rt_aload_n dX8_parseNumber_244 rfl (j := 5) rfl ?_
      refine rt_bGet Γ kf_RX8_38 dX8_parseNumber_245 (L := (tx_L s0 ca t (rt_r s0 tp) vals (nI p2) (nI p) k b nx fi pa wo ke nu le lu)) rfl rfl ?_
      refine rt_iload_n dX8_parseNumber_248 rfl (j := 4) rfl ?_
      refine rt_iload_n dX8_parseNumber_249 rfl (j := 2) rfl ?_
      refine rt_if_eq (tgt := 258) dX8_parseNumber_250 (by decide) (fun c250 => absurd c250 (by decide)) (fun _ => ?_)
      refine rt_lload dX8_parseNumber_253 (j := 0) rfl ?_
      refine rt_goto (tgt := 261) dX8_parseNumber_255 (by decide) ?_
      refine rt_bLast Γ dX8_parseNumber_261 (m := 15) (L := (tx_L s0 ca t (rt_r s0 tp) vals (nI p2) (nI p) k b nx fi pa wo ke nu le lu)) rfl (pk_in V 2073 hV rfl (by decide)) (L' := (tx_L s0 ca t (rt_r s0 tp) vals (nI p2) (nI p) k b nx fi pa wo ke (vp_updL nu (nI V).toNatClampNeg s2) le lu)) rfl ?_
      exact rt_vret dX8_parseNumber_262 rfl (⟨rfl, _, _, _, _, _, _, _, _, _, _, _, _, rfl⟩)
    · refine rt_iconst (v := 1) dX8_parseNumber_104 (by decide) ?_
      refine rt_goto (tgt := 111) dX8_parseNumber_105 (by decide) ?_
      refine rt_istore (lv' := [(9, .int 1), (7, .long 0), (6, .int 1), (4, .long (-9223372036854775808)), (3, .int 1), (2, .int (nI p)), (0, rt_r s0 t), (1, .int (nI V))]) dX8_parseNumber_111 (by decide) rfl ?_
      refine rt_iconst (v := 0) dX8_parseNumber_113 (by decide) ?_
      refine rt_istore (lv' := [(10, .int 0), (9, .int 1), (7, .long 0), (6, .int 1), (4, .long (-9223372036854775808)), (3, .int 1), (2, .int (nI p)), (0, rt_r s0 t), (1, .int (nI V))]) dX8_parseNumber_114 (by decide) rfl ?_
      have hr1 : jDig g (-9223372036854775808) 1 (p + 1) 1 0 = (q, i1, s1) := by rw [← hr, if_pos c101]
      refine rt_lfew [0, 1, 2, 3, 4, 5, 6, 8, 7] rfl (j_numL Γ (by decide) (by omega) hT hn htp hg hok 1 0 (p + 1) 1 0 rfl (by omega) (fun p2 i2 s2 h2 => ?_))
      obtain ⟨rfl, rfl, rfl⟩ : p2 = q ∧ i2 = i1 ∧ s2 = s1 := by have h3 := h2.symm.trans hr1; exact ⟨congrArg (fun x => x.1) h3, congrArg (fun x => x.2.1) h3, congrArg (fun x => x.2.2) h3⟩
      refine rt_iload dX8_parseNumber_221 (j := 1) rfl ?_
      refine rt_if_ne (tgt := 231) dX8_parseNumber_223 (by decide) (fun c223 => absurd c223 (fun h => h hi)) (fun _ => ?_)
      refine rt_aload_n dX8_parseNumber_226 rfl (j := 5) rfl ?_
      refine rt_iload_n dX8_parseNumber_227 rfl (j := 3) rfl ?_
      refine rt_callV Γ kk_X8_fail kc_RX8_83 (c_X8_fail0 Γ (d := d - 1)) (by omega) (by decide) (As := [.int (nI p)]) (show (parseMethodDescriptor yX8_fail.desc).map (fun q => q.parameters.length) = some 1 by decide +kernel) hok (Nat.le_of_ble_eq_true rfl) dX8_parseNumber_228 ((rt_bk_0 w t (tx_L s0 ca t (rt_r s0 tp) vals (nI p2) (-1) k b nx fi pa wo ke nu le lu) (Nat.le_of_ble_eq_true rfl)).trans rfl) rfl rfl rfl (rt_kr (st2 := []) rfl ?_) rt_kx
      refine rt_iload_n dX8_parseNumber_231 rfl (j := 4) rfl ?_
      refine rt_if_lt (tgt := 262) dX8_parseNumber_232 (by decide) (fun c232 => absurd c232 (nI_pos (by omega))) (fun _ => ?_)
      refine rt_iload_n dX8_parseNumber_235 rfl (j := 4) rfl ?_
      refine rt_aload_n dX8_parseNumber_236 rfl (j := 5) rfl ?_
      refine rt_bGet Γ kf_RX8_38 dX8_parseNumber_237 (L := (tx_L s0 ca t (rt_r s0 tp) vals (nI p2) (nI p) k b nx fi pa wo ke nu le lu)) rfl rfl ?_
      refine rt_alen Γ dX8_parseNumber_240 (t := 2) rfl (rt_bk_at w t (tx_L s0 ca t (rt_r s0 tp) vals (nI p2) (nI p) k b nx fi pa wo ke nu le lu) 15 (Nat.le_of_ble_eq_true rfl)) (v := nI 2073) rfl ?_
      refine rt_icmp_ge (tgt := 262) dX8_parseNumber_241 (by decide) (fun c241 => absurd c241 (nI_ge hV (by decide))) (fun _ => ?_)
      refine rt_aload_n dX8_parseNumber_244 rfl (j := 5) rfl ?_
      refine rt_bGet Γ kf_RX8_38 dX8_parseNumber_245 (L := (tx_L s0 ca t (rt_r s0 tp) vals (nI p2) (nI p) k b nx fi pa wo ke nu le lu)) rfl rfl ?_
      refine rt_iload_n dX8_parseNumber_248 rfl (j := 4) rfl ?_
      refine rt_iload_n dX8_parseNumber_249 rfl (j := 2) rfl ?_
      refine rt_if_eq (tgt := 258) dX8_parseNumber_250 (by decide) (fun c250 => absurd c250 (by decide)) (fun _ => ?_)
      refine rt_lload dX8_parseNumber_253 (j := 0) rfl ?_
      refine rt_goto (tgt := 261) dX8_parseNumber_255 (by decide) ?_
      refine rt_bLast Γ dX8_parseNumber_261 (m := 15) (L := (tx_L s0 ca t (rt_r s0 tp) vals (nI p2) (nI p) k b nx fi pa wo ke nu le lu)) rfl (pk_in V 2073 hV rfl (by decide)) (L' := (tx_L s0 ca t (rt_r s0 tp) vals (nI p2) (nI p) k b nx fi pa wo ke (vp_updL nu (nI V).toNatClampNeg s2) le lu)) rfl ?_
      exact rt_vret dX8_parseNumber_262 rfl (⟨rfl, _, _, _, _, _, _, _, _, _, _, _, _, rfl⟩)
  · cases e9
    show rt_Go l s0 G RX8 "parseNumber" cX8_parseNumber 12 (Option.none : Option FieldType) [] d _ _ (52 + 3) [(3, .int 1), (2, .int (nI p)), (0, rt_r s0 t), (1, .int (nI V))] [.int 0] (rt_bk w t (tx_L s0 ca t (rt_r s0 tp) vals (nI (p + 1)) (-1) k b nx fi pa wo ke nu le lu))
    exact absurd hz hW
set_option maxRecDepth 100000 in
theorem j_num10 {l : Launch} {s0 : State} {a0 : Array Value} {G : va_G} {ca : Nat → ClassId} (Γ : rt_Γ l s0 a0 G ca) {d : Nat} {w : rt_Wd} {t : Nat} {vals : Int32} {k : Nat → Int32} {b : Nat → Int32} {nx : Nat → Int32} {fi : Nat → Int32} {pa : Nat → Int32} {wo : Nat → Int32} {ke : Nat → Int32} {nu : Nat → Int64} {le : Nat → Int32} {lu : Int32} (hd : 2 ≤ d) {tp n : Nat} {f : Nat → Int32} {u : Int32} {g : Nat → Int32} (hT : rt_C s0 ca w tp n f u) (hn : n < 2 ^ 31) (htp : tp + 1 < t ∨ t + 18 ≤ tp) (hg : ∀ p : Nat, p < 65536 → cl_peek n f u (nI p) = g p) (hok : rt_ok w) {p V : Nat} (hp : p < 50000) (hV : V < 2073) (hm : ¬ g p = 45) (hz : ¬ jDgt (g (p))) : rt_Met l s0 G (.code yX8_parseNumber cX8_parseNumber 12 (Option.none : Option FieldType)) yX8_parseNumber d [rt_r s0 t, .int (nI V)] (rt_bk w t (tx_L s0 ca t (rt_r s0 tp) vals (nI p) (-1) k b nx fi pa wo ke nu le lu)) (rt_is (.inl none) (rt_bk w t (tx_L s0 ca t (rt_r s0 tp) vals (nI (p)) (nI (p)) k b nx fi pa wo ke nu le lu))) := by
  refine rt_met Γ kk_X8_parseNumber rfl (Nat.le_of_ble_eq_true rfl) rfl ?_
  refine rt_aload_n dX8_parseNumber_0 rfl (j := 0) rfl ?_
  refine rt_bGet Γ kf_RX8_67 dX8_parseNumber_1 (L := (tx_L s0 ca t (rt_r s0 tp) vals (nI p) (-1) k b nx fi pa wo ke nu le lu)) rfl rfl ?_
  refine rt_istore_n (lv' := [(2, .int (nI p)), (0, rt_r s0 t), (1, .int (nI V))]) dX8_parseNumber_4 rfl (by decide) rfl ?_
  refine rt_aload_n dX8_parseNumber_5 rfl (j := 1) rfl ?_
  refine rt_bGet Γ kf_RX8_57 dX8_parseNumber_6 (L := (tx_L s0 ca t (rt_r s0 tp) vals (nI p) (-1) k b nx fi pa wo ke nu le lu)) rfl rfl ?_
  refine rt_aload_n dX8_parseNumber_9 rfl (j := 1) rfl ?_
  refine rt_bGet Γ kf_RX8_67 dX8_parseNumber_10 (L := (tx_L s0 ca t (rt_r s0 tp) vals (nI p) (-1) k b nx fi pa wo ke nu le lu)) rfl rfl ?_
  refine rt_callV Γ kk_X0_peek kc_RX8_86 (c_X0_peek Γ (d := d - 1) (x := (nI p)) (hT.bk htp) hn) (by omega) (by decide) (As := [.int (nI p)]) (show (parseMethodDescriptor yX0_peek.desc).map (fun q => q.parameters.length) = some 1 by decide +kernel) hok (Nat.le_of_ble_eq_true rfl) dX8_parseNumber_13 (hT.bk htp).1 rfl rfl rfl (rt_kr (st2 := [.int (cl_peek n f u (nI p))]) rfl ?_) rt_kx
  refine rt_te (y := g p) (hg p (by omega)) ?_
  refine rt_bipush (v := 45) dX8_parseNumber_16 (by decide) ?_
  refine rt_icmp_ne (tgt := 25) dX8_parseNumber_18 (by decide) (fun _ => ?_) (fun c18 => absurd c18 hm)
  refine rt_iconst (v := 0) dX8_parseNumber_25 (by decide) ?_
  refine rt_istore_n (lv' := [(3, .int 0), (2, .int (nI p)), (0, rt_r s0 t), (1, .int (nI V))]) dX8_parseNumber_26 rfl (by decide) rfl ?_
  refine rt_iload_n dX8_parseNumber_27 rfl (j := 0) rfl ?_
  refine rt_if_eq (tgt := 41) dX8_parseNumber_28 (by decide) (fun _ => ?_) (fun c28 => absurd rfl c28)
  refine rt_aload_n dX8_parseNumber_41 rfl (j := 2) rfl ?_
  refine rt_bGet Γ kf_RX8_57 dX8_parseNumber_42 (L := (tx_L s0 ca t (rt_r s0 tp) vals (nI p) (-1) k b nx fi pa wo ke nu le lu)) rfl rfl ?_
  refine rt_aload_n dX8_parseNumber_45 rfl (j := 2) rfl ?_
  refine rt_bGet Γ kf_RX8_67 dX8_parseNumber_46 (L := (tx_L s0 ca t (rt_r s0 tp) vals (nI p) (-1) k b nx fi pa wo ke nu le lu)) rfl rfl ?_
  refine rt_callV Γ kk_X0_peek kc_RX8_86 (c_X0_peek Γ (d := d - 1) (x := (nI p)) (hT.bk htp) hn) (by omega) (by decide) (As := [.int (nI p)]) (show (parseMethodDescriptor yX0_peek.desc).map (fun q => q.parameters.length) = some 1 by decide +kernel) hok (Nat.le_of_ble_eq_true rfl) dX8_parseNumber_49 (hT.bk htp).1 rfl rfl rfl (rt_kr (st2 := [.int (cl_peek n f u (nI p))]) rfl ?_) rt_kx
  refine rt_te (y := g p) (hg p (by omega)) ?_
  refine rt_callS Γ kk_X8_isDigit kc_RX8_133 (j_dig Γ (d := d - 1) (v := g (p)) (w := (rt_bk w t (tx_L s0 ca t (rt_r s0 tp) vals (nI p) (-1) k b nx fi pa wo ke nu le lu)))) (by omega) (by decide) (As := [.int (g p)]) (show (parseMethodDescriptor yX8_isDigit.desc).map (fun q => q.parameters.length) = some 1 by decide +kernel) hok (Nat.le_of_ble_eq_true rfl) dX8_parseNumber_52 rfl rfl (fun v9 w9 hq => ?_) (fun X w9 hq => hq.2.elim (fun h => nomatch h.1) (fun h => nomatch h.1))
  obtain ⟨rfl, ⟨e9, hW⟩ | ⟨e9, hW⟩⟩ := hq
  · cases e9
    show rt_Go l s0 G RX8 "parseNumber" cX8_parseNumber 12 (Option.none : Option FieldType) [] d _ _ (52 + 3) [(3, .int 0), (2, .int (nI p)), (0, rt_r s0 t), (1, .int (nI V))] [.int 1] (rt_bk w t (tx_L s0 ca t (rt_r s0 tp) vals (nI p) (-1) k b nx fi pa wo ke nu le lu))
    exact absurd hW hz
  · cases e9
    show rt_Go l s0 G RX8 "parseNumber" cX8_parseNumber 12 (Option.none : Option FieldType) [] d _ _ (52 + 3) [(3, .int 0), (2, .int (nI p)), (0, rt_r s0 t), (1, .int (nI V))] [.int 0] (rt_bk w t (tx_L s0 ca t (rt_r s0 tp) vals (nI p) (-1) k b nx fi pa wo ke nu le lu))
    refine rt_if_ne (tgt := 67) dX8_parseNumber_55 (by decide) (fun c55 => absurd c55 (fun h => h rfl)) (fun _ => ?_)
    refine rt_aload_n dX8_parseNumber_58 rfl (j := 2) rfl ?_
    refine rt_aload_n dX8_parseNumber_59 rfl (j := 2) rfl ?_
    refine rt_bGet Γ kf_RX8_67 dX8_parseNumber_60 (L := (tx_L s0 ca t (rt_r s0 tp) vals (nI p) (-1) k b nx fi pa wo ke nu le lu)) rfl rfl ?_
    refine rt_callV Γ kk_X8_fail kc_RX8_83 (c_X8_fail0 Γ (d := d - 1)) (by omega) (by decide) (As := [.int (nI p)]) (show (parseMethodDescriptor yX8_fail.desc).map (fun q => q.parameters.length) = some 1 by decide +kernel) hok (Nat.le_of_ble_eq_true rfl) dX8_parseNumber_63 ((rt_bk_0 w t (tx_L s0 ca t (rt_r s0 tp) vals (nI p) (-1) k b nx fi pa wo ke nu le lu) (Nat.le_of_ble_eq_true rfl)).trans rfl) rfl rfl rfl (rt_kr (st2 := []) rfl ?_) rt_kx
    exact rt_vret dX8_parseNumber_66 rfl (⟨rfl, rfl⟩)
set_option maxRecDepth 100000 in
theorem j_num30 {l : Launch} {s0 : State} {a0 : Array Value} {G : va_G} {ca : Nat → ClassId} (Γ : rt_Γ l s0 a0 G ca) {d : Nat} {w : rt_Wd} {t : Nat} {vals : Int32} {k : Nat → Int32} {b : Nat → Int32} {nx : Nat → Int32} {fi : Nat → Int32} {pa : Nat → Int32} {wo : Nat → Int32} {ke : Nat → Int32} {nu : Nat → Int64} {le : Nat → Int32} {lu : Int32} (hd : 2 ≤ d) {tp n : Nat} {f : Nat → Int32} {u : Int32} {g : Nat → Int32} (hT : rt_C s0 ca w tp n f u) (hn : n < 2 ^ 31) (htp : tp + 1 < t ∨ t + 18 ≤ tp) (hg : ∀ p : Nat, p < 65536 → cl_peek n f u (nI p) = g p) (hok : rt_ok w) {p V : Nat} (hp : p < 50000) (hV : V < 2073) (hm : ¬ g p = 45) (hz : jDgt (g (p))) {q : Nat} {i1 : Int32} {s1 : Int64} (hr : jDig g (-9223372036854775807) (if g (p) = 48 then 1 else 4096) (p) 1 0 = (q, i1, s1)) (hi : ¬ i1 = 0) : rt_Met l s0 G (.code yX8_parseNumber cX8_parseNumber 12 (Option.none : Option FieldType)) yX8_parseNumber d [rt_r s0 t, .int (nI V)] (rt_bk w t (tx_L s0 ca t (rt_r s0 tp) vals (nI p) (-1) k b nx fi pa wo ke nu le lu)) (rt_is (.inl none) (rt_bk w t (tx_L s0 ca t (rt_r s0 tp) vals (nI q) (-1) k b nx fi pa wo ke (vp_updL nu V (-s1)) le lu))) := by
  refine rt_met Γ kk_X8_parseNumber rfl (Nat.le_of_ble_eq_true rfl) rfl ?_
  refine rt_aload_n dX8_parseNumber_0 rfl (j := 0) rfl ?_
  refine rt_bGet Γ kf_RX8_67 dX8_parseNumber_1 (L := (tx_L s0 ca t (rt_r s0 tp) vals (nI p) (-1) k b nx fi pa wo ke nu le lu)) rfl rfl ?_
  refine rt_istore_n (lv' := [(2, .int (nI p)), (0, rt_r s0 t), (1, .int (nI V))]) dX8_parseNumber_4 rfl (by decide) rfl ?_
  refine rt_aload_n dX8_parseNumber_5 rfl (j := 1) rfl ?_
  refine rt_bGet Γ kf_RX8_57 dX8_parseNumber_6 (L := (tx_L s0 ca t (rt_r s0 tp) vals (nI p) (-1) k b nx fi pa wo ke nu le lu)) rfl rfl ?_
  refine rt_aload_n dX8_parseNumber_9 rfl (j := 1) rfl ?_
  refine rt_bGet Γ kf_RX8_67 dX8_parseNumber_10 (L := (tx_L s0 ca t (rt_r s0 tp) vals (nI p) (-1) k b nx fi pa wo ke nu le lu)) rfl rfl ?_
  refine rt_callV Γ kk_X0_peek kc_RX8_86 (c_X0_peek Γ (d := d - 1) (x := (nI p)) (hT.bk htp) hn) (by omega) (by decide) (As := [.int (nI p)]) (show (parseMethodDescriptor yX0_peek.desc).map (fun q => q.parameters.length) = some 1 by decide +kernel) hok (Nat.le_of_ble_eq_true rfl) dX8_parseNumber_13 (hT.bk htp).1 rfl rfl rfl (rt_kr (st2 := [.int (cl_peek n f u (nI p))]) rfl ?_) rt_kx
  refine rt_te (y := g p) (hg p (by omega)) ?_
  refine rt_bipush (v := 45) dX8_parseNumber_16 (by decide) ?_
  refine rt_icmp_ne (tgt := 25) dX8_parseNumber_18 (by decide) (fun _ => ?_) (fun c18 => absurd c18 hm)
  refine rt_iconst (v := 0) dX8_parseNumber_25 (by decide) ?_
  refine rt_istore_n (lv' := [(3, .int 0), (2, .int (nI p)), (0, rt_r s0 t), (1, .int (nI V))]) dX8_parseNumber_26 rfl (by decide) rfl ?_
  refine rt_iload_n dX8_parseNumber_27 rfl (j := 0) rfl ?_
  refine rt_if_eq (tgt := 41) dX8_parseNumber_28 (by decide) (fun _ => ?_) (fun c28 => absurd rfl c28)
  refine rt_aload_n dX8_parseNumber_41 rfl (j := 2) rfl ?_
  refine rt_bGet Γ kf_RX8_57 dX8_parseNumber_42 (L := (tx_L s0 ca t (rt_r s0 tp) vals (nI p) (-1) k b nx fi pa wo ke nu le lu)) rfl rfl ?_
  refine rt_aload_n dX8_parseNumber_45 rfl (j := 2) rfl ?_
  refine rt_bGet Γ kf_RX8_67 dX8_parseNumber_46 (L := (tx_L s0 ca t (rt_r s0 tp) vals (nI p) (-1) k b nx fi pa wo ke nu le lu)) rfl rfl ?_
  refine rt_callV Γ kk_X0_peek kc_RX8_86 (c_X0_peek Γ (d := d - 1) (x := (nI p)) (hT.bk htp) hn) (by omega) (by decide) (As := [.int (nI p)]) (show (parseMethodDescriptor yX0_peek.desc).map (fun q => q.parameters.length) = some 1 by decide +kernel) hok (Nat.le_of_ble_eq_true rfl) dX8_parseNumber_49 (hT.bk htp).1 rfl rfl rfl (rt_kr (st2 := [.int (cl_peek n f u (nI p))]) rfl ?_) rt_kx
  refine rt_te (y := g p) (hg p (by omega)) ?_
  refine rt_callS Γ kk_X8_isDigit kc_RX8_133 (j_dig Γ (d := d - 1) (v := g (p)) (w := (rt_bk w t (tx_L s0 ca t (rt_r s0 tp) vals (nI p) (-1) k b nx fi pa wo ke nu le lu)))) (by omega) (by decide) (As := [.int (g p)]) (show (parseMethodDescriptor yX8_isDigit.desc).map (fun q => q.parameters.length) = some 1 by decide +kernel) hok (Nat.le_of_ble_eq_true rfl) dX8_parseNumber_52 rfl rfl (fun v9 w9 hq => ?_) (fun X w9 hq => hq.2.elim (fun h => nomatch h.1) (fun h => nomatch h.1))
  obtain ⟨rfl, ⟨e9, hW⟩ | ⟨e9, hW⟩⟩ := hq
  · cases e9
    show rt_Go l s0 G RX8 "parseNumber" cX8_parseNumber 12 (Option.none : Option FieldType) [] d _ _ (52 + 3) [(3, .int 0), (2, .int (nI p)), (0, rt_r s0 t), (1, .int (nI V))] [.int 1] (rt_bk w t (tx_L s0 ca t (rt_r s0 tp) vals (nI p) (-1) k b nx fi pa wo ke nu le lu))
    refine rt_if_ne (tgt := 67) dX8_parseNumber_55 (by decide) (fun _ => ?_) (fun c55 => absurd c55 (by decide))
    refine rt_iload_n dX8_parseNumber_67 rfl (j := 0) rfl ?_
    refine rt_if_eq (tgt := 77) dX8_parseNumber_68 (by decide) (fun _ => ?_) (fun c68 => absurd rfl c68)
    refine rt_ldc2 Γ dX8_parseNumber_77 kv_RX8_141 ?_
    refine rt_lstore (lv' := [(4, .long (-9223372036854775807)), (3, .int 0), (2, .int (nI p)), (0, rt_r s0 t), (1, .int (nI V))]) dX8_parseNumber_80 (by decide) rfl ?_
    refine rt_iconst (v := 1) dX8_parseNumber_82 (by decide) ?_
    refine rt_istore (lv' := [(6, .int 1), (4, .long (-9223372036854775807)), (3, .int 0), (2, .int (nI p)), (0, rt_r s0 t), (1, .int (nI V))]) dX8_parseNumber_83 (by decide) rfl ?_
    refine rt_lconst (v := 0) dX8_parseNumber_85 (by decide) ?_
    refine rt_lstore (lv' := [(7, .long 0), (6, .int 1), (4, .long (-9223372036854775807)), (3, .int 0), (2, .int (nI p)), (0, rt_r s0 t), (1, .int (nI V))]) dX8_parseNumber_86 (by decide) rfl ?_
    refine rt_aload_n dX8_parseNumber_88 rfl (j := 5) rfl ?_
    refine rt_bGet Γ kf_RX8_57 dX8_parseNumber_89 (L := (tx_L s0 ca t (rt_r s0 tp) vals (nI p) (-1) k b nx fi pa wo ke nu le lu)) rfl rfl ?_
    refine rt_aload_n dX8_parseNumber_92 rfl (j := 5) rfl ?_
    refine rt_bGet Γ kf_RX8_67 dX8_parseNumber_93 (L := (tx_L s0 ca t (rt_r s0 tp) vals (nI p) (-1) k b nx fi pa wo ke nu le lu)) rfl rfl ?_
    refine rt_callV Γ kk_X0_peek kc_RX8_86 (c_X0_peek Γ (d := d - 1) (x := (nI p)) (hT.bk htp) hn) (by omega) (by decide) (As := [.int (nI p)]) (show (parseMethodDescriptor yX0_peek.desc).map (fun q => q.parameters.length) = some 1 by decide +kernel) hok (Nat.le_of_ble_eq_true rfl) dX8_parseNumber_96 (hT.bk htp).1 rfl rfl rfl (rt_kr (st2 := [.int (cl_peek n f u (nI p))]) rfl ?_) rt_kx
    refine rt_te (y := g p) (hg p (by omega)) ?_
    refine rt_bipush (v := 48) dX8_parseNumber_99 (by decide) ?_
    refine rt_icmp_ne (tgt := 108) dX8_parseNumber_101 (by decide) (fun c101 => ?_) (fun c101 => ?_)
    · refine rt_sipush (v := 4096) dX8_parseNumber_108 (by decide) ?_
      refine rt_istore (lv' := [(9, .int 4096), (7, .long 0), (6, .int 1), (4, .long (-9223372036854775807)), (3, .int 0), (2, .int (nI p)), (0, rt_r s0 t), (1, .int (nI V))]) dX8_parseNumber_111 (by decide) rfl ?_
      refine rt_iconst (v := 0) dX8_parseNumber_113 (by decide) ?_
      refine rt_istore (lv' := [(10, .int 0), (9, .int 4096), (7, .long 0), (6, .int 1), (4, .long (-9223372036854775807)), (3, .int 0), (2, .int (nI p)), (0, rt_r s0 t), (1, .int (nI V))]) dX8_parseNumber_114 (by decide) rfl ?_
      have hr1 : jDig g (-9223372036854775807) 4096 (p) 1 0 = (q, i1, s1) := by rw [← hr, if_neg c101]
      refine rt_lfew [0, 1, 2, 3, 4, 5, 6, 8, 7] rfl (j_numL Γ (by decide) (by omega) hT hn htp hg hok 4096 0 (p) 1 0 rfl (by omega) (fun p2 i2 s2 h2 => ?_))
      obtain ⟨rfl, rfl, rfl⟩ : p2 = q ∧ i2 = i1 ∧ s2 = s1 := by have h3 := h2.symm.trans hr1; exact ⟨congrArg (fun x => x.1) h3, congrArg (fun x => x.2.1) h3, congrArg (fun x => x.2.2) h3⟩
      refine rt_iload dX8_parseNumber_221 (j := 1) rfl ?_
      refine rt_if_ne (tgt := 231) dX8_parseNumber_223 (by decide) (fun _ => ?_) (fun c223 => absurd c223 hi)
      refine rt_iload_n dX8_parseNumber_231 rfl (j := 4) rfl ?_
      refine rt_if_lt (tgt := 262) dX8_parseNumber_232 (by decide) (fun c232 => absurd c232 (nI_pos (by omega))) (fun _ => ?_)
      refine rt_iload_n dX8_parseNumber_235 rfl (j := 4) rfl ?_
      refine rt_aload_n dX8_parseNumber_236 rfl (j := 5) rfl ?_
      refine rt_bGet Γ kf_RX8_38 dX8_parseNumber_237 (L := (tx_L s0 ca t (rt_r s0 tp) vals (nI p2) (-1) k b nx fi pa wo ke nu le lu)) rfl rfl ?_
      refine rt_alen Γ dX8_parseNumber_240 (t := 2) rfl (rt_bk_at w t (tx_L s0 ca t (rt_r s0 tp) vals (nI p2) (-1) k b nx fi pa wo ke nu le lu) 15 (Nat.le_of_ble_eq_true rfl)) (v := nI 2073) rfl ?_
      refine rt_icmp_ge (tgt := 262) dX8_parseNumber_241 (by decide) (fun c241 => absurd c241 (nI_ge hV (by decide))) (fun _ => ?_)
      refine rt_aload_n dX8_parseNumber_244 rfl (j := 5) rfl ?_
      refine rt_bGet Γ kf_RX8_38 dX8_parseNumber_245 (L := (tx_L s0 ca t (rt_r s0 tp) vals (nI p2) (-1) k b nx fi pa wo ke nu le lu)) rfl rfl ?_
      refine rt_iload_n dX8_parseNumber_248 rfl (j := 4) rfl ?_
      refine rt_iload_n dX8_parseNumber_249 rfl (j := 2) rfl ?_
      refine rt_if_eq (tgt := 258) dX8_parseNumber_250 (by decide) (fun _ => ?_) (fun c250 => absurd rfl c250)
      refine rt_lload dX8_parseNumber_258 (j := 0) rfl ?_
      refine rt_lneg dX8_parseNumber_260 ?_
      refine rt_bLast Γ dX8_parseNumber_261 (m := 15) (L := (tx_L s0 ca t (rt_r s0 tp) vals (nI p2) (-1) k b nx fi pa wo ke nu le lu)) rfl (pk_in V 2073 hV rfl (by decide)) (L' := (tx_L s0 ca t (rt_r s0 tp) vals (nI p2) (-1) k b nx fi pa wo ke (vp_updL nu (nI V).toNatClampNeg (-s2)) le lu)) rfl ?_
      refine rt_weq (w' := (rt_bk w t (tx_L s0 ca t (rt_r s0 tp) vals (nI p2) (-1) k b nx fi pa wo ke (vp_updL nu V (-s2)) le lu))) (by rw [nI_clamp (by omega)]) ?_
      exact rt_vret dX8_parseNumber_262 rfl (⟨rfl, rfl⟩)
    · refine rt_iconst (v := 1) dX8_parseNumber_104 (by decide) ?_
      refine rt_goto (tgt := 111) dX8_parseNumber_105 (by decide) ?_
      refine rt_istore (lv' := [(9, .int 1), (7, .long 0), (6, .int 1), (4, .long (-9223372036854775807)), (3, .int 0), (2, .int (nI p)), (0, rt_r s0 t), (1, .int (nI V))]) dX8_parseNumber_111 (by decide) rfl ?_
      refine rt_iconst (v := 0) dX8_parseNumber_113 (by decide) ?_
      refine rt_istore (lv' := [(10, .int 0), (9, .int 1), (7, .long 0), (6, .int 1), (4, .long (-9223372036854775807)), (3, .int 0), (2, .int (nI p)), (0, rt_r s0 t), (1, .int (nI V))]) dX8_parseNumber_114 (by decide) rfl ?_
      have hr1 : jDig g (-9223372036854775807) 1 (p) 1 0 = (q, i1, s1) := by rw [← hr, if_pos c101]
      refine rt_lfew [0, 1, 2, 3, 4, 5, 6, 8, 7] rfl (j_numL Γ (by decide) (by omega) hT hn htp hg hok 1 0 (p) 1 0 rfl (by omega) (fun p2 i2 s2 h2 => ?_))
      obtain ⟨rfl, rfl, rfl⟩ : p2 = q ∧ i2 = i1 ∧ s2 = s1 := by have h3 := h2.symm.trans hr1; exact ⟨congrArg (fun x => x.1) h3, congrArg (fun x => x.2.1) h3, congrArg (fun x => x.2.2) h3⟩
      refine rt_iload dX8_parseNumber_221 (j := 1) rfl ?_
      refine rt_if_ne (tgt := 231) dX8_parseNumber_223 (by decide) (fun _ => ?_) (fun c223 => absurd c223 hi)
      refine rt_iload_n dX8_parseNumber_231 rfl (j := 4) rfl ?_
      refine rt_if_lt (tgt := 262) dX8_parseNumber_232 (by decide) (fun c232 => absurd c232 (nI_pos (by omega))) (fun _ => ?_)
      refine rt_iload_n dX8_parseNumber_235 rfl (j := 4) rfl ?_
      refine rt_aload_n dX8_parseNumber_236 rfl (j := 5) rfl ?_
      refine rt_bGet Γ kf_RX8_38 dX8_parseNumber_237 (L := (tx_L s0 ca t (rt_r s0 tp) vals (nI p2) (-1) k b nx fi pa wo ke nu le lu)) rfl rfl ?_
      refine rt_alen Γ dX8_parseNumber_240 (t := 2) rfl (rt_bk_at w t (tx_L s0 ca t (rt_r s0 tp) vals (nI p2) (-1) k b nx fi pa wo ke nu le lu) 15 (Nat.le_of_ble_eq_true rfl)) (v := nI 2073) rfl ?_
      refine rt_icmp_ge (tgt := 262) dX8_parseNumber_241 (by decide) (fun c241 => absurd c241 (nI_ge hV (by decide))) (fun _ => ?_)
      refine rt_aload_n dX8_parseNumber_244 rfl (j := 5) rfl ?_
      refine rt_bGet Γ kf_RX8_38 dX8_parseNumber_245 (L := (tx_L s0 ca t (rt_r s0 tp) vals (nI p2) (-1) k b nx fi pa wo ke nu le lu)) rfl rfl ?_
      refine rt_iload_n dX8_parseNumber_248 rfl (j := 4) rfl ?_
      refine rt_iload_n dX8_parseNumber_249 rfl (j := 2) rfl ?_
      refine rt_if_eq (tgt := 258) dX8_parseNumber_250 (by decide) (fun _ => ?_) (fun c250 => absurd rfl c250)
      refine rt_lload dX8_parseNumber_258 (j := 0) rfl ?_
      refine rt_lneg dX8_parseNumber_260 ?_
      refine rt_bLast Γ dX8_parseNumber_261 (m := 15) (L := (tx_L s0 ca t (rt_r s0 tp) vals (nI p2) (-1) k b nx fi pa wo ke nu le lu)) rfl (pk_in V 2073 hV rfl (by decide)) (L' := (tx_L s0 ca t (rt_r s0 tp) vals (nI p2) (-1) k b nx fi pa wo ke (vp_updL nu (nI V).toNatClampNeg (-s2)) le lu)) rfl ?_
      refine rt_weq (w' := (rt_bk w t (tx_L s0 ca t (rt_r s0 tp) vals (nI p2) (-1) k b nx fi pa wo ke (vp_updL nu V (-s2)) le lu))) (by rw [nI_clamp (by omega)]) ?_
      exact rt_vret dX8_parseNumber_262 rfl (⟨rfl, rfl⟩)
  · cases e9
    show rt_Go l s0 G RX8 "parseNumber" cX8_parseNumber 12 (Option.none : Option FieldType) [] d _ _ (52 + 3) [(3, .int 0), (2, .int (nI p)), (0, rt_r s0 t), (1, .int (nI V))] [.int 0] (rt_bk w t (tx_L s0 ca t (rt_r s0 tp) vals (nI p) (-1) k b nx fi pa wo ke nu le lu))
    exact absurd hz hW
set_option maxRecDepth 100000 in
theorem j_num20 {l : Launch} {s0 : State} {a0 : Array Value} {G : va_G} {ca : Nat → ClassId} (Γ : rt_Γ l s0 a0 G ca) {d : Nat} {w : rt_Wd} {t : Nat} {vals : Int32} {k : Nat → Int32} {b : Nat → Int32} {nx : Nat → Int32} {fi : Nat → Int32} {pa : Nat → Int32} {wo : Nat → Int32} {ke : Nat → Int32} {nu : Nat → Int64} {le : Nat → Int32} {lu : Int32} (hd : 2 ≤ d) {tp n : Nat} {f : Nat → Int32} {u : Int32} {g : Nat → Int32} (hT : rt_C s0 ca w tp n f u) (hn : n < 2 ^ 31) (htp : tp + 1 < t ∨ t + 18 ≤ tp) (hg : ∀ p : Nat, p < 65536 → cl_peek n f u (nI p) = g p) (hok : rt_ok w) {p V : Nat} (hp : p < 50000) (hV : V < 2073) (hm : ¬ g p = 45) (hz : jDgt (g (p))) {q : Nat} {i1 : Int32} {s1 : Int64} (hr : jDig g (-9223372036854775807) (if g (p) = 48 then 1 else 4096) (p) 1 0 = (q, i1, s1)) (hi : i1 = 0) : rt_Met l s0 G (.code yX8_parseNumber cX8_parseNumber 12 (Option.none : Option FieldType)) yX8_parseNumber d [rt_r s0 t, .int (nI V)] (rt_bk w t (tx_L s0 ca t (rt_r s0 tp) vals (nI p) (-1) k b nx fi pa wo ke nu le lu)) (fun r w1 => r = .inl none ∧ tx_B s0 ca w t tp p w1) := by
  refine rt_met Γ kk_X8_parseNumber rfl (Nat.le_of_ble_eq_true rfl) rfl ?_
  refine rt_aload_n dX8_parseNumber_0 rfl (j := 0) rfl ?_
  refine rt_bGet Γ kf_RX8_67 dX8_parseNumber_1 (L := (tx_L s0 ca t (rt_r s0 tp) vals (nI p) (-1) k b nx fi pa wo ke nu le lu)) rfl rfl ?_
  refine rt_istore_n (lv' := [(2, .int (nI p)), (0, rt_r s0 t), (1, .int (nI V))]) dX8_parseNumber_4 rfl (by decide) rfl ?_
  refine rt_aload_n dX8_parseNumber_5 rfl (j := 1) rfl ?_
  refine rt_bGet Γ kf_RX8_57 dX8_parseNumber_6 (L := (tx_L s0 ca t (rt_r s0 tp) vals (nI p) (-1) k b nx fi pa wo ke nu le lu)) rfl rfl ?_
  refine rt_aload_n dX8_parseNumber_9 rfl (j := 1) rfl ?_
  refine rt_bGet Γ kf_RX8_67 dX8_parseNumber_10 (L := (tx_L s0 ca t (rt_r s0 tp) vals (nI p) (-1) k b nx fi pa wo ke nu le lu)) rfl rfl ?_
  refine rt_callV Γ kk_X0_peek kc_RX8_86 (c_X0_peek Γ (d := d - 1) (x := (nI p)) (hT.bk htp) hn) (by omega) (by decide) (As := [.int (nI p)]) (show (parseMethodDescriptor yX0_peek.desc).map (fun q => q.parameters.length) = some 1 by decide +kernel) hok (Nat.le_of_ble_eq_true rfl) dX8_parseNumber_13 (hT.bk htp).1 rfl rfl rfl (rt_kr (st2 := [.int (cl_peek n f u (nI p))]) rfl ?_) rt_kx
  refine rt_te (y := g p) (hg p (by omega)) ?_
  refine rt_bipush (v := 45) dX8_parseNumber_16 (by decide) ?_
  refine rt_icmp_ne (tgt := 25) dX8_parseNumber_18 (by decide) (fun _ => ?_) (fun c18 => absurd c18 hm)
  refine rt_iconst (v := 0) dX8_parseNumber_25 (by decide) ?_
  refine rt_istore_n (lv' := [(3, .int 0), (2, .int (nI p)), (0, rt_r s0 t), (1, .int (nI V))]) dX8_parseNumber_26 rfl (by decide) rfl ?_
  refine rt_iload_n dX8_parseNumber_27 rfl (j := 0) rfl ?_
  refine rt_if_eq (tgt := 41) dX8_parseNumber_28 (by decide) (fun _ => ?_) (fun c28 => absurd rfl c28)
  refine rt_aload_n dX8_parseNumber_41 rfl (j := 2) rfl ?_
  refine rt_bGet Γ kf_RX8_57 dX8_parseNumber_42 (L := (tx_L s0 ca t (rt_r s0 tp) vals (nI p) (-1) k b nx fi pa wo ke nu le lu)) rfl rfl ?_
  refine rt_aload_n dX8_parseNumber_45 rfl (j := 2) rfl ?_
  refine rt_bGet Γ kf_RX8_67 dX8_parseNumber_46 (L := (tx_L s0 ca t (rt_r s0 tp) vals (nI p) (-1) k b nx fi pa wo ke nu le lu)) rfl rfl ?_
  refine rt_callV Γ kk_X0_peek kc_RX8_86 (c_X0_peek Γ (d := d - 1) (x := (nI p)) (hT.bk htp) hn) (by omega) (by decide) (As := [.int (nI p)]) (show (parseMethodDescriptor yX0_peek.desc).map (fun q => q.parameters.length) = some 1 by decide +kernel) hok (Nat.le_of_ble_eq_true rfl) dX8_parseNumber_49 (hT.bk htp).1 rfl rfl rfl (rt_kr (st2 := [.int (cl_peek n f u (nI p))]) rfl ?_) rt_kx
  refine rt_te (y := g p) (hg p (by omega)) ?_
  refine rt_callS Γ kk_X8_isDigit kc_RX8_133 (j_dig Γ (d := d - 1) (v := g (p)) (w := (rt_bk w t (tx_L s0 ca t (rt_r s0 tp) vals (nI p) (-1) k b nx fi pa wo ke nu le lu)))) (by omega) (by decide) (As := [.int (g p)]) (show (parseMethodDescriptor yX8_isDigit.desc).map (fun q => q.parameters.length) = some 1 by decide +kernel) hok (Nat.le_of_ble_eq_true rfl) dX8_parseNumber_52 rfl rfl (fun v9 w9 hq => ?_) (fun X w9 hq => hq.2.elim (fun h => nomatch h.1) (fun h => nomatch h.1))
  obtain ⟨rfl, ⟨e9, hW⟩ | ⟨e9, hW⟩⟩ := hq
  · cases e9
    show rt_Go l s0 G RX8 "parseNumber" cX8_parseNumber 12 (Option.none : Option FieldType) [] d _ _ (52 + 3) [(3, .int 0), (2, .int (nI p)), (0, rt_r s0 t), (1, .int (nI V))] [.int 1] (rt_bk w t (tx_L s0 ca t (rt_r s0 tp) vals (nI p) (-1) k b nx fi pa wo ke nu le lu))
    refine rt_if_ne (tgt := 67) dX8_parseNumber_55 (by decide) (fun _ => ?_) (fun c55 => absurd c55 (by decide))
    refine rt_iload_n dX8_parseNumber_67 rfl (j := 0) rfl ?_
    refine rt_if_eq (tgt := 77) dX8_parseNumber_68 (by decide) (fun _ => ?_) (fun c68 => absurd rfl c68)
    refine rt_ldc2 Γ dX8_parseNumber_77 kv_RX8_141 ?_
    refine rt_lstore (lv' := [(4, .long (-9223372036854775807)), (3, .int 0), (2, .int (nI p)), (0, rt_r s0 t), (1, .int (nI V))]) dX8_parseNumber_80 (by decide) rfl ?_
    refine rt_iconst (v := 1) dX8_parseNumber_82 (by decide) ?_
    refine rt_istore (lv' := [(6, .int 1), (4, .long (-9223372036854775807)), (3, .int 0), (2, .int (nI p)), (0, rt_r s0 t), (1, .int (nI V))]) dX8_parseNumber_83 (by decide) rfl ?_
    refine rt_lconst (v := 0) dX8_parseNumber_85 (by decide) ?_
    refine rt_lstore (lv' := [(7, .long 0), (6, .int 1), (4, .long (-9223372036854775807)), (3, .int 0), (2, .int (nI p)), (0, rt_r s0 t), (1, .int (nI V))]) dX8_parseNumber_86 (by decide) rfl ?_
    refine rt_aload_n dX8_parseNumber_88 rfl (j := 5) rfl ?_
    refine rt_bGet Γ kf_RX8_57 dX8_parseNumber_89 (L := (tx_L s0 ca t (rt_r s0 tp) vals (nI p) (-1) k b nx fi pa wo ke nu le lu)) rfl rfl ?_
    refine rt_aload_n dX8_parseNumber_92 rfl (j := 5) rfl ?_
    refine rt_bGet Γ kf_RX8_67 dX8_parseNumber_93 (L := (tx_L s0 ca t (rt_r s0 tp) vals (nI p) (-1) k b nx fi pa wo ke nu le lu)) rfl rfl ?_
    refine rt_callV Γ kk_X0_peek kc_RX8_86 (c_X0_peek Γ (d := d - 1) (x := (nI p)) (hT.bk htp) hn) (by omega) (by decide) (As := [.int (nI p)]) (show (parseMethodDescriptor yX0_peek.desc).map (fun q => q.parameters.length) = some 1 by decide +kernel) hok (Nat.le_of_ble_eq_true rfl) dX8_parseNumber_96 (hT.bk htp).1 rfl rfl rfl (rt_kr (st2 := [.int (cl_peek n f u (nI p))]) rfl ?_) rt_kx
    refine rt_te (y := g p) (hg p (by omega)) ?_
    refine rt_bipush (v := 48) dX8_parseNumber_99 (by decide) ?_
    refine rt_icmp_ne (tgt := 108) dX8_parseNumber_101 (by decide) (fun c101 => ?_) (fun c101 => ?_)
    · refine rt_sipush (v := 4096) dX8_parseNumber_108 (by decide) ?_
      refine rt_istore (lv' := [(9, .int 4096), (7, .long 0), (6, .int 1), (4, .long (-9223372036854775807)), (3, .int 0), (2, .int (nI p)), (0, rt_r s0 t), (1, .int (nI V))]) dX8_parseNumber_111 (by decide) rfl ?_
      refine rt_iconst (v := 0) dX8_parseNumber_113 (by decide) ?_
      refine rt_istore (lv' := [(10, .int 0), (9, .int 4096), (7, .long 0), (6, .int 1), (4, .long (-9223372036854775807)), (3, .int 0), (2, .int (nI p)), (0, rt_r s0 t), (1, .int (nI V))]) dX8_parseNumber_114 (by decide) rfl ?_
      have hr1 : jDig g (-9223372036854775807) 4096 (p) 1 0 = (q, i1, s1) := by rw [← hr, if_neg c101]
      refine rt_lfew [0, 1, 2, 3, 4, 5, 6, 8, 7] rfl (j_numL Γ (by decide) (by omega) hT hn htp hg hok 4096 0 (p) 1 0 rfl (by omega) (fun p2 i2 s2 h2 => ?_))
      obtain ⟨rfl, rfl, rfl⟩ : p2 = q ∧ i2 = i1 ∧ s2 = s1 := by have h3 := h2.symm.trans hr1; exact ⟨congrArg (fun x => x.1) h3, congrArg (fun x => x.2.1) h3, congrArg (fun x => x.2.2) h3⟩
      refine rt_iload dX8_parseNumber_221 (j := 1) rfl ?_
      refine rt_if_ne (tgt := 231) dX8_parseNumber_223 (by decide) (fun c223 => absurd c223 (fun h => h hi)) (fun _ => ?_)
      refine rt_aload_n dX8_parseNumber_226 rfl (j := 5) rfl ?_
      refine rt_iload_n dX8_parseNumber_227 rfl (j := 3) rfl ?_
      refine rt_callV Γ kk_X8_fail kc_RX8_83 (c_X8_fail0 Γ (d := d - 1)) (by omega) (by decide) (As := [.int (nI p)]) (show (parseMethodDescriptor yX8_fail.desc).map (fun q => q.parameters.length) = some 1 by decide +kernel) hok (Nat.le_of_ble_eq_true rfl) dX8_parseNumber_228 ((rt_bk_0 w t (tx_L s0 ca t (rt_r s0 tp) vals (nI p2) (-1) k b nx fi pa wo ke nu le lu) (Nat.le_of_ble_eq_true rfl)).trans rfl) rfl rfl rfl (rt_kr (st2 := []) rfl ?_) rt_kx
      refine rt_iload_n dX8_parseNumber_231 rfl (j := 4) rfl ?_
      refine rt_if_lt (tgt := 262) dX8_parseNumber_232 (by decide) (fun c232 => absurd c232 (nI_pos (by omega))) (fun _ => ?_)
      refine rt_iload_n dX8_parseNumber_235 rfl (j := 4) rfl ?_
      refine rt_aload_n dX8_parseNumber_236 rfl (j := 5) rfl ?_
      refine rt_bGet Γ kf_RX8_38 dX8_parseNumber_237 (L := (tx_L s0 ca t (rt_r s0 tp) vals (nI p2) (nI p) k b nx fi pa wo ke nu le lu)) rfl rfl ?_
      refine rt_alen Γ dX8_parseNumber_240 (t := 2) rfl (rt_bk_at w t (tx_L s0 ca t (rt_r s0 tp) vals (nI p2) (nI p) k b nx fi pa wo ke nu le lu) 15 (Nat.le_of_ble_eq_true rfl)) (v := nI 2073) rfl ?_
      refine rt_icmp_ge (tgt := 262) dX8_parseNumber_241 (by decide) (fun c241 => absurd c241 (nI_ge hV (by decide))) (fun _ => ?_)
      refine rt_aload_n dX8_parseNumber_244 rfl (j := 5) rfl ?_
      refine rt_bGet Γ kf_RX8_38 dX8_parseNumber_245 (L := (tx_L s0 ca t (rt_r s0 tp) vals (nI p2) (nI p) k b nx fi pa wo ke nu le lu)) rfl rfl ?_
      refine rt_iload_n dX8_parseNumber_248 rfl (j := 4) rfl ?_
      refine rt_iload_n dX8_parseNumber_249 rfl (j := 2) rfl ?_
      refine rt_if_eq (tgt := 258) dX8_parseNumber_250 (by decide) (fun _ => ?_) (fun c250 => absurd rfl c250)
      refine rt_lload dX8_parseNumber_258 (j := 0) rfl ?_
      refine rt_lneg dX8_parseNumber_260 ?_
      refine rt_bLast Γ dX8_parseNumber_261 (m := 15) (L := (tx_L s0 ca t (rt_r s0 tp) vals (nI p2) (nI p) k b nx fi pa wo ke nu le lu)) rfl (pk_in V 2073 hV rfl (by decide)) (L' := (tx_L s0 ca t (rt_r s0 tp) vals (nI p2) (nI p) k b nx fi pa wo ke (vp_updL nu (nI V).toNatClampNeg (-s2)) le lu)) rfl ?_
      exact rt_vret dX8_parseNumber_262 rfl (⟨rfl, _, _, _, _, _, _, _, _, _, _, _, _, rfl⟩)
    · refine rt_iconst (v := 1) dX8_parseNumber_104 (by decide) ?_
      refine rt_goto (tgt := 111) dX8_parseNumber_105 (by decide) ?_
      refine rt_istore (lv' := [(9, .int 1), (7, .long 0), (6, .int 1), (4, .long (-9223372036854775807)), (3, .int 0), (2, .int (nI p)), (0, rt_r s0 t), (1, .int (nI V))]) dX8_parseNumber_111 (by decide) rfl ?_
      refine rt_iconst (v := 0) dX8_parseNumber_113 (by decide) ?_
      refine rt_istore (lv' := [(10, .int 0), (9, .int 1), (7, .long 0), (6, .int 1), (4, .long (-9223372036854775807)), (3, .int 0), (2, .int (nI p)), (0, rt_r s0 t), (1, .int (nI V))]) dX8_parseNumber_114 (by decide) rfl ?_
      have hr1 : jDig g (-9223372036854775807) 1 (p) 1 0 = (q, i1, s1) := by rw [← hr, if_pos c101]
      refine rt_lfew [0, 1, 2, 3, 4, 5, 6, 8, 7] rfl (j_numL Γ (by decide) (by omega) hT hn htp hg hok 1 0 (p) 1 0 rfl (by omega) (fun p2 i2 s2 h2 => ?_))
      obtain ⟨rfl, rfl, rfl⟩ : p2 = q ∧ i2 = i1 ∧ s2 = s1 := by have h3 := h2.symm.trans hr1; exact ⟨congrArg (fun x => x.1) h3, congrArg (fun x => x.2.1) h3, congrArg (fun x => x.2.2) h3⟩
      refine rt_iload dX8_parseNumber_221 (j := 1) rfl ?_
      refine rt_if_ne (tgt := 231) dX8_parseNumber_223 (by decide) (fun c223 => absurd c223 (fun h => h hi)) (fun _ => ?_)
      refine rt_aload_n dX8_parseNumber_226 rfl (j := 5) rfl ?_
      refine rt_iload_n dX8_parseNumber_227 rfl (j := 3) rfl ?_
      refine rt_callV Γ kk_X8_fail kc_RX8_83 (c_X8_fail0 Γ (d := d - 1)) (by omega) (by decide) (As := [.int (nI p)]) (show (parseMethodDescriptor yX8_fail.desc).map (fun q => q.parameters.length) = some 1 by decide +kernel) hok (Nat.le_of_ble_eq_true rfl) dX8_parseNumber_228 ((rt_bk_0 w t (tx_L s0 ca t (rt_r s0 tp) vals (nI p2) (-1) k b nx fi pa wo ke nu le lu) (Nat.le_of_ble_eq_true rfl)).trans rfl) rfl rfl rfl (rt_kr (st2 := []) rfl ?_) rt_kx
      refine rt_iload_n dX8_parseNumber_231 rfl (j := 4) rfl ?_
      refine rt_if_lt (tgt := 262) dX8_parseNumber_232 (by decide) (fun c232 => absurd c232 (nI_pos (by omega))) (fun _ => ?_)
      refine rt_iload_n dX8_parseNumber_235 rfl (j := 4) rfl ?_
      refine rt_aload_n dX8_parseNumber_236 rfl (j := 5) rfl ?_
      refine rt_bGet Γ kf_RX8_38 dX8_parseNumber_237 (L := (tx_L s0 ca t (rt_r s0 tp) vals (nI p2) (nI p) k b nx fi pa wo ke nu le lu)) rfl rfl ?_
      refine rt_alen Γ dX8_parseNumber_240 (t := 2) rfl (rt_bk_at w t (tx_L s0 ca t (rt_r s0 tp) vals (nI p2) (nI p) k b nx fi pa wo ke nu le lu) 15 (Nat.le_of_ble_eq_true rfl)) (v := nI 2073) rfl ?_
      refine rt_icmp_ge (tgt := 262) dX8_parseNumber_241 (by decide) (fun c241 => absurd c241 (nI_ge hV (by decide))) (fun _ => ?_)
      refine rt_aload_n dX8_parseNumber_244 rfl (j := 5) rfl ?_
      refine rt_bGet Γ kf_RX8_38 dX8_parseNumber_245 (L := (tx_L s0 ca t (rt_r s0 tp) vals (nI p2) (nI p) k b nx fi pa wo ke nu le lu)) rfl rfl ?_
      refine rt_iload_n dX8_parseNumber_248 rfl (j := 4) rfl ?_
      refine rt_iload_n dX8_parseNumber_249 rfl (j := 2) rfl ?_
      refine rt_if_eq (tgt := 258) dX8_parseNumber_250 (by decide) (fun _ => ?_) (fun c250 => absurd rfl c250)
      refine rt_lload dX8_parseNumber_258 (j := 0) rfl ?_
      refine rt_lneg dX8_parseNumber_260 ?_
      refine rt_bLast Γ dX8_parseNumber_261 (m := 15) (L := (tx_L s0 ca t (rt_r s0 tp) vals (nI p2) (nI p) k b nx fi pa wo ke nu le lu)) rfl (pk_in V 2073 hV rfl (by decide)) (L' := (tx_L s0 ca t (rt_r s0 tp) vals (nI p2) (nI p) k b nx fi pa wo ke (vp_updL nu (nI V).toNatClampNeg (-s2)) le lu)) rfl ?_
      exact rt_vret dX8_parseNumber_262 rfl (⟨rfl, _, _, _, _, _, _, _, _, _, _, _, _, rfl⟩)
  · cases e9
    show rt_Go l s0 G RX8 "parseNumber" cX8_parseNumber 12 (Option.none : Option FieldType) [] d _ _ (52 + 3) [(3, .int 0), (2, .int (nI p)), (0, rt_r s0 t), (1, .int (nI V))] [.int 0] (rt_bk w t (tx_L s0 ca t (rt_r s0 tp) vals (nI p) (-1) k b nx fi pa wo ke nu le lu))
    exact absurd hz hW
