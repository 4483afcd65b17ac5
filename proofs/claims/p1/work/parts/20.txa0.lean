/-! ===== the class's Text in its block; an empty tape ===== -/
def tx_L (s0 : State) (ca : Nat → ClassId) (t : Nat) (tape : Value) (vals pos wrong : Int32) (k b nx fi pa wo ke : Nat → Int32) (nu : Nat → Int64) (le : Nat → Int32) (lu : Int32) : List va_E :=
  [.inr (8, [rt_r s0 (t + 1), rt_r s0 (t + 3), rt_r s0 (t + 5), rt_r s0 (t + 7), rt_r s0 (t + 9), rt_r s0 (t + 11), rt_r s0 (t + 13), rt_r s0 (t + 15), rt_r s0 (t + 16), tape, .int vals, .int pos, .int wrong]), .inr (0, [rt_r s0 (t + 1 + 1), .int 0]), .inl (ca 0, 2073, .inl k), .inr (0, [rt_r s0 (t + 3 + 1), .int 0]), .inl (ca 0, 2073, .inl b), .inr (0, [rt_r s0 (t + 5 + 1), .int 0]), .inl (ca 0, 2073, .inl nx), .inr (0, [rt_r s0 (t + 7 + 1), .int 0]), .inl (ca 0, 2073, .inl fi), .inr (0, [rt_r s0 (t + 9 + 1), .int 0]), .inl (ca 0, 2073, .inl pa), .inr (0, [rt_r s0 (t + 11 + 1), .int 0]), .inl (ca 0, 2073, .inl wo), .inr (0, [rt_r s0 (t + 13 + 1), .int 0]), .inl (ca 0, 2073, .inl ke), .inl (ca 2, 2073, .inr (.inl nu)), .inr (0, [rt_r s0 (t + 16 + 1), .int lu]), .inl (ca 0, 4096, .inl le)]
theorem cl_peek0 (n : Nat) (f : Nat → Int32) (x : Int32) : cl_peek n f 0 x = -1 := by
  unfold cl_peek
  by_cases h : x < 0
  · rw [if_pos h]
  · rw [if_neg h, if_pos (Int32.not_lt.mp h)]
set_option maxRecDepth 100000 in
theorem c_X8_fail0 {l : Launch} {s0 : State} {a0 : Array Value} {G : va_G} {ca : Nat → ClassId} (Γ : rt_Γ l s0 a0 G ca) {d : Nat} {w : rt_Wd} {t : Nat} {tape : Value} {vals : Int32} {pos : Int32} {k : Nat → Int32} {b : Nat → Int32} {nx : Nat → Int32} {fi : Nat → Int32} {pa : Nat → Int32} {wo : Nat → Int32} {ke : Nat → Int32} {nu : Nat → Int64} {le : Nat → Int32} {lu : Int32} {v : Int32} : rt_Met l s0 G (.code yX8_fail cX8_fail 2 (Option.none : Option FieldType)) yX8_fail d [rt_r s0 t, .int v] (rt_bk w t (tx_L s0 ca t tape vals pos (-1) k b nx fi pa wo ke nu le lu)) (rt_is (.inl none) (rt_bk w t (tx_L s0 ca t tape vals pos v k b nx fi pa wo ke nu le lu))) := by
  refine rt_met Γ kk_X8_fail rfl (Nat.le_of_ble_eq_true rfl) rfl ?_
  refine rt_aload_n dX8_fail_0 rfl (j := 0) rfl ?_
  refine rt_bGet Γ kf_RX8_70 dX8_fail_1 (L := (tx_L s0 ca t tape vals pos (-1) k b nx fi pa wo ke nu le lu)) rfl rfl ?_
  refine rt_iconst (v := (-1)) dX8_fail_4 (by decide) ?_
  refine rt_icmp_ne (tgt := 13) dX8_fail_5 (by decide) (fun c5 => absurd c5 (fun h => h rfl)) (fun _ => ?_)
  refine rt_aload_n dX8_fail_8 rfl (j := 0) rfl ?_
  refine rt_iload_n dX8_fail_9 rfl (j := 1) rfl ?_
  refine rt_bPut Γ kp_RX8_70 dX8_fail_10 (L := (tx_L s0 ca t tape vals pos (-1) k b nx fi pa wo ke nu le lu)) rfl (Nat.le_of_ble_eq_true rfl) rfl rfl (L' := (tx_L s0 ca t tape vals pos v k b nx fi pa wo ke nu le lu)) rfl ?_
  exact rt_vret dX8_fail_13 rfl (⟨rfl, rfl⟩)
set_option maxRecDepth 100000 in
theorem c_X8_fail1 {l : Launch} {s0 : State} {a0 : Array Value} {G : va_G} {ca : Nat → ClassId} (Γ : rt_Γ l s0 a0 G ca) {d : Nat} {w : rt_Wd} {t : Nat} {tape : Value} {vals : Int32} {pos : Int32} {wrong : Int32} {k : Nat → Int32} {b : Nat → Int32} {nx : Nat → Int32} {fi : Nat → Int32} {pa : Nat → Int32} {wo : Nat → Int32} {ke : Nat → Int32} {nu : Nat → Int64} {le : Nat → Int32} {lu : Int32} {v : Int32} (hw : ¬ wrong = -1) : rt_Met l s0 G (.code yX8_fail cX8_fail 2 (Option.none : Option FieldType)) yX8_fail d [rt_r s0 t, .int v] (rt_bk w t (tx_L s0 ca t tape vals pos wrong k b nx fi pa wo ke nu le lu)) (rt_is (.inl none) (rt_bk w t (tx_L s0 ca t tape vals pos wrong k b nx fi pa wo ke nu le lu))) := by
  refine rt_met Γ kk_X8_fail rfl (Nat.le_of_ble_eq_true rfl) rfl ?_
  refine rt_aload_n dX8_fail_0 rfl (j := 0) rfl ?_
  refine rt_bGet Γ kf_RX8_70 dX8_fail_1 (L := (tx_L s0 ca t tape vals pos wrong k b nx fi pa wo ke nu le lu)) rfl rfl ?_
  refine rt_iconst (v := (-1)) dX8_fail_4 (by decide) ?_
  refine rt_icmp_ne (tgt := 13) dX8_fail_5 (by decide) (fun _ => ?_) (fun c5 => absurd c5 hw)
  exact rt_vret dX8_fail_13 rfl (⟨rfl, rfl⟩)
set_option maxRecDepth 100000 in
theorem c_X8_isDigitT {l : Launch} {s0 : State} {a0 : Array Value} {G : va_G} {ca : Nat → ClassId} (Γ : rt_Γ l s0 a0 G ca) {d : Nat} {w : rt_Wd} {v : Int32} (h0 : v < 48) : rt_Met l s0 G (.code yX8_isDigit cX8_isDigit 1 (Option.some FieldType.boolean)) yX8_isDigit d [.int v] w (rt_is (.inl (some (.int 0))) w) := by
  refine rt_met Γ kk_X8_isDigit rfl (Nat.le_of_ble_eq_true rfl) rfl ?_
  refine rt_iload_n dX8_isDigit_0 rfl (j := 0) rfl ?_
  refine rt_bipush (v := 48) dX8_isDigit_1 (by decide) ?_
  refine rt_icmp_lt (tgt := 16) dX8_isDigit_3 (by decide) (fun _ => ?_) (fun c3 => absurd h0 c3)
  refine rt_iconst (v := 0) dX8_isDigit_16 (by decide) ?_
  exact rt_zret dX8_isDigit_17 rfl rfl (⟨rfl, rfl⟩)
set_option maxRecDepth 100000 in
theorem c_X8_isDigitU {l : Launch} {s0 : State} {a0 : Array Value} {G : va_G} {ca : Nat → ClassId} (Γ : rt_Γ l s0 a0 G ca) {d : Nat} {w : rt_Wd} {v : Int32} (h0 : ¬ v < 48) (h1 : 57 < v) : rt_Met l s0 G (.code yX8_isDigit cX8_isDigit 1 (Option.some FieldType.boolean)) yX8_isDigit d [.int v] w (rt_is (.inl (some (.int 0))) w) := by
  refine rt_met Γ kk_X8_isDigit rfl (Nat.le_of_ble_eq_true rfl) rfl ?_
  refine rt_iload_n dX8_isDigit_0 rfl (j := 0) rfl ?_
  refine rt_bipush (v := 48) dX8_isDigit_1 (by decide) ?_
  refine rt_icmp_lt (tgt := 16) dX8_isDigit_3 (by decide) (fun c3 => absurd c3 h0) (fun _ => ?_)
  refine rt_iload_n dX8_isDigit_6 rfl (j := 0) rfl ?_
  refine rt_bipush (v := 57) dX8_isDigit_7 (by decide) ?_
  refine rt_icmp_gt (tgt := 16) dX8_isDigit_9 (by decide) (fun _ => ?_) (fun c9 => absurd h1 c9)
  refine rt_iconst (v := 0) dX8_isDigit_16 (by decide) ?_
  exact rt_zret dX8_isDigit_17 rfl rfl (⟨rfl, rfl⟩)
set_option maxRecDepth 100000 in
theorem c_X8_isDigit {l : Launch} {s0 : State} {a0 : Array Value} {G : va_G} {ca : Nat → ClassId} (Γ : rt_Γ l s0 a0 G ca) {d : Nat} {w : rt_Wd} {v : Int32} (h0 : ¬ v < 48) (h1 : ¬ 57 < v) : rt_Met l s0 G (.code yX8_isDigit cX8_isDigit 1 (Option.some FieldType.boolean)) yX8_isDigit d [.int v] w (rt_is (.inl (some (.int 1))) w) := by
  refine rt_met Γ kk_X8_isDigit rfl (Nat.le_of_ble_eq_true rfl) rfl ?_
  refine rt_iload_n dX8_isDigit_0 rfl (j := 0) rfl ?_
  refine rt_bipush (v := 48) dX8_isDigit_1 (by decide) ?_
  refine rt_icmp_lt (tgt := 16) dX8_isDigit_3 (by decide) (fun c3 => absurd c3 h0) (fun _ => ?_)
  refine rt_iload_n dX8_isDigit_6 rfl (j := 0) rfl ?_
  refine rt_bipush (v := 57) dX8_isDigit_7 (by decide) ?_
  refine rt_icmp_gt (tgt := 16) dX8_isDigit_9 (by decide) (fun c9 => absurd c9 h1) (fun _ => ?_)
  refine rt_iconst (v := 1) dX8_isDigit_12 (by decide) ?_
  refine rt_goto (tgt := 17) dX8_isDigit_13 (by decide) ?_
  exact rt_zret dX8_isDigit_17 rfl rfl (⟨rfl, rfl⟩)
set_option maxRecDepth 100000 in
theorem c_X8_skipBlanks0 {l : Launch} {s0 : State} {a0 : Array Value} {G : va_G} {ca : Nat → ClassId} (Γ : rt_Γ l s0 a0 G ca) {d : Nat} {w : rt_Wd} {t : Nat} {vals : Int32} {pos : Int32} {wrong : Int32} {k : Nat → Int32} {b : Nat → Int32} {nx : Nat → Int32} {fi : Nat → Int32} {pa : Nat → Int32} {wo : Nat → Int32} {ke : Nat → Int32} {nu : Nat → Int64} {le : Nat → Int32} {lu : Int32} (hd : 1 ≤ d) {tp n : Nat} {f : Nat → Int32} {u : Int32} (hT : rt_C s0 ca w tp n f u) (hn : n < 2 ^ 31) (htp : tp + 1 < t ∨ t + 18 ≤ tp) {bb : Int32} (hb : cl_peek n f u pos = bb) (hok : rt_ok w) (h1 : ¬ bb = 9) (h2 : ¬ bb = 10) (h3 : ¬ bb = 13) (h4 : ¬ bb = 32) : rt_Met l s0 G (.code yX8_skipBlanks cX8_skipBlanks 3 (Option.none : Option FieldType)) yX8_skipBlanks d [rt_r s0 t] (rt_bk w t (tx_L s0 ca t (rt_r s0 tp) vals pos wrong k b nx fi pa wo ke nu le lu)) (rt_is (.inl none) (rt_bk w t (tx_L s0 ca t (rt_r s0 tp) vals pos wrong k b nx fi pa wo ke nu le lu))) := by
  refine rt_met Γ kk_X8_skipBlanks rfl (Nat.le_of_ble_eq_true rfl) rfl ?_
  refine rt_iconst (v := 0) dX8_skipBlanks_0 (by decide) ?_
  refine rt_istore_n (lv' := [(1, .int 0), (0, rt_r s0 t)]) dX8_skipBlanks_1 rfl (by decide) rfl ?_
  refine rt_iload_n dX8_skipBlanks_2 rfl (j := 0) rfl ?_
  refine rt_sipush (v := 4096) dX8_skipBlanks_3 (by decide) ?_
  refine rt_icmp_ge (tgt := 62) dX8_skipBlanks_6 (by decide) (fun c6 => absurd c6 (by decide)) (fun _ => ?_)
  refine rt_aload_n dX8_skipBlanks_9 rfl (j := 1) rfl ?_
  refine rt_bGet Γ kf_RX8_57 dX8_skipBlanks_10 (L := (tx_L s0 ca t (rt_r s0 tp) vals pos wrong k b nx fi pa wo ke nu le lu)) rfl rfl ?_
  refine rt_aload_n dX8_skipBlanks_13 rfl (j := 1) rfl ?_
  refine rt_bGet Γ kf_RX8_67 dX8_skipBlanks_14 (L := (tx_L s0 ca t (rt_r s0 tp) vals pos wrong k b nx fi pa wo ke nu le lu)) rfl rfl ?_
  refine rt_callV Γ kk_X0_peek kc_RX8_86 (c_X0_peek Γ (d := d - 1) (hT.bk htp) hn) (by omega) (by decide) (As := [.int pos]) (show (parseMethodDescriptor yX0_peek.desc).map (fun q => q.parameters.length) = some 1 by decide +kernel) hok (Nat.le_of_ble_eq_true rfl) dX8_skipBlanks_17 (hT.bk htp).1 rfl rfl rfl (rt_kr (st2 := [.int (cl_peek n f u pos)]) rfl ?_) rt_kx
  rw [hb]
  refine rt_istore_n (lv' := [(2, .int bb), (1, .int 0), (0, rt_r s0 t)]) dX8_skipBlanks_20 rfl (by decide) rfl ?_
  refine rt_iload_n dX8_skipBlanks_21 rfl (j := 0) rfl ?_
  refine rt_bipush (v := 9) dX8_skipBlanks_22 (by decide) ?_
  refine rt_icmp_eq (tgt := 46) dX8_skipBlanks_24 (by decide) (fun c24 => absurd c24 h1) (fun _ => ?_)
  refine rt_iload_n dX8_skipBlanks_27 rfl (j := 0) rfl ?_
  refine rt_bipush (v := 10) dX8_skipBlanks_28 (by decide) ?_
  refine rt_icmp_eq (tgt := 46) dX8_skipBlanks_30 (by decide) (fun c30 => absurd c30 h2) (fun _ => ?_)
  refine rt_iload_n dX8_skipBlanks_33 rfl (j := 0) rfl ?_
  refine rt_bipush (v := 13) dX8_skipBlanks_34 (by decide) ?_
  refine rt_icmp_eq (tgt := 46) dX8_skipBlanks_36 (by decide) (fun c36 => absurd c36 h3) (fun _ => ?_)
  refine rt_iload_n dX8_skipBlanks_39 rfl (j := 0) rfl ?_
  refine rt_bipush (v := 32) dX8_skipBlanks_40 (by decide) ?_
  refine rt_icmp_eq (tgt := 46) dX8_skipBlanks_42 (by decide) (fun c42 => absurd c42 h4) (fun _ => ?_)
  exact rt_vret dX8_skipBlanks_45 rfl (⟨rfl, rfl⟩)
set_option maxRecDepth 100000 in
theorem c_X8_parseNumber0 {l : Launch} {s0 : State} {a0 : Array Value} {G : va_G} {ca : Nat → ClassId} (Γ : rt_Γ l s0 a0 G ca) {d : Nat} {w : rt_Wd} {t : Nat} {vals : Int32} {pos : Int32} {k : Nat → Int32} {b : Nat → Int32} {nx : Nat → Int32} {fi : Nat → Int32} {pa : Nat → Int32} {wo : Nat → Int32} {ke : Nat → Int32} {nu : Nat → Int64} {le : Nat → Int32} {lu : Int32} (hd : 1 ≤ d) {tp n : Nat} {f : Nat → Int32} {u : Int32} (hT : rt_C s0 ca w tp n f u) (hn : n < 2 ^ 31) (htp : tp + 1 < t ∨ t + 18 ≤ tp) {bb : Int32} (hb : cl_peek n f u pos = bb) {v : Int32} (hok : rt_ok w) (h1 : ¬ bb = 45) (h2 : bb < 48) : rt_Met l s0 G (.code yX8_parseNumber cX8_parseNumber 12 (Option.none : Option FieldType)) yX8_parseNumber d [rt_r s0 t, .int v] (rt_bk w t (tx_L s0 ca t (rt_r s0 tp) vals pos (-1) k b nx fi pa wo ke nu le lu)) (rt_is (.inl none) (rt_bk w t (tx_L s0 ca t (rt_r s0 tp) vals pos pos k b nx fi pa wo ke nu le lu))) := by
  refine rt_met Γ kk_X8_parseNumber rfl (Nat.le_of_ble_eq_true rfl) rfl ?_
  refine rt_aload_n dX8_parseNumber_0 rfl (j := 0) rfl ?_
  refine rt_bGet Γ kf_RX8_67 dX8_parseNumber_1 (L := (tx_L s0 ca t (rt_r s0 tp) vals pos (-1) k b nx fi pa wo ke nu le lu)) rfl rfl ?_
  refine rt_istore_n (lv' := [(2, .int pos), (0, rt_r s0 t), (1, .int v)]) dX8_parseNumber_4 rfl (by decide) rfl ?_
  refine rt_aload_n dX8_parseNumber_5 rfl (j := 1) rfl ?_
  refine rt_bGet Γ kf_RX8_57 dX8_parseNumber_6 (L := (tx_L s0 ca t (rt_r s0 tp) vals pos (-1) k b nx fi pa wo ke nu le lu)) rfl rfl ?_
  refine rt_aload_n dX8_parseNumber_9 rfl (j := 1) rfl ?_
  refine rt_bGet Γ kf_RX8_67 dX8_parseNumber_10 (L := (tx_L s0 ca t (rt_r s0 tp) vals pos (-1) k b nx fi pa wo ke nu le lu)) rfl rfl ?_
  refine rt_callV Γ kk_X0_peek kc_RX8_86 (c_X0_peek Γ (d := d - 1) (hT.bk htp) hn) (by omega) (by decide) (As := [.int pos]) (show (parseMethodDescriptor yX0_peek.desc).map (fun q => q.parameters.length) = some 1 by decide +kernel) hok (Nat.le_of_ble_eq_true rfl) dX8_parseNumber_13 (hT.bk htp).1 rfl rfl rfl (rt_kr (st2 := [.int (cl_peek n f u pos)]) rfl ?_) rt_kx
  rw [hb]
  refine rt_bipush (v := 45) dX8_parseNumber_16 (by decide) ?_
  refine rt_icmp_ne (tgt := 25) dX8_parseNumber_18 (by decide) (fun _ => ?_) (fun c18 => absurd c18 h1)
  refine rt_iconst (v := 0) dX8_parseNumber_25 (by decide) ?_
  refine rt_istore_n (lv' := [(3, .int 0), (2, .int pos), (0, rt_r s0 t), (1, .int v)]) dX8_parseNumber_26 rfl (by decide) rfl ?_
  refine rt_iload_n dX8_parseNumber_27 rfl (j := 0) rfl ?_
  refine rt_if_eq (tgt := 41) dX8_parseNumber_28 (by decide) (fun _ => ?_) (fun c28 => absurd rfl c28)
  refine rt_aload_n dX8_parseNumber_41 rfl (j := 2) rfl ?_
  refine rt_bGet Γ kf_RX8_57 dX8_parseNumber_42 (L := (tx_L s0 ca t (rt_r s0 tp) vals pos (-1) k b nx fi pa wo ke nu le lu)) rfl rfl ?_
  refine rt_aload_n dX8_parseNumber_45 rfl (j := 2) rfl ?_
  refine rt_bGet Γ kf_RX8_67 dX8_parseNumber_46 (L := (tx_L s0 ca t (rt_r s0 tp) vals pos (-1) k b nx fi pa wo ke nu le lu)) rfl rfl ?_
  refine rt_callV Γ kk_X0_peek kc_RX8_86 (c_X0_peek Γ (d := d - 1) (hT.bk htp) hn) (by omega) (by decide) (As := [.int pos]) (show (parseMethodDescriptor yX0_peek.desc).map (fun q => q.parameters.length) = some 1 by decide +kernel) hok (Nat.le_of_ble_eq_true rfl) dX8_parseNumber_49 (hT.bk htp).1 rfl rfl rfl (rt_kr (st2 := [.int (cl_peek n f u pos)]) rfl ?_) rt_kx
  rw [hb]
  refine rt_callS Γ kk_X8_isDigit kc_RX8_133 (c_X8_isDigitT Γ (d := d - 1) h2) (by omega) (by decide) (As := [.int bb]) (show (parseMethodDescriptor yX8_isDigit.desc).map (fun q => q.parameters.length) = some 1 by decide +kernel) hok (Nat.le_of_ble_eq_true rfl) dX8_parseNumber_52 rfl rfl (rt_kr (st2 := [.int 0]) rfl ?_) rt_kx
  refine rt_if_ne (tgt := 67) dX8_parseNumber_55 (by decide) (fun c55 => absurd c55 (fun h => h rfl)) (fun _ => ?_)
  refine rt_aload_n dX8_parseNumber_58 rfl (j := 2) rfl ?_
  refine rt_aload_n dX8_parseNumber_59 rfl (j := 2) rfl ?_
  refine rt_bGet Γ kf_RX8_67 dX8_parseNumber_60 (L := (tx_L s0 ca t (rt_r s0 tp) vals pos (-1) k b nx fi pa wo ke nu le lu)) rfl rfl ?_
  refine rt_callV Γ kk_X8_fail kc_RX8_83 (c_X8_fail0 Γ (d := d - 1)) (by omega) (by decide) (As := [.int pos]) (show (parseMethodDescriptor yX8_fail.desc).map (fun q => q.parameters.length) = some 1 by decide +kernel) hok (Nat.le_of_ble_eq_true rfl) dX8_parseNumber_63 ((rt_bk_0 w t (tx_L s0 ca t (rt_r s0 tp) vals pos (-1) k b nx fi pa wo ke nu le lu) (Nat.le_of_ble_eq_true rfl)).trans rfl) rfl rfl rfl (rt_kr (st2 := []) rfl ?_) rt_kx
  exact rt_vret dX8_parseNumber_66 rfl (⟨rfl, rfl⟩)
set_option maxRecDepth 100000 in
theorem c_X8_parseValue0 {l : Launch} {s0 : State} {a0 : Array Value} {G : va_G} {ca : Nat → ClassId} (Γ : rt_Γ l s0 a0 G ca) {d : Nat} {w : rt_Wd} {t : Nat} {k : Nat → Int32} {b : Nat → Int32} {nx : Nat → Int32} {fi : Nat → Int32} {pa : Nat → Int32} {wo : Nat → Int32} {ke : Nat → Int32} {nu : Nat → Int64} {le : Nat → Int32} (hd : 2 ≤ d) {tp n : Nat} {f : Nat → Int32} {u : Int32} (hT : rt_C s0 ca w tp n f u) (hn : n < 2 ^ 31) (htp : tp + 1 < t ∨ t + 18 ≤ tp) {v : Int32} (hb : cl_peek n f u 0 = -1) (hok : rt_ok w) : rt_Met l s0 G (.code yX8_parseValue cX8_parseValue 4 (Option.some FieldType.int)) yX8_parseValue d [rt_r s0 t, .int v] (rt_bk w t (tx_L s0 ca t (rt_r s0 tp) 0 0 (-1) k b nx fi pa wo ke nu le 0)) (rt_is (.inl (some (.int 0))) (rt_bk w t (tx_L s0 ca t (rt_r s0 tp) 1 0 0 (cl_put 2073 k 0 4) (cl_put 2073 b 0 0) (cl_put 2073 nx 0 (-1)) (cl_put 2073 fi 0 (-1)) (cl_put 2073 pa 0 0) wo ke nu le 0))) := by
  refine rt_met Γ kk_X8_parseValue rfl (Nat.le_of_ble_eq_true rfl) rfl ?_
  refine rt_aload_n dX8_parseValue_0 rfl (j := 0) rfl ?_
  refine rt_bGet Γ kf_RX8_63 dX8_parseValue_1 (L := (tx_L s0 ca t (rt_r s0 tp) 0 0 (-1) k b nx fi pa wo ke nu le 0)) rfl rfl ?_
  refine rt_istore_n (lv' := [(2, .int 0), (0, rt_r s0 t), (1, .int v)]) dX8_parseValue_4 rfl (by decide) rfl ?_
  refine rt_aload_n dX8_parseValue_5 rfl (j := 1) rfl ?_
  refine rt_dup dX8_parseValue_6 rfl ?_
  refine rt_bGet Γ kf_RX8_63 dX8_parseValue_7 (L := (tx_L s0 ca t (rt_r s0 tp) 0 0 (-1) k b nx fi pa wo ke nu le 0)) rfl rfl ?_
  refine rt_iconst (v := 1) dX8_parseValue_10 (by decide) ?_
  refine rt_iadd dX8_parseValue_11 ?_
  rw [show (0 : Int32) + 1 = 1 from by decide]
  refine rt_bPut Γ kp_RX8_63 dX8_parseValue_12 (L := (tx_L s0 ca t (rt_r s0 tp) 0 0 (-1) k b nx fi pa wo ke nu le 0)) rfl (Nat.le_of_ble_eq_true rfl) rfl rfl (L' := (tx_L s0 ca t (rt_r s0 tp) 1 0 (-1) k b nx fi pa wo ke nu le 0)) rfl ?_
  refine rt_aload_n dX8_parseValue_15 rfl (j := 1) rfl ?_
  refine rt_bGet Γ kf_RX8_20 dX8_parseValue_16 (L := (tx_L s0 ca t (rt_r s0 tp) 1 0 (-1) k b nx fi pa wo ke nu le 0)) rfl rfl ?_
  refine rt_iload_n dX8_parseValue_19 rfl (j := 0) rfl ?_
  refine rt_aload_n dX8_parseValue_20 rfl (j := 1) rfl ?_
  refine rt_bGet Γ kf_RX8_67 dX8_parseValue_21 (L := (tx_L s0 ca t (rt_r s0 tp) 1 0 (-1) k b nx fi pa wo ke nu le 0)) rfl rfl ?_
  refine rt_callV Γ kk_X0_put kc_RX8_89 (c_X0_put Γ (d := d - 1) (rt_bk_C (t := t) (L := (tx_L s0 ca t (rt_r s0 tp) 1 0 (-1) k b nx fi pa wo ke nu le 0)) 3 (Nat.le_of_ble_eq_true rfl) rfl rfl) (by decide)) (by omega) (by decide) (As := [.int 0, .int 0]) (show (parseMethodDescriptor yX0_put.desc).map (fun q => q.parameters.length) = some 2 by decide +kernel) hok (Nat.le_of_ble_eq_true rfl) dX8_parseValue_24 (rt_bk_C (t := t) (L := (tx_L s0 ca t (rt_r s0 tp) 1 0 (-1) k b nx fi pa wo ke nu le 0)) 3 (Nat.le_of_ble_eq_true rfl) rfl rfl).1 rfl rfl rfl (rt_kr (st2 := []) rfl ?_) rt_kx
  refine rt_weq (w' := (rt_bk w t (tx_L s0 ca t (rt_r s0 tp) 1 0 (-1) k (cl_put 2073 b 0 0) nx fi pa wo ke nu le 0))) (rt_bk_cs 3 (Nat.le_of_ble_eq_true rfl)) ?_
  refine rt_aload_n dX8_parseValue_27 rfl (j := 1) rfl ?_
  refine rt_bGet Γ kf_RX8_23 dX8_parseValue_28 (L := (tx_L s0 ca t (rt_r s0 tp) 1 0 (-1) k (cl_put 2073 b 0 0) nx fi pa wo ke nu le 0)) rfl rfl ?_
  refine rt_iload_n dX8_parseValue_31 rfl (j := 0) rfl ?_
  refine rt_iconst (v := (-1)) dX8_parseValue_32 (by decide) ?_
  refine rt_callV Γ kk_X0_put kc_RX8_89 (c_X0_put Γ (d := d - 1) (rt_bk_C (t := t) (L := (tx_L s0 ca t (rt_r s0 tp) 1 0 (-1) k (cl_put 2073 b 0 0) nx fi pa wo ke nu le 0)) 5 (Nat.le_of_ble_eq_true rfl) rfl rfl) (by decide)) (by omega) (by decide) (As := [.int 0, .int (-1)]) (show (parseMethodDescriptor yX0_put.desc).map (fun q => q.parameters.length) = some 2 by decide +kernel) hok (Nat.le_of_ble_eq_true rfl) dX8_parseValue_33 (rt_bk_C (t := t) (L := (tx_L s0 ca t (rt_r s0 tp) 1 0 (-1) k (cl_put 2073 b 0 0) nx fi pa wo ke nu le 0)) 5 (Nat.le_of_ble_eq_true rfl) rfl rfl).1 rfl rfl rfl (rt_kr (st2 := []) rfl ?_) rt_kx
  refine rt_weq (w' := (rt_bk w t (tx_L s0 ca t (rt_r s0 tp) 1 0 (-1) k (cl_put 2073 b 0 0) (cl_put 2073 nx 0 (-1)) fi pa wo ke nu le 0))) (rt_bk_cs 5 (Nat.le_of_ble_eq_true rfl)) ?_
  refine rt_aload_n dX8_parseValue_36 rfl (j := 1) rfl ?_
  refine rt_bGet Γ kf_RX8_26 dX8_parseValue_37 (L := (tx_L s0 ca t (rt_r s0 tp) 1 0 (-1) k (cl_put 2073 b 0 0) (cl_put 2073 nx 0 (-1)) fi pa wo ke nu le 0)) rfl rfl ?_
  refine rt_iload_n dX8_parseValue_40 rfl (j := 0) rfl ?_
  refine rt_iconst (v := (-1)) dX8_parseValue_41 (by decide) ?_
  refine rt_callV Γ kk_X0_put kc_RX8_89 (c_X0_put Γ (d := d - 1) (rt_bk_C (t := t) (L := (tx_L s0 ca t (rt_r s0 tp) 1 0 (-1) k (cl_put 2073 b 0 0) (cl_put 2073 nx 0 (-1)) fi pa wo ke nu le 0)) 7 (Nat.le_of_ble_eq_true rfl) rfl rfl) (by decide)) (by omega) (by decide) (As := [.int 0, .int (-1)]) (show (parseMethodDescriptor yX0_put.desc).map (fun q => q.parameters.length) = some 2 by decide +kernel) hok (Nat.le_of_ble_eq_true rfl) dX8_parseValue_42 (rt_bk_C (t := t) (L := (tx_L s0 ca t (rt_r s0 tp) 1 0 (-1) k (cl_put 2073 b 0 0) (cl_put 2073 nx 0 (-1)) fi pa wo ke nu le 0)) 7 (Nat.le_of_ble_eq_true rfl) rfl rfl).1 rfl rfl rfl (rt_kr (st2 := []) rfl ?_) rt_kx
  refine rt_weq (w' := (rt_bk w t (tx_L s0 ca t (rt_r s0 tp) 1 0 (-1) k (cl_put 2073 b 0 0) (cl_put 2073 nx 0 (-1)) (cl_put 2073 fi 0 (-1)) pa wo ke nu le 0))) (rt_bk_cs 7 (Nat.le_of_ble_eq_true rfl)) ?_
  refine rt_aload_n dX8_parseValue_45 rfl (j := 1) rfl ?_
  refine rt_bGet Γ kf_RX8_29 dX8_parseValue_46 (L := (tx_L s0 ca t (rt_r s0 tp) 1 0 (-1) k (cl_put 2073 b 0 0) (cl_put 2073 nx 0 (-1)) (cl_put 2073 fi 0 (-1)) pa wo ke nu le 0)) rfl rfl ?_
  refine rt_iload_n dX8_parseValue_49 rfl (j := 0) rfl ?_
  refine rt_iconst (v := 0) dX8_parseValue_50 (by decide) ?_
  refine rt_callV Γ kk_X0_put kc_RX8_89 (c_X0_put Γ (d := d - 1) (rt_bk_C (t := t) (L := (tx_L s0 ca t (rt_r s0 tp) 1 0 (-1) k (cl_put 2073 b 0 0) (cl_put 2073 nx 0 (-1)) (cl_put 2073 fi 0 (-1)) pa wo ke nu le 0)) 9 (Nat.le_of_ble_eq_true rfl) rfl rfl) (by decide)) (by omega) (by decide) (As := [.int 0, .int 0]) (show (parseMethodDescriptor yX0_put.desc).map (fun q => q.parameters.length) = some 2 by decide +kernel) hok (Nat.le_of_ble_eq_true rfl) dX8_parseValue_51 (rt_bk_C (t := t) (L := (tx_L s0 ca t (rt_r s0 tp) 1 0 (-1) k (cl_put 2073 b 0 0) (cl_put 2073 nx 0 (-1)) (cl_put 2073 fi 0 (-1)) pa wo ke nu le 0)) 9 (Nat.le_of_ble_eq_true rfl) rfl rfl).1 rfl rfl rfl (rt_kr (st2 := []) rfl ?_) rt_kx
  refine rt_weq (w' := (rt_bk w t (tx_L s0 ca t (rt_r s0 tp) 1 0 (-1) k (cl_put 2073 b 0 0) (cl_put 2073 nx 0 (-1)) (cl_put 2073 fi 0 (-1)) (cl_put 2073 pa 0 0) wo ke nu le 0))) (rt_bk_cs 9 (Nat.le_of_ble_eq_true rfl)) ?_
  refine rt_aload_n dX8_parseValue_54 rfl (j := 1) rfl ?_
  refine rt_bGet Γ kf_RX8_57 dX8_parseValue_55 (L := (tx_L s0 ca t (rt_r s0 tp) 1 0 (-1) k (cl_put 2073 b 0 0) (cl_put 2073 nx 0 (-1)) (cl_put 2073 fi 0 (-1)) (cl_put 2073 pa 0 0) wo ke nu le 0)) rfl rfl ?_
  refine rt_aload_n dX8_parseValue_58 rfl (j := 1) rfl ?_
  refine rt_bGet Γ kf_RX8_67 dX8_parseValue_59 (L := (tx_L s0 ca t (rt_r s0 tp) 1 0 (-1) k (cl_put 2073 b 0 0) (cl_put 2073 nx 0 (-1)) (cl_put 2073 fi 0 (-1)) (cl_put 2073 pa 0 0) wo ke nu le 0)) rfl rfl ?_
  refine rt_callV Γ kk_X0_peek kc_RX8_86 (c_X0_peek Γ (d := d - 1) (hT.bk htp) hn) (by omega) (by decide) (As := [.int 0]) (show (parseMethodDescriptor yX0_peek.desc).map (fun q => q.parameters.length) = some 1 by decide +kernel) hok (Nat.le_of_ble_eq_true rfl) dX8_parseValue_62 (hT.bk htp).1 rfl rfl rfl (rt_kr (st2 := [.int (cl_peek n f u 0)]) rfl ?_) rt_kx
  rw [hb]
  refine rt_istore_n (lv' := [(3, .int (-1)), (2, .int 0), (0, rt_r s0 t), (1, .int v)]) dX8_parseValue_65 rfl (by decide) rfl ?_
  refine rt_iload_n dX8_parseValue_66 rfl (j := 0) rfl ?_
  refine rt_bipush (v := 123) dX8_parseValue_67 (by decide) ?_
  refine rt_icmp_ne (tgt := 92) dX8_parseValue_69 (by decide) (fun _ => ?_) (fun c69 => absurd c69 (by decide))
  refine rt_iload_n dX8_parseValue_92 rfl (j := 0) rfl ?_
  refine rt_bipush (v := 91) dX8_parseValue_93 (by decide) ?_
  refine rt_icmp_ne (tgt := 118) dX8_parseValue_95 (by decide) (fun _ => ?_) (fun c95 => absurd c95 (by decide))
  refine rt_iload_n dX8_parseValue_118 rfl (j := 0) rfl ?_
  refine rt_bipush (v := 34) dX8_parseValue_119 (by decide) ?_
  refine rt_icmp_ne (tgt := 148) dX8_parseValue_121 (by decide) (fun _ => ?_) (fun c121 => absurd c121 (by decide))
  refine rt_iload_n dX8_parseValue_148 rfl (j := 0) rfl ?_
  refine rt_bipush (v := 116) dX8_parseValue_149 (by decide) ?_
  refine rt_icmp_ne (tgt := 165) dX8_parseValue_151 (by decide) (fun _ => ?_) (fun c151 => absurd c151 (by decide))
  refine rt_iload_n dX8_parseValue_165 rfl (j := 0) rfl ?_
  refine rt_bipush (v := 102) dX8_parseValue_166 (by decide) ?_
  refine rt_icmp_ne (tgt := 183) dX8_parseValue_168 (by decide) (fun _ => ?_) (fun c168 => absurd c168 (by decide))
  refine rt_iload_n dX8_parseValue_183 rfl (j := 0) rfl ?_
  refine rt_bipush (v := 110) dX8_parseValue_184 (by decide) ?_
  refine rt_icmp_ne (tgt := 201) dX8_parseValue_186 (by decide) (fun _ => ?_) (fun c186 => absurd c186 (by decide))
  refine rt_aload_n dX8_parseValue_201 rfl (j := 2) rfl ?_
  refine rt_bGet Γ kf_RX8_16 dX8_parseValue_202 (L := (tx_L s0 ca t (rt_r s0 tp) 1 0 (-1) k (cl_put 2073 b 0 0) (cl_put 2073 nx 0 (-1)) (cl_put 2073 fi 0 (-1)) (cl_put 2073 pa 0 0) wo ke nu le 0)) rfl rfl ?_
  refine rt_iload_n dX8_parseValue_205 rfl (j := 1) rfl ?_
  refine rt_iconst (v := 4) dX8_parseValue_206 (by decide) ?_
  refine rt_callV Γ kk_X0_put kc_RX8_89 (c_X0_put Γ (d := d - 1) (rt_bk_C (t := t) (L := (tx_L s0 ca t (rt_r s0 tp) 1 0 (-1) k (cl_put 2073 b 0 0) (cl_put 2073 nx 0 (-1)) (cl_put 2073 fi 0 (-1)) (cl_put 2073 pa 0 0) wo ke nu le 0)) 1 (Nat.le_of_ble_eq_true rfl) rfl rfl) (by decide)) (by omega) (by decide) (As := [.int 0, .int 4]) (show (parseMethodDescriptor yX0_put.desc).map (fun q => q.parameters.length) = some 2 by decide +kernel) hok (Nat.le_of_ble_eq_true rfl) dX8_parseValue_207 (rt_bk_C (t := t) (L := (tx_L s0 ca t (rt_r s0 tp) 1 0 (-1) k (cl_put 2073 b 0 0) (cl_put 2073 nx 0 (-1)) (cl_put 2073 fi 0 (-1)) (cl_put 2073 pa 0 0) wo ke nu le 0)) 1 (Nat.le_of_ble_eq_true rfl) rfl rfl).1 rfl rfl rfl (rt_kr (st2 := []) rfl ?_) rt_kx
  refine rt_weq (w' := (rt_bk w t (tx_L s0 ca t (rt_r s0 tp) 1 0 (-1) (cl_put 2073 k 0 4) (cl_put 2073 b 0 0) (cl_put 2073 nx 0 (-1)) (cl_put 2073 fi 0 (-1)) (cl_put 2073 pa 0 0) wo ke nu le 0))) (rt_bk_cs 1 (Nat.le_of_ble_eq_true rfl)) ?_
  refine rt_aload_n dX8_parseValue_210 rfl (j := 2) rfl ?_
  refine rt_iload_n dX8_parseValue_211 rfl (j := 1) rfl ?_
  refine rt_callV Γ kk_X8_parseNumber kc_RX8_110 (c_X8_parseNumber0 Γ (d := d - 1) (by omega) hT hn htp hb hok (by decide) (by decide)) (by omega) (by decide) (As := [.int 0]) (show (parseMethodDescriptor yX8_parseNumber.desc).map (fun q => q.parameters.length) = some 1 by decide +kernel) hok (Nat.le_of_ble_eq_true rfl) dX8_parseValue_212 ((rt_bk_0 w t (tx_L s0 ca t (rt_r s0 tp) 1 0 (-1) (cl_put 2073 k 0 4) (cl_put 2073 b 0 0) (cl_put 2073 nx 0 (-1)) (cl_put 2073 fi 0 (-1)) (cl_put 2073 pa 0 0) wo ke nu le 0) (Nat.le_of_ble_eq_true rfl)).trans rfl) rfl rfl rfl (rt_kr (st2 := []) rfl ?_) rt_kx
  refine rt_iload_n dX8_parseValue_215 rfl (j := 1) rfl ?_
  exact rt_iret dX8_parseValue_216 rfl (⟨rfl, rfl⟩)
set_option maxRecDepth 100000 in
theorem c_X8_parse0 {l : Launch} {s0 : State} {a0 : Array Value} {G : va_G} {ca : Nat → ClassId} (Γ : rt_Γ l s0 a0 G ca) {d : Nat} {w : rt_Wd} {t : Nat} {tape : Value} {vals : Int32} {pos : Int32} {wrong : Int32} {k : Nat → Int32} {b : Nat → Int32} {nx : Nat → Int32} {fi : Nat → Int32} {pa : Nat → Int32} {wo : Nat → Int32} {ke : Nat → Int32} {nu : Nat → Int64} {le : Nat → Int32} (hd : 3 ≤ d) {tp n : Nat} {f : Nat → Int32} {u : Int32} (hT : rt_C s0 ca w tp n f u) (hn : n < 2 ^ 31) (htp : tp + 1 < t ∨ t + 18 ≤ tp) (hb : cl_peek n f u 0 = -1) (hu : u ≤ 0) (hok : rt_ok w) : rt_Met l s0 G (.code yX8_parse cX8_parse 2 (Option.some FieldType.int)) yX8_parse d [rt_r s0 t, rt_r s0 tp] (rt_bk w t (tx_L s0 ca t tape vals pos wrong k b nx fi pa wo ke nu le 0)) (rt_is (.inl (some (.int 0))) (rt_bk w t (tx_L s0 ca t (rt_r s0 tp) 1 0 0 (cl_put 2073 k 0 4) (cl_put 2073 b 0 0) (cl_put 2073 nx 0 (-1)) (cl_put 2073 fi 0 (-1)) (cl_put 2073 pa 0 0) wo ke nu le 0))) := by
  refine rt_met Γ kk_X8_parse rfl (Nat.le_of_ble_eq_true rfl) rfl ?_
  refine rt_aload_n dX8_parse_0 rfl (j := 1) rfl ?_
  refine rt_ifnonnull (tgt := 6) dX8_parse_1 (by decide) ?_
  refine rt_aload_n dX8_parse_6 rfl (j := 0) rfl ?_
  refine rt_aload_n dX8_parse_7 rfl (j := 1) rfl ?_
  refine rt_bPut Γ kp_RX8_57 dX8_parse_8 (L := (tx_L s0 ca t tape vals pos wrong k b nx fi pa wo ke nu le 0)) rfl (Nat.le_of_ble_eq_true rfl) rfl rfl (L' := (tx_L s0 ca t (rt_r s0 tp) vals pos wrong k b nx fi pa wo ke nu le 0)) rfl ?_
  refine rt_aload_n dX8_parse_11 rfl (j := 0) rfl ?_
  refine rt_bGet Γ kf_RX8_42 dX8_parse_12 (L := (tx_L s0 ca t (rt_r s0 tp) vals pos wrong k b nx fi pa wo ke nu le 0)) rfl rfl ?_
  refine rt_iconst (v := 0) dX8_parse_15 (by decide) ?_
  refine rt_callV Γ kk_X0_cut kc_RX8_60 (c_X0_cut Γ (d := d - 1) (rt_bk_C (t := t) (L := (tx_L s0 ca t (rt_r s0 tp) vals pos wrong k b nx fi pa wo ke nu le 0)) 16 (Nat.le_of_ble_eq_true rfl) rfl rfl)) (by omega) (by decide) (As := [.int 0]) (show (parseMethodDescriptor yX0_cut.desc).map (fun q => q.parameters.length) = some 1 by decide +kernel) hok (Nat.le_of_ble_eq_true rfl) dX8_parse_16 (rt_bk_C (t := t) (L := (tx_L s0 ca t (rt_r s0 tp) vals pos wrong k b nx fi pa wo ke nu le 0)) 16 (Nat.le_of_ble_eq_true rfl) rfl rfl).1 rfl rfl rfl (rt_kr (st2 := []) rfl ?_) rt_kx
  refine rt_weq (w' := (rt_bk w t (tx_L s0 ca t (rt_r s0 tp) vals pos wrong k b nx fi pa wo ke nu le 0))) (rt_bk_cs 16 (Nat.le_of_ble_eq_true rfl)) ?_
  refine rt_aload_n dX8_parse_19 rfl (j := 0) rfl ?_
  refine rt_iconst (v := 0) dX8_parse_20 (by decide) ?_
  refine rt_bPut Γ kp_RX8_63 dX8_parse_21 (L := (tx_L s0 ca t (rt_r s0 tp) vals pos wrong k b nx fi pa wo ke nu le 0)) rfl (Nat.le_of_ble_eq_true rfl) rfl rfl (L' := (tx_L s0 ca t (rt_r s0 tp) 0 pos wrong k b nx fi pa wo ke nu le 0)) rfl ?_
  refine rt_aload_n dX8_parse_24 rfl (j := 0) rfl ?_
  refine rt_iconst (v := 0) dX8_parse_25 (by decide) ?_
  refine rt_bPut Γ kp_RX8_67 dX8_parse_26 (L := (tx_L s0 ca t (rt_r s0 tp) 0 pos wrong k b nx fi pa wo ke nu le 0)) rfl (Nat.le_of_ble_eq_true rfl) rfl rfl (L' := (tx_L s0 ca t (rt_r s0 tp) 0 0 wrong k b nx fi pa wo ke nu le 0)) rfl ?_
  refine rt_aload_n dX8_parse_29 rfl (j := 0) rfl ?_
  refine rt_iconst (v := (-1)) dX8_parse_30 (by decide) ?_
  refine rt_bPut Γ kp_RX8_70 dX8_parse_31 (L := (tx_L s0 ca t (rt_r s0 tp) 0 0 wrong k b nx fi pa wo ke nu le 0)) rfl (Nat.le_of_ble_eq_true rfl) rfl rfl (L' := (tx_L s0 ca t (rt_r s0 tp) 0 0 (-1) k b nx fi pa wo ke nu le 0)) rfl ?_
  refine rt_aload_n dX8_parse_34 rfl (j := 0) rfl ?_
  refine rt_callV Γ kk_X8_skipBlanks kc_RX8_73 (c_X8_skipBlanks0 Γ (d := d - 1) (by omega) hT hn htp hb hok (by decide) (by decide) (by decide) (by decide)) (by omega) (by decide) (As := []) (show (parseMethodDescriptor yX8_skipBlanks.desc).map (fun q => q.parameters.length) = some 0 by decide +kernel) hok (Nat.le_of_ble_eq_true rfl) dX8_parse_35 ((rt_bk_0 w t (tx_L s0 ca t (rt_r s0 tp) 0 0 (-1) k b nx fi pa wo ke nu le 0) (Nat.le_of_ble_eq_true rfl)).trans rfl) rfl rfl rfl (rt_kr (st2 := []) rfl ?_) rt_kx
  refine rt_aload_n dX8_parse_38 rfl (j := 0) rfl ?_
  refine rt_iconst (v := 0) dX8_parse_39 (by decide) ?_
  refine rt_callV Γ kk_X8_parseValue kc_RX8_76 (c_X8_parseValue0 Γ (d := d - 1) (by omega) hT hn htp hb hok) (by omega) (by decide) (As := [.int 0]) (show (parseMethodDescriptor yX8_parseValue.desc).map (fun q => q.parameters.length) = some 1 by decide +kernel) hok (Nat.le_of_ble_eq_true rfl) dX8_parse_40 ((rt_bk_0 w t (tx_L s0 ca t (rt_r s0 tp) 0 0 (-1) k b nx fi pa wo ke nu le 0) (Nat.le_of_ble_eq_true rfl)).trans rfl) rfl rfl rfl (rt_kr (st2 := [.int 0]) rfl ?_) rt_kx
  refine rt_pop dX8_parse_43 rfl ?_
  refine rt_aload_n dX8_parse_44 rfl (j := 0) rfl ?_
  refine rt_callV Γ kk_X8_skipBlanks kc_RX8_73 (c_X8_skipBlanks0 Γ (d := d - 1) (by omega) hT hn htp hb hok (by decide) (by decide) (by decide) (by decide)) (by omega) (by decide) (As := []) (show (parseMethodDescriptor yX8_skipBlanks.desc).map (fun q => q.parameters.length) = some 0 by decide +kernel) hok (Nat.le_of_ble_eq_true rfl) dX8_parse_45 ((rt_bk_0 w t (tx_L s0 ca t (rt_r s0 tp) 1 0 0 (cl_put 2073 k 0 4) (cl_put 2073 b 0 0) (cl_put 2073 nx 0 (-1)) (cl_put 2073 fi 0 (-1)) (cl_put 2073 pa 0 0) wo ke nu le 0) (Nat.le_of_ble_eq_true rfl)).trans rfl) rfl rfl rfl (rt_kr (st2 := []) rfl ?_) rt_kx
  refine rt_aload_n dX8_parse_48 rfl (j := 0) rfl ?_
  refine rt_bGet Γ kf_RX8_67 dX8_parse_49 (L := (tx_L s0 ca t (rt_r s0 tp) 1 0 0 (cl_put 2073 k 0 4) (cl_put 2073 b 0 0) (cl_put 2073 nx 0 (-1)) (cl_put 2073 fi 0 (-1)) (cl_put 2073 pa 0 0) wo ke nu le 0)) rfl rfl ?_
  refine rt_aload_n dX8_parse_52 rfl (j := 0) rfl ?_
  refine rt_bGet Γ kf_RX8_57 dX8_parse_53 (L := (tx_L s0 ca t (rt_r s0 tp) 1 0 0 (cl_put 2073 k 0 4) (cl_put 2073 b 0 0) (cl_put 2073 nx 0 (-1)) (cl_put 2073 fi 0 (-1)) (cl_put 2073 pa 0 0) wo ke nu le 0)) rfl rfl ?_
  refine rt_callV Γ kk_X0_count kc_RX8_79 (c_X0_count Γ (d := d - 1) (hT.bk htp)) (by omega) (by decide) (As := []) (show (parseMethodDescriptor yX0_count.desc).map (fun q => q.parameters.length) = some 0 by decide +kernel) hok (Nat.le_of_ble_eq_true rfl) dX8_parse_56 (hT.bk htp).1 rfl rfl rfl (rt_kr (st2 := [.int u, .int 0]) rfl ?_) rt_kx
  refine rt_icmp_ge (tgt := 70) dX8_parse_59 (by decide) (fun _ => ?_) (fun c59 => absurd hu c59)
  refine rt_aload_n dX8_parse_70 rfl (j := 0) rfl ?_
  refine rt_bGet Γ kf_RX8_70 dX8_parse_71 (L := (tx_L s0 ca t (rt_r s0 tp) 1 0 0 (cl_put 2073 k 0 4) (cl_put 2073 b 0 0) (cl_put 2073 nx 0 (-1)) (cl_put 2073 fi 0 (-1)) (cl_put 2073 pa 0 0) wo ke nu le 0)) rfl rfl ?_
  exact rt_iret dX8_parse_74 rfl (⟨rfl, rfl⟩)
set_option maxRecDepth 100000 in
theorem c_X9_schema0 {l : Launch} {s0 : State} {a0 : Array Value} {G : va_G} {ca : Nat → ClassId} (Γ : rt_Γ l s0 a0 G ca) {d : Nat} {w : rt_Wd} {t : Nat} {tape : Value} {vals : Int32} {pos : Int32} {wrong : Int32} {k : Nat → Int32} {b : Nat → Int32} {nx : Nat → Int32} {fi : Nat → Int32} {pa : Nat → Int32} {wo : Nat → Int32} {ke : Nat → Int32} {nu : Nat → Int64} {le : Nat → Int32} {x op kp dr lk tl ft cu sp : Nat} {rp fp : Int32} (hd : 4 ≤ d) {tp n : Nat} {f : Nat → Int32} {u : Int32} (hT : rt_C s0 ca w tp n f u) (hn : n < 2 ^ 31) (htp : tp + 1 < t ∨ t + 18 ≤ tp) (hb : cl_peek n f u 0 = -1) (hu : u ≤ 0) (hok : rt_ok w) (hx : x < t ∨ t + 18 ≤ x) (hX : w.2.2 x = some (.inr (9, [rt_r s0 tp, rt_r s0 op, rt_r s0 kp, rt_r s0 t, rt_r s0 dr, rt_r s0 lk, rt_r s0 tl, rt_r s0 ft, rt_r s0 cu, rt_r s0 sp, .int rp, .int fp]))) {p : Int32} (h0 : ¬ p < 0) (h1 : p < 8) : rt_Met l s0 G (.code yX9_schema cX9_schema 3 (Option.some FieldType.int)) yX9_schema d [rt_r s0 x, .int p] (rt_bk w t (tx_L s0 ca t tape vals pos wrong k b nx fi pa wo ke nu le 0)) (rt_is (.inl (some (.int 1))) (rt_bk (rt_up w x (.inr (9, [rt_r s0 tp, rt_r s0 op, rt_r s0 kp, rt_r s0 t, rt_r s0 dr, rt_r s0 lk, rt_r s0 tl, rt_r s0 ft, rt_r s0 cu, rt_r s0 sp, .int rp, .int 0]))) t (tx_L s0 ca t (rt_r s0 tp) 1 0 0 (cl_put 2073 k 0 4) (cl_put 2073 b 0 0) (cl_put 2073 nx 0 (-1)) (cl_put 2073 fi 0 (-1)) (cl_put 2073 pa 0 0) wo ke nu le 0))) := by
  refine rt_met Γ kk_X9_schema rfl (Nat.le_of_ble_eq_true rfl) rfl ?_
  refine rt_iload_n dX9_schema_0 rfl (j := 1) rfl ?_
  refine rt_if_lt (tgt := 10) dX9_schema_1 (by decide) (fun c1 => absurd c1 h0) (fun _ => ?_)
  refine rt_iload_n dX9_schema_4 rfl (j := 1) rfl ?_
  refine rt_bipush (v := 8) dX9_schema_5 (by decide) ?_
  refine rt_icmp_lt (tgt := 18) dX9_schema_7 (by decide) (fun _ => ?_) (fun c7 => absurd h1 c7)
  refine rt_aload_n dX9_schema_18 rfl (j := 0) rfl ?_
  refine rt_aload_n dX9_schema_19 rfl (j := 0) rfl ?_
  refine rt_get Γ kf_RX9_30 dX9_schema_20 ((rt_bk_n hx).trans hX) rfl ?_
  refine rt_aload_n dX9_schema_23 rfl (j := 0) rfl ?_
  refine rt_get Γ kf_RX9_14 dX9_schema_24 ((rt_bk_n hx).trans hX) rfl ?_
  refine rt_callV Γ kk_X8_parse kc_RX9_98 (c_X8_parse0 Γ (d := d - 1) (by omega) hT hn htp hb hu hok) (by omega) (by decide) (As := [rt_r s0 tp]) (show (parseMethodDescriptor yX8_parse.desc).map (fun q => q.parameters.length) = some 1 by decide +kernel) hok (Nat.le_of_ble_eq_true rfl) dX9_schema_27 ((rt_bk_0 w t (tx_L s0 ca t tape vals pos wrong k b nx fi pa wo ke nu le 0) (Nat.le_of_ble_eq_true rfl)).trans rfl) rfl rfl rfl (rt_kr (st2 := [.int 0, rt_r s0 x]) rfl ?_) rt_kx
  refine rt_put Γ kp_RX9_76 dX9_schema_30 ((rt_bk_n hx).trans hX) (Nat.le_of_ble_eq_true rfl) rfl rfl (fs' := [rt_r s0 tp, rt_r s0 op, rt_r s0 kp, rt_r s0 t, rt_r s0 dr, rt_r s0 lk, rt_r s0 tl, rt_r s0 ft, rt_r s0 cu, rt_r s0 sp, .int rp, .int 0]) rfl ?_
  refine rt_weq (w' := rt_bk (rt_up w x (.inr (9, [rt_r s0 tp, rt_r s0 op, rt_r s0 kp, rt_r s0 t, rt_r s0 dr, rt_r s0 lk, rt_r s0 tl, rt_r s0 ft, rt_r s0 cu, rt_r s0 sp, .int rp, .int 0]))) t (tx_L s0 ca t (rt_r s0 tp) 1 0 0 (cl_put 2073 k 0 4) (cl_put 2073 b 0 0) (cl_put 2073 nx 0 (-1)) (cl_put 2073 fi 0 (-1)) (cl_put 2073 pa 0 0) wo ke nu le 0)) (rt_bk_upO hx _) ?_
  refine rt_aload_n dX9_schema_33 rfl (j := 0) rfl ?_
  refine rt_get Γ kf_RX9_76 dX9_schema_34 ((rt_bk_n hx).trans (rt_up_s _ _ _)) rfl ?_
  refine rt_iconst (v := (-1)) dX9_schema_37 (by decide) ?_
  refine rt_icmp_eq (tgt := 43) dX9_schema_38 (by decide) (fun c38 => absurd c38 (by decide)) (fun _ => ?_)
  refine rt_iconst (v := 1) dX9_schema_41 (by decide) ?_
  exact rt_iret dX9_schema_42 rfl (⟨rfl, rfl⟩)
