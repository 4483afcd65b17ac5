/-! ===== the parts of an open value ===== -/
set_option maxRecDepth 100000 in
theorem j_linkA {l : Launch} {s0 : State} {a0 : Array Value} {G : va_G} {ca : Nat → ClassId} (Γ : rt_Γ l s0 a0 G ca) {d : Nat} {w : rt_Wd} {t : Nat} {tape : Value} {vals : Int32} {pos : Int32} {wrong : Int32} {k : Nat → Int32} {b : Nat → Int32} {nx : Nat → Int32} {fi : Nat → Int32} {pa : Nat → Int32} {wo : Nat → Int32} {ke : Nat → Int32} {nu : Nat → Int64} {le : Nat → Int32} {lu : Int32} (hd : 1 ≤ d) (hok : rt_ok w) {v la x : Int32} : rt_Met l s0 G (.code yX8_link cX8_link 4 (Option.some FieldType.int)) yX8_link d [rt_r s0 t, .int v, .int la, .int x] (rt_bk w t (tx_L s0 ca t tape vals pos wrong k b nx fi pa wo ke nu le lu)) (fun r w1 => r = .inl (some (.int x)) ∧ ∃ nx1 fi1 pa1 : Nat → Int32, w1 = (rt_bk w t (tx_L s0 ca t tape vals pos wrong k b nx1 fi1 pa1 wo ke nu le lu))) := by
  refine rt_met Γ kk_X8_link rfl (Nat.le_of_ble_eq_true rfl) rfl ?_
  refine rt_iload_n dX8_link_0 rfl (j := 2) rfl ?_
  refine rt_iconst (v := (-1)) dX8_link_1 (by decide) ?_
  refine rt_icmp_ne (tgt := 17) dX8_link_2 (by decide) (fun c2 => ?_) (fun c2 => ?_)
  · refine rt_aload_n dX8_link_17 rfl (j := 0) rfl ?_
    refine rt_bGet Γ kf_RX8_23 dX8_link_18 (L := (tx_L s0 ca t tape vals pos wrong k b nx fi pa wo ke nu le lu)) rfl rfl ?_
    refine rt_iload_n dX8_link_21 rfl (j := 2) rfl ?_
    refine rt_iload_n dX8_link_22 rfl (j := 3) rfl ?_
    refine rt_callV Γ kk_X0_put kc_RX8_89 (c_X0_put Γ (d := d - 1) (rt_bk_C (t := t) (L := (tx_L s0 ca t tape vals pos wrong k b nx fi pa wo ke nu le lu)) 5 (Nat.le_of_ble_eq_true rfl) rfl rfl) (by decide)) (by omega) (by decide) (As := [.int la, .int x]) (show (parseMethodDescriptor yX0_put.desc).map (fun q => q.parameters.length) = some 2 by decide +kernel) hok (Nat.le_of_ble_eq_true rfl) dX8_link_23 (rt_bk_C (t := t) (L := (tx_L s0 ca t tape vals pos wrong k b nx fi pa wo ke nu le lu)) 5 (Nat.le_of_ble_eq_true rfl) rfl rfl).1 rfl rfl rfl (rt_kr (st2 := []) rfl ?_) rt_kx
    refine rt_weq (w' := (rt_bk w t (tx_L s0 ca t tape vals pos wrong k b (cl_put 2073 nx la x) fi pa wo ke nu le lu))) (rt_bk_cs 5 (Nat.le_of_ble_eq_true rfl)) ?_
    refine rt_aload_n dX8_link_26 rfl (j := 0) rfl ?_
    refine rt_bGet Γ kf_RX8_29 dX8_link_27 (L := (tx_L s0 ca t tape vals pos wrong k b (cl_put 2073 nx la x) fi pa wo ke nu le lu)) rfl rfl ?_
    refine rt_iload_n dX8_link_30 rfl (j := 1) rfl ?_
    refine rt_aload_n dX8_link_31 rfl (j := 0) rfl ?_
    refine rt_bGet Γ kf_RX8_29 dX8_link_32 (L := (tx_L s0 ca t tape vals pos wrong k b (cl_put 2073 nx la x) fi pa wo ke nu le lu)) rfl rfl ?_
    refine rt_iload_n dX8_link_35 rfl (j := 1) rfl ?_
    refine rt_callV Γ kk_X0_at kc_RX8_45 (c_X0_at Γ (d := d - 1) (x := v) (rt_bk_C (t := t) (L := (tx_L s0 ca t tape vals pos wrong k b (cl_put 2073 nx la x) fi pa wo ke nu le lu)) 9 (Nat.le_of_ble_eq_true rfl) rfl rfl) (by decide)) (by omega) (by decide) (As := [.int v]) (show (parseMethodDescriptor yX0_at.desc).map (fun q => q.parameters.length) = some 1 by decide +kernel) hok (Nat.le_of_ble_eq_true rfl) dX8_link_36 (rt_bk_C (t := t) (L := (tx_L s0 ca t tape vals pos wrong k b (cl_put 2073 nx la x) fi pa wo ke nu le lu)) 9 (Nat.le_of_ble_eq_true rfl) rfl rfl).1 rfl rfl rfl (rt_kr (st2 := [.int (cl_at 2073 pa v), .int v, rt_r s0 (t + 9)]) rfl ?_) rt_kx
    refine rt_iconst (v := 1) dX8_link_39 (by decide) ?_
    refine rt_iadd dX8_link_40 ?_
    refine rt_callV Γ kk_X0_put kc_RX8_89 (c_X0_put Γ (d := d - 1) (rt_bk_C (t := t) (L := (tx_L s0 ca t tape vals pos wrong k b (cl_put 2073 nx la x) fi pa wo ke nu le lu)) 9 (Nat.le_of_ble_eq_true rfl) rfl rfl) (by decide)) (by omega) (by decide) (As := [.int v, .int ((cl_at 2073 pa v) + 1)]) (show (parseMethodDescriptor yX0_put.desc).map (fun q => q.parameters.length) = some 2 by decide +kernel) hok (Nat.le_of_ble_eq_true rfl) dX8_link_41 (rt_bk_C (t := t) (L := (tx_L s0 ca t tape vals pos wrong k b (cl_put 2073 nx la x) fi pa wo ke nu le lu)) 9 (Nat.le_of_ble_eq_true rfl) rfl rfl).1 rfl rfl rfl (rt_kr (st2 := []) rfl ?_) rt_kx
    refine rt_weq (w' := (rt_bk w t (tx_L s0 ca t tape vals pos wrong k b (cl_put 2073 nx la x) fi (cl_put 2073 pa v ((cl_at 2073 pa v) + 1)) wo ke nu le lu))) (rt_bk_cs 9 (Nat.le_of_ble_eq_true rfl)) ?_
    refine rt_iload_n dX8_link_44 rfl (j := 3) rfl ?_
    exact rt_iret dX8_link_45 rfl (⟨rfl, _, _, _, rfl⟩)
  · refine rt_aload_n dX8_link_5 rfl (j := 0) rfl ?_
    refine rt_bGet Γ kf_RX8_26 dX8_link_6 (L := (tx_L s0 ca t tape vals pos wrong k b nx fi pa wo ke nu le lu)) rfl rfl ?_
    refine rt_iload_n dX8_link_9 rfl (j := 1) rfl ?_
    refine rt_iload_n dX8_link_10 rfl (j := 3) rfl ?_
    refine rt_callV Γ kk_X0_put kc_RX8_89 (c_X0_put Γ (d := d - 1) (rt_bk_C (t := t) (L := (tx_L s0 ca t tape vals pos wrong k b nx fi pa wo ke nu le lu)) 7 (Nat.le_of_ble_eq_true rfl) rfl rfl) (by decide)) (by omega) (by decide) (As := [.int v, .int x]) (show (parseMethodDescriptor yX0_put.desc).map (fun q => q.parameters.length) = some 2 by decide +kernel) hok (Nat.le_of_ble_eq_true rfl) dX8_link_11 (rt_bk_C (t := t) (L := (tx_L s0 ca t tape vals pos wrong k b nx fi pa wo ke nu le lu)) 7 (Nat.le_of_ble_eq_true rfl) rfl rfl).1 rfl rfl rfl (rt_kr (st2 := []) rfl ?_) rt_kx
    refine rt_weq (w' := (rt_bk w t (tx_L s0 ca t tape vals pos wrong k b nx (cl_put 2073 fi v x) pa wo ke nu le lu))) (rt_bk_cs 7 (Nat.le_of_ble_eq_true rfl)) ?_
    refine rt_goto (tgt := 26) dX8_link_14 (by decide) ?_
    refine rt_aload_n dX8_link_26 rfl (j := 0) rfl ?_
    refine rt_bGet Γ kf_RX8_29 dX8_link_27 (L := (tx_L s0 ca t tape vals pos wrong k b nx (cl_put 2073 fi v x) pa wo ke nu le lu)) rfl rfl ?_
    refine rt_iload_n dX8_link_30 rfl (j := 1) rfl ?_
    refine rt_aload_n dX8_link_31 rfl (j := 0) rfl ?_
    refine rt_bGet Γ kf_RX8_29 dX8_link_32 (L := (tx_L s0 ca t tape vals pos wrong k b nx (cl_put 2073 fi v x) pa wo ke nu le lu)) rfl rfl ?_
    refine rt_iload_n dX8_link_35 rfl (j := 1) rfl ?_
    refine rt_callV Γ kk_X0_at kc_RX8_45 (c_X0_at Γ (d := d - 1) (x := v) (rt_bk_C (t := t) (L := (tx_L s0 ca t tape vals pos wrong k b nx (cl_put 2073 fi v x) pa wo ke nu le lu)) 9 (Nat.le_of_ble_eq_true rfl) rfl rfl) (by decide)) (by omega) (by decide) (As := [.int v]) (show (parseMethodDescriptor yX0_at.desc).map (fun q => q.parameters.length) = some 1 by decide +kernel) hok (Nat.le_of_ble_eq_true rfl) dX8_link_36 (rt_bk_C (t := t) (L := (tx_L s0 ca t tape vals pos wrong k b nx (cl_put 2073 fi v x) pa wo ke nu le lu)) 9 (Nat.le_of_ble_eq_true rfl) rfl rfl).1 rfl rfl rfl (rt_kr (st2 := [.int (cl_at 2073 pa v), .int v, rt_r s0 (t + 9)]) rfl ?_) rt_kx
    refine rt_iconst (v := 1) dX8_link_39 (by decide) ?_
    refine rt_iadd dX8_link_40 ?_
    refine rt_callV Γ kk_X0_put kc_RX8_89 (c_X0_put Γ (d := d - 1) (rt_bk_C (t := t) (L := (tx_L s0 ca t tape vals pos wrong k b nx (cl_put 2073 fi v x) pa wo ke nu le lu)) 9 (Nat.le_of_ble_eq_true rfl) rfl rfl) (by decide)) (by omega) (by decide) (As := [.int v, .int ((cl_at 2073 pa v) + 1)]) (show (parseMethodDescriptor yX0_put.desc).map (fun q => q.parameters.length) = some 2 by decide +kernel) hok (Nat.le_of_ble_eq_true rfl) dX8_link_41 (rt_bk_C (t := t) (L := (tx_L s0 ca t tape vals pos wrong k b nx (cl_put 2073 fi v x) pa wo ke nu le lu)) 9 (Nat.le_of_ble_eq_true rfl) rfl rfl).1 rfl rfl rfl (rt_kr (st2 := []) rfl ?_) rt_kx
    refine rt_weq (w' := (rt_bk w t (tx_L s0 ca t tape vals pos wrong k b nx (cl_put 2073 fi v x) (cl_put 2073 pa v ((cl_at 2073 pa v) + 1)) wo ke nu le lu))) (rt_bk_cs 9 (Nat.le_of_ble_eq_true rfl)) ?_
    refine rt_iload_n dX8_link_44 rfl (j := 3) rfl ?_
    exact rt_iret dX8_link_45 rfl (⟨rfl, _, _, _, rfl⟩)
set_option maxRecDepth 100000 in
theorem j_ppX {l : Launch} {s0 : State} {a0 : Array Value} {G : va_G} {ca : Nat → ClassId} (Γ : rt_Γ l s0 a0 G ca) {d : Nat} {w v0 : rt_Wd} {t : Nat} {vals : Int32} {pos : Int32} {k : Nat → Int32} {b : Nat → Int32} {nx : Nat → Int32} {fi : Nat → Int32} {pa : Nat → Int32} {wo : Nat → Int32} {ke : Nat → Int32} {nu : Nat → Int64} {le : Nat → Int32} {lu : Int32} {e : Nat} {j la dq cl v x : Int32} (he : e < 2 ^ 31) (hd : 2 ≤ d) {tp n : Nat} {f : Nat → Int32} {u : Int32} (hT : rt_C s0 ca w tp n f u) (hn : n < 2 ^ 31) (htp : tp + 1 < t ∨ t + 18 ≤ tp) (hok : rt_ok w) : rt_Go l s0 G RX8 "parseParts" cX8_parseParts 7 (Option.none : Option FieldType) [] d v0 (fun r w1 => r = .inl none ∧ tx_B s0 ca w t tp e w1) 114 [(5, .int j), (4, .int la), (3, .int dq), (2, .int cl), (1, .int v), (0, rt_r s0 t)] [.int x, .int la, .int v, rt_r s0 t] (rt_bk w t (tx_L s0 ca t (rt_r s0 tp) vals pos (nI e) k b nx fi pa wo ke nu le lu)) := by
  have hw : ¬ nI e = -1 := nI_nm1 he
  refine rt_callV Γ kk_X8_link kc_RX8_116 (j_linkA Γ (d := d - 1) (by omega) hok) (by omega) (by decide) (As := [.int v, .int la, .int x]) (show (parseMethodDescriptor yX8_link.desc).map (fun q => q.parameters.length) = some 3 by decide +kernel) hok (Nat.le_of_ble_eq_true rfl) dX8_parseParts_114 ((rt_bk_0 w t (tx_L s0 ca t (rt_r s0 tp) vals pos (nI e) k b nx fi pa wo ke nu le lu) (Nat.le_of_ble_eq_true rfl)).trans rfl) rfl rfl rfl (fun v9 w9 hq => ?_) (fun X w9 hq => nomatch hq.1)
  obtain ⟨e9, nx11, fi11, pa11, rfl⟩ := hq
  cases e9
  show rt_Go l s0 G RX8 "parseParts" cX8_parseParts 7 (Option.none : Option FieldType) [] d _ _ (114 + 3) [(5, .int j), (4, .int la), (3, .int dq), (2, .int cl), (1, .int v), (0, rt_r s0 t)] [.int x] (rt_bk w t (tx_L s0 ca t (rt_r s0 tp) vals pos (nI e) k b nx11 fi11 pa11 wo ke nu le lu))
  refine rt_istore (lv' := [(4, .int x), (5, .int j), (3, .int dq), (2, .int cl), (1, .int v), (0, rt_r s0 t)]) dX8_parseParts_117 (by decide) rfl ?_
  refine rt_aload_n dX8_parseParts_119 rfl (j := 5) rfl ?_
  refine rt_callV Γ kk_X8_skipBlanks kc_RX8_73 (j_skipA Γ (d := d - 1) (by omega) hT hn htp hok) (by omega) (by decide) (As := []) (show (parseMethodDescriptor yX8_skipBlanks.desc).map (fun q => q.parameters.length) = some 0 by decide +kernel) hok (Nat.le_of_ble_eq_true rfl) dX8_parseParts_120 ((rt_bk_0 w t (tx_L s0 ca t (rt_r s0 tp) vals pos (nI e) k b nx11 fi11 pa11 wo ke nu le lu) (Nat.le_of_ble_eq_true rfl)).trans rfl) rfl rfl rfl (fun v9 w9 hq => ?_) (fun X w9 hq => nomatch hq.1)
  obtain ⟨e9, pos12, rfl⟩ := hq
  cases e9
  show rt_Go l s0 G RX8 "parseParts" cX8_parseParts 7 (Option.none : Option FieldType) [] d _ _ (120 + 3) [(4, .int x), (5, .int j), (3, .int dq), (2, .int cl), (1, .int v), (0, rt_r s0 t)] [] (rt_bk w t (tx_L s0 ca t (rt_r s0 tp) vals pos12 (nI e) k b nx11 fi11 pa11 wo ke nu le lu))
  refine rt_aload_n dX8_parseParts_123 rfl (j := 5) rfl ?_
  refine rt_bGet Γ kf_RX8_57 dX8_parseParts_124 (L := (tx_L s0 ca t (rt_r s0 tp) vals pos12 (nI e) k b nx11 fi11 pa11 wo ke nu le lu)) rfl rfl ?_
  refine rt_aload_n dX8_parseParts_127 rfl (j := 5) rfl ?_
  refine rt_bGet Γ kf_RX8_67 dX8_parseParts_128 (L := (tx_L s0 ca t (rt_r s0 tp) vals pos12 (nI e) k b nx11 fi11 pa11 wo ke nu le lu)) rfl rfl ?_
  refine rt_callV Γ kk_X0_peek kc_RX8_86 (c_X0_peek Γ (d := d - 1) (x := pos12) (hT.bk htp) hn) (by omega) (by decide) (As := [.int pos12]) (show (parseMethodDescriptor yX0_peek.desc).map (fun q => q.parameters.length) = some 1 by decide +kernel) hok (Nat.le_of_ble_eq_true rfl) dX8_parseParts_131 (hT.bk htp).1 rfl rfl rfl (rt_kr (st2 := [.int (cl_peek n f u pos12)]) rfl ?_) rt_kx
  refine rt_topi (fun y2 _ => ?_)
  refine rt_istore (lv' := [(6, .int y2), (4, .int x), (5, .int j), (3, .int dq), (2, .int cl), (1, .int v), (0, rt_r s0 t)]) dX8_parseParts_134 (by decide) rfl ?_
  refine rt_iload dX8_parseParts_136 (j := 0) rfl ?_
  refine rt_bipush (v := 44) dX8_parseParts_138 (by decide) ?_
  refine rt_icmp_eq (tgt := 158) dX8_parseParts_140 (by decide) (fun c140 => ?_) (fun c140 => ?_)
  · refine rt_aload_n dX8_parseParts_158 rfl (j := 6) rfl ?_
    refine rt_dup dX8_parseParts_159 rfl ?_
    refine rt_bGet Γ kf_RX8_67 dX8_parseParts_160 (L := (tx_L s0 ca t (rt_r s0 tp) vals pos12 (nI e) k b nx11 fi11 pa11 wo ke nu le lu)) rfl rfl ?_
    refine rt_iconst (v := 1) dX8_parseParts_163 (by decide) ?_
    refine rt_iadd dX8_parseParts_164 ?_
    refine rt_bPut Γ kp_RX8_67 dX8_parseParts_165 (L := (tx_L s0 ca t (rt_r s0 tp) vals pos12 (nI e) k b nx11 fi11 pa11 wo ke nu le lu)) rfl (Nat.le_of_ble_eq_true rfl) rfl rfl (L' := (tx_L s0 ca t (rt_r s0 tp) vals (pos12 + 1) (nI e) k b nx11 fi11 pa11 wo ke nu le lu)) rfl ?_
    refine rt_iload dX8_parseParts_168 (j := 0) rfl ?_
    refine rt_iload_n dX8_parseParts_170 rfl (j := 4) rfl ?_
    refine rt_icmp_ne (tgt := 175) dX8_parseParts_171 (by decide) (fun c171 => ?_) (fun c171 => ?_)
    · refine rt_aload_n dX8_parseParts_175 rfl (j := 6) rfl ?_
      refine rt_callV Γ kk_X8_skipBlanks kc_RX8_73 (j_skipA Γ (d := d - 1) (by omega) hT hn htp hok) (by omega) (by decide) (As := []) (show (parseMethodDescriptor yX8_skipBlanks.desc).map (fun q => q.parameters.length) = some 0 by decide +kernel) hok (Nat.le_of_ble_eq_true rfl) dX8_parseParts_176 ((rt_bk_0 w t (tx_L s0 ca t (rt_r s0 tp) vals (pos12 + 1) (nI e) k b nx11 fi11 pa11 wo ke nu le lu) (Nat.le_of_ble_eq_true rfl)).trans rfl) rfl rfl rfl (fun v9 w9 hq => ?_) (fun X w9 hq => nomatch hq.1)
      obtain ⟨e9, pos13, rfl⟩ := hq
      cases e9
      show rt_Go l s0 G RX8 "parseParts" cX8_parseParts 7 (Option.none : Option FieldType) [] d _ _ (176 + 3) [(6, .int y2), (4, .int x), (5, .int j), (3, .int dq), (2, .int cl), (1, .int v), (0, rt_r s0 t)] [] (rt_bk w t (tx_L s0 ca t (rt_r s0 tp) vals pos13 (nI e) k b nx11 fi11 pa11 wo ke nu le lu))
      obtain ⟨y3, ey3⟩ : ∃ y : Int32, y = j + 1 := ⟨_, rfl⟩
      refine rt_iinc (v := y3) (lv' := [(5, .int y3), (6, .int y2), (4, .int x), (3, .int dq), (2, .int cl), (1, .int v), (0, rt_r s0 t)]) dX8_parseParts_179 (j := 2) rfl (by rw [ey3]; rfl) (by decide) rfl ?_
      refine rt_goto (tgt := 61) dX8_parseParts_182 (by decide) ?_
      refine rt_iload dX8_parseParts_61 (j := 0) rfl ?_
      refine rt_sipush (v := 4096) dX8_parseParts_63 (by decide) ?_
      refine rt_icmp_ge (tgt := 185) dX8_parseParts_66 (by decide) (fun c66 => ?_) (fun c66 => ?_)
      · exact rt_vret dX8_parseParts_185 rfl (⟨rfl, _, _, _, _, _, _, _, _, _, _, _, _, rfl⟩)
      · refine rt_aload_n dX8_parseParts_69 rfl (j := 6) rfl ?_
        refine rt_bGet Γ kf_RX8_70 dX8_parseParts_70 (L := (tx_L s0 ca t (rt_r s0 tp) vals pos13 (nI e) k b nx11 fi11 pa11 wo ke nu le lu)) rfl rfl ?_
        refine rt_iconst (v := (-1)) dX8_parseParts_73 (by decide) ?_
        refine rt_icmp_ne (tgt := 185) dX8_parseParts_74 (by decide) (fun _ => ?_) (fun c74 => absurd c74 hw)
        exact rt_vret dX8_parseParts_185 rfl (⟨rfl, _, _, _, _, _, _, _, _, _, _, _, _, rfl⟩)
    · exact rt_vret dX8_parseParts_174 rfl (⟨rfl, _, _, _, _, _, _, _, _, _, _, _, _, rfl⟩)
  · refine rt_iload dX8_parseParts_143 (j := 0) rfl ?_
    refine rt_iload_n dX8_parseParts_145 rfl (j := 4) rfl ?_
    refine rt_icmp_eq (tgt := 158) dX8_parseParts_146 (by decide) (fun c146 => ?_) (fun c146 => ?_)
    · refine rt_aload_n dX8_parseParts_158 rfl (j := 6) rfl ?_
      refine rt_dup dX8_parseParts_159 rfl ?_
      refine rt_bGet Γ kf_RX8_67 dX8_parseParts_160 (L := (tx_L s0 ca t (rt_r s0 tp) vals pos12 (nI e) k b nx11 fi11 pa11 wo ke nu le lu)) rfl rfl ?_
      refine rt_iconst (v := 1) dX8_parseParts_163 (by decide) ?_
      refine rt_iadd dX8_parseParts_164 ?_
      refine rt_bPut Γ kp_RX8_67 dX8_parseParts_165 (L := (tx_L s0 ca t (rt_r s0 tp) vals pos12 (nI e) k b nx11 fi11 pa11 wo ke nu le lu)) rfl (Nat.le_of_ble_eq_true rfl) rfl rfl (L' := (tx_L s0 ca t (rt_r s0 tp) vals (pos12 + 1) (nI e) k b nx11 fi11 pa11 wo ke nu le lu)) rfl ?_
      refine rt_iload dX8_parseParts_168 (j := 0) rfl ?_
      refine rt_iload_n dX8_parseParts_170 rfl (j := 4) rfl ?_
      refine rt_icmp_ne (tgt := 175) dX8_parseParts_171 (by decide) (fun c171 => ?_) (fun c171 => ?_)
      · refine rt_aload_n dX8_parseParts_175 rfl (j := 6) rfl ?_
        refine rt_callV Γ kk_X8_skipBlanks kc_RX8_73 (j_skipA Γ (d := d - 1) (by omega) hT hn htp hok) (by omega) (by decide) (As := []) (show (parseMethodDescriptor yX8_skipBlanks.desc).map (fun q => q.parameters.length) = some 0 by decide +kernel) hok (Nat.le_of_ble_eq_true rfl) dX8_parseParts_176 ((rt_bk_0 w t (tx_L s0 ca t (rt_r s0 tp) vals (pos12 + 1) (nI e) k b nx11 fi11 pa11 wo ke nu le lu) (Nat.le_of_ble_eq_true rfl)).trans rfl) rfl rfl rfl (fun v9 w9 hq => ?_) (fun X w9 hq => nomatch hq.1)
        obtain ⟨e9, pos14, rfl⟩ := hq
        cases e9
        show rt_Go l s0 G RX8 "parseParts" cX8_parseParts 7 (Option.none : Option FieldType) [] d _ _ (176 + 3) [(6, .int y2), (4, .int x), (5, .int j), (3, .int dq), (2, .int cl), (1, .int v), (0, rt_r s0 t)] [] (rt_bk w t (tx_L s0 ca t (rt_r s0 tp) vals pos14 (nI e) k b nx11 fi11 pa11 wo ke nu le lu))
        obtain ⟨y3, ey3⟩ : ∃ y : Int32, y = j + 1 := ⟨_, rfl⟩
        refine rt_iinc (v := y3) (lv' := [(5, .int y3), (6, .int y2), (4, .int x), (3, .int dq), (2, .int cl), (1, .int v), (0, rt_r s0 t)]) dX8_parseParts_179 (j := 2) rfl (by rw [ey3]; rfl) (by decide) rfl ?_
        refine rt_goto (tgt := 61) dX8_parseParts_182 (by decide) ?_
        refine rt_iload dX8_parseParts_61 (j := 0) rfl ?_
        refine rt_sipush (v := 4096) dX8_parseParts_63 (by decide) ?_
        refine rt_icmp_ge (tgt := 185) dX8_parseParts_66 (by decide) (fun c66 => ?_) (fun c66 => ?_)
        · exact rt_vret dX8_parseParts_185 rfl (⟨rfl, _, _, _, _, _, _, _, _, _, _, _, _, rfl⟩)
        · refine rt_aload_n dX8_parseParts_69 rfl (j := 6) rfl ?_
          refine rt_bGet Γ kf_RX8_70 dX8_parseParts_70 (L := (tx_L s0 ca t (rt_r s0 tp) vals pos14 (nI e) k b nx11 fi11 pa11 wo ke nu le lu)) rfl rfl ?_
          refine rt_iconst (v := (-1)) dX8_parseParts_73 (by decide) ?_
          refine rt_icmp_ne (tgt := 185) dX8_parseParts_74 (by decide) (fun _ => ?_) (fun c74 => absurd c74 hw)
          exact rt_vret dX8_parseParts_185 rfl (⟨rfl, _, _, _, _, _, _, _, _, _, _, _, _, rfl⟩)
      · exact rt_vret dX8_parseParts_174 rfl (⟨rfl, _, _, _, _, _, _, _, _, _, _, _, _, rfl⟩)
    · refine rt_aload_n dX8_parseParts_149 rfl (j := 6) rfl ?_
      refine rt_aload_n dX8_parseParts_150 rfl (j := 6) rfl ?_
      refine rt_bGet Γ kf_RX8_67 dX8_parseParts_151 (L := (tx_L s0 ca t (rt_r s0 tp) vals pos12 (nI e) k b nx11 fi11 pa11 wo ke nu le lu)) rfl rfl ?_
      refine rt_callV Γ kk_X8_fail kc_RX8_83 (c_X8_fail1 Γ (d := d - 1) hw) (by omega) (by decide) (As := [.int pos12]) (show (parseMethodDescriptor yX8_fail.desc).map (fun q => q.parameters.length) = some 1 by decide +kernel) hok (Nat.le_of_ble_eq_true rfl) dX8_parseParts_154 ((rt_bk_0 w t (tx_L s0 ca t (rt_r s0 tp) vals pos12 (nI e) k b nx11 fi11 pa11 wo ke nu le lu) (Nat.le_of_ble_eq_true rfl)).trans rfl) rfl rfl rfl (rt_kr (st2 := []) rfl ?_) rt_kx
      exact rt_vret dX8_parseParts_157 rfl (⟨rfl, _, _, _, _, _, _, _, _, _, _, _, _, rfl⟩)
/-- parseValue keeps its promise, with the fuel m -/
def jIV (l : Launch) (s0 : State) (G : va_G) (ca : Nat → ClassId) (w : rt_Wd) (t tp N : Nat) (g : Nat → Int32) (m : Nat) : Prop :=
  ∀ (d dp p V L : Nat) (k b nx fi pa wo ke : Nat → Int32) (nu : Nat → Int64) (le : Nat → Int32), 2 * (25 - dp) + 6 ≤ d → dp ≤ 24 → p ≤ N → V ≤ p → L ≤ p → 2 * (N - p) + 1 ≤ m →
    (∀ e : Nat, jGo g m none dp p = .error e → rt_Met l s0 G (.code yX8_parseValue cX8_parseValue 4 (Option.some FieldType.int)) yX8_parseValue d [rt_r s0 t, .int (nI dp)] (rt_bk w t (tx_L s0 ca t (rt_r s0 tp) (nI V) (nI p) (-1) k b nx fi pa wo ke nu le (nI L))) (fun r w1 => r = .inl (some (.int (nI V))) ∧ tx_B s0 ca w t tp e w1)) ∧
    (∀ (xs : List JR) (c q : Nat), jGo g m none dp p = .ok (xs, c, q) → rt_Met l s0 G (.code yX8_parseValue cX8_parseValue 4 (Option.some FieldType.int)) yX8_parseValue d [rt_r s0 t, .int (nI dp)] (rt_bk w t (tx_L s0 ca t (rt_r s0 tp) (nI V) (nI p) (-1) k b nx fi pa wo ke nu le (nI L))) (jVO s0 ca w t tp V L q k b nx fi pa wo ke nu le xs))
/-- the parts from V on stand, c of them behind c0 of V0's: behind parseParts -/
def jPO (s0 : State) (ca : Nat → ClassId) (w : rt_Wd) (t tp V0 V L q c0 c : Nat) (la : Int32) (k b nx fi pa wo ke : Nat → Int32) (nu : Nat → Int64) (le : Nat → Int32) (xs : List JR) (r : rt_Res) (w1 : rt_Wd) : Prop :=
  r = .inl none ∧ ∃ (k1 b1 nx1 fi1 pa1 wo1 ke1 : Nat → Int32) (nu1 : Nat → Int64) (le1 : Nat → Int32), w1 = rt_bk w t (tx_L s0 ca t (rt_r s0 tp) (nI (V + xs.length)) (nI q) (-1) k1 b1 nx1 fi1 pa1 wo1 ke1 nu1 le1 (nI (L + jLw xs))) ∧
    (∀ i : Nat, i < V → k1 i = k i ∧ b1 i = b i ∧ wo1 i = wo i ∧ ke1 i = ke i ∧ nu1 i = nu i) ∧ (∀ i : Nat, i < V → ¬ i = V0 → fi1 i = fi i ∧ pa1 i = pa i) ∧ (∀ i : Nat, i < V → ¬ la = nI i → nx1 i = nx i) ∧
    fi1 V0 = (if la = -1 then nI V else fi V0) ∧ pa1 V0 = nI (c0 + c) ∧ (∀ i : Nat, i < V → la = nI i → nx1 i = nI V) ∧ (∀ i : Nat, i < L → le1 i = le i) ∧ jRep k1 b1 nx1 fi1 pa1 wo1 ke1 nu1 le1 (L + jLw xs) xs V
theorem nI_m1 {a : Nat} (h : a < 2 ^ 31) : ¬ nI a = -1 := nI_nm1 h
theorem jRise_mem {V : Nat} {ms : List (Nat × List Int32)} {lo : Nat} {z : Nat × List Int32} (h : jRise V ms lo) (hz : z ∈ ms) : z.1 < V := by
  induction ms generalizing lo with
  | nil => exact nomatch hz
  | cons m r ih =>
    rcases List.mem_cons.mp hz with e | e
    · rw [e]; exact h.2.1
    · exact ih h.2.2 e
theorem jLast_ne {V i : Nat} {ms : List (Nat × List Int32)} {lo : Nat} (h : jRise V ms lo) (hi : V ≤ i) (h31 : i < 2 ^ 31) : ¬ jLast ms = nI i := by
  intro c
  cases ms with
  | nil => exact nI_nm1 h31 c.symm
  | cons m r =>
    obtain ⟨la, e, h1, h2⟩ := jLast_lo h (by simp)
    have := (nI_eq (by omega) h31).mp (e.symm.trans c)
    omega
theorem jLast_nil {V : Nat} {ms : List (Nat × List Int32)} {lo : Nat} (h : jRise V ms lo) (hV : V < 2 ^ 31) : jLast ms = -1 ↔ ms = [] := by
  constructor
  · intro c
    cases ms with
    | nil => rfl
    | cons m r =>
      obtain ⟨la, e, h1, h2⟩ := jLast_lo h (by simp)
      exact absurd (e.symm.trans c) (nI_nm1 (by omega))
  · rintro rfl
    rfl
section RTm
variable {l : Launch} {s0 : State} {G : va_G} {own nm : String} {cc : ByteArray} {nL : Nat} {ret : Option FieldType} {tab : List ExceptionTableEntry} {d : Nat} {w0 w : rt_Wd} {Q Q' : rt_Res → rt_Wd → Prop} {pc : Nat} {lv : List (Nat × Value)} {st : List Value}
theorem rt_gmono (h : ∀ (r : rt_Res) (w1 : rt_Wd), Q r w1 → Q' r w1) (kk : rt_Go l s0 G own nm cc nL ret tab d w0 Q pc lv st w) : rt_Go l s0 G own nm cc nL ret tab d w0 Q' pc lv st w := by
  intro p e s m args below meth c E H locs ls hP h1 h2 hS hl T hT X
  obtain ⟨t, a, o, b1, b2, r, w1, L, hq, rest⟩ := kk p e s m args below meth c E H locs ls hP h1 h2 hS hl T hT X
  exact ⟨t, a, o, b1, b2, r, w1, L, h r w1 hq, rest⟩
end RTm
set_option maxHeartbeats 4000000 in
set_option maxRecDepth 100000 in
theorem j_ppLf {l : Launch} {s0 : State} {a0 : Array Value} {G : va_G} {ca : Nat → ClassId} (Γ : rt_Γ l s0 a0 G ca) {d : Nat} {w v0 : rt_Wd} {t : Nat} {Q : rt_Res → rt_Wd → Prop} {dp V0 N : Nat} {tp n : Nat} {f : Nat → Int32} {u : Int32} {g : Nat → Int32} (hT : rt_C s0 ca w tp n f u) (hn : n < 2 ^ 31) (htp : tp + 1 < t ∨ t + 18 ≤ tp) (hg : ∀ p : Nat, p < 65536 → cl_peek n f u (nI p) = g p) (hok : rt_ok w) (hN : jT g N) (hd : 2 * (25 - dp) + 5 ≤ d) (hdp : dp < 24) : ∀ (m : Nat), (∀ i : Nat, i < m → jIV l s0 G ca w t tp N g i) → ∀ (ms : List (Nat × List Int32)) (ks : List (List Int32)) (p V L j : Nat) (k b nx fi pa wo ke : Nat → Int32) (nu : Nat → Int64) (le : Nat → Int32), p ≤ N → V ≤ p → L ≤ p → V0 < V → 2 * (N - p) + 2 ≤ m → j + (N - p) < 4096 → k V0 = nI 2 → pa V0 = nI ms.length → jChn nx ms (fi V0) → jRise V ms V0 → (∀ e : Nat, jGo g m (some (false, ks)) dp p = .error e → ∀ w1 : rt_Wd, tx_B s0 ca w t tp e w1 → Q (.inl none) w1) → (∀ (xs : List JR) (c q : Nat), jGo g m (some (false, ks)) dp p = .ok (xs, c, q) → ∀ w1 : rt_Wd, jPO s0 ca w t tp V0 V L q ms.length c (jLast ms) k b nx fi pa wo ke nu le xs (.inl none) w1 → Q (.inl none) w1) → rt_Go l s0 G RX8 "parseParts" cX8_parseParts 7 (Option.none : Option FieldType) [] d v0 Q 61 [(5, .int (nI j)), (4, .int (jLast ms)), (3, .int (nI dp)), (2, .int 93), (1, .int (nI V0)), (0, rt_r s0 t)] [] (rt_bk w t (tx_L s0 ca t (rt_r s0 tp) (nI V) (nI p) (-1) k b nx fi pa wo ke nu le (nI L))) := by
  have hN0 := hN.1
  intro m
  induction m with
  | zero =>
    intro hIV ms ks p V L j k b nx fi pa wo ke nu le hp hVp hLp hV0 hm
    exact absurd hm (by omega)
  | succ m ih =>
    intro hIV ms ks p V L j k b nx fi pa wo ke nu le hp hVp hLp hV0 hm hj hkd hpa hch hri kE kO
    refine rt_iload dX8_parseParts_61 (j := 0) rfl ?_
    refine rt_sipush (v := 4096) dX8_parseParts_63 (by decide) ?_
    refine rt_icmp_ge (tgt := 185) dX8_parseParts_66 (by decide) (fun c66 => absurd c66 (show ¬ nI 4096 ≤ nI j from nI_ge (by omega) (by decide))) (fun _ => ?_)
    refine rt_aload_n dX8_parseParts_69 rfl (j := 5) rfl ?_
    refine rt_bGet Γ kf_RX8_70 dX8_parseParts_70 (L := (tx_L s0 ca t (rt_r s0 tp) (nI V) (nI p) (-1) k b nx fi pa wo ke nu le (nI L))) rfl rfl ?_
    refine rt_iconst (v := (-1)) dX8_parseParts_73 (by decide) ?_
    refine rt_icmp_ne (tgt := 185) dX8_parseParts_74 (by decide) (fun c74 => absurd c74 (fun h => h rfl)) (fun _ => ?_)
    refine rt_aload_n dX8_parseParts_77 rfl (j := 5) rfl ?_
    refine rt_bGet Γ kf_RX8_16 dX8_parseParts_78 (L := (tx_L s0 ca t (rt_r s0 tp) (nI V) (nI p) (-1) k b nx fi pa wo ke nu le (nI L))) rfl rfl ?_
    refine rt_iload_n dX8_parseParts_81 rfl (j := 4) rfl ?_
    refine rt_callV Γ kk_X0_at kc_RX8_45 (c_X0_at Γ (d := d - 1) (x := (nI V0)) (rt_bk_C (t := t) (L := (tx_L s0 ca t (rt_r s0 tp) (nI V) (nI p) (-1) k b nx fi pa wo ke nu le (nI L))) 1 (Nat.le_of_ble_eq_true rfl) rfl rfl) (by decide)) (by omega) (by decide) (As := [.int (nI V0)]) (show (parseMethodDescriptor yX0_at.desc).map (fun q => q.parameters.length) = some 1 by decide +kernel) hok (Nat.le_of_ble_eq_true rfl) dX8_parseParts_82 (rt_bk_C (t := t) (L := (tx_L s0 ca t (rt_r s0 tp) (nI V) (nI p) (-1) k b nx fi pa wo ke nu le (nI L))) 1 (Nat.le_of_ble_eq_true rfl) rfl rfl).1 rfl rfl rfl (rt_kr (st2 := [.int (cl_at 2073 k (nI V0))]) rfl ?_) rt_kx
    refine rt_te (y := nI 2) (by rw [cl_atN (by omega) (by decide)]; exact hkd) ?_
    refine rt_iconst (v := 1) dX8_parseParts_85 (by decide) ?_
    refine rt_icmp_ne (tgt := 94) dX8_parseParts_86 (by decide) (fun _ => ?_) (fun c86 => absurd c86 (by decide))
    refine rt_aload_n dX8_parseParts_94 rfl (j := 5) rfl ?_
    refine rt_bGet Γ kf_RX8_70 dX8_parseParts_95 (L := (tx_L s0 ca t (rt_r s0 tp) (nI V) (nI p) (-1) k b nx fi pa wo ke nu le (nI L))) rfl rfl ?_
    refine rt_iconst (v := (-1)) dX8_parseParts_98 (by decide) ?_
    refine rt_icmp_eq (tgt := 103) dX8_parseParts_99 (by decide) (fun _ => ?_) (fun c99 => absurd rfl c99)
    refine rt_aload_n dX8_parseParts_103 rfl (j := 5) rfl ?_
    refine rt_iload_n dX8_parseParts_104 rfl (j := 4) rfl ?_
    refine rt_iload dX8_parseParts_105 (j := 1) rfl ?_
    refine rt_aload_n dX8_parseParts_107 rfl (j := 5) rfl ?_
    refine rt_iload_n dX8_parseParts_108 rfl (j := 2) rfl ?_
    refine rt_iconst (v := 1) dX8_parseParts_109 (by decide) ?_
    refine rt_iadd dX8_parseParts_110 ?_
    refine rt_te (y := nI (dp + 1)) (nI_1 dp) ?_
    have iv := hIV m (by omega) (d - 1) (dp + 1) p V L k b nx fi pa wo ke nu le (by omega) (by omega) (by omega) (by omega) (by omega) (by omega)
    cases hv : jGo g m none (dp + 1) p with
    | error e =>
      have hge : jGo g (m + 1) (some (false, ks)) dp p = .error e := by unfold jGo; rw [show jKey g false ks p = .ok (none, p) from rfl]; dsimp only; rw [hv]
      have hlt := jGo_lt hN _ _ _ _ _ hp hge
      refine rt_callV Γ kk_X8_parseValue kc_RX8_76 (iv.1 e hv) (by omega) (by decide) (As := [.int (nI (dp + 1))]) (show (parseMethodDescriptor yX8_parseValue.desc).map (fun q => q.parameters.length) = some 1 by decide +kernel) hok (Nat.le_of_ble_eq_true rfl) dX8_parseParts_111 ((rt_bk_0 w t (tx_L s0 ca t (rt_r s0 tp) (nI V) (nI p) (-1) k b nx fi pa wo ke nu le (nI L)) (Nat.le_of_ble_eq_true rfl)).trans rfl) rfl rfl rfl (fun v9 w9 hq => ?_) (fun X w9 hq => nomatch hq.1)
      obtain ⟨e9, vals15, pos15, k15, b15, nx15, fi15, pa15, wo15, ke15, nu15, le15, lu15, rfl⟩ := hq
      cases e9
      show rt_Go l s0 G RX8 "parseParts" cX8_parseParts 7 (Option.none : Option FieldType) [] d _ _ (111 + 3) [(5, .int (nI j)), (4, .int (jLast ms)), (3, .int (nI dp)), (2, .int 93), (1, .int (nI V0)), (0, rt_r s0 t)] [.int (nI V), .int (jLast ms), .int (nI V0), rt_r s0 t] (rt_bk w t (tx_L s0 ca t (rt_r s0 tp) vals15 pos15 (nI e) k15 b15 nx15 fi15 pa15 wo15 ke15 nu15 le15 lu15))
      exact rt_gmono (fun r w1 h => by obtain ⟨rfl, h⟩ := h; exact kE e hge w1 h) (rt_lfew [0, 1, 2, 3, 4, 5] rfl (j_ppX Γ (e := e) (by omega) (by omega) hT hn htp hok))
    | ok r1 =>
      obtain ⟨xs1, c1, p2⟩ := r1
      have hb := jGo_ok hN _ _ _ _ _ _ _ hp hv
      obtain ⟨⟨x, ys, hx, hsz, hxk, hxm⟩, hc1⟩ := hb.2.2.2.2.2 rfl
      refine rt_callV Γ kk_X8_parseValue kc_RX8_76 (iv.2 _ _ _ hv) (by omega) (by decide) (As := [.int (nI (dp + 1))]) (show (parseMethodDescriptor yX8_parseValue.desc).map (fun q => q.parameters.length) = some 1 by decide +kernel) hok (Nat.le_of_ble_eq_true rfl) dX8_parseParts_111 ((rt_bk_0 w t (tx_L s0 ca t (rt_r s0 tp) (nI V) (nI p) (-1) k b nx fi pa wo ke nu le (nI L)) (Nat.le_of_ble_eq_true rfl)).trans rfl) rfl rfl rfl (fun v9 w9 hq => ?_) (fun X w9 hq => nomatch hq.1)
      obtain ⟨e9, k1, b1, nx1, fi1, pa1, wo1, ke1, nu1, le1, rfl, hsame, hke, hle, hrep⟩ := hq
      cases e9
      show rt_Go l s0 G RX8 "parseParts" cX8_parseParts 7 (Option.none : Option FieldType) [] d _ _ (111 + 3) [(5, .int (nI j)), (4, .int (jLast ms)), (3, .int (nI dp)), (2, .int 93), (1, .int (nI V0)), (0, rt_r s0 t)] [.int (nI V), .int (jLast ms), .int (nI V0), rt_r s0 t] (rt_bk w t (tx_L s0 ca t (rt_r s0 tp) (nI (V + xs1.length)) (nI p2) (-1) k1 b1 nx1 fi1 pa1 wo1 ke1 nu1 le1 (nI (L + jLw xs1))))
      have hp1 : pa1 V0 = nI ms.length := (hsame V0 hV0).2.2.2.2.1.trans hpa
      have hn1 : nx1 V = -1 := by have h9 := (hrep 0 x (by rw [hx]; rfl)).2.2.2.2.1; rw [hxm] at h9; exact h9
      have cont : ∀ nx2 fi2 pa2 : Nat → Int32, (∀ i : Nat, ¬ jLast ms = nI i → nx2 i = nx1 i) → (∀ i : Nat, i < V → jLast ms = nI i → nx2 i = nI V) → (∀ i : Nat, i ≠ V0 → fi2 i = fi1 i) → fi2 V0 = (if jLast ms = -1 then nI V else fi V0) → (∀ i : Nat, i ≠ V0 → pa2 i = pa1 i) → pa2 V0 = nI (ms.length + 1) → rt_Go l s0 G RX8 "parseParts" cX8_parseParts 7 (Option.none : Option FieldType) [] d v0 Q 117 [(5, .int (nI j)), (4, .int (jLast ms)), (3, .int (nI dp)), (2, .int 93), (1, .int (nI V0)), (0, rt_r s0 t)] [.int (nI V)] (rt_bk w t (tx_L s0 ca t (rt_r s0 tp) (nI (V + xs1.length)) (nI p2) (-1) k1 b1 nx2 fi2 pa2 wo1 ke1 nu1 le1 (nI (L + jLw xs1)))) := by
        intro nx2 fi2 pa2 hnx hnl hfi hf0 hpa2 hp0
        refine rt_istore (lv' := [(4, .int (nI V)), (5, .int (nI j)), (3, .int (nI dp)), (2, .int 93), (1, .int (nI V0)), (0, rt_r s0 t)]) dX8_parseParts_117 (by decide) rfl ?_
        refine rt_aload_n dX8_parseParts_119 rfl (j := 5) rfl ?_
        refine rt_callV Γ kk_X8_skipBlanks kc_RX8_73 (j_skip Γ (d := d - 1) (by omega) hT hn htp hg hok (by omega)) (by omega) (by decide) (As := []) (show (parseMethodDescriptor yX8_skipBlanks.desc).map (fun q => q.parameters.length) = some 0 by decide +kernel) hok (Nat.le_of_ble_eq_true rfl) dX8_parseParts_120 ((rt_bk_0 w t (tx_L s0 ca t (rt_r s0 tp) (nI (V + xs1.length)) (nI p2) (-1) k1 b1 nx2 fi2 pa2 wo1 ke1 nu1 le1 (nI (L + jLw xs1))) (Nat.le_of_ble_eq_true rfl)).trans rfl) rfl rfl rfl (rt_kr (st2 := []) rfl ?_) rt_kx
        have hs5 := jSk_le hN 4096 p2 hb.2.2.1
        have hs6 := jSk_ge (g := g) 4096 p2
        refine rt_aload_n dX8_parseParts_123 rfl (j := 5) rfl ?_
        refine rt_bGet Γ kf_RX8_57 dX8_parseParts_124 (L := (tx_L s0 ca t (rt_r s0 tp) (nI (V + xs1.length)) (nI (jSk g 4096 p2)) (-1) k1 b1 nx2 fi2 pa2 wo1 ke1 nu1 le1 (nI (L + jLw xs1)))) rfl rfl ?_
        refine rt_aload_n dX8_parseParts_127 rfl (j := 5) rfl ?_
        refine rt_bGet Γ kf_RX8_67 dX8_parseParts_128 (L := (tx_L s0 ca t (rt_r s0 tp) (nI (V + xs1.length)) (nI (jSk g 4096 p2)) (-1) k1 b1 nx2 fi2 pa2 wo1 ke1 nu1 le1 (nI (L + jLw xs1)))) rfl rfl ?_
        refine rt_callV Γ kk_X0_peek kc_RX8_86 (c_X0_peek Γ (d := d - 1) (x := (nI (jSk g 4096 p2))) (hT.bk htp) hn) (by omega) (by decide) (As := [.int (nI (jSk g 4096 p2))]) (show (parseMethodDescriptor yX0_peek.desc).map (fun q => q.parameters.length) = some 1 by decide +kernel) hok (Nat.le_of_ble_eq_true rfl) dX8_parseParts_131 (hT.bk htp).1 rfl rfl rfl (rt_kr (st2 := [.int (cl_peek n f u (nI (jSk g 4096 p2)))]) rfl ?_) rt_kx
        refine rt_te (y := g (jSk g 4096 p2)) (hg (jSk g 4096 p2) (by omega)) ?_
        refine rt_istore (lv' := [(6, .int (g (jSk g 4096 p2))), (4, .int (nI V)), (5, .int (nI j)), (3, .int (nI dp)), (2, .int 93), (1, .int (nI V0)), (0, rt_r s0 t)]) dX8_parseParts_134 (by decide) rfl ?_
        refine rt_iload dX8_parseParts_136 (j := 0) rfl ?_
        refine rt_bipush (v := 44) dX8_parseParts_138 (by decide) ?_
        refine rt_icmp_eq (tgt := 158) dX8_parseParts_140 (by decide) (fun c140 => ?_) (fun c140 => ?_)
        · refine rt_aload_n dX8_parseParts_158 rfl (j := 6) rfl ?_
          refine rt_dup dX8_parseParts_159 rfl ?_
          refine rt_bGet Γ kf_RX8_67 dX8_parseParts_160 (L := (tx_L s0 ca t (rt_r s0 tp) (nI (V + xs1.length)) (nI (jSk g 4096 p2)) (-1) k1 b1 nx2 fi2 pa2 wo1 ke1 nu1 le1 (nI (L + jLw xs1)))) rfl rfl ?_
          refine rt_iconst (v := 1) dX8_parseParts_163 (by decide) ?_
          refine rt_iadd dX8_parseParts_164 ?_
          refine rt_te (y := nI (jSk g 4096 p2 + 1)) (nI_1 _) ?_
          refine rt_bPut Γ kp_RX8_67 dX8_parseParts_165 (L := (tx_L s0 ca t (rt_r s0 tp) (nI (V + xs1.length)) (nI (jSk g 4096 p2)) (-1) k1 b1 nx2 fi2 pa2 wo1 ke1 nu1 le1 (nI (L + jLw xs1)))) rfl (Nat.le_of_ble_eq_true rfl) rfl rfl (L' := (tx_L s0 ca t (rt_r s0 tp) (nI (V + xs1.length)) (nI (jSk g 4096 p2 + 1)) (-1) k1 b1 nx2 fi2 pa2 wo1 ke1 nu1 le1 (nI (L + jLw xs1)))) rfl ?_
          refine rt_iload dX8_parseParts_168 (j := 0) rfl ?_
          refine rt_iload_n dX8_parseParts_170 rfl (j := 4) rfl ?_
          refine rt_icmp_ne (tgt := 175) dX8_parseParts_171 (by decide) (fun _ => ?_) (fun c171 => absurd c171 (fun c => absurd (c140.symm.trans c) (by decide)))
          refine rt_aload_n dX8_parseParts_175 rfl (j := 6) rfl ?_
          refine rt_callV Γ kk_X8_skipBlanks kc_RX8_73 (j_skip Γ (d := d - 1) (by omega) hT hn htp hg hok (by omega)) (by omega) (by decide) (As := []) (show (parseMethodDescriptor yX8_skipBlanks.desc).map (fun q => q.parameters.length) = some 0 by decide +kernel) hok (Nat.le_of_ble_eq_true rfl) dX8_parseParts_176 ((rt_bk_0 w t (tx_L s0 ca t (rt_r s0 tp) (nI (V + xs1.length)) (nI (jSk g 4096 p2 + 1)) (-1) k1 b1 nx2 fi2 pa2 wo1 ke1 nu1 le1 (nI (L + jLw xs1))) (Nat.le_of_ble_eq_true rfl)).trans rfl) rfl rfl rfl (rt_kr (st2 := []) rfl ?_) rt_kx
          refine rt_iinc (v := nI (j + 1)) (lv' := [(5, .int (nI (j + 1))), (6, .int (g (jSk g 4096 p2))), (4, .int (nI V)), (3, .int (nI dp)), (2, .int 93), (1, .int (nI V0)), (0, rt_r s0 t)]) dX8_parseParts_179 (j := 2) rfl ((nI_1 j).symm ▸ rfl) (by decide) rfl ?_
          refine rt_goto (tgt := 61) dX8_parseParts_182 (by decide) ?_
          have hl44 : jSk g 4096 p2 < N := hN.lt (by rw [c140]; decide)
          have hs7 := jSk_le hN 4096 (jSk g 4096 p2 + 1) (by omega)
          have hs8 := jSk_ge (g := g) 4096 (jSk g 4096 p2 + 1)
          have hwt : jLw (jHd none true xs1) = jLw xs1 + jwl none := by rw [hx, jLw_hd hxk]
          have kE1 : ∀ e : Nat, jGo g m (some (false, (ks ++ (none : Option (List Int32)).toList))) dp (jSk g 4096 (jSk g 4096 p2 + 1)) = .error e → ∀ w1 : rt_Wd, tx_B s0 ca w t tp e w1 → Q (.inl none) w1 := fun e he w1 h => kE e (by unfold jGo; rw [show jKey g false ks p = .ok (none, p) from rfl]; dsimp only; rw [hv]; dsimp only; rw [if_pos c140, he]) w1 h
          have hh := ih (fun i hi => hIV i (by omega)) (ms ++ [(V, [])]) (ks ++ (none : Option (List Int32)).toList) (jSk g 4096 (jSk g 4096 p2 + 1)) (V + xs1.length) (L + jLw xs1) (j + 1) k1 b1 nx2 fi2 pa2 wo1 ke1 nu1 le1 hs7 (by omega) (by omega) (by omega) (by omega) (by omega) ((hsame V0 hV0).1.trans hkd) (by rw [hp0, List.length_append]; rfl) (by rw [hf0]; simp only [jLast_nil hri (by omega)]; exact hch.app (by omega) hri ((hnx V (jLast_ne hri (Nat.le_refl V) (by omega))).trans hn1) (fun i hi c => (hnx i c).trans (hsame i hi).2.2.1) hnl) (hri.app hV0 (Nat.le_refl V) (by omega)) kE1 ?_
          · rw [jLast_app] at hh; exact rt_lfew [0, 2, 3, 4, 5, 6] rfl hh
          intro xs c q he w1 h
          refine kO (jHd none true xs1 ++ xs) (c + 1) q (by unfold jGo; rw [show jKey g false ks p = .ok (none, p) from rfl]; dsimp only; rw [hv]; dsimp only; rw [if_pos c140, he]) w1 ?_
          obtain ⟨e9, k3, b3, nx3, fi3, pa3, wo3, ke3, nu3, le3, rfl, g1, g2, g3, g4, g5, g6, g7, g8⟩ := h
          rw [jLast_app] at g3 g4 g6
          have nV : ∀ i : Nat, i < V + xs1.length → ¬ i = V → ¬ nI V = nI i := fun i hi h1 c => h1 ((nI_eq (by omega) (by omega)).mp c).symm
          have hlu : L + jLw xs1 + jLw xs = L + jLw (jHd none true xs1 ++ xs) := by rw [jLw_app, hwt]; show L + jLw xs1 + jLw xs = L + (jLw xs1 + 0 + jLw xs); omega
          have hln : V + xs1.length + xs.length = V + (jHd none true xs1 ++ xs).length := by rw [List.length_append, jHd_len]; omega
          refine ⟨rfl, k3, b3, nx3, fi3, pa3, wo3, ke3, nu3, le3, by rw [← hlu, ← hln], fun i hi => ?_, fun i hi h0 => ?_, fun i hi c => ?_, ?_, ?_, fun i hi c => ?_, fun i hi => (g7 i (by omega)).trans (hle i hi), ?_⟩
          · have z := g1 i (by omega); exact ⟨z.1.trans (hsame i hi).1, z.2.1.trans (hsame i hi).2.1, z.2.2.1.trans (hsame i hi).2.2.2.2.2.1, z.2.2.2.1.trans (hsame i hi).2.2.2.2.2.2.1, z.2.2.2.2.trans (hsame i hi).2.2.2.2.2.2.2⟩
          · have z := g2 i (by omega) h0; exact ⟨(z.1.trans (hfi i h0)).trans (hsame i hi).2.2.2.1, (z.2.trans (hpa2 i h0)).trans (hsame i hi).2.2.2.2.1⟩
          · exact (g3 i (by omega) (nV i (by omega) (by omega))).trans ((hnx i c).trans (hsame i hi).2.2.1)
          · rw [g4, if_neg (nI_nm1 (by omega)), hf0]
          · rw [g5, List.length_append, List.length_singleton, Nat.add_assoc, Nat.add_comm 1 c]
          · exact (g3 i (by omega) (nV i (by omega) (by omega))).trans (hnl i hi c)
          · rw [← hlu]
            have base : jRep k3 b3 nx1 fi3 pa3 wo3 ke3 nu3 le3 (L + jLw xs1 + jLw xs) xs1 V := hrep.mono (fun i h1 h2 => by have z := g1 i h2; have y := g2 i h2 (by omega); exact ⟨z.1, z.2.1, rfl, y.1.trans (hfi i (by omega)), y.2.trans (hpa2 i (by omega)), z.2.2.1, z.2.2.2.1, z.2.2.2.2⟩) (by omega) (fun i hi => g7 i hi)
            refine jRep.app ?_ (by rw [jHd_len]; exact g8)
            have hyl : xs1.length = ys.length + 1 := by rw [hx]; rfl
            subst hx
            exact base.hd (nx' := nx3) (fun ws c => nomatch c) ((g6 V (by simp) rfl).trans (by rw [if_pos rfl, hsz])) (fun i h1 h2 => (g3 i (by simp; omega) (nV i (by simp; omega) (by omega))).trans (hnx i (jLast_ne hri (by omega) (by omega))))
        · refine rt_iload dX8_parseParts_143 (j := 0) rfl ?_
          refine rt_iload_n dX8_parseParts_145 rfl (j := 4) rfl ?_
          refine rt_icmp_eq (tgt := 158) dX8_parseParts_146 (by decide) (fun c146 => ?_) (fun c146 => ?_)
          · refine rt_aload_n dX8_parseParts_158 rfl (j := 6) rfl ?_
            refine rt_dup dX8_parseParts_159 rfl ?_
            refine rt_bGet Γ kf_RX8_67 dX8_parseParts_160 (L := (tx_L s0 ca t (rt_r s0 tp) (nI (V + xs1.length)) (nI (jSk g 4096 p2)) (-1) k1 b1 nx2 fi2 pa2 wo1 ke1 nu1 le1 (nI (L + jLw xs1)))) rfl rfl ?_
            refine rt_iconst (v := 1) dX8_parseParts_163 (by decide) ?_
            refine rt_iadd dX8_parseParts_164 ?_
            refine rt_te (y := nI (jSk g 4096 p2 + 1)) (nI_1 _) ?_
            refine rt_bPut Γ kp_RX8_67 dX8_parseParts_165 (L := (tx_L s0 ca t (rt_r s0 tp) (nI (V + xs1.length)) (nI (jSk g 4096 p2)) (-1) k1 b1 nx2 fi2 pa2 wo1 ke1 nu1 le1 (nI (L + jLw xs1)))) rfl (Nat.le_of_ble_eq_true rfl) rfl rfl (L' := (tx_L s0 ca t (rt_r s0 tp) (nI (V + xs1.length)) (nI (jSk g 4096 p2 + 1)) (-1) k1 b1 nx2 fi2 pa2 wo1 ke1 nu1 le1 (nI (L + jLw xs1)))) rfl ?_
            refine rt_iload dX8_parseParts_168 (j := 0) rfl ?_
            refine rt_iload_n dX8_parseParts_170 rfl (j := 4) rfl ?_
            refine rt_icmp_ne (tgt := 175) dX8_parseParts_171 (by decide) (fun c171 => absurd c171 (fun c => c c146)) (fun _ => ?_)
            have hwt : jLw (jHd none false xs1) = jLw xs1 + jwl none := by rw [hx, jLw_hd hxk]
            have hlu : L + jLw xs1 = L + jLw (jHd none false xs1) := by rw [hwt]; rfl
            have hge : jGo g (m + 1) (some (false, ks)) dp p = .ok (jHd none false xs1, 1, jSk g 4096 p2 + 1) := by unfold jGo; rw [show jKey g false ks p = .ok (none, p) from rfl]; dsimp only; rw [hv]; dsimp only; rw [if_neg c140]; exact if_pos c146
            refine rt_vret dX8_parseParts_174 rfl (kO _ _ _ hge _ ⟨rfl, k1, b1, nx2, fi2, pa2, wo1, ke1, nu1, le1, by rw [← hlu, jHd_len], fun i hi => ⟨(hsame i hi).1, (hsame i hi).2.1, (hsame i hi).2.2.2.2.2.1, (hsame i hi).2.2.2.2.2.2.1, (hsame i hi).2.2.2.2.2.2.2⟩, fun i hi h0 => ⟨(hfi i h0).trans (hsame i hi).2.2.2.1, (hpa2 i h0).trans (hsame i hi).2.2.2.2.1⟩, fun i hi c => (hnx i c).trans (hsame i hi).2.2.1, hf0, hp0, hnl, hle, ?_⟩)
            rw [← hlu]
            have base : jRep k1 b1 nx1 fi2 pa2 wo1 ke1 nu1 le1 (L + jLw xs1) xs1 V := hrep.mono (fun i h1 h2 => ⟨rfl, rfl, rfl, hfi i (by omega), hpa2 i (by omega), rfl, rfl, rfl⟩) (Nat.le_refl _) (fun _ _ => rfl)
            have hyl : xs1.length = ys.length + 1 := by rw [hx]; rfl
            subst hx
            exact base.hd (nx' := nx2) (fun ws c => nomatch c) ((hnx V (jLast_ne hri (Nat.le_refl V) (by omega))).trans hn1) (fun i h1 h2 => hnx i (jLast_ne hri (by omega) (by simp at *; omega)))
          · have hge : jGo g (m + 1) (some (false, ks)) dp p = .error (jSk g 4096 p2) := by unfold jGo; rw [show jKey g false ks p = .ok (none, p) from rfl]; dsimp only; rw [hv]; dsimp only; rw [if_neg c140]; exact if_neg c146
            refine rt_aload_n dX8_parseParts_149 rfl (j := 6) rfl ?_
            refine rt_aload_n dX8_parseParts_150 rfl (j := 6) rfl ?_
            refine rt_bGet Γ kf_RX8_67 dX8_parseParts_151 (L := (tx_L s0 ca t (rt_r s0 tp) (nI (V + xs1.length)) (nI (jSk g 4096 p2)) (-1) k1 b1 nx2 fi2 pa2 wo1 ke1 nu1 le1 (nI (L + jLw xs1)))) rfl rfl ?_
            refine rt_callV Γ kk_X8_fail kc_RX8_83 (c_X8_fail0 Γ (d := d - 1)) (by omega) (by decide) (As := [.int (nI (jSk g 4096 p2))]) (show (parseMethodDescriptor yX8_fail.desc).map (fun q => q.parameters.length) = some 1 by decide +kernel) hok (Nat.le_of_ble_eq_true rfl) dX8_parseParts_154 ((rt_bk_0 w t (tx_L s0 ca t (rt_r s0 tp) (nI (V + xs1.length)) (nI (jSk g 4096 p2)) (-1) k1 b1 nx2 fi2 pa2 wo1 ke1 nu1 le1 (nI (L + jLw xs1))) (Nat.le_of_ble_eq_true rfl)).trans rfl) rfl rfl rfl (rt_kr (st2 := []) rfl ?_) rt_kx
            exact rt_vret dX8_parseParts_157 rfl (kE _ hge _ ⟨_, _, _, _, _, _, _, _, _, _, _, _, rfl⟩)
      by_cases hla : jLast ms = -1
      · refine rt_callV Γ kk_X8_link kc_RX8_116 (j_link1 Γ (d := d - 1) (by omega) hok hla) (by omega) (by decide) (As := [.int (nI V0), .int (jLast ms), .int (nI V)]) (show (parseMethodDescriptor yX8_link.desc).map (fun q => q.parameters.length) = some 3 by decide +kernel) hok (Nat.le_of_ble_eq_true rfl) dX8_parseParts_114 ((rt_bk_0 w t (tx_L s0 ca t (rt_r s0 tp) (nI (V + xs1.length)) (nI p2) (-1) k1 b1 nx1 fi1 pa1 wo1 ke1 nu1 le1 (nI (L + jLw xs1))) (Nat.le_of_ble_eq_true rfl)).trans rfl) rfl rfl rfl (rt_kr (st2 := [.int (nI V)]) rfl ?_) rt_kx
        exact cont nx1 (cl_put 2073 fi1 (nI V0) (nI V)) (cl_put 2073 pa1 (nI V0) (cl_at 2073 pa1 (nI V0) + 1)) (fun i _ => rfl) (fun i hi c => absurd (c.symm.trans hla) (nI_nm1 (by omega))) (fun i hi => by rw [cl_putN (by omega) (by decide), pk_un hi]) (by rw [if_pos hla, cl_putN (by omega) (by decide), pk_us]) (fun i hi => by rw [cl_putN (by omega) (by decide), pk_un hi]) (by rw [cl_putN (by omega) (by decide), pk_us, cl_atN (by omega) (by decide), hp1, nI_succ])
      · obtain ⟨a, ea, ha1, ha2⟩ := jLast_lo hri (fun c => hla ((jLast_nil hri (by omega)).mpr c))
        refine rt_callV Γ kk_X8_link kc_RX8_116 (j_link2 Γ (d := d - 1) (by omega) hok hla) (by omega) (by decide) (As := [.int (nI V0), .int (jLast ms), .int (nI V)]) (show (parseMethodDescriptor yX8_link.desc).map (fun q => q.parameters.length) = some 3 by decide +kernel) hok (Nat.le_of_ble_eq_true rfl) dX8_parseParts_114 ((rt_bk_0 w t (tx_L s0 ca t (rt_r s0 tp) (nI (V + xs1.length)) (nI p2) (-1) k1 b1 nx1 fi1 pa1 wo1 ke1 nu1 le1 (nI (L + jLw xs1))) (Nat.le_of_ble_eq_true rfl)).trans rfl) rfl rfl rfl (rt_kr (st2 := [.int (nI V)]) rfl ?_) rt_kx
        exact cont (cl_put 2073 nx1 (jLast ms) (nI V)) fi1 (cl_put 2073 pa1 (nI V0) (cl_at 2073 pa1 (nI V0) + 1)) (fun i c => by rw [ea, cl_putN (by omega) (by decide), pk_un (fun e => c (by rw [ea, e]))]) (fun i hi c => by rw [ea, cl_putN (by omega) (by decide), show i = a from (nI_eq (by omega) (by omega)).mp (c.symm.trans ea), pk_us]) (fun i _ => rfl) (by rw [if_neg hla]; exact (hsame V0 hV0).2.2.2.1) (fun i hi => by rw [cl_putN (by omega) (by decide), pk_un hi]) (by rw [cl_putN (by omega) (by decide), pk_us, cl_atN (by omega) (by decide), hp1, nI_succ])
set_option maxHeartbeats 4000000 in
set_option maxRecDepth 100000 in
theorem j_ppLt {l : Launch} {s0 : State} {a0 : Array Value} {G : va_G} {ca : Nat → ClassId} (Γ : rt_Γ l s0 a0 G ca) {d : Nat} {w v0 : rt_Wd} {t : Nat} {Q : rt_Res → rt_Wd → Prop} {dp V0 N : Nat} {tp n : Nat} {f : Nat → Int32} {u : Int32} {g : Nat → Int32} (hT : rt_C s0 ca w tp n f u) (hn : n < 2 ^ 31) (htp : tp + 1 < t ∨ t + 18 ≤ tp) (hg : ∀ p : Nat, p < 65536 → cl_peek n f u (nI p) = g p) (hok : rt_ok w) (hN : jT g N) (hd : 2 * (25 - dp) + 5 ≤ d) (hdp : dp < 24) : ∀ (m : Nat), (∀ i : Nat, i < m → jIV l s0 G ca w t tp N g i) → ∀ (ms : List (Nat × List Int32)) (ks : List (List Int32)) (p V L j : Nat) (k b nx fi pa wo ke : Nat → Int32) (nu : Nat → Int64) (le : Nat → Int32), p ≤ N → V ≤ p → L ≤ p → V0 < V → 2 * (N - p) + 2 ≤ m → j + (N - p) < 4096 → k V0 = nI 1 → pa V0 = nI ms.length → jChn nx ms (fi V0) → jRise V ms V0 → ks = ms.map (fun m => m.2) → (∀ q : Nat × List Int32, q ∈ ms → jIsW le L (ke q.1) q.2) → (∀ e : Nat, jGo g m (some (true, ks)) dp p = .error e → ∀ w1 : rt_Wd, tx_B s0 ca w t tp e w1 → Q (.inl none) w1) → (∀ (xs : List JR) (c q : Nat), jGo g m (some (true, ks)) dp p = .ok (xs, c, q) → ∀ w1 : rt_Wd, jPO s0 ca w t tp V0 V L q ms.length c (jLast ms) k b nx fi pa wo ke nu le xs (.inl none) w1 → Q (.inl none) w1) → rt_Go l s0 G RX8 "parseParts" cX8_parseParts 7 (Option.none : Option FieldType) [] d v0 Q 61 [(5, .int (nI j)), (4, .int (jLast ms)), (3, .int (nI dp)), (2, .int 125), (1, .int (nI V0)), (0, rt_r s0 t)] [] (rt_bk w t (tx_L s0 ca t (rt_r s0 tp) (nI V) (nI p) (-1) k b nx fi pa wo ke nu le (nI L))) := by
  have hN0 := hN.1
  intro m
  induction m with
  | zero =>
    intro hIV ms ks p V L j k b nx fi pa wo ke nu le hp hVp hLp hV0 hm
    exact absurd hm (by omega)
  | succ m ih =>
    intro hIV ms ks p V L j k b nx fi pa wo ke nu le hp hVp hLp hV0 hm hj hkd hpa hch hri hks hkw kE kO
    refine rt_iload dX8_parseParts_61 (j := 0) rfl ?_
    refine rt_sipush (v := 4096) dX8_parseParts_63 (by decide) ?_
    refine rt_icmp_ge (tgt := 185) dX8_parseParts_66 (by decide) (fun c66 => absurd c66 (show ¬ nI 4096 ≤ nI j from nI_ge (by omega) (by decide))) (fun _ => ?_)
    refine rt_aload_n dX8_parseParts_69 rfl (j := 5) rfl ?_
    refine rt_bGet Γ kf_RX8_70 dX8_parseParts_70 (L := (tx_L s0 ca t (rt_r s0 tp) (nI V) (nI p) (-1) k b nx fi pa wo ke nu le (nI L))) rfl rfl ?_
    refine rt_iconst (v := (-1)) dX8_parseParts_73 (by decide) ?_
    refine rt_icmp_ne (tgt := 185) dX8_parseParts_74 (by decide) (fun c74 => absurd c74 (fun h => h rfl)) (fun _ => ?_)
    refine rt_aload_n dX8_parseParts_77 rfl (j := 5) rfl ?_
    refine rt_bGet Γ kf_RX8_16 dX8_parseParts_78 (L := (tx_L s0 ca t (rt_r s0 tp) (nI V) (nI p) (-1) k b nx fi pa wo ke nu le (nI L))) rfl rfl ?_
    refine rt_iload_n dX8_parseParts_81 rfl (j := 4) rfl ?_
    refine rt_callV Γ kk_X0_at kc_RX8_45 (c_X0_at Γ (d := d - 1) (x := (nI V0)) (rt_bk_C (t := t) (L := (tx_L s0 ca t (rt_r s0 tp) (nI V) (nI p) (-1) k b nx fi pa wo ke nu le (nI L))) 1 (Nat.le_of_ble_eq_true rfl) rfl rfl) (by decide)) (by omega) (by decide) (As := [.int (nI V0)]) (show (parseMethodDescriptor yX0_at.desc).map (fun q => q.parameters.length) = some 1 by decide +kernel) hok (Nat.le_of_ble_eq_true rfl) dX8_parseParts_82 (rt_bk_C (t := t) (L := (tx_L s0 ca t (rt_r s0 tp) (nI V) (nI p) (-1) k b nx fi pa wo ke nu le (nI L))) 1 (Nat.le_of_ble_eq_true rfl) rfl rfl).1 rfl rfl rfl (rt_kr (st2 := [.int (cl_at 2073 k (nI V0))]) rfl ?_) rt_kx
    refine rt_te (y := nI 1) (by rw [cl_atN (by omega) (by decide)]; exact hkd) ?_
    refine rt_iconst (v := 1) dX8_parseParts_85 (by decide) ?_
    refine rt_icmp_ne (tgt := 94) dX8_parseParts_86 (by decide) (fun c86 => absurd c86 (fun h => h rfl)) (fun _ => ?_)
    refine rt_aload_n dX8_parseParts_89 rfl (j := 5) rfl ?_
    refine rt_iload_n dX8_parseParts_90 rfl (j := 4) rfl ?_
    by_cases h34 : g p = 34
    · cases hs : jStr g 4097 (p + 1) with
      | error e =>
        have hpN : p < N := hN.lt (by rw [h34]; decide)
        have hse := jStr_lt hN (by omega) (by omega) hs
        refine rt_callV Γ kk_X8_parseKey kc_RX8_113 (j_key2 Γ (d := d - 1) (by omega) hT hn htp hg hok hN h34 (by omega) hs (by omega)) (by omega) (by decide) (As := [.int (nI V0)]) (show (parseMethodDescriptor yX8_parseKey.desc).map (fun q => q.parameters.length) = some 1 by decide +kernel) hok (Nat.le_of_ble_eq_true rfl) dX8_parseParts_91 ((rt_bk_0 w t (tx_L s0 ca t (rt_r s0 tp) (nI V) (nI p) (-1) k b nx fi pa wo ke nu le (nI L)) (Nat.le_of_ble_eq_true rfl)).trans rfl) rfl rfl rfl (fun v9 w9 hq => ?_) (fun X w9 hq => nomatch hq.1)
        obtain ⟨e9, vals16, pos16, k16, b16, nx16, fi16, pa16, wo16, ke16, nu16, le16, lu16, rfl⟩ := hq
        cases e9
        show rt_Go l s0 G RX8 "parseParts" cX8_parseParts 7 (Option.none : Option FieldType) [] d _ _ (91 + 3) [(5, .int (nI j)), (4, .int (jLast ms)), (3, .int (nI dp)), (2, .int 125), (1, .int (nI V0)), (0, rt_r s0 t)] [] (rt_bk w t (tx_L s0 ca t (rt_r s0 tp) vals16 pos16 (nI e) k16 b16 nx16 fi16 pa16 wo16 ke16 nu16 le16 lu16))
        refine rt_aload_n dX8_parseParts_94 rfl (j := 5) rfl ?_
        refine rt_bGet Γ kf_RX8_70 dX8_parseParts_95 (L := (tx_L s0 ca t (rt_r s0 tp) vals16 pos16 (nI e) k16 b16 nx16 fi16 pa16 wo16 ke16 nu16 le16 lu16)) rfl rfl ?_
        refine rt_iconst (v := (-1)) dX8_parseParts_98 (by decide) ?_
        have hge : jGo g (m + 1) (some (true, ks)) dp p = .error e := by unfold jGo; rw [show jKey g true ks p = .error e from (if_pos rfl).trans ((if_pos h34).trans (by rw [hs]))]
        have hlt := jGo_lt hN _ _ _ _ _ hp hge
        refine rt_icmp_eq (tgt := 103) dX8_parseParts_99 (by decide) (fun c99 => absurd c99 (nI_nm1 (by omega))) (fun _ => ?_)
        exact rt_vret dX8_parseParts_102 rfl (kE _ hge _ ⟨_, _, _, _, _, _, _, _, _, _, _, _, rfl⟩)
      | ok r0 =>
        obtain ⟨ws, q1⟩ := r0
        have hpN : p < N := hN.lt (by rw [h34]; decide)
        have hq1 := jStr_ok hN hs
        have hk5 := jSk_le hN 4096 q1 hq1.2
        have hk6 := jSk_ge (g := g) 4096 q1
        have hri5 := jRise_len hri hV0
        have hmi := jMem_iff (m := 2073) ((hch.keys hri (by omega) (lu := L + 1 + ws.length) (le := jWord le L ws) (ke := ke) (fun z hz => (hkw z hz).mono (by omega) (fun i hi => jWord_lo hi)))) (jWord_is (le := le) (L := L) (lu := L + 1 + ws.length) (ws := ws) (Nat.le_refl _)) (by omega) (by rw [List.length_map]; omega)
        rw [← hks, ← cl_atN (f := fi) (show V0 < 2073 by omega) (by decide)] at hmi
        by_cases hmem : ws ∈ ks
        · refine rt_callV Γ kk_X8_parseKey kc_RX8_113 (j_key3 Γ (d := d - 1) (by omega) hT hn htp hg hok hN h34 (by omega) hs (fun c => (hmi.mp c) hmem)) (by omega) (by decide) (As := [.int (nI V0)]) (show (parseMethodDescriptor yX8_parseKey.desc).map (fun q => q.parameters.length) = some 1 by decide +kernel) hok (Nat.le_of_ble_eq_true rfl) dX8_parseParts_91 ((rt_bk_0 w t (tx_L s0 ca t (rt_r s0 tp) (nI V) (nI p) (-1) k b nx fi pa wo ke nu le (nI L)) (Nat.le_of_ble_eq_true rfl)).trans rfl) rfl rfl rfl (fun v9 w9 hq => ?_) (fun X w9 hq => nomatch hq.1)
          obtain ⟨e9, vals17, pos17, k17, b17, nx17, fi17, pa17, wo17, ke17, nu17, le17, lu17, rfl⟩ := hq
          cases e9
          show rt_Go l s0 G RX8 "parseParts" cX8_parseParts 7 (Option.none : Option FieldType) [] d _ _ (91 + 3) [(5, .int (nI j)), (4, .int (jLast ms)), (3, .int (nI dp)), (2, .int 125), (1, .int (nI V0)), (0, rt_r s0 t)] [] (rt_bk w t (tx_L s0 ca t (rt_r s0 tp) vals17 pos17 (nI p) k17 b17 nx17 fi17 pa17 wo17 ke17 nu17 le17 lu17))
          refine rt_aload_n dX8_parseParts_94 rfl (j := 5) rfl ?_
          refine rt_bGet Γ kf_RX8_70 dX8_parseParts_95 (L := (tx_L s0 ca t (rt_r s0 tp) vals17 pos17 (nI p) k17 b17 nx17 fi17 pa17 wo17 ke17 nu17 le17 lu17)) rfl rfl ?_
          refine rt_iconst (v := (-1)) dX8_parseParts_98 (by decide) ?_
          have hge : jGo g (m + 1) (some (true, ks)) dp p = .error p := by unfold jGo; rw [show jKey g true ks p = .error p from (if_pos rfl).trans ((if_pos h34).trans (by rw [hs]; exact if_pos hmem))]
          have hlt := jGo_lt hN _ _ _ _ _ hp hge
          refine rt_icmp_eq (tgt := 103) dX8_parseParts_99 (by decide) (fun c99 => absurd c99 (nI_nm1 (by omega))) (fun _ => ?_)
          exact rt_vret dX8_parseParts_102 rfl (kE _ hge _ ⟨_, _, _, _, _, _, _, _, _, _, _, _, rfl⟩)
        · by_cases h58 : g (jSk g 4096 q1) = 58
          · have hl58 : jSk g 4096 q1 < N := hN.lt (by rw [h58]; decide)
            have hp1 := jSk_le hN 4096 (jSk g 4096 q1 + 1) (by omega)
            have hp2 := jSk_ge (g := g) 4096 (jSk g 4096 q1 + 1)
            refine rt_callV Γ kk_X8_parseKey kc_RX8_113 (j_key5 Γ (d := d - 1) (by omega) hT hn htp hg hok hN h34 (by omega) hs (hmi.mpr hmem) h58) (by omega) (by decide) (As := [.int (nI V0)]) (show (parseMethodDescriptor yX8_parseKey.desc).map (fun q => q.parameters.length) = some 1 by decide +kernel) hok (Nat.le_of_ble_eq_true rfl) dX8_parseParts_91 ((rt_bk_0 w t (tx_L s0 ca t (rt_r s0 tp) (nI V) (nI p) (-1) k b nx fi pa wo ke nu le (nI L)) (Nat.le_of_ble_eq_true rfl)).trans rfl) rfl rfl rfl (rt_kr (st2 := []) rfl ?_) rt_kx
            refine rt_weq (w' := (rt_bk w t (tx_L s0 ca t (rt_r s0 tp) (nI V) (nI (jSk g 4096 (jSk g 4096 q1 + 1))) (-1) k b nx fi pa wo (upd ke V (nI L)) nu (jWord le L ws) (nI (L + 1 + ws.length))))) (by rw [cl_putN (by omega) (by decide)]) ?_
            refine rt_aload_n dX8_parseParts_94 rfl (j := 5) rfl ?_
            refine rt_bGet Γ kf_RX8_70 dX8_parseParts_95 (L := (tx_L s0 ca t (rt_r s0 tp) (nI V) (nI (jSk g 4096 (jSk g 4096 q1 + 1))) (-1) k b nx fi pa wo (upd ke V (nI L)) nu (jWord le L ws) (nI (L + 1 + ws.length)))) rfl rfl ?_
            refine rt_iconst (v := (-1)) dX8_parseParts_98 (by decide) ?_
            refine rt_icmp_eq (tgt := 103) dX8_parseParts_99 (by decide) (fun _ => ?_) (fun c99 => absurd rfl c99)
            refine rt_aload_n dX8_parseParts_103 rfl (j := 5) rfl ?_
            refine rt_iload_n dX8_parseParts_104 rfl (j := 4) rfl ?_
            refine rt_iload dX8_parseParts_105 (j := 1) rfl ?_
            refine rt_aload_n dX8_parseParts_107 rfl (j := 5) rfl ?_
            refine rt_iload_n dX8_parseParts_108 rfl (j := 2) rfl ?_
            refine rt_iconst (v := 1) dX8_parseParts_109 (by decide) ?_
            refine rt_iadd dX8_parseParts_110 ?_
            refine rt_te (y := nI (dp + 1)) (nI_1 dp) ?_
            have iv := hIV m (by omega) (d - 1) (dp + 1) (jSk g 4096 (jSk g 4096 q1 + 1)) V (L + 1 + ws.length) k b nx fi pa wo (upd ke V (nI L)) nu (jWord le L ws) (by omega) (by omega) (by omega) (by omega) (by omega) (by omega)
            cases hv : jGo g m none (dp + 1) (jSk g 4096 (jSk g 4096 q1 + 1)) with
            | error e =>
              have hge : jGo g (m + 1) (some (true, ks)) dp p = .error e := by unfold jGo; rw [show jKey g true ks p = .ok (some ws, jSk g 4096 (jSk g 4096 q1 + 1)) from (if_pos rfl).trans ((if_pos h34).trans (by rw [hs]; exact (if_neg hmem).trans (if_pos h58)))]; dsimp only; rw [hv]
              have hlt := jGo_lt hN _ _ _ _ _ hp hge
              refine rt_callV Γ kk_X8_parseValue kc_RX8_76 (iv.1 e hv) (by omega) (by decide) (As := [.int (nI (dp + 1))]) (show (parseMethodDescriptor yX8_parseValue.desc).map (fun q => q.parameters.length) = some 1 by decide +kernel) hok (Nat.le_of_ble_eq_true rfl) dX8_parseParts_111 ((rt_bk_0 w t (tx_L s0 ca t (rt_r s0 tp) (nI V) (nI (jSk g 4096 (jSk g 4096 q1 + 1))) (-1) k b nx fi pa wo (upd ke V (nI L)) nu (jWord le L ws) (nI (L + 1 + ws.length))) (Nat.le_of_ble_eq_true rfl)).trans rfl) rfl rfl rfl (fun v9 w9 hq => ?_) (fun X w9 hq => nomatch hq.1)
              obtain ⟨e9, vals18, pos18, k18, b18, nx18, fi18, pa18, wo18, ke18, nu18, le18, lu18, rfl⟩ := hq
              cases e9
              show rt_Go l s0 G RX8 "parseParts" cX8_parseParts 7 (Option.none : Option FieldType) [] d _ _ (111 + 3) [(5, .int (nI j)), (4, .int (jLast ms)), (3, .int (nI dp)), (2, .int 125), (1, .int (nI V0)), (0, rt_r s0 t)] [.int (nI V), .int (jLast ms), .int (nI V0), rt_r s0 t] (rt_bk w t (tx_L s0 ca t (rt_r s0 tp) vals18 pos18 (nI e) k18 b18 nx18 fi18 pa18 wo18 ke18 nu18 le18 lu18))
              exact rt_gmono (fun r w1 h => by obtain ⟨rfl, h⟩ := h; exact kE e hge w1 h) (rt_lfew [0, 1, 2, 3, 4, 5] rfl (j_ppX Γ (e := e) (by omega) (by omega) hT hn htp hok))
            | ok r1 =>
              obtain ⟨xs1, c1, p2⟩ := r1
              have hb := jGo_ok hN _ _ _ _ _ _ _ hp1 hv
              obtain ⟨⟨x, ys, hx, hsz, hxk, hxm⟩, hc1⟩ := hb.2.2.2.2.2 rfl
              refine rt_callV Γ kk_X8_parseValue kc_RX8_76 (iv.2 _ _ _ hv) (by omega) (by decide) (As := [.int (nI (dp + 1))]) (show (parseMethodDescriptor yX8_parseValue.desc).map (fun q => q.parameters.length) = some 1 by decide +kernel) hok (Nat.le_of_ble_eq_true rfl) dX8_parseParts_111 ((rt_bk_0 w t (tx_L s0 ca t (rt_r s0 tp) (nI V) (nI (jSk g 4096 (jSk g 4096 q1 + 1))) (-1) k b nx fi pa wo (upd ke V (nI L)) nu (jWord le L ws) (nI (L + 1 + ws.length))) (Nat.le_of_ble_eq_true rfl)).trans rfl) rfl rfl rfl (fun v9 w9 hq => ?_) (fun X w9 hq => nomatch hq.1)
              obtain ⟨e9, k1, b1, nx1, fi1, pa1, wo1, ke1, nu1, le1, rfl, hsame, hke, hle, hrep⟩ := hq
              cases e9
              show rt_Go l s0 G RX8 "parseParts" cX8_parseParts 7 (Option.none : Option FieldType) [] d _ _ (111 + 3) [(5, .int (nI j)), (4, .int (jLast ms)), (3, .int (nI dp)), (2, .int 125), (1, .int (nI V0)), (0, rt_r s0 t)] [.int (nI V), .int (jLast ms), .int (nI V0), rt_r s0 t] (rt_bk w t (tx_L s0 ca t (rt_r s0 tp) (nI (V + xs1.length)) (nI p2) (-1) k1 b1 nx1 fi1 pa1 wo1 ke1 nu1 le1 (nI ((L + 1 + ws.length) + jLw xs1))))
              have hp1 : pa1 V0 = nI ms.length := (hsame V0 hV0).2.2.2.2.1.trans hpa
              have hn1 : nx1 V = -1 := by have h9 := (hrep 0 x (by rw [hx]; rfl)).2.2.2.2.1; rw [hxm] at h9; exact h9
              have cont : ∀ nx2 fi2 pa2 : Nat → Int32, (∀ i : Nat, ¬ jLast ms = nI i → nx2 i = nx1 i) → (∀ i : Nat, i < V → jLast ms = nI i → nx2 i = nI V) → (∀ i : Nat, i ≠ V0 → fi2 i = fi1 i) → fi2 V0 = (if jLast ms = -1 then nI V else fi V0) → (∀ i : Nat, i ≠ V0 → pa2 i = pa1 i) → pa2 V0 = nI (ms.length + 1) → rt_Go l s0 G RX8 "parseParts" cX8_parseParts 7 (Option.none : Option FieldType) [] d v0 Q 117 [(5, .int (nI j)), (4, .int (jLast ms)), (3, .int (nI dp)), (2, .int 125), (1, .int (nI V0)), (0, rt_r s0 t)] [.int (nI V)] (rt_bk w t (tx_L s0 ca t (rt_r s0 tp) (nI (V + xs1.length)) (nI p2) (-1) k1 b1 nx2 fi2 pa2 wo1 ke1 nu1 le1 (nI ((L + 1 + ws.length) + jLw xs1)))) := by
                intro nx2 fi2 pa2 hnx hnl hfi hf0 hpa2 hp0
                refine rt_istore (lv' := [(4, .int (nI V)), (5, .int (nI j)), (3, .int (nI dp)), (2, .int 125), (1, .int (nI V0)), (0, rt_r s0 t)]) dX8_parseParts_117 (by decide) rfl ?_
                refine rt_aload_n dX8_parseParts_119 rfl (j := 5) rfl ?_
                refine rt_callV Γ kk_X8_skipBlanks kc_RX8_73 (j_skip Γ (d := d - 1) (by omega) hT hn htp hg hok (by omega)) (by omega) (by decide) (As := []) (show (parseMethodDescriptor yX8_skipBlanks.desc).map (fun q => q.parameters.length) = some 0 by decide +kernel) hok (Nat.le_of_ble_eq_true rfl) dX8_parseParts_120 ((rt_bk_0 w t (tx_L s0 ca t (rt_r s0 tp) (nI (V + xs1.length)) (nI p2) (-1) k1 b1 nx2 fi2 pa2 wo1 ke1 nu1 le1 (nI ((L + 1 + ws.length) + jLw xs1))) (Nat.le_of_ble_eq_true rfl)).trans rfl) rfl rfl rfl (rt_kr (st2 := []) rfl ?_) rt_kx
                have hs5 := jSk_le hN 4096 p2 hb.2.2.1
                have hs6 := jSk_ge (g := g) 4096 p2
                refine rt_aload_n dX8_parseParts_123 rfl (j := 5) rfl ?_
                refine rt_bGet Γ kf_RX8_57 dX8_parseParts_124 (L := (tx_L s0 ca t (rt_r s0 tp) (nI (V + xs1.length)) (nI (jSk g 4096 p2)) (-1) k1 b1 nx2 fi2 pa2 wo1 ke1 nu1 le1 (nI ((L + 1 + ws.length) + jLw xs1)))) rfl rfl ?_
                refine rt_aload_n dX8_parseParts_127 rfl (j := 5) rfl ?_
                refine rt_bGet Γ kf_RX8_67 dX8_parseParts_128 (L := (tx_L s0 ca t (rt_r s0 tp) (nI (V + xs1.length)) (nI (jSk g 4096 p2)) (-1) k1 b1 nx2 fi2 pa2 wo1 ke1 nu1 le1 (nI ((L + 1 + ws.length) + jLw xs1)))) rfl rfl ?_
                refine rt_callV Γ kk_X0_peek kc_RX8_86 (c_X0_peek Γ (d := d - 1) (x := (nI (jSk g 4096 p2))) (hT.bk htp) hn) (by omega) (by decide) (As := [.int (nI (jSk g 4096 p2))]) (show (parseMethodDescriptor yX0_peek.desc).map (fun q => q.parameters.length) = some 1 by decide +kernel) hok (Nat.le_of_ble_eq_true rfl) dX8_parseParts_131 (hT.bk htp).1 rfl rfl rfl (rt_kr (st2 := [.int (cl_peek n f u (nI (jSk g 4096 p2)))]) rfl ?_) rt_kx
                refine rt_te (y := g (jSk g 4096 p2)) (hg (jSk g 4096 p2) (by omega)) ?_
                refine rt_istore (lv' := [(6, .int (g (jSk g 4096 p2))), (4, .int (nI V)), (5, .int (nI j)), (3, .int (nI dp)), (2, .int 125), (1, .int (nI V0)), (0, rt_r s0 t)]) dX8_parseParts_134 (by decide) rfl ?_
                refine rt_iload dX8_parseParts_136 (j := 0) rfl ?_
                refine rt_bipush (v := 44) dX8_parseParts_138 (by decide) ?_
                refine rt_icmp_eq (tgt := 158) dX8_parseParts_140 (by decide) (fun c140 => ?_) (fun c140 => ?_)
                · refine rt_aload_n dX8_parseParts_158 rfl (j := 6) rfl ?_
                  refine rt_dup dX8_parseParts_159 rfl ?_
                  refine rt_bGet Γ kf_RX8_67 dX8_parseParts_160 (L := (tx_L s0 ca t (rt_r s0 tp) (nI (V + xs1.length)) (nI (jSk g 4096 p2)) (-1) k1 b1 nx2 fi2 pa2 wo1 ke1 nu1 le1 (nI ((L + 1 + ws.length) + jLw xs1)))) rfl rfl ?_
                  refine rt_iconst (v := 1) dX8_parseParts_163 (by decide) ?_
                  refine rt_iadd dX8_parseParts_164 ?_
                  refine rt_te (y := nI (jSk g 4096 p2 + 1)) (nI_1 _) ?_
                  refine rt_bPut Γ kp_RX8_67 dX8_parseParts_165 (L := (tx_L s0 ca t (rt_r s0 tp) (nI (V + xs1.length)) (nI (jSk g 4096 p2)) (-1) k1 b1 nx2 fi2 pa2 wo1 ke1 nu1 le1 (nI ((L + 1 + ws.length) + jLw xs1)))) rfl (Nat.le_of_ble_eq_true rfl) rfl rfl (L' := (tx_L s0 ca t (rt_r s0 tp) (nI (V + xs1.length)) (nI (jSk g 4096 p2 + 1)) (-1) k1 b1 nx2 fi2 pa2 wo1 ke1 nu1 le1 (nI ((L + 1 + ws.length) + jLw xs1)))) rfl ?_
                  refine rt_iload dX8_parseParts_168 (j := 0) rfl ?_
                  refine rt_iload_n dX8_parseParts_170 rfl (j := 4) rfl ?_
                  refine rt_icmp_ne (tgt := 175) dX8_parseParts_171 (by decide) (fun _ => ?_) (fun c171 => absurd c171 (fun c => absurd (c140.symm.trans c) (by decide)))
                  refine rt_aload_n dX8_parseParts_175 rfl (j := 6) rfl ?_
                  refine rt_callV Γ kk_X8_skipBlanks kc_RX8_73 (j_skip Γ (d := d - 1) (by omega) hT hn htp hg hok (by omega)) (by omega) (by decide) (As := []) (show (parseMethodDescriptor yX8_skipBlanks.desc).map (fun q => q.parameters.length) = some 0 by decide +kernel) hok (Nat.le_of_ble_eq_true rfl) dX8_parseParts_176 ((rt_bk_0 w t (tx_L s0 ca t (rt_r s0 tp) (nI (V + xs1.length)) (nI (jSk g 4096 p2 + 1)) (-1) k1 b1 nx2 fi2 pa2 wo1 ke1 nu1 le1 (nI ((L + 1 + ws.length) + jLw xs1))) (Nat.le_of_ble_eq_true rfl)).trans rfl) rfl rfl rfl (rt_kr (st2 := []) rfl ?_) rt_kx
                  refine rt_iinc (v := nI (j + 1)) (lv' := [(5, .int (nI (j + 1))), (6, .int (g (jSk g 4096 p2))), (4, .int (nI V)), (3, .int (nI dp)), (2, .int 125), (1, .int (nI V0)), (0, rt_r s0 t)]) dX8_parseParts_179 (j := 2) rfl ((nI_1 j).symm ▸ rfl) (by decide) rfl ?_
                  refine rt_goto (tgt := 61) dX8_parseParts_182 (by decide) ?_
                  have hl44 : jSk g 4096 p2 < N := hN.lt (by rw [c140]; decide)
                  have hs7 := jSk_le hN 4096 (jSk g 4096 p2 + 1) (by omega)
                  have hs8 := jSk_ge (g := g) 4096 (jSk g 4096 p2 + 1)
                  have hwt : jLw (jHd (some ws) true xs1) = jLw xs1 + jwl (some ws) := by rw [hx, jLw_hd hxk]
                  have kE1 : ∀ e : Nat, jGo g m (some (true, (ks ++ ((some ws) : Option (List Int32)).toList))) dp (jSk g 4096 (jSk g 4096 p2 + 1)) = .error e → ∀ w1 : rt_Wd, tx_B s0 ca w t tp e w1 → Q (.inl none) w1 := fun e he w1 h => kE e (by unfold jGo; rw [show jKey g true ks p = .ok (some ws, jSk g 4096 (jSk g 4096 q1 + 1)) from (if_pos rfl).trans ((if_pos h34).trans (by rw [hs]; exact (if_neg hmem).trans (if_pos h58)))]; dsimp only; rw [hv]; dsimp only; rw [if_pos c140, he]) w1 h
                  have hh := ih (fun i hi => hIV i (by omega)) (ms ++ [(V, ws)]) (ks ++ ((some ws) : Option (List Int32)).toList) (jSk g 4096 (jSk g 4096 p2 + 1)) (V + xs1.length) ((L + 1 + ws.length) + jLw xs1) (j + 1) k1 b1 nx2 fi2 pa2 wo1 ke1 nu1 le1 hs7 (by omega) (by omega) (by omega) (by omega) (by omega) ((hsame V0 hV0).1.trans hkd) (by rw [hp0, List.length_append]; rfl) (by rw [hf0]; simp only [jLast_nil hri (by omega)]; exact hch.app (by omega) hri ((hnx V (jLast_ne hri (Nat.le_refl V) (by omega))).trans hn1) (fun i hi c => (hnx i c).trans (hsame i hi).2.2.1) hnl) (hri.app hV0 (Nat.le_refl V) (by omega)) (by rw [hks, List.map_append]; rfl) (fun z hz => (List.mem_append.mp hz).elim (fun h => by have hzV := jRise_mem hri h; rw [(hsame z.1 hzV).2.2.2.2.2.2.1, pk_un (by omega)]; exact (hkw z h).mono (by omega) (fun i hi => (hle i (by omega)).trans (jWord_lo hi))) (fun h => by rw [List.mem_singleton.mp h]; show jIsW le1 _ (ke1 V) ws; rw [hke, pk_us]; exact (jWord_is (Nat.le_refl _)).mono (by omega) (fun i hi => hle i hi))) kE1 ?_
                  · rw [jLast_app] at hh; exact rt_lfew [0, 2, 3, 4, 5, 6] rfl hh
                  intro xs c q he w1 h
                  refine kO (jHd (some ws) true xs1 ++ xs) (c + 1) q (by unfold jGo; rw [show jKey g true ks p = .ok (some ws, jSk g 4096 (jSk g 4096 q1 + 1)) from (if_pos rfl).trans ((if_pos h34).trans (by rw [hs]; exact (if_neg hmem).trans (if_pos h58)))]; dsimp only; rw [hv]; dsimp only; rw [if_pos c140, he]) w1 ?_
                  obtain ⟨e9, k3, b3, nx3, fi3, pa3, wo3, ke3, nu3, le3, rfl, g1, g2, g3, g4, g5, g6, g7, g8⟩ := h
                  rw [jLast_app] at g3 g4 g6
                  have nV : ∀ i : Nat, i < V + xs1.length → ¬ i = V → ¬ nI V = nI i := fun i hi h1 c => h1 ((nI_eq (by omega) (by omega)).mp c).symm
                  have hlu : (L + 1 + ws.length) + jLw xs1 + jLw xs = L + jLw (jHd (some ws) true xs1 ++ xs) := by rw [jLw_app, hwt]; show L + 1 + ws.length + jLw xs1 + jLw xs = L + (jLw xs1 + (1 + ws.length) + jLw xs); omega
                  have hln : V + xs1.length + xs.length = V + (jHd (some ws) true xs1 ++ xs).length := by rw [List.length_append, jHd_len]; omega
                  refine ⟨rfl, k3, b3, nx3, fi3, pa3, wo3, ke3, nu3, le3, by rw [← hlu, ← hln], fun i hi => ?_, fun i hi h0 => ?_, fun i hi c => ?_, ?_, ?_, fun i hi c => ?_, fun i hi => ((g7 i (by omega)).trans (hle i (by omega))).trans (jWord_lo hi), ?_⟩
                  · have z := g1 i (by omega); exact ⟨z.1.trans (hsame i hi).1, z.2.1.trans (hsame i hi).2.1, z.2.2.1.trans (hsame i hi).2.2.2.2.2.1, z.2.2.2.1.trans ((hsame i hi).2.2.2.2.2.2.1.trans (pk_un (by omega))), z.2.2.2.2.trans (hsame i hi).2.2.2.2.2.2.2⟩
                  · have z := g2 i (by omega) h0; exact ⟨(z.1.trans (hfi i h0)).trans (hsame i hi).2.2.2.1, (z.2.trans (hpa2 i h0)).trans (hsame i hi).2.2.2.2.1⟩
                  · exact (g3 i (by omega) (nV i (by omega) (by omega))).trans ((hnx i c).trans (hsame i hi).2.2.1)
                  · rw [g4, if_neg (nI_nm1 (by omega)), hf0]
                  · rw [g5, List.length_append, List.length_singleton, Nat.add_assoc, Nat.add_comm 1 c]
                  · exact (g3 i (by omega) (nV i (by omega) (by omega))).trans (hnl i hi c)
                  · rw [← hlu]
                    have base : jRep k3 b3 nx1 fi3 pa3 wo3 ke3 nu3 le3 ((L + 1 + ws.length) + jLw xs1 + jLw xs) xs1 V := hrep.mono (fun i h1 h2 => by have z := g1 i h2; have y := g2 i h2 (by omega); exact ⟨z.1, z.2.1, rfl, y.1.trans (hfi i (by omega)), y.2.trans (hpa2 i (by omega)), z.2.2.1, z.2.2.2.1, z.2.2.2.2⟩) (by omega) (fun i hi => g7 i hi)
                    refine jRep.app ?_ (by rw [jHd_len]; exact g8)
                    have hyl : xs1.length = ys.length + 1 := by rw [hx]; rfl
                    subst hx
                    exact base.hd (nx' := nx3) (fun ws2 c => by cases c; rw [(g1 V (by simp)).2.2.2.1, hke, pk_us]; exact (jWord_is (Nat.le_refl _)).mono (by omega) (fun i hi => (g7 i (by omega)).trans (hle i hi))) ((g6 V (by simp) rfl).trans (by rw [if_pos rfl, hsz])) (fun i h1 h2 => (g3 i (by simp; omega) (nV i (by simp; omega) (by omega))).trans (hnx i (jLast_ne hri (by omega) (by omega))))
                · refine rt_iload dX8_parseParts_143 (j := 0) rfl ?_
                  refine rt_iload_n dX8_parseParts_145 rfl (j := 4) rfl ?_
                  refine rt_icmp_eq (tgt := 158) dX8_parseParts_146 (by decide) (fun c146 => ?_) (fun c146 => ?_)
                  · refine rt_aload_n dX8_parseParts_158 rfl (j := 6) rfl ?_
                    refine rt_dup dX8_parseParts_159 rfl ?_
                    refine rt_bGet Γ kf_RX8_67 dX8_parseParts_160 (L := (tx_L s0 ca t (rt_r s0 tp) (nI (V + xs1.length)) (nI (jSk g 4096 p2)) (-1) k1 b1 nx2 fi2 pa2 wo1 ke1 nu1 le1 (nI ((L + 1 + ws.length) + jLw xs1)))) rfl rfl ?_
                    refine rt_iconst (v := 1) dX8_parseParts_163 (by decide) ?_
                    refine rt_iadd dX8_parseParts_164 ?_
                    refine rt_te (y := nI (jSk g 4096 p2 + 1)) (nI_1 _) ?_
                    refine rt_bPut Γ kp_RX8_67 dX8_parseParts_165 (L := (tx_L s0 ca t (rt_r s0 tp) (nI (V + xs1.length)) (nI (jSk g 4096 p2)) (-1) k1 b1 nx2 fi2 pa2 wo1 ke1 nu1 le1 (nI ((L + 1 + ws.length) + jLw xs1)))) rfl (Nat.le_of_ble_eq_true rfl) rfl rfl (L' := (tx_L s0 ca t (rt_r s0 tp) (nI (V + xs1.length)) (nI (jSk g 4096 p2 + 1)) (-1) k1 b1 nx2 fi2 pa2 wo1 ke1 nu1 le1 (nI ((L + 1 + ws.length) + jLw xs1)))) rfl ?_
                    refine rt_iload dX8_parseParts_168 (j := 0) rfl ?_
                    refine rt_iload_n dX8_parseParts_170 rfl (j := 4) rfl ?_
                    refine rt_icmp_ne (tgt := 175) dX8_parseParts_171 (by decide) (fun c171 => absurd c171 (fun c => c c146)) (fun _ => ?_)
                    have hwt : jLw (jHd (some ws) false xs1) = jLw xs1 + jwl (some ws) := by rw [hx, jLw_hd hxk]
                    have hlu : (L + 1 + ws.length) + jLw xs1 = L + jLw (jHd (some ws) false xs1) := by rw [hwt]; show L + 1 + ws.length + jLw xs1 = L + (jLw xs1 + (1 + ws.length)); omega
                    have hge : jGo g (m + 1) (some (true, ks)) dp p = .ok (jHd (some ws) false xs1, 1, jSk g 4096 p2 + 1) := by unfold jGo; rw [show jKey g true ks p = .ok (some ws, jSk g 4096 (jSk g 4096 q1 + 1)) from (if_pos rfl).trans ((if_pos h34).trans (by rw [hs]; exact (if_neg hmem).trans (if_pos h58)))]; dsimp only; rw [hv]; dsimp only; rw [if_neg c140]; exact if_pos c146
                    refine rt_vret dX8_parseParts_174 rfl (kO _ _ _ hge _ ⟨rfl, k1, b1, nx2, fi2, pa2, wo1, ke1, nu1, le1, by rw [← hlu, jHd_len], fun i hi => ⟨(hsame i hi).1, (hsame i hi).2.1, (hsame i hi).2.2.2.2.2.1, ((hsame i hi).2.2.2.2.2.2.1.trans (pk_un (by omega))), (hsame i hi).2.2.2.2.2.2.2⟩, fun i hi h0 => ⟨(hfi i h0).trans (hsame i hi).2.2.2.1, (hpa2 i h0).trans (hsame i hi).2.2.2.2.1⟩, fun i hi c => (hnx i c).trans (hsame i hi).2.2.1, hf0, hp0, hnl, (fun i hi => (hle i (by omega)).trans (jWord_lo hi)), ?_⟩)
                    rw [← hlu]
                    have base : jRep k1 b1 nx1 fi2 pa2 wo1 ke1 nu1 le1 ((L + 1 + ws.length) + jLw xs1) xs1 V := hrep.mono (fun i h1 h2 => ⟨rfl, rfl, rfl, hfi i (by omega), hpa2 i (by omega), rfl, rfl, rfl⟩) (Nat.le_refl _) (fun _ _ => rfl)
                    have hyl : xs1.length = ys.length + 1 := by rw [hx]; rfl
                    subst hx
                    exact base.hd (nx' := nx2) (fun ws2 c => by cases c; rw [hke, pk_us]; exact (jWord_is (Nat.le_refl _)).mono (by omega) (fun i hi => hle i hi)) ((hnx V (jLast_ne hri (Nat.le_refl V) (by omega))).trans hn1) (fun i h1 h2 => hnx i (jLast_ne hri (by omega) (by simp at *; omega)))
                  · have hge : jGo g (m + 1) (some (true, ks)) dp p = .error (jSk g 4096 p2) := by unfold jGo; rw [show jKey g true ks p = .ok (some ws, jSk g 4096 (jSk g 4096 q1 + 1)) from (if_pos rfl).trans ((if_pos h34).trans (by rw [hs]; exact (if_neg hmem).trans (if_pos h58)))]; dsimp only; rw [hv]; dsimp only; rw [if_neg c140]; exact if_neg c146
                    refine rt_aload_n dX8_parseParts_149 rfl (j := 6) rfl ?_
                    refine rt_aload_n dX8_parseParts_150 rfl (j := 6) rfl ?_
                    refine rt_bGet Γ kf_RX8_67 dX8_parseParts_151 (L := (tx_L s0 ca t (rt_r s0 tp) (nI (V + xs1.length)) (nI (jSk g 4096 p2)) (-1) k1 b1 nx2 fi2 pa2 wo1 ke1 nu1 le1 (nI ((L + 1 + ws.length) + jLw xs1)))) rfl rfl ?_
                    refine rt_callV Γ kk_X8_fail kc_RX8_83 (c_X8_fail0 Γ (d := d - 1)) (by omega) (by decide) (As := [.int (nI (jSk g 4096 p2))]) (show (parseMethodDescriptor yX8_fail.desc).map (fun q => q.parameters.length) = some 1 by decide +kernel) hok (Nat.le_of_ble_eq_true rfl) dX8_parseParts_154 ((rt_bk_0 w t (tx_L s0 ca t (rt_r s0 tp) (nI (V + xs1.length)) (nI (jSk g 4096 p2)) (-1) k1 b1 nx2 fi2 pa2 wo1 ke1 nu1 le1 (nI ((L + 1 + ws.length) + jLw xs1))) (Nat.le_of_ble_eq_true rfl)).trans rfl) rfl rfl rfl (rt_kr (st2 := []) rfl ?_) rt_kx
                    exact rt_vret dX8_parseParts_157 rfl (kE _ hge _ ⟨_, _, _, _, _, _, _, _, _, _, _, _, rfl⟩)
              by_cases hla : jLast ms = -1
              · refine rt_callV Γ kk_X8_link kc_RX8_116 (j_link1 Γ (d := d - 1) (by omega) hok hla) (by omega) (by decide) (As := [.int (nI V0), .int (jLast ms), .int (nI V)]) (show (parseMethodDescriptor yX8_link.desc).map (fun q => q.parameters.length) = some 3 by decide +kernel) hok (Nat.le_of_ble_eq_true rfl) dX8_parseParts_114 ((rt_bk_0 w t (tx_L s0 ca t (rt_r s0 tp) (nI (V + xs1.length)) (nI p2) (-1) k1 b1 nx1 fi1 pa1 wo1 ke1 nu1 le1 (nI ((L + 1 + ws.length) + jLw xs1))) (Nat.le_of_ble_eq_true rfl)).trans rfl) rfl rfl rfl (rt_kr (st2 := [.int (nI V)]) rfl ?_) rt_kx
                exact cont nx1 (cl_put 2073 fi1 (nI V0) (nI V)) (cl_put 2073 pa1 (nI V0) (cl_at 2073 pa1 (nI V0) + 1)) (fun i _ => rfl) (fun i hi c => absurd (c.symm.trans hla) (nI_nm1 (by omega))) (fun i hi => by rw [cl_putN (by omega) (by decide), pk_un hi]) (by rw [if_pos hla, cl_putN (by omega) (by decide), pk_us]) (fun i hi => by rw [cl_putN (by omega) (by decide), pk_un hi]) (by rw [cl_putN (by omega) (by decide), pk_us, cl_atN (by omega) (by decide), hp1, nI_succ])
              · obtain ⟨a, ea, ha1, ha2⟩ := jLast_lo hri (fun c => hla ((jLast_nil hri (by omega)).mpr c))
                refine rt_callV Γ kk_X8_link kc_RX8_116 (j_link2 Γ (d := d - 1) (by omega) hok hla) (by omega) (by decide) (As := [.int (nI V0), .int (jLast ms), .int (nI V)]) (show (parseMethodDescriptor yX8_link.desc).map (fun q => q.parameters.length) = some 3 by decide +kernel) hok (Nat.le_of_ble_eq_true rfl) dX8_parseParts_114 ((rt_bk_0 w t (tx_L s0 ca t (rt_r s0 tp) (nI (V + xs1.length)) (nI p2) (-1) k1 b1 nx1 fi1 pa1 wo1 ke1 nu1 le1 (nI ((L + 1 + ws.length) + jLw xs1))) (Nat.le_of_ble_eq_true rfl)).trans rfl) rfl rfl rfl (rt_kr (st2 := [.int (nI V)]) rfl ?_) rt_kx
                exact cont (cl_put 2073 nx1 (jLast ms) (nI V)) fi1 (cl_put 2073 pa1 (nI V0) (cl_at 2073 pa1 (nI V0) + 1)) (fun i c => by rw [ea, cl_putN (by omega) (by decide), pk_un (fun e => c (by rw [ea, e]))]) (fun i hi c => by rw [ea, cl_putN (by omega) (by decide), show i = a from (nI_eq (by omega) (by omega)).mp (c.symm.trans ea), pk_us]) (fun i _ => rfl) (by rw [if_neg hla]; exact (hsame V0 hV0).2.2.2.1) (fun i hi => by rw [cl_putN (by omega) (by decide), pk_un hi]) (by rw [cl_putN (by omega) (by decide), pk_us, cl_atN (by omega) (by decide), hp1, nI_succ])
          · refine rt_callV Γ kk_X8_parseKey kc_RX8_113 (j_key4 Γ (d := d - 1) (by omega) hT hn htp hg hok hN h34 (by omega) hs (hmi.mpr hmem) h58) (by omega) (by decide) (As := [.int (nI V0)]) (show (parseMethodDescriptor yX8_parseKey.desc).map (fun q => q.parameters.length) = some 1 by decide +kernel) hok (Nat.le_of_ble_eq_true rfl) dX8_parseParts_91 ((rt_bk_0 w t (tx_L s0 ca t (rt_r s0 tp) (nI V) (nI p) (-1) k b nx fi pa wo ke nu le (nI L)) (Nat.le_of_ble_eq_true rfl)).trans rfl) rfl rfl rfl (fun v9 w9 hq => ?_) (fun X w9 hq => nomatch hq.1)
            obtain ⟨e9, vals19, pos19, k19, b19, nx19, fi19, pa19, wo19, ke19, nu19, le19, lu19, rfl⟩ := hq
            cases e9
            show rt_Go l s0 G RX8 "parseParts" cX8_parseParts 7 (Option.none : Option FieldType) [] d _ _ (91 + 3) [(5, .int (nI j)), (4, .int (jLast ms)), (3, .int (nI dp)), (2, .int 125), (1, .int (nI V0)), (0, rt_r s0 t)] [] (rt_bk w t (tx_L s0 ca t (rt_r s0 tp) vals19 pos19 (nI (jSk g 4096 q1)) k19 b19 nx19 fi19 pa19 wo19 ke19 nu19 le19 lu19))
            refine rt_aload_n dX8_parseParts_94 rfl (j := 5) rfl ?_
            refine rt_bGet Γ kf_RX8_70 dX8_parseParts_95 (L := (tx_L s0 ca t (rt_r s0 tp) vals19 pos19 (nI (jSk g 4096 q1)) k19 b19 nx19 fi19 pa19 wo19 ke19 nu19 le19 lu19)) rfl rfl ?_
            refine rt_iconst (v := (-1)) dX8_parseParts_98 (by decide) ?_
            have hge : jGo g (m + 1) (some (true, ks)) dp p = .error (jSk g 4096 q1) := by unfold jGo; rw [show jKey g true ks p = .error (jSk g 4096 q1) from (if_pos rfl).trans ((if_pos h34).trans (by rw [hs]; exact (if_neg hmem).trans (if_neg h58)))]
            have hlt := jGo_lt hN _ _ _ _ _ hp hge
            refine rt_icmp_eq (tgt := 103) dX8_parseParts_99 (by decide) (fun c99 => absurd c99 (nI_nm1 (by omega))) (fun _ => ?_)
            exact rt_vret dX8_parseParts_102 rfl (kE _ hge _ ⟨_, _, _, _, _, _, _, _, _, _, _, _, rfl⟩)
    · refine rt_callV Γ kk_X8_parseKey kc_RX8_113 (j_key1 Γ (d := d - 1) (by omega) hT hn htp hg hok (by omega) h34) (by omega) (by decide) (As := [.int (nI V0)]) (show (parseMethodDescriptor yX8_parseKey.desc).map (fun q => q.parameters.length) = some 1 by decide +kernel) hok (Nat.le_of_ble_eq_true rfl) dX8_parseParts_91 ((rt_bk_0 w t (tx_L s0 ca t (rt_r s0 tp) (nI V) (nI p) (-1) k b nx fi pa wo ke nu le (nI L)) (Nat.le_of_ble_eq_true rfl)).trans rfl) rfl rfl rfl (fun v9 w9 hq => ?_) (fun X w9 hq => nomatch hq.1)
      obtain ⟨e9, vals20, pos20, k20, b20, nx20, fi20, pa20, wo20, ke20, nu20, le20, lu20, rfl⟩ := hq
      cases e9
      show rt_Go l s0 G RX8 "parseParts" cX8_parseParts 7 (Option.none : Option FieldType) [] d _ _ (91 + 3) [(5, .int (nI j)), (4, .int (jLast ms)), (3, .int (nI dp)), (2, .int 125), (1, .int (nI V0)), (0, rt_r s0 t)] [] (rt_bk w t (tx_L s0 ca t (rt_r s0 tp) vals20 pos20 (nI p) k20 b20 nx20 fi20 pa20 wo20 ke20 nu20 le20 lu20))
      refine rt_aload_n dX8_parseParts_94 rfl (j := 5) rfl ?_
      refine rt_bGet Γ kf_RX8_70 dX8_parseParts_95 (L := (tx_L s0 ca t (rt_r s0 tp) vals20 pos20 (nI p) k20 b20 nx20 fi20 pa20 wo20 ke20 nu20 le20 lu20)) rfl rfl ?_
      refine rt_iconst (v := (-1)) dX8_parseParts_98 (by decide) ?_
      have hge : jGo g (m + 1) (some (true, ks)) dp p = .error p := by unfold jGo; rw [show jKey g true ks p = .error p from (if_pos rfl).trans (if_neg h34)]
      have hlt := jGo_lt hN _ _ _ _ _ hp hge
      refine rt_icmp_eq (tgt := 103) dX8_parseParts_99 (by decide) (fun c99 => absurd c99 (nI_nm1 (by omega))) (fun _ => ?_)
      exact rt_vret dX8_parseParts_102 rfl (kE _ hge _ ⟨_, _, _, _, _, _, _, _, _, _, _, _, rfl⟩)
