/-! ===== brackets as values ===== -/
set_option maxRecDepth 100000 in
theorem jv_b1f {l : Launch} {s0 : State} {a0 : Array Value} {G : va_G} {ca : Nat → ClassId} (Γ : rt_Γ l s0 a0 G ca) {d : Nat} {w : rt_Wd} {t : Nat} {k : Nat → Int32} {b : Nat → Int32} {nx : Nat → Int32} {fi : Nat → Int32} {pa : Nat → Int32} {wo : Nat → Int32} {ke : Nat → Int32} {nu : Nat → Int64} {le : Nat → Int32} (hd : 3 ≤ d) {tp n : Nat} {f : Nat → Int32} {u : Int32} {g : Nat → Int32} (hT : rt_C s0 ca w tp n f u) (hn : n < 2 ^ 31) (htp : tp + 1 < t ∨ t + 18 ≤ tp) (hg : ∀ p : Nat, p < 65536 → cl_peek n f u (nI p) = g p) (hok : rt_ok w) {p V L N dp : Nat} (hN : jT g N) (hp : p ≤ N) (hVp : V ≤ p) (hLp : L ≤ p) (n1 : ¬ g p = 123) (h : g p = 91) (hdp : 24 ≤ dp) (hdp2 : dp ≤ 24) : rt_Met l s0 G (.code yX8_parseValue cX8_parseValue 4 (Option.some FieldType.int)) yX8_parseValue d [rt_r s0 t, .int (nI dp)] (rt_bk w t (tx_L s0 ca t (rt_r s0 tp) (nI V) (nI p) (-1) k b nx fi pa wo ke nu le (nI L))) (fun r w1 => r = .inl (some (.int (nI V))) ∧ tx_B s0 ca w t tp p w1) := by
  refine rt_met Γ kk_X8_parseValue rfl (Nat.le_of_ble_eq_true rfl) rfl ?_
  have hN0 := hN.1
  have hV : V < 2073 := by omega
  have hpN : p < N := hN.lt (by rw [h]; decide)
  refine rt_aload_n dX8_parseValue_0 rfl (j := 0) rfl ?_
  refine rt_bGet Γ kf_RX8_63 dX8_parseValue_1 (L := (tx_L s0 ca t (rt_r s0 tp) (nI V) (nI p) (-1) k b nx fi pa wo ke nu le (nI L))) rfl rfl ?_
  refine rt_istore_n (lv' := [(2, .int (nI V)), (0, rt_r s0 t), (1, .int (nI dp))]) dX8_parseValue_4 rfl (by decide) rfl ?_
  refine rt_aload_n dX8_parseValue_5 rfl (j := 1) rfl ?_
  refine rt_dup dX8_parseValue_6 rfl ?_
  refine rt_bGet Γ kf_RX8_63 dX8_parseValue_7 (L := (tx_L s0 ca t (rt_r s0 tp) (nI V) (nI p) (-1) k b nx fi pa wo ke nu le (nI L))) rfl rfl ?_
  refine rt_iconst (v := 1) dX8_parseValue_10 (by decide) ?_
  refine rt_iadd dX8_parseValue_11 ?_
  refine rt_te (y := nI (V + 1)) (nI_1 V) ?_
  refine rt_bPut Γ kp_RX8_63 dX8_parseValue_12 (L := (tx_L s0 ca t (rt_r s0 tp) (nI V) (nI p) (-1) k b nx fi pa wo ke nu le (nI L))) rfl (Nat.le_of_ble_eq_true rfl) rfl rfl (L' := (tx_L s0 ca t (rt_r s0 tp) (nI (V + 1)) (nI p) (-1) k b nx fi pa wo ke nu le (nI L))) rfl ?_
  refine rt_aload_n dX8_parseValue_15 rfl (j := 1) rfl ?_
  refine rt_bGet Γ kf_RX8_20 dX8_parseValue_16 (L := (tx_L s0 ca t (rt_r s0 tp) (nI (V + 1)) (nI p) (-1) k b nx fi pa wo ke nu le (nI L))) rfl rfl ?_
  refine rt_iload_n dX8_parseValue_19 rfl (j := 0) rfl ?_
  refine rt_aload_n dX8_parseValue_20 rfl (j := 1) rfl ?_
  refine rt_bGet Γ kf_RX8_67 dX8_parseValue_21 (L := (tx_L s0 ca t (rt_r s0 tp) (nI (V + 1)) (nI p) (-1) k b nx fi pa wo ke nu le (nI L))) rfl rfl ?_
  refine rt_callV Γ kk_X0_put kc_RX8_89 (c_X0_put Γ (d := d - 1) (rt_bk_C (t := t) (L := (tx_L s0 ca t (rt_r s0 tp) (nI (V + 1)) (nI p) (-1) k b nx fi pa wo ke nu le (nI L))) 3 (Nat.le_of_ble_eq_true rfl) rfl rfl) (by decide)) (by omega) (by decide) (As := [.int (nI V), .int (nI p)]) (show (parseMethodDescriptor yX0_put.desc).map (fun q => q.parameters.length) = some 2 by decide +kernel) hok (Nat.le_of_ble_eq_true rfl) dX8_parseValue_24 (rt_bk_C (t := t) (L := (tx_L s0 ca t (rt_r s0 tp) (nI (V + 1)) (nI p) (-1) k b nx fi pa wo ke nu le (nI L))) 3 (Nat.le_of_ble_eq_true rfl) rfl rfl).1 rfl rfl rfl (rt_kr (st2 := []) rfl ?_) rt_kx
  refine rt_weq (w' := (rt_bk w t (tx_L s0 ca t (rt_r s0 tp) (nI (V + 1)) (nI p) (-1) k (cl_put 2073 b (nI V) (nI p)) nx fi pa wo ke nu le (nI L)))) (rt_bk_cs 3 (Nat.le_of_ble_eq_true rfl)) ?_
  refine rt_weq (w' := (rt_bk w t (tx_L s0 ca t (rt_r s0 tp) (nI (V + 1)) (nI p) (-1) k (upd b V (nI p)) nx fi pa wo ke nu le (nI L)))) (by rw [cl_putN hV (by decide)]) ?_
  refine rt_aload_n dX8_parseValue_27 rfl (j := 1) rfl ?_
  refine rt_bGet Γ kf_RX8_23 dX8_parseValue_28 (L := (tx_L s0 ca t (rt_r s0 tp) (nI (V + 1)) (nI p) (-1) k (upd b V (nI p)) nx fi pa wo ke nu le (nI L))) rfl rfl ?_
  refine rt_iload_n dX8_parseValue_31 rfl (j := 0) rfl ?_
  refine rt_iconst (v := (-1)) dX8_parseValue_32 (by decide) ?_
  refine rt_callV Γ kk_X0_put kc_RX8_89 (c_X0_put Γ (d := d - 1) (rt_bk_C (t := t) (L := (tx_L s0 ca t (rt_r s0 tp) (nI (V + 1)) (nI p) (-1) k (upd b V (nI p)) nx fi pa wo ke nu le (nI L))) 5 (Nat.le_of_ble_eq_true rfl) rfl rfl) (by decide)) (by omega) (by decide) (As := [.int (nI V), .int (-1)]) (show (parseMethodDescriptor yX0_put.desc).map (fun q => q.parameters.length) = some 2 by decide +kernel) hok (Nat.le_of_ble_eq_true rfl) dX8_parseValue_33 (rt_bk_C (t := t) (L := (tx_L s0 ca t (rt_r s0 tp) (nI (V + 1)) (nI p) (-1) k (upd b V (nI p)) nx fi pa wo ke nu le (nI L))) 5 (Nat.le_of_ble_eq_true rfl) rfl rfl).1 rfl rfl rfl (rt_kr (st2 := []) rfl ?_) rt_kx
  refine rt_weq (w' := (rt_bk w t (tx_L s0 ca t (rt_r s0 tp) (nI (V + 1)) (nI p) (-1) k (upd b V (nI p)) (cl_put 2073 nx (nI V) (-1)) fi pa wo ke nu le (nI L)))) (rt_bk_cs 5 (Nat.le_of_ble_eq_true rfl)) ?_
  refine rt_weq (w' := (rt_bk w t (tx_L s0 ca t (rt_r s0 tp) (nI (V + 1)) (nI p) (-1) k (upd b V (nI p)) (upd nx V (-1)) fi pa wo ke nu le (nI L)))) (by rw [cl_putN hV (by decide)]) ?_
  refine rt_aload_n dX8_parseValue_36 rfl (j := 1) rfl ?_
  refine rt_bGet Γ kf_RX8_26 dX8_parseValue_37 (L := (tx_L s0 ca t (rt_r s0 tp) (nI (V + 1)) (nI p) (-1) k (upd b V (nI p)) (upd nx V (-1)) fi pa wo ke nu le (nI L))) rfl rfl ?_
  refine rt_iload_n dX8_parseValue_40 rfl (j := 0) rfl ?_
  refine rt_iconst (v := (-1)) dX8_parseValue_41 (by decide) ?_
  refine rt_callV Γ kk_X0_put kc_RX8_89 (c_X0_put Γ (d := d - 1) (rt_bk_C (t := t) (L := (tx_L s0 ca t (rt_r s0 tp) (nI (V + 1)) (nI p) (-1) k (upd b V (nI p)) (upd nx V (-1)) fi pa wo ke nu le (nI L))) 7 (Nat.le_of_ble_eq_true rfl) rfl rfl) (by decide)) (by omega) (by decide) (As := [.int (nI V), .int (-1)]) (show (parseMethodDescriptor yX0_put.desc).map (fun q => q.parameters.length) = some 2 by decide +kernel) hok (Nat.le_of_ble_eq_true rfl) dX8_parseValue_42 (rt_bk_C (t := t) (L := (tx_L s0 ca t (rt_r s0 tp) (nI (V + 1)) (nI p) (-1) k (upd b V (nI p)) (upd nx V (-1)) fi pa wo ke nu le (nI L))) 7 (Nat.le_of_ble_eq_true rfl) rfl rfl).1 rfl rfl rfl (rt_kr (st2 := []) rfl ?_) rt_kx
  refine rt_weq (w' := (rt_bk w t (tx_L s0 ca t (rt_r s0 tp) (nI (V + 1)) (nI p) (-1) k (upd b V (nI p)) (upd nx V (-1)) (cl_put 2073 fi (nI V) (-1)) pa wo ke nu le (nI L)))) (rt_bk_cs 7 (Nat.le_of_ble_eq_true rfl)) ?_
  refine rt_weq (w' := (rt_bk w t (tx_L s0 ca t (rt_r s0 tp) (nI (V + 1)) (nI p) (-1) k (upd b V (nI p)) (upd nx V (-1)) (upd fi V (-1)) pa wo ke nu le (nI L)))) (by rw [cl_putN hV (by decide)]) ?_
  refine rt_aload_n dX8_parseValue_45 rfl (j := 1) rfl ?_
  refine rt_bGet Γ kf_RX8_29 dX8_parseValue_46 (L := (tx_L s0 ca t (rt_r s0 tp) (nI (V + 1)) (nI p) (-1) k (upd b V (nI p)) (upd nx V (-1)) (upd fi V (-1)) pa wo ke nu le (nI L))) rfl rfl ?_
  refine rt_iload_n dX8_parseValue_49 rfl (j := 0) rfl ?_
  refine rt_iconst (v := 0) dX8_parseValue_50 (by decide) ?_
  refine rt_callV Γ kk_X0_put kc_RX8_89 (c_X0_put Γ (d := d - 1) (rt_bk_C (t := t) (L := (tx_L s0 ca t (rt_r s0 tp) (nI (V + 1)) (nI p) (-1) k (upd b V (nI p)) (upd nx V (-1)) (upd fi V (-1)) pa wo ke nu le (nI L))) 9 (Nat.le_of_ble_eq_true rfl) rfl rfl) (by decide)) (by omega) (by decide) (As := [.int (nI V), .int 0]) (show (parseMethodDescriptor yX0_put.desc).map (fun q => q.parameters.length) = some 2 by decide +kernel) hok (Nat.le_of_ble_eq_true rfl) dX8_parseValue_51 (rt_bk_C (t := t) (L := (tx_L s0 ca t (rt_r s0 tp) (nI (V + 1)) (nI p) (-1) k (upd b V (nI p)) (upd nx V (-1)) (upd fi V (-1)) pa wo ke nu le (nI L))) 9 (Nat.le_of_ble_eq_true rfl) rfl rfl).1 rfl rfl rfl (rt_kr (st2 := []) rfl ?_) rt_kx
  refine rt_weq (w' := (rt_bk w t (tx_L s0 ca t (rt_r s0 tp) (nI (V + 1)) (nI p) (-1) k (upd b V (nI p)) (upd nx V (-1)) (upd fi V (-1)) (cl_put 2073 pa (nI V) 0) wo ke nu le (nI L)))) (rt_bk_cs 9 (Nat.le_of_ble_eq_true rfl)) ?_
  refine rt_weq (w' := (rt_bk w t (tx_L s0 ca t (rt_r s0 tp) (nI (V + 1)) (nI p) (-1) k (upd b V (nI p)) (upd nx V (-1)) (upd fi V (-1)) (upd pa V 0) wo ke nu le (nI L)))) (by rw [cl_putN hV (by decide)]) ?_
  refine rt_aload_n dX8_parseValue_54 rfl (j := 1) rfl ?_
  refine rt_bGet Γ kf_RX8_57 dX8_parseValue_55 (L := (tx_L s0 ca t (rt_r s0 tp) (nI (V + 1)) (nI p) (-1) k (upd b V (nI p)) (upd nx V (-1)) (upd fi V (-1)) (upd pa V 0) wo ke nu le (nI L))) rfl rfl ?_
  refine rt_aload_n dX8_parseValue_58 rfl (j := 1) rfl ?_
  refine rt_bGet Γ kf_RX8_67 dX8_parseValue_59 (L := (tx_L s0 ca t (rt_r s0 tp) (nI (V + 1)) (nI p) (-1) k (upd b V (nI p)) (upd nx V (-1)) (upd fi V (-1)) (upd pa V 0) wo ke nu le (nI L))) rfl rfl ?_
  refine rt_callV Γ kk_X0_peek kc_RX8_86 (c_X0_peek Γ (d := d - 1) (x := (nI p)) (hT.bk htp) hn) (by omega) (by decide) (As := [.int (nI p)]) (show (parseMethodDescriptor yX0_peek.desc).map (fun q => q.parameters.length) = some 1 by decide +kernel) hok (Nat.le_of_ble_eq_true rfl) dX8_parseValue_62 (hT.bk htp).1 rfl rfl rfl (rt_kr (st2 := [.int (cl_peek n f u (nI p))]) rfl ?_) rt_kx
  refine rt_te (y := g p) (hg p (by omega)) ?_
  refine rt_istore_n (lv' := [(3, .int (g p)), (2, .int (nI V)), (0, rt_r s0 t), (1, .int (nI dp))]) dX8_parseValue_65 rfl (by decide) rfl ?_
  refine rt_iload_n dX8_parseValue_66 rfl (j := 0) rfl ?_
  refine rt_bipush (v := 123) dX8_parseValue_67 (by decide) ?_
  refine rt_icmp_ne (tgt := 92) dX8_parseValue_69 (by decide) (fun _ => ?_) (fun c69 => absurd c69 n1)
  refine rt_iload_n dX8_parseValue_92 rfl (j := 0) rfl ?_
  refine rt_bipush (v := 91) dX8_parseValue_93 (by decide) ?_
  refine rt_icmp_ne (tgt := 118) dX8_parseValue_95 (by decide) (fun c95 => absurd c95 (fun c => c h)) (fun _ => ?_)
  refine rt_aload_n dX8_parseValue_98 rfl (j := 2) rfl ?_
  refine rt_bGet Γ kf_RX8_16 dX8_parseValue_99 (L := (tx_L s0 ca t (rt_r s0 tp) (nI (V + 1)) (nI p) (-1) k (upd b V (nI p)) (upd nx V (-1)) (upd fi V (-1)) (upd pa V 0) wo ke nu le (nI L))) rfl rfl ?_
  refine rt_iload_n dX8_parseValue_102 rfl (j := 1) rfl ?_
  refine rt_iconst (v := 2) dX8_parseValue_103 (by decide) ?_
  refine rt_callV Γ kk_X0_put kc_RX8_89 (c_X0_put Γ (d := d - 1) (rt_bk_C (t := t) (L := (tx_L s0 ca t (rt_r s0 tp) (nI (V + 1)) (nI p) (-1) k (upd b V (nI p)) (upd nx V (-1)) (upd fi V (-1)) (upd pa V 0) wo ke nu le (nI L))) 1 (Nat.le_of_ble_eq_true rfl) rfl rfl) (by decide)) (by omega) (by decide) (As := [.int (nI V), .int 2]) (show (parseMethodDescriptor yX0_put.desc).map (fun q => q.parameters.length) = some 2 by decide +kernel) hok (Nat.le_of_ble_eq_true rfl) dX8_parseValue_104 (rt_bk_C (t := t) (L := (tx_L s0 ca t (rt_r s0 tp) (nI (V + 1)) (nI p) (-1) k (upd b V (nI p)) (upd nx V (-1)) (upd fi V (-1)) (upd pa V 0) wo ke nu le (nI L))) 1 (Nat.le_of_ble_eq_true rfl) rfl rfl).1 rfl rfl rfl (rt_kr (st2 := []) rfl ?_) rt_kx
  refine rt_weq (w' := (rt_bk w t (tx_L s0 ca t (rt_r s0 tp) (nI (V + 1)) (nI p) (-1) (cl_put 2073 k (nI V) 2) (upd b V (nI p)) (upd nx V (-1)) (upd fi V (-1)) (upd pa V 0) wo ke nu le (nI L)))) (rt_bk_cs 1 (Nat.le_of_ble_eq_true rfl)) ?_
  refine rt_weq (w' := (rt_bk w t (tx_L s0 ca t (rt_r s0 tp) (nI (V + 1)) (nI p) (-1) (upd k V 2) (upd b V (nI p)) (upd nx V (-1)) (upd fi V (-1)) (upd pa V 0) wo ke nu le (nI L)))) (by rw [cl_putN hV (by decide)]) ?_
  refine rt_aload_n dX8_parseValue_107 rfl (j := 2) rfl ?_
  refine rt_iload_n dX8_parseValue_108 rfl (j := 1) rfl ?_
  refine rt_bipush (v := 93) dX8_parseValue_109 (by decide) ?_
  refine rt_iload_n dX8_parseValue_111 rfl (j := 3) rfl ?_
  refine rt_callV Γ kk_X8_parseParts kc_RX8_93 (j_pp1f Γ (d := d - 1) (by omega) hT hn htp hg hok hN hpN hdp (by omega)) (by omega) (by decide) (As := [.int (nI V), .int 93, .int (nI dp)]) (show (parseMethodDescriptor yX8_parseParts.desc).map (fun q => q.parameters.length) = some 3 by decide +kernel) hok (Nat.le_of_ble_eq_true rfl) dX8_parseValue_112 ((rt_bk_0 w t (tx_L s0 ca t (rt_r s0 tp) (nI (V + 1)) (nI p) (-1) (upd k V 2) (upd b V (nI p)) (upd nx V (-1)) (upd fi V (-1)) (upd pa V 0) wo ke nu le (nI L)) (Nat.le_of_ble_eq_true rfl)).trans rfl) rfl rfl rfl (fun v9 w9 hq => ?_) (fun X w9 hq => nomatch hq.1)
  obtain ⟨e9, vals21, pos21, k21, b21, nx21, fi21, pa21, wo21, ke21, nu21, le21, lu21, rfl⟩ := hq
  cases e9
  show rt_Go l s0 G RX8 "parseValue" cX8_parseValue 4 (Option.some FieldType.int) [] d _ _ (112 + 3) [(3, .int (g p)), (2, .int (nI V)), (0, rt_r s0 t), (1, .int (nI dp))] [] (rt_bk w t (tx_L s0 ca t (rt_r s0 tp) vals21 pos21 (nI p) k21 b21 nx21 fi21 pa21 wo21 ke21 nu21 le21 lu21))
  refine rt_goto (tgt := 215) dX8_parseValue_115 (by decide) ?_
  refine rt_iload_n dX8_parseValue_215 rfl (j := 1) rfl ?_
  exact rt_iret dX8_parseValue_216 rfl (⟨rfl, _, _, _, _, _, _, _, _, _, _, _, _, rfl⟩)
set_option maxRecDepth 100000 in
theorem jv_b2f {l : Launch} {s0 : State} {a0 : Array Value} {G : va_G} {ca : Nat → ClassId} (Γ : rt_Γ l s0 a0 G ca) {d : Nat} {w : rt_Wd} {t : Nat} {k : Nat → Int32} {b : Nat → Int32} {nx : Nat → Int32} {fi : Nat → Int32} {pa : Nat → Int32} {wo : Nat → Int32} {ke : Nat → Int32} {nu : Nat → Int64} {le : Nat → Int32} (hd : 4 ≤ d) {tp n : Nat} {f : Nat → Int32} {u : Int32} {g : Nat → Int32} (hT : rt_C s0 ca w tp n f u) (hn : n < 2 ^ 31) (htp : tp + 1 < t ∨ t + 18 ≤ tp) (hg : ∀ p : Nat, p < 65536 → cl_peek n f u (nI p) = g p) (hok : rt_ok w) {p V L N dp : Nat} (hN : jT g N) (hp : p ≤ N) (hVp : V ≤ p) (hLp : L ≤ p) (n1 : ¬ g p = 123) (h : g p = 91) (hdp : dp < 24) (hc : g (jSk g 4096 (p + 1)) = 93) : rt_Met l s0 G (.code yX8_parseValue cX8_parseValue 4 (Option.some FieldType.int)) yX8_parseValue d [rt_r s0 t, .int (nI dp)] (rt_bk w t (tx_L s0 ca t (rt_r s0 tp) (nI V) (nI p) (-1) k b nx fi pa wo ke nu le (nI L))) (jVO s0 ca w t tp V L (jSk g 4096 (p + 1) + 1) k b nx fi pa wo ke nu le [(2, p, 0, [], none, 0, 1, false)]) := by
  refine rt_met Γ kk_X8_parseValue rfl (Nat.le_of_ble_eq_true rfl) rfl ?_
  have hN0 := hN.1
  have hV : V < 2073 := by omega
  have hpN : p < N := hN.lt (by rw [h]; decide)
  refine rt_aload_n dX8_parseValue_0 rfl (j := 0) rfl ?_
  refine rt_bGet Γ kf_RX8_63 dX8_parseValue_1 (L := (tx_L s0 ca t (rt_r s0 tp) (nI V) (nI p) (-1) k b nx fi pa wo ke nu le (nI L))) rfl rfl ?_
  refine rt_istore_n (lv' := [(2, .int (nI V)), (0, rt_r s0 t), (1, .int (nI dp))]) dX8_parseValue_4 rfl (by decide) rfl ?_
  refine rt_aload_n dX8_parseValue_5 rfl (j := 1) rfl ?_
  refine rt_dup dX8_parseValue_6 rfl ?_
  refine rt_bGet Γ kf_RX8_63 dX8_parseValue_7 (L := (tx_L s0 ca t (rt_r s0 tp) (nI V) (nI p) (-1) k b nx fi pa wo ke nu le (nI L))) rfl rfl ?_
  refine rt_iconst (v := 1) dX8_parseValue_10 (by decide) ?_
  refine rt_iadd dX8_parseValue_11 ?_
  refine rt_te (y := nI (V + 1)) (nI_1 V) ?_
  refine rt_bPut Γ kp_RX8_63 dX8_parseValue_12 (L := (tx_L s0 ca t (rt_r s0 tp) (nI V) (nI p) (-1) k b nx fi pa wo ke nu le (nI L))) rfl (Nat.le_of_ble_eq_true rfl) rfl rfl (L' := (tx_L s0 ca t (rt_r s0 tp) (nI (V + 1)) (nI p) (-1) k b nx fi pa wo ke nu le (nI L))) rfl ?_
  refine rt_aload_n dX8_parseValue_15 rfl (j := 1) rfl ?_
  refine rt_bGet Γ kf_RX8_20 dX8_parseValue_16 (L := (tx_L s0 ca t (rt_r s0 tp) (nI (V + 1)) (nI p) (-1) k b nx fi pa wo ke nu le (nI L))) rfl rfl ?_
  refine rt_iload_n dX8_parseValue_19 rfl (j := 0) rfl ?_
  refine rt_aload_n dX8_parseValue_20 rfl (j := 1) rfl ?_
  refine rt_bGet Γ kf_RX8_67 dX8_parseValue_21 (L := (tx_L s0 ca t (rt_r s0 tp) (nI (V + 1)) (nI p) (-1) k b nx fi pa wo ke nu le (nI L))) rfl rfl ?_
  refine rt_callV Γ kk_X0_put kc_RX8_89 (c_X0_put Γ (d := d - 1) (rt_bk_C (t := t) (L := (tx_L s0 ca t (rt_r s0 tp) (nI (V + 1)) (nI p) (-1) k b nx fi pa wo ke nu le (nI L))) 3 (Nat.le_of_ble_eq_true rfl) rfl rfl) (by decide)) (by omega) (by decide) (As := [.int (nI V), .int (nI p)]) (show (parseMethodDescriptor yX0_put.desc).map (fun q => q.parameters.length) = some 2 by decide +kernel) hok (Nat.le_of_ble_eq_true rfl) dX8_parseValue_24 (rt_bk_C (t := t) (L := (tx_L s0 ca t (rt_r s0 tp) (nI (V + 1)) (nI p) (-1) k b nx fi pa wo ke nu le (nI L))) 3 (Nat.le_of_ble_eq_true rfl) rfl rfl).1 rfl rfl rfl (rt_kr (st2 := []) rfl ?_) rt_kx
  refine rt_weq (w' := (rt_bk w t (tx_L s0 ca t (rt_r s0 tp) (nI (V + 1)) (nI p) (-1) k (cl_put 2073 b (nI V) (nI p)) nx fi pa wo ke nu le (nI L)))) (rt_bk_cs 3 (Nat.le_of_ble_eq_true rfl)) ?_
  refine rt_weq (w' := (rt_bk w t (tx_L s0 ca t (rt_r s0 tp) (nI (V + 1)) (nI p) (-1) k (upd b V (nI p)) nx fi pa wo ke nu le (nI L)))) (by rw [cl_putN hV (by decide)]) ?_
  refine rt_aload_n dX8_parseValue_27 rfl (j := 1) rfl ?_
  refine rt_bGet Γ kf_RX8_23 dX8_parseValue_28 (L := (tx_L s0 ca t (rt_r s0 tp) (nI (V + 1)) (nI p) (-1) k (upd b V (nI p)) nx fi pa wo ke nu le (nI L))) rfl rfl ?_
  refine rt_iload_n dX8_parseValue_31 rfl (j := 0) rfl ?_
  refine rt_iconst (v := (-1)) dX8_parseValue_32 (by decide) ?_
  refine rt_callV Γ kk_X0_put kc_RX8_89 (c_X0_put Γ (d := d - 1) (rt_bk_C (t := t) (L := (tx_L s0 ca t (rt_r s0 tp) (nI (V + 1)) (nI p) (-1) k (upd b V (nI p)) nx fi pa wo ke nu le (nI L))) 5 (Nat.le_of_ble_eq_true rfl) rfl rfl) (by decide)) (by omega) (by decide) (As := [.int (nI V), .int (-1)]) (show (parseMethodDescriptor yX0_put.desc).map (fun q => q.parameters.length) = some 2 by decide +kernel) hok (Nat.le_of_ble_eq_true rfl) dX8_parseValue_33 (rt_bk_C (t := t) (L := (tx_L s0 ca t (rt_r s0 tp) (nI (V + 1)) (nI p) (-1) k (upd b V (nI p)) nx fi pa wo ke nu le (nI L))) 5 (Nat.le_of_ble_eq_true rfl) rfl rfl).1 rfl rfl rfl (rt_kr (st2 := []) rfl ?_) rt_kx
  refine rt_weq (w' := (rt_bk w t (tx_L s0 ca t (rt_r s0 tp) (nI (V + 1)) (nI p) (-1) k (upd b V (nI p)) (cl_put 2073 nx (nI V) (-1)) fi pa wo ke nu le (nI L)))) (rt_bk_cs 5 (Nat.le_of_ble_eq_true rfl)) ?_
  refine rt_weq (w' := (rt_bk w t (tx_L s0 ca t (rt_r s0 tp) (nI (V + 1)) (nI p) (-1) k (upd b V (nI p)) (upd nx V (-1)) fi pa wo ke nu le (nI L)))) (by rw [cl_putN hV (by decide)]) ?_
  refine rt_aload_n dX8_parseValue_36 rfl (j := 1) rfl ?_
  refine rt_bGet Γ kf_RX8_26 dX8_parseValue_37 (L := (tx_L s0 ca t (rt_r s0 tp) (nI (V + 1)) (nI p) (-1) k (upd b V (nI p)) (upd nx V (-1)) fi pa wo ke nu le (nI L))) rfl rfl ?_
  refine rt_iload_n dX8_parseValue_40 rfl (j := 0) rfl ?_
  refine rt_iconst (v := (-1)) dX8_parseValue_41 (by decide) ?_
  refine rt_callV Γ kk_X0_put kc_RX8_89 (c_X0_put Γ (d := d - 1) (rt_bk_C (t := t) (L := (tx_L s0 ca t (rt_r s0 tp) (nI (V + 1)) (nI p) (-1) k (upd b V (nI p)) (upd nx V (-1)) fi pa wo ke nu le (nI L))) 7 (Nat.le_of_ble_eq_true rfl) rfl rfl) (by decide)) (by omega) (by decide) (As := [.int (nI V), .int (-1)]) (show (parseMethodDescriptor yX0_put.desc).map (fun q => q.parameters.length) = some 2 by decide +kernel) hok (Nat.le_of_ble_eq_true rfl) dX8_parseValue_42 (rt_bk_C (t := t) (L := (tx_L s0 ca t (rt_r s0 tp) (nI (V + 1)) (nI p) (-1) k (upd b V (nI p)) (upd nx V (-1)) fi pa wo ke nu le (nI L))) 7 (Nat.le_of_ble_eq_true rfl) rfl rfl).1 rfl rfl rfl (rt_kr (st2 := []) rfl ?_) rt_kx
  refine rt_weq (w' := (rt_bk w t (tx_L s0 ca t (rt_r s0 tp) (nI (V + 1)) (nI p) (-1) k (upd b V (nI p)) (upd nx V (-1)) (cl_put 2073 fi (nI V) (-1)) pa wo ke nu le (nI L)))) (rt_bk_cs 7 (Nat.le_of_ble_eq_true rfl)) ?_
  refine rt_weq (w' := (rt_bk w t (tx_L s0 ca t (rt_r s0 tp) (nI (V + 1)) (nI p) (-1) k (upd b V (nI p)) (upd nx V (-1)) (upd fi V (-1)) pa wo ke nu le (nI L)))) (by rw [cl_putN hV (by decide)]) ?_
  refine rt_aload_n dX8_parseValue_45 rfl (j := 1) rfl ?_
  refine rt_bGet Γ kf_RX8_29 dX8_parseValue_46 (L := (tx_L s0 ca t (rt_r s0 tp) (nI (V + 1)) (nI p) (-1) k (upd b V (nI p)) (upd nx V (-1)) (upd fi V (-1)) pa wo ke nu le (nI L))) rfl rfl ?_
  refine rt_iload_n dX8_parseValue_49 rfl (j := 0) rfl ?_
  refine rt_iconst (v := 0) dX8_parseValue_50 (by decide) ?_
  refine rt_callV Γ kk_X0_put kc_RX8_89 (c_X0_put Γ (d := d - 1) (rt_bk_C (t := t) (L := (tx_L s0 ca t (rt_r s0 tp) (nI (V + 1)) (nI p) (-1) k (upd b V (nI p)) (upd nx V (-1)) (upd fi V (-1)) pa wo ke nu le (nI L))) 9 (Nat.le_of_ble_eq_true rfl) rfl rfl) (by decide)) (by omega) (by decide) (As := [.int (nI V), .int 0]) (show (parseMethodDescriptor yX0_put.desc).map (fun q => q.parameters.length) = some 2 by decide +kernel) hok (Nat.le_of_ble_eq_true rfl) dX8_parseValue_51 (rt_bk_C (t := t) (L := (tx_L s0 ca t (rt_r s0 tp) (nI (V + 1)) (nI p) (-1) k (upd b V (nI p)) (upd nx V (-1)) (upd fi V (-1)) pa wo ke nu le (nI L))) 9 (Nat.le_of_ble_eq_true rfl) rfl rfl).1 rfl rfl rfl (rt_kr (st2 := []) rfl ?_) rt_kx
  refine rt_weq (w' := (rt_bk w t (tx_L s0 ca t (rt_r s0 tp) (nI (V + 1)) (nI p) (-1) k (upd b V (nI p)) (upd nx V (-1)) (upd fi V (-1)) (cl_put 2073 pa (nI V) 0) wo ke nu le (nI L)))) (rt_bk_cs 9 (Nat.le_of_ble_eq_true rfl)) ?_
  refine rt_weq (w' := (rt_bk w t (tx_L s0 ca t (rt_r s0 tp) (nI (V + 1)) (nI p) (-1) k (upd b V (nI p)) (upd nx V (-1)) (upd fi V (-1)) (upd pa V 0) wo ke nu le (nI L)))) (by rw [cl_putN hV (by decide)]) ?_
  refine rt_aload_n dX8_parseValue_54 rfl (j := 1) rfl ?_
  refine rt_bGet Γ kf_RX8_57 dX8_parseValue_55 (L := (tx_L s0 ca t (rt_r s0 tp) (nI (V + 1)) (nI p) (-1) k (upd b V (nI p)) (upd nx V (-1)) (upd fi V (-1)) (upd pa V 0) wo ke nu le (nI L))) rfl rfl ?_
  refine rt_aload_n dX8_parseValue_58 rfl (j := 1) rfl ?_
  refine rt_bGet Γ kf_RX8_67 dX8_parseValue_59 (L := (tx_L s0 ca t (rt_r s0 tp) (nI (V + 1)) (nI p) (-1) k (upd b V (nI p)) (upd nx V (-1)) (upd fi V (-1)) (upd pa V 0) wo ke nu le (nI L))) rfl rfl ?_
  refine rt_callV Γ kk_X0_peek kc_RX8_86 (c_X0_peek Γ (d := d - 1) (x := (nI p)) (hT.bk htp) hn) (by omega) (by decide) (As := [.int (nI p)]) (show (parseMethodDescriptor yX0_peek.desc).map (fun q => q.parameters.length) = some 1 by decide +kernel) hok (Nat.le_of_ble_eq_true rfl) dX8_parseValue_62 (hT.bk htp).1 rfl rfl rfl (rt_kr (st2 := [.int (cl_peek n f u (nI p))]) rfl ?_) rt_kx
  refine rt_te (y := g p) (hg p (by omega)) ?_
  refine rt_istore_n (lv' := [(3, .int (g p)), (2, .int (nI V)), (0, rt_r s0 t), (1, .int (nI dp))]) dX8_parseValue_65 rfl (by decide) rfl ?_
  refine rt_iload_n dX8_parseValue_66 rfl (j := 0) rfl ?_
  refine rt_bipush (v := 123) dX8_parseValue_67 (by decide) ?_
  refine rt_icmp_ne (tgt := 92) dX8_parseValue_69 (by decide) (fun _ => ?_) (fun c69 => absurd c69 n1)
  refine rt_iload_n dX8_parseValue_92 rfl (j := 0) rfl ?_
  refine rt_bipush (v := 91) dX8_parseValue_93 (by decide) ?_
  refine rt_icmp_ne (tgt := 118) dX8_parseValue_95 (by decide) (fun c95 => absurd c95 (fun c => c h)) (fun _ => ?_)
  refine rt_aload_n dX8_parseValue_98 rfl (j := 2) rfl ?_
  refine rt_bGet Γ kf_RX8_16 dX8_parseValue_99 (L := (tx_L s0 ca t (rt_r s0 tp) (nI (V + 1)) (nI p) (-1) k (upd b V (nI p)) (upd nx V (-1)) (upd fi V (-1)) (upd pa V 0) wo ke nu le (nI L))) rfl rfl ?_
  refine rt_iload_n dX8_parseValue_102 rfl (j := 1) rfl ?_
  refine rt_iconst (v := 2) dX8_parseValue_103 (by decide) ?_
  refine rt_callV Γ kk_X0_put kc_RX8_89 (c_X0_put Γ (d := d - 1) (rt_bk_C (t := t) (L := (tx_L s0 ca t (rt_r s0 tp) (nI (V + 1)) (nI p) (-1) k (upd b V (nI p)) (upd nx V (-1)) (upd fi V (-1)) (upd pa V 0) wo ke nu le (nI L))) 1 (Nat.le_of_ble_eq_true rfl) rfl rfl) (by decide)) (by omega) (by decide) (As := [.int (nI V), .int 2]) (show (parseMethodDescriptor yX0_put.desc).map (fun q => q.parameters.length) = some 2 by decide +kernel) hok (Nat.le_of_ble_eq_true rfl) dX8_parseValue_104 (rt_bk_C (t := t) (L := (tx_L s0 ca t (rt_r s0 tp) (nI (V + 1)) (nI p) (-1) k (upd b V (nI p)) (upd nx V (-1)) (upd fi V (-1)) (upd pa V 0) wo ke nu le (nI L))) 1 (Nat.le_of_ble_eq_true rfl) rfl rfl).1 rfl rfl rfl (rt_kr (st2 := []) rfl ?_) rt_kx
  refine rt_weq (w' := (rt_bk w t (tx_L s0 ca t (rt_r s0 tp) (nI (V + 1)) (nI p) (-1) (cl_put 2073 k (nI V) 2) (upd b V (nI p)) (upd nx V (-1)) (upd fi V (-1)) (upd pa V 0) wo ke nu le (nI L)))) (rt_bk_cs 1 (Nat.le_of_ble_eq_true rfl)) ?_
  refine rt_weq (w' := (rt_bk w t (tx_L s0 ca t (rt_r s0 tp) (nI (V + 1)) (nI p) (-1) (upd k V 2) (upd b V (nI p)) (upd nx V (-1)) (upd fi V (-1)) (upd pa V 0) wo ke nu le (nI L)))) (by rw [cl_putN hV (by decide)]) ?_
  refine rt_aload_n dX8_parseValue_107 rfl (j := 2) rfl ?_
  refine rt_iload_n dX8_parseValue_108 rfl (j := 1) rfl ?_
  refine rt_bipush (v := 93) dX8_parseValue_109 (by decide) ?_
  refine rt_iload_n dX8_parseValue_111 rfl (j := 3) rfl ?_
  refine rt_callV Γ kk_X8_parseParts kc_RX8_93 (j_pp2f Γ (d := d - 1) (by omega) hT hn htp hg hok hN hpN hdp hc) (by omega) (by decide) (As := [.int (nI V), .int 93, .int (nI dp)]) (show (parseMethodDescriptor yX8_parseParts.desc).map (fun q => q.parameters.length) = some 3 by decide +kernel) hok (Nat.le_of_ble_eq_true rfl) dX8_parseValue_112 ((rt_bk_0 w t (tx_L s0 ca t (rt_r s0 tp) (nI (V + 1)) (nI p) (-1) (upd k V 2) (upd b V (nI p)) (upd nx V (-1)) (upd fi V (-1)) (upd pa V 0) wo ke nu le (nI L)) (Nat.le_of_ble_eq_true rfl)).trans rfl) rfl rfl rfl (rt_kr (st2 := []) rfl ?_) rt_kx
  refine rt_goto (tgt := 215) dX8_parseValue_115 (by decide) ?_
  refine rt_iload_n dX8_parseValue_215 rfl (j := 1) rfl ?_
  refine rt_iret dX8_parseValue_216 rfl ⟨rfl, (upd k V 2), (upd b V (nI p)), (upd nx V (-1)), (upd fi V (-1)), (upd pa V 0), wo, ke, nu, le, ?_, (fun i hi => ⟨pk_un (by omega), pk_un (by omega), pk_un (by omega), pk_un (by omega), pk_un (by omega), rfl, rfl, rfl⟩), rfl, fun _ _ => rfl, jRep.one ⟨pk_us, pk_us, pk_us, pk_us, pk_us, (fun c => absurd (show (2 : Nat) = 4 from c) (by decide)), (fun c => absurd (show (2 : Nat) = 3 from c) (by decide)), (fun _ c => nomatch c)⟩⟩
  rw [jLw_l _ _ _ (by decide)]
  rfl
set_option maxRecDepth 100000 in
theorem jv_b3fE {l : Launch} {s0 : State} {a0 : Array Value} {G : va_G} {ca : Nat → ClassId} (Γ : rt_Γ l s0 a0 G ca) {d : Nat} {w : rt_Wd} {t : Nat} {k : Nat → Int32} {b : Nat → Int32} {nx : Nat → Int32} {fi : Nat → Int32} {pa : Nat → Int32} {wo : Nat → Int32} {ke : Nat → Int32} {nu : Nat → Int64} {le : Nat → Int32} {tp n : Nat} {f : Nat → Int32} {u : Int32} {g : Nat → Int32} (hT : rt_C s0 ca w tp n f u) (hn : n < 2 ^ 31) (htp : tp + 1 < t ∨ t + 18 ≤ tp) (hg : ∀ p : Nat, p < 65536 → cl_peek n f u (nI p) = g p) (hok : rt_ok w) {p V L N dp : Nat} (hN : jT g N) (hp : p ≤ N) (hVp : V ≤ p) (hLp : L ≤ p) (hd : 2 * (25 - dp) + 6 ≤ d) (n1 : ¬ g p = 123) (h : g p = 91) (hdp : dp < 24) (hc : ¬ g (jSk g 4096 (p + 1)) = 93) {m : Nat} (hIV : ∀ i : Nat, i < m → jIV l s0 G ca w t tp N g i) (hm : 2 * (N - (p + 1)) + 2 ≤ m) {e : Nat} (hge : jGo g m (some (false, [])) dp (jSk g 4096 (p + 1)) = .error e) : rt_Met l s0 G (.code yX8_parseValue cX8_parseValue 4 (Option.some FieldType.int)) yX8_parseValue d [rt_r s0 t, .int (nI dp)] (rt_bk w t (tx_L s0 ca t (rt_r s0 tp) (nI V) (nI p) (-1) k b nx fi pa wo ke nu le (nI L))) (fun r w1 => r = .inl (some (.int (nI V))) ∧ tx_B s0 ca w t tp e w1) := by
  refine rt_met Γ kk_X8_parseValue rfl (Nat.le_of_ble_eq_true rfl) rfl ?_
  have hN0 := hN.1
  have hV : V < 2073 := by omega
  have hpN : p < N := hN.lt (by rw [h]; decide)
  refine rt_aload_n dX8_parseValue_0 rfl (j := 0) rfl ?_
  refine rt_bGet Γ kf_RX8_63 dX8_parseValue_1 (L := (tx_L s0 ca t (rt_r s0 tp) (nI V) (nI p) (-1) k b nx fi pa wo ke nu le (nI L))) rfl rfl ?_
  refine rt_istore_n (lv' := [(2, .int (nI V)), (0, rt_r s0 t), (1, .int (nI dp))]) dX8_parseValue_4 rfl (by decide) rfl ?_
  refine rt_aload_n dX8_parseValue_5 rfl (j := 1) rfl ?_
  refine rt_dup dX8_parseValue_6 rfl ?_
  refine rt_bGet Γ kf_RX8_63 dX8_parseValue_7 (L := (tx_L s0 ca t (rt_r s0 tp) (nI V) (nI p) (-1) k b nx fi pa wo ke nu le (nI L))) rfl rfl ?_
  refine rt_iconst (v := 1) dX8_parseValue_10 (by decide) ?_
  refine rt_iadd dX8_parseValue_11 ?_
  refine rt_te (y := nI (V + 1)) (nI_1 V) ?_
  refine rt_bPut Γ kp_RX8_63 dX8_parseValue_12 (L := (tx_L s0 ca t (rt_r s0 tp) (nI V) (nI p) (-1) k b nx fi pa wo ke nu le (nI L))) rfl (Nat.le_of_ble_eq_true rfl) rfl rfl (L' := (tx_L s0 ca t (rt_r s0 tp) (nI (V + 1)) (nI p) (-1) k b nx fi pa wo ke nu le (nI L))) rfl ?_
  refine rt_aload_n dX8_parseValue_15 rfl (j := 1) rfl ?_
  refine rt_bGet Γ kf_RX8_20 dX8_parseValue_16 (L := (tx_L s0 ca t (rt_r s0 tp) (nI (V + 1)) (nI p) (-1) k b nx fi pa wo ke nu le (nI L))) rfl rfl ?_
  refine rt_iload_n dX8_parseValue_19 rfl (j := 0) rfl ?_
  refine rt_aload_n dX8_parseValue_20 rfl (j := 1) rfl ?_
  refine rt_bGet Γ kf_RX8_67 dX8_parseValue_21 (L := (tx_L s0 ca t (rt_r s0 tp) (nI (V + 1)) (nI p) (-1) k b nx fi pa wo ke nu le (nI L))) rfl rfl ?_
  refine rt_callV Γ kk_X0_put kc_RX8_89 (c_X0_put Γ (d := d - 1) (rt_bk_C (t := t) (L := (tx_L s0 ca t (rt_r s0 tp) (nI (V + 1)) (nI p) (-1) k b nx fi pa wo ke nu le (nI L))) 3 (Nat.le_of_ble_eq_true rfl) rfl rfl) (by decide)) (by omega) (by decide) (As := [.int (nI V), .int (nI p)]) (show (parseMethodDescriptor yX0_put.desc).map (fun q => q.parameters.length) = some 2 by decide +kernel) hok (Nat.le_of_ble_eq_true rfl) dX8_parseValue_24 (rt_bk_C (t := t) (L := (tx_L s0 ca t (rt_r s0 tp) (nI (V + 1)) (nI p) (-1) k b nx fi pa wo ke nu le (nI L))) 3 (Nat.le_of_ble_eq_true rfl) rfl rfl).1 rfl rfl rfl (rt_kr (st2 := []) rfl ?_) rt_kx
  refine rt_weq (w' := (rt_bk w t (tx_L s0 ca t (rt_r s0 tp) (nI (V + 1)) (nI p) (-1) k (cl_put 2073 b (nI V) (nI p)) nx fi pa wo ke nu le (nI L)))) (rt_bk_cs 3 (Nat.le_of_ble_eq_true rfl)) ?_
  refine rt_weq (w' := (rt_bk w t (tx_L s0 ca t (rt_r s0 tp) (nI (V + 1)) (nI p) (-1) k (upd b V (nI p)) nx fi pa wo ke nu le (nI L)))) (by rw [cl_putN hV (by decide)]) ?_
  refine rt_aload_n dX8_parseValue_27 rfl (j := 1) rfl ?_
  refine rt_bGet Γ kf_RX8_23 dX8_parseValue_28 (L := (tx_L s0 ca t (rt_r s0 tp) (nI (V + 1)) (nI p) (-1) k (upd b V (nI p)) nx fi pa wo ke nu le (nI L))) rfl rfl ?_
  refine rt_iload_n dX8_parseValue_31 rfl (j := 0) rfl ?_
  refine rt_iconst (v := (-1)) dX8_parseValue_32 (by decide) ?_
  refine rt_callV Γ kk_X0_put kc_RX8_89 (c_X0_put Γ (d := d - 1) (rt_bk_C (t := t) (L := (tx_L s0 ca t (rt_r s0 tp) (nI (V + 1)) (nI p) (-1) k (upd b V (nI p)) nx fi pa wo ke nu le (nI L))) 5 (Nat.le_of_ble_eq_true rfl) rfl rfl) (by decide)) (by omega) (by decide) (As := [.int (nI V), .int (-1)]) (show (parseMethodDescriptor yX0_put.desc).map (fun q => q.parameters.length) = some 2 by decide +kernel) hok (Nat.le_of_ble_eq_true rfl) dX8_parseValue_33 (rt_bk_C (t := t) (L := (tx_L s0 ca t (rt_r s0 tp) (nI (V + 1)) (nI p) (-1) k (upd b V (nI p)) nx fi pa wo ke nu le (nI L))) 5 (Nat.le_of_ble_eq_true rfl) rfl rfl).1 rfl rfl rfl (rt_kr (st2 := []) rfl ?_) rt_kx
  refine rt_weq (w' := (rt_bk w t (tx_L s0 ca t (rt_r s0 tp) (nI (V + 1)) (nI p) (-1) k (upd b V (nI p)) (cl_put 2073 nx (nI V) (-1)) fi pa wo ke nu le (nI L)))) (rt_bk_cs 5 (Nat.le_of_ble_eq_true rfl)) ?_
  refine rt_weq (w' := (rt_bk w t (tx_L s0 ca t (rt_r s0 tp) (nI (V + 1)) (nI p) (-1) k (upd b V (nI p)) (upd nx V (-1)) fi pa wo ke nu le (nI L)))) (by rw [cl_putN hV (by decide)]) ?_
  refine rt_aload_n dX8_parseValue_36 rfl (j := 1) rfl ?_
  refine rt_bGet Γ kf_RX8_26 dX8_parseValue_37 (L := (tx_L s0 ca t (rt_r s0 tp) (nI (V + 1)) (nI p) (-1) k (upd b V (nI p)) (upd nx V (-1)) fi pa wo ke nu le (nI L))) rfl rfl ?_
  refine rt_iload_n dX8_parseValue_40 rfl (j := 0) rfl ?_
  refine rt_iconst (v := (-1)) dX8_parseValue_41 (by decide) ?_
  refine rt_callV Γ kk_X0_put kc_RX8_89 (c_X0_put Γ (d := d - 1) (rt_bk_C (t := t) (L := (tx_L s0 ca t (rt_r s0 tp) (nI (V + 1)) (nI p) (-1) k (upd b V (nI p)) (upd nx V (-1)) fi pa wo ke nu le (nI L))) 7 (Nat.le_of_ble_eq_true rfl) rfl rfl) (by decide)) (by omega) (by decide) (As := [.int (nI V), .int (-1)]) (show (parseMethodDescriptor yX0_put.desc).map (fun q => q.parameters.length) = some 2 by decide +kernel) hok (Nat.le_of_ble_eq_true rfl) dX8_parseValue_42 (rt_bk_C (t := t) (L := (tx_L s0 ca t (rt_r s0 tp) (nI (V + 1)) (nI p) (-1) k (upd b V (nI p)) (upd nx V (-1)) fi pa wo ke nu le (nI L))) 7 (Nat.le_of_ble_eq_true rfl) rfl rfl).1 rfl rfl rfl (rt_kr (st2 := []) rfl ?_) rt_kx
  refine rt_weq (w' := (rt_bk w t (tx_L s0 ca t (rt_r s0 tp) (nI (V + 1)) (nI p) (-1) k (upd b V (nI p)) (upd nx V (-1)) (cl_put 2073 fi (nI V) (-1)) pa wo ke nu le (nI L)))) (rt_bk_cs 7 (Nat.le_of_ble_eq_true rfl)) ?_
  refine rt_weq (w' := (rt_bk w t (tx_L s0 ca t (rt_r s0 tp) (nI (V + 1)) (nI p) (-1) k (upd b V (nI p)) (upd nx V (-1)) (upd fi V (-1)) pa wo ke nu le (nI L)))) (by rw [cl_putN hV (by decide)]) ?_
  refine rt_aload_n dX8_parseValue_45 rfl (j := 1) rfl ?_
  refine rt_bGet Γ kf_RX8_29 dX8_parseValue_46 (L := (tx_L s0 ca t (rt_r s0 tp) (nI (V + 1)) (nI p) (-1) k (upd b V (nI p)) (upd nx V (-1)) (upd fi V (-1)) pa wo ke nu le (nI L))) rfl rfl ?_
  refine rt_iload_n dX8_parseValue_49 rfl (j := 0) rfl ?_
  refine rt_iconst (v := 0) dX8_parseValue_50 (by decide) ?_
  refine rt_callV Γ kk_X0_put kc_RX8_89 (c_X0_put Γ (d := d - 1) (rt_bk_C (t := t) (L := (tx_L s0 ca t (rt_r s0 tp) (nI (V + 1)) (nI p) (-1) k (upd b V (nI p)) (upd nx V (-1)) (upd fi V (-1)) pa wo ke nu le (nI L))) 9 (Nat.le_of_ble_eq_true rfl) rfl rfl) (by decide)) (by omega) (by decide) (As := [.int (nI V), .int 0]) (show (parseMethodDescriptor yX0_put.desc).map (fun q => q.parameters.length) = some 2 by decide +kernel) hok (Nat.le_of_ble_eq_true rfl) dX8_parseValue_51 (rt_bk_C (t := t) (L := (tx_L s0 ca t (rt_r s0 tp) (nI (V + 1)) (nI p) (-1) k (upd b V (nI p)) (upd nx V (-1)) (upd fi V (-1)) pa wo ke nu le (nI L))) 9 (Nat.le_of_ble_eq_true rfl) rfl rfl).1 rfl rfl rfl (rt_kr (st2 := []) rfl ?_) rt_kx
  refine rt_weq (w' := (rt_bk w t (tx_L s0 ca t (rt_r s0 tp) (nI (V + 1)) (nI p) (-1) k (upd b V (nI p)) (upd nx V (-1)) (upd fi V (-1)) (cl_put 2073 pa (nI V) 0) wo ke nu le (nI L)))) (rt_bk_cs 9 (Nat.le_of_ble_eq_true rfl)) ?_
  refine rt_weq (w' := (rt_bk w t (tx_L s0 ca t (rt_r s0 tp) (nI (V + 1)) (nI p) (-1) k (upd b V (nI p)) (upd nx V (-1)) (upd fi V (-1)) (upd pa V 0) wo ke nu le (nI L)))) (by rw [cl_putN hV (by decide)]) ?_
  refine rt_aload_n dX8_parseValue_54 rfl (j := 1) rfl ?_
  refine rt_bGet Γ kf_RX8_57 dX8_parseValue_55 (L := (tx_L s0 ca t (rt_r s0 tp) (nI (V + 1)) (nI p) (-1) k (upd b V (nI p)) (upd nx V (-1)) (upd fi V (-1)) (upd pa V 0) wo ke nu le (nI L))) rfl rfl ?_
  refine rt_aload_n dX8_parseValue_58 rfl (j := 1) rfl ?_
  refine rt_bGet Γ kf_RX8_67 dX8_parseValue_59 (L := (tx_L s0 ca t (rt_r s0 tp) (nI (V + 1)) (nI p) (-1) k (upd b V (nI p)) (upd nx V (-1)) (upd fi V (-1)) (upd pa V 0) wo ke nu le (nI L))) rfl rfl ?_
  refine rt_callV Γ kk_X0_peek kc_RX8_86 (c_X0_peek Γ (d := d - 1) (x := (nI p)) (hT.bk htp) hn) (by omega) (by decide) (As := [.int (nI p)]) (show (parseMethodDescriptor yX0_peek.desc).map (fun q => q.parameters.length) = some 1 by decide +kernel) hok (Nat.le_of_ble_eq_true rfl) dX8_parseValue_62 (hT.bk htp).1 rfl rfl rfl (rt_kr (st2 := [.int (cl_peek n f u (nI p))]) rfl ?_) rt_kx
  refine rt_te (y := g p) (hg p (by omega)) ?_
  refine rt_istore_n (lv' := [(3, .int (g p)), (2, .int (nI V)), (0, rt_r s0 t), (1, .int (nI dp))]) dX8_parseValue_65 rfl (by decide) rfl ?_
  refine rt_iload_n dX8_parseValue_66 rfl (j := 0) rfl ?_
  refine rt_bipush (v := 123) dX8_parseValue_67 (by decide) ?_
  refine rt_icmp_ne (tgt := 92) dX8_parseValue_69 (by decide) (fun _ => ?_) (fun c69 => absurd c69 n1)
  refine rt_iload_n dX8_parseValue_92 rfl (j := 0) rfl ?_
  refine rt_bipush (v := 91) dX8_parseValue_93 (by decide) ?_
  refine rt_icmp_ne (tgt := 118) dX8_parseValue_95 (by decide) (fun c95 => absurd c95 (fun c => c h)) (fun _ => ?_)
  refine rt_aload_n dX8_parseValue_98 rfl (j := 2) rfl ?_
  refine rt_bGet Γ kf_RX8_16 dX8_parseValue_99 (L := (tx_L s0 ca t (rt_r s0 tp) (nI (V + 1)) (nI p) (-1) k (upd b V (nI p)) (upd nx V (-1)) (upd fi V (-1)) (upd pa V 0) wo ke nu le (nI L))) rfl rfl ?_
  refine rt_iload_n dX8_parseValue_102 rfl (j := 1) rfl ?_
  refine rt_iconst (v := 2) dX8_parseValue_103 (by decide) ?_
  refine rt_callV Γ kk_X0_put kc_RX8_89 (c_X0_put Γ (d := d - 1) (rt_bk_C (t := t) (L := (tx_L s0 ca t (rt_r s0 tp) (nI (V + 1)) (nI p) (-1) k (upd b V (nI p)) (upd nx V (-1)) (upd fi V (-1)) (upd pa V 0) wo ke nu le (nI L))) 1 (Nat.le_of_ble_eq_true rfl) rfl rfl) (by decide)) (by omega) (by decide) (As := [.int (nI V), .int 2]) (show (parseMethodDescriptor yX0_put.desc).map (fun q => q.parameters.length) = some 2 by decide +kernel) hok (Nat.le_of_ble_eq_true rfl) dX8_parseValue_104 (rt_bk_C (t := t) (L := (tx_L s0 ca t (rt_r s0 tp) (nI (V + 1)) (nI p) (-1) k (upd b V (nI p)) (upd nx V (-1)) (upd fi V (-1)) (upd pa V 0) wo ke nu le (nI L))) 1 (Nat.le_of_ble_eq_true rfl) rfl rfl).1 rfl rfl rfl (rt_kr (st2 := []) rfl ?_) rt_kx
  refine rt_weq (w' := (rt_bk w t (tx_L s0 ca t (rt_r s0 tp) (nI (V + 1)) (nI p) (-1) (cl_put 2073 k (nI V) 2) (upd b V (nI p)) (upd nx V (-1)) (upd fi V (-1)) (upd pa V 0) wo ke nu le (nI L)))) (rt_bk_cs 1 (Nat.le_of_ble_eq_true rfl)) ?_
  refine rt_weq (w' := (rt_bk w t (tx_L s0 ca t (rt_r s0 tp) (nI (V + 1)) (nI p) (-1) (upd k V 2) (upd b V (nI p)) (upd nx V (-1)) (upd fi V (-1)) (upd pa V 0) wo ke nu le (nI L)))) (by rw [cl_putN hV (by decide)]) ?_
  refine rt_aload_n dX8_parseValue_107 rfl (j := 2) rfl ?_
  refine rt_iload_n dX8_parseValue_108 rfl (j := 1) rfl ?_
  refine rt_bipush (v := 93) dX8_parseValue_109 (by decide) ?_
  refine rt_iload_n dX8_parseValue_111 rfl (j := 3) rfl ?_
  refine rt_callV Γ kk_X8_parseParts kc_RX8_93 (j_pp3f Γ (d := d - 1) (Q := (fun r w1 => r = .inl none ∧ tx_B s0 ca w t tp e w1)) hT hn htp hg hok hN hpN (by omega) hdp hc hIV (by omega) (by omega) (Nat.lt_succ_self V) hm pk_us pk_us pk_us (fun e1 h1 w1 h2 => ⟨rfl, by obtain rfl : e1 = e := Except.error.inj (h1.symm.trans hge); exact h2⟩) (fun xs c q h1 => nomatch h1.symm.trans hge)) (by omega) (by decide) (As := [.int (nI V), .int 93, .int (nI dp)]) (show (parseMethodDescriptor yX8_parseParts.desc).map (fun q => q.parameters.length) = some 3 by decide +kernel) hok (Nat.le_of_ble_eq_true rfl) dX8_parseValue_112 ((rt_bk_0 w t (tx_L s0 ca t (rt_r s0 tp) (nI (V + 1)) (nI p) (-1) (upd k V 2) (upd b V (nI p)) (upd nx V (-1)) (upd fi V (-1)) (upd pa V 0) wo ke nu le (nI L)) (Nat.le_of_ble_eq_true rfl)).trans rfl) rfl rfl rfl (fun v9 w9 hq => ?_) (fun X w9 hq => nomatch hq.1)
  obtain ⟨e9, vals22, pos22, k22, b22, nx22, fi22, pa22, wo22, ke22, nu22, le22, lu22, rfl⟩ := hq
  cases e9
  show rt_Go l s0 G RX8 "parseValue" cX8_parseValue 4 (Option.some FieldType.int) [] d _ _ (112 + 3) [(3, .int (g p)), (2, .int (nI V)), (0, rt_r s0 t), (1, .int (nI dp))] [] (rt_bk w t (tx_L s0 ca t (rt_r s0 tp) vals22 pos22 (nI e) k22 b22 nx22 fi22 pa22 wo22 ke22 nu22 le22 lu22))
  refine rt_goto (tgt := 215) dX8_parseValue_115 (by decide) ?_
  refine rt_iload_n dX8_parseValue_215 rfl (j := 1) rfl ?_
  exact rt_iret dX8_parseValue_216 rfl (⟨rfl, _, _, _, _, _, _, _, _, _, _, _, _, rfl⟩)
set_option maxRecDepth 100000 in
theorem jv_b3f {l : Launch} {s0 : State} {a0 : Array Value} {G : va_G} {ca : Nat → ClassId} (Γ : rt_Γ l s0 a0 G ca) {d : Nat} {w : rt_Wd} {t : Nat} {k : Nat → Int32} {b : Nat → Int32} {nx : Nat → Int32} {fi : Nat → Int32} {pa : Nat → Int32} {wo : Nat → Int32} {ke : Nat → Int32} {nu : Nat → Int64} {le : Nat → Int32} {tp n : Nat} {f : Nat → Int32} {u : Int32} {g : Nat → Int32} (hT : rt_C s0 ca w tp n f u) (hn : n < 2 ^ 31) (htp : tp + 1 < t ∨ t + 18 ≤ tp) (hg : ∀ p : Nat, p < 65536 → cl_peek n f u (nI p) = g p) (hok : rt_ok w) {p V L N dp : Nat} (hN : jT g N) (hp : p ≤ N) (hVp : V ≤ p) (hLp : L ≤ p) (hd : 2 * (25 - dp) + 6 ≤ d) (n1 : ¬ g p = 123) (h : g p = 91) (hdp : dp < 24) (hc : ¬ g (jSk g 4096 (p + 1)) = 93) {m : Nat} (hIV : ∀ i : Nat, i < m → jIV l s0 G ca w t tp N g i) (hm : 2 * (N - (p + 1)) + 2 ≤ m) {xs : List JR} {c q : Nat} (hge : jGo g m (some (false, [])) dp (jSk g 4096 (p + 1)) = .ok (xs, c, q)) : rt_Met l s0 G (.code yX8_parseValue cX8_parseValue 4 (Option.some FieldType.int)) yX8_parseValue d [rt_r s0 t, .int (nI dp)] (rt_bk w t (tx_L s0 ca t (rt_r s0 tp) (nI V) (nI p) (-1) k b nx fi pa wo ke nu le (nI L))) (jVO s0 ca w t tp V L q k b nx fi pa wo ke nu le ((2, p, 0, [], none, c, xs.length + 1, false) :: xs)) := by
  refine rt_met Γ kk_X8_parseValue rfl (Nat.le_of_ble_eq_true rfl) rfl ?_
  have hN0 := hN.1
  have hV : V < 2073 := by omega
  have hpN : p < N := hN.lt (by rw [h]; decide)
  refine rt_aload_n dX8_parseValue_0 rfl (j := 0) rfl ?_
  refine rt_bGet Γ kf_RX8_63 dX8_parseValue_1 (L := (tx_L s0 ca t (rt_r s0 tp) (nI V) (nI p) (-1) k b nx fi pa wo ke nu le (nI L))) rfl rfl ?_
  refine rt_istore_n (lv' := [(2, .int (nI V)), (0, rt_r s0 t), (1, .int (nI dp))]) dX8_parseValue_4 rfl (by decide) rfl ?_
  refine rt_aload_n dX8_parseValue_5 rfl (j := 1) rfl ?_
  refine rt_dup dX8_parseValue_6 rfl ?_
  refine rt_bGet Γ kf_RX8_63 dX8_parseValue_7 (L := (tx_L s0 ca t (rt_r s0 tp) (nI V) (nI p) (-1) k b nx fi pa wo ke nu le (nI L))) rfl rfl ?_
  refine rt_iconst (v := 1) dX8_parseValue_10 (by decide) ?_
  refine rt_iadd dX8_parseValue_11 ?_
  refine rt_te (y := nI (V + 1)) (nI_1 V) ?_
  refine rt_bPut Γ kp_RX8_63 dX8_parseValue_12 (L := (tx_L s0 ca t (rt_r s0 tp) (nI V) (nI p) (-1) k b nx fi pa wo ke nu le (nI L))) rfl (Nat.le_of_ble_eq_true rfl) rfl rfl (L' := (tx_L s0 ca t (rt_r s0 tp) (nI (V + 1)) (nI p) (-1) k b nx fi pa wo ke nu le (nI L))) rfl ?_
  refine rt_aload_n dX8_parseValue_15 rfl (j := 1) rfl ?_
  refine rt_bGet Γ kf_RX8_20 dX8_parseValue_16 (L := (tx_L s0 ca t (rt_r s0 tp) (nI (V + 1)) (nI p) (-1) k b nx fi pa wo ke nu le (nI L))) rfl rfl ?_
  refine rt_iload_n dX8_parseValue_19 rfl (j := 0) rfl ?_
  refine rt_aload_n dX8_parseValue_20 rfl (j := 1) rfl ?_
  refine rt_bGet Γ kf_RX8_67 dX8_parseValue_21 (L := (tx_L s0 ca t (rt_r s0 tp) (nI (V + 1)) (nI p) (-1) k b nx fi pa wo ke nu le (nI L))) rfl rfl ?_
  refine rt_callV Γ kk_X0_put kc_RX8_89 (c_X0_put Γ (d := d - 1) (rt_bk_C (t := t) (L := (tx_L s0 ca t (rt_r s0 tp) (nI (V + 1)) (nI p) (-1) k b nx fi pa wo ke nu le (nI L))) 3 (Nat.le_of_ble_eq_true rfl) rfl rfl) (by decide)) (by omega) (by decide) (As := [.int (nI V), .int (nI p)]) (show (parseMethodDescriptor yX0_put.desc).map (fun q => q.parameters.length) = some 2 by decide +kernel) hok (Nat.le_of_ble_eq_true rfl) dX8_parseValue_24 (rt_bk_C (t := t) (L := (tx_L s0 ca t (rt_r s0 tp) (nI (V + 1)) (nI p) (-1) k b nx fi pa wo ke nu le (nI L))) 3 (Nat.le_of_ble_eq_true rfl) rfl rfl).1 rfl rfl rfl (rt_kr (st2 := []) rfl ?_) rt_kx
  refine rt_weq (w' := (rt_bk w t (tx_L s0 ca t (rt_r s0 tp) (nI (V + 1)) (nI p) (-1) k (cl_put 2073 b (nI V) (nI p)) nx fi pa wo ke nu le (nI L)))) (rt_bk_cs 3 (Nat.le_of_ble_eq_true rfl)) ?_
  refine rt_weq (w' := (rt_bk w t (tx_L s0 ca t (rt_r s0 tp) (nI (V + 1)) (nI p) (-1) k (upd b V (nI p)) nx fi pa wo ke nu le (nI L)))) (by rw [cl_putN hV (by decide)]) ?_
  refine rt_aload_n dX8_parseValue_27 rfl (j := 1) rfl ?_
  refine rt_bGet Γ kf_RX8_23 dX8_parseValue_28 (L := (tx_L s0 ca t (rt_r s0 tp) (nI (V + 1)) (nI p) (-1) k (upd b V (nI p)) nx fi pa wo ke nu le (nI L))) rfl rfl ?_
  refine rt_iload_n dX8_parseValue_31 rfl (j := 0) rfl ?_
  refine rt_iconst (v := (-1)) dX8_parseValue_32 (by decide) ?_
  refine rt_callV Γ kk_X0_put kc_RX8_89 (c_X0_put Γ (d := d - 1) (rt_bk_C (t := t) (L := (tx_L s0 ca t (rt_r s0 tp) (nI (V + 1)) (nI p) (-1) k (upd b V (nI p)) nx fi pa wo ke nu le (nI L))) 5 (Nat.le_of_ble_eq_true rfl) rfl rfl) (by decide)) (by omega) (by decide) (As := [.int (nI V), .int (-1)]) (show (parseMethodDescriptor yX0_put.desc).map (fun q => q.parameters.length) = some 2 by decide +kernel) hok (Nat.le_of_ble_eq_true rfl) dX8_parseValue_33 (rt_bk_C (t := t) (L := (tx_L s0 ca t (rt_r s0 tp) (nI (V + 1)) (nI p) (-1) k (upd b V (nI p)) nx fi pa wo ke nu le (nI L))) 5 (Nat.le_of_ble_eq_true rfl) rfl rfl).1 rfl rfl rfl (rt_kr (st2 := []) rfl ?_) rt_kx
  refine rt_weq (w' := (rt_bk w t (tx_L s0 ca t (rt_r s0 tp) (nI (V + 1)) (nI p) (-1) k (upd b V (nI p)) (cl_put 2073 nx (nI V) (-1)) fi pa wo ke nu le (nI L)))) (rt_bk_cs 5 (Nat.le_of_ble_eq_true rfl)) ?_
  refine rt_weq (w' := (rt_bk w t (tx_L s0 ca t (rt_r s0 tp) (nI (V + 1)) (nI p) (-1) k (upd b V (nI p)) (upd nx V (-1)) fi pa wo ke nu le (nI L)))) (by rw [cl_putN hV (by decide)]) ?_
  refine rt_aload_n dX8_parseValue_36 rfl (j := 1) rfl ?_
  refine rt_bGet Γ kf_RX8_26 dX8_parseValue_37 (L := (tx_L s0 ca t (rt_r s0 tp) (nI (V + 1)) (nI p) (-1) k (upd b V (nI p)) (upd nx V (-1)) fi pa wo ke nu le (nI L))) rfl rfl ?_
  refine rt_iload_n dX8_parseValue_40 rfl (j := 0) rfl ?_
  refine rt_iconst (v := (-1)) dX8_parseValue_41 (by decide) ?_
  refine rt_callV Γ kk_X0_put kc_RX8_89 (c_X0_put Γ (d := d - 1) (rt_bk_C (t := t) (L := (tx_L s0 ca t (rt_r s0 tp) (nI (V + 1)) (nI p) (-1) k (upd b V (nI p)) (upd nx V (-1)) fi pa wo ke nu le (nI L))) 7 (Nat.le_of_ble_eq_true rfl) rfl rfl) (by decide)) (by omega) (by decide) (As := [.int (nI V), .int (-1)]) (show (parseMethodDescriptor yX0_put.desc).map (fun q => q.parameters.length) = some 2 by decide +kernel) hok (Nat.le_of_ble_eq_true rfl) dX8_parseValue_42 (rt_bk_C (t := t) (L := (tx_L s0 ca t (rt_r s0 tp) (nI (V + 1)) (nI p) (-1) k (upd b V (nI p)) (upd nx V (-1)) fi pa wo ke nu le (nI L))) 7 (Nat.le_of_ble_eq_true rfl) rfl rfl).1 rfl rfl rfl (rt_kr (st2 := []) rfl ?_) rt_kx
  refine rt_weq (w' := (rt_bk w t (tx_L s0 ca t (rt_r s0 tp) (nI (V + 1)) (nI p) (-1) k (upd b V (nI p)) (upd nx V (-1)) (cl_put 2073 fi (nI V) (-1)) pa wo ke nu le (nI L)))) (rt_bk_cs 7 (Nat.le_of_ble_eq_true rfl)) ?_
  refine rt_weq (w' := (rt_bk w t (tx_L s0 ca t (rt_r s0 tp) (nI (V + 1)) (nI p) (-1) k (upd b V (nI p)) (upd nx V (-1)) (upd fi V (-1)) pa wo ke nu le (nI L)))) (by rw [cl_putN hV (by decide)]) ?_
  refine rt_aload_n dX8_parseValue_45 rfl (j := 1) rfl ?_
  refine rt_bGet Γ kf_RX8_29 dX8_parseValue_46 (L := (tx_L s0 ca t (rt_r s0 tp) (nI (V + 1)) (nI p) (-1) k (upd b V (nI p)) (upd nx V (-1)) (upd fi V (-1)) pa wo ke nu le (nI L))) rfl rfl ?_
  refine rt_iload_n dX8_parseValue_49 rfl (j := 0) rfl ?_
  refine rt_iconst (v := 0) dX8_parseValue_50 (by decide) ?_
  refine rt_callV Γ kk_X0_put kc_RX8_89 (c_X0_put Γ (d := d - 1) (rt_bk_C (t := t) (L := (tx_L s0 ca t (rt_r s0 tp) (nI (V + 1)) (nI p) (-1) k (upd b V (nI p)) (upd nx V (-1)) (upd fi V (-1)) pa wo ke nu le (nI L))) 9 (Nat.le_of_ble_eq_true rfl) rfl rfl) (by decide)) (by omega) (by decide) (As := [.int (nI V), .int 0]) (show (parseMethodDescriptor yX0_put.desc).map (fun q => q.parameters.length) = some 2 by decide +kernel) hok (Nat.le_of_ble_eq_true rfl) dX8_parseValue_51 (rt_bk_C (t := t) (L := (tx_L s0 ca t (rt_r s0 tp) (nI (V + 1)) (nI p) (-1) k (upd b V (nI p)) (upd nx V (-1)) (upd fi V (-1)) pa wo ke nu le (nI L))) 9 (Nat.le_of_ble_eq_true rfl) rfl rfl).1 rfl rfl rfl (rt_kr (st2 := []) rfl ?_) rt_kx
  refine rt_weq (w' := (rt_bk w t (tx_L s0 ca t (rt_r s0 tp) (nI (V + 1)) (nI p) (-1) k (upd b V (nI p)) (upd nx V (-1)) (upd fi V (-1)) (cl_put 2073 pa (nI V) 0) wo ke nu le (nI L)))) (rt_bk_cs 9 (Nat.le_of_ble_eq_true rfl)) ?_
  refine rt_weq (w' := (rt_bk w t (tx_L s0 ca t (rt_r s0 tp) (nI (V + 1)) (nI p) (-1) k (upd b V (nI p)) (upd nx V (-1)) (upd fi V (-1)) (upd pa V 0) wo ke nu le (nI L)))) (by rw [cl_putN hV (by decide)]) ?_
  refine rt_aload_n dX8_parseValue_54 rfl (j := 1) rfl ?_
  refine rt_bGet Γ kf_RX8_57 dX8_parseValue_55 (L := (tx_L s0 ca t (rt_r s0 tp) (nI (V + 1)) (nI p) (-1) k (upd b V (nI p)) (upd nx V (-1)) (upd fi V (-1)) (upd pa V 0) wo ke nu le (nI L))) rfl rfl ?_
  refine rt_aload_n dX8_parseValue_58 rfl (j := 1) rfl ?_
  refine rt_bGet Γ kf_RX8_67 dX8_parseValue_59 (L := (tx_L s0 ca t (rt_r s0 tp) (nI (V + 1)) (nI p) (-1) k (upd b V (nI p)) (upd nx V (-1)) (upd fi V (-1)) (upd pa V 0) wo ke nu le (nI L))) rfl rfl ?_
  refine rt_callV Γ kk_X0_peek kc_RX8_86 (c_X0_peek Γ (d := d - 1) (x := (nI p)) (hT.bk htp) hn) (by omega) (by decide) (As := [.int (nI p)]) (show (parseMethodDescriptor yX0_peek.desc).map (fun q => q.parameters.length) = some 1 by decide +kernel) hok (Nat.le_of_ble_eq_true rfl) dX8_parseValue_62 (hT.bk htp).1 rfl rfl rfl (rt_kr (st2 := [.int (cl_peek n f u (nI p))]) rfl ?_) rt_kx
  refine rt_te (y := g p) (hg p (by omega)) ?_
  refine rt_istore_n (lv' := [(3, .int (g p)), (2, .int (nI V)), (0, rt_r s0 t), (1, .int (nI dp))]) dX8_parseValue_65 rfl (by decide) rfl ?_
  refine rt_iload_n dX8_parseValue_66 rfl (j := 0) rfl ?_
  refine rt_bipush (v := 123) dX8_parseValue_67 (by decide) ?_
  refine rt_icmp_ne (tgt := 92) dX8_parseValue_69 (by decide) (fun _ => ?_) (fun c69 => absurd c69 n1)
  refine rt_iload_n dX8_parseValue_92 rfl (j := 0) rfl ?_
  refine rt_bipush (v := 91) dX8_parseValue_93 (by decide) ?_
  refine rt_icmp_ne (tgt := 118) dX8_parseValue_95 (by decide) (fun c95 => absurd c95 (fun c => c h)) (fun _ => ?_)
  refine rt_aload_n dX8_parseValue_98 rfl (j := 2) rfl ?_
  refine rt_bGet Γ kf_RX8_16 dX8_parseValue_99 (L := (tx_L s0 ca t (rt_r s0 tp) (nI (V + 1)) (nI p) (-1) k (upd b V (nI p)) (upd nx V (-1)) (upd fi V (-1)) (upd pa V 0) wo ke nu le (nI L))) rfl rfl ?_
  refine rt_iload_n dX8_parseValue_102 rfl (j := 1) rfl ?_
  refine rt_iconst (v := 2) dX8_parseValue_103 (by decide) ?_
  refine rt_callV Γ kk_X0_put kc_RX8_89 (c_X0_put Γ (d := d - 1) (rt_bk_C (t := t) (L := (tx_L s0 ca t (rt_r s0 tp) (nI (V + 1)) (nI p) (-1) k (upd b V (nI p)) (upd nx V (-1)) (upd fi V (-1)) (upd pa V 0) wo ke nu le (nI L))) 1 (Nat.le_of_ble_eq_true rfl) rfl rfl) (by decide)) (by omega) (by decide) (As := [.int (nI V), .int 2]) (show (parseMethodDescriptor yX0_put.desc).map (fun q => q.parameters.length) = some 2 by decide +kernel) hok (Nat.le_of_ble_eq_true rfl) dX8_parseValue_104 (rt_bk_C (t := t) (L := (tx_L s0 ca t (rt_r s0 tp) (nI (V + 1)) (nI p) (-1) k (upd b V (nI p)) (upd nx V (-1)) (upd fi V (-1)) (upd pa V 0) wo ke nu le (nI L))) 1 (Nat.le_of_ble_eq_true rfl) rfl rfl).1 rfl rfl rfl (rt_kr (st2 := []) rfl ?_) rt_kx
  refine rt_weq (w' := (rt_bk w t (tx_L s0 ca t (rt_r s0 tp) (nI (V + 1)) (nI p) (-1) (cl_put 2073 k (nI V) 2) (upd b V (nI p)) (upd nx V (-1)) (upd fi V (-1)) (upd pa V 0) wo ke nu le (nI L)))) (rt_bk_cs 1 (Nat.le_of_ble_eq_true rfl)) ?_
  refine rt_weq (w' := (rt_bk w t (tx_L s0 ca t (rt_r s0 tp) (nI (V + 1)) (nI p) (-1) (upd k V 2) (upd b V (nI p)) (upd nx V (-1)) (upd fi V (-1)) (upd pa V 0) wo ke nu le (nI L)))) (by rw [cl_putN hV (by decide)]) ?_
  refine rt_aload_n dX8_parseValue_107 rfl (j := 2) rfl ?_
  refine rt_iload_n dX8_parseValue_108 rfl (j := 1) rfl ?_
  refine rt_bipush (v := 93) dX8_parseValue_109 (by decide) ?_
  refine rt_iload_n dX8_parseValue_111 rfl (j := 3) rfl ?_
  refine rt_callV Γ kk_X8_parseParts kc_RX8_93 (j_pp3f Γ (d := d - 1) (Q := (jPO s0 ca w t tp V (V + 1) L q 0 c (-1) (upd k V 2) (upd b V (nI p)) (upd nx V (-1)) (upd fi V (-1)) (upd pa V 0) wo ke nu le xs)) hT hn htp hg hok hN hpN (by omega) hdp hc hIV (by omega) (by omega) (Nat.lt_succ_self V) hm pk_us pk_us pk_us (fun e1 h1 => nomatch h1.symm.trans hge) (fun xs1 c1 q1 h1 w1 h2 => by obtain ⟨rfl, rfl, rfl⟩ := jOk1 (α := Nat) (h1.symm.trans hge); exact h2)) (by omega) (by decide) (As := [.int (nI V), .int 93, .int (nI dp)]) (show (parseMethodDescriptor yX8_parseParts.desc).map (fun q => q.parameters.length) = some 3 by decide +kernel) hok (Nat.le_of_ble_eq_true rfl) dX8_parseValue_112 ((rt_bk_0 w t (tx_L s0 ca t (rt_r s0 tp) (nI (V + 1)) (nI p) (-1) (upd k V 2) (upd b V (nI p)) (upd nx V (-1)) (upd fi V (-1)) (upd pa V 0) wo ke nu le (nI L)) (Nat.le_of_ble_eq_true rfl)).trans rfl) rfl rfl rfl (fun v9 w9 hq => ?_) (fun X w9 hq => nomatch hq.1)
  obtain ⟨e9, k1, b1, nx1, fi1, pa1, wo1, ke1, nu1, le1, rfl, g1, g2, g3, g4, g5, g6, g7, g8⟩ := hq
  cases e9
  show rt_Go l s0 G RX8 "parseValue" cX8_parseValue 4 (Option.some FieldType.int) [] d _ _ (112 + 3) [(3, .int (g p)), (2, .int (nI V)), (0, rt_r s0 t), (1, .int (nI dp))] [] (rt_bk w t (tx_L s0 ca t (rt_r s0 tp) (nI (V + 1 + xs.length)) (nI q) (-1) k1 b1 nx1 fi1 pa1 wo1 ke1 nu1 le1 (nI (L + jLw xs))))
  refine rt_goto (tgt := 215) dX8_parseValue_115 (by decide) ?_
  refine rt_iload_n dX8_parseValue_215 rfl (j := 1) rfl ?_
  have hlw : jLw ((2, p, 0, [], none, c, xs.length + 1, false) :: xs) = jLw xs := by rw [jLw_cons]; show ((if (2 : Nat) = 3 then _ else 0) + 0) + jLw xs = jLw xs; rw [if_neg (by decide)]; omega
  have hln : V + ((2, p, 0, [], none, c, xs.length + 1, false) :: xs).length = V + 1 + xs.length := by rw [List.length_cons]; omega
  refine rt_iret dX8_parseValue_216 rfl ⟨rfl, k1, b1, nx1, fi1, pa1, wo1, ke1, nu1, le1, by rw [hlw, hln], fun i hi => ?_, ?_, g7, ?_⟩
  · have z := g1 i (by omega); have y := g2 i (by omega) (by omega)
    exact ⟨z.1.trans (pk_un (by omega)), z.2.1.trans (pk_un (by omega)), (g3 i (by omega) (fun e => nI_nm1 (by omega) e.symm)).trans (pk_un (by omega)), y.1.trans (pk_un (by omega)), y.2.trans (pk_un (by omega)), z.2.2.1, z.2.2.2.1, z.2.2.2.2⟩
  · exact (g1 V (by omega)).2.2.2.1
  · rw [hlw]; have z := g1 V (by omega)
    refine jRep.cons ⟨z.1.trans pk_us, z.2.1.trans pk_us, by rw [g5, Nat.zero_add], ?_, (g3 V (by omega) (fun e => nI_nm1 (by omega) e.symm)).trans pk_us, (fun e => absurd (show (2 : Nat) = 4 from e) (by decide)), (fun e => absurd (show (2 : Nat) = 3 from e) (by decide)), (fun _ e => nomatch e)⟩ g8
    rw [g4, if_pos rfl]; show nI (V + 1) = if c = 0 then -1 else nI (V + 1); rw [if_neg (by have := jGo_ok hN _ _ _ _ _ _ _ (jSk_le hN 4096 (p + 1) hpN) hge; omega)]
set_option maxRecDepth 100000 in
theorem jv_b1t {l : Launch} {s0 : State} {a0 : Array Value} {G : va_G} {ca : Nat → ClassId} (Γ : rt_Γ l s0 a0 G ca) {d : Nat} {w : rt_Wd} {t : Nat} {k : Nat → Int32} {b : Nat → Int32} {nx : Nat → Int32} {fi : Nat → Int32} {pa : Nat → Int32} {wo : Nat → Int32} {ke : Nat → Int32} {nu : Nat → Int64} {le : Nat → Int32} (hd : 3 ≤ d) {tp n : Nat} {f : Nat → Int32} {u : Int32} {g : Nat → Int32} (hT : rt_C s0 ca w tp n f u) (hn : n < 2 ^ 31) (htp : tp + 1 < t ∨ t + 18 ≤ tp) (hg : ∀ p : Nat, p < 65536 → cl_peek n f u (nI p) = g p) (hok : rt_ok w) {p V L N dp : Nat} (hN : jT g N) (hp : p ≤ N) (hVp : V ≤ p) (hLp : L ≤ p) (h : g p = 123) (hdp : 24 ≤ dp) (hdp2 : dp ≤ 24) : rt_Met l s0 G (.code yX8_parseValue cX8_parseValue 4 (Option.some FieldType.int)) yX8_parseValue d [rt_r s0 t, .int (nI dp)] (rt_bk w t (tx_L s0 ca t (rt_r s0 tp) (nI V) (nI p) (-1) k b nx fi pa wo ke nu le (nI L))) (fun r w1 => r = .inl (some (.int (nI V))) ∧ tx_B s0 ca w t tp p w1) := by
  refine rt_met Γ kk_X8_parseValue rfl (Nat.le_of_ble_eq_true rfl) rfl ?_
  have hN0 := hN.1
  have hV : V < 2073 := by omega
  have hpN : p < N := hN.lt (by rw [h]; decide)
  refine rt_aload_n dX8_parseValue_0 rfl (j := 0) rfl ?_
  refine rt_bGet Γ kf_RX8_63 dX8_parseValue_1 (L := (tx_L s0 ca t (rt_r s0 tp) (nI V) (nI p) (-1) k b nx fi pa wo ke nu le (nI L))) rfl rfl ?_
  refine rt_istore_n (lv' := [(2, .int (nI V)), (0, rt_r s0 t), (1, .int (nI dp))]) dX8_parseValue_4 rfl (by decide) rfl ?_
  refine rt_aload_n dX8_parseValue_5 rfl (j := 1) rfl ?_
  refine rt_dup dX8_parseValue_6 rfl ?_
  refine rt_bGet Γ kf_RX8_63 dX8_parseValue_7 (L := (tx_L s0 ca t (rt_r s0 tp) (nI V) (nI p) (-1) k b nx fi pa wo ke nu le (nI L))) rfl rfl ?_
  refine rt_iconst (v := 1) dX8_parseValue_10 (by decide) ?_
  refine rt_iadd dX8_parseValue_11 ?_
  refine rt_te (y := nI (V + 1)) (nI_1 V) ?_
  refine rt_bPut Γ kp_RX8_63 dX8_parseValue_12 (L := (tx_L s0 ca t (rt_r s0 tp) (nI V) (nI p) (-1) k b nx fi pa wo ke nu le (nI L))) rfl (Nat.le_of_ble_eq_true rfl) rfl rfl (L' := (tx_L s0 ca t (rt_r s0 tp) (nI (V + 1)) (nI p) (-1) k b nx fi pa wo ke nu le (nI L))) rfl ?_
  refine rt_aload_n dX8_parseValue_15 rfl (j := 1) rfl ?_
  refine rt_bGet Γ kf_RX8_20 dX8_parseValue_16 (L := (tx_L s0 ca t (rt_r s0 tp) (nI (V + 1)) (nI p) (-1) k b nx fi pa wo ke nu le (nI L))) rfl rfl ?_
  refine rt_iload_n dX8_parseValue_19 rfl (j := 0) rfl ?_
  refine rt_aload_n dX8_parseValue_20 rfl (j := 1) rfl ?_
  refine rt_bGet Γ kf_RX8_67 dX8_parseValue_21 (L := (tx_L s0 ca t (rt_r s0 tp) (nI (V + 1)) (nI p) (-1) k b nx fi pa wo ke nu le (nI L))) rfl rfl ?_
  refine rt_callV Γ kk_X0_put kc_RX8_89 (c_X0_put Γ (d := d - 1) (rt_bk_C (t := t) (L := (tx_L s0 ca t (rt_r s0 tp) (nI (V + 1)) (nI p) (-1) k b nx fi pa wo ke nu le (nI L))) 3 (Nat.le_of_ble_eq_true rfl) rfl rfl) (by decide)) (by omega) (by decide) (As := [.int (nI V), .int (nI p)]) (show (parseMethodDescriptor yX0_put.desc).map (fun q => q.parameters.length) = some 2 by decide +kernel) hok (Nat.le_of_ble_eq_true rfl) dX8_parseValue_24 (rt_bk_C (t := t) (L := (tx_L s0 ca t (rt_r s0 tp) (nI (V + 1)) (nI p) (-1) k b nx fi pa wo ke nu le (nI L))) 3 (Nat.le_of_ble_eq_true rfl) rfl rfl).1 rfl rfl rfl (rt_kr (st2 := []) rfl ?_) rt_kx
  refine rt_weq (w' := (rt_bk w t (tx_L s0 ca t (rt_r s0 tp) (nI (V + 1)) (nI p) (-1) k (cl_put 2073 b (nI V) (nI p)) nx fi pa wo ke nu le (nI L)))) (rt_bk_cs 3 (Nat.le_of_ble_eq_true rfl)) ?_
  refine rt_weq (w' := (rt_bk w t (tx_L s0 ca t (rt_r s0 tp) (nI (V + 1)) (nI p) (-1) k (upd b V (nI p)) nx fi pa wo ke nu le (nI L)))) (by rw [cl_putN hV (by decide)]) ?_
  refine rt_aload_n dX8_parseValue_27 rfl (j := 1) rfl ?_
  refine rt_bGet Γ kf_RX8_23 dX8_parseValue_28 (L := (tx_L s0 ca t (rt_r s0 tp) (nI (V + 1)) (nI p) (-1) k (upd b V (nI p)) nx fi pa wo ke nu le (nI L))) rfl rfl ?_
  refine rt_iload_n dX8_parseValue_31 rfl (j := 0) rfl ?_
  refine rt_iconst (v := (-1)) dX8_parseValue_32 (by decide) ?_
  refine rt_callV Γ kk_X0_put kc_RX8_89 (c_X0_put Γ (d := d - 1) (rt_bk_C (t := t) (L := (tx_L s0 ca t (rt_r s0 tp) (nI (V + 1)) (nI p) (-1) k (upd b V (nI p)) nx fi pa wo ke nu le (nI L))) 5 (Nat.le_of_ble_eq_true rfl) rfl rfl) (by decide)) (by omega) (by decide) (As := [.int (nI V), .int (-1)]) (show (parseMethodDescriptor yX0_put.desc).map (fun q => q.parameters.length) = some 2 by decide +kernel) hok (Nat.le_of_ble_eq_true rfl) dX8_parseValue_33 (rt_bk_C (t := t) (L := (tx_L s0 ca t (rt_r s0 tp) (nI (V + 1)) (nI p) (-1) k (upd b V (nI p)) nx fi pa wo ke nu le (nI L))) 5 (Nat.le_of_ble_eq_true rfl) rfl rfl).1 rfl rfl rfl (rt_kr (st2 := []) rfl ?_) rt_kx
  refine rt_weq (w' := (rt_bk w t (tx_L s0 ca t (rt_r s0 tp) (nI (V + 1)) (nI p) (-1) k (upd b V (nI p)) (cl_put 2073 nx (nI V) (-1)) fi pa wo ke nu le (nI L)))) (rt_bk_cs 5 (Nat.le_of_ble_eq_true rfl)) ?_
  refine rt_weq (w' := (rt_bk w t (tx_L s0 ca t (rt_r s0 tp) (nI (V + 1)) (nI p) (-1) k (upd b V (nI p)) (upd nx V (-1)) fi pa wo ke nu le (nI L)))) (by rw [cl_putN hV (by decide)]) ?_
  refine rt_aload_n dX8_parseValue_36 rfl (j := 1) rfl ?_
  refine rt_bGet Γ kf_RX8_26 dX8_parseValue_37 (L := (tx_L s0 ca t (rt_r s0 tp) (nI (V + 1)) (nI p) (-1) k (upd b V (nI p)) (upd nx V (-1)) fi pa wo ke nu le (nI L))) rfl rfl ?_
  refine rt_iload_n dX8_parseValue_40 rfl (j := 0) rfl ?_
  refine rt_iconst (v := (-1)) dX8_parseValue_41 (by decide) ?_
  refine rt_callV Γ kk_X0_put kc_RX8_89 (c_X0_put Γ (d := d - 1) (rt_bk_C (t := t) (L := (tx_L s0 ca t (rt_r s0 tp) (nI (V + 1)) (nI p) (-1) k (upd b V (nI p)) (upd nx V (-1)) fi pa wo ke nu le (nI L))) 7 (Nat.le_of_ble_eq_true rfl) rfl rfl) (by decide)) (by omega) (by decide) (As := [.int (nI V), .int (-1)]) (show (parseMethodDescriptor yX0_put.desc).map (fun q => q.parameters.length) = some 2 by decide +kernel) hok (Nat.le_of_ble_eq_true rfl) dX8_parseValue_42 (rt_bk_C (t := t) (L := (tx_L s0 ca t (rt_r s0 tp) (nI (V + 1)) (nI p) (-1) k (upd b V (nI p)) (upd nx V (-1)) fi pa wo ke nu le (nI L))) 7 (Nat.le_of_ble_eq_true rfl) rfl rfl).1 rfl rfl rfl (rt_kr (st2 := []) rfl ?_) rt_kx
  refine rt_weq (w' := (rt_bk w t (tx_L s0 ca t (rt_r s0 tp) (nI (V + 1)) (nI p) (-1) k (upd b V (nI p)) (upd nx V (-1)) (cl_put 2073 fi (nI V) (-1)) pa wo ke nu le (nI L)))) (rt_bk_cs 7 (Nat.le_of_ble_eq_true rfl)) ?_
  refine rt_weq (w' := (rt_bk w t (tx_L s0 ca t (rt_r s0 tp) (nI (V + 1)) (nI p) (-1) k (upd b V (nI p)) (upd nx V (-1)) (upd fi V (-1)) pa wo ke nu le (nI L)))) (by rw [cl_putN hV (by decide)]) ?_
  refine rt_aload_n dX8_parseValue_45 rfl (j := 1) rfl ?_
  refine rt_bGet Γ kf_RX8_29 dX8_parseValue_46 (L := (tx_L s0 ca t (rt_r s0 tp) (nI (V + 1)) (nI p) (-1) k (upd b V (nI p)) (upd nx V (-1)) (upd fi V (-1)) pa wo ke nu le (nI L))) rfl rfl ?_
  refine rt_iload_n dX8_parseValue_49 rfl (j := 0) rfl ?_
  refine rt_iconst (v := 0) dX8_parseValue_50 (by decide) ?_
  refine rt_callV Γ kk_X0_put kc_RX8_89 (c_X0_put Γ (d := d - 1) (rt_bk_C (t := t) (L := (tx_L s0 ca t (rt_r s0 tp) (nI (V + 1)) (nI p) (-1) k (upd b V (nI p)) (upd nx V (-1)) (upd fi V (-1)) pa wo ke nu le (nI L))) 9 (Nat.le_of_ble_eq_true rfl) rfl rfl) (by decide)) (by omega) (by decide) (As := [.int (nI V), .int 0]) (show (parseMethodDescriptor yX0_put.desc).map (fun q => q.parameters.length) = some 2 by decide +kernel) hok (Nat.le_of_ble_eq_true rfl) dX8_parseValue_51 (rt_bk_C (t := t) (L := (tx_L s0 ca t (rt_r s0 tp) (nI (V + 1)) (nI p) (-1) k (upd b V (nI p)) (upd nx V (-1)) (upd fi V (-1)) pa wo ke nu le (nI L))) 9 (Nat.le_of_ble_eq_true rfl) rfl rfl).1 rfl rfl rfl (rt_kr (st2 := []) rfl ?_) rt_kx
  refine rt_weq (w' := (rt_bk w t (tx_L s0 ca t (rt_r s0 tp) (nI (V + 1)) (nI p) (-1) k (upd b V (nI p)) (upd nx V (-1)) (upd fi V (-1)) (cl_put 2073 pa (nI V) 0) wo ke nu le (nI L)))) (rt_bk_cs 9 (Nat.le_of_ble_eq_true rfl)) ?_
  refine rt_weq (w' := (rt_bk w t (tx_L s0 ca t (rt_r s0 tp) (nI (V + 1)) (nI p) (-1) k (upd b V (nI p)) (upd nx V (-1)) (upd fi V (-1)) (upd pa V 0) wo ke nu le (nI L)))) (by rw [cl_putN hV (by decide)]) ?_
  refine rt_aload_n dX8_parseValue_54 rfl (j := 1) rfl ?_
  refine rt_bGet Γ kf_RX8_57 dX8_parseValue_55 (L := (tx_L s0 ca t (rt_r s0 tp) (nI (V + 1)) (nI p) (-1) k (upd b V (nI p)) (upd nx V (-1)) (upd fi V (-1)) (upd pa V 0) wo ke nu le (nI L))) rfl rfl ?_
  refine rt_aload_n dX8_parseValue_58 rfl (j := 1) rfl ?_
  refine rt_bGet Γ kf_RX8_67 dX8_parseValue_59 (L := (tx_L s0 ca t (rt_r s0 tp) (nI (V + 1)) (nI p) (-1) k (upd b V (nI p)) (upd nx V (-1)) (upd fi V (-1)) (upd pa V 0) wo ke nu le (nI L))) rfl rfl ?_
  refine rt_callV Γ kk_X0_peek kc_RX8_86 (c_X0_peek Γ (d := d - 1) (x := (nI p)) (hT.bk htp) hn) (by omega) (by decide) (As := [.int (nI p)]) (show (parseMethodDescriptor yX0_peek.desc).map (fun q => q.parameters.length) = some 1 by decide +kernel) hok (Nat.le_of_ble_eq_true rfl) dX8_parseValue_62 (hT.bk htp).1 rfl rfl rfl (rt_kr (st2 := [.int (cl_peek n f u (nI p))]) rfl ?_) rt_kx
  refine rt_te (y := g p) (hg p (by omega)) ?_
  refine rt_istore_n (lv' := [(3, .int (g p)), (2, .int (nI V)), (0, rt_r s0 t), (1, .int (nI dp))]) dX8_parseValue_65 rfl (by decide) rfl ?_
  refine rt_iload_n dX8_parseValue_66 rfl (j := 0) rfl ?_
  refine rt_bipush (v := 123) dX8_parseValue_67 (by decide) ?_
  refine rt_icmp_ne (tgt := 92) dX8_parseValue_69 (by decide) (fun c69 => absurd c69 (fun c => c h)) (fun _ => ?_)
  refine rt_aload_n dX8_parseValue_72 rfl (j := 2) rfl ?_
  refine rt_bGet Γ kf_RX8_16 dX8_parseValue_73 (L := (tx_L s0 ca t (rt_r s0 tp) (nI (V + 1)) (nI p) (-1) k (upd b V (nI p)) (upd nx V (-1)) (upd fi V (-1)) (upd pa V 0) wo ke nu le (nI L))) rfl rfl ?_
  refine rt_iload_n dX8_parseValue_76 rfl (j := 1) rfl ?_
  refine rt_iconst (v := 1) dX8_parseValue_77 (by decide) ?_
  refine rt_callV Γ kk_X0_put kc_RX8_89 (c_X0_put Γ (d := d - 1) (rt_bk_C (t := t) (L := (tx_L s0 ca t (rt_r s0 tp) (nI (V + 1)) (nI p) (-1) k (upd b V (nI p)) (upd nx V (-1)) (upd fi V (-1)) (upd pa V 0) wo ke nu le (nI L))) 1 (Nat.le_of_ble_eq_true rfl) rfl rfl) (by decide)) (by omega) (by decide) (As := [.int (nI V), .int 1]) (show (parseMethodDescriptor yX0_put.desc).map (fun q => q.parameters.length) = some 2 by decide +kernel) hok (Nat.le_of_ble_eq_true rfl) dX8_parseValue_78 (rt_bk_C (t := t) (L := (tx_L s0 ca t (rt_r s0 tp) (nI (V + 1)) (nI p) (-1) k (upd b V (nI p)) (upd nx V (-1)) (upd fi V (-1)) (upd pa V 0) wo ke nu le (nI L))) 1 (Nat.le_of_ble_eq_true rfl) rfl rfl).1 rfl rfl rfl (rt_kr (st2 := []) rfl ?_) rt_kx
  refine rt_weq (w' := (rt_bk w t (tx_L s0 ca t (rt_r s0 tp) (nI (V + 1)) (nI p) (-1) (cl_put 2073 k (nI V) 1) (upd b V (nI p)) (upd nx V (-1)) (upd fi V (-1)) (upd pa V 0) wo ke nu le (nI L)))) (rt_bk_cs 1 (Nat.le_of_ble_eq_true rfl)) ?_
  refine rt_weq (w' := (rt_bk w t (tx_L s0 ca t (rt_r s0 tp) (nI (V + 1)) (nI p) (-1) (upd k V 1) (upd b V (nI p)) (upd nx V (-1)) (upd fi V (-1)) (upd pa V 0) wo ke nu le (nI L)))) (by rw [cl_putN hV (by decide)]) ?_
  refine rt_aload_n dX8_parseValue_81 rfl (j := 2) rfl ?_
  refine rt_iload_n dX8_parseValue_82 rfl (j := 1) rfl ?_
  refine rt_bipush (v := 125) dX8_parseValue_83 (by decide) ?_
  refine rt_iload_n dX8_parseValue_85 rfl (j := 3) rfl ?_
  refine rt_callV Γ kk_X8_parseParts kc_RX8_93 (j_pp1t Γ (d := d - 1) (by omega) hT hn htp hg hok hN hpN hdp (by omega)) (by omega) (by decide) (As := [.int (nI V), .int 125, .int (nI dp)]) (show (parseMethodDescriptor yX8_parseParts.desc).map (fun q => q.parameters.length) = some 3 by decide +kernel) hok (Nat.le_of_ble_eq_true rfl) dX8_parseValue_86 ((rt_bk_0 w t (tx_L s0 ca t (rt_r s0 tp) (nI (V + 1)) (nI p) (-1) (upd k V 1) (upd b V (nI p)) (upd nx V (-1)) (upd fi V (-1)) (upd pa V 0) wo ke nu le (nI L)) (Nat.le_of_ble_eq_true rfl)).trans rfl) rfl rfl rfl (fun v9 w9 hq => ?_) (fun X w9 hq => nomatch hq.1)
  obtain ⟨e9, vals23, pos23, k23, b23, nx23, fi23, pa23, wo23, ke23, nu23, le23, lu23, rfl⟩ := hq
  cases e9
  show rt_Go l s0 G RX8 "parseValue" cX8_parseValue 4 (Option.some FieldType.int) [] d _ _ (86 + 3) [(3, .int (g p)), (2, .int (nI V)), (0, rt_r s0 t), (1, .int (nI dp))] [] (rt_bk w t (tx_L s0 ca t (rt_r s0 tp) vals23 pos23 (nI p) k23 b23 nx23 fi23 pa23 wo23 ke23 nu23 le23 lu23))
  refine rt_goto (tgt := 215) dX8_parseValue_89 (by decide) ?_
  refine rt_iload_n dX8_parseValue_215 rfl (j := 1) rfl ?_
  exact rt_iret dX8_parseValue_216 rfl (⟨rfl, _, _, _, _, _, _, _, _, _, _, _, _, rfl⟩)
set_option maxRecDepth 100000 in
theorem jv_b2t {l : Launch} {s0 : State} {a0 : Array Value} {G : va_G} {ca : Nat → ClassId} (Γ : rt_Γ l s0 a0 G ca) {d : Nat} {w : rt_Wd} {t : Nat} {k : Nat → Int32} {b : Nat → Int32} {nx : Nat → Int32} {fi : Nat → Int32} {pa : Nat → Int32} {wo : Nat → Int32} {ke : Nat → Int32} {nu : Nat → Int64} {le : Nat → Int32} (hd : 4 ≤ d) {tp n : Nat} {f : Nat → Int32} {u : Int32} {g : Nat → Int32} (hT : rt_C s0 ca w tp n f u) (hn : n < 2 ^ 31) (htp : tp + 1 < t ∨ t + 18 ≤ tp) (hg : ∀ p : Nat, p < 65536 → cl_peek n f u (nI p) = g p) (hok : rt_ok w) {p V L N dp : Nat} (hN : jT g N) (hp : p ≤ N) (hVp : V ≤ p) (hLp : L ≤ p) (h : g p = 123) (hdp : dp < 24) (hc : g (jSk g 4096 (p + 1)) = 125) : rt_Met l s0 G (.code yX8_parseValue cX8_parseValue 4 (Option.some FieldType.int)) yX8_parseValue d [rt_r s0 t, .int (nI dp)] (rt_bk w t (tx_L s0 ca t (rt_r s0 tp) (nI V) (nI p) (-1) k b nx fi pa wo ke nu le (nI L))) (jVO s0 ca w t tp V L (jSk g 4096 (p + 1) + 1) k b nx fi pa wo ke nu le [(1, p, 0, [], none, 0, 1, false)]) := by
  refine rt_met Γ kk_X8_parseValue rfl (Nat.le_of_ble_eq_true rfl) rfl ?_
  have hN0 := hN.1
  have hV : V < 2073 := by omega
  have hpN : p < N := hN.lt (by rw [h]; decide)
  refine rt_aload_n dX8_parseValue_0 rfl (j := 0) rfl ?_
  refine rt_bGet Γ kf_RX8_63 dX8_parseValue_1 (L := (tx_L s0 ca t (rt_r s0 tp) (nI V) (nI p) (-1) k b nx fi pa wo ke nu le (nI L))) rfl rfl ?_
  refine rt_istore_n (lv' := [(2, .int (nI V)), (0, rt_r s0 t), (1, .int (nI dp))]) dX8_parseValue_4 rfl (by decide) rfl ?_
  refine rt_aload_n dX8_parseValue_5 rfl (j := 1) rfl ?_
  refine rt_dup dX8_parseValue_6 rfl ?_
  refine rt_bGet Γ kf_RX8_63 dX8_parseValue_7 (L := (tx_L s0 ca t (rt_r s0 tp) (nI V) (nI p) (-1) k b nx fi pa wo ke nu le (nI L))) rfl rfl ?_
  refine rt_iconst (v := 1) dX8_parseValue_10 (by decide) ?_
  refine rt_iadd dX8_parseValue_11 ?_
  refine rt_te (y := nI (V + 1)) (nI_1 V) ?_
  refine rt_bPut Γ kp_RX8_63 dX8_parseValue_12 (L := (tx_L s0 ca t (rt_r s0 tp) (nI V) (nI p) (-1) k b nx fi pa wo ke nu le (nI L))) rfl (Nat.le_of_ble_eq_true rfl) rfl rfl (L' := (tx_L s0 ca t (rt_r s0 tp) (nI (V + 1)) (nI p) (-1) k b nx fi pa wo ke nu le (nI L))) rfl ?_
  refine rt_aload_n dX8_parseValue_15 rfl (j := 1) rfl ?_
  refine rt_bGet Γ kf_RX8_20 dX8_parseValue_16 (L := (tx_L s0 ca t (rt_r s0 tp) (nI (V + 1)) (nI p) (-1) k b nx fi pa wo ke nu le (nI L))) rfl rfl ?_
  refine rt_iload_n dX8_parseValue_19 rfl (j := 0) rfl ?_
  refine rt_aload_n dX8_parseValue_20 rfl (j := 1) rfl ?_
  refine rt_bGet Γ kf_RX8_67 dX8_parseValue_21 (L := (tx_L s0 ca t (rt_r s0 tp) (nI (V + 1)) (nI p) (-1) k b nx fi pa wo ke nu le (nI L))) rfl rfl ?_
  refine rt_callV Γ kk_X0_put kc_RX8_89 (c_X0_put Γ (d := d - 1) (rt_bk_C (t := t) (L := (tx_L s0 ca t (rt_r s0 tp) (nI (V + 1)) (nI p) (-1) k b nx fi pa wo ke nu le (nI L))) 3 (Nat.le_of_ble_eq_true rfl) rfl rfl) (by decide)) (by omega) (by decide) (As := [.int (nI V), .int (nI p)]) (show (parseMethodDescriptor yX0_put.desc).map (fun q => q.parameters.length) = some 2 by decide +kernel) hok (Nat.le_of_ble_eq_true rfl) dX8_parseValue_24 (rt_bk_C (t := t) (L := (tx_L s0 ca t (rt_r s0 tp) (nI (V + 1)) (nI p) (-1) k b nx fi pa wo ke nu le (nI L))) 3 (Nat.le_of_ble_eq_true rfl) rfl rfl).1 rfl rfl rfl (rt_kr (st2 := []) rfl ?_) rt_kx
  refine rt_weq (w' := (rt_bk w t (tx_L s0 ca t (rt_r s0 tp) (nI (V + 1)) (nI p) (-1) k (cl_put 2073 b (nI V) (nI p)) nx fi pa wo ke nu le (nI L)))) (rt_bk_cs 3 (Nat.le_of_ble_eq_true rfl)) ?_
  refine rt_weq (w' := (rt_bk w t (tx_L s0 ca t (rt_r s0 tp) (nI (V + 1)) (nI p) (-1) k (upd b V (nI p)) nx fi pa wo ke nu le (nI L)))) (by rw [cl_putN hV (by decide)]) ?_
  refine rt_aload_n dX8_parseValue_27 rfl (j := 1) rfl ?_
  refine rt_bGet Γ kf_RX8_23 dX8_parseValue_28 (L := (tx_L s0 ca t (rt_r s0 tp) (nI (V + 1)) (nI p) (-1) k (upd b V (nI p)) nx fi pa wo ke nu le (nI L))) rfl rfl ?_
  refine rt_iload_n dX8_parseValue_31 rfl (j := 0) rfl ?_
  refine rt_iconst (v := (-1)) dX8_parseValue_32 (by decide) ?_
  refine rt_callV Γ kk_X0_put kc_RX8_89 (c_X0_put Γ (d := d - 1) (rt_bk_C (t := t) (L := (tx_L s0 ca t (rt_r s0 tp) (nI (V + 1)) (nI p) (-1) k (upd b V (nI p)) nx fi pa wo ke nu le (nI L))) 5 (Nat.le_of_ble_eq_true rfl) rfl rfl) (by decide)) (by omega) (by decide) (As := [.int (nI V), .int (-1)]) (show (parseMethodDescriptor yX0_put.desc).map (fun q => q.parameters.length) = some 2 by decide +kernel) hok (Nat.le_of_ble_eq_true rfl) dX8_parseValue_33 (rt_bk_C (t := t) (L := (tx_L s0 ca t (rt_r s0 tp) (nI (V + 1)) (nI p) (-1) k (upd b V (nI p)) nx fi pa wo ke nu le (nI L))) 5 (Nat.le_of_ble_eq_true rfl) rfl rfl).1 rfl rfl rfl (rt_kr (st2 := []) rfl ?_) rt_kx
  refine rt_weq (w' := (rt_bk w t (tx_L s0 ca t (rt_r s0 tp) (nI (V + 1)) (nI p) (-1) k (upd b V (nI p)) (cl_put 2073 nx (nI V) (-1)) fi pa wo ke nu le (nI L)))) (rt_bk_cs 5 (Nat.le_of_ble_eq_true rfl)) ?_
  refine rt_weq (w' := (rt_bk w t (tx_L s0 ca t (rt_r s0 tp) (nI (V + 1)) (nI p) (-1) k (upd b V (nI p)) (upd nx V (-1)) fi pa wo ke nu le (nI L)))) (by rw [cl_putN hV (by decide)]) ?_
  refine rt_aload_n dX8_parseValue_36 rfl (j := 1) rfl ?_
  refine rt_bGet Γ kf_RX8_26 dX8_parseValue_37 (L := (tx_L s0 ca t (rt_r s0 tp) (nI (V + 1)) (nI p) (-1) k (upd b V (nI p)) (upd nx V (-1)) fi pa wo ke nu le (nI L))) rfl rfl ?_
  refine rt_iload_n dX8_parseValue_40 rfl (j := 0) rfl ?_
  refine rt_iconst (v := (-1)) dX8_parseValue_41 (by decide) ?_
  refine rt_callV Γ kk_X0_put kc_RX8_89 (c_X0_put Γ (d := d - 1) (rt_bk_C (t := t) (L := (tx_L s0 ca t (rt_r s0 tp) (nI (V + 1)) (nI p) (-1) k (upd b V (nI p)) (upd nx V (-1)) fi pa wo ke nu le (nI L))) 7 (Nat.le_of_ble_eq_true rfl) rfl rfl) (by decide)) (by omega) (by decide) (As := [.int (nI V), .int (-1)]) (show (parseMethodDescriptor yX0_put.desc).map (fun q => q.parameters.length) = some 2 by decide +kernel) hok (Nat.le_of_ble_eq_true rfl) dX8_parseValue_42 (rt_bk_C (t := t) (L := (tx_L s0 ca t (rt_r s0 tp) (nI (V + 1)) (nI p) (-1) k (upd b V (nI p)) (upd nx V (-1)) fi pa wo ke nu le (nI L))) 7 (Nat.le_of_ble_eq_true rfl) rfl rfl).1 rfl rfl rfl (rt_kr (st2 := []) rfl ?_) rt_kx
  refine rt_weq (w' := (rt_bk w t (tx_L s0 ca t (rt_r s0 tp) (nI (V + 1)) (nI p) (-1) k (upd b V (nI p)) (upd nx V (-1)) (cl_put 2073 fi (nI V) (-1)) pa wo ke nu le (nI L)))) (rt_bk_cs 7 (Nat.le_of_ble_eq_true rfl)) ?_
  refine rt_weq (w' := (rt_bk w t (tx_L s0 ca t (rt_r s0 tp) (nI (V + 1)) (nI p) (-1) k (upd b V (nI p)) (upd nx V (-1)) (upd fi V (-1)) pa wo ke nu le (nI L)))) (by rw [cl_putN hV (by decide)]) ?_
  refine rt_aload_n dX8_parseValue_45 rfl (j := 1) rfl ?_
  refine rt_bGet Γ kf_RX8_29 dX8_parseValue_46 (L := (tx_L s0 ca t (rt_r s0 tp) (nI (V + 1)) (nI p) (-1) k (upd b V (nI p)) (upd nx V (-1)) (upd fi V (-1)) pa wo ke nu le (nI L))) rfl rfl ?_
  refine rt_iload_n dX8_parseValue_49 rfl (j := 0) rfl ?_
  refine rt_iconst (v := 0) dX8_parseValue_50 (by decide) ?_
  refine rt_callV Γ kk_X0_put kc_RX8_89 (c_X0_put Γ (d := d - 1) (rt_bk_C (t := t) (L := (tx_L s0 ca t (rt_r s0 tp) (nI (V + 1)) (nI p) (-1) k (upd b V (nI p)) (upd nx V (-1)) (upd fi V (-1)) pa wo ke nu le (nI L))) 9 (Nat.le_of_ble_eq_true rfl) rfl rfl) (by decide)) (by omega) (by decide) (As := [.int (nI V), .int 0]) (show (parseMethodDescriptor yX0_put.desc).map (fun q => q.parameters.length) = some 2 by decide +kernel) hok (Nat.le_of_ble_eq_true rfl) dX8_parseValue_51 (rt_bk_C (t := t) (L := (tx_L s0 ca t (rt_r s0 tp) (nI (V + 1)) (nI p) (-1) k (upd b V (nI p)) (upd nx V (-1)) (upd fi V (-1)) pa wo ke nu le (nI L))) 9 (Nat.le_of_ble_eq_true rfl) rfl rfl).1 rfl rfl rfl (rt_kr (st2 := []) rfl ?_) rt_kx
  refine rt_weq (w' := (rt_bk w t (tx_L s0 ca t (rt_r s0 tp) (nI (V + 1)) (nI p) (-1) k (upd b V (nI p)) (upd nx V (-1)) (upd fi V (-1)) (cl_put 2073 pa (nI V) 0) wo ke nu le (nI L)))) (rt_bk_cs 9 (Nat.le_of_ble_eq_true rfl)) ?_
  refine rt_weq (w' := (rt_bk w t (tx_L s0 ca t (rt_r s0 tp) (nI (V + 1)) (nI p) (-1) k (upd b V (nI p)) (upd nx V (-1)) (upd fi V (-1)) (upd pa V 0) wo ke nu le (nI L)))) (by rw [cl_putN hV (by decide)]) ?_
  refine rt_aload_n dX8_parseValue_54 rfl (j := 1) rfl ?_
  refine rt_bGet Γ kf_RX8_57 dX8_parseValue_55 (L := (tx_L s0 ca t (rt_r s0 tp) (nI (V + 1)) (nI p) (-1) k (upd b V (nI p)) (upd nx V (-1)) (upd fi V (-1)) (upd pa V 0) wo ke nu le (nI L))) rfl rfl ?_
  refine rt_aload_n dX8_parseValue_58 rfl (j := 1) rfl ?_
  refine rt_bGet Γ kf_RX8_67 dX8_parseValue_59 (L := (tx_L s0 ca t (rt_r s0 tp) (nI (V + 1)) (nI p) (-1) k (upd b V (nI p)) (upd nx V (-1)) (upd fi V (-1)) (upd pa V 0) wo ke nu le (nI L))) rfl rfl ?_
  refine rt_callV Γ kk_X0_peek kc_RX8_86 (c_X0_peek Γ (d := d - 1) (x := (nI p)) (hT.bk htp) hn) (by omega) (by decide) (As := [.int (nI p)]) (show (parseMethodDescriptor yX0_peek.desc).map (fun q => q.parameters.length) = some 1 by decide +kernel) hok (Nat.le_of_ble_eq_true rfl) dX8_parseValue_62 (hT.bk htp).1 rfl rfl rfl (rt_kr (st2 := [.int (cl_peek n f u (nI p))]) rfl ?_) rt_kx
  refine rt_te (y := g p) (hg p (by omega)) ?_
  refine rt_istore_n (lv' := [(3, .int (g p)), (2, .int (nI V)), (0, rt_r s0 t), (1, .int (nI dp))]) dX8_parseValue_65 rfl (by decide) rfl ?_
  refine rt_iload_n dX8_parseValue_66 rfl (j := 0) rfl ?_
  refine rt_bipush (v := 123) dX8_parseValue_67 (by decide) ?_
  refine rt_icmp_ne (tgt := 92) dX8_parseValue_69 (by decide) (fun c69 => absurd c69 (fun c => c h)) (fun _ => ?_)
  refine rt_aload_n dX8_parseValue_72 rfl (j := 2) rfl ?_
  refine rt_bGet Γ kf_RX8_16 dX8_parseValue_73 (L := (tx_L s0 ca t (rt_r s0 tp) (nI (V + 1)) (nI p) (-1) k (upd b V (nI p)) (upd nx V (-1)) (upd fi V (-1)) (upd pa V 0) wo ke nu le (nI L))) rfl rfl ?_
  refine rt_iload_n dX8_parseValue_76 rfl (j := 1) rfl ?_
  refine rt_iconst (v := 1) dX8_parseValue_77 (by decide) ?_
  refine rt_callV Γ kk_X0_put kc_RX8_89 (c_X0_put Γ (d := d - 1) (rt_bk_C (t := t) (L := (tx_L s0 ca t (rt_r s0 tp) (nI (V + 1)) (nI p) (-1) k (upd b V (nI p)) (upd nx V (-1)) (upd fi V (-1)) (upd pa V 0) wo ke nu le (nI L))) 1 (Nat.le_of_ble_eq_true rfl) rfl rfl) (by decide)) (by omega) (by decide) (As := [.int (nI V), .int 1]) (show (parseMethodDescriptor yX0_put.desc).map (fun q => q.parameters.length) = some 2 by decide +kernel) hok (Nat.le_of_ble_eq_true rfl) dX8_parseValue_78 (rt_bk_C (t := t) (L := (tx_L s0 ca t (rt_r s0 tp) (nI (V + 1)) (nI p) (-1) k (upd b V (nI p)) (upd nx V (-1)) (upd fi V (-1)) (upd pa V 0) wo ke nu le (nI L))) 1 (Nat.le_of_ble_eq_true rfl) rfl rfl).1 rfl rfl rfl (rt_kr (st2 := []) rfl ?_) rt_kx
  refine rt_weq (w' := (rt_bk w t (tx_L s0 ca t (rt_r s0 tp) (nI (V + 1)) (nI p) (-1) (cl_put 2073 k (nI V) 1) (upd b V (nI p)) (upd nx V (-1)) (upd fi V (-1)) (upd pa V 0) wo ke nu le (nI L)))) (rt_bk_cs 1 (Nat.le_of_ble_eq_true rfl)) ?_
  refine rt_weq (w' := (rt_bk w t (tx_L s0 ca t (rt_r s0 tp) (nI (V + 1)) (nI p) (-1) (upd k V 1) (upd b V (nI p)) (upd nx V (-1)) (upd fi V (-1)) (upd pa V 0) wo ke nu le (nI L)))) (by rw [cl_putN hV (by decide)]) ?_
  refine rt_aload_n dX8_parseValue_81 rfl (j := 2) rfl ?_
  refine rt_iload_n dX8_parseValue_82 rfl (j := 1) rfl ?_
  refine rt_bipush (v := 125) dX8_parseValue_83 (by decide) ?_
  refine rt_iload_n dX8_parseValue_85 rfl (j := 3) rfl ?_
  refine rt_callV Γ kk_X8_parseParts kc_RX8_93 (j_pp2t Γ (d := d - 1) (by omega) hT hn htp hg hok hN hpN hdp hc) (by omega) (by decide) (As := [.int (nI V), .int 125, .int (nI dp)]) (show (parseMethodDescriptor yX8_parseParts.desc).map (fun q => q.parameters.length) = some 3 by decide +kernel) hok (Nat.le_of_ble_eq_true rfl) dX8_parseValue_86 ((rt_bk_0 w t (tx_L s0 ca t (rt_r s0 tp) (nI (V + 1)) (nI p) (-1) (upd k V 1) (upd b V (nI p)) (upd nx V (-1)) (upd fi V (-1)) (upd pa V 0) wo ke nu le (nI L)) (Nat.le_of_ble_eq_true rfl)).trans rfl) rfl rfl rfl (rt_kr (st2 := []) rfl ?_) rt_kx
  refine rt_goto (tgt := 215) dX8_parseValue_89 (by decide) ?_
  refine rt_iload_n dX8_parseValue_215 rfl (j := 1) rfl ?_
  refine rt_iret dX8_parseValue_216 rfl ⟨rfl, (upd k V 1), (upd b V (nI p)), (upd nx V (-1)), (upd fi V (-1)), (upd pa V 0), wo, ke, nu, le, ?_, (fun i hi => ⟨pk_un (by omega), pk_un (by omega), pk_un (by omega), pk_un (by omega), pk_un (by omega), rfl, rfl, rfl⟩), rfl, fun _ _ => rfl, jRep.one ⟨pk_us, pk_us, pk_us, pk_us, pk_us, (fun c => absurd (show (1 : Nat) = 4 from c) (by decide)), (fun c => absurd (show (1 : Nat) = 3 from c) (by decide)), (fun _ c => nomatch c)⟩⟩
  rw [jLw_l _ _ _ (by decide)]
  rfl
set_option maxRecDepth 100000 in
theorem jv_b3tE {l : Launch} {s0 : State} {a0 : Array Value} {G : va_G} {ca : Nat → ClassId} (Γ : rt_Γ l s0 a0 G ca) {d : Nat} {w : rt_Wd} {t : Nat} {k : Nat → Int32} {b : Nat → Int32} {nx : Nat → Int32} {fi : Nat → Int32} {pa : Nat → Int32} {wo : Nat → Int32} {ke : Nat → Int32} {nu : Nat → Int64} {le : Nat → Int32} {tp n : Nat} {f : Nat → Int32} {u : Int32} {g : Nat → Int32} (hT : rt_C s0 ca w tp n f u) (hn : n < 2 ^ 31) (htp : tp + 1 < t ∨ t + 18 ≤ tp) (hg : ∀ p : Nat, p < 65536 → cl_peek n f u (nI p) = g p) (hok : rt_ok w) {p V L N dp : Nat} (hN : jT g N) (hp : p ≤ N) (hVp : V ≤ p) (hLp : L ≤ p) (hd : 2 * (25 - dp) + 6 ≤ d) (h : g p = 123) (hdp : dp < 24) (hc : ¬ g (jSk g 4096 (p + 1)) = 125) {m : Nat} (hIV : ∀ i : Nat, i < m → jIV l s0 G ca w t tp N g i) (hm : 2 * (N - (p + 1)) + 2 ≤ m) {e : Nat} (hge : jGo g m (some (true, [])) dp (jSk g 4096 (p + 1)) = .error e) : rt_Met l s0 G (.code yX8_parseValue cX8_parseValue 4 (Option.some FieldType.int)) yX8_parseValue d [rt_r s0 t, .int (nI dp)] (rt_bk w t (tx_L s0 ca t (rt_r s0 tp) (nI V) (nI p) (-1) k b nx fi pa wo ke nu le (nI L))) (fun r w1 => r = .inl (some (.int (nI V))) ∧ tx_B s0 ca w t tp e w1) := by
  refine rt_met Γ kk_X8_parseValue rfl (Nat.le_of_ble_eq_true rfl) rfl ?_
  have hN0 := hN.1
  have hV : V < 2073 := by omega
  have hpN : p < N := hN.lt (by rw [h]; decide)
  refine rt_aload_n dX8_parseValue_0 rfl (j := 0) rfl ?_
  refine rt_bGet Γ kf_RX8_63 dX8_parseValue_1 (L := (tx_L s0 ca t (rt_r s0 tp) (nI V) (nI p) (-1) k b nx fi pa wo ke nu le (nI L))) rfl rfl ?_
  refine rt_istore_n (lv' := [(2, .int (nI V)), (0, rt_r s0 t), (1, .int (nI dp))]) dX8_parseValue_4 rfl (by decide) rfl ?_
  refine rt_aload_n dX8_parseValue_5 rfl (j := 1) rfl ?_
  refine rt_dup dX8_parseValue_6 rfl ?_
  refine rt_bGet Γ kf_RX8_63 dX8_parseValue_7 (L := (tx_L s0 ca t (rt_r s0 tp) (nI V) (nI p) (-1) k b nx fi pa wo ke nu le (nI L))) rfl rfl ?_
  refine rt_iconst (v := 1) dX8_parseValue_10 (by decide) ?_
  refine rt_iadd dX8_parseValue_11 ?_
  refine rt_te (y := nI (V + 1)) (nI_1 V) ?_
  refine rt_bPut Γ kp_RX8_63 dX8_parseValue_12 (L := (tx_L s0 ca t (rt_r s0 tp) (nI V) (nI p) (-1) k b nx fi pa wo ke nu le (nI L))) rfl (Nat.le_of_ble_eq_true rfl) rfl rfl (L' := (tx_L s0 ca t (rt_r s0 tp) (nI (V + 1)) (nI p) (-1) k b nx fi pa wo ke nu le (nI L))) rfl ?_
  refine rt_aload_n dX8_parseValue_15 rfl (j := 1) rfl ?_
  refine rt_bGet Γ kf_RX8_20 dX8_parseValue_16 (L := (tx_L s0 ca t (rt_r s0 tp) (nI (V + 1)) (nI p) (-1) k b nx fi pa wo ke nu le (nI L))) rfl rfl ?_
  refine rt_iload_n dX8_parseValue_19 rfl (j := 0) rfl ?_
  refine rt_aload_n dX8_parseValue_20 rfl (j := 1) rfl ?_
  refine rt_bGet Γ kf_RX8_67 dX8_parseValue_21 (L := (tx_L s0 ca t (rt_r s0 tp) (nI (V + 1)) (nI p) (-1) k b nx fi pa wo ke nu le (nI L))) rfl rfl ?_
  refine rt_callV Γ kk_X0_put kc_RX8_89 (c_X0_put Γ (d := d - 1) (rt_bk_C (t := t) (L := (tx_L s0 ca t (rt_r s0 tp) (nI (V + 1)) (nI p) (-1) k b nx fi pa wo ke nu le (nI L))) 3 (Nat.le_of_ble_eq_true rfl) rfl rfl) (by decide)) (by omega) (by decide) (As := [.int (nI V), .int (nI p)]) (show (parseMethodDescriptor yX0_put.desc).map (fun q => q.parameters.length) = some 2 by decide +kernel) hok (Nat.le_of_ble_eq_true rfl) dX8_parseValue_24 (rt_bk_C (t := t) (L := (tx_L s0 ca t (rt_r s0 tp) (nI (V + 1)) (nI p) (-1) k b nx fi pa wo ke nu le (nI L))) 3 (Nat.le_of_ble_eq_true rfl) rfl rfl).1 rfl rfl rfl (rt_kr (st2 := []) rfl ?_) rt_kx
  refine rt_weq (w' := (rt_bk w t (tx_L s0 ca t (rt_r s0 tp) (nI (V + 1)) (nI p) (-1) k (cl_put 2073 b (nI V) (nI p)) nx fi pa wo ke nu le (nI L)))) (rt_bk_cs 3 (Nat.le_of_ble_eq_true rfl)) ?_
  refine rt_weq (w' := (rt_bk w t (tx_L s0 ca t (rt_r s0 tp) (nI (V + 1)) (nI p) (-1) k (upd b V (nI p)) nx fi pa wo ke nu le (nI L)))) (by rw [cl_putN hV (by decide)]) ?_
  refine rt_aload_n dX8_parseValue_27 rfl (j := 1) rfl ?_
  refine rt_bGet Γ kf_RX8_23 dX8_parseValue_28 (L := (tx_L s0 ca t (rt_r s0 tp) (nI (V + 1)) (nI p) (-1) k (upd b V (nI p)) nx fi pa wo ke nu le (nI L))) rfl rfl ?_
  refine rt_iload_n dX8_parseValue_31 rfl (j := 0) rfl ?_
  refine rt_iconst (v := (-1)) dX8_parseValue_32 (by decide) ?_
  refine rt_callV Γ kk_X0_put kc_RX8_89 (c_X0_put Γ (d := d - 1) (rt_bk_C (t := t) (L := (tx_L s0 ca t (rt_r s0 tp) (nI (V + 1)) (nI p) (-1) k (upd b V (nI p)) nx fi pa wo ke nu le (nI L))) 5 (Nat.le_of_ble_eq_true rfl) rfl rfl) (by decide)) (by omega) (by decide) (As := [.int (nI V), .int (-1)]) (show (parseMethodDescriptor yX0_put.desc).map (fun q => q.parameters.length) = some 2 by decide +kernel) hok (Nat.le_of_ble_eq_true rfl) dX8_parseValue_33 (rt_bk_C (t := t) (L := (tx_L s0 ca t (rt_r s0 tp) (nI (V + 1)) (nI p) (-1) k (upd b V (nI p)) nx fi pa wo ke nu le (nI L))) 5 (Nat.le_of_ble_eq_true rfl) rfl rfl).1 rfl rfl rfl (rt_kr (st2 := []) rfl ?_) rt_kx
  refine rt_weq (w' := (rt_bk w t (tx_L s0 ca t (rt_r s0 tp) (nI (V + 1)) (nI p) (-1) k (upd b V (nI p)) (cl_put 2073 nx (nI V) (-1)) fi pa wo ke nu le (nI L)))) (rt_bk_cs 5 (Nat.le_of_ble_eq_true rfl)) ?_
  refine rt_weq (w' := (rt_bk w t (tx_L s0 ca t (rt_r s0 tp) (nI (V + 1)) (nI p) (-1) k (upd b V (nI p)) (upd nx V (-1)) fi pa wo ke nu le (nI L)))) (by rw [cl_putN hV (by decide)]) ?_
  refine rt_aload_n dX8_parseValue_36 rfl (j := 1) rfl ?_
  refine rt_bGet Γ kf_RX8_26 dX8_parseValue_37 (L := (tx_L s0 ca t (rt_r s0 tp) (nI (V + 1)) (nI p) (-1) k (upd b V (nI p)) (upd nx V (-1)) fi pa wo ke nu le (nI L))) rfl rfl ?_
  refine rt_iload_n dX8_parseValue_40 rfl (j := 0) rfl ?_
  refine rt_iconst (v := (-1)) dX8_parseValue_41 (by decide) ?_
  refine rt_callV Γ kk_X0_put kc_RX8_89 (c_X0_put Γ (d := d - 1) (rt_bk_C (t := t) (L := (tx_L s0 ca t (rt_r s0 tp) (nI (V + 1)) (nI p) (-1) k (upd b V (nI p)) (upd nx V (-1)) fi pa wo ke nu le (nI L))) 7 (Nat.le_of_ble_eq_true rfl) rfl rfl) (by decide)) (by omega) (by decide) (As := [.int (nI V), .int (-1)]) (show (parseMethodDescriptor yX0_put.desc).map (fun q => q.parameters.length) = some 2 by decide +kernel) hok (Nat.le_of_ble_eq_true rfl) dX8_parseValue_42 (rt_bk_C (t := t) (L := (tx_L s0 ca t (rt_r s0 tp) (nI (V + 1)) (nI p) (-1) k (upd b V (nI p)) (upd nx V (-1)) fi pa wo ke nu le (nI L))) 7 (Nat.le_of_ble_eq_true rfl) rfl rfl).1 rfl rfl rfl (rt_kr (st2 := []) rfl ?_) rt_kx
  refine rt_weq (w' := (rt_bk w t (tx_L s0 ca t (rt_r s0 tp) (nI (V + 1)) (nI p) (-1) k (upd b V (nI p)) (upd nx V (-1)) (cl_put 2073 fi (nI V) (-1)) pa wo ke nu le (nI L)))) (rt_bk_cs 7 (Nat.le_of_ble_eq_true rfl)) ?_
  refine rt_weq (w' := (rt_bk w t (tx_L s0 ca t (rt_r s0 tp) (nI (V + 1)) (nI p) (-1) k (upd b V (nI p)) (upd nx V (-1)) (upd fi V (-1)) pa wo ke nu le (nI L)))) (by rw [cl_putN hV (by decide)]) ?_
  refine rt_aload_n dX8_parseValue_45 rfl (j := 1) rfl ?_
  refine rt_bGet Γ kf_RX8_29 dX8_parseValue_46 (L := (tx_L s0 ca t (rt_r s0 tp) (nI (V + 1)) (nI p) (-1) k (upd b V (nI p)) (upd nx V (-1)) (upd fi V (-1)) pa wo ke nu le (nI L))) rfl rfl ?_
  refine rt_iload_n dX8_parseValue_49 rfl (j := 0) rfl ?_
  refine rt_iconst (v := 0) dX8_parseValue_50 (by decide) ?_
  refine rt_callV Γ kk_X0_put kc_RX8_89 (c_X0_put Γ (d := d - 1) (rt_bk_C (t := t) (L := (tx_L s0 ca t (rt_r s0 tp) (nI (V + 1)) (nI p) (-1) k (upd b V (nI p)) (upd nx V (-1)) (upd fi V (-1)) pa wo ke nu le (nI L))) 9 (Nat.le_of_ble_eq_true rfl) rfl rfl) (by decide)) (by omega) (by decide) (As := [.int (nI V), .int 0]) (show (parseMethodDescriptor yX0_put.desc).map (fun q => q.parameters.length) = some 2 by decide +kernel) hok (Nat.le_of_ble_eq_true rfl) dX8_parseValue_51 (rt_bk_C (t := t) (L := (tx_L s0 ca t (rt_r s0 tp) (nI (V + 1)) (nI p) (-1) k (upd b V (nI p)) (upd nx V (-1)) (upd fi V (-1)) pa wo ke nu le (nI L))) 9 (Nat.le_of_ble_eq_true rfl) rfl rfl).1 rfl rfl rfl (rt_kr (st2 := []) rfl ?_) rt_kx
  refine rt_weq (w' := (rt_bk w t (tx_L s0 ca t (rt_r s0 tp) (nI (V + 1)) (nI p) (-1) k (upd b V (nI p)) (upd nx V (-1)) (upd fi V (-1)) (cl_put 2073 pa (nI V) 0) wo ke nu le (nI L)))) (rt_bk_cs 9 (Nat.le_of_ble_eq_true rfl)) ?_
  refine rt_weq (w' := (rt_bk w t (tx_L s0 ca t (rt_r s0 tp) (nI (V + 1)) (nI p) (-1) k (upd b V (nI p)) (upd nx V (-1)) (upd fi V (-1)) (upd pa V 0) wo ke nu le (nI L)))) (by rw [cl_putN hV (by decide)]) ?_
  refine rt_aload_n dX8_parseValue_54 rfl (j := 1) rfl ?_
  refine rt_bGet Γ kf_RX8_57 dX8_parseValue_55 (L := (tx_L s0 ca t (rt_r s0 tp) (nI (V + 1)) (nI p) (-1) k (upd b V (nI p)) (upd nx V (-1)) (upd fi V (-1)) (upd pa V 0) wo ke nu le (nI L))) rfl rfl ?_
  refine rt_aload_n dX8_parseValue_58 rfl (j := 1) rfl ?_
  refine rt_bGet Γ kf_RX8_67 dX8_parseValue_59 (L := (tx_L s0 ca t (rt_r s0 tp) (nI (V + 1)) (nI p) (-1) k (upd b V (nI p)) (upd nx V (-1)) (upd fi V (-1)) (upd pa V 0) wo ke nu le (nI L))) rfl rfl ?_
  refine rt_callV Γ kk_X0_peek kc_RX8_86 (c_X0_peek Γ (d := d - 1) (x := (nI p)) (hT.bk htp) hn) (by omega) (by decide) (As := [.int (nI p)]) (show (parseMethodDescriptor yX0_peek.desc).map (fun q => q.parameters.length) = some 1 by decide +kernel) hok (Nat.le_of_ble_eq_true rfl) dX8_parseValue_62 (hT.bk htp).1 rfl rfl rfl (rt_kr (st2 := [.int (cl_peek n f u (nI p))]) rfl ?_) rt_kx
  refine rt_te (y := g p) (hg p (by omega)) ?_
  refine rt_istore_n (lv' := [(3, .int (g p)), (2, .int (nI V)), (0, rt_r s0 t), (1, .int (nI dp))]) dX8_parseValue_65 rfl (by decide) rfl ?_
  refine rt_iload_n dX8_parseValue_66 rfl (j := 0) rfl ?_
  refine rt_bipush (v := 123) dX8_parseValue_67 (by decide) ?_
  refine rt_icmp_ne (tgt := 92) dX8_parseValue_69 (by decide) (fun c69 => absurd c69 (fun c => c h)) (fun _ => ?_)
  refine rt_aload_n dX8_parseValue_72 rfl (j := 2) rfl ?_
  refine rt_bGet Γ kf_RX8_16 dX8_parseValue_73 (L := (tx_L s0 ca t (rt_r s0 tp) (nI (V + 1)) (nI p) (-1) k (upd b V (nI p)) (upd nx V (-1)) (upd fi V (-1)) (upd pa V 0) wo ke nu le (nI L))) rfl rfl ?_
  refine rt_iload_n dX8_parseValue_76 rfl (j := 1) rfl ?_
  refine rt_iconst (v := 1) dX8_parseValue_77 (by decide) ?_
  refine rt_callV Γ kk_X0_put kc_RX8_89 (c_X0_put Γ (d := d - 1) (rt_bk_C (t := t) (L := (tx_L s0 ca t (rt_r s0 tp) (nI (V + 1)) (nI p) (-1) k (upd b V (nI p)) (upd nx V (-1)) (upd fi V (-1)) (upd pa V 0) wo ke nu le (nI L))) 1 (Nat.le_of_ble_eq_true rfl) rfl rfl) (by decide)) (by omega) (by decide) (As := [.int (nI V), .int 1]) (show (parseMethodDescriptor yX0_put.desc).map (fun q => q.parameters.length) = some 2 by decide +kernel) hok (Nat.le_of_ble_eq_true rfl) dX8_parseValue_78 (rt_bk_C (t := t) (L := (tx_L s0 ca t (rt_r s0 tp) (nI (V + 1)) (nI p) (-1) k (upd b V (nI p)) (upd nx V (-1)) (upd fi V (-1)) (upd pa V 0) wo ke nu le (nI L))) 1 (Nat.le_of_ble_eq_true rfl) rfl rfl).1 rfl rfl rfl (rt_kr (st2 := []) rfl ?_) rt_kx
  refine rt_weq (w' := (rt_bk w t (tx_L s0 ca t (rt_r s0 tp) (nI (V + 1)) (nI p) (-1) (cl_put 2073 k (nI V) 1) (upd b V (nI p)) (upd nx V (-1)) (upd fi V (-1)) (upd pa V 0) wo ke nu le (nI L)))) (rt_bk_cs 1 (Nat.le_of_ble_eq_true rfl)) ?_
  refine rt_weq (w' := (rt_bk w t (tx_L s0 ca t (rt_r s0 tp) (nI (V + 1)) (nI p) (-1) (upd k V 1) (upd b V (nI p)) (upd nx V (-1)) (upd fi V (-1)) (upd pa V 0) wo ke nu le (nI L)))) (by rw [cl_putN hV (by decide)]) ?_
  refine rt_aload_n dX8_parseValue_81 rfl (j := 2) rfl ?_
  refine rt_iload_n dX8_parseValue_82 rfl (j := 1) rfl ?_
  refine rt_bipush (v := 125) dX8_parseValue_83 (by decide) ?_
  refine rt_iload_n dX8_parseValue_85 rfl (j := 3) rfl ?_
  refine rt_callV Γ kk_X8_parseParts kc_RX8_93 (j_pp3t Γ (d := d - 1) (Q := (fun r w1 => r = .inl none ∧ tx_B s0 ca w t tp e w1)) hT hn htp hg hok hN hpN (by omega) hdp hc hIV (by omega) (by omega) (Nat.lt_succ_self V) hm pk_us pk_us pk_us (fun e1 h1 w1 h2 => ⟨rfl, by obtain rfl : e1 = e := Except.error.inj (h1.symm.trans hge); exact h2⟩) (fun xs c q h1 => nomatch h1.symm.trans hge)) (by omega) (by decide) (As := [.int (nI V), .int 125, .int (nI dp)]) (show (parseMethodDescriptor yX8_parseParts.desc).map (fun q => q.parameters.length) = some 3 by decide +kernel) hok (Nat.le_of_ble_eq_true rfl) dX8_parseValue_86 ((rt_bk_0 w t (tx_L s0 ca t (rt_r s0 tp) (nI (V + 1)) (nI p) (-1) (upd k V 1) (upd b V (nI p)) (upd nx V (-1)) (upd fi V (-1)) (upd pa V 0) wo ke nu le (nI L)) (Nat.le_of_ble_eq_true rfl)).trans rfl) rfl rfl rfl (fun v9 w9 hq => ?_) (fun X w9 hq => nomatch hq.1)
  obtain ⟨e9, vals24, pos24, k24, b24, nx24, fi24, pa24, wo24, ke24, nu24, le24, lu24, rfl⟩ := hq
  cases e9
  show rt_Go l s0 G RX8 "parseValue" cX8_parseValue 4 (Option.some FieldType.int) [] d _ _ (86 + 3) [(3, .int (g p)), (2, .int (nI V)), (0, rt_r s0 t), (1, .int (nI dp))] [] (rt_bk w t (tx_L s0 ca t (rt_r s0 tp) vals24 pos24 (nI e) k24 b24 nx24 fi24 pa24 wo24 ke24 nu24 le24 lu24))
  refine rt_goto (tgt := 215) dX8_parseValue_89 (by decide) ?_
  refine rt_iload_n dX8_parseValue_215 rfl (j := 1) rfl ?_
  exact rt_iret dX8_parseValue_216 rfl (⟨rfl, _, _, _, _, _, _, _, _, _, _, _, _, rfl⟩)
set_option maxRecDepth 100000 in
theorem jv_b3t {l : Launch} {s0 : State} {a0 : Array Value} {G : va_G} {ca : Nat → ClassId} (Γ : rt_Γ l s0 a0 G ca) {d : Nat} {w : rt_Wd} {t : Nat} {k : Nat → Int32} {b : Nat → Int32} {nx : Nat → Int32} {fi : Nat → Int32} {pa : Nat → Int32} {wo : Nat → Int32} {ke : Nat → Int32} {nu : Nat → Int64} {le : Nat → Int32} {tp n : Nat} {f : Nat → Int32} {u : Int32} {g : Nat → Int32} (hT : rt_C s0 ca w tp n f u) (hn : n < 2 ^ 31) (htp : tp + 1 < t ∨ t + 18 ≤ tp) (hg : ∀ p : Nat, p < 65536 → cl_peek n f u (nI p) = g p) (hok : rt_ok w) {p V L N dp : Nat} (hN : jT g N) (hp : p ≤ N) (hVp : V ≤ p) (hLp : L ≤ p) (hd : 2 * (25 - dp) + 6 ≤ d) (h : g p = 123) (hdp : dp < 24) (hc : ¬ g (jSk g 4096 (p + 1)) = 125) {m : Nat} (hIV : ∀ i : Nat, i < m → jIV l s0 G ca w t tp N g i) (hm : 2 * (N - (p + 1)) + 2 ≤ m) {xs : List JR} {c q : Nat} (hge : jGo g m (some (true, [])) dp (jSk g 4096 (p + 1)) = .ok (xs, c, q)) : rt_Met l s0 G (.code yX8_parseValue cX8_parseValue 4 (Option.some FieldType.int)) yX8_parseValue d [rt_r s0 t, .int (nI dp)] (rt_bk w t (tx_L s0 ca t (rt_r s0 tp) (nI V) (nI p) (-1) k b nx fi pa wo ke nu le (nI L))) (jVO s0 ca w t tp V L q k b nx fi pa wo ke nu le ((1, p, 0, [], none, c, xs.length + 1, false) :: xs)) := by
  refine rt_met Γ kk_X8_parseValue rfl (Nat.le_of_ble_eq_true rfl) rfl ?_
  have hN0 := hN.1
  have hV : V < 2073 := by omega
  have hpN : p < N := hN.lt (by rw [h]; decide)
  refine rt_aload_n dX8_parseValue_0 rfl (j := 0) rfl ?_
  refine rt_bGet Γ kf_RX8_63 dX8_parseValue_1 (L := (tx_L s0 ca t (rt_r s0 tp) (nI V) (nI p) (-1) k b nx fi pa wo ke nu le (nI L))) rfl rfl ?_
  refine rt_istore_n (lv' := [(2, .int (nI V)), (0, rt_r s0 t), (1, .int (nI dp))]) dX8_parseValue_4 rfl (by decide) rfl ?_
  refine rt_aload_n dX8_parseValue_5 rfl (j := 1) rfl ?_
  refine rt_dup dX8_parseValue_6 rfl ?_
  refine rt_bGet Γ kf_RX8_63 dX8_parseValue_7 (L := (tx_L s0 ca t (rt_r s0 tp) (nI V) (nI p) (-1) k b nx fi pa wo ke nu le (nI L))) rfl rfl ?_
  refine rt_iconst (v := 1) dX8_parseValue_10 (by decide) ?_
  refine rt_iadd dX8_parseValue_11 ?_
  refine rt_te (y := nI (V + 1)) (nI_1 V) ?_
  refine rt_bPut Γ kp_RX8_63 dX8_parseValue_12 (L := (tx_L s0 ca t (rt_r s0 tp) (nI V) (nI p) (-1) k b nx fi pa wo ke nu le (nI L))) rfl (Nat.le_of_ble_eq_true rfl) rfl rfl (L' := (tx_L s0 ca t (rt_r s0 tp) (nI (V + 1)) (nI p) (-1) k b nx fi pa wo ke nu le (nI L))) rfl ?_
  refine rt_aload_n dX8_parseValue_15 rfl (j := 1) rfl ?_
  refine rt_bGet Γ kf_RX8_20 dX8_parseValue_16 (L := (tx_L s0 ca t (rt_r s0 tp) (nI (V + 1)) (nI p) (-1) k b nx fi pa wo ke nu le (nI L))) rfl rfl ?_
  refine rt_iload_n dX8_parseValue_19 rfl (j := 0) rfl ?_
  refine rt_aload_n dX8_parseValue_20 rfl (j := 1) rfl ?_
  refine rt_bGet Γ kf_RX8_67 dX8_parseValue_21 (L := (tx_L s0 ca t (rt_r s0 tp) (nI (V + 1)) (nI p) (-1) k b nx fi pa wo ke nu le (nI L))) rfl rfl ?_
  refine rt_callV Γ kk_X0_put kc_RX8_89 (c_X0_put Γ (d := d - 1) (rt_bk_C (t := t) (L := (tx_L s0 ca t (rt_r s0 tp) (nI (V + 1)) (nI p) (-1) k b nx fi pa wo ke nu le (nI L))) 3 (Nat.le_of_ble_eq_true rfl) rfl rfl) (by decide)) (by omega) (by decide) (As := [.int (nI V), .int (nI p)]) (show (parseMethodDescriptor yX0_put.desc).map (fun q => q.parameters.length) = some 2 by decide +kernel) hok (Nat.le_of_ble_eq_true rfl) dX8_parseValue_24 (rt_bk_C (t := t) (L := (tx_L s0 ca t (rt_r s0 tp) (nI (V + 1)) (nI p) (-1) k b nx fi pa wo ke nu le (nI L))) 3 (Nat.le_of_ble_eq_true rfl) rfl rfl).1 rfl rfl rfl (rt_kr (st2 := []) rfl ?_) rt_kx
  refine rt_weq (w' := (rt_bk w t (tx_L s0 ca t (rt_r s0 tp) (nI (V + 1)) (nI p) (-1) k (cl_put 2073 b (nI V) (nI p)) nx fi pa wo ke nu le (nI L)))) (rt_bk_cs 3 (Nat.le_of_ble_eq_true rfl)) ?_
  refine rt_weq (w' := (rt_bk w t (tx_L s0 ca t (rt_r s0 tp) (nI (V + 1)) (nI p) (-1) k (upd b V (nI p)) nx fi pa wo ke nu le (nI L)))) (by rw [cl_putN hV (by decide)]) ?_
  refine rt_aload_n dX8_parseValue_27 rfl (j := 1) rfl ?_
  refine rt_bGet Γ kf_RX8_23 dX8_parseValue_28 (L := (tx_L s0 ca t (rt_r s0 tp) (nI (V + 1)) (nI p) (-1) k (upd b V (nI p)) nx fi pa wo ke nu le (nI L))) rfl rfl ?_
  refine rt_iload_n dX8_parseValue_31 rfl (j := 0) rfl ?_
  refine rt_iconst (v := (-1)) dX8_parseValue_32 (by decide) ?_
  refine rt_callV Γ kk_X0_put kc_RX8_89 (c_X0_put Γ (d := d - 1) (rt_bk_C (t := t) (L := (tx_L s0 ca t (rt_r s0 tp) (nI (V + 1)) (nI p) (-1) k (upd b V (nI p)) nx fi pa wo ke nu le (nI L))) 5 (Nat.le_of_ble_eq_true rfl) rfl rfl) (by decide)) (by omega) (by decide) (As := [.int (nI V), .int (-1)]) (show (parseMethodDescriptor yX0_put.desc).map (fun q => q.parameters.length) = some 2 by decide +kernel) hok (Nat.le_of_ble_eq_true rfl) dX8_parseValue_33 (rt_bk_C (t := t) (L := (tx_L s0 ca t (rt_r s0 tp) (nI (V + 1)) (nI p) (-1) k (upd b V (nI p)) nx fi pa wo ke nu le (nI L))) 5 (Nat.le_of_ble_eq_true rfl) rfl rfl).1 rfl rfl rfl (rt_kr (st2 := []) rfl ?_) rt_kx
  refine rt_weq (w' := (rt_bk w t (tx_L s0 ca t (rt_r s0 tp) (nI (V + 1)) (nI p) (-1) k (upd b V (nI p)) (cl_put 2073 nx (nI V) (-1)) fi pa wo ke nu le (nI L)))) (rt_bk_cs 5 (Nat.le_of_ble_eq_true rfl)) ?_
  refine rt_weq (w' := (rt_bk w t (tx_L s0 ca t (rt_r s0 tp) (nI (V + 1)) (nI p) (-1) k (upd b V (nI p)) (upd nx V (-1)) fi pa wo ke nu le (nI L)))) (by rw [cl_putN hV (by decide)]) ?_
  refine rt_aload_n dX8_parseValue_36 rfl (j := 1) rfl ?_
  refine rt_bGet Γ kf_RX8_26 dX8_parseValue_37 (L := (tx_L s0 ca t (rt_r s0 tp) (nI (V + 1)) (nI p) (-1) k (upd b V (nI p)) (upd nx V (-1)) fi pa wo ke nu le (nI L))) rfl rfl ?_
  refine rt_iload_n dX8_parseValue_40 rfl (j := 0) rfl ?_
  refine rt_iconst (v := (-1)) dX8_parseValue_41 (by decide) ?_
  refine rt_callV Γ kk_X0_put kc_RX8_89 (c_X0_put Γ (d := d - 1) (rt_bk_C (t := t) (L := (tx_L s0 ca t (rt_r s0 tp) (nI (V + 1)) (nI p) (-1) k (upd b V (nI p)) (upd nx V (-1)) fi pa wo ke nu le (nI L))) 7 (Nat.le_of_ble_eq_true rfl) rfl rfl) (by decide)) (by omega) (by decide) (As := [.int (nI V), .int (-1)]) (show (parseMethodDescriptor yX0_put.desc).map (fun q => q.parameters.length) = some 2 by decide +kernel) hok (Nat.le_of_ble_eq_true rfl) dX8_parseValue_42 (rt_bk_C (t := t) (L := (tx_L s0 ca t (rt_r s0 tp) (nI (V + 1)) (nI p) (-1) k (upd b V (nI p)) (upd nx V (-1)) fi pa wo ke nu le (nI L))) 7 (Nat.le_of_ble_eq_true rfl) rfl rfl).1 rfl rfl rfl (rt_kr (st2 := []) rfl ?_) rt_kx
  refine rt_weq (w' := (rt_bk w t (tx_L s0 ca t (rt_r s0 tp) (nI (V + 1)) (nI p) (-1) k (upd b V (nI p)) (upd nx V (-1)) (cl_put 2073 fi (nI V) (-1)) pa wo ke nu le (nI L)))) (rt_bk_cs 7 (Nat.le_of_ble_eq_true rfl)) ?_
  refine rt_weq (w' := (rt_bk w t (tx_L s0 ca t (rt_r s0 tp) (nI (V + 1)) (nI p) (-1) k (upd b V (nI p)) (upd nx V (-1)) (upd fi V (-1)) pa wo ke nu le (nI L)))) (by rw [cl_putN hV (by decide)]) ?_
  refine rt_aload_n dX8_parseValue_45 rfl (j := 1) rfl ?_
  refine rt_bGet Γ kf_RX8_29 dX8_parseValue_46 (L := (tx_L s0 ca t (rt_r s0 tp) (nI (V + 1)) (nI p) (-1) k (upd b V (nI p)) (upd nx V (-1)) (upd fi V (-1)) pa wo ke nu le (nI L))) rfl rfl ?_
  refine rt_iload_n dX8_parseValue_49 rfl (j := 0) rfl ?_
  refine rt_iconst (v := 0) dX8_parseValue_50 (by decide) ?_
  refine rt_callV Γ kk_X0_put kc_RX8_89 (c_X0_put Γ (d := d - 1) (rt_bk_C (t := t) (L := (tx_L s0 ca t (rt_r s0 tp) (nI (V + 1)) (nI p) (-1) k (upd b V (nI p)) (upd nx V (-1)) (upd fi V (-1)) pa wo ke nu le (nI L))) 9 (Nat.le_of_ble_eq_true rfl) rfl rfl) (by decide)) (by omega) (by decide) (As := [.int (nI V), .int 0]) (show (parseMethodDescriptor yX0_put.desc).map (fun q => q.parameters.length) = some 2 by decide +kernel) hok (Nat.le_of_ble_eq_true rfl) dX8_parseValue_51 (rt_bk_C (t := t) (L := (tx_L s0 ca t (rt_r s0 tp) (nI (V + 1)) (nI p) (-1) k (upd b V (nI p)) (upd nx V (-1)) (upd fi V (-1)) pa wo ke nu le (nI L))) 9 (Nat.le_of_ble_eq_true rfl) rfl rfl).1 rfl rfl rfl (rt_kr (st2 := []) rfl ?_) rt_kx
  refine rt_weq (w' := (rt_bk w t (tx_L s0 ca t (rt_r s0 tp) (nI (V + 1)) (nI p) (-1) k (upd b V (nI p)) (upd nx V (-1)) (upd fi V (-1)) (cl_put 2073 pa (nI V) 0) wo ke nu le (nI L)))) (rt_bk_cs 9 (Nat.le_of_ble_eq_true rfl)) ?_
  refine rt_weq (w' := (rt_bk w t (tx_L s0 ca t (rt_r s0 tp) (nI (V + 1)) (nI p) (-1) k (upd b V (nI p)) (upd nx V (-1)) (upd fi V (-1)) (upd pa V 0) wo ke nu le (nI L)))) (by rw [cl_putN hV (by decide)]) ?_
  refine rt_aload_n dX8_parseValue_54 rfl (j := 1) rfl ?_
  refine rt_bGet Γ kf_RX8_57 dX8_parseValue_55 (L := (tx_L s0 ca t (rt_r s0 tp) (nI (V + 1)) (nI p) (-1) k (upd b V (nI p)) (upd nx V (-1)) (upd fi V (-1)) (upd pa V 0) wo ke nu le (nI L))) rfl rfl ?_
  refine rt_aload_n dX8_parseValue_58 rfl (j := 1) rfl ?_
  refine rt_bGet Γ kf_RX8_67 dX8_parseValue_59 (L := (tx_L s0 ca t (rt_r s0 tp) (nI (V + 1)) (nI p) (-1) k (upd b V (nI p)) (upd nx V (-1)) (upd fi V (-1)) (upd pa V 0) wo ke nu le (nI L))) rfl rfl ?_
  refine rt_callV Γ kk_X0_peek kc_RX8_86 (c_X0_peek Γ (d := d - 1) (x := (nI p)) (hT.bk htp) hn) (by omega) (by decide) (As := [.int (nI p)]) (show (parseMethodDescriptor yX0_peek.desc).map (fun q => q.parameters.length) = some 1 by decide +kernel) hok (Nat.le_of_ble_eq_true rfl) dX8_parseValue_62 (hT.bk htp).1 rfl rfl rfl (rt_kr (st2 := [.int (cl_peek n f u (nI p))]) rfl ?_) rt_kx
  refine rt_te (y := g p) (hg p (by omega)) ?_
  refine rt_istore_n (lv' := [(3, .int (g p)), (2, .int (nI V)), (0, rt_r s0 t), (1, .int (nI dp))]) dX8_parseValue_65 rfl (by decide) rfl ?_
  refine rt_iload_n dX8_parseValue_66 rfl (j := 0) rfl ?_
  refine rt_bipush (v := 123) dX8_parseValue_67 (by decide) ?_
  refine rt_icmp_ne (tgt := 92) dX8_parseValue_69 (by decide) (fun c69 => absurd c69 (fun c => c h)) (fun _ => ?_)
  refine rt_aload_n dX8_parseValue_72 rfl (j := 2) rfl ?_
  refine rt_bGet Γ kf_RX8_16 dX8_parseValue_73 (L := (tx_L s0 ca t (rt_r s0 tp) (nI (V + 1)) (nI p) (-1) k (upd b V (nI p)) (upd nx V (-1)) (upd fi V (-1)) (upd pa V 0) wo ke nu le (nI L))) rfl rfl ?_
  refine rt_iload_n dX8_parseValue_76 rfl (j := 1) rfl ?_
  refine rt_iconst (v := 1) dX8_parseValue_77 (by decide) ?_
  refine rt_callV Γ kk_X0_put kc_RX8_89 (c_X0_put Γ (d := d - 1) (rt_bk_C (t := t) (L := (tx_L s0 ca t (rt_r s0 tp) (nI (V + 1)) (nI p) (-1) k (upd b V (nI p)) (upd nx V (-1)) (upd fi V (-1)) (upd pa V 0) wo ke nu le (nI L))) 1 (Nat.le_of_ble_eq_true rfl) rfl rfl) (by decide)) (by omega) (by decide) (As := [.int (nI V), .int 1]) (show (parseMethodDescriptor yX0_put.desc).map (fun q => q.parameters.length) = some 2 by decide +kernel) hok (Nat.le_of_ble_eq_true rfl) dX8_parseValue_78 (rt_bk_C (t := t) (L := (tx_L s0 ca t (rt_r s0 tp) (nI (V + 1)) (nI p) (-1) k (upd b V (nI p)) (upd nx V (-1)) (upd fi V (-1)) (upd pa V 0) wo ke nu le (nI L))) 1 (Nat.le_of_ble_eq_true rfl) rfl rfl).1 rfl rfl rfl (rt_kr (st2 := []) rfl ?_) rt_kx
  refine rt_weq (w' := (rt_bk w t (tx_L s0 ca t (rt_r s0 tp) (nI (V + 1)) (nI p) (-1) (cl_put 2073 k (nI V) 1) (upd b V (nI p)) (upd nx V (-1)) (upd fi V (-1)) (upd pa V 0) wo ke nu le (nI L)))) (rt_bk_cs 1 (Nat.le_of_ble_eq_true rfl)) ?_
  refine rt_weq (w' := (rt_bk w t (tx_L s0 ca t (rt_r s0 tp) (nI (V + 1)) (nI p) (-1) (upd k V 1) (upd b V (nI p)) (upd nx V (-1)) (upd fi V (-1)) (upd pa V 0) wo ke nu le (nI L)))) (by rw [cl_putN hV (by decide)]) ?_
  refine rt_aload_n dX8_parseValue_81 rfl (j := 2) rfl ?_
  refine rt_iload_n dX8_parseValue_82 rfl (j := 1) rfl ?_
  refine rt_bipush (v := 125) dX8_parseValue_83 (by decide) ?_
  refine rt_iload_n dX8_parseValue_85 rfl (j := 3) rfl ?_
  refine rt_callV Γ kk_X8_parseParts kc_RX8_93 (j_pp3t Γ (d := d - 1) (Q := (jPO s0 ca w t tp V (V + 1) L q 0 c (-1) (upd k V 1) (upd b V (nI p)) (upd nx V (-1)) (upd fi V (-1)) (upd pa V 0) wo ke nu le xs)) hT hn htp hg hok hN hpN (by omega) hdp hc hIV (by omega) (by omega) (Nat.lt_succ_self V) hm pk_us pk_us pk_us (fun e1 h1 => nomatch h1.symm.trans hge) (fun xs1 c1 q1 h1 w1 h2 => by obtain ⟨rfl, rfl, rfl⟩ := jOk1 (α := Nat) (h1.symm.trans hge); exact h2)) (by omega) (by decide) (As := [.int (nI V), .int 125, .int (nI dp)]) (show (parseMethodDescriptor yX8_parseParts.desc).map (fun q => q.parameters.length) = some 3 by decide +kernel) hok (Nat.le_of_ble_eq_true rfl) dX8_parseValue_86 ((rt_bk_0 w t (tx_L s0 ca t (rt_r s0 tp) (nI (V + 1)) (nI p) (-1) (upd k V 1) (upd b V (nI p)) (upd nx V (-1)) (upd fi V (-1)) (upd pa V 0) wo ke nu le (nI L)) (Nat.le_of_ble_eq_true rfl)).trans rfl) rfl rfl rfl (fun v9 w9 hq => ?_) (fun X w9 hq => nomatch hq.1)
  obtain ⟨e9, k1, b1, nx1, fi1, pa1, wo1, ke1, nu1, le1, rfl, g1, g2, g3, g4, g5, g6, g7, g8⟩ := hq
  cases e9
  show rt_Go l s0 G RX8 "parseValue" cX8_parseValue 4 (Option.some FieldType.int) [] d _ _ (86 + 3) [(3, .int (g p)), (2, .int (nI V)), (0, rt_r s0 t), (1, .int (nI dp))] [] (rt_bk w t (tx_L s0 ca t (rt_r s0 tp) (nI (V + 1 + xs.length)) (nI q) (-1) k1 b1 nx1 fi1 pa1 wo1 ke1 nu1 le1 (nI (L + jLw xs))))
  refine rt_goto (tgt := 215) dX8_parseValue_89 (by decide) ?_
  refine rt_iload_n dX8_parseValue_215 rfl (j := 1) rfl ?_
  have hlw : jLw ((1, p, 0, [], none, c, xs.length + 1, false) :: xs) = jLw xs := by rw [jLw_cons]; show ((if (1 : Nat) = 3 then _ else 0) + 0) + jLw xs = jLw xs; rw [if_neg (by decide)]; omega
  have hln : V + ((1, p, 0, [], none, c, xs.length + 1, false) :: xs).length = V + 1 + xs.length := by rw [List.length_cons]; omega
  refine rt_iret dX8_parseValue_216 rfl ⟨rfl, k1, b1, nx1, fi1, pa1, wo1, ke1, nu1, le1, by rw [hlw, hln], fun i hi => ?_, ?_, g7, ?_⟩
  · have z := g1 i (by omega); have y := g2 i (by omega) (by omega)
    exact ⟨z.1.trans (pk_un (by omega)), z.2.1.trans (pk_un (by omega)), (g3 i (by omega) (fun e => nI_nm1 (by omega) e.symm)).trans (pk_un (by omega)), y.1.trans (pk_un (by omega)), y.2.trans (pk_un (by omega)), z.2.2.1, z.2.2.2.1, z.2.2.2.2⟩
  · exact (g1 V (by omega)).2.2.2.1
  · rw [hlw]; have z := g1 V (by omega)
    refine jRep.cons ⟨z.1.trans pk_us, z.2.1.trans pk_us, by rw [g5, Nat.zero_add], ?_, (g3 V (by omega) (fun e => nI_nm1 (by omega) e.symm)).trans pk_us, (fun e => absurd (show (1 : Nat) = 4 from e) (by decide)), (fun e => absurd (show (1 : Nat) = 3 from e) (by decide)), (fun _ e => nomatch e)⟩ g8
    rw [g4, if_pos rfl]; show nI (V + 1) = if c = 0 then -1 else nI (V + 1); rw [if_neg (by have := jGo_ok hN _ _ _ _ _ _ _ (jSk_le hN 4096 (p + 1) hpN) hge; omega)]
