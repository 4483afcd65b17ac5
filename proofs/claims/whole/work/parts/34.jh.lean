/-! ===== parseParts ===== -/
set_option maxRecDepth 100000 in
theorem j_pp1f {l : Launch} {s0 : State} {a0 : Array Value} {G : va_G} {ca : Nat → ClassId} (Γ : rt_Γ l s0 a0 G ca) {d : Nat} {w : rt_Wd} {t : Nat} {k : Nat → Int32} {b : Nat → Int32} {nx : Nat → Int32} {fi : Nat → Int32} {pa : Nat → Int32} {wo : Nat → Int32} {ke : Nat → Int32} {nu : Nat → Int64} {le : Nat → Int32} (hd : 1 ≤ d) {tp n : Nat} {f : Nat → Int32} {u : Int32} {g : Nat → Int32} (hT : rt_C s0 ca w tp n f u) (hn : n < 2 ^ 31) (htp : tp + 1 < t ∨ t + 18 ≤ tp) (hg : ∀ p : Nat, p < 65536 → cl_peek n f u (nI p) = g p) (hok : rt_ok w) {p V L N dp V0 : Nat} (hN : jT g N) (hp : p < N) (hdp : 24 ≤ dp) (h31 : dp < 2 ^ 31) : rt_Met l s0 G (.code yX8_parseParts cX8_parseParts 7 (Option.none : Option FieldType)) yX8_parseParts d [rt_r s0 t, .int (nI V0), .int 93, .int (nI dp)] (rt_bk w t (tx_L s0 ca t (rt_r s0 tp) (nI V) (nI p) (-1) k b nx fi pa wo ke nu le (nI L))) (fun r w1 => r = .inl none ∧ tx_B s0 ca w t tp p w1) := by
  refine rt_met Γ kk_X8_parseParts rfl (Nat.le_of_ble_eq_true rfl) rfl ?_
  refine rt_iload_n dX8_parseParts_0 rfl (j := 3) rfl ?_
  refine rt_bipush (v := 24) dX8_parseParts_1 (by decide) ?_
  refine rt_icmp_lt (tgt := 15) dX8_parseParts_3 (by decide) (fun c3 => absurd c3 (show ¬ nI dp < nI 24 from nI_nlt hdp (by omega))) (fun _ => ?_)
  refine rt_aload_n dX8_parseParts_6 rfl (j := 0) rfl ?_
  refine rt_aload_n dX8_parseParts_7 rfl (j := 0) rfl ?_
  refine rt_bGet Γ kf_RX8_67 dX8_parseParts_8 (L := (tx_L s0 ca t (rt_r s0 tp) (nI V) (nI p) (-1) k b nx fi pa wo ke nu le (nI L))) rfl rfl ?_
  refine rt_callV Γ kk_X8_fail kc_RX8_83 (c_X8_fail0 Γ (d := d - 1)) (by omega) (by decide) (As := [.int (nI p)]) (show (parseMethodDescriptor yX8_fail.desc).map (fun q => q.parameters.length) = some 1 by decide +kernel) hok (Nat.le_of_ble_eq_true rfl) dX8_parseParts_11 ((rt_bk_0 w t (tx_L s0 ca t (rt_r s0 tp) (nI V) (nI p) (-1) k b nx fi pa wo ke nu le (nI L)) (Nat.le_of_ble_eq_true rfl)).trans rfl) rfl rfl rfl (rt_kr (st2 := []) rfl ?_) rt_kx
  exact rt_vret dX8_parseParts_14 rfl (⟨rfl, _, _, _, _, _, _, _, _, _, _, _, _, rfl⟩)
set_option maxRecDepth 100000 in
theorem j_pp2f {l : Launch} {s0 : State} {a0 : Array Value} {G : va_G} {ca : Nat → ClassId} (Γ : rt_Γ l s0 a0 G ca) {d : Nat} {w : rt_Wd} {t : Nat} {k : Nat → Int32} {b : Nat → Int32} {nx : Nat → Int32} {fi : Nat → Int32} {pa : Nat → Int32} {wo : Nat → Int32} {ke : Nat → Int32} {nu : Nat → Int64} {le : Nat → Int32} (hd : 2 ≤ d) {tp n : Nat} {f : Nat → Int32} {u : Int32} {g : Nat → Int32} (hT : rt_C s0 ca w tp n f u) (hn : n < 2 ^ 31) (htp : tp + 1 < t ∨ t + 18 ≤ tp) (hg : ∀ p : Nat, p < 65536 → cl_peek n f u (nI p) = g p) (hok : rt_ok w) {p V L N dp V0 : Nat} (hN : jT g N) (hp : p < N) (hdp : dp < 24) (hc : g (jSk g 4096 (p + 1)) = 93) : rt_Met l s0 G (.code yX8_parseParts cX8_parseParts 7 (Option.none : Option FieldType)) yX8_parseParts d [rt_r s0 t, .int (nI V0), .int 93, .int (nI dp)] (rt_bk w t (tx_L s0 ca t (rt_r s0 tp) (nI V) (nI p) (-1) k b nx fi pa wo ke nu le (nI L))) (rt_is (.inl none) (rt_bk w t (tx_L s0 ca t (rt_r s0 tp) (nI V) (nI (jSk g 4096 (p + 1) + 1)) (-1) k b nx fi pa wo ke nu le (nI L)))) := by
  refine rt_met Γ kk_X8_parseParts rfl (Nat.le_of_ble_eq_true rfl) rfl ?_
  have hN0 := hN.1
  have hk := jSk_le hN 4096 (p + 1) hp
  have hk2 := jSk_ge (g := g) 4096 (p + 1)
  refine rt_iload_n dX8_parseParts_0 rfl (j := 3) rfl ?_
  refine rt_bipush (v := 24) dX8_parseParts_1 (by decide) ?_
  refine rt_icmp_lt (tgt := 15) dX8_parseParts_3 (by decide) (fun _ => ?_) (fun c3 => absurd (show nI dp < nI 24 from nI_lt hdp (by decide)) c3)
  refine rt_aload_n dX8_parseParts_15 rfl (j := 0) rfl ?_
  refine rt_dup dX8_parseParts_16 rfl ?_
  refine rt_bGet Γ kf_RX8_67 dX8_parseParts_17 (L := (tx_L s0 ca t (rt_r s0 tp) (nI V) (nI p) (-1) k b nx fi pa wo ke nu le (nI L))) rfl rfl ?_
  refine rt_iconst (v := 1) dX8_parseParts_20 (by decide) ?_
  refine rt_iadd dX8_parseParts_21 ?_
  refine rt_te (y := nI (p + 1)) (nI_1 _) ?_
  refine rt_bPut Γ kp_RX8_67 dX8_parseParts_22 (L := (tx_L s0 ca t (rt_r s0 tp) (nI V) (nI p) (-1) k b nx fi pa wo ke nu le (nI L))) rfl (Nat.le_of_ble_eq_true rfl) rfl rfl (L' := (tx_L s0 ca t (rt_r s0 tp) (nI V) (nI (p + 1)) (-1) k b nx fi pa wo ke nu le (nI L))) rfl ?_
  refine rt_aload_n dX8_parseParts_25 rfl (j := 0) rfl ?_
  refine rt_callV Γ kk_X8_skipBlanks kc_RX8_73 (j_skip Γ (d := d - 1) (by omega) hT hn htp hg hok (by omega)) (by omega) (by decide) (As := []) (show (parseMethodDescriptor yX8_skipBlanks.desc).map (fun q => q.parameters.length) = some 0 by decide +kernel) hok (Nat.le_of_ble_eq_true rfl) dX8_parseParts_26 ((rt_bk_0 w t (tx_L s0 ca t (rt_r s0 tp) (nI V) (nI (p + 1)) (-1) k b nx fi pa wo ke nu le (nI L)) (Nat.le_of_ble_eq_true rfl)).trans rfl) rfl rfl rfl (rt_kr (st2 := []) rfl ?_) rt_kx
  refine rt_aload_n dX8_parseParts_29 rfl (j := 0) rfl ?_
  refine rt_bGet Γ kf_RX8_57 dX8_parseParts_30 (L := (tx_L s0 ca t (rt_r s0 tp) (nI V) (nI (jSk g 4096 (p + 1))) (-1) k b nx fi pa wo ke nu le (nI L))) rfl rfl ?_
  refine rt_aload_n dX8_parseParts_33 rfl (j := 0) rfl ?_
  refine rt_bGet Γ kf_RX8_67 dX8_parseParts_34 (L := (tx_L s0 ca t (rt_r s0 tp) (nI V) (nI (jSk g 4096 (p + 1))) (-1) k b nx fi pa wo ke nu le (nI L))) rfl rfl ?_
  refine rt_callV Γ kk_X0_peek kc_RX8_86 (c_X0_peek Γ (d := d - 1) (x := (nI (jSk g 4096 (p + 1)))) (hT.bk htp) hn) (by omega) (by decide) (As := [.int (nI (jSk g 4096 (p + 1)))]) (show (parseMethodDescriptor yX0_peek.desc).map (fun q => q.parameters.length) = some 1 by decide +kernel) hok (Nat.le_of_ble_eq_true rfl) dX8_parseParts_37 (hT.bk htp).1 rfl rfl rfl (rt_kr (st2 := [.int (cl_peek n f u (nI (jSk g 4096 (p + 1))))]) rfl ?_) rt_kx
  refine rt_te (y := g (jSk g 4096 (p + 1))) (hg (jSk g 4096 (p + 1)) (by omega)) ?_
  refine rt_iload_n dX8_parseParts_40 rfl (j := 2) rfl ?_
  refine rt_icmp_ne (tgt := 55) dX8_parseParts_41 (by decide) (fun c41 => absurd c41 (fun c => c hc)) (fun _ => ?_)
  refine rt_aload_n dX8_parseParts_44 rfl (j := 0) rfl ?_
  refine rt_dup dX8_parseParts_45 rfl ?_
  refine rt_bGet Γ kf_RX8_67 dX8_parseParts_46 (L := (tx_L s0 ca t (rt_r s0 tp) (nI V) (nI (jSk g 4096 (p + 1))) (-1) k b nx fi pa wo ke nu le (nI L))) rfl rfl ?_
  refine rt_iconst (v := 1) dX8_parseParts_49 (by decide) ?_
  refine rt_iadd dX8_parseParts_50 ?_
  refine rt_te (y := nI (jSk g 4096 (p + 1) + 1)) (nI_1 _) ?_
  refine rt_bPut Γ kp_RX8_67 dX8_parseParts_51 (L := (tx_L s0 ca t (rt_r s0 tp) (nI V) (nI (jSk g 4096 (p + 1))) (-1) k b nx fi pa wo ke nu le (nI L))) rfl (Nat.le_of_ble_eq_true rfl) rfl rfl (L' := (tx_L s0 ca t (rt_r s0 tp) (nI V) (nI (jSk g 4096 (p + 1) + 1)) (-1) k b nx fi pa wo ke nu le (nI L))) rfl ?_
  exact rt_vret dX8_parseParts_54 rfl (⟨rfl, rfl⟩)
set_option maxRecDepth 100000 in
theorem j_pp3f {l : Launch} {s0 : State} {a0 : Array Value} {G : va_G} {ca : Nat → ClassId} (Γ : rt_Γ l s0 a0 G ca) {d : Nat} {w : rt_Wd} {t : Nat} {k : Nat → Int32} {b : Nat → Int32} {nx : Nat → Int32} {fi : Nat → Int32} {pa : Nat → Int32} {wo : Nat → Int32} {ke : Nat → Int32} {nu : Nat → Int64} {le : Nat → Int32} {Q : rt_Res → rt_Wd → Prop} {tp n : Nat} {f : Nat → Int32} {u : Int32} {g : Nat → Int32} (hT : rt_C s0 ca w tp n f u) (hn : n < 2 ^ 31) (htp : tp + 1 < t ∨ t + 18 ≤ tp) (hg : ∀ p : Nat, p < 65536 → cl_peek n f u (nI p) = g p) (hok : rt_ok w) {p V L N dp V0 : Nat} (hN : jT g N) (hp : p < N) (hd : 2 * (25 - dp) + 5 ≤ d) (hdp : dp < 24) (hc : ¬ g (jSk g 4096 (p + 1)) = 93) {m : Nat} (hIV : ∀ i : Nat, i < m → jIV l s0 G ca w t tp N g i) (hVp : V ≤ p + 1) (hLp : L ≤ p + 1) (hV0 : V0 < V) (hm : 2 * (N - (p + 1)) + 2 ≤ m) (hkd : k V0 = nI 2) (hpa : pa V0 = nI 0) (hfi : fi V0 = -1) (kE : ∀ e : Nat, jGo g m (some (false, [])) dp (jSk g 4096 (p + 1)) = .error e → ∀ w1 : rt_Wd, tx_B s0 ca w t tp e w1 → Q (.inl none) w1) (kO : ∀ (xs : List JR) (c q : Nat), jGo g m (some (false, [])) dp (jSk g 4096 (p + 1)) = .ok (xs, c, q) → ∀ w1 : rt_Wd, jPO s0 ca w t tp V0 V L q 0 c (-1) k b nx fi pa wo ke nu le xs (.inl none) w1 → Q (.inl none) w1) : rt_Met l s0 G (.code yX8_parseParts cX8_parseParts 7 (Option.none : Option FieldType)) yX8_parseParts d [rt_r s0 t, .int (nI V0), .int 93, .int (nI dp)] (rt_bk w t (tx_L s0 ca t (rt_r s0 tp) (nI V) (nI p) (-1) k b nx fi pa wo ke nu le (nI L))) Q := by
  refine rt_met Γ kk_X8_parseParts rfl (Nat.le_of_ble_eq_true rfl) rfl ?_
  have hN0 := hN.1
  have hk := jSk_le hN 4096 (p + 1) hp
  have hk2 := jSk_ge (g := g) 4096 (p + 1)
  refine rt_iload_n dX8_parseParts_0 rfl (j := 3) rfl ?_
  refine rt_bipush (v := 24) dX8_parseParts_1 (by decide) ?_
  refine rt_icmp_lt (tgt := 15) dX8_parseParts_3 (by decide) (fun _ => ?_) (fun c3 => absurd (show nI dp < nI 24 from nI_lt hdp (by decide)) c3)
  refine rt_aload_n dX8_parseParts_15 rfl (j := 0) rfl ?_
  refine rt_dup dX8_parseParts_16 rfl ?_
  refine rt_bGet Γ kf_RX8_67 dX8_parseParts_17 (L := (tx_L s0 ca t (rt_r s0 tp) (nI V) (nI p) (-1) k b nx fi pa wo ke nu le (nI L))) rfl rfl ?_
  refine rt_iconst (v := 1) dX8_parseParts_20 (by decide) ?_
  refine rt_iadd dX8_parseParts_21 ?_
  refine rt_te (y := nI (p + 1)) (nI_1 _) ?_
  refine rt_bPut Γ kp_RX8_67 dX8_parseParts_22 (L := (tx_L s0 ca t (rt_r s0 tp) (nI V) (nI p) (-1) k b nx fi pa wo ke nu le (nI L))) rfl (Nat.le_of_ble_eq_true rfl) rfl rfl (L' := (tx_L s0 ca t (rt_r s0 tp) (nI V) (nI (p + 1)) (-1) k b nx fi pa wo ke nu le (nI L))) rfl ?_
  refine rt_aload_n dX8_parseParts_25 rfl (j := 0) rfl ?_
  refine rt_callV Γ kk_X8_skipBlanks kc_RX8_73 (j_skip Γ (d := d - 1) (by omega) hT hn htp hg hok (by omega)) (by omega) (by decide) (As := []) (show (parseMethodDescriptor yX8_skipBlanks.desc).map (fun q => q.parameters.length) = some 0 by decide +kernel) hok (Nat.le_of_ble_eq_true rfl) dX8_parseParts_26 ((rt_bk_0 w t (tx_L s0 ca t (rt_r s0 tp) (nI V) (nI (p + 1)) (-1) k b nx fi pa wo ke nu le (nI L)) (Nat.le_of_ble_eq_true rfl)).trans rfl) rfl rfl rfl (rt_kr (st2 := []) rfl ?_) rt_kx
  refine rt_aload_n dX8_parseParts_29 rfl (j := 0) rfl ?_
  refine rt_bGet Γ kf_RX8_57 dX8_parseParts_30 (L := (tx_L s0 ca t (rt_r s0 tp) (nI V) (nI (jSk g 4096 (p + 1))) (-1) k b nx fi pa wo ke nu le (nI L))) rfl rfl ?_
  refine rt_aload_n dX8_parseParts_33 rfl (j := 0) rfl ?_
  refine rt_bGet Γ kf_RX8_67 dX8_parseParts_34 (L := (tx_L s0 ca t (rt_r s0 tp) (nI V) (nI (jSk g 4096 (p + 1))) (-1) k b nx fi pa wo ke nu le (nI L))) rfl rfl ?_
  refine rt_callV Γ kk_X0_peek kc_RX8_86 (c_X0_peek Γ (d := d - 1) (x := (nI (jSk g 4096 (p + 1)))) (hT.bk htp) hn) (by omega) (by decide) (As := [.int (nI (jSk g 4096 (p + 1)))]) (show (parseMethodDescriptor yX0_peek.desc).map (fun q => q.parameters.length) = some 1 by decide +kernel) hok (Nat.le_of_ble_eq_true rfl) dX8_parseParts_37 (hT.bk htp).1 rfl rfl rfl (rt_kr (st2 := [.int (cl_peek n f u (nI (jSk g 4096 (p + 1))))]) rfl ?_) rt_kx
  refine rt_te (y := g (jSk g 4096 (p + 1))) (hg (jSk g 4096 (p + 1)) (by omega)) ?_
  refine rt_iload_n dX8_parseParts_40 rfl (j := 2) rfl ?_
  refine rt_icmp_ne (tgt := 55) dX8_parseParts_41 (by decide) (fun _ => ?_) (fun c41 => absurd c41 hc)
  refine rt_iconst (v := (-1)) dX8_parseParts_55 (by decide) ?_
  refine rt_istore (lv' := [(4, .int (-1)), (0, rt_r s0 t), (1, .int (nI V0)), (2, .int 93), (3, .int (nI dp))]) dX8_parseParts_56 (by decide) rfl ?_
  refine rt_iconst (v := 0) dX8_parseParts_58 (by decide) ?_
  refine rt_istore (lv' := [(5, .int 0), (4, .int (-1)), (0, rt_r s0 t), (1, .int (nI V0)), (2, .int 93), (3, .int (nI dp))]) dX8_parseParts_59 (by decide) rfl ?_
  exact rt_lfew [0, 1, 5, 4, 3, 2] rfl (j_ppLf Γ hT hn htp hg hok hN hd hdp m hIV [] [] (jSk g 4096 (p + 1)) V L 0 k b nx fi pa wo ke nu le hk (by omega) (by omega) hV0 (by omega) (by omega) hkd hpa hfi trivial kE kO)
set_option maxRecDepth 100000 in
theorem j_pp1t {l : Launch} {s0 : State} {a0 : Array Value} {G : va_G} {ca : Nat → ClassId} (Γ : rt_Γ l s0 a0 G ca) {d : Nat} {w : rt_Wd} {t : Nat} {k : Nat → Int32} {b : Nat → Int32} {nx : Nat → Int32} {fi : Nat → Int32} {pa : Nat → Int32} {wo : Nat → Int32} {ke : Nat → Int32} {nu : Nat → Int64} {le : Nat → Int32} (hd : 1 ≤ d) {tp n : Nat} {f : Nat → Int32} {u : Int32} {g : Nat → Int32} (hT : rt_C s0 ca w tp n f u) (hn : n < 2 ^ 31) (htp : tp + 1 < t ∨ t + 18 ≤ tp) (hg : ∀ p : Nat, p < 65536 → cl_peek n f u (nI p) = g p) (hok : rt_ok w) {p V L N dp V0 : Nat} (hN : jT g N) (hp : p < N) (hdp : 24 ≤ dp) (h31 : dp < 2 ^ 31) : rt_Met l s0 G (.code yX8_parseParts cX8_parseParts 7 (Option.none : Option FieldType)) yX8_parseParts d [rt_r s0 t, .int (nI V0), .int 125, .int (nI dp)] (rt_bk w t (tx_L s0 ca t (rt_r s0 tp) (nI V) (nI p) (-1) k b nx fi pa wo ke nu le (nI L))) (fun r w1 => r = .inl none ∧ tx_B s0 ca w t tp p w1) := by
  refine rt_met Γ kk_X8_parseParts rfl (Nat.le_of_ble_eq_true rfl) rfl ?_
  refine rt_iload_n dX8_parseParts_0 rfl (j := 3) rfl ?_
  refine rt_bipush (v := 24) dX8_parseParts_1 (by decide) ?_
  refine rt_icmp_lt (tgt := 15) dX8_parseParts_3 (by decide) (fun c3 => absurd c3 (show ¬ nI dp < nI 24 from nI_nlt hdp (by omega))) (fun _ => ?_)
  refine rt_aload_n dX8_parseParts_6 rfl (j := 0) rfl ?_
  refine rt_aload_n dX8_parseParts_7 rfl (j := 0) rfl ?_
  refine rt_bGet Γ kf_RX8_67 dX8_parseParts_8 (L := (tx_L s0 ca t (rt_r s0 tp) (nI V) (nI p) (-1) k b nx fi pa wo ke nu le (nI L))) rfl rfl ?_
  refine rt_callV Γ kk_X8_fail kc_RX8_83 (c_X8_fail0 Γ (d := d - 1)) (by omega) (by decide) (As := [.int (nI p)]) (show (parseMethodDescriptor yX8_fail.desc).map (fun q => q.parameters.length) = some 1 by decide +kernel) hok (Nat.le_of_ble_eq_true rfl) dX8_parseParts_11 ((rt_bk_0 w t (tx_L s0 ca t (rt_r s0 tp) (nI V) (nI p) (-1) k b nx fi pa wo ke nu le (nI L)) (Nat.le_of_ble_eq_true rfl)).trans rfl) rfl rfl rfl (rt_kr (st2 := []) rfl ?_) rt_kx
  exact rt_vret dX8_parseParts_14 rfl (⟨rfl, _, _, _, _, _, _, _, _, _, _, _, _, rfl⟩)
set_option maxRecDepth 100000 in
theorem j_pp2t {l : Launch} {s0 : State} {a0 : Array Value} {G : va_G} {ca : Nat → ClassId} (Γ : rt_Γ l s0 a0 G ca) {d : Nat} {w : rt_Wd} {t : Nat} {k : Nat → Int32} {b : Nat → Int32} {nx : Nat → Int32} {fi : Nat → Int32} {pa : Nat → Int32} {wo : Nat → Int32} {ke : Nat → Int32} {nu : Nat → Int64} {le : Nat → Int32} (hd : 2 ≤ d) {tp n : Nat} {f : Nat → Int32} {u : Int32} {g : Nat → Int32} (hT : rt_C s0 ca w tp n f u) (hn : n < 2 ^ 31) (htp : tp + 1 < t ∨ t + 18 ≤ tp) (hg : ∀ p : Nat, p < 65536 → cl_peek n f u (nI p) = g p) (hok : rt_ok w) {p V L N dp V0 : Nat} (hN : jT g N) (hp : p < N) (hdp : dp < 24) (hc : g (jSk g 4096 (p + 1)) = 125) : rt_Met l s0 G (.code yX8_parseParts cX8_parseParts 7 (Option.none : Option FieldType)) yX8_parseParts d [rt_r s0 t, .int (nI V0), .int 125, .int (nI dp)] (rt_bk w t (tx_L s0 ca t (rt_r s0 tp) (nI V) (nI p) (-1) k b nx fi pa wo ke nu le (nI L))) (rt_is (.inl none) (rt_bk w t (tx_L s0 ca t (rt_r s0 tp) (nI V) (nI (jSk g 4096 (p + 1) + 1)) (-1) k b nx fi pa wo ke nu le (nI L)))) := by
  refine rt_met Γ kk_X8_parseParts rfl (Nat.le_of_ble_eq_true rfl) rfl ?_
  have hN0 := hN.1
  have hk := jSk_le hN 4096 (p + 1) hp
  have hk2 := jSk_ge (g := g) 4096 (p + 1)
  refine rt_iload_n dX8_parseParts_0 rfl (j := 3) rfl ?_
  refine rt_bipush (v := 24) dX8_parseParts_1 (by decide) ?_
  refine rt_icmp_lt (tgt := 15) dX8_parseParts_3 (by decide) (fun _ => ?_) (fun c3 => absurd (show nI dp < nI 24 from nI_lt hdp (by decide)) c3)
  refine rt_aload_n dX8_parseParts_15 rfl (j := 0) rfl ?_
  refine rt_dup dX8_parseParts_16 rfl ?_
  refine rt_bGet Γ kf_RX8_67 dX8_parseParts_17 (L := (tx_L s0 ca t (rt_r s0 tp) (nI V) (nI p) (-1) k b nx fi pa wo ke nu le (nI L))) rfl rfl ?_
  refine rt_iconst (v := 1) dX8_parseParts_20 (by decide) ?_
  refine rt_iadd dX8_parseParts_21 ?_
  refine rt_te (y := nI (p + 1)) (nI_1 _) ?_
  refine rt_bPut Γ kp_RX8_67 dX8_parseParts_22 (L := (tx_L s0 ca t (rt_r s0 tp) (nI V) (nI p) (-1) k b nx fi pa wo ke nu le (nI L))) rfl (Nat.le_of_ble_eq_true rfl) rfl rfl (L' := (tx_L s0 ca t (rt_r s0 tp) (nI V) (nI (p + 1)) (-1) k b nx fi pa wo ke nu le (nI L))) rfl ?_
  refine rt_aload_n dX8_parseParts_25 rfl (j := 0) rfl ?_
  refine rt_callV Γ kk_X8_skipBlanks kc_RX8_73 (j_skip Γ (d := d - 1) (by omega) hT hn htp hg hok (by omega)) (by omega) (by decide) (As := []) (show (parseMethodDescriptor yX8_skipBlanks.desc).map (fun q => q.parameters.length) = some 0 by decide +kernel) hok (Nat.le_of_ble_eq_true rfl) dX8_parseParts_26 ((rt_bk_0 w t (tx_L s0 ca t (rt_r s0 tp) (nI V) (nI (p + 1)) (-1) k b nx fi pa wo ke nu le (nI L)) (Nat.le_of_ble_eq_true rfl)).trans rfl) rfl rfl rfl (rt_kr (st2 := []) rfl ?_) rt_kx
  refine rt_aload_n dX8_parseParts_29 rfl (j := 0) rfl ?_
  refine rt_bGet Γ kf_RX8_57 dX8_parseParts_30 (L := (tx_L s0 ca t (rt_r s0 tp) (nI V) (nI (jSk g 4096 (p + 1))) (-1) k b nx fi pa wo ke nu le (nI L))) rfl rfl ?_
  refine rt_aload_n dX8_parseParts_33 rfl (j := 0) rfl ?_
  refine rt_bGet Γ kf_RX8_67 dX8_parseParts_34 (L := (tx_L s0 ca t (rt_r s0 tp) (nI V) (nI (jSk g 4096 (p + 1))) (-1) k b nx fi pa wo ke nu le (nI L))) rfl rfl ?_
  refine rt_callV Γ kk_X0_peek kc_RX8_86 (c_X0_peek Γ (d := d - 1) (x := (nI (jSk g 4096 (p + 1)))) (hT.bk htp) hn) (by omega) (by decide) (As := [.int (nI (jSk g 4096 (p + 1)))]) (show (parseMethodDescriptor yX0_peek.desc).map (fun q => q.parameters.length) = some 1 by decide +kernel) hok (Nat.le_of_ble_eq_true rfl) dX8_parseParts_37 (hT.bk htp).1 rfl rfl rfl (rt_kr (st2 := [.int (cl_peek n f u (nI (jSk g 4096 (p + 1))))]) rfl ?_) rt_kx
  refine rt_te (y := g (jSk g 4096 (p + 1))) (hg (jSk g 4096 (p + 1)) (by omega)) ?_
  refine rt_iload_n dX8_parseParts_40 rfl (j := 2) rfl ?_
  refine rt_icmp_ne (tgt := 55) dX8_parseParts_41 (by decide) (fun c41 => absurd c41 (fun c => c hc)) (fun _ => ?_)
  refine rt_aload_n dX8_parseParts_44 rfl (j := 0) rfl ?_
  refine rt_dup dX8_parseParts_45 rfl ?_
  refine rt_bGet Γ kf_RX8_67 dX8_parseParts_46 (L := (tx_L s0 ca t (rt_r s0 tp) (nI V) (nI (jSk g 4096 (p + 1))) (-1) k b nx fi pa wo ke nu le (nI L))) rfl rfl ?_
  refine rt_iconst (v := 1) dX8_parseParts_49 (by decide) ?_
  refine rt_iadd dX8_parseParts_50 ?_
  refine rt_te (y := nI (jSk g 4096 (p + 1) + 1)) (nI_1 _) ?_
  refine rt_bPut Γ kp_RX8_67 dX8_parseParts_51 (L := (tx_L s0 ca t (rt_r s0 tp) (nI V) (nI (jSk g 4096 (p + 1))) (-1) k b nx fi pa wo ke nu le (nI L))) rfl (Nat.le_of_ble_eq_true rfl) rfl rfl (L' := (tx_L s0 ca t (rt_r s0 tp) (nI V) (nI (jSk g 4096 (p + 1) + 1)) (-1) k b nx fi pa wo ke nu le (nI L))) rfl ?_
  exact rt_vret dX8_parseParts_54 rfl (⟨rfl, rfl⟩)
set_option maxRecDepth 100000 in
theorem j_pp3t {l : Launch} {s0 : State} {a0 : Array Value} {G : va_G} {ca : Nat → ClassId} (Γ : rt_Γ l s0 a0 G ca) {d : Nat} {w : rt_Wd} {t : Nat} {k : Nat → Int32} {b : Nat → Int32} {nx : Nat → Int32} {fi : Nat → Int32} {pa : Nat → Int32} {wo : Nat → Int32} {ke : Nat → Int32} {nu : Nat → Int64} {le : Nat → Int32} {Q : rt_Res → rt_Wd → Prop} {tp n : Nat} {f : Nat → Int32} {u : Int32} {g : Nat → Int32} (hT : rt_C s0 ca w tp n f u) (hn : n < 2 ^ 31) (htp : tp + 1 < t ∨ t + 18 ≤ tp) (hg : ∀ p : Nat, p < 65536 → cl_peek n f u (nI p) = g p) (hok : rt_ok w) {p V L N dp V0 : Nat} (hN : jT g N) (hp : p < N) (hd : 2 * (25 - dp) + 5 ≤ d) (hdp : dp < 24) (hc : ¬ g (jSk g 4096 (p + 1)) = 125) {m : Nat} (hIV : ∀ i : Nat, i < m → jIV l s0 G ca w t tp N g i) (hVp : V ≤ p + 1) (hLp : L ≤ p + 1) (hV0 : V0 < V) (hm : 2 * (N - (p + 1)) + 2 ≤ m) (hkd : k V0 = nI 1) (hpa : pa V0 = nI 0) (hfi : fi V0 = -1) (kE : ∀ e : Nat, jGo g m (some (true, [])) dp (jSk g 4096 (p + 1)) = .error e → ∀ w1 : rt_Wd, tx_B s0 ca w t tp e w1 → Q (.inl none) w1) (kO : ∀ (xs : List JR) (c q : Nat), jGo g m (some (true, [])) dp (jSk g 4096 (p + 1)) = .ok (xs, c, q) → ∀ w1 : rt_Wd, jPO s0 ca w t tp V0 V L q 0 c (-1) k b nx fi pa wo ke nu le xs (.inl none) w1 → Q (.inl none) w1) : rt_Met l s0 G (.code yX8_parseParts cX8_parseParts 7 (Option.none : Option FieldType)) yX8_parseParts d [rt_r s0 t, .int (nI V0), .int 125, .int (nI dp)] (rt_bk w t (tx_L s0 ca t (rt_r s0 tp) (nI V) (nI p) (-1) k b nx fi pa wo ke nu le (nI L))) Q := by
  refine rt_met Γ kk_X8_parseParts rfl (Nat.le_of_ble_eq_true rfl) rfl ?_
  have hN0 := hN.1
  have hk := jSk_le hN 4096 (p + 1) hp
  have hk2 := jSk_ge (g := g) 4096 (p + 1)
  refine rt_iload_n dX8_parseParts_0 rfl (j := 3) rfl ?_
  refine rt_bipush (v := 24) dX8_parseParts_1 (by decide) ?_
  refine rt_icmp_lt (tgt := 15) dX8_parseParts_3 (by decide) (fun _ => ?_) (fun c3 => absurd (show nI dp < nI 24 from nI_lt hdp (by decide)) c3)
  refine rt_aload_n dX8_parseParts_15 rfl (j := 0) rfl ?_
  refine rt_dup dX8_parseParts_16 rfl ?_
  refine rt_bGet Γ kf_RX8_67 dX8_parseParts_17 (L := (tx_L s0 ca t (rt_r s0 tp) (nI V) (nI p) (-1) k b nx fi pa wo ke nu le (nI L))) rfl rfl ?_
  refine rt_iconst (v := 1) dX8_parseParts_20 (by decide) ?_
  refine rt_iadd dX8_parseParts_21 ?_
  refine rt_te (y := nI (p + 1)) (nI_1 _) ?_
  refine rt_bPut Γ kp_RX8_67 dX8_parseParts_22 (L := (tx_L s0 ca t (rt_r s0 tp) (nI V) (nI p) (-1) k b nx fi pa wo ke nu le (nI L))) rfl (Nat.le_of_ble_eq_true rfl) rfl rfl (L' := (tx_L s0 ca t (rt_r s0 tp) (nI V) (nI (p + 1)) (-1) k b nx fi pa wo ke nu le (nI L))) rfl ?_
  refine rt_aload_n dX8_parseParts_25 rfl (j := 0) rfl ?_
  refine rt_callV Γ kk_X8_skipBlanks kc_RX8_73 (j_skip Γ (d := d - 1) (by omega) hT hn htp hg hok (by omega)) (by omega) (by decide) (As := []) (show (parseMethodDescriptor yX8_skipBlanks.desc).map (fun q => q.parameters.length) = some 0 by decide +kernel) hok (Nat.le_of_ble_eq_true rfl) dX8_parseParts_26 ((rt_bk_0 w t (tx_L s0 ca t (rt_r s0 tp) (nI V) (nI (p + 1)) (-1) k b nx fi pa wo ke nu le (nI L)) (Nat.le_of_ble_eq_true rfl)).trans rfl) rfl rfl rfl (rt_kr (st2 := []) rfl ?_) rt_kx
  refine rt_aload_n dX8_parseParts_29 rfl (j := 0) rfl ?_
  refine rt_bGet Γ kf_RX8_57 dX8_parseParts_30 (L := (tx_L s0 ca t (rt_r s0 tp) (nI V) (nI (jSk g 4096 (p + 1))) (-1) k b nx fi pa wo ke nu le (nI L))) rfl rfl ?_
  refine rt_aload_n dX8_parseParts_33 rfl (j := 0) rfl ?_
  refine rt_bGet Γ kf_RX8_67 dX8_parseParts_34 (L := (tx_L s0 ca t (rt_r s0 tp) (nI V) (nI (jSk g 4096 (p + 1))) (-1) k b nx fi pa wo ke nu le (nI L))) rfl rfl ?_
  refine rt_callV Γ kk_X0_peek kc_RX8_86 (c_X0_peek Γ (d := d - 1) (x := (nI (jSk g 4096 (p + 1)))) (hT.bk htp) hn) (by omega) (by decide) (As := [.int (nI (jSk g 4096 (p + 1)))]) (show (parseMethodDescriptor yX0_peek.desc).map (fun q => q.parameters.length) = some 1 by decide +kernel) hok (Nat.le_of_ble_eq_true rfl) dX8_parseParts_37 (hT.bk htp).1 rfl rfl rfl (rt_kr (st2 := [.int (cl_peek n f u (nI (jSk g 4096 (p + 1))))]) rfl ?_) rt_kx
  refine rt_te (y := g (jSk g 4096 (p + 1))) (hg (jSk g 4096 (p + 1)) (by omega)) ?_
  refine rt_iload_n dX8_parseParts_40 rfl (j := 2) rfl ?_
  refine rt_icmp_ne (tgt := 55) dX8_parseParts_41 (by decide) (fun _ => ?_) (fun c41 => absurd c41 hc)
  refine rt_iconst (v := (-1)) dX8_parseParts_55 (by decide) ?_
  refine rt_istore (lv' := [(4, .int (-1)), (0, rt_r s0 t), (1, .int (nI V0)), (2, .int 125), (3, .int (nI dp))]) dX8_parseParts_56 (by decide) rfl ?_
  refine rt_iconst (v := 0) dX8_parseParts_58 (by decide) ?_
  refine rt_istore (lv' := [(5, .int 0), (4, .int (-1)), (0, rt_r s0 t), (1, .int (nI V0)), (2, .int 125), (3, .int (nI dp))]) dX8_parseParts_59 (by decide) rfl ?_
  exact rt_lfew [0, 1, 5, 4, 3, 2] rfl (j_ppLt Γ hT hn htp hg hok hN hd hdp m hIV [] [] (jSk g 4096 (p + 1)) V L 0 k b nx fi pa wo ke nu le hk (by omega) (by omega) hV0 (by omega) (by omega) hkd hpa hfi trivial rfl (by intro q hq; exact nomatch hq) kE kO)
