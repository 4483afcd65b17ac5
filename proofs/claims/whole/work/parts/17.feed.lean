/-! ===== feed; what load, read, all, fits throw ===== -/
/-- a number's byte at a shift -/
def cl_b (x s : Int32) : Int32 := (x.toUInt32 >>> (s.toUInt32 &&& Int32.toUInt32 31)).toInt32 &&& 255
def cl_f4 (f : Nat → Int32) (k : Nat) (x : Int32) : Nat → Int32 := upd (upd (upd (upd f k (cl_b x 24)) (k + 1) (cl_b x 16)) (k + 2) (cl_b x 8)) (k + 3) (cl_b x 0)
def cl_f20 (f : Nat → Int32) (k : Nat) (a b c d e : Int32) : Nat → Int32 := cl_f4 (cl_f4 (cl_f4 (cl_f4 (cl_f4 f k a) (k + 4) b) (k + 8) c) (k + 12) d) (k + 16) e
theorem vp_in8 {p : Int32} (h0 : ¬ p < 0) (h1 : p < 8) : vp_in p 8 := vp_in_of' (n := 8) (by decide) h0 (Int32.not_le.mpr h1)
set_option maxRecDepth 100000 in
theorem c_X9_feedOne {l : Launch} {s0 : State} {a0 : Array Value} {G : va_G} {ca : Nat → ClassId} (Γ : rt_Γ l s0 a0 G ca) {d : Nat} {w : rt_Wd} (hd : 1 ≤ d) (hok : rt_ok w) {x tp op kp tx dr lk tl ft cu sp : Nat} {rp fp : Int32} (hX : w.2.2 x = some (.inr (9, [rt_r s0 tp, rt_r s0 op, rt_r s0 kp, rt_r s0 tx, rt_r s0 dr, rt_r s0 lk, rt_r s0 tl, rt_r s0 ft, rt_r s0 cu, rt_r s0 sp, .int rp, .int fp]))) {n k : Nat} {f : Nat → Int32} (hC : rt_C s0 ca w tp n f (nI k)) (hn : n < 2 ^ 31) (h1 : x ≠ tp) (h2 : x ≠ tp + 1) {v : Int32} (hk : k + 4 ≤ n) : rt_Met l s0 G (.code yX9_feedOne cX9_feedOne 3 (Option.none : Option FieldType)) yX9_feedOne d [rt_r s0 x, .int v] w (rt_is (.inl none) (rt_cs s0 ca w tp n (cl_f4 f k v) (nI (k + 4)))) := by
  refine rt_met Γ kk_X9_feedOne rfl (Nat.le_of_ble_eq_true rfl) rfl ?_
  refine rt_bipush (v := 24) dX9_feedOne_0 (by decide) ?_
  refine rt_istore_n (lv' := [(2, .int 24), (0, rt_r s0 x), (1, .int v)]) dX9_feedOne_2 rfl (by decide) rfl ?_
  refine rt_iload_n dX9_feedOne_3 rfl (j := 0) rfl ?_
  have hC0 := hC
  have hX0 := hX
  refine rt_if_lt (tgt := 28) dX9_feedOne_4 (by decide) (fun c4 => absurd c4 (by decide)) (fun _ => ?_)
  refine rt_aload_n dX9_feedOne_7 rfl (j := 1) rfl ?_
  refine rt_get Γ kf_RX9_14 dX9_feedOne_8 hX0 rfl ?_
  refine rt_iload_n dX9_feedOne_11 rfl (j := 2) rfl ?_
  refine rt_iload_n dX9_feedOne_12 rfl (j := 0) rfl ?_
  refine rt_iushr dX9_feedOne_13 rfl ?_
  refine rt_sipush (v := 255) dX9_feedOne_14 (by decide) ?_
  refine rt_iand dX9_feedOne_17 ?_
  show rt_Go l s0 G _ _ _ _ _ _ _ _ _ _ _ (.int (cl_b v 24) :: _) _
  refine rt_callV Γ kk_X0_add kc_RX9_154 (c_X0_add Γ (d := d - 1) hC0 hn (by omega)) (by omega) (by decide) (As := [.int (cl_b v 24)]) (show (parseMethodDescriptor yX0_add.desc).map (fun q => q.parameters.length) = some 1 by decide +kernel) hok (Nat.le_of_ble_eq_true rfl) dX9_feedOne_18 hC0.1 rfl rfl rfl (rt_kr (st2 := [.int 1]) rfl ?_) rt_kx
  have hC1 := rt_cs_C s0 ca w tp n (upd f k (cl_b v 24)) (nI (k + 1))
  have hX1 : (rt_cs s0 ca w tp n (upd f k (cl_b v 24)) (nI (k + 1))).2.2 x = _ := (rt_cs_n h1 h2).trans hX
  refine rt_pop dX9_feedOne_21 rfl ?_
  refine rt_iinc (v := 16) (lv' := [(2, .int 16), (0, rt_r s0 x), (1, .int v)]) dX9_feedOne_22 (j := 0) rfl (by decide) (by decide) rfl ?_
  refine rt_goto (tgt := 3) dX9_feedOne_25 (by decide) ?_
  refine rt_iload_n dX9_feedOne_3 rfl (j := 0) rfl ?_
  refine rt_if_lt (tgt := 28) dX9_feedOne_4 (by decide) (fun c4 => absurd c4 (by decide)) (fun _ => ?_)
  refine rt_aload_n dX9_feedOne_7 rfl (j := 1) rfl ?_
  refine rt_get Γ kf_RX9_14 dX9_feedOne_8 hX1 rfl ?_
  refine rt_iload_n dX9_feedOne_11 rfl (j := 2) rfl ?_
  refine rt_iload_n dX9_feedOne_12 rfl (j := 0) rfl ?_
  refine rt_iushr dX9_feedOne_13 rfl ?_
  refine rt_sipush (v := 255) dX9_feedOne_14 (by decide) ?_
  refine rt_iand dX9_feedOne_17 ?_
  show rt_Go l s0 G _ _ _ _ _ _ _ _ _ _ _ (.int (cl_b v 16) :: _) _
  refine rt_callV Γ kk_X0_add kc_RX9_154 (c_X0_add Γ (d := d - 1) hC1 hn (by omega)) (by omega) (by decide) (As := [.int (cl_b v 16)]) (show (parseMethodDescriptor yX0_add.desc).map (fun q => q.parameters.length) = some 1 by decide +kernel) hok (Nat.le_of_ble_eq_true rfl) dX9_feedOne_18 hC1.1 rfl rfl rfl (rt_kr (st2 := [.int 1]) rfl ?_) rt_kx
  rw [rt_cs_cs]
  have hC2 := rt_cs_C s0 ca w tp n (upd (upd f k (cl_b v 24)) (k + 1) (cl_b v 16)) (nI (k + 2))
  have hX2 : (rt_cs s0 ca w tp n (upd (upd f k (cl_b v 24)) (k + 1) (cl_b v 16)) (nI (k + 2))).2.2 x = _ := (rt_cs_n h1 h2).trans hX
  refine rt_pop dX9_feedOne_21 rfl ?_
  refine rt_iinc (v := 8) (lv' := [(2, .int 8), (0, rt_r s0 x), (1, .int v)]) dX9_feedOne_22 (j := 0) rfl (by decide) (by decide) rfl ?_
  refine rt_goto (tgt := 3) dX9_feedOne_25 (by decide) ?_
  refine rt_iload_n dX9_feedOne_3 rfl (j := 0) rfl ?_
  refine rt_if_lt (tgt := 28) dX9_feedOne_4 (by decide) (fun c4 => absurd c4 (by decide)) (fun _ => ?_)
  refine rt_aload_n dX9_feedOne_7 rfl (j := 1) rfl ?_
  refine rt_get Γ kf_RX9_14 dX9_feedOne_8 hX2 rfl ?_
  refine rt_iload_n dX9_feedOne_11 rfl (j := 2) rfl ?_
  refine rt_iload_n dX9_feedOne_12 rfl (j := 0) rfl ?_
  refine rt_iushr dX9_feedOne_13 rfl ?_
  refine rt_sipush (v := 255) dX9_feedOne_14 (by decide) ?_
  refine rt_iand dX9_feedOne_17 ?_
  show rt_Go l s0 G _ _ _ _ _ _ _ _ _ _ _ (.int (cl_b v 8) :: _) _
  refine rt_callV Γ kk_X0_add kc_RX9_154 (c_X0_add Γ (d := d - 1) hC2 hn (by omega)) (by omega) (by decide) (As := [.int (cl_b v 8)]) (show (parseMethodDescriptor yX0_add.desc).map (fun q => q.parameters.length) = some 1 by decide +kernel) hok (Nat.le_of_ble_eq_true rfl) dX9_feedOne_18 hC2.1 rfl rfl rfl (rt_kr (st2 := [.int 1]) rfl ?_) rt_kx
  rw [rt_cs_cs]
  have hC3 := rt_cs_C s0 ca w tp n (upd (upd (upd f k (cl_b v 24)) (k + 1) (cl_b v 16)) (k + 2) (cl_b v 8)) (nI (k + 3))
  have hX3 : (rt_cs s0 ca w tp n (upd (upd (upd f k (cl_b v 24)) (k + 1) (cl_b v 16)) (k + 2) (cl_b v 8)) (nI (k + 3))).2.2 x = _ := (rt_cs_n h1 h2).trans hX
  refine rt_pop dX9_feedOne_21 rfl ?_
  refine rt_iinc (v := 0) (lv' := [(2, .int 0), (0, rt_r s0 x), (1, .int v)]) dX9_feedOne_22 (j := 0) rfl (by decide) (by decide) rfl ?_
  refine rt_goto (tgt := 3) dX9_feedOne_25 (by decide) ?_
  refine rt_iload_n dX9_feedOne_3 rfl (j := 0) rfl ?_
  refine rt_if_lt (tgt := 28) dX9_feedOne_4 (by decide) (fun c4 => absurd c4 (by decide)) (fun _ => ?_)
  refine rt_aload_n dX9_feedOne_7 rfl (j := 1) rfl ?_
  refine rt_get Γ kf_RX9_14 dX9_feedOne_8 hX3 rfl ?_
  refine rt_iload_n dX9_feedOne_11 rfl (j := 2) rfl ?_
  refine rt_iload_n dX9_feedOne_12 rfl (j := 0) rfl ?_
  refine rt_iushr dX9_feedOne_13 rfl ?_
  refine rt_sipush (v := 255) dX9_feedOne_14 (by decide) ?_
  refine rt_iand dX9_feedOne_17 ?_
  show rt_Go l s0 G _ _ _ _ _ _ _ _ _ _ _ (.int (cl_b v 0) :: _) _
  refine rt_callV Γ kk_X0_add kc_RX9_154 (c_X0_add Γ (d := d - 1) hC3 hn (by omega)) (by omega) (by decide) (As := [.int (cl_b v 0)]) (show (parseMethodDescriptor yX0_add.desc).map (fun q => q.parameters.length) = some 1 by decide +kernel) hok (Nat.le_of_ble_eq_true rfl) dX9_feedOne_18 hC3.1 rfl rfl rfl (rt_kr (st2 := [.int 1]) rfl ?_) rt_kx
  rw [rt_cs_cs]
  have hC4 := rt_cs_C s0 ca w tp n (upd (upd (upd (upd f k (cl_b v 24)) (k + 1) (cl_b v 16)) (k + 2) (cl_b v 8)) (k + 3) (cl_b v 0)) (nI (k + 4))
  have hX4 : (rt_cs s0 ca w tp n (upd (upd (upd (upd f k (cl_b v 24)) (k + 1) (cl_b v 16)) (k + 2) (cl_b v 8)) (k + 3) (cl_b v 0)) (nI (k + 4))).2.2 x = _ := (rt_cs_n h1 h2).trans hX
  refine rt_pop dX9_feedOne_21 rfl ?_
  refine rt_iinc (v := (-8)) (lv' := [(2, .int (-8)), (0, rt_r s0 x), (1, .int v)]) dX9_feedOne_22 (j := 0) rfl (by decide) (by decide) rfl ?_
  refine rt_goto (tgt := 3) dX9_feedOne_25 (by decide) ?_
  refine rt_iload_n dX9_feedOne_3 rfl (j := 0) rfl ?_
  refine rt_if_lt (tgt := 28) dX9_feedOne_4 (by decide) (fun _ => ?_) (fun c4 => absurd (by decide) c4)
  exact rt_vret dX9_feedOne_28 rfl (⟨rfl, rfl⟩)
set_option maxRecDepth 100000 in
theorem c_X9_feed {l : Launch} {s0 : State} {a0 : Array Value} {G : va_G} {ca : Nat → ClassId} (Γ : rt_Γ l s0 a0 G ca) {d : Nat} {w : rt_Wd} (hd : 2 ≤ d) (hok : rt_ok w) {x tp op kp tx dr lk tl ft cu sp : Nat} {rp fp : Int32} (hX : w.2.2 x = some (.inr (9, [rt_r s0 tp, rt_r s0 op, rt_r s0 kp, rt_r s0 tx, rt_r s0 dr, rt_r s0 lk, rt_r s0 tl, rt_r s0 ft, rt_r s0 cu, rt_r s0 sp, .int rp, .int fp]))) {n k : Nat} {f : Nat → Int32} (hC : rt_C s0 ca w tp n f (nI k)) (hn : n < 2 ^ 31) (h1 : x ≠ tp) (h2 : x ≠ tp + 1) {a b c d5 e : Int32} (hk : k + 20 ≤ n) (hk2 : k + 20 ≤ 4096) : rt_Met l s0 G (.code yX9_feed cX9_feed 6 (Option.some FieldType.int)) yX9_feed d [rt_r s0 x, .int a, .int b, .int c, .int d5, .int e] w (rt_is (.inl (some (.int (nI (k + 20))))) (rt_cs s0 ca w tp n (cl_f20 f k a b c d5 e) (nI (k + 20)))) := by
  refine rt_met Γ kk_X9_feed rfl (Nat.le_of_ble_eq_true rfl) rfl ?_
  refine rt_aload_n dX9_feed_0 rfl (j := 0) rfl ?_
  refine rt_get Γ kf_RX9_14 dX9_feed_1 hX rfl ?_
  refine rt_callV Γ kk_X0_count kc_RX9_79 (c_X0_count Γ (d := d - 1) hC) (by omega) (by decide) (As := []) (show (parseMethodDescriptor yX0_count.desc).map (fun q => q.parameters.length) = some 0 by decide +kernel) hok (Nat.le_of_ble_eq_true rfl) dX9_feed_4 hC.1 rfl rfl rfl (rt_kr (st2 := [.int (nI k)]) rfl ?_) rt_kx
  refine rt_bipush (v := 20) dX9_feed_7 (by decide) ?_
  refine rt_iadd dX9_feed_9 ?_
  refine rt_sipush (v := 4096) dX9_feed_10 (by decide) ?_
  rw [show nI k + 20 = nI (k + 20) from nI_add k 20]
  refine rt_icmp_le (tgt := 24) dX9_feed_13 (by decide) (fun _ => ?_) (fun c13 => absurd (nI_le hk2 (by decide)) c13)
  have hC0 := hC
  have hX0 := hX
  refine rt_aload_n dX9_feed_24 rfl (j := 0) rfl ?_
  refine rt_iload_n dX9_feed_25 rfl (j := 1) rfl ?_
  refine rt_callV Γ kk_X9_feedOne kc_RX9_86 (c_X9_feedOne Γ (d := d - 1) (w := w) (by omega) hok hX0 hC0 hn h1 h2 (by omega)) (by omega) (by decide) (As := [.int a]) (show (parseMethodDescriptor yX9_feedOne.desc).map (fun q => q.parameters.length) = some 1 by decide +kernel) hok (Nat.le_of_ble_eq_true rfl) dX9_feed_26 hX0 rfl rfl rfl (rt_kr (st2 := []) rfl ?_) rt_kx
  have hC1 := rt_cs_C s0 ca w tp n (cl_f4 f k a) (nI (k + 4))
  have hX1 : (rt_cs s0 ca w tp n (cl_f4 f k a) (nI (k + 4))).2.2 x = _ := (rt_cs_n h1 h2).trans hX
  refine rt_aload_n dX9_feed_29 rfl (j := 0) rfl ?_
  refine rt_iload_n dX9_feed_30 rfl (j := 2) rfl ?_
  refine rt_callV Γ kk_X9_feedOne kc_RX9_86 (c_X9_feedOne Γ (d := d - 1) (w := rt_cs s0 ca w tp n (cl_f4 f k a) (nI (k + 4))) (by omega) hok hX1 hC1 hn h1 h2 (by omega)) (by omega) (by decide) (As := [.int b]) (show (parseMethodDescriptor yX9_feedOne.desc).map (fun q => q.parameters.length) = some 1 by decide +kernel) hok (Nat.le_of_ble_eq_true rfl) dX9_feed_31 hX1 rfl rfl rfl (rt_kr (st2 := []) rfl ?_) rt_kx
  rw [rt_cs_cs]
  have hC2 := rt_cs_C s0 ca w tp n (cl_f4 (cl_f4 f k a) (k + 4) b) (nI (k + 8))
  have hX2 : (rt_cs s0 ca w tp n (cl_f4 (cl_f4 f k a) (k + 4) b) (nI (k + 8))).2.2 x = _ := (rt_cs_n h1 h2).trans hX
  refine rt_aload_n dX9_feed_34 rfl (j := 0) rfl ?_
  refine rt_iload_n dX9_feed_35 rfl (j := 3) rfl ?_
  refine rt_callV Γ kk_X9_feedOne kc_RX9_86 (c_X9_feedOne Γ (d := d - 1) (w := rt_cs s0 ca w tp n (cl_f4 (cl_f4 f k a) (k + 4) b) (nI (k + 8))) (by omega) hok hX2 hC2 hn h1 h2 (by omega)) (by omega) (by decide) (As := [.int c]) (show (parseMethodDescriptor yX9_feedOne.desc).map (fun q => q.parameters.length) = some 1 by decide +kernel) hok (Nat.le_of_ble_eq_true rfl) dX9_feed_36 hX2 rfl rfl rfl (rt_kr (st2 := []) rfl ?_) rt_kx
  rw [rt_cs_cs]
  have hC3 := rt_cs_C s0 ca w tp n (cl_f4 (cl_f4 (cl_f4 f k a) (k + 4) b) (k + 8) c) (nI (k + 12))
  have hX3 : (rt_cs s0 ca w tp n (cl_f4 (cl_f4 (cl_f4 f k a) (k + 4) b) (k + 8) c) (nI (k + 12))).2.2 x = _ := (rt_cs_n h1 h2).trans hX
  refine rt_aload_n dX9_feed_39 rfl (j := 0) rfl ?_
  refine rt_iload dX9_feed_40 (j := 4) rfl ?_
  refine rt_callV Γ kk_X9_feedOne kc_RX9_86 (c_X9_feedOne Γ (d := d - 1) (w := rt_cs s0 ca w tp n (cl_f4 (cl_f4 (cl_f4 f k a) (k + 4) b) (k + 8) c) (nI (k + 12))) (by omega) hok hX3 hC3 hn h1 h2 (by omega)) (by omega) (by decide) (As := [.int d5]) (show (parseMethodDescriptor yX9_feedOne.desc).map (fun q => q.parameters.length) = some 1 by decide +kernel) hok (Nat.le_of_ble_eq_true rfl) dX9_feed_42 hX3 rfl rfl rfl (rt_kr (st2 := []) rfl ?_) rt_kx
  rw [rt_cs_cs]
  have hC4 := rt_cs_C s0 ca w tp n (cl_f4 (cl_f4 (cl_f4 (cl_f4 f k a) (k + 4) b) (k + 8) c) (k + 12) d5) (nI (k + 16))
  have hX4 : (rt_cs s0 ca w tp n (cl_f4 (cl_f4 (cl_f4 (cl_f4 f k a) (k + 4) b) (k + 8) c) (k + 12) d5) (nI (k + 16))).2.2 x = _ := (rt_cs_n h1 h2).trans hX
  refine rt_aload_n dX9_feed_45 rfl (j := 0) rfl ?_
  refine rt_iload dX9_feed_46 (j := 5) rfl ?_
  refine rt_callV Γ kk_X9_feedOne kc_RX9_86 (c_X9_feedOne Γ (d := d - 1) (w := rt_cs s0 ca w tp n (cl_f4 (cl_f4 (cl_f4 (cl_f4 f k a) (k + 4) b) (k + 8) c) (k + 12) d5) (nI (k + 16))) (by omega) hok hX4 hC4 hn h1 h2 (by omega)) (by omega) (by decide) (As := [.int e]) (show (parseMethodDescriptor yX9_feedOne.desc).map (fun q => q.parameters.length) = some 1 by decide +kernel) hok (Nat.le_of_ble_eq_true rfl) dX9_feed_48 hX4 rfl rfl rfl (rt_kr (st2 := []) rfl ?_) rt_kx
  rw [rt_cs_cs]
  have hC5 := rt_cs_C s0 ca w tp n (cl_f4 (cl_f4 (cl_f4 (cl_f4 (cl_f4 f k a) (k + 4) b) (k + 8) c) (k + 12) d5) (k + 16) e) (nI (k + 20))
  have hX5 : (rt_cs s0 ca w tp n (cl_f4 (cl_f4 (cl_f4 (cl_f4 (cl_f4 f k a) (k + 4) b) (k + 8) c) (k + 12) d5) (k + 16) e) (nI (k + 20))).2.2 x = _ := (rt_cs_n h1 h2).trans hX
  refine rt_aload_n dX9_feed_51 rfl (j := 0) rfl ?_
  refine rt_get Γ kf_RX9_14 dX9_feed_52 hX5 rfl ?_
  refine rt_callV Γ kk_X0_count kc_RX9_79 (c_X0_count Γ (d := d - 1) hC5) (by omega) (by decide) (As := []) (show (parseMethodDescriptor yX0_count.desc).map (fun q => q.parameters.length) = some 0 by decide +kernel) hok (Nat.le_of_ble_eq_true rfl) dX9_feed_55 hC5.1 rfl rfl rfl (rt_kr (st2 := [.int (nI (k + 20))]) rfl ?_) rt_kx
  exact rt_iret dX9_feed_58 rfl (⟨rfl, rfl⟩)
set_option maxRecDepth 100000 in
theorem c_X9_feedT {l : Launch} {s0 : State} {a0 : Array Value} {G : va_G} {ca : Nat → ClassId} (Γ : rt_Γ l s0 a0 G ca) {d : Nat} {w : rt_Wd} (hd : 2 ≤ d) (hok : rt_ok w) (hok1 : w.1 + 1 ≤ 600000 ∧ w.2.1 + 6 ≤ 7300000) {x tp op kp tx dr lk tl ft cu sp : Nat} {rp fp : Int32} (hX : w.2.2 x = some (.inr (9, [rt_r s0 tp, rt_r s0 op, rt_r s0 kp, rt_r s0 tx, rt_r s0 dr, rt_r s0 lk, rt_r s0 tl, rt_r s0 ft, rt_r s0 cu, rt_r s0 sp, .int rp, .int fp]))) {n k : Nat} {f : Nat → Int32} (hC : rt_C s0 ca w tp n f (nI k)) {a b c d5 e : Int32} (hk : k ≤ 4096) (hk2 : 4096 < k + 20) : rt_Met l s0 G (.code yX9_feed cX9_feed 6 (Option.some FieldType.int)) yX9_feed d [rt_r s0 x, .int a, .int b, .int c, .int d5, .int e] w (rt_tx "java/lang/IllegalStateException" w) := by
  refine rt_met Γ kk_X9_feed rfl (Nat.le_of_ble_eq_true rfl) rfl ?_
  refine rt_aload_n dX9_feed_0 rfl (j := 0) rfl ?_
  refine rt_get Γ kf_RX9_14 dX9_feed_1 hX rfl ?_
  refine rt_callV Γ kk_X0_count kc_RX9_79 (c_X0_count Γ (d := d - 1) hC) (by omega) (by decide) (As := []) (show (parseMethodDescriptor yX0_count.desc).map (fun q => q.parameters.length) = some 0 by decide +kernel) hok (Nat.le_of_ble_eq_true rfl) dX9_feed_4 hC.1 rfl rfl rfl (rt_kr (st2 := [.int (nI k)]) rfl ?_) rt_kx
  refine rt_bipush (v := 20) dX9_feed_7 (by decide) ?_
  refine rt_iadd dX9_feed_9 ?_
  refine rt_sipush (v := 4096) dX9_feed_10 (by decide) ?_
  rw [show nI k + 20 = nI (k + 20) from nI_add k 20]
  refine rt_icmp_le (tgt := 24) dX9_feed_13 (by decide) (fun c13 => absurd c13 (Int32.not_le.mpr (nI_lt (a := 4096) hk2 (by omega)))) (fun _ => ?_)
  exact rt_throw0 Γ kt_9s dX9_feed_16 dX9_feed_19 dX9_feed_20 dX9_feed_23 (fun _ h => absurd h List.not_mem_nil) (Nat.le_of_ble_eq_true rfl) hok1 (fun n h1 h2 => ⟨rfl, rfl, h1, h2, rfl⟩)
set_option maxRecDepth 100000 in
theorem c_X9_schemaT {l : Launch} {s0 : State} {a0 : Array Value} {G : va_G} {ca : Nat → ClassId} (Γ : rt_Γ l s0 a0 G ca) {d : Nat} {w : rt_Wd} (hok : rt_ok w) (hok1 : w.1 + 1 ≤ 600000 ∧ w.2.1 + 6 ≤ 7300000) {x tp op kp tx dr lk tl ft cu sp : Nat} {rp fp : Int32} (hX : w.2.2 x = some (.inr (9, [rt_r s0 tp, rt_r s0 op, rt_r s0 kp, rt_r s0 tx, rt_r s0 dr, rt_r s0 lk, rt_r s0 tl, rt_r s0 ft, rt_r s0 cu, rt_r s0 sp, .int rp, .int fp]))) {p : Int32} (h0 : p < 0) : rt_Met l s0 G (.code yX9_schema cX9_schema 3 (Option.some FieldType.int)) yX9_schema d [rt_r s0 x, .int p] w (rt_tx "java/lang/IndexOutOfBoundsException" w) := by
  refine rt_met Γ kk_X9_schema rfl (Nat.le_of_ble_eq_true rfl) rfl ?_
  refine rt_iload_n dX9_schema_0 rfl (j := 1) rfl ?_
  refine rt_if_lt (tgt := 10) dX9_schema_1 (by decide) (fun _ => ?_) (fun c1 => absurd h0 c1)
  exact rt_throw0 Γ kt_9i dX9_schema_10 dX9_schema_13 dX9_schema_14 dX9_schema_17 (fun _ h => absurd h List.not_mem_nil) (Nat.le_of_ble_eq_true rfl) hok1 (fun n h1 h2 => ⟨rfl, rfl, h1, h2, rfl⟩)
set_option maxRecDepth 100000 in
theorem c_X9_schemaU {l : Launch} {s0 : State} {a0 : Array Value} {G : va_G} {ca : Nat → ClassId} (Γ : rt_Γ l s0 a0 G ca) {d : Nat} {w : rt_Wd} (hok : rt_ok w) (hok1 : w.1 + 1 ≤ 600000 ∧ w.2.1 + 6 ≤ 7300000) {x tp op kp tx dr lk tl ft cu sp : Nat} {rp fp : Int32} (hX : w.2.2 x = some (.inr (9, [rt_r s0 tp, rt_r s0 op, rt_r s0 kp, rt_r s0 tx, rt_r s0 dr, rt_r s0 lk, rt_r s0 tl, rt_r s0 ft, rt_r s0 cu, rt_r s0 sp, .int rp, .int fp]))) {p : Int32} (h0 : ¬ p < 0) (h1 : ¬ p < 8) : rt_Met l s0 G (.code yX9_schema cX9_schema 3 (Option.some FieldType.int)) yX9_schema d [rt_r s0 x, .int p] w (rt_tx "java/lang/IndexOutOfBoundsException" w) := by
  refine rt_met Γ kk_X9_schema rfl (Nat.le_of_ble_eq_true rfl) rfl ?_
  refine rt_iload_n dX9_schema_0 rfl (j := 1) rfl ?_
  refine rt_if_lt (tgt := 10) dX9_schema_1 (by decide) (fun c1 => absurd c1 h0) (fun _ => ?_)
  refine rt_iload_n dX9_schema_4 rfl (j := 1) rfl ?_
  refine rt_bipush (v := 8) dX9_schema_5 (by decide) ?_
  refine rt_icmp_lt (tgt := 18) dX9_schema_7 (by decide) (fun c7 => absurd c7 h1) (fun _ => ?_)
  exact rt_throw0 Γ kt_9i dX9_schema_10 dX9_schema_13 dX9_schema_14 dX9_schema_17 (fun _ h => absurd h List.not_mem_nil) (Nat.le_of_ble_eq_true rfl) hok1 (fun n h1 h2 => ⟨rfl, rfl, h1, h2, rfl⟩)
set_option maxRecDepth 100000 in
theorem c_X9_loadT {l : Launch} {s0 : State} {a0 : Array Value} {G : va_G} {ca : Nat → ClassId} (Γ : rt_Γ l s0 a0 G ca) {d : Nat} {w : rt_Wd} (hok : rt_ok w) (hok1 : w.1 + 1 ≤ 600000 ∧ w.2.1 + 6 ≤ 7300000) {x tp op kp tx dr lk tl ft cu sp : Nat} {rp fp : Int32} (hX : w.2.2 x = some (.inr (9, [rt_r s0 tp, rt_r s0 op, rt_r s0 kp, rt_r s0 tx, rt_r s0 dr, rt_r s0 lk, rt_r s0 tl, rt_r s0 ft, rt_r s0 cu, rt_r s0 sp, .int rp, .int fp]))) {p : Int32} (h0 : p < 0) : rt_Met l s0 G (.code yX9_load cX9_load 5 (Option.some FieldType.int)) yX9_load d [rt_r s0 x, .int p] w (rt_tx "java/lang/IndexOutOfBoundsException" w) := by
  refine rt_met Γ kk_X9_load rfl (Nat.le_of_ble_eq_true rfl) rfl ?_
  refine rt_iload_n dX9_load_0 rfl (j := 1) rfl ?_
  refine rt_if_lt (tgt := 10) dX9_load_1 (by decide) (fun _ => ?_) (fun c1 => absurd h0 c1)
  exact rt_throw0 Γ kt_9i dX9_load_10 dX9_load_13 dX9_load_14 dX9_load_17 (fun _ h => absurd h List.not_mem_nil) (Nat.le_of_ble_eq_true rfl) hok1 (fun n h1 h2 => ⟨rfl, rfl, h1, h2, rfl⟩)
set_option maxRecDepth 100000 in
theorem c_X9_loadU {l : Launch} {s0 : State} {a0 : Array Value} {G : va_G} {ca : Nat → ClassId} (Γ : rt_Γ l s0 a0 G ca) {d : Nat} {w : rt_Wd} (hok : rt_ok w) (hok1 : w.1 + 1 ≤ 600000 ∧ w.2.1 + 6 ≤ 7300000) {x tp op kp tx dr lk tl ft cu sp : Nat} {rp fp : Int32} (hX : w.2.2 x = some (.inr (9, [rt_r s0 tp, rt_r s0 op, rt_r s0 kp, rt_r s0 tx, rt_r s0 dr, rt_r s0 lk, rt_r s0 tl, rt_r s0 ft, rt_r s0 cu, rt_r s0 sp, .int rp, .int fp]))) {p : Int32} (h0 : ¬ p < 0) (h1 : ¬ p < 8) : rt_Met l s0 G (.code yX9_load cX9_load 5 (Option.some FieldType.int)) yX9_load d [rt_r s0 x, .int p] w (rt_tx "java/lang/IndexOutOfBoundsException" w) := by
  refine rt_met Γ kk_X9_load rfl (Nat.le_of_ble_eq_true rfl) rfl ?_
  refine rt_iload_n dX9_load_0 rfl (j := 1) rfl ?_
  refine rt_if_lt (tgt := 10) dX9_load_1 (by decide) (fun c1 => absurd c1 h0) (fun _ => ?_)
  refine rt_iload_n dX9_load_4 rfl (j := 1) rfl ?_
  refine rt_bipush (v := 8) dX9_load_5 (by decide) ?_
  refine rt_icmp_lt (tgt := 18) dX9_load_7 (by decide) (fun c7 => absurd c7 h1) (fun _ => ?_)
  exact rt_throw0 Γ kt_9i dX9_load_10 dX9_load_13 dX9_load_14 dX9_load_17 (fun _ h => absurd h List.not_mem_nil) (Nat.le_of_ble_eq_true rfl) hok1 (fun n h1 h2 => ⟨rfl, rfl, h1, h2, rfl⟩)
set_option maxRecDepth 100000 in
theorem c_X9_loadV {l : Launch} {s0 : State} {a0 : Array Value} {G : va_G} {ca : Nat → ClassId} (Γ : rt_Γ l s0 a0 G ca) {d : Nat} {w : rt_Wd} (hok : rt_ok w) (hok1 : w.1 + 1 ≤ 600000 ∧ w.2.1 + 6 ≤ 7300000) {x tp op kp tx dr lk tl ft cu sp : Nat} {rp fp : Int32} (hX : w.2.2 x = some (.inr (9, [rt_r s0 tp, rt_r s0 op, rt_r s0 kp, rt_r s0 tx, rt_r s0 dr, rt_r s0 lk, rt_r s0 tl, rt_r s0 ft, rt_r s0 cu, rt_r s0 sp, .int rp, .int fp]))) {kf : Nat → Option Nat} (hK : w.2.2 kp = some (.inl (ca 4, 8, .inr (.inr (.inr (.inr kf)))))) {p : Int32} (h0 : ¬ p < 0) (h1 : p < 8) (hk0 : kf p.toNatClampNeg = none) : rt_Met l s0 G (.code yX9_load cX9_load 5 (Option.some FieldType.int)) yX9_load d [rt_r s0 x, .int p] w (rt_tx "java/lang/IllegalStateException" w) := by
  refine rt_met Γ kk_X9_load rfl (Nat.le_of_ble_eq_true rfl) rfl ?_
  refine rt_iload_n dX9_load_0 rfl (j := 1) rfl ?_
  refine rt_if_lt (tgt := 10) dX9_load_1 (by decide) (fun c1 => absurd c1 h0) (fun _ => ?_)
  refine rt_iload_n dX9_load_4 rfl (j := 1) rfl ?_
  refine rt_bipush (v := 8) dX9_load_5 (by decide) ?_
  refine rt_icmp_lt (tgt := 18) dX9_load_7 (by decide) (fun _ => ?_) (fun c7 => absurd h1 c7)
  refine rt_aload_n dX9_load_18 rfl (j := 0) rfl ?_
  refine rt_get Γ kf_RX9_23 dX9_load_19 hX rfl ?_
  refine rt_iload_n dX9_load_22 rfl (j := 1) rfl ?_
  refine rt_aldq Γ dX9_load_23 hK (vp_in8 h0 h1) ?_
  rw [hk0]
  refine rt_astoreN_n (lv' := [(2, .null), (0, rt_r s0 x), (1, .int p)]) dX9_load_24 rfl (by decide) rfl ?_
  refine rt_aloadN_n dX9_load_25 rfl (j := 0) rfl ?_
  refine rt_ifnonnullN dX9_load_26 ?_
  exact rt_throw0 Γ kt_9s dX9_load_29 dX9_load_32 dX9_load_33 dX9_load_36 (fun _ h => absurd h List.not_mem_nil) (Nat.le_of_ble_eq_true rfl) hok1 (fun n h1 h2 => ⟨rfl, rfl, h1, h2, rfl⟩)
set_option maxRecDepth 100000 in
theorem c_X9_allT {l : Launch} {s0 : State} {a0 : Array Value} {G : va_G} {ca : Nat → ClassId} (Γ : rt_Γ l s0 a0 G ca) {d : Nat} {w : rt_Wd} (hok : rt_ok w) (hok1 : w.1 + 1 ≤ 600000 ∧ w.2.1 + 6 ≤ 7300000) {x tp op kp tx dr lk tl ft cu sp : Nat} {rp fp : Int32} (hX : w.2.2 x = some (.inr (9, [rt_r s0 tp, rt_r s0 op, rt_r s0 kp, rt_r s0 tx, rt_r s0 dr, rt_r s0 lk, rt_r s0 tl, rt_r s0 ft, rt_r s0 cu, rt_r s0 sp, .int rp, .int fp]))) {p : Int32} (h0 : p < 0) : rt_Met l s0 G (.code yX9_all cX9_all 4 (Option.some FieldType.int)) yX9_all d [rt_r s0 x, .int p] w (rt_tx "java/lang/IndexOutOfBoundsException" w) := by
  refine rt_met Γ kk_X9_all rfl (Nat.le_of_ble_eq_true rfl) rfl ?_
  refine rt_iload_n dX9_all_0 rfl (j := 1) rfl ?_
  refine rt_if_lt (tgt := 10) dX9_all_1 (by decide) (fun _ => ?_) (fun c1 => absurd h0 c1)
  exact rt_throw0 Γ kt_9i dX9_all_10 dX9_all_13 dX9_all_14 dX9_all_17 (fun _ h => absurd h List.not_mem_nil) (Nat.le_of_ble_eq_true rfl) hok1 (fun n h1 h2 => ⟨rfl, rfl, h1, h2, rfl⟩)
set_option maxRecDepth 100000 in
theorem c_X9_allU {l : Launch} {s0 : State} {a0 : Array Value} {G : va_G} {ca : Nat → ClassId} (Γ : rt_Γ l s0 a0 G ca) {d : Nat} {w : rt_Wd} (hok : rt_ok w) (hok1 : w.1 + 1 ≤ 600000 ∧ w.2.1 + 6 ≤ 7300000) {x tp op kp tx dr lk tl ft cu sp : Nat} {rp fp : Int32} (hX : w.2.2 x = some (.inr (9, [rt_r s0 tp, rt_r s0 op, rt_r s0 kp, rt_r s0 tx, rt_r s0 dr, rt_r s0 lk, rt_r s0 tl, rt_r s0 ft, rt_r s0 cu, rt_r s0 sp, .int rp, .int fp]))) {p : Int32} (h0 : ¬ p < 0) (h1 : ¬ p < 8) : rt_Met l s0 G (.code yX9_all cX9_all 4 (Option.some FieldType.int)) yX9_all d [rt_r s0 x, .int p] w (rt_tx "java/lang/IndexOutOfBoundsException" w) := by
  refine rt_met Γ kk_X9_all rfl (Nat.le_of_ble_eq_true rfl) rfl ?_
  refine rt_iload_n dX9_all_0 rfl (j := 1) rfl ?_
  refine rt_if_lt (tgt := 10) dX9_all_1 (by decide) (fun c1 => absurd c1 h0) (fun _ => ?_)
  refine rt_iload_n dX9_all_4 rfl (j := 1) rfl ?_
  refine rt_bipush (v := 8) dX9_all_5 (by decide) ?_
  refine rt_icmp_lt (tgt := 18) dX9_all_7 (by decide) (fun c7 => absurd c7 h1) (fun _ => ?_)
  exact rt_throw0 Γ kt_9i dX9_all_10 dX9_all_13 dX9_all_14 dX9_all_17 (fun _ h => absurd h List.not_mem_nil) (Nat.le_of_ble_eq_true rfl) hok1 (fun n h1 h2 => ⟨rfl, rfl, h1, h2, rfl⟩)
set_option maxRecDepth 100000 in
theorem c_X9_allV {l : Launch} {s0 : State} {a0 : Array Value} {G : va_G} {ca : Nat → ClassId} (Γ : rt_Γ l s0 a0 G ca) {d : Nat} {w : rt_Wd} (hok : rt_ok w) (hok1 : w.1 + 1 ≤ 600000 ∧ w.2.1 + 6 ≤ 7300000) {x tp op kp tx dr lk tl ft cu sp : Nat} {rp fp : Int32} (hX : w.2.2 x = some (.inr (9, [rt_r s0 tp, rt_r s0 op, rt_r s0 kp, rt_r s0 tx, rt_r s0 dr, rt_r s0 lk, rt_r s0 tl, rt_r s0 ft, rt_r s0 cu, rt_r s0 sp, .int rp, .int fp]))) {kf : Nat → Option Nat} (hK : w.2.2 kp = some (.inl (ca 4, 8, .inr (.inr (.inr (.inr kf)))))) {p : Int32} (h0 : ¬ p < 0) (h1 : p < 8) (hk0 : kf p.toNatClampNeg = none) : rt_Met l s0 G (.code yX9_all cX9_all 4 (Option.some FieldType.int)) yX9_all d [rt_r s0 x, .int p] w (rt_tx "java/lang/IllegalStateException" w) := by
  refine rt_met Γ kk_X9_all rfl (Nat.le_of_ble_eq_true rfl) rfl ?_
  refine rt_iload_n dX9_all_0 rfl (j := 1) rfl ?_
  refine rt_if_lt (tgt := 10) dX9_all_1 (by decide) (fun c1 => absurd c1 h0) (fun _ => ?_)
  refine rt_iload_n dX9_all_4 rfl (j := 1) rfl ?_
  refine rt_bipush (v := 8) dX9_all_5 (by decide) ?_
  refine rt_icmp_lt (tgt := 18) dX9_all_7 (by decide) (fun _ => ?_) (fun c7 => absurd h1 c7)
  refine rt_aload_n dX9_all_18 rfl (j := 0) rfl ?_
  refine rt_get Γ kf_RX9_23 dX9_all_19 hX rfl ?_
  refine rt_iload_n dX9_all_22 rfl (j := 1) rfl ?_
  refine rt_aldq Γ dX9_all_23 hK (vp_in8 h0 h1) ?_
  rw [hk0]
  refine rt_astoreN_n (lv' := [(2, .null), (0, rt_r s0 x), (1, .int p)]) dX9_all_24 rfl (by decide) rfl ?_
  refine rt_aloadN_n dX9_all_25 rfl (j := 0) rfl ?_
  refine rt_ifnonnullN dX9_all_26 ?_
  exact rt_throw0 Γ kt_9s dX9_all_29 dX9_all_32 dX9_all_33 dX9_all_36 (fun _ h => absurd h List.not_mem_nil) (Nat.le_of_ble_eq_true rfl) hok1 (fun n h1 h2 => ⟨rfl, rfl, h1, h2, rfl⟩)
set_option maxRecDepth 100000 in
theorem c_X9_readT {l : Launch} {s0 : State} {a0 : Array Value} {G : va_G} {ca : Nat → ClassId} (Γ : rt_Γ l s0 a0 G ca) {d : Nat} {w : rt_Wd} (hok : rt_ok w) (hok1 : w.1 + 1 ≤ 600000 ∧ w.2.1 + 6 ≤ 7300000) {x tp op kp tx dr lk tl ft cu sp : Nat} {rp fp : Int32} (hX : w.2.2 x = some (.inr (9, [rt_r s0 tp, rt_r s0 op, rt_r s0 kp, rt_r s0 tx, rt_r s0 dr, rt_r s0 lk, rt_r s0 tl, rt_r s0 ft, rt_r s0 cu, rt_r s0 sp, .int rp, .int fp]))) {p i : Int32} (h0 : p < 0) : rt_Met l s0 G (.code yX9_read cX9_read 5 (Option.some FieldType.int)) yX9_read d [rt_r s0 x, .int p, .int i] w (rt_tx "java/lang/IndexOutOfBoundsException" w) := by
  refine rt_met Γ kk_X9_read rfl (Nat.le_of_ble_eq_true rfl) rfl ?_
  refine rt_iload_n dX9_read_0 rfl (j := 1) rfl ?_
  refine rt_if_lt (tgt := 25) dX9_read_1 (by decide) (fun _ => ?_) (fun c1 => absurd h0 c1)
  exact rt_throw0 Γ kt_9i dX9_read_25 dX9_read_28 dX9_read_29 dX9_read_32 (fun _ h => absurd h List.not_mem_nil) (Nat.le_of_ble_eq_true rfl) hok1 (fun n h1 h2 => ⟨rfl, rfl, h1, h2, rfl⟩)
set_option maxRecDepth 100000 in
theorem c_X9_readU {l : Launch} {s0 : State} {a0 : Array Value} {G : va_G} {ca : Nat → ClassId} (Γ : rt_Γ l s0 a0 G ca) {d : Nat} {w : rt_Wd} (hok : rt_ok w) (hok1 : w.1 + 1 ≤ 600000 ∧ w.2.1 + 6 ≤ 7300000) {x tp op kp tx dr lk tl ft cu sp : Nat} {rp fp : Int32} (hX : w.2.2 x = some (.inr (9, [rt_r s0 tp, rt_r s0 op, rt_r s0 kp, rt_r s0 tx, rt_r s0 dr, rt_r s0 lk, rt_r s0 tl, rt_r s0 ft, rt_r s0 cu, rt_r s0 sp, .int rp, .int fp]))) {p i : Int32} (h0 : ¬ p < 0) (h1 : 8 ≤ p) : rt_Met l s0 G (.code yX9_read cX9_read 5 (Option.some FieldType.int)) yX9_read d [rt_r s0 x, .int p, .int i] w (rt_tx "java/lang/IndexOutOfBoundsException" w) := by
  refine rt_met Γ kk_X9_read rfl (Nat.le_of_ble_eq_true rfl) rfl ?_
  refine rt_iload_n dX9_read_0 rfl (j := 1) rfl ?_
  refine rt_if_lt (tgt := 25) dX9_read_1 (by decide) (fun c1 => absurd c1 h0) (fun _ => ?_)
  refine rt_iload_n dX9_read_4 rfl (j := 1) rfl ?_
  refine rt_bipush (v := 8) dX9_read_5 (by decide) ?_
  refine rt_icmp_ge (tgt := 25) dX9_read_7 (by decide) (fun _ => ?_) (fun c7 => absurd h1 c7)
  exact rt_throw0 Γ kt_9i dX9_read_25 dX9_read_28 dX9_read_29 dX9_read_32 (fun _ h => absurd h List.not_mem_nil) (Nat.le_of_ble_eq_true rfl) hok1 (fun n h1 h2 => ⟨rfl, rfl, h1, h2, rfl⟩)
set_option maxRecDepth 100000 in
theorem c_X9_readV {l : Launch} {s0 : State} {a0 : Array Value} {G : va_G} {ca : Nat → ClassId} (Γ : rt_Γ l s0 a0 G ca) {d : Nat} {w : rt_Wd} (hok : rt_ok w) (hok1 : w.1 + 1 ≤ 600000 ∧ w.2.1 + 6 ≤ 7300000) {x tp op kp tx dr lk tl ft cu sp : Nat} {rp fp : Int32} (hX : w.2.2 x = some (.inr (9, [rt_r s0 tp, rt_r s0 op, rt_r s0 kp, rt_r s0 tx, rt_r s0 dr, rt_r s0 lk, rt_r s0 tl, rt_r s0 ft, rt_r s0 cu, rt_r s0 sp, .int rp, .int fp]))) {p i : Int32} (h0 : ¬ p < 0) (h1 : ¬ 8 ≤ p) (h2 : i < 0) : rt_Met l s0 G (.code yX9_read cX9_read 5 (Option.some FieldType.int)) yX9_read d [rt_r s0 x, .int p, .int i] w (rt_tx "java/lang/IndexOutOfBoundsException" w) := by
  refine rt_met Γ kk_X9_read rfl (Nat.le_of_ble_eq_true rfl) rfl ?_
  refine rt_iload_n dX9_read_0 rfl (j := 1) rfl ?_
  refine rt_if_lt (tgt := 25) dX9_read_1 (by decide) (fun c1 => absurd c1 h0) (fun _ => ?_)
  refine rt_iload_n dX9_read_4 rfl (j := 1) rfl ?_
  refine rt_bipush (v := 8) dX9_read_5 (by decide) ?_
  refine rt_icmp_ge (tgt := 25) dX9_read_7 (by decide) (fun c7 => absurd c7 h1) (fun _ => ?_)
  refine rt_iload_n dX9_read_10 rfl (j := 2) rfl ?_
  refine rt_if_lt (tgt := 25) dX9_read_11 (by decide) (fun _ => ?_) (fun c11 => absurd h2 c11)
  exact rt_throw0 Γ kt_9i dX9_read_25 dX9_read_28 dX9_read_29 dX9_read_32 (fun _ h => absurd h List.not_mem_nil) (Nat.le_of_ble_eq_true rfl) hok1 (fun n h1 h2 => ⟨rfl, rfl, h1, h2, rfl⟩)
set_option maxRecDepth 100000 in
theorem c_X9_readW {l : Launch} {s0 : State} {a0 : Array Value} {G : va_G} {ca : Nat → ClassId} (Γ : rt_Γ l s0 a0 G ca) {d : Nat} {w : rt_Wd} (hd : 2 ≤ d) (hok : rt_ok w) (hok1 : w.1 + 1 ≤ 600000 ∧ w.2.1 + 6 ≤ 7300000) {x tp op kp tx dr lk tl ft cu sp : Nat} {rp fp : Int32} (hX : w.2.2 x = some (.inr (9, [rt_r s0 tp, rt_r s0 op, rt_r s0 kp, rt_r s0 tx, rt_r s0 dr, rt_r s0 lk, rt_r s0 tl, rt_r s0 ft, rt_r s0 cu, rt_r s0 sp, .int rp, .int fp]))) {by_ sa : Nat} (hR : w.2.2 cu = some (.inr (5, [rt_r s0 by_, rt_r s0 sa]))) {n : Nat} {f : Nat → Int32} {u : Int32} (hC : rt_C s0 ca w sa n f u) {p i : Int32} (h0 : ¬ p < 0) (h1 : ¬ 8 ≤ p) (h2 : ¬ i < 0) (h3 : ¬ i < u) : rt_Met l s0 G (.code yX9_read cX9_read 5 (Option.some FieldType.int)) yX9_read d [rt_r s0 x, .int p, .int i] w (rt_tx "java/lang/IndexOutOfBoundsException" w) := by
  refine rt_met Γ kk_X9_read rfl (Nat.le_of_ble_eq_true rfl) rfl ?_
  refine rt_iload_n dX9_read_0 rfl (j := 1) rfl ?_
  refine rt_if_lt (tgt := 25) dX9_read_1 (by decide) (fun c1 => absurd c1 h0) (fun _ => ?_)
  refine rt_iload_n dX9_read_4 rfl (j := 1) rfl ?_
  refine rt_bipush (v := 8) dX9_read_5 (by decide) ?_
  refine rt_icmp_ge (tgt := 25) dX9_read_7 (by decide) (fun c7 => absurd c7 h1) (fun _ => ?_)
  refine rt_iload_n dX9_read_10 rfl (j := 2) rfl ?_
  refine rt_if_lt (tgt := 25) dX9_read_11 (by decide) (fun c11 => absurd c11 h2) (fun _ => ?_)
  refine rt_iload_n dX9_read_14 rfl (j := 2) rfl ?_
  refine rt_aload_n dX9_read_15 rfl (j := 0) rfl ?_
  refine rt_get Γ kf_RX9_65 dX9_read_16 hX rfl ?_
  refine rt_callV Γ kk_X5_count kc_RX9_121 (c_X5_count Γ (d := d - 1) (by omega) hok hR hC) (by omega) (by decide) (As := []) (show (parseMethodDescriptor yX5_count.desc).map (fun q => q.parameters.length) = some 0 by decide +kernel) hok (Nat.le_of_ble_eq_true rfl) dX9_read_19 hR rfl rfl rfl (rt_kr (st2 := [.int u, .int i]) rfl ?_) rt_kx
  refine rt_icmp_lt (tgt := 33) dX9_read_22 (by decide) (fun c22 => absurd c22 h3) (fun _ => ?_)
  exact rt_throw0 Γ kt_9i dX9_read_25 dX9_read_28 dX9_read_29 dX9_read_32 (fun _ h => absurd h List.not_mem_nil) (Nat.le_of_ble_eq_true rfl) hok1 (fun n h1 h2 => ⟨rfl, rfl, h1, h2, rfl⟩)
set_option maxRecDepth 100000 in
theorem c_X9_fitsT {l : Launch} {s0 : State} {a0 : Array Value} {G : va_G} {ca : Nat → ClassId} (Γ : rt_Γ l s0 a0 G ca) {d : Nat} {w : rt_Wd} (hok : rt_ok w) (hok1 : w.1 + 1 ≤ 600000 ∧ w.2.1 + 6 ≤ 7300000) {x tp op kp tx dr lk tl ft cu sp : Nat} {rp fp : Int32} (hX : w.2.2 x = some (.inr (9, [rt_r s0 tp, rt_r s0 op, rt_r s0 kp, rt_r s0 tx, rt_r s0 dr, rt_r s0 lk, rt_r s0 tl, rt_r s0 ft, rt_r s0 cu, rt_r s0 sp, .int rp, .int fp]))) {p i : Int32} (h0 : p < 0) : rt_Met l s0 G (.code yX9_fits cX9_fits 5 (Option.some FieldType.boolean)) yX9_fits d [rt_r s0 x, .int p, .int i] w (rt_tx "java/lang/IndexOutOfBoundsException" w) := by
  refine rt_met Γ kk_X9_fits rfl (Nat.le_of_ble_eq_true rfl) rfl ?_
  refine rt_iload_n dX9_fits_0 rfl (j := 1) rfl ?_
  refine rt_if_lt (tgt := 20) dX9_fits_1 (by decide) (fun _ => ?_) (fun c1 => absurd h0 c1)
  exact rt_throw0 Γ kt_9i dX9_fits_20 dX9_fits_23 dX9_fits_24 dX9_fits_27 (fun _ h => absurd h List.not_mem_nil) (Nat.le_of_ble_eq_true rfl) hok1 (fun n h1 h2 => ⟨rfl, rfl, h1, h2, rfl⟩)
set_option maxRecDepth 100000 in
theorem c_X9_fitsU {l : Launch} {s0 : State} {a0 : Array Value} {G : va_G} {ca : Nat → ClassId} (Γ : rt_Γ l s0 a0 G ca) {d : Nat} {w : rt_Wd} (hok : rt_ok w) (hok1 : w.1 + 1 ≤ 600000 ∧ w.2.1 + 6 ≤ 7300000) {x tp op kp tx dr lk tl ft cu sp : Nat} {rp fp : Int32} (hX : w.2.2 x = some (.inr (9, [rt_r s0 tp, rt_r s0 op, rt_r s0 kp, rt_r s0 tx, rt_r s0 dr, rt_r s0 lk, rt_r s0 tl, rt_r s0 ft, rt_r s0 cu, rt_r s0 sp, .int rp, .int fp]))) {p i : Int32} (h0 : ¬ p < 0) (h1 : 8 ≤ p) : rt_Met l s0 G (.code yX9_fits cX9_fits 5 (Option.some FieldType.boolean)) yX9_fits d [rt_r s0 x, .int p, .int i] w (rt_tx "java/lang/IndexOutOfBoundsException" w) := by
  refine rt_met Γ kk_X9_fits rfl (Nat.le_of_ble_eq_true rfl) rfl ?_
  refine rt_iload_n dX9_fits_0 rfl (j := 1) rfl ?_
  refine rt_if_lt (tgt := 20) dX9_fits_1 (by decide) (fun c1 => absurd c1 h0) (fun _ => ?_)
  refine rt_iload_n dX9_fits_4 rfl (j := 1) rfl ?_
  refine rt_bipush (v := 8) dX9_fits_5 (by decide) ?_
  refine rt_icmp_ge (tgt := 20) dX9_fits_7 (by decide) (fun _ => ?_) (fun c7 => absurd h1 c7)
  exact rt_throw0 Γ kt_9i dX9_fits_20 dX9_fits_23 dX9_fits_24 dX9_fits_27 (fun _ h => absurd h List.not_mem_nil) (Nat.le_of_ble_eq_true rfl) hok1 (fun n h1 h2 => ⟨rfl, rfl, h1, h2, rfl⟩)
set_option maxRecDepth 100000 in
theorem c_X9_fitsV {l : Launch} {s0 : State} {a0 : Array Value} {G : va_G} {ca : Nat → ClassId} (Γ : rt_Γ l s0 a0 G ca) {d : Nat} {w : rt_Wd} (hok : rt_ok w) (hok1 : w.1 + 1 ≤ 600000 ∧ w.2.1 + 6 ≤ 7300000) {x tp op kp tx dr lk tl ft cu sp : Nat} {rp fp : Int32} (hX : w.2.2 x = some (.inr (9, [rt_r s0 tp, rt_r s0 op, rt_r s0 kp, rt_r s0 tx, rt_r s0 dr, rt_r s0 lk, rt_r s0 tl, rt_r s0 ft, rt_r s0 cu, rt_r s0 sp, .int rp, .int fp]))) {p i : Int32} (h0 : ¬ p < 0) (h1 : ¬ 8 ≤ p) (h2 : i < 0) : rt_Met l s0 G (.code yX9_fits cX9_fits 5 (Option.some FieldType.boolean)) yX9_fits d [rt_r s0 x, .int p, .int i] w (rt_tx "java/lang/IndexOutOfBoundsException" w) := by
  refine rt_met Γ kk_X9_fits rfl (Nat.le_of_ble_eq_true rfl) rfl ?_
  refine rt_iload_n dX9_fits_0 rfl (j := 1) rfl ?_
  refine rt_if_lt (tgt := 20) dX9_fits_1 (by decide) (fun c1 => absurd c1 h0) (fun _ => ?_)
  refine rt_iload_n dX9_fits_4 rfl (j := 1) rfl ?_
  refine rt_bipush (v := 8) dX9_fits_5 (by decide) ?_
  refine rt_icmp_ge (tgt := 20) dX9_fits_7 (by decide) (fun c7 => absurd c7 h1) (fun _ => ?_)
  refine rt_iload_n dX9_fits_10 rfl (j := 2) rfl ?_
  refine rt_if_lt (tgt := 20) dX9_fits_11 (by decide) (fun _ => ?_) (fun c11 => absurd h2 c11)
  exact rt_throw0 Γ kt_9i dX9_fits_20 dX9_fits_23 dX9_fits_24 dX9_fits_27 (fun _ h => absurd h List.not_mem_nil) (Nat.le_of_ble_eq_true rfl) hok1 (fun n h1 h2 => ⟨rfl, rfl, h1, h2, rfl⟩)
set_option maxRecDepth 100000 in
theorem c_X9_fitsW {l : Launch} {s0 : State} {a0 : Array Value} {G : va_G} {ca : Nat → ClassId} (Γ : rt_Γ l s0 a0 G ca) {d : Nat} {w : rt_Wd} (hok : rt_ok w) (hok1 : w.1 + 1 ≤ 600000 ∧ w.2.1 + 6 ≤ 7300000) {x tp op kp tx dr lk tl ft cu sp : Nat} {rp fp : Int32} (hX : w.2.2 x = some (.inr (9, [rt_r s0 tp, rt_r s0 op, rt_r s0 kp, rt_r s0 tx, rt_r s0 dr, rt_r s0 lk, rt_r s0 tl, rt_r s0 ft, rt_r s0 cu, rt_r s0 sp, .int rp, .int fp]))) {p i : Int32} (h0 : ¬ p < 0) (h1 : ¬ 8 ≤ p) (h2 : ¬ i < 0) (h3 : ¬ i < 8) : rt_Met l s0 G (.code yX9_fits cX9_fits 5 (Option.some FieldType.boolean)) yX9_fits d [rt_r s0 x, .int p, .int i] w (rt_tx "java/lang/IndexOutOfBoundsException" w) := by
  refine rt_met Γ kk_X9_fits rfl (Nat.le_of_ble_eq_true rfl) rfl ?_
  refine rt_iload_n dX9_fits_0 rfl (j := 1) rfl ?_
  refine rt_if_lt (tgt := 20) dX9_fits_1 (by decide) (fun c1 => absurd c1 h0) (fun _ => ?_)
  refine rt_iload_n dX9_fits_4 rfl (j := 1) rfl ?_
  refine rt_bipush (v := 8) dX9_fits_5 (by decide) ?_
  refine rt_icmp_ge (tgt := 20) dX9_fits_7 (by decide) (fun c7 => absurd c7 h1) (fun _ => ?_)
  refine rt_iload_n dX9_fits_10 rfl (j := 2) rfl ?_
  refine rt_if_lt (tgt := 20) dX9_fits_11 (by decide) (fun c11 => absurd c11 h2) (fun _ => ?_)
  refine rt_iload_n dX9_fits_14 rfl (j := 2) rfl ?_
  refine rt_bipush (v := 8) dX9_fits_15 (by decide) ?_
  refine rt_icmp_lt (tgt := 28) dX9_fits_17 (by decide) (fun c17 => absurd c17 h3) (fun _ => ?_)
  exact rt_throw0 Γ kt_9i dX9_fits_20 dX9_fits_23 dX9_fits_24 dX9_fits_27 (fun _ h => absurd h List.not_mem_nil) (Nat.le_of_ble_eq_true rfl) hok1 (fun n h1 h2 => ⟨rfl, rfl, h1, h2, rfl⟩)
set_option maxRecDepth 100000 in
theorem c_X9_fitsX {l : Launch} {s0 : State} {a0 : Array Value} {G : va_G} {ca : Nat → ClassId} (Γ : rt_Γ l s0 a0 G ca) {d : Nat} {w : rt_Wd} (hok : rt_ok w) (hok1 : w.1 + 1 ≤ 600000 ∧ w.2.1 + 6 ≤ 7300000) {x tp op kp tx dr lk tl ft cu sp : Nat} {rp fp : Int32} (hX : w.2.2 x = some (.inr (9, [rt_r s0 tp, rt_r s0 op, rt_r s0 kp, rt_r s0 tx, rt_r s0 dr, rt_r s0 lk, rt_r s0 tl, rt_r s0 ft, rt_r s0 cu, rt_r s0 sp, .int rp, .int fp]))) {kf : Nat → Option Nat} (hK : w.2.2 kp = some (.inl (ca 4, 8, .inr (.inr (.inr (.inr kf)))))) {p i : Int32} (h0 : ¬ p < 0) (h1 : ¬ 8 ≤ p) (h2 : ¬ i < 0) (h3 : i < 8) (hk0 : kf p.toNatClampNeg = none) (hk1 : kf i.toNatClampNeg = none) : rt_Met l s0 G (.code yX9_fits cX9_fits 5 (Option.some FieldType.boolean)) yX9_fits d [rt_r s0 x, .int p, .int i] w (rt_tx "java/lang/IllegalStateException" w) := by
  refine rt_met Γ kk_X9_fits rfl (Nat.le_of_ble_eq_true rfl) rfl ?_
  refine rt_iload_n dX9_fits_0 rfl (j := 1) rfl ?_
  refine rt_if_lt (tgt := 20) dX9_fits_1 (by decide) (fun c1 => absurd c1 h0) (fun _ => ?_)
  refine rt_iload_n dX9_fits_4 rfl (j := 1) rfl ?_
  refine rt_bipush (v := 8) dX9_fits_5 (by decide) ?_
  refine rt_icmp_ge (tgt := 20) dX9_fits_7 (by decide) (fun c7 => absurd c7 h1) (fun _ => ?_)
  refine rt_iload_n dX9_fits_10 rfl (j := 2) rfl ?_
  refine rt_if_lt (tgt := 20) dX9_fits_11 (by decide) (fun c11 => absurd c11 h2) (fun _ => ?_)
  refine rt_iload_n dX9_fits_14 rfl (j := 2) rfl ?_
  refine rt_bipush (v := 8) dX9_fits_15 (by decide) ?_
  refine rt_icmp_lt (tgt := 28) dX9_fits_17 (by decide) (fun _ => ?_) (fun c17 => absurd h3 c17)
  refine rt_aload_n dX9_fits_28 rfl (j := 0) rfl ?_
  refine rt_get Γ kf_RX9_23 dX9_fits_29 hX rfl ?_
  refine rt_iload_n dX9_fits_32 rfl (j := 1) rfl ?_
  refine rt_aldq Γ dX9_fits_33 hK (vp_in8 h0 (Int32.not_le.mp h1)) ?_
  rw [hk0]
  refine rt_astoreN_n (lv' := [(3, .null), (0, rt_r s0 x), (1, .int p), (2, .int i)]) dX9_fits_34 rfl (by decide) rfl ?_
  refine rt_aload_n dX9_fits_35 rfl (j := 1) rfl ?_
  refine rt_get Γ kf_RX9_23 dX9_fits_36 hX rfl ?_
  refine rt_iload_n dX9_fits_39 rfl (j := 3) rfl ?_
  refine rt_aldq Γ dX9_fits_40 hK (vp_in8 h2 h3) ?_
  rw [hk1]
  refine rt_astoreN (lv' := [(4, .null), (3, .null), (0, rt_r s0 x), (1, .int p), (2, .int i)]) dX9_fits_41 (by decide) rfl ?_
  refine rt_aloadN_n dX9_fits_43 rfl (j := 1) rfl ?_
  refine rt_ifnullN (tgt := 52) dX9_fits_44 (by decide) ?_
  exact rt_throw0 Γ kt_9s dX9_fits_52 dX9_fits_55 dX9_fits_56 dX9_fits_59 (fun _ h => absurd h List.not_mem_nil) (Nat.le_of_ble_eq_true rfl) hok1 (fun n h1 h2 => ⟨rfl, rfl, h1, h2, rfl⟩)
set_option maxRecDepth 100000 in
theorem c_X9_fitsY {l : Launch} {s0 : State} {a0 : Array Value} {G : va_G} {ca : Nat → ClassId} (Γ : rt_Γ l s0 a0 G ca) {d : Nat} {w : rt_Wd} (hok : rt_ok w) (hok1 : w.1 + 1 ≤ 600000 ∧ w.2.1 + 6 ≤ 7300000) {x tp op kp tx dr lk tl ft cu sp : Nat} {rp fp : Int32} (hX : w.2.2 x = some (.inr (9, [rt_r s0 tp, rt_r s0 op, rt_r s0 kp, rt_r s0 tx, rt_r s0 dr, rt_r s0 lk, rt_r s0 tl, rt_r s0 ft, rt_r s0 cu, rt_r s0 sp, .int rp, .int fp]))) {kf : Nat → Option Nat} (hK : w.2.2 kp = some (.inl (ca 4, 8, .inr (.inr (.inr (.inr kf)))))) {p i : Int32} (h0 : ¬ p < 0) (h1 : ¬ 8 ≤ p) (h2 : ¬ i < 0) (h3 : i < 8) (hk0 : kf p.toNatClampNeg = none) {q : Nat} (hk1 : kf i.toNatClampNeg = some q) : rt_Met l s0 G (.code yX9_fits cX9_fits 5 (Option.some FieldType.boolean)) yX9_fits d [rt_r s0 x, .int p, .int i] w (rt_tx "java/lang/IllegalStateException" w) := by
  refine rt_met Γ kk_X9_fits rfl (Nat.le_of_ble_eq_true rfl) rfl ?_
  refine rt_iload_n dX9_fits_0 rfl (j := 1) rfl ?_
  refine rt_if_lt (tgt := 20) dX9_fits_1 (by decide) (fun c1 => absurd c1 h0) (fun _ => ?_)
  refine rt_iload_n dX9_fits_4 rfl (j := 1) rfl ?_
  refine rt_bipush (v := 8) dX9_fits_5 (by decide) ?_
  refine rt_icmp_ge (tgt := 20) dX9_fits_7 (by decide) (fun c7 => absurd c7 h1) (fun _ => ?_)
  refine rt_iload_n dX9_fits_10 rfl (j := 2) rfl ?_
  refine rt_if_lt (tgt := 20) dX9_fits_11 (by decide) (fun c11 => absurd c11 h2) (fun _ => ?_)
  refine rt_iload_n dX9_fits_14 rfl (j := 2) rfl ?_
  refine rt_bipush (v := 8) dX9_fits_15 (by decide) ?_
  refine rt_icmp_lt (tgt := 28) dX9_fits_17 (by decide) (fun _ => ?_) (fun c17 => absurd h3 c17)
  refine rt_aload_n dX9_fits_28 rfl (j := 0) rfl ?_
  refine rt_get Γ kf_RX9_23 dX9_fits_29 hX rfl ?_
  refine rt_iload_n dX9_fits_32 rfl (j := 1) rfl ?_
  refine rt_aldq Γ dX9_fits_33 hK (vp_in8 h0 (Int32.not_le.mp h1)) ?_
  rw [hk0]
  refine rt_astoreN_n (lv' := [(3, .null), (0, rt_r s0 x), (1, .int p), (2, .int i)]) dX9_fits_34 rfl (by decide) rfl ?_
  refine rt_aload_n dX9_fits_35 rfl (j := 1) rfl ?_
  refine rt_get Γ kf_RX9_23 dX9_fits_36 hX rfl ?_
  refine rt_iload_n dX9_fits_39 rfl (j := 3) rfl ?_
  refine rt_aldq Γ dX9_fits_40 hK (vp_in8 h2 h3) ?_
  rw [hk1]
  refine rt_astoreA (lv' := [(4, .ref q), (3, .null), (0, rt_r s0 x), (1, .int p), (2, .int i)]) dX9_fits_41 (by decide) rfl ?_
  refine rt_aloadN_n dX9_fits_43 rfl (j := 1) rfl ?_
  refine rt_ifnullN (tgt := 52) dX9_fits_44 (by decide) ?_
  exact rt_throw0 Γ kt_9s dX9_fits_52 dX9_fits_55 dX9_fits_56 dX9_fits_59 (fun _ h => absurd h List.not_mem_nil) (Nat.le_of_ble_eq_true rfl) hok1 (fun n h1 h2 => ⟨rfl, rfl, h1, h2, rfl⟩)
set_option maxRecDepth 100000 in
theorem c_X9_fitsZ {l : Launch} {s0 : State} {a0 : Array Value} {G : va_G} {ca : Nat → ClassId} (Γ : rt_Γ l s0 a0 G ca) {d : Nat} {w : rt_Wd} (hok : rt_ok w) (hok1 : w.1 + 1 ≤ 600000 ∧ w.2.1 + 6 ≤ 7300000) {x tp op kp tx dr lk tl ft cu sp : Nat} {rp fp : Int32} (hX : w.2.2 x = some (.inr (9, [rt_r s0 tp, rt_r s0 op, rt_r s0 kp, rt_r s0 tx, rt_r s0 dr, rt_r s0 lk, rt_r s0 tl, rt_r s0 ft, rt_r s0 cu, rt_r s0 sp, .int rp, .int fp]))) {kf : Nat → Option Nat} (hK : w.2.2 kp = some (.inl (ca 4, 8, .inr (.inr (.inr (.inr kf)))))) {p i : Int32} {q : Nat} (h0 : ¬ p < 0) (h1 : ¬ 8 ≤ p) (h2 : ¬ i < 0) (h3 : i < 8) (hk0 : kf p.toNatClampNeg = some q) (hk1 : kf i.toNatClampNeg = none) : rt_Met l s0 G (.code yX9_fits cX9_fits 5 (Option.some FieldType.boolean)) yX9_fits d [rt_r s0 x, .int p, .int i] w (rt_tx "java/lang/IllegalStateException" w) := by
  refine rt_met Γ kk_X9_fits rfl (Nat.le_of_ble_eq_true rfl) rfl ?_
  refine rt_iload_n dX9_fits_0 rfl (j := 1) rfl ?_
  refine rt_if_lt (tgt := 20) dX9_fits_1 (by decide) (fun c1 => absurd c1 h0) (fun _ => ?_)
  refine rt_iload_n dX9_fits_4 rfl (j := 1) rfl ?_
  refine rt_bipush (v := 8) dX9_fits_5 (by decide) ?_
  refine rt_icmp_ge (tgt := 20) dX9_fits_7 (by decide) (fun c7 => absurd c7 h1) (fun _ => ?_)
  refine rt_iload_n dX9_fits_10 rfl (j := 2) rfl ?_
  refine rt_if_lt (tgt := 20) dX9_fits_11 (by decide) (fun c11 => absurd c11 h2) (fun _ => ?_)
  refine rt_iload_n dX9_fits_14 rfl (j := 2) rfl ?_
  refine rt_bipush (v := 8) dX9_fits_15 (by decide) ?_
  refine rt_icmp_lt (tgt := 28) dX9_fits_17 (by decide) (fun _ => ?_) (fun c17 => absurd h3 c17)
  refine rt_aload_n dX9_fits_28 rfl (j := 0) rfl ?_
  refine rt_get Γ kf_RX9_23 dX9_fits_29 hX rfl ?_
  refine rt_iload_n dX9_fits_32 rfl (j := 1) rfl ?_
  refine rt_aldq Γ dX9_fits_33 hK (vp_in8 h0 (Int32.not_le.mp h1)) ?_
  rw [hk0]
  refine rt_astoreA_n (lv' := [(3, .ref q), (0, rt_r s0 x), (1, .int p), (2, .int i)]) dX9_fits_34 rfl (by decide) rfl ?_
  refine rt_aload_n dX9_fits_35 rfl (j := 1) rfl ?_
  refine rt_get Γ kf_RX9_23 dX9_fits_36 hX rfl ?_
  refine rt_iload_n dX9_fits_39 rfl (j := 3) rfl ?_
  refine rt_aldq Γ dX9_fits_40 hK (vp_in8 h2 h3) ?_
  rw [hk1]
  refine rt_astoreN (lv' := [(4, .null), (3, .ref q), (0, rt_r s0 x), (1, .int p), (2, .int i)]) dX9_fits_41 (by decide) rfl ?_
  refine rt_aloadA_n dX9_fits_43 rfl (j := 1) rfl ?_
  refine rt_ifnullA dX9_fits_44 ?_
  refine rt_aloadN dX9_fits_47 (j := 0) rfl ?_
  refine rt_ifnonnullN dX9_fits_49 ?_
  exact rt_throw0 Γ kt_9s dX9_fits_52 dX9_fits_55 dX9_fits_56 dX9_fits_59 (fun _ h => absurd h List.not_mem_nil) (Nat.le_of_ble_eq_true rfl) hok1 (fun n h1 h2 => ⟨rfl, rfl, h1, h2, rfl⟩)
