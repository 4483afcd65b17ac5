/-! ===== throw sites; the small methods of RecordTeller; the law's own calls ===== -/
/-- thrown: an exception of X, nothing else changed -/
abbrev rt_tx (X : String) (w : rt_Wd) : rt_Res → rt_Wd → Prop := fun r w' => r = .inr X ∧ w'.2.2 = w.2.2 ∧ w.1 ≤ w'.1 ∧ w'.1 ≤ w.1 + 1 ∧ w'.2.1 = w.2.1 + 6
section RTx
variable {l : Launch} {s0 : State} {a0 : Array Value} {G : va_G} {ca : Nat → ClassId} {own nm : String} {cc : ByteArray} {nL : Nat} {ret : Option FieldType} {tab : List ExceptionTableEntry} {d : Nat} {w0 w : rt_Wd} {Q : rt_Res → rt_Wd → Prop} {pc : Nat} {lv lv' : List (Nat × Value)} {st : List Value}
theorem rt_xr {X : String} {v9 : rt_Wd} : ∀ (v : Option Value) (w' : rt_Wd), rt_tx X v9 (.inl v) w' → rt_Go l s0 G own nm cc nL ret tab d w0 Q (pc + 3) lv (v.toList ++ st) w' := fun v w' h => nomatch h.1
theorem rt_xx {X : String} {v9 : rt_Wd} (k : ∀ w1 : rt_Wd, w1.2.2 = v9.2.2 → v9.1 ≤ w1.1 → w1.1 ≤ v9.1 + 1 → w1.2.1 = v9.2.1 + 6 → rt_Tx l s0 G own nm cc nL ret tab d w0 Q pc lv X w1) : ∀ (X' : String) (w' : rt_Wd), rt_tx X v9 (.inr X') w' → rt_Tx l s0 G own nm cc nL ret tab d w0 Q pc lv X' w' := by
  rintro X' w' ⟨h1, h2, h3, h4, h5⟩
  cases h1
  exact k w' h2 h3 h4 h5
end RTx
theorem kx_s {l : Launch} {s0 : State} {a0 : Array Value} {G : va_G} {ca : Nat → ClassId} (Γ : rt_Γ l s0 a0 G ca) : va_Nc "java/lang/IllegalStateException" "java/lang/IndexOutOfBoundsException" s0 := va_Nc.of (rt_leaf Γ (List.mem_of_getElem? (i := 51) (by decide +kernel)))
theorem kx_a {l : Launch} {s0 : State} {a0 : Array Value} {G : va_G} {ca : Nat → ClassId} (Γ : rt_Γ l s0 a0 G ca) : va_Nc "java/lang/IllegalArgumentException" "java/lang/IndexOutOfBoundsException" s0 := va_Nc.of (rt_leaf Γ (List.mem_of_getElem? (i := 52) (by decide +kernel)))
set_option maxRecDepth 100000 in
theorem c_X5_count {l : Launch} {s0 : State} {a0 : Array Value} {G : va_G} {ca : Nat → ClassId} (Γ : rt_Γ l s0 a0 G ca) {d : Nat} {w : rt_Wd} (hd : 1 ≤ d) (hok : rt_ok w) {cu : Nat} {by_ sa : Nat} (hR : w.2.2 cu = some (.inr (5, [rt_r s0 by_, rt_r s0 sa]))) {n : Nat} {f : Nat → Int32} {u : Int32} (hC : rt_C s0 ca w sa n f u) : rt_Met l s0 G (.code yX5_count cX5_count 1 (Option.some FieldType.int)) yX5_count d [rt_r s0 cu] w (rt_is (.inl (some (.int u))) w) := by
  refine rt_met Γ kk_X5_count rfl (Nat.le_of_ble_eq_true rfl) rfl ?_
  refine rt_aload_n dX5_count_0 rfl (j := 0) rfl ?_
  refine rt_get Γ kf_RX5_20 dX5_count_1 hR rfl ?_
  refine rt_callV Γ kk_X0_count kc_RX5_26 (c_X0_count Γ (d := d - 1) hC) (by omega) (by decide) (As := []) (show (parseMethodDescriptor yX0_count.desc).map (fun q => q.parameters.length) = some 0 by decide +kernel) hok (Nat.le_of_ble_eq_true rfl) dX5_count_4 hC.1 rfl rfl rfl (rt_kr (st2 := [.int u]) rfl ?_) rt_kx
  exact rt_iret dX5_count_7 rfl (⟨rfl, rfl⟩)
set_option maxRecDepth 100000 in
theorem c_X5_bytes {l : Launch} {s0 : State} {a0 : Array Value} {G : va_G} {ca : Nat → ClassId} (Γ : rt_Γ l s0 a0 G ca) {d : Nat} {w : rt_Wd} {cu : Nat} {by_ sa : Nat} (hR : w.2.2 cu = some (.inr (5, [rt_r s0 by_, rt_r s0 sa]))) : rt_Met l s0 G (.code yX5_bytes cX5_bytes 1 (Option.some (FieldType.object "RecordTeller$Cells"))) yX5_bytes d [rt_r s0 cu] w (rt_is (.inl (some (rt_r s0 by_))) w) := by
  refine rt_met Γ kk_X5_bytes rfl (Nat.le_of_ble_eq_true rfl) rfl ?_
  refine rt_aload_n dX5_bytes_0 rfl (j := 0) rfl ?_
  refine rt_get Γ kf_RX5_14 dX5_bytes_1 hR rfl ?_
  exact rt_aret dX5_bytes_4 rfl (⟨rfl, rfl⟩)
set_option maxRecDepth 100000 in
theorem c_X9_place {l : Launch} {s0 : State} {a0 : Array Value} {G : va_G} {ca : Nat → ClassId} (Γ : rt_Γ l s0 a0 G ca) {d : Nat} {w : rt_Wd} {x tp op kp tx dr lk tl ft cu sp : Nat} {rp fp : Int32} (hX : w.2.2 x = some (.inr (9, [rt_r s0 tp, rt_r s0 op, rt_r s0 kp, rt_r s0 tx, rt_r s0 dr, rt_r s0 lk, rt_r s0 tl, rt_r s0 ft, rt_r s0 cu, rt_r s0 sp, .int rp, .int fp]))) : rt_Met l s0 G (.code yX9_place cX9_place 1 (Option.some FieldType.int)) yX9_place d [rt_r s0 x] w (rt_is (.inl (some (.int fp))) w) := by
  refine rt_met Γ kk_X9_place rfl (Nat.le_of_ble_eq_true rfl) rfl ?_
  refine rt_aload_n dX9_place_0 rfl (j := 0) rfl ?_
  refine rt_get Γ kf_RX9_76 dX9_place_1 hX rfl ?_
  exact rt_iret dX9_place_4 rfl (⟨rfl, rfl⟩)
set_option maxRecDepth 100000 in
theorem c_X9_rows {l : Launch} {s0 : State} {a0 : Array Value} {G : va_G} {ca : Nat → ClassId} (Γ : rt_Γ l s0 a0 G ca) {d : Nat} {w : rt_Wd} (hd : 2 ≤ d) (hok : rt_ok w) {x tp op kp tx dr lk tl ft cu sp : Nat} {rp fp : Int32} (hX : w.2.2 x = some (.inr (9, [rt_r s0 tp, rt_r s0 op, rt_r s0 kp, rt_r s0 tx, rt_r s0 dr, rt_r s0 lk, rt_r s0 tl, rt_r s0 ft, rt_r s0 cu, rt_r s0 sp, .int rp, .int fp]))) {by_ sa : Nat} (hR : w.2.2 cu = some (.inr (5, [rt_r s0 by_, rt_r s0 sa]))) {n : Nat} {f : Nat → Int32} {u : Int32} (hC : rt_C s0 ca w sa n f u) : rt_Met l s0 G (.code yX9_rows cX9_rows 1 (Option.some FieldType.int)) yX9_rows d [rt_r s0 x] w (rt_is (.inl (some (.int u))) w) := by
  refine rt_met Γ kk_X9_rows rfl (Nat.le_of_ble_eq_true rfl) rfl ?_
  refine rt_aload_n dX9_rows_0 rfl (j := 0) rfl ?_
  refine rt_get Γ kf_RX9_65 dX9_rows_1 hX rfl ?_
  refine rt_callV Γ kk_X5_count kc_RX9_121 (c_X5_count Γ (d := d - 1) (by omega) hok hR hC) (by omega) (by decide) (As := []) (show (parseMethodDescriptor yX5_count.desc).map (fun q => q.parameters.length) = some 0 by decide +kernel) hok (Nat.le_of_ble_eq_true rfl) dX9_rows_4 hR rfl rfl rfl (rt_kr (st2 := [.int u]) rfl ?_) rt_kx
  exact rt_iret dX9_rows_7 rfl (⟨rfl, rfl⟩)
set_option maxRecDepth 100000 in
theorem c_X9_bytesOf0 {l : Launch} {s0 : State} {a0 : Array Value} {G : va_G} {ca : Nat → ClassId} (Γ : rt_Γ l s0 a0 G ca) {d : Nat} {w : rt_Wd} (hd : 1 ≤ d) (hok : rt_ok w) {x tp op kp tx dr lk tl ft cu sp : Nat} {rp fp : Int32} (hX : w.2.2 x = some (.inr (9, [rt_r s0 tp, rt_r s0 op, rt_r s0 kp, rt_r s0 tx, rt_r s0 dr, rt_r s0 lk, rt_r s0 tl, rt_r s0 ft, rt_r s0 cu, rt_r s0 sp, .int rp, .int fp]))) {by_ sa : Nat} (hR : w.2.2 cu = some (.inr (5, [rt_r s0 by_, rt_r s0 sa]))) : rt_Met l s0 G (.code yX9_bytesOf cX9_bytesOf 2 (Option.some (FieldType.object "RecordTeller$Cells"))) yX9_bytesOf d [rt_r s0 x, .int 0] w (rt_is (.inl (some (rt_r s0 by_))) w) := by
  refine rt_met Γ kk_X9_bytesOf rfl (Nat.le_of_ble_eq_true rfl) rfl ?_
  refine rt_iload_n dX9_bytesOf_0 rfl (j := 1) rfl ?_
  refine rt_if_ne (tgt := 14) dX9_bytesOf_1 (by decide) (fun c1 => absurd c1 (fun h => h rfl)) (fun _ => ?_)
  refine rt_aload_n dX9_bytesOf_4 rfl (j := 0) rfl ?_
  refine rt_get Γ kf_RX9_65 dX9_bytesOf_5 hX rfl ?_
  refine rt_callV Γ kk_X5_bytes kc_RX9_158 (c_X5_bytes Γ (d := d - 1) hR) (by omega) (by decide) (As := []) (show (parseMethodDescriptor yX5_bytes.desc).map (fun q => q.parameters.length) = some 0 by decide +kernel) hok (Nat.le_of_ble_eq_true rfl) dX9_bytesOf_8 hR rfl rfl rfl (rt_kr (st2 := [rt_r s0 by_]) rfl ?_) rt_kx
  refine rt_goto (tgt := 18) dX9_bytesOf_11 (by decide) ?_
  exact rt_aret dX9_bytesOf_18 rfl (⟨rfl, rfl⟩)
set_option maxRecDepth 100000 in
theorem c_X9_bytesOf1 {l : Launch} {s0 : State} {a0 : Array Value} {G : va_G} {ca : Nat → ClassId} (Γ : rt_Γ l s0 a0 G ca) {d : Nat} {w : rt_Wd} {x tp op kp tx dr lk tl ft cu sp : Nat} {rp fp : Int32} (hX : w.2.2 x = some (.inr (9, [rt_r s0 tp, rt_r s0 op, rt_r s0 kp, rt_r s0 tx, rt_r s0 dr, rt_r s0 lk, rt_r s0 tl, rt_r s0 ft, rt_r s0 cu, rt_r s0 sp, .int rp, .int fp]))) : rt_Met l s0 G (.code yX9_bytesOf cX9_bytesOf 2 (Option.some (FieldType.object "RecordTeller$Cells"))) yX9_bytesOf d [rt_r s0 x, .int 1] w (rt_is (.inl (some (rt_r s0 op))) w) := by
  refine rt_met Γ kk_X9_bytesOf rfl (Nat.le_of_ble_eq_true rfl) rfl ?_
  refine rt_iload_n dX9_bytesOf_0 rfl (j := 1) rfl ?_
  refine rt_if_ne (tgt := 14) dX9_bytesOf_1 (by decide) (fun _ => ?_) (fun c1 => absurd c1 (by decide))
  refine rt_aload_n dX9_bytesOf_14 rfl (j := 0) rfl ?_
  refine rt_get Γ kf_RX9_18 dX9_bytesOf_15 hX rfl ?_
  exact rt_aret dX9_bytesOf_18 rfl (⟨rfl, rfl⟩)
set_option maxRecDepth 100000 in
theorem c_X9_size0 {l : Launch} {s0 : State} {a0 : Array Value} {G : va_G} {ca : Nat → ClassId} (Γ : rt_Γ l s0 a0 G ca) {d : Nat} {w : rt_Wd} (hd : 2 ≤ d) (hok : rt_ok w) {x tp op kp tx dr lk tl ft cu sp : Nat} {rp fp : Int32} (hX : w.2.2 x = some (.inr (9, [rt_r s0 tp, rt_r s0 op, rt_r s0 kp, rt_r s0 tx, rt_r s0 dr, rt_r s0 lk, rt_r s0 tl, rt_r s0 ft, rt_r s0 cu, rt_r s0 sp, .int rp, .int fp]))) {by_ sa : Nat} (hR : w.2.2 cu = some (.inr (5, [rt_r s0 by_, rt_r s0 sa]))) {n : Nat} {f : Nat → Int32} {u : Int32} (hC : rt_C s0 ca w by_ n f u) : rt_Met l s0 G (.code yX9_size cX9_size 2 (Option.some FieldType.int)) yX9_size d [rt_r s0 x, .int 0] w (rt_is (.inl (some (.int u))) w) := by
  refine rt_met Γ kk_X9_size rfl (Nat.le_of_ble_eq_true rfl) rfl ?_
  refine rt_iload_n dX9_size_0 rfl (j := 1) rfl ?_
  refine rt_if_eq (tgt := 17) dX9_size_1 (by decide) (fun _ => ?_) (fun c1 => absurd rfl c1)
  refine rt_aload_n dX9_size_17 rfl (j := 0) rfl ?_
  refine rt_iload_n dX9_size_18 rfl (j := 1) rfl ?_
  refine rt_callV Γ kk_X9_bytesOf kc_RX9_122 (c_X9_bytesOf0 Γ (d := d - 1) (by omega) hok hX hR) (by omega) (by decide) (As := [.int 0]) (show (parseMethodDescriptor yX9_bytesOf.desc).map (fun q => q.parameters.length) = some 1 by decide +kernel) hok (Nat.le_of_ble_eq_true rfl) dX9_size_19 hX rfl rfl rfl (rt_kr (st2 := [rt_r s0 by_]) rfl ?_) rt_kx
  refine rt_callV Γ kk_X0_count kc_RX9_79 (c_X0_count Γ (d := d - 1) hC) (by omega) (by decide) (As := []) (show (parseMethodDescriptor yX0_count.desc).map (fun q => q.parameters.length) = some 0 by decide +kernel) hok (Nat.le_of_ble_eq_true rfl) dX9_size_22 hC.1 rfl rfl rfl (rt_kr (st2 := [.int u]) rfl ?_) rt_kx
  exact rt_iret dX9_size_25 rfl (⟨rfl, rfl⟩)
set_option maxRecDepth 100000 in
theorem c_X9_size1 {l : Launch} {s0 : State} {a0 : Array Value} {G : va_G} {ca : Nat → ClassId} (Γ : rt_Γ l s0 a0 G ca) {d : Nat} {w : rt_Wd} (hd : 2 ≤ d) (hok : rt_ok w) {x tp op kp tx dr lk tl ft cu sp : Nat} {rp fp : Int32} (hX : w.2.2 x = some (.inr (9, [rt_r s0 tp, rt_r s0 op, rt_r s0 kp, rt_r s0 tx, rt_r s0 dr, rt_r s0 lk, rt_r s0 tl, rt_r s0 ft, rt_r s0 cu, rt_r s0 sp, .int rp, .int fp]))) {n : Nat} {f : Nat → Int32} {u : Int32} (hC : rt_C s0 ca w op n f u) : rt_Met l s0 G (.code yX9_size cX9_size 2 (Option.some FieldType.int)) yX9_size d [rt_r s0 x, .int 1] w (rt_is (.inl (some (.int u))) w) := by
  refine rt_met Γ kk_X9_size rfl (Nat.le_of_ble_eq_true rfl) rfl ?_
  refine rt_iload_n dX9_size_0 rfl (j := 1) rfl ?_
  refine rt_if_eq (tgt := 17) dX9_size_1 (by decide) (fun c1 => absurd c1 (by decide)) (fun _ => ?_)
  refine rt_iload_n dX9_size_4 rfl (j := 1) rfl ?_
  refine rt_iconst (v := 1) dX9_size_5 (by decide) ?_
  refine rt_icmp_eq (tgt := 17) dX9_size_6 (by decide) (fun _ => ?_) (fun c6 => absurd rfl c6)
  refine rt_aload_n dX9_size_17 rfl (j := 0) rfl ?_
  refine rt_iload_n dX9_size_18 rfl (j := 1) rfl ?_
  refine rt_callV Γ kk_X9_bytesOf kc_RX9_122 (c_X9_bytesOf1 Γ (d := d - 1) hX) (by omega) (by decide) (As := [.int 1]) (show (parseMethodDescriptor yX9_bytesOf.desc).map (fun q => q.parameters.length) = some 1 by decide +kernel) hok (Nat.le_of_ble_eq_true rfl) dX9_size_19 hX rfl rfl rfl (rt_kr (st2 := [rt_r s0 op]) rfl ?_) rt_kx
  refine rt_callV Γ kk_X0_count kc_RX9_79 (c_X0_count Γ (d := d - 1) hC) (by omega) (by decide) (As := []) (show (parseMethodDescriptor yX0_count.desc).map (fun q => q.parameters.length) = some 0 by decide +kernel) hok (Nat.le_of_ble_eq_true rfl) dX9_size_22 hC.1 rfl rfl rfl (rt_kr (st2 := [.int u]) rfl ?_) rt_kx
  exact rt_iret dX9_size_25 rfl (⟨rfl, rfl⟩)
set_option maxRecDepth 100000 in
theorem c_X9_sizeT {l : Launch} {s0 : State} {a0 : Array Value} {G : va_G} {ca : Nat → ClassId} (Γ : rt_Γ l s0 a0 G ca) {d : Nat} {w : rt_Wd} (hok : rt_ok w) (hok1 : w.1 + 1 ≤ 600000 ∧ w.2.1 + 6 ≤ 7300000) {x tp op kp tx dr lk tl ft cu sp : Nat} {rp fp : Int32} (hX : w.2.2 x = some (.inr (9, [rt_r s0 tp, rt_r s0 op, rt_r s0 kp, rt_r s0 tx, rt_r s0 dr, rt_r s0 lk, rt_r s0 tl, rt_r s0 ft, rt_r s0 cu, rt_r s0 sp, .int rp, .int fp]))) {v : Int32} (h0 : ¬ v = 0) (h1 : ¬ v = 1) : rt_Met l s0 G (.code yX9_size cX9_size 2 (Option.some FieldType.int)) yX9_size d [rt_r s0 x, .int v] w (rt_tx "java/lang/IllegalArgumentException" w) := by
  refine rt_met Γ kk_X9_size rfl (Nat.le_of_ble_eq_true rfl) rfl ?_
  refine rt_iload_n dX9_size_0 rfl (j := 1) rfl ?_
  refine rt_if_eq (tgt := 17) dX9_size_1 (by decide) (fun c1 => absurd c1 h0) (fun _ => ?_)
  refine rt_iload_n dX9_size_4 rfl (j := 1) rfl ?_
  refine rt_iconst (v := 1) dX9_size_5 (by decide) ?_
  refine rt_icmp_eq (tgt := 17) dX9_size_6 (by decide) (fun c6 => absurd c6 h1) (fun _ => ?_)
  exact rt_throw0 Γ kt_9a dX9_size_9 dX9_size_12 dX9_size_13 dX9_size_16 (fun _ h => absurd h List.not_mem_nil) (Nat.le_of_ble_eq_true rfl) hok1 (fun n h1 h2 => ⟨rfl, rfl, h1, h2, rfl⟩)
set_option maxRecDepth 100000 in
theorem c_X9_end {l : Launch} {s0 : State} {a0 : Array Value} {G : va_G} {ca : Nat → ClassId} (Γ : rt_Γ l s0 a0 G ca) {d : Nat} {w : rt_Wd} (hd : 1 ≤ d) (hok : rt_ok w) {x tp op kp tx dr lk tl ft cu sp : Nat} {rp fp : Int32} (hX : w.2.2 x = some (.inr (9, [rt_r s0 tp, rt_r s0 op, rt_r s0 kp, rt_r s0 tx, rt_r s0 dr, rt_r s0 lk, rt_r s0 tl, rt_r s0 ft, rt_r s0 cu, rt_r s0 sp, .int rp, .int fp]))) {n : Nat} {f : Nat → Int32} {u : Int32} (hC : rt_C s0 ca w tp n f u) {v : Int32} (h0 : ¬ v < 0) (h1 : v ≤ u) : rt_Met l s0 G (.code yX9_end cX9_end 2 (Option.none : Option FieldType)) yX9_end d [rt_r s0 x, .int v] w (rt_is (.inl none) (rt_cs s0 ca w tp n f (cl_cut n u v))) := by
  refine rt_met Γ kk_X9_end rfl (Nat.le_of_ble_eq_true rfl) rfl ?_
  refine rt_iload_n dX9_end_0 rfl (j := 1) rfl ?_
  refine rt_if_lt (tgt := 15) dX9_end_1 (by decide) (fun c1 => absurd c1 h0) (fun _ => ?_)
  refine rt_iload_n dX9_end_4 rfl (j := 1) rfl ?_
  refine rt_aload_n dX9_end_5 rfl (j := 0) rfl ?_
  refine rt_get Γ kf_RX9_14 dX9_end_6 hX rfl ?_
  refine rt_callV Γ kk_X0_count kc_RX9_79 (c_X0_count Γ (d := d - 1) hC) (by omega) (by decide) (As := []) (show (parseMethodDescriptor yX0_count.desc).map (fun q => q.parameters.length) = some 0 by decide +kernel) hok (Nat.le_of_ble_eq_true rfl) dX9_end_9 hC.1 rfl rfl rfl (rt_kr (st2 := [.int u, .int v]) rfl ?_) rt_kx
  refine rt_icmp_le (tgt := 23) dX9_end_12 (by decide) (fun _ => ?_) (fun c12 => absurd h1 c12)
  refine rt_aload_n dX9_end_23 rfl (j := 0) rfl ?_
  refine rt_get Γ kf_RX9_14 dX9_end_24 hX rfl ?_
  refine rt_iload_n dX9_end_27 rfl (j := 1) rfl ?_
  refine rt_callV Γ kk_X0_cut kc_RX9_92 (c_X0_cut Γ (d := d - 1) hC) (by omega) (by decide) (As := [.int v]) (show (parseMethodDescriptor yX0_cut.desc).map (fun q => q.parameters.length) = some 1 by decide +kernel) hok (Nat.le_of_ble_eq_true rfl) dX9_end_28 hC.1 rfl rfl rfl (rt_kr (st2 := []) rfl ?_) rt_kx
  exact rt_vret dX9_end_31 rfl (⟨rfl, rfl⟩)
set_option maxRecDepth 100000 in
theorem c_X9_endT {l : Launch} {s0 : State} {a0 : Array Value} {G : va_G} {ca : Nat → ClassId} (Γ : rt_Γ l s0 a0 G ca) {d : Nat} {w : rt_Wd} (hok : rt_ok w) (hok1 : w.1 + 1 ≤ 600000 ∧ w.2.1 + 6 ≤ 7300000) {x tp op kp tx dr lk tl ft cu sp : Nat} {rp fp : Int32} (hX : w.2.2 x = some (.inr (9, [rt_r s0 tp, rt_r s0 op, rt_r s0 kp, rt_r s0 tx, rt_r s0 dr, rt_r s0 lk, rt_r s0 tl, rt_r s0 ft, rt_r s0 cu, rt_r s0 sp, .int rp, .int fp]))) {v : Int32} (h0 : v < 0) : rt_Met l s0 G (.code yX9_end cX9_end 2 (Option.none : Option FieldType)) yX9_end d [rt_r s0 x, .int v] w (rt_tx "java/lang/IllegalArgumentException" w) := by
  refine rt_met Γ kk_X9_end rfl (Nat.le_of_ble_eq_true rfl) rfl ?_
  refine rt_iload_n dX9_end_0 rfl (j := 1) rfl ?_
  refine rt_if_lt (tgt := 15) dX9_end_1 (by decide) (fun _ => ?_) (fun c1 => absurd h0 c1)
  exact rt_throw0 Γ kt_9a dX9_end_15 dX9_end_18 dX9_end_19 dX9_end_22 (fun _ h => absurd h List.not_mem_nil) (Nat.le_of_ble_eq_true rfl) hok1 (fun n h1 h2 => ⟨rfl, rfl, h1, h2, rfl⟩)
set_option maxRecDepth 100000 in
theorem c_X9_endU {l : Launch} {s0 : State} {a0 : Array Value} {G : va_G} {ca : Nat → ClassId} (Γ : rt_Γ l s0 a0 G ca) {d : Nat} {w : rt_Wd} (hd : 1 ≤ d) (hok : rt_ok w) (hok1 : w.1 + 1 ≤ 600000 ∧ w.2.1 + 6 ≤ 7300000) {x tp op kp tx dr lk tl ft cu sp : Nat} {rp fp : Int32} (hX : w.2.2 x = some (.inr (9, [rt_r s0 tp, rt_r s0 op, rt_r s0 kp, rt_r s0 tx, rt_r s0 dr, rt_r s0 lk, rt_r s0 tl, rt_r s0 ft, rt_r s0 cu, rt_r s0 sp, .int rp, .int fp]))) {n : Nat} {f : Nat → Int32} {u : Int32} (hC : rt_C s0 ca w tp n f u) {v : Int32} (h0 : ¬ v < 0) (h1 : ¬ v ≤ u) : rt_Met l s0 G (.code yX9_end cX9_end 2 (Option.none : Option FieldType)) yX9_end d [rt_r s0 x, .int v] w (rt_tx "java/lang/IllegalArgumentException" w) := by
  refine rt_met Γ kk_X9_end rfl (Nat.le_of_ble_eq_true rfl) rfl ?_
  refine rt_iload_n dX9_end_0 rfl (j := 1) rfl ?_
  refine rt_if_lt (tgt := 15) dX9_end_1 (by decide) (fun c1 => absurd c1 h0) (fun _ => ?_)
  refine rt_iload_n dX9_end_4 rfl (j := 1) rfl ?_
  refine rt_aload_n dX9_end_5 rfl (j := 0) rfl ?_
  refine rt_get Γ kf_RX9_14 dX9_end_6 hX rfl ?_
  refine rt_callV Γ kk_X0_count kc_RX9_79 (c_X0_count Γ (d := d - 1) hC) (by omega) (by decide) (As := []) (show (parseMethodDescriptor yX0_count.desc).map (fun q => q.parameters.length) = some 0 by decide +kernel) hok (Nat.le_of_ble_eq_true rfl) dX9_end_9 hC.1 rfl rfl rfl (rt_kr (st2 := [.int u, .int v]) rfl ?_) rt_kx
  refine rt_icmp_le (tgt := 23) dX9_end_12 (by decide) (fun c12 => absurd c12 h1) (fun _ => ?_)
  exact rt_throw0 Γ kt_9a dX9_end_15 dX9_end_18 dX9_end_19 dX9_end_22 (fun _ h => absurd h List.not_mem_nil) (Nat.le_of_ble_eq_true rfl) hok1 (fun n h1 h2 => ⟨rfl, rfl, h1, h2, rfl⟩)
set_option maxRecDepth 100000 in
theorem c_X9_letter0 {l : Launch} {s0 : State} {a0 : Array Value} {G : va_G} {ca : Nat → ClassId} (Γ : rt_Γ l s0 a0 G ca) {d : Nat} {w : rt_Wd} (hd : 2 ≤ d) (hok : rt_ok w) {x tp op kp tx dr lk tl ft cu sp : Nat} {rp fp : Int32} (hX : w.2.2 x = some (.inr (9, [rt_r s0 tp, rt_r s0 op, rt_r s0 kp, rt_r s0 tx, rt_r s0 dr, rt_r s0 lk, rt_r s0 tl, rt_r s0 ft, rt_r s0 cu, rt_r s0 sp, .int rp, .int fp]))) {by_ sa : Nat} (hR : w.2.2 cu = some (.inr (5, [rt_r s0 by_, rt_r s0 sa]))) {n : Nat} {f : Nat → Int32} {u : Int32} (hC : rt_C s0 ca w by_ n f u) {i : Int32} (hn : n < 2 ^ 31) (h0 : ¬ i < 0) (h1 : i < u) : rt_Met l s0 G (.code yX9_letter cX9_letter 4 (Option.some FieldType.int)) yX9_letter d [rt_r s0 x, .int i, .int 0] w (rt_is (.inl (some (.int (cl_at n f i)))) w) := by
  refine rt_met Γ kk_X9_letter rfl (Nat.le_of_ble_eq_true rfl) rfl ?_
  refine rt_iload_n dX9_letter_0 rfl (j := 2) rfl ?_
  refine rt_if_eq (tgt := 17) dX9_letter_1 (by decide) (fun _ => ?_) (fun c1 => absurd rfl c1)
  refine rt_aload_n dX9_letter_17 rfl (j := 0) rfl ?_
  refine rt_iload_n dX9_letter_18 rfl (j := 2) rfl ?_
  refine rt_callV Γ kk_X9_bytesOf kc_RX9_122 (c_X9_bytesOf0 Γ (d := d - 1) (by omega) hok hX hR) (by omega) (by decide) (As := [.int 0]) (show (parseMethodDescriptor yX9_bytesOf.desc).map (fun q => q.parameters.length) = some 1 by decide +kernel) hok (Nat.le_of_ble_eq_true rfl) dX9_letter_19 hX rfl rfl rfl (rt_kr (st2 := [rt_r s0 by_]) rfl ?_) rt_kx
  refine rt_astore_n (lv' := [(3, rt_r s0 by_), (0, rt_r s0 x), (1, .int i), (2, .int 0)]) dX9_letter_22 rfl (by decide) rfl ?_
  refine rt_iload_n dX9_letter_23 rfl (j := 2) rfl ?_
  refine rt_if_lt (tgt := 35) dX9_letter_24 (by decide) (fun c24 => absurd c24 h0) (fun _ => ?_)
  refine rt_iload_n dX9_letter_27 rfl (j := 2) rfl ?_
  refine rt_aload_n dX9_letter_28 rfl (j := 0) rfl ?_
  refine rt_callV Γ kk_X0_count kc_RX9_79 (c_X0_count Γ (d := d - 1) hC) (by omega) (by decide) (As := []) (show (parseMethodDescriptor yX0_count.desc).map (fun q => q.parameters.length) = some 0 by decide +kernel) hok (Nat.le_of_ble_eq_true rfl) dX9_letter_29 hC.1 rfl rfl rfl (rt_kr (st2 := [.int u, .int i]) rfl ?_) rt_kx
  refine rt_icmp_lt (tgt := 43) dX9_letter_32 (by decide) (fun _ => ?_) (fun c32 => absurd h1 c32)
  refine rt_aload_n dX9_letter_43 rfl (j := 0) rfl ?_
  refine rt_iload_n dX9_letter_44 rfl (j := 2) rfl ?_
  refine rt_callV Γ kk_X0_at kc_RX9_126 (c_X0_at Γ (d := d - 1) hC hn) (by omega) (by decide) (As := [.int i]) (show (parseMethodDescriptor yX0_at.desc).map (fun q => q.parameters.length) = some 1 by decide +kernel) hok (Nat.le_of_ble_eq_true rfl) dX9_letter_45 hC.1 rfl rfl rfl (rt_kr (st2 := [.int (cl_at n f i)]) rfl ?_) rt_kx
  exact rt_iret dX9_letter_48 rfl (⟨rfl, rfl⟩)
set_option maxRecDepth 100000 in
theorem c_X9_letter0T {l : Launch} {s0 : State} {a0 : Array Value} {G : va_G} {ca : Nat → ClassId} (Γ : rt_Γ l s0 a0 G ca) {d : Nat} {w : rt_Wd} (hd : 2 ≤ d) (hok : rt_ok w) (hok1 : w.1 + 1 ≤ 600000 ∧ w.2.1 + 6 ≤ 7300000) {x tp op kp tx dr lk tl ft cu sp : Nat} {rp fp : Int32} (hX : w.2.2 x = some (.inr (9, [rt_r s0 tp, rt_r s0 op, rt_r s0 kp, rt_r s0 tx, rt_r s0 dr, rt_r s0 lk, rt_r s0 tl, rt_r s0 ft, rt_r s0 cu, rt_r s0 sp, .int rp, .int fp]))) {by_ sa : Nat} (hR : w.2.2 cu = some (.inr (5, [rt_r s0 by_, rt_r s0 sa]))) {i : Int32} (h0 : i < 0) : rt_Met l s0 G (.code yX9_letter cX9_letter 4 (Option.some FieldType.int)) yX9_letter d [rt_r s0 x, .int i, .int 0] w (rt_tx "java/lang/IndexOutOfBoundsException" w) := by
  refine rt_met Γ kk_X9_letter rfl (Nat.le_of_ble_eq_true rfl) rfl ?_
  refine rt_iload_n dX9_letter_0 rfl (j := 2) rfl ?_
  refine rt_if_eq (tgt := 17) dX9_letter_1 (by decide) (fun _ => ?_) (fun c1 => absurd rfl c1)
  refine rt_aload_n dX9_letter_17 rfl (j := 0) rfl ?_
  refine rt_iload_n dX9_letter_18 rfl (j := 2) rfl ?_
  refine rt_callV Γ kk_X9_bytesOf kc_RX9_122 (c_X9_bytesOf0 Γ (d := d - 1) (by omega) hok hX hR) (by omega) (by decide) (As := [.int 0]) (show (parseMethodDescriptor yX9_bytesOf.desc).map (fun q => q.parameters.length) = some 1 by decide +kernel) hok (Nat.le_of_ble_eq_true rfl) dX9_letter_19 hX rfl rfl rfl (rt_kr (st2 := [rt_r s0 by_]) rfl ?_) rt_kx
  refine rt_astore_n (lv' := [(3, rt_r s0 by_), (0, rt_r s0 x), (1, .int i), (2, .int 0)]) dX9_letter_22 rfl (by decide) rfl ?_
  refine rt_iload_n dX9_letter_23 rfl (j := 2) rfl ?_
  refine rt_if_lt (tgt := 35) dX9_letter_24 (by decide) (fun _ => ?_) (fun c24 => absurd h0 c24)
  exact rt_throw0 Γ kt_9i dX9_letter_35 dX9_letter_38 dX9_letter_39 dX9_letter_42 (fun _ h => absurd h List.not_mem_nil) (Nat.le_of_ble_eq_true rfl) hok1 (fun n h1 h2 => ⟨rfl, rfl, h1, h2, rfl⟩)
set_option maxRecDepth 100000 in
theorem c_X9_letter0U {l : Launch} {s0 : State} {a0 : Array Value} {G : va_G} {ca : Nat → ClassId} (Γ : rt_Γ l s0 a0 G ca) {d : Nat} {w : rt_Wd} (hd : 2 ≤ d) (hok : rt_ok w) (hok1 : w.1 + 1 ≤ 600000 ∧ w.2.1 + 6 ≤ 7300000) {x tp op kp tx dr lk tl ft cu sp : Nat} {rp fp : Int32} (hX : w.2.2 x = some (.inr (9, [rt_r s0 tp, rt_r s0 op, rt_r s0 kp, rt_r s0 tx, rt_r s0 dr, rt_r s0 lk, rt_r s0 tl, rt_r s0 ft, rt_r s0 cu, rt_r s0 sp, .int rp, .int fp]))) {by_ sa : Nat} (hR : w.2.2 cu = some (.inr (5, [rt_r s0 by_, rt_r s0 sa]))) {n : Nat} {f : Nat → Int32} {u : Int32} (hC : rt_C s0 ca w by_ n f u) {i : Int32} (h0 : ¬ i < 0) (h1 : ¬ i < u) : rt_Met l s0 G (.code yX9_letter cX9_letter 4 (Option.some FieldType.int)) yX9_letter d [rt_r s0 x, .int i, .int 0] w (rt_tx "java/lang/IndexOutOfBoundsException" w) := by
  refine rt_met Γ kk_X9_letter rfl (Nat.le_of_ble_eq_true rfl) rfl ?_
  refine rt_iload_n dX9_letter_0 rfl (j := 2) rfl ?_
  refine rt_if_eq (tgt := 17) dX9_letter_1 (by decide) (fun _ => ?_) (fun c1 => absurd rfl c1)
  refine rt_aload_n dX9_letter_17 rfl (j := 0) rfl ?_
  refine rt_iload_n dX9_letter_18 rfl (j := 2) rfl ?_
  refine rt_callV Γ kk_X9_bytesOf kc_RX9_122 (c_X9_bytesOf0 Γ (d := d - 1) (by omega) hok hX hR) (by omega) (by decide) (As := [.int 0]) (show (parseMethodDescriptor yX9_bytesOf.desc).map (fun q => q.parameters.length) = some 1 by decide +kernel) hok (Nat.le_of_ble_eq_true rfl) dX9_letter_19 hX rfl rfl rfl (rt_kr (st2 := [rt_r s0 by_]) rfl ?_) rt_kx
  refine rt_astore_n (lv' := [(3, rt_r s0 by_), (0, rt_r s0 x), (1, .int i), (2, .int 0)]) dX9_letter_22 rfl (by decide) rfl ?_
  refine rt_iload_n dX9_letter_23 rfl (j := 2) rfl ?_
  refine rt_if_lt (tgt := 35) dX9_letter_24 (by decide) (fun c24 => absurd c24 h0) (fun _ => ?_)
  refine rt_iload_n dX9_letter_27 rfl (j := 2) rfl ?_
  refine rt_aload_n dX9_letter_28 rfl (j := 0) rfl ?_
  refine rt_callV Γ kk_X0_count kc_RX9_79 (c_X0_count Γ (d := d - 1) hC) (by omega) (by decide) (As := []) (show (parseMethodDescriptor yX0_count.desc).map (fun q => q.parameters.length) = some 0 by decide +kernel) hok (Nat.le_of_ble_eq_true rfl) dX9_letter_29 hC.1 rfl rfl rfl (rt_kr (st2 := [.int u, .int i]) rfl ?_) rt_kx
  refine rt_icmp_lt (tgt := 43) dX9_letter_32 (by decide) (fun c32 => absurd c32 h1) (fun _ => ?_)
  exact rt_throw0 Γ kt_9i dX9_letter_35 dX9_letter_38 dX9_letter_39 dX9_letter_42 (fun _ h => absurd h List.not_mem_nil) (Nat.le_of_ble_eq_true rfl) hok1 (fun n h1 h2 => ⟨rfl, rfl, h1, h2, rfl⟩)
set_option maxRecDepth 100000 in
theorem c_X9_letter1 {l : Launch} {s0 : State} {a0 : Array Value} {G : va_G} {ca : Nat → ClassId} (Γ : rt_Γ l s0 a0 G ca) {d : Nat} {w : rt_Wd} (hd : 2 ≤ d) (hok : rt_ok w) {x tp op kp tx dr lk tl ft cu sp : Nat} {rp fp : Int32} (hX : w.2.2 x = some (.inr (9, [rt_r s0 tp, rt_r s0 op, rt_r s0 kp, rt_r s0 tx, rt_r s0 dr, rt_r s0 lk, rt_r s0 tl, rt_r s0 ft, rt_r s0 cu, rt_r s0 sp, .int rp, .int fp]))) {n : Nat} {f : Nat → Int32} {u : Int32} (hC : rt_C s0 ca w op n f u) {i : Int32} (hn : n < 2 ^ 31) (h0 : ¬ i < 0) (h1 : i < u) : rt_Met l s0 G (.code yX9_letter cX9_letter 4 (Option.some FieldType.int)) yX9_letter d [rt_r s0 x, .int i, .int 1] w (rt_is (.inl (some (.int (cl_at n f i)))) w) := by
  refine rt_met Γ kk_X9_letter rfl (Nat.le_of_ble_eq_true rfl) rfl ?_
  refine rt_iload_n dX9_letter_0 rfl (j := 2) rfl ?_
  refine rt_if_eq (tgt := 17) dX9_letter_1 (by decide) (fun c1 => absurd c1 (by decide)) (fun _ => ?_)
  refine rt_iload_n dX9_letter_4 rfl (j := 2) rfl ?_
  refine rt_iconst (v := 1) dX9_letter_5 (by decide) ?_
  refine rt_icmp_eq (tgt := 17) dX9_letter_6 (by decide) (fun _ => ?_) (fun c6 => absurd rfl c6)
  refine rt_aload_n dX9_letter_17 rfl (j := 0) rfl ?_
  refine rt_iload_n dX9_letter_18 rfl (j := 2) rfl ?_
  refine rt_callV Γ kk_X9_bytesOf kc_RX9_122 (c_X9_bytesOf1 Γ (d := d - 1) hX) (by omega) (by decide) (As := [.int 1]) (show (parseMethodDescriptor yX9_bytesOf.desc).map (fun q => q.parameters.length) = some 1 by decide +kernel) hok (Nat.le_of_ble_eq_true rfl) dX9_letter_19 hX rfl rfl rfl (rt_kr (st2 := [rt_r s0 op]) rfl ?_) rt_kx
  refine rt_astore_n (lv' := [(3, rt_r s0 op), (0, rt_r s0 x), (1, .int i), (2, .int 1)]) dX9_letter_22 rfl (by decide) rfl ?_
  refine rt_iload_n dX9_letter_23 rfl (j := 2) rfl ?_
  refine rt_if_lt (tgt := 35) dX9_letter_24 (by decide) (fun c24 => absurd c24 h0) (fun _ => ?_)
  refine rt_iload_n dX9_letter_27 rfl (j := 2) rfl ?_
  refine rt_aload_n dX9_letter_28 rfl (j := 0) rfl ?_
  refine rt_callV Γ kk_X0_count kc_RX9_79 (c_X0_count Γ (d := d - 1) hC) (by omega) (by decide) (As := []) (show (parseMethodDescriptor yX0_count.desc).map (fun q => q.parameters.length) = some 0 by decide +kernel) hok (Nat.le_of_ble_eq_true rfl) dX9_letter_29 hC.1 rfl rfl rfl (rt_kr (st2 := [.int u, .int i]) rfl ?_) rt_kx
  refine rt_icmp_lt (tgt := 43) dX9_letter_32 (by decide) (fun _ => ?_) (fun c32 => absurd h1 c32)
  refine rt_aload_n dX9_letter_43 rfl (j := 0) rfl ?_
  refine rt_iload_n dX9_letter_44 rfl (j := 2) rfl ?_
  refine rt_callV Γ kk_X0_at kc_RX9_126 (c_X0_at Γ (d := d - 1) hC hn) (by omega) (by decide) (As := [.int i]) (show (parseMethodDescriptor yX0_at.desc).map (fun q => q.parameters.length) = some 1 by decide +kernel) hok (Nat.le_of_ble_eq_true rfl) dX9_letter_45 hC.1 rfl rfl rfl (rt_kr (st2 := [.int (cl_at n f i)]) rfl ?_) rt_kx
  exact rt_iret dX9_letter_48 rfl (⟨rfl, rfl⟩)
set_option maxRecDepth 100000 in
theorem c_X9_letter1T {l : Launch} {s0 : State} {a0 : Array Value} {G : va_G} {ca : Nat → ClassId} (Γ : rt_Γ l s0 a0 G ca) {d : Nat} {w : rt_Wd} (hd : 2 ≤ d) (hok : rt_ok w) (hok1 : w.1 + 1 ≤ 600000 ∧ w.2.1 + 6 ≤ 7300000) {x tp op kp tx dr lk tl ft cu sp : Nat} {rp fp : Int32} (hX : w.2.2 x = some (.inr (9, [rt_r s0 tp, rt_r s0 op, rt_r s0 kp, rt_r s0 tx, rt_r s0 dr, rt_r s0 lk, rt_r s0 tl, rt_r s0 ft, rt_r s0 cu, rt_r s0 sp, .int rp, .int fp]))) {i : Int32} (h0 : i < 0) : rt_Met l s0 G (.code yX9_letter cX9_letter 4 (Option.some FieldType.int)) yX9_letter d [rt_r s0 x, .int i, .int 1] w (rt_tx "java/lang/IndexOutOfBoundsException" w) := by
  refine rt_met Γ kk_X9_letter rfl (Nat.le_of_ble_eq_true rfl) rfl ?_
  refine rt_iload_n dX9_letter_0 rfl (j := 2) rfl ?_
  refine rt_if_eq (tgt := 17) dX9_letter_1 (by decide) (fun c1 => absurd c1 (by decide)) (fun _ => ?_)
  refine rt_iload_n dX9_letter_4 rfl (j := 2) rfl ?_
  refine rt_iconst (v := 1) dX9_letter_5 (by decide) ?_
  refine rt_icmp_eq (tgt := 17) dX9_letter_6 (by decide) (fun _ => ?_) (fun c6 => absurd rfl c6)
  refine rt_aload_n dX9_letter_17 rfl (j := 0) rfl ?_
  refine rt_iload_n dX9_letter_18 rfl (j := 2) rfl ?_
  refine rt_callV Γ kk_X9_bytesOf kc_RX9_122 (c_X9_bytesOf1 Γ (d := d - 1) hX) (by omega) (by decide) (As := [.int 1]) (show (parseMethodDescriptor yX9_bytesOf.desc).map (fun q => q.parameters.length) = some 1 by decide +kernel) hok (Nat.le_of_ble_eq_true rfl) dX9_letter_19 hX rfl rfl rfl (rt_kr (st2 := [rt_r s0 op]) rfl ?_) rt_kx
  refine rt_astore_n (lv' := [(3, rt_r s0 op), (0, rt_r s0 x), (1, .int i), (2, .int 1)]) dX9_letter_22 rfl (by decide) rfl ?_
  refine rt_iload_n dX9_letter_23 rfl (j := 2) rfl ?_
  refine rt_if_lt (tgt := 35) dX9_letter_24 (by decide) (fun _ => ?_) (fun c24 => absurd h0 c24)
  exact rt_throw0 Γ kt_9i dX9_letter_35 dX9_letter_38 dX9_letter_39 dX9_letter_42 (fun _ h => absurd h List.not_mem_nil) (Nat.le_of_ble_eq_true rfl) hok1 (fun n h1 h2 => ⟨rfl, rfl, h1, h2, rfl⟩)
set_option maxRecDepth 100000 in
theorem c_X9_letter1U {l : Launch} {s0 : State} {a0 : Array Value} {G : va_G} {ca : Nat → ClassId} (Γ : rt_Γ l s0 a0 G ca) {d : Nat} {w : rt_Wd} (hd : 2 ≤ d) (hok : rt_ok w) (hok1 : w.1 + 1 ≤ 600000 ∧ w.2.1 + 6 ≤ 7300000) {x tp op kp tx dr lk tl ft cu sp : Nat} {rp fp : Int32} (hX : w.2.2 x = some (.inr (9, [rt_r s0 tp, rt_r s0 op, rt_r s0 kp, rt_r s0 tx, rt_r s0 dr, rt_r s0 lk, rt_r s0 tl, rt_r s0 ft, rt_r s0 cu, rt_r s0 sp, .int rp, .int fp]))) {n : Nat} {f : Nat → Int32} {u : Int32} (hC : rt_C s0 ca w op n f u) {i : Int32} (h0 : ¬ i < 0) (h1 : ¬ i < u) : rt_Met l s0 G (.code yX9_letter cX9_letter 4 (Option.some FieldType.int)) yX9_letter d [rt_r s0 x, .int i, .int 1] w (rt_tx "java/lang/IndexOutOfBoundsException" w) := by
  refine rt_met Γ kk_X9_letter rfl (Nat.le_of_ble_eq_true rfl) rfl ?_
  refine rt_iload_n dX9_letter_0 rfl (j := 2) rfl ?_
  refine rt_if_eq (tgt := 17) dX9_letter_1 (by decide) (fun c1 => absurd c1 (by decide)) (fun _ => ?_)
  refine rt_iload_n dX9_letter_4 rfl (j := 2) rfl ?_
  refine rt_iconst (v := 1) dX9_letter_5 (by decide) ?_
  refine rt_icmp_eq (tgt := 17) dX9_letter_6 (by decide) (fun _ => ?_) (fun c6 => absurd rfl c6)
  refine rt_aload_n dX9_letter_17 rfl (j := 0) rfl ?_
  refine rt_iload_n dX9_letter_18 rfl (j := 2) rfl ?_
  refine rt_callV Γ kk_X9_bytesOf kc_RX9_122 (c_X9_bytesOf1 Γ (d := d - 1) hX) (by omega) (by decide) (As := [.int 1]) (show (parseMethodDescriptor yX9_bytesOf.desc).map (fun q => q.parameters.length) = some 1 by decide +kernel) hok (Nat.le_of_ble_eq_true rfl) dX9_letter_19 hX rfl rfl rfl (rt_kr (st2 := [rt_r s0 op]) rfl ?_) rt_kx
  refine rt_astore_n (lv' := [(3, rt_r s0 op), (0, rt_r s0 x), (1, .int i), (2, .int 1)]) dX9_letter_22 rfl (by decide) rfl ?_
  refine rt_iload_n dX9_letter_23 rfl (j := 2) rfl ?_
  refine rt_if_lt (tgt := 35) dX9_letter_24 (by decide) (fun c24 => absurd c24 h0) (fun _ => ?_)
  refine rt_iload_n dX9_letter_27 rfl (j := 2) rfl ?_
  refine rt_aload_n dX9_letter_28 rfl (j := 0) rfl ?_
  refine rt_callV Γ kk_X0_count kc_RX9_79 (c_X0_count Γ (d := d - 1) hC) (by omega) (by decide) (As := []) (show (parseMethodDescriptor yX0_count.desc).map (fun q => q.parameters.length) = some 0 by decide +kernel) hok (Nat.le_of_ble_eq_true rfl) dX9_letter_29 hC.1 rfl rfl rfl (rt_kr (st2 := [.int u, .int i]) rfl ?_) rt_kx
  refine rt_icmp_lt (tgt := 43) dX9_letter_32 (by decide) (fun c32 => absurd c32 h1) (fun _ => ?_)
  exact rt_throw0 Γ kt_9i dX9_letter_35 dX9_letter_38 dX9_letter_39 dX9_letter_42 (fun _ h => absurd h List.not_mem_nil) (Nat.le_of_ble_eq_true rfl) hok1 (fun n h1 h2 => ⟨rfl, rfl, h1, h2, rfl⟩)
set_option maxRecDepth 100000 in
theorem c_X9_letterT {l : Launch} {s0 : State} {a0 : Array Value} {G : va_G} {ca : Nat → ClassId} (Γ : rt_Γ l s0 a0 G ca) {d : Nat} {w : rt_Wd} (hok : rt_ok w) (hok1 : w.1 + 1 ≤ 600000 ∧ w.2.1 + 6 ≤ 7300000) {x tp op kp tx dr lk tl ft cu sp : Nat} {rp fp : Int32} (hX : w.2.2 x = some (.inr (9, [rt_r s0 tp, rt_r s0 op, rt_r s0 kp, rt_r s0 tx, rt_r s0 dr, rt_r s0 lk, rt_r s0 tl, rt_r s0 ft, rt_r s0 cu, rt_r s0 sp, .int rp, .int fp]))) {i v : Int32} (h0 : ¬ v = 0) (h1 : ¬ v = 1) : rt_Met l s0 G (.code yX9_letter cX9_letter 4 (Option.some FieldType.int)) yX9_letter d [rt_r s0 x, .int i, .int v] w (rt_tx "java/lang/IllegalArgumentException" w) := by
  refine rt_met Γ kk_X9_letter rfl (Nat.le_of_ble_eq_true rfl) rfl ?_
  refine rt_iload_n dX9_letter_0 rfl (j := 2) rfl ?_
  refine rt_if_eq (tgt := 17) dX9_letter_1 (by decide) (fun c1 => absurd c1 h0) (fun _ => ?_)
  refine rt_iload_n dX9_letter_4 rfl (j := 2) rfl ?_
  refine rt_iconst (v := 1) dX9_letter_5 (by decide) ?_
  refine rt_icmp_eq (tgt := 17) dX9_letter_6 (by decide) (fun c6 => absurd c6 h1) (fun _ => ?_)
  exact rt_throw0 Γ kt_9a dX9_letter_9 dX9_letter_12 dX9_letter_13 dX9_letter_16 (fun _ h => absurd h List.not_mem_nil) (Nat.le_of_ble_eq_true rfl) hok1 (fun n h1 h2 => ⟨rfl, rfl, h1, h2, rfl⟩)
