/-! ===== one call on new objects ===== -/
section RTls
variable {l : Launch} {s0 : State} {a0 : Array Value} {G : va_G} {ca : Nat → ClassId} {own nm : String} {cc : ByteArray} {nL : Nat} {ret : Option FieldType} {tab : List ExceptionTableEntry} {d : Nat} {w0 w : rt_Wd} {Q : rt_Res → rt_Wd → Prop} {pc : Nat} {lv lv' : List (Nat × Value)} {st : List Value}
theorem rt_lfew (ks : List Nat) (h : lv_pick lv ks = lv') (k : rt_Go l s0 G own nm cc nL ret tab d w0 Q pc lv' st w) : rt_Go l s0 G own nm cc nL ret tab d w0 Q pc lv st w :=
  fun p e s m args below meth c E H locs ls hP h1 h2 hS hl => k p e s m args below meth c E H locs ls hP h1 h2 hS (lv_sub hl ks h)
end RTls
theorem i8_le {p : Int32} (h : ¬ p < 8) : 7 < p := by
  rw [Int32.lt_iff_toInt_lt] at h ⊢
  have : (8 : Int32).toInt = 8 := by decide
  have : (7 : Int32).toInt = 7 := by decide
  omega
theorem i8_lt {p : Int32} (h : p < 8) : ¬ 7 < p := by
  rw [Int32.lt_iff_toInt_lt] at h ⊢
  have : (8 : Int32).toInt = 8 := by decide
  have : (7 : Int32).toInt = 7 := by decide
  omega
theorem i8_ge {p : Int32} (h : ¬ p < 8) : 8 ≤ p := Int32.not_lt.mp h
theorem i1_out {v : Int32} (h0 : ¬ v < 0) (h1 : ¬ v = 0) (h2 : ¬ v = 1) : 1 < v := by
  rw [Int32.lt_iff_toInt_lt] at h0 ⊢
  have e0 : ¬ v.toInt = 0 := fun h => h1 (Int32.toInt_inj.mp (by rw [h]; decide))
  have e1 : ¬ v.toInt = 1 := fun h => h2 (Int32.toInt_inj.mp (by rw [h]; decide))
  have z0 : (0 : Int32).toInt = 0 := by decide
  have z1 : (1 : Int32).toInt = 1 := by decide
  omega
theorem im1_lt {i : Int32} (h : ¬ i < 0) : (0 : Int32) - 1 < i := by
  rw [Int32.lt_iff_toInt_lt] at h ⊢
  have z0 : (0 : Int32).toInt = 0 := by decide
  have z1 : ((0 : Int32) - 1).toInt = -1 := by decide
  omega
theorem rt_fs8 {p : Int32} (h0 : ¬ p < 0) (h1 : ¬ 7 < p) : rt_fs 8 p.toNatClampNeg = -1 := by
  obtain ⟨j, hj, rfl⟩ := vp_in_of (vp_in7 h0 h1) (by decide)
  rw [nI_clamp (by omega)]
  simp [rt_fs, hj]
set_option maxRecDepth 100000 in
theorem lw_c0 (s0 : State) (ca : Nat → ClassId) : (lw_W s0 ca).2.2 0 = some (.inr (9, [rt_r s0 1, rt_r s0 3, rt_r s0 5, rt_r s0 6, rt_r s0 24, rt_r s0 53, rt_r s0 54, rt_r s0 59, rt_r s0 64, rt_r s0 69, .int (-1), .int (-1)])) := (rt_ap_at rt_w0 _ _ 0).trans rfl
set_option maxRecDepth 100000 in
theorem lw_c1 (s0 : State) (ca : Nat → ClassId) : (lw_W s0 ca).2.2 1 = some (.inr (0, [rt_r s0 2, .int 0])) := (rt_ap_at rt_w0 _ _ 1).trans rfl
set_option maxRecDepth 100000 in
theorem lw_c2 (s0 : State) (ca : Nat → ClassId) : (lw_W s0 ca).2.2 2 = some (.inl (ca 0, 4096, .inl (fun _ => 0))) := (rt_ap_at rt_w0 _ _ 2).trans rfl
set_option maxRecDepth 100000 in
theorem lw_c3 (s0 : State) (ca : Nat → ClassId) : (lw_W s0 ca).2.2 3 = some (.inr (0, [rt_r s0 4, .int 0])) := (rt_ap_at rt_w0 _ _ 3).trans rfl
set_option maxRecDepth 100000 in
theorem lw_c4 (s0 : State) (ca : Nat → ClassId) : (lw_W s0 ca).2.2 4 = some (.inl (ca 0, 4096, .inl (fun _ => 0))) := (rt_ap_at rt_w0 _ _ 4).trans rfl
set_option maxRecDepth 100000 in
theorem lw_c5 (s0 : State) (ca : Nat → ClassId) : (lw_W s0 ca).2.2 5 = some (.inl (ca 4, 8, .inr (.inr (.inr (.inr (fun _ => none)))))) := (rt_ap_at rt_w0 _ _ 5).trans rfl
set_option maxRecDepth 100000 in
theorem lw_c64 (s0 : State) (ca : Nat → ClassId) : (lw_W s0 ca).2.2 64 = some (.inr (5, [rt_r s0 65, rt_r s0 67])) := (rt_ap_at rt_w0 _ _ 64).trans rfl
set_option maxRecDepth 100000 in
theorem lw_c65 (s0 : State) (ca : Nat → ClassId) : (lw_W s0 ca).2.2 65 = some (.inr (0, [rt_r s0 66, .int 0])) := (rt_ap_at rt_w0 _ _ 65).trans rfl
set_option maxRecDepth 100000 in
theorem lw_c66 (s0 : State) (ca : Nat → ClassId) : (lw_W s0 ca).2.2 66 = some (.inl (ca 0, 4096, .inl (fun _ => 0))) := (rt_ap_at rt_w0 _ _ 66).trans rfl
set_option maxRecDepth 100000 in
theorem lw_c67 (s0 : State) (ca : Nat → ClassId) : (lw_W s0 ca).2.2 67 = some (.inr (0, [rt_r s0 68, .int 0])) := (rt_ap_at rt_w0 _ _ 67).trans rfl
set_option maxRecDepth 100000 in
theorem lw_c68 (s0 : State) (ca : Nat → ClassId) : (lw_W s0 ca).2.2 68 = some (.inl (ca 0, 4096, .inl (fun _ => 0))) := (rt_ap_at rt_w0 _ _ 68).trans rfl
set_option maxRecDepth 100000 in
theorem lw_c74 (s0 : State) (ca : Nat → ClassId) : (lw_W s0 ca).2.2 74 = some (.inr (11, [.int 0, rt_r s0 75, .int 0, .int (-1), rt_r s0 76, rt_r s0 98, rt_r s0 120, rt_r s0 121, rt_r s0 122, .int (-1), .int 0, .int 0, rt_r s0 123, .int 0, rt_r s0 124, .int 0, .int 0, .int 0, .int 0, .int 0, .int 0, rt_r s0 125, rt_r s0 126, .int 0, .int 0, .int 0])) := (rt_ap_at rt_w0 _ _ 74).trans rfl
set_option maxRecDepth 100000 in
theorem lw_c75 (s0 : State) (ca : Nat → ClassId) : (lw_W s0 ca).2.2 75 = some (.inl (ca 1, 4096, .inl (fun _ => 0))) := (rt_ap_at rt_w0 _ _ 75).trans rfl
set_option maxRecDepth 100000 in
theorem lw_c121 (s0 : State) (ca : Nat → ClassId) : (lw_W s0 ca).2.2 121 = some (.inl (ca 0, 8, .inl (rt_fs 8))) := (rt_ap_at rt_w0 _ _ 121).trans rfl
set_option maxRecDepth 100000 in
theorem lw_c127 (s0 : State) (ca : Nat → ClassId) : (lw_W s0 ca).2.2 127 = some (.inl (ca 2, 1, .inr (.inl (fun _ => 0)))) := (rt_ap_at rt_w0 _ _ 127).trans rfl
set_option maxRecDepth 100000 in
theorem lw_W1 (s0 : State) (ca : Nat → ClassId) : (lw_W s0 ca).1 = 128 := rfl
theorem lw_W2 (s0 : State) (ca : Nat → ClassId) : (lw_W s0 ca).2.1 = 296022 := rfl
theorem lw_ok (s0 : State) (ca : Nat → ClassId) : rt_ok (lw_W s0 ca) := ⟨by rw [lw_W1]; omega, by rw [lw_W2]; omega⟩
theorem lw_ok1 (s0 : State) (ca : Nat → ClassId) : (lw_W s0 ca).1 + 1 ≤ 600000 ∧ (lw_W s0 ca).2.1 + 6 ≤ 7300000 := ⟨by rw [lw_W1]; omega, by rw [lw_W2]; omega⟩
theorem lw_okr {s0 : State} {ca : Nat → ClassId} {w : rt_Wd} (h : w.1 ≤ (lw_W s0 ca).1 + 1) (h2 : w.2.1 = (lw_W s0 ca).2.1 + 6) : rt_ok w := by
  rw [lw_W1] at h; rw [lw_W2] at h2; exact ⟨by omega, by omega⟩
theorem lw_tail {l : Launch} {s0 : State} {a0 : Array Value} {G : va_G} {ca : Nat → ClassId} (Γ : rt_Γ l s0 a0 G ca) {nm : String} {tab : List ExceptionTableEntry} {b : Nat} {xs : Nat → Int32} (hX : va_X b 6 xs s0 s0.heap) (hbl : b < s0.heap.size) {w : rt_Wd} (hw : rt_ok w) : rt_Go l s0 G RL nm cL_law 7 (some .boolean) tab 2036 rt_w0 rt_Ql 701 [(4, .int 0), (0, .ref b)] [] w := by
  refine rt_iinc (v := 6) (lv' := [(4, .int 6), (0, .ref b)]) dL_law_701 (j := 0) rfl (by decide) (by decide) rfl ?_
  refine rt_goto (tgt := 23) dL_law_704 (by decide) ?_
  refine rt_iload dL_law_23 (j := 0) rfl ?_
  refine rt_aloadA_n dL_law_25 rfl (j := 1) rfl ?_
  refine rt_slen hX hbl dL_law_26 ?_
  refine rt_bipush (v := 6) dL_law_27 (by decide) ?_
  refine rt_isub dL_law_29 ?_
  refine rt_icmp_gt (tgt := 707) dL_law_30 (by decide) (fun _ => ?_) (fun c30 => absurd (show nI 6 - 6 < 6 by decide) c30)
  refine rt_iconst (v := 1) dL_law_707 (by decide) ?_
  exact rt_zret dL_law_708 rfl rfl (⟨rfl, Nat.le_trans hw.1 (by decide), Nat.le_trans hw.2 (by decide)⟩)
set_option maxRecDepth 100000 in
theorem lw_o_place {l : Launch} {s0 : State} {a0 : Array Value} {G : va_G} {ca : Nat → ClassId} (Γ : rt_Γ l s0 a0 G ca) {nm : String} {tab : List ExceptionTableEntry} {b : Nat} {xs : Nat → Int32} (hX : va_X b 6 xs s0 s0.heap) (hbl : b < s0.heap.size) : rt_Go l s0 G RL nm cL_law 7 (some .boolean) tab 2036 rt_w0 rt_Ql 352 [(4, .int 0), (3, rt_r s0 127), (2, rt_r s0 74), (1, rt_r s0 0), (0, .ref b)] [] (lw_W s0 ca) := by
  refine rt_aload_n dL_law_352 rfl (j := 3) rfl ?_
  refine rt_callV Γ kk_X9_place kc_RL_72 (c_X9_place Γ (d := 2035) (lw_c0 s0 ca)) (by omega) (by decide) (As := []) (show (parseMethodDescriptor yX9_place.desc).map (fun q => q.parameters.length) = some 0 by decide +kernel) (lw_ok s0 ca) (Nat.le_of_ble_eq_true rfl) dL_law_353 (lw_c0 s0 ca) rfl rfl rfl (rt_kr (st2 := [.int (-1)]) rfl ?_) rt_kx
  refine rt_aload_n dL_law_356 rfl (j := 2) rfl ?_
  refine rt_callV Γ kk_X11_place kc_RL_75 (c_X11_place Γ (d := 2035) (lw_c74 s0 ca)) (by omega) (by decide) (As := []) (show (parseMethodDescriptor yX11_place.desc).map (fun q => q.parameters.length) = some 0 by decide +kernel) (lw_ok s0 ca) (Nat.le_of_ble_eq_true rfl) dL_law_357 (lw_c74 s0 ca) rfl rfl rfl (rt_kr (st2 := [.int (-1), .int (-1)]) rfl ?_) rt_kx
  refine rt_icmp_eq (tgt := 701) dL_law_360 (by decide) (fun _ => ?_) (fun c360 => absurd rfl c360)
  exact rt_lfew [0, 4] rfl (lw_tail Γ hX hbl (lw_ok s0 ca))
set_option maxRecDepth 100000 in
theorem lw_o_rows {l : Launch} {s0 : State} {a0 : Array Value} {G : va_G} {ca : Nat → ClassId} (Γ : rt_Γ l s0 a0 G ca) {nm : String} {tab : List ExceptionTableEntry} {b : Nat} {xs : Nat → Int32} (hX : va_X b 6 xs s0 s0.heap) (hbl : b < s0.heap.size) : rt_Go l s0 G RL nm cL_law 7 (some .boolean) tab 2036 rt_w0 rt_Ql 365 [(4, .int 0), (3, rt_r s0 127), (2, rt_r s0 74), (1, rt_r s0 0), (0, .ref b)] [] (lw_W s0 ca) := by
  refine rt_aload_n dL_law_365 rfl (j := 3) rfl ?_
  refine rt_callV Γ kk_X9_rows kc_RL_76 (c_X9_rows Γ (d := 2035) (by omega) (lw_ok s0 ca) (lw_c0 s0 ca) (lw_c64 s0 ca) ⟨lw_c67 s0 ca, lw_c68 s0 ca⟩) (by omega) (by decide) (As := []) (show (parseMethodDescriptor yX9_rows.desc).map (fun q => q.parameters.length) = some 0 by decide +kernel) (lw_ok s0 ca) (Nat.le_of_ble_eq_true rfl) dL_law_366 (lw_c0 s0 ca) rfl rfl rfl (rt_kr (st2 := [.int 0]) rfl ?_) rt_kx
  refine rt_aload_n dL_law_369 rfl (j := 2) rfl ?_
  refine rt_callV Γ kk_X11_rows kc_RL_79 (c_X11_rows Γ (d := 2035) (lw_c74 s0 ca)) (by omega) (by decide) (As := []) (show (parseMethodDescriptor yX11_rows.desc).map (fun q => q.parameters.length) = some 0 by decide +kernel) (lw_ok s0 ca) (Nat.le_of_ble_eq_true rfl) dL_law_370 (lw_c74 s0 ca) rfl rfl rfl (rt_kr (st2 := [.int 0, .int 0]) rfl ?_) rt_kx
  refine rt_icmp_eq (tgt := 701) dL_law_373 (by decide) (fun _ => ?_) (fun c373 => absurd rfl c373)
  exact rt_lfew [0, 4] rfl (lw_tail Γ hX hbl (lw_ok s0 ca))
set_option maxRecDepth 100000 in
theorem lw_o_size0 {l : Launch} {s0 : State} {a0 : Array Value} {G : va_G} {ca : Nat → ClassId} (Γ : rt_Γ l s0 a0 G ca) {nm : String} {tab : List ExceptionTableEntry} {b : Nat} {xs : Nat → Int32} (hX : va_X b 6 xs s0 s0.heap) (hbl : b < s0.heap.size) (hv : (xs ((0 + 1) : Int32).toNatClampNeg) = 0) : rt_Go l s0 G RL nm cL_law 7 (some .boolean) tab 2036 rt_w0 rt_Ql 378 [(4, .int 0), (3, rt_r s0 127), (2, rt_r s0 74), (1, rt_r s0 0), (0, .ref b)] [] (lw_W s0 ca) := by
  refine rt_aload_n dL_law_378 rfl (j := 3) rfl ?_
  refine rt_aloadA_n dL_law_379 rfl (j := 4) rfl ?_
  refine rt_iload dL_law_380 (j := 0) rfl ?_
  refine rt_iconst (v := 1) dL_law_382 (by decide) ?_
  refine rt_iadd dL_law_383 ?_
  refine rt_sld hX hbl dL_law_384 (vp_in_iff.mpr ⟨by decide, by decide⟩) ?_
  refine rt_aload_n dL_law_385 rfl (j := 1) rfl ?_
  rw [hv]
  refine rt_callS Γ kk_L_size kc_RL_80 (c_L_size Γ (d := 2035) (by omega) (lw_ok s0 ca) (lw_c0 s0 ca) (c_X9_size0 Γ (d := 2035 - 1) (by omega) (lw_ok s0 ca) (lw_c0 s0 ca) (lw_c64 s0 ca) ⟨lw_c65 s0 ca, lw_c66 s0 ca⟩) (lw_c127 s0 ca)) (by omega) (by decide) (As := [rt_r s0 0, .int 0, rt_r s0 127]) (show (parseMethodDescriptor yL_size.desc).map (fun q => q.parameters.length) = some 3 by decide +kernel) (lw_ok s0 ca) (Nat.le_of_ble_eq_true rfl) dL_law_386 rfl rfl (rt_kr (st2 := [.int 0]) rfl ?_) rt_kx
  refine rt_istore (lv' := [(5, .int 0), (4, .int 0), (3, rt_r s0 127), (2, rt_r s0 74), (1, rt_r s0 0), (0, .ref b)]) dL_law_389 (by decide) rfl ?_
  refine rt_aload_n dL_law_391 rfl (j := 3) rfl ?_
  refine rt_aloadA_n dL_law_392 rfl (j := 5) rfl ?_
  refine rt_iload dL_law_393 (j := 1) rfl ?_
  refine rt_iconst (v := 1) dL_law_395 (by decide) ?_
  refine rt_iadd dL_law_396 ?_
  refine rt_sld hX hbl dL_law_397 (vp_in_iff.mpr ⟨by decide, by decide⟩) ?_
  rw [hv]
  refine rt_callV Γ kk_X11_size kc_RL_82 (c_X11_size0 Γ (d := 2035) (w := (rt_up (lw_W s0 ca) 127 (.inl (ca 2, 1, .inr (.inl (vp_updL (fun _ => 0) (0 : Int32).toNatClampNeg (0 : Int32).toInt64)))))) (by omega) (lw_ok s0 ca) ((rt_up_n (by decide)).trans (lw_c74 s0 ca))) (by omega) (by decide) (As := [.int 0]) (show (parseMethodDescriptor yX11_size.desc).map (fun q => q.parameters.length) = some 1 by decide +kernel) (lw_ok s0 ca) (Nat.le_of_ble_eq_true rfl) dL_law_398 ((rt_up_n (by decide)).trans (lw_c74 s0 ca)) rfl rfl rfl (rt_kr (st2 := [.int 0]) rfl ?_) rt_kx
  refine rt_istore (lv' := [(6, .int 0), (5, .int 0), (4, .int 0), (3, rt_r s0 127), (2, rt_r s0 74), (1, rt_r s0 0), (0, .ref b)]) dL_law_401 (by decide) rfl ?_
  refine rt_aload_n dL_law_403 rfl (j := 4) rfl ?_
  refine rt_callV Γ kk_X11_thrown kc_RL_57 (c_X11_thrown Γ (d := 2035) (rt_up_s _ _ _)) (by omega) (by decide) (As := []) (show (parseMethodDescriptor yX11_thrown.desc).map (fun q => q.parameters.length) = some 0 by decide +kernel) (lw_ok s0 ca) (Nat.le_of_ble_eq_true rfl) dL_law_404 (rt_up_s _ _ _) rfl rfl rfl (rt_kr (st2 := [.int 0]) rfl ?_) rt_kx
  refine rt_iload dL_law_407 (j := 1) rfl ?_
  refine rt_icmp_eq (tgt := 414) dL_law_409 (by decide) (fun _ => ?_) (fun c409 => absurd rfl c409)
  refine rt_iload dL_law_414 (j := 1) rfl ?_
  refine rt_if_ne (tgt := 431) dL_law_416 (by decide) (fun c416 => absurd c416 (fun h => h rfl)) (fun _ => ?_)
  refine rt_aload_n dL_law_419 rfl (j := 3) rfl ?_
  refine rt_iconst (v := 0) dL_law_420 (by decide) ?_
  refine rt_lald Γ dL_law_421 ((rt_up_n (by decide)).trans (rt_up_s _ _ _)) (vp_in_iff.mpr ⟨by decide, by decide⟩) ?_
  refine rt_iload dL_law_422 (j := 0) rfl ?_
  refine rt_i2l dL_law_424 rfl ?_
  refine rt_lcmp dL_law_425 ?_
  refine rt_if_eq (tgt := 431) dL_law_426 (by decide) (fun _ => ?_) (fun c426 => absurd (by decide) c426)
  refine rt_goto (tgt := 701) dL_law_431 (by decide) ?_
  exact rt_lfew [2, 6] rfl (lw_tail Γ hX hbl (lw_ok s0 ca))
set_option maxRecDepth 100000 in
theorem lw_o_size1 {l : Launch} {s0 : State} {a0 : Array Value} {G : va_G} {ca : Nat → ClassId} (Γ : rt_Γ l s0 a0 G ca) {nm : String} {tab : List ExceptionTableEntry} {b : Nat} {xs : Nat → Int32} (hX : va_X b 6 xs s0 s0.heap) (hbl : b < s0.heap.size) (hv : (xs ((0 + 1) : Int32).toNatClampNeg) = 1) : rt_Go l s0 G RL nm cL_law 7 (some .boolean) tab 2036 rt_w0 rt_Ql 378 [(4, .int 0), (3, rt_r s0 127), (2, rt_r s0 74), (1, rt_r s0 0), (0, .ref b)] [] (lw_W s0 ca) := by
  refine rt_aload_n dL_law_378 rfl (j := 3) rfl ?_
  refine rt_aloadA_n dL_law_379 rfl (j := 4) rfl ?_
  refine rt_iload dL_law_380 (j := 0) rfl ?_
  refine rt_iconst (v := 1) dL_law_382 (by decide) ?_
  refine rt_iadd dL_law_383 ?_
  refine rt_sld hX hbl dL_law_384 (vp_in_iff.mpr ⟨by decide, by decide⟩) ?_
  refine rt_aload_n dL_law_385 rfl (j := 1) rfl ?_
  rw [hv]
  refine rt_callS Γ kk_L_size kc_RL_80 (c_L_size Γ (d := 2035) (by omega) (lw_ok s0 ca) (lw_c0 s0 ca) (c_X9_size1 Γ (d := 2035 - 1) (by omega) (lw_ok s0 ca) (lw_c0 s0 ca) ⟨lw_c3 s0 ca, lw_c4 s0 ca⟩) (lw_c127 s0 ca)) (by omega) (by decide) (As := [rt_r s0 0, .int 1, rt_r s0 127]) (show (parseMethodDescriptor yL_size.desc).map (fun q => q.parameters.length) = some 3 by decide +kernel) (lw_ok s0 ca) (Nat.le_of_ble_eq_true rfl) dL_law_386 rfl rfl (rt_kr (st2 := [.int 0]) rfl ?_) rt_kx
  refine rt_istore (lv' := [(5, .int 0), (4, .int 0), (3, rt_r s0 127), (2, rt_r s0 74), (1, rt_r s0 0), (0, .ref b)]) dL_law_389 (by decide) rfl ?_
  refine rt_aload_n dL_law_391 rfl (j := 3) rfl ?_
  refine rt_aloadA_n dL_law_392 rfl (j := 5) rfl ?_
  refine rt_iload dL_law_393 (j := 1) rfl ?_
  refine rt_iconst (v := 1) dL_law_395 (by decide) ?_
  refine rt_iadd dL_law_396 ?_
  refine rt_sld hX hbl dL_law_397 (vp_in_iff.mpr ⟨by decide, by decide⟩) ?_
  rw [hv]
  refine rt_callV Γ kk_X11_size kc_RL_82 (c_X11_size1 Γ (d := 2035) (w := (rt_up (lw_W s0 ca) 127 (.inl (ca 2, 1, .inr (.inl (vp_updL (fun _ => 0) (0 : Int32).toNatClampNeg (0 : Int32).toInt64)))))) (by omega) (lw_ok s0 ca) ((rt_up_n (by decide)).trans (lw_c74 s0 ca))) (by omega) (by decide) (As := [.int 1]) (show (parseMethodDescriptor yX11_size.desc).map (fun q => q.parameters.length) = some 1 by decide +kernel) (lw_ok s0 ca) (Nat.le_of_ble_eq_true rfl) dL_law_398 ((rt_up_n (by decide)).trans (lw_c74 s0 ca)) rfl rfl rfl (rt_kr (st2 := [.int 0]) rfl ?_) rt_kx
  refine rt_istore (lv' := [(6, .int 0), (5, .int 0), (4, .int 0), (3, rt_r s0 127), (2, rt_r s0 74), (1, rt_r s0 0), (0, .ref b)]) dL_law_401 (by decide) rfl ?_
  refine rt_aload_n dL_law_403 rfl (j := 4) rfl ?_
  refine rt_callV Γ kk_X11_thrown kc_RL_57 (c_X11_thrown Γ (d := 2035) (rt_up_s _ _ _)) (by omega) (by decide) (As := []) (show (parseMethodDescriptor yX11_thrown.desc).map (fun q => q.parameters.length) = some 0 by decide +kernel) (lw_ok s0 ca) (Nat.le_of_ble_eq_true rfl) dL_law_404 (rt_up_s _ _ _) rfl rfl rfl (rt_kr (st2 := [.int 0]) rfl ?_) rt_kx
  refine rt_iload dL_law_407 (j := 1) rfl ?_
  refine rt_icmp_eq (tgt := 414) dL_law_409 (by decide) (fun _ => ?_) (fun c409 => absurd rfl c409)
  refine rt_iload dL_law_414 (j := 1) rfl ?_
  refine rt_if_ne (tgt := 431) dL_law_416 (by decide) (fun c416 => absurd c416 (fun h => h rfl)) (fun _ => ?_)
  refine rt_aload_n dL_law_419 rfl (j := 3) rfl ?_
  refine rt_iconst (v := 0) dL_law_420 (by decide) ?_
  refine rt_lald Γ dL_law_421 ((rt_up_n (by decide)).trans (rt_up_s _ _ _)) (vp_in_iff.mpr ⟨by decide, by decide⟩) ?_
  refine rt_iload dL_law_422 (j := 0) rfl ?_
  refine rt_i2l dL_law_424 rfl ?_
  refine rt_lcmp dL_law_425 ?_
  refine rt_if_eq (tgt := 431) dL_law_426 (by decide) (fun _ => ?_) (fun c426 => absurd (by decide) c426)
  refine rt_goto (tgt := 701) dL_law_431 (by decide) ?_
  exact rt_lfew [2, 6] rfl (lw_tail Γ hX hbl (lw_ok s0 ca))
set_option maxRecDepth 100000 in
theorem lw_o_sizeT {l : Launch} {s0 : State} {a0 : Array Value} {G : va_G} {ca : Nat → ClassId} (Γ : rt_Γ l s0 a0 G ca) {nm : String} {tab : List ExceptionTableEntry} {b : Nat} {xs : Nat → Int32} (hX : va_X b 6 xs s0 s0.heap) (hbl : b < s0.heap.size) (h0 : ¬ (xs ((0 + 1) : Int32).toNatClampNeg) = 0) (h9 : ¬ (xs ((0 + 1) : Int32).toNatClampNeg) = 1) (hn : (xs ((0 + 1) : Int32).toNatClampNeg) < 0) : rt_Go l s0 G RL nm cL_law 7 (some .boolean) tab 2036 rt_w0 rt_Ql 378 [(4, .int 0), (3, rt_r s0 127), (2, rt_r s0 74), (1, rt_r s0 0), (0, .ref b)] [] (lw_W s0 ca) := by
  refine rt_aload_n dL_law_378 rfl (j := 3) rfl ?_
  refine rt_aloadA_n dL_law_379 rfl (j := 4) rfl ?_
  refine rt_iload dL_law_380 (j := 0) rfl ?_
  refine rt_iconst (v := 1) dL_law_382 (by decide) ?_
  refine rt_iadd dL_law_383 ?_
  refine rt_sld hX hbl dL_law_384 (vp_in_iff.mpr ⟨by decide, by decide⟩) ?_
  refine rt_aload_n dL_law_385 rfl (j := 1) rfl ?_
  refine rt_callS Γ kk_L_size kc_RL_80 (c_L_sizeX1 Γ (d := 2035) (by omega) (lw_ok s0 ca) (lw_c0 s0 ca) (c_X9_sizeT Γ (d := 2035 - 1) (lw_ok s0 ca) (lw_ok1 s0 ca) (lw_c0 s0 ca) h0 h9)) (by omega) (by decide) (As := [rt_r s0 0, .int (xs ((0 + 1) : Int32).toNatClampNeg), rt_r s0 127]) (show (parseMethodDescriptor yL_size.desc).map (fun q => q.parameters.length) = some 3 by decide +kernel) (lw_ok s0 ca) (Nat.le_of_ble_eq_true rfl) dL_law_386 rfl rfl (fun v9 w1 hq => ?_) (fun X w1 hq => nomatch hq.1)
  obtain ⟨e1, h1, h2, h3, h4⟩ := hq
  cases e1
  have hk1 : rt_ok w1 := lw_okr h3 h4
  show rt_Go l s0 G RL nm cL_law 7 (some .boolean) tab 2036 rt_w0 rt_Ql (386 + 3) [(4, .int 0), (3, rt_r s0 127), (2, rt_r s0 74), (1, rt_r s0 0), (0, .ref b)] [.int 1] w1
  refine rt_istore (lv' := [(5, .int 1), (4, .int 0), (3, rt_r s0 127), (2, rt_r s0 74), (1, rt_r s0 0), (0, .ref b)]) dL_law_389 (by decide) rfl ?_
  refine rt_aload_n dL_law_391 rfl (j := 3) rfl ?_
  refine rt_aloadA_n dL_law_392 rfl (j := 5) rfl ?_
  refine rt_iload dL_law_393 (j := 1) rfl ?_
  refine rt_iconst (v := 1) dL_law_395 (by decide) ?_
  refine rt_iadd dL_law_396 ?_
  refine rt_sld hX hbl dL_law_397 (vp_in_iff.mpr ⟨by decide, by decide⟩) ?_
  refine rt_callV Γ kk_X11_size kc_RL_82 (c_X11_sizeT Γ (d := 2035) (by omega) hk1 ((congrFun h1 74).trans (lw_c74 s0 ca)) hn) (by omega) (by decide) (As := [.int (xs ((0 + 1) : Int32).toNatClampNeg)]) (show (parseMethodDescriptor yX11_size.desc).map (fun q => q.parameters.length) = some 1 by decide +kernel) hk1 (Nat.le_of_ble_eq_true rfl) dL_law_398 ((congrFun h1 74).trans (lw_c74 s0 ca)) rfl rfl rfl (rt_kr (st2 := [.int 0]) rfl ?_) rt_kx
  refine rt_istore (lv' := [(6, .int 0), (5, .int 1), (4, .int 0), (3, rt_r s0 127), (2, rt_r s0 74), (1, rt_r s0 0), (0, .ref b)]) dL_law_401 (by decide) rfl ?_
  refine rt_aload_n dL_law_403 rfl (j := 4) rfl ?_
  refine rt_callV Γ kk_X11_thrown kc_RL_57 (c_X11_thrown Γ (d := 2035) (rt_up_s _ _ _)) (by omega) (by decide) (As := []) (show (parseMethodDescriptor yX11_thrown.desc).map (fun q => q.parameters.length) = some 0 by decide +kernel) hk1 (Nat.le_of_ble_eq_true rfl) dL_law_404 (rt_up_s _ _ _) rfl rfl rfl (rt_kr (st2 := [.int 1]) rfl ?_) rt_kx
  refine rt_iload dL_law_407 (j := 1) rfl ?_
  refine rt_icmp_eq (tgt := 414) dL_law_409 (by decide) (fun _ => ?_) (fun c409 => absurd rfl c409)
  refine rt_iload dL_law_414 (j := 1) rfl ?_
  refine rt_if_ne (tgt := 431) dL_law_416 (by decide) (fun _ => ?_) (fun c416 => absurd c416 (by decide))
  refine rt_goto (tgt := 701) dL_law_431 (by decide) ?_
  exact rt_lfew [2, 6] rfl (lw_tail Γ hX hbl hk1)
set_option maxRecDepth 100000 in
theorem lw_o_sizeU {l : Launch} {s0 : State} {a0 : Array Value} {G : va_G} {ca : Nat → ClassId} (Γ : rt_Γ l s0 a0 G ca) {nm : String} {tab : List ExceptionTableEntry} {b : Nat} {xs : Nat → Int32} (hX : va_X b 6 xs s0 s0.heap) (hbl : b < s0.heap.size) (h0 : ¬ (xs ((0 + 1) : Int32).toNatClampNeg) = 0) (h9 : ¬ (xs ((0 + 1) : Int32).toNatClampNeg) = 1) (hn : ¬ (xs ((0 + 1) : Int32).toNatClampNeg) < 0) : rt_Go l s0 G RL nm cL_law 7 (some .boolean) tab 2036 rt_w0 rt_Ql 378 [(4, .int 0), (3, rt_r s0 127), (2, rt_r s0 74), (1, rt_r s0 0), (0, .ref b)] [] (lw_W s0 ca) := by
  refine rt_aload_n dL_law_378 rfl (j := 3) rfl ?_
  refine rt_aloadA_n dL_law_379 rfl (j := 4) rfl ?_
  refine rt_iload dL_law_380 (j := 0) rfl ?_
  refine rt_iconst (v := 1) dL_law_382 (by decide) ?_
  refine rt_iadd dL_law_383 ?_
  refine rt_sld hX hbl dL_law_384 (vp_in_iff.mpr ⟨by decide, by decide⟩) ?_
  refine rt_aload_n dL_law_385 rfl (j := 1) rfl ?_
  refine rt_callS Γ kk_L_size kc_RL_80 (c_L_sizeX1 Γ (d := 2035) (by omega) (lw_ok s0 ca) (lw_c0 s0 ca) (c_X9_sizeT Γ (d := 2035 - 1) (lw_ok s0 ca) (lw_ok1 s0 ca) (lw_c0 s0 ca) h0 h9)) (by omega) (by decide) (As := [rt_r s0 0, .int (xs ((0 + 1) : Int32).toNatClampNeg), rt_r s0 127]) (show (parseMethodDescriptor yL_size.desc).map (fun q => q.parameters.length) = some 3 by decide +kernel) (lw_ok s0 ca) (Nat.le_of_ble_eq_true rfl) dL_law_386 rfl rfl (fun v9 w1 hq => ?_) (fun X w1 hq => nomatch hq.1)
  obtain ⟨e1, h1, h2, h3, h4⟩ := hq
  cases e1
  have hk1 : rt_ok w1 := lw_okr h3 h4
  show rt_Go l s0 G RL nm cL_law 7 (some .boolean) tab 2036 rt_w0 rt_Ql (386 + 3) [(4, .int 0), (3, rt_r s0 127), (2, rt_r s0 74), (1, rt_r s0 0), (0, .ref b)] [.int 1] w1
  refine rt_istore (lv' := [(5, .int 1), (4, .int 0), (3, rt_r s0 127), (2, rt_r s0 74), (1, rt_r s0 0), (0, .ref b)]) dL_law_389 (by decide) rfl ?_
  refine rt_aload_n dL_law_391 rfl (j := 3) rfl ?_
  refine rt_aloadA_n dL_law_392 rfl (j := 5) rfl ?_
  refine rt_iload dL_law_393 (j := 1) rfl ?_
  refine rt_iconst (v := 1) dL_law_395 (by decide) ?_
  refine rt_iadd dL_law_396 ?_
  refine rt_sld hX hbl dL_law_397 (vp_in_iff.mpr ⟨by decide, by decide⟩) ?_
  refine rt_callV Γ kk_X11_size kc_RL_82 (c_X11_sizeU Γ (d := 2035) (by omega) hk1 ((congrFun h1 74).trans (lw_c74 s0 ca)) hn (i1_out hn h0 h9)) (by omega) (by decide) (As := [.int (xs ((0 + 1) : Int32).toNatClampNeg)]) (show (parseMethodDescriptor yX11_size.desc).map (fun q => q.parameters.length) = some 1 by decide +kernel) hk1 (Nat.le_of_ble_eq_true rfl) dL_law_398 ((congrFun h1 74).trans (lw_c74 s0 ca)) rfl rfl rfl (rt_kr (st2 := [.int 0]) rfl ?_) rt_kx
  refine rt_istore (lv' := [(6, .int 0), (5, .int 1), (4, .int 0), (3, rt_r s0 127), (2, rt_r s0 74), (1, rt_r s0 0), (0, .ref b)]) dL_law_401 (by decide) rfl ?_
  refine rt_aload_n dL_law_403 rfl (j := 4) rfl ?_
  refine rt_callV Γ kk_X11_thrown kc_RL_57 (c_X11_thrown Γ (d := 2035) (rt_up_s _ _ _)) (by omega) (by decide) (As := []) (show (parseMethodDescriptor yX11_thrown.desc).map (fun q => q.parameters.length) = some 0 by decide +kernel) hk1 (Nat.le_of_ble_eq_true rfl) dL_law_404 (rt_up_s _ _ _) rfl rfl rfl (rt_kr (st2 := [.int 1]) rfl ?_) rt_kx
  refine rt_iload dL_law_407 (j := 1) rfl ?_
  refine rt_icmp_eq (tgt := 414) dL_law_409 (by decide) (fun _ => ?_) (fun c409 => absurd rfl c409)
  refine rt_iload dL_law_414 (j := 1) rfl ?_
  refine rt_if_ne (tgt := 431) dL_law_416 (by decide) (fun _ => ?_) (fun c416 => absurd c416 (by decide))
  refine rt_goto (tgt := 701) dL_law_431 (by decide) ?_
  exact rt_lfew [2, 6] rfl (lw_tail Γ hX hbl hk1)
set_option maxRecDepth 100000 in
theorem lw_o_endT {l : Launch} {s0 : State} {a0 : Array Value} {G : va_G} {ca : Nat → ClassId} (Γ : rt_Γ l s0 a0 G ca) {nm : String} {tab : List ExceptionTableEntry} {b : Nat} {xs : Nat → Int32} (hX : va_X b 6 xs s0 s0.heap) (hbl : b < s0.heap.size) (hn : (xs ((0 + 1) : Int32).toNatClampNeg) < 0) : rt_Go l s0 G RL nm cL_law 7 (some .boolean) tab 2036 rt_w0 rt_Ql 204 [(4, .int 0), (3, rt_r s0 127), (2, rt_r s0 74), (1, rt_r s0 0), (0, .ref b)] [] (lw_W s0 ca) := by
  refine rt_aload_n dL_law_204 rfl (j := 3) rfl ?_
  refine rt_aloadA_n dL_law_205 rfl (j := 4) rfl ?_
  refine rt_iload dL_law_206 (j := 0) rfl ?_
  refine rt_iconst (v := 1) dL_law_208 (by decide) ?_
  refine rt_iadd dL_law_209 ?_
  refine rt_sld hX hbl dL_law_210 (vp_in_iff.mpr ⟨by decide, by decide⟩) ?_
  refine rt_callS Γ kk_L_end kc_RL_61 (c_L_endX1 Γ (d := 2035) (by omega) (lw_ok s0 ca) (lw_c0 s0 ca) (c_X9_endT Γ (d := 2035 - 1) (lw_ok s0 ca) (lw_ok1 s0 ca) (lw_c0 s0 ca) hn)) (by omega) (by decide) (As := [rt_r s0 0, .int (xs ((0 + 1) : Int32).toNatClampNeg)]) (show (parseMethodDescriptor yL_end.desc).map (fun q => q.parameters.length) = some 2 by decide +kernel) (lw_ok s0 ca) (Nat.le_of_ble_eq_true rfl) dL_law_211 rfl rfl (fun v9 w1 hq => ?_) (fun X w1 hq => nomatch hq.1)
  obtain ⟨e1, h1, h2, h3, h4⟩ := hq
  cases e1
  have hk1 : rt_ok w1 := lw_okr h3 h4
  show rt_Go l s0 G RL nm cL_law 7 (some .boolean) tab 2036 rt_w0 rt_Ql (211 + 3) [(4, .int 0), (3, rt_r s0 127), (2, rt_r s0 74), (1, rt_r s0 0), (0, .ref b)] [.int 1] w1
  refine rt_istore (lv' := [(5, .int 1), (4, .int 0), (3, rt_r s0 127), (2, rt_r s0 74), (1, rt_r s0 0), (0, .ref b)]) dL_law_214 (by decide) rfl ?_
  refine rt_aload_n dL_law_216 rfl (j := 3) rfl ?_
  refine rt_aloadA_n dL_law_217 rfl (j := 5) rfl ?_
  refine rt_iload dL_law_218 (j := 1) rfl ?_
  refine rt_iconst (v := 1) dL_law_220 (by decide) ?_
  refine rt_iadd dL_law_221 ?_
  refine rt_sld hX hbl dL_law_222 (vp_in_iff.mpr ⟨by decide, by decide⟩) ?_
  refine rt_callV Γ kk_X11_end kc_RL_64 (c_X11_endT Γ (d := 2035) (by omega) hk1 ((congrFun h1 74).trans (lw_c74 s0 ca)) hn) (by omega) (by decide) (As := [.int (xs ((0 + 1) : Int32).toNatClampNeg)]) (show (parseMethodDescriptor yX11_end.desc).map (fun q => q.parameters.length) = some 1 by decide +kernel) hk1 (Nat.le_of_ble_eq_true rfl) dL_law_223 ((congrFun h1 74).trans (lw_c74 s0 ca)) rfl rfl rfl (rt_kr (st2 := []) rfl ?_) rt_kx
  refine rt_aload_n dL_law_226 rfl (j := 3) rfl ?_
  refine rt_callV Γ kk_X11_thrown kc_RL_57 (c_X11_thrown Γ (d := 2035) (rt_up_s _ _ _)) (by omega) (by decide) (As := []) (show (parseMethodDescriptor yX11_thrown.desc).map (fun q => q.parameters.length) = some 0 by decide +kernel) hk1 (Nat.le_of_ble_eq_true rfl) dL_law_227 (rt_up_s _ _ _) rfl rfl rfl (rt_kr (st2 := [.int 1]) rfl ?_) rt_kx
  refine rt_iload dL_law_230 (j := 0) rfl ?_
  refine rt_icmp_eq (tgt := 237) dL_law_232 (by decide) (fun _ => ?_) (fun c232 => absurd rfl c232)
  refine rt_goto (tgt := 701) dL_law_237 (by decide) ?_
  exact rt_lfew [1, 5] rfl (lw_tail Γ hX hbl hk1)
set_option maxRecDepth 100000 in
theorem lw_o_endU {l : Launch} {s0 : State} {a0 : Array Value} {G : va_G} {ca : Nat → ClassId} (Γ : rt_Γ l s0 a0 G ca) {nm : String} {tab : List ExceptionTableEntry} {b : Nat} {xs : Nat → Int32} (hX : va_X b 6 xs s0 s0.heap) (hbl : b < s0.heap.size) (hn : ¬ (xs ((0 + 1) : Int32).toNatClampNeg) < 0) (h9 : ¬ (xs ((0 + 1) : Int32).toNatClampNeg) ≤ 0) : rt_Go l s0 G RL nm cL_law 7 (some .boolean) tab 2036 rt_w0 rt_Ql 204 [(4, .int 0), (3, rt_r s0 127), (2, rt_r s0 74), (1, rt_r s0 0), (0, .ref b)] [] (lw_W s0 ca) := by
  refine rt_aload_n dL_law_204 rfl (j := 3) rfl ?_
  refine rt_aloadA_n dL_law_205 rfl (j := 4) rfl ?_
  refine rt_iload dL_law_206 (j := 0) rfl ?_
  refine rt_iconst (v := 1) dL_law_208 (by decide) ?_
  refine rt_iadd dL_law_209 ?_
  refine rt_sld hX hbl dL_law_210 (vp_in_iff.mpr ⟨by decide, by decide⟩) ?_
  refine rt_callS Γ kk_L_end kc_RL_61 (c_L_endX1 Γ (d := 2035) (by omega) (lw_ok s0 ca) (lw_c0 s0 ca) (c_X9_endU Γ (d := 2035 - 1) (by omega) (lw_ok s0 ca) (lw_ok1 s0 ca) (lw_c0 s0 ca) ⟨lw_c1 s0 ca, lw_c2 s0 ca⟩ hn h9)) (by omega) (by decide) (As := [rt_r s0 0, .int (xs ((0 + 1) : Int32).toNatClampNeg)]) (show (parseMethodDescriptor yL_end.desc).map (fun q => q.parameters.length) = some 2 by decide +kernel) (lw_ok s0 ca) (Nat.le_of_ble_eq_true rfl) dL_law_211 rfl rfl (fun v9 w1 hq => ?_) (fun X w1 hq => nomatch hq.1)
  obtain ⟨e1, h1, h2, h3, h4⟩ := hq
  cases e1
  have hk1 : rt_ok w1 := lw_okr h3 h4
  show rt_Go l s0 G RL nm cL_law 7 (some .boolean) tab 2036 rt_w0 rt_Ql (211 + 3) [(4, .int 0), (3, rt_r s0 127), (2, rt_r s0 74), (1, rt_r s0 0), (0, .ref b)] [.int 1] w1
  refine rt_istore (lv' := [(5, .int 1), (4, .int 0), (3, rt_r s0 127), (2, rt_r s0 74), (1, rt_r s0 0), (0, .ref b)]) dL_law_214 (by decide) rfl ?_
  refine rt_aload_n dL_law_216 rfl (j := 3) rfl ?_
  refine rt_aloadA_n dL_law_217 rfl (j := 5) rfl ?_
  refine rt_iload dL_law_218 (j := 1) rfl ?_
  refine rt_iconst (v := 1) dL_law_220 (by decide) ?_
  refine rt_iadd dL_law_221 ?_
  refine rt_sld hX hbl dL_law_222 (vp_in_iff.mpr ⟨by decide, by decide⟩) ?_
  refine rt_callV Γ kk_X11_end kc_RL_64 (c_X11_endU Γ (d := 2035) (by omega) hk1 ((congrFun h1 74).trans (lw_c74 s0 ca)) hn (Int32.not_le.mp h9)) (by omega) (by decide) (As := [.int (xs ((0 + 1) : Int32).toNatClampNeg)]) (show (parseMethodDescriptor yX11_end.desc).map (fun q => q.parameters.length) = some 1 by decide +kernel) hk1 (Nat.le_of_ble_eq_true rfl) dL_law_223 ((congrFun h1 74).trans (lw_c74 s0 ca)) rfl rfl rfl (rt_kr (st2 := []) rfl ?_) rt_kx
  refine rt_aload_n dL_law_226 rfl (j := 3) rfl ?_
  refine rt_callV Γ kk_X11_thrown kc_RL_57 (c_X11_thrown Γ (d := 2035) (rt_up_s _ _ _)) (by omega) (by decide) (As := []) (show (parseMethodDescriptor yX11_thrown.desc).map (fun q => q.parameters.length) = some 0 by decide +kernel) hk1 (Nat.le_of_ble_eq_true rfl) dL_law_227 (rt_up_s _ _ _) rfl rfl rfl (rt_kr (st2 := [.int 1]) rfl ?_) rt_kx
  refine rt_iload dL_law_230 (j := 0) rfl ?_
  refine rt_icmp_eq (tgt := 237) dL_law_232 (by decide) (fun _ => ?_) (fun c232 => absurd rfl c232)
  refine rt_goto (tgt := 701) dL_law_237 (by decide) ?_
  exact rt_lfew [1, 5] rfl (lw_tail Γ hX hbl hk1)
set_option maxRecDepth 100000 in
theorem lw_o_end {l : Launch} {s0 : State} {a0 : Array Value} {G : va_G} {ca : Nat → ClassId} (Γ : rt_Γ l s0 a0 G ca) {nm : String} {tab : List ExceptionTableEntry} {b : Nat} {xs : Nat → Int32} (hX : va_X b 6 xs s0 s0.heap) (hbl : b < s0.heap.size) (hn : ¬ (xs ((0 + 1) : Int32).toNatClampNeg) < 0) (h9 : (xs ((0 + 1) : Int32).toNatClampNeg) ≤ 0) : rt_Go l s0 G RL nm cL_law 7 (some .boolean) tab 2036 rt_w0 rt_Ql 204 [(4, .int 0), (3, rt_r s0 127), (2, rt_r s0 74), (1, rt_r s0 0), (0, .ref b)] [] (lw_W s0 ca) := by
  refine rt_aload_n dL_law_204 rfl (j := 3) rfl ?_
  refine rt_aloadA_n dL_law_205 rfl (j := 4) rfl ?_
  refine rt_iload dL_law_206 (j := 0) rfl ?_
  refine rt_iconst (v := 1) dL_law_208 (by decide) ?_
  refine rt_iadd dL_law_209 ?_
  refine rt_sld hX hbl dL_law_210 (vp_in_iff.mpr ⟨by decide, by decide⟩) ?_
  refine rt_callS Γ kk_L_end kc_RL_61 (c_L_end Γ (d := 2035) (by omega) (lw_ok s0 ca) (lw_c0 s0 ca) (c_X9_end Γ (d := 2035 - 1) (by omega) (lw_ok s0 ca) (lw_c0 s0 ca) ⟨lw_c1 s0 ca, lw_c2 s0 ca⟩ hn h9)) (by omega) (by decide) (As := [rt_r s0 0, .int (xs ((0 + 1) : Int32).toNatClampNeg)]) (show (parseMethodDescriptor yL_end.desc).map (fun q => q.parameters.length) = some 2 by decide +kernel) (lw_ok s0 ca) (Nat.le_of_ble_eq_true rfl) dL_law_211 rfl rfl (rt_kr (st2 := [.int 0]) rfl ?_) rt_kx
  refine rt_istore (lv' := [(5, .int 0), (4, .int 0), (3, rt_r s0 127), (2, rt_r s0 74), (1, rt_r s0 0), (0, .ref b)]) dL_law_214 (by decide) rfl ?_
  refine rt_aload_n dL_law_216 rfl (j := 3) rfl ?_
  refine rt_aloadA_n dL_law_217 rfl (j := 5) rfl ?_
  refine rt_iload dL_law_218 (j := 1) rfl ?_
  refine rt_iconst (v := 1) dL_law_220 (by decide) ?_
  refine rt_iadd dL_law_221 ?_
  refine rt_sld hX hbl dL_law_222 (vp_in_iff.mpr ⟨by decide, by decide⟩) ?_
  refine rt_callV Γ kk_X11_end kc_RL_64 (c_X11_end Γ (d := 2035) (w := rt_cs s0 ca (lw_W s0 ca) 1 4096 (fun _ => 0) (cl_cut 4096 0 (xs ((0 + 1) : Int32).toNatClampNeg))) (by omega) (lw_ok s0 ca) ((rt_cs_n (by decide) (by decide)).trans (lw_c74 s0 ca)) hn (Int32.not_lt.mpr h9)) (by omega) (by decide) (As := [.int (xs ((0 + 1) : Int32).toNatClampNeg)]) (show (parseMethodDescriptor yX11_end.desc).map (fun q => q.parameters.length) = some 1 by decide +kernel) (lw_ok s0 ca) (Nat.le_of_ble_eq_true rfl) dL_law_223 ((rt_cs_n (by decide) (by decide)).trans (lw_c74 s0 ca)) rfl rfl rfl (rt_kr (st2 := []) rfl ?_) rt_kx
  refine rt_aload_n dL_law_226 rfl (j := 3) rfl ?_
  refine rt_callV Γ kk_X11_thrown kc_RL_57 (c_X11_thrown Γ (d := 2035) (rt_up_s _ _ _)) (by omega) (by decide) (As := []) (show (parseMethodDescriptor yX11_thrown.desc).map (fun q => q.parameters.length) = some 0 by decide +kernel) (lw_ok s0 ca) (Nat.le_of_ble_eq_true rfl) dL_law_227 (rt_up_s _ _ _) rfl rfl rfl (rt_kr (st2 := [.int 0]) rfl ?_) rt_kx
  refine rt_iload dL_law_230 (j := 0) rfl ?_
  refine rt_icmp_eq (tgt := 237) dL_law_232 (by decide) (fun _ => ?_) (fun c232 => absurd rfl c232)
  refine rt_goto (tgt := 701) dL_law_237 (by decide) ?_
  exact rt_lfew [1, 5] rfl (lw_tail Γ hX hbl (lw_ok s0 ca))
set_option maxRecDepth 100000 in
theorem lw_o_feed {l : Launch} {s0 : State} {a0 : Array Value} {G : va_G} {ca : Nat → ClassId} (Γ : rt_Γ l s0 a0 G ca) {nm : String} {tab : List ExceptionTableEntry} {b : Nat} {xs : Nat → Int32} (hX : va_X b 6 xs s0 s0.heap) (hbl : b < s0.heap.size) : rt_Go l s0 G RL nm cL_law 7 (some .boolean) tab 2036 rt_w0 rt_Ql 100 [(4, .int 0), (3, rt_r s0 127), (2, rt_r s0 74), (1, rt_r s0 0), (0, .ref b)] [] (lw_W s0 ca) := by
  refine rt_aload_n dL_law_100 rfl (j := 3) rfl ?_
  refine rt_aloadA_n dL_law_101 rfl (j := 4) rfl ?_
  refine rt_iload dL_law_102 (j := 0) rfl ?_
  refine rt_iconst (v := 1) dL_law_104 (by decide) ?_
  refine rt_iadd dL_law_105 ?_
  refine rt_sld hX hbl dL_law_106 (vp_in_iff.mpr ⟨by decide, by decide⟩) ?_
  refine rt_aloadA_n dL_law_107 rfl (j := 4) rfl ?_
  refine rt_iload dL_law_108 (j := 0) rfl ?_
  refine rt_iconst (v := 2) dL_law_110 (by decide) ?_
  refine rt_iadd dL_law_111 ?_
  refine rt_sld hX hbl dL_law_112 (vp_in_iff.mpr ⟨by decide, by decide⟩) ?_
  refine rt_aloadA_n dL_law_113 rfl (j := 4) rfl ?_
  refine rt_iload dL_law_114 (j := 0) rfl ?_
  refine rt_iconst (v := 3) dL_law_116 (by decide) ?_
  refine rt_iadd dL_law_117 ?_
  refine rt_sld hX hbl dL_law_118 (vp_in_iff.mpr ⟨by decide, by decide⟩) ?_
  refine rt_aloadA_n dL_law_119 rfl (j := 4) rfl ?_
  refine rt_iload dL_law_120 (j := 0) rfl ?_
  refine rt_iconst (v := 4) dL_law_122 (by decide) ?_
  refine rt_iadd dL_law_123 ?_
  refine rt_sld hX hbl dL_law_124 (vp_in_iff.mpr ⟨by decide, by decide⟩) ?_
  refine rt_aloadA_n dL_law_125 rfl (j := 4) rfl ?_
  refine rt_iload dL_law_126 (j := 0) rfl ?_
  refine rt_iconst (v := 5) dL_law_128 (by decide) ?_
  refine rt_iadd dL_law_129 ?_
  refine rt_sld hX hbl dL_law_130 (vp_in_iff.mpr ⟨by decide, by decide⟩) ?_
  refine rt_aload_n dL_law_131 rfl (j := 1) rfl ?_
  refine rt_callS Γ kk_L_feed kc_RL_51 (c_L_feed Γ (d := 2035) (by omega) (lw_ok s0 ca) (lw_c0 s0 ca) (c_X9_feed Γ (d := 2035 - 1) (k := 0) (by omega) (lw_ok s0 ca) (lw_c0 s0 ca) ⟨lw_c1 s0 ca, lw_c2 s0 ca⟩ (by decide) (by decide) (by decide) (by decide) (by decide)) ((rt_cs_n (by decide) (by decide)).trans (lw_c127 s0 ca))) (by omega) (by decide) (As := [rt_r s0 0, .int (xs ((0 + 1) : Int32).toNatClampNeg), .int (xs ((0 + 2) : Int32).toNatClampNeg), .int (xs ((0 + 3) : Int32).toNatClampNeg), .int (xs ((0 + 4) : Int32).toNatClampNeg), .int (xs ((0 + 5) : Int32).toNatClampNeg), rt_r s0 127]) (show (parseMethodDescriptor yL_feed.desc).map (fun q => q.parameters.length) = some 7 by decide +kernel) (lw_ok s0 ca) (Nat.le_of_ble_eq_true rfl) dL_law_132 rfl rfl (rt_kr (st2 := [.int 0]) rfl ?_) rt_kx
  refine rt_istore (lv' := [(5, .int 0), (4, .int 0), (3, rt_r s0 127), (2, rt_r s0 74), (1, rt_r s0 0), (0, .ref b)]) dL_law_135 (by decide) rfl ?_
  refine rt_aload_n dL_law_137 rfl (j := 3) rfl ?_
  refine rt_aloadA_n dL_law_138 rfl (j := 5) rfl ?_
  refine rt_iload dL_law_139 (j := 1) rfl ?_
  refine rt_iconst (v := 1) dL_law_141 (by decide) ?_
  refine rt_iadd dL_law_142 ?_
  refine rt_sld hX hbl dL_law_143 (vp_in_iff.mpr ⟨by decide, by decide⟩) ?_
  refine rt_aloadA_n dL_law_144 rfl (j := 5) rfl ?_
  refine rt_iload dL_law_145 (j := 1) rfl ?_
  refine rt_iconst (v := 2) dL_law_147 (by decide) ?_
  refine rt_iadd dL_law_148 ?_
  refine rt_sld hX hbl dL_law_149 (vp_in_iff.mpr ⟨by decide, by decide⟩) ?_
  refine rt_aloadA_n dL_law_150 rfl (j := 5) rfl ?_
  refine rt_iload dL_law_151 (j := 1) rfl ?_
  refine rt_iconst (v := 3) dL_law_153 (by decide) ?_
  refine rt_iadd dL_law_154 ?_
  refine rt_sld hX hbl dL_law_155 (vp_in_iff.mpr ⟨by decide, by decide⟩) ?_
  refine rt_aloadA_n dL_law_156 rfl (j := 5) rfl ?_
  refine rt_iload dL_law_157 (j := 1) rfl ?_
  refine rt_iconst (v := 4) dL_law_159 (by decide) ?_
  refine rt_iadd dL_law_160 ?_
  refine rt_sld hX hbl dL_law_161 (vp_in_iff.mpr ⟨by decide, by decide⟩) ?_
  refine rt_aloadA_n dL_law_162 rfl (j := 5) rfl ?_
  refine rt_iload dL_law_163 (j := 1) rfl ?_
  refine rt_iconst (v := 5) dL_law_165 (by decide) ?_
  refine rt_iadd dL_law_166 ?_
  refine rt_sld hX hbl dL_law_167 (vp_in_iff.mpr ⟨by decide, by decide⟩) ?_
  refine rt_callV Γ kk_X11_feed kc_RL_56 (c_X11_feed Γ (d := 2035) (k := 0) (w := (rt_up (rt_cs s0 ca (lw_W s0 ca) 1 4096 (cl_f20 (fun _ => 0) 0 (xs ((0 + 1) : Int32).toNatClampNeg) (xs ((0 + 2) : Int32).toNatClampNeg) (xs ((0 + 3) : Int32).toNatClampNeg) (xs ((0 + 4) : Int32).toNatClampNeg) (xs ((0 + 5) : Int32).toNatClampNeg)) (nI (0 + 20))) 127 (.inl (ca 2, 1, .inr (.inl (vp_updL (fun _ => 0) (0 : Int32).toNatClampNeg (nI (0 + 20)).toInt64)))))) (by omega) (lw_ok s0 ca) ((rt_up_n (by decide)).trans ((rt_cs_n (by decide) (by decide)).trans (lw_c75 s0 ca))) (by decide) ((rt_up_n (by decide)).trans ((rt_cs_n (by decide) (by decide)).trans (lw_c74 s0 ca))) (by decide)) (by omega) (by decide) (As := [.int (xs ((0 + 1) : Int32).toNatClampNeg), .int (xs ((0 + 2) : Int32).toNatClampNeg), .int (xs ((0 + 3) : Int32).toNatClampNeg), .int (xs ((0 + 4) : Int32).toNatClampNeg), .int (xs ((0 + 5) : Int32).toNatClampNeg)]) (show (parseMethodDescriptor yX11_feed.desc).map (fun q => q.parameters.length) = some 5 by decide +kernel) (lw_ok s0 ca) (Nat.le_of_ble_eq_true rfl) dL_law_168 ((rt_up_n (by decide)).trans ((rt_cs_n (by decide) (by decide)).trans (lw_c74 s0 ca))) rfl rfl rfl (rt_kr (st2 := [.int (nI (0 + 20))]) rfl ?_) rt_kx
  refine rt_istore (lv' := [(6, .int (nI (0 + 20))), (5, .int 0), (4, .int 0), (3, rt_r s0 127), (2, rt_r s0 74), (1, rt_r s0 0), (0, .ref b)]) dL_law_171 (by decide) rfl ?_
  refine rt_aload_n dL_law_173 rfl (j := 4) rfl ?_
  refine rt_callV Γ kk_X11_thrown kc_RL_57 (c_X11_thrown Γ (d := 2035) rt_u2_j) (by omega) (by decide) (As := []) (show (parseMethodDescriptor yX11_thrown.desc).map (fun q => q.parameters.length) = some 0 by decide +kernel) (lw_ok s0 ca) (Nat.le_of_ble_eq_true rfl) dL_law_174 rt_u2_j rfl rfl rfl (rt_kr (st2 := [.int 0]) rfl ?_) rt_kx
  refine rt_iload dL_law_177 (j := 1) rfl ?_
  refine rt_icmp_eq (tgt := 184) dL_law_179 (by decide) (fun _ => ?_) (fun c179 => absurd rfl c179)
  refine rt_iload dL_law_184 (j := 1) rfl ?_
  refine rt_if_ne (tgt := 201) dL_law_186 (by decide) (fun c186 => absurd c186 (fun h => h rfl)) (fun _ => ?_)
  refine rt_aload_n dL_law_189 rfl (j := 3) rfl ?_
  refine rt_iconst (v := 0) dL_law_190 (by decide) ?_
  refine rt_lald Γ dL_law_191 ((rt_u2_n (by decide) (by decide)).trans (rt_up_s _ _ _)) (vp_in_iff.mpr ⟨by decide, by decide⟩) ?_
  refine rt_iload dL_law_192 (j := 0) rfl ?_
  refine rt_i2l dL_law_194 rfl ?_
  refine rt_lcmp dL_law_195 ?_
  refine rt_if_eq (tgt := 201) dL_law_196 (by decide) (fun _ => ?_) (fun c196 => absurd (by decide) c196)
  refine rt_goto (tgt := 701) dL_law_201 (by decide) ?_
  exact rt_lfew [2, 6] rfl (lw_tail Γ hX hbl (lw_ok s0 ca))
set_option maxRecDepth 100000 in
theorem lw_o_schemaT {l : Launch} {s0 : State} {a0 : Array Value} {G : va_G} {ca : Nat → ClassId} (Γ : rt_Γ l s0 a0 G ca) {nm : String} {tab : List ExceptionTableEntry} {b : Nat} {xs : Nat → Int32} (hX : va_X b 6 xs s0 s0.heap) (hbl : b < s0.heap.size) (hn : (xs ((0 + 1) : Int32).toNatClampNeg) < 0) : rt_Go l s0 G RL nm cL_law 7 (some .boolean) tab 2036 rt_w0 rt_Ql 240 [(4, .int 0), (3, rt_r s0 127), (2, rt_r s0 74), (1, rt_r s0 0), (0, .ref b)] [] (lw_W s0 ca) := by
  refine rt_aload_n dL_law_240 rfl (j := 3) rfl ?_
  refine rt_aloadA_n dL_law_241 rfl (j := 4) rfl ?_
  refine rt_iload dL_law_242 (j := 0) rfl ?_
  refine rt_iconst (v := 1) dL_law_244 (by decide) ?_
  refine rt_iadd dL_law_245 ?_
  refine rt_sld hX hbl dL_law_246 (vp_in_iff.mpr ⟨by decide, by decide⟩) ?_
  refine rt_aload_n dL_law_247 rfl (j := 1) rfl ?_
  refine rt_callS Γ kk_L_schema kc_RL_65 (c_L_schemaX1 Γ (d := 2035) (by omega) (lw_ok s0 ca) (lw_c0 s0 ca) (c_X9_schemaT Γ (d := 2035 - 1) (lw_ok s0 ca) (lw_ok1 s0 ca) (lw_c0 s0 ca) hn)) (by omega) (by decide) (As := [rt_r s0 0, .int (xs ((0 + 1) : Int32).toNatClampNeg), rt_r s0 127]) (show (parseMethodDescriptor yL_schema.desc).map (fun q => q.parameters.length) = some 3 by decide +kernel) (lw_ok s0 ca) (Nat.le_of_ble_eq_true rfl) dL_law_248 rfl rfl (fun v9 w1 hq => ?_) (fun X w1 hq => nomatch hq.1)
  obtain ⟨e1, h1, h2, h3, h4⟩ := hq
  cases e1
  have hk1 : rt_ok w1 := lw_okr h3 h4
  show rt_Go l s0 G RL nm cL_law 7 (some .boolean) tab 2036 rt_w0 rt_Ql (248 + 3) [(4, .int 0), (3, rt_r s0 127), (2, rt_r s0 74), (1, rt_r s0 0), (0, .ref b)] [.int 1] w1
  refine rt_istore (lv' := [(5, .int 1), (4, .int 0), (3, rt_r s0 127), (2, rt_r s0 74), (1, rt_r s0 0), (0, .ref b)]) dL_law_251 (by decide) rfl ?_
  refine rt_aload_n dL_law_253 rfl (j := 3) rfl ?_
  refine rt_aloadA_n dL_law_254 rfl (j := 5) rfl ?_
  refine rt_iload dL_law_255 (j := 1) rfl ?_
  refine rt_iconst (v := 1) dL_law_257 (by decide) ?_
  refine rt_iadd dL_law_258 ?_
  refine rt_sld hX hbl dL_law_259 (vp_in_iff.mpr ⟨by decide, by decide⟩) ?_
  refine rt_callV Γ kk_X11_schema kc_RL_68 (c_X11_schemaT Γ (d := 2035) (by omega) hk1 ((congrFun h1 74).trans (lw_c74 s0 ca)) hn) (by omega) (by decide) (As := [.int (xs ((0 + 1) : Int32).toNatClampNeg)]) (show (parseMethodDescriptor yX11_schema.desc).map (fun q => q.parameters.length) = some 1 by decide +kernel) hk1 (Nat.le_of_ble_eq_true rfl) dL_law_260 ((congrFun h1 74).trans (lw_c74 s0 ca)) rfl rfl rfl (rt_kr (st2 := [.int 0]) rfl ?_) rt_kx
  refine rt_istore (lv' := [(6, .int 0), (5, .int 1), (4, .int 0), (3, rt_r s0 127), (2, rt_r s0 74), (1, rt_r s0 0), (0, .ref b)]) dL_law_263 (by decide) rfl ?_
  refine rt_aload_n dL_law_265 rfl (j := 4) rfl ?_
  refine rt_callV Γ kk_X11_thrown kc_RL_57 (c_X11_thrown Γ (d := 2035) (rt_up_s _ _ _)) (by omega) (by decide) (As := []) (show (parseMethodDescriptor yX11_thrown.desc).map (fun q => q.parameters.length) = some 0 by decide +kernel) hk1 (Nat.le_of_ble_eq_true rfl) dL_law_266 (rt_up_s _ _ _) rfl rfl rfl (rt_kr (st2 := [.int 1]) rfl ?_) rt_kx
  refine rt_iload dL_law_269 (j := 1) rfl ?_
  refine rt_icmp_eq (tgt := 276) dL_law_271 (by decide) (fun _ => ?_) (fun c271 => absurd rfl c271)
  refine rt_iload dL_law_276 (j := 1) rfl ?_
  refine rt_if_ne (tgt := 293) dL_law_278 (by decide) (fun _ => ?_) (fun c278 => absurd c278 (by decide))
  refine rt_goto (tgt := 701) dL_law_293 (by decide) ?_
  exact rt_lfew [2, 6] rfl (lw_tail Γ hX hbl hk1)
set_option maxRecDepth 100000 in
theorem lw_o_schemaU {l : Launch} {s0 : State} {a0 : Array Value} {G : va_G} {ca : Nat → ClassId} (Γ : rt_Γ l s0 a0 G ca) {nm : String} {tab : List ExceptionTableEntry} {b : Nat} {xs : Nat → Int32} (hX : va_X b 6 xs s0 s0.heap) (hbl : b < s0.heap.size) (hn : ¬ (xs ((0 + 1) : Int32).toNatClampNeg) < 0) (h9 : ¬ (xs ((0 + 1) : Int32).toNatClampNeg) < 8) : rt_Go l s0 G RL nm cL_law 7 (some .boolean) tab 2036 rt_w0 rt_Ql 240 [(4, .int 0), (3, rt_r s0 127), (2, rt_r s0 74), (1, rt_r s0 0), (0, .ref b)] [] (lw_W s0 ca) := by
  refine rt_aload_n dL_law_240 rfl (j := 3) rfl ?_
  refine rt_aloadA_n dL_law_241 rfl (j := 4) rfl ?_
  refine rt_iload dL_law_242 (j := 0) rfl ?_
  refine rt_iconst (v := 1) dL_law_244 (by decide) ?_
  refine rt_iadd dL_law_245 ?_
  refine rt_sld hX hbl dL_law_246 (vp_in_iff.mpr ⟨by decide, by decide⟩) ?_
  refine rt_aload_n dL_law_247 rfl (j := 1) rfl ?_
  refine rt_callS Γ kk_L_schema kc_RL_65 (c_L_schemaX1 Γ (d := 2035) (by omega) (lw_ok s0 ca) (lw_c0 s0 ca) (c_X9_schemaU Γ (d := 2035 - 1) (lw_ok s0 ca) (lw_ok1 s0 ca) (lw_c0 s0 ca) hn h9)) (by omega) (by decide) (As := [rt_r s0 0, .int (xs ((0 + 1) : Int32).toNatClampNeg), rt_r s0 127]) (show (parseMethodDescriptor yL_schema.desc).map (fun q => q.parameters.length) = some 3 by decide +kernel) (lw_ok s0 ca) (Nat.le_of_ble_eq_true rfl) dL_law_248 rfl rfl (fun v9 w1 hq => ?_) (fun X w1 hq => nomatch hq.1)
  obtain ⟨e1, h1, h2, h3, h4⟩ := hq
  cases e1
  have hk1 : rt_ok w1 := lw_okr h3 h4
  show rt_Go l s0 G RL nm cL_law 7 (some .boolean) tab 2036 rt_w0 rt_Ql (248 + 3) [(4, .int 0), (3, rt_r s0 127), (2, rt_r s0 74), (1, rt_r s0 0), (0, .ref b)] [.int 1] w1
  refine rt_istore (lv' := [(5, .int 1), (4, .int 0), (3, rt_r s0 127), (2, rt_r s0 74), (1, rt_r s0 0), (0, .ref b)]) dL_law_251 (by decide) rfl ?_
  refine rt_aload_n dL_law_253 rfl (j := 3) rfl ?_
  refine rt_aloadA_n dL_law_254 rfl (j := 5) rfl ?_
  refine rt_iload dL_law_255 (j := 1) rfl ?_
  refine rt_iconst (v := 1) dL_law_257 (by decide) ?_
  refine rt_iadd dL_law_258 ?_
  refine rt_sld hX hbl dL_law_259 (vp_in_iff.mpr ⟨by decide, by decide⟩) ?_
  refine rt_callV Γ kk_X11_schema kc_RL_68 (c_X11_schemaU Γ (d := 2035) (by omega) hk1 ((congrFun h1 74).trans (lw_c74 s0 ca)) hn (i8_le h9)) (by omega) (by decide) (As := [.int (xs ((0 + 1) : Int32).toNatClampNeg)]) (show (parseMethodDescriptor yX11_schema.desc).map (fun q => q.parameters.length) = some 1 by decide +kernel) hk1 (Nat.le_of_ble_eq_true rfl) dL_law_260 ((congrFun h1 74).trans (lw_c74 s0 ca)) rfl rfl rfl (rt_kr (st2 := [.int 0]) rfl ?_) rt_kx
  refine rt_istore (lv' := [(6, .int 0), (5, .int 1), (4, .int 0), (3, rt_r s0 127), (2, rt_r s0 74), (1, rt_r s0 0), (0, .ref b)]) dL_law_263 (by decide) rfl ?_
  refine rt_aload_n dL_law_265 rfl (j := 4) rfl ?_
  refine rt_callV Γ kk_X11_thrown kc_RL_57 (c_X11_thrown Γ (d := 2035) (rt_up_s _ _ _)) (by omega) (by decide) (As := []) (show (parseMethodDescriptor yX11_thrown.desc).map (fun q => q.parameters.length) = some 0 by decide +kernel) hk1 (Nat.le_of_ble_eq_true rfl) dL_law_266 (rt_up_s _ _ _) rfl rfl rfl (rt_kr (st2 := [.int 1]) rfl ?_) rt_kx
  refine rt_iload dL_law_269 (j := 1) rfl ?_
  refine rt_icmp_eq (tgt := 276) dL_law_271 (by decide) (fun _ => ?_) (fun c271 => absurd rfl c271)
  refine rt_iload dL_law_276 (j := 1) rfl ?_
  refine rt_if_ne (tgt := 293) dL_law_278 (by decide) (fun _ => ?_) (fun c278 => absurd c278 (by decide))
  refine rt_goto (tgt := 701) dL_law_293 (by decide) ?_
  exact rt_lfew [2, 6] rfl (lw_tail Γ hX hbl hk1)
set_option maxRecDepth 100000 in
theorem lw_o_loadT {l : Launch} {s0 : State} {a0 : Array Value} {G : va_G} {ca : Nat → ClassId} (Γ : rt_Γ l s0 a0 G ca) {nm : String} {tab : List ExceptionTableEntry} {b : Nat} {xs : Nat → Int32} (hX : va_X b 6 xs s0 s0.heap) (hbl : b < s0.heap.size) (hn : (xs ((0 + 1) : Int32).toNatClampNeg) < 0) : rt_Go l s0 G RL nm cL_law 7 (some .boolean) tab 2036 rt_w0 rt_Ql 296 [(4, .int 0), (3, rt_r s0 127), (2, rt_r s0 74), (1, rt_r s0 0), (0, .ref b)] [] (lw_W s0 ca) := by
  refine rt_aload_n dL_law_296 rfl (j := 3) rfl ?_
  refine rt_aloadA_n dL_law_297 rfl (j := 4) rfl ?_
  refine rt_iload dL_law_298 (j := 0) rfl ?_
  refine rt_iconst (v := 1) dL_law_300 (by decide) ?_
  refine rt_iadd dL_law_301 ?_
  refine rt_sld hX hbl dL_law_302 (vp_in_iff.mpr ⟨by decide, by decide⟩) ?_
  refine rt_aload_n dL_law_303 rfl (j := 1) rfl ?_
  refine rt_callS Γ kk_L_load kc_RL_69 (c_L_loadX1 Γ (d := 2035) (by omega) (lw_ok s0 ca) (lw_c0 s0 ca) (c_X9_loadT Γ (d := 2035 - 1) (lw_ok s0 ca) (lw_ok1 s0 ca) (lw_c0 s0 ca) hn)) (by omega) (by decide) (As := [rt_r s0 0, .int (xs ((0 + 1) : Int32).toNatClampNeg), rt_r s0 127]) (show (parseMethodDescriptor yL_load.desc).map (fun q => q.parameters.length) = some 3 by decide +kernel) (lw_ok s0 ca) (Nat.le_of_ble_eq_true rfl) dL_law_304 rfl rfl (fun v9 w1 hq => ?_) (fun X w1 hq => nomatch hq.1)
  obtain ⟨e1, h1, h2, h3, h4⟩ := hq
  cases e1
  have hk1 : rt_ok w1 := lw_okr h3 h4
  show rt_Go l s0 G RL nm cL_law 7 (some .boolean) tab 2036 rt_w0 rt_Ql (304 + 3) [(4, .int 0), (3, rt_r s0 127), (2, rt_r s0 74), (1, rt_r s0 0), (0, .ref b)] [.int 1] w1
  refine rt_istore (lv' := [(5, .int 1), (4, .int 0), (3, rt_r s0 127), (2, rt_r s0 74), (1, rt_r s0 0), (0, .ref b)]) dL_law_307 (by decide) rfl ?_
  refine rt_aload_n dL_law_309 rfl (j := 3) rfl ?_
  refine rt_aloadA_n dL_law_310 rfl (j := 5) rfl ?_
  refine rt_iload dL_law_311 (j := 1) rfl ?_
  refine rt_iconst (v := 1) dL_law_313 (by decide) ?_
  refine rt_iadd dL_law_314 ?_
  refine rt_sld hX hbl dL_law_315 (vp_in_iff.mpr ⟨by decide, by decide⟩) ?_
  refine rt_callV Γ kk_X11_load kc_RL_71 (c_X11_loadT Γ (d := 2035) (by omega) hk1 ((congrFun h1 74).trans (lw_c74 s0 ca)) hn) (by omega) (by decide) (As := [.int (xs ((0 + 1) : Int32).toNatClampNeg)]) (show (parseMethodDescriptor yX11_load.desc).map (fun q => q.parameters.length) = some 1 by decide +kernel) hk1 (Nat.le_of_ble_eq_true rfl) dL_law_316 ((congrFun h1 74).trans (lw_c74 s0 ca)) rfl rfl rfl (rt_kr (st2 := [.int 0]) rfl ?_) rt_kx
  refine rt_istore (lv' := [(6, .int 0), (5, .int 1), (4, .int 0), (3, rt_r s0 127), (2, rt_r s0 74), (1, rt_r s0 0), (0, .ref b)]) dL_law_319 (by decide) rfl ?_
  refine rt_aload_n dL_law_321 rfl (j := 4) rfl ?_
  refine rt_callV Γ kk_X11_thrown kc_RL_57 (c_X11_thrown Γ (d := 2035) (rt_up_s _ _ _)) (by omega) (by decide) (As := []) (show (parseMethodDescriptor yX11_thrown.desc).map (fun q => q.parameters.length) = some 0 by decide +kernel) hk1 (Nat.le_of_ble_eq_true rfl) dL_law_322 (rt_up_s _ _ _) rfl rfl rfl (rt_kr (st2 := [.int 1]) rfl ?_) rt_kx
  refine rt_iload dL_law_325 (j := 1) rfl ?_
  refine rt_icmp_eq (tgt := 332) dL_law_327 (by decide) (fun _ => ?_) (fun c327 => absurd rfl c327)
  refine rt_iload dL_law_332 (j := 1) rfl ?_
  refine rt_if_ne (tgt := 349) dL_law_334 (by decide) (fun _ => ?_) (fun c334 => absurd c334 (by decide))
  refine rt_goto (tgt := 701) dL_law_349 (by decide) ?_
  exact rt_lfew [2, 6] rfl (lw_tail Γ hX hbl hk1)
set_option maxRecDepth 100000 in
theorem lw_o_loadU {l : Launch} {s0 : State} {a0 : Array Value} {G : va_G} {ca : Nat → ClassId} (Γ : rt_Γ l s0 a0 G ca) {nm : String} {tab : List ExceptionTableEntry} {b : Nat} {xs : Nat → Int32} (hX : va_X b 6 xs s0 s0.heap) (hbl : b < s0.heap.size) (hn : ¬ (xs ((0 + 1) : Int32).toNatClampNeg) < 0) (h9 : ¬ (xs ((0 + 1) : Int32).toNatClampNeg) < 8) : rt_Go l s0 G RL nm cL_law 7 (some .boolean) tab 2036 rt_w0 rt_Ql 296 [(4, .int 0), (3, rt_r s0 127), (2, rt_r s0 74), (1, rt_r s0 0), (0, .ref b)] [] (lw_W s0 ca) := by
  refine rt_aload_n dL_law_296 rfl (j := 3) rfl ?_
  refine rt_aloadA_n dL_law_297 rfl (j := 4) rfl ?_
  refine rt_iload dL_law_298 (j := 0) rfl ?_
  refine rt_iconst (v := 1) dL_law_300 (by decide) ?_
  refine rt_iadd dL_law_301 ?_
  refine rt_sld hX hbl dL_law_302 (vp_in_iff.mpr ⟨by decide, by decide⟩) ?_
  refine rt_aload_n dL_law_303 rfl (j := 1) rfl ?_
  refine rt_callS Γ kk_L_load kc_RL_69 (c_L_loadX1 Γ (d := 2035) (by omega) (lw_ok s0 ca) (lw_c0 s0 ca) (c_X9_loadU Γ (d := 2035 - 1) (lw_ok s0 ca) (lw_ok1 s0 ca) (lw_c0 s0 ca) hn h9)) (by omega) (by decide) (As := [rt_r s0 0, .int (xs ((0 + 1) : Int32).toNatClampNeg), rt_r s0 127]) (show (parseMethodDescriptor yL_load.desc).map (fun q => q.parameters.length) = some 3 by decide +kernel) (lw_ok s0 ca) (Nat.le_of_ble_eq_true rfl) dL_law_304 rfl rfl (fun v9 w1 hq => ?_) (fun X w1 hq => nomatch hq.1)
  obtain ⟨e1, h1, h2, h3, h4⟩ := hq
  cases e1
  have hk1 : rt_ok w1 := lw_okr h3 h4
  show rt_Go l s0 G RL nm cL_law 7 (some .boolean) tab 2036 rt_w0 rt_Ql (304 + 3) [(4, .int 0), (3, rt_r s0 127), (2, rt_r s0 74), (1, rt_r s0 0), (0, .ref b)] [.int 1] w1
  refine rt_istore (lv' := [(5, .int 1), (4, .int 0), (3, rt_r s0 127), (2, rt_r s0 74), (1, rt_r s0 0), (0, .ref b)]) dL_law_307 (by decide) rfl ?_
  refine rt_aload_n dL_law_309 rfl (j := 3) rfl ?_
  refine rt_aloadA_n dL_law_310 rfl (j := 5) rfl ?_
  refine rt_iload dL_law_311 (j := 1) rfl ?_
  refine rt_iconst (v := 1) dL_law_313 (by decide) ?_
  refine rt_iadd dL_law_314 ?_
  refine rt_sld hX hbl dL_law_315 (vp_in_iff.mpr ⟨by decide, by decide⟩) ?_
  refine rt_callV Γ kk_X11_load kc_RL_71 (c_X11_loadU Γ (d := 2035) (by omega) hk1 ((congrFun h1 74).trans (lw_c74 s0 ca)) hn (i8_le h9)) (by omega) (by decide) (As := [.int (xs ((0 + 1) : Int32).toNatClampNeg)]) (show (parseMethodDescriptor yX11_load.desc).map (fun q => q.parameters.length) = some 1 by decide +kernel) hk1 (Nat.le_of_ble_eq_true rfl) dL_law_316 ((congrFun h1 74).trans (lw_c74 s0 ca)) rfl rfl rfl (rt_kr (st2 := [.int 0]) rfl ?_) rt_kx
  refine rt_istore (lv' := [(6, .int 0), (5, .int 1), (4, .int 0), (3, rt_r s0 127), (2, rt_r s0 74), (1, rt_r s0 0), (0, .ref b)]) dL_law_319 (by decide) rfl ?_
  refine rt_aload_n dL_law_321 rfl (j := 4) rfl ?_
  refine rt_callV Γ kk_X11_thrown kc_RL_57 (c_X11_thrown Γ (d := 2035) (rt_up_s _ _ _)) (by omega) (by decide) (As := []) (show (parseMethodDescriptor yX11_thrown.desc).map (fun q => q.parameters.length) = some 0 by decide +kernel) hk1 (Nat.le_of_ble_eq_true rfl) dL_law_322 (rt_up_s _ _ _) rfl rfl rfl (rt_kr (st2 := [.int 1]) rfl ?_) rt_kx
  refine rt_iload dL_law_325 (j := 1) rfl ?_
  refine rt_icmp_eq (tgt := 332) dL_law_327 (by decide) (fun _ => ?_) (fun c327 => absurd rfl c327)
  refine rt_iload dL_law_332 (j := 1) rfl ?_
  refine rt_if_ne (tgt := 349) dL_law_334 (by decide) (fun _ => ?_) (fun c334 => absurd c334 (by decide))
  refine rt_goto (tgt := 701) dL_law_349 (by decide) ?_
  exact rt_lfew [2, 6] rfl (lw_tail Γ hX hbl hk1)
set_option maxRecDepth 100000 in
theorem lw_o_loadV {l : Launch} {s0 : State} {a0 : Array Value} {G : va_G} {ca : Nat → ClassId} (Γ : rt_Γ l s0 a0 G ca) {nm : String} {tab : List ExceptionTableEntry} {b : Nat} {xs : Nat → Int32} (hX : va_X b 6 xs s0 s0.heap) (hbl : b < s0.heap.size) (hn : ¬ (xs ((0 + 1) : Int32).toNatClampNeg) < 0) (h9 : (xs ((0 + 1) : Int32).toNatClampNeg) < 8) : rt_Go l s0 G RL nm cL_law 7 (some .boolean) tab 2036 rt_w0 rt_Ql 296 [(4, .int 0), (3, rt_r s0 127), (2, rt_r s0 74), (1, rt_r s0 0), (0, .ref b)] [] (lw_W s0 ca) := by
  refine rt_aload_n dL_law_296 rfl (j := 3) rfl ?_
  refine rt_aloadA_n dL_law_297 rfl (j := 4) rfl ?_
  refine rt_iload dL_law_298 (j := 0) rfl ?_
  refine rt_iconst (v := 1) dL_law_300 (by decide) ?_
  refine rt_iadd dL_law_301 ?_
  refine rt_sld hX hbl dL_law_302 (vp_in_iff.mpr ⟨by decide, by decide⟩) ?_
  refine rt_aload_n dL_law_303 rfl (j := 1) rfl ?_
  refine rt_callS Γ kk_L_load kc_RL_69 (c_L_loadX2 Γ (d := 2035) (by omega) (lw_ok s0 ca) (lw_c0 s0 ca) (c_X9_loadV Γ (d := 2035 - 1) (lw_ok s0 ca) (lw_ok1 s0 ca) (lw_c0 s0 ca) (lw_c5 s0 ca) hn h9 rfl)) (by omega) (by decide) (As := [rt_r s0 0, .int (xs ((0 + 1) : Int32).toNatClampNeg), rt_r s0 127]) (show (parseMethodDescriptor yL_load.desc).map (fun q => q.parameters.length) = some 3 by decide +kernel) (lw_ok s0 ca) (Nat.le_of_ble_eq_true rfl) dL_law_304 rfl rfl (fun v9 w1 hq => ?_) (fun X w1 hq => nomatch hq.1)
  obtain ⟨e1, h1, h2, h3, h4⟩ := hq
  cases e1
  have hk1 : rt_ok w1 := lw_okr h3 h4
  show rt_Go l s0 G RL nm cL_law 7 (some .boolean) tab 2036 rt_w0 rt_Ql (304 + 3) [(4, .int 0), (3, rt_r s0 127), (2, rt_r s0 74), (1, rt_r s0 0), (0, .ref b)] [.int 2] w1
  refine rt_istore (lv' := [(5, .int 2), (4, .int 0), (3, rt_r s0 127), (2, rt_r s0 74), (1, rt_r s0 0), (0, .ref b)]) dL_law_307 (by decide) rfl ?_
  refine rt_aload_n dL_law_309 rfl (j := 3) rfl ?_
  refine rt_aloadA_n dL_law_310 rfl (j := 5) rfl ?_
  refine rt_iload dL_law_311 (j := 1) rfl ?_
  refine rt_iconst (v := 1) dL_law_313 (by decide) ?_
  refine rt_iadd dL_law_314 ?_
  refine rt_sld hX hbl dL_law_315 (vp_in_iff.mpr ⟨by decide, by decide⟩) ?_
  refine rt_callV Γ kk_X11_load kc_RL_71 (c_X11_loadV Γ (d := 2035) (by omega) hk1 ((congrFun h1 74).trans (lw_c74 s0 ca)) ((congrFun h1 121).trans (lw_c121 s0 ca)) hn (i8_lt h9) (by rw [rt_fs8 hn (i8_lt h9)]; decide)) (by omega) (by decide) (As := [.int (xs ((0 + 1) : Int32).toNatClampNeg)]) (show (parseMethodDescriptor yX11_load.desc).map (fun q => q.parameters.length) = some 1 by decide +kernel) hk1 (Nat.le_of_ble_eq_true rfl) dL_law_316 ((congrFun h1 74).trans (lw_c74 s0 ca)) rfl rfl rfl (rt_kr (st2 := [.int 0]) rfl ?_) rt_kx
  refine rt_istore (lv' := [(6, .int 0), (5, .int 2), (4, .int 0), (3, rt_r s0 127), (2, rt_r s0 74), (1, rt_r s0 0), (0, .ref b)]) dL_law_319 (by decide) rfl ?_
  refine rt_aload_n dL_law_321 rfl (j := 4) rfl ?_
  refine rt_callV Γ kk_X11_thrown kc_RL_57 (c_X11_thrown Γ (d := 2035) (rt_up_s _ _ _)) (by omega) (by decide) (As := []) (show (parseMethodDescriptor yX11_thrown.desc).map (fun q => q.parameters.length) = some 0 by decide +kernel) hk1 (Nat.le_of_ble_eq_true rfl) dL_law_322 (rt_up_s _ _ _) rfl rfl rfl (rt_kr (st2 := [.int 2]) rfl ?_) rt_kx
  refine rt_iload dL_law_325 (j := 1) rfl ?_
  refine rt_icmp_eq (tgt := 332) dL_law_327 (by decide) (fun _ => ?_) (fun c327 => absurd rfl c327)
  refine rt_iload dL_law_332 (j := 1) rfl ?_
  refine rt_if_ne (tgt := 349) dL_law_334 (by decide) (fun _ => ?_) (fun c334 => absurd c334 (by decide))
  refine rt_goto (tgt := 701) dL_law_349 (by decide) ?_
  exact rt_lfew [2, 6] rfl (lw_tail Γ hX hbl hk1)
set_option maxRecDepth 100000 in
theorem lw_o_allT {l : Launch} {s0 : State} {a0 : Array Value} {G : va_G} {ca : Nat → ClassId} (Γ : rt_Γ l s0 a0 G ca) {nm : String} {tab : List ExceptionTableEntry} {b : Nat} {xs : Nat → Int32} (hX : va_X b 6 xs s0 s0.heap) (hbl : b < s0.heap.size) (hn : (xs ((0 + 1) : Int32).toNatClampNeg) < 0) : rt_Go l s0 G RL nm cL_law 7 (some .boolean) tab 2036 rt_w0 rt_Ql 570 [(4, .int 0), (3, rt_r s0 127), (2, rt_r s0 74), (1, rt_r s0 0), (0, .ref b)] [] (lw_W s0 ca) := by
  refine rt_aload_n dL_law_570 rfl (j := 3) rfl ?_
  refine rt_aloadA_n dL_law_571 rfl (j := 4) rfl ?_
  refine rt_iload dL_law_572 (j := 0) rfl ?_
  refine rt_iconst (v := 1) dL_law_574 (by decide) ?_
  refine rt_iadd dL_law_575 ?_
  refine rt_sld hX hbl dL_law_576 (vp_in_iff.mpr ⟨by decide, by decide⟩) ?_
  refine rt_aload_n dL_law_577 rfl (j := 1) rfl ?_
  refine rt_callS Γ kk_L_all kc_RL_90 (c_L_allX1 Γ (d := 2035) (by omega) (lw_ok s0 ca) (lw_c0 s0 ca) (c_X9_allT Γ (d := 2035 - 1) (lw_ok s0 ca) (lw_ok1 s0 ca) (lw_c0 s0 ca) hn)) (by omega) (by decide) (As := [rt_r s0 0, .int (xs ((0 + 1) : Int32).toNatClampNeg), rt_r s0 127]) (show (parseMethodDescriptor yL_all.desc).map (fun q => q.parameters.length) = some 3 by decide +kernel) (lw_ok s0 ca) (Nat.le_of_ble_eq_true rfl) dL_law_578 rfl rfl (fun v9 w1 hq => ?_) (fun X w1 hq => nomatch hq.1)
  obtain ⟨e1, h1, h2, h3, h4⟩ := hq
  cases e1
  have hk1 : rt_ok w1 := lw_okr h3 h4
  show rt_Go l s0 G RL nm cL_law 7 (some .boolean) tab 2036 rt_w0 rt_Ql (578 + 3) [(4, .int 0), (3, rt_r s0 127), (2, rt_r s0 74), (1, rt_r s0 0), (0, .ref b)] [.int 1] w1
  refine rt_istore (lv' := [(5, .int 1), (4, .int 0), (3, rt_r s0 127), (2, rt_r s0 74), (1, rt_r s0 0), (0, .ref b)]) dL_law_581 (by decide) rfl ?_
  refine rt_aload_n dL_law_583 rfl (j := 3) rfl ?_
  refine rt_aloadA_n dL_law_584 rfl (j := 5) rfl ?_
  refine rt_iload dL_law_585 (j := 1) rfl ?_
  refine rt_iconst (v := 1) dL_law_587 (by decide) ?_
  refine rt_iadd dL_law_588 ?_
  refine rt_sld hX hbl dL_law_589 (vp_in_iff.mpr ⟨by decide, by decide⟩) ?_
  refine rt_callV Γ kk_X11_all kc_RL_92 (c_X11_allT Γ (d := 2035) (by omega) hk1 ((congrFun h1 74).trans (lw_c74 s0 ca)) hn) (by omega) (by decide) (As := [.int (xs ((0 + 1) : Int32).toNatClampNeg)]) (show (parseMethodDescriptor yX11_all.desc).map (fun q => q.parameters.length) = some 1 by decide +kernel) hk1 (Nat.le_of_ble_eq_true rfl) dL_law_590 ((congrFun h1 74).trans (lw_c74 s0 ca)) rfl rfl rfl (rt_kr (st2 := [.int 0]) rfl ?_) rt_kx
  refine rt_istore (lv' := [(6, .int 0), (5, .int 1), (4, .int 0), (3, rt_r s0 127), (2, rt_r s0 74), (1, rt_r s0 0), (0, .ref b)]) dL_law_593 (by decide) rfl ?_
  refine rt_aload_n dL_law_595 rfl (j := 4) rfl ?_
  refine rt_callV Γ kk_X11_thrown kc_RL_57 (c_X11_thrown Γ (d := 2035) (rt_up_s _ _ _)) (by omega) (by decide) (As := []) (show (parseMethodDescriptor yX11_thrown.desc).map (fun q => q.parameters.length) = some 0 by decide +kernel) hk1 (Nat.le_of_ble_eq_true rfl) dL_law_596 (rt_up_s _ _ _) rfl rfl rfl (rt_kr (st2 := [.int 1]) rfl ?_) rt_kx
  refine rt_iload dL_law_599 (j := 1) rfl ?_
  refine rt_icmp_eq (tgt := 606) dL_law_601 (by decide) (fun _ => ?_) (fun c601 => absurd rfl c601)
  refine rt_iload dL_law_606 (j := 1) rfl ?_
  refine rt_if_ne (tgt := 623) dL_law_608 (by decide) (fun _ => ?_) (fun c608 => absurd c608 (by decide))
  refine rt_goto (tgt := 701) dL_law_623 (by decide) ?_
  exact rt_lfew [2, 6] rfl (lw_tail Γ hX hbl hk1)
set_option maxRecDepth 100000 in
theorem lw_o_allU {l : Launch} {s0 : State} {a0 : Array Value} {G : va_G} {ca : Nat → ClassId} (Γ : rt_Γ l s0 a0 G ca) {nm : String} {tab : List ExceptionTableEntry} {b : Nat} {xs : Nat → Int32} (hX : va_X b 6 xs s0 s0.heap) (hbl : b < s0.heap.size) (hn : ¬ (xs ((0 + 1) : Int32).toNatClampNeg) < 0) (h9 : ¬ (xs ((0 + 1) : Int32).toNatClampNeg) < 8) : rt_Go l s0 G RL nm cL_law 7 (some .boolean) tab 2036 rt_w0 rt_Ql 570 [(4, .int 0), (3, rt_r s0 127), (2, rt_r s0 74), (1, rt_r s0 0), (0, .ref b)] [] (lw_W s0 ca) := by
  refine rt_aload_n dL_law_570 rfl (j := 3) rfl ?_
  refine rt_aloadA_n dL_law_571 rfl (j := 4) rfl ?_
  refine rt_iload dL_law_572 (j := 0) rfl ?_
  refine rt_iconst (v := 1) dL_law_574 (by decide) ?_
  refine rt_iadd dL_law_575 ?_
  refine rt_sld hX hbl dL_law_576 (vp_in_iff.mpr ⟨by decide, by decide⟩) ?_
  refine rt_aload_n dL_law_577 rfl (j := 1) rfl ?_
  refine rt_callS Γ kk_L_all kc_RL_90 (c_L_allX1 Γ (d := 2035) (by omega) (lw_ok s0 ca) (lw_c0 s0 ca) (c_X9_allU Γ (d := 2035 - 1) (lw_ok s0 ca) (lw_ok1 s0 ca) (lw_c0 s0 ca) hn h9)) (by omega) (by decide) (As := [rt_r s0 0, .int (xs ((0 + 1) : Int32).toNatClampNeg), rt_r s0 127]) (show (parseMethodDescriptor yL_all.desc).map (fun q => q.parameters.length) = some 3 by decide +kernel) (lw_ok s0 ca) (Nat.le_of_ble_eq_true rfl) dL_law_578 rfl rfl (fun v9 w1 hq => ?_) (fun X w1 hq => nomatch hq.1)
  obtain ⟨e1, h1, h2, h3, h4⟩ := hq
  cases e1
  have hk1 : rt_ok w1 := lw_okr h3 h4
  show rt_Go l s0 G RL nm cL_law 7 (some .boolean) tab 2036 rt_w0 rt_Ql (578 + 3) [(4, .int 0), (3, rt_r s0 127), (2, rt_r s0 74), (1, rt_r s0 0), (0, .ref b)] [.int 1] w1
  refine rt_istore (lv' := [(5, .int 1), (4, .int 0), (3, rt_r s0 127), (2, rt_r s0 74), (1, rt_r s0 0), (0, .ref b)]) dL_law_581 (by decide) rfl ?_
  refine rt_aload_n dL_law_583 rfl (j := 3) rfl ?_
  refine rt_aloadA_n dL_law_584 rfl (j := 5) rfl ?_
  refine rt_iload dL_law_585 (j := 1) rfl ?_
  refine rt_iconst (v := 1) dL_law_587 (by decide) ?_
  refine rt_iadd dL_law_588 ?_
  refine rt_sld hX hbl dL_law_589 (vp_in_iff.mpr ⟨by decide, by decide⟩) ?_
  refine rt_callV Γ kk_X11_all kc_RL_92 (c_X11_allU Γ (d := 2035) (by omega) hk1 ((congrFun h1 74).trans (lw_c74 s0 ca)) hn (i8_le h9)) (by omega) (by decide) (As := [.int (xs ((0 + 1) : Int32).toNatClampNeg)]) (show (parseMethodDescriptor yX11_all.desc).map (fun q => q.parameters.length) = some 1 by decide +kernel) hk1 (Nat.le_of_ble_eq_true rfl) dL_law_590 ((congrFun h1 74).trans (lw_c74 s0 ca)) rfl rfl rfl (rt_kr (st2 := [.int 0]) rfl ?_) rt_kx
  refine rt_istore (lv' := [(6, .int 0), (5, .int 1), (4, .int 0), (3, rt_r s0 127), (2, rt_r s0 74), (1, rt_r s0 0), (0, .ref b)]) dL_law_593 (by decide) rfl ?_
  refine rt_aload_n dL_law_595 rfl (j := 4) rfl ?_
  refine rt_callV Γ kk_X11_thrown kc_RL_57 (c_X11_thrown Γ (d := 2035) (rt_up_s _ _ _)) (by omega) (by decide) (As := []) (show (parseMethodDescriptor yX11_thrown.desc).map (fun q => q.parameters.length) = some 0 by decide +kernel) hk1 (Nat.le_of_ble_eq_true rfl) dL_law_596 (rt_up_s _ _ _) rfl rfl rfl (rt_kr (st2 := [.int 1]) rfl ?_) rt_kx
  refine rt_iload dL_law_599 (j := 1) rfl ?_
  refine rt_icmp_eq (tgt := 606) dL_law_601 (by decide) (fun _ => ?_) (fun c601 => absurd rfl c601)
  refine rt_iload dL_law_606 (j := 1) rfl ?_
  refine rt_if_ne (tgt := 623) dL_law_608 (by decide) (fun _ => ?_) (fun c608 => absurd c608 (by decide))
  refine rt_goto (tgt := 701) dL_law_623 (by decide) ?_
  exact rt_lfew [2, 6] rfl (lw_tail Γ hX hbl hk1)
set_option maxRecDepth 100000 in
theorem lw_o_allV {l : Launch} {s0 : State} {a0 : Array Value} {G : va_G} {ca : Nat → ClassId} (Γ : rt_Γ l s0 a0 G ca) {nm : String} {tab : List ExceptionTableEntry} {b : Nat} {xs : Nat → Int32} (hX : va_X b 6 xs s0 s0.heap) (hbl : b < s0.heap.size) (hn : ¬ (xs ((0 + 1) : Int32).toNatClampNeg) < 0) (h9 : (xs ((0 + 1) : Int32).toNatClampNeg) < 8) : rt_Go l s0 G RL nm cL_law 7 (some .boolean) tab 2036 rt_w0 rt_Ql 570 [(4, .int 0), (3, rt_r s0 127), (2, rt_r s0 74), (1, rt_r s0 0), (0, .ref b)] [] (lw_W s0 ca) := by
  refine rt_aload_n dL_law_570 rfl (j := 3) rfl ?_
  refine rt_aloadA_n dL_law_571 rfl (j := 4) rfl ?_
  refine rt_iload dL_law_572 (j := 0) rfl ?_
  refine rt_iconst (v := 1) dL_law_574 (by decide) ?_
  refine rt_iadd dL_law_575 ?_
  refine rt_sld hX hbl dL_law_576 (vp_in_iff.mpr ⟨by decide, by decide⟩) ?_
  refine rt_aload_n dL_law_577 rfl (j := 1) rfl ?_
  refine rt_callS Γ kk_L_all kc_RL_90 (c_L_allX2 Γ (d := 2035) (by omega) (lw_ok s0 ca) (lw_c0 s0 ca) (c_X9_allV Γ (d := 2035 - 1) (lw_ok s0 ca) (lw_ok1 s0 ca) (lw_c0 s0 ca) (lw_c5 s0 ca) hn h9 rfl)) (by omega) (by decide) (As := [rt_r s0 0, .int (xs ((0 + 1) : Int32).toNatClampNeg), rt_r s0 127]) (show (parseMethodDescriptor yL_all.desc).map (fun q => q.parameters.length) = some 3 by decide +kernel) (lw_ok s0 ca) (Nat.le_of_ble_eq_true rfl) dL_law_578 rfl rfl (fun v9 w1 hq => ?_) (fun X w1 hq => nomatch hq.1)
  obtain ⟨e1, h1, h2, h3, h4⟩ := hq
  cases e1
  have hk1 : rt_ok w1 := lw_okr h3 h4
  show rt_Go l s0 G RL nm cL_law 7 (some .boolean) tab 2036 rt_w0 rt_Ql (578 + 3) [(4, .int 0), (3, rt_r s0 127), (2, rt_r s0 74), (1, rt_r s0 0), (0, .ref b)] [.int 2] w1
  refine rt_istore (lv' := [(5, .int 2), (4, .int 0), (3, rt_r s0 127), (2, rt_r s0 74), (1, rt_r s0 0), (0, .ref b)]) dL_law_581 (by decide) rfl ?_
  refine rt_aload_n dL_law_583 rfl (j := 3) rfl ?_
  refine rt_aloadA_n dL_law_584 rfl (j := 5) rfl ?_
  refine rt_iload dL_law_585 (j := 1) rfl ?_
  refine rt_iconst (v := 1) dL_law_587 (by decide) ?_
  refine rt_iadd dL_law_588 ?_
  refine rt_sld hX hbl dL_law_589 (vp_in_iff.mpr ⟨by decide, by decide⟩) ?_
  refine rt_callV Γ kk_X11_all kc_RL_92 (c_X11_allV Γ (d := 2035) (by omega) hk1 ((congrFun h1 74).trans (lw_c74 s0 ca)) ((congrFun h1 121).trans (lw_c121 s0 ca)) hn (i8_lt h9) (by rw [rt_fs8 hn (i8_lt h9)]; decide)) (by omega) (by decide) (As := [.int (xs ((0 + 1) : Int32).toNatClampNeg)]) (show (parseMethodDescriptor yX11_all.desc).map (fun q => q.parameters.length) = some 1 by decide +kernel) hk1 (Nat.le_of_ble_eq_true rfl) dL_law_590 ((congrFun h1 74).trans (lw_c74 s0 ca)) rfl rfl rfl (rt_kr (st2 := [.int 0]) rfl ?_) rt_kx
  refine rt_istore (lv' := [(6, .int 0), (5, .int 2), (4, .int 0), (3, rt_r s0 127), (2, rt_r s0 74), (1, rt_r s0 0), (0, .ref b)]) dL_law_593 (by decide) rfl ?_
  refine rt_aload_n dL_law_595 rfl (j := 4) rfl ?_
  refine rt_callV Γ kk_X11_thrown kc_RL_57 (c_X11_thrown Γ (d := 2035) (rt_up_s _ _ _)) (by omega) (by decide) (As := []) (show (parseMethodDescriptor yX11_thrown.desc).map (fun q => q.parameters.length) = some 0 by decide +kernel) hk1 (Nat.le_of_ble_eq_true rfl) dL_law_596 (rt_up_s _ _ _) rfl rfl rfl (rt_kr (st2 := [.int 2]) rfl ?_) rt_kx
  refine rt_iload dL_law_599 (j := 1) rfl ?_
  refine rt_icmp_eq (tgt := 606) dL_law_601 (by decide) (fun _ => ?_) (fun c601 => absurd rfl c601)
  refine rt_iload dL_law_606 (j := 1) rfl ?_
  refine rt_if_ne (tgt := 623) dL_law_608 (by decide) (fun _ => ?_) (fun c608 => absurd c608 (by decide))
  refine rt_goto (tgt := 701) dL_law_623 (by decide) ?_
  exact rt_lfew [2, 6] rfl (lw_tail Γ hX hbl hk1)
set_option maxRecDepth 100000 in
theorem lw_o_readT {l : Launch} {s0 : State} {a0 : Array Value} {G : va_G} {ca : Nat → ClassId} (Γ : rt_Γ l s0 a0 G ca) {nm : String} {tab : List ExceptionTableEntry} {b : Nat} {xs : Nat → Int32} (hX : va_X b 6 xs s0 s0.heap) (hbl : b < s0.heap.size) (hn : (xs ((0 + 1) : Int32).toNatClampNeg) < 0) : rt_Go l s0 G RL nm cL_law 7 (some .boolean) tab 2036 rt_w0 rt_Ql 502 [(4, .int 0), (3, rt_r s0 127), (2, rt_r s0 74), (1, rt_r s0 0), (0, .ref b)] [] (lw_W s0 ca) := by
  refine rt_aload_n dL_law_502 rfl (j := 3) rfl ?_
  refine rt_aloadA_n dL_law_503 rfl (j := 4) rfl ?_
  refine rt_iload dL_law_504 (j := 0) rfl ?_
  refine rt_iconst (v := 1) dL_law_506 (by decide) ?_
  refine rt_iadd dL_law_507 ?_
  refine rt_sld hX hbl dL_law_508 (vp_in_iff.mpr ⟨by decide, by decide⟩) ?_
  refine rt_aloadA_n dL_law_509 rfl (j := 4) rfl ?_
  refine rt_iload dL_law_510 (j := 0) rfl ?_
  refine rt_iconst (v := 2) dL_law_512 (by decide) ?_
  refine rt_iadd dL_law_513 ?_
  refine rt_sld hX hbl dL_law_514 (vp_in_iff.mpr ⟨by decide, by decide⟩) ?_
  refine rt_aload_n dL_law_515 rfl (j := 1) rfl ?_
  refine rt_callS Γ kk_L_read kc_RL_87 (c_L_readX1 Γ (d := 2035) (by omega) (lw_ok s0 ca) (lw_c0 s0 ca) (c_X9_readT Γ (d := 2035 - 1) (lw_ok s0 ca) (lw_ok1 s0 ca) (lw_c0 s0 ca) hn)) (by omega) (by decide) (As := [rt_r s0 0, .int (xs ((0 + 1) : Int32).toNatClampNeg), .int (xs ((0 + 2) : Int32).toNatClampNeg), rt_r s0 127]) (show (parseMethodDescriptor yL_read.desc).map (fun q => q.parameters.length) = some 4 by decide +kernel) (lw_ok s0 ca) (Nat.le_of_ble_eq_true rfl) dL_law_516 rfl rfl (fun v9 w1 hq => ?_) (fun X w1 hq => nomatch hq.1)
  obtain ⟨e1, h1, h2, h3, h4⟩ := hq
  cases e1
  have hk1 : rt_ok w1 := lw_okr h3 h4
  show rt_Go l s0 G RL nm cL_law 7 (some .boolean) tab 2036 rt_w0 rt_Ql (516 + 3) [(4, .int 0), (3, rt_r s0 127), (2, rt_r s0 74), (1, rt_r s0 0), (0, .ref b)] [.int 1] w1
  refine rt_istore (lv' := [(5, .int 1), (4, .int 0), (3, rt_r s0 127), (2, rt_r s0 74), (1, rt_r s0 0), (0, .ref b)]) dL_law_519 (by decide) rfl ?_
  refine rt_aload_n dL_law_521 rfl (j := 3) rfl ?_
  refine rt_aloadA_n dL_law_522 rfl (j := 5) rfl ?_
  refine rt_iload dL_law_523 (j := 1) rfl ?_
  refine rt_iconst (v := 1) dL_law_525 (by decide) ?_
  refine rt_iadd dL_law_526 ?_
  refine rt_sld hX hbl dL_law_527 (vp_in_iff.mpr ⟨by decide, by decide⟩) ?_
  refine rt_aloadA_n dL_law_528 rfl (j := 5) rfl ?_
  refine rt_iload dL_law_529 (j := 1) rfl ?_
  refine rt_iconst (v := 2) dL_law_531 (by decide) ?_
  refine rt_iadd dL_law_532 ?_
  refine rt_sld hX hbl dL_law_533 (vp_in_iff.mpr ⟨by decide, by decide⟩) ?_
  refine rt_callV Γ kk_X11_read_ kc_RL_89 (c_X11_read_T Γ (d := 2035) (by omega) hk1 ((congrFun h1 74).trans (lw_c74 s0 ca)) hn) (by omega) (by decide) (As := [.int (xs ((0 + 1) : Int32).toNatClampNeg), .int (xs ((0 + 2) : Int32).toNatClampNeg)]) (show (parseMethodDescriptor yX11_read_.desc).map (fun q => q.parameters.length) = some 2 by decide +kernel) hk1 (Nat.le_of_ble_eq_true rfl) dL_law_534 ((congrFun h1 74).trans (lw_c74 s0 ca)) rfl rfl rfl (rt_kr (st2 := [.int 0]) rfl ?_) rt_kx
  refine rt_istore (lv' := [(6, .int 0), (5, .int 1), (4, .int 0), (3, rt_r s0 127), (2, rt_r s0 74), (1, rt_r s0 0), (0, .ref b)]) dL_law_537 (by decide) rfl ?_
  refine rt_aload_n dL_law_539 rfl (j := 4) rfl ?_
  refine rt_callV Γ kk_X11_thrown kc_RL_57 (c_X11_thrown Γ (d := 2035) (rt_up_s _ _ _)) (by omega) (by decide) (As := []) (show (parseMethodDescriptor yX11_thrown.desc).map (fun q => q.parameters.length) = some 0 by decide +kernel) hk1 (Nat.le_of_ble_eq_true rfl) dL_law_540 (rt_up_s _ _ _) rfl rfl rfl (rt_kr (st2 := [.int 1]) rfl ?_) rt_kx
  refine rt_iload dL_law_543 (j := 1) rfl ?_
  refine rt_icmp_eq (tgt := 550) dL_law_545 (by decide) (fun _ => ?_) (fun c545 => absurd rfl c545)
  refine rt_iload dL_law_550 (j := 1) rfl ?_
  refine rt_if_ne (tgt := 567) dL_law_552 (by decide) (fun _ => ?_) (fun c552 => absurd c552 (by decide))
  refine rt_goto (tgt := 701) dL_law_567 (by decide) ?_
  exact rt_lfew [2, 6] rfl (lw_tail Γ hX hbl hk1)
set_option maxRecDepth 100000 in
theorem lw_o_readU {l : Launch} {s0 : State} {a0 : Array Value} {G : va_G} {ca : Nat → ClassId} (Γ : rt_Γ l s0 a0 G ca) {nm : String} {tab : List ExceptionTableEntry} {b : Nat} {xs : Nat → Int32} (hX : va_X b 6 xs s0 s0.heap) (hbl : b < s0.heap.size) (hn : ¬ (xs ((0 + 1) : Int32).toNatClampNeg) < 0) (h9 : ¬ (xs ((0 + 1) : Int32).toNatClampNeg) < 8) : rt_Go l s0 G RL nm cL_law 7 (some .boolean) tab 2036 rt_w0 rt_Ql 502 [(4, .int 0), (3, rt_r s0 127), (2, rt_r s0 74), (1, rt_r s0 0), (0, .ref b)] [] (lw_W s0 ca) := by
  refine rt_aload_n dL_law_502 rfl (j := 3) rfl ?_
  refine rt_aloadA_n dL_law_503 rfl (j := 4) rfl ?_
  refine rt_iload dL_law_504 (j := 0) rfl ?_
  refine rt_iconst (v := 1) dL_law_506 (by decide) ?_
  refine rt_iadd dL_law_507 ?_
  refine rt_sld hX hbl dL_law_508 (vp_in_iff.mpr ⟨by decide, by decide⟩) ?_
  refine rt_aloadA_n dL_law_509 rfl (j := 4) rfl ?_
  refine rt_iload dL_law_510 (j := 0) rfl ?_
  refine rt_iconst (v := 2) dL_law_512 (by decide) ?_
  refine rt_iadd dL_law_513 ?_
  refine rt_sld hX hbl dL_law_514 (vp_in_iff.mpr ⟨by decide, by decide⟩) ?_
  refine rt_aload_n dL_law_515 rfl (j := 1) rfl ?_
  refine rt_callS Γ kk_L_read kc_RL_87 (c_L_readX1 Γ (d := 2035) (by omega) (lw_ok s0 ca) (lw_c0 s0 ca) (c_X9_readU Γ (d := 2035 - 1) (lw_ok s0 ca) (lw_ok1 s0 ca) (lw_c0 s0 ca) hn (i8_ge h9))) (by omega) (by decide) (As := [rt_r s0 0, .int (xs ((0 + 1) : Int32).toNatClampNeg), .int (xs ((0 + 2) : Int32).toNatClampNeg), rt_r s0 127]) (show (parseMethodDescriptor yL_read.desc).map (fun q => q.parameters.length) = some 4 by decide +kernel) (lw_ok s0 ca) (Nat.le_of_ble_eq_true rfl) dL_law_516 rfl rfl (fun v9 w1 hq => ?_) (fun X w1 hq => nomatch hq.1)
  obtain ⟨e1, h1, h2, h3, h4⟩ := hq
  cases e1
  have hk1 : rt_ok w1 := lw_okr h3 h4
  show rt_Go l s0 G RL nm cL_law 7 (some .boolean) tab 2036 rt_w0 rt_Ql (516 + 3) [(4, .int 0), (3, rt_r s0 127), (2, rt_r s0 74), (1, rt_r s0 0), (0, .ref b)] [.int 1] w1
  refine rt_istore (lv' := [(5, .int 1), (4, .int 0), (3, rt_r s0 127), (2, rt_r s0 74), (1, rt_r s0 0), (0, .ref b)]) dL_law_519 (by decide) rfl ?_
  refine rt_aload_n dL_law_521 rfl (j := 3) rfl ?_
  refine rt_aloadA_n dL_law_522 rfl (j := 5) rfl ?_
  refine rt_iload dL_law_523 (j := 1) rfl ?_
  refine rt_iconst (v := 1) dL_law_525 (by decide) ?_
  refine rt_iadd dL_law_526 ?_
  refine rt_sld hX hbl dL_law_527 (vp_in_iff.mpr ⟨by decide, by decide⟩) ?_
  refine rt_aloadA_n dL_law_528 rfl (j := 5) rfl ?_
  refine rt_iload dL_law_529 (j := 1) rfl ?_
  refine rt_iconst (v := 2) dL_law_531 (by decide) ?_
  refine rt_iadd dL_law_532 ?_
  refine rt_sld hX hbl dL_law_533 (vp_in_iff.mpr ⟨by decide, by decide⟩) ?_
  refine rt_callV Γ kk_X11_read_ kc_RL_89 (c_X11_read_U Γ (d := 2035) (by omega) hk1 ((congrFun h1 74).trans (lw_c74 s0 ca)) hn (i8_le h9)) (by omega) (by decide) (As := [.int (xs ((0 + 1) : Int32).toNatClampNeg), .int (xs ((0 + 2) : Int32).toNatClampNeg)]) (show (parseMethodDescriptor yX11_read_.desc).map (fun q => q.parameters.length) = some 2 by decide +kernel) hk1 (Nat.le_of_ble_eq_true rfl) dL_law_534 ((congrFun h1 74).trans (lw_c74 s0 ca)) rfl rfl rfl (rt_kr (st2 := [.int 0]) rfl ?_) rt_kx
  refine rt_istore (lv' := [(6, .int 0), (5, .int 1), (4, .int 0), (3, rt_r s0 127), (2, rt_r s0 74), (1, rt_r s0 0), (0, .ref b)]) dL_law_537 (by decide) rfl ?_
  refine rt_aload_n dL_law_539 rfl (j := 4) rfl ?_
  refine rt_callV Γ kk_X11_thrown kc_RL_57 (c_X11_thrown Γ (d := 2035) (rt_up_s _ _ _)) (by omega) (by decide) (As := []) (show (parseMethodDescriptor yX11_thrown.desc).map (fun q => q.parameters.length) = some 0 by decide +kernel) hk1 (Nat.le_of_ble_eq_true rfl) dL_law_540 (rt_up_s _ _ _) rfl rfl rfl (rt_kr (st2 := [.int 1]) rfl ?_) rt_kx
  refine rt_iload dL_law_543 (j := 1) rfl ?_
  refine rt_icmp_eq (tgt := 550) dL_law_545 (by decide) (fun _ => ?_) (fun c545 => absurd rfl c545)
  refine rt_iload dL_law_550 (j := 1) rfl ?_
  refine rt_if_ne (tgt := 567) dL_law_552 (by decide) (fun _ => ?_) (fun c552 => absurd c552 (by decide))
  refine rt_goto (tgt := 701) dL_law_567 (by decide) ?_
  exact rt_lfew [2, 6] rfl (lw_tail Γ hX hbl hk1)
set_option maxRecDepth 100000 in
theorem lw_o_readV {l : Launch} {s0 : State} {a0 : Array Value} {G : va_G} {ca : Nat → ClassId} (Γ : rt_Γ l s0 a0 G ca) {nm : String} {tab : List ExceptionTableEntry} {b : Nat} {xs : Nat → Int32} (hX : va_X b 6 xs s0 s0.heap) (hbl : b < s0.heap.size) (hn : ¬ (xs ((0 + 1) : Int32).toNatClampNeg) < 0) (h9 : (xs ((0 + 1) : Int32).toNatClampNeg) < 8) (hi : (xs ((0 + 2) : Int32).toNatClampNeg) < 0) : rt_Go l s0 G RL nm cL_law 7 (some .boolean) tab 2036 rt_w0 rt_Ql 502 [(4, .int 0), (3, rt_r s0 127), (2, rt_r s0 74), (1, rt_r s0 0), (0, .ref b)] [] (lw_W s0 ca) := by
  refine rt_aload_n dL_law_502 rfl (j := 3) rfl ?_
  refine rt_aloadA_n dL_law_503 rfl (j := 4) rfl ?_
  refine rt_iload dL_law_504 (j := 0) rfl ?_
  refine rt_iconst (v := 1) dL_law_506 (by decide) ?_
  refine rt_iadd dL_law_507 ?_
  refine rt_sld hX hbl dL_law_508 (vp_in_iff.mpr ⟨by decide, by decide⟩) ?_
  refine rt_aloadA_n dL_law_509 rfl (j := 4) rfl ?_
  refine rt_iload dL_law_510 (j := 0) rfl ?_
  refine rt_iconst (v := 2) dL_law_512 (by decide) ?_
  refine rt_iadd dL_law_513 ?_
  refine rt_sld hX hbl dL_law_514 (vp_in_iff.mpr ⟨by decide, by decide⟩) ?_
  refine rt_aload_n dL_law_515 rfl (j := 1) rfl ?_
  refine rt_callS Γ kk_L_read kc_RL_87 (c_L_readX1 Γ (d := 2035) (by omega) (lw_ok s0 ca) (lw_c0 s0 ca) (c_X9_readV Γ (d := 2035 - 1) (lw_ok s0 ca) (lw_ok1 s0 ca) (lw_c0 s0 ca) hn (Int32.not_le.mpr h9) hi)) (by omega) (by decide) (As := [rt_r s0 0, .int (xs ((0 + 1) : Int32).toNatClampNeg), .int (xs ((0 + 2) : Int32).toNatClampNeg), rt_r s0 127]) (show (parseMethodDescriptor yL_read.desc).map (fun q => q.parameters.length) = some 4 by decide +kernel) (lw_ok s0 ca) (Nat.le_of_ble_eq_true rfl) dL_law_516 rfl rfl (fun v9 w1 hq => ?_) (fun X w1 hq => nomatch hq.1)
  obtain ⟨e1, h1, h2, h3, h4⟩ := hq
  cases e1
  have hk1 : rt_ok w1 := lw_okr h3 h4
  show rt_Go l s0 G RL nm cL_law 7 (some .boolean) tab 2036 rt_w0 rt_Ql (516 + 3) [(4, .int 0), (3, rt_r s0 127), (2, rt_r s0 74), (1, rt_r s0 0), (0, .ref b)] [.int 1] w1
  refine rt_istore (lv' := [(5, .int 1), (4, .int 0), (3, rt_r s0 127), (2, rt_r s0 74), (1, rt_r s0 0), (0, .ref b)]) dL_law_519 (by decide) rfl ?_
  refine rt_aload_n dL_law_521 rfl (j := 3) rfl ?_
  refine rt_aloadA_n dL_law_522 rfl (j := 5) rfl ?_
  refine rt_iload dL_law_523 (j := 1) rfl ?_
  refine rt_iconst (v := 1) dL_law_525 (by decide) ?_
  refine rt_iadd dL_law_526 ?_
  refine rt_sld hX hbl dL_law_527 (vp_in_iff.mpr ⟨by decide, by decide⟩) ?_
  refine rt_aloadA_n dL_law_528 rfl (j := 5) rfl ?_
  refine rt_iload dL_law_529 (j := 1) rfl ?_
  refine rt_iconst (v := 2) dL_law_531 (by decide) ?_
  refine rt_iadd dL_law_532 ?_
  refine rt_sld hX hbl dL_law_533 (vp_in_iff.mpr ⟨by decide, by decide⟩) ?_
  refine rt_callV Γ kk_X11_read_ kc_RL_89 (c_X11_read_V Γ (d := 2035) (by omega) hk1 ((congrFun h1 74).trans (lw_c74 s0 ca)) hn (i8_lt h9) hi) (by omega) (by decide) (As := [.int (xs ((0 + 1) : Int32).toNatClampNeg), .int (xs ((0 + 2) : Int32).toNatClampNeg)]) (show (parseMethodDescriptor yX11_read_.desc).map (fun q => q.parameters.length) = some 2 by decide +kernel) hk1 (Nat.le_of_ble_eq_true rfl) dL_law_534 ((congrFun h1 74).trans (lw_c74 s0 ca)) rfl rfl rfl (rt_kr (st2 := [.int 0]) rfl ?_) rt_kx
  refine rt_istore (lv' := [(6, .int 0), (5, .int 1), (4, .int 0), (3, rt_r s0 127), (2, rt_r s0 74), (1, rt_r s0 0), (0, .ref b)]) dL_law_537 (by decide) rfl ?_
  refine rt_aload_n dL_law_539 rfl (j := 4) rfl ?_
  refine rt_callV Γ kk_X11_thrown kc_RL_57 (c_X11_thrown Γ (d := 2035) (rt_up_s _ _ _)) (by omega) (by decide) (As := []) (show (parseMethodDescriptor yX11_thrown.desc).map (fun q => q.parameters.length) = some 0 by decide +kernel) hk1 (Nat.le_of_ble_eq_true rfl) dL_law_540 (rt_up_s _ _ _) rfl rfl rfl (rt_kr (st2 := [.int 1]) rfl ?_) rt_kx
  refine rt_iload dL_law_543 (j := 1) rfl ?_
  refine rt_icmp_eq (tgt := 550) dL_law_545 (by decide) (fun _ => ?_) (fun c545 => absurd rfl c545)
  refine rt_iload dL_law_550 (j := 1) rfl ?_
  refine rt_if_ne (tgt := 567) dL_law_552 (by decide) (fun _ => ?_) (fun c552 => absurd c552 (by decide))
  refine rt_goto (tgt := 701) dL_law_567 (by decide) ?_
  exact rt_lfew [2, 6] rfl (lw_tail Γ hX hbl hk1)
set_option maxRecDepth 100000 in
theorem lw_o_readW {l : Launch} {s0 : State} {a0 : Array Value} {G : va_G} {ca : Nat → ClassId} (Γ : rt_Γ l s0 a0 G ca) {nm : String} {tab : List ExceptionTableEntry} {b : Nat} {xs : Nat → Int32} (hX : va_X b 6 xs s0 s0.heap) (hbl : b < s0.heap.size) (hn : ¬ (xs ((0 + 1) : Int32).toNatClampNeg) < 0) (h9 : (xs ((0 + 1) : Int32).toNatClampNeg) < 8) (hi : ¬ (xs ((0 + 2) : Int32).toNatClampNeg) < 0) : rt_Go l s0 G RL nm cL_law 7 (some .boolean) tab 2036 rt_w0 rt_Ql 502 [(4, .int 0), (3, rt_r s0 127), (2, rt_r s0 74), (1, rt_r s0 0), (0, .ref b)] [] (lw_W s0 ca) := by
  refine rt_aload_n dL_law_502 rfl (j := 3) rfl ?_
  refine rt_aloadA_n dL_law_503 rfl (j := 4) rfl ?_
  refine rt_iload dL_law_504 (j := 0) rfl ?_
  refine rt_iconst (v := 1) dL_law_506 (by decide) ?_
  refine rt_iadd dL_law_507 ?_
  refine rt_sld hX hbl dL_law_508 (vp_in_iff.mpr ⟨by decide, by decide⟩) ?_
  refine rt_aloadA_n dL_law_509 rfl (j := 4) rfl ?_
  refine rt_iload dL_law_510 (j := 0) rfl ?_
  refine rt_iconst (v := 2) dL_law_512 (by decide) ?_
  refine rt_iadd dL_law_513 ?_
  refine rt_sld hX hbl dL_law_514 (vp_in_iff.mpr ⟨by decide, by decide⟩) ?_
  refine rt_aload_n dL_law_515 rfl (j := 1) rfl ?_
  refine rt_callS Γ kk_L_read kc_RL_87 (c_L_readX1 Γ (d := 2035) (by omega) (lw_ok s0 ca) (lw_c0 s0 ca) (c_X9_readW Γ (d := 2035 - 1) (by omega) (lw_ok s0 ca) (lw_ok1 s0 ca) (lw_c0 s0 ca) (lw_c64 s0 ca) ⟨lw_c67 s0 ca, lw_c68 s0 ca⟩ hn (Int32.not_le.mpr h9) hi hi)) (by omega) (by decide) (As := [rt_r s0 0, .int (xs ((0 + 1) : Int32).toNatClampNeg), .int (xs ((0 + 2) : Int32).toNatClampNeg), rt_r s0 127]) (show (parseMethodDescriptor yL_read.desc).map (fun q => q.parameters.length) = some 4 by decide +kernel) (lw_ok s0 ca) (Nat.le_of_ble_eq_true rfl) dL_law_516 rfl rfl (fun v9 w1 hq => ?_) (fun X w1 hq => nomatch hq.1)
  obtain ⟨e1, h1, h2, h3, h4⟩ := hq
  cases e1
  have hk1 : rt_ok w1 := lw_okr h3 h4
  show rt_Go l s0 G RL nm cL_law 7 (some .boolean) tab 2036 rt_w0 rt_Ql (516 + 3) [(4, .int 0), (3, rt_r s0 127), (2, rt_r s0 74), (1, rt_r s0 0), (0, .ref b)] [.int 1] w1
  refine rt_istore (lv' := [(5, .int 1), (4, .int 0), (3, rt_r s0 127), (2, rt_r s0 74), (1, rt_r s0 0), (0, .ref b)]) dL_law_519 (by decide) rfl ?_
  refine rt_aload_n dL_law_521 rfl (j := 3) rfl ?_
  refine rt_aloadA_n dL_law_522 rfl (j := 5) rfl ?_
  refine rt_iload dL_law_523 (j := 1) rfl ?_
  refine rt_iconst (v := 1) dL_law_525 (by decide) ?_
  refine rt_iadd dL_law_526 ?_
  refine rt_sld hX hbl dL_law_527 (vp_in_iff.mpr ⟨by decide, by decide⟩) ?_
  refine rt_aloadA_n dL_law_528 rfl (j := 5) rfl ?_
  refine rt_iload dL_law_529 (j := 1) rfl ?_
  refine rt_iconst (v := 2) dL_law_531 (by decide) ?_
  refine rt_iadd dL_law_532 ?_
  refine rt_sld hX hbl dL_law_533 (vp_in_iff.mpr ⟨by decide, by decide⟩) ?_
  refine rt_callV Γ kk_X11_read_ kc_RL_89 (c_X11_read_W Γ (d := 2035) (by omega) hk1 ((congrFun h1 74).trans (lw_c74 s0 ca)) hn (i8_lt h9) hi (im1_lt hi)) (by omega) (by decide) (As := [.int (xs ((0 + 1) : Int32).toNatClampNeg), .int (xs ((0 + 2) : Int32).toNatClampNeg)]) (show (parseMethodDescriptor yX11_read_.desc).map (fun q => q.parameters.length) = some 2 by decide +kernel) hk1 (Nat.le_of_ble_eq_true rfl) dL_law_534 ((congrFun h1 74).trans (lw_c74 s0 ca)) rfl rfl rfl (rt_kr (st2 := [.int 0]) rfl ?_) rt_kx
  refine rt_istore (lv' := [(6, .int 0), (5, .int 1), (4, .int 0), (3, rt_r s0 127), (2, rt_r s0 74), (1, rt_r s0 0), (0, .ref b)]) dL_law_537 (by decide) rfl ?_
  refine rt_aload_n dL_law_539 rfl (j := 4) rfl ?_
  refine rt_callV Γ kk_X11_thrown kc_RL_57 (c_X11_thrown Γ (d := 2035) (rt_up_s _ _ _)) (by omega) (by decide) (As := []) (show (parseMethodDescriptor yX11_thrown.desc).map (fun q => q.parameters.length) = some 0 by decide +kernel) hk1 (Nat.le_of_ble_eq_true rfl) dL_law_540 (rt_up_s _ _ _) rfl rfl rfl (rt_kr (st2 := [.int 1]) rfl ?_) rt_kx
  refine rt_iload dL_law_543 (j := 1) rfl ?_
  refine rt_icmp_eq (tgt := 550) dL_law_545 (by decide) (fun _ => ?_) (fun c545 => absurd rfl c545)
  refine rt_iload dL_law_550 (j := 1) rfl ?_
  refine rt_if_ne (tgt := 567) dL_law_552 (by decide) (fun _ => ?_) (fun c552 => absurd c552 (by decide))
  refine rt_goto (tgt := 701) dL_law_567 (by decide) ?_
  exact rt_lfew [2, 6] rfl (lw_tail Γ hX hbl hk1)
set_option maxRecDepth 100000 in
theorem lw_o_fitsT {l : Launch} {s0 : State} {a0 : Array Value} {G : va_G} {ca : Nat → ClassId} (Γ : rt_Γ l s0 a0 G ca) {nm : String} {tab : List ExceptionTableEntry} {b : Nat} {xs : Nat → Int32} (hX : va_X b 6 xs s0 s0.heap) (hbl : b < s0.heap.size) (hn : (xs ((0 + 1) : Int32).toNatClampNeg) < 0) : rt_Go l s0 G RL nm cL_law 7 (some .boolean) tab 2036 rt_w0 rt_Ql 626 [(4, .int 0), (3, rt_r s0 127), (2, rt_r s0 74), (1, rt_r s0 0), (0, .ref b)] [] (lw_W s0 ca) := by
  refine rt_aload_n dL_law_626 rfl (j := 3) rfl ?_
  refine rt_aloadA_n dL_law_627 rfl (j := 4) rfl ?_
  refine rt_iload dL_law_628 (j := 0) rfl ?_
  refine rt_iconst (v := 1) dL_law_630 (by decide) ?_
  refine rt_iadd dL_law_631 ?_
  refine rt_sld hX hbl dL_law_632 (vp_in_iff.mpr ⟨by decide, by decide⟩) ?_
  refine rt_aloadA_n dL_law_633 rfl (j := 4) rfl ?_
  refine rt_iload dL_law_634 (j := 0) rfl ?_
  refine rt_iconst (v := 2) dL_law_636 (by decide) ?_
  refine rt_iadd dL_law_637 ?_
  refine rt_sld hX hbl dL_law_638 (vp_in_iff.mpr ⟨by decide, by decide⟩) ?_
  refine rt_aload_n dL_law_639 rfl (j := 1) rfl ?_
  refine rt_callS Γ kk_L_fits kc_RL_93 (c_L_fitsX1 Γ (d := 2035) (by omega) (lw_ok s0 ca) (lw_c0 s0 ca) (c_X9_fitsT Γ (d := 2035 - 1) (lw_ok s0 ca) (lw_ok1 s0 ca) (lw_c0 s0 ca) hn)) (by omega) (by decide) (As := [rt_r s0 0, .int (xs ((0 + 1) : Int32).toNatClampNeg), .int (xs ((0 + 2) : Int32).toNatClampNeg), rt_r s0 127]) (show (parseMethodDescriptor yL_fits.desc).map (fun q => q.parameters.length) = some 4 by decide +kernel) (lw_ok s0 ca) (Nat.le_of_ble_eq_true rfl) dL_law_640 rfl rfl (fun v9 w1 hq => ?_) (fun X w1 hq => nomatch hq.1)
  obtain ⟨e1, h1, h2, h3, h4⟩ := hq
  cases e1
  have hk1 : rt_ok w1 := lw_okr h3 h4
  show rt_Go l s0 G RL nm cL_law 7 (some .boolean) tab 2036 rt_w0 rt_Ql (640 + 3) [(4, .int 0), (3, rt_r s0 127), (2, rt_r s0 74), (1, rt_r s0 0), (0, .ref b)] [.int 1] w1
  refine rt_istore (lv' := [(5, .int 1), (4, .int 0), (3, rt_r s0 127), (2, rt_r s0 74), (1, rt_r s0 0), (0, .ref b)]) dL_law_643 (by decide) rfl ?_
  refine rt_aload_n dL_law_645 rfl (j := 3) rfl ?_
  refine rt_aloadA_n dL_law_646 rfl (j := 5) rfl ?_
  refine rt_iload dL_law_647 (j := 1) rfl ?_
  refine rt_iconst (v := 1) dL_law_649 (by decide) ?_
  refine rt_iadd dL_law_650 ?_
  refine rt_sld hX hbl dL_law_651 (vp_in_iff.mpr ⟨by decide, by decide⟩) ?_
  refine rt_aloadA_n dL_law_652 rfl (j := 5) rfl ?_
  refine rt_iload dL_law_653 (j := 1) rfl ?_
  refine rt_iconst (v := 2) dL_law_655 (by decide) ?_
  refine rt_iadd dL_law_656 ?_
  refine rt_sld hX hbl dL_law_657 (vp_in_iff.mpr ⟨by decide, by decide⟩) ?_
  refine rt_callV Γ kk_X11_fits kc_RL_95 (c_X11_fitsT Γ (d := 2035) (by omega) hk1 ((congrFun h1 74).trans (lw_c74 s0 ca)) hn) (by omega) (by decide) (As := [.int (xs ((0 + 1) : Int32).toNatClampNeg), .int (xs ((0 + 2) : Int32).toNatClampNeg)]) (show (parseMethodDescriptor yX11_fits.desc).map (fun q => q.parameters.length) = some 2 by decide +kernel) hk1 (Nat.le_of_ble_eq_true rfl) dL_law_658 ((congrFun h1 74).trans (lw_c74 s0 ca)) rfl rfl rfl (rt_kr (st2 := [.int 0]) rfl ?_) rt_kx
  refine rt_istore (lv' := [(6, .int 0), (5, .int 1), (4, .int 0), (3, rt_r s0 127), (2, rt_r s0 74), (1, rt_r s0 0), (0, .ref b)]) dL_law_661 (by decide) rfl ?_
  refine rt_aload_n dL_law_663 rfl (j := 4) rfl ?_
  refine rt_callV Γ kk_X11_thrown kc_RL_57 (c_X11_thrown Γ (d := 2035) (rt_up_s _ _ _)) (by omega) (by decide) (As := []) (show (parseMethodDescriptor yX11_thrown.desc).map (fun q => q.parameters.length) = some 0 by decide +kernel) hk1 (Nat.le_of_ble_eq_true rfl) dL_law_664 (rt_up_s _ _ _) rfl rfl rfl (rt_kr (st2 := [.int 1]) rfl ?_) rt_kx
  refine rt_iload dL_law_667 (j := 1) rfl ?_
  refine rt_icmp_eq (tgt := 674) dL_law_669 (by decide) (fun _ => ?_) (fun c669 => absurd rfl c669)
  refine rt_iload dL_law_674 (j := 1) rfl ?_
  refine rt_if_ne (tgt := 698) dL_law_676 (by decide) (fun _ => ?_) (fun c676 => absurd c676 (by decide))
  refine rt_goto (tgt := 701) dL_law_698 (by decide) ?_
  exact rt_lfew [2, 6] rfl (lw_tail Γ hX hbl hk1)
set_option maxRecDepth 100000 in
theorem lw_o_fitsU {l : Launch} {s0 : State} {a0 : Array Value} {G : va_G} {ca : Nat → ClassId} (Γ : rt_Γ l s0 a0 G ca) {nm : String} {tab : List ExceptionTableEntry} {b : Nat} {xs : Nat → Int32} (hX : va_X b 6 xs s0 s0.heap) (hbl : b < s0.heap.size) (hn : ¬ (xs ((0 + 1) : Int32).toNatClampNeg) < 0) (h9 : ¬ (xs ((0 + 1) : Int32).toNatClampNeg) < 8) : rt_Go l s0 G RL nm cL_law 7 (some .boolean) tab 2036 rt_w0 rt_Ql 626 [(4, .int 0), (3, rt_r s0 127), (2, rt_r s0 74), (1, rt_r s0 0), (0, .ref b)] [] (lw_W s0 ca) := by
  refine rt_aload_n dL_law_626 rfl (j := 3) rfl ?_
  refine rt_aloadA_n dL_law_627 rfl (j := 4) rfl ?_
  refine rt_iload dL_law_628 (j := 0) rfl ?_
  refine rt_iconst (v := 1) dL_law_630 (by decide) ?_
  refine rt_iadd dL_law_631 ?_
  refine rt_sld hX hbl dL_law_632 (vp_in_iff.mpr ⟨by decide, by decide⟩) ?_
  refine rt_aloadA_n dL_law_633 rfl (j := 4) rfl ?_
  refine rt_iload dL_law_634 (j := 0) rfl ?_
  refine rt_iconst (v := 2) dL_law_636 (by decide) ?_
  refine rt_iadd dL_law_637 ?_
  refine rt_sld hX hbl dL_law_638 (vp_in_iff.mpr ⟨by decide, by decide⟩) ?_
  refine rt_aload_n dL_law_639 rfl (j := 1) rfl ?_
  refine rt_callS Γ kk_L_fits kc_RL_93 (c_L_fitsX1 Γ (d := 2035) (by omega) (lw_ok s0 ca) (lw_c0 s0 ca) (c_X9_fitsU Γ (d := 2035 - 1) (lw_ok s0 ca) (lw_ok1 s0 ca) (lw_c0 s0 ca) hn (i8_ge h9))) (by omega) (by decide) (As := [rt_r s0 0, .int (xs ((0 + 1) : Int32).toNatClampNeg), .int (xs ((0 + 2) : Int32).toNatClampNeg), rt_r s0 127]) (show (parseMethodDescriptor yL_fits.desc).map (fun q => q.parameters.length) = some 4 by decide +kernel) (lw_ok s0 ca) (Nat.le_of_ble_eq_true rfl) dL_law_640 rfl rfl (fun v9 w1 hq => ?_) (fun X w1 hq => nomatch hq.1)
  obtain ⟨e1, h1, h2, h3, h4⟩ := hq
  cases e1
  have hk1 : rt_ok w1 := lw_okr h3 h4
  show rt_Go l s0 G RL nm cL_law 7 (some .boolean) tab 2036 rt_w0 rt_Ql (640 + 3) [(4, .int 0), (3, rt_r s0 127), (2, rt_r s0 74), (1, rt_r s0 0), (0, .ref b)] [.int 1] w1
  refine rt_istore (lv' := [(5, .int 1), (4, .int 0), (3, rt_r s0 127), (2, rt_r s0 74), (1, rt_r s0 0), (0, .ref b)]) dL_law_643 (by decide) rfl ?_
  refine rt_aload_n dL_law_645 rfl (j := 3) rfl ?_
  refine rt_aloadA_n dL_law_646 rfl (j := 5) rfl ?_
  refine rt_iload dL_law_647 (j := 1) rfl ?_
  refine rt_iconst (v := 1) dL_law_649 (by decide) ?_
  refine rt_iadd dL_law_650 ?_
  refine rt_sld hX hbl dL_law_651 (vp_in_iff.mpr ⟨by decide, by decide⟩) ?_
  refine rt_aloadA_n dL_law_652 rfl (j := 5) rfl ?_
  refine rt_iload dL_law_653 (j := 1) rfl ?_
  refine rt_iconst (v := 2) dL_law_655 (by decide) ?_
  refine rt_iadd dL_law_656 ?_
  refine rt_sld hX hbl dL_law_657 (vp_in_iff.mpr ⟨by decide, by decide⟩) ?_
  refine rt_callV Γ kk_X11_fits kc_RL_95 (c_X11_fitsU Γ (d := 2035) (by omega) hk1 ((congrFun h1 74).trans (lw_c74 s0 ca)) hn (i8_le h9)) (by omega) (by decide) (As := [.int (xs ((0 + 1) : Int32).toNatClampNeg), .int (xs ((0 + 2) : Int32).toNatClampNeg)]) (show (parseMethodDescriptor yX11_fits.desc).map (fun q => q.parameters.length) = some 2 by decide +kernel) hk1 (Nat.le_of_ble_eq_true rfl) dL_law_658 ((congrFun h1 74).trans (lw_c74 s0 ca)) rfl rfl rfl (rt_kr (st2 := [.int 0]) rfl ?_) rt_kx
  refine rt_istore (lv' := [(6, .int 0), (5, .int 1), (4, .int 0), (3, rt_r s0 127), (2, rt_r s0 74), (1, rt_r s0 0), (0, .ref b)]) dL_law_661 (by decide) rfl ?_
  refine rt_aload_n dL_law_663 rfl (j := 4) rfl ?_
  refine rt_callV Γ kk_X11_thrown kc_RL_57 (c_X11_thrown Γ (d := 2035) (rt_up_s _ _ _)) (by omega) (by decide) (As := []) (show (parseMethodDescriptor yX11_thrown.desc).map (fun q => q.parameters.length) = some 0 by decide +kernel) hk1 (Nat.le_of_ble_eq_true rfl) dL_law_664 (rt_up_s _ _ _) rfl rfl rfl (rt_kr (st2 := [.int 1]) rfl ?_) rt_kx
  refine rt_iload dL_law_667 (j := 1) rfl ?_
  refine rt_icmp_eq (tgt := 674) dL_law_669 (by decide) (fun _ => ?_) (fun c669 => absurd rfl c669)
  refine rt_iload dL_law_674 (j := 1) rfl ?_
  refine rt_if_ne (tgt := 698) dL_law_676 (by decide) (fun _ => ?_) (fun c676 => absurd c676 (by decide))
  refine rt_goto (tgt := 701) dL_law_698 (by decide) ?_
  exact rt_lfew [2, 6] rfl (lw_tail Γ hX hbl hk1)
set_option maxRecDepth 100000 in
theorem lw_o_fitsV {l : Launch} {s0 : State} {a0 : Array Value} {G : va_G} {ca : Nat → ClassId} (Γ : rt_Γ l s0 a0 G ca) {nm : String} {tab : List ExceptionTableEntry} {b : Nat} {xs : Nat → Int32} (hX : va_X b 6 xs s0 s0.heap) (hbl : b < s0.heap.size) (hn : ¬ (xs ((0 + 1) : Int32).toNatClampNeg) < 0) (h9 : (xs ((0 + 1) : Int32).toNatClampNeg) < 8) (hi : (xs ((0 + 2) : Int32).toNatClampNeg) < 0) : rt_Go l s0 G RL nm cL_law 7 (some .boolean) tab 2036 rt_w0 rt_Ql 626 [(4, .int 0), (3, rt_r s0 127), (2, rt_r s0 74), (1, rt_r s0 0), (0, .ref b)] [] (lw_W s0 ca) := by
  refine rt_aload_n dL_law_626 rfl (j := 3) rfl ?_
  refine rt_aloadA_n dL_law_627 rfl (j := 4) rfl ?_
  refine rt_iload dL_law_628 (j := 0) rfl ?_
  refine rt_iconst (v := 1) dL_law_630 (by decide) ?_
  refine rt_iadd dL_law_631 ?_
  refine rt_sld hX hbl dL_law_632 (vp_in_iff.mpr ⟨by decide, by decide⟩) ?_
  refine rt_aloadA_n dL_law_633 rfl (j := 4) rfl ?_
  refine rt_iload dL_law_634 (j := 0) rfl ?_
  refine rt_iconst (v := 2) dL_law_636 (by decide) ?_
  refine rt_iadd dL_law_637 ?_
  refine rt_sld hX hbl dL_law_638 (vp_in_iff.mpr ⟨by decide, by decide⟩) ?_
  refine rt_aload_n dL_law_639 rfl (j := 1) rfl ?_
  refine rt_callS Γ kk_L_fits kc_RL_93 (c_L_fitsX1 Γ (d := 2035) (by omega) (lw_ok s0 ca) (lw_c0 s0 ca) (c_X9_fitsV Γ (d := 2035 - 1) (lw_ok s0 ca) (lw_ok1 s0 ca) (lw_c0 s0 ca) hn (Int32.not_le.mpr h9) hi)) (by omega) (by decide) (As := [rt_r s0 0, .int (xs ((0 + 1) : Int32).toNatClampNeg), .int (xs ((0 + 2) : Int32).toNatClampNeg), rt_r s0 127]) (show (parseMethodDescriptor yL_fits.desc).map (fun q => q.parameters.length) = some 4 by decide +kernel) (lw_ok s0 ca) (Nat.le_of_ble_eq_true rfl) dL_law_640 rfl rfl (fun v9 w1 hq => ?_) (fun X w1 hq => nomatch hq.1)
  obtain ⟨e1, h1, h2, h3, h4⟩ := hq
  cases e1
  have hk1 : rt_ok w1 := lw_okr h3 h4
  show rt_Go l s0 G RL nm cL_law 7 (some .boolean) tab 2036 rt_w0 rt_Ql (640 + 3) [(4, .int 0), (3, rt_r s0 127), (2, rt_r s0 74), (1, rt_r s0 0), (0, .ref b)] [.int 1] w1
  refine rt_istore (lv' := [(5, .int 1), (4, .int 0), (3, rt_r s0 127), (2, rt_r s0 74), (1, rt_r s0 0), (0, .ref b)]) dL_law_643 (by decide) rfl ?_
  refine rt_aload_n dL_law_645 rfl (j := 3) rfl ?_
  refine rt_aloadA_n dL_law_646 rfl (j := 5) rfl ?_
  refine rt_iload dL_law_647 (j := 1) rfl ?_
  refine rt_iconst (v := 1) dL_law_649 (by decide) ?_
  refine rt_iadd dL_law_650 ?_
  refine rt_sld hX hbl dL_law_651 (vp_in_iff.mpr ⟨by decide, by decide⟩) ?_
  refine rt_aloadA_n dL_law_652 rfl (j := 5) rfl ?_
  refine rt_iload dL_law_653 (j := 1) rfl ?_
  refine rt_iconst (v := 2) dL_law_655 (by decide) ?_
  refine rt_iadd dL_law_656 ?_
  refine rt_sld hX hbl dL_law_657 (vp_in_iff.mpr ⟨by decide, by decide⟩) ?_
  refine rt_callV Γ kk_X11_fits kc_RL_95 (c_X11_fitsV Γ (d := 2035) (by omega) hk1 ((congrFun h1 74).trans (lw_c74 s0 ca)) hn (i8_lt h9) hi) (by omega) (by decide) (As := [.int (xs ((0 + 1) : Int32).toNatClampNeg), .int (xs ((0 + 2) : Int32).toNatClampNeg)]) (show (parseMethodDescriptor yX11_fits.desc).map (fun q => q.parameters.length) = some 2 by decide +kernel) hk1 (Nat.le_of_ble_eq_true rfl) dL_law_658 ((congrFun h1 74).trans (lw_c74 s0 ca)) rfl rfl rfl (rt_kr (st2 := [.int 0]) rfl ?_) rt_kx
  refine rt_istore (lv' := [(6, .int 0), (5, .int 1), (4, .int 0), (3, rt_r s0 127), (2, rt_r s0 74), (1, rt_r s0 0), (0, .ref b)]) dL_law_661 (by decide) rfl ?_
  refine rt_aload_n dL_law_663 rfl (j := 4) rfl ?_
  refine rt_callV Γ kk_X11_thrown kc_RL_57 (c_X11_thrown Γ (d := 2035) (rt_up_s _ _ _)) (by omega) (by decide) (As := []) (show (parseMethodDescriptor yX11_thrown.desc).map (fun q => q.parameters.length) = some 0 by decide +kernel) hk1 (Nat.le_of_ble_eq_true rfl) dL_law_664 (rt_up_s _ _ _) rfl rfl rfl (rt_kr (st2 := [.int 1]) rfl ?_) rt_kx
  refine rt_iload dL_law_667 (j := 1) rfl ?_
  refine rt_icmp_eq (tgt := 674) dL_law_669 (by decide) (fun _ => ?_) (fun c669 => absurd rfl c669)
  refine rt_iload dL_law_674 (j := 1) rfl ?_
  refine rt_if_ne (tgt := 698) dL_law_676 (by decide) (fun _ => ?_) (fun c676 => absurd c676 (by decide))
  refine rt_goto (tgt := 701) dL_law_698 (by decide) ?_
  exact rt_lfew [2, 6] rfl (lw_tail Γ hX hbl hk1)
set_option maxRecDepth 100000 in
theorem lw_o_fitsW {l : Launch} {s0 : State} {a0 : Array Value} {G : va_G} {ca : Nat → ClassId} (Γ : rt_Γ l s0 a0 G ca) {nm : String} {tab : List ExceptionTableEntry} {b : Nat} {xs : Nat → Int32} (hX : va_X b 6 xs s0 s0.heap) (hbl : b < s0.heap.size) (hn : ¬ (xs ((0 + 1) : Int32).toNatClampNeg) < 0) (h9 : (xs ((0 + 1) : Int32).toNatClampNeg) < 8) (hi : ¬ (xs ((0 + 2) : Int32).toNatClampNeg) < 0) (hj : ¬ (xs ((0 + 2) : Int32).toNatClampNeg) < 8) : rt_Go l s0 G RL nm cL_law 7 (some .boolean) tab 2036 rt_w0 rt_Ql 626 [(4, .int 0), (3, rt_r s0 127), (2, rt_r s0 74), (1, rt_r s0 0), (0, .ref b)] [] (lw_W s0 ca) := by
  refine rt_aload_n dL_law_626 rfl (j := 3) rfl ?_
  refine rt_aloadA_n dL_law_627 rfl (j := 4) rfl ?_
  refine rt_iload dL_law_628 (j := 0) rfl ?_
  refine rt_iconst (v := 1) dL_law_630 (by decide) ?_
  refine rt_iadd dL_law_631 ?_
  refine rt_sld hX hbl dL_law_632 (vp_in_iff.mpr ⟨by decide, by decide⟩) ?_
  refine rt_aloadA_n dL_law_633 rfl (j := 4) rfl ?_
  refine rt_iload dL_law_634 (j := 0) rfl ?_
  refine rt_iconst (v := 2) dL_law_636 (by decide) ?_
  refine rt_iadd dL_law_637 ?_
  refine rt_sld hX hbl dL_law_638 (vp_in_iff.mpr ⟨by decide, by decide⟩) ?_
  refine rt_aload_n dL_law_639 rfl (j := 1) rfl ?_
  refine rt_callS Γ kk_L_fits kc_RL_93 (c_L_fitsX1 Γ (d := 2035) (by omega) (lw_ok s0 ca) (lw_c0 s0 ca) (c_X9_fitsW Γ (d := 2035 - 1) (lw_ok s0 ca) (lw_ok1 s0 ca) (lw_c0 s0 ca) hn (Int32.not_le.mpr h9) hi hj)) (by omega) (by decide) (As := [rt_r s0 0, .int (xs ((0 + 1) : Int32).toNatClampNeg), .int (xs ((0 + 2) : Int32).toNatClampNeg), rt_r s0 127]) (show (parseMethodDescriptor yL_fits.desc).map (fun q => q.parameters.length) = some 4 by decide +kernel) (lw_ok s0 ca) (Nat.le_of_ble_eq_true rfl) dL_law_640 rfl rfl (fun v9 w1 hq => ?_) (fun X w1 hq => nomatch hq.1)
  obtain ⟨e1, h1, h2, h3, h4⟩ := hq
  cases e1
  have hk1 : rt_ok w1 := lw_okr h3 h4
  show rt_Go l s0 G RL nm cL_law 7 (some .boolean) tab 2036 rt_w0 rt_Ql (640 + 3) [(4, .int 0), (3, rt_r s0 127), (2, rt_r s0 74), (1, rt_r s0 0), (0, .ref b)] [.int 1] w1
  refine rt_istore (lv' := [(5, .int 1), (4, .int 0), (3, rt_r s0 127), (2, rt_r s0 74), (1, rt_r s0 0), (0, .ref b)]) dL_law_643 (by decide) rfl ?_
  refine rt_aload_n dL_law_645 rfl (j := 3) rfl ?_
  refine rt_aloadA_n dL_law_646 rfl (j := 5) rfl ?_
  refine rt_iload dL_law_647 (j := 1) rfl ?_
  refine rt_iconst (v := 1) dL_law_649 (by decide) ?_
  refine rt_iadd dL_law_650 ?_
  refine rt_sld hX hbl dL_law_651 (vp_in_iff.mpr ⟨by decide, by decide⟩) ?_
  refine rt_aloadA_n dL_law_652 rfl (j := 5) rfl ?_
  refine rt_iload dL_law_653 (j := 1) rfl ?_
  refine rt_iconst (v := 2) dL_law_655 (by decide) ?_
  refine rt_iadd dL_law_656 ?_
  refine rt_sld hX hbl dL_law_657 (vp_in_iff.mpr ⟨by decide, by decide⟩) ?_
  refine rt_callV Γ kk_X11_fits kc_RL_95 (c_X11_fitsW Γ (d := 2035) (by omega) hk1 ((congrFun h1 74).trans (lw_c74 s0 ca)) hn (i8_lt h9) hi (i8_le hj)) (by omega) (by decide) (As := [.int (xs ((0 + 1) : Int32).toNatClampNeg), .int (xs ((0 + 2) : Int32).toNatClampNeg)]) (show (parseMethodDescriptor yX11_fits.desc).map (fun q => q.parameters.length) = some 2 by decide +kernel) hk1 (Nat.le_of_ble_eq_true rfl) dL_law_658 ((congrFun h1 74).trans (lw_c74 s0 ca)) rfl rfl rfl (rt_kr (st2 := [.int 0]) rfl ?_) rt_kx
  refine rt_istore (lv' := [(6, .int 0), (5, .int 1), (4, .int 0), (3, rt_r s0 127), (2, rt_r s0 74), (1, rt_r s0 0), (0, .ref b)]) dL_law_661 (by decide) rfl ?_
  refine rt_aload_n dL_law_663 rfl (j := 4) rfl ?_
  refine rt_callV Γ kk_X11_thrown kc_RL_57 (c_X11_thrown Γ (d := 2035) (rt_up_s _ _ _)) (by omega) (by decide) (As := []) (show (parseMethodDescriptor yX11_thrown.desc).map (fun q => q.parameters.length) = some 0 by decide +kernel) hk1 (Nat.le_of_ble_eq_true rfl) dL_law_664 (rt_up_s _ _ _) rfl rfl rfl (rt_kr (st2 := [.int 1]) rfl ?_) rt_kx
  refine rt_iload dL_law_667 (j := 1) rfl ?_
  refine rt_icmp_eq (tgt := 674) dL_law_669 (by decide) (fun _ => ?_) (fun c669 => absurd rfl c669)
  refine rt_iload dL_law_674 (j := 1) rfl ?_
  refine rt_if_ne (tgt := 698) dL_law_676 (by decide) (fun _ => ?_) (fun c676 => absurd c676 (by decide))
  refine rt_goto (tgt := 701) dL_law_698 (by decide) ?_
  exact rt_lfew [2, 6] rfl (lw_tail Γ hX hbl hk1)
set_option maxRecDepth 100000 in
theorem lw_o_fitsX {l : Launch} {s0 : State} {a0 : Array Value} {G : va_G} {ca : Nat → ClassId} (Γ : rt_Γ l s0 a0 G ca) {nm : String} {tab : List ExceptionTableEntry} {b : Nat} {xs : Nat → Int32} (hX : va_X b 6 xs s0 s0.heap) (hbl : b < s0.heap.size) (hn : ¬ (xs ((0 + 1) : Int32).toNatClampNeg) < 0) (h9 : (xs ((0 + 1) : Int32).toNatClampNeg) < 8) (hi : ¬ (xs ((0 + 2) : Int32).toNatClampNeg) < 0) (hj : (xs ((0 + 2) : Int32).toNatClampNeg) < 8) : rt_Go l s0 G RL nm cL_law 7 (some .boolean) tab 2036 rt_w0 rt_Ql 626 [(4, .int 0), (3, rt_r s0 127), (2, rt_r s0 74), (1, rt_r s0 0), (0, .ref b)] [] (lw_W s0 ca) := by
  refine rt_aload_n dL_law_626 rfl (j := 3) rfl ?_
  refine rt_aloadA_n dL_law_627 rfl (j := 4) rfl ?_
  refine rt_iload dL_law_628 (j := 0) rfl ?_
  refine rt_iconst (v := 1) dL_law_630 (by decide) ?_
  refine rt_iadd dL_law_631 ?_
  refine rt_sld hX hbl dL_law_632 (vp_in_iff.mpr ⟨by decide, by decide⟩) ?_
  refine rt_aloadA_n dL_law_633 rfl (j := 4) rfl ?_
  refine rt_iload dL_law_634 (j := 0) rfl ?_
  refine rt_iconst (v := 2) dL_law_636 (by decide) ?_
  refine rt_iadd dL_law_637 ?_
  refine rt_sld hX hbl dL_law_638 (vp_in_iff.mpr ⟨by decide, by decide⟩) ?_
  refine rt_aload_n dL_law_639 rfl (j := 1) rfl ?_
  refine rt_callS Γ kk_L_fits kc_RL_93 (c_L_fitsX2 Γ (d := 2035) (by omega) (lw_ok s0 ca) (lw_c0 s0 ca) (c_X9_fitsX Γ (d := 2035 - 1) (lw_ok s0 ca) (lw_ok1 s0 ca) (lw_c0 s0 ca) (lw_c5 s0 ca) hn (Int32.not_le.mpr h9) hi hj rfl rfl)) (by omega) (by decide) (As := [rt_r s0 0, .int (xs ((0 + 1) : Int32).toNatClampNeg), .int (xs ((0 + 2) : Int32).toNatClampNeg), rt_r s0 127]) (show (parseMethodDescriptor yL_fits.desc).map (fun q => q.parameters.length) = some 4 by decide +kernel) (lw_ok s0 ca) (Nat.le_of_ble_eq_true rfl) dL_law_640 rfl rfl (fun v9 w1 hq => ?_) (fun X w1 hq => nomatch hq.1)
  obtain ⟨e1, h1, h2, h3, h4⟩ := hq
  cases e1
  have hk1 : rt_ok w1 := lw_okr h3 h4
  show rt_Go l s0 G RL nm cL_law 7 (some .boolean) tab 2036 rt_w0 rt_Ql (640 + 3) [(4, .int 0), (3, rt_r s0 127), (2, rt_r s0 74), (1, rt_r s0 0), (0, .ref b)] [.int 2] w1
  refine rt_istore (lv' := [(5, .int 2), (4, .int 0), (3, rt_r s0 127), (2, rt_r s0 74), (1, rt_r s0 0), (0, .ref b)]) dL_law_643 (by decide) rfl ?_
  refine rt_aload_n dL_law_645 rfl (j := 3) rfl ?_
  refine rt_aloadA_n dL_law_646 rfl (j := 5) rfl ?_
  refine rt_iload dL_law_647 (j := 1) rfl ?_
  refine rt_iconst (v := 1) dL_law_649 (by decide) ?_
  refine rt_iadd dL_law_650 ?_
  refine rt_sld hX hbl dL_law_651 (vp_in_iff.mpr ⟨by decide, by decide⟩) ?_
  refine rt_aloadA_n dL_law_652 rfl (j := 5) rfl ?_
  refine rt_iload dL_law_653 (j := 1) rfl ?_
  refine rt_iconst (v := 2) dL_law_655 (by decide) ?_
  refine rt_iadd dL_law_656 ?_
  refine rt_sld hX hbl dL_law_657 (vp_in_iff.mpr ⟨by decide, by decide⟩) ?_
  refine rt_callV Γ kk_X11_fits kc_RL_95 (c_X11_fitsX Γ (d := 2035) (by omega) hk1 ((congrFun h1 74).trans (lw_c74 s0 ca)) ((congrFun h1 121).trans (lw_c121 s0 ca)) hn (i8_lt h9) hi (i8_lt hj) (by rw [rt_fs8 hn (i8_lt h9)]; decide)) (by omega) (by decide) (As := [.int (xs ((0 + 1) : Int32).toNatClampNeg), .int (xs ((0 + 2) : Int32).toNatClampNeg)]) (show (parseMethodDescriptor yX11_fits.desc).map (fun q => q.parameters.length) = some 2 by decide +kernel) hk1 (Nat.le_of_ble_eq_true rfl) dL_law_658 ((congrFun h1 74).trans (lw_c74 s0 ca)) rfl rfl rfl (rt_kr (st2 := [.int 0]) rfl ?_) rt_kx
  refine rt_istore (lv' := [(6, .int 0), (5, .int 2), (4, .int 0), (3, rt_r s0 127), (2, rt_r s0 74), (1, rt_r s0 0), (0, .ref b)]) dL_law_661 (by decide) rfl ?_
  refine rt_aload_n dL_law_663 rfl (j := 4) rfl ?_
  refine rt_callV Γ kk_X11_thrown kc_RL_57 (c_X11_thrown Γ (d := 2035) (rt_up_s _ _ _)) (by omega) (by decide) (As := []) (show (parseMethodDescriptor yX11_thrown.desc).map (fun q => q.parameters.length) = some 0 by decide +kernel) hk1 (Nat.le_of_ble_eq_true rfl) dL_law_664 (rt_up_s _ _ _) rfl rfl rfl (rt_kr (st2 := [.int 2]) rfl ?_) rt_kx
  refine rt_iload dL_law_667 (j := 1) rfl ?_
  refine rt_icmp_eq (tgt := 674) dL_law_669 (by decide) (fun _ => ?_) (fun c669 => absurd rfl c669)
  refine rt_iload dL_law_674 (j := 1) rfl ?_
  refine rt_if_ne (tgt := 698) dL_law_676 (by decide) (fun _ => ?_) (fun c676 => absurd c676 (by decide))
  refine rt_goto (tgt := 701) dL_law_698 (by decide) ?_
  exact rt_lfew [2, 6] rfl (lw_tail Γ hX hbl hk1)
set_option maxRecDepth 100000 in
theorem lw_o_letter0I {l : Launch} {s0 : State} {a0 : Array Value} {G : va_G} {ca : Nat → ClassId} (Γ : rt_Γ l s0 a0 G ca) {nm : String} {tab : List ExceptionTableEntry} {b : Nat} {xs : Nat → Int32} (hX : va_X b 6 xs s0 s0.heap) (hbl : b < s0.heap.size) (hv : (xs ((0 + 2) : Int32).toNatClampNeg) = 0) (hn : (xs ((0 + 1) : Int32).toNatClampNeg) < 0) : rt_Go l s0 G RL nm cL_law 7 (some .boolean) tab 2036 rt_w0 rt_Ql 434 [(4, .int 0), (3, rt_r s0 127), (2, rt_r s0 74), (1, rt_r s0 0), (0, .ref b)] [] (lw_W s0 ca) := by
  refine rt_aload_n dL_law_434 rfl (j := 3) rfl ?_
  refine rt_aloadA_n dL_law_435 rfl (j := 4) rfl ?_
  refine rt_iload dL_law_436 (j := 0) rfl ?_
  refine rt_iconst (v := 1) dL_law_438 (by decide) ?_
  refine rt_iadd dL_law_439 ?_
  refine rt_sld hX hbl dL_law_440 (vp_in_iff.mpr ⟨by decide, by decide⟩) ?_
  refine rt_aloadA_n dL_law_441 rfl (j := 4) rfl ?_
  refine rt_iload dL_law_442 (j := 0) rfl ?_
  refine rt_iconst (v := 2) dL_law_444 (by decide) ?_
  refine rt_iadd dL_law_445 ?_
  refine rt_sld hX hbl dL_law_446 (vp_in_iff.mpr ⟨by decide, by decide⟩) ?_
  refine rt_aload_n dL_law_447 rfl (j := 1) rfl ?_
  rw [hv]
  refine rt_callS Γ kk_L_letter kc_RL_83 (c_L_letterX1 Γ (d := 2035) (by omega) (lw_ok s0 ca) (lw_c0 s0 ca) (c_X9_letter0T Γ (d := 2035 - 1) (by omega) (lw_ok s0 ca) (lw_ok1 s0 ca) (lw_c0 s0 ca) (lw_c64 s0 ca) hn)) (by omega) (by decide) (As := [rt_r s0 0, .int (xs ((0 + 1) : Int32).toNatClampNeg), .int 0, rt_r s0 127]) (show (parseMethodDescriptor yL_letter.desc).map (fun q => q.parameters.length) = some 4 by decide +kernel) (lw_ok s0 ca) (Nat.le_of_ble_eq_true rfl) dL_law_448 rfl rfl (fun v9 w1 hq => ?_) (fun X w1 hq => nomatch hq.1)
  obtain ⟨e1, h1, h2, h3, h4⟩ := hq
  cases e1
  have hk1 : rt_ok w1 := lw_okr h3 h4
  show rt_Go l s0 G RL nm cL_law 7 (some .boolean) tab 2036 rt_w0 rt_Ql (448 + 3) [(4, .int 0), (3, rt_r s0 127), (2, rt_r s0 74), (1, rt_r s0 0), (0, .ref b)] [.int 1] w1
  refine rt_istore (lv' := [(5, .int 1), (4, .int 0), (3, rt_r s0 127), (2, rt_r s0 74), (1, rt_r s0 0), (0, .ref b)]) dL_law_451 (by decide) rfl ?_
  refine rt_aload_n dL_law_453 rfl (j := 3) rfl ?_
  refine rt_aloadA_n dL_law_454 rfl (j := 5) rfl ?_
  refine rt_iload dL_law_455 (j := 1) rfl ?_
  refine rt_iconst (v := 1) dL_law_457 (by decide) ?_
  refine rt_iadd dL_law_458 ?_
  refine rt_sld hX hbl dL_law_459 (vp_in_iff.mpr ⟨by decide, by decide⟩) ?_
  refine rt_aloadA_n dL_law_460 rfl (j := 5) rfl ?_
  refine rt_iload dL_law_461 (j := 1) rfl ?_
  refine rt_iconst (v := 2) dL_law_463 (by decide) ?_
  refine rt_iadd dL_law_464 ?_
  refine rt_sld hX hbl dL_law_465 (vp_in_iff.mpr ⟨by decide, by decide⟩) ?_
  rw [hv]
  refine rt_callV Γ kk_X11_letter kc_RL_86 (c_X11_letter0I Γ (d := 2035) (by omega) hk1 ((congrFun h1 74).trans (lw_c74 s0 ca)) hn) (by omega) (by decide) (As := [.int (xs ((0 + 1) : Int32).toNatClampNeg), .int 0]) (show (parseMethodDescriptor yX11_letter.desc).map (fun q => q.parameters.length) = some 2 by decide +kernel) hk1 (Nat.le_of_ble_eq_true rfl) dL_law_466 ((congrFun h1 74).trans (lw_c74 s0 ca)) rfl rfl rfl (rt_kr (st2 := [.int 0]) rfl ?_) rt_kx
  refine rt_istore (lv' := [(6, .int 0), (5, .int 1), (4, .int 0), (3, rt_r s0 127), (2, rt_r s0 74), (1, rt_r s0 0), (0, .ref b)]) dL_law_469 (by decide) rfl ?_
  refine rt_aload_n dL_law_471 rfl (j := 4) rfl ?_
  refine rt_callV Γ kk_X11_thrown kc_RL_57 (c_X11_thrown Γ (d := 2035) (rt_up_s _ _ _)) (by omega) (by decide) (As := []) (show (parseMethodDescriptor yX11_thrown.desc).map (fun q => q.parameters.length) = some 0 by decide +kernel) hk1 (Nat.le_of_ble_eq_true rfl) dL_law_472 (rt_up_s _ _ _) rfl rfl rfl (rt_kr (st2 := [.int 1]) rfl ?_) rt_kx
  refine rt_iload dL_law_475 (j := 1) rfl ?_
  refine rt_icmp_eq (tgt := 482) dL_law_477 (by decide) (fun _ => ?_) (fun c477 => absurd rfl c477)
  refine rt_iload dL_law_482 (j := 1) rfl ?_
  refine rt_if_ne (tgt := 499) dL_law_484 (by decide) (fun _ => ?_) (fun c484 => absurd c484 (by decide))
  refine rt_goto (tgt := 701) dL_law_499 (by decide) ?_
  exact rt_lfew [2, 6] rfl (lw_tail Γ hX hbl hk1)
set_option maxRecDepth 100000 in
theorem lw_o_letter0J {l : Launch} {s0 : State} {a0 : Array Value} {G : va_G} {ca : Nat → ClassId} (Γ : rt_Γ l s0 a0 G ca) {nm : String} {tab : List ExceptionTableEntry} {b : Nat} {xs : Nat → Int32} (hX : va_X b 6 xs s0 s0.heap) (hbl : b < s0.heap.size) (hv : (xs ((0 + 2) : Int32).toNatClampNeg) = 0) (hn : ¬ (xs ((0 + 1) : Int32).toNatClampNeg) < 0) : rt_Go l s0 G RL nm cL_law 7 (some .boolean) tab 2036 rt_w0 rt_Ql 434 [(4, .int 0), (3, rt_r s0 127), (2, rt_r s0 74), (1, rt_r s0 0), (0, .ref b)] [] (lw_W s0 ca) := by
  refine rt_aload_n dL_law_434 rfl (j := 3) rfl ?_
  refine rt_aloadA_n dL_law_435 rfl (j := 4) rfl ?_
  refine rt_iload dL_law_436 (j := 0) rfl ?_
  refine rt_iconst (v := 1) dL_law_438 (by decide) ?_
  refine rt_iadd dL_law_439 ?_
  refine rt_sld hX hbl dL_law_440 (vp_in_iff.mpr ⟨by decide, by decide⟩) ?_
  refine rt_aloadA_n dL_law_441 rfl (j := 4) rfl ?_
  refine rt_iload dL_law_442 (j := 0) rfl ?_
  refine rt_iconst (v := 2) dL_law_444 (by decide) ?_
  refine rt_iadd dL_law_445 ?_
  refine rt_sld hX hbl dL_law_446 (vp_in_iff.mpr ⟨by decide, by decide⟩) ?_
  refine rt_aload_n dL_law_447 rfl (j := 1) rfl ?_
  rw [hv]
  refine rt_callS Γ kk_L_letter kc_RL_83 (c_L_letterX1 Γ (d := 2035) (by omega) (lw_ok s0 ca) (lw_c0 s0 ca) (c_X9_letter0U Γ (d := 2035 - 1) (by omega) (lw_ok s0 ca) (lw_ok1 s0 ca) (lw_c0 s0 ca) (lw_c64 s0 ca) ⟨lw_c65 s0 ca, lw_c66 s0 ca⟩ hn hn)) (by omega) (by decide) (As := [rt_r s0 0, .int (xs ((0 + 1) : Int32).toNatClampNeg), .int 0, rt_r s0 127]) (show (parseMethodDescriptor yL_letter.desc).map (fun q => q.parameters.length) = some 4 by decide +kernel) (lw_ok s0 ca) (Nat.le_of_ble_eq_true rfl) dL_law_448 rfl rfl (fun v9 w1 hq => ?_) (fun X w1 hq => nomatch hq.1)
  obtain ⟨e1, h1, h2, h3, h4⟩ := hq
  cases e1
  have hk1 : rt_ok w1 := lw_okr h3 h4
  show rt_Go l s0 G RL nm cL_law 7 (some .boolean) tab 2036 rt_w0 rt_Ql (448 + 3) [(4, .int 0), (3, rt_r s0 127), (2, rt_r s0 74), (1, rt_r s0 0), (0, .ref b)] [.int 1] w1
  refine rt_istore (lv' := [(5, .int 1), (4, .int 0), (3, rt_r s0 127), (2, rt_r s0 74), (1, rt_r s0 0), (0, .ref b)]) dL_law_451 (by decide) rfl ?_
  refine rt_aload_n dL_law_453 rfl (j := 3) rfl ?_
  refine rt_aloadA_n dL_law_454 rfl (j := 5) rfl ?_
  refine rt_iload dL_law_455 (j := 1) rfl ?_
  refine rt_iconst (v := 1) dL_law_457 (by decide) ?_
  refine rt_iadd dL_law_458 ?_
  refine rt_sld hX hbl dL_law_459 (vp_in_iff.mpr ⟨by decide, by decide⟩) ?_
  refine rt_aloadA_n dL_law_460 rfl (j := 5) rfl ?_
  refine rt_iload dL_law_461 (j := 1) rfl ?_
  refine rt_iconst (v := 2) dL_law_463 (by decide) ?_
  refine rt_iadd dL_law_464 ?_
  refine rt_sld hX hbl dL_law_465 (vp_in_iff.mpr ⟨by decide, by decide⟩) ?_
  rw [hv]
  refine rt_callV Γ kk_X11_letter kc_RL_86 (c_X11_letter0J Γ (d := 2035) (by omega) hk1 ((congrFun h1 74).trans (lw_c74 s0 ca)) hn (im1_lt hn)) (by omega) (by decide) (As := [.int (xs ((0 + 1) : Int32).toNatClampNeg), .int 0]) (show (parseMethodDescriptor yX11_letter.desc).map (fun q => q.parameters.length) = some 2 by decide +kernel) hk1 (Nat.le_of_ble_eq_true rfl) dL_law_466 ((congrFun h1 74).trans (lw_c74 s0 ca)) rfl rfl rfl (rt_kr (st2 := [.int 0]) rfl ?_) rt_kx
  refine rt_istore (lv' := [(6, .int 0), (5, .int 1), (4, .int 0), (3, rt_r s0 127), (2, rt_r s0 74), (1, rt_r s0 0), (0, .ref b)]) dL_law_469 (by decide) rfl ?_
  refine rt_aload_n dL_law_471 rfl (j := 4) rfl ?_
  refine rt_callV Γ kk_X11_thrown kc_RL_57 (c_X11_thrown Γ (d := 2035) (rt_up_s _ _ _)) (by omega) (by decide) (As := []) (show (parseMethodDescriptor yX11_thrown.desc).map (fun q => q.parameters.length) = some 0 by decide +kernel) hk1 (Nat.le_of_ble_eq_true rfl) dL_law_472 (rt_up_s _ _ _) rfl rfl rfl (rt_kr (st2 := [.int 1]) rfl ?_) rt_kx
  refine rt_iload dL_law_475 (j := 1) rfl ?_
  refine rt_icmp_eq (tgt := 482) dL_law_477 (by decide) (fun _ => ?_) (fun c477 => absurd rfl c477)
  refine rt_iload dL_law_482 (j := 1) rfl ?_
  refine rt_if_ne (tgt := 499) dL_law_484 (by decide) (fun _ => ?_) (fun c484 => absurd c484 (by decide))
  refine rt_goto (tgt := 701) dL_law_499 (by decide) ?_
  exact rt_lfew [2, 6] rfl (lw_tail Γ hX hbl hk1)
set_option maxRecDepth 100000 in
theorem lw_o_letter1I {l : Launch} {s0 : State} {a0 : Array Value} {G : va_G} {ca : Nat → ClassId} (Γ : rt_Γ l s0 a0 G ca) {nm : String} {tab : List ExceptionTableEntry} {b : Nat} {xs : Nat → Int32} (hX : va_X b 6 xs s0 s0.heap) (hbl : b < s0.heap.size) (hv : (xs ((0 + 2) : Int32).toNatClampNeg) = 1) (hn : (xs ((0 + 1) : Int32).toNatClampNeg) < 0) : rt_Go l s0 G RL nm cL_law 7 (some .boolean) tab 2036 rt_w0 rt_Ql 434 [(4, .int 0), (3, rt_r s0 127), (2, rt_r s0 74), (1, rt_r s0 0), (0, .ref b)] [] (lw_W s0 ca) := by
  refine rt_aload_n dL_law_434 rfl (j := 3) rfl ?_
  refine rt_aloadA_n dL_law_435 rfl (j := 4) rfl ?_
  refine rt_iload dL_law_436 (j := 0) rfl ?_
  refine rt_iconst (v := 1) dL_law_438 (by decide) ?_
  refine rt_iadd dL_law_439 ?_
  refine rt_sld hX hbl dL_law_440 (vp_in_iff.mpr ⟨by decide, by decide⟩) ?_
  refine rt_aloadA_n dL_law_441 rfl (j := 4) rfl ?_
  refine rt_iload dL_law_442 (j := 0) rfl ?_
  refine rt_iconst (v := 2) dL_law_444 (by decide) ?_
  refine rt_iadd dL_law_445 ?_
  refine rt_sld hX hbl dL_law_446 (vp_in_iff.mpr ⟨by decide, by decide⟩) ?_
  refine rt_aload_n dL_law_447 rfl (j := 1) rfl ?_
  rw [hv]
  refine rt_callS Γ kk_L_letter kc_RL_83 (c_L_letterX1 Γ (d := 2035) (by omega) (lw_ok s0 ca) (lw_c0 s0 ca) (c_X9_letter1T Γ (d := 2035 - 1) (by omega) (lw_ok s0 ca) (lw_ok1 s0 ca) (lw_c0 s0 ca)  hn)) (by omega) (by decide) (As := [rt_r s0 0, .int (xs ((0 + 1) : Int32).toNatClampNeg), .int 1, rt_r s0 127]) (show (parseMethodDescriptor yL_letter.desc).map (fun q => q.parameters.length) = some 4 by decide +kernel) (lw_ok s0 ca) (Nat.le_of_ble_eq_true rfl) dL_law_448 rfl rfl (fun v9 w1 hq => ?_) (fun X w1 hq => nomatch hq.1)
  obtain ⟨e1, h1, h2, h3, h4⟩ := hq
  cases e1
  have hk1 : rt_ok w1 := lw_okr h3 h4
  show rt_Go l s0 G RL nm cL_law 7 (some .boolean) tab 2036 rt_w0 rt_Ql (448 + 3) [(4, .int 0), (3, rt_r s0 127), (2, rt_r s0 74), (1, rt_r s0 0), (0, .ref b)] [.int 1] w1
  refine rt_istore (lv' := [(5, .int 1), (4, .int 0), (3, rt_r s0 127), (2, rt_r s0 74), (1, rt_r s0 0), (0, .ref b)]) dL_law_451 (by decide) rfl ?_
  refine rt_aload_n dL_law_453 rfl (j := 3) rfl ?_
  refine rt_aloadA_n dL_law_454 rfl (j := 5) rfl ?_
  refine rt_iload dL_law_455 (j := 1) rfl ?_
  refine rt_iconst (v := 1) dL_law_457 (by decide) ?_
  refine rt_iadd dL_law_458 ?_
  refine rt_sld hX hbl dL_law_459 (vp_in_iff.mpr ⟨by decide, by decide⟩) ?_
  refine rt_aloadA_n dL_law_460 rfl (j := 5) rfl ?_
  refine rt_iload dL_law_461 (j := 1) rfl ?_
  refine rt_iconst (v := 2) dL_law_463 (by decide) ?_
  refine rt_iadd dL_law_464 ?_
  refine rt_sld hX hbl dL_law_465 (vp_in_iff.mpr ⟨by decide, by decide⟩) ?_
  rw [hv]
  refine rt_callV Γ kk_X11_letter kc_RL_86 (c_X11_letter1I Γ (d := 2035) (by omega) hk1 ((congrFun h1 74).trans (lw_c74 s0 ca)) hn) (by omega) (by decide) (As := [.int (xs ((0 + 1) : Int32).toNatClampNeg), .int 1]) (show (parseMethodDescriptor yX11_letter.desc).map (fun q => q.parameters.length) = some 2 by decide +kernel) hk1 (Nat.le_of_ble_eq_true rfl) dL_law_466 ((congrFun h1 74).trans (lw_c74 s0 ca)) rfl rfl rfl (rt_kr (st2 := [.int 0]) rfl ?_) rt_kx
  refine rt_istore (lv' := [(6, .int 0), (5, .int 1), (4, .int 0), (3, rt_r s0 127), (2, rt_r s0 74), (1, rt_r s0 0), (0, .ref b)]) dL_law_469 (by decide) rfl ?_
  refine rt_aload_n dL_law_471 rfl (j := 4) rfl ?_
  refine rt_callV Γ kk_X11_thrown kc_RL_57 (c_X11_thrown Γ (d := 2035) (rt_up_s _ _ _)) (by omega) (by decide) (As := []) (show (parseMethodDescriptor yX11_thrown.desc).map (fun q => q.parameters.length) = some 0 by decide +kernel) hk1 (Nat.le_of_ble_eq_true rfl) dL_law_472 (rt_up_s _ _ _) rfl rfl rfl (rt_kr (st2 := [.int 1]) rfl ?_) rt_kx
  refine rt_iload dL_law_475 (j := 1) rfl ?_
  refine rt_icmp_eq (tgt := 482) dL_law_477 (by decide) (fun _ => ?_) (fun c477 => absurd rfl c477)
  refine rt_iload dL_law_482 (j := 1) rfl ?_
  refine rt_if_ne (tgt := 499) dL_law_484 (by decide) (fun _ => ?_) (fun c484 => absurd c484 (by decide))
  refine rt_goto (tgt := 701) dL_law_499 (by decide) ?_
  exact rt_lfew [2, 6] rfl (lw_tail Γ hX hbl hk1)
set_option maxRecDepth 100000 in
theorem lw_o_letter1J {l : Launch} {s0 : State} {a0 : Array Value} {G : va_G} {ca : Nat → ClassId} (Γ : rt_Γ l s0 a0 G ca) {nm : String} {tab : List ExceptionTableEntry} {b : Nat} {xs : Nat → Int32} (hX : va_X b 6 xs s0 s0.heap) (hbl : b < s0.heap.size) (hv : (xs ((0 + 2) : Int32).toNatClampNeg) = 1) (hn : ¬ (xs ((0 + 1) : Int32).toNatClampNeg) < 0) : rt_Go l s0 G RL nm cL_law 7 (some .boolean) tab 2036 rt_w0 rt_Ql 434 [(4, .int 0), (3, rt_r s0 127), (2, rt_r s0 74), (1, rt_r s0 0), (0, .ref b)] [] (lw_W s0 ca) := by
  refine rt_aload_n dL_law_434 rfl (j := 3) rfl ?_
  refine rt_aloadA_n dL_law_435 rfl (j := 4) rfl ?_
  refine rt_iload dL_law_436 (j := 0) rfl ?_
  refine rt_iconst (v := 1) dL_law_438 (by decide) ?_
  refine rt_iadd dL_law_439 ?_
  refine rt_sld hX hbl dL_law_440 (vp_in_iff.mpr ⟨by decide, by decide⟩) ?_
  refine rt_aloadA_n dL_law_441 rfl (j := 4) rfl ?_
  refine rt_iload dL_law_442 (j := 0) rfl ?_
  refine rt_iconst (v := 2) dL_law_444 (by decide) ?_
  refine rt_iadd dL_law_445 ?_
  refine rt_sld hX hbl dL_law_446 (vp_in_iff.mpr ⟨by decide, by decide⟩) ?_
  refine rt_aload_n dL_law_447 rfl (j := 1) rfl ?_
  rw [hv]
  refine rt_callS Γ kk_L_letter kc_RL_83 (c_L_letterX1 Γ (d := 2035) (by omega) (lw_ok s0 ca) (lw_c0 s0 ca) (c_X9_letter1U Γ (d := 2035 - 1) (by omega) (lw_ok s0 ca) (lw_ok1 s0 ca) (lw_c0 s0 ca)  ⟨lw_c3 s0 ca, lw_c4 s0 ca⟩ hn hn)) (by omega) (by decide) (As := [rt_r s0 0, .int (xs ((0 + 1) : Int32).toNatClampNeg), .int 1, rt_r s0 127]) (show (parseMethodDescriptor yL_letter.desc).map (fun q => q.parameters.length) = some 4 by decide +kernel) (lw_ok s0 ca) (Nat.le_of_ble_eq_true rfl) dL_law_448 rfl rfl (fun v9 w1 hq => ?_) (fun X w1 hq => nomatch hq.1)
  obtain ⟨e1, h1, h2, h3, h4⟩ := hq
  cases e1
  have hk1 : rt_ok w1 := lw_okr h3 h4
  show rt_Go l s0 G RL nm cL_law 7 (some .boolean) tab 2036 rt_w0 rt_Ql (448 + 3) [(4, .int 0), (3, rt_r s0 127), (2, rt_r s0 74), (1, rt_r s0 0), (0, .ref b)] [.int 1] w1
  refine rt_istore (lv' := [(5, .int 1), (4, .int 0), (3, rt_r s0 127), (2, rt_r s0 74), (1, rt_r s0 0), (0, .ref b)]) dL_law_451 (by decide) rfl ?_
  refine rt_aload_n dL_law_453 rfl (j := 3) rfl ?_
  refine rt_aloadA_n dL_law_454 rfl (j := 5) rfl ?_
  refine rt_iload dL_law_455 (j := 1) rfl ?_
  refine rt_iconst (v := 1) dL_law_457 (by decide) ?_
  refine rt_iadd dL_law_458 ?_
  refine rt_sld hX hbl dL_law_459 (vp_in_iff.mpr ⟨by decide, by decide⟩) ?_
  refine rt_aloadA_n dL_law_460 rfl (j := 5) rfl ?_
  refine rt_iload dL_law_461 (j := 1) rfl ?_
  refine rt_iconst (v := 2) dL_law_463 (by decide) ?_
  refine rt_iadd dL_law_464 ?_
  refine rt_sld hX hbl dL_law_465 (vp_in_iff.mpr ⟨by decide, by decide⟩) ?_
  rw [hv]
  refine rt_callV Γ kk_X11_letter kc_RL_86 (c_X11_letter1J Γ (d := 2035) (by omega) hk1 ((congrFun h1 74).trans (lw_c74 s0 ca)) hn (im1_lt hn)) (by omega) (by decide) (As := [.int (xs ((0 + 1) : Int32).toNatClampNeg), .int 1]) (show (parseMethodDescriptor yX11_letter.desc).map (fun q => q.parameters.length) = some 2 by decide +kernel) hk1 (Nat.le_of_ble_eq_true rfl) dL_law_466 ((congrFun h1 74).trans (lw_c74 s0 ca)) rfl rfl rfl (rt_kr (st2 := [.int 0]) rfl ?_) rt_kx
  refine rt_istore (lv' := [(6, .int 0), (5, .int 1), (4, .int 0), (3, rt_r s0 127), (2, rt_r s0 74), (1, rt_r s0 0), (0, .ref b)]) dL_law_469 (by decide) rfl ?_
  refine rt_aload_n dL_law_471 rfl (j := 4) rfl ?_
  refine rt_callV Γ kk_X11_thrown kc_RL_57 (c_X11_thrown Γ (d := 2035) (rt_up_s _ _ _)) (by omega) (by decide) (As := []) (show (parseMethodDescriptor yX11_thrown.desc).map (fun q => q.parameters.length) = some 0 by decide +kernel) hk1 (Nat.le_of_ble_eq_true rfl) dL_law_472 (rt_up_s _ _ _) rfl rfl rfl (rt_kr (st2 := [.int 1]) rfl ?_) rt_kx
  refine rt_iload dL_law_475 (j := 1) rfl ?_
  refine rt_icmp_eq (tgt := 482) dL_law_477 (by decide) (fun _ => ?_) (fun c477 => absurd rfl c477)
  refine rt_iload dL_law_482 (j := 1) rfl ?_
  refine rt_if_ne (tgt := 499) dL_law_484 (by decide) (fun _ => ?_) (fun c484 => absurd c484 (by decide))
  refine rt_goto (tgt := 701) dL_law_499 (by decide) ?_
  exact rt_lfew [2, 6] rfl (lw_tail Γ hX hbl hk1)
set_option maxRecDepth 100000 in
theorem lw_o_letterT {l : Launch} {s0 : State} {a0 : Array Value} {G : va_G} {ca : Nat → ClassId} (Γ : rt_Γ l s0 a0 G ca) {nm : String} {tab : List ExceptionTableEntry} {b : Nat} {xs : Nat → Int32} (hX : va_X b 6 xs s0 s0.heap) (hbl : b < s0.heap.size) (h0 : ¬ (xs ((0 + 2) : Int32).toNatClampNeg) = 0) (h9 : ¬ (xs ((0 + 2) : Int32).toNatClampNeg) = 1) (hn : (xs ((0 + 2) : Int32).toNatClampNeg) < 0) : rt_Go l s0 G RL nm cL_law 7 (some .boolean) tab 2036 rt_w0 rt_Ql 434 [(4, .int 0), (3, rt_r s0 127), (2, rt_r s0 74), (1, rt_r s0 0), (0, .ref b)] [] (lw_W s0 ca) := by
  refine rt_aload_n dL_law_434 rfl (j := 3) rfl ?_
  refine rt_aloadA_n dL_law_435 rfl (j := 4) rfl ?_
  refine rt_iload dL_law_436 (j := 0) rfl ?_
  refine rt_iconst (v := 1) dL_law_438 (by decide) ?_
  refine rt_iadd dL_law_439 ?_
  refine rt_sld hX hbl dL_law_440 (vp_in_iff.mpr ⟨by decide, by decide⟩) ?_
  refine rt_aloadA_n dL_law_441 rfl (j := 4) rfl ?_
  refine rt_iload dL_law_442 (j := 0) rfl ?_
  refine rt_iconst (v := 2) dL_law_444 (by decide) ?_
  refine rt_iadd dL_law_445 ?_
  refine rt_sld hX hbl dL_law_446 (vp_in_iff.mpr ⟨by decide, by decide⟩) ?_
  refine rt_aload_n dL_law_447 rfl (j := 1) rfl ?_
  refine rt_callS Γ kk_L_letter kc_RL_83 (c_L_letterX2 Γ (d := 2035) (by omega) (lw_ok s0 ca) (lw_c0 s0 ca) (c_X9_letterT Γ (d := 2035 - 1) (lw_ok s0 ca) (lw_ok1 s0 ca) (lw_c0 s0 ca) h0 h9)) (by omega) (by decide) (As := [rt_r s0 0, .int (xs ((0 + 1) : Int32).toNatClampNeg), .int (xs ((0 + 2) : Int32).toNatClampNeg), rt_r s0 127]) (show (parseMethodDescriptor yL_letter.desc).map (fun q => q.parameters.length) = some 4 by decide +kernel) (lw_ok s0 ca) (Nat.le_of_ble_eq_true rfl) dL_law_448 rfl rfl (fun v9 w1 hq => ?_) (fun X w1 hq => nomatch hq.1)
  obtain ⟨e1, h1, h2, h3, h4⟩ := hq
  cases e1
  have hk1 : rt_ok w1 := lw_okr h3 h4
  show rt_Go l s0 G RL nm cL_law 7 (some .boolean) tab 2036 rt_w0 rt_Ql (448 + 3) [(4, .int 0), (3, rt_r s0 127), (2, rt_r s0 74), (1, rt_r s0 0), (0, .ref b)] [.int 2] w1
  refine rt_istore (lv' := [(5, .int 2), (4, .int 0), (3, rt_r s0 127), (2, rt_r s0 74), (1, rt_r s0 0), (0, .ref b)]) dL_law_451 (by decide) rfl ?_
  refine rt_aload_n dL_law_453 rfl (j := 3) rfl ?_
  refine rt_aloadA_n dL_law_454 rfl (j := 5) rfl ?_
  refine rt_iload dL_law_455 (j := 1) rfl ?_
  refine rt_iconst (v := 1) dL_law_457 (by decide) ?_
  refine rt_iadd dL_law_458 ?_
  refine rt_sld hX hbl dL_law_459 (vp_in_iff.mpr ⟨by decide, by decide⟩) ?_
  refine rt_aloadA_n dL_law_460 rfl (j := 5) rfl ?_
  refine rt_iload dL_law_461 (j := 1) rfl ?_
  refine rt_iconst (v := 2) dL_law_463 (by decide) ?_
  refine rt_iadd dL_law_464 ?_
  refine rt_sld hX hbl dL_law_465 (vp_in_iff.mpr ⟨by decide, by decide⟩) ?_
  refine rt_callV Γ kk_X11_letter kc_RL_86 (c_X11_letterT Γ (d := 2035) (by omega) hk1 ((congrFun h1 74).trans (lw_c74 s0 ca)) hn) (by omega) (by decide) (As := [.int (xs ((0 + 1) : Int32).toNatClampNeg), .int (xs ((0 + 2) : Int32).toNatClampNeg)]) (show (parseMethodDescriptor yX11_letter.desc).map (fun q => q.parameters.length) = some 2 by decide +kernel) hk1 (Nat.le_of_ble_eq_true rfl) dL_law_466 ((congrFun h1 74).trans (lw_c74 s0 ca)) rfl rfl rfl (rt_kr (st2 := [.int 0]) rfl ?_) rt_kx
  refine rt_istore (lv' := [(6, .int 0), (5, .int 2), (4, .int 0), (3, rt_r s0 127), (2, rt_r s0 74), (1, rt_r s0 0), (0, .ref b)]) dL_law_469 (by decide) rfl ?_
  refine rt_aload_n dL_law_471 rfl (j := 4) rfl ?_
  refine rt_callV Γ kk_X11_thrown kc_RL_57 (c_X11_thrown Γ (d := 2035) (rt_up_s _ _ _)) (by omega) (by decide) (As := []) (show (parseMethodDescriptor yX11_thrown.desc).map (fun q => q.parameters.length) = some 0 by decide +kernel) hk1 (Nat.le_of_ble_eq_true rfl) dL_law_472 (rt_up_s _ _ _) rfl rfl rfl (rt_kr (st2 := [.int 2]) rfl ?_) rt_kx
  refine rt_iload dL_law_475 (j := 1) rfl ?_
  refine rt_icmp_eq (tgt := 482) dL_law_477 (by decide) (fun _ => ?_) (fun c477 => absurd rfl c477)
  refine rt_iload dL_law_482 (j := 1) rfl ?_
  refine rt_if_ne (tgt := 499) dL_law_484 (by decide) (fun _ => ?_) (fun c484 => absurd c484 (by decide))
  refine rt_goto (tgt := 701) dL_law_499 (by decide) ?_
  exact rt_lfew [2, 6] rfl (lw_tail Γ hX hbl hk1)
set_option maxRecDepth 100000 in
theorem lw_o_letterU {l : Launch} {s0 : State} {a0 : Array Value} {G : va_G} {ca : Nat → ClassId} (Γ : rt_Γ l s0 a0 G ca) {nm : String} {tab : List ExceptionTableEntry} {b : Nat} {xs : Nat → Int32} (hX : va_X b 6 xs s0 s0.heap) (hbl : b < s0.heap.size) (h0 : ¬ (xs ((0 + 2) : Int32).toNatClampNeg) = 0) (h9 : ¬ (xs ((0 + 2) : Int32).toNatClampNeg) = 1) (hn : ¬ (xs ((0 + 2) : Int32).toNatClampNeg) < 0) : rt_Go l s0 G RL nm cL_law 7 (some .boolean) tab 2036 rt_w0 rt_Ql 434 [(4, .int 0), (3, rt_r s0 127), (2, rt_r s0 74), (1, rt_r s0 0), (0, .ref b)] [] (lw_W s0 ca) := by
  refine rt_aload_n dL_law_434 rfl (j := 3) rfl ?_
  refine rt_aloadA_n dL_law_435 rfl (j := 4) rfl ?_
  refine rt_iload dL_law_436 (j := 0) rfl ?_
  refine rt_iconst (v := 1) dL_law_438 (by decide) ?_
  refine rt_iadd dL_law_439 ?_
  refine rt_sld hX hbl dL_law_440 (vp_in_iff.mpr ⟨by decide, by decide⟩) ?_
  refine rt_aloadA_n dL_law_441 rfl (j := 4) rfl ?_
  refine rt_iload dL_law_442 (j := 0) rfl ?_
  refine rt_iconst (v := 2) dL_law_444 (by decide) ?_
  refine rt_iadd dL_law_445 ?_
  refine rt_sld hX hbl dL_law_446 (vp_in_iff.mpr ⟨by decide, by decide⟩) ?_
  refine rt_aload_n dL_law_447 rfl (j := 1) rfl ?_
  refine rt_callS Γ kk_L_letter kc_RL_83 (c_L_letterX2 Γ (d := 2035) (by omega) (lw_ok s0 ca) (lw_c0 s0 ca) (c_X9_letterT Γ (d := 2035 - 1) (lw_ok s0 ca) (lw_ok1 s0 ca) (lw_c0 s0 ca) h0 h9)) (by omega) (by decide) (As := [rt_r s0 0, .int (xs ((0 + 1) : Int32).toNatClampNeg), .int (xs ((0 + 2) : Int32).toNatClampNeg), rt_r s0 127]) (show (parseMethodDescriptor yL_letter.desc).map (fun q => q.parameters.length) = some 4 by decide +kernel) (lw_ok s0 ca) (Nat.le_of_ble_eq_true rfl) dL_law_448 rfl rfl (fun v9 w1 hq => ?_) (fun X w1 hq => nomatch hq.1)
  obtain ⟨e1, h1, h2, h3, h4⟩ := hq
  cases e1
  have hk1 : rt_ok w1 := lw_okr h3 h4
  show rt_Go l s0 G RL nm cL_law 7 (some .boolean) tab 2036 rt_w0 rt_Ql (448 + 3) [(4, .int 0), (3, rt_r s0 127), (2, rt_r s0 74), (1, rt_r s0 0), (0, .ref b)] [.int 2] w1
  refine rt_istore (lv' := [(5, .int 2), (4, .int 0), (3, rt_r s0 127), (2, rt_r s0 74), (1, rt_r s0 0), (0, .ref b)]) dL_law_451 (by decide) rfl ?_
  refine rt_aload_n dL_law_453 rfl (j := 3) rfl ?_
  refine rt_aloadA_n dL_law_454 rfl (j := 5) rfl ?_
  refine rt_iload dL_law_455 (j := 1) rfl ?_
  refine rt_iconst (v := 1) dL_law_457 (by decide) ?_
  refine rt_iadd dL_law_458 ?_
  refine rt_sld hX hbl dL_law_459 (vp_in_iff.mpr ⟨by decide, by decide⟩) ?_
  refine rt_aloadA_n dL_law_460 rfl (j := 5) rfl ?_
  refine rt_iload dL_law_461 (j := 1) rfl ?_
  refine rt_iconst (v := 2) dL_law_463 (by decide) ?_
  refine rt_iadd dL_law_464 ?_
  refine rt_sld hX hbl dL_law_465 (vp_in_iff.mpr ⟨by decide, by decide⟩) ?_
  refine rt_callV Γ kk_X11_letter kc_RL_86 (c_X11_letterU Γ (d := 2035) (by omega) hk1 ((congrFun h1 74).trans (lw_c74 s0 ca)) hn (i1_out hn h0 h9)) (by omega) (by decide) (As := [.int (xs ((0 + 1) : Int32).toNatClampNeg), .int (xs ((0 + 2) : Int32).toNatClampNeg)]) (show (parseMethodDescriptor yX11_letter.desc).map (fun q => q.parameters.length) = some 2 by decide +kernel) hk1 (Nat.le_of_ble_eq_true rfl) dL_law_466 ((congrFun h1 74).trans (lw_c74 s0 ca)) rfl rfl rfl (rt_kr (st2 := [.int 0]) rfl ?_) rt_kx
  refine rt_istore (lv' := [(6, .int 0), (5, .int 2), (4, .int 0), (3, rt_r s0 127), (2, rt_r s0 74), (1, rt_r s0 0), (0, .ref b)]) dL_law_469 (by decide) rfl ?_
  refine rt_aload_n dL_law_471 rfl (j := 4) rfl ?_
  refine rt_callV Γ kk_X11_thrown kc_RL_57 (c_X11_thrown Γ (d := 2035) (rt_up_s _ _ _)) (by omega) (by decide) (As := []) (show (parseMethodDescriptor yX11_thrown.desc).map (fun q => q.parameters.length) = some 0 by decide +kernel) hk1 (Nat.le_of_ble_eq_true rfl) dL_law_472 (rt_up_s _ _ _) rfl rfl rfl (rt_kr (st2 := [.int 2]) rfl ?_) rt_kx
  refine rt_iload dL_law_475 (j := 1) rfl ?_
  refine rt_icmp_eq (tgt := 482) dL_law_477 (by decide) (fun _ => ?_) (fun c477 => absurd rfl c477)
  refine rt_iload dL_law_482 (j := 1) rfl ?_
  refine rt_if_ne (tgt := 499) dL_law_484 (by decide) (fun _ => ?_) (fun c484 => absurd c484 (by decide))
  refine rt_goto (tgt := 701) dL_law_499 (by decide) ?_
  exact rt_lfew [2, 6] rfl (lw_tail Γ hX hbl hk1)
theorem rt_ap_bk {w : rt_Wd} {n : Nat} {L M : List va_E} {t : Nat} (hw : w.1 = 0) (h : M = (L.drop t).take M.length) : rt_bk (rt_ap w n L) t M = rt_ap w n L :=
  rt_bk_of (fun k hk => by
    have := rt_ap_at w n L (t + k)
    rw [hw, Nat.zero_add] at this
    rw [this, h, List.getElem?_take, if_pos hk, List.getElem?_drop])
theorem rt_bk_fr {v w : rt_Wd} {M : List va_E} {t : Nat} (h : rt_bk w t M = w) (hf : ∀ q : Nat, t ≤ q → q < t + M.length → v.2.2 q = w.2.2 q) : rt_bk v t M = v :=
  rt_bk_of (fun k hk => (hf (t + k) (by omega) (by omega)).trans (by rw [← h]; exact rt_bk_at w t M k hk))
set_option maxRecDepth 100000 in
theorem lw_bk6 (s0 : State) (ca : Nat → ClassId) : rt_bk (lw_W s0 ca) 6 (tx_L s0 ca 6 .null 0 0 0 (fun _ => 0) (fun _ => 0) (fun _ => 0) (fun _ => 0) (fun _ => 0) (fun _ => 0) (fun _ => 0) (fun _ => 0) (fun _ => 0) 0) = lw_W s0 ca := rt_ap_bk rfl rfl
set_option maxRecDepth 100000 in
theorem lw_bk76 (s0 : State) (ca : Nat → ClassId) : rt_bk (lw_W s0 ca) 76 (mt_L s0 ca 76 (fun _ => 0) 0 0 0 0 0 0 0 (fun _ => 0) (fun _ => 0) (fun _ => 0) (fun _ => 0) (fun _ => 0) (fun _ => 0) (fun _ => 0) 0 0 0 (fun _ => 0) (fun _ => 0) (fun _ => 0) (fun _ => 0) (fun _ => 0) (fun _ => 0) 0 (fun _ => 0) (fun _ => 0) (fun _ => 0) (fun _ => 0) 0 (fun _ => 0) 0 (fun _ => 0) 0 (fun _ => 0)) = lw_W s0 ca := rt_ap_bk rfl rfl
set_option maxRecDepth 100000 in
theorem lw_o_schema {l : Launch} {s0 : State} {a0 : Array Value} {G : va_G} {ca : Nat → ClassId} (Γ : rt_Γ l s0 a0 G ca) {nm : String} {tab : List ExceptionTableEntry} {b : Nat} {xs : Nat → Int32} (hX : va_X b 6 xs s0 s0.heap) (hbl : b < s0.heap.size) (hn : ¬ (xs ((0 + 1) : Int32).toNatClampNeg) < 0) (h9 : (xs ((0 + 1) : Int32).toNatClampNeg) < 8) : rt_Go l s0 G RL nm cL_law 7 (some .boolean) tab 2036 rt_w0 rt_Ql 240 [(4, .int 0), (3, rt_r s0 127), (2, rt_r s0 74), (1, rt_r s0 0), (0, .ref b)] [] (lw_W s0 ca) := by
  refine rt_weq (lw_bk6 s0 ca).symm ?_
  refine rt_aload_n dL_law_240 rfl (j := 3) rfl ?_
  refine rt_aloadA_n dL_law_241 rfl (j := 4) rfl ?_
  refine rt_iload dL_law_242 (j := 0) rfl ?_
  refine rt_iconst (v := 1) dL_law_244 (by decide) ?_
  refine rt_iadd dL_law_245 ?_
  refine rt_sld hX hbl dL_law_246 (vp_in_iff.mpr ⟨by decide, by decide⟩) ?_
  refine rt_aload_n dL_law_247 rfl (j := 1) rfl ?_
  refine rt_callS Γ kk_L_schema kc_RL_65 (c_L_schema Γ (d := 2035) (w := (rt_bk (lw_W s0 ca) 6 (tx_L s0 ca 6 .null 0 0 0 (fun _ => 0) (fun _ => 0) (fun _ => 0) (fun _ => 0) (fun _ => 0) (fun _ => 0) (fun _ => 0) (fun _ => 0) (fun _ => 0) 0))) (x := 0) (o := 127) (w1 := (rt_bk (rt_up (lw_W s0 ca) 0 (.inr (9, [rt_r s0 1, rt_r s0 3, rt_r s0 5, rt_r s0 6, rt_r s0 24, rt_r s0 53, rt_r s0 54, rt_r s0 59, rt_r s0 64, rt_r s0 69, .int (-1), .int 0]))) 6 (tx_L s0 ca 6 (rt_r s0 1) 1 0 0 (cl_put 2073 (fun _ => 0) 0 4) (cl_put 2073 (fun _ => 0) 0 0) (cl_put 2073 (fun _ => 0) 0 (-1)) (cl_put 2073 (fun _ => 0) 0 (-1)) (cl_put 2073 (fun _ => 0) 0 0) (fun _ => 0) (fun _ => 0) (fun _ => 0) (fun _ => 0) 0))) (by omega) (lw_ok s0 ca) ((rt_bk_n (Or.inl (by decide))).trans (lw_c0 s0 ca)) (c_X9_schema0 Γ (d := 2035 - 1) (w := lw_W s0 ca) (by omega) (tp := 1) ⟨lw_c1 s0 ca, lw_c2 s0 ca⟩ (by decide) (by omega) (cl_peek0 _ _ _) (by decide) (lw_ok s0 ca) (by omega) (lw_c0 s0 ca) hn h9) ((rt_bk_n (Or.inr (Nat.le_of_ble_eq_true rfl))).trans ((rt_up_n (by decide)).trans (lw_c127 s0 ca)))) (by omega) (by decide) (As := [rt_r s0 0, .int (xs ((0 + 1) : Int32).toNatClampNeg), rt_r s0 127]) (show (parseMethodDescriptor yL_schema.desc).map (fun q => q.parameters.length) = some 3 by decide +kernel) (lw_ok s0 ca) (Nat.le_of_ble_eq_true rfl) dL_law_248 rfl rfl (rt_kr (st2 := [.int 0]) rfl ?_) rt_kx
  have hV : rt_bk (rt_up (rt_bk (rt_up (lw_W s0 ca) 0 (.inr (9, [rt_r s0 1, rt_r s0 3, rt_r s0 5, rt_r s0 6, rt_r s0 24, rt_r s0 53, rt_r s0 54, rt_r s0 59, rt_r s0 64, rt_r s0 69, .int (-1), .int 0]))) 6 (tx_L s0 ca 6 (rt_r s0 1) 1 0 0 (cl_put 2073 (fun _ => 0) 0 4) (cl_put 2073 (fun _ => 0) 0 0) (cl_put 2073 (fun _ => 0) 0 (-1)) (cl_put 2073 (fun _ => 0) 0 (-1)) (cl_put 2073 (fun _ => 0) 0 0) (fun _ => 0) (fun _ => 0) (fun _ => 0) (fun _ => 0) 0)) 127 (.inl (ca 2, 1, .inr (.inl (vp_updL (fun _ => 0) (0 : Int32).toNatClampNeg (1 : Int32).toInt64))))) 76 (mt_L s0 ca 76 (fun _ => 0) 0 0 0 0 0 0 0 (fun _ => 0) (fun _ => 0) (fun _ => 0) (fun _ => 0) (fun _ => 0) (fun _ => 0) (fun _ => 0) 0 0 0 (fun _ => 0) (fun _ => 0) (fun _ => 0) (fun _ => 0) (fun _ => 0) (fun _ => 0) 0 (fun _ => 0) (fun _ => 0) (fun _ => 0) (fun _ => 0) 0 (fun _ => 0) 0 (fun _ => 0) 0 (fun _ => 0)) = (rt_up (rt_bk (rt_up (lw_W s0 ca) 0 (.inr (9, [rt_r s0 1, rt_r s0 3, rt_r s0 5, rt_r s0 6, rt_r s0 24, rt_r s0 53, rt_r s0 54, rt_r s0 59, rt_r s0 64, rt_r s0 69, .int (-1), .int 0]))) 6 (tx_L s0 ca 6 (rt_r s0 1) 1 0 0 (cl_put 2073 (fun _ => 0) 0 4) (cl_put 2073 (fun _ => 0) 0 0) (cl_put 2073 (fun _ => 0) 0 (-1)) (cl_put 2073 (fun _ => 0) 0 (-1)) (cl_put 2073 (fun _ => 0) 0 0) (fun _ => 0) (fun _ => 0) (fun _ => 0) (fun _ => 0) 0)) 127 (.inl (ca 2, 1, .inr (.inl (vp_updL (fun _ => 0) (0 : Int32).toNatClampNeg (1 : Int32).toInt64))))) := rt_bk_fr (lw_bk76 s0 ca) (fun q h1 h2 => (rt_up_n (Nat.ne_of_lt (Nat.lt_of_lt_of_le h2 (Nat.le_of_ble_eq_true rfl)))).trans ((rt_bk_n (Or.inr (Nat.le_trans (Nat.le_of_ble_eq_true rfl) h1))).trans (rt_up_n (Nat.ne_of_gt (Nat.lt_of_lt_of_le (by decide) h1)))))
  refine rt_weq hV.symm ?_
  refine rt_istore (lv' := [(5, .int 0), (4, .int 0), (3, rt_r s0 127), (2, rt_r s0 74), (1, rt_r s0 0), (0, .ref b)]) dL_law_251 (by decide) rfl ?_
  refine rt_aload_n dL_law_253 rfl (j := 3) rfl ?_
  refine rt_aloadA_n dL_law_254 rfl (j := 5) rfl ?_
  refine rt_iload dL_law_255 (j := 1) rfl ?_
  refine rt_iconst (v := 1) dL_law_257 (by decide) ?_
  refine rt_iadd dL_law_258 ?_
  refine rt_sld hX hbl dL_law_259 (vp_in_iff.mpr ⟨by decide, by decide⟩) ?_
  refine rt_callV Γ kk_X11_schema kc_RL_68 (c_X11_schema0 Γ (d := 2035) (w := (rt_up (rt_bk (rt_up (lw_W s0 ca) 0 (.inr (9, [rt_r s0 1, rt_r s0 3, rt_r s0 5, rt_r s0 6, rt_r s0 24, rt_r s0 53, rt_r s0 54, rt_r s0 59, rt_r s0 64, rt_r s0 69, .int (-1), .int 0]))) 6 (tx_L s0 ca 6 (rt_r s0 1) 1 0 0 (cl_put 2073 (fun _ => 0) 0 4) (cl_put 2073 (fun _ => 0) 0 0) (cl_put 2073 (fun _ => 0) 0 (-1)) (cl_put 2073 (fun _ => 0) 0 (-1)) (cl_put 2073 (fun _ => 0) 0 0) (fun _ => 0) (fun _ => 0) (fun _ => 0) (fun _ => 0) 0)) 127 (.inl (ca 2, 1, .inr (.inl (vp_updL (fun _ => 0) (0 : Int32).toNatClampNeg (1 : Int32).toInt64)))))) (by omega) (lw_ok s0 ca) (lw_ok1 s0 ca) (by omega) ((rt_up_n (by decide)).trans ((rt_bk_n (Or.inr (Nat.le_of_ble_eq_true rfl))).trans ((rt_up_n (by decide)).trans (lw_c74 s0 ca)))) hn (i8_lt h9)) (by omega) (by decide) (As := [.int (xs ((0 + 1) : Int32).toNatClampNeg)]) (show (parseMethodDescriptor yX11_schema.desc).map (fun q => q.parameters.length) = some 1 by decide +kernel) (lw_ok s0 ca) (Nat.le_of_ble_eq_true rfl) dL_law_260 ((rt_bk_n (Or.inl (by decide))).trans ((rt_up_n (by decide)).trans ((rt_bk_n (Or.inr (Nat.le_of_ble_eq_true rfl))).trans ((rt_up_n (by decide)).trans (lw_c74 s0 ca))))) rfl rfl rfl (fun v9 w1 hq => ?_) (fun X w1 hq => nomatch hq.1)
  obtain ⟨e1, h1, h2, h3, h4, h5⟩ := hq
  cases e1
  have hk1 : rt_ok w1 := lw_okr h4 h5
  have hO : w1.2.2 127 = _ := (h2 127 (by decide) (Or.inr (Nat.le_of_ble_eq_true rfl))).trans ((rt_bk_n (Or.inr (Nat.le_of_ble_eq_true rfl))).trans (rt_up_s _ _ _))
  clear h2
  show rt_Go l s0 G RL nm cL_law 7 (some .boolean) tab 2036 rt_w0 rt_Ql (260 + 3) [(5, .int 0), (4, .int 0), (3, rt_r s0 127), (2, rt_r s0 74), (1, rt_r s0 0), (0, .ref b)] [.int 1] w1
  refine rt_istore (lv' := [(6, .int 1), (5, .int 0), (4, .int 0), (3, rt_r s0 127), (2, rt_r s0 74), (1, rt_r s0 0), (0, .ref b)]) dL_law_263 (by decide) rfl ?_
  refine rt_aload_n dL_law_265 rfl (j := 4) rfl ?_
  refine rt_callV Γ kk_X11_thrown kc_RL_57 (c_X11_thrown Γ (d := 2035) h1) (by omega) (by decide) (As := []) (show (parseMethodDescriptor yX11_thrown.desc).map (fun q => q.parameters.length) = some 0 by decide +kernel) hk1 (Nat.le_of_ble_eq_true rfl) dL_law_266 h1 rfl rfl rfl (rt_kr (st2 := [.int 0]) rfl ?_) rt_kx
  refine rt_iload dL_law_269 (j := 1) rfl ?_
  refine rt_icmp_eq (tgt := 276) dL_law_271 (by decide) (fun _ => ?_) (fun c271 => absurd rfl c271)
  refine rt_iload dL_law_276 (j := 1) rfl ?_
  refine rt_if_ne (tgt := 293) dL_law_278 (by decide) (fun c278 => absurd c278 (fun h => h rfl)) (fun _ => ?_)
  refine rt_aload_n dL_law_281 rfl (j := 3) rfl ?_
  refine rt_iconst (v := 0) dL_law_282 (by decide) ?_
  refine rt_lald Γ dL_law_283 hO (vp_in_iff.mpr ⟨by decide, by decide⟩) ?_
  refine rt_iload dL_law_284 (j := 0) rfl ?_
  refine rt_i2l dL_law_286 rfl ?_
  refine rt_lcmp dL_law_287 ?_
  refine rt_if_eq (tgt := 293) dL_law_288 (by decide) (fun _ => ?_) (fun c288 => absurd (by decide) c288)
  refine rt_goto (tgt := 701) dL_law_293 (by decide) ?_
  exact rt_lfew [2, 6] rfl (lw_tail Γ hX hbl hk1)
