/-! ===== the law's own calls of the teller: what is caught is a number ===== -/
/-- a number comes back where an exception was caught: nothing else changed -/
abbrev rt_ir (v : Int32) (w : rt_Wd) : rt_Res → rt_Wd → Prop := fun r w' => r = .inl (some (.int v)) ∧ w'.2.2 = w.2.2 ∧ w.1 ≤ w'.1 ∧ w'.1 ≤ w.1 + 1 ∧ w'.2.1 = w.2.1 + 6
set_option maxRecDepth 100000 in
theorem c_L_feed {l : Launch} {s0 : State} {a0 : Array Value} {G : va_G} {ca : Nat → ClassId} (Γ : rt_Γ l s0 a0 G ca) {d : Nat} {w : rt_Wd} {x o : Nat} {p0 p1 p2 p3 p4 : Int32} {fs : List Value} (hd : 1 ≤ d) (hok : rt_ok w) (hX : w.2.2 x = some (.inr (9, fs))) {w1 : rt_Wd} {r : Int32} (hM : rt_Met l s0 G (.code yX9_feed cX9_feed 6 (Option.some FieldType.int)) yX9_feed (d - 1) [rt_r s0 x, .int p0, .int p1, .int p2, .int p3, .int p4] w (rt_is (.inl (some (.int r))) w1)) {g : Nat → Int64} (hO : w1.2.2 o = some (.inl (ca 2, 1, .inr (.inl g)))) : rt_Met l s0 G (.codeWith yL_feed cL_feed 8 (Option.some FieldType.int) [(0, 16, 19, 13)]) yL_feed d [rt_r s0 x, .int p0, .int p1, .int p2, .int p3, .int p4, rt_r s0 o] w (rt_is (.inl (some (.int 0))) (rt_up w1 o (.inl (ca 2, 1, .inr (.inl (vp_updL g (0 : Int32).toNatClampNeg r.toInt64)))))) := by
  refine rt_met Γ kk_L_feed rfl (Nat.le_of_ble_eq_true rfl) rfl ?_
  refine rt_aload dL_feed_0 (j := 6) rfl ?_
  refine rt_iconst (v := 0) dL_feed_2 (by decide) ?_
  refine rt_aload_n dL_feed_3 rfl (j := 0) rfl ?_
  refine rt_iload_n dL_feed_4 rfl (j := 1) rfl ?_
  refine rt_iload_n dL_feed_5 rfl (j := 2) rfl ?_
  refine rt_iload_n dL_feed_6 rfl (j := 3) rfl ?_
  refine rt_iload dL_feed_7 (j := 4) rfl ?_
  refine rt_iload dL_feed_9 (j := 5) rfl ?_
  refine rt_callV Γ kk_X9_feed kc_RL_7 hM (by omega) (by decide) (As := [.int p0, .int p1, .int p2, .int p3, .int p4]) (show (parseMethodDescriptor yX9_feed.desc).map (fun q => q.parameters.length) = some 5 by decide +kernel) hok (Nat.le_of_ble_eq_true rfl) dL_feed_11 hX rfl rfl rfl (rt_kr (st2 := [.int r, .int 0, rt_r s0 o]) rfl ?_) rt_kx
  refine rt_i2l dL_feed_14 rfl ?_
  refine rt_last Γ dL_feed_15 hO (vp_in_iff.mpr ⟨by decide, by decide⟩) ?_
  refine rt_goto (tgt := 23) dL_feed_16 (by decide) ?_
  refine rt_iconst (v := 0) dL_feed_23 (by decide) ?_
  exact rt_iret dL_feed_24 rfl (⟨rfl, rfl⟩)
set_option maxRecDepth 100000 in
theorem c_L_feedX1 {l : Launch} {s0 : State} {a0 : Array Value} {G : va_G} {ca : Nat → ClassId} (Γ : rt_Γ l s0 a0 G ca) {d : Nat} {w : rt_Wd} {x o : Nat} {p0 p1 p2 p3 p4 : Int32} {fs : List Value} (hd : 1 ≤ d) (hok : rt_ok w) (hX : w.2.2 x = some (.inr (9, fs))) (hM : rt_Met l s0 G (.code yX9_feed cX9_feed 6 (Option.some FieldType.int)) yX9_feed (d - 1) [rt_r s0 x, .int p0, .int p1, .int p2, .int p3, .int p4] w (rt_tx "java/lang/IllegalStateException" w)) : rt_Met l s0 G (.codeWith yL_feed cL_feed 8 (Option.some FieldType.int) [(0, 16, 19, 13)]) yL_feed d [rt_r s0 x, .int p0, .int p1, .int p2, .int p3, .int p4, rt_r s0 o] w (rt_ir 1 w) := by
  refine rt_met Γ kk_L_feed rfl (Nat.le_of_ble_eq_true rfl) rfl ?_
  refine rt_aload dL_feed_0 (j := 6) rfl ?_
  refine rt_iconst (v := 0) dL_feed_2 (by decide) ?_
  refine rt_aload_n dL_feed_3 rfl (j := 0) rfl ?_
  refine rt_iload_n dL_feed_4 rfl (j := 1) rfl ?_
  refine rt_iload_n dL_feed_5 rfl (j := 2) rfl ?_
  refine rt_iload_n dL_feed_6 rfl (j := 3) rfl ?_
  refine rt_iload dL_feed_7 (j := 4) rfl ?_
  refine rt_iload dL_feed_9 (j := 5) rfl ?_
  refine rt_callV Γ kk_X9_feed kc_RL_7 hM (by omega) (by decide) (As := [.int p0, .int p1, .int p2, .int p3, .int p4]) (show (parseMethodDescriptor yX9_feed.desc).map (fun q => q.parameters.length) = some 5 by decide +kernel) hok (Nat.le_of_ble_eq_true rfl) dL_feed_11 hX rfl rfl rfl rt_xr (rt_xx (fun w1 h1 h2 h3 h4 => ?_))
  refine rt_catch (name := "java/lang/IllegalStateException") Γ [] ⟨0, 16, 19, 13⟩ [] rfl (fun _ h => absurd h List.not_mem_nil) (by decide) (by decide) (tc_2 _ (List.mem_of_getElem? (i := 127) (by decide +kernel))) (tc_2 _ (List.mem_of_getElem? (i := 135) (by decide +kernel))) (fun q => ?_)
  refine rt_astoreA (lv' := [(7, .ref q), (0, rt_r s0 x), (1, .int p0), (2, .int p1), (3, .int p2), (4, .int p3), (5, .int p4), (6, rt_r s0 o)]) dL_feed_19 (by decide) rfl ?_
  refine rt_iconst (v := 1) dL_feed_21 (by decide) ?_
  exact rt_iret dL_feed_22 rfl (⟨rfl, h1, h2, h3, h4⟩)
set_option maxRecDepth 100000 in
theorem c_L_end {l : Launch} {s0 : State} {a0 : Array Value} {G : va_G} {ca : Nat → ClassId} (Γ : rt_Γ l s0 a0 G ca) {d : Nat} {w : rt_Wd} {x : Nat} {p0 : Int32} {fs : List Value} (hd : 1 ≤ d) (hok : rt_ok w) (hX : w.2.2 x = some (.inr (9, fs))) {w1 : rt_Wd} (hM : rt_Met l s0 G (.code yX9_end cX9_end 2 (Option.none : Option FieldType)) yX9_end (d - 1) [rt_r s0 x, .int p0] w (rt_is (.inl none) w1)) : rt_Met l s0 G (.codeWith yL_end cL_end 3 (Option.some FieldType.int) [(0, 5, 8, 19)]) yL_end d [rt_r s0 x, .int p0] w (rt_is (.inl (some (.int 0))) w1) := by
  refine rt_met Γ kk_L_end rfl (Nat.le_of_ble_eq_true rfl) rfl ?_
  refine rt_aload_n dL_end_0 rfl (j := 0) rfl ?_
  refine rt_iload_n dL_end_1 rfl (j := 1) rfl ?_
  refine rt_callV Γ kk_X9_end kc_RL_15 hM (by omega) (by decide) (As := [.int p0]) (show (parseMethodDescriptor yX9_end.desc).map (fun q => q.parameters.length) = some 1 by decide +kernel) hok (Nat.le_of_ble_eq_true rfl) dL_end_2 hX rfl rfl rfl (rt_kr (st2 := []) rfl ?_) rt_kx
  refine rt_goto (tgt := 11) dL_end_5 (by decide) ?_
  refine rt_iconst (v := 0) dL_end_11 (by decide) ?_
  exact rt_iret dL_end_12 rfl (⟨rfl, rfl⟩)
set_option maxRecDepth 100000 in
theorem c_L_endX1 {l : Launch} {s0 : State} {a0 : Array Value} {G : va_G} {ca : Nat → ClassId} (Γ : rt_Γ l s0 a0 G ca) {d : Nat} {w : rt_Wd} {x : Nat} {p0 : Int32} {fs : List Value} (hd : 1 ≤ d) (hok : rt_ok w) (hX : w.2.2 x = some (.inr (9, fs))) (hM : rt_Met l s0 G (.code yX9_end cX9_end 2 (Option.none : Option FieldType)) yX9_end (d - 1) [rt_r s0 x, .int p0] w (rt_tx "java/lang/IllegalArgumentException" w)) : rt_Met l s0 G (.codeWith yL_end cL_end 3 (Option.some FieldType.int) [(0, 5, 8, 19)]) yL_end d [rt_r s0 x, .int p0] w (rt_ir 1 w) := by
  refine rt_met Γ kk_L_end rfl (Nat.le_of_ble_eq_true rfl) rfl ?_
  refine rt_aload_n dL_end_0 rfl (j := 0) rfl ?_
  refine rt_iload_n dL_end_1 rfl (j := 1) rfl ?_
  refine rt_callV Γ kk_X9_end kc_RL_15 hM (by omega) (by decide) (As := [.int p0]) (show (parseMethodDescriptor yX9_end.desc).map (fun q => q.parameters.length) = some 1 by decide +kernel) hok (Nat.le_of_ble_eq_true rfl) dL_end_2 hX rfl rfl rfl rt_xr (rt_xx (fun w1 h1 h2 h3 h4 => ?_))
  refine rt_catch (name := "java/lang/IllegalArgumentException") Γ [] ⟨0, 5, 8, 19⟩ [] rfl (fun _ h => absurd h List.not_mem_nil) (by decide) (by decide) (tc_2 _ (List.mem_of_getElem? (i := 208) (by decide +kernel))) (tc_2 _ (List.mem_of_getElem? (i := 215) (by decide +kernel))) (fun q => ?_)
  refine rt_astoreA_n (lv' := [(2, .ref q), (0, rt_r s0 x), (1, .int p0)]) dL_end_8 rfl (by decide) rfl ?_
  refine rt_iconst (v := 1) dL_end_9 (by decide) ?_
  exact rt_iret dL_end_10 rfl (⟨rfl, h1, h2, h3, h4⟩)
set_option maxRecDepth 100000 in
theorem c_L_schema {l : Launch} {s0 : State} {a0 : Array Value} {G : va_G} {ca : Nat → ClassId} (Γ : rt_Γ l s0 a0 G ca) {d : Nat} {w : rt_Wd} {x o : Nat} {p0 : Int32} {fs : List Value} (hd : 1 ≤ d) (hok : rt_ok w) (hX : w.2.2 x = some (.inr (9, fs))) {w1 : rt_Wd} {r : Int32} (hM : rt_Met l s0 G (.code yX9_schema cX9_schema 3 (Option.some FieldType.int)) yX9_schema (d - 1) [rt_r s0 x, .int p0] w (rt_is (.inl (some (.int r))) w1)) {g : Nat → Int64} (hO : w1.2.2 o = some (.inl (ca 2, 1, .inr (.inl g)))) : rt_Met l s0 G (.codeWith yL_schema cL_schema 4 (Option.some FieldType.int) [(0, 9, 12, 25)]) yL_schema d [rt_r s0 x, .int p0, rt_r s0 o] w (rt_is (.inl (some (.int 0))) (rt_up w1 o (.inl (ca 2, 1, .inr (.inl (vp_updL g (0 : Int32).toNatClampNeg r.toInt64)))))) := by
  refine rt_met Γ kk_L_schema rfl (Nat.le_of_ble_eq_true rfl) rfl ?_
  refine rt_aload_n dL_schema_0 rfl (j := 2) rfl ?_
  refine rt_iconst (v := 0) dL_schema_1 (by decide) ?_
  refine rt_aload_n dL_schema_2 rfl (j := 0) rfl ?_
  refine rt_iload_n dL_schema_3 rfl (j := 1) rfl ?_
  refine rt_callV Γ kk_X9_schema kc_RL_21 hM (by omega) (by decide) (As := [.int p0]) (show (parseMethodDescriptor yX9_schema.desc).map (fun q => q.parameters.length) = some 1 by decide +kernel) hok (Nat.le_of_ble_eq_true rfl) dL_schema_4 hX rfl rfl rfl (rt_kr (st2 := [.int r, .int 0, rt_r s0 o]) rfl ?_) rt_kx
  refine rt_i2l dL_schema_7 rfl ?_
  refine rt_last Γ dL_schema_8 hO (vp_in_iff.mpr ⟨by decide, by decide⟩) ?_
  refine rt_goto (tgt := 15) dL_schema_9 (by decide) ?_
  refine rt_iconst (v := 0) dL_schema_15 (by decide) ?_
  exact rt_iret dL_schema_16 rfl (⟨rfl, rfl⟩)
set_option maxRecDepth 100000 in
theorem c_L_schemaX1 {l : Launch} {s0 : State} {a0 : Array Value} {G : va_G} {ca : Nat → ClassId} (Γ : rt_Γ l s0 a0 G ca) {d : Nat} {w : rt_Wd} {x o : Nat} {p0 : Int32} {fs : List Value} (hd : 1 ≤ d) (hok : rt_ok w) (hX : w.2.2 x = some (.inr (9, fs))) (hM : rt_Met l s0 G (.code yX9_schema cX9_schema 3 (Option.some FieldType.int)) yX9_schema (d - 1) [rt_r s0 x, .int p0] w (rt_tx "java/lang/IndexOutOfBoundsException" w)) : rt_Met l s0 G (.codeWith yL_schema cL_schema 4 (Option.some FieldType.int) [(0, 9, 12, 25)]) yL_schema d [rt_r s0 x, .int p0, rt_r s0 o] w (rt_ir 1 w) := by
  refine rt_met Γ kk_L_schema rfl (Nat.le_of_ble_eq_true rfl) rfl ?_
  refine rt_aload_n dL_schema_0 rfl (j := 2) rfl ?_
  refine rt_iconst (v := 0) dL_schema_1 (by decide) ?_
  refine rt_aload_n dL_schema_2 rfl (j := 0) rfl ?_
  refine rt_iload_n dL_schema_3 rfl (j := 1) rfl ?_
  refine rt_callV Γ kk_X9_schema kc_RL_21 hM (by omega) (by decide) (As := [.int p0]) (show (parseMethodDescriptor yX9_schema.desc).map (fun q => q.parameters.length) = some 1 by decide +kernel) hok (Nat.le_of_ble_eq_true rfl) dL_schema_4 hX rfl rfl rfl rt_xr (rt_xx (fun w1 h1 h2 h3 h4 => ?_))
  refine rt_catch (name := "java/lang/IndexOutOfBoundsException") Γ [] ⟨0, 9, 12, 25⟩ [] rfl (fun _ h => absurd h List.not_mem_nil) (by decide) (by decide) (tc_2 _ (List.mem_of_getElem? (i := 235) (by decide +kernel))) (tc_3 _ (List.mem_of_getElem? (i := 2) (by decide +kernel))) (fun q => ?_)
  refine rt_astoreA_n (lv' := [(3, .ref q), (0, rt_r s0 x), (1, .int p0), (2, rt_r s0 o)]) dL_schema_12 rfl (by decide) rfl ?_
  refine rt_iconst (v := 1) dL_schema_13 (by decide) ?_
  exact rt_iret dL_schema_14 rfl (⟨rfl, h1, h2, h3, h4⟩)
set_option maxRecDepth 100000 in
theorem c_L_load {l : Launch} {s0 : State} {a0 : Array Value} {G : va_G} {ca : Nat → ClassId} (Γ : rt_Γ l s0 a0 G ca) {d : Nat} {w : rt_Wd} {x o : Nat} {p0 : Int32} {fs : List Value} (hd : 1 ≤ d) (hok : rt_ok w) (hX : w.2.2 x = some (.inr (9, fs))) {w1 : rt_Wd} {r : Int32} (hM : rt_Met l s0 G (.code yX9_load cX9_load 5 (Option.some FieldType.int)) yX9_load (d - 1) [rt_r s0 x, .int p0] w (rt_is (.inl (some (.int r))) w1)) {g : Nat → Int64} (hO : w1.2.2 o = some (.inl (ca 2, 1, .inr (.inl g)))) : rt_Met l s0 G (.codeWith yL_load cL_load 4 (Option.some FieldType.int) [(0, 9, 12, 25), (0, 9, 15, 13)]) yL_load d [rt_r s0 x, .int p0, rt_r s0 o] w (rt_is (.inl (some (.int 0))) (rt_up w1 o (.inl (ca 2, 1, .inr (.inl (vp_updL g (0 : Int32).toNatClampNeg r.toInt64)))))) := by
  refine rt_met Γ kk_L_load rfl (Nat.le_of_ble_eq_true rfl) rfl ?_
  refine rt_aload_n dL_load_0 rfl (j := 2) rfl ?_
  refine rt_iconst (v := 0) dL_load_1 (by decide) ?_
  refine rt_aload_n dL_load_2 rfl (j := 0) rfl ?_
  refine rt_iload_n dL_load_3 rfl (j := 1) rfl ?_
  refine rt_callV Γ kk_X9_load kc_RL_27 hM (by omega) (by decide) (As := [.int p0]) (show (parseMethodDescriptor yX9_load.desc).map (fun q => q.parameters.length) = some 1 by decide +kernel) hok (Nat.le_of_ble_eq_true rfl) dL_load_4 hX rfl rfl rfl (rt_kr (st2 := [.int r, .int 0, rt_r s0 o]) rfl ?_) rt_kx
  refine rt_i2l dL_load_7 rfl ?_
  refine rt_last Γ dL_load_8 hO (vp_in_iff.mpr ⟨by decide, by decide⟩) ?_
  refine rt_goto (tgt := 18) dL_load_9 (by decide) ?_
  refine rt_iconst (v := 0) dL_load_18 (by decide) ?_
  exact rt_iret dL_load_19 rfl (⟨rfl, rfl⟩)
set_option maxRecDepth 100000 in
theorem c_L_loadX1 {l : Launch} {s0 : State} {a0 : Array Value} {G : va_G} {ca : Nat → ClassId} (Γ : rt_Γ l s0 a0 G ca) {d : Nat} {w : rt_Wd} {x o : Nat} {p0 : Int32} {fs : List Value} (hd : 1 ≤ d) (hok : rt_ok w) (hX : w.2.2 x = some (.inr (9, fs))) (hM : rt_Met l s0 G (.code yX9_load cX9_load 5 (Option.some FieldType.int)) yX9_load (d - 1) [rt_r s0 x, .int p0] w (rt_tx "java/lang/IndexOutOfBoundsException" w)) : rt_Met l s0 G (.codeWith yL_load cL_load 4 (Option.some FieldType.int) [(0, 9, 12, 25), (0, 9, 15, 13)]) yL_load d [rt_r s0 x, .int p0, rt_r s0 o] w (rt_ir 1 w) := by
  refine rt_met Γ kk_L_load rfl (Nat.le_of_ble_eq_true rfl) rfl ?_
  refine rt_aload_n dL_load_0 rfl (j := 2) rfl ?_
  refine rt_iconst (v := 0) dL_load_1 (by decide) ?_
  refine rt_aload_n dL_load_2 rfl (j := 0) rfl ?_
  refine rt_iload_n dL_load_3 rfl (j := 1) rfl ?_
  refine rt_callV Γ kk_X9_load kc_RL_27 hM (by omega) (by decide) (As := [.int p0]) (show (parseMethodDescriptor yX9_load.desc).map (fun q => q.parameters.length) = some 1 by decide +kernel) hok (Nat.le_of_ble_eq_true rfl) dL_load_4 hX rfl rfl rfl rt_xr (rt_xx (fun w1 h1 h2 h3 h4 => ?_))
  refine rt_catch (name := "java/lang/IndexOutOfBoundsException") Γ [] ⟨0, 9, 12, 25⟩ [⟨0, 9, 15, 13⟩] rfl (fun _ h => absurd h List.not_mem_nil) (by decide) (by decide) (tc_2 _ (List.mem_of_getElem? (i := 235) (by decide +kernel))) (tc_3 _ (List.mem_of_getElem? (i := 2) (by decide +kernel))) (fun q => ?_)
  refine rt_astoreA_n (lv' := [(3, .ref q), (0, rt_r s0 x), (1, .int p0), (2, rt_r s0 o)]) dL_load_12 rfl (by decide) rfl ?_
  refine rt_iconst (v := 1) dL_load_13 (by decide) ?_
  exact rt_iret dL_load_14 rfl (⟨rfl, h1, h2, h3, h4⟩)
set_option maxRecDepth 100000 in
theorem c_L_loadX2 {l : Launch} {s0 : State} {a0 : Array Value} {G : va_G} {ca : Nat → ClassId} (Γ : rt_Γ l s0 a0 G ca) {d : Nat} {w : rt_Wd} {x o : Nat} {p0 : Int32} {fs : List Value} (hd : 1 ≤ d) (hok : rt_ok w) (hX : w.2.2 x = some (.inr (9, fs))) (hM : rt_Met l s0 G (.code yX9_load cX9_load 5 (Option.some FieldType.int)) yX9_load (d - 1) [rt_r s0 x, .int p0] w (rt_tx "java/lang/IllegalStateException" w)) : rt_Met l s0 G (.codeWith yL_load cL_load 4 (Option.some FieldType.int) [(0, 9, 12, 25), (0, 9, 15, 13)]) yL_load d [rt_r s0 x, .int p0, rt_r s0 o] w (rt_ir 2 w) := by
  refine rt_met Γ kk_L_load rfl (Nat.le_of_ble_eq_true rfl) rfl ?_
  refine rt_aload_n dL_load_0 rfl (j := 2) rfl ?_
  refine rt_iconst (v := 0) dL_load_1 (by decide) ?_
  refine rt_aload_n dL_load_2 rfl (j := 0) rfl ?_
  refine rt_iload_n dL_load_3 rfl (j := 1) rfl ?_
  refine rt_callV Γ kk_X9_load kc_RL_27 hM (by omega) (by decide) (As := [.int p0]) (show (parseMethodDescriptor yX9_load.desc).map (fun q => q.parameters.length) = some 1 by decide +kernel) hok (Nat.le_of_ble_eq_true rfl) dL_load_4 hX rfl rfl rfl rt_xr (rt_xx (fun w1 h1 h2 h3 h4 => ?_))
  refine rt_catch2 (name := "java/lang/IllegalStateException") Γ [⟨0, 9, 12, 25⟩] ⟨0, 9, 15, 13⟩ [] rfl (fun z hz => Or.inr (by rw [List.mem_singleton.mp hz]; exact ⟨by decide, "java/lang/IndexOutOfBoundsException", (tc_2 _ (List.mem_of_getElem? (i := 235) (by decide +kernel))), kx_s Γ⟩)) (by decide) (by decide) (tc_2 _ (List.mem_of_getElem? (i := 127) (by decide +kernel))) (tc_2 _ (List.mem_of_getElem? (i := 135) (by decide +kernel))) (fun q => ?_)
  refine rt_astoreA_n (lv' := [(3, .ref q), (0, rt_r s0 x), (1, .int p0), (2, rt_r s0 o)]) dL_load_15 rfl (by decide) rfl ?_
  refine rt_iconst (v := 2) dL_load_16 (by decide) ?_
  exact rt_iret dL_load_17 rfl (⟨rfl, h1, h2, h3, h4⟩)
set_option maxRecDepth 100000 in
theorem c_L_size {l : Launch} {s0 : State} {a0 : Array Value} {G : va_G} {ca : Nat → ClassId} (Γ : rt_Γ l s0 a0 G ca) {d : Nat} {w : rt_Wd} {x o : Nat} {p0 : Int32} {fs : List Value} (hd : 1 ≤ d) (hok : rt_ok w) (hX : w.2.2 x = some (.inr (9, fs))) {w1 : rt_Wd} {r : Int32} (hM : rt_Met l s0 G (.code yX9_size cX9_size 2 (Option.some FieldType.int)) yX9_size (d - 1) [rt_r s0 x, .int p0] w (rt_is (.inl (some (.int r))) w1)) {g : Nat → Int64} (hO : w1.2.2 o = some (.inl (ca 2, 1, .inr (.inl g)))) : rt_Met l s0 G (.codeWith yL_size cL_size 4 (Option.some FieldType.int) [(0, 9, 12, 19)]) yL_size d [rt_r s0 x, .int p0, rt_r s0 o] w (rt_is (.inl (some (.int 0))) (rt_up w1 o (.inl (ca 2, 1, .inr (.inl (vp_updL g (0 : Int32).toNatClampNeg r.toInt64)))))) := by
  refine rt_met Γ kk_L_size rfl (Nat.le_of_ble_eq_true rfl) rfl ?_
  refine rt_aload_n dL_size_0 rfl (j := 2) rfl ?_
  refine rt_iconst (v := 0) dL_size_1 (by decide) ?_
  refine rt_aload_n dL_size_2 rfl (j := 0) rfl ?_
  refine rt_iload_n dL_size_3 rfl (j := 1) rfl ?_
  refine rt_callV Γ kk_X9_size kc_RL_30 hM (by omega) (by decide) (As := [.int p0]) (show (parseMethodDescriptor yX9_size.desc).map (fun q => q.parameters.length) = some 1 by decide +kernel) hok (Nat.le_of_ble_eq_true rfl) dL_size_4 hX rfl rfl rfl (rt_kr (st2 := [.int r, .int 0, rt_r s0 o]) rfl ?_) rt_kx
  refine rt_i2l dL_size_7 rfl ?_
  refine rt_last Γ dL_size_8 hO (vp_in_iff.mpr ⟨by decide, by decide⟩) ?_
  refine rt_goto (tgt := 15) dL_size_9 (by decide) ?_
  refine rt_iconst (v := 0) dL_size_15 (by decide) ?_
  exact rt_iret dL_size_16 rfl (⟨rfl, rfl⟩)
set_option maxRecDepth 100000 in
theorem c_L_sizeX1 {l : Launch} {s0 : State} {a0 : Array Value} {G : va_G} {ca : Nat → ClassId} (Γ : rt_Γ l s0 a0 G ca) {d : Nat} {w : rt_Wd} {x o : Nat} {p0 : Int32} {fs : List Value} (hd : 1 ≤ d) (hok : rt_ok w) (hX : w.2.2 x = some (.inr (9, fs))) (hM : rt_Met l s0 G (.code yX9_size cX9_size 2 (Option.some FieldType.int)) yX9_size (d - 1) [rt_r s0 x, .int p0] w (rt_tx "java/lang/IllegalArgumentException" w)) : rt_Met l s0 G (.codeWith yL_size cL_size 4 (Option.some FieldType.int) [(0, 9, 12, 19)]) yL_size d [rt_r s0 x, .int p0, rt_r s0 o] w (rt_ir 1 w) := by
  refine rt_met Γ kk_L_size rfl (Nat.le_of_ble_eq_true rfl) rfl ?_
  refine rt_aload_n dL_size_0 rfl (j := 2) rfl ?_
  refine rt_iconst (v := 0) dL_size_1 (by decide) ?_
  refine rt_aload_n dL_size_2 rfl (j := 0) rfl ?_
  refine rt_iload_n dL_size_3 rfl (j := 1) rfl ?_
  refine rt_callV Γ kk_X9_size kc_RL_30 hM (by omega) (by decide) (As := [.int p0]) (show (parseMethodDescriptor yX9_size.desc).map (fun q => q.parameters.length) = some 1 by decide +kernel) hok (Nat.le_of_ble_eq_true rfl) dL_size_4 hX rfl rfl rfl rt_xr (rt_xx (fun w1 h1 h2 h3 h4 => ?_))
  refine rt_catch (name := "java/lang/IllegalArgumentException") Γ [] ⟨0, 9, 12, 19⟩ [] rfl (fun _ h => absurd h List.not_mem_nil) (by decide) (by decide) (tc_2 _ (List.mem_of_getElem? (i := 208) (by decide +kernel))) (tc_2 _ (List.mem_of_getElem? (i := 215) (by decide +kernel))) (fun q => ?_)
  refine rt_astoreA_n (lv' := [(3, .ref q), (0, rt_r s0 x), (1, .int p0), (2, rt_r s0 o)]) dL_size_12 rfl (by decide) rfl ?_
  refine rt_iconst (v := 1) dL_size_13 (by decide) ?_
  exact rt_iret dL_size_14 rfl (⟨rfl, h1, h2, h3, h4⟩)
set_option maxRecDepth 100000 in
theorem c_L_letter {l : Launch} {s0 : State} {a0 : Array Value} {G : va_G} {ca : Nat → ClassId} (Γ : rt_Γ l s0 a0 G ca) {d : Nat} {w : rt_Wd} {x o : Nat} {p0 p1 : Int32} {fs : List Value} (hd : 1 ≤ d) (hok : rt_ok w) (hX : w.2.2 x = some (.inr (9, fs))) {w1 : rt_Wd} {r : Int32} (hM : rt_Met l s0 G (.code yX9_letter cX9_letter 4 (Option.some FieldType.int)) yX9_letter (d - 1) [rt_r s0 x, .int p0, .int p1] w (rt_is (.inl (some (.int r))) w1)) {g : Nat → Int64} (hO : w1.2.2 o = some (.inl (ca 2, 1, .inr (.inl g)))) : rt_Met l s0 G (.codeWith yL_letter cL_letter 5 (Option.some FieldType.int) [(0, 10, 13, 25), (0, 10, 17, 19)]) yL_letter d [rt_r s0 x, .int p0, .int p1, rt_r s0 o] w (rt_is (.inl (some (.int 0))) (rt_up w1 o (.inl (ca 2, 1, .inr (.inl (vp_updL g (0 : Int32).toNatClampNeg r.toInt64)))))) := by
  refine rt_met Γ kk_L_letter rfl (Nat.le_of_ble_eq_true rfl) rfl ?_
  refine rt_aload_n dL_letter_0 rfl (j := 3) rfl ?_
  refine rt_iconst (v := 0) dL_letter_1 (by decide) ?_
  refine rt_aload_n dL_letter_2 rfl (j := 0) rfl ?_
  refine rt_iload_n dL_letter_3 rfl (j := 1) rfl ?_
  refine rt_iload_n dL_letter_4 rfl (j := 2) rfl ?_
  refine rt_callV Γ kk_X9_letter kc_RL_33 hM (by omega) (by decide) (As := [.int p0, .int p1]) (show (parseMethodDescriptor yX9_letter.desc).map (fun q => q.parameters.length) = some 2 by decide +kernel) hok (Nat.le_of_ble_eq_true rfl) dL_letter_5 hX rfl rfl rfl (rt_kr (st2 := [.int r, .int 0, rt_r s0 o]) rfl ?_) rt_kx
  refine rt_i2l dL_letter_8 rfl ?_
  refine rt_last Γ dL_letter_9 hO (vp_in_iff.mpr ⟨by decide, by decide⟩) ?_
  refine rt_goto (tgt := 21) dL_letter_10 (by decide) ?_
  refine rt_iconst (v := 0) dL_letter_21 (by decide) ?_
  exact rt_iret dL_letter_22 rfl (⟨rfl, rfl⟩)
set_option maxRecDepth 100000 in
theorem c_L_letterX1 {l : Launch} {s0 : State} {a0 : Array Value} {G : va_G} {ca : Nat → ClassId} (Γ : rt_Γ l s0 a0 G ca) {d : Nat} {w : rt_Wd} {x o : Nat} {p0 p1 : Int32} {fs : List Value} (hd : 1 ≤ d) (hok : rt_ok w) (hX : w.2.2 x = some (.inr (9, fs))) (hM : rt_Met l s0 G (.code yX9_letter cX9_letter 4 (Option.some FieldType.int)) yX9_letter (d - 1) [rt_r s0 x, .int p0, .int p1] w (rt_tx "java/lang/IndexOutOfBoundsException" w)) : rt_Met l s0 G (.codeWith yL_letter cL_letter 5 (Option.some FieldType.int) [(0, 10, 13, 25), (0, 10, 17, 19)]) yL_letter d [rt_r s0 x, .int p0, .int p1, rt_r s0 o] w (rt_ir 1 w) := by
  refine rt_met Γ kk_L_letter rfl (Nat.le_of_ble_eq_true rfl) rfl ?_
  refine rt_aload_n dL_letter_0 rfl (j := 3) rfl ?_
  refine rt_iconst (v := 0) dL_letter_1 (by decide) ?_
  refine rt_aload_n dL_letter_2 rfl (j := 0) rfl ?_
  refine rt_iload_n dL_letter_3 rfl (j := 1) rfl ?_
  refine rt_iload_n dL_letter_4 rfl (j := 2) rfl ?_
  refine rt_callV Γ kk_X9_letter kc_RL_33 hM (by omega) (by decide) (As := [.int p0, .int p1]) (show (parseMethodDescriptor yX9_letter.desc).map (fun q => q.parameters.length) = some 2 by decide +kernel) hok (Nat.le_of_ble_eq_true rfl) dL_letter_5 hX rfl rfl rfl rt_xr (rt_xx (fun w1 h1 h2 h3 h4 => ?_))
  refine rt_catch (name := "java/lang/IndexOutOfBoundsException") Γ [] ⟨0, 10, 13, 25⟩ [⟨0, 10, 17, 19⟩] rfl (fun _ h => absurd h List.not_mem_nil) (by decide) (by decide) (tc_2 _ (List.mem_of_getElem? (i := 235) (by decide +kernel))) (tc_3 _ (List.mem_of_getElem? (i := 2) (by decide +kernel))) (fun q => ?_)
  refine rt_astoreA (lv' := [(4, .ref q), (0, rt_r s0 x), (1, .int p0), (2, .int p1), (3, rt_r s0 o)]) dL_letter_13 (by decide) rfl ?_
  refine rt_iconst (v := 1) dL_letter_15 (by decide) ?_
  exact rt_iret dL_letter_16 rfl (⟨rfl, h1, h2, h3, h4⟩)
set_option maxRecDepth 100000 in
theorem c_L_letterX2 {l : Launch} {s0 : State} {a0 : Array Value} {G : va_G} {ca : Nat → ClassId} (Γ : rt_Γ l s0 a0 G ca) {d : Nat} {w : rt_Wd} {x o : Nat} {p0 p1 : Int32} {fs : List Value} (hd : 1 ≤ d) (hok : rt_ok w) (hX : w.2.2 x = some (.inr (9, fs))) (hM : rt_Met l s0 G (.code yX9_letter cX9_letter 4 (Option.some FieldType.int)) yX9_letter (d - 1) [rt_r s0 x, .int p0, .int p1] w (rt_tx "java/lang/IllegalArgumentException" w)) : rt_Met l s0 G (.codeWith yL_letter cL_letter 5 (Option.some FieldType.int) [(0, 10, 13, 25), (0, 10, 17, 19)]) yL_letter d [rt_r s0 x, .int p0, .int p1, rt_r s0 o] w (rt_ir 2 w) := by
  refine rt_met Γ kk_L_letter rfl (Nat.le_of_ble_eq_true rfl) rfl ?_
  refine rt_aload_n dL_letter_0 rfl (j := 3) rfl ?_
  refine rt_iconst (v := 0) dL_letter_1 (by decide) ?_
  refine rt_aload_n dL_letter_2 rfl (j := 0) rfl ?_
  refine rt_iload_n dL_letter_3 rfl (j := 1) rfl ?_
  refine rt_iload_n dL_letter_4 rfl (j := 2) rfl ?_
  refine rt_callV Γ kk_X9_letter kc_RL_33 hM (by omega) (by decide) (As := [.int p0, .int p1]) (show (parseMethodDescriptor yX9_letter.desc).map (fun q => q.parameters.length) = some 2 by decide +kernel) hok (Nat.le_of_ble_eq_true rfl) dL_letter_5 hX rfl rfl rfl rt_xr (rt_xx (fun w1 h1 h2 h3 h4 => ?_))
  refine rt_catch2 (name := "java/lang/IllegalArgumentException") Γ [⟨0, 10, 13, 25⟩] ⟨0, 10, 17, 19⟩ [] rfl (fun z hz => Or.inr (by rw [List.mem_singleton.mp hz]; exact ⟨by decide, "java/lang/IndexOutOfBoundsException", (tc_2 _ (List.mem_of_getElem? (i := 235) (by decide +kernel))), kx_a Γ⟩)) (by decide) (by decide) (tc_2 _ (List.mem_of_getElem? (i := 208) (by decide +kernel))) (tc_2 _ (List.mem_of_getElem? (i := 215) (by decide +kernel))) (fun q => ?_)
  refine rt_astoreA (lv' := [(4, .ref q), (0, rt_r s0 x), (1, .int p0), (2, .int p1), (3, rt_r s0 o)]) dL_letter_17 (by decide) rfl ?_
  refine rt_iconst (v := 2) dL_letter_19 (by decide) ?_
  exact rt_iret dL_letter_20 rfl (⟨rfl, h1, h2, h3, h4⟩)
set_option maxRecDepth 100000 in
theorem c_L_read {l : Launch} {s0 : State} {a0 : Array Value} {G : va_G} {ca : Nat → ClassId} (Γ : rt_Γ l s0 a0 G ca) {d : Nat} {w : rt_Wd} {x o : Nat} {p0 p1 : Int32} {fs : List Value} (hd : 1 ≤ d) (hok : rt_ok w) (hX : w.2.2 x = some (.inr (9, fs))) {w1 : rt_Wd} {r : Int32} (hM : rt_Met l s0 G (.code yX9_read cX9_read 5 (Option.some FieldType.int)) yX9_read (d - 1) [rt_r s0 x, .int p0, .int p1] w (rt_is (.inl (some (.int r))) w1)) {g : Nat → Int64} (hO : w1.2.2 o = some (.inl (ca 2, 1, .inr (.inl g)))) : rt_Met l s0 G (.codeWith yL_read cL_read 5 (Option.some FieldType.int) [(0, 10, 13, 25), (0, 10, 17, 13)]) yL_read d [rt_r s0 x, .int p0, .int p1, rt_r s0 o] w (rt_is (.inl (some (.int 0))) (rt_up w1 o (.inl (ca 2, 1, .inr (.inl (vp_updL g (0 : Int32).toNatClampNeg r.toInt64)))))) := by
  refine rt_met Γ kk_L_read rfl (Nat.le_of_ble_eq_true rfl) rfl ?_
  refine rt_aload_n dL_read_0 rfl (j := 3) rfl ?_
  refine rt_iconst (v := 0) dL_read_1 (by decide) ?_
  refine rt_aload_n dL_read_2 rfl (j := 0) rfl ?_
  refine rt_iload_n dL_read_3 rfl (j := 1) rfl ?_
  refine rt_iload_n dL_read_4 rfl (j := 2) rfl ?_
  refine rt_callV Γ kk_X9_read kc_RL_37 hM (by omega) (by decide) (As := [.int p0, .int p1]) (show (parseMethodDescriptor yX9_read.desc).map (fun q => q.parameters.length) = some 2 by decide +kernel) hok (Nat.le_of_ble_eq_true rfl) dL_read_5 hX rfl rfl rfl (rt_kr (st2 := [.int r, .int 0, rt_r s0 o]) rfl ?_) rt_kx
  refine rt_i2l dL_read_8 rfl ?_
  refine rt_last Γ dL_read_9 hO (vp_in_iff.mpr ⟨by decide, by decide⟩) ?_
  refine rt_goto (tgt := 21) dL_read_10 (by decide) ?_
  refine rt_iconst (v := 0) dL_read_21 (by decide) ?_
  exact rt_iret dL_read_22 rfl (⟨rfl, rfl⟩)
set_option maxRecDepth 100000 in
theorem c_L_readX1 {l : Launch} {s0 : State} {a0 : Array Value} {G : va_G} {ca : Nat → ClassId} (Γ : rt_Γ l s0 a0 G ca) {d : Nat} {w : rt_Wd} {x o : Nat} {p0 p1 : Int32} {fs : List Value} (hd : 1 ≤ d) (hok : rt_ok w) (hX : w.2.2 x = some (.inr (9, fs))) (hM : rt_Met l s0 G (.code yX9_read cX9_read 5 (Option.some FieldType.int)) yX9_read (d - 1) [rt_r s0 x, .int p0, .int p1] w (rt_tx "java/lang/IndexOutOfBoundsException" w)) : rt_Met l s0 G (.codeWith yL_read cL_read 5 (Option.some FieldType.int) [(0, 10, 13, 25), (0, 10, 17, 13)]) yL_read d [rt_r s0 x, .int p0, .int p1, rt_r s0 o] w (rt_ir 1 w) := by
  refine rt_met Γ kk_L_read rfl (Nat.le_of_ble_eq_true rfl) rfl ?_
  refine rt_aload_n dL_read_0 rfl (j := 3) rfl ?_
  refine rt_iconst (v := 0) dL_read_1 (by decide) ?_
  refine rt_aload_n dL_read_2 rfl (j := 0) rfl ?_
  refine rt_iload_n dL_read_3 rfl (j := 1) rfl ?_
  refine rt_iload_n dL_read_4 rfl (j := 2) rfl ?_
  refine rt_callV Γ kk_X9_read kc_RL_37 hM (by omega) (by decide) (As := [.int p0, .int p1]) (show (parseMethodDescriptor yX9_read.desc).map (fun q => q.parameters.length) = some 2 by decide +kernel) hok (Nat.le_of_ble_eq_true rfl) dL_read_5 hX rfl rfl rfl rt_xr (rt_xx (fun w1 h1 h2 h3 h4 => ?_))
  refine rt_catch (name := "java/lang/IndexOutOfBoundsException") Γ [] ⟨0, 10, 13, 25⟩ [⟨0, 10, 17, 13⟩] rfl (fun _ h => absurd h List.not_mem_nil) (by decide) (by decide) (tc_2 _ (List.mem_of_getElem? (i := 235) (by decide +kernel))) (tc_3 _ (List.mem_of_getElem? (i := 2) (by decide +kernel))) (fun q => ?_)
  refine rt_astoreA (lv' := [(4, .ref q), (0, rt_r s0 x), (1, .int p0), (2, .int p1), (3, rt_r s0 o)]) dL_read_13 (by decide) rfl ?_
  refine rt_iconst (v := 1) dL_read_15 (by decide) ?_
  exact rt_iret dL_read_16 rfl (⟨rfl, h1, h2, h3, h4⟩)
set_option maxRecDepth 100000 in
theorem c_L_readX2 {l : Launch} {s0 : State} {a0 : Array Value} {G : va_G} {ca : Nat → ClassId} (Γ : rt_Γ l s0 a0 G ca) {d : Nat} {w : rt_Wd} {x o : Nat} {p0 p1 : Int32} {fs : List Value} (hd : 1 ≤ d) (hok : rt_ok w) (hX : w.2.2 x = some (.inr (9, fs))) (hM : rt_Met l s0 G (.code yX9_read cX9_read 5 (Option.some FieldType.int)) yX9_read (d - 1) [rt_r s0 x, .int p0, .int p1] w (rt_tx "java/lang/IllegalStateException" w)) : rt_Met l s0 G (.codeWith yL_read cL_read 5 (Option.some FieldType.int) [(0, 10, 13, 25), (0, 10, 17, 13)]) yL_read d [rt_r s0 x, .int p0, .int p1, rt_r s0 o] w (rt_ir 2 w) := by
  refine rt_met Γ kk_L_read rfl (Nat.le_of_ble_eq_true rfl) rfl ?_
  refine rt_aload_n dL_read_0 rfl (j := 3) rfl ?_
  refine rt_iconst (v := 0) dL_read_1 (by decide) ?_
  refine rt_aload_n dL_read_2 rfl (j := 0) rfl ?_
  refine rt_iload_n dL_read_3 rfl (j := 1) rfl ?_
  refine rt_iload_n dL_read_4 rfl (j := 2) rfl ?_
  refine rt_callV Γ kk_X9_read kc_RL_37 hM (by omega) (by decide) (As := [.int p0, .int p1]) (show (parseMethodDescriptor yX9_read.desc).map (fun q => q.parameters.length) = some 2 by decide +kernel) hok (Nat.le_of_ble_eq_true rfl) dL_read_5 hX rfl rfl rfl rt_xr (rt_xx (fun w1 h1 h2 h3 h4 => ?_))
  refine rt_catch2 (name := "java/lang/IllegalStateException") Γ [⟨0, 10, 13, 25⟩] ⟨0, 10, 17, 13⟩ [] rfl (fun z hz => Or.inr (by rw [List.mem_singleton.mp hz]; exact ⟨by decide, "java/lang/IndexOutOfBoundsException", (tc_2 _ (List.mem_of_getElem? (i := 235) (by decide +kernel))), kx_s Γ⟩)) (by decide) (by decide) (tc_2 _ (List.mem_of_getElem? (i := 127) (by decide +kernel))) (tc_2 _ (List.mem_of_getElem? (i := 135) (by decide +kernel))) (fun q => ?_)
  refine rt_astoreA (lv' := [(4, .ref q), (0, rt_r s0 x), (1, .int p0), (2, .int p1), (3, rt_r s0 o)]) dL_read_17 (by decide) rfl ?_
  refine rt_iconst (v := 2) dL_read_19 (by decide) ?_
  exact rt_iret dL_read_20 rfl (⟨rfl, h1, h2, h3, h4⟩)
set_option maxRecDepth 100000 in
theorem c_L_all {l : Launch} {s0 : State} {a0 : Array Value} {G : va_G} {ca : Nat → ClassId} (Γ : rt_Γ l s0 a0 G ca) {d : Nat} {w : rt_Wd} {x o : Nat} {p0 : Int32} {fs : List Value} (hd : 1 ≤ d) (hok : rt_ok w) (hX : w.2.2 x = some (.inr (9, fs))) {w1 : rt_Wd} {r : Int32} (hM : rt_Met l s0 G (.code yX9_all cX9_all 4 (Option.some FieldType.int)) yX9_all (d - 1) [rt_r s0 x, .int p0] w (rt_is (.inl (some (.int r))) w1)) {g : Nat → Int64} (hO : w1.2.2 o = some (.inl (ca 2, 1, .inr (.inl g)))) : rt_Met l s0 G (.codeWith yL_all cL_all 4 (Option.some FieldType.int) [(0, 9, 12, 25), (0, 9, 15, 13)]) yL_all d [rt_r s0 x, .int p0, rt_r s0 o] w (rt_is (.inl (some (.int 0))) (rt_up w1 o (.inl (ca 2, 1, .inr (.inl (vp_updL g (0 : Int32).toNatClampNeg r.toInt64)))))) := by
  refine rt_met Γ kk_L_all rfl (Nat.le_of_ble_eq_true rfl) rfl ?_
  refine rt_aload_n dL_all_0 rfl (j := 2) rfl ?_
  refine rt_iconst (v := 0) dL_all_1 (by decide) ?_
  refine rt_aload_n dL_all_2 rfl (j := 0) rfl ?_
  refine rt_iload_n dL_all_3 rfl (j := 1) rfl ?_
  refine rt_callV Γ kk_X9_all kc_RL_40 hM (by omega) (by decide) (As := [.int p0]) (show (parseMethodDescriptor yX9_all.desc).map (fun q => q.parameters.length) = some 1 by decide +kernel) hok (Nat.le_of_ble_eq_true rfl) dL_all_4 hX rfl rfl rfl (rt_kr (st2 := [.int r, .int 0, rt_r s0 o]) rfl ?_) rt_kx
  refine rt_i2l dL_all_7 rfl ?_
  refine rt_last Γ dL_all_8 hO (vp_in_iff.mpr ⟨by decide, by decide⟩) ?_
  refine rt_goto (tgt := 18) dL_all_9 (by decide) ?_
  refine rt_iconst (v := 0) dL_all_18 (by decide) ?_
  exact rt_iret dL_all_19 rfl (⟨rfl, rfl⟩)
set_option maxRecDepth 100000 in
theorem c_L_allX1 {l : Launch} {s0 : State} {a0 : Array Value} {G : va_G} {ca : Nat → ClassId} (Γ : rt_Γ l s0 a0 G ca) {d : Nat} {w : rt_Wd} {x o : Nat} {p0 : Int32} {fs : List Value} (hd : 1 ≤ d) (hok : rt_ok w) (hX : w.2.2 x = some (.inr (9, fs))) (hM : rt_Met l s0 G (.code yX9_all cX9_all 4 (Option.some FieldType.int)) yX9_all (d - 1) [rt_r s0 x, .int p0] w (rt_tx "java/lang/IndexOutOfBoundsException" w)) : rt_Met l s0 G (.codeWith yL_all cL_all 4 (Option.some FieldType.int) [(0, 9, 12, 25), (0, 9, 15, 13)]) yL_all d [rt_r s0 x, .int p0, rt_r s0 o] w (rt_ir 1 w) := by
  refine rt_met Γ kk_L_all rfl (Nat.le_of_ble_eq_true rfl) rfl ?_
  refine rt_aload_n dL_all_0 rfl (j := 2) rfl ?_
  refine rt_iconst (v := 0) dL_all_1 (by decide) ?_
  refine rt_aload_n dL_all_2 rfl (j := 0) rfl ?_
  refine rt_iload_n dL_all_3 rfl (j := 1) rfl ?_
  refine rt_callV Γ kk_X9_all kc_RL_40 hM (by omega) (by decide) (As := [.int p0]) (show (parseMethodDescriptor yX9_all.desc).map (fun q => q.parameters.length) = some 1 by decide +kernel) hok (Nat.le_of_ble_eq_true rfl) dL_all_4 hX rfl rfl rfl rt_xr (rt_xx (fun w1 h1 h2 h3 h4 => ?_))
  refine rt_catch (name := "java/lang/IndexOutOfBoundsException") Γ [] ⟨0, 9, 12, 25⟩ [⟨0, 9, 15, 13⟩] rfl (fun _ h => absurd h List.not_mem_nil) (by decide) (by decide) (tc_2 _ (List.mem_of_getElem? (i := 235) (by decide +kernel))) (tc_3 _ (List.mem_of_getElem? (i := 2) (by decide +kernel))) (fun q => ?_)
  refine rt_astoreA_n (lv' := [(3, .ref q), (0, rt_r s0 x), (1, .int p0), (2, rt_r s0 o)]) dL_all_12 rfl (by decide) rfl ?_
  refine rt_iconst (v := 1) dL_all_13 (by decide) ?_
  exact rt_iret dL_all_14 rfl (⟨rfl, h1, h2, h3, h4⟩)
set_option maxRecDepth 100000 in
theorem c_L_allX2 {l : Launch} {s0 : State} {a0 : Array Value} {G : va_G} {ca : Nat → ClassId} (Γ : rt_Γ l s0 a0 G ca) {d : Nat} {w : rt_Wd} {x o : Nat} {p0 : Int32} {fs : List Value} (hd : 1 ≤ d) (hok : rt_ok w) (hX : w.2.2 x = some (.inr (9, fs))) (hM : rt_Met l s0 G (.code yX9_all cX9_all 4 (Option.some FieldType.int)) yX9_all (d - 1) [rt_r s0 x, .int p0] w (rt_tx "java/lang/IllegalStateException" w)) : rt_Met l s0 G (.codeWith yL_all cL_all 4 (Option.some FieldType.int) [(0, 9, 12, 25), (0, 9, 15, 13)]) yL_all d [rt_r s0 x, .int p0, rt_r s0 o] w (rt_ir 2 w) := by
  refine rt_met Γ kk_L_all rfl (Nat.le_of_ble_eq_true rfl) rfl ?_
  refine rt_aload_n dL_all_0 rfl (j := 2) rfl ?_
  refine rt_iconst (v := 0) dL_all_1 (by decide) ?_
  refine rt_aload_n dL_all_2 rfl (j := 0) rfl ?_
  refine rt_iload_n dL_all_3 rfl (j := 1) rfl ?_
  refine rt_callV Γ kk_X9_all kc_RL_40 hM (by omega) (by decide) (As := [.int p0]) (show (parseMethodDescriptor yX9_all.desc).map (fun q => q.parameters.length) = some 1 by decide +kernel) hok (Nat.le_of_ble_eq_true rfl) dL_all_4 hX rfl rfl rfl rt_xr (rt_xx (fun w1 h1 h2 h3 h4 => ?_))
  refine rt_catch2 (name := "java/lang/IllegalStateException") Γ [⟨0, 9, 12, 25⟩] ⟨0, 9, 15, 13⟩ [] rfl (fun z hz => Or.inr (by rw [List.mem_singleton.mp hz]; exact ⟨by decide, "java/lang/IndexOutOfBoundsException", (tc_2 _ (List.mem_of_getElem? (i := 235) (by decide +kernel))), kx_s Γ⟩)) (by decide) (by decide) (tc_2 _ (List.mem_of_getElem? (i := 127) (by decide +kernel))) (tc_2 _ (List.mem_of_getElem? (i := 135) (by decide +kernel))) (fun q => ?_)
  refine rt_astoreA_n (lv' := [(3, .ref q), (0, rt_r s0 x), (1, .int p0), (2, rt_r s0 o)]) dL_all_15 rfl (by decide) rfl ?_
  refine rt_iconst (v := 2) dL_all_16 (by decide) ?_
  exact rt_iret dL_all_17 rfl (⟨rfl, h1, h2, h3, h4⟩)
set_option maxRecDepth 100000 in
theorem c_L_fits1 {l : Launch} {s0 : State} {a0 : Array Value} {G : va_G} {ca : Nat → ClassId} (Γ : rt_Γ l s0 a0 G ca) {d : Nat} {w : rt_Wd} {x o : Nat} {p0 p1 : Int32} {fs : List Value} (hd : 1 ≤ d) (hok : rt_ok w) (hX : w.2.2 x = some (.inr (9, fs))) {w1 : rt_Wd} (hM : rt_Met l s0 G (.code yX9_fits cX9_fits 5 (Option.some FieldType.boolean)) yX9_fits (d - 1) [rt_r s0 x, .int p0, .int p1] w (rt_is (.inl (some (.int 1))) w1)) {g : Nat → Int64} (hO : w1.2.2 o = some (.inl (ca 2, 1, .inr (.inl g)))) : rt_Met l s0 G (.codeWith yL_fits cL_fits 5 (Option.some FieldType.int) [(0, 17, 20, 25), (0, 17, 24, 13)]) yL_fits d [rt_r s0 x, .int p0, .int p1, rt_r s0 o] w (rt_is (.inl (some (.int 0))) (rt_up w1 o (.inl (ca 2, 1, .inr (.inl (vp_updL g (0 : Int32).toNatClampNeg 1)))))) := by
  refine rt_met Γ kk_L_fits rfl (Nat.le_of_ble_eq_true rfl) rfl ?_
  refine rt_aload_n dL_fits_0 rfl (j := 3) rfl ?_
  refine rt_iconst (v := 0) dL_fits_1 (by decide) ?_
  refine rt_aload_n dL_fits_2 rfl (j := 0) rfl ?_
  refine rt_iload_n dL_fits_3 rfl (j := 1) rfl ?_
  refine rt_iload_n dL_fits_4 rfl (j := 2) rfl ?_
  refine rt_callV Γ kk_X9_fits kc_RL_43 hM (by omega) (by decide) (As := [.int p0, .int p1]) (show (parseMethodDescriptor yX9_fits.desc).map (fun q => q.parameters.length) = some 2 by decide +kernel) hok (Nat.le_of_ble_eq_true rfl) dL_fits_5 hX rfl rfl rfl (rt_kr (st2 := [.int 1, .int 0, rt_r s0 o]) rfl ?_) rt_kx
  refine rt_if_eq (tgt := 15) dL_fits_8 (by decide) (fun c8 => absurd c8 (by decide)) (fun _ => ?_)
  refine rt_lconst (v := 1) dL_fits_11 (by decide) ?_
  refine rt_goto (tgt := 16) dL_fits_12 (by decide) ?_
  refine rt_last Γ dL_fits_16 hO (vp_in_iff.mpr ⟨by decide, by decide⟩) ?_
  refine rt_goto (tgt := 28) dL_fits_17 (by decide) ?_
  refine rt_iconst (v := 0) dL_fits_28 (by decide) ?_
  exact rt_iret dL_fits_29 rfl (⟨rfl, rfl⟩)
set_option maxRecDepth 100000 in
theorem c_L_fits0 {l : Launch} {s0 : State} {a0 : Array Value} {G : va_G} {ca : Nat → ClassId} (Γ : rt_Γ l s0 a0 G ca) {d : Nat} {w : rt_Wd} {x o : Nat} {p0 p1 : Int32} {fs : List Value} (hd : 1 ≤ d) (hok : rt_ok w) (hX : w.2.2 x = some (.inr (9, fs))) {w1 : rt_Wd} (hM : rt_Met l s0 G (.code yX9_fits cX9_fits 5 (Option.some FieldType.boolean)) yX9_fits (d - 1) [rt_r s0 x, .int p0, .int p1] w (rt_is (.inl (some (.int 0))) w1)) {g : Nat → Int64} (hO : w1.2.2 o = some (.inl (ca 2, 1, .inr (.inl g)))) : rt_Met l s0 G (.codeWith yL_fits cL_fits 5 (Option.some FieldType.int) [(0, 17, 20, 25), (0, 17, 24, 13)]) yL_fits d [rt_r s0 x, .int p0, .int p1, rt_r s0 o] w (rt_is (.inl (some (.int 0))) (rt_up w1 o (.inl (ca 2, 1, .inr (.inl (vp_updL g (0 : Int32).toNatClampNeg 0)))))) := by
  refine rt_met Γ kk_L_fits rfl (Nat.le_of_ble_eq_true rfl) rfl ?_
  refine rt_aload_n dL_fits_0 rfl (j := 3) rfl ?_
  refine rt_iconst (v := 0) dL_fits_1 (by decide) ?_
  refine rt_aload_n dL_fits_2 rfl (j := 0) rfl ?_
  refine rt_iload_n dL_fits_3 rfl (j := 1) rfl ?_
  refine rt_iload_n dL_fits_4 rfl (j := 2) rfl ?_
  refine rt_callV Γ kk_X9_fits kc_RL_43 hM (by omega) (by decide) (As := [.int p0, .int p1]) (show (parseMethodDescriptor yX9_fits.desc).map (fun q => q.parameters.length) = some 2 by decide +kernel) hok (Nat.le_of_ble_eq_true rfl) dL_fits_5 hX rfl rfl rfl (rt_kr (st2 := [.int 0, .int 0, rt_r s0 o]) rfl ?_) rt_kx
  refine rt_if_eq (tgt := 15) dL_fits_8 (by decide) (fun _ => ?_) (fun c8 => absurd rfl c8)
  refine rt_lconst (v := 0) dL_fits_15 (by decide) ?_
  refine rt_last Γ dL_fits_16 hO (vp_in_iff.mpr ⟨by decide, by decide⟩) ?_
  refine rt_goto (tgt := 28) dL_fits_17 (by decide) ?_
  refine rt_iconst (v := 0) dL_fits_28 (by decide) ?_
  exact rt_iret dL_fits_29 rfl (⟨rfl, rfl⟩)
set_option maxRecDepth 100000 in
theorem c_L_fitsX1 {l : Launch} {s0 : State} {a0 : Array Value} {G : va_G} {ca : Nat → ClassId} (Γ : rt_Γ l s0 a0 G ca) {d : Nat} {w : rt_Wd} {x o : Nat} {p0 p1 : Int32} {fs : List Value} (hd : 1 ≤ d) (hok : rt_ok w) (hX : w.2.2 x = some (.inr (9, fs))) (hM : rt_Met l s0 G (.code yX9_fits cX9_fits 5 (Option.some FieldType.boolean)) yX9_fits (d - 1) [rt_r s0 x, .int p0, .int p1] w (rt_tx "java/lang/IndexOutOfBoundsException" w)) : rt_Met l s0 G (.codeWith yL_fits cL_fits 5 (Option.some FieldType.int) [(0, 17, 20, 25), (0, 17, 24, 13)]) yL_fits d [rt_r s0 x, .int p0, .int p1, rt_r s0 o] w (rt_ir 1 w) := by
  refine rt_met Γ kk_L_fits rfl (Nat.le_of_ble_eq_true rfl) rfl ?_
  refine rt_aload_n dL_fits_0 rfl (j := 3) rfl ?_
  refine rt_iconst (v := 0) dL_fits_1 (by decide) ?_
  refine rt_aload_n dL_fits_2 rfl (j := 0) rfl ?_
  refine rt_iload_n dL_fits_3 rfl (j := 1) rfl ?_
  refine rt_iload_n dL_fits_4 rfl (j := 2) rfl ?_
  refine rt_callV Γ kk_X9_fits kc_RL_43 hM (by omega) (by decide) (As := [.int p0, .int p1]) (show (parseMethodDescriptor yX9_fits.desc).map (fun q => q.parameters.length) = some 2 by decide +kernel) hok (Nat.le_of_ble_eq_true rfl) dL_fits_5 hX rfl rfl rfl rt_xr (rt_xx (fun w1 h1 h2 h3 h4 => ?_))
  refine rt_catch (name := "java/lang/IndexOutOfBoundsException") Γ [] ⟨0, 17, 20, 25⟩ [⟨0, 17, 24, 13⟩] rfl (fun _ h => absurd h List.not_mem_nil) (by decide) (by decide) (tc_2 _ (List.mem_of_getElem? (i := 235) (by decide +kernel))) (tc_3 _ (List.mem_of_getElem? (i := 2) (by decide +kernel))) (fun q => ?_)
  refine rt_astoreA (lv' := [(4, .ref q), (0, rt_r s0 x), (1, .int p0), (2, .int p1), (3, rt_r s0 o)]) dL_fits_20 (by decide) rfl ?_
  refine rt_iconst (v := 1) dL_fits_22 (by decide) ?_
  exact rt_iret dL_fits_23 rfl (⟨rfl, h1, h2, h3, h4⟩)
set_option maxRecDepth 100000 in
theorem c_L_fitsX2 {l : Launch} {s0 : State} {a0 : Array Value} {G : va_G} {ca : Nat → ClassId} (Γ : rt_Γ l s0 a0 G ca) {d : Nat} {w : rt_Wd} {x o : Nat} {p0 p1 : Int32} {fs : List Value} (hd : 1 ≤ d) (hok : rt_ok w) (hX : w.2.2 x = some (.inr (9, fs))) (hM : rt_Met l s0 G (.code yX9_fits cX9_fits 5 (Option.some FieldType.boolean)) yX9_fits (d - 1) [rt_r s0 x, .int p0, .int p1] w (rt_tx "java/lang/IllegalStateException" w)) : rt_Met l s0 G (.codeWith yL_fits cL_fits 5 (Option.some FieldType.int) [(0, 17, 20, 25), (0, 17, 24, 13)]) yL_fits d [rt_r s0 x, .int p0, .int p1, rt_r s0 o] w (rt_ir 2 w) := by
  refine rt_met Γ kk_L_fits rfl (Nat.le_of_ble_eq_true rfl) rfl ?_
  refine rt_aload_n dL_fits_0 rfl (j := 3) rfl ?_
  refine rt_iconst (v := 0) dL_fits_1 (by decide) ?_
  refine rt_aload_n dL_fits_2 rfl (j := 0) rfl ?_
  refine rt_iload_n dL_fits_3 rfl (j := 1) rfl ?_
  refine rt_iload_n dL_fits_4 rfl (j := 2) rfl ?_
  refine rt_callV Γ kk_X9_fits kc_RL_43 hM (by omega) (by decide) (As := [.int p0, .int p1]) (show (parseMethodDescriptor yX9_fits.desc).map (fun q => q.parameters.length) = some 2 by decide +kernel) hok (Nat.le_of_ble_eq_true rfl) dL_fits_5 hX rfl rfl rfl rt_xr (rt_xx (fun w1 h1 h2 h3 h4 => ?_))
  refine rt_catch2 (name := "java/lang/IllegalStateException") Γ [⟨0, 17, 20, 25⟩] ⟨0, 17, 24, 13⟩ [] rfl (fun z hz => Or.inr (by rw [List.mem_singleton.mp hz]; exact ⟨by decide, "java/lang/IndexOutOfBoundsException", (tc_2 _ (List.mem_of_getElem? (i := 235) (by decide +kernel))), kx_s Γ⟩)) (by decide) (by decide) (tc_2 _ (List.mem_of_getElem? (i := 127) (by decide +kernel))) (tc_2 _ (List.mem_of_getElem? (i := 135) (by decide +kernel))) (fun q => ?_)
  refine rt_astoreA (lv' := [(4, .ref q), (0, rt_r s0 x), (1, .int p0), (2, .int p1), (3, rt_r s0 o)]) dL_fits_24 (by decide) rfl ?_
  refine rt_iconst (v := 2) dL_fits_26 (by decide) ?_
  exact rt_iret dL_fits_27 rfl (⟨rfl, h1, h2, h3, h4⟩)
