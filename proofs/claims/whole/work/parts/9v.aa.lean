/-! ===== the law's own calls, whatever the class's method leaves; read where no schema is ===== -/
/-- a number comes back, and P says the rest -/
abbrev rt_an (P : Int32 → rt_Wd → Prop) : rt_Res → rt_Wd → Prop := fun r w1 => ∃ v : Int32, r = .inl (some (.int v)) ∧ P v w1
/-- nothing comes back -/
abbrev rt_vd (P : rt_Wd → Prop) : rt_Res → rt_Wd → Prop := fun r w1 => r = .inl none ∧ P w1
/-- the law's row of one number takes the answer -/
abbrev rt_o0 (ca : Nat → ClassId) (o : Nat) (P : Int32 → rt_Wd → Prop) : rt_Res → rt_Wd → Prop := fun r w2 => r = .inl (some (.int 0)) ∧ ∃ (v : Int32) (w1 : rt_Wd) (g : Nat → Int64), P v w1 ∧ w1.2.2 o = some (.inl (ca 2, 1, .inr (.inl g))) ∧ w2 = rt_up w1 o (.inl (ca 2, 1, .inr (.inl (vp_updL g (0 : Int32).toNatClampNeg v.toInt64))))
set_option maxRecDepth 100000 in
theorem c_L_feedG {l : Launch} {s0 : State} {a0 : Array Value} {G : va_G} {ca : Nat → ClassId} (Γ : rt_Γ l s0 a0 G ca) {d : Nat} {w : rt_Wd} {x o : Nat} {p0 p1 p2 p3 p4 : Int32} {fs : List Value} (hd : 1 ≤ d) (hok : rt_ok w) (hX : w.2.2 x = some (.inr (9, fs))) {P : Int32 → rt_Wd → Prop} (hO : ∀ (v : Int32) (w1 : rt_Wd), P v w1 → ∃ g : Nat → Int64, w1.2.2 o = some (.inl (ca 2, 1, .inr (.inl g)))) (hM : rt_Met l s0 G (.code yX9_feed cX9_feed 6 (Option.some FieldType.int)) yX9_feed (d - 1) [rt_r s0 x, .int p0, .int p1, .int p2, .int p3, .int p4] w (rt_an P)) : rt_Met l s0 G (.codeWith yL_feed cL_feed 8 (Option.some FieldType.int) [(0, 16, 19, 13)]) yL_feed d [rt_r s0 x, .int p0, .int p1, .int p2, .int p3, .int p4, rt_r s0 o] w (rt_o0 ca o P) := by
  refine rt_met Γ kk_L_feed rfl (Nat.le_of_ble_eq_true rfl) rfl ?_
  refine rt_aload dL_feed_0 (j := 6) rfl ?_
  refine rt_iconst (v := 0) dL_feed_2 (by decide) ?_
  refine rt_aload_n dL_feed_3 rfl (j := 0) rfl ?_
  refine rt_iload_n dL_feed_4 rfl (j := 1) rfl ?_
  refine rt_iload_n dL_feed_5 rfl (j := 2) rfl ?_
  refine rt_iload_n dL_feed_6 rfl (j := 3) rfl ?_
  refine rt_iload dL_feed_7 (j := 4) rfl ?_
  refine rt_iload dL_feed_9 (j := 5) rfl ?_
  refine rt_callV Γ kk_X9_feed kc_RL_7 hM (by omega) (by decide) (As := [.int p0, .int p1, .int p2, .int p3, .int p4]) (show (parseMethodDescriptor yX9_feed.desc).map (fun q => q.parameters.length) = some 5 by decide +kernel) hok (Nat.le_of_ble_eq_true rfl) dL_feed_11 hX rfl rfl rfl (fun v9 w1 hq => ?_) (fun X w1 hq => ?_)
  · obtain ⟨v, e9, hp⟩ := hq
    obtain ⟨g, hO⟩ := hO v w1 hp
    cases Sum.inl.inj e9
    show rt_Go l s0 G _ _ _ _ _ _ _ _ _ (11 + 3) [(0, rt_r s0 x), (1, .int p0), (2, .int p1), (3, .int p2), (4, .int p3), (5, .int p4), (6, rt_r s0 o)] [.int v, .int 0, rt_r s0 o] _
    refine rt_i2l dL_feed_14 rfl ?_
    refine rt_last Γ dL_feed_15 hO (vp_in_iff.mpr ⟨by decide, by decide⟩) ?_
    refine rt_goto (tgt := 23) dL_feed_16 (by decide) ?_
    refine rt_iconst (v := 0) dL_feed_23 (by decide) ?_
    exact rt_iret dL_feed_24 rfl (⟨rfl, v, w1, g, hp, hO, rfl⟩)
  · obtain ⟨v, e9, -⟩ := hq
    cases e9
set_option maxRecDepth 100000 in
theorem c_L_endG {l : Launch} {s0 : State} {a0 : Array Value} {G : va_G} {ca : Nat → ClassId} (Γ : rt_Γ l s0 a0 G ca) {d : Nat} {w : rt_Wd} {x : Nat} {p0 : Int32} {fs : List Value} (hd : 1 ≤ d) (hok : rt_ok w) (hX : w.2.2 x = some (.inr (9, fs))) {P : rt_Wd → Prop} (hM : rt_Met l s0 G (.code yX9_end cX9_end 2 (Option.none : Option FieldType)) yX9_end (d - 1) [rt_r s0 x, .int p0] w (rt_vd P)) : rt_Met l s0 G (.codeWith yL_end cL_end 3 (Option.some FieldType.int) [(0, 5, 8, 19)]) yL_end d [rt_r s0 x, .int p0] w (fun r w1 => r = .inl (some (.int 0)) ∧ P w1) := by
  refine rt_met Γ kk_L_end rfl (Nat.le_of_ble_eq_true rfl) rfl ?_
  refine rt_aload_n dL_end_0 rfl (j := 0) rfl ?_
  refine rt_iload_n dL_end_1 rfl (j := 1) rfl ?_
  refine rt_callV Γ kk_X9_end kc_RL_15 hM (by omega) (by decide) (As := [.int p0]) (show (parseMethodDescriptor yX9_end.desc).map (fun q => q.parameters.length) = some 1 by decide +kernel) hok (Nat.le_of_ble_eq_true rfl) dL_end_2 hX rfl rfl rfl (fun v9 w1 hq => ?_) (fun X w1 hq => nomatch hq.1)
  obtain ⟨e9, hp⟩ := hq
  cases e9
  show rt_Go l s0 G _ _ _ _ _ _ _ _ _ (2 + 3) [(0, rt_r s0 x), (1, .int p0)] [] _
  refine rt_goto (tgt := 11) dL_end_5 (by decide) ?_
  refine rt_iconst (v := 0) dL_end_11 (by decide) ?_
  exact rt_iret dL_end_12 rfl (⟨rfl, hp⟩)
set_option maxRecDepth 100000 in
theorem c_L_schemaG {l : Launch} {s0 : State} {a0 : Array Value} {G : va_G} {ca : Nat → ClassId} (Γ : rt_Γ l s0 a0 G ca) {d : Nat} {w : rt_Wd} {x o : Nat} {p0 : Int32} {fs : List Value} (hd : 1 ≤ d) (hok : rt_ok w) (hX : w.2.2 x = some (.inr (9, fs))) {P : Int32 → rt_Wd → Prop} (hO : ∀ (v : Int32) (w1 : rt_Wd), P v w1 → ∃ g : Nat → Int64, w1.2.2 o = some (.inl (ca 2, 1, .inr (.inl g)))) (hM : rt_Met l s0 G (.code yX9_schema cX9_schema 3 (Option.some FieldType.int)) yX9_schema (d - 1) [rt_r s0 x, .int p0] w (rt_an P)) : rt_Met l s0 G (.codeWith yL_schema cL_schema 4 (Option.some FieldType.int) [(0, 9, 12, 25)]) yL_schema d [rt_r s0 x, .int p0, rt_r s0 o] w (rt_o0 ca o P) := by
  refine rt_met Γ kk_L_schema rfl (Nat.le_of_ble_eq_true rfl) rfl ?_
  refine rt_aload_n dL_schema_0 rfl (j := 2) rfl ?_
  refine rt_iconst (v := 0) dL_schema_1 (by decide) ?_
  refine rt_aload_n dL_schema_2 rfl (j := 0) rfl ?_
  refine rt_iload_n dL_schema_3 rfl (j := 1) rfl ?_
  refine rt_callV Γ kk_X9_schema kc_RL_21 hM (by omega) (by decide) (As := [.int p0]) (show (parseMethodDescriptor yX9_schema.desc).map (fun q => q.parameters.length) = some 1 by decide +kernel) hok (Nat.le_of_ble_eq_true rfl) dL_schema_4 hX rfl rfl rfl (fun v9 w1 hq => ?_) (fun X w1 hq => ?_)
  · obtain ⟨v, e9, hp⟩ := hq
    obtain ⟨g, hO⟩ := hO v w1 hp
    cases Sum.inl.inj e9
    show rt_Go l s0 G _ _ _ _ _ _ _ _ _ (4 + 3) [(0, rt_r s0 x), (1, .int p0), (2, rt_r s0 o)] [.int v, .int 0, rt_r s0 o] _
    refine rt_i2l dL_schema_7 rfl ?_
    refine rt_last Γ dL_schema_8 hO (vp_in_iff.mpr ⟨by decide, by decide⟩) ?_
    refine rt_goto (tgt := 15) dL_schema_9 (by decide) ?_
    refine rt_iconst (v := 0) dL_schema_15 (by decide) ?_
    exact rt_iret dL_schema_16 rfl (⟨rfl, v, w1, g, hp, hO, rfl⟩)
  · obtain ⟨v, e9, -⟩ := hq
    cases e9
set_option maxRecDepth 100000 in
theorem c_L_loadG {l : Launch} {s0 : State} {a0 : Array Value} {G : va_G} {ca : Nat → ClassId} (Γ : rt_Γ l s0 a0 G ca) {d : Nat} {w : rt_Wd} {x o : Nat} {p0 : Int32} {fs : List Value} (hd : 1 ≤ d) (hok : rt_ok w) (hX : w.2.2 x = some (.inr (9, fs))) {P : Int32 → rt_Wd → Prop} (hO : ∀ (v : Int32) (w1 : rt_Wd), P v w1 → ∃ g : Nat → Int64, w1.2.2 o = some (.inl (ca 2, 1, .inr (.inl g)))) (hM : rt_Met l s0 G (.code yX9_load cX9_load 5 (Option.some FieldType.int)) yX9_load (d - 1) [rt_r s0 x, .int p0] w (rt_an P)) : rt_Met l s0 G (.codeWith yL_load cL_load 4 (Option.some FieldType.int) [(0, 9, 12, 25), (0, 9, 15, 13)]) yL_load d [rt_r s0 x, .int p0, rt_r s0 o] w (rt_o0 ca o P) := by
  refine rt_met Γ kk_L_load rfl (Nat.le_of_ble_eq_true rfl) rfl ?_
  refine rt_aload_n dL_load_0 rfl (j := 2) rfl ?_
  refine rt_iconst (v := 0) dL_load_1 (by decide) ?_
  refine rt_aload_n dL_load_2 rfl (j := 0) rfl ?_
  refine rt_iload_n dL_load_3 rfl (j := 1) rfl ?_
  refine rt_callV Γ kk_X9_load kc_RL_27 hM (by omega) (by decide) (As := [.int p0]) (show (parseMethodDescriptor yX9_load.desc).map (fun q => q.parameters.length) = some 1 by decide +kernel) hok (Nat.le_of_ble_eq_true rfl) dL_load_4 hX rfl rfl rfl (fun v9 w1 hq => ?_) (fun X w1 hq => ?_)
  · obtain ⟨v, e9, hp⟩ := hq
    obtain ⟨g, hO⟩ := hO v w1 hp
    cases Sum.inl.inj e9
    show rt_Go l s0 G _ _ _ _ _ _ _ _ _ (4 + 3) [(0, rt_r s0 x), (1, .int p0), (2, rt_r s0 o)] [.int v, .int 0, rt_r s0 o] _
    refine rt_i2l dL_load_7 rfl ?_
    refine rt_last Γ dL_load_8 hO (vp_in_iff.mpr ⟨by decide, by decide⟩) ?_
    refine rt_goto (tgt := 18) dL_load_9 (by decide) ?_
    refine rt_iconst (v := 0) dL_load_18 (by decide) ?_
    exact rt_iret dL_load_19 rfl (⟨rfl, v, w1, g, hp, hO, rfl⟩)
  · obtain ⟨v, e9, -⟩ := hq
    cases e9
set_option maxRecDepth 100000 in
theorem c_L_sizeG {l : Launch} {s0 : State} {a0 : Array Value} {G : va_G} {ca : Nat → ClassId} (Γ : rt_Γ l s0 a0 G ca) {d : Nat} {w : rt_Wd} {x o : Nat} {p0 : Int32} {fs : List Value} (hd : 1 ≤ d) (hok : rt_ok w) (hX : w.2.2 x = some (.inr (9, fs))) {P : Int32 → rt_Wd → Prop} (hO : ∀ (v : Int32) (w1 : rt_Wd), P v w1 → ∃ g : Nat → Int64, w1.2.2 o = some (.inl (ca 2, 1, .inr (.inl g)))) (hM : rt_Met l s0 G (.code yX9_size cX9_size 2 (Option.some FieldType.int)) yX9_size (d - 1) [rt_r s0 x, .int p0] w (rt_an P)) : rt_Met l s0 G (.codeWith yL_size cL_size 4 (Option.some FieldType.int) [(0, 9, 12, 19)]) yL_size d [rt_r s0 x, .int p0, rt_r s0 o] w (rt_o0 ca o P) := by
  refine rt_met Γ kk_L_size rfl (Nat.le_of_ble_eq_true rfl) rfl ?_
  refine rt_aload_n dL_size_0 rfl (j := 2) rfl ?_
  refine rt_iconst (v := 0) dL_size_1 (by decide) ?_
  refine rt_aload_n dL_size_2 rfl (j := 0) rfl ?_
  refine rt_iload_n dL_size_3 rfl (j := 1) rfl ?_
  refine rt_callV Γ kk_X9_size kc_RL_30 hM (by omega) (by decide) (As := [.int p0]) (show (parseMethodDescriptor yX9_size.desc).map (fun q => q.parameters.length) = some 1 by decide +kernel) hok (Nat.le_of_ble_eq_true rfl) dL_size_4 hX rfl rfl rfl (fun v9 w1 hq => ?_) (fun X w1 hq => ?_)
  · obtain ⟨v, e9, hp⟩ := hq
    obtain ⟨g, hO⟩ := hO v w1 hp
    cases Sum.inl.inj e9
    show rt_Go l s0 G _ _ _ _ _ _ _ _ _ (4 + 3) [(0, rt_r s0 x), (1, .int p0), (2, rt_r s0 o)] [.int v, .int 0, rt_r s0 o] _
    refine rt_i2l dL_size_7 rfl ?_
    refine rt_last Γ dL_size_8 hO (vp_in_iff.mpr ⟨by decide, by decide⟩) ?_
    refine rt_goto (tgt := 15) dL_size_9 (by decide) ?_
    refine rt_iconst (v := 0) dL_size_15 (by decide) ?_
    exact rt_iret dL_size_16 rfl (⟨rfl, v, w1, g, hp, hO, rfl⟩)
  · obtain ⟨v, e9, -⟩ := hq
    cases e9
set_option maxRecDepth 100000 in
theorem c_L_letterG {l : Launch} {s0 : State} {a0 : Array Value} {G : va_G} {ca : Nat → ClassId} (Γ : rt_Γ l s0 a0 G ca) {d : Nat} {w : rt_Wd} {x o : Nat} {p0 p1 : Int32} {fs : List Value} (hd : 1 ≤ d) (hok : rt_ok w) (hX : w.2.2 x = some (.inr (9, fs))) {P : Int32 → rt_Wd → Prop} (hO : ∀ (v : Int32) (w1 : rt_Wd), P v w1 → ∃ g : Nat → Int64, w1.2.2 o = some (.inl (ca 2, 1, .inr (.inl g)))) (hM : rt_Met l s0 G (.code yX9_letter cX9_letter 4 (Option.some FieldType.int)) yX9_letter (d - 1) [rt_r s0 x, .int p0, .int p1] w (rt_an P)) : rt_Met l s0 G (.codeWith yL_letter cL_letter 5 (Option.some FieldType.int) [(0, 10, 13, 25), (0, 10, 17, 19)]) yL_letter d [rt_r s0 x, .int p0, .int p1, rt_r s0 o] w (rt_o0 ca o P) := by
  refine rt_met Γ kk_L_letter rfl (Nat.le_of_ble_eq_true rfl) rfl ?_
  refine rt_aload_n dL_letter_0 rfl (j := 3) rfl ?_
  refine rt_iconst (v := 0) dL_letter_1 (by decide) ?_
  refine rt_aload_n dL_letter_2 rfl (j := 0) rfl ?_
  refine rt_iload_n dL_letter_3 rfl (j := 1) rfl ?_
  refine rt_iload_n dL_letter_4 rfl (j := 2) rfl ?_
  refine rt_callV Γ kk_X9_letter kc_RL_33 hM (by omega) (by decide) (As := [.int p0, .int p1]) (show (parseMethodDescriptor yX9_letter.desc).map (fun q => q.parameters.length) = some 2 by decide +kernel) hok (Nat.le_of_ble_eq_true rfl) dL_letter_5 hX rfl rfl rfl (fun v9 w1 hq => ?_) (fun X w1 hq => ?_)
  · obtain ⟨v, e9, hp⟩ := hq
    obtain ⟨g, hO⟩ := hO v w1 hp
    cases Sum.inl.inj e9
    show rt_Go l s0 G _ _ _ _ _ _ _ _ _ (5 + 3) [(0, rt_r s0 x), (1, .int p0), (2, .int p1), (3, rt_r s0 o)] [.int v, .int 0, rt_r s0 o] _
    refine rt_i2l dL_letter_8 rfl ?_
    refine rt_last Γ dL_letter_9 hO (vp_in_iff.mpr ⟨by decide, by decide⟩) ?_
    refine rt_goto (tgt := 21) dL_letter_10 (by decide) ?_
    refine rt_iconst (v := 0) dL_letter_21 (by decide) ?_
    exact rt_iret dL_letter_22 rfl (⟨rfl, v, w1, g, hp, hO, rfl⟩)
  · obtain ⟨v, e9, -⟩ := hq
    cases e9
set_option maxRecDepth 100000 in
theorem c_L_readG {l : Launch} {s0 : State} {a0 : Array Value} {G : va_G} {ca : Nat → ClassId} (Γ : rt_Γ l s0 a0 G ca) {d : Nat} {w : rt_Wd} {x o : Nat} {p0 p1 : Int32} {fs : List Value} (hd : 1 ≤ d) (hok : rt_ok w) (hX : w.2.2 x = some (.inr (9, fs))) {P : Int32 → rt_Wd → Prop} (hO : ∀ (v : Int32) (w1 : rt_Wd), P v w1 → ∃ g : Nat → Int64, w1.2.2 o = some (.inl (ca 2, 1, .inr (.inl g)))) (hM : rt_Met l s0 G (.code yX9_read cX9_read 5 (Option.some FieldType.int)) yX9_read (d - 1) [rt_r s0 x, .int p0, .int p1] w (rt_an P)) : rt_Met l s0 G (.codeWith yL_read cL_read 5 (Option.some FieldType.int) [(0, 10, 13, 25), (0, 10, 17, 13)]) yL_read d [rt_r s0 x, .int p0, .int p1, rt_r s0 o] w (rt_o0 ca o P) := by
  refine rt_met Γ kk_L_read rfl (Nat.le_of_ble_eq_true rfl) rfl ?_
  refine rt_aload_n dL_read_0 rfl (j := 3) rfl ?_
  refine rt_iconst (v := 0) dL_read_1 (by decide) ?_
  refine rt_aload_n dL_read_2 rfl (j := 0) rfl ?_
  refine rt_iload_n dL_read_3 rfl (j := 1) rfl ?_
  refine rt_iload_n dL_read_4 rfl (j := 2) rfl ?_
  refine rt_callV Γ kk_X9_read kc_RL_37 hM (by omega) (by decide) (As := [.int p0, .int p1]) (show (parseMethodDescriptor yX9_read.desc).map (fun q => q.parameters.length) = some 2 by decide +kernel) hok (Nat.le_of_ble_eq_true rfl) dL_read_5 hX rfl rfl rfl (fun v9 w1 hq => ?_) (fun X w1 hq => ?_)
  · obtain ⟨v, e9, hp⟩ := hq
    obtain ⟨g, hO⟩ := hO v w1 hp
    cases Sum.inl.inj e9
    show rt_Go l s0 G _ _ _ _ _ _ _ _ _ (5 + 3) [(0, rt_r s0 x), (1, .int p0), (2, .int p1), (3, rt_r s0 o)] [.int v, .int 0, rt_r s0 o] _
    refine rt_i2l dL_read_8 rfl ?_
    refine rt_last Γ dL_read_9 hO (vp_in_iff.mpr ⟨by decide, by decide⟩) ?_
    refine rt_goto (tgt := 21) dL_read_10 (by decide) ?_
    refine rt_iconst (v := 0) dL_read_21 (by decide) ?_
    exact rt_iret dL_read_22 rfl (⟨rfl, v, w1, g, hp, hO, rfl⟩)
  · obtain ⟨v, e9, -⟩ := hq
    cases e9
set_option maxRecDepth 100000 in
theorem c_L_allG {l : Launch} {s0 : State} {a0 : Array Value} {G : va_G} {ca : Nat → ClassId} (Γ : rt_Γ l s0 a0 G ca) {d : Nat} {w : rt_Wd} {x o : Nat} {p0 : Int32} {fs : List Value} (hd : 1 ≤ d) (hok : rt_ok w) (hX : w.2.2 x = some (.inr (9, fs))) {P : Int32 → rt_Wd → Prop} (hO : ∀ (v : Int32) (w1 : rt_Wd), P v w1 → ∃ g : Nat → Int64, w1.2.2 o = some (.inl (ca 2, 1, .inr (.inl g)))) (hM : rt_Met l s0 G (.code yX9_all cX9_all 4 (Option.some FieldType.int)) yX9_all (d - 1) [rt_r s0 x, .int p0] w (rt_an P)) : rt_Met l s0 G (.codeWith yL_all cL_all 4 (Option.some FieldType.int) [(0, 9, 12, 25), (0, 9, 15, 13)]) yL_all d [rt_r s0 x, .int p0, rt_r s0 o] w (rt_o0 ca o P) := by
  refine rt_met Γ kk_L_all rfl (Nat.le_of_ble_eq_true rfl) rfl ?_
  refine rt_aload_n dL_all_0 rfl (j := 2) rfl ?_
  refine rt_iconst (v := 0) dL_all_1 (by decide) ?_
  refine rt_aload_n dL_all_2 rfl (j := 0) rfl ?_
  refine rt_iload_n dL_all_3 rfl (j := 1) rfl ?_
  refine rt_callV Γ kk_X9_all kc_RL_40 hM (by omega) (by decide) (As := [.int p0]) (show (parseMethodDescriptor yX9_all.desc).map (fun q => q.parameters.length) = some 1 by decide +kernel) hok (Nat.le_of_ble_eq_true rfl) dL_all_4 hX rfl rfl rfl (fun v9 w1 hq => ?_) (fun X w1 hq => ?_)
  · obtain ⟨v, e9, hp⟩ := hq
    obtain ⟨g, hO⟩ := hO v w1 hp
    cases Sum.inl.inj e9
    show rt_Go l s0 G _ _ _ _ _ _ _ _ _ (4 + 3) [(0, rt_r s0 x), (1, .int p0), (2, rt_r s0 o)] [.int v, .int 0, rt_r s0 o] _
    refine rt_i2l dL_all_7 rfl ?_
    refine rt_last Γ dL_all_8 hO (vp_in_iff.mpr ⟨by decide, by decide⟩) ?_
    refine rt_goto (tgt := 18) dL_all_9 (by decide) ?_
    refine rt_iconst (v := 0) dL_all_18 (by decide) ?_
    exact rt_iret dL_all_19 rfl (⟨rfl, v, w1, g, hp, hO, rfl⟩)
  · obtain ⟨v, e9, -⟩ := hq
    cases e9
set_option maxRecDepth 100000 in
theorem c_L_fitsG {l : Launch} {s0 : State} {a0 : Array Value} {G : va_G} {ca : Nat → ClassId} (Γ : rt_Γ l s0 a0 G ca) {d : Nat} {w : rt_Wd} {x o : Nat} {p0 p1 : Int32} {fs : List Value} (hd : 1 ≤ d) (hok : rt_ok w) (hX : w.2.2 x = some (.inr (9, fs))) {P : Int32 → rt_Wd → Prop} (hZ : ∀ (v : Int32) (w1 : rt_Wd), P v w1 → v = 0 ∨ v = 1) (hO : ∀ (v : Int32) (w1 : rt_Wd), P v w1 → ∃ g : Nat → Int64, w1.2.2 o = some (.inl (ca 2, 1, .inr (.inl g)))) (hM : rt_Met l s0 G (.code yX9_fits cX9_fits 5 (Option.some FieldType.boolean)) yX9_fits (d - 1) [rt_r s0 x, .int p0, .int p1] w (rt_an P)) : rt_Met l s0 G (.codeWith yL_fits cL_fits 5 (Option.some FieldType.int) [(0, 17, 20, 25), (0, 17, 24, 13)]) yL_fits d [rt_r s0 x, .int p0, .int p1, rt_r s0 o] w (rt_o0 ca o P) := by
  refine rt_met Γ kk_L_fits rfl (Nat.le_of_ble_eq_true rfl) rfl ?_
  refine rt_aload_n dL_fits_0 rfl (j := 3) rfl ?_
  refine rt_iconst (v := 0) dL_fits_1 (by decide) ?_
  refine rt_aload_n dL_fits_2 rfl (j := 0) rfl ?_
  refine rt_iload_n dL_fits_3 rfl (j := 1) rfl ?_
  refine rt_iload_n dL_fits_4 rfl (j := 2) rfl ?_
  refine rt_callV Γ kk_X9_fits kc_RL_43 hM (by omega) (by decide) (As := [.int p0, .int p1]) (show (parseMethodDescriptor yX9_fits.desc).map (fun q => q.parameters.length) = some 2 by decide +kernel) hok (Nat.le_of_ble_eq_true rfl) dL_fits_5 hX rfl rfl rfl (fun v9 w1 hq => ?_) (fun X w1 hq => ?_)
  · obtain ⟨v, e9, hp⟩ := hq
    obtain ⟨g, hO⟩ := hO v w1 hp
    cases Sum.inl.inj e9
    rcases hZ v w1 hp with rfl | rfl
    · show rt_Go l s0 G _ _ _ _ _ _ _ _ _ (5 + 3) [(0, rt_r s0 x), (1, .int p0), (2, .int p1), (3, rt_r s0 o)] [.int 0, .int 0, rt_r s0 o] _
      refine rt_if_eq (tgt := 15) dL_fits_8 (by decide) (fun _ => ?_) (fun c8 => absurd rfl c8)
      refine rt_lconst (v := 0) dL_fits_15 (by decide) ?_
      refine rt_last Γ dL_fits_16 hO (vp_in_iff.mpr ⟨by decide, by decide⟩) ?_
      refine rt_goto (tgt := 28) dL_fits_17 (by decide) ?_
      refine rt_iconst (v := 0) dL_fits_28 (by decide) ?_
      exact rt_iret dL_fits_29 rfl (⟨rfl, 0, w1, g, hp, hO, rfl⟩)
    · show rt_Go l s0 G _ _ _ _ _ _ _ _ _ (5 + 3) [(0, rt_r s0 x), (1, .int p0), (2, .int p1), (3, rt_r s0 o)] [.int 1, .int 0, rt_r s0 o] _
      refine rt_if_eq (tgt := 15) dL_fits_8 (by decide) (fun c8 => absurd c8 (by decide)) (fun _ => ?_)
      refine rt_lconst (v := 1) dL_fits_11 (by decide) ?_
      refine rt_goto (tgt := 16) dL_fits_12 (by decide) ?_
      refine rt_last Γ dL_fits_16 hO (vp_in_iff.mpr ⟨by decide, by decide⟩) ?_
      refine rt_goto (tgt := 28) dL_fits_17 (by decide) ?_
      refine rt_iconst (v := 0) dL_fits_28 (by decide) ?_
      exact rt_iret dL_fits_29 rfl (⟨rfl, 1, w1, g, hp, hO, rfl⟩)
  · obtain ⟨v, e9, -⟩ := hq
    cases e9
set_option maxRecDepth 100000 in
theorem c_X9_readX {l : Launch} {s0 : State} {a0 : Array Value} {G : va_G} {ca : Nat → ClassId} (Γ : rt_Γ l s0 a0 G ca) {d : Nat} {w : rt_Wd} (hd : 2 ≤ d) (hok : rt_ok w) (hok1 : w.1 + 1 ≤ 600000 ∧ w.2.1 + 6 ≤ 7300000) {x tp op kp tx dr lk tl ft cu sp : Nat} {rp fp : Int32} (hX : w.2.2 x = some (.inr (9, [rt_r s0 tp, rt_r s0 op, rt_r s0 kp, rt_r s0 tx, rt_r s0 dr, rt_r s0 lk, rt_r s0 tl, rt_r s0 ft, rt_r s0 cu, rt_r s0 sp, .int rp, .int fp]))) {by_ sa : Nat} (hR : w.2.2 cu = some (.inr (5, [rt_r s0 by_, rt_r s0 sa]))) {n : Nat} {f : Nat → Int32} {u : Int32} (hC : rt_C s0 ca w sa n f u) {kf : Nat → Option Nat} (hK : w.2.2 kp = some (.inl (ca 4, 8, .inr (.inr (.inr (.inr kf)))))) {p i : Int32} (h0 : ¬ p < 0) (h1 : ¬ 8 ≤ p) (h2 : ¬ i < 0) (h3 : i < u) (hk0 : kf p.toNatClampNeg = none) : rt_Met l s0 G (.code yX9_read cX9_read 5 (Option.some FieldType.int)) yX9_read d [rt_r s0 x, .int p, .int i] w (rt_tx "java/lang/IllegalStateException" w) := by
  refine rt_met Γ kk_X9_read rfl (Nat.le_of_ble_eq_true rfl) rfl ?_
  refine rt_iload_n dX9_read_0 rfl (j := 1) rfl ?_
  refine rt_if_lt (tgt := 25) dX9_read_1 (by decide) (fun c1 => absurd c1 h0) (fun _ => ?_)
  refine rt_iload_n dX9_read_4 rfl (j := 1) rfl ?_
  refine rt_bipush (v := 8) dX9_read_5 (by decide) ?_
  refine rt_icmp_ge (tgt := 25) dX9_read_7 (by decide) (fun c7 => absurd c7 h1) (fun _ => ?_)
  refine rt_iload_n dX9_read_10 rfl (j := 2) rfl ?_
  refine rt_if_lt (tgt := 25) dX9_read_11 (by decide) (fun c11 => absurd c11 h2) (fun _ => ?_)
  refine rt_iload_n dX9_read_14 rfl (j := 2) rfl ?_
  refine rt_aload_n dX9_read_15 rfl (j := 0) rfl ?_
  refine rt_get Γ kf_RX9_65 dX9_read_16 hX rfl ?_
  refine rt_callV Γ kk_X5_count kc_RX9_121 (c_X5_count Γ (d := d - 1) (by omega) hok hR hC) (by omega) (by decide) (As := []) (show (parseMethodDescriptor yX5_count.desc).map (fun q => q.parameters.length) = some 0 by decide +kernel) hok (Nat.le_of_ble_eq_true rfl) dX9_read_19 hR rfl rfl rfl (rt_kr (st2 := [.int u, .int i]) rfl ?_) rt_kx
  refine rt_icmp_lt (tgt := 33) dX9_read_22 (by decide) (fun _ => ?_) (fun c22 => absurd h3 c22)
  refine rt_aload_n dX9_read_33 rfl (j := 0) rfl ?_
  refine rt_get Γ kf_RX9_23 dX9_read_34 hX rfl ?_
  refine rt_iload_n dX9_read_37 rfl (j := 1) rfl ?_
  refine rt_aldq Γ dX9_read_38 hK (vp_in8 h0 (Int32.not_le.mp h1)) ?_
  rw [hk0]
  refine rt_astoreN_n (lv' := [(3, .null), (0, rt_r s0 x), (1, .int p), (2, .int i)]) dX9_read_39 rfl (by decide) rfl ?_
  refine rt_aloadN_n dX9_read_40 rfl (j := 0) rfl ?_
  refine rt_ifnonnullN dX9_read_41 ?_
  exact rt_throw0 Γ kt_9s dX9_read_44 dX9_read_47 dX9_read_48 dX9_read_51 (fun _ h => absurd h List.not_mem_nil) (Nat.le_of_ble_eq_true rfl) hok1 (fun n h1 h2 => ⟨rfl, rfl, h1, h2, rfl⟩)
