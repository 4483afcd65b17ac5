/-! ===== trees: FILLER ===== -/
def zt_X2_misfit (l : Launch) (s0 : State) (G : va_G) (ca : Nat → ClassId) (d : Nat) (C : Nat × Nat) (S : zS) (w0 : rt_Wd) (p : Int) (v : Int) (M : zM) (Q : Int → zM → Prop) (X : zM → Prop) : Prop :=
  zIf (w32 (M 25 2) = ((-1))) (Q 0 ((zu M 25 2 (((zat M 10 2073 v)))))) (Q 0 M)
set_option maxRecDepth 100000 in
theorem z_X2_misfit {l : Launch} {s0 : State} {a0 : Array Value} {G : va_G} {ca : Nat → ClassId} (Γ : rt_Γ l s0 a0 G ca) {d : Nat} {C : Nat × Nat} {S : zS} (hd : 2 ≤ d) (hok : zok C) {p : Int} (hs : zSok S) (hp : zSc S p) (hs25 : S 25 = some (0, 2, [(3, 6), (3, p), (0, 0)])) (hs6 : S 6 = some (0, 8, [(3, 7), (3, 9), (3, 11), (3, 13), (3, 15), (3, 17), (3, 19), (3, 21), (3, 22), (3, 1), (0, 0), (0, 0), (0, 0)])) {v : Int} {M : zM} {Q : Int → zM → Prop} {X : zM → Prop} (h : zt_X2_misfit l s0 G ca d C S (zw s0 ca C S M) p v M Q X) : zm_X2_misfit l s0 G ca d C S  v M Q X := by
  refine z_met (lv := [(0, zv s0 2 25), (1, zv s0 0 v)]) Γ kk_X2_misfit rfl (show (lg_sl [zv s0 2 25, zv s0 0 v]).length ≤ 2 from by simp only [zn_0, zn_2, show (lg_sl []).length = 0 from rfl]; omega) (show lv_args 0 [zv s0 2 25, zv s0 0 v] = [(0, zv s0 2 25), (1, zv s0 0 v)] from by rw [zl_2, zl_0]; rfl) ?_
  unfold zt_X2_misfit at h
  refine z_aload_n dX2_misfit_0 rfl (j := 0) rfl ?_
  refine z_get Γ kf_RX2_9 dX2_misfit_1 (by decide) hs25 rfl (by decide) (v9 := M 25 2) rfl ?_
  refine z_iconst dX2_misfit_4 ?_
  refine z_icmp_ne (tgt := 20) (x' := w32 (M 25 2)) (y' := ((-1))) rfl (by decide) dX2_misfit_5 (by decide) (fun c5 => ?_) (fun c5 => ?_)
  · replace h := h.2 c5
    exact z_vret dX2_misfit_20 rfl h
  · replace h := h.1 c5
    refine z_aload_n dX2_misfit_8 rfl (j := 0) rfl ?_
    refine z_aload_n dX2_misfit_9 rfl (j := 0) rfl ?_
    refine z_getc Γ kf_RX2_15 dX2_misfit_10 (by decide) hs25 rfl ?_
    refine z_iload_n dX2_misfit_13 rfl (j := 1) rfl ?_
    refine z_callV Γ kk_X8_begin kc_RX2_46 (As := [zv s0 0 v]) (z_X8_begin (d := d - 1) Γ (by omega) hok hs hs6 (M := M) (Q := fun v9 M9 => v9 = ((zat M 10 2073 v)) ∧ M9 = M) (X := X) (show _ ∧ _ from ⟨rfl, rfl⟩)) (by omega) (by decide) (show (parseMethodDescriptor yX8_begin.desc).map (fun q => q.parameters.length) = some 1 by decide +kernel) hok (by simp only [List.map, zv_cat0, zv_cat1, zv_cat2, List.sum_cons, List.sum_nil]; decide) dX2_misfit_14 (by decide) hs6 rfl rfl (fun _ h9 => nomatch h9) ?_
    rintro v9 M9 ⟨e9, e8⟩
    rw [e9, e8]
    clear e9 e8 v9 M9
    show rt_Go _ _ _ _ _ _ _ _ _ _ _ _ 17 [(0, zv s0 2 25), (1, zv s0 0 v)] [zv s0 0 (((zat M 10 2073 v))), zv s0 2 25] (zw s0 ca C S M)
    refine z_put0 Γ kp_RX2_9 dX2_misfit_17 (by decide) hs25 rfl (k9 := 2) rfl ?_
    exact z_vret dX2_misfit_20 rfl h

def zt_X2_putLetters (l : Launch) (s0 : State) (G : va_G) (ca : Nat → ClassId) (d : Nat) (C : Nat × Nat) (S : zS) (w0 : rt_Wd) (p : Int) (w : Int) (M : zM) (Q : Int → zM → Prop) (X : zM → Prop) : Prop :=
  ∃ (ad1 : Int) (nd1 : Nat), zCe S ((p + 23)) ad1 nd1 ∧ (zm_X0_addPart l s0 G ca (d - 1) C S ((p + 23)) 22 (w + 1) ((w + 1) + ((zat M 23 4096 w))) M (fun r32 M32 => Q 0 M32) X)
set_option maxRecDepth 100000 in
theorem z_X2_putLetters {l : Launch} {s0 : State} {a0 : Array Value} {G : va_G} {ca : Nat → ClassId} (Γ : rt_Γ l s0 a0 G ca) {d : Nat} {C : Nat × Nat} {S : zS} (hd : 1 ≤ d) (hok : zok C) {p : Int} (hs : zSok S) (hp : zSc S p) (hs25 : S 25 = some (0, 2, [(3, 6), (3, p), (0, 0)])) (hs6 : S 6 = some (0, 8, [(3, 7), (3, 9), (3, 11), (3, 13), (3, 15), (3, 17), (3, 19), (3, 21), (3, 22), (3, 1), (0, 0), (0, 0), (0, 0)])) {w : Int} {M : zM} {Q : Int → zM → Prop} {X : zM → Prop} (h : zt_X2_putLetters l s0 G ca d C S (zw s0 ca C S M) p w M Q X) : zm_X2_putLetters l s0 G ca d C S  w M Q X := by
  refine z_met (lv := [(0, zv s0 2 25), (1, zv s0 0 w)]) Γ kk_X2_putLetters rfl (show (lg_sl [zv s0 2 25, zv s0 0 w]).length ≤ 2 from by simp only [zn_0, zn_2, show (lg_sl []).length = 0 from rfl]; omega) (show lv_args 0 [zv s0 2 25, zv s0 0 w] = [(0, zv s0 2 25), (1, zv s0 0 w)] from by rw [zl_2, zl_0]; rfl) ?_
  unfold zt_X2_putLetters at h
  refine z_aload_n dX2_putLetters_0 rfl (j := 0) rfl ?_
  refine z_getc Γ kf_RX2_19 dX2_putLetters_1 (by decide) hs25 rfl ?_
  refine z_callV Γ kk_X6_defaults kc_RX2_23 (As := []) (z_X6_defaults (d := d - 1) Γ hok hp (M := M) (Q := fun v9 M9 => v9 = (p + 23) ∧ M9 = M) (X := X) (show _ ∧ _ from ⟨rfl, rfl⟩)) (by omega) (by decide) (show (parseMethodDescriptor yX6_defaults.desc).map (fun q => q.parameters.length) = some 0 by decide +kernel) hok (Nat.zero_le _) dX2_putLetters_4 hp.1 hp.2.1 rfl rfl (fun _ h9 => nomatch h9) ?_
  rintro v9 M9 ⟨e9, e8⟩
  rw [e9, e8]
  clear e9 e8 v9 M9
  show rt_Go _ _ _ _ _ _ _ _ _ _ _ _ 7 [(0, zv s0 2 25), (1, zv s0 0 w)] [zv s0 2 ((p + 23))] (zw s0 ca C S M)
  refine z_aload_n dX2_putLetters_7 rfl (j := 0) rfl ?_
  refine z_getc Γ kf_RX2_15 dX2_putLetters_8 (by decide) hs25 rfl ?_
  refine z_callV Γ kk_X8_letters kc_RX2_114 (As := []) (z_X8_letters (d := d - 1) Γ hok hs hs6 (M := M) (Q := fun v9 M9 => v9 = 22 ∧ M9 = M) (X := X) (show _ ∧ _ from ⟨rfl, rfl⟩)) (by omega) (by decide) (show (parseMethodDescriptor yX8_letters.desc).map (fun q => q.parameters.length) = some 0 by decide +kernel) hok (by simp only [List.map, zv_cat0, zv_cat1, zv_cat2, List.sum_cons, List.sum_nil]; decide) dX2_putLetters_11 (by decide) hs6 rfl rfl (fun _ h9 => nomatch h9) ?_
  rintro v9 M9 ⟨e9, e8⟩
  rw [e9, e8]
  clear e9 e8 v9 M9
  show rt_Go _ _ _ _ _ _ _ _ _ _ _ _ 14 [(0, zv s0 2 25), (1, zv s0 0 w)] [zv s0 2 22, zv s0 2 ((p + 23))] (zw s0 ca C S M)
  refine z_iload_n dX2_putLetters_14 rfl (j := 1) rfl ?_
  refine z_iconst dX2_putLetters_15 ?_
  refine z_iadd dX2_putLetters_16 ?_
  refine z_iload_n dX2_putLetters_17 rfl (j := 1) rfl ?_
  refine z_iconst dX2_putLetters_18 ?_
  refine z_iadd dX2_putLetters_19 ?_
  refine z_aload_n dX2_putLetters_20 rfl (j := 0) rfl ?_
  refine z_getc Γ kf_RX2_15 dX2_putLetters_21 (by decide) hs25 rfl ?_
  refine z_callV Γ kk_X8_letters kc_RX2_114 (As := []) (z_X8_letters (d := d - 1) Γ hok hs hs6 (M := M) (Q := fun v9 M9 => v9 = 22 ∧ M9 = M) (X := X) (show _ ∧ _ from ⟨rfl, rfl⟩)) (by omega) (by decide) (show (parseMethodDescriptor yX8_letters.desc).map (fun q => q.parameters.length) = some 0 by decide +kernel) hok (by simp only [List.map, zv_cat0, zv_cat1, zv_cat2, List.sum_cons, List.sum_nil]; decide) dX2_putLetters_24 (by decide) hs6 rfl rfl (fun _ h9 => nomatch h9) ?_
  rintro v9 M9 ⟨e9, e8⟩
  rw [e9, e8]
  clear e9 e8 v9 M9
  show rt_Go _ _ _ _ _ _ _ _ _ _ _ _ 27 [(0, zv s0 2 25), (1, zv s0 0 w)] [zv s0 2 22, zv s0 0 (w + 1), zv s0 0 (w + 1), zv s0 2 22, zv s0 2 ((p + 23))] (zw s0 ca C S M)
  refine z_iload_n dX2_putLetters_27 rfl (j := 1) rfl ?_
  refine z_callV Γ kk_X0_at kc_RX2_117 (As := [zv s0 0 w]) (k_X0_at (d := d - 1) Γ hok (⟨by decide, by decide, by decide, hs 22 _ rfl, hs 23 _ rfl⟩ : zCe S 22 23 4096) (M := M) (Q := fun v9 M9 => v9 = (zat M 23 4096 w) ∧ M9 = M) (X := X) (show _ ∧ _ from ⟨rfl, rfl⟩)) (by omega) (by decide) (show (parseMethodDescriptor yX0_at.desc).map (fun q => q.parameters.length) = some 1 by decide +kernel) hok (by simp only [List.map, zv_cat0, zv_cat1, zv_cat2, List.sum_cons, List.sum_nil]; decide) dX2_putLetters_28 (⟨by decide, by decide, by decide, hs 22 _ rfl, hs 23 _ rfl⟩ : zCe S 22 23 4096).1 (⟨by decide, by decide, by decide, hs 22 _ rfl, hs 23 _ rfl⟩ : zCe S 22 23 4096).2.2.2.1 rfl rfl (fun _ h9 => nomatch h9) ?_
  rintro v9 M9 ⟨e9, e8⟩
  rw [e9, e8]
  clear e9 e8 v9 M9
  show rt_Go _ _ _ _ _ _ _ _ _ _ _ _ 31 [(0, zv s0 2 25), (1, zv s0 0 w)] [zv s0 0 ((zat M 23 4096 w)), zv s0 0 (w + 1), zv s0 0 (w + 1), zv s0 2 22, zv s0 2 ((p + 23))] (zw s0 ca C S M)
  refine z_iadd dX2_putLetters_31 ?_
  obtain ⟨ad1, nd1, hk0, h⟩ := h
  refine z_callV Γ kk_X0_addPart kc_RX2_123 (As := [zv s0 2 22, zv s0 0 (w + 1), zv s0 0 ((w + 1) + ((zat M 23 4096 w)))]) h (by omega) (by decide) (show (parseMethodDescriptor yX0_addPart.desc).map (fun q => q.parameters.length) = some 3 by decide +kernel) hok (Nat.zero_le _) dX2_putLetters_32 (hk0 : zCe S ((p + 23)) ad1 nd1).1 (hk0 : zCe S ((p + 23)) ad1 nd1).2.2.2.1 rfl rfl (fun _ h9 => nomatch h9) ?_
  clear h
  intro r32 M32 h
  show rt_Go _ _ _ _ _ _ _ _ _ _ _ _ 35 [(0, zv s0 2 25), (1, zv s0 0 w)] [zv s0 0 r32] (zw s0 ca C S M32)
  refine z_pop0 dX2_putLetters_35 ?_
  exact z_vret dX2_putLetters_36 rfl h

def zt_X2_putString (l : Launch) (s0 : State) (G : va_G) (ca : Nat → ClassId) (d : Nat) (C : Nat × Nat) (S : zS) (w0 : rt_Wd) (p : Int) (w : Int) (M : zM) (Q : Int → zM → Prop) (X : zM → Prop) : Prop :=
  ∃ (ad1 : Int) (nd1 : Nat), zCe S ((p + 23)) ad1 nd1 ∧ (zm_X0_addVarint l s0 G ca (d - 1) C S ((p + 23)) (w32 ((zat M 23 4096 w))) M (fun r19 M19 => zm_X2_putLetters l s0 G ca (d - 1) C S w M19 (fun r25 M25 => Q 0 M25) X) X)
set_option maxRecDepth 100000 in
theorem z_X2_putString {l : Launch} {s0 : State} {a0 : Array Value} {G : va_G} {ca : Nat → ClassId} (Γ : rt_Γ l s0 a0 G ca) {d : Nat} {C : Nat × Nat} {S : zS} (hd : 1 ≤ d) (hok : zok C) {p : Int} (hs : zSok S) (hp : zSc S p) (hs25 : S 25 = some (0, 2, [(3, 6), (3, p), (0, 0)])) (hs6 : S 6 = some (0, 8, [(3, 7), (3, 9), (3, 11), (3, 13), (3, 15), (3, 17), (3, 19), (3, 21), (3, 22), (3, 1), (0, 0), (0, 0), (0, 0)])) {w : Int} {M : zM} {Q : Int → zM → Prop} {X : zM → Prop} (h : zt_X2_putString l s0 G ca d C S (zw s0 ca C S M) p w M Q X) : zm_X2_putString l s0 G ca d C S  w M Q X := by
  refine z_met (lv := [(0, zv s0 2 25), (1, zv s0 0 w)]) Γ kk_X2_putString rfl (show (lg_sl [zv s0 2 25, zv s0 0 w]).length ≤ 2 from by simp only [zn_0, zn_2, show (lg_sl []).length = 0 from rfl]; omega) (show lv_args 0 [zv s0 2 25, zv s0 0 w] = [(0, zv s0 2 25), (1, zv s0 0 w)] from by rw [zl_2, zl_0]; rfl) ?_
  unfold zt_X2_putString at h
  refine z_aload_n dX2_putString_0 rfl (j := 0) rfl ?_
  refine z_getc Γ kf_RX2_19 dX2_putString_1 (by decide) hs25 rfl ?_
  refine z_callV Γ kk_X6_defaults kc_RX2_23 (As := []) (z_X6_defaults (d := d - 1) Γ hok hp (M := M) (Q := fun v9 M9 => v9 = (p + 23) ∧ M9 = M) (X := X) (show _ ∧ _ from ⟨rfl, rfl⟩)) (by omega) (by decide) (show (parseMethodDescriptor yX6_defaults.desc).map (fun q => q.parameters.length) = some 0 by decide +kernel) hok (Nat.zero_le _) dX2_putString_4 hp.1 hp.2.1 rfl rfl (fun _ h9 => nomatch h9) ?_
  rintro v9 M9 ⟨e9, e8⟩
  rw [e9, e8]
  clear e9 e8 v9 M9
  show rt_Go _ _ _ _ _ _ _ _ _ _ _ _ 7 [(0, zv s0 2 25), (1, zv s0 0 w)] [zv s0 2 ((p + 23))] (zw s0 ca C S M)
  refine z_aload_n dX2_putString_7 rfl (j := 0) rfl ?_
  refine z_getc Γ kf_RX2_15 dX2_putString_8 (by decide) hs25 rfl ?_
  refine z_callV Γ kk_X8_letters kc_RX2_114 (As := []) (z_X8_letters (d := d - 1) Γ hok hs hs6 (M := M) (Q := fun v9 M9 => v9 = 22 ∧ M9 = M) (X := X) (show _ ∧ _ from ⟨rfl, rfl⟩)) (by omega) (by decide) (show (parseMethodDescriptor yX8_letters.desc).map (fun q => q.parameters.length) = some 0 by decide +kernel) hok (by simp only [List.map, zv_cat0, zv_cat1, zv_cat2, List.sum_cons, List.sum_nil]; decide) dX2_putString_11 (by decide) hs6 rfl rfl (fun _ h9 => nomatch h9) ?_
  rintro v9 M9 ⟨e9, e8⟩
  rw [e9, e8]
  clear e9 e8 v9 M9
  show rt_Go _ _ _ _ _ _ _ _ _ _ _ _ 14 [(0, zv s0 2 25), (1, zv s0 0 w)] [zv s0 2 22, zv s0 2 ((p + 23))] (zw s0 ca C S M)
  refine z_iload_n dX2_putString_14 rfl (j := 1) rfl ?_
  refine z_callV Γ kk_X0_at kc_RX2_117 (As := [zv s0 0 w]) (k_X0_at (d := d - 1) Γ hok (⟨by decide, by decide, by decide, hs 22 _ rfl, hs 23 _ rfl⟩ : zCe S 22 23 4096) (M := M) (Q := fun v9 M9 => v9 = (zat M 23 4096 w) ∧ M9 = M) (X := X) (show _ ∧ _ from ⟨rfl, rfl⟩)) (by omega) (by decide) (show (parseMethodDescriptor yX0_at.desc).map (fun q => q.parameters.length) = some 1 by decide +kernel) hok (by simp only [List.map, zv_cat0, zv_cat1, zv_cat2, List.sum_cons, List.sum_nil]; decide) dX2_putString_15 (⟨by decide, by decide, by decide, hs 22 _ rfl, hs 23 _ rfl⟩ : zCe S 22 23 4096).1 (⟨by decide, by decide, by decide, hs 22 _ rfl, hs 23 _ rfl⟩ : zCe S 22 23 4096).2.2.2.1 rfl rfl (fun _ h9 => nomatch h9) ?_
  rintro v9 M9 ⟨e9, e8⟩
  rw [e9, e8]
  clear e9 e8 v9 M9
  show rt_Go _ _ _ _ _ _ _ _ _ _ _ _ 18 [(0, zv s0 2 25), (1, zv s0 0 w)] [zv s0 0 ((zat M 23 4096 w)), zv s0 2 ((p + 23))] (zw s0 ca C S M)
  refine z_i2l dX2_putString_18 ?_
  obtain ⟨ad1, nd1, hk0, h⟩ := h
  refine z_callV Γ kk_X0_addVarint kc_RX2_54 (As := [zv s0 1 (w32 ((zat M 23 4096 w)))]) h (by omega) (by decide) (show (parseMethodDescriptor yX0_addVarint.desc).map (fun q => q.parameters.length) = some 1 by decide +kernel) hok (Nat.zero_le _) dX2_putString_19 (hk0 : zCe S ((p + 23)) ad1 nd1).1 (hk0 : zCe S ((p + 23)) ad1 nd1).2.2.2.1 rfl rfl (fun _ h9 => nomatch h9) ?_
  clear h
  intro r19 M19 h
  show rt_Go _ _ _ _ _ _ _ _ _ _ _ _ 22 [(0, zv s0 2 25), (1, zv s0 0 w)] [zv s0 0 r19] (zw s0 ca C S M19)
  refine z_pop0 dX2_putString_22 ?_
  refine z_aload_n dX2_putString_23 rfl (j := 0) rfl ?_
  refine z_iload_n dX2_putString_24 rfl (j := 1) rfl ?_
  refine z_callV Γ kk_X2_putLetters kc_RX2_120 (As := [zv s0 0 w]) h (by omega) (by decide) (show (parseMethodDescriptor yX2_putLetters.desc).map (fun q => q.parameters.length) = some 1 by decide +kernel) hok (Nat.zero_le _) dX2_putString_25 (by decide) hs25 rfl rfl (fun _ h9 => nomatch h9) ?_
  clear h
  intro r25 M25 h
  show rt_Go _ _ _ _ _ _ _ _ _ _ _ _ 28 [(0, zv s0 2 25), (1, zv s0 0 w)] [] (zw s0 ca C S M25)
  exact z_vret dX2_putString_28 rfl h

def zt_X2_suits (l : Launch) (s0 : State) (G : va_G) (ca : Nat → ClassId) (d : Nat) (C : Nat × Nat) (S : zS) (w0 : rt_Wd) (p : Int) (v : Int) (s : Int) (M : zM) (Q : Int → zM → Prop) (X : zM → Prop) : Prop :=
  zIf (w32 (((zat M (p + 2) 134 s))) = 0) (zIf (w32 (((zat M 8 2073 v))) = 7) (Q 1 M) (Q 0 M)) (zIf (w32 (((zat M (p + 2) 134 s))) = 1) (zIf (w32 (((zat M 8 2073 v))) = 5) (Q 1 M) (zIf (w32 (((zat M 8 2073 v))) = 6) (Q 1 M) (Q 0 M))) (zIf (w32 (((zat M (p + 2) 134 s))) = 2) (zIf (w32 (((zat M 8 2073 v))) = 4) (zIf (w64 ((zf_X8_number M v)) = w64 (w32 ((zf_X8_number M v)))) (Q 1 M) (Q 0 M)) (Q 0 M)) (zIf (w32 (((zat M (p + 2) 134 s))) = 3) (zIf (w32 (((zat M 8 2073 v))) = 4) (Q 1 M) (Q 0 M)) (zIf (w32 (((zat M (p + 2) 134 s))) = 4) (zIf (w32 (((zat M 8 2073 v))) = 3) (Q 1 M) (Q 0 M)) (zIf (w32 (((zat M (p + 2) 134 s))) = 5) (zIf (w32 (((zat M 8 2073 v))) = 3) (Q 1 M) (Q 0 M)) (zIf (w32 (((zat M (p + 2) 134 s))) = 9) (zIf (w32 (((zat M 8 2073 v))) = 3) (zIf (w32 (((zat M 23 4096 ((zat M 18 2073 v))))) = w32 (((zat M (p + 6) 134 s)))) (Q 1 M) (Q 0 M)) (Q 0 M)) (zIf (w32 (((zat M (p + 2) 134 s))) = 10) (zIf (w32 (((zat M 8 2073 v))) = 3) (zm_X6_partNamed l s0 G ca (d - 1) C S p s 22 (((zat M 18 2073 v))) M (fun r215 M215 => zIf (w32 r215 = ((-1))) (Q 0 M215) (Q 1 M215)) X) (Q 0 M)) (Q 0 M))))))))
set_option maxRecDepth 100000 in
theorem z_X2_suits {l : Launch} {s0 : State} {a0 : Array Value} {G : va_G} {ca : Nat → ClassId} (Γ : rt_Γ l s0 a0 G ca) {d : Nat} {C : Nat × Nat} {S : zS} (hd : 2 ≤ d) (hok : zok C) {p : Int} (hs : zSok S) (hp : zSc S p) (hs25 : S 25 = some (0, 2, [(3, 6), (3, p), (0, 0)])) (hs6 : S 6 = some (0, 8, [(3, 7), (3, 9), (3, 11), (3, 13), (3, 15), (3, 17), (3, 19), (3, 21), (3, 22), (3, 1), (0, 0), (0, 0), (0, 0)])) {v : Int} {s : Int} {M : zM} {Q : Int → zM → Prop} {X : zM → Prop} (h : zt_X2_suits l s0 G ca d C S (zw s0 ca C S M) p v s M Q X) : zm_X2_suits l s0 G ca d C S  v s M Q X := by
  refine z_met (lv := [(0, zv s0 2 25), (1, zv s0 0 v), (2, zv s0 0 s)]) Γ kk_X2_suits rfl (show (lg_sl [zv s0 2 25, zv s0 0 v, zv s0 0 s]).length ≤ 4 from by simp only [zn_0, zn_2, show (lg_sl []).length = 0 from rfl]; omega) (show lv_args 0 [zv s0 2 25, zv s0 0 v, zv s0 0 s] = [(0, zv s0 2 25), (1, zv s0 0 v), (2, zv s0 0 s)] from by rw [zl_2, zl_0, zl_0]; rfl) ?_
  unfold zt_X2_suits at h
  refine z_aload_n dX2_suits_0 rfl (j := 0) rfl ?_
  refine z_getc Γ kf_RX2_15 dX2_suits_1 (by decide) hs25 rfl ?_
  refine z_iload_n dX2_suits_4 rfl (j := 1) rfl ?_
  refine z_callV Γ kk_X8_kind kc_RX2_81 (As := [zv s0 0 v]) (z_X8_kind (d := d - 1) Γ (by omega) hok hs hs6 (M := M) (Q := fun v9 M9 => v9 = ((zat M 8 2073 v)) ∧ M9 = M) (X := X) (show _ ∧ _ from ⟨rfl, rfl⟩)) (by omega) (by decide) (show (parseMethodDescriptor yX8_kind.desc).map (fun q => q.parameters.length) = some 1 by decide +kernel) hok (Nat.zero_le _) dX2_suits_5 (by decide) hs6 rfl rfl (fun _ h9 => nomatch h9) ?_
  rintro v9 M9 ⟨e9, e8⟩
  rw [e9, e8]
  clear e9 e8 v9 M9
  show rt_Go _ _ _ _ _ _ _ _ _ _ _ _ 8 [(0, zv s0 2 25), (1, zv s0 0 v), (2, zv s0 0 s)] [zv s0 0 (((zat M 8 2073 v)))] (zw s0 ca C S M)
  refine z_istore_n (i := 3) (lv' := [(3, zv s0 0 (((zat M 8 2073 v)))), (0, zv s0 2 25), (1, zv s0 0 v), (2, zv s0 0 s)]) dX2_suits_8 rfl (by decide) (by simp [zv_cat0, zv_cat1, zv_cat2, zv_cats]) ?_
  refine z_aload_n dX2_suits_9 rfl (j := 1) rfl ?_
  refine z_getc Γ kf_RX2_19 dX2_suits_10 (by decide) hs25 rfl ?_
  refine z_iload_n dX2_suits_13 rfl (j := 3) rfl ?_
  refine z_callV Γ kk_X6_kind kc_RX2_51 (As := [zv s0 0 s]) (z_X6_kind (d := d - 1) Γ (by omega) hok hp (M := M) (Q := fun v9 M9 => v9 = ((zat M (p + 2) 134 s)) ∧ M9 = M) (X := X) (show _ ∧ _ from ⟨rfl, rfl⟩)) (by omega) (by decide) (show (parseMethodDescriptor yX6_kind.desc).map (fun q => q.parameters.length) = some 1 by decide +kernel) hok (Nat.zero_le _) dX2_suits_14 hp.1 hp.2.1 rfl rfl (fun _ h9 => nomatch h9) ?_
  rintro v9 M9 ⟨e9, e8⟩
  rw [e9, e8]
  clear e9 e8 v9 M9
  show rt_Go _ _ _ _ _ _ _ _ _ _ _ _ 17 [(3, zv s0 0 (((zat M 8 2073 v)))), (0, zv s0 2 25), (1, zv s0 0 v), (2, zv s0 0 s)] [zv s0 0 (((zat M (p + 2) 134 s)))] (zw s0 ca C S M)
  by_cases c17_0 : w32 (((zat M (p + 2) 134 s))) = 0
  · replace h := h.1 c17_0
    refine z_tin c17_0 dX2_suits_17 (by decide) (off := 59) (tgt := 76) (by decide) (by decide) ?_
    refine z_iload_n dX2_suits_76 rfl (j := 0) rfl ?_
    refine z_bipush dX2_suits_77 (by decide) ?_
    refine z_icmp_ne (tgt := 86) (x' := w32 (((zat M 8 2073 v)))) (y' := 7) rfl (by decide) dX2_suits_79 (by decide) (fun c79 => ?_) (fun c79 => ?_)
    · replace h := h.2 c79
      refine z_iconst dX2_suits_86 ?_
      exact z_zret dX2_suits_87 rfl (by decide) h
    · replace h := h.1 c79
      refine z_iconst dX2_suits_82 ?_
      refine rt_goto (tgt := 87) dX2_suits_83 (by decide) ?_
      exact z_zret dX2_suits_87 rfl (by decide) h
  replace h := h.2 c17_0
  by_cases c17_1 : w32 (((zat M (p + 2) 134 s))) = 1
  · replace h := h.1 c17_1
    refine z_tin c17_1 dX2_suits_17 (by decide) (off := 71) (tgt := 88) (by decide) (by decide) ?_
    refine z_iload_n dX2_suits_88 rfl (j := 0) rfl ?_
    refine z_iconst dX2_suits_89 ?_
    refine z_icmp_eq (tgt := 99) (x' := w32 (((zat M 8 2073 v)))) (y' := 5) rfl (by decide) dX2_suits_90 (by decide) (fun c90 => ?_) (fun c90 => ?_)
    · replace h := h.1 c90
      refine z_iconst dX2_suits_99 ?_
      refine rt_goto (tgt := 104) dX2_suits_100 (by decide) ?_
      exact z_zret dX2_suits_104 rfl (by decide) h
    · replace h := h.2 c90
      refine z_iload_n dX2_suits_93 rfl (j := 0) rfl ?_
      refine z_bipush dX2_suits_94 (by decide) ?_
      refine z_icmp_ne (tgt := 103) (x' := w32 (((zat M 8 2073 v)))) (y' := 6) rfl (by decide) dX2_suits_96 (by decide) (fun c96 => ?_) (fun c96 => ?_)
      · replace h := h.2 c96
        refine z_iconst dX2_suits_103 ?_
        exact z_zret dX2_suits_104 rfl (by decide) h
      · replace h := h.1 c96
        refine z_iconst dX2_suits_99 ?_
        refine rt_goto (tgt := 104) dX2_suits_100 (by decide) ?_
        exact z_zret dX2_suits_104 rfl (by decide) h
  replace h := h.2 c17_1
  by_cases c17_2 : w32 (((zat M (p + 2) 134 s))) = 2
  · replace h := h.1 c17_2
    refine z_tin c17_2 dX2_suits_17 (by decide) (off := 88) (tgt := 105) (by decide) (by decide) ?_
    refine z_iload_n dX2_suits_105 rfl (j := 0) rfl ?_
    refine z_iconst dX2_suits_106 ?_
    refine z_icmp_ne (tgt := 136) (x' := w32 (((zat M 8 2073 v)))) (y' := 4) rfl (by decide) dX2_suits_107 (by decide) (fun c107 => ?_) (fun c107 => ?_)
    · replace h := h.2 c107
      refine z_iconst dX2_suits_136 ?_
      exact z_zret dX2_suits_137 rfl (by decide) h
    · replace h := h.1 c107
      refine z_aload_n dX2_suits_110 rfl (j := 1) rfl ?_
      refine z_getc Γ kf_RX2_15 dX2_suits_111 (by decide) hs25 rfl ?_
      refine z_iload_n dX2_suits_114 rfl (j := 2) rfl ?_
      refine z_callV Γ kk_X8_number kc_RX2_127 (As := [zv s0 0 v]) (k_X8_number (d := d - 1) Γ hok hs hs6 (M := M) (Q := fun v9 M9 => v9 = (zf_X8_number M v) ∧ M9 = M) (X := X) (show _ ∧ _ from ⟨rfl, rfl⟩)) (by omega) (by decide) (show (parseMethodDescriptor yX8_number.desc).map (fun q => q.parameters.length) = some 1 by decide +kernel) hok (Nat.zero_le _) dX2_suits_115 (by decide) hs6 rfl rfl (fun _ h9 => nomatch h9) ?_
      rintro v9 M9 ⟨e9, e8⟩
      rw [e9, e8]
      clear e9 e8 v9 M9
      show rt_Go _ _ _ _ _ _ _ _ _ _ _ _ 118 [(3, zv s0 0 (((zat M 8 2073 v)))), (0, zv s0 2 25), (1, zv s0 0 v), (2, zv s0 0 s)] [zv s0 1 ((zf_X8_number M v))] (zw s0 ca C S M)
      refine z_aload_n dX2_suits_118 rfl (j := 1) rfl ?_
      refine z_getc Γ kf_RX2_15 dX2_suits_119 (by decide) hs25 rfl ?_
      refine z_iload_n dX2_suits_122 rfl (j := 2) rfl ?_
      refine z_callV Γ kk_X8_number kc_RX2_127 (As := [zv s0 0 v]) (k_X8_number (d := d - 1) Γ hok hs hs6 (M := M) (Q := fun v9 M9 => v9 = (zf_X8_number M v) ∧ M9 = M) (X := X) (show _ ∧ _ from ⟨rfl, rfl⟩)) (by omega) (by decide) (show (parseMethodDescriptor yX8_number.desc).map (fun q => q.parameters.length) = some 1 by decide +kernel) hok (by simp only [List.map, zv_cat0, zv_cat1, zv_cat2, List.sum_cons, List.sum_nil]; decide) dX2_suits_123 (by decide) hs6 rfl rfl (fun _ h9 => nomatch h9) ?_
      rintro v9 M9 ⟨e9, e8⟩
      rw [e9, e8]
      clear e9 e8 v9 M9
      show rt_Go _ _ _ _ _ _ _ _ _ _ _ _ 126 [(3, zv s0 0 (((zat M 8 2073 v)))), (0, zv s0 2 25), (1, zv s0 0 v), (2, zv s0 0 s)] [zv s0 1 ((zf_X8_number M v)), zv s0 1 ((zf_X8_number M v))] (zw s0 ca C S M)
      refine z_l2i dX2_suits_126 ?_
      refine z_i2l dX2_suits_127 ?_
      refine z_lif_ne (tgt := 136) (x' := w64 ((zf_X8_number M v))) (y' := w64 (w32 ((zf_X8_number M v)))) rfl rfl dX2_suits_128 dX2_suits_129 (by decide) (fun c128 => ?_) (fun c128 => ?_)
      · replace h := h.2 c128
        refine z_iconst dX2_suits_136 ?_
        exact z_zret dX2_suits_137 rfl (by decide) h
      · replace h := h.1 c128
        refine z_iconst dX2_suits_132 ?_
        refine rt_goto (tgt := 137) dX2_suits_133 (by decide) ?_
        exact z_zret dX2_suits_137 rfl (by decide) h
  replace h := h.2 c17_2
  by_cases c17_3 : w32 (((zat M (p + 2) 134 s))) = 3
  · replace h := h.1 c17_3
    refine z_tin c17_3 dX2_suits_17 (by decide) (off := 121) (tgt := 138) (by decide) (by decide) ?_
    refine z_iload_n dX2_suits_138 rfl (j := 0) rfl ?_
    refine z_iconst dX2_suits_139 ?_
    refine z_icmp_ne (tgt := 147) (x' := w32 (((zat M 8 2073 v)))) (y' := 4) rfl (by decide) dX2_suits_140 (by decide) (fun c140 => ?_) (fun c140 => ?_)
    · replace h := h.2 c140
      refine z_iconst dX2_suits_147 ?_
      exact z_zret dX2_suits_148 rfl (by decide) h
    · replace h := h.1 c140
      refine z_iconst dX2_suits_143 ?_
      refine rt_goto (tgt := 148) dX2_suits_144 (by decide) ?_
      exact z_zret dX2_suits_148 rfl (by decide) h
  replace h := h.2 c17_3
  by_cases c17_4 : w32 (((zat M (p + 2) 134 s))) = 4
  · replace h := h.1 c17_4
    refine z_tin c17_4 dX2_suits_17 (by decide) (off := 132) (tgt := 149) (by decide) (by decide) ?_
    refine z_iload_n dX2_suits_149 rfl (j := 0) rfl ?_
    refine z_iconst dX2_suits_150 ?_
    refine z_icmp_ne (tgt := 158) (x' := w32 (((zat M 8 2073 v)))) (y' := 3) rfl (by decide) dX2_suits_151 (by decide) (fun c151 => ?_) (fun c151 => ?_)
    · replace h := h.2 c151
      refine z_iconst dX2_suits_158 ?_
      exact z_zret dX2_suits_159 rfl (by decide) h
    · replace h := h.1 c151
      refine z_iconst dX2_suits_154 ?_
      refine rt_goto (tgt := 159) dX2_suits_155 (by decide) ?_
      exact z_zret dX2_suits_159 rfl (by decide) h
  replace h := h.2 c17_4
  by_cases c17_5 : w32 (((zat M (p + 2) 134 s))) = 5
  · replace h := h.1 c17_5
    refine z_tin c17_5 dX2_suits_17 (by decide) (off := 132) (tgt := 149) (by decide) (by decide) ?_
    refine z_iload_n dX2_suits_149 rfl (j := 0) rfl ?_
    refine z_iconst dX2_suits_150 ?_
    refine z_icmp_ne (tgt := 158) (x' := w32 (((zat M 8 2073 v)))) (y' := 3) rfl (by decide) dX2_suits_151 (by decide) (fun c151 => ?_) (fun c151 => ?_)
    · replace h := h.2 c151
      refine z_iconst dX2_suits_158 ?_
      exact z_zret dX2_suits_159 rfl (by decide) h
    · replace h := h.1 c151
      refine z_iconst dX2_suits_154 ?_
      refine rt_goto (tgt := 159) dX2_suits_155 (by decide) ?_
      exact z_zret dX2_suits_159 rfl (by decide) h
  replace h := h.2 c17_5
  by_cases c17_9 : w32 (((zat M (p + 2) 134 s))) = 9
  · replace h := h.1 c17_9
    refine z_tin c17_9 dX2_suits_17 (by decide) (off := 143) (tgt := 160) (by decide) (by decide) ?_
    refine z_iload_n dX2_suits_160 rfl (j := 0) rfl ?_
    refine z_iconst dX2_suits_161 ?_
    refine z_icmp_ne (tgt := 188) (x' := w32 (((zat M 8 2073 v)))) (y' := 3) rfl (by decide) dX2_suits_162 (by decide) (fun c162 => ?_) (fun c162 => ?_)
    · replace h := h.2 c162
      refine z_iconst dX2_suits_188 ?_
      exact z_zret dX2_suits_189 rfl (by decide) h
    · replace h := h.1 c162
      refine z_aload_n dX2_suits_165 rfl (j := 1) rfl ?_
      refine z_getc Γ kf_RX2_15 dX2_suits_166 (by decide) hs25 rfl ?_
      refine z_iload_n dX2_suits_169 rfl (j := 2) rfl ?_
      refine z_callV Γ kk_X8_length kc_RX2_131 (As := [zv s0 0 v]) (z_X8_length (d := d - 1) Γ (by omega) hok hs hs6 (M := M) (Q := fun v9 M9 => v9 = ((zat M 23 4096 ((zat M 18 2073 v)))) ∧ M9 = M) (X := X) (show _ ∧ _ from ⟨rfl, rfl⟩)) (by omega) (by decide) (show (parseMethodDescriptor yX8_length.desc).map (fun q => q.parameters.length) = some 1 by decide +kernel) hok (Nat.zero_le _) dX2_suits_170 (by decide) hs6 rfl rfl (fun _ h9 => nomatch h9) ?_
      rintro v9 M9 ⟨e9, e8⟩
      rw [e9, e8]
      clear e9 e8 v9 M9
      show rt_Go _ _ _ _ _ _ _ _ _ _ _ _ 173 [(3, zv s0 0 (((zat M 8 2073 v)))), (0, zv s0 2 25), (1, zv s0 0 v), (2, zv s0 0 s)] [zv s0 0 (((zat M 23 4096 ((zat M 18 2073 v)))))] (zw s0 ca C S M)
      refine z_aload_n dX2_suits_173 rfl (j := 1) rfl ?_
      refine z_getc Γ kf_RX2_19 dX2_suits_174 (by decide) hs25 rfl ?_
      refine z_iload_n dX2_suits_177 rfl (j := 3) rfl ?_
      refine z_callV Γ kk_X6_fixedSize kc_RX2_134 (As := [zv s0 0 s]) (z_X6_fixedSize (d := d - 1) Γ (by omega) hok hp (M := M) (Q := fun v9 M9 => v9 = ((zat M (p + 6) 134 s)) ∧ M9 = M) (X := X) (show _ ∧ _ from ⟨rfl, rfl⟩)) (by omega) (by decide) (show (parseMethodDescriptor yX6_fixedSize.desc).map (fun q => q.parameters.length) = some 1 by decide +kernel) hok (by simp only [List.map, zv_cat0, zv_cat1, zv_cat2, List.sum_cons, List.sum_nil]; decide) dX2_suits_178 hp.1 hp.2.1 rfl rfl (fun _ h9 => nomatch h9) ?_
      rintro v9 M9 ⟨e9, e8⟩
      rw [e9, e8]
      clear e9 e8 v9 M9
      show rt_Go _ _ _ _ _ _ _ _ _ _ _ _ 181 [(3, zv s0 0 (((zat M 8 2073 v)))), (0, zv s0 2 25), (1, zv s0 0 v), (2, zv s0 0 s)] [zv s0 0 (((zat M (p + 6) 134 s))), zv s0 0 (((zat M 23 4096 ((zat M 18 2073 v)))))] (zw s0 ca C S M)
      refine z_icmp_ne (tgt := 188) (x' := w32 (((zat M 23 4096 ((zat M 18 2073 v)))))) (y' := w32 (((zat M (p + 6) 134 s)))) rfl rfl dX2_suits_181 (by decide) (fun c181 => ?_) (fun c181 => ?_)
      · replace h := h.2 c181
        refine z_iconst dX2_suits_188 ?_
        exact z_zret dX2_suits_189 rfl (by decide) h
      · replace h := h.1 c181
        refine z_iconst dX2_suits_184 ?_
        refine rt_goto (tgt := 189) dX2_suits_185 (by decide) ?_
        exact z_zret dX2_suits_189 rfl (by decide) h
  replace h := h.2 c17_9
  by_cases c17_10 : w32 (((zat M (p + 2) 134 s))) = 10
  · replace h := h.1 c17_10
    refine z_tin c17_10 dX2_suits_17 (by decide) (off := 173) (tgt := 190) (by decide) (by decide) ?_
    refine z_iload_n dX2_suits_190 rfl (j := 0) rfl ?_
    refine z_iconst dX2_suits_191 ?_
    refine z_icmp_ne (tgt := 226) (x' := w32 (((zat M 8 2073 v)))) (y' := 3) rfl (by decide) dX2_suits_192 (by decide) (fun c192 => ?_) (fun c192 => ?_)
    · replace h := h.2 c192
      refine z_iconst dX2_suits_226 ?_
      exact z_zret dX2_suits_227 rfl (by decide) h
    · replace h := h.1 c192
      refine z_aload_n dX2_suits_195 rfl (j := 1) rfl ?_
      refine z_getc Γ kf_RX2_19 dX2_suits_196 (by decide) hs25 rfl ?_
      refine z_iload_n dX2_suits_199 rfl (j := 3) rfl ?_
      refine z_aload_n dX2_suits_200 rfl (j := 1) rfl ?_
      refine z_getc Γ kf_RX2_15 dX2_suits_201 (by decide) hs25 rfl ?_
      refine z_callV Γ kk_X8_letters kc_RX2_114 (As := []) (z_X8_letters (d := d - 1) Γ hok hs hs6 (M := M) (Q := fun v9 M9 => v9 = 22 ∧ M9 = M) (X := X) (show _ ∧ _ from ⟨rfl, rfl⟩)) (by omega) (by decide) (show (parseMethodDescriptor yX8_letters.desc).map (fun q => q.parameters.length) = some 0 by decide +kernel) hok (by simp only [List.map, zv_cat0, zv_cat1, zv_cat2, List.sum_cons, List.sum_nil]; decide) dX2_suits_204 (by decide) hs6 rfl rfl (fun _ h9 => nomatch h9) ?_
      rintro v9 M9 ⟨e9, e8⟩
      rw [e9, e8]
      clear e9 e8 v9 M9
      show rt_Go _ _ _ _ _ _ _ _ _ _ _ _ 207 [(3, zv s0 0 (((zat M 8 2073 v)))), (0, zv s0 2 25), (1, zv s0 0 v), (2, zv s0 0 s)] [zv s0 2 22, zv s0 0 s, zv s0 2 p] (zw s0 ca C S M)
      refine z_aload_n dX2_suits_207 rfl (j := 1) rfl ?_
      refine z_getc Γ kf_RX2_15 dX2_suits_208 (by decide) hs25 rfl ?_
      refine z_iload_n dX2_suits_211 rfl (j := 2) rfl ?_
      refine z_callV Γ kk_X8_word kc_RX2_137 (As := [zv s0 0 v]) (z_X8_word (d := d - 1) Γ (by omega) hok hs hs6 (M := M) (Q := fun v9 M9 => v9 = ((zat M 18 2073 v)) ∧ M9 = M) (X := X) (show _ ∧ _ from ⟨rfl, rfl⟩)) (by omega) (by decide) (show (parseMethodDescriptor yX8_word.desc).map (fun q => q.parameters.length) = some 1 by decide +kernel) hok (by simp only [List.map, zv_cat0, zv_cat1, zv_cat2, List.sum_cons, List.sum_nil]; decide) dX2_suits_212 (by decide) hs6 rfl rfl (fun _ h9 => nomatch h9) ?_
      rintro v9 M9 ⟨e9, e8⟩
      rw [e9, e8]
      clear e9 e8 v9 M9
      show rt_Go _ _ _ _ _ _ _ _ _ _ _ _ 215 [(3, zv s0 0 (((zat M 8 2073 v)))), (0, zv s0 2 25), (1, zv s0 0 v), (2, zv s0 0 s)] [zv s0 0 (((zat M 18 2073 v))), zv s0 2 22, zv s0 0 s, zv s0 2 p] (zw s0 ca C S M)
      refine z_callV Γ kk_X6_partNamed kc_RX2_140 (As := [zv s0 0 s, zv s0 2 22, zv s0 0 (((zat M 18 2073 v)))]) h (by omega) (by decide) (show (parseMethodDescriptor yX6_partNamed.desc).map (fun q => q.parameters.length) = some 3 by decide +kernel) hok (Nat.zero_le _) dX2_suits_215 hp.1 hp.2.1 rfl rfl (fun _ h9 => nomatch h9) ?_
      clear h
      intro r215 M215 h
      show rt_Go _ _ _ _ _ _ _ _ _ _ _ _ 218 [(3, zv s0 0 (((zat M 8 2073 v)))), (0, zv s0 2 25), (1, zv s0 0 v), (2, zv s0 0 s)] [zv s0 0 r215] (zw s0 ca C S M215)
      refine z_iconst dX2_suits_218 ?_
      refine z_icmp_eq (tgt := 226) (x' := w32 r215) (y' := ((-1))) rfl (by decide) dX2_suits_219 (by decide) (fun c219 => ?_) (fun c219 => ?_)
      · replace h := h.1 c219
        refine z_iconst dX2_suits_226 ?_
        exact z_zret dX2_suits_227 rfl (by decide) h
      · replace h := h.2 c219
        refine z_iconst dX2_suits_222 ?_
        refine rt_goto (tgt := 227) dX2_suits_223 (by decide) ?_
        exact z_zret dX2_suits_227 rfl (by decide) h
  replace h := h.2 c17_10
  by_cases c17_6 : w32 (((zat M (p + 2) 134 s))) = 6
  · refine z_tin c17_6 dX2_suits_17 (by decide) (off := 211) (tgt := 228) (by decide) (by decide) ?_
    refine z_iconst dX2_suits_228 ?_
    exact z_zret dX2_suits_229 rfl (by decide) h
  by_cases c17_7 : w32 (((zat M (p + 2) 134 s))) = 7
  · refine z_tin c17_7 dX2_suits_17 (by decide) (off := 211) (tgt := 228) (by decide) (by decide) ?_
    refine z_iconst dX2_suits_228 ?_
    exact z_zret dX2_suits_229 rfl (by decide) h
  by_cases c17_8 : w32 (((zat M (p + 2) 134 s))) = 8
  · refine z_tin c17_8 dX2_suits_17 (by decide) (off := 211) (tgt := 228) (by decide) (by decide) ?_
    refine z_iconst dX2_suits_228 ?_
    exact z_zret dX2_suits_229 rfl (by decide) h
  refine z_tout dX2_suits_17 (show w32 (((zat M (p + 2) 134 s))) < 0 ∨ 10 < w32 (((zat M (p + 2) 134 s))) from by omega) (tgt := 228) (by decide) ?_
  refine z_iconst dX2_suits_228 ?_
  exact z_zret dX2_suits_229 rfl (by decide) h

def zt_X2_putPlain (l : Launch) (s0 : State) (G : va_G) (ca : Nat → ClassId) (d : Nat) (C : Nat × Nat) (S : zS) (w0 : rt_Wd) (p : Int) (v : Int) (s : Int) (M : zM) (Q : Int → zM → Prop) (X : zM → Prop) : Prop :=
  zIf (w32 (((zat M (p + 2) 134 s))) = 1) (zIf (w32 (((zat M 8 2073 v))) = 5) (∃ (ad2 : Int) (nd2 : Nat), zCe S ((p + 23)) ad2 nd2 ∧ (Q 0 ((zadd M ((p + 23)) ad2 nd2 1)))) (∃ (ad1 : Int) (nd1 : Nat), zCe S ((p + 23)) ad1 nd1 ∧ (Q 0 ((zadd M ((p + 23)) ad1 nd1 0))))) (zIf (w32 (((zat M (p + 2) 134 s))) = 2) (∃ (ad3 : Int) (nd3 : Nat), zCe S ((p + 23)) ad3 nd3 ∧ (zm_X0_addVarint l s0 G ca (d - 1) C S ((p + 23)) ((zf_X8_number M v)) M (fun r104 M104 => Q 0 M104) X)) (zIf (w32 (((zat M (p + 2) 134 s))) = 3) (∃ (ad4 : Int) (nd4 : Nat), zCe S ((p + 23)) ad4 nd4 ∧ (zm_X0_addVarint l s0 G ca (d - 1) C S ((p + 23)) ((zf_X8_number M v)) M (fun r104 M104 => Q 0 M104) X)) (zIf (w32 (((zat M (p + 2) 134 s))) = 4) (zm_X2_putString l s0 G ca (d - 1) C S (((zat M 18 2073 v))) M (fun r118 M118 => Q 0 M118) X) (zIf (w32 (((zat M (p + 2) 134 s))) = 5) (zm_X2_putString l s0 G ca (d - 1) C S (((zat M 18 2073 v))) M (fun r118 M118 => Q 0 M118) X) (zIf (w32 (((zat M (p + 2) 134 s))) = 9) (zm_X2_putLetters l s0 G ca (d - 1) C S (((zat M 18 2073 v))) M (fun r131 M131 => Q 0 M131) X) (zIf (w32 (((zat M (p + 2) 134 s))) = 10) (zm_X6_partNamed l s0 G ca (d - 1) C S p s 22 (((zat M 18 2073 v))) M (fun r156 M156 => ∃ (ad5 : Int) (nd5 : Nat), zCe S ((p + 23)) ad5 nd5 ∧ (zm_X0_addVarint l s0 G ca (d - 1) C S ((p + 23)) (w32 r156) M156 (fun r160 M160 => Q 0 M160) X)) X) (Q 0 M)))))))
set_option maxRecDepth 100000 in
theorem z_X2_putPlain {l : Launch} {s0 : State} {a0 : Array Value} {G : va_G} {ca : Nat → ClassId} (Γ : rt_Γ l s0 a0 G ca) {d : Nat} {C : Nat × Nat} {S : zS} (hd : 2 ≤ d) (hok : zok C) {p : Int} (hs : zSok S) (hp : zSc S p) (hs25 : S 25 = some (0, 2, [(3, 6), (3, p), (0, 0)])) (hs6 : S 6 = some (0, 8, [(3, 7), (3, 9), (3, 11), (3, 13), (3, 15), (3, 17), (3, 19), (3, 21), (3, 22), (3, 1), (0, 0), (0, 0), (0, 0)])) {v : Int} {s : Int} {M : zM} {Q : Int → zM → Prop} {X : zM → Prop} (h : zt_X2_putPlain l s0 G ca d C S (zw s0 ca C S M) p v s M Q X) : zm_X2_putPlain l s0 G ca d C S  v s M Q X := by
  refine z_met (lv := [(0, zv s0 2 25), (1, zv s0 0 v), (2, zv s0 0 s)]) Γ kk_X2_putPlain rfl (show (lg_sl [zv s0 2 25, zv s0 0 v, zv s0 0 s]).length ≤ 4 from by simp only [zn_0, zn_2, show (lg_sl []).length = 0 from rfl]; omega) (show lv_args 0 [zv s0 2 25, zv s0 0 v, zv s0 0 s] = [(0, zv s0 2 25), (1, zv s0 0 v), (2, zv s0 0 s)] from by rw [zl_2, zl_0, zl_0]; rfl) ?_
  unfold zt_X2_putPlain at h
  refine z_aload_n dX2_putPlain_0 rfl (j := 0) rfl ?_
  refine z_getc Γ kf_RX2_19 dX2_putPlain_1 (by decide) hs25 rfl ?_
  refine z_callV Γ kk_X6_defaults kc_RX2_23 (As := []) (z_X6_defaults (d := d - 1) Γ hok hp (M := M) (Q := fun v9 M9 => v9 = (p + 23) ∧ M9 = M) (X := X) (show _ ∧ _ from ⟨rfl, rfl⟩)) (by omega) (by decide) (show (parseMethodDescriptor yX6_defaults.desc).map (fun q => q.parameters.length) = some 0 by decide +kernel) hok (Nat.zero_le _) dX2_putPlain_4 hp.1 hp.2.1 rfl rfl (fun _ h9 => nomatch h9) ?_
  rintro v9 M9 ⟨e9, e8⟩
  rw [e9, e8]
  clear e9 e8 v9 M9
  show rt_Go _ _ _ _ _ _ _ _ _ _ _ _ 7 [(0, zv s0 2 25), (1, zv s0 0 v), (2, zv s0 0 s)] [zv s0 2 ((p + 23))] (zw s0 ca C S M)
  refine z_astore_n (i := 3) (lv' := [(3, zv s0 2 ((p + 23))), (0, zv s0 2 25), (1, zv s0 0 v), (2, zv s0 0 s)]) dX2_putPlain_7 rfl (by decide) (by simp [zv_cat0, zv_cat1, zv_cat2, zv_cats]) ?_
  refine z_aload_n dX2_putPlain_8 rfl (j := 1) rfl ?_
  refine z_getc Γ kf_RX2_19 dX2_putPlain_9 (by decide) hs25 rfl ?_
  refine z_iload_n dX2_putPlain_12 rfl (j := 3) rfl ?_
  refine z_callV Γ kk_X6_kind kc_RX2_51 (As := [zv s0 0 s]) (z_X6_kind (d := d - 1) Γ (by omega) hok hp (M := M) (Q := fun v9 M9 => v9 = ((zat M (p + 2) 134 s)) ∧ M9 = M) (X := X) (show _ ∧ _ from ⟨rfl, rfl⟩)) (by omega) (by decide) (show (parseMethodDescriptor yX6_kind.desc).map (fun q => q.parameters.length) = some 1 by decide +kernel) hok (Nat.zero_le _) dX2_putPlain_13 hp.1 hp.2.1 rfl rfl (fun _ h9 => nomatch h9) ?_
  rintro v9 M9 ⟨e9, e8⟩
  rw [e9, e8]
  clear e9 e8 v9 M9
  show rt_Go _ _ _ _ _ _ _ _ _ _ _ _ 16 [(3, zv s0 2 ((p + 23))), (0, zv s0 2 25), (1, zv s0 0 v), (2, zv s0 0 s)] [zv s0 0 (((zat M (p + 2) 134 s)))] (zw s0 ca C S M)
  by_cases c16_1 : w32 (((zat M (p + 2) 134 s))) = 1
  · replace h := h.1 c16_1
    refine z_tin c16_1 dX2_putPlain_16 (by decide) (off := 56) (tgt := 72) (by decide) (by decide) ?_
    refine z_aload_n dX2_putPlain_72 rfl (j := 0) rfl ?_
    refine z_aload_n dX2_putPlain_73 rfl (j := 1) rfl ?_
    refine z_getc Γ kf_RX2_15 dX2_putPlain_74 (by decide) hs25 rfl ?_
    refine z_iload_n dX2_putPlain_77 rfl (j := 2) rfl ?_
    refine z_callV Γ kk_X8_kind kc_RX2_81 (As := [zv s0 0 v]) (z_X8_kind (d := d - 1) Γ (by omega) hok hs hs6 (M := M) (Q := fun v9 M9 => v9 = ((zat M 8 2073 v)) ∧ M9 = M) (X := X) (show _ ∧ _ from ⟨rfl, rfl⟩)) (by omega) (by decide) (show (parseMethodDescriptor yX8_kind.desc).map (fun q => q.parameters.length) = some 1 by decide +kernel) hok (by simp only [List.map, zv_cat0, zv_cat1, zv_cat2, List.sum_cons, List.sum_nil]; decide) dX2_putPlain_78 (by decide) hs6 rfl rfl (fun _ h9 => nomatch h9) ?_
    rintro v9 M9 ⟨e9, e8⟩
    rw [e9, e8]
    clear e9 e8 v9 M9
    show rt_Go _ _ _ _ _ _ _ _ _ _ _ _ 81 [(3, zv s0 2 ((p + 23))), (0, zv s0 2 25), (1, zv s0 0 v), (2, zv s0 0 s)] [zv s0 0 (((zat M 8 2073 v))), zv s0 2 ((p + 23))] (zw s0 ca C S M)
    refine z_iconst dX2_putPlain_81 ?_
    refine z_icmp_ne (tgt := 89) (x' := w32 (((zat M 8 2073 v)))) (y' := 5) rfl (by decide) dX2_putPlain_82 (by decide) (fun c82 => ?_) (fun c82 => ?_)
    · replace h := h.2 c82
      refine z_iconst dX2_putPlain_89 ?_
      obtain ⟨ad1, nd1, hk0, h⟩ := h
      refine z_callV Γ kk_X0_add kc_RX2_143 (As := [zv s0 0 0]) (k_X0_add (d := d - 1) Γ hok (hk0 : zCe S ((p + 23)) ad1 nd1) (M := M) (Q := fun v9 M9 => v9 = (zaddv M ((p + 23)) nd1) ∧ M9 = (zadd M ((p + 23)) ad1 nd1 0)) (X := X) (show _ ∧ _ from ⟨rfl, rfl⟩)) (by omega) (by decide) (show (parseMethodDescriptor yX0_add.desc).map (fun q => q.parameters.length) = some 1 by decide +kernel) hok (Nat.zero_le _) dX2_putPlain_90 (hk0 : zCe S ((p + 23)) ad1 nd1).1 (hk0 : zCe S ((p + 23)) ad1 nd1).2.2.2.1 rfl rfl (fun _ h9 => nomatch h9) ?_
      rintro v9 M9 ⟨e9, e8⟩
      rw [e9, e8]
      clear e9 e8 v9 M9
      show rt_Go _ _ _ _ _ _ _ _ _ _ _ _ 93 [(3, zv s0 2 ((p + 23))), (0, zv s0 2 25), (1, zv s0 0 v), (2, zv s0 0 s)] [zv s0 0 ((zaddv M ((p + 23)) nd1))] (zw s0 ca C S ((zadd M ((p + 23)) ad1 nd1 0)))
      refine z_pop0 dX2_putPlain_93 ?_
      exact z_vret dX2_putPlain_94 rfl h
    · replace h := h.1 c82
      refine z_iconst dX2_putPlain_85 ?_
      refine rt_goto (tgt := 90) dX2_putPlain_86 (by decide) ?_
      obtain ⟨ad2, nd2, hk1, h⟩ := h
      refine z_callV Γ kk_X0_add kc_RX2_143 (As := [zv s0 0 1]) (k_X0_add (d := d - 1) Γ hok (hk1 : zCe S ((p + 23)) ad2 nd2) (M := M) (Q := fun v9 M9 => v9 = (zaddv M ((p + 23)) nd2) ∧ M9 = (zadd M ((p + 23)) ad2 nd2 1)) (X := X) (show _ ∧ _ from ⟨rfl, rfl⟩)) (by omega) (by decide) (show (parseMethodDescriptor yX0_add.desc).map (fun q => q.parameters.length) = some 1 by decide +kernel) hok (Nat.zero_le _) dX2_putPlain_90 (hk1 : zCe S ((p + 23)) ad2 nd2).1 (hk1 : zCe S ((p + 23)) ad2 nd2).2.2.2.1 rfl rfl (fun _ h9 => nomatch h9) ?_
      rintro v9 M9 ⟨e9, e8⟩
      rw [e9, e8]
      clear e9 e8 v9 M9
      show rt_Go _ _ _ _ _ _ _ _ _ _ _ _ 93 [(3, zv s0 2 ((p + 23))), (0, zv s0 2 25), (1, zv s0 0 v), (2, zv s0 0 s)] [zv s0 0 ((zaddv M ((p + 23)) nd2))] (zw s0 ca C S ((zadd M ((p + 23)) ad2 nd2 1)))
      refine z_pop0 dX2_putPlain_93 ?_
      exact z_vret dX2_putPlain_94 rfl h
  replace h := h.2 c16_1
  by_cases c16_2 : w32 (((zat M (p + 2) 134 s))) = 2
  · replace h := h.1 c16_2
    refine z_tin c16_2 dX2_putPlain_16 (by decide) (off := 79) (tgt := 95) (by decide) (by decide) ?_
    refine z_aload_n dX2_putPlain_95 rfl (j := 0) rfl ?_
    refine z_aload_n dX2_putPlain_96 rfl (j := 1) rfl ?_
    refine z_getc Γ kf_RX2_15 dX2_putPlain_97 (by decide) hs25 rfl ?_
    refine z_iload_n dX2_putPlain_100 rfl (j := 2) rfl ?_
    refine z_callV Γ kk_X8_number kc_RX2_127 (As := [zv s0 0 v]) (k_X8_number (d := d - 1) Γ hok hs hs6 (M := M) (Q := fun v9 M9 => v9 = (zf_X8_number M v) ∧ M9 = M) (X := X) (show _ ∧ _ from ⟨rfl, rfl⟩)) (by omega) (by decide) (show (parseMethodDescriptor yX8_number.desc).map (fun q => q.parameters.length) = some 1 by decide +kernel) hok (by simp only [List.map, zv_cat0, zv_cat1, zv_cat2, List.sum_cons, List.sum_nil]; decide) dX2_putPlain_101 (by decide) hs6 rfl rfl (fun _ h9 => nomatch h9) ?_
    rintro v9 M9 ⟨e9, e8⟩
    rw [e9, e8]
    clear e9 e8 v9 M9
    show rt_Go _ _ _ _ _ _ _ _ _ _ _ _ 104 [(3, zv s0 2 ((p + 23))), (0, zv s0 2 25), (1, zv s0 0 v), (2, zv s0 0 s)] [zv s0 1 ((zf_X8_number M v)), zv s0 2 ((p + 23))] (zw s0 ca C S M)
    obtain ⟨ad3, nd3, hk2, h⟩ := h
    refine z_callV Γ kk_X0_addVarint kc_RX2_54 (As := [zv s0 1 ((zf_X8_number M v))]) h (by omega) (by decide) (show (parseMethodDescriptor yX0_addVarint.desc).map (fun q => q.parameters.length) = some 1 by decide +kernel) hok (Nat.zero_le _) dX2_putPlain_104 (hk2 : zCe S ((p + 23)) ad3 nd3).1 (hk2 : zCe S ((p + 23)) ad3 nd3).2.2.2.1 rfl rfl (fun _ h9 => nomatch h9) ?_
    clear h
    intro r104 M104 h
    show rt_Go _ _ _ _ _ _ _ _ _ _ _ _ 107 [(3, zv s0 2 ((p + 23))), (0, zv s0 2 25), (1, zv s0 0 v), (2, zv s0 0 s)] [zv s0 0 r104] (zw s0 ca C S M104)
    refine z_pop0 dX2_putPlain_107 ?_
    exact z_vret dX2_putPlain_108 rfl h
  replace h := h.2 c16_2
  by_cases c16_3 : w32 (((zat M (p + 2) 134 s))) = 3
  · replace h := h.1 c16_3
    refine z_tin c16_3 dX2_putPlain_16 (by decide) (off := 79) (tgt := 95) (by decide) (by decide) ?_
    refine z_aload_n dX2_putPlain_95 rfl (j := 0) rfl ?_
    refine z_aload_n dX2_putPlain_96 rfl (j := 1) rfl ?_
    refine z_getc Γ kf_RX2_15 dX2_putPlain_97 (by decide) hs25 rfl ?_
    refine z_iload_n dX2_putPlain_100 rfl (j := 2) rfl ?_
    refine z_callV Γ kk_X8_number kc_RX2_127 (As := [zv s0 0 v]) (k_X8_number (d := d - 1) Γ hok hs hs6 (M := M) (Q := fun v9 M9 => v9 = (zf_X8_number M v) ∧ M9 = M) (X := X) (show _ ∧ _ from ⟨rfl, rfl⟩)) (by omega) (by decide) (show (parseMethodDescriptor yX8_number.desc).map (fun q => q.parameters.length) = some 1 by decide +kernel) hok (by simp only [List.map, zv_cat0, zv_cat1, zv_cat2, List.sum_cons, List.sum_nil]; decide) dX2_putPlain_101 (by decide) hs6 rfl rfl (fun _ h9 => nomatch h9) ?_
    rintro v9 M9 ⟨e9, e8⟩
    rw [e9, e8]
    clear e9 e8 v9 M9
    show rt_Go _ _ _ _ _ _ _ _ _ _ _ _ 104 [(3, zv s0 2 ((p + 23))), (0, zv s0 2 25), (1, zv s0 0 v), (2, zv s0 0 s)] [zv s0 1 ((zf_X8_number M v)), zv s0 2 ((p + 23))] (zw s0 ca C S M)
    obtain ⟨ad4, nd4, hk3, h⟩ := h
    refine z_callV Γ kk_X0_addVarint kc_RX2_54 (As := [zv s0 1 ((zf_X8_number M v))]) h (by omega) (by decide) (show (parseMethodDescriptor yX0_addVarint.desc).map (fun q => q.parameters.length) = some 1 by decide +kernel) hok (Nat.zero_le _) dX2_putPlain_104 (hk3 : zCe S ((p + 23)) ad4 nd4).1 (hk3 : zCe S ((p + 23)) ad4 nd4).2.2.2.1 rfl rfl (fun _ h9 => nomatch h9) ?_
    clear h
    intro r104 M104 h
    show rt_Go _ _ _ _ _ _ _ _ _ _ _ _ 107 [(3, zv s0 2 ((p + 23))), (0, zv s0 2 25), (1, zv s0 0 v), (2, zv s0 0 s)] [zv s0 0 r104] (zw s0 ca C S M104)
    refine z_pop0 dX2_putPlain_107 ?_
    exact z_vret dX2_putPlain_108 rfl h
  replace h := h.2 c16_3
  by_cases c16_4 : w32 (((zat M (p + 2) 134 s))) = 4
  · replace h := h.1 c16_4
    refine z_tin c16_4 dX2_putPlain_16 (by decide) (off := 93) (tgt := 109) (by decide) (by decide) ?_
    refine z_aload_n dX2_putPlain_109 rfl (j := 1) rfl ?_
    refine z_aload_n dX2_putPlain_110 rfl (j := 1) rfl ?_
    refine z_getc Γ kf_RX2_15 dX2_putPlain_111 (by decide) hs25 rfl ?_
    refine z_iload_n dX2_putPlain_114 rfl (j := 2) rfl ?_
    refine z_callV Γ kk_X8_word kc_RX2_137 (As := [zv s0 0 v]) (z_X8_word (d := d - 1) Γ (by omega) hok hs hs6 (M := M) (Q := fun v9 M9 => v9 = ((zat M 18 2073 v)) ∧ M9 = M) (X := X) (show _ ∧ _ from ⟨rfl, rfl⟩)) (by omega) (by decide) (show (parseMethodDescriptor yX8_word.desc).map (fun q => q.parameters.length) = some 1 by decide +kernel) hok (by simp only [List.map, zv_cat0, zv_cat1, zv_cat2, List.sum_cons, List.sum_nil]; decide) dX2_putPlain_115 (by decide) hs6 rfl rfl (fun _ h9 => nomatch h9) ?_
    rintro v9 M9 ⟨e9, e8⟩
    rw [e9, e8]
    clear e9 e8 v9 M9
    show rt_Go _ _ _ _ _ _ _ _ _ _ _ _ 118 [(3, zv s0 2 ((p + 23))), (0, zv s0 2 25), (1, zv s0 0 v), (2, zv s0 0 s)] [zv s0 0 (((zat M 18 2073 v))), zv s0 2 25] (zw s0 ca C S M)
    refine z_callV Γ kk_X2_putString kc_RX2_91 (As := [zv s0 0 (((zat M 18 2073 v)))]) h (by omega) (by decide) (show (parseMethodDescriptor yX2_putString.desc).map (fun q => q.parameters.length) = some 1 by decide +kernel) hok (Nat.zero_le _) dX2_putPlain_118 (by decide) hs25 rfl rfl (fun _ h9 => nomatch h9) ?_
    clear h
    intro r118 M118 h
    show rt_Go _ _ _ _ _ _ _ _ _ _ _ _ 121 [(3, zv s0 2 ((p + 23))), (0, zv s0 2 25), (1, zv s0 0 v), (2, zv s0 0 s)] [] (zw s0 ca C S M118)
    exact z_vret dX2_putPlain_121 rfl h
  replace h := h.2 c16_4
  by_cases c16_5 : w32 (((zat M (p + 2) 134 s))) = 5
  · replace h := h.1 c16_5
    refine z_tin c16_5 dX2_putPlain_16 (by decide) (off := 93) (tgt := 109) (by decide) (by decide) ?_
    refine z_aload_n dX2_putPlain_109 rfl (j := 1) rfl ?_
    refine z_aload_n dX2_putPlain_110 rfl (j := 1) rfl ?_
    refine z_getc Γ kf_RX2_15 dX2_putPlain_111 (by decide) hs25 rfl ?_
    refine z_iload_n dX2_putPlain_114 rfl (j := 2) rfl ?_
    refine z_callV Γ kk_X8_word kc_RX2_137 (As := [zv s0 0 v]) (z_X8_word (d := d - 1) Γ (by omega) hok hs hs6 (M := M) (Q := fun v9 M9 => v9 = ((zat M 18 2073 v)) ∧ M9 = M) (X := X) (show _ ∧ _ from ⟨rfl, rfl⟩)) (by omega) (by decide) (show (parseMethodDescriptor yX8_word.desc).map (fun q => q.parameters.length) = some 1 by decide +kernel) hok (by simp only [List.map, zv_cat0, zv_cat1, zv_cat2, List.sum_cons, List.sum_nil]; decide) dX2_putPlain_115 (by decide) hs6 rfl rfl (fun _ h9 => nomatch h9) ?_
    rintro v9 M9 ⟨e9, e8⟩
    rw [e9, e8]
    clear e9 e8 v9 M9
    show rt_Go _ _ _ _ _ _ _ _ _ _ _ _ 118 [(3, zv s0 2 ((p + 23))), (0, zv s0 2 25), (1, zv s0 0 v), (2, zv s0 0 s)] [zv s0 0 (((zat M 18 2073 v))), zv s0 2 25] (zw s0 ca C S M)
    refine z_callV Γ kk_X2_putString kc_RX2_91 (As := [zv s0 0 (((zat M 18 2073 v)))]) h (by omega) (by decide) (show (parseMethodDescriptor yX2_putString.desc).map (fun q => q.parameters.length) = some 1 by decide +kernel) hok (Nat.zero_le _) dX2_putPlain_118 (by decide) hs25 rfl rfl (fun _ h9 => nomatch h9) ?_
    clear h
    intro r118 M118 h
    show rt_Go _ _ _ _ _ _ _ _ _ _ _ _ 121 [(3, zv s0 2 ((p + 23))), (0, zv s0 2 25), (1, zv s0 0 v), (2, zv s0 0 s)] [] (zw s0 ca C S M118)
    exact z_vret dX2_putPlain_121 rfl h
  replace h := h.2 c16_5
  by_cases c16_9 : w32 (((zat M (p + 2) 134 s))) = 9
  · replace h := h.1 c16_9
    refine z_tin c16_9 dX2_putPlain_16 (by decide) (off := 106) (tgt := 122) (by decide) (by decide) ?_
    refine z_aload_n dX2_putPlain_122 rfl (j := 1) rfl ?_
    refine z_aload_n dX2_putPlain_123 rfl (j := 1) rfl ?_
    refine z_getc Γ kf_RX2_15 dX2_putPlain_124 (by decide) hs25 rfl ?_
    refine z_iload_n dX2_putPlain_127 rfl (j := 2) rfl ?_
    refine z_callV Γ kk_X8_word kc_RX2_137 (As := [zv s0 0 v]) (z_X8_word (d := d - 1) Γ (by omega) hok hs hs6 (M := M) (Q := fun v9 M9 => v9 = ((zat M 18 2073 v)) ∧ M9 = M) (X := X) (show _ ∧ _ from ⟨rfl, rfl⟩)) (by omega) (by decide) (show (parseMethodDescriptor yX8_word.desc).map (fun q => q.parameters.length) = some 1 by decide +kernel) hok (by simp only [List.map, zv_cat0, zv_cat1, zv_cat2, List.sum_cons, List.sum_nil]; decide) dX2_putPlain_128 (by decide) hs6 rfl rfl (fun _ h9 => nomatch h9) ?_
    rintro v9 M9 ⟨e9, e8⟩
    rw [e9, e8]
    clear e9 e8 v9 M9
    show rt_Go _ _ _ _ _ _ _ _ _ _ _ _ 131 [(3, zv s0 2 ((p + 23))), (0, zv s0 2 25), (1, zv s0 0 v), (2, zv s0 0 s)] [zv s0 0 (((zat M 18 2073 v))), zv s0 2 25] (zw s0 ca C S M)
    refine z_callV Γ kk_X2_putLetters kc_RX2_120 (As := [zv s0 0 (((zat M 18 2073 v)))]) h (by omega) (by decide) (show (parseMethodDescriptor yX2_putLetters.desc).map (fun q => q.parameters.length) = some 1 by decide +kernel) hok (Nat.zero_le _) dX2_putPlain_131 (by decide) hs25 rfl rfl (fun _ h9 => nomatch h9) ?_
    clear h
    intro r131 M131 h
    show rt_Go _ _ _ _ _ _ _ _ _ _ _ _ 134 [(3, zv s0 2 ((p + 23))), (0, zv s0 2 25), (1, zv s0 0 v), (2, zv s0 0 s)] [] (zw s0 ca C S M131)
    exact z_vret dX2_putPlain_134 rfl h
  replace h := h.2 c16_9
  by_cases c16_10 : w32 (((zat M (p + 2) 134 s))) = 10
  · replace h := h.1 c16_10
    refine z_tin c16_10 dX2_putPlain_16 (by decide) (off := 119) (tgt := 135) (by decide) (by decide) ?_
    refine z_aload_n dX2_putPlain_135 rfl (j := 0) rfl ?_
    refine z_aload_n dX2_putPlain_136 rfl (j := 1) rfl ?_
    refine z_getc Γ kf_RX2_19 dX2_putPlain_137 (by decide) hs25 rfl ?_
    refine z_iload_n dX2_putPlain_140 rfl (j := 3) rfl ?_
    refine z_aload_n dX2_putPlain_141 rfl (j := 1) rfl ?_
    refine z_getc Γ kf_RX2_15 dX2_putPlain_142 (by decide) hs25 rfl ?_
    refine z_callV Γ kk_X8_letters kc_RX2_114 (As := []) (z_X8_letters (d := d - 1) Γ hok hs hs6 (M := M) (Q := fun v9 M9 => v9 = 22 ∧ M9 = M) (X := X) (show _ ∧ _ from ⟨rfl, rfl⟩)) (by omega) (by decide) (show (parseMethodDescriptor yX8_letters.desc).map (fun q => q.parameters.length) = some 0 by decide +kernel) hok (by simp only [List.map, zv_cat0, zv_cat1, zv_cat2, List.sum_cons, List.sum_nil]; decide) dX2_putPlain_145 (by decide) hs6 rfl rfl (fun _ h9 => nomatch h9) ?_
    rintro v9 M9 ⟨e9, e8⟩
    rw [e9, e8]
    clear e9 e8 v9 M9
    show rt_Go _ _ _ _ _ _ _ _ _ _ _ _ 148 [(3, zv s0 2 ((p + 23))), (0, zv s0 2 25), (1, zv s0 0 v), (2, zv s0 0 s)] [zv s0 2 22, zv s0 0 s, zv s0 2 p, zv s0 2 ((p + 23))] (zw s0 ca C S M)
    refine z_aload_n dX2_putPlain_148 rfl (j := 1) rfl ?_
    refine z_getc Γ kf_RX2_15 dX2_putPlain_149 (by decide) hs25 rfl ?_
    refine z_iload_n dX2_putPlain_152 rfl (j := 2) rfl ?_
    refine z_callV Γ kk_X8_word kc_RX2_137 (As := [zv s0 0 v]) (z_X8_word (d := d - 1) Γ (by omega) hok hs hs6 (M := M) (Q := fun v9 M9 => v9 = ((zat M 18 2073 v)) ∧ M9 = M) (X := X) (show _ ∧ _ from ⟨rfl, rfl⟩)) (by omega) (by decide) (show (parseMethodDescriptor yX8_word.desc).map (fun q => q.parameters.length) = some 1 by decide +kernel) hok (by simp only [List.map, zv_cat0, zv_cat1, zv_cat2, List.sum_cons, List.sum_nil]; decide) dX2_putPlain_153 (by decide) hs6 rfl rfl (fun _ h9 => nomatch h9) ?_
    rintro v9 M9 ⟨e9, e8⟩
    rw [e9, e8]
    clear e9 e8 v9 M9
    show rt_Go _ _ _ _ _ _ _ _ _ _ _ _ 156 [(3, zv s0 2 ((p + 23))), (0, zv s0 2 25), (1, zv s0 0 v), (2, zv s0 0 s)] [zv s0 0 (((zat M 18 2073 v))), zv s0 2 22, zv s0 0 s, zv s0 2 p, zv s0 2 ((p + 23))] (zw s0 ca C S M)
    refine z_callV Γ kk_X6_partNamed kc_RX2_140 (As := [zv s0 0 s, zv s0 2 22, zv s0 0 (((zat M 18 2073 v)))]) h (by omega) (by decide) (show (parseMethodDescriptor yX6_partNamed.desc).map (fun q => q.parameters.length) = some 3 by decide +kernel) hok (by simp only [List.map, zv_cat0, zv_cat1, zv_cat2, List.sum_cons, List.sum_nil]; decide) dX2_putPlain_156 hp.1 hp.2.1 rfl rfl (fun _ h9 => nomatch h9) ?_
    clear h
    intro r156 M156 h
    show rt_Go _ _ _ _ _ _ _ _ _ _ _ _ 159 [(3, zv s0 2 ((p + 23))), (0, zv s0 2 25), (1, zv s0 0 v), (2, zv s0 0 s)] [zv s0 0 r156, zv s0 2 ((p + 23))] (zw s0 ca C S M156)
    refine z_i2l dX2_putPlain_159 ?_
    obtain ⟨ad5, nd5, hk4, h⟩ := h
    refine z_callV Γ kk_X0_addVarint kc_RX2_54 (As := [zv s0 1 (w32 r156)]) h (by omega) (by decide) (show (parseMethodDescriptor yX0_addVarint.desc).map (fun q => q.parameters.length) = some 1 by decide +kernel) hok (Nat.zero_le _) dX2_putPlain_160 (hk4 : zCe S ((p + 23)) ad5 nd5).1 (hk4 : zCe S ((p + 23)) ad5 nd5).2.2.2.1 rfl rfl (fun _ h9 => nomatch h9) ?_
    clear h
    intro r160 M160 h
    show rt_Go _ _ _ _ _ _ _ _ _ _ _ _ 163 [(3, zv s0 2 ((p + 23))), (0, zv s0 2 25), (1, zv s0 0 v), (2, zv s0 0 s)] [zv s0 0 r160] (zw s0 ca C S M160)
    refine z_pop0 dX2_putPlain_163 ?_
    exact z_vret dX2_putPlain_164 rfl h
  replace h := h.2 c16_10
  by_cases c16_6 : w32 (((zat M (p + 2) 134 s))) = 6
  · refine z_tin c16_6 dX2_putPlain_16 (by decide) (off := 149) (tgt := 165) (by decide) (by decide) ?_
    exact z_vret dX2_putPlain_165 rfl h
  by_cases c16_7 : w32 (((zat M (p + 2) 134 s))) = 7
  · refine z_tin c16_7 dX2_putPlain_16 (by decide) (off := 149) (tgt := 165) (by decide) (by decide) ?_
    exact z_vret dX2_putPlain_165 rfl h
  by_cases c16_8 : w32 (((zat M (p + 2) 134 s))) = 8
  · refine z_tin c16_8 dX2_putPlain_16 (by decide) (off := 149) (tgt := 165) (by decide) (by decide) ?_
    exact z_vret dX2_putPlain_165 rfl h
  refine z_tout dX2_putPlain_16 (show w32 (((zat M (p + 2) 134 s))) < 1 ∨ 10 < w32 (((zat M (p + 2) 134 s))) from by omega) (tgt := 165) (by decide) ?_
  exact z_vret dX2_putPlain_165 rfl h

abbrev zg_X2_putFields_21 (l : Launch) (s0 : State) (G : va_G) (ca : Nat → ClassId) (d : Nat) (C : Nat × Nat) (S : zS) (w0 : rt_Wd) (p : Int) (v1 : Int) (v2 : Int) (v3 : Int) (v4 : Int)  (M : zM) (Q : Int → zM → Prop) (X : zM → Prop) : Prop := rt_Go l s0 G RX2 "putFields" cX2_putFields 7 (Option.none : Option FieldType) [] d w0 (zQ s0 ca 9 C S Q X) 21 [(0, zv s0 2 25), (1, zv s0 0 v1), (2, zv s0 0 v2), (3, zv s0 0 v3), (4, zv s0 0 v4)] [] (zw s0 ca C S M)
def zt_X2_putFields_21 (l : Launch) (s0 : State) (G : va_G) (ca : Nat → ClassId) (d : Nat) (C : Nat × Nat) (S : zS) (w0 : rt_Wd) (p : Int) (v1 : Int) (v2 : Int) (v3 : Int) (v4 : Int)  (M : zM) (Q : Int → zM → Prop) (X : zM → Prop) : Prop :=
  zIf (w32 (((zat M (p + 12) 134 v2))) ≤ w32 v4) (Q 0 M) (zIf (w32 (M 25 2) = ((-1))) (zm_X8_memberNamed l s0 G ca (d - 1) C S v1 ((p + 21)) (((zat M (p + 16) 2048 ((((zat M (p + 10) 134 v2)) + v4))))) M (fun r75 M75 => zIf (w32 r75 = ((-1))) (zm_X2_misfit l s0 G ca (d - 1) C S v1 M75 (fun r88 M88 => zg_X2_putFields_21 l s0 G ca d C S w0 p v1 v2 v3 (v4 + 1) M88 Q X) X) (zm_X2_put l s0 G ca (d - 1) C S r75 (((zat M75 (p + 14) 2048 ((((zat M (p + 10) 134 v2)) + v4))))) (v3 + 1) M75 (fun r109 M109 => zg_X2_putFields_21 l s0 G ca d C S w0 p v1 v2 v3 (v4 + 1) M109 Q X) X)) X) (Q 0 M))
set_option maxRecDepth 100000 in
theorem zs_X2_putFields_21 {l : Launch} {s0 : State} {a0 : Array Value} {G : va_G} {ca : Nat → ClassId} (Γ : rt_Γ l s0 a0 G ca) {d : Nat} {C : Nat × Nat} {S : zS} (hd : 2 ≤ d) (hok : zok C) {p : Int} (hs : zSok S) (hp : zSc S p) (hs25 : S 25 = some (0, 2, [(3, 6), (3, p), (0, 0)])) (hs6 : S 6 = some (0, 8, [(3, 7), (3, 9), (3, 11), (3, 13), (3, 15), (3, 17), (3, 19), (3, 21), (3, 22), (3, 1), (0, 0), (0, 0), (0, 0)])) {w0 : rt_Wd} {v1 : Int} {v2 : Int} {v3 : Int} {v4 : Int}   {M : zM} {Q : Int → zM → Prop} {X : zM → Prop} (h : zt_X2_putFields_21 l s0 G ca d C S w0 p v1 v2 v3 v4 M Q X) : zg_X2_putFields_21 l s0 G ca d C S w0 p v1 v2 v3 v4 M Q X := by
  unfold zt_X2_putFields_21 at h
  refine z_iload dX2_putFields_21 (j := 4) rfl ?_
  refine z_aload_n dX2_putFields_23 rfl (j := 0) rfl ?_
  refine z_getc Γ kf_RX2_19 dX2_putFields_24 (by decide) hs25 rfl ?_
  refine z_iload_n dX2_putFields_27 rfl (j := 2) rfl ?_
  refine z_callV Γ kk_X6_parts kc_RX2_100 (As := [zv s0 0 v2]) (z_X6_parts (d := d - 1) Γ (by omega) hok hp (M := M) (Q := fun v9 M9 => v9 = ((zat M (p + 12) 134 v2)) ∧ M9 = M) (X := X) (show _ ∧ _ from ⟨rfl, rfl⟩)) (by omega) (by decide) (show (parseMethodDescriptor yX6_parts.desc).map (fun q => q.parameters.length) = some 1 by decide +kernel) hok (by simp only [List.map, zv_cat0, zv_cat1, zv_cat2, List.sum_cons, List.sum_nil]; decide) dX2_putFields_28 hp.1 hp.2.1 rfl rfl (fun _ h9 => nomatch h9) ?_
  rintro v9 M9 ⟨e9, e8⟩
  rw [e9, e8]
  clear e9 e8 v9 M9
  show rt_Go _ _ _ _ _ _ _ _ _ _ _ _ 31 [(0, zv s0 2 25), (1, zv s0 0 v1), (2, zv s0 0 v2), (3, zv s0 0 v3), (4, zv s0 0 v4)] [zv s0 0 (((zat M (p + 12) 134 v2))), zv s0 0 v4] (zw s0 ca C S M)
  refine z_icmp_ge (tgt := 118) (x' := w32 v4) (y' := w32 (((zat M (p + 12) 134 v2)))) rfl rfl dX2_putFields_31 (by decide) (fun c31 => ?_) (fun c31 => ?_)
  · replace h := h.1 c31
    exact z_vret dX2_putFields_118 rfl h
  · replace h := h.2 c31
    refine z_aload_n dX2_putFields_34 rfl (j := 0) rfl ?_
    refine z_get Γ kf_RX2_9 dX2_putFields_35 (by decide) hs25 rfl (by decide) (v9 := M 25 2) rfl ?_
    refine z_iconst dX2_putFields_38 ?_
    refine z_icmp_ne (tgt := 118) (x' := w32 (M 25 2)) (y' := ((-1))) rfl (by decide) dX2_putFields_39 (by decide) (fun c39 => ?_) (fun c39 => ?_)
    · replace h := h.2 c39
      exact z_vret dX2_putFields_118 rfl h
    · replace h := h.1 c39
      refine z_aload_n dX2_putFields_42 rfl (j := 0) rfl ?_
      refine z_getc Γ kf_RX2_19 dX2_putFields_43 (by decide) hs25 rfl ?_
      refine z_iload_n dX2_putFields_46 rfl (j := 2) rfl ?_
      refine z_iload dX2_putFields_47 (j := 4) rfl ?_
      refine z_callV Γ kk_X6_part kc_RX2_101 (As := [zv s0 0 v2, zv s0 0 v4]) (z_X6_part (d := d - 1) Γ (by omega) hok hp (M := M) (Q := fun v9 M9 => v9 = (((zat M (p + 10) 134 v2)) + v4) ∧ M9 = M) (X := X) (show _ ∧ _ from ⟨rfl, rfl⟩)) (by omega) (by decide) (show (parseMethodDescriptor yX6_part.desc).map (fun q => q.parameters.length) = some 2 by decide +kernel) hok (Nat.zero_le _) dX2_putFields_49 hp.1 hp.2.1 rfl rfl (fun _ h9 => nomatch h9) ?_
      rintro v9 M9 ⟨e9, e8⟩
      rw [e9, e8]
      clear e9 e8 v9 M9
      show rt_Go _ _ _ _ _ _ _ _ _ _ _ _ 52 [(0, zv s0 2 25), (1, zv s0 0 v1), (2, zv s0 0 v2), (3, zv s0 0 v3), (4, zv s0 0 v4)] [zv s0 0 ((((zat M (p + 10) 134 v2)) + v4))] (zw s0 ca C S M)
      refine z_istore (i := 5) (lv' := [(5, zv s0 0 ((((zat M (p + 10) 134 v2)) + v4))), (0, zv s0 2 25), (1, zv s0 0 v1), (2, zv s0 0 v2), (3, zv s0 0 v3), (4, zv s0 0 v4)]) dX2_putFields_52 (by decide) (by simp [zv_cat0, zv_cat1, zv_cat2, zv_cats]) ?_
      refine z_aload_n dX2_putFields_54 rfl (j := 1) rfl ?_
      refine z_getc Γ kf_RX2_15 dX2_putFields_55 (by decide) hs25 rfl ?_
      refine z_iload_n dX2_putFields_58 rfl (j := 2) rfl ?_
      refine z_aload_n dX2_putFields_59 rfl (j := 1) rfl ?_
      refine z_getc Γ kf_RX2_19 dX2_putFields_60 (by decide) hs25 rfl ?_
      refine z_callV Γ kk_X6_names kc_RX2_104 (As := []) (z_X6_names (d := d - 1) Γ hok hp (M := M) (Q := fun v9 M9 => v9 = (p + 21) ∧ M9 = M) (X := X) (show _ ∧ _ from ⟨rfl, rfl⟩)) (by omega) (by decide) (show (parseMethodDescriptor yX6_names.desc).map (fun q => q.parameters.length) = some 0 by decide +kernel) hok (by simp only [List.map, zv_cat0, zv_cat1, zv_cat2, List.sum_cons, List.sum_nil]; decide) dX2_putFields_63 hp.1 hp.2.1 rfl rfl (fun _ h9 => nomatch h9) ?_
      rintro v9 M9 ⟨e9, e8⟩
      rw [e9, e8]
      clear e9 e8 v9 M9
      show rt_Go _ _ _ _ _ _ _ _ _ _ _ _ 66 [(5, zv s0 0 ((((zat M (p + 10) 134 v2)) + v4))), (0, zv s0 2 25), (1, zv s0 0 v1), (2, zv s0 0 v2), (3, zv s0 0 v3), (4, zv s0 0 v4)] [zv s0 2 ((p + 21)), zv s0 0 v1, zv s0 2 6] (zw s0 ca C S M)
      refine z_aload_n dX2_putFields_66 rfl (j := 1) rfl ?_
      refine z_getc Γ kf_RX2_19 dX2_putFields_67 (by decide) hs25 rfl ?_
      refine z_iload dX2_putFields_70 (j := 0) rfl ?_
      refine z_callV Γ kk_X6_partName kc_RX2_107 (As := [zv s0 0 ((((zat M (p + 10) 134 v2)) + v4))]) (z_X6_partName (d := d - 1) Γ (by omega) hok hp (M := M) (Q := fun v9 M9 => v9 = ((zat M (p + 16) 2048 ((((zat M (p + 10) 134 v2)) + v4)))) ∧ M9 = M) (X := X) (show _ ∧ _ from ⟨rfl, rfl⟩)) (by omega) (by decide) (show (parseMethodDescriptor yX6_partName.desc).map (fun q => q.parameters.length) = some 1 by decide +kernel) hok (by simp only [List.map, zv_cat0, zv_cat1, zv_cat2, List.sum_cons, List.sum_nil]; decide) dX2_putFields_72 hp.1 hp.2.1 rfl rfl (fun _ h9 => nomatch h9) ?_
      rintro v9 M9 ⟨e9, e8⟩
      rw [e9, e8]
      clear e9 e8 v9 M9
      show rt_Go _ _ _ _ _ _ _ _ _ _ _ _ 75 [(5, zv s0 0 ((((zat M (p + 10) 134 v2)) + v4))), (0, zv s0 2 25), (1, zv s0 0 v1), (2, zv s0 0 v2), (3, zv s0 0 v3), (4, zv s0 0 v4)] [zv s0 0 (((zat M (p + 16) 2048 ((((zat M (p + 10) 134 v2)) + v4))))), zv s0 2 ((p + 21)), zv s0 0 v1, zv s0 2 6] (zw s0 ca C S M)
      refine z_callV Γ kk_X8_memberNamed kc_RX2_110 (As := [zv s0 0 v1, zv s0 2 ((p + 21)), zv s0 0 (((zat M (p + 16) 2048 ((((zat M (p + 10) 134 v2)) + v4)))))]) h (by omega) (by decide) (show (parseMethodDescriptor yX8_memberNamed.desc).map (fun q => q.parameters.length) = some 3 by decide +kernel) hok (Nat.zero_le _) dX2_putFields_75 (by decide) hs6 rfl rfl (fun _ h9 => nomatch h9) ?_
      clear h
      intro r75 M75 h
      show rt_Go _ _ _ _ _ _ _ _ _ _ _ _ 78 [(5, zv s0 0 ((((zat M (p + 10) 134 v2)) + v4))), (0, zv s0 2 25), (1, zv s0 0 v1), (2, zv s0 0 v2), (3, zv s0 0 v3), (4, zv s0 0 v4)] [zv s0 0 r75] (zw s0 ca C S M75)
      refine z_istore (i := 6) (lv' := [(6, zv s0 0 r75), (5, zv s0 0 ((((zat M (p + 10) 134 v2)) + v4))), (0, zv s0 2 25), (1, zv s0 0 v1), (2, zv s0 0 v2), (3, zv s0 0 v3), (4, zv s0 0 v4)]) dX2_putFields_78 (by decide) (by simp [zv_cat0, zv_cat1, zv_cat2, zv_cats]) ?_
      refine z_iload dX2_putFields_80 (j := 0) rfl ?_
      refine z_iconst dX2_putFields_82 ?_
      refine z_icmp_ne (tgt := 94) (x' := w32 r75) (y' := ((-1))) rfl (by decide) dX2_putFields_83 (by decide) (fun c83 => ?_) (fun c83 => ?_)
      · replace h := h.2 c83
        refine z_aload_n dX2_putFields_94 rfl (j := 2) rfl ?_
        refine z_iload dX2_putFields_95 (j := 0) rfl ?_
        refine z_aload_n dX2_putFields_97 rfl (j := 2) rfl ?_
        refine z_getc Γ kf_RX2_19 dX2_putFields_98 (by decide) hs25 rfl ?_
        refine z_iload dX2_putFields_101 (j := 1) rfl ?_
        refine z_callV Γ kk_X6_partNode kc_RX2_35 (As := [zv s0 0 ((((zat M (p + 10) 134 v2)) + v4))]) (z_X6_partNode (d := d - 1) Γ (by omega) hok hp (M := M75) (Q := fun v9 M9 => v9 = ((zat M75 (p + 14) 2048 ((((zat M (p + 10) 134 v2)) + v4)))) ∧ M9 = M75) (X := X) (show _ ∧ _ from ⟨rfl, rfl⟩)) (by omega) (by decide) (show (parseMethodDescriptor yX6_partNode.desc).map (fun q => q.parameters.length) = some 1 by decide +kernel) hok (by simp only [List.map, zv_cat0, zv_cat1, zv_cat2, List.sum_cons, List.sum_nil]; decide) dX2_putFields_103 hp.1 hp.2.1 rfl rfl (fun _ h9 => nomatch h9) ?_
        rintro v9 M9 ⟨e9, e8⟩
        rw [e9, e8]
        clear e9 e8 v9 M9
        show rt_Go _ _ _ _ _ _ _ _ _ _ _ _ 106 [(6, zv s0 0 r75), (5, zv s0 0 ((((zat M (p + 10) 134 v2)) + v4))), (0, zv s0 2 25), (1, zv s0 0 v1), (2, zv s0 0 v2), (3, zv s0 0 v3), (4, zv s0 0 v4)] [zv s0 0 (((zat M75 (p + 14) 2048 ((((zat M (p + 10) 134 v2)) + v4))))), zv s0 0 r75, zv s0 2 25] (zw s0 ca C S M75)
        refine z_iload_n dX2_putFields_106 rfl (j := 5) rfl ?_
        refine z_iconst dX2_putFields_107 ?_
        refine z_iadd dX2_putFields_108 ?_
        refine z_callV Γ kk_X2_put kc_RX2_39 (As := [zv s0 0 r75, zv s0 0 (((zat M75 (p + 14) 2048 ((((zat M (p + 10) 134 v2)) + v4))))), zv s0 0 (v3 + 1)]) h (by omega) (by decide) (show (parseMethodDescriptor yX2_put.desc).map (fun q => q.parameters.length) = some 3 by decide +kernel) hok (Nat.zero_le _) dX2_putFields_109 (by decide) hs25 rfl rfl (fun _ h9 => nomatch h9) ?_
        clear h
        intro r109 M109 h
        show rt_Go _ _ _ _ _ _ _ _ _ _ _ _ 112 [(6, zv s0 0 r75), (5, zv s0 0 ((((zat M (p + 10) 134 v2)) + v4))), (0, zv s0 2 25), (1, zv s0 0 v1), (2, zv s0 0 v2), (3, zv s0 0 v3), (4, zv s0 0 v4)] [] (zw s0 ca C S M109)
        refine z_iinc (lv' := [(4, zv s0 0 (v4 + 1)), (6, zv s0 0 r75), (5, zv s0 0 ((((zat M (p + 10) 134 v2)) + v4))), (0, zv s0 2 25), (1, zv s0 0 v1), (2, zv s0 0 v2), (3, zv s0 0 v3)]) dX2_putFields_112 (j := 6) rfl (by decide) (by simp [zv_cat0, zv_cat1, zv_cat2, zv_cats]) ?_
        refine rt_goto (tgt := 21) dX2_putFields_115 (by decide) ?_
        exact rt_lfew [3, 4, 5, 6, 0] rfl h
      · replace h := h.1 c83
        refine z_aload_n dX2_putFields_86 rfl (j := 2) rfl ?_
        refine z_iload_n dX2_putFields_87 rfl (j := 3) rfl ?_
        refine z_callV Γ kk_X2_misfit kc_RX2_62 (As := [zv s0 0 v1]) h (by omega) (by decide) (show (parseMethodDescriptor yX2_misfit.desc).map (fun q => q.parameters.length) = some 1 by decide +kernel) hok (Nat.zero_le _) dX2_putFields_88 (by decide) hs25 rfl rfl (fun _ h9 => nomatch h9) ?_
        clear h
        intro r88 M88 h
        show rt_Go _ _ _ _ _ _ _ _ _ _ _ _ 91 [(6, zv s0 0 r75), (5, zv s0 0 ((((zat M (p + 10) 134 v2)) + v4))), (0, zv s0 2 25), (1, zv s0 0 v1), (2, zv s0 0 v2), (3, zv s0 0 v3), (4, zv s0 0 v4)] [] (zw s0 ca C S M88)
        refine rt_goto (tgt := 112) dX2_putFields_91 (by decide) ?_
        refine z_iinc (lv' := [(4, zv s0 0 (v4 + 1)), (6, zv s0 0 r75), (5, zv s0 0 ((((zat M (p + 10) 134 v2)) + v4))), (0, zv s0 2 25), (1, zv s0 0 v1), (2, zv s0 0 v2), (3, zv s0 0 v3)]) dX2_putFields_112 (j := 6) rfl (by decide) (by simp [zv_cat0, zv_cat1, zv_cat2, zv_cats]) ?_
        refine rt_goto (tgt := 21) dX2_putFields_115 (by decide) ?_
        exact rt_lfew [3, 4, 5, 6, 0] rfl h

def zt_X2_putFields (l : Launch) (s0 : State) (G : va_G) (ca : Nat → ClassId) (d : Nat) (C : Nat × Nat) (S : zS) (w0 : rt_Wd) (p : Int) (v : Int) (s : Int) (e : Int) (M : zM) (Q : Int → zM → Prop) (X : zM → Prop) : Prop :=
  zIf (w32 (((zat M 8 2073 v))) = 1) (zg_X2_putFields_21 l s0 G ca d C S w0 p v s e 0 M Q X) (zm_X2_misfit l s0 G ca (d - 1) C S v M (fun r14 M14 => Q 0 M14) X)
set_option maxRecDepth 100000 in
theorem z_X2_putFields {l : Launch} {s0 : State} {a0 : Array Value} {G : va_G} {ca : Nat → ClassId} (Γ : rt_Γ l s0 a0 G ca) {d : Nat} {C : Nat × Nat} {S : zS} (hd : 2 ≤ d) (hok : zok C) {p : Int} (hs : zSok S) (hp : zSc S p) (hs25 : S 25 = some (0, 2, [(3, 6), (3, p), (0, 0)])) (hs6 : S 6 = some (0, 8, [(3, 7), (3, 9), (3, 11), (3, 13), (3, 15), (3, 17), (3, 19), (3, 21), (3, 22), (3, 1), (0, 0), (0, 0), (0, 0)])) {v : Int} {s : Int} {e : Int} {M : zM} {Q : Int → zM → Prop} {X : zM → Prop} (h : zt_X2_putFields l s0 G ca d C S (zw s0 ca C S M) p v s e M Q X) : zm_X2_putFields l s0 G ca d C S  v s e M Q X := by
  refine z_met (lv := [(0, zv s0 2 25), (1, zv s0 0 v), (2, zv s0 0 s), (3, zv s0 0 e)]) Γ kk_X2_putFields rfl (show (lg_sl [zv s0 2 25, zv s0 0 v, zv s0 0 s, zv s0 0 e]).length ≤ 7 from by simp only [zn_0, zn_2, show (lg_sl []).length = 0 from rfl]; omega) (show lv_args 0 [zv s0 2 25, zv s0 0 v, zv s0 0 s, zv s0 0 e] = [(0, zv s0 2 25), (1, zv s0 0 v), (2, zv s0 0 s), (3, zv s0 0 e)] from by rw [zl_2, zl_0, zl_0, zl_0]; rfl) ?_
  unfold zt_X2_putFields at h
  refine z_aload_n dX2_putFields_0 rfl (j := 0) rfl ?_
  refine z_getc Γ kf_RX2_15 dX2_putFields_1 (by decide) hs25 rfl ?_
  refine z_iload_n dX2_putFields_4 rfl (j := 1) rfl ?_
  refine z_callV Γ kk_X8_kind kc_RX2_81 (As := [zv s0 0 v]) (z_X8_kind (d := d - 1) Γ (by omega) hok hs hs6 (M := M) (Q := fun v9 M9 => v9 = ((zat M 8 2073 v)) ∧ M9 = M) (X := X) (show _ ∧ _ from ⟨rfl, rfl⟩)) (by omega) (by decide) (show (parseMethodDescriptor yX8_kind.desc).map (fun q => q.parameters.length) = some 1 by decide +kernel) hok (Nat.zero_le _) dX2_putFields_5 (by decide) hs6 rfl rfl (fun _ h9 => nomatch h9) ?_
  rintro v9 M9 ⟨e9, e8⟩
  rw [e9, e8]
  clear e9 e8 v9 M9
  show rt_Go _ _ _ _ _ _ _ _ _ _ _ _ 8 [(0, zv s0 2 25), (1, zv s0 0 v), (2, zv s0 0 s), (3, zv s0 0 e)] [zv s0 0 (((zat M 8 2073 v)))] (zw s0 ca C S M)
  refine z_iconst dX2_putFields_8 ?_
  refine z_icmp_eq (tgt := 18) (x' := w32 (((zat M 8 2073 v)))) (y' := 1) rfl (by decide) dX2_putFields_9 (by decide) (fun c9 => ?_) (fun c9 => ?_)
  · replace h := h.1 c9
    refine z_iconst dX2_putFields_18 ?_
    refine z_istore (i := 4) (lv' := [(4, zv s0 0 0), (0, zv s0 2 25), (1, zv s0 0 v), (2, zv s0 0 s), (3, zv s0 0 e)]) dX2_putFields_19 (by decide) (by simp [zv_cat0, zv_cat1, zv_cat2, zv_cats]) ?_
    exact rt_lfew [1, 2, 3, 4, 0] rfl h
  · replace h := h.2 c9
    refine z_aload_n dX2_putFields_12 rfl (j := 0) rfl ?_
    refine z_iload_n dX2_putFields_13 rfl (j := 1) rfl ?_
    refine z_callV Γ kk_X2_misfit kc_RX2_62 (As := [zv s0 0 v]) h (by omega) (by decide) (show (parseMethodDescriptor yX2_misfit.desc).map (fun q => q.parameters.length) = some 1 by decide +kernel) hok (Nat.zero_le _) dX2_putFields_14 (by decide) hs25 rfl rfl (fun _ h9 => nomatch h9) ?_
    clear h
    intro r14 M14 h
    show rt_Go _ _ _ _ _ _ _ _ _ _ _ _ 17 [(0, zv s0 2 25), (1, zv s0 0 v), (2, zv s0 0 s), (3, zv s0 0 e)] [] (zw s0 ca C S M14)
    exact z_vret dX2_putFields_17 rfl h

abbrev zg_X2_putItems_47 (l : Launch) (s0 : State) (G : va_G) (ca : Nat → ClassId) (d : Nat) (C : Nat × Nat) (S : zS) (w0 : rt_Wd) (p : Int) (v1 : Int) (v2 : Int) (v3 : Int) (v4 : Int) (v5 : Int)  (M : zM) (Q : Int → zM → Prop) (X : zM → Prop) : Prop := rt_Go l s0 G RX2 "putItems" cX2_putItems 8 (Option.none : Option FieldType) [] d w0 (zQ s0 ca 9 C S Q X) 47 [(0, zv s0 2 25), (1, zv s0 0 v1), (2, zv s0 0 v2), (3, zv s0 0 v3), (4, zv s0 0 v4), (5, zv s0 0 v5)] [] (zw s0 ca C S M)
abbrev zg_X2_putItems_60 (l : Launch) (s0 : State) (G : va_G) (ca : Nat → ClassId) (d : Nat) (C : Nat × Nat) (S : zS) (w0 : rt_Wd) (p : Int) (v2 : Int) (v3 : Int) (v4 : Int) (v5 : Int) (v6 : Int) (v7 : Int)  (M : zM) (Q : Int → zM → Prop) (X : zM → Prop) : Prop := rt_Go l s0 G RX2 "putItems" cX2_putItems 8 (Option.none : Option FieldType) [] d w0 (zQ s0 ca 9 C S Q X) 60 [(0, zv s0 2 25), (2, zv s0 0 v2), (3, zv s0 0 v3), (4, zv s0 0 v4), (5, zv s0 0 v5), (6, zv s0 0 v6), (7, zv s0 0 v7)] [] (zw s0 ca C S M)
abbrev zg_X2_putItems_93 (l : Launch) (s0 : State) (G : va_G) (ca : Nat → ClassId) (d : Nat) (C : Nat × Nat) (S : zS) (w0 : rt_Wd) (p : Int) (v2 : Int) (v3 : Int) (v4 : Int) (v5 : Int) (v6 : Int) (v7 : Int)  (M : zM) (Q : Int → zM → Prop) (X : zM → Prop) : Prop := rt_Go l s0 G RX2 "putItems" cX2_putItems 8 (Option.none : Option FieldType) [] d w0 (zQ s0 ca 9 C S Q X) 93 [(0, zv s0 2 25), (2, zv s0 0 v2), (3, zv s0 0 v3), (4, zv s0 0 v4), (5, zv s0 0 v5), (6, zv s0 0 v6), (7, zv s0 0 v7)] [] (zw s0 ca C S M)
abbrev zg_X2_putItems_128 (l : Launch) (s0 : State) (G : va_G) (ca : Nat → ClassId) (d : Nat) (C : Nat × Nat) (S : zS) (w0 : rt_Wd) (p : Int)   (M : zM) (Q : Int → zM → Prop) (X : zM → Prop) : Prop := rt_Go l s0 G RX2 "putItems" cX2_putItems 8 (Option.none : Option FieldType) [] d w0 (zQ s0 ca 9 C S Q X) 128 [(0, zv s0 2 25)] [] (zw s0 ca C S M)
def zt_X2_putItems_47 (l : Launch) (s0 : State) (G : va_G) (ca : Nat → ClassId) (d : Nat) (C : Nat × Nat) (S : zS) (w0 : rt_Wd) (p : Int) (v1 : Int) (v2 : Int) (v3 : Int) (v4 : Int) (v5 : Int)  (M : zM) (Q : Int → zM → Prop) (X : zM → Prop) : Prop :=
  zg_X2_putItems_60 l s0 G ca d C S w0 p v2 v3 v4 v5 (((zat M 14 2073 v1))) 0 M Q X
set_option maxRecDepth 100000 in
theorem zs_X2_putItems_47 {l : Launch} {s0 : State} {a0 : Array Value} {G : va_G} {ca : Nat → ClassId} (Γ : rt_Γ l s0 a0 G ca) {d : Nat} {C : Nat × Nat} {S : zS} (hd : 2 ≤ d) (hok : zok C) {p : Int} (hs : zSok S) (hp : zSc S p) (hs25 : S 25 = some (0, 2, [(3, 6), (3, p), (0, 0)])) (hs6 : S 6 = some (0, 8, [(3, 7), (3, 9), (3, 11), (3, 13), (3, 15), (3, 17), (3, 19), (3, 21), (3, 22), (3, 1), (0, 0), (0, 0), (0, 0)])) {w0 : rt_Wd} {v1 : Int} {v2 : Int} {v3 : Int} {v4 : Int} {v5 : Int}   {M : zM} {Q : Int → zM → Prop} {X : zM → Prop} (h : zt_X2_putItems_47 l s0 G ca d C S w0 p v1 v2 v3 v4 v5 M Q X) : zg_X2_putItems_47 l s0 G ca d C S w0 p v1 v2 v3 v4 v5 M Q X := by
  unfold zt_X2_putItems_47 at h
  refine z_aload_n dX2_putItems_47 rfl (j := 0) rfl ?_
  refine z_getc Γ kf_RX2_15 dX2_putItems_48 (by decide) hs25 rfl ?_
  refine z_iload_n dX2_putItems_51 rfl (j := 1) rfl ?_
  refine z_callV Γ kk_X8_first kc_RX2_85 (As := [zv s0 0 v1]) (z_X8_first (d := d - 1) Γ (by omega) hok hs hs6 (M := M) (Q := fun v9 M9 => v9 = ((zat M 14 2073 v1)) ∧ M9 = M) (X := X) (show _ ∧ _ from ⟨rfl, rfl⟩)) (by omega) (by decide) (show (parseMethodDescriptor yX8_first.desc).map (fun q => q.parameters.length) = some 1 by decide +kernel) hok (Nat.zero_le _) dX2_putItems_52 (by decide) hs6 rfl rfl (fun _ h9 => nomatch h9) ?_
  rintro v9 M9 ⟨e9, e8⟩
  rw [e9, e8]
  clear e9 e8 v9 M9
  show rt_Go _ _ _ _ _ _ _ _ _ _ _ _ 55 [(0, zv s0 2 25), (1, zv s0 0 v1), (2, zv s0 0 v2), (3, zv s0 0 v3), (4, zv s0 0 v4), (5, zv s0 0 v5)] [zv s0 0 (((zat M 14 2073 v1)))] (zw s0 ca C S M)
  refine z_istore (i := 6) (lv' := [(6, zv s0 0 (((zat M 14 2073 v1)))), (0, zv s0 2 25), (1, zv s0 0 v1), (2, zv s0 0 v2), (3, zv s0 0 v3), (4, zv s0 0 v4), (5, zv s0 0 v5)]) dX2_putItems_55 (by decide) (by simp [zv_cat0, zv_cat1, zv_cat2, zv_cats]) ?_
  refine z_iconst dX2_putItems_57 ?_
  refine z_istore (i := 7) (lv' := [(7, zv s0 0 0), (6, zv s0 0 (((zat M 14 2073 v1)))), (0, zv s0 2 25), (1, zv s0 0 v1), (2, zv s0 0 v2), (3, zv s0 0 v3), (4, zv s0 0 v4), (5, zv s0 0 v5)]) dX2_putItems_58 (by decide) (by simp [zv_cat0, zv_cat1, zv_cat2, zv_cats]) ?_
  exact rt_lfew [2, 4, 5, 6, 7, 1, 0] rfl h

def zt_X2_putItems_128 (l : Launch) (s0 : State) (G : va_G) (ca : Nat → ClassId) (d : Nat) (C : Nat × Nat) (S : zS) (w0 : rt_Wd) (p : Int)   (M : zM) (Q : Int → zM → Prop) (X : zM → Prop) : Prop :=
  ∃ (ad1 : Int) (nd1 : Nat), zCe S ((p + 23)) ad1 nd1 ∧ (zm_X0_addVarint l s0 G ca (d - 1) C S ((p + 23)) 0 M (fun r136 M136 => Q 0 M136) X)
set_option maxRecDepth 100000 in
theorem zs_X2_putItems_128 {l : Launch} {s0 : State} {a0 : Array Value} {G : va_G} {ca : Nat → ClassId} (Γ : rt_Γ l s0 a0 G ca) {d : Nat} {C : Nat × Nat} {S : zS} (hd : 2 ≤ d) (hok : zok C) {p : Int} (hs : zSok S) (hp : zSc S p) (hs25 : S 25 = some (0, 2, [(3, 6), (3, p), (0, 0)])) (hs6 : S 6 = some (0, 8, [(3, 7), (3, 9), (3, 11), (3, 13), (3, 15), (3, 17), (3, 19), (3, 21), (3, 22), (3, 1), (0, 0), (0, 0), (0, 0)])) {w0 : rt_Wd}    {M : zM} {Q : Int → zM → Prop} {X : zM → Prop} (h : zt_X2_putItems_128 l s0 G ca d C S w0 p  M Q X) : zg_X2_putItems_128 l s0 G ca d C S w0 p  M Q X := by
  unfold zt_X2_putItems_128 at h
  refine z_aload_n dX2_putItems_128 rfl (j := 0) rfl ?_
  refine z_getc Γ kf_RX2_19 dX2_putItems_129 (by decide) hs25 rfl ?_
  refine z_callV Γ kk_X6_defaults kc_RX2_23 (As := []) (z_X6_defaults (d := d - 1) Γ hok hp (M := M) (Q := fun v9 M9 => v9 = (p + 23) ∧ M9 = M) (X := X) (show _ ∧ _ from ⟨rfl, rfl⟩)) (by omega) (by decide) (show (parseMethodDescriptor yX6_defaults.desc).map (fun q => q.parameters.length) = some 0 by decide +kernel) hok (Nat.zero_le _) dX2_putItems_132 hp.1 hp.2.1 rfl rfl (fun _ h9 => nomatch h9) ?_
  rintro v9 M9 ⟨e9, e8⟩
  rw [e9, e8]
  clear e9 e8 v9 M9
  show rt_Go _ _ _ _ _ _ _ _ _ _ _ _ 135 [(0, zv s0 2 25)] [zv s0 2 ((p + 23))] (zw s0 ca C S M)
  refine z_lconst (v := 0) dX2_putItems_135 (by decide) ?_
  obtain ⟨ad1, nd1, hk0, h⟩ := h
  refine z_callV Γ kk_X0_addVarint kc_RX2_54 (As := [zv s0 1 0]) h (by omega) (by decide) (show (parseMethodDescriptor yX0_addVarint.desc).map (fun q => q.parameters.length) = some 1 by decide +kernel) hok (Nat.zero_le _) dX2_putItems_136 (hk0 : zCe S ((p + 23)) ad1 nd1).1 (hk0 : zCe S ((p + 23)) ad1 nd1).2.2.2.1 rfl rfl (fun _ h9 => nomatch h9) ?_
  clear h
  intro r136 M136 h
  show rt_Go _ _ _ _ _ _ _ _ _ _ _ _ 139 [(0, zv s0 2 25)] [zv s0 0 r136] (zw s0 ca C S M136)
  refine z_pop0 dX2_putItems_139 ?_
  exact z_vret dX2_putItems_140 rfl h

def zt_X2_putItems_93 (l : Launch) (s0 : State) (G : va_G) (ca : Nat → ClassId) (d : Nat) (C : Nat × Nat) (S : zS) (w0 : rt_Wd) (p : Int) (v2 : Int) (v3 : Int) (v4 : Int) (v5 : Int) (v6 : Int) (v7 : Int)  (M : zM) (Q : Int → zM → Prop) (X : zM → Prop) : Prop :=
  zm_X2_put l s0 G ca (d - 1) C S v6 (((zat M (p + 6) 134 v2))) (v4 + 1) M (fun r108 M108 => zg_X2_putItems_60 l s0 G ca d C S w0 p v2 v3 v4 v5 (((zat M108 12 2073 v6))) (v7 + 1) M108 Q X) X
set_option maxRecDepth 100000 in
theorem zs_X2_putItems_93 {l : Launch} {s0 : State} {a0 : Array Value} {G : va_G} {ca : Nat → ClassId} (Γ : rt_Γ l s0 a0 G ca) {d : Nat} {C : Nat × Nat} {S : zS} (hd : 2 ≤ d) (hok : zok C) {p : Int} (hs : zSok S) (hp : zSc S p) (hs25 : S 25 = some (0, 2, [(3, 6), (3, p), (0, 0)])) (hs6 : S 6 = some (0, 8, [(3, 7), (3, 9), (3, 11), (3, 13), (3, 15), (3, 17), (3, 19), (3, 21), (3, 22), (3, 1), (0, 0), (0, 0), (0, 0)])) {w0 : rt_Wd} {v2 : Int} {v3 : Int} {v4 : Int} {v5 : Int} {v6 : Int} {v7 : Int}   {M : zM} {Q : Int → zM → Prop} {X : zM → Prop} (h : zt_X2_putItems_93 l s0 G ca d C S w0 p v2 v3 v4 v5 v6 v7 M Q X) : zg_X2_putItems_93 l s0 G ca d C S w0 p v2 v3 v4 v5 v6 v7 M Q X := by
  unfold zt_X2_putItems_93 at h
  refine z_aload_n dX2_putItems_93 rfl (j := 0) rfl ?_
  refine z_iload dX2_putItems_94 (j := 5) rfl ?_
  refine z_aload_n dX2_putItems_96 rfl (j := 0) rfl ?_
  refine z_getc Γ kf_RX2_19 dX2_putItems_97 (by decide) hs25 rfl ?_
  refine z_iload_n dX2_putItems_100 rfl (j := 1) rfl ?_
  refine z_callV Γ kk_X6_item kc_RX2_94 (As := [zv s0 0 v2]) (z_X6_item (d := d - 1) Γ (by omega) hok hp (M := M) (Q := fun v9 M9 => v9 = ((zat M (p + 6) 134 v2)) ∧ M9 = M) (X := X) (show _ ∧ _ from ⟨rfl, rfl⟩)) (by omega) (by decide) (show (parseMethodDescriptor yX6_item.desc).map (fun q => q.parameters.length) = some 1 by decide +kernel) hok (by simp only [List.map, zv_cat0, zv_cat1, zv_cat2, List.sum_cons, List.sum_nil]; decide) dX2_putItems_101 hp.1 hp.2.1 rfl rfl (fun _ h9 => nomatch h9) ?_
  rintro v9 M9 ⟨e9, e8⟩
  rw [e9, e8]
  clear e9 e8 v9 M9
  show rt_Go _ _ _ _ _ _ _ _ _ _ _ _ 104 [(0, zv s0 2 25), (2, zv s0 0 v2), (3, zv s0 0 v3), (4, zv s0 0 v4), (5, zv s0 0 v5), (6, zv s0 0 v6), (7, zv s0 0 v7)] [zv s0 0 (((zat M (p + 6) 134 v2))), zv s0 0 v6, zv s0 2 25] (zw s0 ca C S M)
  refine z_iload dX2_putItems_104 (j := 3) rfl ?_
  refine z_iconst dX2_putItems_106 ?_
  refine z_iadd dX2_putItems_107 ?_
  refine z_callV Γ kk_X2_put kc_RX2_39 (As := [zv s0 0 v6, zv s0 0 (((zat M (p + 6) 134 v2))), zv s0 0 (v4 + 1)]) h (by omega) (by decide) (show (parseMethodDescriptor yX2_put.desc).map (fun q => q.parameters.length) = some 3 by decide +kernel) hok (Nat.zero_le _) dX2_putItems_108 (by decide) hs25 rfl rfl (fun _ h9 => nomatch h9) ?_
  clear h
  intro r108 M108 h
  show rt_Go _ _ _ _ _ _ _ _ _ _ _ _ 111 [(0, zv s0 2 25), (2, zv s0 0 v2), (3, zv s0 0 v3), (4, zv s0 0 v4), (5, zv s0 0 v5), (6, zv s0 0 v6), (7, zv s0 0 v7)] [] (zw s0 ca C S M108)
  refine z_aload_n dX2_putItems_111 rfl (j := 0) rfl ?_
  refine z_getc Γ kf_RX2_15 dX2_putItems_112 (by decide) hs25 rfl ?_
  refine z_iload dX2_putItems_115 (j := 5) rfl ?_
  refine z_callV Γ kk_X8_next kc_RX2_97 (As := [zv s0 0 v6]) (z_X8_next (d := d - 1) Γ (by omega) hok hs hs6 (M := M108) (Q := fun v9 M9 => v9 = ((zat M108 12 2073 v6)) ∧ M9 = M108) (X := X) (show _ ∧ _ from ⟨rfl, rfl⟩)) (by omega) (by decide) (show (parseMethodDescriptor yX8_next.desc).map (fun q => q.parameters.length) = some 1 by decide +kernel) hok (Nat.zero_le _) dX2_putItems_117 (by decide) hs6 rfl rfl (fun _ h9 => nomatch h9) ?_
  rintro v9 M9 ⟨e9, e8⟩
  rw [e9, e8]
  clear e9 e8 v9 M9
  show rt_Go _ _ _ _ _ _ _ _ _ _ _ _ 120 [(0, zv s0 2 25), (2, zv s0 0 v2), (3, zv s0 0 v3), (4, zv s0 0 v4), (5, zv s0 0 v5), (6, zv s0 0 v6), (7, zv s0 0 v7)] [zv s0 0 (((zat M108 12 2073 v6)))] (zw s0 ca C S M108)
  refine z_istore (i := 6) (lv' := [(6, zv s0 0 (((zat M108 12 2073 v6)))), (0, zv s0 2 25), (2, zv s0 0 v2), (3, zv s0 0 v3), (4, zv s0 0 v4), (5, zv s0 0 v5), (7, zv s0 0 v7)]) dX2_putItems_120 (by decide) (by simp [zv_cat0, zv_cat1, zv_cat2, zv_cats]) ?_
  refine z_iinc (lv' := [(7, zv s0 0 (v7 + 1)), (6, zv s0 0 (((zat M108 12 2073 v6)))), (0, zv s0 2 25), (2, zv s0 0 v2), (3, zv s0 0 v3), (4, zv s0 0 v4), (5, zv s0 0 v5)]) dX2_putItems_122 (j := 6) rfl (by decide) (by simp [zv_cat0, zv_cat1, zv_cat2, zv_cats]) ?_
  refine rt_goto (tgt := 60) dX2_putItems_125 (by decide) ?_
  exact rt_lfew [2, 3, 4, 5, 6, 1, 0] rfl h

def zt_X2_putItems_60 (l : Launch) (s0 : State) (G : va_G) (ca : Nat → ClassId) (d : Nat) (C : Nat × Nat) (S : zS) (w0 : rt_Wd) (p : Int) (v2 : Int) (v3 : Int) (v4 : Int) (v5 : Int) (v6 : Int) (v7 : Int)  (M : zM) (Q : Int → zM → Prop) (X : zM → Prop) : Prop :=
  zIf (w32 v5 ≤ w32 v7) (zt_X2_putItems_128 l s0 G ca d C S w0 p  M Q X) (zIf (w32 (M 25 2) = ((-1))) (zIf (w32 v3 = 1) (zm_X2_putString l s0 G ca (d - 1) C S (((zat M 20 2073 v6))) M (fun r90 M90 => zt_X2_putItems_93 l s0 G ca d C S w0 p v2 v3 v4 v5 v6 v7 M90 Q X) X) (zt_X2_putItems_93 l s0 G ca d C S w0 p v2 v3 v4 v5 v6 v7 M Q X)) (zt_X2_putItems_128 l s0 G ca d C S w0 p  M Q X))
set_option maxRecDepth 100000 in
theorem zs_X2_putItems_60 {l : Launch} {s0 : State} {a0 : Array Value} {G : va_G} {ca : Nat → ClassId} (Γ : rt_Γ l s0 a0 G ca) {d : Nat} {C : Nat × Nat} {S : zS} (hd : 2 ≤ d) (hok : zok C) {p : Int} (hs : zSok S) (hp : zSc S p) (hs25 : S 25 = some (0, 2, [(3, 6), (3, p), (0, 0)])) (hs6 : S 6 = some (0, 8, [(3, 7), (3, 9), (3, 11), (3, 13), (3, 15), (3, 17), (3, 19), (3, 21), (3, 22), (3, 1), (0, 0), (0, 0), (0, 0)])) {w0 : rt_Wd} {v2 : Int} {v3 : Int} {v4 : Int} {v5 : Int} {v6 : Int} {v7 : Int}   {M : zM} {Q : Int → zM → Prop} {X : zM → Prop} (h : zt_X2_putItems_60 l s0 G ca d C S w0 p v2 v3 v4 v5 v6 v7 M Q X) : zg_X2_putItems_60 l s0 G ca d C S w0 p v2 v3 v4 v5 v6 v7 M Q X := by
  unfold zt_X2_putItems_60 at h
  refine z_iload dX2_putItems_60 (j := 6) rfl ?_
  refine z_iload dX2_putItems_62 (j := 4) rfl ?_
  refine z_icmp_ge (tgt := 128) (x' := w32 v7) (y' := w32 v5) rfl rfl dX2_putItems_64 (by decide) (fun c64 => ?_) (fun c64 => ?_)
  · replace h := h.1 c64
    exact rt_lfew [0] rfl (zs_X2_putItems_128 Γ hd hok hs hp hs25 hs6  h)
  · replace h := h.2 c64
    refine z_aload_n dX2_putItems_67 rfl (j := 0) rfl ?_
    refine z_get Γ kf_RX2_9 dX2_putItems_68 (by decide) hs25 rfl (by decide) (v9 := M 25 2) rfl ?_
    refine z_iconst dX2_putItems_71 ?_
    refine z_icmp_ne (tgt := 128) (x' := w32 (M 25 2)) (y' := ((-1))) rfl (by decide) dX2_putItems_72 (by decide) (fun c72 => ?_) (fun c72 => ?_)
    · replace h := h.2 c72
      exact rt_lfew [0] rfl (zs_X2_putItems_128 Γ hd hok hs hp hs25 hs6  h)
    · replace h := h.1 c72
      refine z_iload_n dX2_putItems_75 rfl (j := 2) rfl ?_
      refine z_iconst dX2_putItems_76 ?_
      refine z_icmp_ne (tgt := 93) (x' := w32 v3) (y' := 1) rfl (by decide) dX2_putItems_77 (by decide) (fun c77 => ?_) (fun c77 => ?_)
      · replace h := h.2 c77
        exact rt_lfew [0, 1, 2, 3, 4, 5, 6] rfl (zs_X2_putItems_93 Γ hd hok hs hp hs25 hs6  h)
      · replace h := h.1 c77
        refine z_aload_n dX2_putItems_80 rfl (j := 0) rfl ?_
        refine z_aload_n dX2_putItems_81 rfl (j := 0) rfl ?_
        refine z_getc Γ kf_RX2_15 dX2_putItems_82 (by decide) hs25 rfl ?_
        refine z_iload dX2_putItems_85 (j := 5) rfl ?_
        refine z_callV Γ kk_X8_key kc_RX2_88 (As := [zv s0 0 v6]) (z_X8_key (d := d - 1) Γ (by omega) hok hs hs6 (M := M) (Q := fun v9 M9 => v9 = ((zat M 20 2073 v6)) ∧ M9 = M) (X := X) (show _ ∧ _ from ⟨rfl, rfl⟩)) (by omega) (by decide) (show (parseMethodDescriptor yX8_key.desc).map (fun q => q.parameters.length) = some 1 by decide +kernel) hok (by simp only [List.map, zv_cat0, zv_cat1, zv_cat2, List.sum_cons, List.sum_nil]; decide) dX2_putItems_87 (by decide) hs6 rfl rfl (fun _ h9 => nomatch h9) ?_
        rintro v9 M9 ⟨e9, e8⟩
        rw [e9, e8]
        clear e9 e8 v9 M9
        show rt_Go _ _ _ _ _ _ _ _ _ _ _ _ 90 [(0, zv s0 2 25), (2, zv s0 0 v2), (3, zv s0 0 v3), (4, zv s0 0 v4), (5, zv s0 0 v5), (6, zv s0 0 v6), (7, zv s0 0 v7)] [zv s0 0 (((zat M 20 2073 v6))), zv s0 2 25] (zw s0 ca C S M)
        refine z_callV Γ kk_X2_putString kc_RX2_91 (As := [zv s0 0 (((zat M 20 2073 v6)))]) h (by omega) (by decide) (show (parseMethodDescriptor yX2_putString.desc).map (fun q => q.parameters.length) = some 1 by decide +kernel) hok (Nat.zero_le _) dX2_putItems_90 (by decide) hs25 rfl rfl (fun _ h9 => nomatch h9) ?_
        clear h
        intro r90 M90 h
        show rt_Go _ _ _ _ _ _ _ _ _ _ _ _ 93 [(0, zv s0 2 25), (2, zv s0 0 v2), (3, zv s0 0 v3), (4, zv s0 0 v4), (5, zv s0 0 v5), (6, zv s0 0 v6), (7, zv s0 0 v7)] [] (zw s0 ca C S M90)
        exact rt_lfew [0, 1, 2, 3, 4, 5, 6] rfl (zs_X2_putItems_93 Γ hd hok hs hp hs25 hs6  h)

def zt_X2_putItems (l : Launch) (s0 : State) (G : va_G) (ca : Nat → ClassId) (d : Nat) (C : Nat × Nat) (S : zS) (w0 : rt_Wd) (p : Int) (v : Int) (s : Int) (k : Int) (e : Int) (M : zM) (Q : Int → zM → Prop) (X : zM → Prop) : Prop :=
  zIf (w32 (((zat M 8 2073 v))) = w32 k) (zIf (w32 (((zat M 16 2073 v))) ≤ 0) (zt_X2_putItems_47 l s0 G ca d C S w0 p v s k e (((zat M 16 2073 v))) M Q X) (∃ (ad1 : Int) (nd1 : Nat), zCe S ((p + 23)) ad1 nd1 ∧ (zm_X0_addVarint l s0 G ca (d - 1) C S ((p + 23)) (w32 (((zat M 16 2073 v)))) M (fun r43 M43 => zt_X2_putItems_47 l s0 G ca d C S w0 p v s k e (((zat M 16 2073 v))) M43 Q X) X))) (zm_X2_misfit l s0 G ca (d - 1) C S v M (fun r14 M14 => Q 0 M14) X)
set_option maxRecDepth 100000 in
theorem z_X2_putItems {l : Launch} {s0 : State} {a0 : Array Value} {G : va_G} {ca : Nat → ClassId} (Γ : rt_Γ l s0 a0 G ca) {d : Nat} {C : Nat × Nat} {S : zS} (hd : 2 ≤ d) (hok : zok C) {p : Int} (hs : zSok S) (hp : zSc S p) (hs25 : S 25 = some (0, 2, [(3, 6), (3, p), (0, 0)])) (hs6 : S 6 = some (0, 8, [(3, 7), (3, 9), (3, 11), (3, 13), (3, 15), (3, 17), (3, 19), (3, 21), (3, 22), (3, 1), (0, 0), (0, 0), (0, 0)])) {v : Int} {s : Int} {k : Int} {e : Int} {M : zM} {Q : Int → zM → Prop} {X : zM → Prop} (h : zt_X2_putItems l s0 G ca d C S (zw s0 ca C S M) p v s k e M Q X) : zm_X2_putItems l s0 G ca d C S  v s k e M Q X := by
  refine z_met (lv := [(0, zv s0 2 25), (1, zv s0 0 v), (2, zv s0 0 s), (3, zv s0 0 k), (4, zv s0 0 e)]) Γ kk_X2_putItems rfl (show (lg_sl [zv s0 2 25, zv s0 0 v, zv s0 0 s, zv s0 0 k, zv s0 0 e]).length ≤ 8 from by simp only [zn_0, zn_2, show (lg_sl []).length = 0 from rfl]; omega) (show lv_args 0 [zv s0 2 25, zv s0 0 v, zv s0 0 s, zv s0 0 k, zv s0 0 e] = [(0, zv s0 2 25), (1, zv s0 0 v), (2, zv s0 0 s), (3, zv s0 0 k), (4, zv s0 0 e)] from by rw [zl_2, zl_0, zl_0, zl_0, zl_0]; rfl) ?_
  unfold zt_X2_putItems at h
  refine z_aload_n dX2_putItems_0 rfl (j := 0) rfl ?_
  refine z_getc Γ kf_RX2_15 dX2_putItems_1 (by decide) hs25 rfl ?_
  refine z_iload_n dX2_putItems_4 rfl (j := 1) rfl ?_
  refine z_callV Γ kk_X8_kind kc_RX2_81 (As := [zv s0 0 v]) (z_X8_kind (d := d - 1) Γ (by omega) hok hs hs6 (M := M) (Q := fun v9 M9 => v9 = ((zat M 8 2073 v)) ∧ M9 = M) (X := X) (show _ ∧ _ from ⟨rfl, rfl⟩)) (by omega) (by decide) (show (parseMethodDescriptor yX8_kind.desc).map (fun q => q.parameters.length) = some 1 by decide +kernel) hok (Nat.zero_le _) dX2_putItems_5 (by decide) hs6 rfl rfl (fun _ h9 => nomatch h9) ?_
  rintro v9 M9 ⟨e9, e8⟩
  rw [e9, e8]
  clear e9 e8 v9 M9
  show rt_Go _ _ _ _ _ _ _ _ _ _ _ _ 8 [(0, zv s0 2 25), (1, zv s0 0 v), (2, zv s0 0 s), (3, zv s0 0 k), (4, zv s0 0 e)] [zv s0 0 (((zat M 8 2073 v)))] (zw s0 ca C S M)
  refine z_iload_n dX2_putItems_8 rfl (j := 3) rfl ?_
  refine z_icmp_eq (tgt := 18) (x' := w32 (((zat M 8 2073 v)))) (y' := w32 k) rfl rfl dX2_putItems_9 (by decide) (fun c9 => ?_) (fun c9 => ?_)
  · replace h := h.1 c9
    refine z_aload_n dX2_putItems_18 rfl (j := 0) rfl ?_
    refine z_getc Γ kf_RX2_15 dX2_putItems_19 (by decide) hs25 rfl ?_
    refine z_iload_n dX2_putItems_22 rfl (j := 1) rfl ?_
    refine z_callV Γ kk_X8_parts kc_RX2_82 (As := [zv s0 0 v]) (z_X8_parts (d := d - 1) Γ (by omega) hok hs hs6 (M := M) (Q := fun v9 M9 => v9 = ((zat M 16 2073 v)) ∧ M9 = M) (X := X) (show _ ∧ _ from ⟨rfl, rfl⟩)) (by omega) (by decide) (show (parseMethodDescriptor yX8_parts.desc).map (fun q => q.parameters.length) = some 1 by decide +kernel) hok (Nat.zero_le _) dX2_putItems_23 (by decide) hs6 rfl rfl (fun _ h9 => nomatch h9) ?_
    rintro v9 M9 ⟨e9, e8⟩
    rw [e9, e8]
    clear e9 e8 v9 M9
    show rt_Go _ _ _ _ _ _ _ _ _ _ _ _ 26 [(0, zv s0 2 25), (1, zv s0 0 v), (2, zv s0 0 s), (3, zv s0 0 k), (4, zv s0 0 e)] [zv s0 0 (((zat M 16 2073 v)))] (zw s0 ca C S M)
    refine z_istore (i := 5) (lv' := [(5, zv s0 0 (((zat M 16 2073 v)))), (0, zv s0 2 25), (1, zv s0 0 v), (2, zv s0 0 s), (3, zv s0 0 k), (4, zv s0 0 e)]) dX2_putItems_26 (by decide) (by simp [zv_cat0, zv_cat1, zv_cat2, zv_cats]) ?_
    refine z_iload dX2_putItems_28 (j := 0) rfl ?_
    refine z_if_le (tgt := 47) (x' := w32 (((zat M 16 2073 v)))) rfl dX2_putItems_30 (by decide) (fun c30 => ?_) (fun c30 => ?_)
    · replace h := h.1 c30
      exact rt_lfew [1, 2, 3, 4, 5, 0] rfl (zs_X2_putItems_47 Γ hd hok hs hp hs25 hs6  h)
    · replace h := h.2 c30
      refine z_aload_n dX2_putItems_33 rfl (j := 1) rfl ?_
      refine z_getc Γ kf_RX2_19 dX2_putItems_34 (by decide) hs25 rfl ?_
      refine z_callV Γ kk_X6_defaults kc_RX2_23 (As := []) (z_X6_defaults (d := d - 1) Γ hok hp (M := M) (Q := fun v9 M9 => v9 = (p + 23) ∧ M9 = M) (X := X) (show _ ∧ _ from ⟨rfl, rfl⟩)) (by omega) (by decide) (show (parseMethodDescriptor yX6_defaults.desc).map (fun q => q.parameters.length) = some 0 by decide +kernel) hok (Nat.zero_le _) dX2_putItems_37 hp.1 hp.2.1 rfl rfl (fun _ h9 => nomatch h9) ?_
      rintro v9 M9 ⟨e9, e8⟩
      rw [e9, e8]
      clear e9 e8 v9 M9
      show rt_Go _ _ _ _ _ _ _ _ _ _ _ _ 40 [(5, zv s0 0 (((zat M 16 2073 v)))), (0, zv s0 2 25), (1, zv s0 0 v), (2, zv s0 0 s), (3, zv s0 0 k), (4, zv s0 0 e)] [zv s0 2 ((p + 23))] (zw s0 ca C S M)
      refine z_iload dX2_putItems_40 (j := 0) rfl ?_
      refine z_i2l dX2_putItems_42 ?_
      obtain ⟨ad1, nd1, hk0, h⟩ := h
      refine z_callV Γ kk_X0_addVarint kc_RX2_54 (As := [zv s0 1 (w32 (((zat M 16 2073 v))))]) h (by omega) (by decide) (show (parseMethodDescriptor yX0_addVarint.desc).map (fun q => q.parameters.length) = some 1 by decide +kernel) hok (Nat.zero_le _) dX2_putItems_43 (hk0 : zCe S ((p + 23)) ad1 nd1).1 (hk0 : zCe S ((p + 23)) ad1 nd1).2.2.2.1 rfl rfl (fun _ h9 => nomatch h9) ?_
      clear h
      intro r43 M43 h
      show rt_Go _ _ _ _ _ _ _ _ _ _ _ _ 46 [(5, zv s0 0 (((zat M 16 2073 v)))), (0, zv s0 2 25), (1, zv s0 0 v), (2, zv s0 0 s), (3, zv s0 0 k), (4, zv s0 0 e)] [zv s0 0 r43] (zw s0 ca C S M43)
      refine z_pop0 dX2_putItems_46 ?_
      exact rt_lfew [1, 2, 3, 4, 5, 0] rfl (zs_X2_putItems_47 Γ hd hok hs hp hs25 hs6  h)
  · replace h := h.2 c9
    refine z_aload_n dX2_putItems_12 rfl (j := 0) rfl ?_
    refine z_iload_n dX2_putItems_13 rfl (j := 1) rfl ?_
    refine z_callV Γ kk_X2_misfit kc_RX2_62 (As := [zv s0 0 v]) h (by omega) (by decide) (show (parseMethodDescriptor yX2_misfit.desc).map (fun q => q.parameters.length) = some 1 by decide +kernel) hok (Nat.zero_le _) dX2_putItems_14 (by decide) hs25 rfl rfl (fun _ h9 => nomatch h9) ?_
    clear h
    intro r14 M14 h
    show rt_Go _ _ _ _ _ _ _ _ _ _ _ _ 17 [(0, zv s0 2 25), (1, zv s0 0 v), (2, zv s0 0 s), (3, zv s0 0 k), (4, zv s0 0 e)] [] (zw s0 ca C S M14)
    exact z_vret dX2_putItems_17 rfl h

abbrev zg_X2_put_41 (l : Launch) (s0 : State) (G : va_G) (ca : Nat → ClassId) (d : Nat) (C : Nat × Nat) (S : zS) (w0 : rt_Wd) (p : Int) (v1 : Int) (v3 : Int) (v4 : Int)  (M : zM) (Q : Int → zM → Prop) (X : zM → Prop) : Prop := rt_Go l s0 G RX2 "put" cX2_put 6 (Option.none : Option FieldType) [] d w0 (zQ s0 ca 9 C S Q X) 41 [(0, zv s0 2 25), (1, zv s0 0 v1), (3, zv s0 0 v3), (4, zv s0 0 v4)] [] (zw s0 ca C S M)
def zt_X2_put_41 (l : Launch) (s0 : State) (G : va_G) (ca : Nat → ClassId) (d : Nat) (C : Nat × Nat) (S : zS) (w0 : rt_Wd) (p : Int) (v1 : Int) (v3 : Int) (v4 : Int)  (M : zM) (Q : Int → zM → Prop) (X : zM → Prop) : Prop :=
  zIf (w32 v3 ≤ 24) (zIf (w32 (((zat M (p + 2) 134 v4))) = 6) (zm_X2_putItems l s0 G ca (d - 1) C S v1 v4 2 v3 M (fun r79 M79 => Q 0 M79) X) (zIf (w32 (((zat M (p + 2) 134 v4))) = 7) (zm_X2_putItems l s0 G ca (d - 1) C S v1 v4 1 v3 M (fun r98 M98 => Q 0 M98) X) (zIf (w32 (((zat M (p + 2) 134 v4))) = 11) (zm_X2_putFields l s0 G ca (d - 1) C S v1 v4 v3 M (fun r116 M116 => Q 0 M116) X) (zm_X2_suits l s0 G ca (d - 1) C S v1 v4 M (fun r126 M126 => zIf (w32 r126 = 0) (zm_X2_misfit l s0 G ca (d - 1) C S v1 M126 (fun r144 M144 => Q 0 M144) X) (zm_X2_putPlain l s0 G ca (d - 1) C S v1 v4 M126 (fun r136 M136 => Q 0 M136) X)) X)))) (zm_X2_misfit l s0 G ca (d - 1) C S v1 M (fun r60 M60 => Q 0 M60) X)
set_option maxRecDepth 100000 in
theorem zs_X2_put_41 {l : Launch} {s0 : State} {a0 : Array Value} {G : va_G} {ca : Nat → ClassId} (Γ : rt_Γ l s0 a0 G ca) {d : Nat} {C : Nat × Nat} {S : zS} (hd : 2 ≤ d) (hok : zok C) {p : Int} (hs : zSok S) (hp : zSc S p) (hs25 : S 25 = some (0, 2, [(3, 6), (3, p), (0, 0)])) (hs6 : S 6 = some (0, 8, [(3, 7), (3, 9), (3, 11), (3, 13), (3, 15), (3, 17), (3, 19), (3, 21), (3, 22), (3, 1), (0, 0), (0, 0), (0, 0)])) {w0 : rt_Wd} {v1 : Int} {v3 : Int} {v4 : Int}   {M : zM} {Q : Int → zM → Prop} {X : zM → Prop} (h : zt_X2_put_41 l s0 G ca d C S w0 p v1 v3 v4 M Q X) : zg_X2_put_41 l s0 G ca d C S w0 p v1 v3 v4 M Q X := by
  unfold zt_X2_put_41 at h
  refine z_aload_n dX2_put_41 rfl (j := 0) rfl ?_
  refine z_getc Γ kf_RX2_19 dX2_put_42 (by decide) hs25 rfl ?_
  refine z_iload dX2_put_45 (j := 3) rfl ?_
  refine z_callV Γ kk_X6_kind kc_RX2_51 (As := [zv s0 0 v4]) (z_X6_kind (d := d - 1) Γ (by omega) hok hp (M := M) (Q := fun v9 M9 => v9 = ((zat M (p + 2) 134 v4)) ∧ M9 = M) (X := X) (show _ ∧ _ from ⟨rfl, rfl⟩)) (by omega) (by decide) (show (parseMethodDescriptor yX6_kind.desc).map (fun q => q.parameters.length) = some 1 by decide +kernel) hok (Nat.zero_le _) dX2_put_47 hp.1 hp.2.1 rfl rfl (fun _ h9 => nomatch h9) ?_
  rintro v9 M9 ⟨e9, e8⟩
  rw [e9, e8]
  clear e9 e8 v9 M9
  show rt_Go _ _ _ _ _ _ _ _ _ _ _ _ 50 [(0, zv s0 2 25), (1, zv s0 0 v1), (3, zv s0 0 v3), (4, zv s0 0 v4)] [zv s0 0 (((zat M (p + 2) 134 v4)))] (zw s0 ca C S M)
  refine z_istore (i := 5) (lv' := [(5, zv s0 0 (((zat M (p + 2) 134 v4)))), (0, zv s0 2 25), (1, zv s0 0 v1), (3, zv s0 0 v3), (4, zv s0 0 v4)]) dX2_put_50 (by decide) (by simp [zv_cat0, zv_cat1, zv_cat2, zv_cats]) ?_
  refine z_iload_n dX2_put_52 rfl (j := 3) rfl ?_
  refine z_bipush dX2_put_53 (by decide) ?_
  refine z_icmp_le (tgt := 66) (x' := w32 v3) (y' := 24) rfl (by decide) dX2_put_55 (by decide) (fun c55 => ?_) (fun c55 => ?_)
  · replace h := h.1 c55
    refine z_iload dX2_put_66 (j := 0) rfl ?_
    refine z_bipush dX2_put_68 (by decide) ?_
    refine z_icmp_ne (tgt := 85) (x' := w32 (((zat M (p + 2) 134 v4)))) (y' := 6) rfl (by decide) dX2_put_70 (by decide) (fun c70 => ?_) (fun c70 => ?_)
    · replace h := h.2 c70
      refine z_iload dX2_put_85 (j := 0) rfl ?_
      refine z_bipush dX2_put_87 (by decide) ?_
      refine z_icmp_ne (tgt := 104) (x' := w32 (((zat M (p + 2) 134 v4)))) (y' := 7) rfl (by decide) dX2_put_89 (by decide) (fun c89 => ?_) (fun c89 => ?_)
      · replace h := h.2 c89
        refine z_iload dX2_put_104 (j := 0) rfl ?_
        refine z_bipush dX2_put_106 (by decide) ?_
        refine z_icmp_ne (tgt := 122) (x' := w32 (((zat M (p + 2) 134 v4)))) (y' := 11) rfl (by decide) dX2_put_108 (by decide) (fun c108 => ?_) (fun c108 => ?_)
        · replace h := h.2 c108
          refine z_aload_n dX2_put_122 rfl (j := 1) rfl ?_
          refine z_iload_n dX2_put_123 rfl (j := 2) rfl ?_
          refine z_iload dX2_put_124 (j := 4) rfl ?_
          refine z_callV Γ kk_X2_suits kc_RX2_73 (As := [zv s0 0 v1, zv s0 0 v4]) h (by omega) (by decide) (show (parseMethodDescriptor yX2_suits.desc).map (fun q => q.parameters.length) = some 2 by decide +kernel) hok (Nat.zero_le _) dX2_put_126 (by decide) hs25 rfl rfl (fun _ h9 => nomatch h9) ?_
          clear h
          intro r126 M126 h
          show rt_Go _ _ _ _ _ _ _ _ _ _ _ _ 129 [(5, zv s0 0 (((zat M (p + 2) 134 v4)))), (0, zv s0 2 25), (1, zv s0 0 v1), (3, zv s0 0 v3), (4, zv s0 0 v4)] [zv s0 0 r126] (zw s0 ca C S M126)
          refine z_if_eq (tgt := 142) (x' := w32 r126) rfl dX2_put_129 (by decide) (fun c129 => ?_) (fun c129 => ?_)
          · replace h := h.1 c129
            refine z_aload_n dX2_put_142 rfl (j := 1) rfl ?_
            refine z_iload_n dX2_put_143 rfl (j := 2) rfl ?_
            refine z_callV Γ kk_X2_misfit kc_RX2_62 (As := [zv s0 0 v1]) h (by omega) (by decide) (show (parseMethodDescriptor yX2_misfit.desc).map (fun q => q.parameters.length) = some 1 by decide +kernel) hok (Nat.zero_le _) dX2_put_144 (by decide) hs25 rfl rfl (fun _ h9 => nomatch h9) ?_
            clear h
            intro r144 M144 h
            show rt_Go _ _ _ _ _ _ _ _ _ _ _ _ 147 [(5, zv s0 0 (((zat M (p + 2) 134 v4)))), (0, zv s0 2 25), (1, zv s0 0 v1), (3, zv s0 0 v3), (4, zv s0 0 v4)] [] (zw s0 ca C S M144)
            exact z_vret dX2_put_147 rfl h
          · replace h := h.2 c129
            refine z_aload_n dX2_put_132 rfl (j := 1) rfl ?_
            refine z_iload_n dX2_put_133 rfl (j := 2) rfl ?_
            refine z_iload dX2_put_134 (j := 4) rfl ?_
            refine z_callV Γ kk_X2_putPlain kc_RX2_77 (As := [zv s0 0 v1, zv s0 0 v4]) h (by omega) (by decide) (show (parseMethodDescriptor yX2_putPlain.desc).map (fun q => q.parameters.length) = some 2 by decide +kernel) hok (Nat.zero_le _) dX2_put_136 (by decide) hs25 rfl rfl (fun _ h9 => nomatch h9) ?_
            clear h
            intro r136 M136 h
            show rt_Go _ _ _ _ _ _ _ _ _ _ _ _ 139 [(5, zv s0 0 (((zat M (p + 2) 134 v4)))), (0, zv s0 2 25), (1, zv s0 0 v1), (3, zv s0 0 v3), (4, zv s0 0 v4)] [] (zw s0 ca C S M136)
            refine rt_goto (tgt := 147) dX2_put_139 (by decide) ?_
            exact z_vret dX2_put_147 rfl h
        · replace h := h.1 c108
          refine z_aload_n dX2_put_111 rfl (j := 1) rfl ?_
          refine z_iload_n dX2_put_112 rfl (j := 2) rfl ?_
          refine z_iload dX2_put_113 (j := 4) rfl ?_
          refine z_iload_n dX2_put_115 rfl (j := 3) rfl ?_
          refine z_callV Γ kk_X2_putFields kc_RX2_70 (As := [zv s0 0 v1, zv s0 0 v4, zv s0 0 v3]) h (by omega) (by decide) (show (parseMethodDescriptor yX2_putFields.desc).map (fun q => q.parameters.length) = some 3 by decide +kernel) hok (Nat.zero_le _) dX2_put_116 (by decide) hs25 rfl rfl (fun _ h9 => nomatch h9) ?_
          clear h
          intro r116 M116 h
          show rt_Go _ _ _ _ _ _ _ _ _ _ _ _ 119 [(5, zv s0 0 (((zat M (p + 2) 134 v4)))), (0, zv s0 2 25), (1, zv s0 0 v1), (3, zv s0 0 v3), (4, zv s0 0 v4)] [] (zw s0 ca C S M116)
          refine rt_goto (tgt := 147) dX2_put_119 (by decide) ?_
          exact z_vret dX2_put_147 rfl h
      · replace h := h.1 c89
        refine z_aload_n dX2_put_92 rfl (j := 1) rfl ?_
        refine z_iload_n dX2_put_93 rfl (j := 2) rfl ?_
        refine z_iload dX2_put_94 (j := 4) rfl ?_
        refine z_iconst dX2_put_96 ?_
        refine z_iload_n dX2_put_97 rfl (j := 3) rfl ?_
        refine z_callV Γ kk_X2_putItems kc_RX2_66 (As := [zv s0 0 v1, zv s0 0 v4, zv s0 0 1, zv s0 0 v3]) h (by omega) (by decide) (show (parseMethodDescriptor yX2_putItems.desc).map (fun q => q.parameters.length) = some 4 by decide +kernel) hok (Nat.zero_le _) dX2_put_98 (by decide) hs25 rfl rfl (fun _ h9 => nomatch h9) ?_
        clear h
        intro r98 M98 h
        show rt_Go _ _ _ _ _ _ _ _ _ _ _ _ 101 [(5, zv s0 0 (((zat M (p + 2) 134 v4)))), (0, zv s0 2 25), (1, zv s0 0 v1), (3, zv s0 0 v3), (4, zv s0 0 v4)] [] (zw s0 ca C S M98)
        refine rt_goto (tgt := 147) dX2_put_101 (by decide) ?_
        exact z_vret dX2_put_147 rfl h
    · replace h := h.1 c70
      refine z_aload_n dX2_put_73 rfl (j := 1) rfl ?_
      refine z_iload_n dX2_put_74 rfl (j := 2) rfl ?_
      refine z_iload dX2_put_75 (j := 4) rfl ?_
      refine z_iconst dX2_put_77 ?_
      refine z_iload_n dX2_put_78 rfl (j := 3) rfl ?_
      refine z_callV Γ kk_X2_putItems kc_RX2_66 (As := [zv s0 0 v1, zv s0 0 v4, zv s0 0 2, zv s0 0 v3]) h (by omega) (by decide) (show (parseMethodDescriptor yX2_putItems.desc).map (fun q => q.parameters.length) = some 4 by decide +kernel) hok (Nat.zero_le _) dX2_put_79 (by decide) hs25 rfl rfl (fun _ h9 => nomatch h9) ?_
      clear h
      intro r79 M79 h
      show rt_Go _ _ _ _ _ _ _ _ _ _ _ _ 82 [(5, zv s0 0 (((zat M (p + 2) 134 v4)))), (0, zv s0 2 25), (1, zv s0 0 v1), (3, zv s0 0 v3), (4, zv s0 0 v4)] [] (zw s0 ca C S M79)
      refine rt_goto (tgt := 147) dX2_put_82 (by decide) ?_
      exact z_vret dX2_put_147 rfl h
  · replace h := h.2 c55
    refine z_aload_n dX2_put_58 rfl (j := 1) rfl ?_
    refine z_iload_n dX2_put_59 rfl (j := 2) rfl ?_
    refine z_callV Γ kk_X2_misfit kc_RX2_62 (As := [zv s0 0 v1]) h (by omega) (by decide) (show (parseMethodDescriptor yX2_misfit.desc).map (fun q => q.parameters.length) = some 1 by decide +kernel) hok (Nat.zero_le _) dX2_put_60 (by decide) hs25 rfl rfl (fun _ h9 => nomatch h9) ?_
    clear h
    intro r60 M60 h
    show rt_Go _ _ _ _ _ _ _ _ _ _ _ _ 63 [(5, zv s0 0 (((zat M (p + 2) 134 v4)))), (0, zv s0 2 25), (1, zv s0 0 v1), (3, zv s0 0 v3), (4, zv s0 0 v4)] [] (zw s0 ca C S M60)
    refine rt_goto (tgt := 147) dX2_put_63 (by decide) ?_
    exact z_vret dX2_put_147 rfl h

def zt_X2_put (l : Launch) (s0 : State) (G : va_G) (ca : Nat → ClassId) (d : Nat) (C : Nat × Nat) (S : zS) (w0 : rt_Wd) (p : Int) (v : Int) (s : Int) (e : Int) (M : zM) (Q : Int → zM → Prop) (X : zM → Prop) : Prop :=
  zIf (w32 (((zat M (p + 2) 134 s))) = 8) (∃ (ad1 : Int) (nd1 : Nat), zCe S ((p + 23)) ad1 nd1 ∧ (zm_X0_addVarint l s0 G ca (d - 1) C S ((p + 23)) 0 M (fun r25 M25 => zt_X2_put_41 l s0 G ca d C S w0 p v e ((zf_X6_branch M25 p s 0)) M25 Q X) X)) (zt_X2_put_41 l s0 G ca d C S w0 p v e s M Q X)
set_option maxRecDepth 100000 in
theorem z_X2_put {l : Launch} {s0 : State} {a0 : Array Value} {G : va_G} {ca : Nat → ClassId} (Γ : rt_Γ l s0 a0 G ca) {d : Nat} {C : Nat × Nat} {S : zS} (hd : 2 ≤ d) (hok : zok C) {p : Int} (hs : zSok S) (hp : zSc S p) (hs25 : S 25 = some (0, 2, [(3, 6), (3, p), (0, 0)])) (hs6 : S 6 = some (0, 8, [(3, 7), (3, 9), (3, 11), (3, 13), (3, 15), (3, 17), (3, 19), (3, 21), (3, 22), (3, 1), (0, 0), (0, 0), (0, 0)])) {v : Int} {s : Int} {e : Int} {M : zM} {Q : Int → zM → Prop} {X : zM → Prop} (h : zt_X2_put l s0 G ca d C S (zw s0 ca C S M) p v s e M Q X) : zm_X2_put l s0 G ca d C S  v s e M Q X := by
  refine z_met (lv := [(0, zv s0 2 25), (1, zv s0 0 v), (2, zv s0 0 s), (3, zv s0 0 e)]) Γ kk_X2_put rfl (show (lg_sl [zv s0 2 25, zv s0 0 v, zv s0 0 s, zv s0 0 e]).length ≤ 6 from by simp only [zn_0, zn_2, show (lg_sl []).length = 0 from rfl]; omega) (show lv_args 0 [zv s0 2 25, zv s0 0 v, zv s0 0 s, zv s0 0 e] = [(0, zv s0 2 25), (1, zv s0 0 v), (2, zv s0 0 s), (3, zv s0 0 e)] from by rw [zl_2, zl_0, zl_0, zl_0]; rfl) ?_
  unfold zt_X2_put at h
  refine z_iload_n dX2_put_0 rfl (j := 2) rfl ?_
  refine z_istore (i := 4) (lv' := [(4, zv s0 0 s), (0, zv s0 2 25), (1, zv s0 0 v), (2, zv s0 0 s), (3, zv s0 0 e)]) dX2_put_1 (by decide) (by simp [zv_cat0, zv_cat1, zv_cat2, zv_cats]) ?_
  refine z_aload_n dX2_put_3 rfl (j := 1) rfl ?_
  refine z_getc Γ kf_RX2_19 dX2_put_4 (by decide) hs25 rfl ?_
  refine z_iload dX2_put_7 (j := 0) rfl ?_
  refine z_callV Γ kk_X6_kind kc_RX2_51 (As := [zv s0 0 s]) (z_X6_kind (d := d - 1) Γ (by omega) hok hp (M := M) (Q := fun v9 M9 => v9 = ((zat M (p + 2) 134 s)) ∧ M9 = M) (X := X) (show _ ∧ _ from ⟨rfl, rfl⟩)) (by omega) (by decide) (show (parseMethodDescriptor yX6_kind.desc).map (fun q => q.parameters.length) = some 1 by decide +kernel) hok (Nat.zero_le _) dX2_put_9 hp.1 hp.2.1 rfl rfl (fun _ h9 => nomatch h9) ?_
  rintro v9 M9 ⟨e9, e8⟩
  rw [e9, e8]
  clear e9 e8 v9 M9
  show rt_Go _ _ _ _ _ _ _ _ _ _ _ _ 12 [(4, zv s0 0 s), (0, zv s0 2 25), (1, zv s0 0 v), (2, zv s0 0 s), (3, zv s0 0 e)] [zv s0 0 (((zat M (p + 2) 134 s)))] (zw s0 ca C S M)
  refine z_bipush dX2_put_12 (by decide) ?_
  refine z_icmp_ne (tgt := 41) (x' := w32 (((zat M (p + 2) 134 s)))) (y' := 8) rfl (by decide) dX2_put_14 (by decide) (fun c14 => ?_) (fun c14 => ?_)
  · replace h := h.2 c14
    exact rt_lfew [1, 2, 4, 0] rfl (zs_X2_put_41 Γ hd hok hs hp hs25 hs6  h)
  · replace h := h.1 c14
    refine z_aload_n dX2_put_17 rfl (j := 1) rfl ?_
    refine z_getc Γ kf_RX2_19 dX2_put_18 (by decide) hs25 rfl ?_
    refine z_callV Γ kk_X6_defaults kc_RX2_23 (As := []) (z_X6_defaults (d := d - 1) Γ hok hp (M := M) (Q := fun v9 M9 => v9 = (p + 23) ∧ M9 = M) (X := X) (show _ ∧ _ from ⟨rfl, rfl⟩)) (by omega) (by decide) (show (parseMethodDescriptor yX6_defaults.desc).map (fun q => q.parameters.length) = some 0 by decide +kernel) hok (Nat.zero_le _) dX2_put_21 hp.1 hp.2.1 rfl rfl (fun _ h9 => nomatch h9) ?_
    rintro v9 M9 ⟨e9, e8⟩
    rw [e9, e8]
    clear e9 e8 v9 M9
    show rt_Go _ _ _ _ _ _ _ _ _ _ _ _ 24 [(4, zv s0 0 s), (0, zv s0 2 25), (1, zv s0 0 v), (2, zv s0 0 s), (3, zv s0 0 e)] [zv s0 2 ((p + 23))] (zw s0 ca C S M)
    refine z_lconst (v := 0) dX2_put_24 (by decide) ?_
    obtain ⟨ad1, nd1, hk0, h⟩ := h
    refine z_callV Γ kk_X0_addVarint kc_RX2_54 (As := [zv s0 1 0]) h (by omega) (by decide) (show (parseMethodDescriptor yX0_addVarint.desc).map (fun q => q.parameters.length) = some 1 by decide +kernel) hok (Nat.zero_le _) dX2_put_25 (hk0 : zCe S ((p + 23)) ad1 nd1).1 (hk0 : zCe S ((p + 23)) ad1 nd1).2.2.2.1 rfl rfl (fun _ h9 => nomatch h9) ?_
    clear h
    intro r25 M25 h
    show rt_Go _ _ _ _ _ _ _ _ _ _ _ _ 28 [(4, zv s0 0 s), (0, zv s0 2 25), (1, zv s0 0 v), (2, zv s0 0 s), (3, zv s0 0 e)] [zv s0 0 r25] (zw s0 ca C S M25)
    refine z_pop0 dX2_put_28 ?_
    refine z_aload_n dX2_put_29 rfl (j := 1) rfl ?_
    refine z_getc Γ kf_RX2_19 dX2_put_30 (by decide) hs25 rfl ?_
    refine z_iload dX2_put_33 (j := 0) rfl ?_
    refine z_iconst dX2_put_35 ?_
    refine z_callV Γ kk_X6_branch kc_RX2_58 (As := [zv s0 0 s, zv s0 0 0]) (k_X6_branch (d := d - 1) Γ (by omega) hok hp (M := M25) (Q := fun v9 M9 => v9 = (zf_X6_branch M25 p s 0) ∧ M9 = M25) (X := X) (show _ ∧ _ from ⟨rfl, rfl⟩)) (by omega) (by decide) (show (parseMethodDescriptor yX6_branch.desc).map (fun q => q.parameters.length) = some 2 by decide +kernel) hok (Nat.zero_le _) dX2_put_36 hp.1 hp.2.1 rfl rfl (fun _ h9 => nomatch h9) ?_
    rintro v9 M9 ⟨e9, e8⟩
    rw [e9, e8]
    clear e9 e8 v9 M9
    show rt_Go _ _ _ _ _ _ _ _ _ _ _ _ 39 [(4, zv s0 0 s), (0, zv s0 2 25), (1, zv s0 0 v), (2, zv s0 0 s), (3, zv s0 0 e)] [zv s0 0 ((zf_X6_branch M25 p s 0))] (zw s0 ca C S M25)
    refine z_istore (i := 4) (lv' := [(4, zv s0 0 ((zf_X6_branch M25 p s 0))), (0, zv s0 2 25), (1, zv s0 0 v), (2, zv s0 0 s), (3, zv s0 0 e)]) dX2_put_39 (by decide) (by simp [zv_cat0, zv_cat1, zv_cat2, zv_cats]) ?_
    exact rt_lfew [1, 2, 4, 0] rfl (zs_X2_put_41 Γ hd hok hs hp hs25 hs6  h)

