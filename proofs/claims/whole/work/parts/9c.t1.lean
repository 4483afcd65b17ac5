/-! ===== FILL ===== -/
def zt_X2_fill (l : Launch) (s0 : State) (G : va_G) (ca : Nat → ClassId) (d : Nat) (C : Nat × Nat) (S : zS) (w0 : rt_Wd)  (o : Int) (v : Int) (a : Int) (f : Int) (M : zM) (Q : Int → zM → Prop) (X : zM → Prop) : Prop :=
  zIf (o < 0) (Q ((-1)) ((zu M 25 2 ((-1))))) (zIf (a < 0) (Q ((-1)) ((zu M 25 2 ((-1))))) (zSc S a ∧ (∃ (ad2 : Int) (nd2 : Nat), zCe S ((a + 23)) ad2 nd2 ∧ (zm_X2_put l s0 G ca (d - 1) C S v (((zat ((zu ((zu ((zu M 25 2 ((-1)))) 25 0 o)) 25 1 a)) (a + 14) 2048 f))) 0 ((zu ((zu ((zu M 25 2 ((-1)))) 25 0 o)) 25 1 a)) (fun r52 M52 => zSc S (M52 25 1) ∧ (∃ (ad4 : Int) (nd4 : Nat), zCe S (((M52 25 1) + 23)) ad4 nd4 ∧ (Q (((zput ((zput M52 ((M52 25 1) + 18) 2048 f ((((zu ((zu ((zu M 25 2 ((-1)))) 25 0 o)) 25 1 a)) ((a + 23)) 1)))) ((M52 25 1) + 20) 2048 f ((M52 (((M52 25 1) + 23)) 1)))) 25 2) (((zput ((zput M52 ((M52 25 1) + 18) 2048 f ((((zu ((zu ((zu M 25 2 ((-1)))) 25 0 o)) 25 1 a)) ((a + 23)) 1)))) ((M52 25 1) + 20) 2048 f ((M52 (((M52 25 1) + 23)) 1)))))))) X))))
set_option maxRecDepth 100000 in
theorem z_X2_fill {l : Launch} {s0 : State} {a0 : Array Value} {G : va_G} {ca : Nat → ClassId} (Γ : rt_Γ l s0 a0 G ca) {d : Nat} {C : Nat × Nat} {S : zS} (hd : 2 ≤ d) (hok : zok C)  (hs : zSok S) (hs6 : S 6 = some (0, 8, [(3, 7), (3, 9), (3, 11), (3, 13), (3, 15), (3, 17), (3, 19), (3, 21), (3, 22), (3, 1), (0, 0), (0, 0), (0, 0)])) (hs25 : S 25 = some (0, 2, [(2, 0), (2, 0), (0, 0)])) {o : Int} {v : Int} {a : Int} {f : Int} {M : zM} {Q : Int → zM → Prop} {X : zM → Prop} (h : zt_X2_fill l s0 G ca d C S (zw s0 ca C S M)  o v a f M Q X) : zm_X2_fill l s0 G ca d C S  o v a f M Q X := by
  refine z_met (lv := [(0, zv s0 2 25), (1, zv s0 2 o), (2, zv s0 0 v), (3, zv s0 2 a), (4, zv s0 0 f)]) Γ kk_X2_fill rfl (show (lg_sl [zv s0 2 25, zv s0 2 o, zv s0 0 v, zv s0 2 a, zv s0 0 f]).length ≤ 6 from by simp only [zn_0, zn_2, show (lg_sl []).length = 0 from rfl]; omega) (show lv_args 0 [zv s0 2 25, zv s0 2 o, zv s0 0 v, zv s0 2 a, zv s0 0 f] = [(0, zv s0 2 25), (1, zv s0 2 o), (2, zv s0 0 v), (3, zv s0 2 a), (4, zv s0 0 f)] from by rw [zl_2, zl_2, zl_0, zl_2, zl_0]; rfl) ?_
  unfold zt_X2_fill at h
  refine z_aload_n dX2_fill_0 rfl (j := 0) rfl ?_
  refine z_iconst dX2_fill_1 ?_
  refine z_put0 Γ kp_RX2_9 dX2_fill_2 (by decide) hs25 rfl (k9 := 2) rfl ?_
  refine z_aload_n dX2_fill_5 rfl (j := 1) rfl ?_
  refine z_ifnull (tgt := 13) dX2_fill_6 (by decide) (fun c6 => ?_) (fun c6 => ?_)
  · replace h := h.1 c6
    refine z_aload_n dX2_fill_13 rfl (j := 0) rfl ?_
    refine z_get Γ kf_RX2_9 dX2_fill_14 (by decide) hs25 rfl (by decide) (v9 := (-1)) (zu_s _ _ _ _) ?_
    exact z_iret dX2_fill_17 rfl h
  · replace h := h.2 c6
    refine z_aload_n dX2_fill_9 rfl (j := 3) rfl ?_
    refine z_ifnonnull (tgt := 18) dX2_fill_10 (by decide) (fun c10 => ?_) (fun c10 => ?_)
    · replace h := h.2 c10
      refine z_aload_n dX2_fill_18 rfl (j := 0) rfl ?_
      refine z_aload_n dX2_fill_19 rfl (j := 1) rfl ?_
      refine z_put2 Γ kp_RX2_15 dX2_fill_20 (by decide) hs25 rfl (k9 := 0) rfl ?_
      refine z_aload_n dX2_fill_23 rfl (j := 0) rfl ?_
      refine z_aload_n dX2_fill_24 rfl (j := 3) rfl ?_
      refine z_put2 Γ kp_RX2_19 dX2_fill_25 (by decide) hs25 rfl (k9 := 1) rfl ?_
      refine z_aload_n dX2_fill_28 rfl (j := 0) rfl ?_
      refine z_get Γ kf_RX2_19 dX2_fill_29 (by decide) hs25 rfl (by decide) (v9 := a) (zu_s _ _ _ _) ?_
      obtain ⟨hk0, h⟩ := h
      refine z_callV Γ kk_X6_defaults kc_RX2_23 (As := []) (z_X6_defaults (d := d - 1) Γ hok hk0 (M := ((zu ((zu ((zu M 25 2 ((-1)))) 25 0 o)) 25 1 a))) (Q := fun v9 M9 => v9 = (a + 23) ∧ M9 = ((zu ((zu ((zu M 25 2 ((-1)))) 25 0 o)) 25 1 a))) (X := X) (show _ ∧ _ from ⟨rfl, rfl⟩)) (by omega) (by decide) (show (parseMethodDescriptor yX6_defaults.desc).map (fun q => q.parameters.length) = some 0 by decide +kernel) hok (Nat.zero_le _) dX2_fill_32 hk0.1 hk0.2.1 rfl rfl (fun _ h9 => nomatch h9) ?_
      rintro v9 M9 ⟨e9, e8⟩
      rw [e9, e8]
      clear e9 e8 v9 M9
      show rt_Go _ _ _ _ _ _ _ _ _ _ _ _ 35 [(0, zv s0 2 25), (1, zv s0 2 o), (2, zv s0 0 v), (3, zv s0 2 a), (4, zv s0 0 f)] [zv s0 2 ((a + 23))] (zw s0 ca C S ((zu ((zu ((zu M 25 2 ((-1)))) 25 0 o)) 25 1 a)))
      obtain ⟨ad2, nd2, hk1, h⟩ := h
      refine z_callV Γ kk_X0_count kc_RX2_29 (As := []) (k_X0_count (d := d - 1) Γ hok (hk1 : zCe S ((a + 23)) ad2 nd2) (M := ((zu ((zu ((zu M 25 2 ((-1)))) 25 0 o)) 25 1 a))) (Q := fun v9 M9 => v9 = (((zu ((zu ((zu M 25 2 ((-1)))) 25 0 o)) 25 1 a)) ((a + 23)) 1) ∧ M9 = ((zu ((zu ((zu M 25 2 ((-1)))) 25 0 o)) 25 1 a))) (X := X) (show _ ∧ _ from ⟨rfl, rfl⟩)) (by omega) (by decide) (show (parseMethodDescriptor yX0_count.desc).map (fun q => q.parameters.length) = some 0 by decide +kernel) hok (Nat.zero_le _) dX2_fill_35 (hk1 : zCe S ((a + 23)) ad2 nd2).1 (hk1 : zCe S ((a + 23)) ad2 nd2).2.2.2.1 rfl rfl (fun _ h9 => nomatch h9) ?_
      rintro v9 M9 ⟨e9, e8⟩
      rw [e9, e8]
      clear e9 e8 v9 M9
      show rt_Go _ _ _ _ _ _ _ _ _ _ _ _ 38 [(0, zv s0 2 25), (1, zv s0 2 o), (2, zv s0 0 v), (3, zv s0 2 a), (4, zv s0 0 f)] [zv s0 0 ((((zu ((zu ((zu M 25 2 ((-1)))) 25 0 o)) 25 1 a)) ((a + 23)) 1))] (zw s0 ca C S ((zu ((zu ((zu M 25 2 ((-1)))) 25 0 o)) 25 1 a)))
      refine z_istore (i := 5) (lv' := [(5, zv s0 0 ((((zu ((zu ((zu M 25 2 ((-1)))) 25 0 o)) 25 1 a)) ((a + 23)) 1))), (0, zv s0 2 25), (1, zv s0 2 o), (2, zv s0 0 v), (3, zv s0 2 a), (4, zv s0 0 f)]) dX2_fill_38 (by decide) (by simp [zv_cat0, zv_cat1, zv_cat2, zv_cats]) ?_
      refine z_aload_n dX2_fill_40 rfl (j := 1) rfl ?_
      refine z_iload_n dX2_fill_41 rfl (j := 3) rfl ?_
      refine z_aload_n dX2_fill_42 rfl (j := 1) rfl ?_
      refine z_get Γ kf_RX2_19 dX2_fill_43 (by decide) hs25 rfl (by decide) (v9 := a) (zu_s _ _ _ _) ?_
      refine z_iload dX2_fill_46 (j := 5) rfl ?_
      refine z_callV Γ kk_X6_partNode kc_RX2_35 (As := [zv s0 0 f]) (z_X6_partNode (d := d - 1) Γ (by omega) hok hk0 (M := ((zu ((zu ((zu M 25 2 ((-1)))) 25 0 o)) 25 1 a))) (Q := fun v9 M9 => v9 = ((zat ((zu ((zu ((zu M 25 2 ((-1)))) 25 0 o)) 25 1 a)) (a + 14) 2048 f)) ∧ M9 = ((zu ((zu ((zu M 25 2 ((-1)))) 25 0 o)) 25 1 a))) (X := X) (show _ ∧ _ from ⟨rfl, rfl⟩)) (by omega) (by decide) (show (parseMethodDescriptor yX6_partNode.desc).map (fun q => q.parameters.length) = some 1 by decide +kernel) hok (by simp only [List.map, zv_cat0, zv_cat1, zv_cat2, List.sum_cons, List.sum_nil]; decide) dX2_fill_48 hk0.1 hk0.2.1 rfl rfl (fun _ h9 => nomatch h9) ?_
      rintro v9 M9 ⟨e9, e8⟩
      rw [e9, e8]
      clear e9 e8 v9 M9
      show rt_Go _ _ _ _ _ _ _ _ _ _ _ _ 51 [(5, zv s0 0 ((((zu ((zu ((zu M 25 2 ((-1)))) 25 0 o)) 25 1 a)) ((a + 23)) 1))), (0, zv s0 2 25), (1, zv s0 2 o), (2, zv s0 0 v), (3, zv s0 2 a), (4, zv s0 0 f)] [zv s0 0 (((zat ((zu ((zu ((zu M 25 2 ((-1)))) 25 0 o)) 25 1 a)) (a + 14) 2048 f))), zv s0 0 v, zv s0 2 25] (zw s0 ca C S ((zu ((zu ((zu M 25 2 ((-1)))) 25 0 o)) 25 1 a)))
      refine z_iconst dX2_fill_51 ?_
      refine z_callV Γ kk_X2_put kc_RX2_39 (As := [zv s0 0 v, zv s0 0 (((zat ((zu ((zu ((zu M 25 2 ((-1)))) 25 0 o)) 25 1 a)) (a + 14) 2048 f))), zv s0 0 0]) h (by omega) (by decide) (show (parseMethodDescriptor yX2_put.desc).map (fun q => q.parameters.length) = some 3 by decide +kernel) hok (Nat.zero_le _) dX2_fill_52 (by decide) hs25 rfl rfl (fun _ h9 => nomatch h9) ?_
      clear h
      intro r52 M52 h
      show rt_Go _ _ _ _ _ _ _ _ _ _ _ _ 55 [(5, zv s0 0 ((((zu ((zu ((zu M 25 2 ((-1)))) 25 0 o)) 25 1 a)) ((a + 23)) 1))), (0, zv s0 2 25), (1, zv s0 2 o), (2, zv s0 0 v), (3, zv s0 2 a), (4, zv s0 0 f)] [] (zw s0 ca C S M52)
      refine z_aload_n dX2_fill_55 rfl (j := 1) rfl ?_
      refine z_get Γ kf_RX2_19 dX2_fill_56 (by decide) hs25 rfl (by decide) (v9 := M52 25 1) rfl ?_
      refine z_iload dX2_fill_59 (j := 5) rfl ?_
      refine z_iload dX2_fill_61 (j := 0) rfl ?_
      refine z_aload_n dX2_fill_63 rfl (j := 1) rfl ?_
      refine z_get Γ kf_RX2_19 dX2_fill_64 (by decide) hs25 rfl (by decide) (v9 := M52 25 1) rfl ?_
      obtain ⟨hk2, h⟩ := h
      refine z_callV Γ kk_X6_defaults kc_RX2_23 (As := []) (z_X6_defaults (d := d - 1) Γ hok hk2 (M := M52) (Q := fun v9 M9 => v9 = ((M52 25 1) + 23) ∧ M9 = M52) (X := X) (show _ ∧ _ from ⟨rfl, rfl⟩)) (by omega) (by decide) (show (parseMethodDescriptor yX6_defaults.desc).map (fun q => q.parameters.length) = some 0 by decide +kernel) hok (by simp only [List.map, zv_cat0, zv_cat1, zv_cat2, List.sum_cons, List.sum_nil]; decide) dX2_fill_67 hk2.1 hk2.2.1 rfl rfl (fun _ h9 => nomatch h9) ?_
      rintro v9 M9 ⟨e9, e8⟩
      rw [e9, e8]
      clear e9 e8 v9 M9
      show rt_Go _ _ _ _ _ _ _ _ _ _ _ _ 70 [(5, zv s0 0 ((((zu ((zu ((zu M 25 2 ((-1)))) 25 0 o)) 25 1 a)) ((a + 23)) 1))), (0, zv s0 2 25), (1, zv s0 2 o), (2, zv s0 0 v), (3, zv s0 2 a), (4, zv s0 0 f)] [zv s0 2 (((M52 25 1) + 23)), zv s0 0 ((((zu ((zu ((zu M 25 2 ((-1)))) 25 0 o)) 25 1 a)) ((a + 23)) 1)), zv s0 0 f, zv s0 2 (M52 25 1)] (zw s0 ca C S M52)
      obtain ⟨ad4, nd4, hk3, h⟩ := h
      refine z_callV Γ kk_X0_count kc_RX2_29 (As := []) (k_X0_count (d := d - 1) Γ hok (hk3 : zCe S (((M52 25 1) + 23)) ad4 nd4) (M := M52) (Q := fun v9 M9 => v9 = (M52 (((M52 25 1) + 23)) 1) ∧ M9 = M52) (X := X) (show _ ∧ _ from ⟨rfl, rfl⟩)) (by omega) (by decide) (show (parseMethodDescriptor yX0_count.desc).map (fun q => q.parameters.length) = some 0 by decide +kernel) hok (by simp only [List.map, zv_cat0, zv_cat1, zv_cat2, List.sum_cons, List.sum_nil]; decide) dX2_fill_70 (hk3 : zCe S (((M52 25 1) + 23)) ad4 nd4).1 (hk3 : zCe S (((M52 25 1) + 23)) ad4 nd4).2.2.2.1 rfl rfl (fun _ h9 => nomatch h9) ?_
      rintro v9 M9 ⟨e9, e8⟩
      rw [e9, e8]
      clear e9 e8 v9 M9
      show rt_Go _ _ _ _ _ _ _ _ _ _ _ _ 73 [(5, zv s0 0 ((((zu ((zu ((zu M 25 2 ((-1)))) 25 0 o)) 25 1 a)) ((a + 23)) 1))), (0, zv s0 2 25), (1, zv s0 2 o), (2, zv s0 0 v), (3, zv s0 2 a), (4, zv s0 0 f)] [zv s0 0 ((M52 (((M52 25 1) + 23)) 1)), zv s0 0 ((((zu ((zu ((zu M 25 2 ((-1)))) 25 0 o)) 25 1 a)) ((a + 23)) 1)), zv s0 0 f, zv s0 2 (M52 25 1)] (zw s0 ca C S M52)
      refine z_callV Γ kk_X6_setDefault kc_RX2_43 (As := [zv s0 0 f, zv s0 0 ((((zu ((zu ((zu M 25 2 ((-1)))) 25 0 o)) 25 1 a)) ((a + 23)) 1)), zv s0 0 ((M52 (((M52 25 1) + 23)) 1))]) (z_X6_setDefault (d := d - 1) Γ (by omega) hok hk2 (M := M52) (Q := fun v9 M9 => v9 = 0 ∧ M9 = ((zput ((zput M52 ((M52 25 1) + 18) 2048 f ((((zu ((zu ((zu M 25 2 ((-1)))) 25 0 o)) 25 1 a)) ((a + 23)) 1)))) ((M52 25 1) + 20) 2048 f ((M52 (((M52 25 1) + 23)) 1))))) (X := X) (show _ ∧ _ from ⟨rfl, rfl⟩)) (by omega) (by decide) (show (parseMethodDescriptor yX6_setDefault.desc).map (fun q => q.parameters.length) = some 3 by decide +kernel) hok (Nat.zero_le _) dX2_fill_73 hk2.1 hk2.2.1 rfl rfl (fun _ h9 => nomatch h9) ?_
      rintro v9 M9 ⟨e9, e8⟩
      rw [e9, e8]
      clear e9 e8 v9 M9
      show rt_Go _ _ _ _ _ _ _ _ _ _ _ _ 76 [(5, zv s0 0 ((((zu ((zu ((zu M 25 2 ((-1)))) 25 0 o)) 25 1 a)) ((a + 23)) 1))), (0, zv s0 2 25), (1, zv s0 2 o), (2, zv s0 0 v), (3, zv s0 2 a), (4, zv s0 0 f)] [] (zw s0 ca C S (((zput ((zput M52 ((M52 25 1) + 18) 2048 f ((((zu ((zu ((zu M 25 2 ((-1)))) 25 0 o)) 25 1 a)) ((a + 23)) 1)))) ((M52 25 1) + 20) 2048 f ((M52 (((M52 25 1) + 23)) 1))))))
      refine z_aload_n dX2_fill_76 rfl (j := 1) rfl ?_
      refine z_get Γ kf_RX2_9 dX2_fill_77 (by decide) hs25 rfl (by decide) (v9 := ((zput ((zput M52 ((M52 25 1) + 18) 2048 f ((((zu ((zu ((zu M 25 2 ((-1)))) 25 0 o)) 25 1 a)) ((a + 23)) 1)))) ((M52 25 1) + 20) 2048 f ((M52 (((M52 25 1) + 23)) 1)))) 25 2) rfl ?_
      exact z_iret dX2_fill_80 rfl h
    · replace h := h.1 c10
      refine z_aload_n dX2_fill_13 rfl (j := 0) rfl ?_
      refine z_get Γ kf_RX2_9 dX2_fill_14 (by decide) hs25 rfl (by decide) (v9 := (-1)) (zu_s _ _ _ _) ?_
      exact z_iret dX2_fill_17 rfl h
/-! ===== DRAFT ===== -/
abbrev zg_X1_draft_65 (l : Launch) (s0 : State) (G : va_G) (ca : Nat → ClassId) (d : Nat) (C : Nat × Nat) (S : zS) (w0 : rt_Wd)  (v2 : Int)  (M : zM) (Q : Int → zM → Prop) (X : zM → Prop) : Prop := rt_Go l s0 G RX1 "draft" cX1_draft 3 (Option.some FieldType.int) [] d w0 (zQ s0 ca 0 C S Q X) 65 [(0, zv s0 2 24), (2, zv s0 0 v2)] [] (zw s0 ca C S M)
def zt_X1_draft_65 (l : Launch) (s0 : State) (G : va_G) (ca : Nat → ClassId) (d : Nat) (C : Nat × Nat) (S : zS) (w0 : rt_Wd)  (v2 : Int)  (M : zM) (Q : Int → zM → Prop) (X : zM → Prop) : Prop :=
  zIf (w32 ((M 26 1)) ≤ w32 v2) (Q (M 24 6) M) (zIf (w32 (M 24 6) = 0) (zm_X2_fill l s0 G ca (d - 1) C S (M 24 4) ((zat M 29 128 v2)) (M 24 3) ((zat M 27 128 v2)) M (fun r112 M112 => zIf (w32 r112 = ((-1))) (zg_X1_draft_65 l s0 G ca d C S w0  (v2 + 1) ((zu ((zu M112 24 7 r112)) 24 6 0)) Q X) (zg_X1_draft_65 l s0 G ca d C S w0  (v2 + 1) ((zu ((zu M112 24 7 r112)) 24 6 12)) Q X)) X) (Q (M 24 6) M))
set_option maxRecDepth 100000 in
theorem zs_X1_draft_65 {l : Launch} {s0 : State} {a0 : Array Value} {G : va_G} {ca : Nat → ClassId} (Γ : rt_Γ l s0 a0 G ca) {d : Nat} {C : Nat × Nat} {S : zS} (hd : 1 ≤ d) (hok : zok C)  (hs : zSok S) (hs6 : S 6 = some (0, 8, [(3, 7), (3, 9), (3, 11), (3, 13), (3, 15), (3, 17), (3, 19), (3, 21), (3, 22), (3, 1), (0, 0), (0, 0), (0, 0)])) (hs24 : S 24 = some (0, 1, [(3, 25), (3, 26), (3, 28), (2, 0), (2, 0), (0, 0), (0, 0), (0, 0)])) (hs25 : S 25 = some (0, 2, [(2, 0), (2, 0), (0, 0)])) {w0 : rt_Wd} {v2 : Int}   {M : zM} {Q : Int → zM → Prop} {X : zM → Prop} (h : zt_X1_draft_65 l s0 G ca d C S w0  v2 M Q X) : zg_X1_draft_65 l s0 G ca d C S w0  v2 M Q X := by
  unfold zt_X1_draft_65 at h
  refine z_iload_n dX1_draft_65 rfl (j := 1) rfl ?_
  refine z_aload_n dX1_draft_66 rfl (j := 0) rfl ?_
  refine z_getc Γ kf_RX1_23 dX1_draft_67 (by decide) hs24 rfl ?_
  refine z_callV Γ kk_X0_count kc_RX1_64 (As := []) (k_X0_count (d := d - 1) Γ hok (⟨by decide, by decide, by decide, hs 26 _ rfl, hs 27 _ rfl⟩ : zCe S 26 27 128) (M := M) (Q := fun v9 M9 => v9 = (M 26 1) ∧ M9 = M) (X := X) (show _ ∧ _ from ⟨rfl, rfl⟩)) (by omega) (by decide) (show (parseMethodDescriptor yX0_count.desc).map (fun q => q.parameters.length) = some 0 by decide +kernel) hok (by simp only [List.map, zv_cat0, zv_cat1, zv_cat2, List.sum_cons, List.sum_nil]; decide) dX1_draft_70 (⟨by decide, by decide, by decide, hs 26 _ rfl, hs 27 _ rfl⟩ : zCe S 26 27 128).1 (⟨by decide, by decide, by decide, hs 26 _ rfl, hs 27 _ rfl⟩ : zCe S 26 27 128).2.2.2.1 rfl rfl (fun _ h9 => nomatch h9) ?_
  rintro v9 M9 ⟨e9, e8⟩
  rw [e9, e8]
  clear e9 e8 v9 M9
  show rt_Go _ _ _ _ _ _ _ _ _ _ _ _ 73 [(0, zv s0 2 24), (2, zv s0 0 v2)] [zv s0 0 ((M 26 1)), zv s0 0 v2] (zw s0 ca C S M)
  refine z_icmp_ge (tgt := 142) (x' := w32 v2) (y' := w32 ((M 26 1))) rfl rfl dX1_draft_73 (by decide) (fun c73 => ?_) (fun c73 => ?_)
  · replace h := h.1 c73
    refine z_aload_n dX1_draft_142 rfl (j := 0) rfl ?_
    refine z_get Γ kf_RX1_51 dX1_draft_143 (by decide) hs24 rfl (by decide) (v9 := M 24 6) rfl ?_
    exact z_iret dX1_draft_146 rfl h
  · replace h := h.2 c73
    refine z_aload_n dX1_draft_76 rfl (j := 0) rfl ?_
    refine z_get Γ kf_RX1_51 dX1_draft_77 (by decide) hs24 rfl (by decide) (v9 := M 24 6) rfl ?_
    refine z_if_ne (tgt := 142) (x' := w32 (M 24 6)) rfl dX1_draft_80 (by decide) (fun c80 => ?_) (fun c80 => ?_)
    · replace h := h.2 c80
      refine z_aload_n dX1_draft_142 rfl (j := 0) rfl ?_
      refine z_get Γ kf_RX1_51 dX1_draft_143 (by decide) hs24 rfl (by decide) (v9 := M 24 6) rfl ?_
      exact z_iret dX1_draft_146 rfl h
    · replace h := h.1 c80
      refine z_aload_n dX1_draft_83 rfl (j := 0) rfl ?_
      refine z_aload_n dX1_draft_84 rfl (j := 0) rfl ?_
      refine z_getc Γ kf_RX1_12 dX1_draft_85 (by decide) hs24 rfl ?_
      refine z_aload_n dX1_draft_88 rfl (j := 0) rfl ?_
      refine z_get Γ kf_RX1_37 dX1_draft_89 (by decide) hs24 rfl (by decide) (v9 := M 24 4) rfl ?_
      refine z_aload_n dX1_draft_92 rfl (j := 0) rfl ?_
      refine z_getc Γ kf_RX1_27 dX1_draft_93 (by decide) hs24 rfl ?_
      refine z_iload_n dX1_draft_96 rfl (j := 1) rfl ?_
      refine z_callV Γ kk_X0_at kc_RX1_68 (As := [zv s0 0 v2]) (k_X0_at (d := d - 1) Γ hok (⟨by decide, by decide, by decide, hs 28 _ rfl, hs 29 _ rfl⟩ : zCe S 28 29 128) (M := M) (Q := fun v9 M9 => v9 = (zat M 29 128 v2) ∧ M9 = M) (X := X) (show _ ∧ _ from ⟨rfl, rfl⟩)) (by omega) (by decide) (show (parseMethodDescriptor yX0_at.desc).map (fun q => q.parameters.length) = some 1 by decide +kernel) hok (by simp only [List.map, zv_cat0, zv_cat1, zv_cat2, List.sum_cons, List.sum_nil]; decide) dX1_draft_97 (⟨by decide, by decide, by decide, hs 28 _ rfl, hs 29 _ rfl⟩ : zCe S 28 29 128).1 (⟨by decide, by decide, by decide, hs 28 _ rfl, hs 29 _ rfl⟩ : zCe S 28 29 128).2.2.2.1 rfl rfl (fun _ h9 => nomatch h9) ?_
      rintro v9 M9 ⟨e9, e8⟩
      rw [e9, e8]
      clear e9 e8 v9 M9
      show rt_Go _ _ _ _ _ _ _ _ _ _ _ _ 100 [(0, zv s0 2 24), (2, zv s0 0 v2)] [zv s0 0 ((zat M 29 128 v2)), zv s0 2 (M 24 4), zv s0 2 25, zv s0 2 24] (zw s0 ca C S M)
      refine z_aload_n dX1_draft_100 rfl (j := 0) rfl ?_
      refine z_get Γ kf_RX1_33 dX1_draft_101 (by decide) hs24 rfl (by decide) (v9 := M 24 3) rfl ?_
      refine z_aload_n dX1_draft_104 rfl (j := 0) rfl ?_
      refine z_getc Γ kf_RX1_23 dX1_draft_105 (by decide) hs24 rfl ?_
      refine z_iload_n dX1_draft_108 rfl (j := 1) rfl ?_
      refine z_callV Γ kk_X0_at kc_RX1_68 (As := [zv s0 0 v2]) (k_X0_at (d := d - 1) Γ hok (⟨by decide, by decide, by decide, hs 26 _ rfl, hs 27 _ rfl⟩ : zCe S 26 27 128) (M := M) (Q := fun v9 M9 => v9 = (zat M 27 128 v2) ∧ M9 = M) (X := X) (show _ ∧ _ from ⟨rfl, rfl⟩)) (by omega) (by decide) (show (parseMethodDescriptor yX0_at.desc).map (fun q => q.parameters.length) = some 1 by decide +kernel) hok (by simp only [List.map, zv_cat0, zv_cat1, zv_cat2, List.sum_cons, List.sum_nil]; decide) dX1_draft_109 (⟨by decide, by decide, by decide, hs 26 _ rfl, hs 27 _ rfl⟩ : zCe S 26 27 128).1 (⟨by decide, by decide, by decide, hs 26 _ rfl, hs 27 _ rfl⟩ : zCe S 26 27 128).2.2.2.1 rfl rfl (fun _ h9 => nomatch h9) ?_
      rintro v9 M9 ⟨e9, e8⟩
      rw [e9, e8]
      clear e9 e8 v9 M9
      show rt_Go _ _ _ _ _ _ _ _ _ _ _ _ 112 [(0, zv s0 2 24), (2, zv s0 0 v2)] [zv s0 0 ((zat M 27 128 v2)), zv s0 2 (M 24 3), zv s0 0 ((zat M 29 128 v2)), zv s0 2 (M 24 4), zv s0 2 25, zv s0 2 24] (zw s0 ca C S M)
      refine z_callV Γ kk_X2_fill kc_RX1_72 (As := [zv s0 2 (M 24 4), zv s0 0 ((zat M 29 128 v2)), zv s0 2 (M 24 3), zv s0 0 ((zat M 27 128 v2))]) h (by omega) (by decide) (show (parseMethodDescriptor yX2_fill.desc).map (fun q => q.parameters.length) = some 4 by decide +kernel) hok (by simp only [List.map, zv_cat0, zv_cat1, zv_cat2, List.sum_cons, List.sum_nil]; decide) dX1_draft_112 (by decide) hs25 rfl rfl (fun _ h9 => nomatch h9) ?_
      clear h
      intro r112 M112 h
      show rt_Go _ _ _ _ _ _ _ _ _ _ _ _ 115 [(0, zv s0 2 24), (2, zv s0 0 v2)] [zv s0 0 r112, zv s0 2 24] (zw s0 ca C S M112)
      refine z_put0 Γ kp_RX1_54 dX1_draft_115 (by decide) hs24 rfl (k9 := 7) rfl ?_
      refine z_aload_n dX1_draft_118 rfl (j := 0) rfl ?_
      refine z_aload_n dX1_draft_119 rfl (j := 0) rfl ?_
      refine z_get Γ kf_RX1_54 dX1_draft_120 (by decide) hs24 rfl (by decide) (v9 := r112) (zu_s _ _ _ _) ?_
      refine z_iconst dX1_draft_123 ?_
      refine z_icmp_ne (tgt := 131) (x' := w32 r112) (y' := ((-1))) rfl (by decide) dX1_draft_124 (by decide) (fun c124 => ?_) (fun c124 => ?_)
      · replace h := h.2 c124
        refine z_bipush dX1_draft_131 (by decide) ?_
        refine z_put0 Γ kp_RX1_51 dX1_draft_133 (by decide) hs24 rfl (k9 := 6) rfl ?_
        refine z_iinc (lv' := [(2, zv s0 0 (v2 + 1)), (0, zv s0 2 24)]) dX1_draft_136 (j := 1) rfl (by decide) (by simp [zv_cat0, zv_cat1, zv_cat2, zv_cats]) ?_
        refine rt_goto (tgt := 65) dX1_draft_139 (by decide) ?_
        exact rt_lfew [1, 0] rfl h
      · replace h := h.1 c124
        refine z_iconst dX1_draft_127 ?_
        refine rt_goto (tgt := 133) dX1_draft_128 (by decide) ?_
        refine z_put0 Γ kp_RX1_51 dX1_draft_133 (by decide) hs24 rfl (k9 := 6) rfl ?_
        refine z_iinc (lv' := [(2, zv s0 0 (v2 + 1)), (0, zv s0 2 24)]) dX1_draft_136 (j := 1) rfl (by decide) (by simp [zv_cat0, zv_cat1, zv_cat2, zv_cats]) ?_
        refine rt_goto (tgt := 65) dX1_draft_139 (by decide) ?_
        exact rt_lfew [1, 0] rfl h
def zt_X1_draft (l : Launch) (s0 : State) (G : va_G) (ca : Nat → ClassId) (d : Nat) (C : Nat × Nat) (S : zS) (w0 : rt_Wd)  (o : Int) (M : zM) (Q : Int → zM → Prop) (X : zM → Prop) : Prop :=
  zIf (o < 0) (Q 1 M) (zSc S (M 24 3) ∧ (zm_X6_clear l s0 G ca (d - 1) C S (M 24 3)  ((zu M 24 4 o)) (fun r15 M15 => zm_X1_look l s0 G ca (d - 1) C S 0 0 0 ((zu ((zu ((zu ((zcut ((zcut M15 26 128 0)) 28 128 0)) 24 5 0)) 24 6 0)) 24 7 ((-1)))) (fun r57 M57 => zSc S ((zcut ((zcut M15 26 128 0)) 28 128 0) 24 3) ∧ (zg_X1_draft_65 l s0 G ca d C S w0  0 (((zu M57 ((zcut ((zcut M15 26 128 0)) 28 128 0) 24 3) 12 r57))) Q X)) X) X))
set_option maxRecDepth 100000 in
theorem z_X1_draft {l : Launch} {s0 : State} {a0 : Array Value} {G : va_G} {ca : Nat → ClassId} (Γ : rt_Γ l s0 a0 G ca) {d : Nat} {C : Nat × Nat} {S : zS} (hd : 1 ≤ d) (hok : zok C)  (hs : zSok S) (hs6 : S 6 = some (0, 8, [(3, 7), (3, 9), (3, 11), (3, 13), (3, 15), (3, 17), (3, 19), (3, 21), (3, 22), (3, 1), (0, 0), (0, 0), (0, 0)])) (hs24 : S 24 = some (0, 1, [(3, 25), (3, 26), (3, 28), (2, 0), (2, 0), (0, 0), (0, 0), (0, 0)])) (hs25 : S 25 = some (0, 2, [(2, 0), (2, 0), (0, 0)])) {o : Int} {M : zM} {Q : Int → zM → Prop} {X : zM → Prop} (h : zt_X1_draft l s0 G ca d C S (zw s0 ca C S M)  o M Q X) : zm_X1_draft l s0 G ca d C S  o M Q X := by
  refine z_met (lv := [(0, zv s0 2 24), (1, zv s0 2 o)]) Γ kk_X1_draft rfl (show (lg_sl [zv s0 2 24, zv s0 2 o]).length ≤ 3 from by simp only [zn_2, show (lg_sl []).length = 0 from rfl]; omega) (show lv_args 0 [zv s0 2 24, zv s0 2 o] = [(0, zv s0 2 24), (1, zv s0 2 o)] from by rw [zl_2, zl_2]; rfl) ?_
  unfold zt_X1_draft at h
  refine z_aload_n dX1_draft_0 rfl (j := 1) rfl ?_
  refine z_ifnonnull (tgt := 6) dX1_draft_1 (by decide) (fun c1 => ?_) (fun c1 => ?_)
  · replace h := h.2 c1
    refine z_aload_n dX1_draft_6 rfl (j := 0) rfl ?_
    refine z_aload_n dX1_draft_7 rfl (j := 1) rfl ?_
    refine z_put2 Γ kp_RX1_37 dX1_draft_8 (by decide) hs24 rfl (k9 := 4) rfl ?_
    refine z_aload_n dX1_draft_11 rfl (j := 0) rfl ?_
    refine z_get Γ kf_RX1_33 dX1_draft_12 (by decide) hs24 rfl (by decide) (v9 := M 24 3) ((zu_k (by decide)).trans rfl) ?_
    obtain ⟨hk0, h⟩ := h
    refine z_callV Γ kk_X6_clear kc_RX1_41 (As := []) h (by omega) (by decide) (show (parseMethodDescriptor yX6_clear.desc).map (fun q => q.parameters.length) = some 0 by decide +kernel) hok (Nat.zero_le _) dX1_draft_15 hk0.1 hk0.2.1 rfl rfl (fun _ h9 => nomatch h9) ?_
    clear h
    intro r15 M15 h
    show rt_Go _ _ _ _ _ _ _ _ _ _ _ _ 18 [(0, zv s0 2 24), (1, zv s0 2 o)] [] (zw s0 ca C S M15)
    refine z_aload_n dX1_draft_18 rfl (j := 0) rfl ?_
    refine z_getc Γ kf_RX1_23 dX1_draft_19 (by decide) hs24 rfl ?_
    refine z_iconst dX1_draft_22 ?_
    refine z_callV Γ kk_X0_cut kc_RX1_44 (As := [zv s0 0 0]) (k_X0_cut (d := d - 1) Γ hok (⟨by decide, by decide, by decide, hs 26 _ rfl, hs 27 _ rfl⟩ : zCe S 26 27 128) (M := M15) (Q := fun v9 M9 => v9 = 0 ∧ M9 = (zcut M15 26 128 0)) (X := X) (show _ ∧ _ from ⟨rfl, rfl⟩)) (by omega) (by decide) (show (parseMethodDescriptor yX0_cut.desc).map (fun q => q.parameters.length) = some 1 by decide +kernel) hok (Nat.zero_le _) dX1_draft_23 (⟨by decide, by decide, by decide, hs 26 _ rfl, hs 27 _ rfl⟩ : zCe S 26 27 128).1 (⟨by decide, by decide, by decide, hs 26 _ rfl, hs 27 _ rfl⟩ : zCe S 26 27 128).2.2.2.1 rfl rfl (fun _ h9 => nomatch h9) ?_
    rintro v9 M9 ⟨e9, e8⟩
    rw [e9, e8]
    clear e9 e8 v9 M9
    show rt_Go _ _ _ _ _ _ _ _ _ _ _ _ 26 [(0, zv s0 2 24), (1, zv s0 2 o)] [] (zw s0 ca C S ((zcut M15 26 128 0)))
    refine z_aload_n dX1_draft_26 rfl (j := 0) rfl ?_
    refine z_getc Γ kf_RX1_27 dX1_draft_27 (by decide) hs24 rfl ?_
    refine z_iconst dX1_draft_30 ?_
    refine z_callV Γ kk_X0_cut kc_RX1_44 (As := [zv s0 0 0]) (k_X0_cut (d := d - 1) Γ hok (⟨by decide, by decide, by decide, hs 28 _ rfl, hs 29 _ rfl⟩ : zCe S 28 29 128) (M := ((zcut M15 26 128 0))) (Q := fun v9 M9 => v9 = 0 ∧ M9 = (zcut ((zcut M15 26 128 0)) 28 128 0)) (X := X) (show _ ∧ _ from ⟨rfl, rfl⟩)) (by omega) (by decide) (show (parseMethodDescriptor yX0_cut.desc).map (fun q => q.parameters.length) = some 1 by decide +kernel) hok (Nat.zero_le _) dX1_draft_31 (⟨by decide, by decide, by decide, hs 28 _ rfl, hs 29 _ rfl⟩ : zCe S 28 29 128).1 (⟨by decide, by decide, by decide, hs 28 _ rfl, hs 29 _ rfl⟩ : zCe S 28 29 128).2.2.2.1 rfl rfl (fun _ h9 => nomatch h9) ?_
    rintro v9 M9 ⟨e9, e8⟩
    rw [e9, e8]
    clear e9 e8 v9 M9
    show rt_Go _ _ _ _ _ _ _ _ _ _ _ _ 34 [(0, zv s0 2 24), (1, zv s0 2 o)] [] (zw s0 ca C S ((zcut ((zcut M15 26 128 0)) 28 128 0)))
    refine z_aload_n dX1_draft_34 rfl (j := 0) rfl ?_
    refine z_iconst dX1_draft_35 ?_
    refine z_put0 Γ kp_RX1_47 dX1_draft_36 (by decide) hs24 rfl (k9 := 5) rfl ?_
    refine z_aload_n dX1_draft_39 rfl (j := 0) rfl ?_
    refine z_iconst dX1_draft_40 ?_
    refine z_put0 Γ kp_RX1_51 dX1_draft_41 (by decide) hs24 rfl (k9 := 6) rfl ?_
    refine z_aload_n dX1_draft_44 rfl (j := 0) rfl ?_
    refine z_iconst dX1_draft_45 ?_
    refine z_put0 Γ kp_RX1_54 dX1_draft_46 (by decide) hs24 rfl (k9 := 7) rfl ?_
    refine z_aload_n dX1_draft_49 rfl (j := 0) rfl ?_
    refine z_get Γ kf_RX1_33 dX1_draft_50 (by decide) hs24 rfl (by decide) (v9 := (zcut ((zcut M15 26 128 0)) 28 128 0) 24 3) ((zu_k (by decide)).trans ((zu_k (by decide)).trans ((zu_k (by decide)).trans rfl))) ?_
    refine z_aload_n dX1_draft_53 rfl (j := 0) rfl ?_
    refine z_iconst dX1_draft_54 ?_
    refine z_iconst dX1_draft_55 ?_
    refine z_iconst dX1_draft_56 ?_
    refine z_callV Γ kk_X1_look kc_RX1_57 (As := [zv s0 0 0, zv s0 0 0, zv s0 0 0]) h (by omega) (by decide) (show (parseMethodDescriptor yX1_look.desc).map (fun q => q.parameters.length) = some 3 by decide +kernel) hok (by simp only [List.map, zv_cat0, zv_cat1, zv_cat2, List.sum_cons, List.sum_nil]; decide) dX1_draft_57 (by decide) hs24 rfl rfl (fun _ h9 => nomatch h9) ?_
    clear h
    intro r57 M57 h
    show rt_Go _ _ _ _ _ _ _ _ _ _ _ _ 60 [(0, zv s0 2 24), (1, zv s0 2 o)] [zv s0 0 r57, zv s0 2 ((zcut ((zcut M15 26 128 0)) 28 128 0) 24 3)] (zw s0 ca C S M57)
    obtain ⟨hk1, h⟩ := h
    refine z_callV Γ kk_X6_setRoot kc_RX1_61 (As := [zv s0 0 r57]) (z_X6_setRoot (d := d - 1) Γ hok hk1 (M := M57) (Q := fun v9 M9 => v9 = 0 ∧ M9 = ((zu M57 ((zcut ((zcut M15 26 128 0)) 28 128 0) 24 3) 12 r57))) (X := X) (show _ ∧ _ from ⟨rfl, rfl⟩)) (by omega) (by decide) (show (parseMethodDescriptor yX6_setRoot.desc).map (fun q => q.parameters.length) = some 1 by decide +kernel) hok (Nat.zero_le _) dX1_draft_60 hk1.1 hk1.2.1 rfl rfl (fun _ h9 => nomatch h9) ?_
    rintro v9 M9 ⟨e9, e8⟩
    rw [e9, e8]
    clear e9 e8 v9 M9
    show rt_Go _ _ _ _ _ _ _ _ _ _ _ _ 63 [(0, zv s0 2 24), (1, zv s0 2 o)] [] (zw s0 ca C S (((zu M57 ((zcut ((zcut M15 26 128 0)) 28 128 0) 24 3) 12 r57))))
    refine z_iconst dX1_draft_63 ?_
    refine z_istore_n (i := 2) (lv' := [(2, zv s0 0 0), (0, zv s0 2 24), (1, zv s0 2 o)]) dX1_draft_64 rfl (by decide) (by simp [zv_cat0, zv_cat1, zv_cat2, zv_cats]) ?_
    exact rt_lfew [1, 0] rfl h
  · replace h := h.1 c1
    refine z_iconst dX1_draft_4 ?_
    exact z_iret dX1_draft_5 rfl h
/-! ===== LOOKROWS ===== -/
abbrev zg_X4_lookAtRows_62 (l : Launch) (s0 : State) (G : va_G) (ca : Nat → ClassId) (d : Nat) (C : Nat × Nat) (S : zS) (w0 : rt_Wd)  (v3 : Int) (v4 : Int)  (M : zM) (Q : Int → zM → Prop) (X : zM → Prop) : Prop := rt_Go l s0 G RX4 "lookAtRows" cX4_lookAtRows 6 (Option.some FieldType.int) [] d w0 (zQ s0 ca 0 C S Q X) 62 [(0, zv s0 2 55), (3, zv s0 2 v3), (4, zv s0 0 v4)] [] (zw s0 ca C S M)
def zt_X4_lookAtRows_62 (l : Launch) (s0 : State) (G : va_G) (ca : Nat → ClassId) (d : Nat) (C : Nat × Nat) (S : zS) (w0 : rt_Wd)  (v3 : Int) (v4 : Int)  (M : zM) (Q : Int → zM → Prop) (X : zM → Prop) : Prop :=
  zIf (4096 ≤ w32 v4) (zRw S v3 ∧ (Q (((M (v3 + 3) 1))) M)) (∃ (ad2 : Int) (nd2 : Nat), zCe S (M 55 0) ad2 nd2 ∧ (zIf (w32 ((M (M 55 0) 1)) ≤ w32 (M 55 3)) (zRw S v3 ∧ (Q (((M (v3 + 3) 1))) M)) (zRw S v3 ∧ (zSc S (((zadd ((zu ((zu M 55 4 0)) 55 5 0)) (v3 + 3) (v3 + 4) 4096 ((((zu ((zu M 55 4 0)) 55 5 0)) (v3 + 1) 1)))) 55 1) ∧ (zm_X4_look l s0 G ca (d - 1) C S (((((zadd ((zu ((zu M 55 4 0)) 55 5 0)) (v3 + 3) (v3 + 4) 4096 ((((zu ((zu M 55 4 0)) 55 5 0)) (v3 + 1) 1))))) (((zadd ((zu ((zu M 55 4 0)) 55 5 0)) (v3 + 3) (v3 + 4) 4096 ((((zu ((zu M 55 4 0)) 55 5 0)) (v3 + 1) 1)))) 55 1) 12)) 0 (((zadd ((zu ((zu M 55 4 0)) 55 5 0)) (v3 + 3) (v3 + 4) 4096 ((((zu ((zu M 55 4 0)) 55 5 0)) (v3 + 1) 1))))) (fun r113 M113 => zIf (w32 (M113 55 6) = 0) (zIf (w32 (M113 55 3) = w32 (M 55 3)) (Q ((-34)) M113) (zg_X4_lookAtRows_62 l s0 G ca d C S w0  v3 (v4 + 1) M113 Q X)) (Q (-(M113 55 6)) M113)) X)))))
set_option maxRecDepth 100000 in
theorem zs_X4_lookAtRows_62 {l : Launch} {s0 : State} {a0 : Array Value} {G : va_G} {ca : Nat → ClassId} (Γ : rt_Γ l s0 a0 G ca) {d : Nat} {C : Nat × Nat} {S : zS} (hd : 2 ≤ d) (hok : zok C)  (hs : zSok S) (hs55 : S 55 = some (0, 4, [(2, 0), (2, 0), (2, 0), (0, 0), (0, 0), (0, 0), (0, 0), (0, 0)])) {w0 : rt_Wd} {v3 : Int} {v4 : Int}   {M : zM} {Q : Int → zM → Prop} {X : zM → Prop} (h : zt_X4_lookAtRows_62 l s0 G ca d C S w0  v3 v4 M Q X) : zg_X4_lookAtRows_62 l s0 G ca d C S w0  v3 v4 M Q X := by
  unfold zt_X4_lookAtRows_62 at h
  refine z_iload dX4_lookAtRows_62 (j := 2) rfl ?_
  refine z_sipush dX4_lookAtRows_64 (by decide) ?_
  refine z_icmp_ge (tgt := 147) (x' := w32 v4) (y' := 4096) rfl (by decide) dX4_lookAtRows_67 (by decide) (fun c67 => ?_) (fun c67 => ?_)
  · replace h := h.1 c67
    refine z_aload_n dX4_lookAtRows_147 rfl (j := 1) rfl ?_
    obtain ⟨hk0, h⟩ := h
    refine z_callV Γ kk_X5_count kc_RX4_65 (As := []) (z_X5_count (d := d - 1) Γ (by omega) hok hk0 (M := M) (Q := fun v9 M9 => v9 = ((M (v3 + 3) 1)) ∧ M9 = M) (X := X) (show _ ∧ _ from ⟨rfl, rfl⟩)) (by omega) (by decide) (show (parseMethodDescriptor yX5_count.desc).map (fun q => q.parameters.length) = some 0 by decide +kernel) hok (Nat.zero_le _) dX4_lookAtRows_148 hk0.1 hk0.2.1 rfl rfl (fun _ h9 => nomatch h9) ?_
    rintro v9 M9 ⟨e9, e8⟩
    rw [e9, e8]
    clear e9 e8 v9 M9
    show rt_Go _ _ _ _ _ _ _ _ _ _ _ _ 151 [(0, zv s0 2 55), (3, zv s0 2 v3), (4, zv s0 0 v4)] [zv s0 0 (((M (v3 + 3) 1)))] (zw s0 ca C S M)
    exact z_iret dX4_lookAtRows_151 rfl h
  · replace h := h.2 c67
    refine z_aload_n dX4_lookAtRows_70 rfl (j := 0) rfl ?_
    refine z_get Γ kf_RX4_18 dX4_lookAtRows_71 (by decide) hs55 rfl (by decide) (v9 := M 55 3) rfl ?_
    refine z_aload_n dX4_lookAtRows_74 rfl (j := 0) rfl ?_
    refine z_get Γ kf_RX4_27 dX4_lookAtRows_75 (by decide) hs55 rfl (by decide) (v9 := M 55 0) rfl ?_
    obtain ⟨ad2, nd2, hk1, h⟩ := h
    refine z_callV Γ kk_X0_count kc_RX4_21 (As := []) (k_X0_count (d := d - 1) Γ hok (hk1 : zCe S (M 55 0) ad2 nd2) (M := M) (Q := fun v9 M9 => v9 = (M (M 55 0) 1) ∧ M9 = M) (X := X) (show _ ∧ _ from ⟨rfl, rfl⟩)) (by omega) (by decide) (show (parseMethodDescriptor yX0_count.desc).map (fun q => q.parameters.length) = some 0 by decide +kernel) hok (by simp only [List.map, zv_cat0, zv_cat1, zv_cat2, List.sum_cons, List.sum_nil]; decide) dX4_lookAtRows_78 (hk1 : zCe S (M 55 0) ad2 nd2).1 (hk1 : zCe S (M 55 0) ad2 nd2).2.2.2.1 rfl rfl (fun _ h9 => nomatch h9) ?_
    rintro v9 M9 ⟨e9, e8⟩
    rw [e9, e8]
    clear e9 e8 v9 M9
    show rt_Go _ _ _ _ _ _ _ _ _ _ _ _ 81 [(0, zv s0 2 55), (3, zv s0 2 v3), (4, zv s0 0 v4)] [zv s0 0 ((M (M 55 0) 1)), zv s0 0 (M 55 3)] (zw s0 ca C S M)
    refine z_icmp_ge (tgt := 147) (x' := w32 (M 55 3)) (y' := w32 ((M (M 55 0) 1))) rfl rfl dX4_lookAtRows_81 (by decide) (fun c81 => ?_) (fun c81 => ?_)
    · replace h := h.1 c81
      refine z_aload_n dX4_lookAtRows_147 rfl (j := 1) rfl ?_
      obtain ⟨hk2, h⟩ := h
      refine z_callV Γ kk_X5_count kc_RX4_65 (As := []) (z_X5_count (d := d - 1) Γ (by omega) hok hk2 (M := M) (Q := fun v9 M9 => v9 = ((M (v3 + 3) 1)) ∧ M9 = M) (X := X) (show _ ∧ _ from ⟨rfl, rfl⟩)) (by omega) (by decide) (show (parseMethodDescriptor yX5_count.desc).map (fun q => q.parameters.length) = some 0 by decide +kernel) hok (Nat.zero_le _) dX4_lookAtRows_148 hk2.1 hk2.2.1 rfl rfl (fun _ h9 => nomatch h9) ?_
      rintro v9 M9 ⟨e9, e8⟩
      rw [e9, e8]
      clear e9 e8 v9 M9
      show rt_Go _ _ _ _ _ _ _ _ _ _ _ _ 151 [(0, zv s0 2 55), (3, zv s0 2 v3), (4, zv s0 0 v4)] [zv s0 0 (((M (v3 + 3) 1)))] (zw s0 ca C S M)
      exact z_iret dX4_lookAtRows_151 rfl h
    · replace h := h.2 c81
      refine z_aload_n dX4_lookAtRows_84 rfl (j := 0) rfl ?_
      refine z_get Γ kf_RX4_18 dX4_lookAtRows_85 (by decide) hs55 rfl (by decide) (v9 := M 55 3) rfl ?_
      refine z_istore (i := 5) (lv' := [(5, zv s0 0 (M 55 3)), (0, zv s0 2 55), (3, zv s0 2 v3), (4, zv s0 0 v4)]) dX4_lookAtRows_88 (by decide) (by simp [zv_cat0, zv_cat1, zv_cat2, zv_cats]) ?_
      refine z_aload_n dX4_lookAtRows_90 rfl (j := 1) rfl ?_
      refine z_iconst dX4_lookAtRows_91 ?_
      refine z_put0 Γ kp_RX4_47 dX4_lookAtRows_92 (by decide) hs55 rfl (k9 := 4) rfl ?_
      refine z_aload_n dX4_lookAtRows_95 rfl (j := 1) rfl ?_
      refine z_iconst dX4_lookAtRows_96 ?_
      refine z_put0 Γ kp_RX4_50 dX4_lookAtRows_97 (by decide) hs55 rfl (k9 := 5) rfl ?_
      refine z_aload_n dX4_lookAtRows_100 rfl (j := 2) rfl ?_
      obtain ⟨hk3, h⟩ := h
      refine z_callV Γ kk_X5_open kc_RX4_53 (As := []) (z_X5_open (d := d - 1) Γ (by omega) hok hk3 (M := ((zu ((zu M 55 4 0)) 55 5 0))) (Q := fun v9 M9 => v9 = 0 ∧ M9 = ((zadd ((zu ((zu M 55 4 0)) 55 5 0)) (v3 + 3) (v3 + 4) 4096 ((((zu ((zu M 55 4 0)) 55 5 0)) (v3 + 1) 1))))) (X := X) (show _ ∧ _ from ⟨rfl, rfl⟩)) (by omega) (by decide) (show (parseMethodDescriptor yX5_open.desc).map (fun q => q.parameters.length) = some 0 by decide +kernel) hok (Nat.zero_le _) dX4_lookAtRows_101 hk3.1 hk3.2.1 rfl rfl (fun _ h9 => nomatch h9) ?_
      rintro v9 M9 ⟨e9, e8⟩
      rw [e9, e8]
      clear e9 e8 v9 M9
      show rt_Go _ _ _ _ _ _ _ _ _ _ _ _ 104 [(5, zv s0 0 (M 55 3)), (0, zv s0 2 55), (3, zv s0 2 v3), (4, zv s0 0 v4)] [] (zw s0 ca C S (((zadd ((zu ((zu M 55 4 0)) 55 5 0)) (v3 + 3) (v3 + 4) 4096 ((((zu ((zu M 55 4 0)) 55 5 0)) (v3 + 1) 1))))))
      refine z_aload_n dX4_lookAtRows_104 rfl (j := 1) rfl ?_
      refine z_aload_n dX4_lookAtRows_105 rfl (j := 1) rfl ?_
      refine z_get Γ kf_RX4_31 dX4_lookAtRows_106 (by decide) hs55 rfl (by decide) (v9 := ((zadd ((zu ((zu M 55 4 0)) 55 5 0)) (v3 + 3) (v3 + 4) 4096 ((((zu ((zu M 55 4 0)) 55 5 0)) (v3 + 1) 1)))) 55 1) rfl ?_
      obtain ⟨hk4, h⟩ := h
      refine z_callV Γ kk_X6_root kc_RX4_56 (As := []) (z_X6_root (d := d - 1) Γ hok hk4 (M := (((zadd ((zu ((zu M 55 4 0)) 55 5 0)) (v3 + 3) (v3 + 4) 4096 ((((zu ((zu M 55 4 0)) 55 5 0)) (v3 + 1) 1)))))) (Q := fun v9 M9 => v9 = ((((zadd ((zu ((zu M 55 4 0)) 55 5 0)) (v3 + 3) (v3 + 4) 4096 ((((zu ((zu M 55 4 0)) 55 5 0)) (v3 + 1) 1))))) (((zadd ((zu ((zu M 55 4 0)) 55 5 0)) (v3 + 3) (v3 + 4) 4096 ((((zu ((zu M 55 4 0)) 55 5 0)) (v3 + 1) 1)))) 55 1) 12) ∧ M9 = (((zadd ((zu ((zu M 55 4 0)) 55 5 0)) (v3 + 3) (v3 + 4) 4096 ((((zu ((zu M 55 4 0)) 55 5 0)) (v3 + 1) 1)))))) (X := X) (show _ ∧ _ from ⟨rfl, rfl⟩)) (by omega) (by decide) (show (parseMethodDescriptor yX6_root.desc).map (fun q => q.parameters.length) = some 0 by decide +kernel) hok (by simp only [List.map, zv_cat0, zv_cat1, zv_cat2, List.sum_cons, List.sum_nil]; decide) dX4_lookAtRows_109 hk4.1 hk4.2.1 rfl rfl (fun _ h9 => nomatch h9) ?_
      rintro v9 M9 ⟨e9, e8⟩
      rw [e9, e8]
      clear e9 e8 v9 M9
      show rt_Go _ _ _ _ _ _ _ _ _ _ _ _ 112 [(5, zv s0 0 (M 55 3)), (0, zv s0 2 55), (3, zv s0 2 v3), (4, zv s0 0 v4)] [zv s0 0 (((((zadd ((zu ((zu M 55 4 0)) 55 5 0)) (v3 + 3) (v3 + 4) 4096 ((((zu ((zu M 55 4 0)) 55 5 0)) (v3 + 1) 1))))) (((zadd ((zu ((zu M 55 4 0)) 55 5 0)) (v3 + 3) (v3 + 4) 4096 ((((zu ((zu M 55 4 0)) 55 5 0)) (v3 + 1) 1)))) 55 1) 12)), zv s0 2 55] (zw s0 ca C S (((zadd ((zu ((zu M 55 4 0)) 55 5 0)) (v3 + 3) (v3 + 4) 4096 ((((zu ((zu M 55 4 0)) 55 5 0)) (v3 + 1) 1))))))
      refine z_iconst dX4_lookAtRows_112 ?_
      refine z_callV Γ kk_X4_look kc_RX4_61 (As := [zv s0 0 (((((zadd ((zu ((zu M 55 4 0)) 55 5 0)) (v3 + 3) (v3 + 4) 4096 ((((zu ((zu M 55 4 0)) 55 5 0)) (v3 + 1) 1))))) (((zadd ((zu ((zu M 55 4 0)) 55 5 0)) (v3 + 3) (v3 + 4) 4096 ((((zu ((zu M 55 4 0)) 55 5 0)) (v3 + 1) 1)))) 55 1) 12)), zv s0 0 0]) h (by omega) (by decide) (show (parseMethodDescriptor yX4_look.desc).map (fun q => q.parameters.length) = some 2 by decide +kernel) hok (Nat.zero_le _) dX4_lookAtRows_113 (by decide) hs55 rfl rfl (fun _ h9 => nomatch h9) ?_
      clear h
      intro r113 M113 h
      show rt_Go _ _ _ _ _ _ _ _ _ _ _ _ 116 [(5, zv s0 0 (M 55 3)), (0, zv s0 2 55), (3, zv s0 2 v3), (4, zv s0 0 v4)] [] (zw s0 ca C S M113)
      refine z_aload_n dX4_lookAtRows_116 rfl (j := 1) rfl ?_
      refine z_get Γ kf_RX4_15 dX4_lookAtRows_117 (by decide) hs55 rfl (by decide) (v9 := M113 55 6) rfl ?_
      refine z_if_eq (tgt := 129) (x' := w32 (M113 55 6)) rfl dX4_lookAtRows_120 (by decide) (fun c120 => ?_) (fun c120 => ?_)
      · replace h := h.1 c120
        refine z_aload_n dX4_lookAtRows_129 rfl (j := 1) rfl ?_
        refine z_get Γ kf_RX4_18 dX4_lookAtRows_130 (by decide) hs55 rfl (by decide) (v9 := M113 55 3) rfl ?_
        refine z_iload dX4_lookAtRows_133 (j := 0) rfl ?_
        refine z_icmp_ne (tgt := 141) (x' := w32 (M113 55 3)) (y' := w32 (M 55 3)) rfl rfl dX4_lookAtRows_135 (by decide) (fun c135 => ?_) (fun c135 => ?_)
        · replace h := h.2 c135
          refine z_iinc (lv' := [(4, zv s0 0 (v4 + 1)), (5, zv s0 0 (M 55 3)), (0, zv s0 2 55), (3, zv s0 2 v3)]) dX4_lookAtRows_141 (j := 3) rfl (by decide) (by simp [zv_cat0, zv_cat1, zv_cat2, zv_cats]) ?_
          refine rt_goto (tgt := 62) dX4_lookAtRows_144 (by decide) ?_
          exact rt_lfew [2, 3, 0] rfl h
        · replace h := h.1 c135
          refine z_bipush dX4_lookAtRows_138 (by decide) ?_
          exact z_iret dX4_lookAtRows_140 rfl h
      · replace h := h.2 c120
        refine z_aload_n dX4_lookAtRows_123 rfl (j := 1) rfl ?_
        refine z_get Γ kf_RX4_15 dX4_lookAtRows_124 (by decide) hs55 rfl (by decide) (v9 := M113 55 6) rfl ?_
        refine z_ineg dX4_lookAtRows_127 ?_
        exact z_iret dX4_lookAtRows_128 rfl h
def zt_X4_lookAtRows (l : Launch) (s0 : State) (G : va_G) (ca : Nat → ClassId) (d : Nat) (C : Nat × Nat) (S : zS) (w0 : rt_Wd)  (o : Int) (a : Int) (b : Int) (M : zM) (Q : Int → zM → Prop) (X : zM → Prop) : Prop :=
  zIf (o < 0) (Q ((-34)) ((zu ((zu ((zu M 55 7 ((-1)))) 55 6 0)) 55 3 0))) (zIf (a < 0) (Q ((-34)) ((zu ((zu ((zu M 55 7 ((-1)))) 55 6 0)) 55 3 0))) (zIf (b < 0) (Q ((-34)) ((zu ((zu ((zu M 55 7 ((-1)))) 55 6 0)) 55 3 0))) (∃ (ad1 : Int) (nd1 : Nat), zCe S o ad1 nd1 ∧ (zIf (w32 ((((zu ((zu ((zu M 55 7 ((-1)))) 55 6 0)) 55 3 0)) o 1)) = 0) (Q ((-34)) ((zu ((zu ((zu M 55 7 ((-1)))) 55 6 0)) 55 3 0))) (zRw S b ∧ (zg_X4_lookAtRows_62 l s0 G ca d C S w0  b 0 (((zcut ((zcut ((zu ((zu ((zu ((zu ((zu ((zu M 55 7 ((-1)))) 55 6 0)) 55 3 0)) 55 0 o)) 55 1 a)) 55 2 ((b + 1)))) (b + 1) 4096 0)) (b + 3) 4096 0))) Q X))))))
set_option maxRecDepth 100000 in
theorem z_X4_lookAtRows {l : Launch} {s0 : State} {a0 : Array Value} {G : va_G} {ca : Nat → ClassId} (Γ : rt_Γ l s0 a0 G ca) {d : Nat} {C : Nat × Nat} {S : zS} (hd : 2 ≤ d) (hok : zok C)  (hs : zSok S) (hs55 : S 55 = some (0, 4, [(2, 0), (2, 0), (2, 0), (0, 0), (0, 0), (0, 0), (0, 0), (0, 0)])) {o : Int} {a : Int} {b : Int} {M : zM} {Q : Int → zM → Prop} {X : zM → Prop} (h : zt_X4_lookAtRows l s0 G ca d C S (zw s0 ca C S M)  o a b M Q X) : zm_X4_lookAtRows l s0 G ca d C S  o a b M Q X := by
  refine z_met (lv := [(0, zv s0 2 55), (1, zv s0 2 o), (2, zv s0 2 a), (3, zv s0 2 b)]) Γ kk_X4_lookAtRows rfl (show (lg_sl [zv s0 2 55, zv s0 2 o, zv s0 2 a, zv s0 2 b]).length ≤ 6 from by simp only [zn_2, show (lg_sl []).length = 0 from rfl]; omega) (show lv_args 0 [zv s0 2 55, zv s0 2 o, zv s0 2 a, zv s0 2 b] = [(0, zv s0 2 55), (1, zv s0 2 o), (2, zv s0 2 a), (3, zv s0 2 b)] from by rw [zl_2, zl_2, zl_2, zl_2]; rfl) ?_
  unfold zt_X4_lookAtRows at h
  refine z_aload_n dX4_lookAtRows_0 rfl (j := 0) rfl ?_
  refine z_iconst dX4_lookAtRows_1 ?_
  refine z_put0 Γ kp_RX4_9 dX4_lookAtRows_2 (by decide) hs55 rfl (k9 := 7) rfl ?_
  refine z_aload_n dX4_lookAtRows_5 rfl (j := 0) rfl ?_
  refine z_iconst dX4_lookAtRows_6 ?_
  refine z_put0 Γ kp_RX4_15 dX4_lookAtRows_7 (by decide) hs55 rfl (k9 := 6) rfl ?_
  refine z_aload_n dX4_lookAtRows_10 rfl (j := 0) rfl ?_
  refine z_iconst dX4_lookAtRows_11 ?_
  refine z_put0 Γ kp_RX4_18 dX4_lookAtRows_12 (by decide) hs55 rfl (k9 := 3) rfl ?_
  refine z_aload_n dX4_lookAtRows_15 rfl (j := 1) rfl ?_
  refine z_ifnull (tgt := 34) dX4_lookAtRows_16 (by decide) (fun c16 => ?_) (fun c16 => ?_)
  · replace h := h.1 c16
    refine z_bipush dX4_lookAtRows_34 (by decide) ?_
    exact z_iret dX4_lookAtRows_36 rfl h
  · replace h := h.2 c16
    refine z_aload_n dX4_lookAtRows_19 rfl (j := 2) rfl ?_
    refine z_ifnull (tgt := 34) dX4_lookAtRows_20 (by decide) (fun c20 => ?_) (fun c20 => ?_)
    · replace h := h.1 c20
      refine z_bipush dX4_lookAtRows_34 (by decide) ?_
      exact z_iret dX4_lookAtRows_36 rfl h
    · replace h := h.2 c20
      refine z_aload_n dX4_lookAtRows_23 rfl (j := 3) rfl ?_
      refine z_ifnull (tgt := 34) dX4_lookAtRows_24 (by decide) (fun c24 => ?_) (fun c24 => ?_)
      · replace h := h.1 c24
        refine z_bipush dX4_lookAtRows_34 (by decide) ?_
        exact z_iret dX4_lookAtRows_36 rfl h
      · replace h := h.2 c24
        refine z_aload_n dX4_lookAtRows_27 rfl (j := 1) rfl ?_
        obtain ⟨ad1, nd1, hk0, h⟩ := h
        refine z_callV Γ kk_X0_count kc_RX4_21 (As := []) (k_X0_count (d := d - 1) Γ hok (hk0 : zCe S o ad1 nd1) (M := ((zu ((zu ((zu M 55 7 ((-1)))) 55 6 0)) 55 3 0))) (Q := fun v9 M9 => v9 = (((zu ((zu ((zu M 55 7 ((-1)))) 55 6 0)) 55 3 0)) o 1) ∧ M9 = ((zu ((zu ((zu M 55 7 ((-1)))) 55 6 0)) 55 3 0))) (X := X) (show _ ∧ _ from ⟨rfl, rfl⟩)) (by omega) (by decide) (show (parseMethodDescriptor yX0_count.desc).map (fun q => q.parameters.length) = some 0 by decide +kernel) hok (Nat.zero_le _) dX4_lookAtRows_28 (hk0 : zCe S o ad1 nd1).1 (hk0 : zCe S o ad1 nd1).2.2.2.1 rfl rfl (fun _ h9 => nomatch h9) ?_
        rintro v9 M9 ⟨e9, e8⟩
        rw [e9, e8]
        clear e9 e8 v9 M9
        show rt_Go _ _ _ _ _ _ _ _ _ _ _ _ 31 [(0, zv s0 2 55), (1, zv s0 2 o), (2, zv s0 2 a), (3, zv s0 2 b)] [zv s0 0 ((((zu ((zu ((zu M 55 7 ((-1)))) 55 6 0)) 55 3 0)) o 1))] (zw s0 ca C S ((zu ((zu ((zu M 55 7 ((-1)))) 55 6 0)) 55 3 0)))
        refine z_if_ne (tgt := 37) (x' := w32 ((((zu ((zu ((zu M 55 7 ((-1)))) 55 6 0)) 55 3 0)) o 1))) rfl dX4_lookAtRows_31 (by decide) (fun c31 => ?_) (fun c31 => ?_)
        · replace h := h.2 c31
          refine z_aload_n dX4_lookAtRows_37 rfl (j := 0) rfl ?_
          refine z_aload_n dX4_lookAtRows_38 rfl (j := 1) rfl ?_
          refine z_put2 Γ kp_RX4_27 dX4_lookAtRows_39 (by decide) hs55 rfl (k9 := 0) rfl ?_
          refine z_aload_n dX4_lookAtRows_42 rfl (j := 0) rfl ?_
          refine z_aload_n dX4_lookAtRows_43 rfl (j := 2) rfl ?_
          refine z_put2 Γ kp_RX4_31 dX4_lookAtRows_44 (by decide) hs55 rfl (k9 := 1) rfl ?_
          refine z_aload_n dX4_lookAtRows_47 rfl (j := 0) rfl ?_
          refine z_aload_n dX4_lookAtRows_48 rfl (j := 3) rfl ?_
          obtain ⟨hk1, h⟩ := h
          refine z_callV Γ kk_X5_bytes kc_RX4_35 (As := []) (z_X5_bytes (d := d - 1) Γ hok hk1 (M := ((zu ((zu ((zu ((zu ((zu M 55 7 ((-1)))) 55 6 0)) 55 3 0)) 55 0 o)) 55 1 a))) (Q := fun v9 M9 => v9 = (b + 1) ∧ M9 = ((zu ((zu ((zu ((zu ((zu M 55 7 ((-1)))) 55 6 0)) 55 3 0)) 55 0 o)) 55 1 a))) (X := X) (show _ ∧ _ from ⟨rfl, rfl⟩)) (by omega) (by decide) (show (parseMethodDescriptor yX5_bytes.desc).map (fun q => q.parameters.length) = some 0 by decide +kernel) hok (by simp only [List.map, zv_cat0, zv_cat1, zv_cat2, List.sum_cons, List.sum_nil]; decide) dX4_lookAtRows_49 hk1.1 hk1.2.1 rfl rfl (fun _ h9 => nomatch h9) ?_
          rintro v9 M9 ⟨e9, e8⟩
          rw [e9, e8]
          clear e9 e8 v9 M9
          show rt_Go _ _ _ _ _ _ _ _ _ _ _ _ 52 [(0, zv s0 2 55), (1, zv s0 2 o), (2, zv s0 2 a), (3, zv s0 2 b)] [zv s0 2 ((b + 1)), zv s0 2 55] (zw s0 ca C S ((zu ((zu ((zu ((zu ((zu M 55 7 ((-1)))) 55 6 0)) 55 3 0)) 55 0 o)) 55 1 a)))
          refine z_put2 Γ kp_RX4_41 dX4_lookAtRows_52 (by decide) hs55 rfl (k9 := 2) rfl ?_
          refine z_aload_n dX4_lookAtRows_55 rfl (j := 3) rfl ?_
          refine z_callV Γ kk_X5_clear kc_RX4_44 (As := []) (z_X5_clear (d := d - 1) Γ (by omega) hok hk1 (M := ((zu ((zu ((zu ((zu ((zu ((zu M 55 7 ((-1)))) 55 6 0)) 55 3 0)) 55 0 o)) 55 1 a)) 55 2 ((b + 1))))) (Q := fun v9 M9 => v9 = 0 ∧ M9 = ((zcut ((zcut ((zu ((zu ((zu ((zu ((zu ((zu M 55 7 ((-1)))) 55 6 0)) 55 3 0)) 55 0 o)) 55 1 a)) 55 2 ((b + 1)))) (b + 1) 4096 0)) (b + 3) 4096 0))) (X := X) (show _ ∧ _ from ⟨rfl, rfl⟩)) (by omega) (by decide) (show (parseMethodDescriptor yX5_clear.desc).map (fun q => q.parameters.length) = some 0 by decide +kernel) hok (Nat.zero_le _) dX4_lookAtRows_56 hk1.1 hk1.2.1 rfl rfl (fun _ h9 => nomatch h9) ?_
          rintro v9 M9 ⟨e9, e8⟩
          rw [e9, e8]
          clear e9 e8 v9 M9
          show rt_Go _ _ _ _ _ _ _ _ _ _ _ _ 59 [(0, zv s0 2 55), (1, zv s0 2 o), (2, zv s0 2 a), (3, zv s0 2 b)] [] (zw s0 ca C S (((zcut ((zcut ((zu ((zu ((zu ((zu ((zu ((zu M 55 7 ((-1)))) 55 6 0)) 55 3 0)) 55 0 o)) 55 1 a)) 55 2 ((b + 1)))) (b + 1) 4096 0)) (b + 3) 4096 0))))
          refine z_iconst dX4_lookAtRows_59 ?_
          refine z_istore (i := 4) (lv' := [(4, zv s0 0 0), (0, zv s0 2 55), (1, zv s0 2 o), (2, zv s0 2 a), (3, zv s0 2 b)]) dX4_lookAtRows_60 (by decide) (by simp [zv_cat0, zv_cat1, zv_cat2, zv_cats]) ?_
          exact rt_lfew [1, 4, 0] rfl h
        · replace h := h.1 c31
          refine z_bipush dX4_lookAtRows_34 (by decide) ?_
          exact z_iret dX4_lookAtRows_36 rfl h
/-! ===== PREP ===== -/
abbrev zg_X7_prepare_26 (l : Launch) (s0 : State) (G : va_G) (ca : Nat → ClassId) (d : Nat) (C : Nat × Nat) (S : zS) (w0 : rt_Wd)  (v3 : Int) (v4 : Int)  (M : zM) (Q : Int → zM → Prop) (X : zM → Prop) : Prop := rt_Go l s0 G RX7 "prepare" cX7_prepare 5 (Option.none : Option FieldType) [] d w0 (zQ s0 ca 9 C S Q X) 26 [(0, zv s0 2 56), (3, zv s0 0 v3), (4, zv s0 0 v4)] [] (zw s0 ca C S M)
def zt_X7_prepare_26 (l : Launch) (s0 : State) (G : va_G) (ca : Nat → ClassId) (d : Nat) (C : Nat × Nat) (S : zS) (w0 : rt_Wd)  (v3 : Int) (v4 : Int)  (M : zM) (Q : Int → zM → Prop) (X : zM → Prop) : Prop :=
  zIf (w32 v3 ≤ w32 v4) (Q 0 M) (zg_X7_prepare_26 l s0 G ca d C S w0  v3 (v4 + 1) ((zput M 60 2048 v4 ((-2)))) Q X)
set_option maxRecDepth 100000 in
theorem zs_X7_prepare_26 {l : Launch} {s0 : State} {a0 : Array Value} {G : va_G} {ca : Nat → ClassId} (Γ : rt_Γ l s0 a0 G ca) {d : Nat} {C : Nat × Nat} {S : zS} (hd : 2 ≤ d) (hok : zok C)  (hs : zSok S) (hs56 : S 56 = some (0, 7, [(3, 57), (3, 59), (3, 61), (3, 63), (3, 65), (3, 67), (2, 0), (2, 0), (2, 0), (0, 0), (0, 0), (0, 0)])) {w0 : rt_Wd} {v3 : Int} {v4 : Int}   {M : zM} {Q : Int → zM → Prop} {X : zM → Prop} (h : zt_X7_prepare_26 l s0 G ca d C S w0  v3 v4 M Q X) : zg_X7_prepare_26 l s0 G ca d C S w0  v3 v4 M Q X := by
  unfold zt_X7_prepare_26 at h
  refine z_iload dX7_prepare_26 (j := 2) rfl ?_
  refine z_iload_n dX7_prepare_28 rfl (j := 1) rfl ?_
  refine z_icmp_ge (tgt := 49) (x' := w32 v4) (y' := w32 v3) rfl rfl dX7_prepare_29 (by decide) (fun c29 => ?_) (fun c29 => ?_)
  · replace h := h.1 c29
    exact z_vret dX7_prepare_49 rfl h
  · replace h := h.2 c29
    refine z_aload_n dX7_prepare_32 rfl (j := 0) rfl ?_
    refine z_getc Γ kf_RX7_22 dX7_prepare_33 (by decide) hs56 rfl ?_
    refine z_iload dX7_prepare_36 (j := 2) rfl ?_
    refine z_bipush dX7_prepare_38 (by decide) ?_
    refine z_callV Γ kk_X0_put kc_RX7_48 (As := [zv s0 0 v4, zv s0 0 ((-2))]) (k_X0_put (d := d - 1) Γ hok (⟨by decide, by decide, by decide, hs 59 _ rfl, hs 60 _ rfl⟩ : zCe S 59 60 2048) (M := M) (Q := fun v9 M9 => v9 = 0 ∧ M9 = (zput M 60 2048 v4 ((-2)))) (X := X) (show _ ∧ _ from ⟨rfl, rfl⟩)) (by omega) (by decide) (show (parseMethodDescriptor yX0_put.desc).map (fun q => q.parameters.length) = some 2 by decide +kernel) hok (Nat.zero_le _) dX7_prepare_40 (⟨by decide, by decide, by decide, hs 59 _ rfl, hs 60 _ rfl⟩ : zCe S 59 60 2048).1 (⟨by decide, by decide, by decide, hs 59 _ rfl, hs 60 _ rfl⟩ : zCe S 59 60 2048).2.2.2.1 rfl rfl (fun _ h9 => nomatch h9) ?_
    rintro v9 M9 ⟨e9, e8⟩
    rw [e9, e8]
    clear e9 e8 v9 M9
    show rt_Go _ _ _ _ _ _ _ _ _ _ _ _ 43 [(0, zv s0 2 56), (3, zv s0 0 v3), (4, zv s0 0 v4)] [] (zw s0 ca C S ((zput M 60 2048 v4 ((-2)))))
    refine z_iinc (lv' := [(4, zv s0 0 (v4 + 1)), (0, zv s0 2 56), (3, zv s0 0 v3)]) dX7_prepare_43 (j := 2) rfl (by decide) (by simp [zv_cat0, zv_cat1, zv_cat2, zv_cats]) ?_
    refine rt_goto (tgt := 26) dX7_prepare_46 (by decide) ?_
    exact rt_lfew [1, 2, 0] rfl h
def zt_X7_prepare (l : Launch) (s0 : State) (G : va_G) (ca : Nat → ClassId) (d : Nat) (C : Nat × Nat) (S : zS) (w0 : rt_Wd)  (a : Int) (b : Int) (M : zM) (Q : Int → zM → Prop) (X : zM → Prop) : Prop :=
  zIf (b < 0) (zg_X7_prepare_26 l s0 G ca d C S w0  0 0 ((zu ((zu M 56 7 a)) 56 8 b)) Q X) (zSc S b ∧ (zg_X7_prepare_26 l s0 G ca d C S w0  (((((zu ((zu M 56 7 a)) 56 8 b)) (b + 13) 1))) 0 ((zu ((zu M 56 7 a)) 56 8 b)) Q X))
set_option maxRecDepth 100000 in
theorem z_X7_prepare {l : Launch} {s0 : State} {a0 : Array Value} {G : va_G} {ca : Nat → ClassId} (Γ : rt_Γ l s0 a0 G ca) {d : Nat} {C : Nat × Nat} {S : zS} (hd : 2 ≤ d) (hok : zok C)  (hs : zSok S) (hs56 : S 56 = some (0, 7, [(3, 57), (3, 59), (3, 61), (3, 63), (3, 65), (3, 67), (2, 0), (2, 0), (2, 0), (0, 0), (0, 0), (0, 0)])) {a : Int} {b : Int} {M : zM} {Q : Int → zM → Prop} {X : zM → Prop} (h : zt_X7_prepare l s0 G ca d C S (zw s0 ca C S M)  a b M Q X) : zm_X7_prepare l s0 G ca d C S  a b M Q X := by
  refine z_met (lv := [(0, zv s0 2 56), (1, zv s0 2 a), (2, zv s0 2 b)]) Γ kk_X7_prepare rfl (show (lg_sl [zv s0 2 56, zv s0 2 a, zv s0 2 b]).length ≤ 5 from by simp only [zn_2, show (lg_sl []).length = 0 from rfl]; omega) (show lv_args 0 [zv s0 2 56, zv s0 2 a, zv s0 2 b] = [(0, zv s0 2 56), (1, zv s0 2 a), (2, zv s0 2 b)] from by rw [zl_2, zl_2, zl_2]; rfl) ?_
  unfold zt_X7_prepare at h
  refine z_aload_n dX7_prepare_0 rfl (j := 0) rfl ?_
  refine z_aload_n dX7_prepare_1 rfl (j := 1) rfl ?_
  refine z_put2 Γ kp_RX7_37 dX7_prepare_2 (by decide) hs56 rfl (k9 := 7) rfl ?_
  refine z_aload_n dX7_prepare_5 rfl (j := 0) rfl ?_
  refine z_aload_n dX7_prepare_6 rfl (j := 2) rfl ?_
  refine z_put2 Γ kp_RX7_41 dX7_prepare_7 (by decide) hs56 rfl (k9 := 8) rfl ?_
  refine z_aload_n dX7_prepare_10 rfl (j := 2) rfl ?_
  refine z_ifnonnull (tgt := 18) dX7_prepare_11 (by decide) (fun c11 => ?_) (fun c11 => ?_)
  · replace h := h.2 c11
    refine z_aload_n dX7_prepare_18 rfl (j := 2) rfl ?_
    obtain ⟨hk0, h⟩ := h
    refine z_callV Γ kk_X6_allParts kc_RX7_44 (As := []) (z_X6_allParts (d := d - 1) Γ (by omega) hok hk0 (M := ((zu ((zu M 56 7 a)) 56 8 b))) (Q := fun v9 M9 => v9 = ((((zu ((zu M 56 7 a)) 56 8 b)) (b + 13) 1)) ∧ M9 = ((zu ((zu M 56 7 a)) 56 8 b))) (X := X) (show _ ∧ _ from ⟨rfl, rfl⟩)) (by omega) (by decide) (show (parseMethodDescriptor yX6_allParts.desc).map (fun q => q.parameters.length) = some 0 by decide +kernel) hok (Nat.zero_le _) dX7_prepare_19 hk0.1 hk0.2.1 rfl rfl (fun _ h9 => nomatch h9) ?_
    rintro v9 M9 ⟨e9, e8⟩
    rw [e9, e8]
    clear e9 e8 v9 M9
    show rt_Go _ _ _ _ _ _ _ _ _ _ _ _ 22 [(0, zv s0 2 56), (1, zv s0 2 a), (2, zv s0 2 b)] [zv s0 0 (((((zu ((zu M 56 7 a)) 56 8 b)) (b + 13) 1)))] (zw s0 ca C S ((zu ((zu M 56 7 a)) 56 8 b)))
    refine z_istore_n (i := 3) (lv' := [(3, zv s0 0 (((((zu ((zu M 56 7 a)) 56 8 b)) (b + 13) 1)))), (0, zv s0 2 56), (1, zv s0 2 a), (2, zv s0 2 b)]) dX7_prepare_22 rfl (by decide) (by simp [zv_cat0, zv_cat1, zv_cat2, zv_cats]) ?_
    refine z_iconst dX7_prepare_23 ?_
    refine z_istore (i := 4) (lv' := [(4, zv s0 0 0), (3, zv s0 0 (((((zu ((zu M 56 7 a)) 56 8 b)) (b + 13) 1)))), (0, zv s0 2 56), (1, zv s0 2 a), (2, zv s0 2 b)]) dX7_prepare_24 (by decide) (by simp [zv_cat0, zv_cat1, zv_cat2, zv_cats]) ?_
    exact rt_lfew [2, 1, 0] rfl h
  · replace h := h.1 c11
    refine z_iconst dX7_prepare_14 ?_
    refine rt_goto (tgt := 22) dX7_prepare_15 (by decide) ?_
    refine z_istore_n (i := 3) (lv' := [(3, zv s0 0 0), (0, zv s0 2 56), (1, zv s0 2 a), (2, zv s0 2 b)]) dX7_prepare_22 rfl (by decide) (by simp [zv_cat0, zv_cat1, zv_cat2, zv_cats]) ?_
    refine z_iconst dX7_prepare_23 ?_
    refine z_istore (i := 4) (lv' := [(4, zv s0 0 0), (3, zv s0 0 0), (0, zv s0 2 56), (1, zv s0 2 a), (2, zv s0 2 b)]) dX7_prepare_24 (by decide) (by simp [zv_cat0, zv_cat1, zv_cat2, zv_cats]) ?_
    exact rt_lfew [2, 1, 0] rfl h
/-! ===== TELLR ===== -/
def zt_X7_tell (l : Launch) (s0 : State) (G : va_G) (ca : Nat → ClassId) (d : Nat) (C : Nat × Nat) (S : zS) (w0 : rt_Wd)  (o : Int) (i : Int) (M : zM) (Q : Int → zM → Prop) (X : zM → Prop) : Prop :=
  zIf (o < 0) (Q ((-20)) ((zu ((zu ((zcut M 57 4096 0)) 56 9 (((zcut M 57 4096 0) 56 9) + 1))) 56 11 0))) (zIf ((zcut M 57 4096 0) 56 7 < 0) (Q ((-20)) ((zu ((zu ((zcut M 57 4096 0)) 56 9 (((zcut M 57 4096 0) 56 9) + 1))) 56 11 0))) (zIf ((zcut M 57 4096 0) 56 8 < 0) (Q ((-20)) ((zu ((zu ((zcut M 57 4096 0)) 56 9 (((zcut M 57 4096 0) 56 9) + 1))) 56 11 0))) (zRw S o ∧ (zSc S ((zcut M 57 4096 0) 56 7) ∧ (zSc S ((zcut M 57 4096 0) 56 8) ∧ (zm_X7_tellDatum l s0 G ca (d - 1) C S ((((zu ((zu ((zu ((zu ((zcut M 57 4096 0)) 56 9 (((zcut M 57 4096 0) 56 9) + 1))) 56 11 0)) 56 6 ((o + 1)))) 56 10 (((zat ((zu ((zu ((zu ((zcut M 57 4096 0)) 56 9 (((zcut M 57 4096 0) 56 9) + 1))) 56 11 0)) 56 6 ((o + 1)))) (o + 4) 4096 i))))) ((zcut M 57 4096 0) 56 7) 12)) ((((zu ((zu ((zu ((zu ((zcut M 57 4096 0)) 56 9 (((zcut M 57 4096 0) 56 9) + 1))) 56 11 0)) 56 6 ((o + 1)))) 56 10 (((zat ((zu ((zu ((zu ((zcut M 57 4096 0)) 56 9 (((zcut M 57 4096 0) 56 9) + 1))) 56 11 0)) 56 6 ((o + 1)))) (o + 4) 4096 i))))) ((zcut M 57 4096 0) 56 8) 12)) 0 ((zu ((zu ((zu ((zu ((zcut M 57 4096 0)) 56 9 (((zcut M 57 4096 0) 56 9) + 1))) 56 11 0)) 56 6 ((o + 1)))) 56 10 (((zat ((zu ((zu ((zu ((zcut M 57 4096 0)) 56 9 (((zcut M 57 4096 0) 56 9) + 1))) 56 11 0)) 56 6 ((o + 1)))) (o + 4) 4096 i))))) (fun r77 M77 => Q (M77 56 11) M77) X))))))
set_option maxRecDepth 100000 in
theorem z_X7_tell {l : Launch} {s0 : State} {a0 : Array Value} {G : va_G} {ca : Nat → ClassId} (Γ : rt_Γ l s0 a0 G ca) {d : Nat} {C : Nat × Nat} {S : zS} (hd : 2 ≤ d) (hok : zok C)  (hs : zSok S) (hs56 : S 56 = some (0, 7, [(3, 57), (3, 59), (3, 61), (3, 63), (3, 65), (3, 67), (2, 0), (2, 0), (2, 0), (0, 0), (0, 0), (0, 0)])) {o : Int} {i : Int} {M : zM} {Q : Int → zM → Prop} {X : zM → Prop} (h : zt_X7_tell l s0 G ca d C S (zw s0 ca C S M)  o i M Q X) : zm_X7_tell l s0 G ca d C S  o i M Q X := by
  refine z_met (lv := [(0, zv s0 2 56), (1, zv s0 2 o), (2, zv s0 0 i)]) Γ kk_X7_tell rfl (show (lg_sl [zv s0 2 56, zv s0 2 o, zv s0 0 i]).length ≤ 3 from by simp only [zn_0, zn_2, show (lg_sl []).length = 0 from rfl]; omega) (show lv_args 0 [zv s0 2 56, zv s0 2 o, zv s0 0 i] = [(0, zv s0 2 56), (1, zv s0 2 o), (2, zv s0 0 i)] from by rw [zl_2, zl_2, zl_0]; rfl) ?_
  unfold zt_X7_tell at h
  refine z_aload_n dX7_tell_0 rfl (j := 0) rfl ?_
  refine z_getc Γ kf_RX7_14 dX7_tell_1 (by decide) hs56 rfl ?_
  refine z_iconst dX7_tell_4 ?_
  refine z_callV Γ kk_X0_cut kc_RX7_52 (As := [zv s0 0 0]) (k_X0_cut (d := d - 1) Γ hok (⟨by decide, by decide, by decide, hs 57 _ rfl, hs 58 _ rfl⟩ : zCe S 57 58 4096) (M := M) (Q := fun v9 M9 => v9 = 0 ∧ M9 = (zcut M 57 4096 0)) (X := X) (show _ ∧ _ from ⟨rfl, rfl⟩)) (by omega) (by decide) (show (parseMethodDescriptor yX0_cut.desc).map (fun q => q.parameters.length) = some 1 by decide +kernel) hok (Nat.zero_le _) dX7_tell_5 (⟨by decide, by decide, by decide, hs 57 _ rfl, hs 58 _ rfl⟩ : zCe S 57 58 4096).1 (⟨by decide, by decide, by decide, hs 57 _ rfl, hs 58 _ rfl⟩ : zCe S 57 58 4096).2.2.2.1 rfl rfl (fun _ h9 => nomatch h9) ?_
  rintro v9 M9 ⟨e9, e8⟩
  rw [e9, e8]
  clear e9 e8 v9 M9
  show rt_Go _ _ _ _ _ _ _ _ _ _ _ _ 8 [(0, zv s0 2 56), (1, zv s0 2 o), (2, zv s0 0 i)] [] (zw s0 ca C S ((zcut M 57 4096 0)))
  refine z_aload_n dX7_tell_8 rfl (j := 0) rfl ?_
  refine z_dup2 dX7_tell_9 ?_
  refine z_get Γ kf_RX7_55 dX7_tell_10 (by decide) hs56 rfl (by decide) (v9 := (zcut M 57 4096 0) 56 9) rfl ?_
  refine z_iconst dX7_tell_13 ?_
  refine z_iadd dX7_tell_14 ?_
  refine z_put0 Γ kp_RX7_55 dX7_tell_15 (by decide) hs56 rfl (k9 := 9) rfl ?_
  refine z_aload_n dX7_tell_18 rfl (j := 0) rfl ?_
  refine z_iconst dX7_tell_19 ?_
  refine z_put0 Γ kp_RX7_59 dX7_tell_20 (by decide) hs56 rfl (k9 := 11) rfl ?_
  refine z_aload_n dX7_tell_23 rfl (j := 1) rfl ?_
  refine z_ifnull (tgt := 41) dX7_tell_24 (by decide) (fun c24 => ?_) (fun c24 => ?_)
  · replace h := h.1 c24
    refine z_bipush dX7_tell_41 (by decide) ?_
    exact z_iret dX7_tell_43 rfl h
  · replace h := h.2 c24
    refine z_aload_n dX7_tell_27 rfl (j := 0) rfl ?_
    refine z_get Γ kf_RX7_37 dX7_tell_28 (by decide) hs56 rfl (by decide) (v9 := (zcut M 57 4096 0) 56 7) ((zu_k (by decide)).trans ((zu_k (by decide)).trans rfl)) ?_
    refine z_ifnull (tgt := 41) dX7_tell_31 (by decide) (fun c31 => ?_) (fun c31 => ?_)
    · replace h := h.1 c31
      refine z_bipush dX7_tell_41 (by decide) ?_
      exact z_iret dX7_tell_43 rfl h
    · replace h := h.2 c31
      refine z_aload_n dX7_tell_34 rfl (j := 0) rfl ?_
      refine z_get Γ kf_RX7_41 dX7_tell_35 (by decide) hs56 rfl (by decide) (v9 := (zcut M 57 4096 0) 56 8) ((zu_k (by decide)).trans ((zu_k (by decide)).trans rfl)) ?_
      refine z_ifnonnull (tgt := 44) dX7_tell_38 (by decide) (fun c38 => ?_) (fun c38 => ?_)
      · replace h := h.2 c38
        refine z_aload_n dX7_tell_44 rfl (j := 0) rfl ?_
        refine z_aload_n dX7_tell_45 rfl (j := 1) rfl ?_
        obtain ⟨hk0, h⟩ := h
        refine z_callV Γ kk_X5_bytes kc_RX7_62 (As := []) (z_X5_bytes (d := d - 1) Γ hok hk0 (M := ((zu ((zu ((zcut M 57 4096 0)) 56 9 (((zcut M 57 4096 0) 56 9) + 1))) 56 11 0))) (Q := fun v9 M9 => v9 = (o + 1) ∧ M9 = ((zu ((zu ((zcut M 57 4096 0)) 56 9 (((zcut M 57 4096 0) 56 9) + 1))) 56 11 0))) (X := X) (show _ ∧ _ from ⟨rfl, rfl⟩)) (by omega) (by decide) (show (parseMethodDescriptor yX5_bytes.desc).map (fun q => q.parameters.length) = some 0 by decide +kernel) hok (by simp only [List.map, zv_cat0, zv_cat1, zv_cat2, List.sum_cons, List.sum_nil]; decide) dX7_tell_46 hk0.1 hk0.2.1 rfl rfl (fun _ h9 => nomatch h9) ?_
        rintro v9 M9 ⟨e9, e8⟩
        rw [e9, e8]
        clear e9 e8 v9 M9
        show rt_Go _ _ _ _ _ _ _ _ _ _ _ _ 49 [(0, zv s0 2 56), (1, zv s0 2 o), (2, zv s0 0 i)] [zv s0 2 ((o + 1)), zv s0 2 56] (zw s0 ca C S ((zu ((zu ((zcut M 57 4096 0)) 56 9 (((zcut M 57 4096 0) 56 9) + 1))) 56 11 0)))
        refine z_put2 Γ kp_RX7_68 dX7_tell_49 (by decide) hs56 rfl (k9 := 6) rfl ?_
        refine z_aload_n dX7_tell_52 rfl (j := 0) rfl ?_
        refine z_aload_n dX7_tell_53 rfl (j := 1) rfl ?_
        refine z_iload_n dX7_tell_54 rfl (j := 2) rfl ?_
        refine z_callV Γ kk_X5_start kc_RX7_70 (As := [zv s0 0 i]) (z_X5_start (d := d - 1) Γ (by omega) hok hk0 (M := ((zu ((zu ((zu ((zcut M 57 4096 0)) 56 9 (((zcut M 57 4096 0) 56 9) + 1))) 56 11 0)) 56 6 ((o + 1))))) (Q := fun v9 M9 => v9 = ((zat ((zu ((zu ((zu ((zcut M 57 4096 0)) 56 9 (((zcut M 57 4096 0) 56 9) + 1))) 56 11 0)) 56 6 ((o + 1)))) (o + 4) 4096 i)) ∧ M9 = ((zu ((zu ((zu ((zcut M 57 4096 0)) 56 9 (((zcut M 57 4096 0) 56 9) + 1))) 56 11 0)) 56 6 ((o + 1))))) (X := X) (show _ ∧ _ from ⟨rfl, rfl⟩)) (by omega) (by decide) (show (parseMethodDescriptor yX5_start.desc).map (fun q => q.parameters.length) = some 1 by decide +kernel) hok (by simp only [List.map, zv_cat0, zv_cat1, zv_cat2, List.sum_cons, List.sum_nil]; decide) dX7_tell_55 hk0.1 hk0.2.1 rfl rfl (fun _ h9 => nomatch h9) ?_
        rintro v9 M9 ⟨e9, e8⟩
        rw [e9, e8]
        clear e9 e8 v9 M9
        show rt_Go _ _ _ _ _ _ _ _ _ _ _ _ 58 [(0, zv s0 2 56), (1, zv s0 2 o), (2, zv s0 0 i)] [zv s0 0 (((zat ((zu ((zu ((zu ((zcut M 57 4096 0)) 56 9 (((zcut M 57 4096 0) 56 9) + 1))) 56 11 0)) 56 6 ((o + 1)))) (o + 4) 4096 i))), zv s0 2 56] (zw s0 ca C S ((zu ((zu ((zu ((zcut M 57 4096 0)) 56 9 (((zcut M 57 4096 0) 56 9) + 1))) 56 11 0)) 56 6 ((o + 1)))))
        refine z_put0 Γ kp_RX7_74 dX7_tell_58 (by decide) hs56 rfl (k9 := 10) rfl ?_
        refine z_aload_n dX7_tell_61 rfl (j := 0) rfl ?_
        refine z_aload_n dX7_tell_62 rfl (j := 0) rfl ?_
        refine z_get Γ kf_RX7_37 dX7_tell_63 (by decide) hs56 rfl (by decide) (v9 := (zcut M 57 4096 0) 56 7) ((zu_k (by decide)).trans ((zu_k (by decide)).trans ((zu_k (by decide)).trans ((zu_k (by decide)).trans rfl)))) ?_
        obtain ⟨hk1, h⟩ := h
        refine z_callV Γ kk_X6_root kc_RX7_77 (As := []) (z_X6_root (d := d - 1) Γ hok hk1 (M := ((zu ((zu ((zu ((zu ((zcut M 57 4096 0)) 56 9 (((zcut M 57 4096 0) 56 9) + 1))) 56 11 0)) 56 6 ((o + 1)))) 56 10 (((zat ((zu ((zu ((zu ((zcut M 57 4096 0)) 56 9 (((zcut M 57 4096 0) 56 9) + 1))) 56 11 0)) 56 6 ((o + 1)))) (o + 4) 4096 i)))))) (Q := fun v9 M9 => v9 = (((zu ((zu ((zu ((zu ((zcut M 57 4096 0)) 56 9 (((zcut M 57 4096 0) 56 9) + 1))) 56 11 0)) 56 6 ((o + 1)))) 56 10 (((zat ((zu ((zu ((zu ((zcut M 57 4096 0)) 56 9 (((zcut M 57 4096 0) 56 9) + 1))) 56 11 0)) 56 6 ((o + 1)))) (o + 4) 4096 i))))) ((zcut M 57 4096 0) 56 7) 12) ∧ M9 = ((zu ((zu ((zu ((zu ((zcut M 57 4096 0)) 56 9 (((zcut M 57 4096 0) 56 9) + 1))) 56 11 0)) 56 6 ((o + 1)))) 56 10 (((zat ((zu ((zu ((zu ((zcut M 57 4096 0)) 56 9 (((zcut M 57 4096 0) 56 9) + 1))) 56 11 0)) 56 6 ((o + 1)))) (o + 4) 4096 i)))))) (X := X) (show _ ∧ _ from ⟨rfl, rfl⟩)) (by omega) (by decide) (show (parseMethodDescriptor yX6_root.desc).map (fun q => q.parameters.length) = some 0 by decide +kernel) hok (by simp only [List.map, zv_cat0, zv_cat1, zv_cat2, List.sum_cons, List.sum_nil]; decide) dX7_tell_66 hk1.1 hk1.2.1 rfl rfl (fun _ h9 => nomatch h9) ?_
        rintro v9 M9 ⟨e9, e8⟩
        rw [e9, e8]
        clear e9 e8 v9 M9
        show rt_Go _ _ _ _ _ _ _ _ _ _ _ _ 69 [(0, zv s0 2 56), (1, zv s0 2 o), (2, zv s0 0 i)] [zv s0 0 ((((zu ((zu ((zu ((zu ((zcut M 57 4096 0)) 56 9 (((zcut M 57 4096 0) 56 9) + 1))) 56 11 0)) 56 6 ((o + 1)))) 56 10 (((zat ((zu ((zu ((zu ((zcut M 57 4096 0)) 56 9 (((zcut M 57 4096 0) 56 9) + 1))) 56 11 0)) 56 6 ((o + 1)))) (o + 4) 4096 i))))) ((zcut M 57 4096 0) 56 7) 12)), zv s0 2 56] (zw s0 ca C S ((zu ((zu ((zu ((zu ((zcut M 57 4096 0)) 56 9 (((zcut M 57 4096 0) 56 9) + 1))) 56 11 0)) 56 6 ((o + 1)))) 56 10 (((zat ((zu ((zu ((zu ((zcut M 57 4096 0)) 56 9 (((zcut M 57 4096 0) 56 9) + 1))) 56 11 0)) 56 6 ((o + 1)))) (o + 4) 4096 i))))))
        refine z_aload_n dX7_tell_69 rfl (j := 0) rfl ?_
        refine z_get Γ kf_RX7_41 dX7_tell_70 (by decide) hs56 rfl (by decide) (v9 := (zcut M 57 4096 0) 56 8) ((zu_k (by decide)).trans ((zu_k (by decide)).trans ((zu_k (by decide)).trans ((zu_k (by decide)).trans rfl)))) ?_
        obtain ⟨hk2, h⟩ := h
        refine z_callV Γ kk_X6_root kc_RX7_77 (As := []) (z_X6_root (d := d - 1) Γ hok hk2 (M := ((zu ((zu ((zu ((zu ((zcut M 57 4096 0)) 56 9 (((zcut M 57 4096 0) 56 9) + 1))) 56 11 0)) 56 6 ((o + 1)))) 56 10 (((zat ((zu ((zu ((zu ((zcut M 57 4096 0)) 56 9 (((zcut M 57 4096 0) 56 9) + 1))) 56 11 0)) 56 6 ((o + 1)))) (o + 4) 4096 i)))))) (Q := fun v9 M9 => v9 = (((zu ((zu ((zu ((zu ((zcut M 57 4096 0)) 56 9 (((zcut M 57 4096 0) 56 9) + 1))) 56 11 0)) 56 6 ((o + 1)))) 56 10 (((zat ((zu ((zu ((zu ((zcut M 57 4096 0)) 56 9 (((zcut M 57 4096 0) 56 9) + 1))) 56 11 0)) 56 6 ((o + 1)))) (o + 4) 4096 i))))) ((zcut M 57 4096 0) 56 8) 12) ∧ M9 = ((zu ((zu ((zu ((zu ((zcut M 57 4096 0)) 56 9 (((zcut M 57 4096 0) 56 9) + 1))) 56 11 0)) 56 6 ((o + 1)))) 56 10 (((zat ((zu ((zu ((zu ((zcut M 57 4096 0)) 56 9 (((zcut M 57 4096 0) 56 9) + 1))) 56 11 0)) 56 6 ((o + 1)))) (o + 4) 4096 i)))))) (X := X) (show _ ∧ _ from ⟨rfl, rfl⟩)) (by omega) (by decide) (show (parseMethodDescriptor yX6_root.desc).map (fun q => q.parameters.length) = some 0 by decide +kernel) hok (by simp only [List.map, zv_cat0, zv_cat1, zv_cat2, List.sum_cons, List.sum_nil]; decide) dX7_tell_73 hk2.1 hk2.2.1 rfl rfl (fun _ h9 => nomatch h9) ?_
        rintro v9 M9 ⟨e9, e8⟩
        rw [e9, e8]
        clear e9 e8 v9 M9
        show rt_Go _ _ _ _ _ _ _ _ _ _ _ _ 76 [(0, zv s0 2 56), (1, zv s0 2 o), (2, zv s0 0 i)] [zv s0 0 ((((zu ((zu ((zu ((zu ((zcut M 57 4096 0)) 56 9 (((zcut M 57 4096 0) 56 9) + 1))) 56 11 0)) 56 6 ((o + 1)))) 56 10 (((zat ((zu ((zu ((zu ((zcut M 57 4096 0)) 56 9 (((zcut M 57 4096 0) 56 9) + 1))) 56 11 0)) 56 6 ((o + 1)))) (o + 4) 4096 i))))) ((zcut M 57 4096 0) 56 8) 12)), zv s0 0 ((((zu ((zu ((zu ((zu ((zcut M 57 4096 0)) 56 9 (((zcut M 57 4096 0) 56 9) + 1))) 56 11 0)) 56 6 ((o + 1)))) 56 10 (((zat ((zu ((zu ((zu ((zcut M 57 4096 0)) 56 9 (((zcut M 57 4096 0) 56 9) + 1))) 56 11 0)) 56 6 ((o + 1)))) (o + 4) 4096 i))))) ((zcut M 57 4096 0) 56 7) 12)), zv s0 2 56] (zw s0 ca C S ((zu ((zu ((zu ((zu ((zcut M 57 4096 0)) 56 9 (((zcut M 57 4096 0) 56 9) + 1))) 56 11 0)) 56 6 ((o + 1)))) 56 10 (((zat ((zu ((zu ((zu ((zcut M 57 4096 0)) 56 9 (((zcut M 57 4096 0) 56 9) + 1))) 56 11 0)) 56 6 ((o + 1)))) (o + 4) 4096 i))))))
        refine z_iconst dX7_tell_76 ?_
        refine z_callV Γ kk_X7_tellDatum kc_RX7_80 (As := [zv s0 0 ((((zu ((zu ((zu ((zu ((zcut M 57 4096 0)) 56 9 (((zcut M 57 4096 0) 56 9) + 1))) 56 11 0)) 56 6 ((o + 1)))) 56 10 (((zat ((zu ((zu ((zu ((zcut M 57 4096 0)) 56 9 (((zcut M 57 4096 0) 56 9) + 1))) 56 11 0)) 56 6 ((o + 1)))) (o + 4) 4096 i))))) ((zcut M 57 4096 0) 56 7) 12)), zv s0 0 ((((zu ((zu ((zu ((zu ((zcut M 57 4096 0)) 56 9 (((zcut M 57 4096 0) 56 9) + 1))) 56 11 0)) 56 6 ((o + 1)))) 56 10 (((zat ((zu ((zu ((zu ((zcut M 57 4096 0)) 56 9 (((zcut M 57 4096 0) 56 9) + 1))) 56 11 0)) 56 6 ((o + 1)))) (o + 4) 4096 i))))) ((zcut M 57 4096 0) 56 8) 12)), zv s0 0 0]) h (by omega) (by decide) (show (parseMethodDescriptor yX7_tellDatum.desc).map (fun q => q.parameters.length) = some 3 by decide +kernel) hok (Nat.zero_le _) dX7_tell_77 (by decide) hs56 rfl rfl (fun _ h9 => nomatch h9) ?_
        clear h
        intro r77 M77 h
        show rt_Go _ _ _ _ _ _ _ _ _ _ _ _ 80 [(0, zv s0 2 56), (1, zv s0 2 o), (2, zv s0 0 i)] [] (zw s0 ca C S M77)
        refine z_aload_n dX7_tell_80 rfl (j := 0) rfl ?_
        refine z_get Γ kf_RX7_59 dX7_tell_81 (by decide) hs56 rfl (by decide) (v9 := M77 56 11) rfl ?_
        exact z_iret dX7_tell_84 rfl h
      · replace h := h.1 c38
        refine z_bipush dX7_tell_41 (by decide) ?_
        exact z_iret dX7_tell_43 rfl h
/-! ===== FIT ===== -/
abbrev zg_X3_fit_58 (l : Launch) (s0 : State) (G : va_G) (ca : Nat → ClassId) (d : Nat) (C : Nat × Nat) (S : zS) (w0 : rt_Wd)  (v3 : Int)  (M : zM) (Q : Int → zM → Prop) (X : zM → Prop) : Prop := rt_Go l s0 G RX3 "fit" cX3_fit 5 (Option.some FieldType.boolean) [] d w0 (zQ s0 ca 0 C S Q X) 58 [(0, zv s0 2 69), (3, zv s0 0 v3)] [] (zw s0 ca C S M)
def zt_X3_fit_58 (l : Launch) (s0 : State) (G : va_G) (ca : Nat → ClassId) (d : Nat) (C : Nat × Nat) (S : zS) (w0 : rt_Wd)  (v3 : Int)  (M : zM) (Q : Int → zM → Prop) (X : zM → Prop) : Prop :=
  zIf (17956 ≤ w32 v3) (Q 1 M) (zIf (w32 ((M 72 1)) ≤ 0) (Q 1 M) (zm_X3_fitBySelves l s0 G ca (d - 1) C S (zdiv ((zat M 73 17956 (((M 72 1)) - 1))) 134) (zrem ((zat M 73 17956 (((M 72 1)) - 1))) 134) ((zcut M 72 17956 (((M 72 1)) - 1))) (fun r122 M122 => zIf (w32 r122 = 0) (Q 0 M122) (zg_X3_fit_58 l s0 G ca d C S w0  (v3 + 1) M122 Q X)) X))
set_option maxRecDepth 100000 in
theorem zs_X3_fit_58 {l : Launch} {s0 : State} {a0 : Array Value} {G : va_G} {ca : Nat → ClassId} (Γ : rt_Γ l s0 a0 G ca) {d : Nat} {C : Nat × Nat} {S : zS} (hd : 1 ≤ d) (hok : zok C)  (hs : zSok S) (hs69 : S 69 = some (0, 3, [(3, 70), (3, 72), (2, 0), (2, 0), (0, 0)])) {w0 : rt_Wd} {v3 : Int}   {M : zM} {Q : Int → zM → Prop} {X : zM → Prop} (h : zt_X3_fit_58 l s0 G ca d C S w0  v3 M Q X) : zg_X3_fit_58 l s0 G ca d C S w0  v3 M Q X := by
  unfold zt_X3_fit_58 at h
  refine z_iload_n dX3_fit_58 rfl (j := 1) rfl ?_
  refine z_sipush dX3_fit_59 (by decide) ?_
  refine z_icmp_ge (tgt := 136) (x' := w32 v3) (y' := 17956) rfl (by decide) dX3_fit_62 (by decide) (fun c62 => ?_) (fun c62 => ?_)
  · replace h := h.1 c62
    refine z_iconst dX3_fit_136 ?_
    exact z_zret dX3_fit_137 rfl (by decide) h
  · replace h := h.2 c62
    refine z_aload_n dX3_fit_65 rfl (j := 0) rfl ?_
    refine z_getc Γ kf_RX3_22 dX3_fit_66 (by decide) hs69 rfl ?_
    refine z_callV Γ kk_X0_count kc_RX3_47 (As := []) (k_X0_count (d := d - 1) Γ hok (⟨by decide, by decide, by decide, hs 72 _ rfl, hs 73 _ rfl⟩ : zCe S 72 73 17956) (M := M) (Q := fun v9 M9 => v9 = (M 72 1) ∧ M9 = M) (X := X) (show _ ∧ _ from ⟨rfl, rfl⟩)) (by omega) (by decide) (show (parseMethodDescriptor yX0_count.desc).map (fun q => q.parameters.length) = some 0 by decide +kernel) hok (Nat.zero_le _) dX3_fit_69 (⟨by decide, by decide, by decide, hs 72 _ rfl, hs 73 _ rfl⟩ : zCe S 72 73 17956).1 (⟨by decide, by decide, by decide, hs 72 _ rfl, hs 73 _ rfl⟩ : zCe S 72 73 17956).2.2.2.1 rfl rfl (fun _ h9 => nomatch h9) ?_
    rintro v9 M9 ⟨e9, e8⟩
    rw [e9, e8]
    clear e9 e8 v9 M9
    show rt_Go _ _ _ _ _ _ _ _ _ _ _ _ 72 [(0, zv s0 2 69), (3, zv s0 0 v3)] [zv s0 0 ((M 72 1))] (zw s0 ca C S M)
    refine z_if_le (tgt := 136) (x' := w32 ((M 72 1))) rfl dX3_fit_72 (by decide) (fun c72 => ?_) (fun c72 => ?_)
    · replace h := h.1 c72
      refine z_iconst dX3_fit_136 ?_
      exact z_zret dX3_fit_137 rfl (by decide) h
    · replace h := h.2 c72
      refine z_aload_n dX3_fit_75 rfl (j := 0) rfl ?_
      refine z_getc Γ kf_RX3_22 dX3_fit_76 (by decide) hs69 rfl ?_
      refine z_aload_n dX3_fit_79 rfl (j := 0) rfl ?_
      refine z_getc Γ kf_RX3_22 dX3_fit_80 (by decide) hs69 rfl ?_
      refine z_callV Γ kk_X0_count kc_RX3_47 (As := []) (k_X0_count (d := d - 1) Γ hok (⟨by decide, by decide, by decide, hs 72 _ rfl, hs 73 _ rfl⟩ : zCe S 72 73 17956) (M := M) (Q := fun v9 M9 => v9 = (M 72 1) ∧ M9 = M) (X := X) (show _ ∧ _ from ⟨rfl, rfl⟩)) (by omega) (by decide) (show (parseMethodDescriptor yX0_count.desc).map (fun q => q.parameters.length) = some 0 by decide +kernel) hok (by simp only [List.map, zv_cat0, zv_cat1, zv_cat2, List.sum_cons, List.sum_nil]; decide) dX3_fit_83 (⟨by decide, by decide, by decide, hs 72 _ rfl, hs 73 _ rfl⟩ : zCe S 72 73 17956).1 (⟨by decide, by decide, by decide, hs 72 _ rfl, hs 73 _ rfl⟩ : zCe S 72 73 17956).2.2.2.1 rfl rfl (fun _ h9 => nomatch h9) ?_
      rintro v9 M9 ⟨e9, e8⟩
      rw [e9, e8]
      clear e9 e8 v9 M9
      show rt_Go _ _ _ _ _ _ _ _ _ _ _ _ 86 [(0, zv s0 2 69), (3, zv s0 0 v3)] [zv s0 0 ((M 72 1)), zv s0 2 72] (zw s0 ca C S M)
      refine z_iconst dX3_fit_86 ?_
      refine z_isub dX3_fit_87 ?_
      refine z_callV Γ kk_X0_at kc_RX3_50 (As := [zv s0 0 (((M 72 1)) - 1)]) (k_X0_at (d := d - 1) Γ hok (⟨by decide, by decide, by decide, hs 72 _ rfl, hs 73 _ rfl⟩ : zCe S 72 73 17956) (M := M) (Q := fun v9 M9 => v9 = (zat M 73 17956 (((M 72 1)) - 1)) ∧ M9 = M) (X := X) (show _ ∧ _ from ⟨rfl, rfl⟩)) (by omega) (by decide) (show (parseMethodDescriptor yX0_at.desc).map (fun q => q.parameters.length) = some 1 by decide +kernel) hok (Nat.zero_le _) dX3_fit_88 (⟨by decide, by decide, by decide, hs 72 _ rfl, hs 73 _ rfl⟩ : zCe S 72 73 17956).1 (⟨by decide, by decide, by decide, hs 72 _ rfl, hs 73 _ rfl⟩ : zCe S 72 73 17956).2.2.2.1 rfl rfl (fun _ h9 => nomatch h9) ?_
      rintro v9 M9 ⟨e9, e8⟩
      rw [e9, e8]
      clear e9 e8 v9 M9
      show rt_Go _ _ _ _ _ _ _ _ _ _ _ _ 91 [(0, zv s0 2 69), (3, zv s0 0 v3)] [zv s0 0 ((zat M 73 17956 (((M 72 1)) - 1)))] (zw s0 ca C S M)
      refine z_istore (i := 4) (lv' := [(4, zv s0 0 ((zat M 73 17956 (((M 72 1)) - 1)))), (0, zv s0 2 69), (3, zv s0 0 v3)]) dX3_fit_91 (by decide) (by simp [zv_cat0, zv_cat1, zv_cat2, zv_cats]) ?_
      refine z_aload_n dX3_fit_93 rfl (j := 1) rfl ?_
      refine z_getc Γ kf_RX3_22 dX3_fit_94 (by decide) hs69 rfl ?_
      refine z_aload_n dX3_fit_97 rfl (j := 1) rfl ?_
      refine z_getc Γ kf_RX3_22 dX3_fit_98 (by decide) hs69 rfl ?_
      refine z_callV Γ kk_X0_count kc_RX3_47 (As := []) (k_X0_count (d := d - 1) Γ hok (⟨by decide, by decide, by decide, hs 72 _ rfl, hs 73 _ rfl⟩ : zCe S 72 73 17956) (M := M) (Q := fun v9 M9 => v9 = (M 72 1) ∧ M9 = M) (X := X) (show _ ∧ _ from ⟨rfl, rfl⟩)) (by omega) (by decide) (show (parseMethodDescriptor yX0_count.desc).map (fun q => q.parameters.length) = some 0 by decide +kernel) hok (by simp only [List.map, zv_cat0, zv_cat1, zv_cat2, List.sum_cons, List.sum_nil]; decide) dX3_fit_101 (⟨by decide, by decide, by decide, hs 72 _ rfl, hs 73 _ rfl⟩ : zCe S 72 73 17956).1 (⟨by decide, by decide, by decide, hs 72 _ rfl, hs 73 _ rfl⟩ : zCe S 72 73 17956).2.2.2.1 rfl rfl (fun _ h9 => nomatch h9) ?_
      rintro v9 M9 ⟨e9, e8⟩
      rw [e9, e8]
      clear e9 e8 v9 M9
      show rt_Go _ _ _ _ _ _ _ _ _ _ _ _ 104 [(4, zv s0 0 ((zat M 73 17956 (((M 72 1)) - 1)))), (0, zv s0 2 69), (3, zv s0 0 v3)] [zv s0 0 ((M 72 1)), zv s0 2 72] (zw s0 ca C S M)
      refine z_iconst dX3_fit_104 ?_
      refine z_isub dX3_fit_105 ?_
      refine z_callV Γ kk_X0_cut kc_RX3_36 (As := [zv s0 0 (((M 72 1)) - 1)]) (k_X0_cut (d := d - 1) Γ hok (⟨by decide, by decide, by decide, hs 72 _ rfl, hs 73 _ rfl⟩ : zCe S 72 73 17956) (M := M) (Q := fun v9 M9 => v9 = 0 ∧ M9 = (zcut M 72 17956 (((M 72 1)) - 1))) (X := X) (show _ ∧ _ from ⟨rfl, rfl⟩)) (by omega) (by decide) (show (parseMethodDescriptor yX0_cut.desc).map (fun q => q.parameters.length) = some 1 by decide +kernel) hok (Nat.zero_le _) dX3_fit_106 (⟨by decide, by decide, by decide, hs 72 _ rfl, hs 73 _ rfl⟩ : zCe S 72 73 17956).1 (⟨by decide, by decide, by decide, hs 72 _ rfl, hs 73 _ rfl⟩ : zCe S 72 73 17956).2.2.2.1 rfl rfl (fun _ h9 => nomatch h9) ?_
      rintro v9 M9 ⟨e9, e8⟩
      rw [e9, e8]
      clear e9 e8 v9 M9
      show rt_Go _ _ _ _ _ _ _ _ _ _ _ _ 109 [(4, zv s0 0 ((zat M 73 17956 (((M 72 1)) - 1)))), (0, zv s0 2 69), (3, zv s0 0 v3)] [] (zw s0 ca C S ((zcut M 72 17956 (((M 72 1)) - 1))))
      refine z_aload_n dX3_fit_109 rfl (j := 1) rfl ?_
      refine z_iload dX3_fit_110 (j := 0) rfl ?_
      refine z_sipush dX3_fit_112 (by decide) ?_
      refine z_idiv dX3_fit_115 (by decide) ?_
      refine z_iload dX3_fit_116 (j := 0) rfl ?_
      refine z_sipush dX3_fit_118 (by decide) ?_
      refine z_irem dX3_fit_121 (by decide) ?_
      refine z_callV Γ kk_X3_fitBySelves kc_RX3_54 (As := [zv s0 0 (zdiv ((zat M 73 17956 (((M 72 1)) - 1))) 134), zv s0 0 (zrem ((zat M 73 17956 (((M 72 1)) - 1))) 134)]) h (by omega) (by decide) (show (parseMethodDescriptor yX3_fitBySelves.desc).map (fun q => q.parameters.length) = some 2 by decide +kernel) hok (Nat.zero_le _) dX3_fit_122 (by decide) hs69 rfl rfl (fun _ h9 => nomatch h9) ?_
      clear h
      intro r122 M122 h
      show rt_Go _ _ _ _ _ _ _ _ _ _ _ _ 125 [(4, zv s0 0 ((zat M 73 17956 (((M 72 1)) - 1)))), (0, zv s0 2 69), (3, zv s0 0 v3)] [zv s0 0 r122] (zw s0 ca C S M122)
      refine z_if_ne (tgt := 130) (x' := w32 r122) rfl dX3_fit_125 (by decide) (fun c125 => ?_) (fun c125 => ?_)
      · replace h := h.2 c125
        refine z_iinc (lv' := [(3, zv s0 0 (v3 + 1)), (4, zv s0 0 ((zat M 73 17956 (((M 72 1)) - 1)))), (0, zv s0 2 69)]) dX3_fit_130 (j := 2) rfl (by decide) (by simp [zv_cat0, zv_cat1, zv_cat2, zv_cats]) ?_
        refine rt_goto (tgt := 58) dX3_fit_133 (by decide) ?_
        exact rt_lfew [2, 0] rfl h
      · replace h := h.1 c125
        refine z_iconst dX3_fit_128 ?_
        exact z_zret dX3_fit_129 rfl (by decide) h
def zt_X3_fit (l : Launch) (s0 : State) (G : va_G) (ca : Nat → ClassId) (d : Nat) (C : Nat × Nat) (S : zS) (w0 : rt_Wd)  (a : Int) (b : Int) (M : zM) (Q : Int → zM → Prop) (X : zM → Prop) : Prop :=
  zIf (a < 0) (Q 0 M) (zIf (b < 0) (Q 0 M) (zSc S ((zcut ((zu ((zu ((zu M 69 2 a)) 69 3 b)) 69 4 ((M 69 4) + 1))) 72 17956 0) 69 2) ∧ (zSc S ((zcut ((zu ((zu ((zu M 69 2 a)) 69 3 b)) 69 4 ((M 69 4) + 1))) 72 17956 0) 69 3) ∧ (zm_X3_ask l s0 G ca (d - 1) C S ((((zcut ((zu ((zu ((zu M 69 2 a)) 69 3 b)) 69 4 ((M 69 4) + 1))) 72 17956 0)) ((zcut ((zu ((zu ((zu M 69 2 a)) 69 3 b)) 69 4 ((M 69 4) + 1))) 72 17956 0) 69 2) 12)) ((((zcut ((zu ((zu ((zu M 69 2 a)) 69 3 b)) 69 4 ((M 69 4) + 1))) 72 17956 0)) ((zcut ((zu ((zu ((zu M 69 2 a)) 69 3 b)) 69 4 ((M 69 4) + 1))) 72 17956 0) 69 3) 12)) ((zcut ((zu ((zu ((zu M 69 2 a)) 69 3 b)) 69 4 ((M 69 4) + 1))) 72 17956 0)) (fun r53 M53 => zg_X3_fit_58 l s0 G ca d C S w0  0 M53 Q X) X))))
set_option maxRecDepth 100000 in
theorem z_X3_fit {l : Launch} {s0 : State} {a0 : Array Value} {G : va_G} {ca : Nat → ClassId} (Γ : rt_Γ l s0 a0 G ca) {d : Nat} {C : Nat × Nat} {S : zS} (hd : 1 ≤ d) (hok : zok C)  (hs : zSok S) (hs69 : S 69 = some (0, 3, [(3, 70), (3, 72), (2, 0), (2, 0), (0, 0)])) {a : Int} {b : Int} {M : zM} {Q : Int → zM → Prop} {X : zM → Prop} (h : zt_X3_fit l s0 G ca d C S (zw s0 ca C S M)  a b M Q X) : zm_X3_fit l s0 G ca d C S  a b M Q X := by
  refine z_met (lv := [(0, zv s0 2 69), (1, zv s0 2 a), (2, zv s0 2 b)]) Γ kk_X3_fit rfl (show (lg_sl [zv s0 2 69, zv s0 2 a, zv s0 2 b]).length ≤ 5 from by simp only [zn_2, show (lg_sl []).length = 0 from rfl]; omega) (show lv_args 0 [zv s0 2 69, zv s0 2 a, zv s0 2 b] = [(0, zv s0 2 69), (1, zv s0 2 a), (2, zv s0 2 b)] from by rw [zl_2, zl_2, zl_2]; rfl) ?_
  unfold zt_X3_fit at h
  refine z_aload_n dX3_fit_0 rfl (j := 1) rfl ?_
  refine z_ifnull (tgt := 8) dX3_fit_1 (by decide) (fun c1 => ?_) (fun c1 => ?_)
  · replace h := h.1 c1
    refine z_iconst dX3_fit_8 ?_
    exact z_zret dX3_fit_9 rfl (by decide) h
  · replace h := h.2 c1
    refine z_aload_n dX3_fit_4 rfl (j := 2) rfl ?_
    refine z_ifnonnull (tgt := 10) dX3_fit_5 (by decide) (fun c5 => ?_) (fun c5 => ?_)
    · replace h := h.2 c5
      refine z_aload_n dX3_fit_10 rfl (j := 0) rfl ?_
      refine z_aload_n dX3_fit_11 rfl (j := 1) rfl ?_
      refine z_put2 Γ kp_RX3_25 dX3_fit_12 (by decide) hs69 rfl (k9 := 2) rfl ?_
      refine z_aload_n dX3_fit_15 rfl (j := 0) rfl ?_
      refine z_aload_n dX3_fit_16 rfl (j := 2) rfl ?_
      refine z_put2 Γ kp_RX3_29 dX3_fit_17 (by decide) hs69 rfl (k9 := 3) rfl ?_
      refine z_aload_n dX3_fit_20 rfl (j := 0) rfl ?_
      refine z_dup2 dX3_fit_21 ?_
      refine z_get Γ kf_RX3_32 dX3_fit_22 (by decide) hs69 rfl (by decide) (v9 := M 69 4) ((zu_k (by decide)).trans ((zu_k (by decide)).trans rfl)) ?_
      refine z_iconst dX3_fit_25 ?_
      refine z_iadd dX3_fit_26 ?_
      refine z_put0 Γ kp_RX3_32 dX3_fit_27 (by decide) hs69 rfl (k9 := 4) rfl ?_
      refine z_aload_n dX3_fit_30 rfl (j := 0) rfl ?_
      refine z_getc Γ kf_RX3_22 dX3_fit_31 (by decide) hs69 rfl ?_
      refine z_iconst dX3_fit_34 ?_
      refine z_callV Γ kk_X0_cut kc_RX3_36 (As := [zv s0 0 0]) (k_X0_cut (d := d - 1) Γ hok (⟨by decide, by decide, by decide, hs 72 _ rfl, hs 73 _ rfl⟩ : zCe S 72 73 17956) (M := ((zu ((zu ((zu M 69 2 a)) 69 3 b)) 69 4 ((M 69 4) + 1)))) (Q := fun v9 M9 => v9 = 0 ∧ M9 = (zcut ((zu ((zu ((zu M 69 2 a)) 69 3 b)) 69 4 ((M 69 4) + 1))) 72 17956 0)) (X := X) (show _ ∧ _ from ⟨rfl, rfl⟩)) (by omega) (by decide) (show (parseMethodDescriptor yX0_cut.desc).map (fun q => q.parameters.length) = some 1 by decide +kernel) hok (Nat.zero_le _) dX3_fit_35 (⟨by decide, by decide, by decide, hs 72 _ rfl, hs 73 _ rfl⟩ : zCe S 72 73 17956).1 (⟨by decide, by decide, by decide, hs 72 _ rfl, hs 73 _ rfl⟩ : zCe S 72 73 17956).2.2.2.1 rfl rfl (fun _ h9 => nomatch h9) ?_
      rintro v9 M9 ⟨e9, e8⟩
      rw [e9, e8]
      clear e9 e8 v9 M9
      show rt_Go _ _ _ _ _ _ _ _ _ _ _ _ 38 [(0, zv s0 2 69), (1, zv s0 2 a), (2, zv s0 2 b)] [] (zw s0 ca C S ((zcut ((zu ((zu ((zu M 69 2 a)) 69 3 b)) 69 4 ((M 69 4) + 1))) 72 17956 0)))
      refine z_aload_n dX3_fit_38 rfl (j := 0) rfl ?_
      refine z_aload_n dX3_fit_39 rfl (j := 0) rfl ?_
      refine z_get Γ kf_RX3_25 dX3_fit_40 (by decide) hs69 rfl (by decide) (v9 := (zcut ((zu ((zu ((zu M 69 2 a)) 69 3 b)) 69 4 ((M 69 4) + 1))) 72 17956 0) 69 2) rfl ?_
      obtain ⟨hk0, h⟩ := h
      refine z_callV Γ kk_X6_root kc_RX3_39 (As := []) (z_X6_root (d := d - 1) Γ hok hk0 (M := ((zcut ((zu ((zu ((zu M 69 2 a)) 69 3 b)) 69 4 ((M 69 4) + 1))) 72 17956 0))) (Q := fun v9 M9 => v9 = (((zcut ((zu ((zu ((zu M 69 2 a)) 69 3 b)) 69 4 ((M 69 4) + 1))) 72 17956 0)) ((zcut ((zu ((zu ((zu M 69 2 a)) 69 3 b)) 69 4 ((M 69 4) + 1))) 72 17956 0) 69 2) 12) ∧ M9 = ((zcut ((zu ((zu ((zu M 69 2 a)) 69 3 b)) 69 4 ((M 69 4) + 1))) 72 17956 0))) (X := X) (show _ ∧ _ from ⟨rfl, rfl⟩)) (by omega) (by decide) (show (parseMethodDescriptor yX6_root.desc).map (fun q => q.parameters.length) = some 0 by decide +kernel) hok (by simp only [List.map, zv_cat0, zv_cat1, zv_cat2, List.sum_cons, List.sum_nil]; decide) dX3_fit_43 hk0.1 hk0.2.1 rfl rfl (fun _ h9 => nomatch h9) ?_
      rintro v9 M9 ⟨e9, e8⟩
      rw [e9, e8]
      clear e9 e8 v9 M9
      show rt_Go _ _ _ _ _ _ _ _ _ _ _ _ 46 [(0, zv s0 2 69), (1, zv s0 2 a), (2, zv s0 2 b)] [zv s0 0 ((((zcut ((zu ((zu ((zu M 69 2 a)) 69 3 b)) 69 4 ((M 69 4) + 1))) 72 17956 0)) ((zcut ((zu ((zu ((zu M 69 2 a)) 69 3 b)) 69 4 ((M 69 4) + 1))) 72 17956 0) 69 2) 12)), zv s0 2 69] (zw s0 ca C S ((zcut ((zu ((zu ((zu M 69 2 a)) 69 3 b)) 69 4 ((M 69 4) + 1))) 72 17956 0)))
      refine z_aload_n dX3_fit_46 rfl (j := 0) rfl ?_
      refine z_get Γ kf_RX3_29 dX3_fit_47 (by decide) hs69 rfl (by decide) (v9 := (zcut ((zu ((zu ((zu M 69 2 a)) 69 3 b)) 69 4 ((M 69 4) + 1))) 72 17956 0) 69 3) rfl ?_
      obtain ⟨hk1, h⟩ := h
      refine z_callV Γ kk_X6_root kc_RX3_39 (As := []) (z_X6_root (d := d - 1) Γ hok hk1 (M := ((zcut ((zu ((zu ((zu M 69 2 a)) 69 3 b)) 69 4 ((M 69 4) + 1))) 72 17956 0))) (Q := fun v9 M9 => v9 = (((zcut ((zu ((zu ((zu M 69 2 a)) 69 3 b)) 69 4 ((M 69 4) + 1))) 72 17956 0)) ((zcut ((zu ((zu ((zu M 69 2 a)) 69 3 b)) 69 4 ((M 69 4) + 1))) 72 17956 0) 69 3) 12) ∧ M9 = ((zcut ((zu ((zu ((zu M 69 2 a)) 69 3 b)) 69 4 ((M 69 4) + 1))) 72 17956 0))) (X := X) (show _ ∧ _ from ⟨rfl, rfl⟩)) (by omega) (by decide) (show (parseMethodDescriptor yX6_root.desc).map (fun q => q.parameters.length) = some 0 by decide +kernel) hok (by simp only [List.map, zv_cat0, zv_cat1, zv_cat2, List.sum_cons, List.sum_nil]; decide) dX3_fit_50 hk1.1 hk1.2.1 rfl rfl (fun _ h9 => nomatch h9) ?_
      rintro v9 M9 ⟨e9, e8⟩
      rw [e9, e8]
      clear e9 e8 v9 M9
      show rt_Go _ _ _ _ _ _ _ _ _ _ _ _ 53 [(0, zv s0 2 69), (1, zv s0 2 a), (2, zv s0 2 b)] [zv s0 0 ((((zcut ((zu ((zu ((zu M 69 2 a)) 69 3 b)) 69 4 ((M 69 4) + 1))) 72 17956 0)) ((zcut ((zu ((zu ((zu M 69 2 a)) 69 3 b)) 69 4 ((M 69 4) + 1))) 72 17956 0) 69 3) 12)), zv s0 0 ((((zcut ((zu ((zu ((zu M 69 2 a)) 69 3 b)) 69 4 ((M 69 4) + 1))) 72 17956 0)) ((zcut ((zu ((zu ((zu M 69 2 a)) 69 3 b)) 69 4 ((M 69 4) + 1))) 72 17956 0) 69 2) 12)), zv s0 2 69] (zw s0 ca C S ((zcut ((zu ((zu ((zu M 69 2 a)) 69 3 b)) 69 4 ((M 69 4) + 1))) 72 17956 0)))
      refine z_callV Γ kk_X3_ask kc_RX3_43 (As := [zv s0 0 ((((zcut ((zu ((zu ((zu M 69 2 a)) 69 3 b)) 69 4 ((M 69 4) + 1))) 72 17956 0)) ((zcut ((zu ((zu ((zu M 69 2 a)) 69 3 b)) 69 4 ((M 69 4) + 1))) 72 17956 0) 69 2) 12)), zv s0 0 ((((zcut ((zu ((zu ((zu M 69 2 a)) 69 3 b)) 69 4 ((M 69 4) + 1))) 72 17956 0)) ((zcut ((zu ((zu ((zu M 69 2 a)) 69 3 b)) 69 4 ((M 69 4) + 1))) 72 17956 0) 69 3) 12))]) h (by omega) (by decide) (show (parseMethodDescriptor yX3_ask.desc).map (fun q => q.parameters.length) = some 2 by decide +kernel) hok (Nat.zero_le _) dX3_fit_53 (by decide) hs69 rfl rfl (fun _ h9 => nomatch h9) ?_
      clear h
      intro r53 M53 h
      show rt_Go _ _ _ _ _ _ _ _ _ _ _ _ 56 [(0, zv s0 2 69), (1, zv s0 2 a), (2, zv s0 2 b)] [] (zw s0 ca C S M53)
      refine z_iconst dX3_fit_56 ?_
      refine z_istore_n (i := 3) (lv' := [(3, zv s0 0 0), (0, zv s0 2 69), (1, zv s0 2 a), (2, zv s0 2 b)]) dX3_fit_57 rfl (by decide) (by simp [zv_cat0, zv_cat1, zv_cat2, zv_cats]) ?_
      exact rt_lfew [1, 0] rfl h
    · replace h := h.1 c5
      refine z_iconst dX3_fit_8 ?_
      exact z_zret dX3_fit_9 rfl (by decide) h
