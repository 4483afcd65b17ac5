/-! ===== trees: SCHEMA2 ===== -/
abbrev zg_X6_clear_10 (l : Launch) (s0 : State) (G : va_G) (ca : Nat → ClassId) (d : Nat) (C : Nat × Nat) (S : zS) (w0 : rt_Wd) (p : Int) (v1 : Int)  (M : zM) (Q : Int → zM → Prop) (X : zM → Prop) : Prop := rt_Go l s0 G RX6 "clear" cX6_clear 2 (Option.none : Option FieldType) [] d w0 (zQ s0 ca 9 C S Q X) 10 [(0, zv s0 2 p), (1, zv s0 0 v1)] [] (zw s0 ca C S M)
def zt_X6_clear_10 (l : Launch) (s0 : State) (G : va_G) (ca : Nat → ClassId) (d : Nat) (C : Nat × Nat) (S : zS) (w0 : rt_Wd) (p : Int) (v1 : Int)  (M : zM) (Q : Int → zM → Prop) (X : zM → Prop) : Prop :=
  zIf (6 ≤ w32 v1) (Q 0 ((zu ((zcut ((zcut ((zcut ((zput ((zput M (p + 8) 134 0 0)) (p + 8) 134 1 1)) (p + 13) 2048 0)) (p + 21) 4096 0)) (p + 23) 8192 0)) p 12 0))) (zg_X6_clear_10 l s0 G ca d C S w0 p (v1 + 1) ((zput ((zadd M (p + 1) (p + 2) 134 v1)) (p + 8) 134 v1 ((-1)))) Q X)
set_option maxRecDepth 100000 in
theorem zs_X6_clear_10 {l : Launch} {s0 : State} {a0 : Array Value} {G : va_G} {ca : Nat → ClassId} (Γ : rt_Γ l s0 a0 G ca) {d : Nat} {C : Nat × Nat} {S : zS} (hd : 1 ≤ d) (hok : zok C) {p : Int} (hp : zSc S p) {w0 : rt_Wd} {v1 : Int}   {M : zM} {Q : Int → zM → Prop} {X : zM → Prop} (h : zt_X6_clear_10 l s0 G ca d C S w0 p v1 M Q X) : zg_X6_clear_10 l s0 G ca d C S w0 p v1 M Q X := by
  unfold zt_X6_clear_10 at h
  refine z_iload_n dX6_clear_10 rfl (j := 1) rfl ?_
  refine z_bipush dX6_clear_11 (by decide) ?_
  refine z_icmp_ge (tgt := 40) (x' := w32 v1) (y' := 6) rfl (by decide) dX6_clear_13 (by decide) (fun c13 => ?_) (fun c13 => ?_)
  · replace h := h.1 c13
    refine z_aload_n dX6_clear_40 rfl (j := 0) rfl ?_
    refine z_getc Γ kf_RX6_26 dX6_clear_41 hp.1 hp.2.1 rfl ?_
    refine z_iconst dX6_clear_44 ?_
    refine z_iconst dX6_clear_45 ?_
    refine z_callV Γ kk_X0_put kc_RX6_60 (As := [zv s0 0 0, zv s0 0 0]) (k_X0_put (d := d - 1) Γ hok (hp.2.2.2.2.2.1 : zCe S (p + 7) (p + 8) 134) (M := M) (Q := fun v9 M9 => v9 = 0 ∧ M9 = (zput M (p + 8) 134 0 0)) (X := X) (show _ ∧ _ from ⟨rfl, rfl⟩)) (by omega) (by decide) (show (parseMethodDescriptor yX0_put.desc).map (fun q => q.parameters.length) = some 2 by decide +kernel) hok (Nat.zero_le _) dX6_clear_46 (hp.2.2.2.2.2.1 : zCe S (p + 7) (p + 8) 134).1 (hp.2.2.2.2.2.1 : zCe S (p + 7) (p + 8) 134).2.2.2.1 rfl rfl (fun _ h9 => nomatch h9) ?_
    rintro v9 M9 ⟨e9, e8⟩
    rw [e9, e8]
    clear e9 e8 v9 M9
    show rt_Go _ _ _ _ _ _ _ _ _ _ _ _ 49 [(0, zv s0 2 p), (1, zv s0 0 v1)] [] (zw s0 ca C S ((zput M (p + 8) 134 0 0)))
    refine z_aload_n dX6_clear_49 rfl (j := 0) rfl ?_
    refine z_getc Γ kf_RX6_26 dX6_clear_50 hp.1 hp.2.1 rfl ?_
    refine z_iconst dX6_clear_53 ?_
    refine z_iconst dX6_clear_54 ?_
    refine z_callV Γ kk_X0_put kc_RX6_60 (As := [zv s0 0 1, zv s0 0 1]) (k_X0_put (d := d - 1) Γ hok (hp.2.2.2.2.2.1 : zCe S (p + 7) (p + 8) 134) (M := ((zput M (p + 8) 134 0 0))) (Q := fun v9 M9 => v9 = 0 ∧ M9 = (zput ((zput M (p + 8) 134 0 0)) (p + 8) 134 1 1)) (X := X) (show _ ∧ _ from ⟨rfl, rfl⟩)) (by omega) (by decide) (show (parseMethodDescriptor yX0_put.desc).map (fun q => q.parameters.length) = some 2 by decide +kernel) hok (Nat.zero_le _) dX6_clear_55 (hp.2.2.2.2.2.1 : zCe S (p + 7) (p + 8) 134).1 (hp.2.2.2.2.2.1 : zCe S (p + 7) (p + 8) 134).2.2.2.1 rfl rfl (fun _ h9 => nomatch h9) ?_
    rintro v9 M9 ⟨e9, e8⟩
    rw [e9, e8]
    clear e9 e8 v9 M9
    show rt_Go _ _ _ _ _ _ _ _ _ _ _ _ 58 [(0, zv s0 2 p), (1, zv s0 0 v1)] [] (zw s0 ca C S ((zput ((zput M (p + 8) 134 0 0)) (p + 8) 134 1 1)))
    refine z_aload_n dX6_clear_58 rfl (j := 0) rfl ?_
    refine z_getc Γ kf_RX6_35 dX6_clear_59 hp.1 hp.2.1 rfl ?_
    refine z_iconst dX6_clear_62 ?_
    refine z_callV Γ kk_X0_cut kc_RX6_53 (As := [zv s0 0 0]) (k_X0_cut (d := d - 1) Γ hok (hp.2.2.2.2.2.2.2.2.1 : zCe S (p + 13) (p + 14) 2048) (M := ((zput ((zput M (p + 8) 134 0 0)) (p + 8) 134 1 1))) (Q := fun v9 M9 => v9 = 0 ∧ M9 = (zcut ((zput ((zput M (p + 8) 134 0 0)) (p + 8) 134 1 1)) (p + 13) 2048 0)) (X := X) (show _ ∧ _ from ⟨rfl, rfl⟩)) (by omega) (by decide) (show (parseMethodDescriptor yX0_cut.desc).map (fun q => q.parameters.length) = some 1 by decide +kernel) hok (Nat.zero_le _) dX6_clear_63 (hp.2.2.2.2.2.2.2.2.1 : zCe S (p + 13) (p + 14) 2048).1 (hp.2.2.2.2.2.2.2.2.1 : zCe S (p + 13) (p + 14) 2048).2.2.2.1 rfl rfl (fun _ h9 => nomatch h9) ?_
    rintro v9 M9 ⟨e9, e8⟩
    rw [e9, e8]
    clear e9 e8 v9 M9
    show rt_Go _ _ _ _ _ _ _ _ _ _ _ _ 66 [(0, zv s0 2 p), (1, zv s0 0 v1)] [] (zw s0 ca C S ((zcut ((zput ((zput M (p + 8) 134 0 0)) (p + 8) 134 1 1)) (p + 13) 2048 0)))
    refine z_aload_n dX6_clear_66 rfl (j := 0) rfl ?_
    refine z_getc Γ kf_RX6_47 dX6_clear_67 hp.1 hp.2.1 rfl ?_
    refine z_iconst dX6_clear_70 ?_
    refine z_callV Γ kk_X0_cut kc_RX6_53 (As := [zv s0 0 0]) (k_X0_cut (d := d - 1) Γ hok (hp.2.2.2.2.2.2.2.2.2.2.2.2.1 : zCe S (p + 21) (p + 22) 4096) (M := ((zcut ((zput ((zput M (p + 8) 134 0 0)) (p + 8) 134 1 1)) (p + 13) 2048 0))) (Q := fun v9 M9 => v9 = 0 ∧ M9 = (zcut ((zcut ((zput ((zput M (p + 8) 134 0 0)) (p + 8) 134 1 1)) (p + 13) 2048 0)) (p + 21) 4096 0)) (X := X) (show _ ∧ _ from ⟨rfl, rfl⟩)) (by omega) (by decide) (show (parseMethodDescriptor yX0_cut.desc).map (fun q => q.parameters.length) = some 1 by decide +kernel) hok (Nat.zero_le _) dX6_clear_71 (hp.2.2.2.2.2.2.2.2.2.2.2.2.1 : zCe S (p + 21) (p + 22) 4096).1 (hp.2.2.2.2.2.2.2.2.2.2.2.2.1 : zCe S (p + 21) (p + 22) 4096).2.2.2.1 rfl rfl (fun _ h9 => nomatch h9) ?_
    rintro v9 M9 ⟨e9, e8⟩
    rw [e9, e8]
    clear e9 e8 v9 M9
    show rt_Go _ _ _ _ _ _ _ _ _ _ _ _ 74 [(0, zv s0 2 p), (1, zv s0 0 v1)] [] (zw s0 ca C S ((zcut ((zcut ((zput ((zput M (p + 8) 134 0 0)) (p + 8) 134 1 1)) (p + 13) 2048 0)) (p + 21) 4096 0)))
    refine z_aload_n dX6_clear_74 rfl (j := 0) rfl ?_
    refine z_getc Γ kf_RX6_50 dX6_clear_75 hp.1 hp.2.1 rfl ?_
    refine z_iconst dX6_clear_78 ?_
    refine z_callV Γ kk_X0_cut kc_RX6_53 (As := [zv s0 0 0]) (k_X0_cut (d := d - 1) Γ hok (hp.2.2.2.2.2.2.2.2.2.2.2.2.2 : zCe S (p + 23) (p + 24) 8192) (M := ((zcut ((zcut ((zput ((zput M (p + 8) 134 0 0)) (p + 8) 134 1 1)) (p + 13) 2048 0)) (p + 21) 4096 0))) (Q := fun v9 M9 => v9 = 0 ∧ M9 = (zcut ((zcut ((zcut ((zput ((zput M (p + 8) 134 0 0)) (p + 8) 134 1 1)) (p + 13) 2048 0)) (p + 21) 4096 0)) (p + 23) 8192 0)) (X := X) (show _ ∧ _ from ⟨rfl, rfl⟩)) (by omega) (by decide) (show (parseMethodDescriptor yX0_cut.desc).map (fun q => q.parameters.length) = some 1 by decide +kernel) hok (Nat.zero_le _) dX6_clear_79 (hp.2.2.2.2.2.2.2.2.2.2.2.2.2 : zCe S (p + 23) (p + 24) 8192).1 (hp.2.2.2.2.2.2.2.2.2.2.2.2.2 : zCe S (p + 23) (p + 24) 8192).2.2.2.1 rfl rfl (fun _ h9 => nomatch h9) ?_
    rintro v9 M9 ⟨e9, e8⟩
    rw [e9, e8]
    clear e9 e8 v9 M9
    show rt_Go _ _ _ _ _ _ _ _ _ _ _ _ 82 [(0, zv s0 2 p), (1, zv s0 0 v1)] [] (zw s0 ca C S ((zcut ((zcut ((zcut ((zput ((zput M (p + 8) 134 0 0)) (p + 8) 134 1 1)) (p + 13) 2048 0)) (p + 21) 4096 0)) (p + 23) 8192 0)))
    refine z_aload_n dX6_clear_82 rfl (j := 0) rfl ?_
    refine z_iconst dX6_clear_83 ?_
    refine z_put0 Γ kp_RX6_64 dX6_clear_84 hp.1 hp.2.1 rfl (k9 := 12) rfl ?_
    exact z_vret dX6_clear_87 rfl h
  · replace h := h.2 c13
    refine z_aload_n dX6_clear_16 rfl (j := 0) rfl ?_
    refine z_getc Γ kf_RX6_16 dX6_clear_17 hp.1 hp.2.1 rfl ?_
    refine z_iload_n dX6_clear_20 rfl (j := 1) rfl ?_
    refine z_callV Γ kk_X0_add kc_RX6_56 (As := [zv s0 0 v1]) (k_X0_add (d := d - 1) Γ hok (hp.2.2.1 : zCe S (p + 1) (p + 2) 134) (M := M) (Q := fun v9 M9 => v9 = (zaddv M (p + 1) 134) ∧ M9 = (zadd M (p + 1) (p + 2) 134 v1)) (X := X) (show _ ∧ _ from ⟨rfl, rfl⟩)) (by omega) (by decide) (show (parseMethodDescriptor yX0_add.desc).map (fun q => q.parameters.length) = some 1 by decide +kernel) hok (Nat.zero_le _) dX6_clear_21 (hp.2.2.1 : zCe S (p + 1) (p + 2) 134).1 (hp.2.2.1 : zCe S (p + 1) (p + 2) 134).2.2.2.1 rfl rfl (fun _ h9 => nomatch h9) ?_
    rintro v9 M9 ⟨e9, e8⟩
    rw [e9, e8]
    clear e9 e8 v9 M9
    show rt_Go _ _ _ _ _ _ _ _ _ _ _ _ 24 [(0, zv s0 2 p), (1, zv s0 0 v1)] [zv s0 0 ((zaddv M (p + 1) 134))] (zw s0 ca C S ((zadd M (p + 1) (p + 2) 134 v1)))
    refine z_pop0 dX6_clear_24 ?_
    refine z_aload_n dX6_clear_25 rfl (j := 0) rfl ?_
    refine z_getc Γ kf_RX6_26 dX6_clear_26 hp.1 hp.2.1 rfl ?_
    refine z_iload_n dX6_clear_29 rfl (j := 1) rfl ?_
    refine z_iconst dX6_clear_30 ?_
    refine z_callV Γ kk_X0_put kc_RX6_60 (As := [zv s0 0 v1, zv s0 0 ((-1))]) (k_X0_put (d := d - 1) Γ hok (hp.2.2.2.2.2.1 : zCe S (p + 7) (p + 8) 134) (M := ((zadd M (p + 1) (p + 2) 134 v1))) (Q := fun v9 M9 => v9 = 0 ∧ M9 = (zput ((zadd M (p + 1) (p + 2) 134 v1)) (p + 8) 134 v1 ((-1)))) (X := X) (show _ ∧ _ from ⟨rfl, rfl⟩)) (by omega) (by decide) (show (parseMethodDescriptor yX0_put.desc).map (fun q => q.parameters.length) = some 2 by decide +kernel) hok (Nat.zero_le _) dX6_clear_31 (hp.2.2.2.2.2.1 : zCe S (p + 7) (p + 8) 134).1 (hp.2.2.2.2.2.1 : zCe S (p + 7) (p + 8) 134).2.2.2.1 rfl rfl (fun _ h9 => nomatch h9) ?_
    rintro v9 M9 ⟨e9, e8⟩
    rw [e9, e8]
    clear e9 e8 v9 M9
    show rt_Go _ _ _ _ _ _ _ _ _ _ _ _ 34 [(0, zv s0 2 p), (1, zv s0 0 v1)] [] (zw s0 ca C S ((zput ((zadd M (p + 1) (p + 2) 134 v1)) (p + 8) 134 v1 ((-1)))))
    refine z_iinc (lv' := [(1, zv s0 0 (v1 + 1)), (0, zv s0 2 p)]) dX6_clear_34 (j := 1) rfl (by decide) (by simp [zv_cat0, zv_cat1, zv_cat2, zv_cats]) ?_
    refine rt_goto (tgt := 10) dX6_clear_37 (by decide) ?_
    exact rt_lfew [1, 0] rfl h

def zt_X6_clear (l : Launch) (s0 : State) (G : va_G) (ca : Nat → ClassId) (d : Nat) (C : Nat × Nat) (S : zS) (w0 : rt_Wd) (p : Int)  (M : zM) (Q : Int → zM → Prop) (X : zM → Prop) : Prop :=
  zg_X6_clear_10 l s0 G ca d C S w0 p 0 ((zcut M (p + 1) 134 0)) Q X
set_option maxRecDepth 100000 in
theorem z_X6_clear {l : Launch} {s0 : State} {a0 : Array Value} {G : va_G} {ca : Nat → ClassId} (Γ : rt_Γ l s0 a0 G ca) {d : Nat} {C : Nat × Nat} {S : zS} (hd : 1 ≤ d) (hok : zok C) {p : Int} (hp : zSc S p)  {M : zM} {Q : Int → zM → Prop} {X : zM → Prop} (h : zt_X6_clear l s0 G ca d C S (zw s0 ca C S M) p  M Q X) : zm_X6_clear l s0 G ca d C S p  M Q X := by
  refine z_met (lv := [(0, zv s0 2 p)]) Γ kk_X6_clear rfl (show (lg_sl [zv s0 2 p]).length ≤ 2 from by simp only [zn_2, show (lg_sl []).length = 0 from rfl]; omega) (show lv_args 0 [zv s0 2 p] = [(0, zv s0 2 p)] from by rw [zl_2]; rfl) ?_
  unfold zt_X6_clear at h
  refine z_aload_n dX6_clear_0 rfl (j := 0) rfl ?_
  refine z_getc Γ kf_RX6_16 dX6_clear_1 hp.1 hp.2.1 rfl ?_
  refine z_iconst dX6_clear_4 ?_
  refine z_callV Γ kk_X0_cut kc_RX6_53 (As := [zv s0 0 0]) (k_X0_cut (d := d - 1) Γ hok (hp.2.2.1 : zCe S (p + 1) (p + 2) 134) (M := M) (Q := fun v9 M9 => v9 = 0 ∧ M9 = (zcut M (p + 1) 134 0)) (X := X) (show _ ∧ _ from ⟨rfl, rfl⟩)) (by omega) (by decide) (show (parseMethodDescriptor yX0_cut.desc).map (fun q => q.parameters.length) = some 1 by decide +kernel) hok (Nat.zero_le _) dX6_clear_5 (hp.2.2.1 : zCe S (p + 1) (p + 2) 134).1 (hp.2.2.1 : zCe S (p + 1) (p + 2) 134).2.2.2.1 rfl rfl (fun _ h9 => nomatch h9) ?_
  rintro v9 M9 ⟨e9, e8⟩
  rw [e9, e8]
  clear e9 e8 v9 M9
  show rt_Go _ _ _ _ _ _ _ _ _ _ _ _ 8 [(0, zv s0 2 p)] [] (zw s0 ca C S ((zcut M (p + 1) 134 0)))
  refine z_iconst dX6_clear_8 ?_
  refine z_istore_n (i := 1) (lv' := [(1, zv s0 0 0), (0, zv s0 2 p)]) dX6_clear_9 rfl (by decide) (by simp [zv_cat0, zv_cat1, zv_cat2, zv_cats]) ?_
  exact rt_lfew [1, 0] rfl h

abbrev zg_X6_measureRecord_4 (l : Launch) (s0 : State) (G : va_G) (ca : Nat → ClassId) (d : Nat) (C : Nat × Nat) (S : zS) (w0 : rt_Wd) (p : Int) (v1 : Int) (v2 : Int) (v3 : Int)  (M : zM) (Q : Int → zM → Prop) (X : zM → Prop) : Prop := rt_Go l s0 G RX6 "measureRecord" cX6_measureRecord 5 (Option.none : Option FieldType) [] d w0 (zQ s0 ca 9 C S Q X) 4 [(0, zv s0 2 p), (1, zv s0 0 v1), (2, zv s0 0 v2), (3, zv s0 0 v3)] [] (zw s0 ca C S M)
def zt_X6_measureRecord_4 (l : Launch) (s0 : State) (G : va_G) (ca : Nat → ClassId) (d : Nat) (C : Nat × Nat) (S : zS) (w0 : rt_Wd) (p : Int) (v1 : Int) (v2 : Int) (v3 : Int)  (M : zM) (Q : Int → zM → Prop) (X : zM → Prop) : Prop :=
  zIf (w32 ((zat M (p + 12) 134 v1)) ≤ w32 v3) (Q 0 ((zput M (p + 8) 134 v1 v2))) (zIf (w32 ((zat M (p + 8) 134 ((zat M (p + 14) 2048 (((zat M (p + 10) 134 v1)) + v3))))) = ((-1))) (Q 0 M) (zIf (w32 (v2 + ((zat M (p + 8) 134 ((zat M (p + 14) 2048 (((zat M (p + 10) 134 v1)) + v3)))))) ≤ 4096) (zg_X6_measureRecord_4 l s0 G ca d C S w0 p v1 (v2 + ((zat M (p + 8) 134 ((zat M (p + 14) 2048 (((zat M (p + 10) 134 v1)) + v3)))))) (v3 + 1) M Q X) (Q 0 M)))
set_option maxRecDepth 100000 in
theorem zs_X6_measureRecord_4 {l : Launch} {s0 : State} {a0 : Array Value} {G : va_G} {ca : Nat → ClassId} (Γ : rt_Γ l s0 a0 G ca) {d : Nat} {C : Nat × Nat} {S : zS} (hd : 1 ≤ d) (hok : zok C) {p : Int} (hp : zSc S p) {w0 : rt_Wd} {v1 : Int} {v2 : Int} {v3 : Int}   {M : zM} {Q : Int → zM → Prop} {X : zM → Prop} (h : zt_X6_measureRecord_4 l s0 G ca d C S w0 p v1 v2 v3 M Q X) : zg_X6_measureRecord_4 l s0 G ca d C S w0 p v1 v2 v3 M Q X := by
  unfold zt_X6_measureRecord_4 at h
  refine z_iload_n dX6_measureRecord_4 rfl (j := 3) rfl ?_
  refine z_aload_n dX6_measureRecord_5 rfl (j := 0) rfl ?_
  refine z_getc Γ kf_RX6_32 dX6_measureRecord_6 hp.1 hp.2.1 rfl ?_
  refine z_iload_n dX6_measureRecord_9 rfl (j := 1) rfl ?_
  refine z_callV Γ kk_X0_at kc_RX6_72 (As := [zv s0 0 v1]) (k_X0_at (d := d - 1) Γ hok (hp.2.2.2.2.2.2.2.1 : zCe S (p + 11) (p + 12) 134) (M := M) (Q := fun v9 M9 => v9 = (zat M (p + 12) 134 v1) ∧ M9 = M) (X := X) (show _ ∧ _ from ⟨rfl, rfl⟩)) (by omega) (by decide) (show (parseMethodDescriptor yX0_at.desc).map (fun q => q.parameters.length) = some 1 by decide +kernel) hok (by simp only [List.map, zv_cat0, zv_cat1, zv_cat2, List.sum_cons, List.sum_nil]; decide) dX6_measureRecord_10 (hp.2.2.2.2.2.2.2.1 : zCe S (p + 11) (p + 12) 134).1 (hp.2.2.2.2.2.2.2.1 : zCe S (p + 11) (p + 12) 134).2.2.2.1 rfl rfl (fun _ h9 => nomatch h9) ?_
  rintro v9 M9 ⟨e9, e8⟩
  rw [e9, e8]
  clear e9 e8 v9 M9
  show rt_Go _ _ _ _ _ _ _ _ _ _ _ _ 13 [(0, zv s0 2 p), (1, zv s0 0 v1), (2, zv s0 0 v2), (3, zv s0 0 v3)] [zv s0 0 ((zat M (p + 12) 134 v1)), zv s0 0 v3] (zw s0 ca C S M)
  refine z_icmp_ge (tgt := 70) (x' := w32 v3) (y' := w32 ((zat M (p + 12) 134 v1))) rfl rfl dX6_measureRecord_13 (by decide) (fun c13 => ?_) (fun c13 => ?_)
  · replace h := h.1 c13
    refine z_aload_n dX6_measureRecord_70 rfl (j := 0) rfl ?_
    refine z_getc Γ kf_RX6_26 dX6_measureRecord_71 hp.1 hp.2.1 rfl ?_
    refine z_iload_n dX6_measureRecord_74 rfl (j := 1) rfl ?_
    refine z_iload_n dX6_measureRecord_75 rfl (j := 2) rfl ?_
    refine z_callV Γ kk_X0_put kc_RX6_60 (As := [zv s0 0 v1, zv s0 0 v2]) (k_X0_put (d := d - 1) Γ hok (hp.2.2.2.2.2.1 : zCe S (p + 7) (p + 8) 134) (M := M) (Q := fun v9 M9 => v9 = 0 ∧ M9 = (zput M (p + 8) 134 v1 v2)) (X := X) (show _ ∧ _ from ⟨rfl, rfl⟩)) (by omega) (by decide) (show (parseMethodDescriptor yX0_put.desc).map (fun q => q.parameters.length) = some 2 by decide +kernel) hok (Nat.zero_le _) dX6_measureRecord_76 (hp.2.2.2.2.2.1 : zCe S (p + 7) (p + 8) 134).1 (hp.2.2.2.2.2.1 : zCe S (p + 7) (p + 8) 134).2.2.2.1 rfl rfl (fun _ h9 => nomatch h9) ?_
    rintro v9 M9 ⟨e9, e8⟩
    rw [e9, e8]
    clear e9 e8 v9 M9
    show rt_Go _ _ _ _ _ _ _ _ _ _ _ _ 79 [(0, zv s0 2 p), (1, zv s0 0 v1), (2, zv s0 0 v2), (3, zv s0 0 v3)] [] (zw s0 ca C S ((zput M (p + 8) 134 v1 v2)))
    exact z_vret dX6_measureRecord_79 rfl h
  · replace h := h.2 c13
    refine z_aload_n dX6_measureRecord_16 rfl (j := 0) rfl ?_
    refine z_getc Γ kf_RX6_26 dX6_measureRecord_17 hp.1 hp.2.1 rfl ?_
    refine z_aload_n dX6_measureRecord_20 rfl (j := 0) rfl ?_
    refine z_getc Γ kf_RX6_35 dX6_measureRecord_21 hp.1 hp.2.1 rfl ?_
    refine z_aload_n dX6_measureRecord_24 rfl (j := 0) rfl ?_
    refine z_getc Γ kf_RX6_29 dX6_measureRecord_25 hp.1 hp.2.1 rfl ?_
    refine z_iload_n dX6_measureRecord_28 rfl (j := 1) rfl ?_
    refine z_callV Γ kk_X0_at kc_RX6_72 (As := [zv s0 0 v1]) (k_X0_at (d := d - 1) Γ hok (hp.2.2.2.2.2.2.1 : zCe S (p + 9) (p + 10) 134) (M := M) (Q := fun v9 M9 => v9 = (zat M (p + 10) 134 v1) ∧ M9 = M) (X := X) (show _ ∧ _ from ⟨rfl, rfl⟩)) (by omega) (by decide) (show (parseMethodDescriptor yX0_at.desc).map (fun q => q.parameters.length) = some 1 by decide +kernel) hok (by simp only [List.map, zv_cat0, zv_cat1, zv_cat2, List.sum_cons, List.sum_nil]; decide) dX6_measureRecord_29 (hp.2.2.2.2.2.2.1 : zCe S (p + 9) (p + 10) 134).1 (hp.2.2.2.2.2.2.1 : zCe S (p + 9) (p + 10) 134).2.2.2.1 rfl rfl (fun _ h9 => nomatch h9) ?_
    rintro v9 M9 ⟨e9, e8⟩
    rw [e9, e8]
    clear e9 e8 v9 M9
    show rt_Go _ _ _ _ _ _ _ _ _ _ _ _ 32 [(0, zv s0 2 p), (1, zv s0 0 v1), (2, zv s0 0 v2), (3, zv s0 0 v3)] [zv s0 0 ((zat M (p + 10) 134 v1)), zv s0 2 (p + 13), zv s0 2 (p + 7)] (zw s0 ca C S M)
    refine z_iload_n dX6_measureRecord_32 rfl (j := 3) rfl ?_
    refine z_iadd dX6_measureRecord_33 ?_
    refine z_callV Γ kk_X0_at kc_RX6_72 (As := [zv s0 0 (((zat M (p + 10) 134 v1)) + v3)]) (k_X0_at (d := d - 1) Γ hok (hp.2.2.2.2.2.2.2.2.1 : zCe S (p + 13) (p + 14) 2048) (M := M) (Q := fun v9 M9 => v9 = (zat M (p + 14) 2048 (((zat M (p + 10) 134 v1)) + v3)) ∧ M9 = M) (X := X) (show _ ∧ _ from ⟨rfl, rfl⟩)) (by omega) (by decide) (show (parseMethodDescriptor yX0_at.desc).map (fun q => q.parameters.length) = some 1 by decide +kernel) hok (by simp only [List.map, zv_cat0, zv_cat1, zv_cat2, List.sum_cons, List.sum_nil]; decide) dX6_measureRecord_34 (hp.2.2.2.2.2.2.2.2.1 : zCe S (p + 13) (p + 14) 2048).1 (hp.2.2.2.2.2.2.2.2.1 : zCe S (p + 13) (p + 14) 2048).2.2.2.1 rfl rfl (fun _ h9 => nomatch h9) ?_
    rintro v9 M9 ⟨e9, e8⟩
    rw [e9, e8]
    clear e9 e8 v9 M9
    show rt_Go _ _ _ _ _ _ _ _ _ _ _ _ 37 [(0, zv s0 2 p), (1, zv s0 0 v1), (2, zv s0 0 v2), (3, zv s0 0 v3)] [zv s0 0 ((zat M (p + 14) 2048 (((zat M (p + 10) 134 v1)) + v3))), zv s0 2 (p + 7)] (zw s0 ca C S M)
    refine z_callV Γ kk_X0_at kc_RX6_72 (As := [zv s0 0 ((zat M (p + 14) 2048 (((zat M (p + 10) 134 v1)) + v3)))]) (k_X0_at (d := d - 1) Γ hok (hp.2.2.2.2.2.1 : zCe S (p + 7) (p + 8) 134) (M := M) (Q := fun v9 M9 => v9 = (zat M (p + 8) 134 ((zat M (p + 14) 2048 (((zat M (p + 10) 134 v1)) + v3)))) ∧ M9 = M) (X := X) (show _ ∧ _ from ⟨rfl, rfl⟩)) (by omega) (by decide) (show (parseMethodDescriptor yX0_at.desc).map (fun q => q.parameters.length) = some 1 by decide +kernel) hok (Nat.zero_le _) dX6_measureRecord_37 (hp.2.2.2.2.2.1 : zCe S (p + 7) (p + 8) 134).1 (hp.2.2.2.2.2.1 : zCe S (p + 7) (p + 8) 134).2.2.2.1 rfl rfl (fun _ h9 => nomatch h9) ?_
    rintro v9 M9 ⟨e9, e8⟩
    rw [e9, e8]
    clear e9 e8 v9 M9
    show rt_Go _ _ _ _ _ _ _ _ _ _ _ _ 40 [(0, zv s0 2 p), (1, zv s0 0 v1), (2, zv s0 0 v2), (3, zv s0 0 v3)] [zv s0 0 ((zat M (p + 8) 134 ((zat M (p + 14) 2048 (((zat M (p + 10) 134 v1)) + v3)))))] (zw s0 ca C S M)
    refine z_istore (i := 4) (lv' := [(4, zv s0 0 ((zat M (p + 8) 134 ((zat M (p + 14) 2048 (((zat M (p + 10) 134 v1)) + v3)))))), (0, zv s0 2 p), (1, zv s0 0 v1), (2, zv s0 0 v2), (3, zv s0 0 v3)]) dX6_measureRecord_40 (by decide) (by simp [zv_cat0, zv_cat1, zv_cat2, zv_cats]) ?_
    refine z_iload dX6_measureRecord_42 (j := 0) rfl ?_
    refine z_iconst dX6_measureRecord_44 ?_
    refine z_icmp_eq (tgt := 58) (x' := w32 ((zat M (p + 8) 134 ((zat M (p + 14) 2048 (((zat M (p + 10) 134 v1)) + v3)))))) (y' := ((-1))) rfl (by decide) dX6_measureRecord_45 (by decide) (fun c45 => ?_) (fun c45 => ?_)
    · replace h := h.1 c45
      exact z_vret dX6_measureRecord_58 rfl h
    · replace h := h.2 c45
      refine z_iload_n dX6_measureRecord_48 rfl (j := 3) rfl ?_
      refine z_iload dX6_measureRecord_49 (j := 0) rfl ?_
      refine z_iadd dX6_measureRecord_51 ?_
      refine z_sipush dX6_measureRecord_52 (by decide) ?_
      refine z_icmp_le (tgt := 59) (x' := w32 (v2 + ((zat M (p + 8) 134 ((zat M (p + 14) 2048 (((zat M (p + 10) 134 v1)) + v3))))))) (y' := 4096) rfl (by decide) dX6_measureRecord_55 (by decide) (fun c55 => ?_) (fun c55 => ?_)
      · replace h := h.1 c55
        refine z_iload_n dX6_measureRecord_59 rfl (j := 3) rfl ?_
        refine z_iload dX6_measureRecord_60 (j := 0) rfl ?_
        refine z_iadd dX6_measureRecord_62 ?_
        refine z_istore_n (i := 2) (lv' := [(2, zv s0 0 (v2 + ((zat M (p + 8) 134 ((zat M (p + 14) 2048 (((zat M (p + 10) 134 v1)) + v3))))))), (4, zv s0 0 ((zat M (p + 8) 134 ((zat M (p + 14) 2048 (((zat M (p + 10) 134 v1)) + v3)))))), (0, zv s0 2 p), (1, zv s0 0 v1), (3, zv s0 0 v3)]) dX6_measureRecord_63 rfl (by decide) (by simp [zv_cat0, zv_cat1, zv_cat2, zv_cats]) ?_
        refine z_iinc (lv' := [(3, zv s0 0 (v3 + 1)), (2, zv s0 0 (v2 + ((zat M (p + 8) 134 ((zat M (p + 14) 2048 (((zat M (p + 10) 134 v1)) + v3))))))), (4, zv s0 0 ((zat M (p + 8) 134 ((zat M (p + 14) 2048 (((zat M (p + 10) 134 v1)) + v3)))))), (0, zv s0 2 p), (1, zv s0 0 v1)]) dX6_measureRecord_64 (j := 4) rfl (by decide) (by simp [zv_cat0, zv_cat1, zv_cat2, zv_cats]) ?_
        refine rt_goto (tgt := 4) dX6_measureRecord_67 (by decide) ?_
        exact rt_lfew [3, 4, 1, 0] rfl h
      · replace h := h.2 c55
        exact z_vret dX6_measureRecord_58 rfl h

def zt_X6_measureRecord (l : Launch) (s0 : State) (G : va_G) (ca : Nat → ClassId) (d : Nat) (C : Nat × Nat) (S : zS) (w0 : rt_Wd) (p : Int) (s : Int) (M : zM) (Q : Int → zM → Prop) (X : zM → Prop) : Prop :=
  zg_X6_measureRecord_4 l s0 G ca d C S w0 p s 0 0 M Q X
set_option maxRecDepth 100000 in
theorem z_X6_measureRecord {l : Launch} {s0 : State} {a0 : Array Value} {G : va_G} {ca : Nat → ClassId} (Γ : rt_Γ l s0 a0 G ca) {d : Nat} {C : Nat × Nat} {S : zS} (hd : 1 ≤ d) (hok : zok C) {p : Int} (hp : zSc S p) {s : Int} {M : zM} {Q : Int → zM → Prop} {X : zM → Prop} (h : zt_X6_measureRecord l s0 G ca d C S (zw s0 ca C S M) p s M Q X) : zm_X6_measureRecord l s0 G ca d C S p s M Q X := by
  refine z_met (lv := [(0, zv s0 2 p), (1, zv s0 0 s)]) Γ kk_X6_measureRecord rfl (show (lg_sl [zv s0 2 p, zv s0 0 s]).length ≤ 5 from by simp only [zn_0, zn_2, show (lg_sl []).length = 0 from rfl]; omega) (show lv_args 0 [zv s0 2 p, zv s0 0 s] = [(0, zv s0 2 p), (1, zv s0 0 s)] from by rw [zl_2, zl_0]; rfl) ?_
  unfold zt_X6_measureRecord at h
  refine z_iconst dX6_measureRecord_0 ?_
  refine z_istore_n (i := 2) (lv' := [(2, zv s0 0 0), (0, zv s0 2 p), (1, zv s0 0 s)]) dX6_measureRecord_1 rfl (by decide) (by simp [zv_cat0, zv_cat1, zv_cat2, zv_cats]) ?_
  refine z_iconst dX6_measureRecord_2 ?_
  refine z_istore_n (i := 3) (lv' := [(3, zv s0 0 0), (2, zv s0 0 0), (0, zv s0 2 p), (1, zv s0 0 s)]) dX6_measureRecord_3 rfl (by decide) (by simp [zv_cat0, zv_cat1, zv_cat2, zv_cats]) ?_
  exact rt_lfew [2, 3, 1, 0] rfl h

abbrev zg_X6_addParts_26 (l : Launch) (s0 : State) (G : va_G) (ca : Nat → ClassId) (d : Nat) (C : Nat × Nat) (S : zS) (w0 : rt_Wd) (p : Int) (v2 : Int) (v3 : Int)  (M : zM) (Q : Int → zM → Prop) (X : zM → Prop) : Prop := rt_Go l s0 G RX6 "addParts" cX6_addParts 5 (Option.none : Option FieldType) [] d w0 (zQ s0 ca 9 C S Q X) 26 [(0, zv s0 2 p), (2, zv s0 0 v2), (3, zv s0 0 v3)] [] (zw s0 ca C S M)
def zt_X6_addParts_26 (l : Launch) (s0 : State) (G : va_G) (ca : Nat → ClassId) (d : Nat) (C : Nat × Nat) (S : zS) (w0 : rt_Wd) (p : Int) (v2 : Int) (v3 : Int)  (M : zM) (Q : Int → zM → Prop) (X : zM → Prop) : Prop :=
  zIf (w32 v2 ≤ w32 v3) (Q 0 M) (zg_X6_addParts_26 l s0 G ca d C S w0 p v2 (v3 + 1) ((zput ((zput ((zput ((zadd M (p + 13) (p + 14) 2048 0)) (p + 16) 2048 ((M (p + 13) 1)) ((-1)))) (p + 18) 2048 ((M (p + 13) 1)) ((-1)))) (p + 20) 2048 ((M (p + 13) 1)) ((-1)))) Q X)
set_option maxRecDepth 100000 in
theorem zs_X6_addParts_26 {l : Launch} {s0 : State} {a0 : Array Value} {G : va_G} {ca : Nat → ClassId} (Γ : rt_Γ l s0 a0 G ca) {d : Nat} {C : Nat × Nat} {S : zS} (hd : 1 ≤ d) (hok : zok C) {p : Int} (hp : zSc S p) {w0 : rt_Wd} {v2 : Int} {v3 : Int}   {M : zM} {Q : Int → zM → Prop} {X : zM → Prop} (h : zt_X6_addParts_26 l s0 G ca d C S w0 p v2 v3 M Q X) : zg_X6_addParts_26 l s0 G ca d C S w0 p v2 v3 M Q X := by
  unfold zt_X6_addParts_26 at h
  refine z_iload_n dX6_addParts_26 rfl (j := 2) rfl ?_
  refine z_iload_n dX6_addParts_27 rfl (j := 1) rfl ?_
  refine z_icmp_ge (tgt := 85) (x' := w32 v3) (y' := w32 v2) rfl rfl dX6_addParts_28 (by decide) (fun c28 => ?_) (fun c28 => ?_)
  · replace h := h.1 c28
    exact z_vret dX6_addParts_85 rfl h
  · replace h := h.2 c28
    refine z_aload_n dX6_addParts_31 rfl (j := 0) rfl ?_
    refine z_getc Γ kf_RX6_35 dX6_addParts_32 hp.1 hp.2.1 rfl ?_
    refine z_callV Γ kk_X0_count kc_RX6_68 (As := []) (k_X0_count (d := d - 1) Γ hok (hp.2.2.2.2.2.2.2.2.1 : zCe S (p + 13) (p + 14) 2048) (M := M) (Q := fun v9 M9 => v9 = (M (p + 13) 1) ∧ M9 = M) (X := X) (show _ ∧ _ from ⟨rfl, rfl⟩)) (by omega) (by decide) (show (parseMethodDescriptor yX0_count.desc).map (fun q => q.parameters.length) = some 0 by decide +kernel) hok (Nat.zero_le _) dX6_addParts_35 (hp.2.2.2.2.2.2.2.2.1 : zCe S (p + 13) (p + 14) 2048).1 (hp.2.2.2.2.2.2.2.2.1 : zCe S (p + 13) (p + 14) 2048).2.2.2.1 rfl rfl (fun _ h9 => nomatch h9) ?_
    rintro v9 M9 ⟨e9, e8⟩
    rw [e9, e8]
    clear e9 e8 v9 M9
    show rt_Go _ _ _ _ _ _ _ _ _ _ _ _ 38 [(0, zv s0 2 p), (2, zv s0 0 v2), (3, zv s0 0 v3)] [zv s0 0 ((M (p + 13) 1))] (zw s0 ca C S M)
    refine z_istore (i := 4) (lv' := [(4, zv s0 0 ((M (p + 13) 1))), (0, zv s0 2 p), (2, zv s0 0 v2), (3, zv s0 0 v3)]) dX6_addParts_38 (by decide) (by simp [zv_cat0, zv_cat1, zv_cat2, zv_cats]) ?_
    refine z_aload_n dX6_addParts_40 rfl (j := 1) rfl ?_
    refine z_getc Γ kf_RX6_35 dX6_addParts_41 hp.1 hp.2.1 rfl ?_
    refine z_iconst dX6_addParts_44 ?_
    refine z_callV Γ kk_X0_add kc_RX6_56 (As := [zv s0 0 0]) (k_X0_add (d := d - 1) Γ hok (hp.2.2.2.2.2.2.2.2.1 : zCe S (p + 13) (p + 14) 2048) (M := M) (Q := fun v9 M9 => v9 = (zaddv M (p + 13) 2048) ∧ M9 = (zadd M (p + 13) (p + 14) 2048 0)) (X := X) (show _ ∧ _ from ⟨rfl, rfl⟩)) (by omega) (by decide) (show (parseMethodDescriptor yX0_add.desc).map (fun q => q.parameters.length) = some 1 by decide +kernel) hok (Nat.zero_le _) dX6_addParts_45 (hp.2.2.2.2.2.2.2.2.1 : zCe S (p + 13) (p + 14) 2048).1 (hp.2.2.2.2.2.2.2.2.1 : zCe S (p + 13) (p + 14) 2048).2.2.2.1 rfl rfl (fun _ h9 => nomatch h9) ?_
    rintro v9 M9 ⟨e9, e8⟩
    rw [e9, e8]
    clear e9 e8 v9 M9
    show rt_Go _ _ _ _ _ _ _ _ _ _ _ _ 48 [(4, zv s0 0 ((M (p + 13) 1))), (0, zv s0 2 p), (2, zv s0 0 v2), (3, zv s0 0 v3)] [zv s0 0 ((zaddv M (p + 13) 2048))] (zw s0 ca C S ((zadd M (p + 13) (p + 14) 2048 0)))
    refine z_pop0 dX6_addParts_48 ?_
    refine z_aload_n dX6_addParts_49 rfl (j := 1) rfl ?_
    refine z_getc Γ kf_RX6_38 dX6_addParts_50 hp.1 hp.2.1 rfl ?_
    refine z_iload dX6_addParts_53 (j := 0) rfl ?_
    refine z_iconst dX6_addParts_55 ?_
    refine z_callV Γ kk_X0_put kc_RX6_60 (As := [zv s0 0 ((M (p + 13) 1)), zv s0 0 ((-1))]) (k_X0_put (d := d - 1) Γ hok (hp.2.2.2.2.2.2.2.2.2.1 : zCe S (p + 15) (p + 16) 2048) (M := ((zadd M (p + 13) (p + 14) 2048 0))) (Q := fun v9 M9 => v9 = 0 ∧ M9 = (zput ((zadd M (p + 13) (p + 14) 2048 0)) (p + 16) 2048 ((M (p + 13) 1)) ((-1)))) (X := X) (show _ ∧ _ from ⟨rfl, rfl⟩)) (by omega) (by decide) (show (parseMethodDescriptor yX0_put.desc).map (fun q => q.parameters.length) = some 2 by decide +kernel) hok (Nat.zero_le _) dX6_addParts_56 (hp.2.2.2.2.2.2.2.2.2.1 : zCe S (p + 15) (p + 16) 2048).1 (hp.2.2.2.2.2.2.2.2.2.1 : zCe S (p + 15) (p + 16) 2048).2.2.2.1 rfl rfl (fun _ h9 => nomatch h9) ?_
    rintro v9 M9 ⟨e9, e8⟩
    rw [e9, e8]
    clear e9 e8 v9 M9
    show rt_Go _ _ _ _ _ _ _ _ _ _ _ _ 59 [(4, zv s0 0 ((M (p + 13) 1))), (0, zv s0 2 p), (2, zv s0 0 v2), (3, zv s0 0 v3)] [] (zw s0 ca C S ((zput ((zadd M (p + 13) (p + 14) 2048 0)) (p + 16) 2048 ((M (p + 13) 1)) ((-1)))))
    refine z_aload_n dX6_addParts_59 rfl (j := 1) rfl ?_
    refine z_getc Γ kf_RX6_41 dX6_addParts_60 hp.1 hp.2.1 rfl ?_
    refine z_iload dX6_addParts_63 (j := 0) rfl ?_
    refine z_iconst dX6_addParts_65 ?_
    refine z_callV Γ kk_X0_put kc_RX6_60 (As := [zv s0 0 ((M (p + 13) 1)), zv s0 0 ((-1))]) (k_X0_put (d := d - 1) Γ hok (hp.2.2.2.2.2.2.2.2.2.2.1 : zCe S (p + 17) (p + 18) 2048) (M := ((zput ((zadd M (p + 13) (p + 14) 2048 0)) (p + 16) 2048 ((M (p + 13) 1)) ((-1))))) (Q := fun v9 M9 => v9 = 0 ∧ M9 = (zput ((zput ((zadd M (p + 13) (p + 14) 2048 0)) (p + 16) 2048 ((M (p + 13) 1)) ((-1)))) (p + 18) 2048 ((M (p + 13) 1)) ((-1)))) (X := X) (show _ ∧ _ from ⟨rfl, rfl⟩)) (by omega) (by decide) (show (parseMethodDescriptor yX0_put.desc).map (fun q => q.parameters.length) = some 2 by decide +kernel) hok (Nat.zero_le _) dX6_addParts_66 (hp.2.2.2.2.2.2.2.2.2.2.1 : zCe S (p + 17) (p + 18) 2048).1 (hp.2.2.2.2.2.2.2.2.2.2.1 : zCe S (p + 17) (p + 18) 2048).2.2.2.1 rfl rfl (fun _ h9 => nomatch h9) ?_
    rintro v9 M9 ⟨e9, e8⟩
    rw [e9, e8]
    clear e9 e8 v9 M9
    show rt_Go _ _ _ _ _ _ _ _ _ _ _ _ 69 [(4, zv s0 0 ((M (p + 13) 1))), (0, zv s0 2 p), (2, zv s0 0 v2), (3, zv s0 0 v3)] [] (zw s0 ca C S ((zput ((zput ((zadd M (p + 13) (p + 14) 2048 0)) (p + 16) 2048 ((M (p + 13) 1)) ((-1)))) (p + 18) 2048 ((M (p + 13) 1)) ((-1)))))
    refine z_aload_n dX6_addParts_69 rfl (j := 1) rfl ?_
    refine z_getc Γ kf_RX6_44 dX6_addParts_70 hp.1 hp.2.1 rfl ?_
    refine z_iload dX6_addParts_73 (j := 0) rfl ?_
    refine z_iconst dX6_addParts_75 ?_
    refine z_callV Γ kk_X0_put kc_RX6_60 (As := [zv s0 0 ((M (p + 13) 1)), zv s0 0 ((-1))]) (k_X0_put (d := d - 1) Γ hok (hp.2.2.2.2.2.2.2.2.2.2.2.1 : zCe S (p + 19) (p + 20) 2048) (M := ((zput ((zput ((zadd M (p + 13) (p + 14) 2048 0)) (p + 16) 2048 ((M (p + 13) 1)) ((-1)))) (p + 18) 2048 ((M (p + 13) 1)) ((-1))))) (Q := fun v9 M9 => v9 = 0 ∧ M9 = (zput ((zput ((zput ((zadd M (p + 13) (p + 14) 2048 0)) (p + 16) 2048 ((M (p + 13) 1)) ((-1)))) (p + 18) 2048 ((M (p + 13) 1)) ((-1)))) (p + 20) 2048 ((M (p + 13) 1)) ((-1)))) (X := X) (show _ ∧ _ from ⟨rfl, rfl⟩)) (by omega) (by decide) (show (parseMethodDescriptor yX0_put.desc).map (fun q => q.parameters.length) = some 2 by decide +kernel) hok (Nat.zero_le _) dX6_addParts_76 (hp.2.2.2.2.2.2.2.2.2.2.2.1 : zCe S (p + 19) (p + 20) 2048).1 (hp.2.2.2.2.2.2.2.2.2.2.2.1 : zCe S (p + 19) (p + 20) 2048).2.2.2.1 rfl rfl (fun _ h9 => nomatch h9) ?_
    rintro v9 M9 ⟨e9, e8⟩
    rw [e9, e8]
    clear e9 e8 v9 M9
    show rt_Go _ _ _ _ _ _ _ _ _ _ _ _ 79 [(4, zv s0 0 ((M (p + 13) 1))), (0, zv s0 2 p), (2, zv s0 0 v2), (3, zv s0 0 v3)] [] (zw s0 ca C S ((zput ((zput ((zput ((zadd M (p + 13) (p + 14) 2048 0)) (p + 16) 2048 ((M (p + 13) 1)) ((-1)))) (p + 18) 2048 ((M (p + 13) 1)) ((-1)))) (p + 20) 2048 ((M (p + 13) 1)) ((-1)))))
    refine z_iinc (lv' := [(3, zv s0 0 (v3 + 1)), (4, zv s0 0 ((M (p + 13) 1))), (0, zv s0 2 p), (2, zv s0 0 v2)]) dX6_addParts_79 (j := 3) rfl (by decide) (by simp [zv_cat0, zv_cat1, zv_cat2, zv_cats]) ?_
    refine rt_goto (tgt := 26) dX6_addParts_82 (by decide) ?_
    exact rt_lfew [2, 3, 0] rfl h

def zt_X6_addParts (l : Launch) (s0 : State) (G : va_G) (ca : Nat → ClassId) (d : Nat) (C : Nat × Nat) (S : zS) (w0 : rt_Wd) (p : Int) (s : Int) (k : Int) (M : zM) (Q : Int → zM → Prop) (X : zM → Prop) : Prop :=
  zg_X6_addParts_26 l s0 G ca d C S w0 p k 0 ((zput ((zput M (p + 10) 134 s ((M (p + 13) 1)))) (p + 12) 134 s k)) Q X
set_option maxRecDepth 100000 in
theorem z_X6_addParts {l : Launch} {s0 : State} {a0 : Array Value} {G : va_G} {ca : Nat → ClassId} (Γ : rt_Γ l s0 a0 G ca) {d : Nat} {C : Nat × Nat} {S : zS} (hd : 1 ≤ d) (hok : zok C) {p : Int} (hp : zSc S p) {s : Int} {k : Int} {M : zM} {Q : Int → zM → Prop} {X : zM → Prop} (h : zt_X6_addParts l s0 G ca d C S (zw s0 ca C S M) p s k M Q X) : zm_X6_addParts l s0 G ca d C S p s k M Q X := by
  refine z_met (lv := [(0, zv s0 2 p), (1, zv s0 0 s), (2, zv s0 0 k)]) Γ kk_X6_addParts rfl (show (lg_sl [zv s0 2 p, zv s0 0 s, zv s0 0 k]).length ≤ 5 from by simp only [zn_0, zn_2, show (lg_sl []).length = 0 from rfl]; omega) (show lv_args 0 [zv s0 2 p, zv s0 0 s, zv s0 0 k] = [(0, zv s0 2 p), (1, zv s0 0 s), (2, zv s0 0 k)] from by rw [zl_2, zl_0, zl_0]; rfl) ?_
  unfold zt_X6_addParts at h
  refine z_aload_n dX6_addParts_0 rfl (j := 0) rfl ?_
  refine z_getc Γ kf_RX6_29 dX6_addParts_1 hp.1 hp.2.1 rfl ?_
  refine z_iload_n dX6_addParts_4 rfl (j := 1) rfl ?_
  refine z_aload_n dX6_addParts_5 rfl (j := 0) rfl ?_
  refine z_getc Γ kf_RX6_35 dX6_addParts_6 hp.1 hp.2.1 rfl ?_
  refine z_callV Γ kk_X0_count kc_RX6_68 (As := []) (k_X0_count (d := d - 1) Γ hok (hp.2.2.2.2.2.2.2.2.1 : zCe S (p + 13) (p + 14) 2048) (M := M) (Q := fun v9 M9 => v9 = (M (p + 13) 1) ∧ M9 = M) (X := X) (show _ ∧ _ from ⟨rfl, rfl⟩)) (by omega) (by decide) (show (parseMethodDescriptor yX0_count.desc).map (fun q => q.parameters.length) = some 0 by decide +kernel) hok (by simp only [List.map, zv_cat0, zv_cat1, zv_cat2, List.sum_cons, List.sum_nil]; decide) dX6_addParts_9 (hp.2.2.2.2.2.2.2.2.1 : zCe S (p + 13) (p + 14) 2048).1 (hp.2.2.2.2.2.2.2.2.1 : zCe S (p + 13) (p + 14) 2048).2.2.2.1 rfl rfl (fun _ h9 => nomatch h9) ?_
  rintro v9 M9 ⟨e9, e8⟩
  rw [e9, e8]
  clear e9 e8 v9 M9
  show rt_Go _ _ _ _ _ _ _ _ _ _ _ _ 12 [(0, zv s0 2 p), (1, zv s0 0 s), (2, zv s0 0 k)] [zv s0 0 ((M (p + 13) 1)), zv s0 0 s, zv s0 2 (p + 9)] (zw s0 ca C S M)
  refine z_callV Γ kk_X0_put kc_RX6_60 (As := [zv s0 0 s, zv s0 0 ((M (p + 13) 1))]) (k_X0_put (d := d - 1) Γ hok (hp.2.2.2.2.2.2.1 : zCe S (p + 9) (p + 10) 134) (M := M) (Q := fun v9 M9 => v9 = 0 ∧ M9 = (zput M (p + 10) 134 s ((M (p + 13) 1)))) (X := X) (show _ ∧ _ from ⟨rfl, rfl⟩)) (by omega) (by decide) (show (parseMethodDescriptor yX0_put.desc).map (fun q => q.parameters.length) = some 2 by decide +kernel) hok (Nat.zero_le _) dX6_addParts_12 (hp.2.2.2.2.2.2.1 : zCe S (p + 9) (p + 10) 134).1 (hp.2.2.2.2.2.2.1 : zCe S (p + 9) (p + 10) 134).2.2.2.1 rfl rfl (fun _ h9 => nomatch h9) ?_
  rintro v9 M9 ⟨e9, e8⟩
  rw [e9, e8]
  clear e9 e8 v9 M9
  show rt_Go _ _ _ _ _ _ _ _ _ _ _ _ 15 [(0, zv s0 2 p), (1, zv s0 0 s), (2, zv s0 0 k)] [] (zw s0 ca C S ((zput M (p + 10) 134 s ((M (p + 13) 1)))))
  refine z_aload_n dX6_addParts_15 rfl (j := 0) rfl ?_
  refine z_getc Γ kf_RX6_32 dX6_addParts_16 hp.1 hp.2.1 rfl ?_
  refine z_iload_n dX6_addParts_19 rfl (j := 1) rfl ?_
  refine z_iload_n dX6_addParts_20 rfl (j := 2) rfl ?_
  refine z_callV Γ kk_X0_put kc_RX6_60 (As := [zv s0 0 s, zv s0 0 k]) (k_X0_put (d := d - 1) Γ hok (hp.2.2.2.2.2.2.2.1 : zCe S (p + 11) (p + 12) 134) (M := ((zput M (p + 10) 134 s ((M (p + 13) 1))))) (Q := fun v9 M9 => v9 = 0 ∧ M9 = (zput ((zput M (p + 10) 134 s ((M (p + 13) 1)))) (p + 12) 134 s k)) (X := X) (show _ ∧ _ from ⟨rfl, rfl⟩)) (by omega) (by decide) (show (parseMethodDescriptor yX0_put.desc).map (fun q => q.parameters.length) = some 2 by decide +kernel) hok (Nat.zero_le _) dX6_addParts_21 (hp.2.2.2.2.2.2.2.1 : zCe S (p + 11) (p + 12) 134).1 (hp.2.2.2.2.2.2.2.1 : zCe S (p + 11) (p + 12) 134).2.2.2.1 rfl rfl (fun _ h9 => nomatch h9) ?_
  rintro v9 M9 ⟨e9, e8⟩
  rw [e9, e8]
  clear e9 e8 v9 M9
  show rt_Go _ _ _ _ _ _ _ _ _ _ _ _ 24 [(0, zv s0 2 p), (1, zv s0 0 s), (2, zv s0 0 k)] [] (zw s0 ca C S ((zput ((zput M (p + 10) 134 s ((M (p + 13) 1)))) (p + 12) 134 s k)))
  refine z_iconst dX6_addParts_24 ?_
  refine z_istore_n (i := 3) (lv' := [(3, zv s0 0 0), (0, zv s0 2 p), (1, zv s0 0 s), (2, zv s0 0 k)]) dX6_addParts_25 rfl (by decide) (by simp [zv_cat0, zv_cat1, zv_cat2, zv_cats]) ?_
  exact rt_lfew [1, 3, 0] rfl h

def zt_X6_addName (l : Launch) (s0 : State) (G : va_G) (ca : Nat → ClassId) (d : Nat) (C : Nat × Nat) (S : zS) (w0 : rt_Wd) (p : Int) (o : Int) (i : Int) (M : zM) (Q : Int → zM → Prop) (X : zM → Prop) : Prop :=
  ∃ (ad1 : Int) (nd1 : Nat), zCe S o ad1 nd1 ∧ (zm_X0_addPart l s0 G ca (d - 1) C S (p + 21) o i ((i + 1) + ((zat M ad1 nd1 i))) M (fun r23 M23 => Q ((M (p + 21) 1)) M23) X)
set_option maxRecDepth 100000 in
theorem z_X6_addName {l : Launch} {s0 : State} {a0 : Array Value} {G : va_G} {ca : Nat → ClassId} (Γ : rt_Γ l s0 a0 G ca) {d : Nat} {C : Nat × Nat} {S : zS} (hd : 1 ≤ d) (hok : zok C) {p : Int} (hp : zSc S p) {o : Int} {i : Int} {M : zM} {Q : Int → zM → Prop} {X : zM → Prop} (h : zt_X6_addName l s0 G ca d C S (zw s0 ca C S M) p o i M Q X) : zm_X6_addName l s0 G ca d C S p o i M Q X := by
  refine z_met (lv := [(0, zv s0 2 p), (1, zv s0 2 o), (2, zv s0 0 i)]) Γ kk_X6_addName rfl (show (lg_sl [zv s0 2 p, zv s0 2 o, zv s0 0 i]).length ≤ 4 from by simp only [zn_0, zn_2, show (lg_sl []).length = 0 from rfl]; omega) (show lv_args 0 [zv s0 2 p, zv s0 2 o, zv s0 0 i] = [(0, zv s0 2 p), (1, zv s0 2 o), (2, zv s0 0 i)] from by rw [zl_2, zl_2, zl_0]; rfl) ?_
  unfold zt_X6_addName at h
  refine z_aload_n dX6_addName_0 rfl (j := 0) rfl ?_
  refine z_getc Γ kf_RX6_47 dX6_addName_1 hp.1 hp.2.1 rfl ?_
  refine z_callV Γ kk_X0_count kc_RX6_68 (As := []) (k_X0_count (d := d - 1) Γ hok (hp.2.2.2.2.2.2.2.2.2.2.2.2.1 : zCe S (p + 21) (p + 22) 4096) (M := M) (Q := fun v9 M9 => v9 = (M (p + 21) 1) ∧ M9 = M) (X := X) (show _ ∧ _ from ⟨rfl, rfl⟩)) (by omega) (by decide) (show (parseMethodDescriptor yX0_count.desc).map (fun q => q.parameters.length) = some 0 by decide +kernel) hok (Nat.zero_le _) dX6_addName_4 (hp.2.2.2.2.2.2.2.2.2.2.2.2.1 : zCe S (p + 21) (p + 22) 4096).1 (hp.2.2.2.2.2.2.2.2.2.2.2.2.1 : zCe S (p + 21) (p + 22) 4096).2.2.2.1 rfl rfl (fun _ h9 => nomatch h9) ?_
  rintro v9 M9 ⟨e9, e8⟩
  rw [e9, e8]
  clear e9 e8 v9 M9
  show rt_Go _ _ _ _ _ _ _ _ _ _ _ _ 7 [(0, zv s0 2 p), (1, zv s0 2 o), (2, zv s0 0 i)] [zv s0 0 ((M (p + 21) 1))] (zw s0 ca C S M)
  refine z_istore_n (i := 3) (lv' := [(3, zv s0 0 ((M (p + 21) 1))), (0, zv s0 2 p), (1, zv s0 2 o), (2, zv s0 0 i)]) dX6_addName_7 rfl (by decide) (by simp [zv_cat0, zv_cat1, zv_cat2, zv_cats]) ?_
  refine z_aload_n dX6_addName_8 rfl (j := 1) rfl ?_
  refine z_getc Γ kf_RX6_47 dX6_addName_9 hp.1 hp.2.1 rfl ?_
  refine z_aload_n dX6_addName_12 rfl (j := 2) rfl ?_
  refine z_iload_n dX6_addName_13 rfl (j := 3) rfl ?_
  refine z_iload_n dX6_addName_14 rfl (j := 3) rfl ?_
  refine z_iconst dX6_addName_15 ?_
  refine z_iadd dX6_addName_16 ?_
  refine z_aload_n dX6_addName_17 rfl (j := 2) rfl ?_
  refine z_iload_n dX6_addName_18 rfl (j := 3) rfl ?_
  obtain ⟨ad1, nd1, hk0, h⟩ := h
  refine z_callV Γ kk_X0_at kc_RX6_72 (As := [zv s0 0 i]) (k_X0_at (d := d - 1) Γ hok (hk0 : zCe S o ad1 nd1) (M := M) (Q := fun v9 M9 => v9 = (zat M ad1 nd1 i) ∧ M9 = M) (X := X) (show _ ∧ _ from ⟨rfl, rfl⟩)) (by omega) (by decide) (show (parseMethodDescriptor yX0_at.desc).map (fun q => q.parameters.length) = some 1 by decide +kernel) hok (by simp only [List.map, zv_cat0, zv_cat1, zv_cat2, List.sum_cons, List.sum_nil]; decide) dX6_addName_19 (hk0 : zCe S o ad1 nd1).1 (hk0 : zCe S o ad1 nd1).2.2.2.1 rfl rfl (fun _ h9 => nomatch h9) ?_
  rintro v9 M9 ⟨e9, e8⟩
  rw [e9, e8]
  clear e9 e8 v9 M9
  show rt_Go _ _ _ _ _ _ _ _ _ _ _ _ 22 [(3, zv s0 0 ((M (p + 21) 1))), (0, zv s0 2 p), (1, zv s0 2 o), (2, zv s0 0 i)] [zv s0 0 ((zat M ad1 nd1 i)), zv s0 0 (i + 1), zv s0 0 i, zv s0 2 o, zv s0 2 (p + 21)] (zw s0 ca C S M)
  refine z_iadd dX6_addName_22 ?_
  refine z_callV Γ kk_X0_addPart kc_RX6_76 (As := [zv s0 2 o, zv s0 0 i, zv s0 0 ((i + 1) + ((zat M ad1 nd1 i)))]) h (by omega) (by decide) (show (parseMethodDescriptor yX0_addPart.desc).map (fun q => q.parameters.length) = some 3 by decide +kernel) hok (Nat.zero_le _) dX6_addName_23 (hp.2.2.2.2.2.2.2.2.2.2.2.2.1 : zCe S (p + 21) (p + 22) 4096).1 (hp.2.2.2.2.2.2.2.2.2.2.2.2.1 : zCe S (p + 21) (p + 22) 4096).2.2.2.1 rfl rfl (fun _ h9 => nomatch h9) ?_
  clear h
  intro r23 M23 h
  show rt_Go _ _ _ _ _ _ _ _ _ _ _ _ 26 [(3, zv s0 0 ((M (p + 21) 1))), (0, zv s0 2 p), (1, zv s0 2 o), (2, zv s0 0 i)] [zv s0 0 r23] (zw s0 ca C S M23)
  refine z_pop0 dX6_addName_26 ?_
  refine z_iload_n dX6_addName_27 rfl (j := 0) rfl ?_
  exact z_iret dX6_addName_28 rfl h

abbrev zg_X6_partNamed_13 (l : Launch) (s0 : State) (G : va_G) (ca : Nat → ClassId) (d : Nat) (C : Nat × Nat) (S : zS) (w0 : rt_Wd) (p : Int) (v1 : Int) (v2 : Int) (v3 : Int) (v4 : Int) (v5 : Int)  (M : zM) (Q : Int → zM → Prop) (X : zM → Prop) : Prop := rt_Go l s0 G RX6 "partNamed" cX6_partNamed 6 (Option.some FieldType.int) [] d w0 (zQ s0 ca 0 C S Q X) 13 [(0, zv s0 2 p), (1, zv s0 0 v1), (2, zv s0 2 v2), (3, zv s0 0 v3), (4, zv s0 0 v4), (5, zv s0 0 v5)] [] (zw s0 ca C S M)
def zt_X6_partNamed_13 (l : Launch) (s0 : State) (G : va_G) (ca : Nat → ClassId) (d : Nat) (C : Nat × Nat) (S : zS) (w0 : rt_Wd) (p : Int) (v1 : Int) (v2 : Int) (v3 : Int) (v4 : Int) (v5 : Int)  (M : zM) (Q : Int → zM → Prop) (X : zM → Prop) : Prop :=
  zIf (w32 ((zat M (p + 12) 134 v1)) ≤ w32 v5) (Q ((-1)) M) (zm_X0_isWord l s0 G ca (d - 1) C S (p + 21) ((zat M (p + 16) 2048 (v4 + v5))) v2 v3 M (fun r44 M44 => zIf (w32 r44 = 0) (zg_X6_partNamed_13 l s0 G ca d C S w0 p v1 v2 v3 v4 (v5 + 1) M44 Q X) (Q v5 M44)) X)
set_option maxRecDepth 100000 in
theorem zs_X6_partNamed_13 {l : Launch} {s0 : State} {a0 : Array Value} {G : va_G} {ca : Nat → ClassId} (Γ : rt_Γ l s0 a0 G ca) {d : Nat} {C : Nat × Nat} {S : zS} (hd : 1 ≤ d) (hok : zok C) {p : Int} (hp : zSc S p) {w0 : rt_Wd} {v1 : Int} {v2 : Int} {v3 : Int} {v4 : Int} {v5 : Int}   {M : zM} {Q : Int → zM → Prop} {X : zM → Prop} (h : zt_X6_partNamed_13 l s0 G ca d C S w0 p v1 v2 v3 v4 v5 M Q X) : zg_X6_partNamed_13 l s0 G ca d C S w0 p v1 v2 v3 v4 v5 M Q X := by
  unfold zt_X6_partNamed_13 at h
  refine z_iload dX6_partNamed_13 (j := 5) rfl ?_
  refine z_aload_n dX6_partNamed_15 rfl (j := 0) rfl ?_
  refine z_getc Γ kf_RX6_32 dX6_partNamed_16 hp.1 hp.2.1 rfl ?_
  refine z_iload_n dX6_partNamed_19 rfl (j := 1) rfl ?_
  refine z_callV Γ kk_X0_at kc_RX6_72 (As := [zv s0 0 v1]) (k_X0_at (d := d - 1) Γ hok (hp.2.2.2.2.2.2.2.1 : zCe S (p + 11) (p + 12) 134) (M := M) (Q := fun v9 M9 => v9 = (zat M (p + 12) 134 v1) ∧ M9 = M) (X := X) (show _ ∧ _ from ⟨rfl, rfl⟩)) (by omega) (by decide) (show (parseMethodDescriptor yX0_at.desc).map (fun q => q.parameters.length) = some 1 by decide +kernel) hok (by simp only [List.map, zv_cat0, zv_cat1, zv_cat2, List.sum_cons, List.sum_nil]; decide) dX6_partNamed_20 (hp.2.2.2.2.2.2.2.1 : zCe S (p + 11) (p + 12) 134).1 (hp.2.2.2.2.2.2.2.1 : zCe S (p + 11) (p + 12) 134).2.2.2.1 rfl rfl (fun _ h9 => nomatch h9) ?_
  rintro v9 M9 ⟨e9, e8⟩
  rw [e9, e8]
  clear e9 e8 v9 M9
  show rt_Go _ _ _ _ _ _ _ _ _ _ _ _ 23 [(0, zv s0 2 p), (1, zv s0 0 v1), (2, zv s0 2 v2), (3, zv s0 0 v3), (4, zv s0 0 v4), (5, zv s0 0 v5)] [zv s0 0 ((zat M (p + 12) 134 v1)), zv s0 0 v5] (zw s0 ca C S M)
  refine z_icmp_ge (tgt := 59) (x' := w32 v5) (y' := w32 ((zat M (p + 12) 134 v1))) rfl rfl dX6_partNamed_23 (by decide) (fun c23 => ?_) (fun c23 => ?_)
  · replace h := h.1 c23
    refine z_iconst dX6_partNamed_59 ?_
    exact z_iret dX6_partNamed_60 rfl h
  · replace h := h.2 c23
    refine z_aload_n dX6_partNamed_26 rfl (j := 0) rfl ?_
    refine z_getc Γ kf_RX6_47 dX6_partNamed_27 hp.1 hp.2.1 rfl ?_
    refine z_aload_n dX6_partNamed_30 rfl (j := 0) rfl ?_
    refine z_getc Γ kf_RX6_38 dX6_partNamed_31 hp.1 hp.2.1 rfl ?_
    refine z_iload dX6_partNamed_34 (j := 4) rfl ?_
    refine z_iload dX6_partNamed_36 (j := 5) rfl ?_
    refine z_iadd dX6_partNamed_38 ?_
    refine z_callV Γ kk_X0_at kc_RX6_72 (As := [zv s0 0 (v4 + v5)]) (k_X0_at (d := d - 1) Γ hok (hp.2.2.2.2.2.2.2.2.2.1 : zCe S (p + 15) (p + 16) 2048) (M := M) (Q := fun v9 M9 => v9 = (zat M (p + 16) 2048 (v4 + v5)) ∧ M9 = M) (X := X) (show _ ∧ _ from ⟨rfl, rfl⟩)) (by omega) (by decide) (show (parseMethodDescriptor yX0_at.desc).map (fun q => q.parameters.length) = some 1 by decide +kernel) hok (by simp only [List.map, zv_cat0, zv_cat1, zv_cat2, List.sum_cons, List.sum_nil]; decide) dX6_partNamed_39 (hp.2.2.2.2.2.2.2.2.2.1 : zCe S (p + 15) (p + 16) 2048).1 (hp.2.2.2.2.2.2.2.2.2.1 : zCe S (p + 15) (p + 16) 2048).2.2.2.1 rfl rfl (fun _ h9 => nomatch h9) ?_
    rintro v9 M9 ⟨e9, e8⟩
    rw [e9, e8]
    clear e9 e8 v9 M9
    show rt_Go _ _ _ _ _ _ _ _ _ _ _ _ 42 [(0, zv s0 2 p), (1, zv s0 0 v1), (2, zv s0 2 v2), (3, zv s0 0 v3), (4, zv s0 0 v4), (5, zv s0 0 v5)] [zv s0 0 ((zat M (p + 16) 2048 (v4 + v5))), zv s0 2 (p + 21)] (zw s0 ca C S M)
    refine z_aload_n dX6_partNamed_42 rfl (j := 2) rfl ?_
    refine z_iload_n dX6_partNamed_43 rfl (j := 3) rfl ?_
    refine z_callV Γ kk_X0_isWord kc_RX6_80 (As := [zv s0 0 ((zat M (p + 16) 2048 (v4 + v5))), zv s0 2 v2, zv s0 0 v3]) h (by omega) (by decide) (show (parseMethodDescriptor yX0_isWord.desc).map (fun q => q.parameters.length) = some 3 by decide +kernel) hok (Nat.zero_le _) dX6_partNamed_44 (hp.2.2.2.2.2.2.2.2.2.2.2.2.1 : zCe S (p + 21) (p + 22) 4096).1 (hp.2.2.2.2.2.2.2.2.2.2.2.2.1 : zCe S (p + 21) (p + 22) 4096).2.2.2.1 rfl rfl (fun _ h9 => nomatch h9) ?_
    clear h
    intro r44 M44 h
    show rt_Go _ _ _ _ _ _ _ _ _ _ _ _ 47 [(0, zv s0 2 p), (1, zv s0 0 v1), (2, zv s0 2 v2), (3, zv s0 0 v3), (4, zv s0 0 v4), (5, zv s0 0 v5)] [zv s0 0 r44] (zw s0 ca C S M44)
    refine z_if_eq (tgt := 53) (x' := w32 r44) rfl dX6_partNamed_47 (by decide) (fun c47 => ?_) (fun c47 => ?_)
    · replace h := h.1 c47
      refine z_iinc (lv' := [(5, zv s0 0 (v5 + 1)), (0, zv s0 2 p), (1, zv s0 0 v1), (2, zv s0 2 v2), (3, zv s0 0 v3), (4, zv s0 0 v4)]) dX6_partNamed_53 (j := 5) rfl (by decide) (by simp [zv_cat0, zv_cat1, zv_cat2, zv_cats]) ?_
      refine rt_goto (tgt := 13) dX6_partNamed_56 (by decide) ?_
      exact rt_lfew [1, 2, 3, 4, 5, 0] rfl h
    · replace h := h.2 c47
      refine z_iload dX6_partNamed_50 (j := 5) rfl ?_
      exact z_iret dX6_partNamed_52 rfl h

def zt_X6_partNamed (l : Launch) (s0 : State) (G : va_G) (ca : Nat → ClassId) (d : Nat) (C : Nat × Nat) (S : zS) (w0 : rt_Wd) (p : Int) (s : Int) (o : Int) (i : Int) (M : zM) (Q : Int → zM → Prop) (X : zM → Prop) : Prop :=
  zg_X6_partNamed_13 l s0 G ca d C S w0 p s o i ((zat M (p + 10) 134 s)) 0 M Q X
set_option maxRecDepth 100000 in
theorem z_X6_partNamed {l : Launch} {s0 : State} {a0 : Array Value} {G : va_G} {ca : Nat → ClassId} (Γ : rt_Γ l s0 a0 G ca) {d : Nat} {C : Nat × Nat} {S : zS} (hd : 1 ≤ d) (hok : zok C) {p : Int} (hp : zSc S p) {s : Int} {o : Int} {i : Int} {M : zM} {Q : Int → zM → Prop} {X : zM → Prop} (h : zt_X6_partNamed l s0 G ca d C S (zw s0 ca C S M) p s o i M Q X) : zm_X6_partNamed l s0 G ca d C S p s o i M Q X := by
  refine z_met (lv := [(0, zv s0 2 p), (1, zv s0 0 s), (2, zv s0 2 o), (3, zv s0 0 i)]) Γ kk_X6_partNamed rfl (show (lg_sl [zv s0 2 p, zv s0 0 s, zv s0 2 o, zv s0 0 i]).length ≤ 6 from by simp only [zn_0, zn_2, show (lg_sl []).length = 0 from rfl]; omega) (show lv_args 0 [zv s0 2 p, zv s0 0 s, zv s0 2 o, zv s0 0 i] = [(0, zv s0 2 p), (1, zv s0 0 s), (2, zv s0 2 o), (3, zv s0 0 i)] from by rw [zl_2, zl_0, zl_2, zl_0]; rfl) ?_
  unfold zt_X6_partNamed at h
  refine z_aload_n dX6_partNamed_0 rfl (j := 0) rfl ?_
  refine z_getc Γ kf_RX6_29 dX6_partNamed_1 hp.1 hp.2.1 rfl ?_
  refine z_iload_n dX6_partNamed_4 rfl (j := 1) rfl ?_
  refine z_callV Γ kk_X0_at kc_RX6_72 (As := [zv s0 0 s]) (k_X0_at (d := d - 1) Γ hok (hp.2.2.2.2.2.2.1 : zCe S (p + 9) (p + 10) 134) (M := M) (Q := fun v9 M9 => v9 = (zat M (p + 10) 134 s) ∧ M9 = M) (X := X) (show _ ∧ _ from ⟨rfl, rfl⟩)) (by omega) (by decide) (show (parseMethodDescriptor yX0_at.desc).map (fun q => q.parameters.length) = some 1 by decide +kernel) hok (Nat.zero_le _) dX6_partNamed_5 (hp.2.2.2.2.2.2.1 : zCe S (p + 9) (p + 10) 134).1 (hp.2.2.2.2.2.2.1 : zCe S (p + 9) (p + 10) 134).2.2.2.1 rfl rfl (fun _ h9 => nomatch h9) ?_
  rintro v9 M9 ⟨e9, e8⟩
  rw [e9, e8]
  clear e9 e8 v9 M9
  show rt_Go _ _ _ _ _ _ _ _ _ _ _ _ 8 [(0, zv s0 2 p), (1, zv s0 0 s), (2, zv s0 2 o), (3, zv s0 0 i)] [zv s0 0 ((zat M (p + 10) 134 s))] (zw s0 ca C S M)
  refine z_istore (i := 4) (lv' := [(4, zv s0 0 ((zat M (p + 10) 134 s))), (0, zv s0 2 p), (1, zv s0 0 s), (2, zv s0 2 o), (3, zv s0 0 i)]) dX6_partNamed_8 (by decide) (by simp [zv_cat0, zv_cat1, zv_cat2, zv_cats]) ?_
  refine z_iconst dX6_partNamed_10 ?_
  refine z_istore (i := 5) (lv' := [(5, zv s0 0 0), (4, zv s0 0 ((zat M (p + 10) 134 s))), (0, zv s0 2 p), (1, zv s0 0 s), (2, zv s0 2 o), (3, zv s0 0 i)]) dX6_partNamed_11 (by decide) (by simp [zv_cat0, zv_cat1, zv_cat2, zv_cats]) ?_
  exact rt_lfew [2, 3, 4, 5, 1, 0] rfl h

abbrev zg_X6_nodeNamed_3 (l : Launch) (s0 : State) (G : va_G) (ca : Nat → ClassId) (d : Nat) (C : Nat × Nat) (S : zS) (w0 : rt_Wd) (p : Int) (v1 : Int) (v2 : Int) (v3 : Int)  (M : zM) (Q : Int → zM → Prop) (X : zM → Prop) : Prop := rt_Go l s0 G RX6 "nodeNamed" cX6_nodeNamed 4 (Option.some FieldType.int) [] d w0 (zQ s0 ca 0 C S Q X) 3 [(0, zv s0 2 p), (1, zv s0 2 v1), (2, zv s0 0 v2), (3, zv s0 0 v3)] [] (zw s0 ca C S M)
def zt_X6_nodeNamed_3 (l : Launch) (s0 : State) (G : va_G) (ca : Nat → ClassId) (d : Nat) (C : Nat × Nat) (S : zS) (w0 : rt_Wd) (p : Int) (v1 : Int) (v2 : Int) (v3 : Int)  (M : zM) (Q : Int → zM → Prop) (X : zM → Prop) : Prop :=
  zIf (w32 ((M (p + 1) 1)) ≤ w32 v3) (Q ((-1)) M) (zm_X0_isWord l s0 G ca (d - 1) C S (p + 21) ((zat M (p + 4) 134 v3)) v1 v2 M (fun r28 M28 => zIf (w32 r28 = 0) (zg_X6_nodeNamed_3 l s0 G ca d C S w0 p v1 v2 (v3 + 1) M28 Q X) (Q v3 M28)) X)
set_option maxRecDepth 100000 in
theorem zs_X6_nodeNamed_3 {l : Launch} {s0 : State} {a0 : Array Value} {G : va_G} {ca : Nat → ClassId} (Γ : rt_Γ l s0 a0 G ca) {d : Nat} {C : Nat × Nat} {S : zS} (hd : 1 ≤ d) (hok : zok C) {p : Int} (hp : zSc S p) {w0 : rt_Wd} {v1 : Int} {v2 : Int} {v3 : Int}   {M : zM} {Q : Int → zM → Prop} {X : zM → Prop} (h : zt_X6_nodeNamed_3 l s0 G ca d C S w0 p v1 v2 v3 M Q X) : zg_X6_nodeNamed_3 l s0 G ca d C S w0 p v1 v2 v3 M Q X := by
  unfold zt_X6_nodeNamed_3 at h
  refine z_iload_n dX6_nodeNamed_3 rfl (j := 3) rfl ?_
  refine z_aload_n dX6_nodeNamed_4 rfl (j := 0) rfl ?_
  refine z_getc Γ kf_RX6_16 dX6_nodeNamed_5 hp.1 hp.2.1 rfl ?_
  refine z_callV Γ kk_X0_count kc_RX6_68 (As := []) (k_X0_count (d := d - 1) Γ hok (hp.2.2.1 : zCe S (p + 1) (p + 2) 134) (M := M) (Q := fun v9 M9 => v9 = (M (p + 1) 1) ∧ M9 = M) (X := X) (show _ ∧ _ from ⟨rfl, rfl⟩)) (by omega) (by decide) (show (parseMethodDescriptor yX0_count.desc).map (fun q => q.parameters.length) = some 0 by decide +kernel) hok (by simp only [List.map, zv_cat0, zv_cat1, zv_cat2, List.sum_cons, List.sum_nil]; decide) dX6_nodeNamed_8 (hp.2.2.1 : zCe S (p + 1) (p + 2) 134).1 (hp.2.2.1 : zCe S (p + 1) (p + 2) 134).2.2.2.1 rfl rfl (fun _ h9 => nomatch h9) ?_
  rintro v9 M9 ⟨e9, e8⟩
  rw [e9, e8]
  clear e9 e8 v9 M9
  show rt_Go _ _ _ _ _ _ _ _ _ _ _ _ 11 [(0, zv s0 2 p), (1, zv s0 2 v1), (2, zv s0 0 v2), (3, zv s0 0 v3)] [zv s0 0 ((M (p + 1) 1)), zv s0 0 v3] (zw s0 ca C S M)
  refine z_icmp_ge (tgt := 42) (x' := w32 v3) (y' := w32 ((M (p + 1) 1))) rfl rfl dX6_nodeNamed_11 (by decide) (fun c11 => ?_) (fun c11 => ?_)
  · replace h := h.1 c11
    refine z_iconst dX6_nodeNamed_42 ?_
    exact z_iret dX6_nodeNamed_43 rfl h
  · replace h := h.2 c11
    refine z_aload_n dX6_nodeNamed_14 rfl (j := 0) rfl ?_
    refine z_getc Γ kf_RX6_47 dX6_nodeNamed_15 hp.1 hp.2.1 rfl ?_
    refine z_aload_n dX6_nodeNamed_18 rfl (j := 0) rfl ?_
    refine z_getc Γ kf_RX6_20 dX6_nodeNamed_19 hp.1 hp.2.1 rfl ?_
    refine z_iload_n dX6_nodeNamed_22 rfl (j := 3) rfl ?_
    refine z_callV Γ kk_X0_at kc_RX6_72 (As := [zv s0 0 v3]) (k_X0_at (d := d - 1) Γ hok (hp.2.2.2.1 : zCe S (p + 3) (p + 4) 134) (M := M) (Q := fun v9 M9 => v9 = (zat M (p + 4) 134 v3) ∧ M9 = M) (X := X) (show _ ∧ _ from ⟨rfl, rfl⟩)) (by omega) (by decide) (show (parseMethodDescriptor yX0_at.desc).map (fun q => q.parameters.length) = some 1 by decide +kernel) hok (by simp only [List.map, zv_cat0, zv_cat1, zv_cat2, List.sum_cons, List.sum_nil]; decide) dX6_nodeNamed_23 (hp.2.2.2.1 : zCe S (p + 3) (p + 4) 134).1 (hp.2.2.2.1 : zCe S (p + 3) (p + 4) 134).2.2.2.1 rfl rfl (fun _ h9 => nomatch h9) ?_
    rintro v9 M9 ⟨e9, e8⟩
    rw [e9, e8]
    clear e9 e8 v9 M9
    show rt_Go _ _ _ _ _ _ _ _ _ _ _ _ 26 [(0, zv s0 2 p), (1, zv s0 2 v1), (2, zv s0 0 v2), (3, zv s0 0 v3)] [zv s0 0 ((zat M (p + 4) 134 v3)), zv s0 2 (p + 21)] (zw s0 ca C S M)
    refine z_aload_n dX6_nodeNamed_26 rfl (j := 1) rfl ?_
    refine z_iload_n dX6_nodeNamed_27 rfl (j := 2) rfl ?_
    refine z_callV Γ kk_X0_isWord kc_RX6_80 (As := [zv s0 0 ((zat M (p + 4) 134 v3)), zv s0 2 v1, zv s0 0 v2]) h (by omega) (by decide) (show (parseMethodDescriptor yX0_isWord.desc).map (fun q => q.parameters.length) = some 3 by decide +kernel) hok (Nat.zero_le _) dX6_nodeNamed_28 (hp.2.2.2.2.2.2.2.2.2.2.2.2.1 : zCe S (p + 21) (p + 22) 4096).1 (hp.2.2.2.2.2.2.2.2.2.2.2.2.1 : zCe S (p + 21) (p + 22) 4096).2.2.2.1 rfl rfl (fun _ h9 => nomatch h9) ?_
    clear h
    intro r28 M28 h
    show rt_Go _ _ _ _ _ _ _ _ _ _ _ _ 31 [(0, zv s0 2 p), (1, zv s0 2 v1), (2, zv s0 0 v2), (3, zv s0 0 v3)] [zv s0 0 r28] (zw s0 ca C S M28)
    refine z_if_eq (tgt := 36) (x' := w32 r28) rfl dX6_nodeNamed_31 (by decide) (fun c31 => ?_) (fun c31 => ?_)
    · replace h := h.1 c31
      refine z_iinc (lv' := [(3, zv s0 0 (v3 + 1)), (0, zv s0 2 p), (1, zv s0 2 v1), (2, zv s0 0 v2)]) dX6_nodeNamed_36 (j := 3) rfl (by decide) (by simp [zv_cat0, zv_cat1, zv_cat2, zv_cats]) ?_
      refine rt_goto (tgt := 3) dX6_nodeNamed_39 (by decide) ?_
      exact rt_lfew [1, 2, 3, 0] rfl h
    · replace h := h.2 c31
      refine z_iload_n dX6_nodeNamed_34 rfl (j := 3) rfl ?_
      exact z_iret dX6_nodeNamed_35 rfl h

def zt_X6_nodeNamed (l : Launch) (s0 : State) (G : va_G) (ca : Nat → ClassId) (d : Nat) (C : Nat × Nat) (S : zS) (w0 : rt_Wd) (p : Int) (o : Int) (i : Int) (M : zM) (Q : Int → zM → Prop) (X : zM → Prop) : Prop :=
  zg_X6_nodeNamed_3 l s0 G ca d C S w0 p o i 6 M Q X
set_option maxRecDepth 100000 in
theorem z_X6_nodeNamed {l : Launch} {s0 : State} {a0 : Array Value} {G : va_G} {ca : Nat → ClassId} (Γ : rt_Γ l s0 a0 G ca) {d : Nat} {C : Nat × Nat} {S : zS} (hd : 1 ≤ d) (hok : zok C) {p : Int} (hp : zSc S p) {o : Int} {i : Int} {M : zM} {Q : Int → zM → Prop} {X : zM → Prop} (h : zt_X6_nodeNamed l s0 G ca d C S (zw s0 ca C S M) p o i M Q X) : zm_X6_nodeNamed l s0 G ca d C S p o i M Q X := by
  refine z_met (lv := [(0, zv s0 2 p), (1, zv s0 2 o), (2, zv s0 0 i)]) Γ kk_X6_nodeNamed rfl (show (lg_sl [zv s0 2 p, zv s0 2 o, zv s0 0 i]).length ≤ 4 from by simp only [zn_0, zn_2, show (lg_sl []).length = 0 from rfl]; omega) (show lv_args 0 [zv s0 2 p, zv s0 2 o, zv s0 0 i] = [(0, zv s0 2 p), (1, zv s0 2 o), (2, zv s0 0 i)] from by rw [zl_2, zl_2, zl_0]; rfl) ?_
  unfold zt_X6_nodeNamed at h
  refine z_bipush dX6_nodeNamed_0 (by decide) ?_
  refine z_istore_n (i := 3) (lv' := [(3, zv s0 0 6), (0, zv s0 2 p), (1, zv s0 2 o), (2, zv s0 0 i)]) dX6_nodeNamed_2 rfl (by decide) (by simp [zv_cat0, zv_cat1, zv_cat2, zv_cats]) ?_
  exact rt_lfew [1, 2, 3, 0] rfl h

abbrev zg_X6_matchPlainly_46 (l : Launch) (s0 : State) (G : va_G) (ca : Nat → ClassId) (d : Nat) (C : Nat × Nat) (S : zS) (w0 : rt_Wd)  (v4 : Int) (v5 : Int)  (M : zM) (Q : Int → zM → Prop) (X : zM → Prop) : Prop := rt_Go l s0 G RX6 "matchPlainly" cX6_matchPlainly 6 (Option.some FieldType.boolean) [] d w0 (zQ s0 ca 0 C S Q X) 46 [(4, zv s0 0 v4), (5, zv s0 0 v5)] [] (zw s0 ca C S M)
abbrev zg_X6_matchPlainly_58 (l : Launch) (s0 : State) (G : va_G) (ca : Nat → ClassId) (d : Nat) (C : Nat × Nat) (S : zS) (w0 : rt_Wd)  (v4 : Int) (v5 : Int)  (M : zM) (Q : Int → zM → Prop) (X : zM → Prop) : Prop := rt_Go l s0 G RX6 "matchPlainly" cX6_matchPlainly 6 (Option.some FieldType.boolean) [] d w0 (zQ s0 ca 0 C S Q X) 58 [(4, zv s0 0 v4), (5, zv s0 0 v5)] [] (zw s0 ca C S M)
abbrev zg_X6_matchPlainly_106 (l : Launch) (s0 : State) (G : va_G) (ca : Nat → ClassId) (d : Nat) (C : Nat × Nat) (S : zS) (w0 : rt_Wd)  (v0 : Int) (v1 : Int) (v2 : Int) (v3 : Int) (v4 : Int)  (M : zM) (Q : Int → zM → Prop) (X : zM → Prop) : Prop := rt_Go l s0 G RX6 "matchPlainly" cX6_matchPlainly 6 (Option.some FieldType.boolean) [] d w0 (zQ s0 ca 0 C S Q X) 106 [(0, zv s0 2 v0), (1, zv s0 0 v1), (2, zv s0 2 v2), (3, zv s0 0 v3), (4, zv s0 0 v4)] [] (zw s0 ca C S M)
def zt_X6_matchPlainly_58 (l : Launch) (s0 : State) (G : va_G) (ca : Nat → ClassId) (d : Nat) (C : Nat × Nat) (S : zS) (w0 : rt_Wd)  (v4 : Int) (v5 : Int)  (M : zM) (Q : Int → zM → Prop) (X : zM → Prop) : Prop :=
  zIf (w32 v4 = 5) (zIf (w32 v5 = 4) (Q 1 M) (Q 0 M)) (Q 0 M)
set_option maxRecDepth 100000 in
theorem zs_X6_matchPlainly_58 {l : Launch} {s0 : State} {a0 : Array Value} {G : va_G} {ca : Nat → ClassId} (Γ : rt_Γ l s0 a0 G ca) {d : Nat} {C : Nat × Nat} {S : zS} (hd : 1 ≤ d) (hok : zok C)   {w0 : rt_Wd} {v4 : Int} {v5 : Int}   {M : zM} {Q : Int → zM → Prop} {X : zM → Prop} (h : zt_X6_matchPlainly_58 l s0 G ca d C S w0  v4 v5 M Q X) : zg_X6_matchPlainly_58 l s0 G ca d C S w0  v4 v5 M Q X := by
  unfold zt_X6_matchPlainly_58 at h
  refine z_iload dX6_matchPlainly_58 (j := 0) rfl ?_
  refine z_iconst dX6_matchPlainly_60 ?_
  refine z_icmp_ne (tgt := 74) (x' := w32 v4) (y' := 5) rfl (by decide) dX6_matchPlainly_61 (by decide) (fun c61 => ?_) (fun c61 => ?_)
  · replace h := h.2 c61
    refine z_iconst dX6_matchPlainly_74 ?_
    exact z_zret dX6_matchPlainly_75 rfl (by decide) h
  · replace h := h.1 c61
    refine z_iload dX6_matchPlainly_64 (j := 1) rfl ?_
    refine z_iconst dX6_matchPlainly_66 ?_
    refine z_icmp_ne (tgt := 74) (x' := w32 v5) (y' := 4) rfl (by decide) dX6_matchPlainly_67 (by decide) (fun c67 => ?_) (fun c67 => ?_)
    · replace h := h.2 c67
      refine z_iconst dX6_matchPlainly_74 ?_
      exact z_zret dX6_matchPlainly_75 rfl (by decide) h
    · replace h := h.1 c67
      refine z_iconst dX6_matchPlainly_70 ?_
      refine rt_goto (tgt := 75) dX6_matchPlainly_71 (by decide) ?_
      exact z_zret dX6_matchPlainly_75 rfl (by decide) h

def zt_X6_matchPlainly_46 (l : Launch) (s0 : State) (G : va_G) (ca : Nat → ClassId) (d : Nat) (C : Nat × Nat) (S : zS) (w0 : rt_Wd)  (v4 : Int) (v5 : Int)  (M : zM) (Q : Int → zM → Prop) (X : zM → Prop) : Prop :=
  zIf (w32 v4 = 4) (zIf (w32 v5 = 5) (Q 1 M) (zt_X6_matchPlainly_58 l s0 G ca d C S w0  v4 v5 M Q X)) (zt_X6_matchPlainly_58 l s0 G ca d C S w0  v4 v5 M Q X)
set_option maxRecDepth 100000 in
theorem zs_X6_matchPlainly_46 {l : Launch} {s0 : State} {a0 : Array Value} {G : va_G} {ca : Nat → ClassId} (Γ : rt_Γ l s0 a0 G ca) {d : Nat} {C : Nat × Nat} {S : zS} (hd : 1 ≤ d) (hok : zok C)   {w0 : rt_Wd} {v4 : Int} {v5 : Int}   {M : zM} {Q : Int → zM → Prop} {X : zM → Prop} (h : zt_X6_matchPlainly_46 l s0 G ca d C S w0  v4 v5 M Q X) : zg_X6_matchPlainly_46 l s0 G ca d C S w0  v4 v5 M Q X := by
  unfold zt_X6_matchPlainly_46 at h
  refine z_iload dX6_matchPlainly_46 (j := 0) rfl ?_
  refine z_iconst dX6_matchPlainly_48 ?_
  refine z_icmp_ne (tgt := 58) (x' := w32 v4) (y' := 4) rfl (by decide) dX6_matchPlainly_49 (by decide) (fun c49 => ?_) (fun c49 => ?_)
  · replace h := h.2 c49
    exact rt_lfew [0, 1] rfl (zs_X6_matchPlainly_58 Γ hd hok   h)
  · replace h := h.1 c49
    refine z_iload dX6_matchPlainly_52 (j := 1) rfl ?_
    refine z_iconst dX6_matchPlainly_54 ?_
    refine z_icmp_eq (tgt := 70) (x' := w32 v5) (y' := 5) rfl (by decide) dX6_matchPlainly_55 (by decide) (fun c55 => ?_) (fun c55 => ?_)
    · replace h := h.1 c55
      refine z_iconst dX6_matchPlainly_70 ?_
      refine rt_goto (tgt := 75) dX6_matchPlainly_71 (by decide) ?_
      exact z_zret dX6_matchPlainly_75 rfl (by decide) h
    · replace h := h.2 c55
      exact rt_lfew [0, 1] rfl (zs_X6_matchPlainly_58 Γ hd hok   h)

def zt_X6_matchPlainly_106 (l : Launch) (s0 : State) (G : va_G) (ca : Nat → ClassId) (d : Nat) (C : Nat × Nat) (S : zS) (w0 : rt_Wd)  (v0 : Int) (v1 : Int) (v2 : Int) (v3 : Int) (v4 : Int)  (M : zM) (Q : Int → zM → Prop) (X : zM → Prop) : Prop :=
  zSc S v0 ∧ (zSc S v2 ∧ (zm_X0_isWord l s0 G ca (d - 1) C S (v0 + 21) ((zat M (v0 + 4) 134 v1)) (v2 + 21) ((zat M (v2 + 4) 134 v3)) M (fun r130 M130 => zIf (w32 r130 = 0) (Q 0 M130) (zIf (w32 v4 = 9) (zIf (w32 ((zat M130 (v0 + 6) 134 v1)) = w32 ((zat M130 (v2 + 6) 134 v3))) (Q 1 M130) (Q 0 M130)) (Q 1 M130))) X))
set_option maxRecDepth 100000 in
theorem zs_X6_matchPlainly_106 {l : Launch} {s0 : State} {a0 : Array Value} {G : va_G} {ca : Nat → ClassId} (Γ : rt_Γ l s0 a0 G ca) {d : Nat} {C : Nat × Nat} {S : zS} (hd : 1 ≤ d) (hok : zok C)   {w0 : rt_Wd} {v0 : Int} {v1 : Int} {v2 : Int} {v3 : Int} {v4 : Int}   {M : zM} {Q : Int → zM → Prop} {X : zM → Prop} (h : zt_X6_matchPlainly_106 l s0 G ca d C S w0  v0 v1 v2 v3 v4 M Q X) : zg_X6_matchPlainly_106 l s0 G ca d C S w0  v0 v1 v2 v3 v4 M Q X := by
  unfold zt_X6_matchPlainly_106 at h
  refine z_aload_n dX6_matchPlainly_106 rfl (j := 0) rfl ?_
  obtain ⟨hk0, h⟩ := h
  refine z_getc Γ kf_RX6_47 dX6_matchPlainly_107 hk0.1 hk0.2.1 rfl ?_
  refine z_aload_n dX6_matchPlainly_110 rfl (j := 0) rfl ?_
  refine z_getc Γ kf_RX6_20 dX6_matchPlainly_111 hk0.1 hk0.2.1 rfl ?_
  refine z_iload_n dX6_matchPlainly_114 rfl (j := 1) rfl ?_
  refine z_callV Γ kk_X0_at kc_RX6_72 (As := [zv s0 0 v1]) (k_X0_at (d := d - 1) Γ hok (hk0.2.2.2.1 : zCe S (v0 + 3) (v0 + 4) 134) (M := M) (Q := fun v9 M9 => v9 = (zat M (v0 + 4) 134 v1) ∧ M9 = M) (X := X) (show _ ∧ _ from ⟨rfl, rfl⟩)) (by omega) (by decide) (show (parseMethodDescriptor yX0_at.desc).map (fun q => q.parameters.length) = some 1 by decide +kernel) hok (by simp only [List.map, zv_cat0, zv_cat1, zv_cat2, List.sum_cons, List.sum_nil]; decide) dX6_matchPlainly_115 (hk0.2.2.2.1 : zCe S (v0 + 3) (v0 + 4) 134).1 (hk0.2.2.2.1 : zCe S (v0 + 3) (v0 + 4) 134).2.2.2.1 rfl rfl (fun _ h9 => nomatch h9) ?_
  rintro v9 M9 ⟨e9, e8⟩
  rw [e9, e8]
  clear e9 e8 v9 M9
  show rt_Go _ _ _ _ _ _ _ _ _ _ _ _ 118 [(0, zv s0 2 v0), (1, zv s0 0 v1), (2, zv s0 2 v2), (3, zv s0 0 v3), (4, zv s0 0 v4)] [zv s0 0 ((zat M (v0 + 4) 134 v1)), zv s0 2 (v0 + 21)] (zw s0 ca C S M)
  refine z_aload_n dX6_matchPlainly_118 rfl (j := 2) rfl ?_
  obtain ⟨hk1, h⟩ := h
  refine z_getc Γ kf_RX6_47 dX6_matchPlainly_119 hk1.1 hk1.2.1 rfl ?_
  refine z_aload_n dX6_matchPlainly_122 rfl (j := 2) rfl ?_
  refine z_getc Γ kf_RX6_20 dX6_matchPlainly_123 hk1.1 hk1.2.1 rfl ?_
  refine z_iload_n dX6_matchPlainly_126 rfl (j := 3) rfl ?_
  refine z_callV Γ kk_X0_at kc_RX6_72 (As := [zv s0 0 v3]) (k_X0_at (d := d - 1) Γ hok (hk1.2.2.2.1 : zCe S (v2 + 3) (v2 + 4) 134) (M := M) (Q := fun v9 M9 => v9 = (zat M (v2 + 4) 134 v3) ∧ M9 = M) (X := X) (show _ ∧ _ from ⟨rfl, rfl⟩)) (by omega) (by decide) (show (parseMethodDescriptor yX0_at.desc).map (fun q => q.parameters.length) = some 1 by decide +kernel) hok (by simp only [List.map, zv_cat0, zv_cat1, zv_cat2, List.sum_cons, List.sum_nil]; decide) dX6_matchPlainly_127 (hk1.2.2.2.1 : zCe S (v2 + 3) (v2 + 4) 134).1 (hk1.2.2.2.1 : zCe S (v2 + 3) (v2 + 4) 134).2.2.2.1 rfl rfl (fun _ h9 => nomatch h9) ?_
  rintro v9 M9 ⟨e9, e8⟩
  rw [e9, e8]
  clear e9 e8 v9 M9
  show rt_Go _ _ _ _ _ _ _ _ _ _ _ _ 130 [(0, zv s0 2 v0), (1, zv s0 0 v1), (2, zv s0 2 v2), (3, zv s0 0 v3), (4, zv s0 0 v4)] [zv s0 0 ((zat M (v2 + 4) 134 v3)), zv s0 2 (v2 + 21), zv s0 0 ((zat M (v0 + 4) 134 v1)), zv s0 2 (v0 + 21)] (zw s0 ca C S M)
  refine z_callV Γ kk_X0_isWord kc_RX6_80 (As := [zv s0 0 ((zat M (v0 + 4) 134 v1)), zv s0 2 (v2 + 21), zv s0 0 ((zat M (v2 + 4) 134 v3))]) h (by omega) (by decide) (show (parseMethodDescriptor yX0_isWord.desc).map (fun q => q.parameters.length) = some 3 by decide +kernel) hok (Nat.zero_le _) dX6_matchPlainly_130 (hk0.2.2.2.2.2.2.2.2.2.2.2.2.1 : zCe S (v0 + 21) (v0 + 22) 4096).1 (hk0.2.2.2.2.2.2.2.2.2.2.2.2.1 : zCe S (v0 + 21) (v0 + 22) 4096).2.2.2.1 rfl rfl (fun _ h9 => nomatch h9) ?_
  clear h
  intro r130 M130 h
  show rt_Go _ _ _ _ _ _ _ _ _ _ _ _ 133 [(0, zv s0 2 v0), (1, zv s0 0 v1), (2, zv s0 2 v2), (3, zv s0 0 v3), (4, zv s0 0 v4)] [zv s0 0 r130] (zw s0 ca C S M130)
  refine z_if_eq (tgt := 166) (x' := w32 r130) rfl dX6_matchPlainly_133 (by decide) (fun c133 => ?_) (fun c133 => ?_)
  · replace h := h.1 c133
    refine z_iconst dX6_matchPlainly_166 ?_
    exact z_zret dX6_matchPlainly_167 rfl (by decide) h
  · replace h := h.2 c133
    refine z_iload dX6_matchPlainly_136 (j := 4) rfl ?_
    refine z_bipush dX6_matchPlainly_138 (by decide) ?_
    refine z_icmp_ne (tgt := 162) (x' := w32 v4) (y' := 9) rfl (by decide) dX6_matchPlainly_140 (by decide) (fun c140 => ?_) (fun c140 => ?_)
    · replace h := h.2 c140
      refine z_iconst dX6_matchPlainly_162 ?_
      refine rt_goto (tgt := 167) dX6_matchPlainly_163 (by decide) ?_
      exact z_zret dX6_matchPlainly_167 rfl (by decide) h
    · replace h := h.1 c140
      refine z_aload_n dX6_matchPlainly_143 rfl (j := 0) rfl ?_
      refine z_getc Γ kf_RX6_23 dX6_matchPlainly_144 hk0.1 hk0.2.1 rfl ?_
      refine z_iload_n dX6_matchPlainly_147 rfl (j := 1) rfl ?_
      refine z_callV Γ kk_X0_at kc_RX6_72 (As := [zv s0 0 v1]) (k_X0_at (d := d - 1) Γ hok (hk0.2.2.2.2.1 : zCe S (v0 + 5) (v0 + 6) 134) (M := M130) (Q := fun v9 M9 => v9 = (zat M130 (v0 + 6) 134 v1) ∧ M9 = M130) (X := X) (show _ ∧ _ from ⟨rfl, rfl⟩)) (by omega) (by decide) (show (parseMethodDescriptor yX0_at.desc).map (fun q => q.parameters.length) = some 1 by decide +kernel) hok (Nat.zero_le _) dX6_matchPlainly_148 (hk0.2.2.2.2.1 : zCe S (v0 + 5) (v0 + 6) 134).1 (hk0.2.2.2.2.1 : zCe S (v0 + 5) (v0 + 6) 134).2.2.2.1 rfl rfl (fun _ h9 => nomatch h9) ?_
      rintro v9 M9 ⟨e9, e8⟩
      rw [e9, e8]
      clear e9 e8 v9 M9
      show rt_Go _ _ _ _ _ _ _ _ _ _ _ _ 151 [(0, zv s0 2 v0), (1, zv s0 0 v1), (2, zv s0 2 v2), (3, zv s0 0 v3), (4, zv s0 0 v4)] [zv s0 0 ((zat M130 (v0 + 6) 134 v1))] (zw s0 ca C S M130)
      refine z_aload_n dX6_matchPlainly_151 rfl (j := 2) rfl ?_
      refine z_getc Γ kf_RX6_23 dX6_matchPlainly_152 hk1.1 hk1.2.1 rfl ?_
      refine z_iload_n dX6_matchPlainly_155 rfl (j := 3) rfl ?_
      refine z_callV Γ kk_X0_at kc_RX6_72 (As := [zv s0 0 v3]) (k_X0_at (d := d - 1) Γ hok (hk1.2.2.2.2.1 : zCe S (v2 + 5) (v2 + 6) 134) (M := M130) (Q := fun v9 M9 => v9 = (zat M130 (v2 + 6) 134 v3) ∧ M9 = M130) (X := X) (show _ ∧ _ from ⟨rfl, rfl⟩)) (by omega) (by decide) (show (parseMethodDescriptor yX0_at.desc).map (fun q => q.parameters.length) = some 1 by decide +kernel) hok (by simp only [List.map, zv_cat0, zv_cat1, zv_cat2, List.sum_cons, List.sum_nil]; decide) dX6_matchPlainly_156 (hk1.2.2.2.2.1 : zCe S (v2 + 5) (v2 + 6) 134).1 (hk1.2.2.2.2.1 : zCe S (v2 + 5) (v2 + 6) 134).2.2.2.1 rfl rfl (fun _ h9 => nomatch h9) ?_
      rintro v9 M9 ⟨e9, e8⟩
      rw [e9, e8]
      clear e9 e8 v9 M9
      show rt_Go _ _ _ _ _ _ _ _ _ _ _ _ 159 [(0, zv s0 2 v0), (1, zv s0 0 v1), (2, zv s0 2 v2), (3, zv s0 0 v3), (4, zv s0 0 v4)] [zv s0 0 ((zat M130 (v2 + 6) 134 v3)), zv s0 0 ((zat M130 (v0 + 6) 134 v1))] (zw s0 ca C S M130)
      refine z_icmp_ne (tgt := 166) (x' := w32 ((zat M130 (v0 + 6) 134 v1))) (y' := w32 ((zat M130 (v2 + 6) 134 v3))) rfl rfl dX6_matchPlainly_159 (by decide) (fun c159 => ?_) (fun c159 => ?_)
      · replace h := h.2 c159
        refine z_iconst dX6_matchPlainly_166 ?_
        exact z_zret dX6_matchPlainly_167 rfl (by decide) h
      · replace h := h.1 c159
        refine z_iconst dX6_matchPlainly_162 ?_
        refine rt_goto (tgt := 167) dX6_matchPlainly_163 (by decide) ?_
        exact z_zret dX6_matchPlainly_167 rfl (by decide) h

def zt_X6_matchPlainly (l : Launch) (s0 : State) (G : va_G) (ca : Nat → ClassId) (d : Nat) (C : Nat × Nat) (S : zS) (w0 : rt_Wd)  (a : Int) (w : Int) (b : Int) (r : Int) (M : zM) (Q : Int → zM → Prop) (X : zM → Prop) : Prop :=
  zSc S a ∧ (zSc S b ∧ (zIf (6 ≤ w32 ((zat M (a + 2) 134 w))) (zIf (w32 ((zat M (a + 2) 134 w)) = w32 ((zat M (b + 2) 134 r))) (zIf (w32 ((zat M (a + 2) 134 w)) = 9) (zt_X6_matchPlainly_106 l s0 G ca d C S w0  a w b r ((zat M (a + 2) 134 w)) M Q X) (zIf (w32 ((zat M (a + 2) 134 w)) = 10) (zt_X6_matchPlainly_106 l s0 G ca d C S w0  a w b r ((zat M (a + 2) 134 w)) M Q X) (zIf (w32 ((zat M (a + 2) 134 w)) = 11) (zt_X6_matchPlainly_106 l s0 G ca d C S w0  a w b r ((zat M (a + 2) 134 w)) M Q X) (Q 0 M)))) (Q 0 M)) (zIf (w32 ((zat M (a + 2) 134 w)) = w32 ((zat M (b + 2) 134 r))) (Q 1 M) (zIf (w32 ((zat M (a + 2) 134 w)) = 2) (zIf (w32 ((zat M (b + 2) 134 r)) = 3) (Q 1 M) (zt_X6_matchPlainly_46 l s0 G ca d C S w0  ((zat M (a + 2) 134 w)) ((zat M (b + 2) 134 r)) M Q X)) (zt_X6_matchPlainly_46 l s0 G ca d C S w0  ((zat M (a + 2) 134 w)) ((zat M (b + 2) 134 r)) M Q X)))))
set_option maxRecDepth 100000 in
theorem z_X6_matchPlainly {l : Launch} {s0 : State} {a0 : Array Value} {G : va_G} {ca : Nat → ClassId} (Γ : rt_Γ l s0 a0 G ca) {d : Nat} {C : Nat × Nat} {S : zS} (hd : 1 ≤ d) (hok : zok C)   {a : Int} {w : Int} {b : Int} {r : Int} {M : zM} {Q : Int → zM → Prop} {X : zM → Prop} (h : zt_X6_matchPlainly l s0 G ca d C S (zw s0 ca C S M)  a w b r M Q X) : zm_X6_matchPlainly l s0 G ca d C S  a w b r M Q X := by
  refine z_met (lv := [(0, zv s0 2 a), (1, zv s0 0 w), (2, zv s0 2 b), (3, zv s0 0 r)]) Γ kk_X6_matchPlainly rfl (show (lg_sl [zv s0 2 a, zv s0 0 w, zv s0 2 b, zv s0 0 r]).length ≤ 6 from by simp only [zn_0, zn_2, show (lg_sl []).length = 0 from rfl]; omega) (show lv_args 0 [zv s0 2 a, zv s0 0 w, zv s0 2 b, zv s0 0 r] = [(0, zv s0 2 a), (1, zv s0 0 w), (2, zv s0 2 b), (3, zv s0 0 r)] from by rw [zl_2, zl_0, zl_2, zl_0]; rfl) ?_
  unfold zt_X6_matchPlainly at h
  refine z_aload_n dX6_matchPlainly_0 rfl (j := 0) rfl ?_
  obtain ⟨hk0, h⟩ := h
  refine z_getc Γ kf_RX6_16 dX6_matchPlainly_1 hk0.1 hk0.2.1 rfl ?_
  refine z_iload_n dX6_matchPlainly_4 rfl (j := 1) rfl ?_
  refine z_callV Γ kk_X0_at kc_RX6_72 (As := [zv s0 0 w]) (k_X0_at (d := d - 1) Γ hok (hk0.2.2.1 : zCe S (a + 1) (a + 2) 134) (M := M) (Q := fun v9 M9 => v9 = (zat M (a + 2) 134 w) ∧ M9 = M) (X := X) (show _ ∧ _ from ⟨rfl, rfl⟩)) (by omega) (by decide) (show (parseMethodDescriptor yX0_at.desc).map (fun q => q.parameters.length) = some 1 by decide +kernel) hok (Nat.zero_le _) dX6_matchPlainly_5 (hk0.2.2.1 : zCe S (a + 1) (a + 2) 134).1 (hk0.2.2.1 : zCe S (a + 1) (a + 2) 134).2.2.2.1 rfl rfl (fun _ h9 => nomatch h9) ?_
  rintro v9 M9 ⟨e9, e8⟩
  rw [e9, e8]
  clear e9 e8 v9 M9
  show rt_Go _ _ _ _ _ _ _ _ _ _ _ _ 8 [(0, zv s0 2 a), (1, zv s0 0 w), (2, zv s0 2 b), (3, zv s0 0 r)] [zv s0 0 ((zat M (a + 2) 134 w))] (zw s0 ca C S M)
  refine z_istore (i := 4) (lv' := [(4, zv s0 0 ((zat M (a + 2) 134 w))), (0, zv s0 2 a), (1, zv s0 0 w), (2, zv s0 2 b), (3, zv s0 0 r)]) dX6_matchPlainly_8 (by decide) (by simp [zv_cat0, zv_cat1, zv_cat2, zv_cats]) ?_
  refine z_aload_n dX6_matchPlainly_10 rfl (j := 3) rfl ?_
  obtain ⟨hk1, h⟩ := h
  refine z_getc Γ kf_RX6_16 dX6_matchPlainly_11 hk1.1 hk1.2.1 rfl ?_
  refine z_iload_n dX6_matchPlainly_14 rfl (j := 4) rfl ?_
  refine z_callV Γ kk_X0_at kc_RX6_72 (As := [zv s0 0 r]) (k_X0_at (d := d - 1) Γ hok (hk1.2.2.1 : zCe S (b + 1) (b + 2) 134) (M := M) (Q := fun v9 M9 => v9 = (zat M (b + 2) 134 r) ∧ M9 = M) (X := X) (show _ ∧ _ from ⟨rfl, rfl⟩)) (by omega) (by decide) (show (parseMethodDescriptor yX0_at.desc).map (fun q => q.parameters.length) = some 1 by decide +kernel) hok (Nat.zero_le _) dX6_matchPlainly_15 (hk1.2.2.1 : zCe S (b + 1) (b + 2) 134).1 (hk1.2.2.1 : zCe S (b + 1) (b + 2) 134).2.2.2.1 rfl rfl (fun _ h9 => nomatch h9) ?_
  rintro v9 M9 ⟨e9, e8⟩
  rw [e9, e8]
  clear e9 e8 v9 M9
  show rt_Go _ _ _ _ _ _ _ _ _ _ _ _ 18 [(4, zv s0 0 ((zat M (a + 2) 134 w))), (0, zv s0 2 a), (1, zv s0 0 w), (2, zv s0 2 b), (3, zv s0 0 r)] [zv s0 0 ((zat M (b + 2) 134 r))] (zw s0 ca C S M)
  refine z_istore (i := 5) (lv' := [(5, zv s0 0 ((zat M (b + 2) 134 r))), (4, zv s0 0 ((zat M (a + 2) 134 w))), (0, zv s0 2 a), (1, zv s0 0 w), (2, zv s0 2 b), (3, zv s0 0 r)]) dX6_matchPlainly_18 (by decide) (by simp [zv_cat0, zv_cat1, zv_cat2, zv_cats]) ?_
  refine z_iload dX6_matchPlainly_20 (j := 1) rfl ?_
  refine z_bipush dX6_matchPlainly_22 (by decide) ?_
  refine z_icmp_ge (tgt := 76) (x' := w32 ((zat M (a + 2) 134 w))) (y' := 6) rfl (by decide) dX6_matchPlainly_24 (by decide) (fun c24 => ?_) (fun c24 => ?_)
  · replace h := h.1 c24
    refine z_iload dX6_matchPlainly_76 (j := 1) rfl ?_
    refine z_iload dX6_matchPlainly_78 (j := 0) rfl ?_
    refine z_icmp_ne (tgt := 104) (x' := w32 ((zat M (a + 2) 134 w))) (y' := w32 ((zat M (b + 2) 134 r))) rfl rfl dX6_matchPlainly_80 (by decide) (fun c80 => ?_) (fun c80 => ?_)
    · replace h := h.2 c80
      refine z_iconst dX6_matchPlainly_104 ?_
      exact z_zret dX6_matchPlainly_105 rfl (by decide) h
    · replace h := h.1 c80
      refine z_iload dX6_matchPlainly_83 (j := 1) rfl ?_
      refine z_bipush dX6_matchPlainly_85 (by decide) ?_
      refine z_icmp_eq (tgt := 106) (x' := w32 ((zat M (a + 2) 134 w))) (y' := 9) rfl (by decide) dX6_matchPlainly_87 (by decide) (fun c87 => ?_) (fun c87 => ?_)
      · replace h := h.1 c87
        exact rt_lfew [2, 3, 4, 5, 1] rfl (zs_X6_matchPlainly_106 Γ hd hok   h)
      · replace h := h.2 c87
        refine z_iload dX6_matchPlainly_90 (j := 1) rfl ?_
        refine z_bipush dX6_matchPlainly_92 (by decide) ?_
        refine z_icmp_eq (tgt := 106) (x' := w32 ((zat M (a + 2) 134 w))) (y' := 10) rfl (by decide) dX6_matchPlainly_94 (by decide) (fun c94 => ?_) (fun c94 => ?_)
        · replace h := h.1 c94
          exact rt_lfew [2, 3, 4, 5, 1] rfl (zs_X6_matchPlainly_106 Γ hd hok   h)
        · replace h := h.2 c94
          refine z_iload dX6_matchPlainly_97 (j := 1) rfl ?_
          refine z_bipush dX6_matchPlainly_99 (by decide) ?_
          refine z_icmp_eq (tgt := 106) (x' := w32 ((zat M (a + 2) 134 w))) (y' := 11) rfl (by decide) dX6_matchPlainly_101 (by decide) (fun c101 => ?_) (fun c101 => ?_)
          · replace h := h.1 c101
            exact rt_lfew [2, 3, 4, 5, 1] rfl (zs_X6_matchPlainly_106 Γ hd hok   h)
          · replace h := h.2 c101
            refine z_iconst dX6_matchPlainly_104 ?_
            exact z_zret dX6_matchPlainly_105 rfl (by decide) h
  · replace h := h.2 c24
    refine z_iload dX6_matchPlainly_27 (j := 1) rfl ?_
    refine z_iload dX6_matchPlainly_29 (j := 0) rfl ?_
    refine z_icmp_eq (tgt := 70) (x' := w32 ((zat M (a + 2) 134 w))) (y' := w32 ((zat M (b + 2) 134 r))) rfl rfl dX6_matchPlainly_31 (by decide) (fun c31 => ?_) (fun c31 => ?_)
    · replace h := h.1 c31
      refine z_iconst dX6_matchPlainly_70 ?_
      refine rt_goto (tgt := 75) dX6_matchPlainly_71 (by decide) ?_
      exact z_zret dX6_matchPlainly_75 rfl (by decide) h
    · replace h := h.2 c31
      refine z_iload dX6_matchPlainly_34 (j := 1) rfl ?_
      refine z_iconst dX6_matchPlainly_36 ?_
      refine z_icmp_ne (tgt := 46) (x' := w32 ((zat M (a + 2) 134 w))) (y' := 2) rfl (by decide) dX6_matchPlainly_37 (by decide) (fun c37 => ?_) (fun c37 => ?_)
      · replace h := h.2 c37
        exact rt_lfew [1, 0] rfl (zs_X6_matchPlainly_46 Γ hd hok   h)
      · replace h := h.1 c37
        refine z_iload dX6_matchPlainly_40 (j := 0) rfl ?_
        refine z_iconst dX6_matchPlainly_42 ?_
        refine z_icmp_eq (tgt := 70) (x' := w32 ((zat M (b + 2) 134 r))) (y' := 3) rfl (by decide) dX6_matchPlainly_43 (by decide) (fun c43 => ?_) (fun c43 => ?_)
        · replace h := h.1 c43
          refine z_iconst dX6_matchPlainly_70 ?_
          refine rt_goto (tgt := 75) dX6_matchPlainly_71 (by decide) ?_
          exact z_zret dX6_matchPlainly_75 rfl (by decide) h
        · replace h := h.2 c43
          exact rt_lfew [1, 0] rfl (zs_X6_matchPlainly_46 Γ hd hok   h)

abbrev zg_X6_match_9 (l : Launch) (s0 : State) (G : va_G) (ca : Nat → ClassId) (d : Nat) (C : Nat × Nat) (S : zS) (w0 : rt_Wd)  (v0 : Int) (v2 : Int) (v4 : Int) (v5 : Int) (v6 : Int)  (M : zM) (Q : Int → zM → Prop) (X : zM → Prop) : Prop := rt_Go l s0 G RX6 "match" cX6_match 8 (Option.some FieldType.boolean) [] d w0 (zQ s0 ca 0 C S Q X) 9 [(0, zv s0 2 v0), (2, zv s0 2 v2), (4, zv s0 0 v4), (5, zv s0 0 v5), (6, zv s0 0 v6)] [] (zw s0 ca C S M)
abbrev zg_X6_match_59 (l : Launch) (s0 : State) (G : va_G) (ca : Nat → ClassId) (d : Nat) (C : Nat × Nat) (S : zS) (w0 : rt_Wd)  (v0 : Int) (v2 : Int) (v4 : Int) (v5 : Int) (v6 : Int) (v7 : Int)  (M : zM) (Q : Int → zM → Prop) (X : zM → Prop) : Prop := rt_Go l s0 G RX6 "match" cX6_match 8 (Option.some FieldType.boolean) [] d w0 (zQ s0 ca 0 C S Q X) 59 [(0, zv s0 2 v0), (2, zv s0 2 v2), (4, zv s0 0 v4), (5, zv s0 0 v5), (6, zv s0 0 v6), (7, zv s0 0 v7)] [] (zw s0 ca C S M)
def zt_X6_match_59 (l : Launch) (s0 : State) (G : va_G) (ca : Nat → ClassId) (d : Nat) (C : Nat × Nat) (S : zS) (w0 : rt_Wd)  (v0 : Int) (v2 : Int) (v4 : Int) (v5 : Int) (v6 : Int) (v7 : Int)  (M : zM) (Q : Int → zM → Prop) (X : zM → Prop) : Prop :=
  zSc S v2 ∧ (zIf (w32 (((zat M (v2 + 2) 134 v5))) = w32 v7) (zSc S v0 ∧ (zg_X6_match_9 l s0 G ca d C S w0  v0 v2 (((zat M (v0 + 6) 134 v4))) (((zat M (v2 + 6) 134 v5))) (v6 + 1) M Q X)) (zm_X6_matchPlainly l s0 G ca (d - 1) C S v0 v4 v2 v5 M (fun r76 M76 => (r76 = 0 ∨ r76 = 1) ∧ Q r76 M76) X))
set_option maxRecDepth 100000 in
theorem zs_X6_match_59 {l : Launch} {s0 : State} {a0 : Array Value} {G : va_G} {ca : Nat → ClassId} (Γ : rt_Γ l s0 a0 G ca) {d : Nat} {C : Nat × Nat} {S : zS} (hd : 2 ≤ d) (hok : zok C)   {w0 : rt_Wd} {v0 : Int} {v2 : Int} {v4 : Int} {v5 : Int} {v6 : Int} {v7 : Int}   {M : zM} {Q : Int → zM → Prop} {X : zM → Prop} (h : zt_X6_match_59 l s0 G ca d C S w0  v0 v2 v4 v5 v6 v7 M Q X) : zg_X6_match_59 l s0 G ca d C S w0  v0 v2 v4 v5 v6 v7 M Q X := by
  unfold zt_X6_match_59 at h
  refine z_aload_n dX6_match_59 rfl (j := 1) rfl ?_
  refine z_iload dX6_match_60 (j := 3) rfl ?_
  obtain ⟨hk0, h⟩ := h
  refine z_callV Γ kk_X6_kind kc_RX6_84 (As := [zv s0 0 v5]) (z_X6_kind (d := d - 1) Γ (by omega) hok hk0 (M := M) (Q := fun v9 M9 => v9 = ((zat M (v2 + 2) 134 v5)) ∧ M9 = M) (X := X) (show _ ∧ _ from ⟨rfl, rfl⟩)) (by omega) (by decide) (show (parseMethodDescriptor yX6_kind.desc).map (fun q => q.parameters.length) = some 1 by decide +kernel) hok (Nat.zero_le _) dX6_match_62 hk0.1 hk0.2.1 rfl rfl (fun _ h9 => nomatch h9) ?_
  rintro v9 M9 ⟨e9, e8⟩
  rw [e9, e8]
  clear e9 e8 v9 M9
  show rt_Go _ _ _ _ _ _ _ _ _ _ _ _ 65 [(0, zv s0 2 v0), (2, zv s0 2 v2), (4, zv s0 0 v4), (5, zv s0 0 v5), (6, zv s0 0 v6), (7, zv s0 0 v7)] [zv s0 0 (((zat M (v2 + 2) 134 v5)))] (zw s0 ca C S M)
  refine z_iload dX6_match_65 (j := 5) rfl ?_
  refine z_icmp_eq (tgt := 80) (x' := w32 (((zat M (v2 + 2) 134 v5)))) (y' := w32 v7) rfl rfl dX6_match_67 (by decide) (fun c67 => ?_) (fun c67 => ?_)
  · replace h := h.1 c67
    refine z_aload_n dX6_match_80 rfl (j := 0) rfl ?_
    refine z_iload dX6_match_81 (j := 2) rfl ?_
    obtain ⟨hk1, h⟩ := h
    refine z_callV Γ kk_X6_item kc_RX6_90 (As := [zv s0 0 v4]) (z_X6_item (d := d - 1) Γ (by omega) hok hk1 (M := M) (Q := fun v9 M9 => v9 = ((zat M (v0 + 6) 134 v4)) ∧ M9 = M) (X := X) (show _ ∧ _ from ⟨rfl, rfl⟩)) (by omega) (by decide) (show (parseMethodDescriptor yX6_item.desc).map (fun q => q.parameters.length) = some 1 by decide +kernel) hok (Nat.zero_le _) dX6_match_83 hk1.1 hk1.2.1 rfl rfl (fun _ h9 => nomatch h9) ?_
    rintro v9 M9 ⟨e9, e8⟩
    rw [e9, e8]
    clear e9 e8 v9 M9
    show rt_Go _ _ _ _ _ _ _ _ _ _ _ _ 86 [(0, zv s0 2 v0), (2, zv s0 2 v2), (4, zv s0 0 v4), (5, zv s0 0 v5), (6, zv s0 0 v6), (7, zv s0 0 v7)] [zv s0 0 (((zat M (v0 + 6) 134 v4)))] (zw s0 ca C S M)
    refine z_istore (i := 4) (lv' := [(4, zv s0 0 (((zat M (v0 + 6) 134 v4)))), (0, zv s0 2 v0), (2, zv s0 2 v2), (5, zv s0 0 v5), (6, zv s0 0 v6), (7, zv s0 0 v7)]) dX6_match_86 (by decide) (by simp [zv_cat0, zv_cat1, zv_cat2, zv_cats]) ?_
    refine z_aload_n dX6_match_88 rfl (j := 2) rfl ?_
    refine z_iload dX6_match_89 (j := 3) rfl ?_
    refine z_callV Γ kk_X6_item kc_RX6_90 (As := [zv s0 0 v5]) (z_X6_item (d := d - 1) Γ (by omega) hok hk0 (M := M) (Q := fun v9 M9 => v9 = ((zat M (v2 + 6) 134 v5)) ∧ M9 = M) (X := X) (show _ ∧ _ from ⟨rfl, rfl⟩)) (by omega) (by decide) (show (parseMethodDescriptor yX6_item.desc).map (fun q => q.parameters.length) = some 1 by decide +kernel) hok (Nat.zero_le _) dX6_match_91 hk0.1 hk0.2.1 rfl rfl (fun _ h9 => nomatch h9) ?_
    rintro v9 M9 ⟨e9, e8⟩
    rw [e9, e8]
    clear e9 e8 v9 M9
    show rt_Go _ _ _ _ _ _ _ _ _ _ _ _ 94 [(4, zv s0 0 (((zat M (v0 + 6) 134 v4)))), (0, zv s0 2 v0), (2, zv s0 2 v2), (5, zv s0 0 v5), (6, zv s0 0 v6), (7, zv s0 0 v7)] [zv s0 0 (((zat M (v2 + 6) 134 v5)))] (zw s0 ca C S M)
    refine z_istore (i := 5) (lv' := [(5, zv s0 0 (((zat M (v2 + 6) 134 v5)))), (4, zv s0 0 (((zat M (v0 + 6) 134 v4)))), (0, zv s0 2 v0), (2, zv s0 2 v2), (6, zv s0 0 v6), (7, zv s0 0 v7)]) dX6_match_94 (by decide) (by simp [zv_cat0, zv_cat1, zv_cat2, zv_cats]) ?_
    refine z_iinc (lv' := [(6, zv s0 0 (v6 + 1)), (5, zv s0 0 (((zat M (v2 + 6) 134 v5)))), (4, zv s0 0 (((zat M (v0 + 6) 134 v4)))), (0, zv s0 2 v0), (2, zv s0 2 v2), (7, zv s0 0 v7)]) dX6_match_96 (j := 4) rfl (by decide) (by simp [zv_cat0, zv_cat1, zv_cat2, zv_cats]) ?_
    refine rt_goto (tgt := 9) dX6_match_99 (by decide) ?_
    exact rt_lfew [3, 4, 2, 1, 0] rfl h
  · replace h := h.2 c67
    refine z_aload_n dX6_match_70 rfl (j := 0) rfl ?_
    refine z_iload dX6_match_71 (j := 2) rfl ?_
    refine z_aload_n dX6_match_73 rfl (j := 1) rfl ?_
    refine z_iload dX6_match_74 (j := 3) rfl ?_
    refine z_callS Γ kk_X6_matchPlainly kc_RX6_86 (As := [zv s0 2 v0, zv s0 0 v4, zv s0 2 v2, zv s0 0 v5]) h (by omega) (by decide) (show (parseMethodDescriptor yX6_matchPlainly.desc).map (fun q => q.parameters.length) = some 4 by decide +kernel) hok (Nat.zero_le _) dX6_match_76 rfl (fun _ h9 => nomatch h9) ?_
    clear h
    intro r76 M76 h
    show rt_Go _ _ _ _ _ _ _ _ _ _ _ _ 79 [(0, zv s0 2 v0), (2, zv s0 2 v2), (4, zv s0 0 v4), (5, zv s0 0 v5), (6, zv s0 0 v6), (7, zv s0 0 v7)] [zv s0 0 r76] (zw s0 ca C S M76)
    obtain ⟨hi9, h⟩ := h
    exact z_zret dX6_match_79 rfl hi9 h

def zt_X6_match_9 (l : Launch) (s0 : State) (G : va_G) (ca : Nat → ClassId) (d : Nat) (C : Nat × Nat) (S : zS) (w0 : rt_Wd)  (v0 : Int) (v2 : Int) (v4 : Int) (v5 : Int) (v6 : Int)  (M : zM) (Q : Int → zM → Prop) (X : zM → Prop) : Prop :=
  zIf (134 ≤ w32 v6) (Q 0 M) (zSc S v0 ∧ (zIf (w32 (((zat M (v0 + 2) 134 v4))) = 8) (Q 1 M) (zSc S v2 ∧ (zIf (w32 (((zat M (v2 + 2) 134 v5))) = 8) (Q 1 M) (zIf (w32 (((zat M (v0 + 2) 134 v4))) = 6) (zt_X6_match_59 l s0 G ca d C S w0  v0 v2 v4 v5 v6 (((zat M (v0 + 2) 134 v4))) M Q X) (zIf (w32 (((zat M (v0 + 2) 134 v4))) = 7) (zt_X6_match_59 l s0 G ca d C S w0  v0 v2 v4 v5 v6 (((zat M (v0 + 2) 134 v4))) M Q X) (zm_X6_matchPlainly l s0 G ca (d - 1) C S v0 v4 v2 v5 M (fun r76 M76 => (r76 = 0 ∨ r76 = 1) ∧ Q r76 M76) X)))))))
set_option maxRecDepth 100000 in
theorem zs_X6_match_9 {l : Launch} {s0 : State} {a0 : Array Value} {G : va_G} {ca : Nat → ClassId} (Γ : rt_Γ l s0 a0 G ca) {d : Nat} {C : Nat × Nat} {S : zS} (hd : 2 ≤ d) (hok : zok C)   {w0 : rt_Wd} {v0 : Int} {v2 : Int} {v4 : Int} {v5 : Int} {v6 : Int}   {M : zM} {Q : Int → zM → Prop} {X : zM → Prop} (h : zt_X6_match_9 l s0 G ca d C S w0  v0 v2 v4 v5 v6 M Q X) : zg_X6_match_9 l s0 G ca d C S w0  v0 v2 v4 v5 v6 M Q X := by
  unfold zt_X6_match_9 at h
  refine z_iload dX6_match_9 (j := 4) rfl ?_
  refine z_sipush dX6_match_11 (by decide) ?_
  refine z_icmp_ge (tgt := 102) (x' := w32 v6) (y' := 134) rfl (by decide) dX6_match_14 (by decide) (fun c14 => ?_) (fun c14 => ?_)
  · replace h := h.1 c14
    refine z_iconst dX6_match_102 ?_
    exact z_zret dX6_match_103 rfl (by decide) h
  · replace h := h.2 c14
    refine z_aload_n dX6_match_17 rfl (j := 0) rfl ?_
    refine z_iload dX6_match_18 (j := 2) rfl ?_
    obtain ⟨hk0, h⟩ := h
    refine z_callV Γ kk_X6_kind kc_RX6_84 (As := [zv s0 0 v4]) (z_X6_kind (d := d - 1) Γ (by omega) hok hk0 (M := M) (Q := fun v9 M9 => v9 = ((zat M (v0 + 2) 134 v4)) ∧ M9 = M) (X := X) (show _ ∧ _ from ⟨rfl, rfl⟩)) (by omega) (by decide) (show (parseMethodDescriptor yX6_kind.desc).map (fun q => q.parameters.length) = some 1 by decide +kernel) hok (Nat.zero_le _) dX6_match_20 hk0.1 hk0.2.1 rfl rfl (fun _ h9 => nomatch h9) ?_
    rintro v9 M9 ⟨e9, e8⟩
    rw [e9, e8]
    clear e9 e8 v9 M9
    show rt_Go _ _ _ _ _ _ _ _ _ _ _ _ 23 [(0, zv s0 2 v0), (2, zv s0 2 v2), (4, zv s0 0 v4), (5, zv s0 0 v5), (6, zv s0 0 v6)] [zv s0 0 (((zat M (v0 + 2) 134 v4)))] (zw s0 ca C S M)
    refine z_istore (i := 7) (lv' := [(7, zv s0 0 (((zat M (v0 + 2) 134 v4)))), (0, zv s0 2 v0), (2, zv s0 2 v2), (4, zv s0 0 v4), (5, zv s0 0 v5), (6, zv s0 0 v6)]) dX6_match_23 (by decide) (by simp [zv_cat0, zv_cat1, zv_cat2, zv_cats]) ?_
    refine z_iload dX6_match_25 (j := 0) rfl ?_
    refine z_bipush dX6_match_27 (by decide) ?_
    refine z_icmp_eq (tgt := 43) (x' := w32 (((zat M (v0 + 2) 134 v4)))) (y' := 8) rfl (by decide) dX6_match_29 (by decide) (fun c29 => ?_) (fun c29 => ?_)
    · replace h := h.1 c29
      refine z_iconst dX6_match_43 ?_
      exact z_zret dX6_match_44 rfl (by decide) h
    · replace h := h.2 c29
      refine z_aload_n dX6_match_32 rfl (j := 2) rfl ?_
      refine z_iload dX6_match_33 (j := 4) rfl ?_
      obtain ⟨hk1, h⟩ := h
      refine z_callV Γ kk_X6_kind kc_RX6_84 (As := [zv s0 0 v5]) (z_X6_kind (d := d - 1) Γ (by omega) hok hk1 (M := M) (Q := fun v9 M9 => v9 = ((zat M (v2 + 2) 134 v5)) ∧ M9 = M) (X := X) (show _ ∧ _ from ⟨rfl, rfl⟩)) (by omega) (by decide) (show (parseMethodDescriptor yX6_kind.desc).map (fun q => q.parameters.length) = some 1 by decide +kernel) hok (Nat.zero_le _) dX6_match_35 hk1.1 hk1.2.1 rfl rfl (fun _ h9 => nomatch h9) ?_
      rintro v9 M9 ⟨e9, e8⟩
      rw [e9, e8]
      clear e9 e8 v9 M9
      show rt_Go _ _ _ _ _ _ _ _ _ _ _ _ 38 [(7, zv s0 0 (((zat M (v0 + 2) 134 v4)))), (0, zv s0 2 v0), (2, zv s0 2 v2), (4, zv s0 0 v4), (5, zv s0 0 v5), (6, zv s0 0 v6)] [zv s0 0 (((zat M (v2 + 2) 134 v5)))] (zw s0 ca C S M)
      refine z_bipush dX6_match_38 (by decide) ?_
      refine z_icmp_ne (tgt := 45) (x' := w32 (((zat M (v2 + 2) 134 v5)))) (y' := 8) rfl (by decide) dX6_match_40 (by decide) (fun c40 => ?_) (fun c40 => ?_)
      · replace h := h.2 c40
        refine z_iload dX6_match_45 (j := 0) rfl ?_
        refine z_bipush dX6_match_47 (by decide) ?_
        refine z_icmp_eq (tgt := 59) (x' := w32 (((zat M (v0 + 2) 134 v4)))) (y' := 6) rfl (by decide) dX6_match_49 (by decide) (fun c49 => ?_) (fun c49 => ?_)
        · replace h := h.1 c49
          exact rt_lfew [1, 2, 3, 4, 5, 0] rfl (zs_X6_match_59 Γ hd hok   h)
        · replace h := h.2 c49
          refine z_iload dX6_match_52 (j := 0) rfl ?_
          refine z_bipush dX6_match_54 (by decide) ?_
          refine z_icmp_ne (tgt := 70) (x' := w32 (((zat M (v0 + 2) 134 v4)))) (y' := 7) rfl (by decide) dX6_match_56 (by decide) (fun c56 => ?_) (fun c56 => ?_)
          · replace h := h.2 c56
            refine z_aload_n dX6_match_70 rfl (j := 1) rfl ?_
            refine z_iload dX6_match_71 (j := 3) rfl ?_
            refine z_aload_n dX6_match_73 rfl (j := 2) rfl ?_
            refine z_iload dX6_match_74 (j := 4) rfl ?_
            refine z_callS Γ kk_X6_matchPlainly kc_RX6_86 (As := [zv s0 2 v0, zv s0 0 v4, zv s0 2 v2, zv s0 0 v5]) h (by omega) (by decide) (show (parseMethodDescriptor yX6_matchPlainly.desc).map (fun q => q.parameters.length) = some 4 by decide +kernel) hok (Nat.zero_le _) dX6_match_76 rfl (fun _ h9 => nomatch h9) ?_
            clear h
            intro r76 M76 h
            show rt_Go _ _ _ _ _ _ _ _ _ _ _ _ 79 [(7, zv s0 0 (((zat M (v0 + 2) 134 v4)))), (0, zv s0 2 v0), (2, zv s0 2 v2), (4, zv s0 0 v4), (5, zv s0 0 v5), (6, zv s0 0 v6)] [zv s0 0 r76] (zw s0 ca C S M76)
            obtain ⟨hi9, h⟩ := h
            exact z_zret dX6_match_79 rfl hi9 h
          · replace h := h.1 c56
            exact rt_lfew [1, 2, 3, 4, 5, 0] rfl (zs_X6_match_59 Γ hd hok   h)
      · replace h := h.1 c40
        refine z_iconst dX6_match_43 ?_
        exact z_zret dX6_match_44 rfl (by decide) h

def zt_X6_match (l : Launch) (s0 : State) (G : va_G) (ca : Nat → ClassId) (d : Nat) (C : Nat × Nat) (S : zS) (w0 : rt_Wd)  (a : Int) (w : Int) (b : Int) (r : Int) (M : zM) (Q : Int → zM → Prop) (X : zM → Prop) : Prop :=
  zg_X6_match_9 l s0 G ca d C S w0  a b w r 0 M Q X
set_option maxRecDepth 100000 in
theorem z_X6_match {l : Launch} {s0 : State} {a0 : Array Value} {G : va_G} {ca : Nat → ClassId} (Γ : rt_Γ l s0 a0 G ca) {d : Nat} {C : Nat × Nat} {S : zS} (hd : 2 ≤ d) (hok : zok C)   {a : Int} {w : Int} {b : Int} {r : Int} {M : zM} {Q : Int → zM → Prop} {X : zM → Prop} (h : zt_X6_match l s0 G ca d C S (zw s0 ca C S M)  a w b r M Q X) : zm_X6_match l s0 G ca d C S  a w b r M Q X := by
  refine z_met (lv := [(0, zv s0 2 a), (1, zv s0 0 w), (2, zv s0 2 b), (3, zv s0 0 r)]) Γ kk_X6_match rfl (show (lg_sl [zv s0 2 a, zv s0 0 w, zv s0 2 b, zv s0 0 r]).length ≤ 8 from by simp only [zn_0, zn_2, show (lg_sl []).length = 0 from rfl]; omega) (show lv_args 0 [zv s0 2 a, zv s0 0 w, zv s0 2 b, zv s0 0 r] = [(0, zv s0 2 a), (1, zv s0 0 w), (2, zv s0 2 b), (3, zv s0 0 r)] from by rw [zl_2, zl_0, zl_2, zl_0]; rfl) ?_
  unfold zt_X6_match at h
  refine z_iload_n dX6_match_0 rfl (j := 1) rfl ?_
  refine z_istore (i := 4) (lv' := [(4, zv s0 0 w), (0, zv s0 2 a), (1, zv s0 0 w), (2, zv s0 2 b), (3, zv s0 0 r)]) dX6_match_1 (by decide) (by simp [zv_cat0, zv_cat1, zv_cat2, zv_cats]) ?_
  refine z_iload_n dX6_match_3 rfl (j := 4) rfl ?_
  refine z_istore (i := 5) (lv' := [(5, zv s0 0 r), (4, zv s0 0 w), (0, zv s0 2 a), (1, zv s0 0 w), (2, zv s0 2 b), (3, zv s0 0 r)]) dX6_match_4 (by decide) (by simp [zv_cat0, zv_cat1, zv_cat2, zv_cats]) ?_
  refine z_iconst dX6_match_6 ?_
  refine z_istore (i := 6) (lv' := [(6, zv s0 0 0), (5, zv s0 0 r), (4, zv s0 0 w), (0, zv s0 2 a), (1, zv s0 0 w), (2, zv s0 2 b), (3, zv s0 0 r)]) dX6_match_7 (by decide) (by simp [zv_cat0, zv_cat1, zv_cat2, zv_cats]) ?_
  exact rt_lfew [3, 5, 2, 1, 0] rfl h

abbrev zg_X6_firstMatch_3 (l : Launch) (s0 : State) (G : va_G) (ca : Nat → ClassId) (d : Nat) (C : Nat × Nat) (S : zS) (w0 : rt_Wd)  (v0 : Int) (v1 : Int) (v2 : Int) (v3 : Int) (v4 : Int)  (M : zM) (Q : Int → zM → Prop) (X : zM → Prop) : Prop := rt_Go l s0 G RX6 "firstMatch" cX6_firstMatch 5 (Option.some FieldType.int) [] d w0 (zQ s0 ca 0 C S Q X) 3 [(0, zv s0 2 v0), (1, zv s0 0 v1), (2, zv s0 2 v2), (3, zv s0 0 v3), (4, zv s0 0 v4)] [] (zw s0 ca C S M)
def zt_X6_firstMatch_3 (l : Launch) (s0 : State) (G : va_G) (ca : Nat → ClassId) (d : Nat) (C : Nat × Nat) (S : zS) (w0 : rt_Wd)  (v0 : Int) (v1 : Int) (v2 : Int) (v3 : Int) (v4 : Int)  (M : zM) (Q : Int → zM → Prop) (X : zM → Prop) : Prop :=
  zSc S v2 ∧ (zIf (w32 (((zat M (v2 + 12) 134 v3))) ≤ w32 v4) (Q ((-1)) M) (zm_X6_match l s0 G ca (d - 1) C S v0 v1 v2 ((zf_X6_branch M v2 v3 v4)) M (fun r23 M23 => zIf (w32 r23 = 0) (zg_X6_firstMatch_3 l s0 G ca d C S w0  v0 v1 v2 v3 (v4 + 1) M23 Q X) (Q v4 M23)) X))
set_option maxRecDepth 100000 in
theorem zs_X6_firstMatch_3 {l : Launch} {s0 : State} {a0 : Array Value} {G : va_G} {ca : Nat → ClassId} (Γ : rt_Γ l s0 a0 G ca) {d : Nat} {C : Nat × Nat} {S : zS} (hd : 2 ≤ d) (hok : zok C)   {w0 : rt_Wd} {v0 : Int} {v1 : Int} {v2 : Int} {v3 : Int} {v4 : Int}   {M : zM} {Q : Int → zM → Prop} {X : zM → Prop} (h : zt_X6_firstMatch_3 l s0 G ca d C S w0  v0 v1 v2 v3 v4 M Q X) : zg_X6_firstMatch_3 l s0 G ca d C S w0  v0 v1 v2 v3 v4 M Q X := by
  unfold zt_X6_firstMatch_3 at h
  refine z_iload dX6_firstMatch_3 (j := 4) rfl ?_
  refine z_aload_n dX6_firstMatch_5 rfl (j := 2) rfl ?_
  refine z_iload_n dX6_firstMatch_6 rfl (j := 3) rfl ?_
  obtain ⟨hk0, h⟩ := h
  refine z_callV Γ kk_X6_parts kc_RX6_93 (As := [zv s0 0 v3]) (z_X6_parts (d := d - 1) Γ (by omega) hok hk0 (M := M) (Q := fun v9 M9 => v9 = ((zat M (v2 + 12) 134 v3)) ∧ M9 = M) (X := X) (show _ ∧ _ from ⟨rfl, rfl⟩)) (by omega) (by decide) (show (parseMethodDescriptor yX6_parts.desc).map (fun q => q.parameters.length) = some 1 by decide +kernel) hok (by simp only [List.map, zv_cat0, zv_cat1, zv_cat2, List.sum_cons, List.sum_nil]; decide) dX6_firstMatch_7 hk0.1 hk0.2.1 rfl rfl (fun _ h9 => nomatch h9) ?_
  rintro v9 M9 ⟨e9, e8⟩
  rw [e9, e8]
  clear e9 e8 v9 M9
  show rt_Go _ _ _ _ _ _ _ _ _ _ _ _ 10 [(0, zv s0 2 v0), (1, zv s0 0 v1), (2, zv s0 2 v2), (3, zv s0 0 v3), (4, zv s0 0 v4)] [zv s0 0 (((zat M (v2 + 12) 134 v3))), zv s0 0 v4] (zw s0 ca C S M)
  refine z_icmp_ge (tgt := 38) (x' := w32 v4) (y' := w32 (((zat M (v2 + 12) 134 v3)))) rfl rfl dX6_firstMatch_10 (by decide) (fun c10 => ?_) (fun c10 => ?_)
  · replace h := h.1 c10
    refine z_iconst dX6_firstMatch_38 ?_
    exact z_iret dX6_firstMatch_39 rfl h
  · replace h := h.2 c10
    refine z_aload_n dX6_firstMatch_13 rfl (j := 0) rfl ?_
    refine z_iload_n dX6_firstMatch_14 rfl (j := 1) rfl ?_
    refine z_aload_n dX6_firstMatch_15 rfl (j := 2) rfl ?_
    refine z_aload_n dX6_firstMatch_16 rfl (j := 2) rfl ?_
    refine z_iload_n dX6_firstMatch_17 rfl (j := 3) rfl ?_
    refine z_iload dX6_firstMatch_18 (j := 4) rfl ?_
    refine z_callV Γ kk_X6_branch kc_RX6_95 (As := [zv s0 0 v3, zv s0 0 v4]) (k_X6_branch (d := d - 1) Γ (by omega) hok hk0 (M := M) (Q := fun v9 M9 => v9 = (zf_X6_branch M v2 v3 v4) ∧ M9 = M) (X := X) (show _ ∧ _ from ⟨rfl, rfl⟩)) (by omega) (by decide) (show (parseMethodDescriptor yX6_branch.desc).map (fun q => q.parameters.length) = some 2 by decide +kernel) hok (by simp only [List.map, zv_cat0, zv_cat1, zv_cat2, List.sum_cons, List.sum_nil]; decide) dX6_firstMatch_20 hk0.1 hk0.2.1 rfl rfl (fun _ h9 => nomatch h9) ?_
    rintro v9 M9 ⟨e9, e8⟩
    rw [e9, e8]
    clear e9 e8 v9 M9
    show rt_Go _ _ _ _ _ _ _ _ _ _ _ _ 23 [(0, zv s0 2 v0), (1, zv s0 0 v1), (2, zv s0 2 v2), (3, zv s0 0 v3), (4, zv s0 0 v4)] [zv s0 0 ((zf_X6_branch M v2 v3 v4)), zv s0 2 v2, zv s0 0 v1, zv s0 2 v0] (zw s0 ca C S M)
    refine z_callS Γ kk_X6_match kc_RX6_99 (As := [zv s0 2 v0, zv s0 0 v1, zv s0 2 v2, zv s0 0 ((zf_X6_branch M v2 v3 v4))]) h (by omega) (by decide) (show (parseMethodDescriptor yX6_match.desc).map (fun q => q.parameters.length) = some 4 by decide +kernel) hok (Nat.zero_le _) dX6_firstMatch_23 rfl (fun _ h9 => nomatch h9) ?_
    clear h
    intro r23 M23 h
    show rt_Go _ _ _ _ _ _ _ _ _ _ _ _ 26 [(0, zv s0 2 v0), (1, zv s0 0 v1), (2, zv s0 2 v2), (3, zv s0 0 v3), (4, zv s0 0 v4)] [zv s0 0 r23] (zw s0 ca C S M23)
    refine z_if_eq (tgt := 32) (x' := w32 r23) rfl dX6_firstMatch_26 (by decide) (fun c26 => ?_) (fun c26 => ?_)
    · replace h := h.1 c26
      refine z_iinc (lv' := [(4, zv s0 0 (v4 + 1)), (0, zv s0 2 v0), (1, zv s0 0 v1), (2, zv s0 2 v2), (3, zv s0 0 v3)]) dX6_firstMatch_32 (j := 4) rfl (by decide) (by simp [zv_cat0, zv_cat1, zv_cat2, zv_cats]) ?_
      refine rt_goto (tgt := 3) dX6_firstMatch_35 (by decide) ?_
      exact rt_lfew [1, 2, 3, 4, 0] rfl h
    · replace h := h.2 c26
      refine z_iload dX6_firstMatch_29 (j := 4) rfl ?_
      exact z_iret dX6_firstMatch_31 rfl h

def zt_X6_firstMatch (l : Launch) (s0 : State) (G : va_G) (ca : Nat → ClassId) (d : Nat) (C : Nat × Nat) (S : zS) (w0 : rt_Wd)  (a : Int) (w : Int) (b : Int) (r : Int) (M : zM) (Q : Int → zM → Prop) (X : zM → Prop) : Prop :=
  zg_X6_firstMatch_3 l s0 G ca d C S w0  a w b r 0 M Q X
set_option maxRecDepth 100000 in
theorem z_X6_firstMatch {l : Launch} {s0 : State} {a0 : Array Value} {G : va_G} {ca : Nat → ClassId} (Γ : rt_Γ l s0 a0 G ca) {d : Nat} {C : Nat × Nat} {S : zS} (hd : 2 ≤ d) (hok : zok C)   {a : Int} {w : Int} {b : Int} {r : Int} {M : zM} {Q : Int → zM → Prop} {X : zM → Prop} (h : zt_X6_firstMatch l s0 G ca d C S (zw s0 ca C S M)  a w b r M Q X) : zm_X6_firstMatch l s0 G ca d C S  a w b r M Q X := by
  refine z_met (lv := [(0, zv s0 2 a), (1, zv s0 0 w), (2, zv s0 2 b), (3, zv s0 0 r)]) Γ kk_X6_firstMatch rfl (show (lg_sl [zv s0 2 a, zv s0 0 w, zv s0 2 b, zv s0 0 r]).length ≤ 5 from by simp only [zn_0, zn_2, show (lg_sl []).length = 0 from rfl]; omega) (show lv_args 0 [zv s0 2 a, zv s0 0 w, zv s0 2 b, zv s0 0 r] = [(0, zv s0 2 a), (1, zv s0 0 w), (2, zv s0 2 b), (3, zv s0 0 r)] from by rw [zl_2, zl_0, zl_2, zl_0]; rfl) ?_
  unfold zt_X6_firstMatch at h
  refine z_iconst dX6_firstMatch_0 ?_
  refine z_istore (i := 4) (lv' := [(4, zv s0 0 0), (0, zv s0 2 a), (1, zv s0 0 w), (2, zv s0 2 b), (3, zv s0 0 r)]) dX6_firstMatch_1 (by decide) (by simp [zv_cat0, zv_cat1, zv_cat2, zv_cats]) ?_
  exact rt_lfew [1, 2, 3, 4, 0] rfl h

