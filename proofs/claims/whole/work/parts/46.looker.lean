/-! ===== trees: LOOKER ===== -/
def zt_X4_wrongPlace (l : Launch) (s0 : State) (G : va_G) (ca : Nat → ClassId) (d : Nat) (C : Nat × Nat) (S : zS) (w0 : rt_Wd) (p : Int) (mk : Int) (mka : Int)  (M : zM) (Q : Int → zM → Prop) (X : zM → Prop) : Prop :=
  Q (M 55 7) M
set_option maxRecDepth 100000 in
theorem z_X4_wrongPlace {l : Launch} {s0 : State} {a0 : Array Value} {G : va_G} {ca : Nat → ClassId} (Γ : rt_Γ l s0 a0 G ca) {d : Nat} {C : Nat × Nat} {S : zS} (hok : zok C) {p : Int} {mk : Int} {mka : Int} (hs : zSok S) (hp : zSc S p) (hmk : zCe S mk mka 4096) (hs55 : S 55 = some (0, 4, [(3, 1), (3, p), (3, mk), (0, 0), (0, 0), (0, 0), (0, 0), (0, 0)]))  {M : zM} {Q : Int → zM → Prop} {X : zM → Prop} (h : zt_X4_wrongPlace l s0 G ca d C S (zw s0 ca C S M) p mk mka  M Q X) : zm_X4_wrongPlace l s0 G ca d C S   M Q X := by
  refine z_met (lv := [(0, zv s0 2 55)]) Γ kk_X4_wrongPlace rfl (show (lg_sl [zv s0 2 55]).length ≤ 1 from by simp only [zn_2, show (lg_sl []).length = 0 from rfl]; omega) (show lv_args 0 [zv s0 2 55] = [(0, zv s0 2 55)] from by rw [zl_2]; rfl) ?_
  unfold zt_X4_wrongPlace at h
  refine z_aload_n dX4_wrongPlace_0 rfl (j := 0) rfl ?_
  refine z_get Γ kf_RX4_9 dX4_wrongPlace_1 (by decide) hs55 rfl (by decide) (v9 := M 55 7) rfl ?_
  exact z_iret dX4_wrongPlace_4 rfl h

def zt_X4_fail (l : Launch) (s0 : State) (G : va_G) (ca : Nat → ClassId) (d : Nat) (C : Nat × Nat) (S : zS) (w0 : rt_Wd) (p : Int) (mk : Int) (mka : Int) (c : Int) (w : Int) (M : zM) (Q : Int → zM → Prop) (X : zM → Prop) : Prop :=
  zIf (w32 (M 55 6) = 0) (Q 0 ((zu ((zu M 55 6 c)) 55 7 w))) (Q 0 M)
set_option maxRecDepth 100000 in
theorem z_X4_fail {l : Launch} {s0 : State} {a0 : Array Value} {G : va_G} {ca : Nat → ClassId} (Γ : rt_Γ l s0 a0 G ca) {d : Nat} {C : Nat × Nat} {S : zS} (hok : zok C) {p : Int} {mk : Int} {mka : Int} (hs : zSok S) (hp : zSc S p) (hmk : zCe S mk mka 4096) (hs55 : S 55 = some (0, 4, [(3, 1), (3, p), (3, mk), (0, 0), (0, 0), (0, 0), (0, 0), (0, 0)])) {c : Int} {w : Int} {M : zM} {Q : Int → zM → Prop} {X : zM → Prop} (h : zt_X4_fail l s0 G ca d C S (zw s0 ca C S M) p mk mka c w M Q X) : zm_X4_fail l s0 G ca d C S  c w M Q X := by
  refine z_met (lv := [(0, zv s0 2 55), (1, zv s0 0 c), (2, zv s0 0 w)]) Γ kk_X4_fail rfl (show (lg_sl [zv s0 2 55, zv s0 0 c, zv s0 0 w]).length ≤ 3 from by simp only [zn_0, zn_2, show (lg_sl []).length = 0 from rfl]; omega) (show lv_args 0 [zv s0 2 55, zv s0 0 c, zv s0 0 w] = [(0, zv s0 2 55), (1, zv s0 0 c), (2, zv s0 0 w)] from by rw [zl_2, zl_0, zl_0]; rfl) ?_
  unfold zt_X4_fail at h
  refine z_aload_n dX4_fail_0 rfl (j := 0) rfl ?_
  refine z_get Γ kf_RX4_15 dX4_fail_1 (by decide) hs55 rfl (by decide) (v9 := M 55 6) rfl ?_
  refine z_if_ne (tgt := 17) (x' := w32 (M 55 6)) rfl dX4_fail_4 (by decide) (fun c4 => ?_) (fun c4 => ?_)
  · replace h := h.2 c4
    exact z_vret dX4_fail_17 rfl h
  · replace h := h.1 c4
    refine z_aload_n dX4_fail_7 rfl (j := 0) rfl ?_
    refine z_iload_n dX4_fail_8 rfl (j := 1) rfl ?_
    refine z_put0 Γ kp_RX4_15 dX4_fail_9 (by decide) hs55 rfl (k9 := 6) rfl ?_
    refine z_aload_n dX4_fail_12 rfl (j := 0) rfl ?_
    refine z_iload_n dX4_fail_13 rfl (j := 2) rfl ?_
    refine z_put0 Γ kp_RX4_9 dX4_fail_14 (by decide) hs55 rfl (k9 := 7) rfl ?_
    exact z_vret dX4_fail_17 rfl h

def zt_X4_lookAtBoolean (l : Launch) (s0 : State) (G : va_G) (ca : Nat → ClassId) (d : Nat) (C : Nat × Nat) (S : zS) (w0 : rt_Wd) (p : Int) (mk : Int) (mka : Int)  (M : zM) (Q : Int → zM → Prop) (X : zM → Prop) : Prop :=
  zIf (w32 (M 55 3) < w32 ((M 1 1))) (zIf (w32 ((zat M 2 4096 (M 55 3))) ≤ 1) (Q 0 ((zu ((zadd M mk mka 4096 ((zat M 2 4096 (M 55 3))))) 55 3 (((zadd M mk mka 4096 ((zat M 2 4096 (M 55 3)))) 55 3) + 1)))) (zm_X4_fail l s0 G ca (d - 1) C S 3 (M 55 3) M (fun r50 M50 => Q 0 M50) X)) (zm_X4_fail l s0 G ca (d - 1) C S 1 ((M 1 1)) M (fun r23 M23 => Q 0 M23) X)
set_option maxRecDepth 100000 in
theorem z_X4_lookAtBoolean {l : Launch} {s0 : State} {a0 : Array Value} {G : va_G} {ca : Nat → ClassId} (Γ : rt_Γ l s0 a0 G ca) {d : Nat} {C : Nat × Nat} {S : zS} (hd : 1 ≤ d) (hok : zok C) {p : Int} {mk : Int} {mka : Int} (hs : zSok S) (hp : zSc S p) (hmk : zCe S mk mka 4096) (hs55 : S 55 = some (0, 4, [(3, 1), (3, p), (3, mk), (0, 0), (0, 0), (0, 0), (0, 0), (0, 0)]))  {M : zM} {Q : Int → zM → Prop} {X : zM → Prop} (h : zt_X4_lookAtBoolean l s0 G ca d C S (zw s0 ca C S M) p mk mka  M Q X) : zm_X4_lookAtBoolean l s0 G ca d C S   M Q X := by
  refine z_met (lv := [(0, zv s0 2 55)]) Γ kk_X4_lookAtBoolean rfl (show (lg_sl [zv s0 2 55]).length ≤ 1 from by simp only [zn_2, show (lg_sl []).length = 0 from rfl]; omega) (show lv_args 0 [zv s0 2 55] = [(0, zv s0 2 55)] from by rw [zl_2]; rfl) ?_
  unfold zt_X4_lookAtBoolean at h
  refine z_aload_n dX4_lookAtBoolean_0 rfl (j := 0) rfl ?_
  refine z_get Γ kf_RX4_18 dX4_lookAtBoolean_1 (by decide) hs55 rfl (by decide) (v9 := M 55 3) rfl ?_
  refine z_aload_n dX4_lookAtBoolean_4 rfl (j := 0) rfl ?_
  refine z_getc Γ kf_RX4_27 dX4_lookAtBoolean_5 (by decide) hs55 rfl ?_
  refine z_callV Γ kk_X0_count kc_RX4_21 (As := []) (k_X0_count (d := d - 1) Γ hok (⟨by decide, by decide, by decide, hs 1 _ rfl, hs 2 _ rfl⟩ : zCe S 1 2 4096) (M := M) (Q := fun v9 M9 => v9 = (M 1 1) ∧ M9 = M) (X := X) (show _ ∧ _ from ⟨rfl, rfl⟩)) (by omega) (by decide) (show (parseMethodDescriptor yX0_count.desc).map (fun q => q.parameters.length) = some 0 by decide +kernel) hok (by simp only [List.map, zv_cat0, zv_cat1, zv_cat2, List.sum_cons, List.sum_nil]; decide) dX4_lookAtBoolean_8 (⟨by decide, by decide, by decide, hs 1 _ rfl, hs 2 _ rfl⟩ : zCe S 1 2 4096).1 (⟨by decide, by decide, by decide, hs 1 _ rfl, hs 2 _ rfl⟩ : zCe S 1 2 4096).2.2.2.1 rfl rfl (fun _ h9 => nomatch h9) ?_
  rintro v9 M9 ⟨e9, e8⟩
  rw [e9, e8]
  clear e9 e8 v9 M9
  show rt_Go _ _ _ _ _ _ _ _ _ _ _ _ 11 [(0, zv s0 2 55)] [zv s0 0 ((M 1 1)), zv s0 0 (M 55 3)] (zw s0 ca C S M)
  refine z_icmp_lt (tgt := 29) (x' := w32 (M 55 3)) (y' := w32 ((M 1 1))) rfl rfl dX4_lookAtBoolean_11 (by decide) (fun c11 => ?_) (fun c11 => ?_)
  · replace h := h.1 c11
    refine z_aload_n dX4_lookAtBoolean_29 rfl (j := 0) rfl ?_
    refine z_getc Γ kf_RX4_27 dX4_lookAtBoolean_30 (by decide) hs55 rfl ?_
    refine z_aload_n dX4_lookAtBoolean_33 rfl (j := 0) rfl ?_
    refine z_get Γ kf_RX4_18 dX4_lookAtBoolean_34 (by decide) hs55 rfl (by decide) (v9 := M 55 3) rfl ?_
    refine z_callV Γ kk_X0_at kc_RX4_103 (As := [zv s0 0 (M 55 3)]) (k_X0_at (d := d - 1) Γ hok (⟨by decide, by decide, by decide, hs 1 _ rfl, hs 2 _ rfl⟩ : zCe S 1 2 4096) (M := M) (Q := fun v9 M9 => v9 = (zat M 2 4096 (M 55 3)) ∧ M9 = M) (X := X) (show _ ∧ _ from ⟨rfl, rfl⟩)) (by omega) (by decide) (show (parseMethodDescriptor yX0_at.desc).map (fun q => q.parameters.length) = some 1 by decide +kernel) hok (Nat.zero_le _) dX4_lookAtBoolean_37 (⟨by decide, by decide, by decide, hs 1 _ rfl, hs 2 _ rfl⟩ : zCe S 1 2 4096).1 (⟨by decide, by decide, by decide, hs 1 _ rfl, hs 2 _ rfl⟩ : zCe S 1 2 4096).2.2.2.1 rfl rfl (fun _ h9 => nomatch h9) ?_
    rintro v9 M9 ⟨e9, e8⟩
    rw [e9, e8]
    clear e9 e8 v9 M9
    show rt_Go _ _ _ _ _ _ _ _ _ _ _ _ 40 [(0, zv s0 2 55)] [zv s0 0 ((zat M 2 4096 (M 55 3)))] (zw s0 ca C S M)
    refine z_iconst dX4_lookAtBoolean_40 ?_
    refine z_icmp_le (tgt := 56) (x' := w32 ((zat M 2 4096 (M 55 3)))) (y' := 1) rfl (by decide) dX4_lookAtBoolean_41 (by decide) (fun c41 => ?_) (fun c41 => ?_)
    · replace h := h.1 c41
      refine z_aload_n dX4_lookAtBoolean_56 rfl (j := 0) rfl ?_
      refine z_getc Γ kf_RX4_41 dX4_lookAtBoolean_57 (by decide) hs55 rfl ?_
      refine z_aload_n dX4_lookAtBoolean_60 rfl (j := 0) rfl ?_
      refine z_getc Γ kf_RX4_27 dX4_lookAtBoolean_61 (by decide) hs55 rfl ?_
      refine z_aload_n dX4_lookAtBoolean_64 rfl (j := 0) rfl ?_
      refine z_get Γ kf_RX4_18 dX4_lookAtBoolean_65 (by decide) hs55 rfl (by decide) (v9 := M 55 3) rfl ?_
      refine z_callV Γ kk_X0_at kc_RX4_103 (As := [zv s0 0 (M 55 3)]) (k_X0_at (d := d - 1) Γ hok (⟨by decide, by decide, by decide, hs 1 _ rfl, hs 2 _ rfl⟩ : zCe S 1 2 4096) (M := M) (Q := fun v9 M9 => v9 = (zat M 2 4096 (M 55 3)) ∧ M9 = M) (X := X) (show _ ∧ _ from ⟨rfl, rfl⟩)) (by omega) (by decide) (show (parseMethodDescriptor yX0_at.desc).map (fun q => q.parameters.length) = some 1 by decide +kernel) hok (by simp only [List.map, zv_cat0, zv_cat1, zv_cat2, List.sum_cons, List.sum_nil]; decide) dX4_lookAtBoolean_68 (⟨by decide, by decide, by decide, hs 1 _ rfl, hs 2 _ rfl⟩ : zCe S 1 2 4096).1 (⟨by decide, by decide, by decide, hs 1 _ rfl, hs 2 _ rfl⟩ : zCe S 1 2 4096).2.2.2.1 rfl rfl (fun _ h9 => nomatch h9) ?_
      rintro v9 M9 ⟨e9, e8⟩
      rw [e9, e8]
      clear e9 e8 v9 M9
      show rt_Go _ _ _ _ _ _ _ _ _ _ _ _ 71 [(0, zv s0 2 55)] [zv s0 0 ((zat M 2 4096 (M 55 3))), zv s0 2 mk] (zw s0 ca C S M)
      refine z_callV Γ kk_X0_add kc_RX4_106 (As := [zv s0 0 ((zat M 2 4096 (M 55 3)))]) (k_X0_add (d := d - 1) Γ hok (hmk : zCe S mk mka 4096) (M := M) (Q := fun v9 M9 => v9 = (zaddv M mk 4096) ∧ M9 = (zadd M mk mka 4096 ((zat M 2 4096 (M 55 3))))) (X := X) (show _ ∧ _ from ⟨rfl, rfl⟩)) (by omega) (by decide) (show (parseMethodDescriptor yX0_add.desc).map (fun q => q.parameters.length) = some 1 by decide +kernel) hok (Nat.zero_le _) dX4_lookAtBoolean_71 (hmk : zCe S mk mka 4096).1 (hmk : zCe S mk mka 4096).2.2.2.1 rfl rfl (fun _ h9 => nomatch h9) ?_
      rintro v9 M9 ⟨e9, e8⟩
      rw [e9, e8]
      clear e9 e8 v9 M9
      show rt_Go _ _ _ _ _ _ _ _ _ _ _ _ 74 [(0, zv s0 2 55)] [zv s0 0 ((zaddv M mk 4096))] (zw s0 ca C S ((zadd M mk mka 4096 ((zat M 2 4096 (M 55 3))))))
      refine z_pop0 dX4_lookAtBoolean_74 ?_
      refine z_aload_n dX4_lookAtBoolean_75 rfl (j := 0) rfl ?_
      refine z_dup2 dX4_lookAtBoolean_76 ?_
      refine z_get Γ kf_RX4_18 dX4_lookAtBoolean_77 (by decide) hs55 rfl (by decide) (v9 := (zadd M mk mka 4096 ((zat M 2 4096 (M 55 3)))) 55 3) rfl ?_
      refine z_iconst dX4_lookAtBoolean_80 ?_
      refine z_iadd dX4_lookAtBoolean_81 ?_
      refine z_put0 Γ kp_RX4_18 dX4_lookAtBoolean_82 (by decide) hs55 rfl (k9 := 3) rfl ?_
      exact z_vret dX4_lookAtBoolean_85 rfl h
    · replace h := h.2 c41
      refine z_aload_n dX4_lookAtBoolean_44 rfl (j := 0) rfl ?_
      refine z_iconst dX4_lookAtBoolean_45 ?_
      refine z_aload_n dX4_lookAtBoolean_46 rfl (j := 0) rfl ?_
      refine z_get Γ kf_RX4_18 dX4_lookAtBoolean_47 (by decide) hs55 rfl (by decide) (v9 := M 55 3) rfl ?_
      refine z_callV Γ kk_X4_fail kc_RX4_66 (As := [zv s0 0 3, zv s0 0 (M 55 3)]) h (by omega) (by decide) (show (parseMethodDescriptor yX4_fail.desc).map (fun q => q.parameters.length) = some 2 by decide +kernel) hok (Nat.zero_le _) dX4_lookAtBoolean_50 (by decide) hs55 rfl rfl (fun _ h9 => nomatch h9) ?_
      clear h
      intro r50 M50 h
      show rt_Go _ _ _ _ _ _ _ _ _ _ _ _ 53 [(0, zv s0 2 55)] [] (zw s0 ca C S M50)
      refine rt_goto (tgt := 85) dX4_lookAtBoolean_53 (by decide) ?_
      exact z_vret dX4_lookAtBoolean_85 rfl h
  · replace h := h.2 c11
    refine z_aload_n dX4_lookAtBoolean_14 rfl (j := 0) rfl ?_
    refine z_iconst dX4_lookAtBoolean_15 ?_
    refine z_aload_n dX4_lookAtBoolean_16 rfl (j := 0) rfl ?_
    refine z_getc Γ kf_RX4_27 dX4_lookAtBoolean_17 (by decide) hs55 rfl ?_
    refine z_callV Γ kk_X0_count kc_RX4_21 (As := []) (k_X0_count (d := d - 1) Γ hok (⟨by decide, by decide, by decide, hs 1 _ rfl, hs 2 _ rfl⟩ : zCe S 1 2 4096) (M := M) (Q := fun v9 M9 => v9 = (M 1 1) ∧ M9 = M) (X := X) (show _ ∧ _ from ⟨rfl, rfl⟩)) (by omega) (by decide) (show (parseMethodDescriptor yX0_count.desc).map (fun q => q.parameters.length) = some 0 by decide +kernel) hok (by simp only [List.map, zv_cat0, zv_cat1, zv_cat2, List.sum_cons, List.sum_nil]; decide) dX4_lookAtBoolean_20 (⟨by decide, by decide, by decide, hs 1 _ rfl, hs 2 _ rfl⟩ : zCe S 1 2 4096).1 (⟨by decide, by decide, by decide, hs 1 _ rfl, hs 2 _ rfl⟩ : zCe S 1 2 4096).2.2.2.1 rfl rfl (fun _ h9 => nomatch h9) ?_
    rintro v9 M9 ⟨e9, e8⟩
    rw [e9, e8]
    clear e9 e8 v9 M9
    show rt_Go _ _ _ _ _ _ _ _ _ _ _ _ 23 [(0, zv s0 2 55)] [zv s0 0 ((M 1 1)), zv s0 0 1, zv s0 2 55] (zw s0 ca C S M)
    refine z_callV Γ kk_X4_fail kc_RX4_66 (As := [zv s0 0 1, zv s0 0 ((M 1 1))]) h (by omega) (by decide) (show (parseMethodDescriptor yX4_fail.desc).map (fun q => q.parameters.length) = some 2 by decide +kernel) hok (Nat.zero_le _) dX4_lookAtBoolean_23 (by decide) hs55 rfl rfl (fun _ h9 => nomatch h9) ?_
    clear h
    intro r23 M23 h
    show rt_Go _ _ _ _ _ _ _ _ _ _ _ _ 26 [(0, zv s0 2 55)] [] (zw s0 ca C S M23)
    refine rt_goto (tgt := 85) dX4_lookAtBoolean_26 (by decide) ?_
    exact z_vret dX4_lookAtBoolean_85 rfl h

abbrev zg_X4_varint_10 (l : Launch) (s0 : State) (G : va_G) (ca : Nat → ClassId) (d : Nat) (C : Nat × Nat) (S : zS) (w0 : rt_Wd) (p : Int) (mk : Int) (mka : Int) (v1 : Int) (v2 : Int) (v4 : Int)  (M : zM) (Q : Int → zM → Prop) (X : zM → Prop) : Prop := rt_Go l s0 G RX4 "varint" cX4_varint 6 (Option.some FieldType.long) [] d w0 (zQ s0 ca 1 C S Q X) 10 [(0, zv s0 2 55), (1, zv s0 0 v1), (2, zv s0 1 v2), (4, zv s0 0 v4)] [] (zw s0 ca C S M)
abbrev zg_X4_varint_79 (l : Launch) (s0 : State) (G : va_G) (ca : Nat → ClassId) (d : Nat) (C : Nat × Nat) (S : zS) (w0 : rt_Wd) (p : Int) (mk : Int) (mka : Int) (v1 : Int) (v2 : Int) (v4 : Int) (v5 : Int)  (M : zM) (Q : Int → zM → Prop) (X : zM → Prop) : Prop := rt_Go l s0 G RX4 "varint" cX4_varint 6 (Option.some FieldType.long) [] d w0 (zQ s0 ca 1 C S Q X) 79 [(0, zv s0 2 55), (1, zv s0 0 v1), (2, zv s0 1 v2), (4, zv s0 0 v4), (5, zv s0 0 v5)] [] (zw s0 ca C S M)
def zt_X4_varint_79 (l : Launch) (s0 : State) (G : va_G) (ca : Nat → ClassId) (d : Nat) (C : Nat × Nat) (S : zS) (w0 : rt_Wd) (p : Int) (mk : Int) (mka : Int) (v1 : Int) (v2 : Int) (v4 : Int) (v5 : Int)  (M : zM) (Q : Int → zM → Prop) (X : zM → Prop) : Prop :=
  zIf (128 ≤ w32 v5) (zg_X4_varint_10 l s0 G ca d C S w0 p mk mka v1 (zorL v2 (zshlL (w32 (zand v5 127)) (7 * v4))) (v4 + 1) ((zu M 55 3 ((M 55 3) + 1))) Q X) (Q (zxorL (zushrL (zorL v2 (zshlL (w32 (zand v5 127)) (7 * v4))) 1) (-(zandL (zorL v2 (zshlL (w32 (zand v5 127)) (7 * v4))) 1))) ((zu M 55 3 ((M 55 3) + 1))))
set_option maxRecDepth 100000 in
theorem zs_X4_varint_79 {l : Launch} {s0 : State} {a0 : Array Value} {G : va_G} {ca : Nat → ClassId} (Γ : rt_Γ l s0 a0 G ca) {d : Nat} {C : Nat × Nat} {S : zS} (hd : 1 ≤ d) (hok : zok C) {p : Int} {mk : Int} {mka : Int} (hs : zSok S) (hp : zSc S p) (hmk : zCe S mk mka 4096) (hs55 : S 55 = some (0, 4, [(3, 1), (3, p), (3, mk), (0, 0), (0, 0), (0, 0), (0, 0), (0, 0)])) {w0 : rt_Wd} {v1 : Int} {v2 : Int} {v4 : Int} {v5 : Int}   {M : zM} {Q : Int → zM → Prop} {X : zM → Prop} (h : zt_X4_varint_79 l s0 G ca d C S w0 p mk mka v1 v2 v4 v5 M Q X) : zg_X4_varint_79 l s0 G ca d C S w0 p mk mka v1 v2 v4 v5 M Q X := by
  unfold zt_X4_varint_79 at h
  refine z_aload_n dX4_varint_79 rfl (j := 0) rfl ?_
  refine z_dup2 dX4_varint_80 ?_
  refine z_get Γ kf_RX4_18 dX4_varint_81 (by decide) hs55 rfl (by decide) (v9 := M 55 3) rfl ?_
  refine z_iconst dX4_varint_84 ?_
  refine z_iadd dX4_varint_85 ?_
  refine z_put0 Γ kp_RX4_18 dX4_varint_86 (by decide) hs55 rfl (k9 := 3) rfl ?_
  refine z_lload_n dX4_varint_89 rfl (j := 2) rfl ?_
  refine z_iload dX4_varint_90 (j := 4) rfl ?_
  refine z_bipush dX4_varint_92 (by decide) ?_
  refine z_iand dX4_varint_94 ?_
  refine z_i2l dX4_varint_95 ?_
  refine z_bipush dX4_varint_96 (by decide) ?_
  refine z_iload dX4_varint_98 (j := 3) rfl ?_
  refine z_imul dX4_varint_100 ?_
  refine z_lshl dX4_varint_101 ?_
  refine z_lor dX4_varint_102 ?_
  refine z_lstore_n (i := 2) (lv' := [(2, zv s0 1 (zorL v2 (zshlL (w32 (zand v5 127)) (7 * v4)))), (0, zv s0 2 55), (1, zv s0 0 v1), (4, zv s0 0 v4), (5, zv s0 0 v5)]) dX4_varint_103 rfl (by decide) (by simp [zv_cat0, zv_cat1, zv_cat2, zv_cats]) ?_
  refine z_iload dX4_varint_104 (j := 4) rfl ?_
  refine z_sipush dX4_varint_106 (by decide) ?_
  refine z_icmp_ge (tgt := 121) (x' := w32 v5) (y' := 128) rfl (by decide) dX4_varint_109 (by decide) (fun c109 => ?_) (fun c109 => ?_)
  · replace h := h.1 c109
    refine z_iinc (lv' := [(4, zv s0 0 (v4 + 1)), (2, zv s0 1 (zorL v2 (zshlL (w32 (zand v5 127)) (7 * v4)))), (0, zv s0 2 55), (1, zv s0 0 v1), (5, zv s0 0 v5)]) dX4_varint_121 (j := 3) rfl (by decide) (by simp [zv_cat0, zv_cat1, zv_cat2, zv_cats]) ?_
    refine rt_goto (tgt := 10) dX4_varint_124 (by decide) ?_
    exact rt_lfew [2, 3, 1, 0] rfl h
  · replace h := h.2 c109
    refine z_lload_n dX4_varint_112 rfl (j := 0) rfl ?_
    refine z_iconst dX4_varint_113 ?_
    refine z_lushr dX4_varint_114 ?_
    refine z_lload_n dX4_varint_115 rfl (j := 0) rfl ?_
    refine z_lconst (v := 1) dX4_varint_116 (by decide) ?_
    refine z_land dX4_varint_117 ?_
    refine z_lneg dX4_varint_118 ?_
    refine z_lxor dX4_varint_119 ?_
    exact z_lret dX4_varint_120 rfl h

def zt_X4_varint_10 (l : Launch) (s0 : State) (G : va_G) (ca : Nat → ClassId) (d : Nat) (C : Nat × Nat) (S : zS) (w0 : rt_Wd) (p : Int) (mk : Int) (mka : Int) (v1 : Int) (v2 : Int) (v4 : Int)  (M : zM) (Q : Int → zM → Prop) (X : zM → Prop) : Prop :=
  zIf (10 ≤ w32 v4) (Q 0 M) (zIf (w32 (M 55 3) < w32 ((M 1 1))) (zIf (w32 v4 = 9) (zIf (w32 ((zat M 2 4096 (M 55 3))) ≤ 1) (zt_X4_varint_79 l s0 G ca d C S w0 p mk mka v1 v2 v4 ((zat M 2 4096 (M 55 3))) M Q X) (zm_X4_fail l s0 G ca (d - 1) C S 2 v1 M (fun r74 M74 => Q 0 M74) X)) (zt_X4_varint_79 l s0 G ca d C S w0 p mk mka v1 v2 v4 ((zat M 2 4096 (M 55 3))) M Q X)) (zm_X4_fail l s0 G ca (d - 1) C S 1 ((M 1 1)) M (fun r40 M40 => Q 0 M40) X))
set_option maxRecDepth 100000 in
theorem zs_X4_varint_10 {l : Launch} {s0 : State} {a0 : Array Value} {G : va_G} {ca : Nat → ClassId} (Γ : rt_Γ l s0 a0 G ca) {d : Nat} {C : Nat × Nat} {S : zS} (hd : 1 ≤ d) (hok : zok C) {p : Int} {mk : Int} {mka : Int} (hs : zSok S) (hp : zSc S p) (hmk : zCe S mk mka 4096) (hs55 : S 55 = some (0, 4, [(3, 1), (3, p), (3, mk), (0, 0), (0, 0), (0, 0), (0, 0), (0, 0)])) {w0 : rt_Wd} {v1 : Int} {v2 : Int} {v4 : Int}   {M : zM} {Q : Int → zM → Prop} {X : zM → Prop} (h : zt_X4_varint_10 l s0 G ca d C S w0 p mk mka v1 v2 v4 M Q X) : zg_X4_varint_10 l s0 G ca d C S w0 p mk mka v1 v2 v4 M Q X := by
  unfold zt_X4_varint_10 at h
  refine z_iload dX4_varint_10 (j := 3) rfl ?_
  refine z_bipush dX4_varint_12 (by decide) ?_
  refine z_icmp_ge (tgt := 127) (x' := w32 v4) (y' := 10) rfl (by decide) dX4_varint_14 (by decide) (fun c14 => ?_) (fun c14 => ?_)
  · replace h := h.1 c14
    refine z_lconst (v := 0) dX4_varint_127 (by decide) ?_
    exact z_lret dX4_varint_128 rfl h
  · replace h := h.2 c14
    refine z_aload_n dX4_varint_17 rfl (j := 0) rfl ?_
    refine z_get Γ kf_RX4_18 dX4_varint_18 (by decide) hs55 rfl (by decide) (v9 := M 55 3) rfl ?_
    refine z_aload_n dX4_varint_21 rfl (j := 0) rfl ?_
    refine z_getc Γ kf_RX4_27 dX4_varint_22 (by decide) hs55 rfl ?_
    refine z_callV Γ kk_X0_count kc_RX4_21 (As := []) (k_X0_count (d := d - 1) Γ hok (⟨by decide, by decide, by decide, hs 1 _ rfl, hs 2 _ rfl⟩ : zCe S 1 2 4096) (M := M) (Q := fun v9 M9 => v9 = (M 1 1) ∧ M9 = M) (X := X) (show _ ∧ _ from ⟨rfl, rfl⟩)) (by omega) (by decide) (show (parseMethodDescriptor yX0_count.desc).map (fun q => q.parameters.length) = some 0 by decide +kernel) hok (by simp only [List.map, zv_cat0, zv_cat1, zv_cat2, List.sum_cons, List.sum_nil]; decide) dX4_varint_25 (⟨by decide, by decide, by decide, hs 1 _ rfl, hs 2 _ rfl⟩ : zCe S 1 2 4096).1 (⟨by decide, by decide, by decide, hs 1 _ rfl, hs 2 _ rfl⟩ : zCe S 1 2 4096).2.2.2.1 rfl rfl (fun _ h9 => nomatch h9) ?_
    rintro v9 M9 ⟨e9, e8⟩
    rw [e9, e8]
    clear e9 e8 v9 M9
    show rt_Go _ _ _ _ _ _ _ _ _ _ _ _ 28 [(0, zv s0 2 55), (1, zv s0 0 v1), (2, zv s0 1 v2), (4, zv s0 0 v4)] [zv s0 0 ((M 1 1)), zv s0 0 (M 55 3)] (zw s0 ca C S M)
    refine z_icmp_lt (tgt := 45) (x' := w32 (M 55 3)) (y' := w32 ((M 1 1))) rfl rfl dX4_varint_28 (by decide) (fun c28 => ?_) (fun c28 => ?_)
    · replace h := h.1 c28
      refine z_aload_n dX4_varint_45 rfl (j := 0) rfl ?_
      refine z_getc Γ kf_RX4_27 dX4_varint_46 (by decide) hs55 rfl ?_
      refine z_aload_n dX4_varint_49 rfl (j := 0) rfl ?_
      refine z_get Γ kf_RX4_18 dX4_varint_50 (by decide) hs55 rfl (by decide) (v9 := M 55 3) rfl ?_
      refine z_callV Γ kk_X0_at kc_RX4_103 (As := [zv s0 0 (M 55 3)]) (k_X0_at (d := d - 1) Γ hok (⟨by decide, by decide, by decide, hs 1 _ rfl, hs 2 _ rfl⟩ : zCe S 1 2 4096) (M := M) (Q := fun v9 M9 => v9 = (zat M 2 4096 (M 55 3)) ∧ M9 = M) (X := X) (show _ ∧ _ from ⟨rfl, rfl⟩)) (by omega) (by decide) (show (parseMethodDescriptor yX0_at.desc).map (fun q => q.parameters.length) = some 1 by decide +kernel) hok (Nat.zero_le _) dX4_varint_53 (⟨by decide, by decide, by decide, hs 1 _ rfl, hs 2 _ rfl⟩ : zCe S 1 2 4096).1 (⟨by decide, by decide, by decide, hs 1 _ rfl, hs 2 _ rfl⟩ : zCe S 1 2 4096).2.2.2.1 rfl rfl (fun _ h9 => nomatch h9) ?_
      rintro v9 M9 ⟨e9, e8⟩
      rw [e9, e8]
      clear e9 e8 v9 M9
      show rt_Go _ _ _ _ _ _ _ _ _ _ _ _ 56 [(0, zv s0 2 55), (1, zv s0 0 v1), (2, zv s0 1 v2), (4, zv s0 0 v4)] [zv s0 0 ((zat M 2 4096 (M 55 3)))] (zw s0 ca C S M)
      refine z_istore (i := 5) (lv' := [(5, zv s0 0 ((zat M 2 4096 (M 55 3)))), (0, zv s0 2 55), (1, zv s0 0 v1), (2, zv s0 1 v2), (4, zv s0 0 v4)]) dX4_varint_56 (by decide) (by simp [zv_cat0, zv_cat1, zv_cat2, zv_cats]) ?_
      refine z_iload dX4_varint_58 (j := 4) rfl ?_
      refine z_bipush dX4_varint_60 (by decide) ?_
      refine z_icmp_ne (tgt := 79) (x' := w32 v4) (y' := 9) rfl (by decide) dX4_varint_62 (by decide) (fun c62 => ?_) (fun c62 => ?_)
      · replace h := h.2 c62
        exact rt_lfew [1, 2, 3, 4, 0] rfl (zs_X4_varint_79 Γ hd hok hs hp hmk hs55  h)
      · replace h := h.1 c62
        refine z_iload dX4_varint_65 (j := 0) rfl ?_
        refine z_iconst dX4_varint_67 ?_
        refine z_icmp_le (tgt := 79) (x' := w32 ((zat M 2 4096 (M 55 3)))) (y' := 1) rfl (by decide) dX4_varint_68 (by decide) (fun c68 => ?_) (fun c68 => ?_)
        · replace h := h.1 c68
          exact rt_lfew [1, 2, 3, 4, 0] rfl (zs_X4_varint_79 Γ hd hok hs hp hmk hs55  h)
        · replace h := h.2 c68
          refine z_aload_n dX4_varint_71 rfl (j := 1) rfl ?_
          refine z_iconst dX4_varint_72 ?_
          refine z_iload_n dX4_varint_73 rfl (j := 2) rfl ?_
          refine z_callV Γ kk_X4_fail kc_RX4_66 (As := [zv s0 0 2, zv s0 0 v1]) h (by omega) (by decide) (show (parseMethodDescriptor yX4_fail.desc).map (fun q => q.parameters.length) = some 2 by decide +kernel) hok (Nat.zero_le _) dX4_varint_74 (by decide) hs55 rfl rfl (fun _ h9 => nomatch h9) ?_
          clear h
          intro r74 M74 h
          show rt_Go _ _ _ _ _ _ _ _ _ _ _ _ 77 [(5, zv s0 0 ((zat M 2 4096 (M 55 3)))), (0, zv s0 2 55), (1, zv s0 0 v1), (2, zv s0 1 v2), (4, zv s0 0 v4)] [] (zw s0 ca C S M74)
          refine z_lconst (v := 0) dX4_varint_77 (by decide) ?_
          exact z_lret dX4_varint_78 rfl h
    · replace h := h.2 c28
      refine z_aload_n dX4_varint_31 rfl (j := 0) rfl ?_
      refine z_iconst dX4_varint_32 ?_
      refine z_aload_n dX4_varint_33 rfl (j := 0) rfl ?_
      refine z_getc Γ kf_RX4_27 dX4_varint_34 (by decide) hs55 rfl ?_
      refine z_callV Γ kk_X0_count kc_RX4_21 (As := []) (k_X0_count (d := d - 1) Γ hok (⟨by decide, by decide, by decide, hs 1 _ rfl, hs 2 _ rfl⟩ : zCe S 1 2 4096) (M := M) (Q := fun v9 M9 => v9 = (M 1 1) ∧ M9 = M) (X := X) (show _ ∧ _ from ⟨rfl, rfl⟩)) (by omega) (by decide) (show (parseMethodDescriptor yX0_count.desc).map (fun q => q.parameters.length) = some 0 by decide +kernel) hok (by simp only [List.map, zv_cat0, zv_cat1, zv_cat2, List.sum_cons, List.sum_nil]; decide) dX4_varint_37 (⟨by decide, by decide, by decide, hs 1 _ rfl, hs 2 _ rfl⟩ : zCe S 1 2 4096).1 (⟨by decide, by decide, by decide, hs 1 _ rfl, hs 2 _ rfl⟩ : zCe S 1 2 4096).2.2.2.1 rfl rfl (fun _ h9 => nomatch h9) ?_
      rintro v9 M9 ⟨e9, e8⟩
      rw [e9, e8]
      clear e9 e8 v9 M9
      show rt_Go _ _ _ _ _ _ _ _ _ _ _ _ 40 [(0, zv s0 2 55), (1, zv s0 0 v1), (2, zv s0 1 v2), (4, zv s0 0 v4)] [zv s0 0 ((M 1 1)), zv s0 0 1, zv s0 2 55] (zw s0 ca C S M)
      refine z_callV Γ kk_X4_fail kc_RX4_66 (As := [zv s0 0 1, zv s0 0 ((M 1 1))]) h (by omega) (by decide) (show (parseMethodDescriptor yX4_fail.desc).map (fun q => q.parameters.length) = some 2 by decide +kernel) hok (Nat.zero_le _) dX4_varint_40 (by decide) hs55 rfl rfl (fun _ h9 => nomatch h9) ?_
      clear h
      intro r40 M40 h
      show rt_Go _ _ _ _ _ _ _ _ _ _ _ _ 43 [(0, zv s0 2 55), (1, zv s0 0 v1), (2, zv s0 1 v2), (4, zv s0 0 v4)] [] (zw s0 ca C S M40)
      refine z_lconst (v := 0) dX4_varint_43 (by decide) ?_
      exact z_lret dX4_varint_44 rfl h

def zt_X4_varint (l : Launch) (s0 : State) (G : va_G) (ca : Nat → ClassId) (d : Nat) (C : Nat × Nat) (S : zS) (w0 : rt_Wd) (p : Int) (mk : Int) (mka : Int)  (M : zM) (Q : Int → zM → Prop) (X : zM → Prop) : Prop :=
  zg_X4_varint_10 l s0 G ca d C S w0 p mk mka (M 55 3) 0 0 M Q X
set_option maxRecDepth 100000 in
theorem z_X4_varint {l : Launch} {s0 : State} {a0 : Array Value} {G : va_G} {ca : Nat → ClassId} (Γ : rt_Γ l s0 a0 G ca) {d : Nat} {C : Nat × Nat} {S : zS} (hd : 1 ≤ d) (hok : zok C) {p : Int} {mk : Int} {mka : Int} (hs : zSok S) (hp : zSc S p) (hmk : zCe S mk mka 4096) (hs55 : S 55 = some (0, 4, [(3, 1), (3, p), (3, mk), (0, 0), (0, 0), (0, 0), (0, 0), (0, 0)]))  {M : zM} {Q : Int → zM → Prop} {X : zM → Prop} (h : zt_X4_varint l s0 G ca d C S (zw s0 ca C S M) p mk mka  M Q X) : zm_X4_varint l s0 G ca d C S   M Q X := by
  refine z_met (lv := [(0, zv s0 2 55)]) Γ kk_X4_varint rfl (show (lg_sl [zv s0 2 55]).length ≤ 6 from by simp only [zn_2, show (lg_sl []).length = 0 from rfl]; omega) (show lv_args 0 [zv s0 2 55] = [(0, zv s0 2 55)] from by rw [zl_2]; rfl) ?_
  unfold zt_X4_varint at h
  refine z_aload_n dX4_varint_0 rfl (j := 0) rfl ?_
  refine z_get Γ kf_RX4_18 dX4_varint_1 (by decide) hs55 rfl (by decide) (v9 := M 55 3) rfl ?_
  refine z_istore_n (i := 1) (lv' := [(1, zv s0 0 (M 55 3)), (0, zv s0 2 55)]) dX4_varint_4 rfl (by decide) (by simp [zv_cat0, zv_cat1, zv_cat2, zv_cats]) ?_
  refine z_lconst (v := 0) dX4_varint_5 (by decide) ?_
  refine z_lstore_n (i := 2) (lv' := [(2, zv s0 1 0), (1, zv s0 0 (M 55 3)), (0, zv s0 2 55)]) dX4_varint_6 rfl (by decide) (by simp [zv_cat0, zv_cat1, zv_cat2, zv_cats]) ?_
  refine z_iconst dX4_varint_7 ?_
  refine z_istore (i := 4) (lv' := [(4, zv s0 0 0), (2, zv s0 1 0), (1, zv s0 0 (M 55 3)), (0, zv s0 2 55)]) dX4_varint_8 (by decide) (by simp [zv_cat0, zv_cat1, zv_cat2, zv_cats]) ?_
  exact rt_lfew [3, 2, 1, 0] rfl h

def zt_X4_takeBytes (l : Launch) (s0 : State) (G : va_G) (ca : Nat → ClassId) (d : Nat) (C : Nat × Nat) (S : zS) (w0 : rt_Wd) (p : Int) (mk : Int) (mka : Int) (k : Int) (M : zM) (Q : Int → zM → Prop) (X : zM → Prop) : Prop :=
  zIf (w64 k ≤ w64 (w32 (((M 1 1)) - (M 55 3)))) (zm_X0_addPart l s0 G ca (d - 1) C S mk 1 (M 55 3) ((M 55 3) + k) M (fun r50 M50 => Q 0 ((zu M50 55 3 ((M50 55 3) + k)))) X) (zm_X4_fail l s0 G ca (d - 1) C S 1 ((M 1 1)) M (fun r27 M27 => Q 0 M27) X)
set_option maxRecDepth 100000 in
theorem z_X4_takeBytes {l : Launch} {s0 : State} {a0 : Array Value} {G : va_G} {ca : Nat → ClassId} (Γ : rt_Γ l s0 a0 G ca) {d : Nat} {C : Nat × Nat} {S : zS} (hd : 1 ≤ d) (hok : zok C) {p : Int} {mk : Int} {mka : Int} (hs : zSok S) (hp : zSc S p) (hmk : zCe S mk mka 4096) (hs55 : S 55 = some (0, 4, [(3, 1), (3, p), (3, mk), (0, 0), (0, 0), (0, 0), (0, 0), (0, 0)])) {k : Int} {M : zM} {Q : Int → zM → Prop} {X : zM → Prop} (h : zt_X4_takeBytes l s0 G ca d C S (zw s0 ca C S M) p mk mka k M Q X) : zm_X4_takeBytes l s0 G ca d C S  k M Q X := by
  refine z_met (lv := [(0, zv s0 2 55), (1, zv s0 1 k)]) Γ kk_X4_takeBytes rfl (show (lg_sl [zv s0 2 55, zv s0 1 k]).length ≤ 3 from by simp only [zn_1, zn_2, show (lg_sl []).length = 0 from rfl]; omega) (show lv_args 0 [zv s0 2 55, zv s0 1 k] = [(0, zv s0 2 55), (1, zv s0 1 k)] from by rw [zl_2, zl_1]; rfl) ?_
  unfold zt_X4_takeBytes at h
  refine z_lload_n dX4_takeBytes_0 rfl (j := 1) rfl ?_
  refine z_aload_n dX4_takeBytes_1 rfl (j := 0) rfl ?_
  refine z_getc Γ kf_RX4_27 dX4_takeBytes_2 (by decide) hs55 rfl ?_
  refine z_callV Γ kk_X0_count kc_RX4_21 (As := []) (k_X0_count (d := d - 1) Γ hok (⟨by decide, by decide, by decide, hs 1 _ rfl, hs 2 _ rfl⟩ : zCe S 1 2 4096) (M := M) (Q := fun v9 M9 => v9 = (M 1 1) ∧ M9 = M) (X := X) (show _ ∧ _ from ⟨rfl, rfl⟩)) (by omega) (by decide) (show (parseMethodDescriptor yX0_count.desc).map (fun q => q.parameters.length) = some 0 by decide +kernel) hok (by simp only [List.map, zv_cat0, zv_cat1, zv_cat2, List.sum_cons, List.sum_nil]; decide) dX4_takeBytes_5 (⟨by decide, by decide, by decide, hs 1 _ rfl, hs 2 _ rfl⟩ : zCe S 1 2 4096).1 (⟨by decide, by decide, by decide, hs 1 _ rfl, hs 2 _ rfl⟩ : zCe S 1 2 4096).2.2.2.1 rfl rfl (fun _ h9 => nomatch h9) ?_
  rintro v9 M9 ⟨e9, e8⟩
  rw [e9, e8]
  clear e9 e8 v9 M9
  show rt_Go _ _ _ _ _ _ _ _ _ _ _ _ 8 [(0, zv s0 2 55), (1, zv s0 1 k)] [zv s0 0 ((M 1 1)), zv s0 1 k] (zw s0 ca C S M)
  refine z_aload_n dX4_takeBytes_8 rfl (j := 0) rfl ?_
  refine z_get Γ kf_RX4_18 dX4_takeBytes_9 (by decide) hs55 rfl (by decide) (v9 := M 55 3) rfl ?_
  refine z_isub dX4_takeBytes_12 ?_
  refine z_i2l dX4_takeBytes_13 ?_
  refine z_lif_le (tgt := 31) (x' := w64 k) (y' := w64 (w32 (((M 1 1)) - (M 55 3)))) rfl rfl dX4_takeBytes_14 dX4_takeBytes_15 (by decide) (fun c14 => ?_) (fun c14 => ?_)
  · replace h := h.1 c14
    refine z_aload_n dX4_takeBytes_31 rfl (j := 0) rfl ?_
    refine z_getc Γ kf_RX4_41 dX4_takeBytes_32 (by decide) hs55 rfl ?_
    refine z_aload_n dX4_takeBytes_35 rfl (j := 0) rfl ?_
    refine z_getc Γ kf_RX4_27 dX4_takeBytes_36 (by decide) hs55 rfl ?_
    refine z_aload_n dX4_takeBytes_39 rfl (j := 0) rfl ?_
    refine z_get Γ kf_RX4_18 dX4_takeBytes_40 (by decide) hs55 rfl (by decide) (v9 := M 55 3) rfl ?_
    refine z_aload_n dX4_takeBytes_43 rfl (j := 0) rfl ?_
    refine z_get Γ kf_RX4_18 dX4_takeBytes_44 (by decide) hs55 rfl (by decide) (v9 := M 55 3) rfl ?_
    refine z_lload_n dX4_takeBytes_47 rfl (j := 1) rfl ?_
    refine z_l2i dX4_takeBytes_48 ?_
    refine z_iadd dX4_takeBytes_49 ?_
    refine z_callV Γ kk_X0_addPart kc_RX4_118 (As := [zv s0 2 1, zv s0 0 (M 55 3), zv s0 0 ((M 55 3) + k)]) h (by omega) (by decide) (show (parseMethodDescriptor yX0_addPart.desc).map (fun q => q.parameters.length) = some 3 by decide +kernel) hok (Nat.zero_le _) dX4_takeBytes_50 (hmk : zCe S mk mka 4096).1 (hmk : zCe S mk mka 4096).2.2.2.1 rfl rfl (fun _ h9 => nomatch h9) ?_
    clear h
    intro r50 M50 h
    show rt_Go _ _ _ _ _ _ _ _ _ _ _ _ 53 [(0, zv s0 2 55), (1, zv s0 1 k)] [zv s0 0 r50] (zw s0 ca C S M50)
    refine z_pop0 dX4_takeBytes_53 ?_
    refine z_aload_n dX4_takeBytes_54 rfl (j := 0) rfl ?_
    refine z_dup2 dX4_takeBytes_55 ?_
    refine z_get Γ kf_RX4_18 dX4_takeBytes_56 (by decide) hs55 rfl (by decide) (v9 := M50 55 3) rfl ?_
    refine z_lload_n dX4_takeBytes_59 rfl (j := 1) rfl ?_
    refine z_l2i dX4_takeBytes_60 ?_
    refine z_iadd dX4_takeBytes_61 ?_
    refine z_put0 Γ kp_RX4_18 dX4_takeBytes_62 (by decide) hs55 rfl (k9 := 3) rfl ?_
    exact z_vret dX4_takeBytes_65 rfl h
  · replace h := h.2 c14
    refine z_aload_n dX4_takeBytes_18 rfl (j := 0) rfl ?_
    refine z_iconst dX4_takeBytes_19 ?_
    refine z_aload_n dX4_takeBytes_20 rfl (j := 0) rfl ?_
    refine z_getc Γ kf_RX4_27 dX4_takeBytes_21 (by decide) hs55 rfl ?_
    refine z_callV Γ kk_X0_count kc_RX4_21 (As := []) (k_X0_count (d := d - 1) Γ hok (⟨by decide, by decide, by decide, hs 1 _ rfl, hs 2 _ rfl⟩ : zCe S 1 2 4096) (M := M) (Q := fun v9 M9 => v9 = (M 1 1) ∧ M9 = M) (X := X) (show _ ∧ _ from ⟨rfl, rfl⟩)) (by omega) (by decide) (show (parseMethodDescriptor yX0_count.desc).map (fun q => q.parameters.length) = some 0 by decide +kernel) hok (by simp only [List.map, zv_cat0, zv_cat1, zv_cat2, List.sum_cons, List.sum_nil]; decide) dX4_takeBytes_24 (⟨by decide, by decide, by decide, hs 1 _ rfl, hs 2 _ rfl⟩ : zCe S 1 2 4096).1 (⟨by decide, by decide, by decide, hs 1 _ rfl, hs 2 _ rfl⟩ : zCe S 1 2 4096).2.2.2.1 rfl rfl (fun _ h9 => nomatch h9) ?_
    rintro v9 M9 ⟨e9, e8⟩
    rw [e9, e8]
    clear e9 e8 v9 M9
    show rt_Go _ _ _ _ _ _ _ _ _ _ _ _ 27 [(0, zv s0 2 55), (1, zv s0 1 k)] [zv s0 0 ((M 1 1)), zv s0 0 1, zv s0 2 55] (zw s0 ca C S M)
    refine z_callV Γ kk_X4_fail kc_RX4_66 (As := [zv s0 0 1, zv s0 0 ((M 1 1))]) h (by omega) (by decide) (show (parseMethodDescriptor yX4_fail.desc).map (fun q => q.parameters.length) = some 2 by decide +kernel) hok (Nat.zero_le _) dX4_takeBytes_27 (by decide) hs55 rfl rfl (fun _ h9 => nomatch h9) ?_
    clear h
    intro r27 M27 h
    show rt_Go _ _ _ _ _ _ _ _ _ _ _ _ 30 [(0, zv s0 2 55), (1, zv s0 1 k)] [] (zw s0 ca C S M27)
    exact z_vret dX4_takeBytes_30 rfl h

abbrev zg_X4_lookAtNumber_28 (l : Launch) (s0 : State) (G : va_G) (ca : Nat → ClassId) (d : Nat) (C : Nat × Nat) (S : zS) (w0 : rt_Wd) (p : Int) (mk : Int) (mka : Int) (v3 : Int)  (M : zM) (Q : Int → zM → Prop) (X : zM → Prop) : Prop := rt_Go l s0 G RX4 "lookAtNumber" cX4_lookAtNumber 5 (Option.none : Option FieldType) [] d w0 (zQ s0 ca 9 C S Q X) 28 [(0, zv s0 2 55), (3, zv s0 1 v3)] [] (zw s0 ca C S M)
def zt_X4_lookAtNumber_28 (l : Launch) (s0 : State) (G : va_G) (ca : Nat → ClassId) (d : Nat) (C : Nat × Nat) (S : zS) (w0 : rt_Wd) (p : Int) (mk : Int) (mka : Int) (v3 : Int)  (M : zM) (Q : Int → zM → Prop) (X : zM → Prop) : Prop :=
  zIf (w32 (M 55 6) = 0) (zm_X0_addVarint l s0 G ca (d - 1) C S mk v3 M (fun r40 M40 => Q 0 M40) X) (Q 0 M)
set_option maxRecDepth 100000 in
theorem zs_X4_lookAtNumber_28 {l : Launch} {s0 : State} {a0 : Array Value} {G : va_G} {ca : Nat → ClassId} (Γ : rt_Γ l s0 a0 G ca) {d : Nat} {C : Nat × Nat} {S : zS} (hd : 1 ≤ d) (hok : zok C) {p : Int} {mk : Int} {mka : Int} (hs : zSok S) (hp : zSc S p) (hmk : zCe S mk mka 4096) (hs55 : S 55 = some (0, 4, [(3, 1), (3, p), (3, mk), (0, 0), (0, 0), (0, 0), (0, 0), (0, 0)])) {w0 : rt_Wd} {v3 : Int}   {M : zM} {Q : Int → zM → Prop} {X : zM → Prop} (h : zt_X4_lookAtNumber_28 l s0 G ca d C S w0 p mk mka v3 M Q X) : zg_X4_lookAtNumber_28 l s0 G ca d C S w0 p mk mka v3 M Q X := by
  unfold zt_X4_lookAtNumber_28 at h
  refine z_aload_n dX4_lookAtNumber_28 rfl (j := 0) rfl ?_
  refine z_get Γ kf_RX4_15 dX4_lookAtNumber_29 (by decide) hs55 rfl (by decide) (v9 := M 55 6) rfl ?_
  refine z_if_ne (tgt := 44) (x' := w32 (M 55 6)) rfl dX4_lookAtNumber_32 (by decide) (fun c32 => ?_) (fun c32 => ?_)
  · replace h := h.2 c32
    exact z_vret dX4_lookAtNumber_44 rfl h
  · replace h := h.1 c32
    refine z_aload_n dX4_lookAtNumber_35 rfl (j := 0) rfl ?_
    refine z_getc Γ kf_RX4_41 dX4_lookAtNumber_36 (by decide) hs55 rfl ?_
    refine z_lload_n dX4_lookAtNumber_39 rfl (j := 1) rfl ?_
    refine z_callV Γ kk_X0_addVarint kc_RX4_114 (As := [zv s0 1 v3]) h (by omega) (by decide) (show (parseMethodDescriptor yX0_addVarint.desc).map (fun q => q.parameters.length) = some 1 by decide +kernel) hok (Nat.zero_le _) dX4_lookAtNumber_40 (hmk : zCe S mk mka 4096).1 (hmk : zCe S mk mka 4096).2.2.2.1 rfl rfl (fun _ h9 => nomatch h9) ?_
    clear h
    intro r40 M40 h
    show rt_Go _ _ _ _ _ _ _ _ _ _ _ _ 43 [(0, zv s0 2 55), (3, zv s0 1 v3)] [zv s0 0 r40] (zw s0 ca C S M40)
    refine z_pop0 dX4_lookAtNumber_43 ?_
    exact z_vret dX4_lookAtNumber_44 rfl h

def zt_X4_lookAtNumber (l : Launch) (s0 : State) (G : va_G) (ca : Nat → ClassId) (d : Nat) (C : Nat × Nat) (S : zS) (w0 : rt_Wd) (p : Int) (mk : Int) (mka : Int) (b : Int) (M : zM) (Q : Int → zM → Prop) (X : zM → Prop) : Prop :=
  zm_X4_varint l s0 G ca (d - 1) C S  M (fun r6 M6 => zIf (w32 b = 0) (zt_X4_lookAtNumber_28 l s0 G ca d C S w0 p mk mka r6 M6 Q X) (zIf (w64 r6 = w64 (w32 r6)) (zt_X4_lookAtNumber_28 l s0 G ca d C S w0 p mk mka r6 M6 Q X) (zm_X4_fail l s0 G ca (d - 1) C S 2 (M 55 3) M6 (fun r25 M25 => zt_X4_lookAtNumber_28 l s0 G ca d C S w0 p mk mka r6 M25 Q X) X))) X
set_option maxRecDepth 100000 in
theorem z_X4_lookAtNumber {l : Launch} {s0 : State} {a0 : Array Value} {G : va_G} {ca : Nat → ClassId} (Γ : rt_Γ l s0 a0 G ca) {d : Nat} {C : Nat × Nat} {S : zS} (hd : 1 ≤ d) (hok : zok C) {p : Int} {mk : Int} {mka : Int} (hs : zSok S) (hp : zSc S p) (hmk : zCe S mk mka 4096) (hs55 : S 55 = some (0, 4, [(3, 1), (3, p), (3, mk), (0, 0), (0, 0), (0, 0), (0, 0), (0, 0)])) {b : Int} {M : zM} {Q : Int → zM → Prop} {X : zM → Prop} (h : zt_X4_lookAtNumber l s0 G ca d C S (zw s0 ca C S M) p mk mka b M Q X) : zm_X4_lookAtNumber l s0 G ca d C S  b M Q X := by
  refine z_met (lv := [(0, zv s0 2 55), (1, zv s0 0 b)]) Γ kk_X4_lookAtNumber rfl (show (lg_sl [zv s0 2 55, zv s0 0 b]).length ≤ 5 from by simp only [zn_0, zn_2, show (lg_sl []).length = 0 from rfl]; omega) (show lv_args 0 [zv s0 2 55, zv s0 0 b] = [(0, zv s0 2 55), (1, zv s0 0 b)] from by rw [zl_2, zl_0]; rfl) ?_
  unfold zt_X4_lookAtNumber at h
  refine z_aload_n dX4_lookAtNumber_0 rfl (j := 0) rfl ?_
  refine z_get Γ kf_RX4_18 dX4_lookAtNumber_1 (by decide) hs55 rfl (by decide) (v9 := M 55 3) rfl ?_
  refine z_istore_n (i := 2) (lv' := [(2, zv s0 0 (M 55 3)), (0, zv s0 2 55), (1, zv s0 0 b)]) dX4_lookAtNumber_4 rfl (by decide) (by simp [zv_cat0, zv_cat1, zv_cat2, zv_cats]) ?_
  refine z_aload_n dX4_lookAtNumber_5 rfl (j := 1) rfl ?_
  refine z_callV Γ kk_X4_varint kc_RX4_110 (As := []) h (by omega) (by decide) (show (parseMethodDescriptor yX4_varint.desc).map (fun q => q.parameters.length) = some 0 by decide +kernel) hok (Nat.zero_le _) dX4_lookAtNumber_6 (by decide) hs55 rfl rfl (fun _ h9 => nomatch h9) ?_
  clear h
  intro r6 M6 h
  show rt_Go _ _ _ _ _ _ _ _ _ _ _ _ 9 [(2, zv s0 0 (M 55 3)), (0, zv s0 2 55), (1, zv s0 0 b)] [zv s0 1 r6] (zw s0 ca C S M6)
  refine z_lstore_n (i := 3) (lv' := [(3, zv s0 1 r6), (2, zv s0 0 (M 55 3)), (0, zv s0 2 55), (1, zv s0 0 b)]) dX4_lookAtNumber_9 rfl (by decide) (by simp [zv_cat0, zv_cat1, zv_cat2, zv_cats]) ?_
  refine z_iload_n dX4_lookAtNumber_10 rfl (j := 3) rfl ?_
  refine z_if_eq (tgt := 28) (x' := w32 b) rfl dX4_lookAtNumber_11 (by decide) (fun c11 => ?_) (fun c11 => ?_)
  · replace h := h.1 c11
    exact rt_lfew [2, 0] rfl (zs_X4_lookAtNumber_28 Γ hd hok hs hp hmk hs55  h)
  · replace h := h.2 c11
    refine z_lload_n dX4_lookAtNumber_14 rfl (j := 0) rfl ?_
    refine z_lload_n dX4_lookAtNumber_15 rfl (j := 0) rfl ?_
    refine z_l2i dX4_lookAtNumber_16 ?_
    refine z_i2l dX4_lookAtNumber_17 ?_
    refine z_lif_eq (tgt := 28) (x' := w64 r6) (y' := w64 (w32 r6)) rfl rfl dX4_lookAtNumber_18 dX4_lookAtNumber_19 (by decide) (fun c18 => ?_) (fun c18 => ?_)
    · replace h := h.1 c18
      exact rt_lfew [2, 0] rfl (zs_X4_lookAtNumber_28 Γ hd hok hs hp hmk hs55  h)
    · replace h := h.2 c18
      refine z_aload_n dX4_lookAtNumber_22 rfl (j := 2) rfl ?_
      refine z_iconst dX4_lookAtNumber_23 ?_
      refine z_iload_n dX4_lookAtNumber_24 rfl (j := 1) rfl ?_
      refine z_callV Γ kk_X4_fail kc_RX4_66 (As := [zv s0 0 2, zv s0 0 (M 55 3)]) h (by omega) (by decide) (show (parseMethodDescriptor yX4_fail.desc).map (fun q => q.parameters.length) = some 2 by decide +kernel) hok (Nat.zero_le _) dX4_lookAtNumber_25 (by decide) hs55 rfl rfl (fun _ h9 => nomatch h9) ?_
      clear h
      intro r25 M25 h
      show rt_Go _ _ _ _ _ _ _ _ _ _ _ _ 28 [(3, zv s0 1 r6), (2, zv s0 0 (M 55 3)), (0, zv s0 2 55), (1, zv s0 0 b)] [] (zw s0 ca C S M25)
      exact rt_lfew [2, 0] rfl (zs_X4_lookAtNumber_28 Γ hd hok hs hp hmk hs55  h)

abbrev zg_X4_lookAtString_23 (l : Launch) (s0 : State) (G : va_G) (ca : Nat → ClassId) (d : Nat) (C : Nat × Nat) (S : zS) (w0 : rt_Wd) (p : Int) (mk : Int) (mka : Int) (v2 : Int)  (M : zM) (Q : Int → zM → Prop) (X : zM → Prop) : Prop := rt_Go l s0 G RX4 "lookAtString" cX4_lookAtString 4 (Option.none : Option FieldType) [] d w0 (zQ s0 ca 9 C S Q X) 23 [(0, zv s0 2 55), (2, zv s0 1 v2)] [] (zw s0 ca C S M)
def zt_X4_lookAtString_23 (l : Launch) (s0 : State) (G : va_G) (ca : Nat → ClassId) (d : Nat) (C : Nat × Nat) (S : zS) (w0 : rt_Wd) (p : Int) (mk : Int) (mka : Int) (v2 : Int)  (M : zM) (Q : Int → zM → Prop) (X : zM → Prop) : Prop :=
  zIf (w32 (M 55 6) = 0) (zm_X0_addVarint l s0 G ca (d - 1) C S mk v2 M (fun r35 M35 => zm_X4_takeBytes l s0 G ca (d - 1) C S v2 M35 (fun r41 M41 => Q 0 M41) X) X) (Q 0 M)
set_option maxRecDepth 100000 in
theorem zs_X4_lookAtString_23 {l : Launch} {s0 : State} {a0 : Array Value} {G : va_G} {ca : Nat → ClassId} (Γ : rt_Γ l s0 a0 G ca) {d : Nat} {C : Nat × Nat} {S : zS} (hd : 1 ≤ d) (hok : zok C) {p : Int} {mk : Int} {mka : Int} (hs : zSok S) (hp : zSc S p) (hmk : zCe S mk mka 4096) (hs55 : S 55 = some (0, 4, [(3, 1), (3, p), (3, mk), (0, 0), (0, 0), (0, 0), (0, 0), (0, 0)])) {w0 : rt_Wd} {v2 : Int}   {M : zM} {Q : Int → zM → Prop} {X : zM → Prop} (h : zt_X4_lookAtString_23 l s0 G ca d C S w0 p mk mka v2 M Q X) : zg_X4_lookAtString_23 l s0 G ca d C S w0 p mk mka v2 M Q X := by
  unfold zt_X4_lookAtString_23 at h
  refine z_aload_n dX4_lookAtString_23 rfl (j := 0) rfl ?_
  refine z_get Γ kf_RX4_15 dX4_lookAtString_24 (by decide) hs55 rfl (by decide) (v9 := M 55 6) rfl ?_
  refine z_if_ne (tgt := 44) (x' := w32 (M 55 6)) rfl dX4_lookAtString_27 (by decide) (fun c27 => ?_) (fun c27 => ?_)
  · replace h := h.2 c27
    exact z_vret dX4_lookAtString_44 rfl h
  · replace h := h.1 c27
    refine z_aload_n dX4_lookAtString_30 rfl (j := 0) rfl ?_
    refine z_getc Γ kf_RX4_41 dX4_lookAtString_31 (by decide) hs55 rfl ?_
    refine z_lload_n dX4_lookAtString_34 rfl (j := 1) rfl ?_
    refine z_callV Γ kk_X0_addVarint kc_RX4_114 (As := [zv s0 1 v2]) h (by omega) (by decide) (show (parseMethodDescriptor yX0_addVarint.desc).map (fun q => q.parameters.length) = some 1 by decide +kernel) hok (Nat.zero_le _) dX4_lookAtString_35 (hmk : zCe S mk mka 4096).1 (hmk : zCe S mk mka 4096).2.2.2.1 rfl rfl (fun _ h9 => nomatch h9) ?_
    clear h
    intro r35 M35 h
    show rt_Go _ _ _ _ _ _ _ _ _ _ _ _ 38 [(0, zv s0 2 55), (2, zv s0 1 v2)] [zv s0 0 r35] (zw s0 ca C S M35)
    refine z_pop0 dX4_lookAtString_38 ?_
    refine z_aload_n dX4_lookAtString_39 rfl (j := 0) rfl ?_
    refine z_lload_n dX4_lookAtString_40 rfl (j := 1) rfl ?_
    refine z_callV Γ kk_X4_takeBytes kc_RX4_86 (As := [zv s0 1 v2]) h (by omega) (by decide) (show (parseMethodDescriptor yX4_takeBytes.desc).map (fun q => q.parameters.length) = some 1 by decide +kernel) hok (Nat.zero_le _) dX4_lookAtString_41 (by decide) hs55 rfl rfl (fun _ h9 => nomatch h9) ?_
    clear h
    intro r41 M41 h
    show rt_Go _ _ _ _ _ _ _ _ _ _ _ _ 44 [(0, zv s0 2 55), (2, zv s0 1 v2)] [] (zw s0 ca C S M41)
    exact z_vret dX4_lookAtString_44 rfl h

def zt_X4_lookAtString (l : Launch) (s0 : State) (G : va_G) (ca : Nat → ClassId) (d : Nat) (C : Nat × Nat) (S : zS) (w0 : rt_Wd) (p : Int) (mk : Int) (mka : Int)  (M : zM) (Q : Int → zM → Prop) (X : zM → Prop) : Prop :=
  zm_X4_varint l s0 G ca (d - 1) C S  M (fun r6 M6 => zIf (0 ≤ w64 r6) (zt_X4_lookAtString_23 l s0 G ca d C S w0 p mk mka r6 M6 Q X) (zm_X4_fail l s0 G ca (d - 1) C S 6 (M 55 3) M6 (fun r20 M20 => zt_X4_lookAtString_23 l s0 G ca d C S w0 p mk mka r6 M20 Q X) X)) X
set_option maxRecDepth 100000 in
theorem z_X4_lookAtString {l : Launch} {s0 : State} {a0 : Array Value} {G : va_G} {ca : Nat → ClassId} (Γ : rt_Γ l s0 a0 G ca) {d : Nat} {C : Nat × Nat} {S : zS} (hd : 1 ≤ d) (hok : zok C) {p : Int} {mk : Int} {mka : Int} (hs : zSok S) (hp : zSc S p) (hmk : zCe S mk mka 4096) (hs55 : S 55 = some (0, 4, [(3, 1), (3, p), (3, mk), (0, 0), (0, 0), (0, 0), (0, 0), (0, 0)]))  {M : zM} {Q : Int → zM → Prop} {X : zM → Prop} (h : zt_X4_lookAtString l s0 G ca d C S (zw s0 ca C S M) p mk mka  M Q X) : zm_X4_lookAtString l s0 G ca d C S   M Q X := by
  refine z_met (lv := [(0, zv s0 2 55)]) Γ kk_X4_lookAtString rfl (show (lg_sl [zv s0 2 55]).length ≤ 4 from by simp only [zn_2, show (lg_sl []).length = 0 from rfl]; omega) (show lv_args 0 [zv s0 2 55] = [(0, zv s0 2 55)] from by rw [zl_2]; rfl) ?_
  unfold zt_X4_lookAtString at h
  refine z_aload_n dX4_lookAtString_0 rfl (j := 0) rfl ?_
  refine z_get Γ kf_RX4_18 dX4_lookAtString_1 (by decide) hs55 rfl (by decide) (v9 := M 55 3) rfl ?_
  refine z_istore_n (i := 1) (lv' := [(1, zv s0 0 (M 55 3)), (0, zv s0 2 55)]) dX4_lookAtString_4 rfl (by decide) (by simp [zv_cat0, zv_cat1, zv_cat2, zv_cats]) ?_
  refine z_aload_n dX4_lookAtString_5 rfl (j := 1) rfl ?_
  refine z_callV Γ kk_X4_varint kc_RX4_110 (As := []) h (by omega) (by decide) (show (parseMethodDescriptor yX4_varint.desc).map (fun q => q.parameters.length) = some 0 by decide +kernel) hok (Nat.zero_le _) dX4_lookAtString_6 (by decide) hs55 rfl rfl (fun _ h9 => nomatch h9) ?_
  clear h
  intro r6 M6 h
  show rt_Go _ _ _ _ _ _ _ _ _ _ _ _ 9 [(1, zv s0 0 (M 55 3)), (0, zv s0 2 55)] [zv s0 1 r6] (zw s0 ca C S M6)
  refine z_lstore_n (i := 2) (lv' := [(2, zv s0 1 r6), (1, zv s0 0 (M 55 3)), (0, zv s0 2 55)]) dX4_lookAtString_9 rfl (by decide) (by simp [zv_cat0, zv_cat1, zv_cat2, zv_cats]) ?_
  refine z_lload_n dX4_lookAtString_10 rfl (j := 0) rfl ?_
  refine z_lconst (v := 0) dX4_lookAtString_11 (by decide) ?_
  refine z_lif_ge (tgt := 23) (x' := w64 r6) (y' := 0) rfl (by decide) dX4_lookAtString_12 dX4_lookAtString_13 (by decide) (fun c12 => ?_) (fun c12 => ?_)
  · replace h := h.1 c12
    exact rt_lfew [2, 0] rfl (zs_X4_lookAtString_23 Γ hd hok hs hp hmk hs55  h)
  · replace h := h.2 c12
    refine z_aload_n dX4_lookAtString_16 rfl (j := 2) rfl ?_
    refine z_bipush dX4_lookAtString_17 (by decide) ?_
    refine z_iload_n dX4_lookAtString_19 rfl (j := 1) rfl ?_
    refine z_callV Γ kk_X4_fail kc_RX4_66 (As := [zv s0 0 6, zv s0 0 (M 55 3)]) h (by omega) (by decide) (show (parseMethodDescriptor yX4_fail.desc).map (fun q => q.parameters.length) = some 2 by decide +kernel) hok (Nat.zero_le _) dX4_lookAtString_20 (by decide) hs55 rfl rfl (fun _ h9 => nomatch h9) ?_
    clear h
    intro r20 M20 h
    show rt_Go _ _ _ _ _ _ _ _ _ _ _ _ 23 [(2, zv s0 1 r6), (1, zv s0 0 (M 55 3)), (0, zv s0 2 55)] [] (zw s0 ca C S M20)
    exact rt_lfew [2, 0] rfl (zs_X4_lookAtString_23 Γ hd hok hs hp hmk hs55  h)

abbrev zg_X4_lookAtChoice_33 (l : Launch) (s0 : State) (G : va_G) (ca : Nat → ClassId) (d : Nat) (C : Nat × Nat) (S : zS) (w0 : rt_Wd) (p : Int) (mk : Int) (mka : Int) (v2 : Int) (v3 : Int) (v4 : Int)  (M : zM) (Q : Int → zM → Prop) (X : zM → Prop) : Prop := rt_Go l s0 G RX4 "lookAtChoice" cX4_lookAtChoice 6 (Option.some FieldType.int) [] d w0 (zQ s0 ca 0 C S Q X) 33 [(0, zv s0 2 55), (2, zv s0 0 v2), (3, zv s0 0 v3), (4, zv s0 1 v4)] [] (zw s0 ca C S M)
abbrev zg_X4_lookAtChoice_39 (l : Launch) (s0 : State) (G : va_G) (ca : Nat → ClassId) (d : Nat) (C : Nat × Nat) (S : zS) (w0 : rt_Wd) (p : Int) (mk : Int) (mka : Int) (v4 : Int)  (M : zM) (Q : Int → zM → Prop) (X : zM → Prop) : Prop := rt_Go l s0 G RX4 "lookAtChoice" cX4_lookAtChoice 6 (Option.some FieldType.int) [] d w0 (zQ s0 ca 0 C S Q X) 39 [(0, zv s0 2 55), (4, zv s0 1 v4)] [] (zw s0 ca C S M)
def zt_X4_lookAtChoice_39 (l : Launch) (s0 : State) (G : va_G) (ca : Nat → ClassId) (d : Nat) (C : Nat × Nat) (S : zS) (w0 : rt_Wd) (p : Int) (mk : Int) (mka : Int) (v4 : Int)  (M : zM) (Q : Int → zM → Prop) (X : zM → Prop) : Prop :=
  zIf (w32 (M 55 6) = 0) (zm_X0_addVarint l s0 G ca (d - 1) C S mk v4 M (fun r54 M54 => Q v4 M54) X) (Q ((-1)) M)
set_option maxRecDepth 100000 in
theorem zs_X4_lookAtChoice_39 {l : Launch} {s0 : State} {a0 : Array Value} {G : va_G} {ca : Nat → ClassId} (Γ : rt_Γ l s0 a0 G ca) {d : Nat} {C : Nat × Nat} {S : zS} (hd : 2 ≤ d) (hok : zok C) {p : Int} {mk : Int} {mka : Int} (hs : zSok S) (hp : zSc S p) (hmk : zCe S mk mka 4096) (hs55 : S 55 = some (0, 4, [(3, 1), (3, p), (3, mk), (0, 0), (0, 0), (0, 0), (0, 0), (0, 0)])) {w0 : rt_Wd} {v4 : Int}   {M : zM} {Q : Int → zM → Prop} {X : zM → Prop} (h : zt_X4_lookAtChoice_39 l s0 G ca d C S w0 p mk mka v4 M Q X) : zg_X4_lookAtChoice_39 l s0 G ca d C S w0 p mk mka v4 M Q X := by
  unfold zt_X4_lookAtChoice_39 at h
  refine z_aload_n dX4_lookAtChoice_39 rfl (j := 0) rfl ?_
  refine z_get Γ kf_RX4_15 dX4_lookAtChoice_40 (by decide) hs55 rfl (by decide) (v9 := M 55 6) rfl ?_
  refine z_if_eq (tgt := 48) (x' := w32 (M 55 6)) rfl dX4_lookAtChoice_43 (by decide) (fun c43 => ?_) (fun c43 => ?_)
  · replace h := h.1 c43
    refine z_aload_n dX4_lookAtChoice_48 rfl (j := 0) rfl ?_
    refine z_getc Γ kf_RX4_41 dX4_lookAtChoice_49 (by decide) hs55 rfl ?_
    refine z_lload dX4_lookAtChoice_52 (j := 1) rfl ?_
    refine z_callV Γ kk_X0_addVarint kc_RX4_114 (As := [zv s0 1 v4]) h (by omega) (by decide) (show (parseMethodDescriptor yX0_addVarint.desc).map (fun q => q.parameters.length) = some 1 by decide +kernel) hok (Nat.zero_le _) dX4_lookAtChoice_54 (hmk : zCe S mk mka 4096).1 (hmk : zCe S mk mka 4096).2.2.2.1 rfl rfl (fun _ h9 => nomatch h9) ?_
    clear h
    intro r54 M54 h
    show rt_Go _ _ _ _ _ _ _ _ _ _ _ _ 57 [(0, zv s0 2 55), (4, zv s0 1 v4)] [zv s0 0 r54] (zw s0 ca C S M54)
    refine z_pop0 dX4_lookAtChoice_57 ?_
    refine z_lload dX4_lookAtChoice_58 (j := 1) rfl ?_
    refine z_l2i dX4_lookAtChoice_60 ?_
    exact z_iret dX4_lookAtChoice_61 rfl h
  · replace h := h.2 c43
    refine z_iconst dX4_lookAtChoice_46 ?_
    exact z_iret dX4_lookAtChoice_47 rfl h

def zt_X4_lookAtChoice_33 (l : Launch) (s0 : State) (G : va_G) (ca : Nat → ClassId) (d : Nat) (C : Nat × Nat) (S : zS) (w0 : rt_Wd) (p : Int) (mk : Int) (mka : Int) (v2 : Int) (v3 : Int) (v4 : Int)  (M : zM) (Q : Int → zM → Prop) (X : zM → Prop) : Prop :=
  zm_X4_fail l s0 G ca (d - 1) C S v2 v3 M (fun r36 M36 => zt_X4_lookAtChoice_39 l s0 G ca d C S w0 p mk mka v4 M36 Q X) X
set_option maxRecDepth 100000 in
theorem zs_X4_lookAtChoice_33 {l : Launch} {s0 : State} {a0 : Array Value} {G : va_G} {ca : Nat → ClassId} (Γ : rt_Γ l s0 a0 G ca) {d : Nat} {C : Nat × Nat} {S : zS} (hd : 2 ≤ d) (hok : zok C) {p : Int} {mk : Int} {mka : Int} (hs : zSok S) (hp : zSc S p) (hmk : zCe S mk mka 4096) (hs55 : S 55 = some (0, 4, [(3, 1), (3, p), (3, mk), (0, 0), (0, 0), (0, 0), (0, 0), (0, 0)])) {w0 : rt_Wd} {v2 : Int} {v3 : Int} {v4 : Int}   {M : zM} {Q : Int → zM → Prop} {X : zM → Prop} (h : zt_X4_lookAtChoice_33 l s0 G ca d C S w0 p mk mka v2 v3 v4 M Q X) : zg_X4_lookAtChoice_33 l s0 G ca d C S w0 p mk mka v2 v3 v4 M Q X := by
  unfold zt_X4_lookAtChoice_33 at h
  refine z_aload_n dX4_lookAtChoice_33 rfl (j := 0) rfl ?_
  refine z_iload_n dX4_lookAtChoice_34 rfl (j := 1) rfl ?_
  refine z_iload_n dX4_lookAtChoice_35 rfl (j := 2) rfl ?_
  refine z_callV Γ kk_X4_fail kc_RX4_66 (As := [zv s0 0 v2, zv s0 0 v3]) h (by omega) (by decide) (show (parseMethodDescriptor yX4_fail.desc).map (fun q => q.parameters.length) = some 2 by decide +kernel) hok (Nat.zero_le _) dX4_lookAtChoice_36 (by decide) hs55 rfl rfl (fun _ h9 => nomatch h9) ?_
  clear h
  intro r36 M36 h
  show rt_Go _ _ _ _ _ _ _ _ _ _ _ _ 39 [(0, zv s0 2 55), (2, zv s0 0 v2), (3, zv s0 0 v3), (4, zv s0 1 v4)] [] (zw s0 ca C S M36)
  exact rt_lfew [0, 3] rfl (zs_X4_lookAtChoice_39 Γ hd hok hs hp hmk hs55  h)

def zt_X4_lookAtChoice (l : Launch) (s0 : State) (G : va_G) (ca : Nat → ClassId) (d : Nat) (C : Nat × Nat) (S : zS) (w0 : rt_Wd) (p : Int) (mk : Int) (mka : Int) (s : Int) (f : Int) (M : zM) (Q : Int → zM → Prop) (X : zM → Prop) : Prop :=
  zm_X4_varint l s0 G ca (d - 1) C S  M (fun r6 M6 => zIf (w64 r6 < 0) (zt_X4_lookAtChoice_33 l s0 G ca d C S w0 p mk mka f (M 55 3) r6 M6 Q X) (zIf (w64 r6 < w64 (w32 (((zat M6 (p + 12) 134 s))))) (zt_X4_lookAtChoice_39 l s0 G ca d C S w0 p mk mka r6 M6 Q X) (zt_X4_lookAtChoice_33 l s0 G ca d C S w0 p mk mka f (M 55 3) r6 M6 Q X))) X
set_option maxRecDepth 100000 in
theorem z_X4_lookAtChoice {l : Launch} {s0 : State} {a0 : Array Value} {G : va_G} {ca : Nat → ClassId} (Γ : rt_Γ l s0 a0 G ca) {d : Nat} {C : Nat × Nat} {S : zS} (hd : 2 ≤ d) (hok : zok C) {p : Int} {mk : Int} {mka : Int} (hs : zSok S) (hp : zSc S p) (hmk : zCe S mk mka 4096) (hs55 : S 55 = some (0, 4, [(3, 1), (3, p), (3, mk), (0, 0), (0, 0), (0, 0), (0, 0), (0, 0)])) {s : Int} {f : Int} {M : zM} {Q : Int → zM → Prop} {X : zM → Prop} (h : zt_X4_lookAtChoice l s0 G ca d C S (zw s0 ca C S M) p mk mka s f M Q X) : zm_X4_lookAtChoice l s0 G ca d C S  s f M Q X := by
  refine z_met (lv := [(0, zv s0 2 55), (1, zv s0 0 s), (2, zv s0 0 f)]) Γ kk_X4_lookAtChoice rfl (show (lg_sl [zv s0 2 55, zv s0 0 s, zv s0 0 f]).length ≤ 6 from by simp only [zn_0, zn_2, show (lg_sl []).length = 0 from rfl]; omega) (show lv_args 0 [zv s0 2 55, zv s0 0 s, zv s0 0 f] = [(0, zv s0 2 55), (1, zv s0 0 s), (2, zv s0 0 f)] from by rw [zl_2, zl_0, zl_0]; rfl) ?_
  unfold zt_X4_lookAtChoice at h
  refine z_aload_n dX4_lookAtChoice_0 rfl (j := 0) rfl ?_
  refine z_get Γ kf_RX4_18 dX4_lookAtChoice_1 (by decide) hs55 rfl (by decide) (v9 := M 55 3) rfl ?_
  refine z_istore_n (i := 3) (lv' := [(3, zv s0 0 (M 55 3)), (0, zv s0 2 55), (1, zv s0 0 s), (2, zv s0 0 f)]) dX4_lookAtChoice_4 rfl (by decide) (by simp [zv_cat0, zv_cat1, zv_cat2, zv_cats]) ?_
  refine z_aload_n dX4_lookAtChoice_5 rfl (j := 1) rfl ?_
  refine z_callV Γ kk_X4_varint kc_RX4_110 (As := []) h (by omega) (by decide) (show (parseMethodDescriptor yX4_varint.desc).map (fun q => q.parameters.length) = some 0 by decide +kernel) hok (Nat.zero_le _) dX4_lookAtChoice_6 (by decide) hs55 rfl rfl (fun _ h9 => nomatch h9) ?_
  clear h
  intro r6 M6 h
  show rt_Go _ _ _ _ _ _ _ _ _ _ _ _ 9 [(3, zv s0 0 (M 55 3)), (0, zv s0 2 55), (1, zv s0 0 s), (2, zv s0 0 f)] [zv s0 1 r6] (zw s0 ca C S M6)
  refine z_lstore (i := 4) (lv' := [(4, zv s0 1 r6), (3, zv s0 0 (M 55 3)), (0, zv s0 2 55), (1, zv s0 0 s), (2, zv s0 0 f)]) dX4_lookAtChoice_9 (by decide) (by simp [zv_cat0, zv_cat1, zv_cat2, zv_cats]) ?_
  refine z_lload dX4_lookAtChoice_11 (j := 0) rfl ?_
  refine z_lconst (v := 0) dX4_lookAtChoice_13 (by decide) ?_
  refine z_lif_lt (tgt := 33) (x' := w64 r6) (y' := 0) rfl (by decide) dX4_lookAtChoice_14 dX4_lookAtChoice_15 (by decide) (fun c14 => ?_) (fun c14 => ?_)
  · replace h := h.1 c14
    exact rt_lfew [2, 4, 1, 0] rfl (zs_X4_lookAtChoice_33 Γ hd hok hs hp hmk hs55  h)
  · replace h := h.2 c14
    refine z_lload dX4_lookAtChoice_18 (j := 0) rfl ?_
    refine z_aload_n dX4_lookAtChoice_20 rfl (j := 2) rfl ?_
    refine z_getc Γ kf_RX4_31 dX4_lookAtChoice_21 (by decide) hs55 rfl ?_
    refine z_iload_n dX4_lookAtChoice_24 rfl (j := 3) rfl ?_
    refine z_callV Γ kk_X6_parts kc_RX4_122 (As := [zv s0 0 s]) (z_X6_parts (d := d - 1) Γ (by omega) hok hp (M := M6) (Q := fun v9 M9 => v9 = ((zat M6 (p + 12) 134 s)) ∧ M9 = M6) (X := X) (show _ ∧ _ from ⟨rfl, rfl⟩)) (by omega) (by decide) (show (parseMethodDescriptor yX6_parts.desc).map (fun q => q.parameters.length) = some 1 by decide +kernel) hok (by simp only [List.map, zv_cat0, zv_cat1, zv_cat2, List.sum_cons, List.sum_nil]; decide) dX4_lookAtChoice_25 hp.1 hp.2.1 rfl rfl (fun _ h9 => nomatch h9) ?_
    rintro v9 M9 ⟨e9, e8⟩
    rw [e9, e8]
    clear e9 e8 v9 M9
    show rt_Go _ _ _ _ _ _ _ _ _ _ _ _ 28 [(4, zv s0 1 r6), (3, zv s0 0 (M 55 3)), (0, zv s0 2 55), (1, zv s0 0 s), (2, zv s0 0 f)] [zv s0 0 (((zat M6 (p + 12) 134 s))), zv s0 1 r6] (zw s0 ca C S M6)
    refine z_i2l dX4_lookAtChoice_28 ?_
    refine z_lif_lt (tgt := 39) (x' := w64 r6) (y' := w64 (w32 (((zat M6 (p + 12) 134 s))))) rfl rfl dX4_lookAtChoice_29 dX4_lookAtChoice_30 (by decide) (fun c29 => ?_) (fun c29 => ?_)
    · replace h := h.1 c29
      exact rt_lfew [2, 0] rfl (zs_X4_lookAtChoice_39 Γ hd hok hs hp hmk hs55  h)
    · replace h := h.2 c29
      exact rt_lfew [2, 4, 1, 0] rfl (zs_X4_lookAtChoice_33 Γ hd hok hs hp hmk hs55  h)

abbrev zg_X4_lookAtItems_3 (l : Launch) (s0 : State) (G : va_G) (ca : Nat → ClassId) (d : Nat) (C : Nat × Nat) (S : zS) (w0 : rt_Wd) (p : Int) (mk : Int) (mka : Int) (v1 : Int) (v2 : Int) (v3 : Int) (v4 : Int)  (M : zM) (Q : Int → zM → Prop) (X : zM → Prop) : Prop := rt_Go l s0 G RX4 "lookAtItems" cX4_lookAtItems 5 (Option.none : Option FieldType) [] d w0 (zQ s0 ca 9 C S Q X) 3 [(0, zv s0 2 55), (1, zv s0 0 v1), (2, zv s0 0 v2), (3, zv s0 0 v3), (4, zv s0 0 v4)] [] (zw s0 ca C S M)
abbrev zg_X4_lookAtItems_33 (l : Launch) (s0 : State) (G : va_G) (ca : Nat → ClassId) (d : Nat) (C : Nat × Nat) (S : zS) (w0 : rt_Wd) (p : Int) (mk : Int) (mka : Int) (v1 : Int) (v2 : Int) (v3 : Int) (v4 : Int)  (M : zM) (Q : Int → zM → Prop) (X : zM → Prop) : Prop := rt_Go l s0 G RX4 "lookAtItems" cX4_lookAtItems 5 (Option.none : Option FieldType) [] d w0 (zQ s0 ca 9 C S Q X) 33 [(0, zv s0 2 55), (1, zv s0 0 v1), (2, zv s0 0 v2), (3, zv s0 0 v3), (4, zv s0 0 v4)] [] (zw s0 ca C S M)
def zt_X4_lookAtItems_33 (l : Launch) (s0 : State) (G : va_G) (ca : Nat → ClassId) (d : Nat) (C : Nat × Nat) (S : zS) (w0 : rt_Wd) (p : Int) (mk : Int) (mka : Int) (v1 : Int) (v2 : Int) (v3 : Int) (v4 : Int)  (M : zM) (Q : Int → zM → Prop) (X : zM → Prop) : Prop :=
  zIf (w32 (M 55 6) = 0) (zm_X4_look l s0 G ca (d - 1) C S (((zat M (p + 6) 134 v1))) (v3 + 1) M (fun r52 M52 => zg_X4_lookAtItems_3 l s0 G ca d C S w0 p mk mka v1 v2 v3 (v4 + 1) M52 Q X) X) (zg_X4_lookAtItems_3 l s0 G ca d C S w0 p mk mka v1 v2 v3 (v4 + 1) M Q X)
set_option maxRecDepth 100000 in
theorem zs_X4_lookAtItems_33 {l : Launch} {s0 : State} {a0 : Array Value} {G : va_G} {ca : Nat → ClassId} (Γ : rt_Γ l s0 a0 G ca) {d : Nat} {C : Nat × Nat} {S : zS} (hd : 2 ≤ d) (hok : zok C) {p : Int} {mk : Int} {mka : Int} (hs : zSok S) (hp : zSc S p) (hmk : zCe S mk mka 4096) (hs55 : S 55 = some (0, 4, [(3, 1), (3, p), (3, mk), (0, 0), (0, 0), (0, 0), (0, 0), (0, 0)])) {w0 : rt_Wd} {v1 : Int} {v2 : Int} {v3 : Int} {v4 : Int}   {M : zM} {Q : Int → zM → Prop} {X : zM → Prop} (h : zt_X4_lookAtItems_33 l s0 G ca d C S w0 p mk mka v1 v2 v3 v4 M Q X) : zg_X4_lookAtItems_33 l s0 G ca d C S w0 p mk mka v1 v2 v3 v4 M Q X := by
  unfold zt_X4_lookAtItems_33 at h
  refine z_aload_n dX4_lookAtItems_33 rfl (j := 0) rfl ?_
  refine z_get Γ kf_RX4_15 dX4_lookAtItems_34 (by decide) hs55 rfl (by decide) (v9 := M 55 6) rfl ?_
  refine z_if_ne (tgt := 55) (x' := w32 (M 55 6)) rfl dX4_lookAtItems_37 (by decide) (fun c37 => ?_) (fun c37 => ?_)
  · replace h := h.2 c37
    refine z_iinc (lv' := [(4, zv s0 0 (v4 + 1)), (0, zv s0 2 55), (1, zv s0 0 v1), (2, zv s0 0 v2), (3, zv s0 0 v3)]) dX4_lookAtItems_55 (j := 4) rfl (by decide) (by simp [zv_cat0, zv_cat1, zv_cat2, zv_cats]) ?_
    refine rt_goto (tgt := 3) dX4_lookAtItems_58 (by decide) ?_
    exact rt_lfew [1, 2, 3, 4, 0] rfl h
  · replace h := h.1 c37
    refine z_aload_n dX4_lookAtItems_40 rfl (j := 0) rfl ?_
    refine z_aload_n dX4_lookAtItems_41 rfl (j := 0) rfl ?_
    refine z_getc Γ kf_RX4_31 dX4_lookAtItems_42 (by decide) hs55 rfl ?_
    refine z_iload_n dX4_lookAtItems_45 rfl (j := 1) rfl ?_
    refine z_callV Γ kk_X6_item kc_RX4_150 (As := [zv s0 0 v1]) (z_X6_item (d := d - 1) Γ (by omega) hok hp (M := M) (Q := fun v9 M9 => v9 = ((zat M (p + 6) 134 v1)) ∧ M9 = M) (X := X) (show _ ∧ _ from ⟨rfl, rfl⟩)) (by omega) (by decide) (show (parseMethodDescriptor yX6_item.desc).map (fun q => q.parameters.length) = some 1 by decide +kernel) hok (by simp only [List.map, zv_cat0, zv_cat1, zv_cat2, List.sum_cons, List.sum_nil]; decide) dX4_lookAtItems_46 hp.1 hp.2.1 rfl rfl (fun _ h9 => nomatch h9) ?_
    rintro v9 M9 ⟨e9, e8⟩
    rw [e9, e8]
    clear e9 e8 v9 M9
    show rt_Go _ _ _ _ _ _ _ _ _ _ _ _ 49 [(0, zv s0 2 55), (1, zv s0 0 v1), (2, zv s0 0 v2), (3, zv s0 0 v3), (4, zv s0 0 v4)] [zv s0 0 (((zat M (p + 6) 134 v1))), zv s0 2 55] (zw s0 ca C S M)
    refine z_iload_n dX4_lookAtItems_49 rfl (j := 3) rfl ?_
    refine z_iconst dX4_lookAtItems_50 ?_
    refine z_iadd dX4_lookAtItems_51 ?_
    refine z_callV Γ kk_X4_look kc_RX4_61 (As := [zv s0 0 (((zat M (p + 6) 134 v1))), zv s0 0 (v3 + 1)]) h (by omega) (by decide) (show (parseMethodDescriptor yX4_look.desc).map (fun q => q.parameters.length) = some 2 by decide +kernel) hok (Nat.zero_le _) dX4_lookAtItems_52 (by decide) hs55 rfl rfl (fun _ h9 => nomatch h9) ?_
    clear h
    intro r52 M52 h
    show rt_Go _ _ _ _ _ _ _ _ _ _ _ _ 55 [(0, zv s0 2 55), (1, zv s0 0 v1), (2, zv s0 0 v2), (3, zv s0 0 v3), (4, zv s0 0 v4)] [] (zw s0 ca C S M52)
    refine z_iinc (lv' := [(4, zv s0 0 (v4 + 1)), (0, zv s0 2 55), (1, zv s0 0 v1), (2, zv s0 0 v2), (3, zv s0 0 v3)]) dX4_lookAtItems_55 (j := 4) rfl (by decide) (by simp [zv_cat0, zv_cat1, zv_cat2, zv_cats]) ?_
    refine rt_goto (tgt := 3) dX4_lookAtItems_58 (by decide) ?_
    exact rt_lfew [1, 2, 3, 4, 0] rfl h

def zt_X4_lookAtItems_3 (l : Launch) (s0 : State) (G : va_G) (ca : Nat → ClassId) (d : Nat) (C : Nat × Nat) (S : zS) (w0 : rt_Wd) (p : Int) (mk : Int) (mka : Int) (v1 : Int) (v2 : Int) (v3 : Int) (v4 : Int)  (M : zM) (Q : Int → zM → Prop) (X : zM → Prop) : Prop :=
  zIf (w32 v2 ≤ w32 v4) (Q 0 M) (zIf (w32 (M 55 6) = 0) (zIf (w32 (((zat M (p + 2) 134 v1))) = 7) (zm_X4_lookAtString l s0 G ca (d - 1) C S  M (fun r30 M30 => zt_X4_lookAtItems_33 l s0 G ca d C S w0 p mk mka v1 v2 v3 v4 M30 Q X) X) (zt_X4_lookAtItems_33 l s0 G ca d C S w0 p mk mka v1 v2 v3 v4 M Q X)) (Q 0 M))
set_option maxRecDepth 100000 in
theorem zs_X4_lookAtItems_3 {l : Launch} {s0 : State} {a0 : Array Value} {G : va_G} {ca : Nat → ClassId} (Γ : rt_Γ l s0 a0 G ca) {d : Nat} {C : Nat × Nat} {S : zS} (hd : 2 ≤ d) (hok : zok C) {p : Int} {mk : Int} {mka : Int} (hs : zSok S) (hp : zSc S p) (hmk : zCe S mk mka 4096) (hs55 : S 55 = some (0, 4, [(3, 1), (3, p), (3, mk), (0, 0), (0, 0), (0, 0), (0, 0), (0, 0)])) {w0 : rt_Wd} {v1 : Int} {v2 : Int} {v3 : Int} {v4 : Int}   {M : zM} {Q : Int → zM → Prop} {X : zM → Prop} (h : zt_X4_lookAtItems_3 l s0 G ca d C S w0 p mk mka v1 v2 v3 v4 M Q X) : zg_X4_lookAtItems_3 l s0 G ca d C S w0 p mk mka v1 v2 v3 v4 M Q X := by
  unfold zt_X4_lookAtItems_3 at h
  refine z_iload dX4_lookAtItems_3 (j := 4) rfl ?_
  refine z_iload_n dX4_lookAtItems_5 rfl (j := 2) rfl ?_
  refine z_icmp_ge (tgt := 61) (x' := w32 v4) (y' := w32 v2) rfl rfl dX4_lookAtItems_6 (by decide) (fun c6 => ?_) (fun c6 => ?_)
  · replace h := h.1 c6
    exact z_vret dX4_lookAtItems_61 rfl h
  · replace h := h.2 c6
    refine z_aload_n dX4_lookAtItems_9 rfl (j := 0) rfl ?_
    refine z_get Γ kf_RX4_15 dX4_lookAtItems_10 (by decide) hs55 rfl (by decide) (v9 := M 55 6) rfl ?_
    refine z_if_ne (tgt := 61) (x' := w32 (M 55 6)) rfl dX4_lookAtItems_13 (by decide) (fun c13 => ?_) (fun c13 => ?_)
    · replace h := h.2 c13
      exact z_vret dX4_lookAtItems_61 rfl h
    · replace h := h.1 c13
      refine z_aload_n dX4_lookAtItems_16 rfl (j := 0) rfl ?_
      refine z_getc Γ kf_RX4_31 dX4_lookAtItems_17 (by decide) hs55 rfl ?_
      refine z_iload_n dX4_lookAtItems_20 rfl (j := 1) rfl ?_
      refine z_callV Γ kk_X6_kind kc_RX4_69 (As := [zv s0 0 v1]) (z_X6_kind (d := d - 1) Γ (by omega) hok hp (M := M) (Q := fun v9 M9 => v9 = ((zat M (p + 2) 134 v1)) ∧ M9 = M) (X := X) (show _ ∧ _ from ⟨rfl, rfl⟩)) (by omega) (by decide) (show (parseMethodDescriptor yX6_kind.desc).map (fun q => q.parameters.length) = some 1 by decide +kernel) hok (Nat.zero_le _) dX4_lookAtItems_21 hp.1 hp.2.1 rfl rfl (fun _ h9 => nomatch h9) ?_
      rintro v9 M9 ⟨e9, e8⟩
      rw [e9, e8]
      clear e9 e8 v9 M9
      show rt_Go _ _ _ _ _ _ _ _ _ _ _ _ 24 [(0, zv s0 2 55), (1, zv s0 0 v1), (2, zv s0 0 v2), (3, zv s0 0 v3), (4, zv s0 0 v4)] [zv s0 0 (((zat M (p + 2) 134 v1)))] (zw s0 ca C S M)
      refine z_bipush dX4_lookAtItems_24 (by decide) ?_
      refine z_icmp_ne (tgt := 33) (x' := w32 (((zat M (p + 2) 134 v1)))) (y' := 7) rfl (by decide) dX4_lookAtItems_26 (by decide) (fun c26 => ?_) (fun c26 => ?_)
      · replace h := h.2 c26
        exact rt_lfew [0, 1, 2, 3, 4] rfl (zs_X4_lookAtItems_33 Γ hd hok hs hp hmk hs55  h)
      · replace h := h.1 c26
        refine z_aload_n dX4_lookAtItems_29 rfl (j := 0) rfl ?_
        refine z_callV Γ kk_X4_lookAtString kc_RX4_80 (As := []) h (by omega) (by decide) (show (parseMethodDescriptor yX4_lookAtString.desc).map (fun q => q.parameters.length) = some 0 by decide +kernel) hok (Nat.zero_le _) dX4_lookAtItems_30 (by decide) hs55 rfl rfl (fun _ h9 => nomatch h9) ?_
        clear h
        intro r30 M30 h
        show rt_Go _ _ _ _ _ _ _ _ _ _ _ _ 33 [(0, zv s0 2 55), (1, zv s0 0 v1), (2, zv s0 0 v2), (3, zv s0 0 v3), (4, zv s0 0 v4)] [] (zw s0 ca C S M30)
        exact rt_lfew [0, 1, 2, 3, 4] rfl (zs_X4_lookAtItems_33 Γ hd hok hs hp hmk hs55  h)

def zt_X4_lookAtItems (l : Launch) (s0 : State) (G : va_G) (ca : Nat → ClassId) (d : Nat) (C : Nat × Nat) (S : zS) (w0 : rt_Wd) (p : Int) (mk : Int) (mka : Int) (s : Int) (k : Int) (e : Int) (M : zM) (Q : Int → zM → Prop) (X : zM → Prop) : Prop :=
  zg_X4_lookAtItems_3 l s0 G ca d C S w0 p mk mka s k e 0 M Q X
set_option maxRecDepth 100000 in
theorem z_X4_lookAtItems {l : Launch} {s0 : State} {a0 : Array Value} {G : va_G} {ca : Nat → ClassId} (Γ : rt_Γ l s0 a0 G ca) {d : Nat} {C : Nat × Nat} {S : zS} (hd : 2 ≤ d) (hok : zok C) {p : Int} {mk : Int} {mka : Int} (hs : zSok S) (hp : zSc S p) (hmk : zCe S mk mka 4096) (hs55 : S 55 = some (0, 4, [(3, 1), (3, p), (3, mk), (0, 0), (0, 0), (0, 0), (0, 0), (0, 0)])) {s : Int} {k : Int} {e : Int} {M : zM} {Q : Int → zM → Prop} {X : zM → Prop} (h : zt_X4_lookAtItems l s0 G ca d C S (zw s0 ca C S M) p mk mka s k e M Q X) : zm_X4_lookAtItems l s0 G ca d C S  s k e M Q X := by
  refine z_met (lv := [(0, zv s0 2 55), (1, zv s0 0 s), (2, zv s0 0 k), (3, zv s0 0 e)]) Γ kk_X4_lookAtItems rfl (show (lg_sl [zv s0 2 55, zv s0 0 s, zv s0 0 k, zv s0 0 e]).length ≤ 5 from by simp only [zn_0, zn_2, show (lg_sl []).length = 0 from rfl]; omega) (show lv_args 0 [zv s0 2 55, zv s0 0 s, zv s0 0 k, zv s0 0 e] = [(0, zv s0 2 55), (1, zv s0 0 s), (2, zv s0 0 k), (3, zv s0 0 e)] from by rw [zl_2, zl_0, zl_0, zl_0]; rfl) ?_
  unfold zt_X4_lookAtItems at h
  refine z_iconst dX4_lookAtItems_0 ?_
  refine z_istore (i := 4) (lv' := [(4, zv s0 0 0), (0, zv s0 2 55), (1, zv s0 0 s), (2, zv s0 0 k), (3, zv s0 0 e)]) dX4_lookAtItems_1 (by decide) (by simp [zv_cat0, zv_cat1, zv_cat2, zv_cats]) ?_
  exact rt_lfew [1, 2, 3, 4, 0] rfl h

def zt_X4_lookAtMeasuredItems (l : Launch) (s0 : State) (G : va_G) (ca : Nat → ClassId) (d : Nat) (C : Nat × Nat) (S : zS) (w0 : rt_Wd) (p : Int) (mk : Int) (mka : Int) (s : Int) (k : Int) (e : Int) (M : zM) (Q : Int → zM → Prop) (X : zM → Prop) : Prop :=
  zm_X4_varint l s0 G ca (d - 1) C S  M (fun r7 M7 => zm_X4_lookAtItems l s0 G ca (d - 1) C S s k e M7 (fun r22 M22 => zIf (w64 (w32 ((M22 55 3) - (M7 55 3))) = w64 r7) (Q 0 M22) (zm_X4_fail l s0 G ca (d - 1) C S 6 (M 55 3) M22 (fun r44 M44 => Q 0 M44) X)) X) X
set_option maxRecDepth 100000 in
theorem z_X4_lookAtMeasuredItems {l : Launch} {s0 : State} {a0 : Array Value} {G : va_G} {ca : Nat → ClassId} (Γ : rt_Γ l s0 a0 G ca) {d : Nat} {C : Nat × Nat} {S : zS} (hd : 1 ≤ d) (hok : zok C) {p : Int} {mk : Int} {mka : Int} (hs : zSok S) (hp : zSc S p) (hmk : zCe S mk mka 4096) (hs55 : S 55 = some (0, 4, [(3, 1), (3, p), (3, mk), (0, 0), (0, 0), (0, 0), (0, 0), (0, 0)])) {s : Int} {k : Int} {e : Int} {M : zM} {Q : Int → zM → Prop} {X : zM → Prop} (h : zt_X4_lookAtMeasuredItems l s0 G ca d C S (zw s0 ca C S M) p mk mka s k e M Q X) : zm_X4_lookAtMeasuredItems l s0 G ca d C S  s k e M Q X := by
  refine z_met (lv := [(0, zv s0 2 55), (1, zv s0 0 s), (2, zv s0 0 k), (3, zv s0 0 e)]) Γ kk_X4_lookAtMeasuredItems rfl (show (lg_sl [zv s0 2 55, zv s0 0 s, zv s0 0 k, zv s0 0 e]).length ≤ 8 from by simp only [zn_0, zn_2, show (lg_sl []).length = 0 from rfl]; omega) (show lv_args 0 [zv s0 2 55, zv s0 0 s, zv s0 0 k, zv s0 0 e] = [(0, zv s0 2 55), (1, zv s0 0 s), (2, zv s0 0 k), (3, zv s0 0 e)] from by rw [zl_2, zl_0, zl_0, zl_0]; rfl) ?_
  unfold zt_X4_lookAtMeasuredItems at h
  refine z_aload_n dX4_lookAtMeasuredItems_0 rfl (j := 0) rfl ?_
  refine z_get Γ kf_RX4_18 dX4_lookAtMeasuredItems_1 (by decide) hs55 rfl (by decide) (v9 := M 55 3) rfl ?_
  refine z_istore (i := 4) (lv' := [(4, zv s0 0 (M 55 3)), (0, zv s0 2 55), (1, zv s0 0 s), (2, zv s0 0 k), (3, zv s0 0 e)]) dX4_lookAtMeasuredItems_4 (by decide) (by simp [zv_cat0, zv_cat1, zv_cat2, zv_cats]) ?_
  refine z_aload_n dX4_lookAtMeasuredItems_6 rfl (j := 1) rfl ?_
  refine z_callV Γ kk_X4_varint kc_RX4_110 (As := []) h (by omega) (by decide) (show (parseMethodDescriptor yX4_varint.desc).map (fun q => q.parameters.length) = some 0 by decide +kernel) hok (Nat.zero_le _) dX4_lookAtMeasuredItems_7 (by decide) hs55 rfl rfl (fun _ h9 => nomatch h9) ?_
  clear h
  intro r7 M7 h
  show rt_Go _ _ _ _ _ _ _ _ _ _ _ _ 10 [(4, zv s0 0 (M 55 3)), (0, zv s0 2 55), (1, zv s0 0 s), (2, zv s0 0 k), (3, zv s0 0 e)] [zv s0 1 r7] (zw s0 ca C S M7)
  refine z_lstore (i := 5) (lv' := [(5, zv s0 1 r7), (4, zv s0 0 (M 55 3)), (0, zv s0 2 55), (1, zv s0 0 s), (2, zv s0 0 k), (3, zv s0 0 e)]) dX4_lookAtMeasuredItems_10 (by decide) (by simp [zv_cat0, zv_cat1, zv_cat2, zv_cats]) ?_
  refine z_aload_n dX4_lookAtMeasuredItems_12 rfl (j := 2) rfl ?_
  refine z_get Γ kf_RX4_18 dX4_lookAtMeasuredItems_13 (by decide) hs55 rfl (by decide) (v9 := M7 55 3) rfl ?_
  refine z_istore (i := 7) (lv' := [(7, zv s0 0 (M7 55 3)), (5, zv s0 1 r7), (4, zv s0 0 (M 55 3)), (0, zv s0 2 55), (1, zv s0 0 s), (2, zv s0 0 k), (3, zv s0 0 e)]) dX4_lookAtMeasuredItems_16 (by decide) (by simp [zv_cat0, zv_cat1, zv_cat2, zv_cats]) ?_
  refine z_aload_n dX4_lookAtMeasuredItems_18 rfl (j := 3) rfl ?_
  refine z_iload_n dX4_lookAtMeasuredItems_19 rfl (j := 4) rfl ?_
  refine z_iload_n dX4_lookAtMeasuredItems_20 rfl (j := 5) rfl ?_
  refine z_iload_n dX4_lookAtMeasuredItems_21 rfl (j := 6) rfl ?_
  refine z_callV Γ kk_X4_lookAtItems kc_RX4_140 (As := [zv s0 0 s, zv s0 0 k, zv s0 0 e]) h (by omega) (by decide) (show (parseMethodDescriptor yX4_lookAtItems.desc).map (fun q => q.parameters.length) = some 3 by decide +kernel) hok (Nat.zero_le _) dX4_lookAtMeasuredItems_22 (by decide) hs55 rfl rfl (fun _ h9 => nomatch h9) ?_
  clear h
  intro r22 M22 h
  show rt_Go _ _ _ _ _ _ _ _ _ _ _ _ 25 [(7, zv s0 0 (M7 55 3)), (5, zv s0 1 r7), (4, zv s0 0 (M 55 3)), (0, zv s0 2 55), (1, zv s0 0 s), (2, zv s0 0 k), (3, zv s0 0 e)] [] (zw s0 ca C S M22)
  refine z_aload_n dX4_lookAtMeasuredItems_25 rfl (j := 3) rfl ?_
  refine z_get Γ kf_RX4_18 dX4_lookAtMeasuredItems_26 (by decide) hs55 rfl (by decide) (v9 := M22 55 3) rfl ?_
  refine z_iload dX4_lookAtMeasuredItems_29 (j := 0) rfl ?_
  refine z_isub dX4_lookAtMeasuredItems_31 ?_
  refine z_i2l dX4_lookAtMeasuredItems_32 ?_
  refine z_lload dX4_lookAtMeasuredItems_33 (j := 1) rfl ?_
  refine z_lif_eq (tgt := 47) (x' := w64 (w32 ((M22 55 3) - (M7 55 3)))) (y' := w64 r7) rfl rfl dX4_lookAtMeasuredItems_35 dX4_lookAtMeasuredItems_36 (by decide) (fun c35 => ?_) (fun c35 => ?_)
  · replace h := h.1 c35
    exact z_vret dX4_lookAtMeasuredItems_47 rfl h
  · replace h := h.2 c35
    refine z_aload_n dX4_lookAtMeasuredItems_39 rfl (j := 3) rfl ?_
    refine z_bipush dX4_lookAtMeasuredItems_40 (by decide) ?_
    refine z_iload dX4_lookAtMeasuredItems_42 (j := 2) rfl ?_
    refine z_callV Γ kk_X4_fail kc_RX4_66 (As := [zv s0 0 6, zv s0 0 (M 55 3)]) h (by omega) (by decide) (show (parseMethodDescriptor yX4_fail.desc).map (fun q => q.parameters.length) = some 2 by decide +kernel) hok (Nat.zero_le _) dX4_lookAtMeasuredItems_44 (by decide) hs55 rfl rfl (fun _ h9 => nomatch h9) ?_
    clear h
    intro r44 M44 h
    show rt_Go _ _ _ _ _ _ _ _ _ _ _ _ 47 [(7, zv s0 0 (M7 55 3)), (5, zv s0 1 r7), (4, zv s0 0 (M 55 3)), (0, zv s0 2 55), (1, zv s0 0 s), (2, zv s0 0 k), (3, zv s0 0 e)] [] (zw s0 ca C S M44)
    exact z_vret dX4_lookAtMeasuredItems_47 rfl h

def zt_X4_lookAtUnion (l : Launch) (s0 : State) (G : va_G) (ca : Nat → ClassId) (d : Nat) (C : Nat × Nat) (S : zS) (w0 : rt_Wd) (p : Int) (mk : Int) (mka : Int) (s : Int) (e : Int) (M : zM) (Q : Int → zM → Prop) (X : zM → Prop) : Prop :=
  zm_X4_lookAtChoice l s0 G ca (d - 1) C S s 4 M (fun r3 M3 => zIf (w32 (M3 55 6) = 0) (zm_X4_look l s0 G ca (d - 1) C S ((zf_X6_branch M3 p s r3)) (e + 1) M3 (fun r27 M27 => Q 0 M27) X) (Q 0 M3)) X
set_option maxRecDepth 100000 in
theorem z_X4_lookAtUnion {l : Launch} {s0 : State} {a0 : Array Value} {G : va_G} {ca : Nat → ClassId} (Γ : rt_Γ l s0 a0 G ca) {d : Nat} {C : Nat × Nat} {S : zS} (hd : 2 ≤ d) (hok : zok C) {p : Int} {mk : Int} {mka : Int} (hs : zSok S) (hp : zSc S p) (hmk : zCe S mk mka 4096) (hs55 : S 55 = some (0, 4, [(3, 1), (3, p), (3, mk), (0, 0), (0, 0), (0, 0), (0, 0), (0, 0)])) {s : Int} {e : Int} {M : zM} {Q : Int → zM → Prop} {X : zM → Prop} (h : zt_X4_lookAtUnion l s0 G ca d C S (zw s0 ca C S M) p mk mka s e M Q X) : zm_X4_lookAtUnion l s0 G ca d C S  s e M Q X := by
  refine z_met (lv := [(0, zv s0 2 55), (1, zv s0 0 s), (2, zv s0 0 e)]) Γ kk_X4_lookAtUnion rfl (show (lg_sl [zv s0 2 55, zv s0 0 s, zv s0 0 e]).length ≤ 4 from by simp only [zn_0, zn_2, show (lg_sl []).length = 0 from rfl]; omega) (show lv_args 0 [zv s0 2 55, zv s0 0 s, zv s0 0 e] = [(0, zv s0 2 55), (1, zv s0 0 s), (2, zv s0 0 e)] from by rw [zl_2, zl_0, zl_0]; rfl) ?_
  unfold zt_X4_lookAtUnion at h
  refine z_aload_n dX4_lookAtUnion_0 rfl (j := 0) rfl ?_
  refine z_iload_n dX4_lookAtUnion_1 rfl (j := 1) rfl ?_
  refine z_iconst dX4_lookAtUnion_2 ?_
  refine z_callV Γ kk_X4_lookAtChoice kc_RX4_90 (As := [zv s0 0 s, zv s0 0 4]) h (by omega) (by decide) (show (parseMethodDescriptor yX4_lookAtChoice.desc).map (fun q => q.parameters.length) = some 2 by decide +kernel) hok (Nat.zero_le _) dX4_lookAtUnion_3 (by decide) hs55 rfl rfl (fun _ h9 => nomatch h9) ?_
  clear h
  intro r3 M3 h
  show rt_Go _ _ _ _ _ _ _ _ _ _ _ _ 6 [(0, zv s0 2 55), (1, zv s0 0 s), (2, zv s0 0 e)] [zv s0 0 r3] (zw s0 ca C S M3)
  refine z_istore_n (i := 3) (lv' := [(3, zv s0 0 r3), (0, zv s0 2 55), (1, zv s0 0 s), (2, zv s0 0 e)]) dX4_lookAtUnion_6 rfl (by decide) (by simp [zv_cat0, zv_cat1, zv_cat2, zv_cats]) ?_
  refine z_aload_n dX4_lookAtUnion_7 rfl (j := 1) rfl ?_
  refine z_get Γ kf_RX4_15 dX4_lookAtUnion_8 (by decide) hs55 rfl (by decide) (v9 := M3 55 6) rfl ?_
  refine z_if_ne (tgt := 30) (x' := w32 (M3 55 6)) rfl dX4_lookAtUnion_11 (by decide) (fun c11 => ?_) (fun c11 => ?_)
  · replace h := h.2 c11
    exact z_vret dX4_lookAtUnion_30 rfl h
  · replace h := h.1 c11
    refine z_aload_n dX4_lookAtUnion_14 rfl (j := 1) rfl ?_
    refine z_aload_n dX4_lookAtUnion_15 rfl (j := 1) rfl ?_
    refine z_getc Γ kf_RX4_31 dX4_lookAtUnion_16 (by decide) hs55 rfl ?_
    refine z_iload_n dX4_lookAtUnion_19 rfl (j := 2) rfl ?_
    refine z_iload_n dX4_lookAtUnion_20 rfl (j := 0) rfl ?_
    refine z_callV Γ kk_X6_branch kc_RX4_125 (As := [zv s0 0 s, zv s0 0 r3]) (k_X6_branch (d := d - 1) Γ (by omega) hok hp (M := M3) (Q := fun v9 M9 => v9 = (zf_X6_branch M3 p s r3) ∧ M9 = M3) (X := X) (show _ ∧ _ from ⟨rfl, rfl⟩)) (by omega) (by decide) (show (parseMethodDescriptor yX6_branch.desc).map (fun q => q.parameters.length) = some 2 by decide +kernel) hok (by simp only [List.map, zv_cat0, zv_cat1, zv_cat2, List.sum_cons, List.sum_nil]; decide) dX4_lookAtUnion_21 hp.1 hp.2.1 rfl rfl (fun _ h9 => nomatch h9) ?_
    rintro v9 M9 ⟨e9, e8⟩
    rw [e9, e8]
    clear e9 e8 v9 M9
    show rt_Go _ _ _ _ _ _ _ _ _ _ _ _ 24 [(3, zv s0 0 r3), (0, zv s0 2 55), (1, zv s0 0 s), (2, zv s0 0 e)] [zv s0 0 ((zf_X6_branch M3 p s r3)), zv s0 2 55] (zw s0 ca C S M3)
    refine z_iload_n dX4_lookAtUnion_24 rfl (j := 3) rfl ?_
    refine z_iconst dX4_lookAtUnion_25 ?_
    refine z_iadd dX4_lookAtUnion_26 ?_
    refine z_callV Γ kk_X4_look kc_RX4_61 (As := [zv s0 0 ((zf_X6_branch M3 p s r3)), zv s0 0 (e + 1)]) h (by omega) (by decide) (show (parseMethodDescriptor yX4_look.desc).map (fun q => q.parameters.length) = some 2 by decide +kernel) hok (Nat.zero_le _) dX4_lookAtUnion_27 (by decide) hs55 rfl rfl (fun _ h9 => nomatch h9) ?_
    clear h
    intro r27 M27 h
    show rt_Go _ _ _ _ _ _ _ _ _ _ _ _ 30 [(3, zv s0 0 r3), (0, zv s0 2 55), (1, zv s0 0 s), (2, zv s0 0 e)] [] (zw s0 ca C S M27)
    exact z_vret dX4_lookAtUnion_30 rfl h

abbrev zg_X4_lookAtFields_2 (l : Launch) (s0 : State) (G : va_G) (ca : Nat → ClassId) (d : Nat) (C : Nat × Nat) (S : zS) (w0 : rt_Wd) (p : Int) (mk : Int) (mka : Int) (v1 : Int) (v2 : Int) (v3 : Int)  (M : zM) (Q : Int → zM → Prop) (X : zM → Prop) : Prop := rt_Go l s0 G RX4 "lookAtFields" cX4_lookAtFields 4 (Option.none : Option FieldType) [] d w0 (zQ s0 ca 9 C S Q X) 2 [(0, zv s0 2 55), (1, zv s0 0 v1), (2, zv s0 0 v2), (3, zv s0 0 v3)] [] (zw s0 ca C S M)
def zt_X4_lookAtFields_2 (l : Launch) (s0 : State) (G : va_G) (ca : Nat → ClassId) (d : Nat) (C : Nat × Nat) (S : zS) (w0 : rt_Wd) (p : Int) (mk : Int) (mka : Int) (v1 : Int) (v2 : Int) (v3 : Int)  (M : zM) (Q : Int → zM → Prop) (X : zM → Prop) : Prop :=
  zIf (w32 (((zat M (p + 12) 134 v1))) ≤ w32 v3) (Q 0 M) (zIf (w32 (M 55 6) = 0) (zm_X4_look l s0 G ca (d - 1) C S (((zat M (p + 14) 2048 ((((zat M (p + 10) 134 v1)) + v3))))) (v2 + 1) M (fun r41 M41 => zg_X4_lookAtFields_2 l s0 G ca d C S w0 p mk mka v1 v2 (v3 + 1) M41 Q X) X) (Q 0 M))
set_option maxRecDepth 100000 in
theorem zs_X4_lookAtFields_2 {l : Launch} {s0 : State} {a0 : Array Value} {G : va_G} {ca : Nat → ClassId} (Γ : rt_Γ l s0 a0 G ca) {d : Nat} {C : Nat × Nat} {S : zS} (hd : 2 ≤ d) (hok : zok C) {p : Int} {mk : Int} {mka : Int} (hs : zSok S) (hp : zSc S p) (hmk : zCe S mk mka 4096) (hs55 : S 55 = some (0, 4, [(3, 1), (3, p), (3, mk), (0, 0), (0, 0), (0, 0), (0, 0), (0, 0)])) {w0 : rt_Wd} {v1 : Int} {v2 : Int} {v3 : Int}   {M : zM} {Q : Int → zM → Prop} {X : zM → Prop} (h : zt_X4_lookAtFields_2 l s0 G ca d C S w0 p mk mka v1 v2 v3 M Q X) : zg_X4_lookAtFields_2 l s0 G ca d C S w0 p mk mka v1 v2 v3 M Q X := by
  unfold zt_X4_lookAtFields_2 at h
  refine z_iload_n dX4_lookAtFields_2 rfl (j := 3) rfl ?_
  refine z_aload_n dX4_lookAtFields_3 rfl (j := 0) rfl ?_
  refine z_getc Γ kf_RX4_31 dX4_lookAtFields_4 (by decide) hs55 rfl ?_
  refine z_iload_n dX4_lookAtFields_7 rfl (j := 1) rfl ?_
  refine z_callV Γ kk_X6_parts kc_RX4_122 (As := [zv s0 0 v1]) (z_X6_parts (d := d - 1) Γ (by omega) hok hp (M := M) (Q := fun v9 M9 => v9 = ((zat M (p + 12) 134 v1)) ∧ M9 = M) (X := X) (show _ ∧ _ from ⟨rfl, rfl⟩)) (by omega) (by decide) (show (parseMethodDescriptor yX6_parts.desc).map (fun q => q.parameters.length) = some 1 by decide +kernel) hok (by simp only [List.map, zv_cat0, zv_cat1, zv_cat2, List.sum_cons, List.sum_nil]; decide) dX4_lookAtFields_8 hp.1 hp.2.1 rfl rfl (fun _ h9 => nomatch h9) ?_
  rintro v9 M9 ⟨e9, e8⟩
  rw [e9, e8]
  clear e9 e8 v9 M9
  show rt_Go _ _ _ _ _ _ _ _ _ _ _ _ 11 [(0, zv s0 2 55), (1, zv s0 0 v1), (2, zv s0 0 v2), (3, zv s0 0 v3)] [zv s0 0 (((zat M (p + 12) 134 v1))), zv s0 0 v3] (zw s0 ca C S M)
  refine z_icmp_ge (tgt := 50) (x' := w32 v3) (y' := w32 (((zat M (p + 12) 134 v1)))) rfl rfl dX4_lookAtFields_11 (by decide) (fun c11 => ?_) (fun c11 => ?_)
  · replace h := h.1 c11
    exact z_vret dX4_lookAtFields_50 rfl h
  · replace h := h.2 c11
    refine z_aload_n dX4_lookAtFields_14 rfl (j := 0) rfl ?_
    refine z_get Γ kf_RX4_15 dX4_lookAtFields_15 (by decide) hs55 rfl (by decide) (v9 := M 55 6) rfl ?_
    refine z_if_ne (tgt := 50) (x' := w32 (M 55 6)) rfl dX4_lookAtFields_18 (by decide) (fun c18 => ?_) (fun c18 => ?_)
    · replace h := h.2 c18
      exact z_vret dX4_lookAtFields_50 rfl h
    · replace h := h.1 c18
      refine z_aload_n dX4_lookAtFields_21 rfl (j := 0) rfl ?_
      refine z_aload_n dX4_lookAtFields_22 rfl (j := 0) rfl ?_
      refine z_getc Γ kf_RX4_31 dX4_lookAtFields_23 (by decide) hs55 rfl ?_
      refine z_aload_n dX4_lookAtFields_26 rfl (j := 0) rfl ?_
      refine z_getc Γ kf_RX4_31 dX4_lookAtFields_27 (by decide) hs55 rfl ?_
      refine z_iload_n dX4_lookAtFields_30 rfl (j := 1) rfl ?_
      refine z_iload_n dX4_lookAtFields_31 rfl (j := 3) rfl ?_
      refine z_callV Γ kk_X6_part kc_RX4_128 (As := [zv s0 0 v1, zv s0 0 v3]) (z_X6_part (d := d - 1) Γ (by omega) hok hp (M := M) (Q := fun v9 M9 => v9 = (((zat M (p + 10) 134 v1)) + v3) ∧ M9 = M) (X := X) (show _ ∧ _ from ⟨rfl, rfl⟩)) (by omega) (by decide) (show (parseMethodDescriptor yX6_part.desc).map (fun q => q.parameters.length) = some 2 by decide +kernel) hok (by simp only [List.map, zv_cat0, zv_cat1, zv_cat2, List.sum_cons, List.sum_nil]; decide) dX4_lookAtFields_32 hp.1 hp.2.1 rfl rfl (fun _ h9 => nomatch h9) ?_
      rintro v9 M9 ⟨e9, e8⟩
      rw [e9, e8]
      clear e9 e8 v9 M9
      show rt_Go _ _ _ _ _ _ _ _ _ _ _ _ 35 [(0, zv s0 2 55), (1, zv s0 0 v1), (2, zv s0 0 v2), (3, zv s0 0 v3)] [zv s0 0 ((((zat M (p + 10) 134 v1)) + v3)), zv s0 2 p, zv s0 2 55] (zw s0 ca C S M)
      refine z_callV Γ kk_X6_partNode kc_RX4_131 (As := [zv s0 0 ((((zat M (p + 10) 134 v1)) + v3))]) (z_X6_partNode (d := d - 1) Γ (by omega) hok hp (M := M) (Q := fun v9 M9 => v9 = ((zat M (p + 14) 2048 ((((zat M (p + 10) 134 v1)) + v3)))) ∧ M9 = M) (X := X) (show _ ∧ _ from ⟨rfl, rfl⟩)) (by omega) (by decide) (show (parseMethodDescriptor yX6_partNode.desc).map (fun q => q.parameters.length) = some 1 by decide +kernel) hok (by simp only [List.map, zv_cat0, zv_cat1, zv_cat2, List.sum_cons, List.sum_nil]; decide) dX4_lookAtFields_35 hp.1 hp.2.1 rfl rfl (fun _ h9 => nomatch h9) ?_
      rintro v9 M9 ⟨e9, e8⟩
      rw [e9, e8]
      clear e9 e8 v9 M9
      show rt_Go _ _ _ _ _ _ _ _ _ _ _ _ 38 [(0, zv s0 2 55), (1, zv s0 0 v1), (2, zv s0 0 v2), (3, zv s0 0 v3)] [zv s0 0 (((zat M (p + 14) 2048 ((((zat M (p + 10) 134 v1)) + v3))))), zv s0 2 55] (zw s0 ca C S M)
      refine z_iload_n dX4_lookAtFields_38 rfl (j := 2) rfl ?_
      refine z_iconst dX4_lookAtFields_39 ?_
      refine z_iadd dX4_lookAtFields_40 ?_
      refine z_callV Γ kk_X4_look kc_RX4_61 (As := [zv s0 0 (((zat M (p + 14) 2048 ((((zat M (p + 10) 134 v1)) + v3))))), zv s0 0 (v2 + 1)]) h (by omega) (by decide) (show (parseMethodDescriptor yX4_look.desc).map (fun q => q.parameters.length) = some 2 by decide +kernel) hok (Nat.zero_le _) dX4_lookAtFields_41 (by decide) hs55 rfl rfl (fun _ h9 => nomatch h9) ?_
      clear h
      intro r41 M41 h
      show rt_Go _ _ _ _ _ _ _ _ _ _ _ _ 44 [(0, zv s0 2 55), (1, zv s0 0 v1), (2, zv s0 0 v2), (3, zv s0 0 v3)] [] (zw s0 ca C S M41)
      refine z_iinc (lv' := [(3, zv s0 0 (v3 + 1)), (0, zv s0 2 55), (1, zv s0 0 v1), (2, zv s0 0 v2)]) dX4_lookAtFields_44 (j := 3) rfl (by decide) (by simp [zv_cat0, zv_cat1, zv_cat2, zv_cats]) ?_
      refine rt_goto (tgt := 2) dX4_lookAtFields_47 (by decide) ?_
      exact rt_lfew [1, 2, 3, 0] rfl h

def zt_X4_lookAtFields (l : Launch) (s0 : State) (G : va_G) (ca : Nat → ClassId) (d : Nat) (C : Nat × Nat) (S : zS) (w0 : rt_Wd) (p : Int) (mk : Int) (mka : Int) (s : Int) (e : Int) (M : zM) (Q : Int → zM → Prop) (X : zM → Prop) : Prop :=
  zg_X4_lookAtFields_2 l s0 G ca d C S w0 p mk mka s e 0 M Q X
set_option maxRecDepth 100000 in
theorem z_X4_lookAtFields {l : Launch} {s0 : State} {a0 : Array Value} {G : va_G} {ca : Nat → ClassId} (Γ : rt_Γ l s0 a0 G ca) {d : Nat} {C : Nat × Nat} {S : zS} (hd : 2 ≤ d) (hok : zok C) {p : Int} {mk : Int} {mka : Int} (hs : zSok S) (hp : zSc S p) (hmk : zCe S mk mka 4096) (hs55 : S 55 = some (0, 4, [(3, 1), (3, p), (3, mk), (0, 0), (0, 0), (0, 0), (0, 0), (0, 0)])) {s : Int} {e : Int} {M : zM} {Q : Int → zM → Prop} {X : zM → Prop} (h : zt_X4_lookAtFields l s0 G ca d C S (zw s0 ca C S M) p mk mka s e M Q X) : zm_X4_lookAtFields l s0 G ca d C S  s e M Q X := by
  refine z_met (lv := [(0, zv s0 2 55), (1, zv s0 0 s), (2, zv s0 0 e)]) Γ kk_X4_lookAtFields rfl (show (lg_sl [zv s0 2 55, zv s0 0 s, zv s0 0 e]).length ≤ 4 from by simp only [zn_0, zn_2, show (lg_sl []).length = 0 from rfl]; omega) (show lv_args 0 [zv s0 2 55, zv s0 0 s, zv s0 0 e] = [(0, zv s0 2 55), (1, zv s0 0 s), (2, zv s0 0 e)] from by rw [zl_2, zl_0, zl_0]; rfl) ?_
  unfold zt_X4_lookAtFields at h
  refine z_iconst dX4_lookAtFields_0 ?_
  refine z_istore_n (i := 3) (lv' := [(3, zv s0 0 0), (0, zv s0 2 55), (1, zv s0 0 s), (2, zv s0 0 e)]) dX4_lookAtFields_1 rfl (by decide) (by simp [zv_cat0, zv_cat1, zv_cat2, zv_cats]) ?_
  exact rt_lfew [1, 2, 3, 0] rfl h

def zt_X4_look (l : Launch) (s0 : State) (G : va_G) (ca : Nat → ClassId) (d : Nat) (C : Nat × Nat) (S : zS) (w0 : rt_Wd) (p : Int) (mk : Int) (mka : Int) (s : Int) (e : Int) (M : zM) (Q : Int → zM → Prop) (X : zM → Prop) : Prop :=
  zIf (w32 e < 32) (zIf (w32 (M 55 4) < 4000) (zIf (w32 (((zat ((zu M 55 4 ((M 55 4) + 1))) (p + 2) 134 s))) = 1) (zm_X4_lookAtBoolean l s0 G ca (d - 1) C S  ((zu M 55 4 ((M 55 4) + 1))) (fun r117 M117 => Q 0 M117) X) (zIf (w32 (((zat ((zu M 55 4 ((M 55 4) + 1))) (p + 2) 134 s))) = 2) (zIf (w32 (((zat ((zu M 55 4 ((M 55 4) + 1))) (p + 2) 134 s))) = 2) (zm_X4_lookAtNumber l s0 G ca (d - 1) C S 1 ((zu M 55 4 ((M 55 4) + 1))) (fun r139 M139 => Q 0 M139) X) (zm_X4_lookAtNumber l s0 G ca (d - 1) C S 0 ((zu M 55 4 ((M 55 4) + 1))) (fun r139 M139 => Q 0 M139) X)) (zIf (w32 (((zat ((zu M 55 4 ((M 55 4) + 1))) (p + 2) 134 s))) = 3) (zIf (w32 (((zat ((zu M 55 4 ((M 55 4) + 1))) (p + 2) 134 s))) = 2) (zm_X4_lookAtNumber l s0 G ca (d - 1) C S 1 ((zu M 55 4 ((M 55 4) + 1))) (fun r139 M139 => Q 0 M139) X) (zm_X4_lookAtNumber l s0 G ca (d - 1) C S 0 ((zu M 55 4 ((M 55 4) + 1))) (fun r139 M139 => Q 0 M139) X)) (zIf (w32 (((zat ((zu M 55 4 ((M 55 4) + 1))) (p + 2) 134 s))) = 4) (zm_X4_lookAtString l s0 G ca (d - 1) C S  ((zu M 55 4 ((M 55 4) + 1))) (fun r144 M144 => Q 0 M144) X) (zIf (w32 (((zat ((zu M 55 4 ((M 55 4) + 1))) (p + 2) 134 s))) = 5) (zm_X4_lookAtString l s0 G ca (d - 1) C S  ((zu M 55 4 ((M 55 4) + 1))) (fun r144 M144 => Q 0 M144) X) (zIf (w32 (((zat ((zu M 55 4 ((M 55 4) + 1))) (p + 2) 134 s))) = 6) (zm_X4_lookAtBlocks l s0 G ca (d - 1) C S s e ((zu M 55 4 ((M 55 4) + 1))) (fun r180 M180 => Q 0 M180) X) (zIf (w32 (((zat ((zu M 55 4 ((M 55 4) + 1))) (p + 2) 134 s))) = 7) (zm_X4_lookAtBlocks l s0 G ca (d - 1) C S s e ((zu M 55 4 ((M 55 4) + 1))) (fun r180 M180 => Q 0 M180) X) (zIf (w32 (((zat ((zu M 55 4 ((M 55 4) + 1))) (p + 2) 134 s))) = 8) (zm_X4_lookAtUnion l s0 G ca (d - 1) C S s e ((zu M 55 4 ((M 55 4) + 1))) (fun r173 M173 => Q 0 M173) X) (zIf (w32 (((zat ((zu M 55 4 ((M 55 4) + 1))) (p + 2) 134 s))) = 9) (zm_X4_takeBytes l s0 G ca (d - 1) C S (w32 (((zat ((zu M 55 4 ((M 55 4) + 1))) (p + 6) 134 s)))) ((zu M 55 4 ((M 55 4) + 1))) (fun r158 M158 => Q 0 M158) X) (zIf (w32 (((zat ((zu M 55 4 ((M 55 4) + 1))) (p + 2) 134 s))) = 10) (zm_X4_lookAtChoice l s0 G ca (d - 1) C S s 5 ((zu M 55 4 ((M 55 4) + 1))) (fun r165 M165 => Q 0 M165) X) (zIf (w32 (((zat ((zu M 55 4 ((M 55 4) + 1))) (p + 2) 134 s))) = 11) (zm_X4_lookAtFields l s0 G ca (d - 1) C S s e ((zu M 55 4 ((M 55 4) + 1))) (fun r187 M187 => Q 0 M187) X) (Q 0 ((zu M 55 4 ((M 55 4) + 1))))))))))))))) (zm_X4_fail l s0 G ca (d - 1) C S 8 (M 55 3) M (fun r34 M34 => Q 0 M34) X)) (zm_X4_fail l s0 G ca (d - 1) C S 7 (M 55 3) M (fun r13 M13 => Q 0 M13) X)
set_option maxRecDepth 100000 in
theorem z_X4_look {l : Launch} {s0 : State} {a0 : Array Value} {G : va_G} {ca : Nat → ClassId} (Γ : rt_Γ l s0 a0 G ca) {d : Nat} {C : Nat × Nat} {S : zS} (hd : 2 ≤ d) (hok : zok C) {p : Int} {mk : Int} {mka : Int} (hs : zSok S) (hp : zSc S p) (hmk : zCe S mk mka 4096) (hs55 : S 55 = some (0, 4, [(3, 1), (3, p), (3, mk), (0, 0), (0, 0), (0, 0), (0, 0), (0, 0)])) {s : Int} {e : Int} {M : zM} {Q : Int → zM → Prop} {X : zM → Prop} (h : zt_X4_look l s0 G ca d C S (zw s0 ca C S M) p mk mka s e M Q X) : zm_X4_look l s0 G ca d C S  s e M Q X := by
  refine z_met (lv := [(0, zv s0 2 55), (1, zv s0 0 s), (2, zv s0 0 e)]) Γ kk_X4_look rfl (show (lg_sl [zv s0 2 55, zv s0 0 s, zv s0 0 e]).length ≤ 3 from by simp only [zn_0, zn_2, show (lg_sl []).length = 0 from rfl]; omega) (show lv_args 0 [zv s0 2 55, zv s0 0 s, zv s0 0 e] = [(0, zv s0 2 55), (1, zv s0 0 s), (2, zv s0 0 e)] from by rw [zl_2, zl_0, zl_0]; rfl) ?_
  unfold zt_X4_look at h
  refine z_iload_n dX4_look_0 rfl (j := 2) rfl ?_
  refine z_bipush dX4_look_1 (by decide) ?_
  refine z_icmp_lt (tgt := 17) (x' := w32 e) (y' := 32) rfl (by decide) dX4_look_3 (by decide) (fun c3 => ?_) (fun c3 => ?_)
  · replace h := h.1 c3
    refine z_aload_n dX4_look_17 rfl (j := 0) rfl ?_
    refine z_get Γ kf_RX4_47 dX4_look_18 (by decide) hs55 rfl (by decide) (v9 := M 55 4) rfl ?_
    refine z_sipush dX4_look_21 (by decide) ?_
    refine z_icmp_lt (tgt := 38) (x' := w32 (M 55 4)) (y' := 4000) rfl (by decide) dX4_look_24 (by decide) (fun c24 => ?_) (fun c24 => ?_)
    · replace h := h.1 c24
      refine z_aload_n dX4_look_38 rfl (j := 0) rfl ?_
      refine z_dup2 dX4_look_39 ?_
      refine z_get Γ kf_RX4_47 dX4_look_40 (by decide) hs55 rfl (by decide) (v9 := M 55 4) rfl ?_
      refine z_iconst dX4_look_43 ?_
      refine z_iadd dX4_look_44 ?_
      refine z_put0 Γ kp_RX4_47 dX4_look_45 (by decide) hs55 rfl (k9 := 4) rfl ?_
      refine z_aload_n dX4_look_48 rfl (j := 0) rfl ?_
      refine z_getc Γ kf_RX4_31 dX4_look_49 (by decide) hs55 rfl ?_
      refine z_iload_n dX4_look_52 rfl (j := 1) rfl ?_
      refine z_callV Γ kk_X6_kind kc_RX4_69 (As := [zv s0 0 s]) (z_X6_kind (d := d - 1) Γ (by omega) hok hp (M := ((zu M 55 4 ((M 55 4) + 1)))) (Q := fun v9 M9 => v9 = ((zat ((zu M 55 4 ((M 55 4) + 1))) (p + 2) 134 s)) ∧ M9 = ((zu M 55 4 ((M 55 4) + 1)))) (X := X) (show _ ∧ _ from ⟨rfl, rfl⟩)) (by omega) (by decide) (show (parseMethodDescriptor yX6_kind.desc).map (fun q => q.parameters.length) = some 1 by decide +kernel) hok (Nat.zero_le _) dX4_look_53 hp.1 hp.2.1 rfl rfl (fun _ h9 => nomatch h9) ?_
      rintro v9 M9 ⟨e9, e8⟩
      rw [e9, e8]
      clear e9 e8 v9 M9
      show rt_Go _ _ _ _ _ _ _ _ _ _ _ _ 56 [(0, zv s0 2 55), (1, zv s0 0 s), (2, zv s0 0 e)] [zv s0 0 (((zat ((zu M 55 4 ((M 55 4) + 1))) (p + 2) 134 s)))] (zw s0 ca C S ((zu M 55 4 ((M 55 4) + 1))))
      by_cases c56_1 : w32 (((zat ((zu M 55 4 ((M 55 4) + 1))) (p + 2) 134 s))) = 1
      · replace h := h.1 c56_1
        refine z_tin c56_1 dX4_look_56 (by decide) (off := 60) (tgt := 116) (by decide) (by decide) ?_
        refine z_aload_n dX4_look_116 rfl (j := 0) rfl ?_
        refine z_callV Γ kk_X4_lookAtBoolean kc_RX4_73 (As := []) h (by omega) (by decide) (show (parseMethodDescriptor yX4_lookAtBoolean.desc).map (fun q => q.parameters.length) = some 0 by decide +kernel) hok (Nat.zero_le _) dX4_look_117 (by decide) hs55 rfl rfl (fun _ h9 => nomatch h9) ?_
        clear h
        intro r117 M117 h
        show rt_Go _ _ _ _ _ _ _ _ _ _ _ _ 120 [(0, zv s0 2 55), (1, zv s0 0 s), (2, zv s0 0 e)] [] (zw s0 ca C S M117)
        exact z_vret dX4_look_120 rfl h
      replace h := h.2 c56_1
      by_cases c56_2 : w32 (((zat ((zu M 55 4 ((M 55 4) + 1))) (p + 2) 134 s))) = 2
      · replace h := h.1 c56_2
        refine z_tin c56_2 dX4_look_56 (by decide) (off := 65) (tgt := 121) (by decide) (by decide) ?_
        refine z_aload_n dX4_look_121 rfl (j := 0) rfl ?_
        refine z_aload_n dX4_look_122 rfl (j := 0) rfl ?_
        refine z_getc Γ kf_RX4_31 dX4_look_123 (by decide) hs55 rfl ?_
        refine z_iload_n dX4_look_126 rfl (j := 1) rfl ?_
        refine z_callV Γ kk_X6_kind kc_RX4_69 (As := [zv s0 0 s]) (z_X6_kind (d := d - 1) Γ (by omega) hok hp (M := ((zu M 55 4 ((M 55 4) + 1)))) (Q := fun v9 M9 => v9 = ((zat ((zu M 55 4 ((M 55 4) + 1))) (p + 2) 134 s)) ∧ M9 = ((zu M 55 4 ((M 55 4) + 1)))) (X := X) (show _ ∧ _ from ⟨rfl, rfl⟩)) (by omega) (by decide) (show (parseMethodDescriptor yX6_kind.desc).map (fun q => q.parameters.length) = some 1 by decide +kernel) hok (by simp only [List.map, zv_cat0, zv_cat1, zv_cat2, List.sum_cons, List.sum_nil]; decide) dX4_look_127 hp.1 hp.2.1 rfl rfl (fun _ h9 => nomatch h9) ?_
        rintro v9 M9 ⟨e9, e8⟩
        rw [e9, e8]
        clear e9 e8 v9 M9
        show rt_Go _ _ _ _ _ _ _ _ _ _ _ _ 130 [(0, zv s0 2 55), (1, zv s0 0 s), (2, zv s0 0 e)] [zv s0 0 (((zat ((zu M 55 4 ((M 55 4) + 1))) (p + 2) 134 s))), zv s0 2 55] (zw s0 ca C S ((zu M 55 4 ((M 55 4) + 1))))
        refine z_iconst dX4_look_130 ?_
        refine z_icmp_ne (tgt := 138) (x' := w32 (((zat ((zu M 55 4 ((M 55 4) + 1))) (p + 2) 134 s)))) (y' := 2) rfl (by decide) dX4_look_131 (by decide) (fun c131 => ?_) (fun c131 => ?_)
        · replace h := h.2 c131
          refine z_iconst dX4_look_138 ?_
          refine z_callV Γ kk_X4_lookAtNumber kc_RX4_76 (As := [zv s0 0 0]) h (by omega) (by decide) (show (parseMethodDescriptor yX4_lookAtNumber.desc).map (fun q => q.parameters.length) = some 1 by decide +kernel) hok (Nat.zero_le _) dX4_look_139 (by decide) hs55 rfl rfl (fun _ h9 => nomatch h9) ?_
          clear h
          intro r139 M139 h
          show rt_Go _ _ _ _ _ _ _ _ _ _ _ _ 142 [(0, zv s0 2 55), (1, zv s0 0 s), (2, zv s0 0 e)] [] (zw s0 ca C S M139)
          exact z_vret dX4_look_142 rfl h
        · replace h := h.1 c131
          refine z_iconst dX4_look_134 ?_
          refine rt_goto (tgt := 139) dX4_look_135 (by decide) ?_
          refine z_callV Γ kk_X4_lookAtNumber kc_RX4_76 (As := [zv s0 0 1]) h (by omega) (by decide) (show (parseMethodDescriptor yX4_lookAtNumber.desc).map (fun q => q.parameters.length) = some 1 by decide +kernel) hok (Nat.zero_le _) dX4_look_139 (by decide) hs55 rfl rfl (fun _ h9 => nomatch h9) ?_
          clear h
          intro r139 M139 h
          show rt_Go _ _ _ _ _ _ _ _ _ _ _ _ 142 [(0, zv s0 2 55), (1, zv s0 0 s), (2, zv s0 0 e)] [] (zw s0 ca C S M139)
          exact z_vret dX4_look_142 rfl h
      replace h := h.2 c56_2
      by_cases c56_3 : w32 (((zat ((zu M 55 4 ((M 55 4) + 1))) (p + 2) 134 s))) = 3
      · replace h := h.1 c56_3
        refine z_tin c56_3 dX4_look_56 (by decide) (off := 65) (tgt := 121) (by decide) (by decide) ?_
        refine z_aload_n dX4_look_121 rfl (j := 0) rfl ?_
        refine z_aload_n dX4_look_122 rfl (j := 0) rfl ?_
        refine z_getc Γ kf_RX4_31 dX4_look_123 (by decide) hs55 rfl ?_
        refine z_iload_n dX4_look_126 rfl (j := 1) rfl ?_
        refine z_callV Γ kk_X6_kind kc_RX4_69 (As := [zv s0 0 s]) (z_X6_kind (d := d - 1) Γ (by omega) hok hp (M := ((zu M 55 4 ((M 55 4) + 1)))) (Q := fun v9 M9 => v9 = ((zat ((zu M 55 4 ((M 55 4) + 1))) (p + 2) 134 s)) ∧ M9 = ((zu M 55 4 ((M 55 4) + 1)))) (X := X) (show _ ∧ _ from ⟨rfl, rfl⟩)) (by omega) (by decide) (show (parseMethodDescriptor yX6_kind.desc).map (fun q => q.parameters.length) = some 1 by decide +kernel) hok (by simp only [List.map, zv_cat0, zv_cat1, zv_cat2, List.sum_cons, List.sum_nil]; decide) dX4_look_127 hp.1 hp.2.1 rfl rfl (fun _ h9 => nomatch h9) ?_
        rintro v9 M9 ⟨e9, e8⟩
        rw [e9, e8]
        clear e9 e8 v9 M9
        show rt_Go _ _ _ _ _ _ _ _ _ _ _ _ 130 [(0, zv s0 2 55), (1, zv s0 0 s), (2, zv s0 0 e)] [zv s0 0 (((zat ((zu M 55 4 ((M 55 4) + 1))) (p + 2) 134 s))), zv s0 2 55] (zw s0 ca C S ((zu M 55 4 ((M 55 4) + 1))))
        refine z_iconst dX4_look_130 ?_
        refine z_icmp_ne (tgt := 138) (x' := w32 (((zat ((zu M 55 4 ((M 55 4) + 1))) (p + 2) 134 s)))) (y' := 2) rfl (by decide) dX4_look_131 (by decide) (fun c131 => ?_) (fun c131 => ?_)
        · replace h := h.2 c131
          refine z_iconst dX4_look_138 ?_
          refine z_callV Γ kk_X4_lookAtNumber kc_RX4_76 (As := [zv s0 0 0]) h (by omega) (by decide) (show (parseMethodDescriptor yX4_lookAtNumber.desc).map (fun q => q.parameters.length) = some 1 by decide +kernel) hok (Nat.zero_le _) dX4_look_139 (by decide) hs55 rfl rfl (fun _ h9 => nomatch h9) ?_
          clear h
          intro r139 M139 h
          show rt_Go _ _ _ _ _ _ _ _ _ _ _ _ 142 [(0, zv s0 2 55), (1, zv s0 0 s), (2, zv s0 0 e)] [] (zw s0 ca C S M139)
          exact z_vret dX4_look_142 rfl h
        · replace h := h.1 c131
          refine z_iconst dX4_look_134 ?_
          refine rt_goto (tgt := 139) dX4_look_135 (by decide) ?_
          refine z_callV Γ kk_X4_lookAtNumber kc_RX4_76 (As := [zv s0 0 1]) h (by omega) (by decide) (show (parseMethodDescriptor yX4_lookAtNumber.desc).map (fun q => q.parameters.length) = some 1 by decide +kernel) hok (Nat.zero_le _) dX4_look_139 (by decide) hs55 rfl rfl (fun _ h9 => nomatch h9) ?_
          clear h
          intro r139 M139 h
          show rt_Go _ _ _ _ _ _ _ _ _ _ _ _ 142 [(0, zv s0 2 55), (1, zv s0 0 s), (2, zv s0 0 e)] [] (zw s0 ca C S M139)
          exact z_vret dX4_look_142 rfl h
      replace h := h.2 c56_3
      by_cases c56_4 : w32 (((zat ((zu M 55 4 ((M 55 4) + 1))) (p + 2) 134 s))) = 4
      · replace h := h.1 c56_4
        refine z_tin c56_4 dX4_look_56 (by decide) (off := 87) (tgt := 143) (by decide) (by decide) ?_
        refine z_aload_n dX4_look_143 rfl (j := 0) rfl ?_
        refine z_callV Γ kk_X4_lookAtString kc_RX4_80 (As := []) h (by omega) (by decide) (show (parseMethodDescriptor yX4_lookAtString.desc).map (fun q => q.parameters.length) = some 0 by decide +kernel) hok (Nat.zero_le _) dX4_look_144 (by decide) hs55 rfl rfl (fun _ h9 => nomatch h9) ?_
        clear h
        intro r144 M144 h
        show rt_Go _ _ _ _ _ _ _ _ _ _ _ _ 147 [(0, zv s0 2 55), (1, zv s0 0 s), (2, zv s0 0 e)] [] (zw s0 ca C S M144)
        exact z_vret dX4_look_147 rfl h
      replace h := h.2 c56_4
      by_cases c56_5 : w32 (((zat ((zu M 55 4 ((M 55 4) + 1))) (p + 2) 134 s))) = 5
      · replace h := h.1 c56_5
        refine z_tin c56_5 dX4_look_56 (by decide) (off := 87) (tgt := 143) (by decide) (by decide) ?_
        refine z_aload_n dX4_look_143 rfl (j := 0) rfl ?_
        refine z_callV Γ kk_X4_lookAtString kc_RX4_80 (As := []) h (by omega) (by decide) (show (parseMethodDescriptor yX4_lookAtString.desc).map (fun q => q.parameters.length) = some 0 by decide +kernel) hok (Nat.zero_le _) dX4_look_144 (by decide) hs55 rfl rfl (fun _ h9 => nomatch h9) ?_
        clear h
        intro r144 M144 h
        show rt_Go _ _ _ _ _ _ _ _ _ _ _ _ 147 [(0, zv s0 2 55), (1, zv s0 0 s), (2, zv s0 0 e)] [] (zw s0 ca C S M144)
        exact z_vret dX4_look_147 rfl h
      replace h := h.2 c56_5
      by_cases c56_6 : w32 (((zat ((zu M 55 4 ((M 55 4) + 1))) (p + 2) 134 s))) = 6
      · replace h := h.1 c56_6
        refine z_tin c56_6 dX4_look_56 (by decide) (off := 121) (tgt := 177) (by decide) (by decide) ?_
        refine z_aload_n dX4_look_177 rfl (j := 0) rfl ?_
        refine z_iload_n dX4_look_178 rfl (j := 1) rfl ?_
        refine z_iload_n dX4_look_179 rfl (j := 2) rfl ?_
        refine z_callV Γ kk_X4_lookAtBlocks kc_RX4_97 (As := [zv s0 0 s, zv s0 0 e]) h (by omega) (by decide) (show (parseMethodDescriptor yX4_lookAtBlocks.desc).map (fun q => q.parameters.length) = some 2 by decide +kernel) hok (Nat.zero_le _) dX4_look_180 (by decide) hs55 rfl rfl (fun _ h9 => nomatch h9) ?_
        clear h
        intro r180 M180 h
        show rt_Go _ _ _ _ _ _ _ _ _ _ _ _ 183 [(0, zv s0 2 55), (1, zv s0 0 s), (2, zv s0 0 e)] [] (zw s0 ca C S M180)
        exact z_vret dX4_look_183 rfl h
      replace h := h.2 c56_6
      by_cases c56_7 : w32 (((zat ((zu M 55 4 ((M 55 4) + 1))) (p + 2) 134 s))) = 7
      · replace h := h.1 c56_7
        refine z_tin c56_7 dX4_look_56 (by decide) (off := 121) (tgt := 177) (by decide) (by decide) ?_
        refine z_aload_n dX4_look_177 rfl (j := 0) rfl ?_
        refine z_iload_n dX4_look_178 rfl (j := 1) rfl ?_
        refine z_iload_n dX4_look_179 rfl (j := 2) rfl ?_
        refine z_callV Γ kk_X4_lookAtBlocks kc_RX4_97 (As := [zv s0 0 s, zv s0 0 e]) h (by omega) (by decide) (show (parseMethodDescriptor yX4_lookAtBlocks.desc).map (fun q => q.parameters.length) = some 2 by decide +kernel) hok (Nat.zero_le _) dX4_look_180 (by decide) hs55 rfl rfl (fun _ h9 => nomatch h9) ?_
        clear h
        intro r180 M180 h
        show rt_Go _ _ _ _ _ _ _ _ _ _ _ _ 183 [(0, zv s0 2 55), (1, zv s0 0 s), (2, zv s0 0 e)] [] (zw s0 ca C S M180)
        exact z_vret dX4_look_183 rfl h
      replace h := h.2 c56_7
      by_cases c56_8 : w32 (((zat ((zu M 55 4 ((M 55 4) + 1))) (p + 2) 134 s))) = 8
      · replace h := h.1 c56_8
        refine z_tin c56_8 dX4_look_56 (by decide) (off := 114) (tgt := 170) (by decide) (by decide) ?_
        refine z_aload_n dX4_look_170 rfl (j := 0) rfl ?_
        refine z_iload_n dX4_look_171 rfl (j := 1) rfl ?_
        refine z_iload_n dX4_look_172 rfl (j := 2) rfl ?_
        refine z_callV Γ kk_X4_lookAtUnion kc_RX4_94 (As := [zv s0 0 s, zv s0 0 e]) h (by omega) (by decide) (show (parseMethodDescriptor yX4_lookAtUnion.desc).map (fun q => q.parameters.length) = some 2 by decide +kernel) hok (Nat.zero_le _) dX4_look_173 (by decide) hs55 rfl rfl (fun _ h9 => nomatch h9) ?_
        clear h
        intro r173 M173 h
        show rt_Go _ _ _ _ _ _ _ _ _ _ _ _ 176 [(0, zv s0 2 55), (1, zv s0 0 s), (2, zv s0 0 e)] [] (zw s0 ca C S M173)
        exact z_vret dX4_look_176 rfl h
      replace h := h.2 c56_8
      by_cases c56_9 : w32 (((zat ((zu M 55 4 ((M 55 4) + 1))) (p + 2) 134 s))) = 9
      · replace h := h.1 c56_9
        refine z_tin c56_9 dX4_look_56 (by decide) (off := 92) (tgt := 148) (by decide) (by decide) ?_
        refine z_aload_n dX4_look_148 rfl (j := 0) rfl ?_
        refine z_aload_n dX4_look_149 rfl (j := 0) rfl ?_
        refine z_getc Γ kf_RX4_31 dX4_look_150 (by decide) hs55 rfl ?_
        refine z_iload_n dX4_look_153 rfl (j := 1) rfl ?_
        refine z_callV Γ kk_X6_fixedSize kc_RX4_83 (As := [zv s0 0 s]) (z_X6_fixedSize (d := d - 1) Γ (by omega) hok hp (M := ((zu M 55 4 ((M 55 4) + 1)))) (Q := fun v9 M9 => v9 = ((zat ((zu M 55 4 ((M 55 4) + 1))) (p + 6) 134 s)) ∧ M9 = ((zu M 55 4 ((M 55 4) + 1)))) (X := X) (show _ ∧ _ from ⟨rfl, rfl⟩)) (by omega) (by decide) (show (parseMethodDescriptor yX6_fixedSize.desc).map (fun q => q.parameters.length) = some 1 by decide +kernel) hok (by simp only [List.map, zv_cat0, zv_cat1, zv_cat2, List.sum_cons, List.sum_nil]; decide) dX4_look_154 hp.1 hp.2.1 rfl rfl (fun _ h9 => nomatch h9) ?_
        rintro v9 M9 ⟨e9, e8⟩
        rw [e9, e8]
        clear e9 e8 v9 M9
        show rt_Go _ _ _ _ _ _ _ _ _ _ _ _ 157 [(0, zv s0 2 55), (1, zv s0 0 s), (2, zv s0 0 e)] [zv s0 0 (((zat ((zu M 55 4 ((M 55 4) + 1))) (p + 6) 134 s))), zv s0 2 55] (zw s0 ca C S ((zu M 55 4 ((M 55 4) + 1))))
        refine z_i2l dX4_look_157 ?_
        refine z_callV Γ kk_X4_takeBytes kc_RX4_86 (As := [zv s0 1 (w32 (((zat ((zu M 55 4 ((M 55 4) + 1))) (p + 6) 134 s))))]) h (by omega) (by decide) (show (parseMethodDescriptor yX4_takeBytes.desc).map (fun q => q.parameters.length) = some 1 by decide +kernel) hok (Nat.zero_le _) dX4_look_158 (by decide) hs55 rfl rfl (fun _ h9 => nomatch h9) ?_
        clear h
        intro r158 M158 h
        show rt_Go _ _ _ _ _ _ _ _ _ _ _ _ 161 [(0, zv s0 2 55), (1, zv s0 0 s), (2, zv s0 0 e)] [] (zw s0 ca C S M158)
        exact z_vret dX4_look_161 rfl h
      replace h := h.2 c56_9
      by_cases c56_10 : w32 (((zat ((zu M 55 4 ((M 55 4) + 1))) (p + 2) 134 s))) = 10
      · replace h := h.1 c56_10
        refine z_tin c56_10 dX4_look_56 (by decide) (off := 106) (tgt := 162) (by decide) (by decide) ?_
        refine z_aload_n dX4_look_162 rfl (j := 0) rfl ?_
        refine z_iload_n dX4_look_163 rfl (j := 1) rfl ?_
        refine z_iconst dX4_look_164 ?_
        refine z_callV Γ kk_X4_lookAtChoice kc_RX4_90 (As := [zv s0 0 s, zv s0 0 5]) h (by omega) (by decide) (show (parseMethodDescriptor yX4_lookAtChoice.desc).map (fun q => q.parameters.length) = some 2 by decide +kernel) hok (Nat.zero_le _) dX4_look_165 (by decide) hs55 rfl rfl (fun _ h9 => nomatch h9) ?_
        clear h
        intro r165 M165 h
        show rt_Go _ _ _ _ _ _ _ _ _ _ _ _ 168 [(0, zv s0 2 55), (1, zv s0 0 s), (2, zv s0 0 e)] [zv s0 0 r165] (zw s0 ca C S M165)
        refine z_pop0 dX4_look_168 ?_
        exact z_vret dX4_look_169 rfl h
      replace h := h.2 c56_10
      by_cases c56_11 : w32 (((zat ((zu M 55 4 ((M 55 4) + 1))) (p + 2) 134 s))) = 11
      · replace h := h.1 c56_11
        refine z_tin c56_11 dX4_look_56 (by decide) (off := 128) (tgt := 184) (by decide) (by decide) ?_
        refine z_aload_n dX4_look_184 rfl (j := 0) rfl ?_
        refine z_iload_n dX4_look_185 rfl (j := 1) rfl ?_
        refine z_iload_n dX4_look_186 rfl (j := 2) rfl ?_
        refine z_callV Γ kk_X4_lookAtFields kc_RX4_100 (As := [zv s0 0 s, zv s0 0 e]) h (by omega) (by decide) (show (parseMethodDescriptor yX4_lookAtFields.desc).map (fun q => q.parameters.length) = some 2 by decide +kernel) hok (Nat.zero_le _) dX4_look_187 (by decide) hs55 rfl rfl (fun _ h9 => nomatch h9) ?_
        clear h
        intro r187 M187 h
        show rt_Go _ _ _ _ _ _ _ _ _ _ _ _ 190 [(0, zv s0 2 55), (1, zv s0 0 s), (2, zv s0 0 e)] [] (zw s0 ca C S M187)
        exact z_vret dX4_look_190 rfl h
      replace h := h.2 c56_11
      refine z_tout dX4_look_56 (show w32 (((zat ((zu M 55 4 ((M 55 4) + 1))) (p + 2) 134 s))) < 1 ∨ 11 < w32 (((zat ((zu M 55 4 ((M 55 4) + 1))) (p + 2) 134 s))) from by omega) (tgt := 191) (by decide) ?_
      exact z_vret dX4_look_191 rfl h
    · replace h := h.2 c24
      refine z_aload_n dX4_look_27 rfl (j := 0) rfl ?_
      refine z_bipush dX4_look_28 (by decide) ?_
      refine z_aload_n dX4_look_30 rfl (j := 0) rfl ?_
      refine z_get Γ kf_RX4_18 dX4_look_31 (by decide) hs55 rfl (by decide) (v9 := M 55 3) rfl ?_
      refine z_callV Γ kk_X4_fail kc_RX4_66 (As := [zv s0 0 8, zv s0 0 (M 55 3)]) h (by omega) (by decide) (show (parseMethodDescriptor yX4_fail.desc).map (fun q => q.parameters.length) = some 2 by decide +kernel) hok (Nat.zero_le _) dX4_look_34 (by decide) hs55 rfl rfl (fun _ h9 => nomatch h9) ?_
      clear h
      intro r34 M34 h
      show rt_Go _ _ _ _ _ _ _ _ _ _ _ _ 37 [(0, zv s0 2 55), (1, zv s0 0 s), (2, zv s0 0 e)] [] (zw s0 ca C S M34)
      exact z_vret dX4_look_37 rfl h
  · replace h := h.2 c3
    refine z_aload_n dX4_look_6 rfl (j := 0) rfl ?_
    refine z_bipush dX4_look_7 (by decide) ?_
    refine z_aload_n dX4_look_9 rfl (j := 0) rfl ?_
    refine z_get Γ kf_RX4_18 dX4_look_10 (by decide) hs55 rfl (by decide) (v9 := M 55 3) rfl ?_
    refine z_callV Γ kk_X4_fail kc_RX4_66 (As := [zv s0 0 7, zv s0 0 (M 55 3)]) h (by omega) (by decide) (show (parseMethodDescriptor yX4_fail.desc).map (fun q => q.parameters.length) = some 2 by decide +kernel) hok (Nat.zero_le _) dX4_look_13 (by decide) hs55 rfl rfl (fun _ h9 => nomatch h9) ?_
    clear h
    intro r13 M13 h
    show rt_Go _ _ _ _ _ _ _ _ _ _ _ _ 16 [(0, zv s0 2 55), (1, zv s0 0 s), (2, zv s0 0 e)] [] (zw s0 ca C S M13)
    exact z_vret dX4_look_16 rfl h

abbrev zg_X4_lookAtBlocks_14 (l : Launch) (s0 : State) (G : va_G) (ca : Nat → ClassId) (d : Nat) (C : Nat × Nat) (S : zS) (w0 : rt_Wd) (p : Int) (mk : Int) (mka : Int) (v1 : Int) (v2 : Int) (v3 : Int) (v4 : Int) (v5 : Int)  (M : zM) (Q : Int → zM → Prop) (X : zM → Prop) : Prop := rt_Go l s0 G RX4 "lookAtBlocks" cX4_lookAtBlocks 10 (Option.none : Option FieldType) [] d w0 (zQ s0 ca 9 C S Q X) 14 [(0, zv s0 2 55), (1, zv s0 0 v1), (2, zv s0 0 v2), (3, zv s0 0 v3), (4, zv s0 0 v4), (5, zv s0 0 v5)] [] (zw s0 ca C S M)
abbrev zg_X4_lookAtBlocks_64 (l : Launch) (s0 : State) (G : va_G) (ca : Nat → ClassId) (d : Nat) (C : Nat × Nat) (S : zS) (w0 : rt_Wd) (p : Int) (mk : Int) (mka : Int) (v1 : Int) (v2 : Int) (v3 : Int) (v4 : Int) (v5 : Int) (v6 : Int) (v7 : Int)  (M : zM) (Q : Int → zM → Prop) (X : zM → Prop) : Prop := rt_Go l s0 G RX4 "lookAtBlocks" cX4_lookAtBlocks 10 (Option.none : Option FieldType) [] d w0 (zQ s0 ca 9 C S Q X) 64 [(0, zv s0 2 55), (1, zv s0 0 v1), (2, zv s0 0 v2), (3, zv s0 0 v3), (4, zv s0 0 v4), (5, zv s0 0 v5), (6, zv s0 0 v6), (7, zv s0 1 v7)] [] (zw s0 ca C S M)
abbrev zg_X4_lookAtBlocks_72 (l : Launch) (s0 : State) (G : va_G) (ca : Nat → ClassId) (d : Nat) (C : Nat × Nat) (S : zS) (w0 : rt_Wd) (p : Int) (mk : Int) (mka : Int) (v1 : Int) (v2 : Int) (v3 : Int) (v4 : Int) (v5 : Int) (v7 : Int)  (M : zM) (Q : Int → zM → Prop) (X : zM → Prop) : Prop := rt_Go l s0 G RX4 "lookAtBlocks" cX4_lookAtBlocks 10 (Option.none : Option FieldType) [] d w0 (zQ s0 ca 9 C S Q X) 72 [(0, zv s0 2 55), (1, zv s0 0 v1), (2, zv s0 0 v2), (3, zv s0 0 v3), (4, zv s0 0 v4), (5, zv s0 0 v5), (7, zv s0 1 v7)] [] (zw s0 ca C S M)
abbrev zg_X4_lookAtBlocks_148 (l : Launch) (s0 : State) (G : va_G) (ca : Nat → ClassId) (d : Nat) (C : Nat × Nat) (S : zS) (w0 : rt_Wd) (p : Int) (mk : Int) (mka : Int) (v3 : Int) (v4 : Int)  (M : zM) (Q : Int → zM → Prop) (X : zM → Prop) : Prop := rt_Go l s0 G RX4 "lookAtBlocks" cX4_lookAtBlocks 10 (Option.none : Option FieldType) [] d w0 (zQ s0 ca 9 C S Q X) 148 [(0, zv s0 2 55), (3, zv s0 0 v3), (4, zv s0 0 v4)] [] (zw s0 ca C S M)
def zt_X4_lookAtBlocks_148 (l : Launch) (s0 : State) (G : va_G) (ca : Nat → ClassId) (d : Nat) (C : Nat × Nat) (S : zS) (w0 : rt_Wd) (p : Int) (mk : Int) (mka : Int) (v3 : Int) (v4 : Int)  (M : zM) (Q : Int → zM → Prop) (X : zM → Prop) : Prop :=
  zIf (w32 v4 ≤ 0) (zm_X0_addVarint l s0 G ca (d - 1) C S mk 0 M (fun r188 M188 => Q 0 M188) X) (zm_X0_addVarint l s0 G ca (d - 1) C S mk (w32 v4) M (fun r169 M169 => zm_X0_rotate l s0 G ca (d - 1) C S mk v3 ((M mk 1)) M169 (fun r180 M180 => zm_X0_addVarint l s0 G ca (d - 1) C S mk 0 M180 (fun r188 M188 => Q 0 M188) X) X) X)
set_option maxRecDepth 100000 in
theorem zs_X4_lookAtBlocks_148 {l : Launch} {s0 : State} {a0 : Array Value} {G : va_G} {ca : Nat → ClassId} (Γ : rt_Γ l s0 a0 G ca) {d : Nat} {C : Nat × Nat} {S : zS} (hd : 1 ≤ d) (hok : zok C) {p : Int} {mk : Int} {mka : Int} (hs : zSok S) (hp : zSc S p) (hmk : zCe S mk mka 4096) (hs55 : S 55 = some (0, 4, [(3, 1), (3, p), (3, mk), (0, 0), (0, 0), (0, 0), (0, 0), (0, 0)])) {w0 : rt_Wd} {v3 : Int} {v4 : Int}   {M : zM} {Q : Int → zM → Prop} {X : zM → Prop} (h : zt_X4_lookAtBlocks_148 l s0 G ca d C S w0 p mk mka v3 v4 M Q X) : zg_X4_lookAtBlocks_148 l s0 G ca d C S w0 p mk mka v3 v4 M Q X := by
  unfold zt_X4_lookAtBlocks_148 at h
  refine z_aload_n dX4_lookAtBlocks_148 rfl (j := 0) rfl ?_
  refine z_getc Γ kf_RX4_41 dX4_lookAtBlocks_149 (by decide) hs55 rfl ?_
  refine z_callV Γ kk_X0_count kc_RX4_21 (As := []) (k_X0_count (d := d - 1) Γ hok (hmk : zCe S mk mka 4096) (M := M) (Q := fun v9 M9 => v9 = (M mk 1) ∧ M9 = M) (X := X) (show _ ∧ _ from ⟨rfl, rfl⟩)) (by omega) (by decide) (show (parseMethodDescriptor yX0_count.desc).map (fun q => q.parameters.length) = some 0 by decide +kernel) hok (Nat.zero_le _) dX4_lookAtBlocks_152 (hmk : zCe S mk mka 4096).1 (hmk : zCe S mk mka 4096).2.2.2.1 rfl rfl (fun _ h9 => nomatch h9) ?_
  rintro v9 M9 ⟨e9, e8⟩
  rw [e9, e8]
  clear e9 e8 v9 M9
  show rt_Go _ _ _ _ _ _ _ _ _ _ _ _ 155 [(0, zv s0 2 55), (3, zv s0 0 v3), (4, zv s0 0 v4)] [zv s0 0 ((M mk 1))] (zw s0 ca C S M)
  refine z_istore (i := 5) (lv' := [(5, zv s0 0 ((M mk 1))), (0, zv s0 2 55), (3, zv s0 0 v3), (4, zv s0 0 v4)]) dX4_lookAtBlocks_155 (by decide) (by simp [zv_cat0, zv_cat1, zv_cat2, zv_cats]) ?_
  refine z_iload dX4_lookAtBlocks_157 (j := 3) rfl ?_
  refine z_if_le (tgt := 183) (x' := w32 v4) rfl dX4_lookAtBlocks_159 (by decide) (fun c159 => ?_) (fun c159 => ?_)
  · replace h := h.1 c159
    refine z_aload_n dX4_lookAtBlocks_183 rfl (j := 1) rfl ?_
    refine z_getc Γ kf_RX4_41 dX4_lookAtBlocks_184 (by decide) hs55 rfl ?_
    refine z_lconst (v := 0) dX4_lookAtBlocks_187 (by decide) ?_
    refine z_callV Γ kk_X0_addVarint kc_RX4_114 (As := [zv s0 1 0]) h (by omega) (by decide) (show (parseMethodDescriptor yX0_addVarint.desc).map (fun q => q.parameters.length) = some 1 by decide +kernel) hok (Nat.zero_le _) dX4_lookAtBlocks_188 (hmk : zCe S mk mka 4096).1 (hmk : zCe S mk mka 4096).2.2.2.1 rfl rfl (fun _ h9 => nomatch h9) ?_
    clear h
    intro r188 M188 h
    show rt_Go _ _ _ _ _ _ _ _ _ _ _ _ 191 [(5, zv s0 0 ((M mk 1))), (0, zv s0 2 55), (3, zv s0 0 v3), (4, zv s0 0 v4)] [zv s0 0 r188] (zw s0 ca C S M188)
    refine z_pop0 dX4_lookAtBlocks_191 ?_
    exact z_vret dX4_lookAtBlocks_192 rfl h
  · replace h := h.2 c159
    refine z_aload_n dX4_lookAtBlocks_162 rfl (j := 1) rfl ?_
    refine z_getc Γ kf_RX4_41 dX4_lookAtBlocks_163 (by decide) hs55 rfl ?_
    refine z_iload dX4_lookAtBlocks_166 (j := 3) rfl ?_
    refine z_i2l dX4_lookAtBlocks_168 ?_
    refine z_callV Γ kk_X0_addVarint kc_RX4_114 (As := [zv s0 1 (w32 v4)]) h (by omega) (by decide) (show (parseMethodDescriptor yX0_addVarint.desc).map (fun q => q.parameters.length) = some 1 by decide +kernel) hok (Nat.zero_le _) dX4_lookAtBlocks_169 (hmk : zCe S mk mka 4096).1 (hmk : zCe S mk mka 4096).2.2.2.1 rfl rfl (fun _ h9 => nomatch h9) ?_
    clear h
    intro r169 M169 h
    show rt_Go _ _ _ _ _ _ _ _ _ _ _ _ 172 [(5, zv s0 0 ((M mk 1))), (0, zv s0 2 55), (3, zv s0 0 v3), (4, zv s0 0 v4)] [zv s0 0 r169] (zw s0 ca C S M169)
    refine z_pop0 dX4_lookAtBlocks_172 ?_
    refine z_aload_n dX4_lookAtBlocks_173 rfl (j := 1) rfl ?_
    refine z_getc Γ kf_RX4_41 dX4_lookAtBlocks_174 (by decide) hs55 rfl ?_
    refine z_iload_n dX4_lookAtBlocks_177 rfl (j := 2) rfl ?_
    refine z_iload dX4_lookAtBlocks_178 (j := 0) rfl ?_
    refine z_callV Γ kk_X0_rotate kc_RX4_147 (As := [zv s0 0 v3, zv s0 0 ((M mk 1))]) h (by omega) (by decide) (show (parseMethodDescriptor yX0_rotate.desc).map (fun q => q.parameters.length) = some 2 by decide +kernel) hok (Nat.zero_le _) dX4_lookAtBlocks_180 (hmk : zCe S mk mka 4096).1 (hmk : zCe S mk mka 4096).2.2.2.1 rfl rfl (fun _ h9 => nomatch h9) ?_
    clear h
    intro r180 M180 h
    show rt_Go _ _ _ _ _ _ _ _ _ _ _ _ 183 [(5, zv s0 0 ((M mk 1))), (0, zv s0 2 55), (3, zv s0 0 v3), (4, zv s0 0 v4)] [] (zw s0 ca C S M180)
    refine z_aload_n dX4_lookAtBlocks_183 rfl (j := 1) rfl ?_
    refine z_getc Γ kf_RX4_41 dX4_lookAtBlocks_184 (by decide) hs55 rfl ?_
    refine z_lconst (v := 0) dX4_lookAtBlocks_187 (by decide) ?_
    refine z_callV Γ kk_X0_addVarint kc_RX4_114 (As := [zv s0 1 0]) h (by omega) (by decide) (show (parseMethodDescriptor yX0_addVarint.desc).map (fun q => q.parameters.length) = some 1 by decide +kernel) hok (Nat.zero_le _) dX4_lookAtBlocks_188 (hmk : zCe S mk mka 4096).1 (hmk : zCe S mk mka 4096).2.2.2.1 rfl rfl (fun _ h9 => nomatch h9) ?_
    clear h
    intro r188 M188 h
    show rt_Go _ _ _ _ _ _ _ _ _ _ _ _ 191 [(5, zv s0 0 ((M mk 1))), (0, zv s0 2 55), (3, zv s0 0 v3), (4, zv s0 0 v4)] [zv s0 0 r188] (zw s0 ca C S M188)
    refine z_pop0 dX4_lookAtBlocks_191 ?_
    exact z_vret dX4_lookAtBlocks_192 rfl h

def zt_X4_lookAtBlocks_72 (l : Launch) (s0 : State) (G : va_G) (ca : Nat → ClassId) (d : Nat) (C : Nat × Nat) (S : zS) (w0 : rt_Wd) (p : Int) (mk : Int) (mka : Int) (v1 : Int) (v2 : Int) (v3 : Int) (v4 : Int) (v5 : Int) (v7 : Int)  (M : zM) (Q : Int → zM → Prop) (X : zM → Prop) : Prop :=
  zIf (w32 (M 55 6) = 0) (zIf (w64 v7 = 0) (zt_X4_lookAtBlocks_148 l s0 G ca d C S w0 p mk mka v3 v4 M Q X) (zIf (w64 v7 ≤ 0) (zm_X4_lookAtMeasuredItems l s0 G ca (d - 1) C S v1 (zabsL v7) v2 ((zu M 55 5 ((M 55 5) + (zabsL v7)))) (fun r139 M139 => zg_X4_lookAtBlocks_14 l s0 G ca d C S w0 p mk mka v1 v2 v3 (v4 + (zabsL v7)) (v5 + 1) M139 Q X) X) (zm_X4_lookAtItems l s0 G ca (d - 1) C S v1 (zabsL v7) v2 ((zu M 55 5 ((M 55 5) + (zabsL v7)))) (fun r128 M128 => zg_X4_lookAtBlocks_14 l s0 G ca d C S w0 p mk mka v1 v2 v3 (v4 + (zabsL v7)) (v5 + 1) M128 Q X) X))) (Q 0 M)
set_option maxRecDepth 100000 in
theorem zs_X4_lookAtBlocks_72 {l : Launch} {s0 : State} {a0 : Array Value} {G : va_G} {ca : Nat → ClassId} (Γ : rt_Γ l s0 a0 G ca) {d : Nat} {C : Nat × Nat} {S : zS} (hd : 1 ≤ d) (hok : zok C) {p : Int} {mk : Int} {mka : Int} (hs : zSok S) (hp : zSc S p) (hmk : zCe S mk mka 4096) (hs55 : S 55 = some (0, 4, [(3, 1), (3, p), (3, mk), (0, 0), (0, 0), (0, 0), (0, 0), (0, 0)])) {w0 : rt_Wd} {v1 : Int} {v2 : Int} {v3 : Int} {v4 : Int} {v5 : Int} {v7 : Int}   {M : zM} {Q : Int → zM → Prop} {X : zM → Prop} (h : zt_X4_lookAtBlocks_72 l s0 G ca d C S w0 p mk mka v1 v2 v3 v4 v5 v7 M Q X) : zg_X4_lookAtBlocks_72 l s0 G ca d C S w0 p mk mka v1 v2 v3 v4 v5 v7 M Q X := by
  unfold zt_X4_lookAtBlocks_72 at h
  refine z_aload_n dX4_lookAtBlocks_72 rfl (j := 0) rfl ?_
  refine z_get Γ kf_RX4_15 dX4_lookAtBlocks_73 (by decide) hs55 rfl (by decide) (v9 := M 55 6) rfl ?_
  refine z_if_eq (tgt := 80) (x' := w32 (M 55 6)) rfl dX4_lookAtBlocks_76 (by decide) (fun c76 => ?_) (fun c76 => ?_)
  · replace h := h.1 c76
    refine z_lload dX4_lookAtBlocks_80 (j := 6) rfl ?_
    refine z_lconst (v := 0) dX4_lookAtBlocks_82 (by decide) ?_
    refine z_lif_ne (tgt := 90) (x' := w64 v7) (y' := 0) rfl (by decide) dX4_lookAtBlocks_83 dX4_lookAtBlocks_84 (by decide) (fun c83 => ?_) (fun c83 => ?_)
    · replace h := h.2 c83
      refine z_lload dX4_lookAtBlocks_90 (j := 6) rfl ?_
      refine z_absL Γ (Nat.zero_le _) hok dX4_lookAtBlocks_92 ?_
      refine z_l2i dX4_lookAtBlocks_95 ?_
      refine z_istore (i := 9) (lv' := [(9, zv s0 0 (zabsL v7)), (0, zv s0 2 55), (1, zv s0 0 v1), (2, zv s0 0 v2), (3, zv s0 0 v3), (4, zv s0 0 v4), (5, zv s0 0 v5), (7, zv s0 1 v7)]) dX4_lookAtBlocks_96 (by decide) (by simp [zv_cat0, zv_cat1, zv_cat2, zv_cats]) ?_
      refine z_aload_n dX4_lookAtBlocks_98 rfl (j := 1) rfl ?_
      refine z_dup2 dX4_lookAtBlocks_99 ?_
      refine z_get Γ kf_RX4_50 dX4_lookAtBlocks_100 (by decide) hs55 rfl (by decide) (v9 := M 55 5) rfl ?_
      refine z_iload dX4_lookAtBlocks_103 (j := 0) rfl ?_
      refine z_iadd dX4_lookAtBlocks_105 ?_
      refine z_put0 Γ kp_RX4_50 dX4_lookAtBlocks_106 (by decide) hs55 rfl (k9 := 5) rfl ?_
      refine z_iload dX4_lookAtBlocks_109 (j := 5) rfl ?_
      refine z_iload dX4_lookAtBlocks_111 (j := 0) rfl ?_
      refine z_iadd dX4_lookAtBlocks_113 ?_
      refine z_istore (i := 4) (lv' := [(4, zv s0 0 (v4 + (zabsL v7))), (9, zv s0 0 (zabsL v7)), (0, zv s0 2 55), (1, zv s0 0 v1), (2, zv s0 0 v2), (3, zv s0 0 v3), (5, zv s0 0 v5), (7, zv s0 1 v7)]) dX4_lookAtBlocks_114 (by decide) (by simp [zv_cat0, zv_cat1, zv_cat2, zv_cats]) ?_
      refine z_lload dX4_lookAtBlocks_116 (j := 7) rfl ?_
      refine z_lconst (v := 0) dX4_lookAtBlocks_118 (by decide) ?_
      refine z_lif_le (tgt := 134) (x' := w64 v7) (y' := 0) rfl (by decide) dX4_lookAtBlocks_119 dX4_lookAtBlocks_120 (by decide) (fun c119 => ?_) (fun c119 => ?_)
      · replace h := h.1 c119
        refine z_aload_n dX4_lookAtBlocks_134 rfl (j := 2) rfl ?_
        refine z_iload_n dX4_lookAtBlocks_135 rfl (j := 3) rfl ?_
        refine z_iload dX4_lookAtBlocks_136 (j := 1) rfl ?_
        refine z_iload_n dX4_lookAtBlocks_138 rfl (j := 4) rfl ?_
        refine z_callV Γ kk_X4_lookAtMeasuredItems kc_RX4_144 (As := [zv s0 0 v1, zv s0 0 (zabsL v7), zv s0 0 v2]) h (by omega) (by decide) (show (parseMethodDescriptor yX4_lookAtMeasuredItems.desc).map (fun q => q.parameters.length) = some 3 by decide +kernel) hok (Nat.zero_le _) dX4_lookAtBlocks_139 (by decide) hs55 rfl rfl (fun _ h9 => nomatch h9) ?_
        clear h
        intro r139 M139 h
        show rt_Go _ _ _ _ _ _ _ _ _ _ _ _ 142 [(4, zv s0 0 (v4 + (zabsL v7))), (9, zv s0 0 (zabsL v7)), (0, zv s0 2 55), (1, zv s0 0 v1), (2, zv s0 0 v2), (3, zv s0 0 v3), (5, zv s0 0 v5), (7, zv s0 1 v7)] [] (zw s0 ca C S M139)
        refine z_iinc (lv' := [(5, zv s0 0 (v5 + 1)), (4, zv s0 0 (v4 + (zabsL v7))), (9, zv s0 0 (zabsL v7)), (0, zv s0 2 55), (1, zv s0 0 v1), (2, zv s0 0 v2), (3, zv s0 0 v3), (7, zv s0 1 v7)]) dX4_lookAtBlocks_142 (j := 6) rfl (by decide) (by simp [zv_cat0, zv_cat1, zv_cat2, zv_cats]) ?_
        refine rt_goto (tgt := 14) dX4_lookAtBlocks_145 (by decide) ?_
        exact rt_lfew [3, 4, 5, 6, 1, 0] rfl h
      · replace h := h.2 c119
        refine z_aload_n dX4_lookAtBlocks_123 rfl (j := 2) rfl ?_
        refine z_iload_n dX4_lookAtBlocks_124 rfl (j := 3) rfl ?_
        refine z_iload dX4_lookAtBlocks_125 (j := 1) rfl ?_
        refine z_iload_n dX4_lookAtBlocks_127 rfl (j := 4) rfl ?_
        refine z_callV Γ kk_X4_lookAtItems kc_RX4_140 (As := [zv s0 0 v1, zv s0 0 (zabsL v7), zv s0 0 v2]) h (by omega) (by decide) (show (parseMethodDescriptor yX4_lookAtItems.desc).map (fun q => q.parameters.length) = some 3 by decide +kernel) hok (Nat.zero_le _) dX4_lookAtBlocks_128 (by decide) hs55 rfl rfl (fun _ h9 => nomatch h9) ?_
        clear h
        intro r128 M128 h
        show rt_Go _ _ _ _ _ _ _ _ _ _ _ _ 131 [(4, zv s0 0 (v4 + (zabsL v7))), (9, zv s0 0 (zabsL v7)), (0, zv s0 2 55), (1, zv s0 0 v1), (2, zv s0 0 v2), (3, zv s0 0 v3), (5, zv s0 0 v5), (7, zv s0 1 v7)] [] (zw s0 ca C S M128)
        refine rt_goto (tgt := 142) dX4_lookAtBlocks_131 (by decide) ?_
        refine z_iinc (lv' := [(5, zv s0 0 (v5 + 1)), (4, zv s0 0 (v4 + (zabsL v7))), (9, zv s0 0 (zabsL v7)), (0, zv s0 2 55), (1, zv s0 0 v1), (2, zv s0 0 v2), (3, zv s0 0 v3), (7, zv s0 1 v7)]) dX4_lookAtBlocks_142 (j := 6) rfl (by decide) (by simp [zv_cat0, zv_cat1, zv_cat2, zv_cats]) ?_
        refine rt_goto (tgt := 14) dX4_lookAtBlocks_145 (by decide) ?_
        exact rt_lfew [3, 4, 5, 6, 1, 0] rfl h
    · replace h := h.1 c83
      refine rt_goto (tgt := 148) dX4_lookAtBlocks_87 (by decide) ?_
      exact rt_lfew [0, 3, 4] rfl (zs_X4_lookAtBlocks_148 Γ hd hok hs hp hmk hs55  h)
  · replace h := h.2 c76
    exact z_vret dX4_lookAtBlocks_79 rfl h

def zt_X4_lookAtBlocks_64 (l : Launch) (s0 : State) (G : va_G) (ca : Nat → ClassId) (d : Nat) (C : Nat × Nat) (S : zS) (w0 : rt_Wd) (p : Int) (mk : Int) (mka : Int) (v1 : Int) (v2 : Int) (v3 : Int) (v4 : Int) (v5 : Int) (v6 : Int) (v7 : Int)  (M : zM) (Q : Int → zM → Prop) (X : zM → Prop) : Prop :=
  zm_X4_fail l s0 G ca (d - 1) C S 6 v6 M (fun r69 M69 => zt_X4_lookAtBlocks_72 l s0 G ca d C S w0 p mk mka v1 v2 v3 v4 v5 v7 M69 Q X) X
set_option maxRecDepth 100000 in
theorem zs_X4_lookAtBlocks_64 {l : Launch} {s0 : State} {a0 : Array Value} {G : va_G} {ca : Nat → ClassId} (Γ : rt_Γ l s0 a0 G ca) {d : Nat} {C : Nat × Nat} {S : zS} (hd : 1 ≤ d) (hok : zok C) {p : Int} {mk : Int} {mka : Int} (hs : zSok S) (hp : zSc S p) (hmk : zCe S mk mka 4096) (hs55 : S 55 = some (0, 4, [(3, 1), (3, p), (3, mk), (0, 0), (0, 0), (0, 0), (0, 0), (0, 0)])) {w0 : rt_Wd} {v1 : Int} {v2 : Int} {v3 : Int} {v4 : Int} {v5 : Int} {v6 : Int} {v7 : Int}   {M : zM} {Q : Int → zM → Prop} {X : zM → Prop} (h : zt_X4_lookAtBlocks_64 l s0 G ca d C S w0 p mk mka v1 v2 v3 v4 v5 v6 v7 M Q X) : zg_X4_lookAtBlocks_64 l s0 G ca d C S w0 p mk mka v1 v2 v3 v4 v5 v6 v7 M Q X := by
  unfold zt_X4_lookAtBlocks_64 at h
  refine z_aload_n dX4_lookAtBlocks_64 rfl (j := 0) rfl ?_
  refine z_bipush dX4_lookAtBlocks_65 (by decide) ?_
  refine z_iload dX4_lookAtBlocks_67 (j := 6) rfl ?_
  refine z_callV Γ kk_X4_fail kc_RX4_66 (As := [zv s0 0 6, zv s0 0 v6]) h (by omega) (by decide) (show (parseMethodDescriptor yX4_fail.desc).map (fun q => q.parameters.length) = some 2 by decide +kernel) hok (Nat.zero_le _) dX4_lookAtBlocks_69 (by decide) hs55 rfl rfl (fun _ h9 => nomatch h9) ?_
  clear h
  intro r69 M69 h
  show rt_Go _ _ _ _ _ _ _ _ _ _ _ _ 72 [(0, zv s0 2 55), (1, zv s0 0 v1), (2, zv s0 0 v2), (3, zv s0 0 v3), (4, zv s0 0 v4), (5, zv s0 0 v5), (6, zv s0 0 v6), (7, zv s0 1 v7)] [] (zw s0 ca C S M69)
  exact rt_lfew [0, 1, 2, 3, 4, 5, 7] rfl (zs_X4_lookAtBlocks_72 Γ hd hok hs hp hmk hs55  h)

def zt_X4_lookAtBlocks_14 (l : Launch) (s0 : State) (G : va_G) (ca : Nat → ClassId) (d : Nat) (C : Nat × Nat) (S : zS) (w0 : rt_Wd) (p : Int) (mk : Int) (mka : Int) (v1 : Int) (v2 : Int) (v3 : Int) (v4 : Int) (v5 : Int)  (M : zM) (Q : Int → zM → Prop) (X : zM → Prop) : Prop :=
  zIf (4096 < w32 v5) (zt_X4_lookAtBlocks_148 l s0 G ca d C S w0 p mk mka v3 v4 M Q X) (zm_X4_varint l s0 G ca (d - 1) C S  M (fun r29 M29 => zIf (w64 (w32 (2000 - (M29 55 5))) < w64 r29) (zt_X4_lookAtBlocks_64 l s0 G ca d C S w0 p mk mka v1 v2 v3 v4 v5 (M 55 3) r29 M29 Q X) (zIf (w64 (w32 ((M29 55 5) - 2000)) ≤ w64 r29) (zt_X4_lookAtBlocks_72 l s0 G ca d C S w0 p mk mka v1 v2 v3 v4 v5 r29 M29 Q X) (zt_X4_lookAtBlocks_64 l s0 G ca d C S w0 p mk mka v1 v2 v3 v4 v5 (M 55 3) r29 M29 Q X))) X)
set_option maxRecDepth 100000 in
theorem zs_X4_lookAtBlocks_14 {l : Launch} {s0 : State} {a0 : Array Value} {G : va_G} {ca : Nat → ClassId} (Γ : rt_Γ l s0 a0 G ca) {d : Nat} {C : Nat × Nat} {S : zS} (hd : 1 ≤ d) (hok : zok C) {p : Int} {mk : Int} {mka : Int} (hs : zSok S) (hp : zSc S p) (hmk : zCe S mk mka 4096) (hs55 : S 55 = some (0, 4, [(3, 1), (3, p), (3, mk), (0, 0), (0, 0), (0, 0), (0, 0), (0, 0)])) {w0 : rt_Wd} {v1 : Int} {v2 : Int} {v3 : Int} {v4 : Int} {v5 : Int}   {M : zM} {Q : Int → zM → Prop} {X : zM → Prop} (h : zt_X4_lookAtBlocks_14 l s0 G ca d C S w0 p mk mka v1 v2 v3 v4 v5 M Q X) : zg_X4_lookAtBlocks_14 l s0 G ca d C S w0 p mk mka v1 v2 v3 v4 v5 M Q X := by
  unfold zt_X4_lookAtBlocks_14 at h
  refine z_iload dX4_lookAtBlocks_14 (j := 5) rfl ?_
  refine z_sipush dX4_lookAtBlocks_16 (by decide) ?_
  refine z_icmp_gt (tgt := 148) (x' := w32 v5) (y' := 4096) rfl (by decide) dX4_lookAtBlocks_19 (by decide) (fun c19 => ?_) (fun c19 => ?_)
  · replace h := h.1 c19
    exact rt_lfew [0, 3, 4] rfl (zs_X4_lookAtBlocks_148 Γ hd hok hs hp hmk hs55  h)
  · replace h := h.2 c19
    refine z_aload_n dX4_lookAtBlocks_22 rfl (j := 0) rfl ?_
    refine z_get Γ kf_RX4_18 dX4_lookAtBlocks_23 (by decide) hs55 rfl (by decide) (v9 := M 55 3) rfl ?_
    refine z_istore (i := 6) (lv' := [(6, zv s0 0 (M 55 3)), (0, zv s0 2 55), (1, zv s0 0 v1), (2, zv s0 0 v2), (3, zv s0 0 v3), (4, zv s0 0 v4), (5, zv s0 0 v5)]) dX4_lookAtBlocks_26 (by decide) (by simp [zv_cat0, zv_cat1, zv_cat2, zv_cats]) ?_
    refine z_aload_n dX4_lookAtBlocks_28 rfl (j := 1) rfl ?_
    refine z_callV Γ kk_X4_varint kc_RX4_110 (As := []) h (by omega) (by decide) (show (parseMethodDescriptor yX4_varint.desc).map (fun q => q.parameters.length) = some 0 by decide +kernel) hok (Nat.zero_le _) dX4_lookAtBlocks_29 (by decide) hs55 rfl rfl (fun _ h9 => nomatch h9) ?_
    clear h
    intro r29 M29 h
    show rt_Go _ _ _ _ _ _ _ _ _ _ _ _ 32 [(6, zv s0 0 (M 55 3)), (0, zv s0 2 55), (1, zv s0 0 v1), (2, zv s0 0 v2), (3, zv s0 0 v3), (4, zv s0 0 v4), (5, zv s0 0 v5)] [zv s0 1 r29] (zw s0 ca C S M29)
    refine z_lstore (i := 7) (lv' := [(7, zv s0 1 r29), (6, zv s0 0 (M 55 3)), (0, zv s0 2 55), (1, zv s0 0 v1), (2, zv s0 0 v2), (3, zv s0 0 v3), (4, zv s0 0 v4), (5, zv s0 0 v5)]) dX4_lookAtBlocks_32 (by decide) (by simp [zv_cat0, zv_cat1, zv_cat2, zv_cats]) ?_
    refine z_lload dX4_lookAtBlocks_34 (j := 0) rfl ?_
    refine z_sipush dX4_lookAtBlocks_36 (by decide) ?_
    refine z_aload_n dX4_lookAtBlocks_39 rfl (j := 2) rfl ?_
    refine z_get Γ kf_RX4_50 dX4_lookAtBlocks_40 (by decide) hs55 rfl (by decide) (v9 := M29 55 5) rfl ?_
    refine z_isub dX4_lookAtBlocks_43 ?_
    refine z_i2l dX4_lookAtBlocks_44 ?_
    refine z_lif_gt (tgt := 64) (x' := w64 r29) (y' := w64 (w32 (2000 - (M29 55 5)))) rfl rfl dX4_lookAtBlocks_45 dX4_lookAtBlocks_46 (by decide) (fun c45 => ?_) (fun c45 => ?_)
    · replace h := h.1 c45
      exact rt_lfew [2, 3, 4, 5, 6, 7, 1, 0] rfl (zs_X4_lookAtBlocks_64 Γ hd hok hs hp hmk hs55  h)
    · replace h := h.2 c45
      refine z_lload dX4_lookAtBlocks_49 (j := 0) rfl ?_
      refine z_aload_n dX4_lookAtBlocks_51 rfl (j := 2) rfl ?_
      refine z_get Γ kf_RX4_50 dX4_lookAtBlocks_52 (by decide) hs55 rfl (by decide) (v9 := M29 55 5) rfl ?_
      refine z_sipush dX4_lookAtBlocks_55 (by decide) ?_
      refine z_isub dX4_lookAtBlocks_58 ?_
      refine z_i2l dX4_lookAtBlocks_59 ?_
      refine z_lif_ge (tgt := 72) (x' := w64 r29) (y' := w64 (w32 ((M29 55 5) - 2000))) rfl rfl dX4_lookAtBlocks_60 dX4_lookAtBlocks_61 (by decide) (fun c60 => ?_) (fun c60 => ?_)
      · replace h := h.1 c60
        exact rt_lfew [2, 3, 4, 5, 6, 7, 0] rfl (zs_X4_lookAtBlocks_72 Γ hd hok hs hp hmk hs55  h)
      · replace h := h.2 c60
        exact rt_lfew [2, 3, 4, 5, 6, 7, 1, 0] rfl (zs_X4_lookAtBlocks_64 Γ hd hok hs hp hmk hs55  h)

def zt_X4_lookAtBlocks (l : Launch) (s0 : State) (G : va_G) (ca : Nat → ClassId) (d : Nat) (C : Nat × Nat) (S : zS) (w0 : rt_Wd) (p : Int) (mk : Int) (mka : Int) (s : Int) (e : Int) (M : zM) (Q : Int → zM → Prop) (X : zM → Prop) : Prop :=
  zg_X4_lookAtBlocks_14 l s0 G ca d C S w0 p mk mka s e ((M mk 1)) 0 0 M Q X
set_option maxRecDepth 100000 in
theorem z_X4_lookAtBlocks {l : Launch} {s0 : State} {a0 : Array Value} {G : va_G} {ca : Nat → ClassId} (Γ : rt_Γ l s0 a0 G ca) {d : Nat} {C : Nat × Nat} {S : zS} (hd : 1 ≤ d) (hok : zok C) {p : Int} {mk : Int} {mka : Int} (hs : zSok S) (hp : zSc S p) (hmk : zCe S mk mka 4096) (hs55 : S 55 = some (0, 4, [(3, 1), (3, p), (3, mk), (0, 0), (0, 0), (0, 0), (0, 0), (0, 0)])) {s : Int} {e : Int} {M : zM} {Q : Int → zM → Prop} {X : zM → Prop} (h : zt_X4_lookAtBlocks l s0 G ca d C S (zw s0 ca C S M) p mk mka s e M Q X) : zm_X4_lookAtBlocks l s0 G ca d C S  s e M Q X := by
  refine z_met (lv := [(0, zv s0 2 55), (1, zv s0 0 s), (2, zv s0 0 e)]) Γ kk_X4_lookAtBlocks rfl (show (lg_sl [zv s0 2 55, zv s0 0 s, zv s0 0 e]).length ≤ 10 from by simp only [zn_0, zn_2, show (lg_sl []).length = 0 from rfl]; omega) (show lv_args 0 [zv s0 2 55, zv s0 0 s, zv s0 0 e] = [(0, zv s0 2 55), (1, zv s0 0 s), (2, zv s0 0 e)] from by rw [zl_2, zl_0, zl_0]; rfl) ?_
  unfold zt_X4_lookAtBlocks at h
  refine z_aload_n dX4_lookAtBlocks_0 rfl (j := 0) rfl ?_
  refine z_getc Γ kf_RX4_41 dX4_lookAtBlocks_1 (by decide) hs55 rfl ?_
  refine z_callV Γ kk_X0_count kc_RX4_21 (As := []) (k_X0_count (d := d - 1) Γ hok (hmk : zCe S mk mka 4096) (M := M) (Q := fun v9 M9 => v9 = (M mk 1) ∧ M9 = M) (X := X) (show _ ∧ _ from ⟨rfl, rfl⟩)) (by omega) (by decide) (show (parseMethodDescriptor yX0_count.desc).map (fun q => q.parameters.length) = some 0 by decide +kernel) hok (Nat.zero_le _) dX4_lookAtBlocks_4 (hmk : zCe S mk mka 4096).1 (hmk : zCe S mk mka 4096).2.2.2.1 rfl rfl (fun _ h9 => nomatch h9) ?_
  rintro v9 M9 ⟨e9, e8⟩
  rw [e9, e8]
  clear e9 e8 v9 M9
  show rt_Go _ _ _ _ _ _ _ _ _ _ _ _ 7 [(0, zv s0 2 55), (1, zv s0 0 s), (2, zv s0 0 e)] [zv s0 0 ((M mk 1))] (zw s0 ca C S M)
  refine z_istore_n (i := 3) (lv' := [(3, zv s0 0 ((M mk 1))), (0, zv s0 2 55), (1, zv s0 0 s), (2, zv s0 0 e)]) dX4_lookAtBlocks_7 rfl (by decide) (by simp [zv_cat0, zv_cat1, zv_cat2, zv_cats]) ?_
  refine z_iconst dX4_lookAtBlocks_8 ?_
  refine z_istore (i := 4) (lv' := [(4, zv s0 0 0), (3, zv s0 0 ((M mk 1))), (0, zv s0 2 55), (1, zv s0 0 s), (2, zv s0 0 e)]) dX4_lookAtBlocks_9 (by decide) (by simp [zv_cat0, zv_cat1, zv_cat2, zv_cats]) ?_
  refine z_iconst dX4_lookAtBlocks_11 ?_
  refine z_istore (i := 5) (lv' := [(5, zv s0 0 0), (4, zv s0 0 0), (3, zv s0 0 ((M mk 1))), (0, zv s0 2 55), (1, zv s0 0 s), (2, zv s0 0 e)]) dX4_lookAtBlocks_12 (by decide) (by simp [zv_cat0, zv_cat1, zv_cat2, zv_cats]) ?_
  exact rt_lfew [3, 4, 5, 2, 1, 0] rfl h

