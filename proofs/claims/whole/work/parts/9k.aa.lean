/-! ===== the class's upper methods: their trees (other exceptions than IllegalState are not on these roads) ===== -/
def zt_X9_writer (l : Launch) (s0 : State) (G : va_G) (ca : Nat → ClassId) (d : Nat) (C : Nat × Nat) (S : zS) (w0 : rt_Wd)   (M : zM) (Q : Int → zM → Prop) (X : zM → Prop) : Prop :=
  zIf (w32 (M 0 10) < 0) (Q ((-1)) M) (zIf (8 ≤ w32 (M 0 10)) (Q ((-1)) M) ((0 ≤ M 0 10 ∧ M 0 10 < 8) ∧ (Q (M 5 (M 0 10)) M)))
set_option maxRecDepth 100000 in
theorem z_X9_writer {l : Launch} {s0 : State} {a0 : Array Value} {G : va_G} {ca : Nat → ClassId} (Γ : rt_Γ l s0 a0 G ca) {d : Nat} {C : Nat × Nat} {S : zS} (hok : zok C)  (hs : zSok S)  {M : zM} {Q : Int → zM → Prop} {X : zM → Prop} (h : zt_X9_writer l s0 G ca d C S (zw s0 ca C S M)   M Q X) : zm_X9_writer l s0 G ca d C S   M Q X := by
  refine z_met (lv := [(0, zv s0 2 0)]) Γ kk_X9_writer rfl (show (lg_sl [zv s0 2 0]).length ≤ 1 from by simp only [zn_2, show (lg_sl []).length = 0 from rfl]; omega) (show lv_args 0 [zv s0 2 0] = [(0, zv s0 2 0)] from by rw [zl_2]; rfl) ?_
  unfold zt_X9_writer at h
  refine z_aload_n dX9_writer_0 rfl (j := 0) rfl ?_
  refine z_get Γ kf_RX9_72 dX9_writer_1 (by decide) (hs 0 _ rfl) rfl (by decide) (v9 := M 0 10) rfl ?_
  refine z_if_lt (tgt := 28) (x' := w32 (M 0 10)) rfl dX9_writer_4 (by decide) (fun c4 => ?_) (fun c4 => ?_)
  · replace h := h.1 c4
    refine z_null dX9_writer_28 ?_
    exact z_aret dX9_writer_29 rfl h
  · replace h := h.2 c4
    refine z_aload_n dX9_writer_7 rfl (j := 0) rfl ?_
    refine z_get Γ kf_RX9_72 dX9_writer_8 (by decide) (hs 0 _ rfl) rfl (by decide) (v9 := M 0 10) rfl ?_
    refine z_bipush dX9_writer_11 (by decide) ?_
    refine z_icmp_ge (tgt := 28) (x' := w32 (M 0 10)) (y' := 8) rfl (by decide) dX9_writer_13 (by decide) (fun c13 => ?_) (fun c13 => ?_)
    · replace h := h.1 c13
      refine z_null dX9_writer_28 ?_
      exact z_aret dX9_writer_29 rfl h
    · replace h := h.2 c13
      refine z_aload_n dX9_writer_16 rfl (j := 0) rfl ?_
      refine z_getc Γ kf_RX9_23 dX9_writer_17 (by decide) (hs 0 _ rfl) rfl ?_
      refine z_aload_n dX9_writer_20 rfl (j := 0) rfl ?_
      refine z_get Γ kf_RX9_72 dX9_writer_21 (by decide) (hs 0 _ rfl) rfl (by decide) (v9 := M 0 10) rfl ?_
      obtain ⟨hi24, h⟩ := h
      refine z_aald Γ dX9_writer_24 (by decide) (hs 5 _ rfl) (by decide) hi24 (v9 := M 5 (M 0 10)) rfl ?_
      refine rt_goto (tgt := 29) dX9_writer_25 (by decide) ?_
      exact z_aret dX9_writer_29 rfl h
def zt_X9_bytesOf (l : Launch) (s0 : State) (G : va_G) (ca : Nat → ClassId) (d : Nat) (C : Nat × Nat) (S : zS) (w0 : rt_Wd)  (w : Int) (M : zM) (Q : Int → zM → Prop) (X : zM → Prop) : Prop :=
  zIf (w32 w = 0) (zRw S (M 0 8) ∧ (Q (((M 0 8) + 1)) M)) (Q 3 M)
set_option maxRecDepth 100000 in
theorem z_X9_bytesOf {l : Launch} {s0 : State} {a0 : Array Value} {G : va_G} {ca : Nat → ClassId} (Γ : rt_Γ l s0 a0 G ca) {d : Nat} {C : Nat × Nat} {S : zS} (hd : 1 ≤ d) (hok : zok C)  (hs : zSok S) {w : Int} {M : zM} {Q : Int → zM → Prop} {X : zM → Prop} (h : zt_X9_bytesOf l s0 G ca d C S (zw s0 ca C S M)  w M Q X) : zm_X9_bytesOf l s0 G ca d C S  w M Q X := by
  refine z_met (lv := [(0, zv s0 2 0), (1, zv s0 0 w)]) Γ kk_X9_bytesOf rfl (show (lg_sl [zv s0 2 0, zv s0 0 w]).length ≤ 2 from by simp only [zn_0, zn_2, show (lg_sl []).length = 0 from rfl]; omega) (show lv_args 0 [zv s0 2 0, zv s0 0 w] = [(0, zv s0 2 0), (1, zv s0 0 w)] from by rw [zl_2, zl_0]; rfl) ?_
  unfold zt_X9_bytesOf at h
  refine z_iload_n dX9_bytesOf_0 rfl (j := 1) rfl ?_
  refine z_if_ne (tgt := 14) (x' := w32 w) rfl dX9_bytesOf_1 (by decide) (fun c1 => ?_) (fun c1 => ?_)
  · replace h := h.2 c1
    refine z_aload_n dX9_bytesOf_14 rfl (j := 0) rfl ?_
    refine z_getc Γ kf_RX9_18 dX9_bytesOf_15 (by decide) (hs 0 _ rfl) rfl ?_
    exact z_aret dX9_bytesOf_18 rfl h
  · replace h := h.1 c1
    refine z_aload_n dX9_bytesOf_4 rfl (j := 0) rfl ?_
    refine z_get Γ kf_RX9_65 dX9_bytesOf_5 (by decide) (hs 0 _ rfl) rfl (by decide) (v9 := M 0 8) rfl ?_
    obtain ⟨hk0, h⟩ := h
    refine z_callV Γ kk_X5_bytes kc_RX9_158 (As := []) (z_X5_bytes (d := d - 1) Γ hok hk0 (M := M) (Q := fun v9 M9 => v9 = ((M 0 8) + 1) ∧ M9 = M) (X := X) (show _ ∧ _ from ⟨rfl, rfl⟩)) (by omega) (by decide) (show (parseMethodDescriptor yX5_bytes.desc).map (fun q => q.parameters.length) = some 0 by decide +kernel) hok (Nat.zero_le _) dX9_bytesOf_8 hk0.1 hk0.2.1 rfl rfl (fun _ h9 => nomatch h9) ?_
    rintro v9 M9 ⟨e9, e8⟩
    rw [e9, e8]
    clear e9 e8 v9 M9
    show rt_Go _ _ _ _ _ _ _ _ _ _ _ _ 11 [(0, zv s0 2 0), (1, zv s0 0 w)] [zv s0 2 (((M 0 8) + 1))] (zw s0 ca C S M)
    refine rt_goto (tgt := 18) dX9_bytesOf_11 (by decide) ?_
    exact z_aret dX9_bytesOf_18 rfl h
abbrev zg_X9_feedOne_3 (l : Launch) (s0 : State) (G : va_G) (ca : Nat → ClassId) (d : Nat) (C : Nat × Nat) (S : zS) (w0 : rt_Wd)  (v1 : Int) (v2 : Int)  (M : zM) (Q : Int → zM → Prop) (X : zM → Prop) : Prop := rt_Go l s0 G RX9 "feedOne" cX9_feedOne 3 (Option.none : Option FieldType) [] d w0 (zQ s0 ca 9 C S Q X) 3 [(0, zv s0 2 0), (1, zv s0 0 v1), (2, zv s0 0 v2)] [] (zw s0 ca C S M)
def zt_X9_feedOne_3 (l : Launch) (s0 : State) (G : va_G) (ca : Nat → ClassId) (d : Nat) (C : Nat × Nat) (S : zS) (w0 : rt_Wd)  (v1 : Int) (v2 : Int)  (M : zM) (Q : Int → zM → Prop) (X : zM → Prop) : Prop :=
  zIf (w32 v2 < 0) (Q 0 M) (zg_X9_feedOne_3 l s0 G ca d C S w0  v1 (v2 + (-8)) ((zadd M 1 2 4096 (zand (zushr v1 v2) 255))) Q X)
set_option maxRecDepth 100000 in
theorem zs_X9_feedOne_3 {l : Launch} {s0 : State} {a0 : Array Value} {G : va_G} {ca : Nat → ClassId} (Γ : rt_Γ l s0 a0 G ca) {d : Nat} {C : Nat × Nat} {S : zS} (hd : 1 ≤ d) (hok : zok C)  (hs : zSok S) {w0 : rt_Wd} {v1 : Int} {v2 : Int}   {M : zM} {Q : Int → zM → Prop} {X : zM → Prop} (h : zt_X9_feedOne_3 l s0 G ca d C S w0  v1 v2 M Q X) : zg_X9_feedOne_3 l s0 G ca d C S w0  v1 v2 M Q X := by
  unfold zt_X9_feedOne_3 at h
  refine z_iload_n dX9_feedOne_3 rfl (j := 2) rfl ?_
  refine z_if_lt (tgt := 28) (x' := w32 v2) rfl dX9_feedOne_4 (by decide) (fun c4 => ?_) (fun c4 => ?_)
  · replace h := h.1 c4
    exact z_vret dX9_feedOne_28 rfl h
  · replace h := h.2 c4
    refine z_aload_n dX9_feedOne_7 rfl (j := 0) rfl ?_
    refine z_getc Γ kf_RX9_14 dX9_feedOne_8 (by decide) (hs 0 _ rfl) rfl ?_
    refine z_iload_n dX9_feedOne_11 rfl (j := 1) rfl ?_
    refine z_iload_n dX9_feedOne_12 rfl (j := 2) rfl ?_
    refine z_iushr dX9_feedOne_13 ?_
    refine z_sipush dX9_feedOne_14 (by decide) ?_
    refine z_iand dX9_feedOne_17 ?_
    refine z_callV Γ kk_X0_add kc_RX9_154 (As := [zv s0 0 (zand (zushr v1 v2) 255)]) (k_X0_add (d := d - 1) Γ hok (⟨by decide, by decide, by decide, hs 1 _ rfl, hs 2 _ rfl⟩ : zCe S 1 2 4096) (M := M) (Q := fun v9 M9 => v9 = (zaddv M 1 4096) ∧ M9 = (zadd M 1 2 4096 (zand (zushr v1 v2) 255))) (X := X) (show _ ∧ _ from ⟨rfl, rfl⟩)) (by omega) (by decide) (show (parseMethodDescriptor yX0_add.desc).map (fun q => q.parameters.length) = some 1 by decide +kernel) hok (Nat.zero_le _) dX9_feedOne_18 (⟨by decide, by decide, by decide, hs 1 _ rfl, hs 2 _ rfl⟩ : zCe S 1 2 4096).1 (⟨by decide, by decide, by decide, hs 1 _ rfl, hs 2 _ rfl⟩ : zCe S 1 2 4096).2.2.2.1 rfl rfl (fun _ h9 => nomatch h9) ?_
    rintro v9 M9 ⟨e9, e8⟩
    rw [e9, e8]
    clear e9 e8 v9 M9
    show rt_Go _ _ _ _ _ _ _ _ _ _ _ _ 21 [(0, zv s0 2 0), (1, zv s0 0 v1), (2, zv s0 0 v2)] [zv s0 0 ((zaddv M 1 4096))] (zw s0 ca C S ((zadd M 1 2 4096 (zand (zushr v1 v2) 255))))
    refine z_pop0 dX9_feedOne_21 ?_
    refine z_iinc (lv' := [(2, zv s0 0 (v2 + (-8))), (0, zv s0 2 0), (1, zv s0 0 v1)]) dX9_feedOne_22 (j := 2) rfl (by decide) (by simp [zv_cat0, zv_cat1, zv_cat2, zv_cats]) ?_
    refine rt_goto (tgt := 3) dX9_feedOne_25 (by decide) ?_
    exact rt_lfew [1, 2, 0] rfl h
def zt_X9_feedOne (l : Launch) (s0 : State) (G : va_G) (ca : Nat → ClassId) (d : Nat) (C : Nat × Nat) (S : zS) (w0 : rt_Wd)  (v : Int) (M : zM) (Q : Int → zM → Prop) (X : zM → Prop) : Prop :=
  zg_X9_feedOne_3 l s0 G ca d C S w0  v 24 M Q X
set_option maxRecDepth 100000 in
theorem z_X9_feedOne {l : Launch} {s0 : State} {a0 : Array Value} {G : va_G} {ca : Nat → ClassId} (Γ : rt_Γ l s0 a0 G ca) {d : Nat} {C : Nat × Nat} {S : zS} (hd : 1 ≤ d) (hok : zok C)  (hs : zSok S) {v : Int} {M : zM} {Q : Int → zM → Prop} {X : zM → Prop} (h : zt_X9_feedOne l s0 G ca d C S (zw s0 ca C S M)  v M Q X) : zm_X9_feedOne l s0 G ca d C S  v M Q X := by
  refine z_met (lv := [(0, zv s0 2 0), (1, zv s0 0 v)]) Γ kk_X9_feedOne rfl (show (lg_sl [zv s0 2 0, zv s0 0 v]).length ≤ 3 from by simp only [zn_0, zn_2, show (lg_sl []).length = 0 from rfl]; omega) (show lv_args 0 [zv s0 2 0, zv s0 0 v] = [(0, zv s0 2 0), (1, zv s0 0 v)] from by rw [zl_2, zl_0]; rfl) ?_
  unfold zt_X9_feedOne at h
  refine z_bipush dX9_feedOne_0 (by decide) ?_
  refine z_istore_n (i := 2) (lv' := [(2, zv s0 0 24), (0, zv s0 2 0), (1, zv s0 0 v)]) dX9_feedOne_2 rfl (by decide) (by simp [zv_cat0, zv_cat1, zv_cat2, zv_cats]) ?_
  exact rt_lfew [1, 2, 0] rfl h
def zt_X9_feed (l : Launch) (s0 : State) (G : va_G) (ca : Nat → ClassId) (d : Nat) (C : Nat × Nat) (S : zS) (w0 : rt_Wd)  (a : Int) (b : Int) (c : Int) (e : Int) (f : Int) (M : zM) (Q : Int → zM → Prop) (X : zM → Prop) : Prop :=
  zIf (w32 (((M 1 1)) + 20) ≤ 4096) (zm_X9_feedOne l s0 G ca (d - 1) C S a M (fun r26 M26 => zm_X9_feedOne l s0 G ca (d - 1) C S b M26 (fun r31 M31 => zm_X9_feedOne l s0 G ca (d - 1) C S c M31 (fun r36 M36 => zm_X9_feedOne l s0 G ca (d - 1) C S e M36 (fun r42 M42 => zm_X9_feedOne l s0 G ca (d - 1) C S f M42 (fun r48 M48 => Q ((M48 1 1)) M48) X) X) X) X) X) (False)
set_option maxRecDepth 100000 in
theorem z_X9_feed {l : Launch} {s0 : State} {a0 : Array Value} {G : va_G} {ca : Nat → ClassId} (Γ : rt_Γ l s0 a0 G ca) {d : Nat} {C : Nat × Nat} {S : zS} (hd : 1 ≤ d) (hok : zok C)  (hs : zSok S) {a : Int} {b : Int} {c : Int} {e : Int} {f : Int} {M : zM} {Q : Int → zM → Prop} {X : zM → Prop} (h : zt_X9_feed l s0 G ca d C S (zw s0 ca C S M)  a b c e f M Q X) : zm_X9_feed l s0 G ca d C S  a b c e f M Q X := by
  refine z_met (lv := [(0, zv s0 2 0), (1, zv s0 0 a), (2, zv s0 0 b), (3, zv s0 0 c), (4, zv s0 0 e), (5, zv s0 0 f)]) Γ kk_X9_feed rfl (show (lg_sl [zv s0 2 0, zv s0 0 a, zv s0 0 b, zv s0 0 c, zv s0 0 e, zv s0 0 f]).length ≤ 6 from by simp only [zn_0, zn_2, show (lg_sl []).length = 0 from rfl]; omega) (show lv_args 0 [zv s0 2 0, zv s0 0 a, zv s0 0 b, zv s0 0 c, zv s0 0 e, zv s0 0 f] = [(0, zv s0 2 0), (1, zv s0 0 a), (2, zv s0 0 b), (3, zv s0 0 c), (4, zv s0 0 e), (5, zv s0 0 f)] from by rw [zl_2, zl_0, zl_0, zl_0, zl_0, zl_0]; rfl) ?_
  unfold zt_X9_feed at h
  refine z_aload_n dX9_feed_0 rfl (j := 0) rfl ?_
  refine z_getc Γ kf_RX9_14 dX9_feed_1 (by decide) (hs 0 _ rfl) rfl ?_
  refine z_callV Γ kk_X0_count kc_RX9_79 (As := []) (k_X0_count (d := d - 1) Γ hok (⟨by decide, by decide, by decide, hs 1 _ rfl, hs 2 _ rfl⟩ : zCe S 1 2 4096) (M := M) (Q := fun v9 M9 => v9 = (M 1 1) ∧ M9 = M) (X := X) (show _ ∧ _ from ⟨rfl, rfl⟩)) (by omega) (by decide) (show (parseMethodDescriptor yX0_count.desc).map (fun q => q.parameters.length) = some 0 by decide +kernel) hok (Nat.zero_le _) dX9_feed_4 (⟨by decide, by decide, by decide, hs 1 _ rfl, hs 2 _ rfl⟩ : zCe S 1 2 4096).1 (⟨by decide, by decide, by decide, hs 1 _ rfl, hs 2 _ rfl⟩ : zCe S 1 2 4096).2.2.2.1 rfl rfl (fun _ h9 => nomatch h9) ?_
  rintro v9 M9 ⟨e9, e8⟩
  rw [e9, e8]
  clear e9 e8 v9 M9
  show rt_Go _ _ _ _ _ _ _ _ _ _ _ _ 7 [(0, zv s0 2 0), (1, zv s0 0 a), (2, zv s0 0 b), (3, zv s0 0 c), (4, zv s0 0 e), (5, zv s0 0 f)] [zv s0 0 ((M 1 1))] (zw s0 ca C S M)
  refine z_bipush dX9_feed_7 (by decide) ?_
  refine z_iadd dX9_feed_9 ?_
  refine z_sipush dX9_feed_10 (by decide) ?_
  refine z_icmp_le (tgt := 24) (x' := w32 (((M 1 1)) + 20)) (y' := 4096) rfl (by decide) dX9_feed_13 (by decide) (fun c13 => ?_) (fun c13 => ?_)
  · replace h := h.1 c13
    refine z_aload_n dX9_feed_24 rfl (j := 0) rfl ?_
    refine z_iload_n dX9_feed_25 rfl (j := 1) rfl ?_
    refine z_callV Γ kk_X9_feedOne kc_RX9_86 (As := [zv s0 0 a]) h (by omega) (by decide) (show (parseMethodDescriptor yX9_feedOne.desc).map (fun q => q.parameters.length) = some 1 by decide +kernel) hok (Nat.zero_le _) dX9_feed_26 (by decide) (hs 0 _ rfl) rfl rfl (fun _ h9 => nomatch h9) ?_
    clear h
    intro r26 M26 h
    show rt_Go _ _ _ _ _ _ _ _ _ _ _ _ 29 [(0, zv s0 2 0), (1, zv s0 0 a), (2, zv s0 0 b), (3, zv s0 0 c), (4, zv s0 0 e), (5, zv s0 0 f)] [] (zw s0 ca C S M26)
    refine z_aload_n dX9_feed_29 rfl (j := 0) rfl ?_
    refine z_iload_n dX9_feed_30 rfl (j := 2) rfl ?_
    refine z_callV Γ kk_X9_feedOne kc_RX9_86 (As := [zv s0 0 b]) h (by omega) (by decide) (show (parseMethodDescriptor yX9_feedOne.desc).map (fun q => q.parameters.length) = some 1 by decide +kernel) hok (Nat.zero_le _) dX9_feed_31 (by decide) (hs 0 _ rfl) rfl rfl (fun _ h9 => nomatch h9) ?_
    clear h
    intro r31 M31 h
    show rt_Go _ _ _ _ _ _ _ _ _ _ _ _ 34 [(0, zv s0 2 0), (1, zv s0 0 a), (2, zv s0 0 b), (3, zv s0 0 c), (4, zv s0 0 e), (5, zv s0 0 f)] [] (zw s0 ca C S M31)
    refine z_aload_n dX9_feed_34 rfl (j := 0) rfl ?_
    refine z_iload_n dX9_feed_35 rfl (j := 3) rfl ?_
    refine z_callV Γ kk_X9_feedOne kc_RX9_86 (As := [zv s0 0 c]) h (by omega) (by decide) (show (parseMethodDescriptor yX9_feedOne.desc).map (fun q => q.parameters.length) = some 1 by decide +kernel) hok (Nat.zero_le _) dX9_feed_36 (by decide) (hs 0 _ rfl) rfl rfl (fun _ h9 => nomatch h9) ?_
    clear h
    intro r36 M36 h
    show rt_Go _ _ _ _ _ _ _ _ _ _ _ _ 39 [(0, zv s0 2 0), (1, zv s0 0 a), (2, zv s0 0 b), (3, zv s0 0 c), (4, zv s0 0 e), (5, zv s0 0 f)] [] (zw s0 ca C S M36)
    refine z_aload_n dX9_feed_39 rfl (j := 0) rfl ?_
    refine z_iload dX9_feed_40 (j := 4) rfl ?_
    refine z_callV Γ kk_X9_feedOne kc_RX9_86 (As := [zv s0 0 e]) h (by omega) (by decide) (show (parseMethodDescriptor yX9_feedOne.desc).map (fun q => q.parameters.length) = some 1 by decide +kernel) hok (Nat.zero_le _) dX9_feed_42 (by decide) (hs 0 _ rfl) rfl rfl (fun _ h9 => nomatch h9) ?_
    clear h
    intro r42 M42 h
    show rt_Go _ _ _ _ _ _ _ _ _ _ _ _ 45 [(0, zv s0 2 0), (1, zv s0 0 a), (2, zv s0 0 b), (3, zv s0 0 c), (4, zv s0 0 e), (5, zv s0 0 f)] [] (zw s0 ca C S M42)
    refine z_aload_n dX9_feed_45 rfl (j := 0) rfl ?_
    refine z_iload dX9_feed_46 (j := 5) rfl ?_
    refine z_callV Γ kk_X9_feedOne kc_RX9_86 (As := [zv s0 0 f]) h (by omega) (by decide) (show (parseMethodDescriptor yX9_feedOne.desc).map (fun q => q.parameters.length) = some 1 by decide +kernel) hok (Nat.zero_le _) dX9_feed_48 (by decide) (hs 0 _ rfl) rfl rfl (fun _ h9 => nomatch h9) ?_
    clear h
    intro r48 M48 h
    show rt_Go _ _ _ _ _ _ _ _ _ _ _ _ 51 [(0, zv s0 2 0), (1, zv s0 0 a), (2, zv s0 0 b), (3, zv s0 0 c), (4, zv s0 0 e), (5, zv s0 0 f)] [] (zw s0 ca C S M48)
    refine z_aload_n dX9_feed_51 rfl (j := 0) rfl ?_
    refine z_getc Γ kf_RX9_14 dX9_feed_52 (by decide) (hs 0 _ rfl) rfl ?_
    refine z_callV Γ kk_X0_count kc_RX9_79 (As := []) (k_X0_count (d := d - 1) Γ hok (⟨by decide, by decide, by decide, hs 1 _ rfl, hs 2 _ rfl⟩ : zCe S 1 2 4096) (M := M48) (Q := fun v9 M9 => v9 = (M48 1 1) ∧ M9 = M48) (X := X) (show _ ∧ _ from ⟨rfl, rfl⟩)) (by omega) (by decide) (show (parseMethodDescriptor yX0_count.desc).map (fun q => q.parameters.length) = some 0 by decide +kernel) hok (Nat.zero_le _) dX9_feed_55 (⟨by decide, by decide, by decide, hs 1 _ rfl, hs 2 _ rfl⟩ : zCe S 1 2 4096).1 (⟨by decide, by decide, by decide, hs 1 _ rfl, hs 2 _ rfl⟩ : zCe S 1 2 4096).2.2.2.1 rfl rfl (fun _ h9 => nomatch h9) ?_
    rintro v9 M9 ⟨e9, e8⟩
    rw [e9, e8]
    clear e9 e8 v9 M9
    show rt_Go _ _ _ _ _ _ _ _ _ _ _ _ 58 [(0, zv s0 2 0), (1, zv s0 0 a), (2, zv s0 0 b), (3, zv s0 0 c), (4, zv s0 0 e), (5, zv s0 0 f)] [zv s0 0 ((M48 1 1))] (zw s0 ca C S M48)
    exact z_iret dX9_feed_58 rfl h
  · replace h := h.2 c13
    exact h.elim
def zt_X9_end (l : Launch) (s0 : State) (G : va_G) (ca : Nat → ClassId) (d : Nat) (C : Nat × Nat) (S : zS) (w0 : rt_Wd)  (k : Int) (M : zM) (Q : Int → zM → Prop) (X : zM → Prop) : Prop :=
  zIf (w32 k < 0) (False) (zIf (w32 k ≤ w32 ((M 1 1))) (Q 0 ((zcut M 1 4096 k))) (False))
set_option maxRecDepth 100000 in
theorem z_X9_end {l : Launch} {s0 : State} {a0 : Array Value} {G : va_G} {ca : Nat → ClassId} (Γ : rt_Γ l s0 a0 G ca) {d : Nat} {C : Nat × Nat} {S : zS} (hd : 1 ≤ d) (hok : zok C)  (hs : zSok S) {k : Int} {M : zM} {Q : Int → zM → Prop} {X : zM → Prop} (h : zt_X9_end l s0 G ca d C S (zw s0 ca C S M)  k M Q X) : zm_X9_end l s0 G ca d C S  k M Q X := by
  refine z_met (lv := [(0, zv s0 2 0), (1, zv s0 0 k)]) Γ kk_X9_end rfl (show (lg_sl [zv s0 2 0, zv s0 0 k]).length ≤ 2 from by simp only [zn_0, zn_2, show (lg_sl []).length = 0 from rfl]; omega) (show lv_args 0 [zv s0 2 0, zv s0 0 k] = [(0, zv s0 2 0), (1, zv s0 0 k)] from by rw [zl_2, zl_0]; rfl) ?_
  unfold zt_X9_end at h
  refine z_iload_n dX9_end_0 rfl (j := 1) rfl ?_
  refine z_if_lt (tgt := 15) (x' := w32 k) rfl dX9_end_1 (by decide) (fun c1 => ?_) (fun c1 => ?_)
  · replace h := h.1 c1
    exact h.elim
  · replace h := h.2 c1
    refine z_iload_n dX9_end_4 rfl (j := 1) rfl ?_
    refine z_aload_n dX9_end_5 rfl (j := 0) rfl ?_
    refine z_getc Γ kf_RX9_14 dX9_end_6 (by decide) (hs 0 _ rfl) rfl ?_
    refine z_callV Γ kk_X0_count kc_RX9_79 (As := []) (k_X0_count (d := d - 1) Γ hok (⟨by decide, by decide, by decide, hs 1 _ rfl, hs 2 _ rfl⟩ : zCe S 1 2 4096) (M := M) (Q := fun v9 M9 => v9 = (M 1 1) ∧ M9 = M) (X := X) (show _ ∧ _ from ⟨rfl, rfl⟩)) (by omega) (by decide) (show (parseMethodDescriptor yX0_count.desc).map (fun q => q.parameters.length) = some 0 by decide +kernel) hok (by simp only [List.map, zv_cat0, zv_cat1, zv_cat2, List.sum_cons, List.sum_nil]; decide) dX9_end_9 (⟨by decide, by decide, by decide, hs 1 _ rfl, hs 2 _ rfl⟩ : zCe S 1 2 4096).1 (⟨by decide, by decide, by decide, hs 1 _ rfl, hs 2 _ rfl⟩ : zCe S 1 2 4096).2.2.2.1 rfl rfl (fun _ h9 => nomatch h9) ?_
    rintro v9 M9 ⟨e9, e8⟩
    rw [e9, e8]
    clear e9 e8 v9 M9
    show rt_Go _ _ _ _ _ _ _ _ _ _ _ _ 12 [(0, zv s0 2 0), (1, zv s0 0 k)] [zv s0 0 ((M 1 1)), zv s0 0 k] (zw s0 ca C S M)
    refine z_icmp_le (tgt := 23) (x' := w32 k) (y' := w32 ((M 1 1))) rfl rfl dX9_end_12 (by decide) (fun c12 => ?_) (fun c12 => ?_)
    · replace h := h.1 c12
      refine z_aload_n dX9_end_23 rfl (j := 0) rfl ?_
      refine z_getc Γ kf_RX9_14 dX9_end_24 (by decide) (hs 0 _ rfl) rfl ?_
      refine z_iload_n dX9_end_27 rfl (j := 1) rfl ?_
      refine z_callV Γ kk_X0_cut kc_RX9_92 (As := [zv s0 0 k]) (k_X0_cut (d := d - 1) Γ hok (⟨by decide, by decide, by decide, hs 1 _ rfl, hs 2 _ rfl⟩ : zCe S 1 2 4096) (M := M) (Q := fun v9 M9 => v9 = 0 ∧ M9 = (zcut M 1 4096 k)) (X := X) (show _ ∧ _ from ⟨rfl, rfl⟩)) (by omega) (by decide) (show (parseMethodDescriptor yX0_cut.desc).map (fun q => q.parameters.length) = some 1 by decide +kernel) hok (Nat.zero_le _) dX9_end_28 (⟨by decide, by decide, by decide, hs 1 _ rfl, hs 2 _ rfl⟩ : zCe S 1 2 4096).1 (⟨by decide, by decide, by decide, hs 1 _ rfl, hs 2 _ rfl⟩ : zCe S 1 2 4096).2.2.2.1 rfl rfl (fun _ h9 => nomatch h9) ?_
      rintro v9 M9 ⟨e9, e8⟩
      rw [e9, e8]
      clear e9 e8 v9 M9
      show rt_Go _ _ _ _ _ _ _ _ _ _ _ _ 31 [(0, zv s0 2 0), (1, zv s0 0 k)] [] (zw s0 ca C S ((zcut M 1 4096 k)))
      exact z_vret dX9_end_31 rfl h
    · replace h := h.2 c12
      exact h.elim
def zt_X9_load (l : Launch) (s0 : State) (G : va_G) (ca : Nat → ClassId) (d : Nat) (C : Nat × Nat) (S : zS) (w0 : rt_Wd)  (v : Int) (M : zM) (Q : Int → zM → Prop) (X : zM → Prop) : Prop :=
  zIf (w32 v < 0) (False) (zIf (w32 v < 8) ((0 ≤ v ∧ v < 8) ∧ (zIf (M 5 v < 0) (False) (zm_X4_lookAtRows l s0 G ca (d - 1) C S 1 (M 5 v) (M 0 9) M (fun r50 M50 => zm_X4_wrongPlace l s0 G ca (d - 1) C S  M50 (fun r59 M59 => zIf (0 ≤ w32 r50) (Q r50 ((zcut ((zu ((zu ((zu ((zu M59 0 11 r59)) 0 8 (M59 0 9))) 0 9 (M59 0 8))) 0 10 v)) 1 4096 0))) (Q r50 ((zu M59 0 11 r59)))) X) X))) (False))
set_option maxRecDepth 100000 in
theorem z_X9_load {l : Launch} {s0 : State} {a0 : Array Value} {G : va_G} {ca : Nat → ClassId} (Γ : rt_Γ l s0 a0 G ca) {d : Nat} {C : Nat × Nat} {S : zS} (hd : 1 ≤ d) (hok : zok C)  (hs : zSok S) (hs55 : S 55 = some (0, 4, [(2, 0), (2, 0), (2, 0), (0, 0), (0, 0), (0, 0), (0, 0), (0, 0)])) {v : Int} {M : zM} {Q : Int → zM → Prop} {X : zM → Prop} (h : zt_X9_load l s0 G ca d C S (zw s0 ca C S M)  v M Q X) : zm_X9_load l s0 G ca d C S  v M Q X := by
  refine z_met (lv := [(0, zv s0 2 0), (1, zv s0 0 v)]) Γ kk_X9_load rfl (show (lg_sl [zv s0 2 0, zv s0 0 v]).length ≤ 5 from by simp only [zn_0, zn_2, show (lg_sl []).length = 0 from rfl]; omega) (show lv_args 0 [zv s0 2 0, zv s0 0 v] = [(0, zv s0 2 0), (1, zv s0 0 v)] from by rw [zl_2, zl_0]; rfl) ?_
  unfold zt_X9_load at h
  refine z_iload_n dX9_load_0 rfl (j := 1) rfl ?_
  refine z_if_lt (tgt := 10) (x' := w32 v) rfl dX9_load_1 (by decide) (fun c1 => ?_) (fun c1 => ?_)
  · replace h := h.1 c1
    exact h.elim
  · replace h := h.2 c1
    refine z_iload_n dX9_load_4 rfl (j := 1) rfl ?_
    refine z_bipush dX9_load_5 (by decide) ?_
    refine z_icmp_lt (tgt := 18) (x' := w32 v) (y' := 8) rfl (by decide) dX9_load_7 (by decide) (fun c7 => ?_) (fun c7 => ?_)
    · replace h := h.1 c7
      refine z_aload_n dX9_load_18 rfl (j := 0) rfl ?_
      refine z_getc Γ kf_RX9_23 dX9_load_19 (by decide) (hs 0 _ rfl) rfl ?_
      refine z_iload_n dX9_load_22 rfl (j := 1) rfl ?_
      obtain ⟨hi23, h⟩ := h
      refine z_aald Γ dX9_load_23 (by decide) (hs 5 _ rfl) (by decide) hi23 (v9 := M 5 v) rfl ?_
      refine z_astore_n (i := 2) (lv' := [(2, zv s0 2 (M 5 v)), (0, zv s0 2 0), (1, zv s0 0 v)]) dX9_load_24 rfl (by decide) (by simp [zv_cat0, zv_cat1, zv_cat2, zv_cats]) ?_
      refine z_aload_n dX9_load_25 rfl (j := 0) rfl ?_
      refine z_ifnonnull (tgt := 37) dX9_load_26 (by decide) (fun c26 => ?_) (fun c26 => ?_)
      · replace h := h.2 c26
        refine z_aload_n dX9_load_37 rfl (j := 1) rfl ?_
        refine z_getc Γ kf_RX9_44 dX9_load_38 (by decide) (hs 0 _ rfl) rfl ?_
        refine z_aload_n dX9_load_41 rfl (j := 1) rfl ?_
        refine z_getc Γ kf_RX9_14 dX9_load_42 (by decide) (hs 0 _ rfl) rfl ?_
        refine z_aload_n dX9_load_45 rfl (j := 0) rfl ?_
        refine z_aload_n dX9_load_46 rfl (j := 1) rfl ?_
        refine z_get Γ kf_RX9_69 dX9_load_47 (by decide) (hs 0 _ rfl) rfl (by decide) (v9 := M 0 9) rfl ?_
        refine z_callV Γ kk_X4_lookAtRows kc_RX9_116 (As := [zv s0 2 1, zv s0 2 (M 5 v), zv s0 2 (M 0 9)]) h (by omega) (by decide) (show (parseMethodDescriptor yX4_lookAtRows.desc).map (fun q => q.parameters.length) = some 3 by decide +kernel) hok (Nat.zero_le _) dX9_load_50 (by decide) hs55 rfl rfl (fun _ h9 => nomatch h9) ?_
        clear h
        intro r50 M50 h
        show rt_Go _ _ _ _ _ _ _ _ _ _ _ _ 53 [(2, zv s0 2 (M 5 v)), (0, zv s0 2 0), (1, zv s0 0 v)] [zv s0 0 r50] (zw s0 ca C S M50)
        refine z_istore_n (i := 3) (lv' := [(3, zv s0 0 r50), (2, zv s0 2 (M 5 v)), (0, zv s0 2 0), (1, zv s0 0 v)]) dX9_load_53 rfl (by decide) (by simp [zv_cat0, zv_cat1, zv_cat2, zv_cats]) ?_
        refine z_aload_n dX9_load_54 rfl (j := 2) rfl ?_
        refine z_aload_n dX9_load_55 rfl (j := 2) rfl ?_
        refine z_getc Γ kf_RX9_44 dX9_load_56 (by decide) (hs 0 _ rfl) rfl ?_
        refine z_callV Γ kk_X4_wrongPlace kc_RX9_120 (As := []) h (by omega) (by decide) (show (parseMethodDescriptor yX4_wrongPlace.desc).map (fun q => q.parameters.length) = some 0 by decide +kernel) hok (by simp only [List.map, zv_cat0, zv_cat1, zv_cat2, List.sum_cons, List.sum_nil]; decide) dX9_load_59 (by decide) hs55 rfl rfl (fun _ h9 => nomatch h9) ?_
        clear h
        intro r59 M59 h
        show rt_Go _ _ _ _ _ _ _ _ _ _ _ _ 62 [(3, zv s0 0 r50), (2, zv s0 2 (M 5 v)), (0, zv s0 2 0), (1, zv s0 0 v)] [zv s0 0 r59, zv s0 2 0] (zw s0 ca C S M59)
        refine z_put0 Γ kp_RX9_76 dX9_load_62 (by decide) (hs 0 _ rfl) rfl (k9 := 11) rfl ?_
        refine z_iload_n dX9_load_65 rfl (j := 0) rfl ?_
        refine z_if_ge (tgt := 71) (x' := w32 r50) rfl dX9_load_66 (by decide) (fun c66 => ?_) (fun c66 => ?_)
        · replace h := h.1 c66
          refine z_aload_n dX9_load_71 rfl (j := 2) rfl ?_
          refine z_get Γ kf_RX9_65 dX9_load_72 (by decide) (hs 0 _ rfl) rfl (by decide) (v9 := M59 0 8) ((zu_k (by decide)).trans rfl) ?_
          refine z_astore (i := 4) (lv' := [(4, zv s0 2 (M59 0 8)), (3, zv s0 0 r50), (2, zv s0 2 (M 5 v)), (0, zv s0 2 0), (1, zv s0 0 v)]) dX9_load_75 (by decide) (by simp [zv_cat0, zv_cat1, zv_cat2, zv_cats]) ?_
          refine z_aload_n dX9_load_77 rfl (j := 3) rfl ?_
          refine z_aload_n dX9_load_78 rfl (j := 3) rfl ?_
          refine z_get Γ kf_RX9_69 dX9_load_79 (by decide) (hs 0 _ rfl) rfl (by decide) (v9 := M59 0 9) ((zu_k (by decide)).trans rfl) ?_
          refine z_put2 Γ kp_RX9_65 dX9_load_82 (by decide) (hs 0 _ rfl) rfl (k9 := 8) rfl ?_
          refine z_aload_n dX9_load_85 rfl (j := 3) rfl ?_
          refine z_aload dX9_load_86 (j := 0) rfl ?_
          refine z_put2 Γ kp_RX9_69 dX9_load_88 (by decide) (hs 0 _ rfl) rfl (k9 := 9) rfl ?_
          refine z_aload_n dX9_load_91 rfl (j := 3) rfl ?_
          refine z_iload_n dX9_load_92 rfl (j := 4) rfl ?_
          refine z_put0 Γ kp_RX9_72 dX9_load_93 (by decide) (hs 0 _ rfl) rfl (k9 := 10) rfl ?_
          refine z_aload_n dX9_load_96 rfl (j := 3) rfl ?_
          refine z_getc Γ kf_RX9_14 dX9_load_97 (by decide) (hs 0 _ rfl) rfl ?_
          refine z_iconst dX9_load_100 ?_
          refine z_callV Γ kk_X0_cut kc_RX9_92 (As := [zv s0 0 0]) (k_X0_cut (d := d - 1) Γ hok (⟨by decide, by decide, by decide, hs 1 _ rfl, hs 2 _ rfl⟩ : zCe S 1 2 4096) (M := ((zu ((zu ((zu ((zu M59 0 11 r59)) 0 8 (M59 0 9))) 0 9 (M59 0 8))) 0 10 v))) (Q := fun v9 M9 => v9 = 0 ∧ M9 = (zcut ((zu ((zu ((zu ((zu M59 0 11 r59)) 0 8 (M59 0 9))) 0 9 (M59 0 8))) 0 10 v)) 1 4096 0)) (X := X) (show _ ∧ _ from ⟨rfl, rfl⟩)) (by omega) (by decide) (show (parseMethodDescriptor yX0_cut.desc).map (fun q => q.parameters.length) = some 1 by decide +kernel) hok (Nat.zero_le _) dX9_load_101 (⟨by decide, by decide, by decide, hs 1 _ rfl, hs 2 _ rfl⟩ : zCe S 1 2 4096).1 (⟨by decide, by decide, by decide, hs 1 _ rfl, hs 2 _ rfl⟩ : zCe S 1 2 4096).2.2.2.1 rfl rfl (fun _ h9 => nomatch h9) ?_
          rintro v9 M9 ⟨e9, e8⟩
          rw [e9, e8]
          clear e9 e8 v9 M9
          show rt_Go _ _ _ _ _ _ _ _ _ _ _ _ 104 [(4, zv s0 2 (M59 0 8)), (3, zv s0 0 r50), (2, zv s0 2 (M 5 v)), (0, zv s0 2 0), (1, zv s0 0 v)] [] (zw s0 ca C S ((zcut ((zu ((zu ((zu ((zu M59 0 11 r59)) 0 8 (M59 0 9))) 0 9 (M59 0 8))) 0 10 v)) 1 4096 0)))
          refine z_iload_n dX9_load_104 rfl (j := 1) rfl ?_
          exact z_iret dX9_load_105 rfl h
        · replace h := h.2 c66
          refine z_iload_n dX9_load_69 rfl (j := 0) rfl ?_
          exact z_iret dX9_load_70 rfl h
      · replace h := h.1 c26
        exact h.elim
    · replace h := h.2 c7
      exact h.elim
def zt_X9_place (l : Launch) (s0 : State) (G : va_G) (ca : Nat → ClassId) (d : Nat) (C : Nat × Nat) (S : zS) (w0 : rt_Wd)   (M : zM) (Q : Int → zM → Prop) (X : zM → Prop) : Prop :=
  Q (M 0 11) M
set_option maxRecDepth 100000 in
theorem z_X9_place {l : Launch} {s0 : State} {a0 : Array Value} {G : va_G} {ca : Nat → ClassId} (Γ : rt_Γ l s0 a0 G ca) {d : Nat} {C : Nat × Nat} {S : zS} (hok : zok C)  (hs : zSok S)  {M : zM} {Q : Int → zM → Prop} {X : zM → Prop} (h : zt_X9_place l s0 G ca d C S (zw s0 ca C S M)   M Q X) : zm_X9_place l s0 G ca d C S   M Q X := by
  refine z_met (lv := [(0, zv s0 2 0)]) Γ kk_X9_place rfl (show (lg_sl [zv s0 2 0]).length ≤ 1 from by simp only [zn_2, show (lg_sl []).length = 0 from rfl]; omega) (show lv_args 0 [zv s0 2 0] = [(0, zv s0 2 0)] from by rw [zl_2]; rfl) ?_
  unfold zt_X9_place at h
  refine z_aload_n dX9_place_0 rfl (j := 0) rfl ?_
  refine z_get Γ kf_RX9_76 dX9_place_1 (by decide) (hs 0 _ rfl) rfl (by decide) (v9 := M 0 11) rfl ?_
  exact z_iret dX9_place_4 rfl h
def zt_X9_rows (l : Launch) (s0 : State) (G : va_G) (ca : Nat → ClassId) (d : Nat) (C : Nat × Nat) (S : zS) (w0 : rt_Wd)   (M : zM) (Q : Int → zM → Prop) (X : zM → Prop) : Prop :=
  zRw S (M 0 8) ∧ (Q (((M ((M 0 8) + 3) 1))) M)
set_option maxRecDepth 100000 in
theorem z_X9_rows {l : Launch} {s0 : State} {a0 : Array Value} {G : va_G} {ca : Nat → ClassId} (Γ : rt_Γ l s0 a0 G ca) {d : Nat} {C : Nat × Nat} {S : zS} (hd : 2 ≤ d) (hok : zok C)  (hs : zSok S)  {M : zM} {Q : Int → zM → Prop} {X : zM → Prop} (h : zt_X9_rows l s0 G ca d C S (zw s0 ca C S M)   M Q X) : zm_X9_rows l s0 G ca d C S   M Q X := by
  refine z_met (lv := [(0, zv s0 2 0)]) Γ kk_X9_rows rfl (show (lg_sl [zv s0 2 0]).length ≤ 1 from by simp only [zn_2, show (lg_sl []).length = 0 from rfl]; omega) (show lv_args 0 [zv s0 2 0] = [(0, zv s0 2 0)] from by rw [zl_2]; rfl) ?_
  unfold zt_X9_rows at h
  refine z_aload_n dX9_rows_0 rfl (j := 0) rfl ?_
  refine z_get Γ kf_RX9_65 dX9_rows_1 (by decide) (hs 0 _ rfl) rfl (by decide) (v9 := M 0 8) rfl ?_
  obtain ⟨hk0, h⟩ := h
  refine z_callV Γ kk_X5_count kc_RX9_121 (As := []) (z_X5_count (d := d - 1) Γ (by omega) hok hk0 (M := M) (Q := fun v9 M9 => v9 = ((M ((M 0 8) + 3) 1)) ∧ M9 = M) (X := X) (show _ ∧ _ from ⟨rfl, rfl⟩)) (by omega) (by decide) (show (parseMethodDescriptor yX5_count.desc).map (fun q => q.parameters.length) = some 0 by decide +kernel) hok (Nat.zero_le _) dX9_rows_4 hk0.1 hk0.2.1 rfl rfl (fun _ h9 => nomatch h9) ?_
  rintro v9 M9 ⟨e9, e8⟩
  rw [e9, e8]
  clear e9 e8 v9 M9
  show rt_Go _ _ _ _ _ _ _ _ _ _ _ _ 7 [(0, zv s0 2 0)] [zv s0 0 (((M ((M 0 8) + 3) 1)))] (zw s0 ca C S M)
  exact z_iret dX9_rows_7 rfl h
def zt_X9_size (l : Launch) (s0 : State) (G : va_G) (ca : Nat → ClassId) (d : Nat) (C : Nat × Nat) (S : zS) (w0 : rt_Wd)  (v : Int) (M : zM) (Q : Int → zM → Prop) (X : zM → Prop) : Prop :=
  zIf (w32 v = 0) (zm_X9_bytesOf l s0 G ca (d - 1) C S v M (fun r19 M19 => ∃ (ad1 : Int) (nd1 : Nat), zCe S r19 ad1 nd1 ∧ (Q ((M19 r19 1)) M19)) X) (zIf (w32 v = 1) (zm_X9_bytesOf l s0 G ca (d - 1) C S v M (fun r19 M19 => ∃ (ad2 : Int) (nd2 : Nat), zCe S r19 ad2 nd2 ∧ (Q ((M19 r19 1)) M19)) X) (False))
set_option maxRecDepth 100000 in
theorem z_X9_size {l : Launch} {s0 : State} {a0 : Array Value} {G : va_G} {ca : Nat → ClassId} (Γ : rt_Γ l s0 a0 G ca) {d : Nat} {C : Nat × Nat} {S : zS} (hd : 1 ≤ d) (hok : zok C)  (hs : zSok S) {v : Int} {M : zM} {Q : Int → zM → Prop} {X : zM → Prop} (h : zt_X9_size l s0 G ca d C S (zw s0 ca C S M)  v M Q X) : zm_X9_size l s0 G ca d C S  v M Q X := by
  refine z_met (lv := [(0, zv s0 2 0), (1, zv s0 0 v)]) Γ kk_X9_size rfl (show (lg_sl [zv s0 2 0, zv s0 0 v]).length ≤ 2 from by simp only [zn_0, zn_2, show (lg_sl []).length = 0 from rfl]; omega) (show lv_args 0 [zv s0 2 0, zv s0 0 v] = [(0, zv s0 2 0), (1, zv s0 0 v)] from by rw [zl_2, zl_0]; rfl) ?_
  unfold zt_X9_size at h
  refine z_iload_n dX9_size_0 rfl (j := 1) rfl ?_
  refine z_if_eq (tgt := 17) (x' := w32 v) rfl dX9_size_1 (by decide) (fun c1 => ?_) (fun c1 => ?_)
  · replace h := h.1 c1
    refine z_aload_n dX9_size_17 rfl (j := 0) rfl ?_
    refine z_iload_n dX9_size_18 rfl (j := 1) rfl ?_
    refine z_callV Γ kk_X9_bytesOf kc_RX9_122 (As := [zv s0 0 v]) h (by omega) (by decide) (show (parseMethodDescriptor yX9_bytesOf.desc).map (fun q => q.parameters.length) = some 1 by decide +kernel) hok (Nat.zero_le _) dX9_size_19 (by decide) (hs 0 _ rfl) rfl rfl (fun _ h9 => nomatch h9) ?_
    clear h
    intro r19 M19 h
    show rt_Go _ _ _ _ _ _ _ _ _ _ _ _ 22 [(0, zv s0 2 0), (1, zv s0 0 v)] [zv s0 2 r19] (zw s0 ca C S M19)
    obtain ⟨ad1, nd1, hk0, h⟩ := h
    refine z_callV Γ kk_X0_count kc_RX9_79 (As := []) (k_X0_count (d := d - 1) Γ hok (hk0 : zCe S r19 ad1 nd1) (M := M19) (Q := fun v9 M9 => v9 = (M19 r19 1) ∧ M9 = M19) (X := X) (show _ ∧ _ from ⟨rfl, rfl⟩)) (by omega) (by decide) (show (parseMethodDescriptor yX0_count.desc).map (fun q => q.parameters.length) = some 0 by decide +kernel) hok (Nat.zero_le _) dX9_size_22 (hk0 : zCe S r19 ad1 nd1).1 (hk0 : zCe S r19 ad1 nd1).2.2.2.1 rfl rfl (fun _ h9 => nomatch h9) ?_
    rintro v9 M9 ⟨e9, e8⟩
    rw [e9, e8]
    clear e9 e8 v9 M9
    show rt_Go _ _ _ _ _ _ _ _ _ _ _ _ 25 [(0, zv s0 2 0), (1, zv s0 0 v)] [zv s0 0 ((M19 r19 1))] (zw s0 ca C S M19)
    exact z_iret dX9_size_25 rfl h
  · replace h := h.2 c1
    refine z_iload_n dX9_size_4 rfl (j := 1) rfl ?_
    refine z_iconst dX9_size_5 ?_
    refine z_icmp_eq (tgt := 17) (x' := w32 v) (y' := 1) rfl (by decide) dX9_size_6 (by decide) (fun c6 => ?_) (fun c6 => ?_)
    · replace h := h.1 c6
      refine z_aload_n dX9_size_17 rfl (j := 0) rfl ?_
      refine z_iload_n dX9_size_18 rfl (j := 1) rfl ?_
      refine z_callV Γ kk_X9_bytesOf kc_RX9_122 (As := [zv s0 0 v]) h (by omega) (by decide) (show (parseMethodDescriptor yX9_bytesOf.desc).map (fun q => q.parameters.length) = some 1 by decide +kernel) hok (Nat.zero_le _) dX9_size_19 (by decide) (hs 0 _ rfl) rfl rfl (fun _ h9 => nomatch h9) ?_
      clear h
      intro r19 M19 h
      show rt_Go _ _ _ _ _ _ _ _ _ _ _ _ 22 [(0, zv s0 2 0), (1, zv s0 0 v)] [zv s0 2 r19] (zw s0 ca C S M19)
      obtain ⟨ad2, nd2, hk1, h⟩ := h
      refine z_callV Γ kk_X0_count kc_RX9_79 (As := []) (k_X0_count (d := d - 1) Γ hok (hk1 : zCe S r19 ad2 nd2) (M := M19) (Q := fun v9 M9 => v9 = (M19 r19 1) ∧ M9 = M19) (X := X) (show _ ∧ _ from ⟨rfl, rfl⟩)) (by omega) (by decide) (show (parseMethodDescriptor yX0_count.desc).map (fun q => q.parameters.length) = some 0 by decide +kernel) hok (Nat.zero_le _) dX9_size_22 (hk1 : zCe S r19 ad2 nd2).1 (hk1 : zCe S r19 ad2 nd2).2.2.2.1 rfl rfl (fun _ h9 => nomatch h9) ?_
      rintro v9 M9 ⟨e9, e8⟩
      rw [e9, e8]
      clear e9 e8 v9 M9
      show rt_Go _ _ _ _ _ _ _ _ _ _ _ _ 25 [(0, zv s0 2 0), (1, zv s0 0 v)] [zv s0 0 ((M19 r19 1))] (zw s0 ca C S M19)
      exact z_iret dX9_size_25 rfl h
    · replace h := h.2 c6
      exact h.elim
abbrev zg_X9_letter_17 (l : Launch) (s0 : State) (G : va_G) (ca : Nat → ClassId) (d : Nat) (C : Nat × Nat) (S : zS) (w0 : rt_Wd)  (v1 : Int) (v2 : Int)  (M : zM) (Q : Int → zM → Prop) (X : zM → Prop) : Prop := rt_Go l s0 G RX9 "letter" cX9_letter 4 (Option.some FieldType.int) [] d w0 (zQ s0 ca 0 C S Q X) 17 [(0, zv s0 2 0), (1, zv s0 0 v1), (2, zv s0 0 v2)] [] (zw s0 ca C S M)
def zt_X9_letter_17 (l : Launch) (s0 : State) (G : va_G) (ca : Nat → ClassId) (d : Nat) (C : Nat × Nat) (S : zS) (w0 : rt_Wd)  (v1 : Int) (v2 : Int)  (M : zM) (Q : Int → zM → Prop) (X : zM → Prop) : Prop :=
  zm_X9_bytesOf l s0 G ca (d - 1) C S v2 M (fun r19 M19 => zIf (w32 v1 < 0) (False) (∃ (ad1 : Int) (nd1 : Nat), zCe S r19 ad1 nd1 ∧ (zIf (w32 v1 < w32 ((M19 r19 1))) (Q ((zat M19 ad1 nd1 v1)) M19) (False)))) X
set_option maxRecDepth 100000 in
theorem zs_X9_letter_17 {l : Launch} {s0 : State} {a0 : Array Value} {G : va_G} {ca : Nat → ClassId} (Γ : rt_Γ l s0 a0 G ca) {d : Nat} {C : Nat × Nat} {S : zS} (hd : 1 ≤ d) (hok : zok C)  (hs : zSok S) {w0 : rt_Wd} {v1 : Int} {v2 : Int}   {M : zM} {Q : Int → zM → Prop} {X : zM → Prop} (h : zt_X9_letter_17 l s0 G ca d C S w0  v1 v2 M Q X) : zg_X9_letter_17 l s0 G ca d C S w0  v1 v2 M Q X := by
  unfold zt_X9_letter_17 at h
  refine z_aload_n dX9_letter_17 rfl (j := 0) rfl ?_
  refine z_iload_n dX9_letter_18 rfl (j := 2) rfl ?_
  refine z_callV Γ kk_X9_bytesOf kc_RX9_122 (As := [zv s0 0 v2]) h (by omega) (by decide) (show (parseMethodDescriptor yX9_bytesOf.desc).map (fun q => q.parameters.length) = some 1 by decide +kernel) hok (Nat.zero_le _) dX9_letter_19 (by decide) (hs 0 _ rfl) rfl rfl (fun _ h9 => nomatch h9) ?_
  clear h
  intro r19 M19 h
  show rt_Go _ _ _ _ _ _ _ _ _ _ _ _ 22 [(0, zv s0 2 0), (1, zv s0 0 v1), (2, zv s0 0 v2)] [zv s0 2 r19] (zw s0 ca C S M19)
  refine z_astore_n (i := 3) (lv' := [(3, zv s0 2 r19), (0, zv s0 2 0), (1, zv s0 0 v1), (2, zv s0 0 v2)]) dX9_letter_22 rfl (by decide) (by simp [zv_cat0, zv_cat1, zv_cat2, zv_cats]) ?_
  refine z_iload_n dX9_letter_23 rfl (j := 2) rfl ?_
  refine z_if_lt (tgt := 35) (x' := w32 v1) rfl dX9_letter_24 (by decide) (fun c24 => ?_) (fun c24 => ?_)
  · replace h := h.1 c24
    exact h.elim
  · replace h := h.2 c24
    refine z_iload_n dX9_letter_27 rfl (j := 2) rfl ?_
    refine z_aload_n dX9_letter_28 rfl (j := 0) rfl ?_
    obtain ⟨ad1, nd1, hk0, h⟩ := h
    refine z_callV Γ kk_X0_count kc_RX9_79 (As := []) (k_X0_count (d := d - 1) Γ hok (hk0 : zCe S r19 ad1 nd1) (M := M19) (Q := fun v9 M9 => v9 = (M19 r19 1) ∧ M9 = M19) (X := X) (show _ ∧ _ from ⟨rfl, rfl⟩)) (by omega) (by decide) (show (parseMethodDescriptor yX0_count.desc).map (fun q => q.parameters.length) = some 0 by decide +kernel) hok (by simp only [List.map, zv_cat0, zv_cat1, zv_cat2, List.sum_cons, List.sum_nil]; decide) dX9_letter_29 (hk0 : zCe S r19 ad1 nd1).1 (hk0 : zCe S r19 ad1 nd1).2.2.2.1 rfl rfl (fun _ h9 => nomatch h9) ?_
    rintro v9 M9 ⟨e9, e8⟩
    rw [e9, e8]
    clear e9 e8 v9 M9
    show rt_Go _ _ _ _ _ _ _ _ _ _ _ _ 32 [(3, zv s0 2 r19), (0, zv s0 2 0), (1, zv s0 0 v1), (2, zv s0 0 v2)] [zv s0 0 ((M19 r19 1)), zv s0 0 v1] (zw s0 ca C S M19)
    refine z_icmp_lt (tgt := 43) (x' := w32 v1) (y' := w32 ((M19 r19 1))) rfl rfl dX9_letter_32 (by decide) (fun c32 => ?_) (fun c32 => ?_)
    · replace h := h.1 c32
      refine z_aload_n dX9_letter_43 rfl (j := 0) rfl ?_
      refine z_iload_n dX9_letter_44 rfl (j := 2) rfl ?_
      refine z_callV Γ kk_X0_at kc_RX9_126 (As := [zv s0 0 v1]) (k_X0_at (d := d - 1) Γ hok (hk0 : zCe S r19 ad1 nd1) (M := M19) (Q := fun v9 M9 => v9 = (zat M19 ad1 nd1 v1) ∧ M9 = M19) (X := X) (show _ ∧ _ from ⟨rfl, rfl⟩)) (by omega) (by decide) (show (parseMethodDescriptor yX0_at.desc).map (fun q => q.parameters.length) = some 1 by decide +kernel) hok (Nat.zero_le _) dX9_letter_45 (hk0 : zCe S r19 ad1 nd1).1 (hk0 : zCe S r19 ad1 nd1).2.2.2.1 rfl rfl (fun _ h9 => nomatch h9) ?_
      rintro v9 M9 ⟨e9, e8⟩
      rw [e9, e8]
      clear e9 e8 v9 M9
      show rt_Go _ _ _ _ _ _ _ _ _ _ _ _ 48 [(3, zv s0 2 r19), (0, zv s0 2 0), (1, zv s0 0 v1), (2, zv s0 0 v2)] [zv s0 0 ((zat M19 ad1 nd1 v1))] (zw s0 ca C S M19)
      exact z_iret dX9_letter_48 rfl h
    · replace h := h.2 c32
      exact h.elim
def zt_X9_letter (l : Launch) (s0 : State) (G : va_G) (ca : Nat → ClassId) (d : Nat) (C : Nat × Nat) (S : zS) (w0 : rt_Wd)  (i : Int) (v : Int) (M : zM) (Q : Int → zM → Prop) (X : zM → Prop) : Prop :=
  zIf (w32 v = 0) (zt_X9_letter_17 l s0 G ca d C S w0  i v M Q X) (zIf (w32 v = 1) (zt_X9_letter_17 l s0 G ca d C S w0  i v M Q X) (False))
set_option maxRecDepth 100000 in
theorem z_X9_letter {l : Launch} {s0 : State} {a0 : Array Value} {G : va_G} {ca : Nat → ClassId} (Γ : rt_Γ l s0 a0 G ca) {d : Nat} {C : Nat × Nat} {S : zS} (hd : 1 ≤ d) (hok : zok C)  (hs : zSok S) {i : Int} {v : Int} {M : zM} {Q : Int → zM → Prop} {X : zM → Prop} (h : zt_X9_letter l s0 G ca d C S (zw s0 ca C S M)  i v M Q X) : zm_X9_letter l s0 G ca d C S  i v M Q X := by
  refine z_met (lv := [(0, zv s0 2 0), (1, zv s0 0 i), (2, zv s0 0 v)]) Γ kk_X9_letter rfl (show (lg_sl [zv s0 2 0, zv s0 0 i, zv s0 0 v]).length ≤ 4 from by simp only [zn_0, zn_2, show (lg_sl []).length = 0 from rfl]; omega) (show lv_args 0 [zv s0 2 0, zv s0 0 i, zv s0 0 v] = [(0, zv s0 2 0), (1, zv s0 0 i), (2, zv s0 0 v)] from by rw [zl_2, zl_0, zl_0]; rfl) ?_
  unfold zt_X9_letter at h
  refine z_iload_n dX9_letter_0 rfl (j := 2) rfl ?_
  refine z_if_eq (tgt := 17) (x' := w32 v) rfl dX9_letter_1 (by decide) (fun c1 => ?_) (fun c1 => ?_)
  · replace h := h.1 c1
    exact rt_lfew [0, 1, 2] rfl (zs_X9_letter_17 Γ hd hok hs  h)
  · replace h := h.2 c1
    refine z_iload_n dX9_letter_4 rfl (j := 2) rfl ?_
    refine z_iconst dX9_letter_5 ?_
    refine z_icmp_eq (tgt := 17) (x' := w32 v) (y' := 1) rfl (by decide) dX9_letter_6 (by decide) (fun c6 => ?_) (fun c6 => ?_)
    · replace h := h.1 c6
      exact rt_lfew [0, 1, 2] rfl (zs_X9_letter_17 Γ hd hok hs  h)
    · replace h := h.2 c6
      exact h.elim
def zt_X9_read (l : Launch) (s0 : State) (G : va_G) (ca : Nat → ClassId) (d : Nat) (C : Nat × Nat) (S : zS) (w0 : rt_Wd)  (v : Int) (i : Int) (M : zM) (Q : Int → zM → Prop) (X : zM → Prop) : Prop :=
  zIf (w32 v < 0) (False) (zIf (8 ≤ w32 v) (False) (zIf (w32 i < 0) (False) (zRw S (M 0 8) ∧ (zIf (w32 i < w32 (((M ((M 0 8) + 3) 1)))) ((0 ≤ v ∧ v < 8) ∧ (zIf (M 5 v < 0) (False) (zm_X9_writer l s0 G ca (d - 1) C S  ((zcut M 3 4096 0)) (fun r65 M65 => zm_X7_prepare l s0 G ca (d - 1) C S r65 (M 5 v) M65 (fun r69 M69 => zm_X7_tell l s0 G ca (d - 1) C S (M69 0 8) i M69 (fun r81 M81 => zIf (w32 r81 = 0) (zm_X7_told l s0 G ca (d - 1) C S  M81 (fun r102 M102 => zm_X7_told l s0 G ca (d - 1) C S  M102 (fun r110 M110 => ∃ (ad2 : Int) (nd2 : Nat), zCe S r110 ad2 nd2 ∧ (zm_X0_addPart l s0 G ca (d - 1) C S 3 r102 0 ((M110 r110 1)) M110 (fun r116 M116 => Q ((M116 3 1)) M116) X)) X) X) (Q r81 M81)) X) X) X))) (False)))))
set_option maxRecDepth 100000 in
theorem z_X9_read {l : Launch} {s0 : State} {a0 : Array Value} {G : va_G} {ca : Nat → ClassId} (Γ : rt_Γ l s0 a0 G ca) {d : Nat} {C : Nat × Nat} {S : zS} (hd : 2 ≤ d) (hok : zok C)  (hs : zSok S) (hs56 : S 56 = some (0, 7, [(3, 57), (3, 59), (3, 61), (3, 63), (3, 65), (3, 67), (2, 0), (2, 0), (2, 0), (0, 0), (0, 0), (0, 0)])) {v : Int} {i : Int} {M : zM} {Q : Int → zM → Prop} {X : zM → Prop} (h : zt_X9_read l s0 G ca d C S (zw s0 ca C S M)  v i M Q X) : zm_X9_read l s0 G ca d C S  v i M Q X := by
  refine z_met (lv := [(0, zv s0 2 0), (1, zv s0 0 v), (2, zv s0 0 i)]) Γ kk_X9_read rfl (show (lg_sl [zv s0 2 0, zv s0 0 v, zv s0 0 i]).length ≤ 5 from by simp only [zn_0, zn_2, show (lg_sl []).length = 0 from rfl]; omega) (show lv_args 0 [zv s0 2 0, zv s0 0 v, zv s0 0 i] = [(0, zv s0 2 0), (1, zv s0 0 v), (2, zv s0 0 i)] from by rw [zl_2, zl_0, zl_0]; rfl) ?_
  unfold zt_X9_read at h
  refine z_iload_n dX9_read_0 rfl (j := 1) rfl ?_
  refine z_if_lt (tgt := 25) (x' := w32 v) rfl dX9_read_1 (by decide) (fun c1 => ?_) (fun c1 => ?_)
  · replace h := h.1 c1
    exact h.elim
  · replace h := h.2 c1
    refine z_iload_n dX9_read_4 rfl (j := 1) rfl ?_
    refine z_bipush dX9_read_5 (by decide) ?_
    refine z_icmp_ge (tgt := 25) (x' := w32 v) (y' := 8) rfl (by decide) dX9_read_7 (by decide) (fun c7 => ?_) (fun c7 => ?_)
    · replace h := h.1 c7
      exact h.elim
    · replace h := h.2 c7
      refine z_iload_n dX9_read_10 rfl (j := 2) rfl ?_
      refine z_if_lt (tgt := 25) (x' := w32 i) rfl dX9_read_11 (by decide) (fun c11 => ?_) (fun c11 => ?_)
      · replace h := h.1 c11
        exact h.elim
      · replace h := h.2 c11
        refine z_iload_n dX9_read_14 rfl (j := 2) rfl ?_
        refine z_aload_n dX9_read_15 rfl (j := 0) rfl ?_
        refine z_get Γ kf_RX9_65 dX9_read_16 (by decide) (hs 0 _ rfl) rfl (by decide) (v9 := M 0 8) rfl ?_
        obtain ⟨hk0, h⟩ := h
        refine z_callV Γ kk_X5_count kc_RX9_121 (As := []) (z_X5_count (d := d - 1) Γ (by omega) hok hk0 (M := M) (Q := fun v9 M9 => v9 = ((M ((M 0 8) + 3) 1)) ∧ M9 = M) (X := X) (show _ ∧ _ from ⟨rfl, rfl⟩)) (by omega) (by decide) (show (parseMethodDescriptor yX5_count.desc).map (fun q => q.parameters.length) = some 0 by decide +kernel) hok (by simp only [List.map, zv_cat0, zv_cat1, zv_cat2, List.sum_cons, List.sum_nil]; decide) dX9_read_19 hk0.1 hk0.2.1 rfl rfl (fun _ h9 => nomatch h9) ?_
        rintro v9 M9 ⟨e9, e8⟩
        rw [e9, e8]
        clear e9 e8 v9 M9
        show rt_Go _ _ _ _ _ _ _ _ _ _ _ _ 22 [(0, zv s0 2 0), (1, zv s0 0 v), (2, zv s0 0 i)] [zv s0 0 (((M ((M 0 8) + 3) 1))), zv s0 0 i] (zw s0 ca C S M)
        refine z_icmp_lt (tgt := 33) (x' := w32 i) (y' := w32 (((M ((M 0 8) + 3) 1)))) rfl rfl dX9_read_22 (by decide) (fun c22 => ?_) (fun c22 => ?_)
        · replace h := h.1 c22
          refine z_aload_n dX9_read_33 rfl (j := 0) rfl ?_
          refine z_getc Γ kf_RX9_23 dX9_read_34 (by decide) (hs 0 _ rfl) rfl ?_
          refine z_iload_n dX9_read_37 rfl (j := 1) rfl ?_
          obtain ⟨hi38, h⟩ := h
          refine z_aald Γ dX9_read_38 (by decide) (hs 5 _ rfl) (by decide) hi38 (v9 := M 5 v) rfl ?_
          refine z_astore_n (i := 3) (lv' := [(3, zv s0 2 (M 5 v)), (0, zv s0 2 0), (1, zv s0 0 v), (2, zv s0 0 i)]) dX9_read_39 rfl (by decide) (by simp [zv_cat0, zv_cat1, zv_cat2, zv_cats]) ?_
          refine z_aload_n dX9_read_40 rfl (j := 0) rfl ?_
          refine z_ifnonnull (tgt := 52) dX9_read_41 (by decide) (fun c41 => ?_) (fun c41 => ?_)
          · replace h := h.2 c41
            refine z_aload_n dX9_read_52 rfl (j := 1) rfl ?_
            refine z_getc Γ kf_RX9_18 dX9_read_53 (by decide) (hs 0 _ rfl) rfl ?_
            refine z_iconst dX9_read_56 ?_
            refine z_callV Γ kk_X0_cut kc_RX9_92 (As := [zv s0 0 0]) (k_X0_cut (d := d - 1) Γ hok (⟨by decide, by decide, by decide, hs 3 _ rfl, hs 4 _ rfl⟩ : zCe S 3 4 4096) (M := M) (Q := fun v9 M9 => v9 = 0 ∧ M9 = (zcut M 3 4096 0)) (X := X) (show _ ∧ _ from ⟨rfl, rfl⟩)) (by omega) (by decide) (show (parseMethodDescriptor yX0_cut.desc).map (fun q => q.parameters.length) = some 1 by decide +kernel) hok (Nat.zero_le _) dX9_read_57 (⟨by decide, by decide, by decide, hs 3 _ rfl, hs 4 _ rfl⟩ : zCe S 3 4 4096).1 (⟨by decide, by decide, by decide, hs 3 _ rfl, hs 4 _ rfl⟩ : zCe S 3 4 4096).2.2.2.1 rfl rfl (fun _ h9 => nomatch h9) ?_
            rintro v9 M9 ⟨e9, e8⟩
            rw [e9, e8]
            clear e9 e8 v9 M9
            show rt_Go _ _ _ _ _ _ _ _ _ _ _ _ 60 [(3, zv s0 2 (M 5 v)), (0, zv s0 2 0), (1, zv s0 0 v), (2, zv s0 0 i)] [] (zw s0 ca C S ((zcut M 3 4096 0)))
            refine z_aload_n dX9_read_60 rfl (j := 1) rfl ?_
            refine z_getc Γ kf_RX9_51 dX9_read_61 (by decide) (hs 0 _ rfl) rfl ?_
            refine z_aload_n dX9_read_64 rfl (j := 1) rfl ?_
            refine z_callV Γ kk_X9_writer kc_RX9_130 (As := []) h (by omega) (by decide) (show (parseMethodDescriptor yX9_writer.desc).map (fun q => q.parameters.length) = some 0 by decide +kernel) hok (by simp only [List.map, zv_cat0, zv_cat1, zv_cat2, List.sum_cons, List.sum_nil]; decide) dX9_read_65 (by decide) (hs 0 _ rfl) rfl rfl (fun _ h9 => nomatch h9) ?_
            clear h
            intro r65 M65 h
            show rt_Go _ _ _ _ _ _ _ _ _ _ _ _ 68 [(3, zv s0 2 (M 5 v)), (0, zv s0 2 0), (1, zv s0 0 v), (2, zv s0 0 i)] [zv s0 2 r65, zv s0 2 56] (zw s0 ca C S M65)
            refine z_aload_n dX9_read_68 rfl (j := 0) rfl ?_
            refine z_callV Γ kk_X7_prepare kc_RX9_134 (As := [zv s0 2 r65, zv s0 2 (M 5 v)]) h (by omega) (by decide) (show (parseMethodDescriptor yX7_prepare.desc).map (fun q => q.parameters.length) = some 2 by decide +kernel) hok (Nat.zero_le _) dX9_read_69 (by decide) hs56 rfl rfl (fun _ h9 => nomatch h9) ?_
            clear h
            intro r69 M69 h
            show rt_Go _ _ _ _ _ _ _ _ _ _ _ _ 72 [(3, zv s0 2 (M 5 v)), (0, zv s0 2 0), (1, zv s0 0 v), (2, zv s0 0 i)] [] (zw s0 ca C S M69)
            refine z_aload_n dX9_read_72 rfl (j := 1) rfl ?_
            refine z_getc Γ kf_RX9_51 dX9_read_73 (by decide) (hs 0 _ rfl) rfl ?_
            refine z_aload_n dX9_read_76 rfl (j := 1) rfl ?_
            refine z_get Γ kf_RX9_65 dX9_read_77 (by decide) (hs 0 _ rfl) rfl (by decide) (v9 := M69 0 8) rfl ?_
            refine z_iload_n dX9_read_80 rfl (j := 3) rfl ?_
            refine z_callV Γ kk_X7_tell kc_RX9_138 (As := [zv s0 2 (M69 0 8), zv s0 0 i]) h (by omega) (by decide) (show (parseMethodDescriptor yX7_tell.desc).map (fun q => q.parameters.length) = some 2 by decide +kernel) hok (Nat.zero_le _) dX9_read_81 (by decide) hs56 rfl rfl (fun _ h9 => nomatch h9) ?_
            clear h
            intro r81 M81 h
            show rt_Go _ _ _ _ _ _ _ _ _ _ _ _ 84 [(3, zv s0 2 (M 5 v)), (0, zv s0 2 0), (1, zv s0 0 v), (2, zv s0 0 i)] [zv s0 0 r81] (zw s0 ca C S M81)
            refine z_istore (i := 4) (lv' := [(4, zv s0 0 r81), (3, zv s0 2 (M 5 v)), (0, zv s0 2 0), (1, zv s0 0 v), (2, zv s0 0 i)]) dX9_read_84 (by decide) (by simp [zv_cat0, zv_cat1, zv_cat2, zv_cats]) ?_
            refine z_iload dX9_read_86 (j := 0) rfl ?_
            refine z_if_eq (tgt := 94) (x' := w32 r81) rfl dX9_read_88 (by decide) (fun c88 => ?_) (fun c88 => ?_)
            · replace h := h.1 c88
              refine z_aload_n dX9_read_94 rfl (j := 2) rfl ?_
              refine z_getc Γ kf_RX9_18 dX9_read_95 (by decide) (hs 0 _ rfl) rfl ?_
              refine z_aload_n dX9_read_98 rfl (j := 2) rfl ?_
              refine z_getc Γ kf_RX9_51 dX9_read_99 (by decide) (hs 0 _ rfl) rfl ?_
              refine z_callV Γ kk_X7_told kc_RX9_142 (As := []) h (by omega) (by decide) (show (parseMethodDescriptor yX7_told.desc).map (fun q => q.parameters.length) = some 0 by decide +kernel) hok (by simp only [List.map, zv_cat0, zv_cat1, zv_cat2, List.sum_cons, List.sum_nil]; decide) dX9_read_102 (by decide) hs56 rfl rfl (fun _ h9 => nomatch h9) ?_
              clear h
              intro r102 M102 h
              show rt_Go _ _ _ _ _ _ _ _ _ _ _ _ 105 [(4, zv s0 0 r81), (3, zv s0 2 (M 5 v)), (0, zv s0 2 0), (1, zv s0 0 v), (2, zv s0 0 i)] [zv s0 2 r102, zv s0 2 3] (zw s0 ca C S M102)
              refine z_iconst dX9_read_105 ?_
              refine z_aload_n dX9_read_106 rfl (j := 2) rfl ?_
              refine z_getc Γ kf_RX9_51 dX9_read_107 (by decide) (hs 0 _ rfl) rfl ?_
              refine z_callV Γ kk_X7_told kc_RX9_142 (As := []) h (by omega) (by decide) (show (parseMethodDescriptor yX7_told.desc).map (fun q => q.parameters.length) = some 0 by decide +kernel) hok (by simp only [List.map, zv_cat0, zv_cat1, zv_cat2, List.sum_cons, List.sum_nil]; decide) dX9_read_110 (by decide) hs56 rfl rfl (fun _ h9 => nomatch h9) ?_
              clear h
              intro r110 M110 h
              show rt_Go _ _ _ _ _ _ _ _ _ _ _ _ 113 [(4, zv s0 0 r81), (3, zv s0 2 (M 5 v)), (0, zv s0 2 0), (1, zv s0 0 v), (2, zv s0 0 i)] [zv s0 2 r110, zv s0 0 0, zv s0 2 r102, zv s0 2 3] (zw s0 ca C S M110)
              obtain ⟨ad2, nd2, hk1, h⟩ := h
              refine z_callV Γ kk_X0_count kc_RX9_79 (As := []) (k_X0_count (d := d - 1) Γ hok (hk1 : zCe S r110 ad2 nd2) (M := M110) (Q := fun v9 M9 => v9 = (M110 r110 1) ∧ M9 = M110) (X := X) (show _ ∧ _ from ⟨rfl, rfl⟩)) (by omega) (by decide) (show (parseMethodDescriptor yX0_count.desc).map (fun q => q.parameters.length) = some 0 by decide +kernel) hok (by simp only [List.map, zv_cat0, zv_cat1, zv_cat2, List.sum_cons, List.sum_nil]; decide) dX9_read_113 (hk1 : zCe S r110 ad2 nd2).1 (hk1 : zCe S r110 ad2 nd2).2.2.2.1 rfl rfl (fun _ h9 => nomatch h9) ?_
              rintro v9 M9 ⟨e9, e8⟩
              rw [e9, e8]
              clear e9 e8 v9 M9
              show rt_Go _ _ _ _ _ _ _ _ _ _ _ _ 116 [(4, zv s0 0 r81), (3, zv s0 2 (M 5 v)), (0, zv s0 2 0), (1, zv s0 0 v), (2, zv s0 0 i)] [zv s0 0 ((M110 r110 1)), zv s0 0 0, zv s0 2 r102, zv s0 2 3] (zw s0 ca C S M110)
              refine z_callV Γ kk_X0_addPart kc_RX9_146 (As := [zv s0 2 r102, zv s0 0 0, zv s0 0 ((M110 r110 1))]) h (by omega) (by decide) (show (parseMethodDescriptor yX0_addPart.desc).map (fun q => q.parameters.length) = some 3 by decide +kernel) hok (Nat.zero_le _) dX9_read_116 (⟨by decide, by decide, by decide, hs 3 _ rfl, hs 4 _ rfl⟩ : zCe S 3 4 4096).1 (⟨by decide, by decide, by decide, hs 3 _ rfl, hs 4 _ rfl⟩ : zCe S 3 4 4096).2.2.2.1 rfl rfl (fun _ h9 => nomatch h9) ?_
              clear h
              intro r116 M116 h
              show rt_Go _ _ _ _ _ _ _ _ _ _ _ _ 119 [(4, zv s0 0 r81), (3, zv s0 2 (M 5 v)), (0, zv s0 2 0), (1, zv s0 0 v), (2, zv s0 0 i)] [zv s0 0 r116] (zw s0 ca C S M116)
              refine z_pop0 dX9_read_119 ?_
              refine z_aload_n dX9_read_120 rfl (j := 2) rfl ?_
              refine z_getc Γ kf_RX9_18 dX9_read_121 (by decide) (hs 0 _ rfl) rfl ?_
              refine z_callV Γ kk_X0_count kc_RX9_79 (As := []) (k_X0_count (d := d - 1) Γ hok (⟨by decide, by decide, by decide, hs 3 _ rfl, hs 4 _ rfl⟩ : zCe S 3 4 4096) (M := M116) (Q := fun v9 M9 => v9 = (M116 3 1) ∧ M9 = M116) (X := X) (show _ ∧ _ from ⟨rfl, rfl⟩)) (by omega) (by decide) (show (parseMethodDescriptor yX0_count.desc).map (fun q => q.parameters.length) = some 0 by decide +kernel) hok (Nat.zero_le _) dX9_read_124 (⟨by decide, by decide, by decide, hs 3 _ rfl, hs 4 _ rfl⟩ : zCe S 3 4 4096).1 (⟨by decide, by decide, by decide, hs 3 _ rfl, hs 4 _ rfl⟩ : zCe S 3 4 4096).2.2.2.1 rfl rfl (fun _ h9 => nomatch h9) ?_
              rintro v9 M9 ⟨e9, e8⟩
              rw [e9, e8]
              clear e9 e8 v9 M9
              show rt_Go _ _ _ _ _ _ _ _ _ _ _ _ 127 [(4, zv s0 0 r81), (3, zv s0 2 (M 5 v)), (0, zv s0 2 0), (1, zv s0 0 v), (2, zv s0 0 i)] [zv s0 0 ((M116 3 1))] (zw s0 ca C S M116)
              exact z_iret dX9_read_127 rfl h
            · replace h := h.2 c88
              refine z_iload dX9_read_91 (j := 0) rfl ?_
              exact z_iret dX9_read_93 rfl h
          · replace h := h.1 c41
            exact h.elim
        · replace h := h.2 c22
          exact h.elim
abbrev zg_X9_all_51 (l : Launch) (s0 : State) (G : va_G) (ca : Nat → ClassId) (d : Nat) (C : Nat × Nat) (S : zS) (w0 : rt_Wd)  (v3 : Int)  (M : zM) (Q : Int → zM → Prop) (X : zM → Prop) : Prop := rt_Go l s0 G RX9 "all" cX9_all 4 (Option.some FieldType.int) [] d w0 (zQ s0 ca 0 C S Q X) 51 [(0, zv s0 2 0), (3, zv s0 0 v3)] [] (zw s0 ca C S M)
def zt_X9_all_51 (l : Launch) (s0 : State) (G : va_G) (ca : Nat → ClassId) (d : Nat) (C : Nat × Nat) (S : zS) (w0 : rt_Wd)  (v3 : Int)  (M : zM) (Q : Int → zM → Prop) (X : zM → Prop) : Prop :=
  zRw S (M 0 8) ∧ (zIf (w32 (((M ((M 0 8) + 3) 1))) ≤ w32 v3) (Q (((M ((M 0 8) + 3) 1))) M) (zm_X7_tell l s0 G ca (d - 1) C S (M 0 8) v3 M (fun r71 M71 => zIf (w32 r71 = 0) (zg_X9_all_51 l s0 G ca d C S w0  (v3 + 1) M71 Q X) (Q v3 M71)) X))
set_option maxRecDepth 100000 in
theorem zs_X9_all_51 {l : Launch} {s0 : State} {a0 : Array Value} {G : va_G} {ca : Nat → ClassId} (Γ : rt_Γ l s0 a0 G ca) {d : Nat} {C : Nat × Nat} {S : zS} (hd : 2 ≤ d) (hok : zok C)  (hs : zSok S) (hs56 : S 56 = some (0, 7, [(3, 57), (3, 59), (3, 61), (3, 63), (3, 65), (3, 67), (2, 0), (2, 0), (2, 0), (0, 0), (0, 0), (0, 0)])) {w0 : rt_Wd} {v3 : Int}   {M : zM} {Q : Int → zM → Prop} {X : zM → Prop} (h : zt_X9_all_51 l s0 G ca d C S w0  v3 M Q X) : zg_X9_all_51 l s0 G ca d C S w0  v3 M Q X := by
  unfold zt_X9_all_51 at h
  refine z_iload_n dX9_all_51 rfl (j := 1) rfl ?_
  refine z_aload_n dX9_all_52 rfl (j := 0) rfl ?_
  refine z_get Γ kf_RX9_65 dX9_all_53 (by decide) (hs 0 _ rfl) rfl (by decide) (v9 := M 0 8) rfl ?_
  obtain ⟨hk0, h⟩ := h
  refine z_callV Γ kk_X5_count kc_RX9_121 (As := []) (z_X5_count (d := d - 1) Γ (by omega) hok hk0 (M := M) (Q := fun v9 M9 => v9 = ((M ((M 0 8) + 3) 1)) ∧ M9 = M) (X := X) (show _ ∧ _ from ⟨rfl, rfl⟩)) (by omega) (by decide) (show (parseMethodDescriptor yX5_count.desc).map (fun q => q.parameters.length) = some 0 by decide +kernel) hok (by simp only [List.map, zv_cat0, zv_cat1, zv_cat2, List.sum_cons, List.sum_nil]; decide) dX9_all_56 hk0.1 hk0.2.1 rfl rfl (fun _ h9 => nomatch h9) ?_
  rintro v9 M9 ⟨e9, e8⟩
  rw [e9, e8]
  clear e9 e8 v9 M9
  show rt_Go _ _ _ _ _ _ _ _ _ _ _ _ 59 [(0, zv s0 2 0), (3, zv s0 0 v3)] [zv s0 0 (((M ((M 0 8) + 3) 1))), zv s0 0 v3] (zw s0 ca C S M)
  refine z_icmp_ge (tgt := 85) (x' := w32 v3) (y' := w32 (((M ((M 0 8) + 3) 1)))) rfl rfl dX9_all_59 (by decide) (fun c59 => ?_) (fun c59 => ?_)
  · replace h := h.1 c59
    refine z_aload_n dX9_all_85 rfl (j := 0) rfl ?_
    refine z_get Γ kf_RX9_65 dX9_all_86 (by decide) (hs 0 _ rfl) rfl (by decide) (v9 := M 0 8) rfl ?_
    refine z_callV Γ kk_X5_count kc_RX9_121 (As := []) (z_X5_count (d := d - 1) Γ (by omega) hok hk0 (M := M) (Q := fun v9 M9 => v9 = ((M ((M 0 8) + 3) 1)) ∧ M9 = M) (X := X) (show _ ∧ _ from ⟨rfl, rfl⟩)) (by omega) (by decide) (show (parseMethodDescriptor yX5_count.desc).map (fun q => q.parameters.length) = some 0 by decide +kernel) hok (Nat.zero_le _) dX9_all_89 hk0.1 hk0.2.1 rfl rfl (fun _ h9 => nomatch h9) ?_
    rintro v9 M9 ⟨e9, e8⟩
    rw [e9, e8]
    clear e9 e8 v9 M9
    show rt_Go _ _ _ _ _ _ _ _ _ _ _ _ 92 [(0, zv s0 2 0), (3, zv s0 0 v3)] [zv s0 0 (((M ((M 0 8) + 3) 1)))] (zw s0 ca C S M)
    exact z_iret dX9_all_92 rfl h
  · replace h := h.2 c59
    refine z_aload_n dX9_all_62 rfl (j := 0) rfl ?_
    refine z_getc Γ kf_RX9_51 dX9_all_63 (by decide) (hs 0 _ rfl) rfl ?_
    refine z_aload_n dX9_all_66 rfl (j := 0) rfl ?_
    refine z_get Γ kf_RX9_65 dX9_all_67 (by decide) (hs 0 _ rfl) rfl (by decide) (v9 := M 0 8) rfl ?_
    refine z_iload_n dX9_all_70 rfl (j := 1) rfl ?_
    refine z_callV Γ kk_X7_tell kc_RX9_138 (As := [zv s0 2 (M 0 8), zv s0 0 v3]) h (by omega) (by decide) (show (parseMethodDescriptor yX7_tell.desc).map (fun q => q.parameters.length) = some 2 by decide +kernel) hok (Nat.zero_le _) dX9_all_71 (by decide) hs56 rfl rfl (fun _ h9 => nomatch h9) ?_
    clear h
    intro r71 M71 h
    show rt_Go _ _ _ _ _ _ _ _ _ _ _ _ 74 [(0, zv s0 2 0), (3, zv s0 0 v3)] [zv s0 0 r71] (zw s0 ca C S M71)
    refine z_if_eq (tgt := 79) (x' := w32 r71) rfl dX9_all_74 (by decide) (fun c74 => ?_) (fun c74 => ?_)
    · replace h := h.1 c74
      refine z_iinc (lv' := [(3, zv s0 0 (v3 + 1)), (0, zv s0 2 0)]) dX9_all_79 (j := 1) rfl (by decide) (by simp [zv_cat0, zv_cat1, zv_cat2, zv_cats]) ?_
      refine rt_goto (tgt := 51) dX9_all_82 (by decide) ?_
      exact rt_lfew [1, 0] rfl h
    · replace h := h.2 c74
      refine z_iload_n dX9_all_77 rfl (j := 1) rfl ?_
      exact z_iret dX9_all_78 rfl h
def zt_X9_all (l : Launch) (s0 : State) (G : va_G) (ca : Nat → ClassId) (d : Nat) (C : Nat × Nat) (S : zS) (w0 : rt_Wd)  (v : Int) (M : zM) (Q : Int → zM → Prop) (X : zM → Prop) : Prop :=
  zIf (w32 v < 0) (False) (zIf (w32 v < 8) ((0 ≤ v ∧ v < 8) ∧ (zIf (M 5 v < 0) (False) (zm_X9_writer l s0 G ca (d - 1) C S  M (fun r42 M42 => zm_X7_prepare l s0 G ca (d - 1) C S r42 (M 5 v) M42 (fun r46 M46 => zg_X9_all_51 l s0 G ca d C S w0  0 M46 Q X) X) X))) (False))
set_option maxRecDepth 100000 in
theorem z_X9_all {l : Launch} {s0 : State} {a0 : Array Value} {G : va_G} {ca : Nat → ClassId} (Γ : rt_Γ l s0 a0 G ca) {d : Nat} {C : Nat × Nat} {S : zS} (hd : 2 ≤ d) (hok : zok C)  (hs : zSok S) (hs56 : S 56 = some (0, 7, [(3, 57), (3, 59), (3, 61), (3, 63), (3, 65), (3, 67), (2, 0), (2, 0), (2, 0), (0, 0), (0, 0), (0, 0)])) {v : Int} {M : zM} {Q : Int → zM → Prop} {X : zM → Prop} (h : zt_X9_all l s0 G ca d C S (zw s0 ca C S M)  v M Q X) : zm_X9_all l s0 G ca d C S  v M Q X := by
  refine z_met (lv := [(0, zv s0 2 0), (1, zv s0 0 v)]) Γ kk_X9_all rfl (show (lg_sl [zv s0 2 0, zv s0 0 v]).length ≤ 4 from by simp only [zn_0, zn_2, show (lg_sl []).length = 0 from rfl]; omega) (show lv_args 0 [zv s0 2 0, zv s0 0 v] = [(0, zv s0 2 0), (1, zv s0 0 v)] from by rw [zl_2, zl_0]; rfl) ?_
  unfold zt_X9_all at h
  refine z_iload_n dX9_all_0 rfl (j := 1) rfl ?_
  refine z_if_lt (tgt := 10) (x' := w32 v) rfl dX9_all_1 (by decide) (fun c1 => ?_) (fun c1 => ?_)
  · replace h := h.1 c1
    exact h.elim
  · replace h := h.2 c1
    refine z_iload_n dX9_all_4 rfl (j := 1) rfl ?_
    refine z_bipush dX9_all_5 (by decide) ?_
    refine z_icmp_lt (tgt := 18) (x' := w32 v) (y' := 8) rfl (by decide) dX9_all_7 (by decide) (fun c7 => ?_) (fun c7 => ?_)
    · replace h := h.1 c7
      refine z_aload_n dX9_all_18 rfl (j := 0) rfl ?_
      refine z_getc Γ kf_RX9_23 dX9_all_19 (by decide) (hs 0 _ rfl) rfl ?_
      refine z_iload_n dX9_all_22 rfl (j := 1) rfl ?_
      obtain ⟨hi23, h⟩ := h
      refine z_aald Γ dX9_all_23 (by decide) (hs 5 _ rfl) (by decide) hi23 (v9 := M 5 v) rfl ?_
      refine z_astore_n (i := 2) (lv' := [(2, zv s0 2 (M 5 v)), (0, zv s0 2 0), (1, zv s0 0 v)]) dX9_all_24 rfl (by decide) (by simp [zv_cat0, zv_cat1, zv_cat2, zv_cats]) ?_
      refine z_aload_n dX9_all_25 rfl (j := 0) rfl ?_
      refine z_ifnonnull (tgt := 37) dX9_all_26 (by decide) (fun c26 => ?_) (fun c26 => ?_)
      · replace h := h.2 c26
        refine z_aload_n dX9_all_37 rfl (j := 1) rfl ?_
        refine z_getc Γ kf_RX9_51 dX9_all_38 (by decide) (hs 0 _ rfl) rfl ?_
        refine z_aload_n dX9_all_41 rfl (j := 1) rfl ?_
        refine z_callV Γ kk_X9_writer kc_RX9_130 (As := []) h (by omega) (by decide) (show (parseMethodDescriptor yX9_writer.desc).map (fun q => q.parameters.length) = some 0 by decide +kernel) hok (by simp only [List.map, zv_cat0, zv_cat1, zv_cat2, List.sum_cons, List.sum_nil]; decide) dX9_all_42 (by decide) (hs 0 _ rfl) rfl rfl (fun _ h9 => nomatch h9) ?_
        clear h
        intro r42 M42 h
        show rt_Go _ _ _ _ _ _ _ _ _ _ _ _ 45 [(2, zv s0 2 (M 5 v)), (0, zv s0 2 0), (1, zv s0 0 v)] [zv s0 2 r42, zv s0 2 56] (zw s0 ca C S M42)
        refine z_aload_n dX9_all_45 rfl (j := 0) rfl ?_
        refine z_callV Γ kk_X7_prepare kc_RX9_134 (As := [zv s0 2 r42, zv s0 2 (M 5 v)]) h (by omega) (by decide) (show (parseMethodDescriptor yX7_prepare.desc).map (fun q => q.parameters.length) = some 2 by decide +kernel) hok (Nat.zero_le _) dX9_all_46 (by decide) hs56 rfl rfl (fun _ h9 => nomatch h9) ?_
        clear h
        intro r46 M46 h
        show rt_Go _ _ _ _ _ _ _ _ _ _ _ _ 49 [(2, zv s0 2 (M 5 v)), (0, zv s0 2 0), (1, zv s0 0 v)] [] (zw s0 ca C S M46)
        refine z_iconst dX9_all_49 ?_
        refine z_istore_n (i := 3) (lv' := [(3, zv s0 0 0), (2, zv s0 2 (M 5 v)), (0, zv s0 2 0), (1, zv s0 0 v)]) dX9_all_50 rfl (by decide) (by simp [zv_cat0, zv_cat1, zv_cat2, zv_cats]) ?_
        exact rt_lfew [2, 0] rfl h
      · replace h := h.1 c26
        exact h.elim
    · replace h := h.2 c7
      exact h.elim
def zt_X9_fits (l : Launch) (s0 : State) (G : va_G) (ca : Nat → ClassId) (d : Nat) (C : Nat × Nat) (S : zS) (w0 : rt_Wd)  (w : Int) (r : Int) (M : zM) (Q : Int → zM → Prop) (X : zM → Prop) : Prop :=
  zIf (w32 w < 0) (False) (zIf (8 ≤ w32 w) (False) (zIf (w32 r < 0) (False) (zIf (w32 r < 8) ((0 ≤ w ∧ w < 8) ∧ ((0 ≤ r ∧ r < 8) ∧ (zIf (M 5 w < 0) (False) (zIf (M 5 r < 0) (False) (zm_X3_fit l s0 G ca (d - 1) C S (M 5 w) (M 5 r) M (fun r67 M67 => (r67 = 0 ∨ r67 = 1) ∧ Q r67 M67) X))))) (False))))
set_option maxRecDepth 100000 in
theorem z_X9_fits {l : Launch} {s0 : State} {a0 : Array Value} {G : va_G} {ca : Nat → ClassId} (Γ : rt_Γ l s0 a0 G ca) {d : Nat} {C : Nat × Nat} {S : zS} (hd : 1 ≤ d) (hok : zok C)  (hs : zSok S) (hs69 : S 69 = some (0, 3, [(3, 70), (3, 72), (2, 0), (2, 0), (0, 0)])) {w : Int} {r : Int} {M : zM} {Q : Int → zM → Prop} {X : zM → Prop} (h : zt_X9_fits l s0 G ca d C S (zw s0 ca C S M)  w r M Q X) : zm_X9_fits l s0 G ca d C S  w r M Q X := by
  refine z_met (lv := [(0, zv s0 2 0), (1, zv s0 0 w), (2, zv s0 0 r)]) Γ kk_X9_fits rfl (show (lg_sl [zv s0 2 0, zv s0 0 w, zv s0 0 r]).length ≤ 5 from by simp only [zn_0, zn_2, show (lg_sl []).length = 0 from rfl]; omega) (show lv_args 0 [zv s0 2 0, zv s0 0 w, zv s0 0 r] = [(0, zv s0 2 0), (1, zv s0 0 w), (2, zv s0 0 r)] from by rw [zl_2, zl_0, zl_0]; rfl) ?_
  unfold zt_X9_fits at h
  refine z_iload_n dX9_fits_0 rfl (j := 1) rfl ?_
  refine z_if_lt (tgt := 20) (x' := w32 w) rfl dX9_fits_1 (by decide) (fun c1 => ?_) (fun c1 => ?_)
  · replace h := h.1 c1
    exact h.elim
  · replace h := h.2 c1
    refine z_iload_n dX9_fits_4 rfl (j := 1) rfl ?_
    refine z_bipush dX9_fits_5 (by decide) ?_
    refine z_icmp_ge (tgt := 20) (x' := w32 w) (y' := 8) rfl (by decide) dX9_fits_7 (by decide) (fun c7 => ?_) (fun c7 => ?_)
    · replace h := h.1 c7
      exact h.elim
    · replace h := h.2 c7
      refine z_iload_n dX9_fits_10 rfl (j := 2) rfl ?_
      refine z_if_lt (tgt := 20) (x' := w32 r) rfl dX9_fits_11 (by decide) (fun c11 => ?_) (fun c11 => ?_)
      · replace h := h.1 c11
        exact h.elim
      · replace h := h.2 c11
        refine z_iload_n dX9_fits_14 rfl (j := 2) rfl ?_
        refine z_bipush dX9_fits_15 (by decide) ?_
        refine z_icmp_lt (tgt := 28) (x' := w32 r) (y' := 8) rfl (by decide) dX9_fits_17 (by decide) (fun c17 => ?_) (fun c17 => ?_)
        · replace h := h.1 c17
          refine z_aload_n dX9_fits_28 rfl (j := 0) rfl ?_
          refine z_getc Γ kf_RX9_23 dX9_fits_29 (by decide) (hs 0 _ rfl) rfl ?_
          refine z_iload_n dX9_fits_32 rfl (j := 1) rfl ?_
          obtain ⟨hi33, h⟩ := h
          refine z_aald Γ dX9_fits_33 (by decide) (hs 5 _ rfl) (by decide) hi33 (v9 := M 5 w) rfl ?_
          refine z_astore_n (i := 3) (lv' := [(3, zv s0 2 (M 5 w)), (0, zv s0 2 0), (1, zv s0 0 w), (2, zv s0 0 r)]) dX9_fits_34 rfl (by decide) (by simp [zv_cat0, zv_cat1, zv_cat2, zv_cats]) ?_
          refine z_aload_n dX9_fits_35 rfl (j := 1) rfl ?_
          refine z_getc Γ kf_RX9_23 dX9_fits_36 (by decide) (hs 0 _ rfl) rfl ?_
          refine z_iload_n dX9_fits_39 rfl (j := 3) rfl ?_
          obtain ⟨hi40, h⟩ := h
          refine z_aald Γ dX9_fits_40 (by decide) (hs 5 _ rfl) (by decide) hi40 (v9 := M 5 r) rfl ?_
          refine z_astore (i := 4) (lv' := [(4, zv s0 2 (M 5 r)), (3, zv s0 2 (M 5 w)), (0, zv s0 2 0), (1, zv s0 0 w), (2, zv s0 0 r)]) dX9_fits_41 (by decide) (by simp [zv_cat0, zv_cat1, zv_cat2, zv_cats]) ?_
          refine z_aload_n dX9_fits_43 rfl (j := 1) rfl ?_
          refine z_ifnull (tgt := 52) dX9_fits_44 (by decide) (fun c44 => ?_) (fun c44 => ?_)
          · replace h := h.1 c44
            exact h.elim
          · replace h := h.2 c44
            refine z_aload dX9_fits_47 (j := 0) rfl ?_
            refine z_ifnonnull (tgt := 60) dX9_fits_49 (by decide) (fun c49 => ?_) (fun c49 => ?_)
            · replace h := h.2 c49
              refine z_aload_n dX9_fits_60 rfl (j := 2) rfl ?_
              refine z_getc Γ kf_RX9_58 dX9_fits_61 (by decide) (hs 0 _ rfl) rfl ?_
              refine z_aload_n dX9_fits_64 rfl (j := 1) rfl ?_
              refine z_aload dX9_fits_65 (j := 0) rfl ?_
              refine z_callV Γ kk_X3_fit kc_RX9_150 (As := [zv s0 2 (M 5 w), zv s0 2 (M 5 r)]) h (by omega) (by decide) (show (parseMethodDescriptor yX3_fit.desc).map (fun q => q.parameters.length) = some 2 by decide +kernel) hok (Nat.zero_le _) dX9_fits_67 (by decide) hs69 rfl rfl (fun _ h9 => nomatch h9) ?_
              clear h
              intro r67 M67 h
              show rt_Go _ _ _ _ _ _ _ _ _ _ _ _ 70 [(4, zv s0 2 (M 5 r)), (3, zv s0 2 (M 5 w)), (0, zv s0 2 0), (1, zv s0 0 w), (2, zv s0 0 r)] [zv s0 0 r67] (zw s0 ca C S M67)
              obtain ⟨hi9, h⟩ := h
              exact z_zret dX9_fits_70 rfl hi9 h
            · replace h := h.1 c49
              exact h.elim
        · replace h := h.2 c17
          exact h.elim
