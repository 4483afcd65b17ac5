/-! ===== the reference's upper methods: those that catch nothing ===== -/
def zt_X11_isPlace (l : Launch) (s0 : State) (G : va_G) (ca : Nat → ClassId) (d : Nat) (C : Nat × Nat) (S : zS) (w0 : rt_Wd)  (p : Int) (M : zM) (Q : Int → zM → Prop) (X : zM → Prop) : Prop :=
  zm_X11_within l s0 G ca (d - 1) C S p 0 7 M (fun r4 M4 => (r4 = 0 ∨ r4 = 1) ∧ Q r4 M4) X
set_option maxRecDepth 100000 in
theorem z_X11_isPlace {l : Launch} {s0 : State} {a0 : Array Value} {G : va_G} {ca : Nat → ClassId} (Γ : rt_Γ l s0 a0 G ca) {d : Nat} {C : Nat × Nat} {S : zS} (hd : 1 ≤ d) (hok : zok C)  (hs : zSok S) {p : Int} {M : zM} {Q : Int → zM → Prop} {X : zM → Prop} (h : zt_X11_isPlace l s0 G ca d C S (zw s0 ca C S M)  p M Q X) : zm_X11_isPlace l s0 G ca d C S  p M Q X := by
  refine z_met (lv := [(0, zv s0 0 p)]) Γ kk_X11_isPlace rfl (show (lg_sl [zv s0 0 p]).length ≤ 1 from by simp only [zn_0, show (lg_sl []).length = 0 from rfl]; omega) (show lv_args 0 [zv s0 0 p] = [(0, zv s0 0 p)] from by rw [zl_0]; rfl) ?_
  unfold zt_X11_isPlace at h
  refine z_iload_n dX11_isPlace_0 rfl (j := 0) rfl ?_
  refine z_iconst dX11_isPlace_1 ?_
  refine z_bipush dX11_isPlace_2 (by decide) ?_
  refine z_callS Γ kk_X11_within kc_RX11_68 (As := [zv s0 0 p, zv s0 0 0, zv s0 0 7]) h (by omega) (by decide) (show (parseMethodDescriptor yX11_within.desc).map (fun q => q.parameters.length) = some 3 by decide +kernel) hok (Nat.zero_le _) dX11_isPlace_4 rfl (fun _ h9 => nomatch h9) ?_
  clear h
  intro r4 M4 h
  show rt_Go _ _ _ _ _ _ _ _ _ _ _ _ 7 [(0, zv s0 0 p)] [zv s0 0 r4] (zw s0 ca C S M4)
  obtain ⟨hi9, h⟩ := h
  exact z_zret dX11_isPlace_7 rfl hi9 h
def zt_X11_within (l : Launch) (s0 : State) (G : va_G) (ca : Nat → ClassId) (d : Nat) (C : Nat × Nat) (S : zS) (w0 : rt_Wd)  (a : Int) (b : Int) (c : Int) (M : zM) (Q : Int → zM → Prop) (X : zM → Prop) : Prop :=
  zIf (w32 a < w32 b) (Q 0 M) (zIf (w32 c < w32 a) (Q 0 M) (Q 1 M))
set_option maxRecDepth 100000 in
theorem z_X11_within {l : Launch} {s0 : State} {a0 : Array Value} {G : va_G} {ca : Nat → ClassId} (Γ : rt_Γ l s0 a0 G ca) {d : Nat} {C : Nat × Nat} {S : zS} (hok : zok C)  (hs : zSok S) {a : Int} {b : Int} {c : Int} {M : zM} {Q : Int → zM → Prop} {X : zM → Prop} (h : zt_X11_within l s0 G ca d C S (zw s0 ca C S M)  a b c M Q X) : zm_X11_within l s0 G ca d C S  a b c M Q X := by
  refine z_met (lv := [(0, zv s0 0 a), (1, zv s0 0 b), (2, zv s0 0 c)]) Γ kk_X11_within rfl (show (lg_sl [zv s0 0 a, zv s0 0 b, zv s0 0 c]).length ≤ 3 from by simp only [zn_0, show (lg_sl []).length = 0 from rfl]; omega) (show lv_args 0 [zv s0 0 a, zv s0 0 b, zv s0 0 c] = [(0, zv s0 0 a), (1, zv s0 0 b), (2, zv s0 0 c)] from by rw [zl_0, zl_0, zl_0]; rfl) ?_
  unfold zt_X11_within at h
  refine z_iload_n dX11_within_0 rfl (j := 0) rfl ?_
  refine z_iload_n dX11_within_1 rfl (j := 1) rfl ?_
  refine z_icmp_lt (tgt := 14) (x' := w32 a) (y' := w32 b) rfl rfl dX11_within_2 (by decide) (fun c2 => ?_) (fun c2 => ?_)
  · replace h := h.1 c2
    refine z_iconst dX11_within_14 ?_
    exact z_zret dX11_within_15 rfl (by decide) h
  · replace h := h.2 c2
    refine z_iload_n dX11_within_5 rfl (j := 0) rfl ?_
    refine z_iload_n dX11_within_6 rfl (j := 2) rfl ?_
    refine z_icmp_gt (tgt := 14) (x' := w32 a) (y' := w32 c) rfl rfl dX11_within_7 (by decide) (fun c7 => ?_) (fun c7 => ?_)
    · replace h := h.1 c7
      refine z_iconst dX11_within_14 ?_
      exact z_zret dX11_within_15 rfl (by decide) h
    · replace h := h.2 c7
      refine z_iconst dX11_within_10 ?_
      refine rt_goto (tgt := 15) dX11_within_11 (by decide) ?_
      exact z_zret dX11_within_15 rfl (by decide) h
abbrev zg_X11_refused_18 (l : Launch) (s0 : State) (G : va_G) (ca : Nat → ClassId) (d : Nat) (C : Nat × Nat) (S : zS) (w0 : rt_Wd)   (k0 : Int) (M : zM) (Q : Int → zM → Prop) (X : zM → Prop) : Prop := rt_Go l s0 G RX11 "refused" cX11_refused 3 (Option.some FieldType.boolean) [] d w0 (zQ s0 ca 0 C S Q X) 18 [(0, zv s0 2 84)] [zv s0 0 k0, zv s0 2 84] (zw s0 ca C S M)
def zt_X11_refused_18 (l : Launch) (s0 : State) (G : va_G) (ca : Nat → ClassId) (d : Nat) (C : Nat × Nat) (S : zS) (w0 : rt_Wd)   (k0 : Int) (M : zM) (Q : Int → zM → Prop) (X : zM → Prop) : Prop :=
  zIf (w32 k0 ≤ 0) (Q 0 ((zu M 84 0 k0))) (Q 1 ((zu M 84 0 k0)))
set_option maxRecDepth 100000 in
theorem zs_X11_refused_18 {l : Launch} {s0 : State} {a0 : Array Value} {G : va_G} {ca : Nat → ClassId} (Γ : rt_Γ l s0 a0 G ca) {d : Nat} {C : Nat × Nat} {S : zS} (hok : zok C)  (hs : zSok S) {w0 : rt_Wd}  {k0 : Int}  {M : zM} {Q : Int → zM → Prop} {X : zM → Prop} (h : zt_X11_refused_18 l s0 G ca d C S w0  k0 M Q X) : zg_X11_refused_18 l s0 G ca d C S w0  k0 M Q X := by
  unfold zt_X11_refused_18 at h
  refine z_put0 Γ kp_RX11_54 dX11_refused_18 (by decide) (hs 84 _ rfl) rfl (k9 := 0) rfl ?_
  refine z_aload_n dX11_refused_21 rfl (j := 0) rfl ?_
  refine z_get Γ kf_RX11_54 dX11_refused_22 (by decide) (hs 84 _ rfl) rfl (by decide) (v9 := k0) (zu_s _ _ _ _) ?_
  refine z_if_le (tgt := 32) (x' := w32 k0) rfl dX11_refused_25 (by decide) (fun c25 => ?_) (fun c25 => ?_)
  · replace h := h.1 c25
    refine z_iconst dX11_refused_32 ?_
    exact z_zret dX11_refused_33 rfl (by decide) h
  · replace h := h.2 c25
    refine z_iconst dX11_refused_28 ?_
    refine rt_goto (tgt := 33) dX11_refused_29 (by decide) ?_
    exact z_zret dX11_refused_33 rfl (by decide) h
def zt_X11_refused (l : Launch) (s0 : State) (G : va_G) (ca : Nat → ClassId) (d : Nat) (C : Nat × Nat) (S : zS) (w0 : rt_Wd)  (a : Int) (b : Int) (M : zM) (Q : Int → zM → Prop) (X : zM → Prop) : Prop :=
  zIf (w32 a = 0) (zIf (w32 b = 0) (zt_X11_refused_18 l s0 G ca d C S w0  0 M Q X) (zt_X11_refused_18 l s0 G ca d C S w0  2 M Q X)) (zt_X11_refused_18 l s0 G ca d C S w0  1 M Q X)
set_option maxRecDepth 100000 in
theorem z_X11_refused {l : Launch} {s0 : State} {a0 : Array Value} {G : va_G} {ca : Nat → ClassId} (Γ : rt_Γ l s0 a0 G ca) {d : Nat} {C : Nat × Nat} {S : zS} (hok : zok C)  (hs : zSok S) {a : Int} {b : Int} {M : zM} {Q : Int → zM → Prop} {X : zM → Prop} (h : zt_X11_refused l s0 G ca d C S (zw s0 ca C S M)  a b M Q X) : zm_X11_refused l s0 G ca d C S  a b M Q X := by
  refine z_met (lv := [(0, zv s0 2 84), (1, zv s0 0 a), (2, zv s0 0 b)]) Γ kk_X11_refused rfl (show (lg_sl [zv s0 2 84, zv s0 0 a, zv s0 0 b]).length ≤ 3 from by simp only [zn_0, zn_2, show (lg_sl []).length = 0 from rfl]; omega) (show lv_args 0 [zv s0 2 84, zv s0 0 a, zv s0 0 b] = [(0, zv s0 2 84), (1, zv s0 0 a), (2, zv s0 0 b)] from by rw [zl_2, zl_0, zl_0]; rfl) ?_
  unfold zt_X11_refused at h
  refine z_aload_n dX11_refused_0 rfl (j := 0) rfl ?_
  refine z_iload_n dX11_refused_1 rfl (j := 1) rfl ?_
  refine z_if_eq (tgt := 9) (x' := w32 a) rfl dX11_refused_2 (by decide) (fun c2 => ?_) (fun c2 => ?_)
  · replace h := h.1 c2
    refine z_iload_n dX11_refused_9 rfl (j := 2) rfl ?_
    refine z_if_eq (tgt := 17) (x' := w32 b) rfl dX11_refused_10 (by decide) (fun c10 => ?_) (fun c10 => ?_)
    · replace h := h.1 c10
      refine z_iconst dX11_refused_17 ?_
      exact rt_lfew [0] rfl (zs_X11_refused_18 Γ hok hs  h)
    · replace h := h.2 c10
      refine z_iconst dX11_refused_13 ?_
      refine rt_goto (tgt := 18) dX11_refused_14 (by decide) ?_
      exact rt_lfew [0] rfl (zs_X11_refused_18 Γ hok hs  h)
  · replace h := h.2 c2
    refine z_iconst dX11_refused_5 ?_
    refine rt_goto (tgt := 18) dX11_refused_6 (by decide) ?_
    exact rt_lfew [0] rfl (zs_X11_refused_18 Γ hok hs  h)
abbrev zg_X11_addInt_3 (l : Launch) (s0 : State) (G : va_G) (ca : Nat → ClassId) (d : Nat) (C : Nat × Nat) (S : zS) (w0 : rt_Wd)  (v1 : Int) (v2 : Int)  (M : zM) (Q : Int → zM → Prop) (X : zM → Prop) : Prop := rt_Go l s0 G RX11 "addInt" cX11_addInt 3 (Option.none : Option FieldType) [] d w0 (zQ s0 ca 9 C S Q X) 3 [(0, zv s0 2 84), (1, zv s0 0 v1), (2, zv s0 0 v2)] [] (zw s0 ca C S M)
def zt_X11_addInt_3 (l : Launch) (s0 : State) (G : va_G) (ca : Nat → ClassId) (d : Nat) (C : Nat × Nat) (S : zS) (w0 : rt_Wd)  (v1 : Int) (v2 : Int)  (M : zM) (Q : Int → zM → Prop) (X : zM → Prop) : Prop :=
  zIf (w32 v2 < 0) (Q 0 M) ((0 ≤ M 84 2 ∧ M 84 2 < 4096) ∧ (zg_X11_addInt_3 l s0 G ca d C S w0  v1 (v2 + (-8)) ((zu ((zu M 85 (M 84 2) (w8 (w8 (zshr v1 v2))))) 84 2 ((M 84 2) + 1))) Q X))
set_option maxRecDepth 100000 in
theorem zs_X11_addInt_3 {l : Launch} {s0 : State} {a0 : Array Value} {G : va_G} {ca : Nat → ClassId} (Γ : rt_Γ l s0 a0 G ca) {d : Nat} {C : Nat × Nat} {S : zS} (hok : zok C)  (hs : zSok S) {w0 : rt_Wd} {v1 : Int} {v2 : Int}   {M : zM} {Q : Int → zM → Prop} {X : zM → Prop} (h : zt_X11_addInt_3 l s0 G ca d C S w0  v1 v2 M Q X) : zg_X11_addInt_3 l s0 G ca d C S w0  v1 v2 M Q X := by
  unfold zt_X11_addInt_3 at h
  refine z_iload_n dX11_addInt_3 rfl (j := 2) rfl ?_
  refine z_if_lt (tgt := 36) (x' := w32 v2) rfl dX11_addInt_4 (by decide) (fun c4 => ?_) (fun c4 => ?_)
  · replace h := h.1 c4
    exact z_vret dX11_addInt_36 rfl h
  · replace h := h.2 c4
    refine z_aload_n dX11_addInt_7 rfl (j := 0) rfl ?_
    refine z_getc Γ kf_RX11_7 dX11_addInt_8 (by decide) (hs 84 _ rfl) rfl ?_
    refine z_aload_n dX11_addInt_11 rfl (j := 0) rfl ?_
    refine z_get Γ kf_RX11_57 dX11_addInt_12 (by decide) (hs 84 _ rfl) rfl (by decide) (v9 := M 84 2) rfl ?_
    refine z_iload_n dX11_addInt_15 rfl (j := 1) rfl ?_
    refine z_iload_n dX11_addInt_16 rfl (j := 2) rfl ?_
    refine z_ishr dX11_addInt_17 ?_
    refine z_i2b dX11_addInt_18 ?_
    obtain ⟨hi19, h⟩ := h
    refine z_bast Γ dX11_addInt_19 (by decide) (hs 85 _ rfl) (by decide) hi19 ?_
    refine z_aload_n dX11_addInt_20 rfl (j := 0) rfl ?_
    refine z_dup2 dX11_addInt_21 ?_
    refine z_get Γ kf_RX11_57 dX11_addInt_22 (by decide) (hs 84 _ rfl) rfl (by decide) (v9 := M 84 2) ((zu_a (by decide)).trans rfl) ?_
    refine z_iconst dX11_addInt_25 ?_
    refine z_iadd dX11_addInt_26 ?_
    refine z_put0 Γ kp_RX11_57 dX11_addInt_27 (by decide) (hs 84 _ rfl) rfl (k9 := 2) rfl ?_
    refine z_iinc (lv' := [(2, zv s0 0 (v2 + (-8))), (0, zv s0 2 84), (1, zv s0 0 v1)]) dX11_addInt_30 (j := 2) rfl (by decide) (by simp [zv_cat0, zv_cat1, zv_cat2, zv_cats]) ?_
    refine rt_goto (tgt := 3) dX11_addInt_33 (by decide) ?_
    exact rt_lfew [1, 2, 0] rfl h
def zt_X11_addInt (l : Launch) (s0 : State) (G : va_G) (ca : Nat → ClassId) (d : Nat) (C : Nat × Nat) (S : zS) (w0 : rt_Wd)  (v : Int) (M : zM) (Q : Int → zM → Prop) (X : zM → Prop) : Prop :=
  zg_X11_addInt_3 l s0 G ca d C S w0  v 24 M Q X
set_option maxRecDepth 100000 in
theorem z_X11_addInt {l : Launch} {s0 : State} {a0 : Array Value} {G : va_G} {ca : Nat → ClassId} (Γ : rt_Γ l s0 a0 G ca) {d : Nat} {C : Nat × Nat} {S : zS} (hok : zok C)  (hs : zSok S) {v : Int} {M : zM} {Q : Int → zM → Prop} {X : zM → Prop} (h : zt_X11_addInt l s0 G ca d C S (zw s0 ca C S M)  v M Q X) : zm_X11_addInt l s0 G ca d C S  v M Q X := by
  refine z_met (lv := [(0, zv s0 2 84), (1, zv s0 0 v)]) Γ kk_X11_addInt rfl (show (lg_sl [zv s0 2 84, zv s0 0 v]).length ≤ 3 from by simp only [zn_0, zn_2, show (lg_sl []).length = 0 from rfl]; omega) (show lv_args 0 [zv s0 2 84, zv s0 0 v] = [(0, zv s0 2 84), (1, zv s0 0 v)] from by rw [zl_2, zl_0]; rfl) ?_
  unfold zt_X11_addInt at h
  refine z_bipush dX11_addInt_0 (by decide) ?_
  refine z_istore_n (i := 2) (lv' := [(2, zv s0 0 24), (0, zv s0 2 84), (1, zv s0 0 v)]) dX11_addInt_2 rfl (by decide) (by simp [zv_cat0, zv_cat1, zv_cat2, zv_cats]) ?_
  exact rt_lfew [1, 2, 0] rfl h
def zt_X11_thrown (l : Launch) (s0 : State) (G : va_G) (ca : Nat → ClassId) (d : Nat) (C : Nat × Nat) (S : zS) (w0 : rt_Wd)   (M : zM) (Q : Int → zM → Prop) (X : zM → Prop) : Prop :=
  Q (M 84 0) M
set_option maxRecDepth 100000 in
theorem z_X11_thrown {l : Launch} {s0 : State} {a0 : Array Value} {G : va_G} {ca : Nat → ClassId} (Γ : rt_Γ l s0 a0 G ca) {d : Nat} {C : Nat × Nat} {S : zS} (hok : zok C)  (hs : zSok S)  {M : zM} {Q : Int → zM → Prop} {X : zM → Prop} (h : zt_X11_thrown l s0 G ca d C S (zw s0 ca C S M)   M Q X) : zm_X11_thrown l s0 G ca d C S   M Q X := by
  refine z_met (lv := [(0, zv s0 2 84)]) Γ kk_X11_thrown rfl (show (lg_sl [zv s0 2 84]).length ≤ 1 from by simp only [zn_2, show (lg_sl []).length = 0 from rfl]; omega) (show lv_args 0 [zv s0 2 84] = [(0, zv s0 2 84)] from by rw [zl_2]; rfl) ?_
  unfold zt_X11_thrown at h
  refine z_aload_n dX11_thrown_0 rfl (j := 0) rfl ?_
  refine z_get Γ kf_RX11_54 dX11_thrown_1 (by decide) (hs 84 _ rfl) rfl (by decide) (v9 := M 84 0) rfl ?_
  exact z_iret dX11_thrown_4 rfl h
abbrev zg_X11_feed_19 (l : Launch) (s0 : State) (G : va_G) (ca : Nat → ClassId) (d : Nat) (C : Nat × Nat) (S : zS) (w0 : rt_Wd)  (v1 : Int) (v2 : Int) (v3 : Int) (v4 : Int) (v5 : Int) (k0 : Int) (M : zM) (Q : Int → zM → Prop) (X : zM → Prop) : Prop := rt_Go l s0 G RX11 "feed" cX11_feed 6 (Option.some FieldType.int) [] d w0 (zQ s0 ca 0 C S Q X) 19 [(0, zv s0 2 84), (1, zv s0 0 v1), (2, zv s0 0 v2), (3, zv s0 0 v3), (4, zv s0 0 v4), (5, zv s0 0 v5)] [zv s0 0 k0, zv s0 2 84] (zw s0 ca C S M)
def zt_X11_feed_19 (l : Launch) (s0 : State) (G : va_G) (ca : Nat → ClassId) (d : Nat) (C : Nat × Nat) (S : zS) (w0 : rt_Wd)  (v1 : Int) (v2 : Int) (v3 : Int) (v4 : Int) (v5 : Int) (k0 : Int) (M : zM) (Q : Int → zM → Prop) (X : zM → Prop) : Prop :=
  zm_X11_refused l s0 G ca (d - 1) C S k0 0 M (fun r20 M20 => zIf (w32 r20 = 0) (zm_X11_addInt l s0 G ca (d - 1) C S v1 M20 (fun r30 M30 => zm_X11_addInt l s0 G ca (d - 1) C S v2 M30 (fun r35 M35 => zm_X11_addInt l s0 G ca (d - 1) C S v3 M35 (fun r40 M40 => zm_X11_addInt l s0 G ca (d - 1) C S v4 M40 (fun r46 M46 => zm_X11_addInt l s0 G ca (d - 1) C S v5 M46 (fun r52 M52 => Q (M52 84 2) M52) X) X) X) X) X) (Q 0 M20)) X
set_option maxRecDepth 100000 in
theorem zs_X11_feed_19 {l : Launch} {s0 : State} {a0 : Array Value} {G : va_G} {ca : Nat → ClassId} (Γ : rt_Γ l s0 a0 G ca) {d : Nat} {C : Nat × Nat} {S : zS} (hd : 1 ≤ d) (hok : zok C)  (hs : zSok S) {w0 : rt_Wd} {v1 : Int} {v2 : Int} {v3 : Int} {v4 : Int} {v5 : Int} {k0 : Int}  {M : zM} {Q : Int → zM → Prop} {X : zM → Prop} (h : zt_X11_feed_19 l s0 G ca d C S w0  v1 v2 v3 v4 v5 k0 M Q X) : zg_X11_feed_19 l s0 G ca d C S w0  v1 v2 v3 v4 v5 k0 M Q X := by
  unfold zt_X11_feed_19 at h
  refine z_iconst dX11_feed_19 ?_
  refine z_callV Γ kk_X11_refused kc_RX11_60 (As := [zv s0 0 k0, zv s0 0 0]) h (by omega) (by decide) (show (parseMethodDescriptor yX11_refused.desc).map (fun q => q.parameters.length) = some 2 by decide +kernel) hok (Nat.zero_le _) dX11_feed_20 (by decide) (hs 84 _ rfl) rfl rfl (fun _ h9 => nomatch h9) ?_
  clear h
  intro r20 M20 h
  show rt_Go _ _ _ _ _ _ _ _ _ _ _ _ 23 [(0, zv s0 2 84), (1, zv s0 0 v1), (2, zv s0 0 v2), (3, zv s0 0 v3), (4, zv s0 0 v4), (5, zv s0 0 v5)] [zv s0 0 r20] (zw s0 ca C S M20)
  refine z_if_eq (tgt := 28) (x' := w32 r20) rfl dX11_feed_23 (by decide) (fun c23 => ?_) (fun c23 => ?_)
  · replace h := h.1 c23
    refine z_aload_n dX11_feed_28 rfl (j := 0) rfl ?_
    refine z_iload_n dX11_feed_29 rfl (j := 1) rfl ?_
    refine z_callV Γ kk_X11_addInt kc_RX11_64 (As := [zv s0 0 v1]) h (by omega) (by decide) (show (parseMethodDescriptor yX11_addInt.desc).map (fun q => q.parameters.length) = some 1 by decide +kernel) hok (Nat.zero_le _) dX11_feed_30 (by decide) (hs 84 _ rfl) rfl rfl (fun _ h9 => nomatch h9) ?_
    clear h
    intro r30 M30 h
    show rt_Go _ _ _ _ _ _ _ _ _ _ _ _ 33 [(0, zv s0 2 84), (1, zv s0 0 v1), (2, zv s0 0 v2), (3, zv s0 0 v3), (4, zv s0 0 v4), (5, zv s0 0 v5)] [] (zw s0 ca C S M30)
    refine z_aload_n dX11_feed_33 rfl (j := 0) rfl ?_
    refine z_iload_n dX11_feed_34 rfl (j := 2) rfl ?_
    refine z_callV Γ kk_X11_addInt kc_RX11_64 (As := [zv s0 0 v2]) h (by omega) (by decide) (show (parseMethodDescriptor yX11_addInt.desc).map (fun q => q.parameters.length) = some 1 by decide +kernel) hok (Nat.zero_le _) dX11_feed_35 (by decide) (hs 84 _ rfl) rfl rfl (fun _ h9 => nomatch h9) ?_
    clear h
    intro r35 M35 h
    show rt_Go _ _ _ _ _ _ _ _ _ _ _ _ 38 [(0, zv s0 2 84), (1, zv s0 0 v1), (2, zv s0 0 v2), (3, zv s0 0 v3), (4, zv s0 0 v4), (5, zv s0 0 v5)] [] (zw s0 ca C S M35)
    refine z_aload_n dX11_feed_38 rfl (j := 0) rfl ?_
    refine z_iload_n dX11_feed_39 rfl (j := 3) rfl ?_
    refine z_callV Γ kk_X11_addInt kc_RX11_64 (As := [zv s0 0 v3]) h (by omega) (by decide) (show (parseMethodDescriptor yX11_addInt.desc).map (fun q => q.parameters.length) = some 1 by decide +kernel) hok (Nat.zero_le _) dX11_feed_40 (by decide) (hs 84 _ rfl) rfl rfl (fun _ h9 => nomatch h9) ?_
    clear h
    intro r40 M40 h
    show rt_Go _ _ _ _ _ _ _ _ _ _ _ _ 43 [(0, zv s0 2 84), (1, zv s0 0 v1), (2, zv s0 0 v2), (3, zv s0 0 v3), (4, zv s0 0 v4), (5, zv s0 0 v5)] [] (zw s0 ca C S M40)
    refine z_aload_n dX11_feed_43 rfl (j := 0) rfl ?_
    refine z_iload dX11_feed_44 (j := 4) rfl ?_
    refine z_callV Γ kk_X11_addInt kc_RX11_64 (As := [zv s0 0 v4]) h (by omega) (by decide) (show (parseMethodDescriptor yX11_addInt.desc).map (fun q => q.parameters.length) = some 1 by decide +kernel) hok (Nat.zero_le _) dX11_feed_46 (by decide) (hs 84 _ rfl) rfl rfl (fun _ h9 => nomatch h9) ?_
    clear h
    intro r46 M46 h
    show rt_Go _ _ _ _ _ _ _ _ _ _ _ _ 49 [(0, zv s0 2 84), (1, zv s0 0 v1), (2, zv s0 0 v2), (3, zv s0 0 v3), (4, zv s0 0 v4), (5, zv s0 0 v5)] [] (zw s0 ca C S M46)
    refine z_aload_n dX11_feed_49 rfl (j := 0) rfl ?_
    refine z_iload dX11_feed_50 (j := 5) rfl ?_
    refine z_callV Γ kk_X11_addInt kc_RX11_64 (As := [zv s0 0 v5]) h (by omega) (by decide) (show (parseMethodDescriptor yX11_addInt.desc).map (fun q => q.parameters.length) = some 1 by decide +kernel) hok (Nat.zero_le _) dX11_feed_52 (by decide) (hs 84 _ rfl) rfl rfl (fun _ h9 => nomatch h9) ?_
    clear h
    intro r52 M52 h
    show rt_Go _ _ _ _ _ _ _ _ _ _ _ _ 55 [(0, zv s0 2 84), (1, zv s0 0 v1), (2, zv s0 0 v2), (3, zv s0 0 v3), (4, zv s0 0 v4), (5, zv s0 0 v5)] [] (zw s0 ca C S M52)
    refine z_aload_n dX11_feed_55 rfl (j := 0) rfl ?_
    refine z_get Γ kf_RX11_57 dX11_feed_56 (by decide) (hs 84 _ rfl) rfl (by decide) (v9 := M52 84 2) rfl ?_
    exact z_iret dX11_feed_59 rfl h
  · replace h := h.2 c23
    refine z_iconst dX11_feed_26 ?_
    exact z_iret dX11_feed_27 rfl h
def zt_X11_feed (l : Launch) (s0 : State) (G : va_G) (ca : Nat → ClassId) (d : Nat) (C : Nat × Nat) (S : zS) (w0 : rt_Wd)  (a : Int) (b : Int) (c : Int) (e : Int) (f : Int) (M : zM) (Q : Int → zM → Prop) (X : zM → Prop) : Prop :=
  zIf (w32 ((M 84 2) + 20) ≤ 4096) (zt_X11_feed_19 l s0 G ca d C S w0  a b c e f 0 M Q X) (zt_X11_feed_19 l s0 G ca d C S w0  a b c e f 1 M Q X)
set_option maxRecDepth 100000 in
theorem z_X11_feed {l : Launch} {s0 : State} {a0 : Array Value} {G : va_G} {ca : Nat → ClassId} (Γ : rt_Γ l s0 a0 G ca) {d : Nat} {C : Nat × Nat} {S : zS} (hd : 1 ≤ d) (hok : zok C)  (hs : zSok S) {a : Int} {b : Int} {c : Int} {e : Int} {f : Int} {M : zM} {Q : Int → zM → Prop} {X : zM → Prop} (h : zt_X11_feed l s0 G ca d C S (zw s0 ca C S M)  a b c e f M Q X) : zm_X11_feed l s0 G ca d C S  a b c e f M Q X := by
  refine z_met (lv := [(0, zv s0 2 84), (1, zv s0 0 a), (2, zv s0 0 b), (3, zv s0 0 c), (4, zv s0 0 e), (5, zv s0 0 f)]) Γ kk_X11_feed rfl (show (lg_sl [zv s0 2 84, zv s0 0 a, zv s0 0 b, zv s0 0 c, zv s0 0 e, zv s0 0 f]).length ≤ 6 from by simp only [zn_0, zn_2, show (lg_sl []).length = 0 from rfl]; omega) (show lv_args 0 [zv s0 2 84, zv s0 0 a, zv s0 0 b, zv s0 0 c, zv s0 0 e, zv s0 0 f] = [(0, zv s0 2 84), (1, zv s0 0 a), (2, zv s0 0 b), (3, zv s0 0 c), (4, zv s0 0 e), (5, zv s0 0 f)] from by rw [zl_2, zl_0, zl_0, zl_0, zl_0, zl_0]; rfl) ?_
  unfold zt_X11_feed at h
  refine z_aload_n dX11_feed_0 rfl (j := 0) rfl ?_
  refine z_aload_n dX11_feed_1 rfl (j := 0) rfl ?_
  refine z_get Γ kf_RX11_57 dX11_feed_2 (by decide) (hs 84 _ rfl) rfl (by decide) (v9 := M 84 2) rfl ?_
  refine z_bipush dX11_feed_5 (by decide) ?_
  refine z_iadd dX11_feed_7 ?_
  refine z_sipush dX11_feed_8 (by decide) ?_
  refine z_icmp_le (tgt := 18) (x' := w32 ((M 84 2) + 20)) (y' := 4096) rfl (by decide) dX11_feed_11 (by decide) (fun c11 => ?_) (fun c11 => ?_)
  · replace h := h.1 c11
    refine z_iconst dX11_feed_18 ?_
    exact rt_lfew [0, 1, 2, 3, 4, 5] rfl (zs_X11_feed_19 Γ hd hok hs  h)
  · replace h := h.2 c11
    refine z_iconst dX11_feed_14 ?_
    refine rt_goto (tgt := 19) dX11_feed_15 (by decide) ?_
    exact rt_lfew [0, 1, 2, 3, 4, 5] rfl (zs_X11_feed_19 Γ hd hok hs  h)
abbrev zg_X11_end_18 (l : Launch) (s0 : State) (G : va_G) (ca : Nat → ClassId) (d : Nat) (C : Nat × Nat) (S : zS) (w0 : rt_Wd)  (v1 : Int) (k0 : Int) (M : zM) (Q : Int → zM → Prop) (X : zM → Prop) : Prop := rt_Go l s0 G RX11 "end" cX11_end 2 (Option.none : Option FieldType) [] d w0 (zQ s0 ca 9 C S Q X) 18 [(0, zv s0 2 84), (1, zv s0 0 v1)] [zv s0 0 k0, zv s0 2 84] (zw s0 ca C S M)
def zt_X11_end_18 (l : Launch) (s0 : State) (G : va_G) (ca : Nat → ClassId) (d : Nat) (C : Nat × Nat) (S : zS) (w0 : rt_Wd)  (v1 : Int) (k0 : Int) (M : zM) (Q : Int → zM → Prop) (X : zM → Prop) : Prop :=
  zm_X11_refused l s0 G ca (d - 1) C S k0 0 M (fun r19 M19 => zIf (w32 r19 = 0) (Q 0 ((zu M19 84 2 v1))) (Q 0 M19)) X
set_option maxRecDepth 100000 in
theorem zs_X11_end_18 {l : Launch} {s0 : State} {a0 : Array Value} {G : va_G} {ca : Nat → ClassId} (Γ : rt_Γ l s0 a0 G ca) {d : Nat} {C : Nat × Nat} {S : zS} (hd : 1 ≤ d) (hok : zok C)  (hs : zSok S) {w0 : rt_Wd} {v1 : Int} {k0 : Int}  {M : zM} {Q : Int → zM → Prop} {X : zM → Prop} (h : zt_X11_end_18 l s0 G ca d C S w0  v1 k0 M Q X) : zg_X11_end_18 l s0 G ca d C S w0  v1 k0 M Q X := by
  unfold zt_X11_end_18 at h
  refine z_iconst dX11_end_18 ?_
  refine z_callV Γ kk_X11_refused kc_RX11_60 (As := [zv s0 0 k0, zv s0 0 0]) h (by omega) (by decide) (show (parseMethodDescriptor yX11_refused.desc).map (fun q => q.parameters.length) = some 2 by decide +kernel) hok (Nat.zero_le _) dX11_end_19 (by decide) (hs 84 _ rfl) rfl rfl (fun _ h9 => nomatch h9) ?_
  clear h
  intro r19 M19 h
  show rt_Go _ _ _ _ _ _ _ _ _ _ _ _ 22 [(0, zv s0 2 84), (1, zv s0 0 v1)] [zv s0 0 r19] (zw s0 ca C S M19)
  refine z_if_ne (tgt := 30) (x' := w32 r19) rfl dX11_end_22 (by decide) (fun c22 => ?_) (fun c22 => ?_)
  · replace h := h.2 c22
    exact z_vret dX11_end_30 rfl h
  · replace h := h.1 c22
    refine z_aload_n dX11_end_25 rfl (j := 0) rfl ?_
    refine z_iload_n dX11_end_26 rfl (j := 1) rfl ?_
    refine z_put0 Γ kp_RX11_57 dX11_end_27 (by decide) (hs 84 _ rfl) rfl (k9 := 2) rfl ?_
    exact z_vret dX11_end_30 rfl h
def zt_X11_end (l : Launch) (s0 : State) (G : va_G) (ca : Nat → ClassId) (d : Nat) (C : Nat × Nat) (S : zS) (w0 : rt_Wd)  (k : Int) (M : zM) (Q : Int → zM → Prop) (X : zM → Prop) : Prop :=
  zm_X11_within l s0 G ca (d - 1) C S k 0 (M 84 2) M (fun r7 M7 => zIf (w32 r7 = 0) (zt_X11_end_18 l s0 G ca d C S w0  k 1 M7 Q X) (zt_X11_end_18 l s0 G ca d C S w0  k 0 M7 Q X)) X
set_option maxRecDepth 100000 in
theorem z_X11_end {l : Launch} {s0 : State} {a0 : Array Value} {G : va_G} {ca : Nat → ClassId} (Γ : rt_Γ l s0 a0 G ca) {d : Nat} {C : Nat × Nat} {S : zS} (hd : 1 ≤ d) (hok : zok C)  (hs : zSok S) {k : Int} {M : zM} {Q : Int → zM → Prop} {X : zM → Prop} (h : zt_X11_end l s0 G ca d C S (zw s0 ca C S M)  k M Q X) : zm_X11_end l s0 G ca d C S  k M Q X := by
  refine z_met (lv := [(0, zv s0 2 84), (1, zv s0 0 k)]) Γ kk_X11_end rfl (show (lg_sl [zv s0 2 84, zv s0 0 k]).length ≤ 2 from by simp only [zn_0, zn_2, show (lg_sl []).length = 0 from rfl]; omega) (show lv_args 0 [zv s0 2 84, zv s0 0 k] = [(0, zv s0 2 84), (1, zv s0 0 k)] from by rw [zl_2, zl_0]; rfl) ?_
  unfold zt_X11_end at h
  refine z_aload_n dX11_end_0 rfl (j := 0) rfl ?_
  refine z_iload_n dX11_end_1 rfl (j := 1) rfl ?_
  refine z_iconst dX11_end_2 ?_
  refine z_aload_n dX11_end_3 rfl (j := 0) rfl ?_
  refine z_get Γ kf_RX11_57 dX11_end_4 (by decide) (hs 84 _ rfl) rfl (by decide) (v9 := M 84 2) rfl ?_
  refine z_callS Γ kk_X11_within kc_RX11_68 (As := [zv s0 0 k, zv s0 0 0, zv s0 0 (M 84 2)]) h (by omega) (by decide) (show (parseMethodDescriptor yX11_within.desc).map (fun q => q.parameters.length) = some 3 by decide +kernel) hok (by simp only [List.map, zv_cat0, zv_cat1, zv_cat2, List.sum_cons, List.sum_nil]; decide) dX11_end_7 rfl (fun _ h9 => nomatch h9) ?_
  clear h
  intro r7 M7 h
  show rt_Go _ _ _ _ _ _ _ _ _ _ _ _ 10 [(0, zv s0 2 84), (1, zv s0 0 k)] [zv s0 0 r7, zv s0 2 84] (zw s0 ca C S M7)
  refine z_if_ne (tgt := 17) (x' := w32 r7) rfl dX11_end_10 (by decide) (fun c10 => ?_) (fun c10 => ?_)
  · replace h := h.2 c10
    refine z_iconst dX11_end_17 ?_
    exact rt_lfew [0, 1] rfl (zs_X11_end_18 Γ hd hok hs  h)
  · replace h := h.1 c10
    refine z_iconst dX11_end_13 ?_
    refine rt_goto (tgt := 18) dX11_end_14 (by decide) ?_
    exact rt_lfew [0, 1] rfl (zs_X11_end_18 Γ hd hok hs  h)
def zt_X11_place (l : Launch) (s0 : State) (G : va_G) (ca : Nat → ClassId) (d : Nat) (C : Nat × Nat) (S : zS) (w0 : rt_Wd)   (M : zM) (Q : Int → zM → Prop) (X : zM → Prop) : Prop :=
  Q (M 84 3) ((zu M 84 0 0))
set_option maxRecDepth 100000 in
theorem z_X11_place {l : Launch} {s0 : State} {a0 : Array Value} {G : va_G} {ca : Nat → ClassId} (Γ : rt_Γ l s0 a0 G ca) {d : Nat} {C : Nat × Nat} {S : zS} (hok : zok C)  (hs : zSok S)  {M : zM} {Q : Int → zM → Prop} {X : zM → Prop} (h : zt_X11_place l s0 G ca d C S (zw s0 ca C S M)   M Q X) : zm_X11_place l s0 G ca d C S   M Q X := by
  refine z_met (lv := [(0, zv s0 2 84)]) Γ kk_X11_place rfl (show (lg_sl [zv s0 2 84]).length ≤ 1 from by simp only [zn_2, show (lg_sl []).length = 0 from rfl]; omega) (show lv_args 0 [zv s0 2 84] = [(0, zv s0 2 84)] from by rw [zl_2]; rfl) ?_
  unfold zt_X11_place at h
  refine z_aload_n dX11_place_0 rfl (j := 0) rfl ?_
  refine z_iconst dX11_place_1 ?_
  refine z_put0 Γ kp_RX11_54 dX11_place_2 (by decide) (hs 84 _ rfl) rfl (k9 := 0) rfl ?_
  refine z_aload_n dX11_place_5 rfl (j := 0) rfl ?_
  refine z_get Γ kf_RX11_13 dX11_place_6 (by decide) (hs 84 _ rfl) rfl (by decide) (v9 := M 84 3) ((zu_k (by decide)).trans rfl) ?_
  exact z_iret dX11_place_9 rfl h
def zt_X11_rows (l : Launch) (s0 : State) (G : va_G) (ca : Nat → ClassId) (d : Nat) (C : Nat × Nat) (S : zS) (w0 : rt_Wd)   (M : zM) (Q : Int → zM → Prop) (X : zM → Prop) : Prop :=
  Q (M 84 10) ((zu M 84 0 0))
set_option maxRecDepth 100000 in
theorem z_X11_rows {l : Launch} {s0 : State} {a0 : Array Value} {G : va_G} {ca : Nat → ClassId} (Γ : rt_Γ l s0 a0 G ca) {d : Nat} {C : Nat × Nat} {S : zS} (hok : zok C)  (hs : zSok S)  {M : zM} {Q : Int → zM → Prop} {X : zM → Prop} (h : zt_X11_rows l s0 G ca d C S (zw s0 ca C S M)   M Q X) : zm_X11_rows l s0 G ca d C S   M Q X := by
  refine z_met (lv := [(0, zv s0 2 84)]) Γ kk_X11_rows rfl (show (lg_sl [zv s0 2 84]).length ≤ 1 from by simp only [zn_2, show (lg_sl []).length = 0 from rfl]; omega) (show lv_args 0 [zv s0 2 84] = [(0, zv s0 2 84)] from by rw [zl_2]; rfl) ?_
  unfold zt_X11_rows at h
  refine z_aload_n dX11_rows_0 rfl (j := 0) rfl ?_
  refine z_iconst dX11_rows_1 ?_
  refine z_put0 Γ kp_RX11_54 dX11_rows_2 (by decide) (hs 84 _ rfl) rfl (k9 := 0) rfl ?_
  refine z_aload_n dX11_rows_5 rfl (j := 0) rfl ?_
  refine z_get Γ kf_RX11_81 dX11_rows_6 (by decide) (hs 84 _ rfl) rfl (by decide) (v9 := M 84 10) ((zu_k (by decide)).trans rfl) ?_
  exact z_iret dX11_rows_9 rfl h
abbrev zg_X11_size_15 (l : Launch) (s0 : State) (G : va_G) (ca : Nat → ClassId) (d : Nat) (C : Nat × Nat) (S : zS) (w0 : rt_Wd)  (v1 : Int) (k0 : Int) (M : zM) (Q : Int → zM → Prop) (X : zM → Prop) : Prop := rt_Go l s0 G RX11 "size" cX11_size 2 (Option.some FieldType.int) [] d w0 (zQ s0 ca 0 C S Q X) 15 [(0, zv s0 2 84), (1, zv s0 0 v1)] [zv s0 0 k0, zv s0 2 84] (zw s0 ca C S M)
def zt_X11_size_15 (l : Launch) (s0 : State) (G : va_G) (ca : Nat → ClassId) (d : Nat) (C : Nat × Nat) (S : zS) (w0 : rt_Wd)  (v1 : Int) (k0 : Int) (M : zM) (Q : Int → zM → Prop) (X : zM → Prop) : Prop :=
  zm_X11_refused l s0 G ca (d - 1) C S k0 0 M (fun r16 M16 => zIf (w32 r16 = 0) (zIf (w32 v1 = 0) (Q (M16 84 11) M16) (Q (M16 84 13) M16)) (Q 0 M16)) X
set_option maxRecDepth 100000 in
theorem zs_X11_size_15 {l : Launch} {s0 : State} {a0 : Array Value} {G : va_G} {ca : Nat → ClassId} (Γ : rt_Γ l s0 a0 G ca) {d : Nat} {C : Nat × Nat} {S : zS} (hd : 1 ≤ d) (hok : zok C)  (hs : zSok S) {w0 : rt_Wd} {v1 : Int} {k0 : Int}  {M : zM} {Q : Int → zM → Prop} {X : zM → Prop} (h : zt_X11_size_15 l s0 G ca d C S w0  v1 k0 M Q X) : zg_X11_size_15 l s0 G ca d C S w0  v1 k0 M Q X := by
  unfold zt_X11_size_15 at h
  refine z_iconst dX11_size_15 ?_
  refine z_callV Γ kk_X11_refused kc_RX11_60 (As := [zv s0 0 k0, zv s0 0 0]) h (by omega) (by decide) (show (parseMethodDescriptor yX11_refused.desc).map (fun q => q.parameters.length) = some 2 by decide +kernel) hok (Nat.zero_le _) dX11_size_16 (by decide) (hs 84 _ rfl) rfl rfl (fun _ h9 => nomatch h9) ?_
  clear h
  intro r16 M16 h
  show rt_Go _ _ _ _ _ _ _ _ _ _ _ _ 19 [(0, zv s0 2 84), (1, zv s0 0 v1)] [zv s0 0 r16] (zw s0 ca C S M16)
  refine z_if_eq (tgt := 26) (x' := w32 r16) rfl dX11_size_19 (by decide) (fun c19 => ?_) (fun c19 => ?_)
  · replace h := h.1 c19
    refine z_iload_n dX11_size_26 rfl (j := 1) rfl ?_
    refine z_if_ne (tgt := 37) (x' := w32 v1) rfl dX11_size_27 (by decide) (fun c27 => ?_) (fun c27 => ?_)
    · replace h := h.2 c27
      refine z_aload_n dX11_size_37 rfl (j := 0) rfl ?_
      refine z_get Γ kf_RX11_198 dX11_size_38 (by decide) (hs 84 _ rfl) rfl (by decide) (v9 := M16 84 13) rfl ?_
      exact z_iret dX11_size_41 rfl h
    · replace h := h.1 c27
      refine z_aload_n dX11_size_30 rfl (j := 0) rfl ?_
      refine z_get Γ kf_RX11_84 dX11_size_31 (by decide) (hs 84 _ rfl) rfl (by decide) (v9 := M16 84 11) rfl ?_
      refine rt_goto (tgt := 41) dX11_size_34 (by decide) ?_
      exact z_iret dX11_size_41 rfl h
  · replace h := h.2 c19
    refine z_iconst dX11_size_22 ?_
    refine rt_goto (tgt := 41) dX11_size_23 (by decide) ?_
    exact z_iret dX11_size_41 rfl h
def zt_X11_size (l : Launch) (s0 : State) (G : va_G) (ca : Nat → ClassId) (d : Nat) (C : Nat × Nat) (S : zS) (w0 : rt_Wd)  (p : Int) (M : zM) (Q : Int → zM → Prop) (X : zM → Prop) : Prop :=
  zm_X11_within l s0 G ca (d - 1) C S p 0 1 M (fun r4 M4 => zIf (w32 r4 = 0) (zt_X11_size_15 l s0 G ca d C S w0  p 1 M4 Q X) (zt_X11_size_15 l s0 G ca d C S w0  p 0 M4 Q X)) X
set_option maxRecDepth 100000 in
theorem z_X11_size {l : Launch} {s0 : State} {a0 : Array Value} {G : va_G} {ca : Nat → ClassId} (Γ : rt_Γ l s0 a0 G ca) {d : Nat} {C : Nat × Nat} {S : zS} (hd : 1 ≤ d) (hok : zok C)  (hs : zSok S) {p : Int} {M : zM} {Q : Int → zM → Prop} {X : zM → Prop} (h : zt_X11_size l s0 G ca d C S (zw s0 ca C S M)  p M Q X) : zm_X11_size l s0 G ca d C S  p M Q X := by
  refine z_met (lv := [(0, zv s0 2 84), (1, zv s0 0 p)]) Γ kk_X11_size rfl (show (lg_sl [zv s0 2 84, zv s0 0 p]).length ≤ 2 from by simp only [zn_0, zn_2, show (lg_sl []).length = 0 from rfl]; omega) (show lv_args 0 [zv s0 2 84, zv s0 0 p] = [(0, zv s0 2 84), (1, zv s0 0 p)] from by rw [zl_2, zl_0]; rfl) ?_
  unfold zt_X11_size at h
  refine z_aload_n dX11_size_0 rfl (j := 0) rfl ?_
  refine z_iload_n dX11_size_1 rfl (j := 1) rfl ?_
  refine z_iconst dX11_size_2 ?_
  refine z_iconst dX11_size_3 ?_
  refine z_callS Γ kk_X11_within kc_RX11_68 (As := [zv s0 0 p, zv s0 0 0, zv s0 0 1]) h (by omega) (by decide) (show (parseMethodDescriptor yX11_within.desc).map (fun q => q.parameters.length) = some 3 by decide +kernel) hok (by simp only [List.map, zv_cat0, zv_cat1, zv_cat2, List.sum_cons, List.sum_nil]; decide) dX11_size_4 rfl (fun _ h9 => nomatch h9) ?_
  clear h
  intro r4 M4 h
  show rt_Go _ _ _ _ _ _ _ _ _ _ _ _ 7 [(0, zv s0 2 84), (1, zv s0 0 p)] [zv s0 0 r4, zv s0 2 84] (zw s0 ca C S M4)
  refine z_if_ne (tgt := 14) (x' := w32 r4) rfl dX11_size_7 (by decide) (fun c7 => ?_) (fun c7 => ?_)
  · replace h := h.2 c7
    refine z_iconst dX11_size_14 ?_
    exact rt_lfew [0, 1] rfl (zs_X11_size_15 Γ hd hok hs  h)
  · replace h := h.1 c7
    refine z_iconst dX11_size_10 ?_
    refine rt_goto (tgt := 15) dX11_size_11 (by decide) ?_
    exact rt_lfew [0, 1] rfl (zs_X11_size_15 Γ hd hok hs  h)
abbrev zg_X11_letter_14 (l : Launch) (s0 : State) (G : va_G) (ca : Nat → ClassId) (d : Nat) (C : Nat × Nat) (S : zS) (w0 : rt_Wd)  (v1 : Int) (v2 : Int) (k0 : Int) (M : zM) (Q : Int → zM → Prop) (X : zM → Prop) : Prop := rt_Go l s0 G RX11 "letter" cX11_letter 4 (Option.some FieldType.int) [] d w0 (zQ s0 ca 0 C S Q X) 14 [(0, zv s0 2 84), (1, zv s0 0 v1), (2, zv s0 0 v2)] [zv s0 0 k0] (zw s0 ca C S M)
abbrev zg_X11_letter_37 (l : Launch) (s0 : State) (G : va_G) (ca : Nat → ClassId) (d : Nat) (C : Nat × Nat) (S : zS) (w0 : rt_Wd)  (v1 : Int) (v2 : Int) (v3 : Int) (k0 : Int) (k1 : Int) (k2 : Int) (M : zM) (Q : Int → zM → Prop) (X : zM → Prop) : Prop := rt_Go l s0 G RX11 "letter" cX11_letter 4 (Option.some FieldType.int) [] d w0 (zQ s0 ca 0 C S Q X) 37 [(0, zv s0 2 84), (1, zv s0 0 v1), (2, zv s0 0 v2), (3, zv s0 0 v3)] [zv s0 0 k0, zv s0 0 k1, zv s0 0 k2, zv s0 2 84] (zw s0 ca C S M)
abbrev zg_X11_letter_49 (l : Launch) (s0 : State) (G : va_G) (ca : Nat → ClassId) (d : Nat) (C : Nat × Nat) (S : zS) (w0 : rt_Wd)  (v1 : Int) (v2 : Int) (v3 : Int)  (M : zM) (Q : Int → zM → Prop) (X : zM → Prop) : Prop := rt_Go l s0 G RX11 "letter" cX11_letter 4 (Option.some FieldType.int) [] d w0 (zQ s0 ca 0 C S Q X) 49 [(0, zv s0 2 84), (1, zv s0 0 v1), (2, zv s0 0 v2), (3, zv s0 0 v3)] [zv s0 2 84] (zw s0 ca C S M)
abbrev zg_X11_letter_50 (l : Launch) (s0 : State) (G : va_G) (ca : Nat → ClassId) (d : Nat) (C : Nat × Nat) (S : zS) (w0 : rt_Wd)  (v1 : Int) (v2 : Int) (v3 : Int) (k0 : Int) (M : zM) (Q : Int → zM → Prop) (X : zM → Prop) : Prop := rt_Go l s0 G RX11 "letter" cX11_letter 4 (Option.some FieldType.int) [] d w0 (zQ s0 ca 0 C S Q X) 50 [(0, zv s0 2 84), (1, zv s0 0 v1), (2, zv s0 0 v2), (3, zv s0 0 v3)] [zv s0 0 k0, zv s0 2 84] (zw s0 ca C S M)
def zt_X11_letter_50 (l : Launch) (s0 : State) (G : va_G) (ca : Nat → ClassId) (d : Nat) (C : Nat × Nat) (S : zS) (w0 : rt_Wd)  (v1 : Int) (v2 : Int) (v3 : Int) (k0 : Int) (M : zM) (Q : Int → zM → Prop) (X : zM → Prop) : Prop :=
  zm_X11_refused l s0 G ca (d - 1) C S k0 v3 M (fun r51 M51 => zIf (w32 r51 = 0) (zIf (w32 v2 = 0) ((0 ≤ v1 ∧ v1 < 4200) ∧ (Q (zand (M51 132 v1) 255) M51)) ((0 ≤ v1 ∧ v1 < 4200) ∧ (Q (zand (M51 133 v1) 255) M51))) (Q 0 M51)) X
set_option maxRecDepth 100000 in
theorem zs_X11_letter_50 {l : Launch} {s0 : State} {a0 : Array Value} {G : va_G} {ca : Nat → ClassId} (Γ : rt_Γ l s0 a0 G ca) {d : Nat} {C : Nat × Nat} {S : zS} (hd : 1 ≤ d) (hok : zok C)  (hs : zSok S) {w0 : rt_Wd} {v1 : Int} {v2 : Int} {v3 : Int} {k0 : Int}  {M : zM} {Q : Int → zM → Prop} {X : zM → Prop} (h : zt_X11_letter_50 l s0 G ca d C S w0  v1 v2 v3 k0 M Q X) : zg_X11_letter_50 l s0 G ca d C S w0  v1 v2 v3 k0 M Q X := by
  unfold zt_X11_letter_50 at h
  refine z_iload_n dX11_letter_50 rfl (j := 3) rfl ?_
  refine z_callV Γ kk_X11_refused kc_RX11_60 (As := [zv s0 0 k0, zv s0 0 v3]) h (by omega) (by decide) (show (parseMethodDescriptor yX11_refused.desc).map (fun q => q.parameters.length) = some 2 by decide +kernel) hok (Nat.zero_le _) dX11_letter_51 (by decide) (hs 84 _ rfl) rfl rfl (fun _ h9 => nomatch h9) ?_
  clear h
  intro r51 M51 h
  show rt_Go _ _ _ _ _ _ _ _ _ _ _ _ 54 [(0, zv s0 2 84), (1, zv s0 0 v1), (2, zv s0 0 v2), (3, zv s0 0 v3)] [zv s0 0 r51] (zw s0 ca C S M51)
  refine z_if_eq (tgt := 59) (x' := w32 r51) rfl dX11_letter_54 (by decide) (fun c54 => ?_) (fun c54 => ?_)
  · replace h := h.1 c54
    refine z_iload_n dX11_letter_59 rfl (j := 2) rfl ?_
    refine z_if_ne (tgt := 76) (x' := w32 v2) rfl dX11_letter_60 (by decide) (fun c60 => ?_) (fun c60 => ?_)
    · replace h := h.2 c60
      refine z_aload_n dX11_letter_76 rfl (j := 0) rfl ?_
      refine z_getc Γ kf_RX11_41 dX11_letter_77 (by decide) (hs 84 _ rfl) rfl ?_
      refine z_iload_n dX11_letter_80 rfl (j := 1) rfl ?_
      obtain ⟨hi81, h⟩ := h
      refine z_bald Γ dX11_letter_81 (by decide) (hs 133 _ rfl) (by decide) hi81 (v9 := M51 133 v1) rfl ?_
      refine z_sipush dX11_letter_82 (by decide) ?_
      refine z_iand dX11_letter_85 ?_
      exact z_iret dX11_letter_86 rfl h
    · replace h := h.1 c60
      refine z_aload_n dX11_letter_63 rfl (j := 0) rfl ?_
      refine z_getc Γ kf_RX11_35 dX11_letter_64 (by decide) (hs 84 _ rfl) rfl ?_
      refine z_iload_n dX11_letter_67 rfl (j := 1) rfl ?_
      obtain ⟨hi68, h⟩ := h
      refine z_bald Γ dX11_letter_68 (by decide) (hs 132 _ rfl) (by decide) hi68 (v9 := M51 132 v1) rfl ?_
      refine z_sipush dX11_letter_69 (by decide) ?_
      refine z_iand dX11_letter_72 ?_
      refine rt_goto (tgt := 86) dX11_letter_73 (by decide) ?_
      exact z_iret dX11_letter_86 rfl h
  · replace h := h.2 c54
    refine z_iconst dX11_letter_57 ?_
    exact z_iret dX11_letter_58 rfl h
def zt_X11_letter_49 (l : Launch) (s0 : State) (G : va_G) (ca : Nat → ClassId) (d : Nat) (C : Nat × Nat) (S : zS) (w0 : rt_Wd)  (v1 : Int) (v2 : Int) (v3 : Int)  (M : zM) (Q : Int → zM → Prop) (X : zM → Prop) : Prop :=
  zt_X11_letter_50 l s0 G ca d C S w0  v1 v2 v3 0 M Q X
set_option maxRecDepth 100000 in
theorem zs_X11_letter_49 {l : Launch} {s0 : State} {a0 : Array Value} {G : va_G} {ca : Nat → ClassId} (Γ : rt_Γ l s0 a0 G ca) {d : Nat} {C : Nat × Nat} {S : zS} (hd : 1 ≤ d) (hok : zok C)  (hs : zSok S) {w0 : rt_Wd} {v1 : Int} {v2 : Int} {v3 : Int}   {M : zM} {Q : Int → zM → Prop} {X : zM → Prop} (h : zt_X11_letter_49 l s0 G ca d C S w0  v1 v2 v3 M Q X) : zg_X11_letter_49 l s0 G ca d C S w0  v1 v2 v3 M Q X := by
  unfold zt_X11_letter_49 at h
  refine z_iconst dX11_letter_49 ?_
  exact rt_lfew [0, 1, 2, 3] rfl (zs_X11_letter_50 Γ hd hok hs  h)
def zt_X11_letter_37 (l : Launch) (s0 : State) (G : va_G) (ca : Nat → ClassId) (d : Nat) (C : Nat × Nat) (S : zS) (w0 : rt_Wd)  (v1 : Int) (v2 : Int) (v3 : Int) (k0 : Int) (k1 : Int) (k2 : Int) (M : zM) (Q : Int → zM → Prop) (X : zM → Prop) : Prop :=
  zm_X11_within l s0 G ca (d - 1) C S k2 k1 (k0 - 1) M (fun r39 M39 => zIf (w32 r39 = 0) (zt_X11_letter_50 l s0 G ca d C S w0  v1 v2 v3 1 M39 Q X) (zt_X11_letter_49 l s0 G ca d C S w0  v1 v2 v3 M39 Q X)) X
set_option maxRecDepth 100000 in
theorem zs_X11_letter_37 {l : Launch} {s0 : State} {a0 : Array Value} {G : va_G} {ca : Nat → ClassId} (Γ : rt_Γ l s0 a0 G ca) {d : Nat} {C : Nat × Nat} {S : zS} (hd : 1 ≤ d) (hok : zok C)  (hs : zSok S) {w0 : rt_Wd} {v1 : Int} {v2 : Int} {v3 : Int} {k0 : Int} {k1 : Int} {k2 : Int}  {M : zM} {Q : Int → zM → Prop} {X : zM → Prop} (h : zt_X11_letter_37 l s0 G ca d C S w0  v1 v2 v3 k0 k1 k2 M Q X) : zg_X11_letter_37 l s0 G ca d C S w0  v1 v2 v3 k0 k1 k2 M Q X := by
  unfold zt_X11_letter_37 at h
  refine z_iconst dX11_letter_37 ?_
  refine z_isub dX11_letter_38 ?_
  refine z_callS Γ kk_X11_within kc_RX11_68 (As := [zv s0 0 k2, zv s0 0 k1, zv s0 0 (k0 - 1)]) h (by omega) (by decide) (show (parseMethodDescriptor yX11_within.desc).map (fun q => q.parameters.length) = some 3 by decide +kernel) hok (by simp only [List.map, zv_cat0, zv_cat1, zv_cat2, List.sum_cons, List.sum_nil]; decide) dX11_letter_39 rfl (fun _ h9 => nomatch h9) ?_
  clear h
  intro r39 M39 h
  show rt_Go _ _ _ _ _ _ _ _ _ _ _ _ 42 [(0, zv s0 2 84), (1, zv s0 0 v1), (2, zv s0 0 v2), (3, zv s0 0 v3)] [zv s0 0 r39, zv s0 2 84] (zw s0 ca C S M39)
  refine z_if_ne (tgt := 49) (x' := w32 r39) rfl dX11_letter_42 (by decide) (fun c42 => ?_) (fun c42 => ?_)
  · replace h := h.2 c42
    exact rt_lfew [0, 1, 2, 3] rfl (zs_X11_letter_49 Γ hd hok hs  h)
  · replace h := h.1 c42
    refine z_iconst dX11_letter_45 ?_
    refine rt_goto (tgt := 50) dX11_letter_46 (by decide) ?_
    exact rt_lfew [0, 1, 2, 3] rfl (zs_X11_letter_50 Γ hd hok hs  h)
def zt_X11_letter_14 (l : Launch) (s0 : State) (G : va_G) (ca : Nat → ClassId) (d : Nat) (C : Nat × Nat) (S : zS) (w0 : rt_Wd)  (v1 : Int) (v2 : Int) (k0 : Int) (M : zM) (Q : Int → zM → Prop) (X : zM → Prop) : Prop :=
  zIf (w32 k0 = 0) (zIf (w32 v2 = 0) (zt_X11_letter_37 l s0 G ca d C S w0  v1 v2 k0 (M 84 11) 0 v1 M Q X) (zt_X11_letter_37 l s0 G ca d C S w0  v1 v2 k0 (M 84 13) 0 v1 M Q X)) (zt_X11_letter_49 l s0 G ca d C S w0  v1 v2 k0 M Q X)
set_option maxRecDepth 100000 in
theorem zs_X11_letter_14 {l : Launch} {s0 : State} {a0 : Array Value} {G : va_G} {ca : Nat → ClassId} (Γ : rt_Γ l s0 a0 G ca) {d : Nat} {C : Nat × Nat} {S : zS} (hd : 1 ≤ d) (hok : zok C)  (hs : zSok S) {w0 : rt_Wd} {v1 : Int} {v2 : Int} {k0 : Int}  {M : zM} {Q : Int → zM → Prop} {X : zM → Prop} (h : zt_X11_letter_14 l s0 G ca d C S w0  v1 v2 k0 M Q X) : zg_X11_letter_14 l s0 G ca d C S w0  v1 v2 k0 M Q X := by
  unfold zt_X11_letter_14 at h
  refine z_istore_n (i := 3) (lv' := [(3, zv s0 0 k0), (0, zv s0 2 84), (1, zv s0 0 v1), (2, zv s0 0 v2)]) dX11_letter_14 rfl (by decide) (by simp [zv_cat0, zv_cat1, zv_cat2, zv_cats]) ?_
  refine z_aload_n dX11_letter_15 rfl (j := 1) rfl ?_
  refine z_iload_n dX11_letter_16 rfl (j := 0) rfl ?_
  refine z_if_ne (tgt := 49) (x' := w32 k0) rfl dX11_letter_17 (by decide) (fun c17 => ?_) (fun c17 => ?_)
  · replace h := h.2 c17
    exact rt_lfew [1, 2, 3, 0] rfl (zs_X11_letter_49 Γ hd hok hs  h)
  · replace h := h.1 c17
    refine z_iload_n dX11_letter_20 rfl (j := 2) rfl ?_
    refine z_iconst dX11_letter_21 ?_
    refine z_iload_n dX11_letter_22 rfl (j := 3) rfl ?_
    refine z_if_ne (tgt := 33) (x' := w32 v2) rfl dX11_letter_23 (by decide) (fun c23 => ?_) (fun c23 => ?_)
    · replace h := h.2 c23
      refine z_aload_n dX11_letter_33 rfl (j := 1) rfl ?_
      refine z_get Γ kf_RX11_198 dX11_letter_34 (by decide) (hs 84 _ rfl) rfl (by decide) (v9 := M 84 13) rfl ?_
      exact rt_lfew [1, 2, 3, 0] rfl (zs_X11_letter_37 Γ hd hok hs  h)
    · replace h := h.1 c23
      refine z_aload_n dX11_letter_26 rfl (j := 1) rfl ?_
      refine z_get Γ kf_RX11_84 dX11_letter_27 (by decide) (hs 84 _ rfl) rfl (by decide) (v9 := M 84 11) rfl ?_
      refine rt_goto (tgt := 37) dX11_letter_30 (by decide) ?_
      exact rt_lfew [1, 2, 3, 0] rfl (zs_X11_letter_37 Γ hd hok hs  h)
def zt_X11_letter (l : Launch) (s0 : State) (G : va_G) (ca : Nat → ClassId) (d : Nat) (C : Nat × Nat) (S : zS) (w0 : rt_Wd)  (i : Int) (w : Int) (M : zM) (Q : Int → zM → Prop) (X : zM → Prop) : Prop :=
  zm_X11_within l s0 G ca (d - 1) C S w 0 1 M (fun r3 M3 => zIf (w32 r3 = 0) (zt_X11_letter_14 l s0 G ca d C S w0  i w 1 M3 Q X) (zt_X11_letter_14 l s0 G ca d C S w0  i w 0 M3 Q X)) X
set_option maxRecDepth 100000 in
theorem z_X11_letter {l : Launch} {s0 : State} {a0 : Array Value} {G : va_G} {ca : Nat → ClassId} (Γ : rt_Γ l s0 a0 G ca) {d : Nat} {C : Nat × Nat} {S : zS} (hd : 1 ≤ d) (hok : zok C)  (hs : zSok S) {i : Int} {w : Int} {M : zM} {Q : Int → zM → Prop} {X : zM → Prop} (h : zt_X11_letter l s0 G ca d C S (zw s0 ca C S M)  i w M Q X) : zm_X11_letter l s0 G ca d C S  i w M Q X := by
  refine z_met (lv := [(0, zv s0 2 84), (1, zv s0 0 i), (2, zv s0 0 w)]) Γ kk_X11_letter rfl (show (lg_sl [zv s0 2 84, zv s0 0 i, zv s0 0 w]).length ≤ 4 from by simp only [zn_0, zn_2, show (lg_sl []).length = 0 from rfl]; omega) (show lv_args 0 [zv s0 2 84, zv s0 0 i, zv s0 0 w] = [(0, zv s0 2 84), (1, zv s0 0 i), (2, zv s0 0 w)] from by rw [zl_2, zl_0, zl_0]; rfl) ?_
  unfold zt_X11_letter at h
  refine z_iload_n dX11_letter_0 rfl (j := 2) rfl ?_
  refine z_iconst dX11_letter_1 ?_
  refine z_iconst dX11_letter_2 ?_
  refine z_callS Γ kk_X11_within kc_RX11_68 (As := [zv s0 0 w, zv s0 0 0, zv s0 0 1]) h (by omega) (by decide) (show (parseMethodDescriptor yX11_within.desc).map (fun q => q.parameters.length) = some 3 by decide +kernel) hok (Nat.zero_le _) dX11_letter_3 rfl (fun _ h9 => nomatch h9) ?_
  clear h
  intro r3 M3 h
  show rt_Go _ _ _ _ _ _ _ _ _ _ _ _ 6 [(0, zv s0 2 84), (1, zv s0 0 i), (2, zv s0 0 w)] [zv s0 0 r3] (zw s0 ca C S M3)
  refine z_if_ne (tgt := 13) (x' := w32 r3) rfl dX11_letter_6 (by decide) (fun c6 => ?_) (fun c6 => ?_)
  · replace h := h.2 c6
    refine z_iconst dX11_letter_13 ?_
    exact rt_lfew [0, 1, 2] rfl (zs_X11_letter_14 Γ hd hok hs  h)
  · replace h := h.1 c6
    refine z_iconst dX11_letter_9 ?_
    refine rt_goto (tgt := 14) dX11_letter_10 (by decide) ?_
    exact rt_lfew [0, 1, 2] rfl (zs_X11_letter_14 Γ hd hok hs  h)
