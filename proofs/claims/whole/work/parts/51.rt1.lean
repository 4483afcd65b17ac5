/-! ===== trees: RT1 ===== -/
def zt_X10_fail (l : Launch) (s0 : State) (G : va_G) (ca : Nat → ClassId) (d : Nat) (C : Nat × Nat) (S : zS) (w0 : rt_Wd) (t : Int) (c : Int) (w : Int) (M : zM) (Q : Int → zM → Prop) (X : zM → Prop) : Prop :=
  X ((zu ((zu M t 4 c)) t 5 w))
set_option maxRecDepth 100000 in
theorem z_X10_fail {l : Launch} {s0 : State} {a0 : Array Value} {G : va_G} {ca : Nat → ClassId} (Γ : rt_Γ l s0 a0 G ca) {d : Nat} {C : Nat × Nat} {S : zS} (hok : zok C) {t : Int} (ht : zTx S t) {c : Int} {w : Int} {M : zM} {Q : Int → zM → Prop} {X : zM → Prop} (h : zt_X10_fail l s0 G ca d C S (zw s0 ca C S M) t c w M Q X) : zm_X10_fail l s0 G ca d C S t c w M Q X := by
  refine z_met (lv := [(0, zv s0 2 t), (1, zv s0 0 c), (2, zv s0 0 w)]) Γ kk_X10_fail rfl (show (lg_sl [zv s0 2 t, zv s0 0 c, zv s0 0 w]).length ≤ 3 from by simp only [zn_0, zn_2, show (lg_sl []).length = 0 from rfl]; omega) (show lv_args 0 [zv s0 2 t, zv s0 0 c, zv s0 0 w] = [(0, zv s0 2 t), (1, zv s0 0 c), (2, zv s0 0 w)] from by rw [zl_2, zl_0, zl_0]; rfl) ?_
  unfold zt_X10_fail at h
  refine z_aload_n dX10_fail_0 rfl (j := 0) rfl ?_
  refine z_iload_n dX10_fail_1 rfl (j := 1) rfl ?_
  refine z_put0 Γ kp_RX10_78 dX10_fail_2 ht.1 ht.2.1 rfl (k9 := 4) rfl ?_
  refine z_aload_n dX10_fail_5 rfl (j := 0) rfl ?_
  refine z_iload_n dX10_fail_6 rfl (j := 2) rfl ?_
  refine z_put0 Γ kp_RX10_82 dX10_fail_7 ht.1 ht.2.1 rfl (k9 := 5) rfl ?_
  obtain ⟨qs, hqa, hqb⟩ := ks_RX10_87 Γ
  exact z_throwS Γ kt_10s hqa dX10_fail_10 dX10_fail_13 dX10_fail_14 dX10_fail_16 dX10_fail_19 (by decide) (Nat.zero_le _) hok h

def zt_X10_need (l : Launch) (s0 : State) (G : va_G) (ca : Nat → ClassId) (d : Nat) (C : Nat × Nat) (S : zS) (w0 : rt_Wd) (t : Int) (g : Int) (c : Int) (w : Int) (M : zM) (Q : Int → zM → Prop) (X : zM → Prop) : Prop :=
  zIf (w32 g = 0) (zm_X10_fail l s0 G ca (d - 1) C S t c w M (fun r7 M7 => Q 0 M7) X) (Q 0 M)
set_option maxRecDepth 100000 in
theorem z_X10_need {l : Launch} {s0 : State} {a0 : Array Value} {G : va_G} {ca : Nat → ClassId} (Γ : rt_Γ l s0 a0 G ca) {d : Nat} {C : Nat × Nat} {S : zS} (hd : 1 ≤ d) (hok : zok C) {t : Int} (ht : zTx S t) {g : Int} {c : Int} {w : Int} {M : zM} {Q : Int → zM → Prop} {X : zM → Prop} (h : zt_X10_need l s0 G ca d C S (zw s0 ca C S M) t g c w M Q X) : zm_X10_need l s0 G ca d C S t g c w M Q X := by
  refine z_met (lv := [(0, zv s0 2 t), (1, zv s0 0 g), (2, zv s0 0 c), (3, zv s0 0 w)]) Γ kk_X10_need rfl (show (lg_sl [zv s0 2 t, zv s0 0 g, zv s0 0 c, zv s0 0 w]).length ≤ 4 from by simp only [zn_0, zn_2, show (lg_sl []).length = 0 from rfl]; omega) (show lv_args 0 [zv s0 2 t, zv s0 0 g, zv s0 0 c, zv s0 0 w] = [(0, zv s0 2 t), (1, zv s0 0 g), (2, zv s0 0 c), (3, zv s0 0 w)] from by rw [zl_2, zl_0, zl_0, zl_0]; rfl) ?_
  unfold zt_X10_need at h
  refine z_iload_n dX10_need_0 rfl (j := 1) rfl ?_
  refine z_if_ne (tgt := 10) (x' := w32 g) rfl dX10_need_1 (by decide) (fun c1 => ?_) (fun c1 => ?_)
  · replace h := h.2 c1
    exact z_vret dX10_need_10 rfl h
  · replace h := h.1 c1
    refine z_aload_n dX10_need_4 rfl (j := 0) rfl ?_
    refine z_iload_n dX10_need_5 rfl (j := 2) rfl ?_
    refine z_iload_n dX10_need_6 rfl (j := 3) rfl ?_
    refine z_callV Γ kk_X10_fail kc_RX10_91 (As := [zv s0 0 c, zv s0 0 w]) h (by omega) (by decide) (show (parseMethodDescriptor yX10_fail.desc).map (fun q => q.parameters.length) = some 2 by decide +kernel) hok (Nat.zero_le _) dX10_need_7 ht.1 ht.2.1 rfl rfl (fun _ h9 => nomatch h9) ?_
    clear h
    intro r7 M7 h
    show rt_Go _ _ _ _ _ _ _ _ _ _ _ _ 10 [(0, zv s0 2 t), (1, zv s0 0 g), (2, zv s0 0 c), (3, zv s0 0 w)] [] (zw s0 ca C S M7)
    exact z_vret dX10_need_10 rfl h

def zt_X10_look (l : Launch) (s0 : State) (G : va_G) (ca : Nat → ClassId) (d : Nat) (C : Nat × Nat) (S : zS) (w0 : rt_Wd) (t : Int)  (M : zM) (Q : Int → zM → Prop) (X : zM → Prop) : Prop :=
  zIf (w32 (M t 1) ≤ w32 (M t 2)) (Q ((-1)) M) ((0 ≤ M t 2 ∧ M t 2 < 4096) ∧ (Q (M (t + 1) (M t 2)) M))
set_option maxRecDepth 100000 in
theorem z_X10_look {l : Launch} {s0 : State} {a0 : Array Value} {G : va_G} {ca : Nat → ClassId} (Γ : rt_Γ l s0 a0 G ca) {d : Nat} {C : Nat × Nat} {S : zS} (hok : zok C) {t : Int} (ht : zTx S t)  {M : zM} {Q : Int → zM → Prop} {X : zM → Prop} (h : zt_X10_look l s0 G ca d C S (zw s0 ca C S M) t  M Q X) : zm_X10_look l s0 G ca d C S t  M Q X := by
  refine z_met (lv := [(0, zv s0 2 t)]) Γ kk_X10_look rfl (show (lg_sl [zv s0 2 t]).length ≤ 1 from by simp only [zn_2, show (lg_sl []).length = 0 from rfl]; omega) (show lv_args 0 [zv s0 2 t] = [(0, zv s0 2 t)] from by rw [zl_2]; rfl) ?_
  unfold zt_X10_look at h
  refine z_aload_n dX10_look_0 rfl (j := 0) rfl ?_
  refine z_get Γ kf_RX10_95 dX10_look_1 ht.1 ht.2.1 rfl (by decide) (v9 := M t 2) rfl ?_
  refine z_aload_n dX10_look_4 rfl (j := 0) rfl ?_
  refine z_get Γ kf_RX10_98 dX10_look_5 ht.1 ht.2.1 rfl (by decide) (v9 := M t 1) rfl ?_
  refine z_icmp_ge (tgt := 23) (x' := w32 (M t 2)) (y' := w32 (M t 1)) rfl rfl dX10_look_8 (by decide) (fun c8 => ?_) (fun c8 => ?_)
  · replace h := h.1 c8
    refine z_iconst dX10_look_23 ?_
    exact z_iret dX10_look_24 rfl h
  · replace h := h.2 c8
    refine z_aload_n dX10_look_11 rfl (j := 0) rfl ?_
    refine z_getc Γ kf_RX10_9 dX10_look_12 ht.1 ht.2.1 rfl ?_
    refine z_aload_n dX10_look_15 rfl (j := 0) rfl ?_
    refine z_get Γ kf_RX10_95 dX10_look_16 ht.1 ht.2.1 rfl (by decide) (v9 := M t 2) rfl ?_
    obtain ⟨hi19, h⟩ := h
    refine z_bald Γ dX10_look_19 (by have := ht.1; omega) ht.2.2.1 (by decide) hi19 (v9 := M (t + 1) (M t 2)) rfl ?_
    refine rt_goto (tgt := 24) dX10_look_20 (by decide) ?_
    exact z_iret dX10_look_24 rfl h

abbrev zg_X10_blanks_0 (l : Launch) (s0 : State) (G : va_G) (ca : Nat → ClassId) (d : Nat) (C : Nat × Nat) (S : zS) (w0 : rt_Wd) (t : Int)   (M : zM) (Q : Int → zM → Prop) (X : zM → Prop) : Prop := rt_Go l s0 G RX10 "blanks" cX10_blanks 1 (Option.none : Option FieldType) [] d w0 (zQ s0 ca 9 C S Q X) 0 [(0, zv s0 2 t)] [] (zw s0 ca C S M)
abbrev zg_X10_blanks_36 (l : Launch) (s0 : State) (G : va_G) (ca : Nat → ClassId) (d : Nat) (C : Nat × Nat) (S : zS) (w0 : rt_Wd) (t : Int)   (M : zM) (Q : Int → zM → Prop) (X : zM → Prop) : Prop := rt_Go l s0 G RX10 "blanks" cX10_blanks 1 (Option.none : Option FieldType) [] d w0 (zQ s0 ca 9 C S Q X) 36 [(0, zv s0 2 t)] [] (zw s0 ca C S M)
def zt_X10_blanks_36 (l : Launch) (s0 : State) (G : va_G) (ca : Nat → ClassId) (d : Nat) (C : Nat × Nat) (S : zS) (w0 : rt_Wd) (t : Int)   (M : zM) (Q : Int → zM → Prop) (X : zM → Prop) : Prop :=
  zg_X10_blanks_0 l s0 G ca d C S w0 t  ((zu M t 2 ((M t 2) + 1))) Q X
set_option maxRecDepth 100000 in
theorem zs_X10_blanks_36 {l : Launch} {s0 : State} {a0 : Array Value} {G : va_G} {ca : Nat → ClassId} (Γ : rt_Γ l s0 a0 G ca) {d : Nat} {C : Nat × Nat} {S : zS} (hd : 1 ≤ d) (hok : zok C) {t : Int} (ht : zTx S t) {w0 : rt_Wd}    {M : zM} {Q : Int → zM → Prop} {X : zM → Prop} (h : zt_X10_blanks_36 l s0 G ca d C S w0 t  M Q X) : zg_X10_blanks_36 l s0 G ca d C S w0 t  M Q X := by
  unfold zt_X10_blanks_36 at h
  refine z_aload_n dX10_blanks_36 rfl (j := 0) rfl ?_
  refine z_dup2 dX10_blanks_37 ?_
  refine z_get Γ kf_RX10_95 dX10_blanks_38 ht.1 ht.2.1 rfl (by decide) (v9 := M t 2) rfl ?_
  refine z_iconst dX10_blanks_41 ?_
  refine z_iadd dX10_blanks_42 ?_
  refine z_put0 Γ kp_RX10_95 dX10_blanks_43 ht.1 ht.2.1 rfl (k9 := 2) rfl ?_
  refine rt_goto (tgt := 0) dX10_blanks_46 (by decide) ?_
  exact rt_lfew [0] rfl h

def zt_X10_blanks_0 (l : Launch) (s0 : State) (G : va_G) (ca : Nat → ClassId) (d : Nat) (C : Nat × Nat) (S : zS) (w0 : rt_Wd) (t : Int)   (M : zM) (Q : Int → zM → Prop) (X : zM → Prop) : Prop :=
  zm_X10_look l s0 G ca (d - 1) C S t  M (fun r1 M1 => zIf (w32 r1 = 32) (zt_X10_blanks_36 l s0 G ca d C S w0 t  M1 Q X) (zm_X10_look l s0 G ca (d - 1) C S t  M1 (fun r10 M10 => zIf (w32 r10 = 9) (zt_X10_blanks_36 l s0 G ca d C S w0 t  M10 Q X) (zm_X10_look l s0 G ca (d - 1) C S t  M10 (fun r19 M19 => zIf (w32 r19 = 10) (zt_X10_blanks_36 l s0 G ca d C S w0 t  M19 Q X) (zm_X10_look l s0 G ca (d - 1) C S t  M19 (fun r28 M28 => zIf (w32 r28 = 13) (zt_X10_blanks_36 l s0 G ca d C S w0 t  M28 Q X) (Q 0 M28)) X)) X)) X)) X
set_option maxRecDepth 100000 in
theorem zs_X10_blanks_0 {l : Launch} {s0 : State} {a0 : Array Value} {G : va_G} {ca : Nat → ClassId} (Γ : rt_Γ l s0 a0 G ca) {d : Nat} {C : Nat × Nat} {S : zS} (hd : 1 ≤ d) (hok : zok C) {t : Int} (ht : zTx S t) {w0 : rt_Wd}    {M : zM} {Q : Int → zM → Prop} {X : zM → Prop} (h : zt_X10_blanks_0 l s0 G ca d C S w0 t  M Q X) : zg_X10_blanks_0 l s0 G ca d C S w0 t  M Q X := by
  unfold zt_X10_blanks_0 at h
  refine z_aload_n dX10_blanks_0 rfl (j := 0) rfl ?_
  refine z_callV Γ kk_X10_look kc_RX10_101 (As := []) h (by omega) (by decide) (show (parseMethodDescriptor yX10_look.desc).map (fun q => q.parameters.length) = some 0 by decide +kernel) hok (Nat.zero_le _) dX10_blanks_1 ht.1 ht.2.1 rfl rfl (fun _ h9 => nomatch h9) ?_
  clear h
  intro r1 M1 h
  show rt_Go _ _ _ _ _ _ _ _ _ _ _ _ 4 [(0, zv s0 2 t)] [zv s0 0 r1] (zw s0 ca C S M1)
  refine z_bipush dX10_blanks_4 (by decide) ?_
  refine z_icmp_eq (tgt := 36) (x' := w32 r1) (y' := 32) rfl (by decide) dX10_blanks_6 (by decide) (fun c6 => ?_) (fun c6 => ?_)
  · replace h := h.1 c6
    exact rt_lfew [0] rfl (zs_X10_blanks_36 Γ hd hok ht  h)
  · replace h := h.2 c6
    refine z_aload_n dX10_blanks_9 rfl (j := 0) rfl ?_
    refine z_callV Γ kk_X10_look kc_RX10_101 (As := []) h (by omega) (by decide) (show (parseMethodDescriptor yX10_look.desc).map (fun q => q.parameters.length) = some 0 by decide +kernel) hok (Nat.zero_le _) dX10_blanks_10 ht.1 ht.2.1 rfl rfl (fun _ h9 => nomatch h9) ?_
    clear h
    intro r10 M10 h
    show rt_Go _ _ _ _ _ _ _ _ _ _ _ _ 13 [(0, zv s0 2 t)] [zv s0 0 r10] (zw s0 ca C S M10)
    refine z_bipush dX10_blanks_13 (by decide) ?_
    refine z_icmp_eq (tgt := 36) (x' := w32 r10) (y' := 9) rfl (by decide) dX10_blanks_15 (by decide) (fun c15 => ?_) (fun c15 => ?_)
    · replace h := h.1 c15
      exact rt_lfew [0] rfl (zs_X10_blanks_36 Γ hd hok ht  h)
    · replace h := h.2 c15
      refine z_aload_n dX10_blanks_18 rfl (j := 0) rfl ?_
      refine z_callV Γ kk_X10_look kc_RX10_101 (As := []) h (by omega) (by decide) (show (parseMethodDescriptor yX10_look.desc).map (fun q => q.parameters.length) = some 0 by decide +kernel) hok (Nat.zero_le _) dX10_blanks_19 ht.1 ht.2.1 rfl rfl (fun _ h9 => nomatch h9) ?_
      clear h
      intro r19 M19 h
      show rt_Go _ _ _ _ _ _ _ _ _ _ _ _ 22 [(0, zv s0 2 t)] [zv s0 0 r19] (zw s0 ca C S M19)
      refine z_bipush dX10_blanks_22 (by decide) ?_
      refine z_icmp_eq (tgt := 36) (x' := w32 r19) (y' := 10) rfl (by decide) dX10_blanks_24 (by decide) (fun c24 => ?_) (fun c24 => ?_)
      · replace h := h.1 c24
        exact rt_lfew [0] rfl (zs_X10_blanks_36 Γ hd hok ht  h)
      · replace h := h.2 c24
        refine z_aload_n dX10_blanks_27 rfl (j := 0) rfl ?_
        refine z_callV Γ kk_X10_look kc_RX10_101 (As := []) h (by omega) (by decide) (show (parseMethodDescriptor yX10_look.desc).map (fun q => q.parameters.length) = some 0 by decide +kernel) hok (Nat.zero_le _) dX10_blanks_28 ht.1 ht.2.1 rfl rfl (fun _ h9 => nomatch h9) ?_
        clear h
        intro r28 M28 h
        show rt_Go _ _ _ _ _ _ _ _ _ _ _ _ 31 [(0, zv s0 2 t)] [zv s0 0 r28] (zw s0 ca C S M28)
        refine z_bipush dX10_blanks_31 (by decide) ?_
        refine z_icmp_ne (tgt := 49) (x' := w32 r28) (y' := 13) rfl (by decide) dX10_blanks_33 (by decide) (fun c33 => ?_) (fun c33 => ?_)
        · replace h := h.2 c33
          exact z_vret dX10_blanks_49 rfl h
        · replace h := h.1 c33
          exact rt_lfew [0] rfl (zs_X10_blanks_36 Γ hd hok ht  h)

def zt_X10_blanks (l : Launch) (s0 : State) (G : va_G) (ca : Nat → ClassId) (d : Nat) (C : Nat × Nat) (S : zS) (w0 : rt_Wd) (t : Int)  (M : zM) (Q : Int → zM → Prop) (X : zM → Prop) : Prop :=
  zm_X10_look l s0 G ca (d - 1) C S t  M (fun r1 M1 => zIf (w32 r1 = 32) (zt_X10_blanks_36 l s0 G ca d C S w0 t  M1 Q X) (zm_X10_look l s0 G ca (d - 1) C S t  M1 (fun r10 M10 => zIf (w32 r10 = 9) (zt_X10_blanks_36 l s0 G ca d C S w0 t  M10 Q X) (zm_X10_look l s0 G ca (d - 1) C S t  M10 (fun r19 M19 => zIf (w32 r19 = 10) (zt_X10_blanks_36 l s0 G ca d C S w0 t  M19 Q X) (zm_X10_look l s0 G ca (d - 1) C S t  M19 (fun r28 M28 => zIf (w32 r28 = 13) (zt_X10_blanks_36 l s0 G ca d C S w0 t  M28 Q X) (Q 0 M28)) X)) X)) X)) X
set_option maxRecDepth 100000 in
theorem z_X10_blanks {l : Launch} {s0 : State} {a0 : Array Value} {G : va_G} {ca : Nat → ClassId} (Γ : rt_Γ l s0 a0 G ca) {d : Nat} {C : Nat × Nat} {S : zS} (hd : 1 ≤ d) (hok : zok C) {t : Int} (ht : zTx S t)  {M : zM} {Q : Int → zM → Prop} {X : zM → Prop} (h : zt_X10_blanks l s0 G ca d C S (zw s0 ca C S M) t  M Q X) : zm_X10_blanks l s0 G ca d C S t  M Q X := by
  refine z_met (lv := [(0, zv s0 2 t)]) Γ kk_X10_blanks rfl (show (lg_sl [zv s0 2 t]).length ≤ 1 from by simp only [zn_2, show (lg_sl []).length = 0 from rfl]; omega) (show lv_args 0 [zv s0 2 t] = [(0, zv s0 2 t)] from by rw [zl_2]; rfl) ?_
  unfold zt_X10_blanks at h
  refine z_aload_n dX10_blanks_0 rfl (j := 0) rfl ?_
  refine z_callV Γ kk_X10_look kc_RX10_101 (As := []) h (by omega) (by decide) (show (parseMethodDescriptor yX10_look.desc).map (fun q => q.parameters.length) = some 0 by decide +kernel) hok (Nat.zero_le _) dX10_blanks_1 ht.1 ht.2.1 rfl rfl (fun _ h9 => nomatch h9) ?_
  clear h
  intro r1 M1 h
  show rt_Go _ _ _ _ _ _ _ _ _ _ _ _ 4 [(0, zv s0 2 t)] [zv s0 0 r1] (zw s0 ca C S M1)
  refine z_bipush dX10_blanks_4 (by decide) ?_
  refine z_icmp_eq (tgt := 36) (x' := w32 r1) (y' := 32) rfl (by decide) dX10_blanks_6 (by decide) (fun c6 => ?_) (fun c6 => ?_)
  · replace h := h.1 c6
    exact rt_lfew [0] rfl (zs_X10_blanks_36 Γ hd hok ht  h)
  · replace h := h.2 c6
    refine z_aload_n dX10_blanks_9 rfl (j := 0) rfl ?_
    refine z_callV Γ kk_X10_look kc_RX10_101 (As := []) h (by omega) (by decide) (show (parseMethodDescriptor yX10_look.desc).map (fun q => q.parameters.length) = some 0 by decide +kernel) hok (Nat.zero_le _) dX10_blanks_10 ht.1 ht.2.1 rfl rfl (fun _ h9 => nomatch h9) ?_
    clear h
    intro r10 M10 h
    show rt_Go _ _ _ _ _ _ _ _ _ _ _ _ 13 [(0, zv s0 2 t)] [zv s0 0 r10] (zw s0 ca C S M10)
    refine z_bipush dX10_blanks_13 (by decide) ?_
    refine z_icmp_eq (tgt := 36) (x' := w32 r10) (y' := 9) rfl (by decide) dX10_blanks_15 (by decide) (fun c15 => ?_) (fun c15 => ?_)
    · replace h := h.1 c15
      exact rt_lfew [0] rfl (zs_X10_blanks_36 Γ hd hok ht  h)
    · replace h := h.2 c15
      refine z_aload_n dX10_blanks_18 rfl (j := 0) rfl ?_
      refine z_callV Γ kk_X10_look kc_RX10_101 (As := []) h (by omega) (by decide) (show (parseMethodDescriptor yX10_look.desc).map (fun q => q.parameters.length) = some 0 by decide +kernel) hok (Nat.zero_le _) dX10_blanks_19 ht.1 ht.2.1 rfl rfl (fun _ h9 => nomatch h9) ?_
      clear h
      intro r19 M19 h
      show rt_Go _ _ _ _ _ _ _ _ _ _ _ _ 22 [(0, zv s0 2 t)] [zv s0 0 r19] (zw s0 ca C S M19)
      refine z_bipush dX10_blanks_22 (by decide) ?_
      refine z_icmp_eq (tgt := 36) (x' := w32 r19) (y' := 10) rfl (by decide) dX10_blanks_24 (by decide) (fun c24 => ?_) (fun c24 => ?_)
      · replace h := h.1 c24
        exact rt_lfew [0] rfl (zs_X10_blanks_36 Γ hd hok ht  h)
      · replace h := h.2 c24
        refine z_aload_n dX10_blanks_27 rfl (j := 0) rfl ?_
        refine z_callV Γ kk_X10_look kc_RX10_101 (As := []) h (by omega) (by decide) (show (parseMethodDescriptor yX10_look.desc).map (fun q => q.parameters.length) = some 0 by decide +kernel) hok (Nat.zero_le _) dX10_blanks_28 ht.1 ht.2.1 rfl rfl (fun _ h9 => nomatch h9) ?_
        clear h
        intro r28 M28 h
        show rt_Go _ _ _ _ _ _ _ _ _ _ _ _ 31 [(0, zv s0 2 t)] [zv s0 0 r28] (zw s0 ca C S M28)
        refine z_bipush dX10_blanks_31 (by decide) ?_
        refine z_icmp_ne (tgt := 49) (x' := w32 r28) (y' := 13) rfl (by decide) dX10_blanks_33 (by decide) (fun c33 => ?_) (fun c33 => ?_)
        · replace h := h.2 c33
          exact z_vret dX10_blanks_49 rfl h
        · replace h := h.1 c33
          exact rt_lfew [0] rfl (zs_X10_blanks_36 Γ hd hok ht  h)

abbrev zg_X10_take_14 (l : Launch) (s0 : State) (G : va_G) (ca : Nat → ClassId) (d : Nat) (C : Nat × Nat) (S : zS) (w0 : rt_Wd) (t : Int)  (k0 : Int) (M : zM) (Q : Int → zM → Prop) (X : zM → Prop) : Prop := rt_Go l s0 G RX10 "take" cX10_take 2 (Option.none : Option FieldType) [] d w0 (zQ s0 ca 9 C S Q X) 14 [(0, zv s0 2 t)] [zv s0 0 k0, zv s0 2 t] (zw s0 ca C S M)
def zt_X10_take_14 (l : Launch) (s0 : State) (G : va_G) (ca : Nat → ClassId) (d : Nat) (C : Nat × Nat) (S : zS) (w0 : rt_Wd) (t : Int)  (k0 : Int) (M : zM) (Q : Int → zM → Prop) (X : zM → Prop) : Prop :=
  zm_X10_need l s0 G ca (d - 1) C S t k0 1 (M t 2) M (fun r19 M19 => Q 0 ((zu M19 t 2 ((M19 t 2) + 1)))) X
set_option maxRecDepth 100000 in
theorem zs_X10_take_14 {l : Launch} {s0 : State} {a0 : Array Value} {G : va_G} {ca : Nat → ClassId} (Γ : rt_Γ l s0 a0 G ca) {d : Nat} {C : Nat × Nat} {S : zS} (hd : 1 ≤ d) (hok : zok C) {t : Int} (ht : zTx S t) {w0 : rt_Wd}  {k0 : Int}  {M : zM} {Q : Int → zM → Prop} {X : zM → Prop} (h : zt_X10_take_14 l s0 G ca d C S w0 t k0 M Q X) : zg_X10_take_14 l s0 G ca d C S w0 t k0 M Q X := by
  unfold zt_X10_take_14 at h
  refine z_iconst dX10_take_14 ?_
  refine z_aload_n dX10_take_15 rfl (j := 0) rfl ?_
  refine z_get Γ kf_RX10_95 dX10_take_16 ht.1 ht.2.1 rfl (by decide) (v9 := M t 2) rfl ?_
  refine z_callV Γ kk_X10_need kc_RX10_105 (As := [zv s0 0 k0, zv s0 0 1, zv s0 0 (M t 2)]) h (by omega) (by decide) (show (parseMethodDescriptor yX10_need.desc).map (fun q => q.parameters.length) = some 3 by decide +kernel) hok (Nat.zero_le _) dX10_take_19 ht.1 ht.2.1 rfl rfl (fun _ h9 => nomatch h9) ?_
  clear h
  intro r19 M19 h
  show rt_Go _ _ _ _ _ _ _ _ _ _ _ _ 22 [(0, zv s0 2 t)] [] (zw s0 ca C S M19)
  refine z_aload_n dX10_take_22 rfl (j := 0) rfl ?_
  refine z_dup2 dX10_take_23 ?_
  refine z_get Γ kf_RX10_95 dX10_take_24 ht.1 ht.2.1 rfl (by decide) (v9 := M19 t 2) rfl ?_
  refine z_iconst dX10_take_27 ?_
  refine z_iadd dX10_take_28 ?_
  refine z_put0 Γ kp_RX10_95 dX10_take_29 ht.1 ht.2.1 rfl (k9 := 2) rfl ?_
  exact z_vret dX10_take_32 rfl h

def zt_X10_take (l : Launch) (s0 : State) (G : va_G) (ca : Nat → ClassId) (d : Nat) (C : Nat × Nat) (S : zS) (w0 : rt_Wd) (t : Int) (c : Int) (M : zM) (Q : Int → zM → Prop) (X : zM → Prop) : Prop :=
  zm_X10_look l s0 G ca (d - 1) C S t  M (fun r2 M2 => zIf (w32 r2 = w32 c) (zt_X10_take_14 l s0 G ca d C S w0 t 1 M2 Q X) (zt_X10_take_14 l s0 G ca d C S w0 t 0 M2 Q X)) X
set_option maxRecDepth 100000 in
theorem z_X10_take {l : Launch} {s0 : State} {a0 : Array Value} {G : va_G} {ca : Nat → ClassId} (Γ : rt_Γ l s0 a0 G ca) {d : Nat} {C : Nat × Nat} {S : zS} (hd : 1 ≤ d) (hok : zok C) {t : Int} (ht : zTx S t) {c : Int} {M : zM} {Q : Int → zM → Prop} {X : zM → Prop} (h : zt_X10_take l s0 G ca d C S (zw s0 ca C S M) t c M Q X) : zm_X10_take l s0 G ca d C S t c M Q X := by
  refine z_met (lv := [(0, zv s0 2 t), (1, zv s0 0 c)]) Γ kk_X10_take rfl (show (lg_sl [zv s0 2 t, zv s0 0 c]).length ≤ 2 from by simp only [zn_0, zn_2, show (lg_sl []).length = 0 from rfl]; omega) (show lv_args 0 [zv s0 2 t, zv s0 0 c] = [(0, zv s0 2 t), (1, zv s0 0 c)] from by rw [zl_2, zl_0]; rfl) ?_
  unfold zt_X10_take at h
  refine z_aload_n dX10_take_0 rfl (j := 0) rfl ?_
  refine z_aload_n dX10_take_1 rfl (j := 0) rfl ?_
  refine z_callV Γ kk_X10_look kc_RX10_101 (As := []) h (by omega) (by decide) (show (parseMethodDescriptor yX10_look.desc).map (fun q => q.parameters.length) = some 0 by decide +kernel) hok (by simp only [List.map, zv_cat0, zv_cat1, zv_cat2, List.sum_cons, List.sum_nil]; decide) dX10_take_2 ht.1 ht.2.1 rfl rfl (fun _ h9 => nomatch h9) ?_
  clear h
  intro r2 M2 h
  show rt_Go _ _ _ _ _ _ _ _ _ _ _ _ 5 [(0, zv s0 2 t), (1, zv s0 0 c)] [zv s0 0 r2, zv s0 2 t] (zw s0 ca C S M2)
  refine z_iload_n dX10_take_5 rfl (j := 1) rfl ?_
  refine z_icmp_ne (tgt := 13) (x' := w32 r2) (y' := w32 c) rfl rfl dX10_take_6 (by decide) (fun c6 => ?_) (fun c6 => ?_)
  · replace h := h.2 c6
    refine z_iconst dX10_take_13 ?_
    exact rt_lfew [0] rfl (zs_X10_take_14 Γ hd hok ht  h)
  · replace h := h.1 c6
    refine z_iconst dX10_take_9 ?_
    refine rt_goto (tgt := 14) dX10_take_10 (by decide) ?_
    exact rt_lfew [0] rfl (zs_X10_take_14 Γ hd hok ht  h)

def zt_X10_node (l : Launch) (s0 : State) (G : va_G) (ca : Nat → ClassId) (d : Nat) (C : Nat × Nat) (S : zS) (w0 : rt_Wd) (t : Int) (k : Int) (M : zM) (Q : Int → zM → Prop) (X : zM → Prop) : Prop :=
  (0 ≤ M t 7 ∧ M t 7 < 4200) ∧ (Q (((M t 7) + 1) - 1) ((zu ((zu ((zu ((zu ((zu ((zu ((zu M (t + 2) (M t 7) k)) (t + 3) (M t 7) (M t 2))) (t + 4) (M t 7) 0)) (t + 5) (M t 7) 0)) (t + 6) (M t 7) ((-1)))) (t + 7) (M t 7) ((-1)))) t 7 ((M t 7) + 1))))
set_option maxRecDepth 100000 in
theorem z_X10_node {l : Launch} {s0 : State} {a0 : Array Value} {G : va_G} {ca : Nat → ClassId} (Γ : rt_Γ l s0 a0 G ca) {d : Nat} {C : Nat × Nat} {S : zS} (hok : zok C) {t : Int} (ht : zTx S t) {k : Int} {M : zM} {Q : Int → zM → Prop} {X : zM → Prop} (h : zt_X10_node l s0 G ca d C S (zw s0 ca C S M) t k M Q X) : zm_X10_node l s0 G ca d C S t k M Q X := by
  refine z_met (lv := [(0, zv s0 2 t), (1, zv s0 0 k)]) Γ kk_X10_node rfl (show (lg_sl [zv s0 2 t, zv s0 0 k]).length ≤ 2 from by simp only [zn_0, zn_2, show (lg_sl []).length = 0 from rfl]; omega) (show lv_args 0 [zv s0 2 t, zv s0 0 k] = [(0, zv s0 2 t), (1, zv s0 0 k)] from by rw [zl_2, zl_0]; rfl) ?_
  unfold zt_X10_node at h
  refine z_aload_n dX10_node_0 rfl (j := 0) rfl ?_
  refine z_getc Γ kf_RX10_15 dX10_node_1 ht.1 ht.2.1 rfl ?_
  refine z_aload_n dX10_node_4 rfl (j := 0) rfl ?_
  refine z_get Γ kf_RX10_109 dX10_node_5 ht.1 ht.2.1 rfl (by decide) (v9 := M t 7) rfl ?_
  refine z_iload_n dX10_node_8 rfl (j := 1) rfl ?_
  obtain ⟨hi9, h⟩ := h
  refine z_iast Γ dX10_node_9 (by have := ht.1; omega) ht.2.2.2.1 (by decide) hi9 ?_
  refine z_aload_n dX10_node_10 rfl (j := 0) rfl ?_
  refine z_getc Γ kf_RX10_19 dX10_node_11 ht.1 ht.2.1 rfl ?_
  refine z_aload_n dX10_node_14 rfl (j := 0) rfl ?_
  refine z_get Γ kf_RX10_109 dX10_node_15 ht.1 ht.2.1 rfl (by decide) (v9 := M t 7) ((zu_a (by omega)).trans rfl) ?_
  refine z_aload_n dX10_node_18 rfl (j := 0) rfl ?_
  refine z_get Γ kf_RX10_95 dX10_node_19 ht.1 ht.2.1 rfl (by decide) (v9 := M t 2) ((zu_a (by omega)).trans rfl) ?_
  refine z_iast Γ dX10_node_22 (by have := ht.1; omega) ht.2.2.2.2.1 (by decide) hi9 ?_
  refine z_aload_n dX10_node_23 rfl (j := 0) rfl ?_
  refine z_getc Γ kf_RX10_22 dX10_node_24 ht.1 ht.2.1 rfl ?_
  refine z_aload_n dX10_node_27 rfl (j := 0) rfl ?_
  refine z_get Γ kf_RX10_109 dX10_node_28 ht.1 ht.2.1 rfl (by decide) (v9 := M t 7) ((zu_a (by omega)).trans ((zu_a (by omega)).trans rfl)) ?_
  refine z_lconst (v := 0) dX10_node_31 (by decide) ?_
  refine z_last Γ dX10_node_32 (by have := ht.1; omega) ht.2.2.2.2.2.1 (by decide) hi9 ?_
  refine z_aload_n dX10_node_33 rfl (j := 0) rfl ?_
  refine z_getc Γ kf_RX10_26 dX10_node_34 ht.1 ht.2.1 rfl ?_
  refine z_aload_n dX10_node_37 rfl (j := 0) rfl ?_
  refine z_get Γ kf_RX10_109 dX10_node_38 ht.1 ht.2.1 rfl (by decide) (v9 := M t 7) ((zu_a (by omega)).trans ((zu_a (by omega)).trans ((zu_a (by omega)).trans rfl))) ?_
  refine z_iconst dX10_node_41 ?_
  refine z_iast Γ dX10_node_42 (by have := ht.1; omega) ht.2.2.2.2.2.2.1 (by decide) hi9 ?_
  refine z_aload_n dX10_node_43 rfl (j := 0) rfl ?_
  refine z_getc Γ kf_RX10_29 dX10_node_44 ht.1 ht.2.1 rfl ?_
  refine z_aload_n dX10_node_47 rfl (j := 0) rfl ?_
  refine z_get Γ kf_RX10_109 dX10_node_48 ht.1 ht.2.1 rfl (by decide) (v9 := M t 7) ((zu_a (by omega)).trans ((zu_a (by omega)).trans ((zu_a (by omega)).trans ((zu_a (by omega)).trans rfl)))) ?_
  refine z_iconst dX10_node_51 ?_
  refine z_iast Γ dX10_node_52 (by have := ht.1; omega) ht.2.2.2.2.2.2.2.1 (by decide) hi9 ?_
  refine z_aload_n dX10_node_53 rfl (j := 0) rfl ?_
  refine z_getc Γ kf_RX10_32 dX10_node_54 ht.1 ht.2.1 rfl ?_
  refine z_aload_n dX10_node_57 rfl (j := 0) rfl ?_
  refine z_get Γ kf_RX10_109 dX10_node_58 ht.1 ht.2.1 rfl (by decide) (v9 := M t 7) ((zu_a (by omega)).trans ((zu_a (by omega)).trans ((zu_a (by omega)).trans ((zu_a (by omega)).trans ((zu_a (by omega)).trans rfl))))) ?_
  refine z_iconst dX10_node_61 ?_
  refine z_iast Γ dX10_node_62 (by have := ht.1; omega) ht.2.2.2.2.2.2.2.2.1 (by decide) hi9 ?_
  refine z_aload_n dX10_node_63 rfl (j := 0) rfl ?_
  refine z_dup2 dX10_node_64 ?_
  refine z_get Γ kf_RX10_109 dX10_node_65 ht.1 ht.2.1 rfl (by decide) (v9 := M t 7) ((zu_a (by omega)).trans ((zu_a (by omega)).trans ((zu_a (by omega)).trans ((zu_a (by omega)).trans ((zu_a (by omega)).trans ((zu_a (by omega)).trans rfl)))))) ?_
  refine z_iconst dX10_node_68 ?_
  refine z_iadd dX10_node_69 ?_
  refine z_put0 Γ kp_RX10_109 dX10_node_70 ht.1 ht.2.1 rfl (k9 := 7) rfl ?_
  refine z_aload_n dX10_node_73 rfl (j := 0) rfl ?_
  refine z_get Γ kf_RX10_109 dX10_node_74 ht.1 ht.2.1 rfl (by decide) (v9 := (M t 7) + 1) (zu_s _ _ _ _) ?_
  refine z_iconst dX10_node_77 ?_
  refine z_isub dX10_node_78 ?_
  exact z_iret dX10_node_79 rfl h

abbrev zg_X10_hex_19 (l : Launch) (s0 : State) (G : va_G) (ca : Nat → ClassId) (d : Nat) (C : Nat × Nat) (S : zS) (w0 : rt_Wd)  (v0 : Int)  (M : zM) (Q : Int → zM → Prop) (X : zM → Prop) : Prop := rt_Go l s0 G RX10 "hex" cX10_hex 1 (Option.some FieldType.int) [] d w0 (zQ s0 ca 0 C S Q X) 19 [(0, zv s0 0 v0)] [] (zw s0 ca C S M)
abbrev zg_X10_hex_41 (l : Launch) (s0 : State) (G : va_G) (ca : Nat → ClassId) (d : Nat) (C : Nat × Nat) (S : zS) (w0 : rt_Wd)  (v0 : Int)  (M : zM) (Q : Int → zM → Prop) (X : zM → Prop) : Prop := rt_Go l s0 G RX10 "hex" cX10_hex 1 (Option.some FieldType.int) [] d w0 (zQ s0 ca 0 C S Q X) 41 [(0, zv s0 0 v0)] [] (zw s0 ca C S M)
def zt_X10_hex_41 (l : Launch) (s0 : State) (G : va_G) (ca : Nat → ClassId) (d : Nat) (C : Nat × Nat) (S : zS) (w0 : rt_Wd)  (v0 : Int)  (M : zM) (Q : Int → zM → Prop) (X : zM → Prop) : Prop :=
  zIf (w32 v0 < 65) (Q ((-1)) M) (zIf (70 < w32 v0) (Q ((-1)) M) (Q ((v0 - 65) + 10) M))
set_option maxRecDepth 100000 in
theorem zs_X10_hex_41 {l : Launch} {s0 : State} {a0 : Array Value} {G : va_G} {ca : Nat → ClassId} (Γ : rt_Γ l s0 a0 G ca) {d : Nat} {C : Nat × Nat} {S : zS} (hok : zok C)   {w0 : rt_Wd} {v0 : Int}   {M : zM} {Q : Int → zM → Prop} {X : zM → Prop} (h : zt_X10_hex_41 l s0 G ca d C S w0  v0 M Q X) : zg_X10_hex_41 l s0 G ca d C S w0  v0 M Q X := by
  unfold zt_X10_hex_41 at h
  refine z_iload_n dX10_hex_41 rfl (j := 0) rfl ?_
  refine z_bipush dX10_hex_42 (by decide) ?_
  refine z_icmp_lt (tgt := 63) (x' := w32 v0) (y' := 65) rfl (by decide) dX10_hex_44 (by decide) (fun c44 => ?_) (fun c44 => ?_)
  · replace h := h.1 c44
    refine z_iconst dX10_hex_63 ?_
    exact z_iret dX10_hex_64 rfl h
  · replace h := h.2 c44
    refine z_iload_n dX10_hex_47 rfl (j := 0) rfl ?_
    refine z_bipush dX10_hex_48 (by decide) ?_
    refine z_icmp_gt (tgt := 63) (x' := w32 v0) (y' := 70) rfl (by decide) dX10_hex_50 (by decide) (fun c50 => ?_) (fun c50 => ?_)
    · replace h := h.1 c50
      refine z_iconst dX10_hex_63 ?_
      exact z_iret dX10_hex_64 rfl h
    · replace h := h.2 c50
      refine z_iload_n dX10_hex_53 rfl (j := 0) rfl ?_
      refine z_bipush dX10_hex_54 (by decide) ?_
      refine z_isub dX10_hex_56 ?_
      refine z_bipush dX10_hex_57 (by decide) ?_
      refine z_iadd dX10_hex_59 ?_
      refine rt_goto (tgt := 64) dX10_hex_60 (by decide) ?_
      exact z_iret dX10_hex_64 rfl h

def zt_X10_hex_19 (l : Launch) (s0 : State) (G : va_G) (ca : Nat → ClassId) (d : Nat) (C : Nat × Nat) (S : zS) (w0 : rt_Wd)  (v0 : Int)  (M : zM) (Q : Int → zM → Prop) (X : zM → Prop) : Prop :=
  zIf (w32 v0 < 97) (zt_X10_hex_41 l s0 G ca d C S w0  v0 M Q X) (zIf (102 < w32 v0) (zt_X10_hex_41 l s0 G ca d C S w0  v0 M Q X) (Q ((v0 - 97) + 10) M))
set_option maxRecDepth 100000 in
theorem zs_X10_hex_19 {l : Launch} {s0 : State} {a0 : Array Value} {G : va_G} {ca : Nat → ClassId} (Γ : rt_Γ l s0 a0 G ca) {d : Nat} {C : Nat × Nat} {S : zS} (hok : zok C)   {w0 : rt_Wd} {v0 : Int}   {M : zM} {Q : Int → zM → Prop} {X : zM → Prop} (h : zt_X10_hex_19 l s0 G ca d C S w0  v0 M Q X) : zg_X10_hex_19 l s0 G ca d C S w0  v0 M Q X := by
  unfold zt_X10_hex_19 at h
  refine z_iload_n dX10_hex_19 rfl (j := 0) rfl ?_
  refine z_bipush dX10_hex_20 (by decide) ?_
  refine z_icmp_lt (tgt := 41) (x' := w32 v0) (y' := 97) rfl (by decide) dX10_hex_22 (by decide) (fun c22 => ?_) (fun c22 => ?_)
  · replace h := h.1 c22
    exact rt_lfew [0] rfl (zs_X10_hex_41 Γ hok   h)
  · replace h := h.2 c22
    refine z_iload_n dX10_hex_25 rfl (j := 0) rfl ?_
    refine z_bipush dX10_hex_26 (by decide) ?_
    refine z_icmp_gt (tgt := 41) (x' := w32 v0) (y' := 102) rfl (by decide) dX10_hex_28 (by decide) (fun c28 => ?_) (fun c28 => ?_)
    · replace h := h.1 c28
      exact rt_lfew [0] rfl (zs_X10_hex_41 Γ hok   h)
    · replace h := h.2 c28
      refine z_iload_n dX10_hex_31 rfl (j := 0) rfl ?_
      refine z_bipush dX10_hex_32 (by decide) ?_
      refine z_isub dX10_hex_34 ?_
      refine z_bipush dX10_hex_35 (by decide) ?_
      refine z_iadd dX10_hex_37 ?_
      refine rt_goto (tgt := 64) dX10_hex_38 (by decide) ?_
      exact z_iret dX10_hex_64 rfl h

def zt_X10_hex (l : Launch) (s0 : State) (G : va_G) (ca : Nat → ClassId) (d : Nat) (C : Nat × Nat) (S : zS) (w0 : rt_Wd)  (c : Int) (M : zM) (Q : Int → zM → Prop) (X : zM → Prop) : Prop :=
  zIf (w32 c < 48) (zt_X10_hex_19 l s0 G ca d C S w0  c M Q X) (zIf (57 < w32 c) (zt_X10_hex_19 l s0 G ca d C S w0  c M Q X) (Q (c - 48) M))
set_option maxRecDepth 100000 in
theorem z_X10_hex {l : Launch} {s0 : State} {a0 : Array Value} {G : va_G} {ca : Nat → ClassId} (Γ : rt_Γ l s0 a0 G ca) {d : Nat} {C : Nat × Nat} {S : zS} (hok : zok C)   {c : Int} {M : zM} {Q : Int → zM → Prop} {X : zM → Prop} (h : zt_X10_hex l s0 G ca d C S (zw s0 ca C S M)  c M Q X) : zm_X10_hex l s0 G ca d C S  c M Q X := by
  refine z_met (lv := [(0, zv s0 0 c)]) Γ kk_X10_hex rfl (show (lg_sl [zv s0 0 c]).length ≤ 1 from by simp only [zn_0, show (lg_sl []).length = 0 from rfl]; omega) (show lv_args 0 [zv s0 0 c] = [(0, zv s0 0 c)] from by rw [zl_0]; rfl) ?_
  unfold zt_X10_hex at h
  refine z_iload_n dX10_hex_0 rfl (j := 0) rfl ?_
  refine z_bipush dX10_hex_1 (by decide) ?_
  refine z_icmp_lt (tgt := 19) (x' := w32 c) (y' := 48) rfl (by decide) dX10_hex_3 (by decide) (fun c3 => ?_) (fun c3 => ?_)
  · replace h := h.1 c3
    exact rt_lfew [0] rfl (zs_X10_hex_19 Γ hok   h)
  · replace h := h.2 c3
    refine z_iload_n dX10_hex_6 rfl (j := 0) rfl ?_
    refine z_bipush dX10_hex_7 (by decide) ?_
    refine z_icmp_gt (tgt := 19) (x' := w32 c) (y' := 57) rfl (by decide) dX10_hex_9 (by decide) (fun c9 => ?_) (fun c9 => ?_)
    · replace h := h.1 c9
      exact rt_lfew [0] rfl (zs_X10_hex_19 Γ hok   h)
    · replace h := h.2 c9
      refine z_iload_n dX10_hex_12 rfl (j := 0) rfl ?_
      refine z_bipush dX10_hex_13 (by decide) ?_
      refine z_isub dX10_hex_15 ?_
      refine rt_goto (tgt := 64) dX10_hex_16 (by decide) ?_
      exact z_iret dX10_hex_64 rfl h

abbrev zg_X10_string_27 (l : Launch) (s0 : State) (G : va_G) (ca : Nat → ClassId) (d : Nat) (C : Nat × Nat) (S : zS) (w0 : rt_Wd) (t : Int) (v1 : Int)  (M : zM) (Q : Int → zM → Prop) (X : zM → Prop) : Prop := rt_Go l s0 G RX10 "string" cX10_string 3 (Option.some FieldType.int) [] d w0 (zQ s0 ca 0 C S Q X) 27 [(0, zv s0 2 t), (1, zv s0 0 v1)] [] (zw s0 ca C S M)
abbrev zg_X10_string_58 (l : Launch) (s0 : State) (G : va_G) (ca : Nat → ClassId) (d : Nat) (C : Nat × Nat) (S : zS) (w0 : rt_Wd) (t : Int) (v1 : Int) (v2 : Int)  (M : zM) (Q : Int → zM → Prop) (X : zM → Prop) : Prop := rt_Go l s0 G RX10 "string" cX10_string 3 (Option.some FieldType.int) [] d w0 (zQ s0 ca 0 C S Q X) 58 [(0, zv s0 2 t), (1, zv s0 0 v1), (2, zv s0 0 v2)] [zv s0 2 t] (zw s0 ca C S M)
abbrev zg_X10_string_59 (l : Launch) (s0 : State) (G : va_G) (ca : Nat → ClassId) (d : Nat) (C : Nat × Nat) (S : zS) (w0 : rt_Wd) (t : Int) (v1 : Int) (v2 : Int) (k0 : Int) (M : zM) (Q : Int → zM → Prop) (X : zM → Prop) : Prop := rt_Go l s0 G RX10 "string" cX10_string 3 (Option.some FieldType.int) [] d w0 (zQ s0 ca 0 C S Q X) 59 [(0, zv s0 2 t), (1, zv s0 0 v1), (2, zv s0 0 v2)] [zv s0 0 k0, zv s0 2 t] (zw s0 ca C S M)
abbrev zg_X10_string_91 (l : Launch) (s0 : State) (G : va_G) (ca : Nat → ClassId) (d : Nat) (C : Nat × Nat) (S : zS) (w0 : rt_Wd) (t : Int) (v1 : Int) (v2 : Int)  (M : zM) (Q : Int → zM → Prop) (X : zM → Prop) : Prop := rt_Go l s0 G RX10 "string" cX10_string 3 (Option.some FieldType.int) [] d w0 (zQ s0 ca 0 C S Q X) 91 [(0, zv s0 2 t), (1, zv s0 0 v1), (2, zv s0 0 v2)] [] (zw s0 ca C S M)
def zt_X10_string_91 (l : Launch) (s0 : State) (G : va_G) (ca : Nat → ClassId) (d : Nat) (C : Nat × Nat) (S : zS) (w0 : rt_Wd) (t : Int) (v1 : Int) (v2 : Int)  (M : zM) (Q : Int → zM → Prop) (X : zM → Prop) : Prop :=
  (0 ≤ M t 15 ∧ M t 15 < 4200) ∧ ((0 ≤ v1 ∧ v1 < 4200) ∧ (zg_X10_string_27 l s0 G ca d C S w0 t v1 ((zu ((zu ((zu M (t + 8) (M t 15) (w8 (w8 v2)))) t 15 ((M t 15) + 1))) (t + 5) v1 ((M (t + 5) v1) + 1))) Q X))
set_option maxRecDepth 100000 in
theorem zs_X10_string_91 {l : Launch} {s0 : State} {a0 : Array Value} {G : va_G} {ca : Nat → ClassId} (Γ : rt_Γ l s0 a0 G ca) {d : Nat} {C : Nat × Nat} {S : zS} (hd : 1 ≤ d) (hok : zok C) {t : Int} (ht : zTx S t) {w0 : rt_Wd} {v1 : Int} {v2 : Int}   {M : zM} {Q : Int → zM → Prop} {X : zM → Prop} (h : zt_X10_string_91 l s0 G ca d C S w0 t v1 v2 M Q X) : zg_X10_string_91 l s0 G ca d C S w0 t v1 v2 M Q X := by
  unfold zt_X10_string_91 at h
  refine z_aload_n dX10_string_91 rfl (j := 0) rfl ?_
  refine z_getc Γ kf_RX10_35 dX10_string_92 ht.1 ht.2.1 rfl ?_
  refine z_aload_n dX10_string_95 rfl (j := 0) rfl ?_
  refine z_get Γ kf_RX10_167 dX10_string_96 ht.1 ht.2.1 rfl (by decide) (v9 := M t 15) rfl ?_
  refine z_iload_n dX10_string_99 rfl (j := 2) rfl ?_
  refine z_i2b dX10_string_100 ?_
  obtain ⟨hi101, h⟩ := h
  refine z_bast Γ dX10_string_101 (by have := ht.1; omega) ht.2.2.2.2.2.2.2.2.2.1 (by decide) hi101 ?_
  refine z_aload_n dX10_string_102 rfl (j := 0) rfl ?_
  refine z_dup2 dX10_string_103 ?_
  refine z_get Γ kf_RX10_167 dX10_string_104 ht.1 ht.2.1 rfl (by decide) (v9 := M t 15) ((zu_a (by omega)).trans rfl) ?_
  refine z_iconst dX10_string_107 ?_
  refine z_iadd dX10_string_108 ?_
  refine z_put0 Γ kp_RX10_167 dX10_string_109 ht.1 ht.2.1 rfl (k9 := 15) rfl ?_
  refine z_aload_n dX10_string_112 rfl (j := 0) rfl ?_
  refine z_getc Γ kf_RX10_26 dX10_string_113 ht.1 ht.2.1 rfl ?_
  refine z_iload_n dX10_string_116 rfl (j := 1) rfl ?_
  refine z_dupp dX10_string_117 ?_
  obtain ⟨hi118, h⟩ := h
  refine z_iald Γ dX10_string_118 (by have := ht.1; omega) ht.2.2.2.2.2.2.1 (by decide) hi118 (v9 := M (t + 5) v1) ((zu_a (by omega)).trans ((zu_a (by omega)).trans rfl)) ?_
  refine z_iconst dX10_string_119 ?_
  refine z_iadd dX10_string_120 ?_
  refine z_iast Γ dX10_string_121 (by have := ht.1; omega) ht.2.2.2.2.2.2.1 (by decide) hi118 ?_
  refine rt_goto (tgt := 27) dX10_string_122 (by decide) ?_
  exact rt_lfew [0, 1] rfl h

def zt_X10_string_59 (l : Launch) (s0 : State) (G : va_G) (ca : Nat → ClassId) (d : Nat) (C : Nat × Nat) (S : zS) (w0 : rt_Wd) (t : Int) (v1 : Int) (v2 : Int) (k0 : Int) (M : zM) (Q : Int → zM → Prop) (X : zM → Prop) : Prop :=
  zm_X10_need l s0 G ca (d - 1) C S t k0 1 (M t 2) M (fun r64 M64 => zIf (w32 v2 = 92) (zm_X10_escaped l s0 G ca (d - 1) C S t  M64 (fun r74 M74 => zt_X10_string_91 l s0 G ca d C S w0 t v1 r74 M74 Q X) X) (zt_X10_string_91 l s0 G ca d C S w0 t v1 v2 ((zu M64 t 2 ((M64 t 2) + 1))) Q X)) X
set_option maxRecDepth 100000 in
theorem zs_X10_string_59 {l : Launch} {s0 : State} {a0 : Array Value} {G : va_G} {ca : Nat → ClassId} (Γ : rt_Γ l s0 a0 G ca) {d : Nat} {C : Nat × Nat} {S : zS} (hd : 1 ≤ d) (hok : zok C) {t : Int} (ht : zTx S t) {w0 : rt_Wd} {v1 : Int} {v2 : Int} {k0 : Int}  {M : zM} {Q : Int → zM → Prop} {X : zM → Prop} (h : zt_X10_string_59 l s0 G ca d C S w0 t v1 v2 k0 M Q X) : zg_X10_string_59 l s0 G ca d C S w0 t v1 v2 k0 M Q X := by
  unfold zt_X10_string_59 at h
  refine z_iconst dX10_string_59 ?_
  refine z_aload_n dX10_string_60 rfl (j := 0) rfl ?_
  refine z_get Γ kf_RX10_95 dX10_string_61 ht.1 ht.2.1 rfl (by decide) (v9 := M t 2) rfl ?_
  refine z_callV Γ kk_X10_need kc_RX10_105 (As := [zv s0 0 k0, zv s0 0 1, zv s0 0 (M t 2)]) h (by omega) (by decide) (show (parseMethodDescriptor yX10_need.desc).map (fun q => q.parameters.length) = some 3 by decide +kernel) hok (Nat.zero_le _) dX10_string_64 ht.1 ht.2.1 rfl rfl (fun _ h9 => nomatch h9) ?_
  clear h
  intro r64 M64 h
  show rt_Go _ _ _ _ _ _ _ _ _ _ _ _ 67 [(0, zv s0 2 t), (1, zv s0 0 v1), (2, zv s0 0 v2)] [] (zw s0 ca C S M64)
  refine z_iload_n dX10_string_67 rfl (j := 2) rfl ?_
  refine z_bipush dX10_string_68 (by decide) ?_
  refine z_icmp_ne (tgt := 81) (x' := w32 v2) (y' := 92) rfl (by decide) dX10_string_70 (by decide) (fun c70 => ?_) (fun c70 => ?_)
  · replace h := h.2 c70
    refine z_aload_n dX10_string_81 rfl (j := 0) rfl ?_
    refine z_dup2 dX10_string_82 ?_
    refine z_get Γ kf_RX10_95 dX10_string_83 ht.1 ht.2.1 rfl (by decide) (v9 := M64 t 2) rfl ?_
    refine z_iconst dX10_string_86 ?_
    refine z_iadd dX10_string_87 ?_
    refine z_put0 Γ kp_RX10_95 dX10_string_88 ht.1 ht.2.1 rfl (k9 := 2) rfl ?_
    exact rt_lfew [0, 1, 2] rfl (zs_X10_string_91 Γ hd hok ht  h)
  · replace h := h.1 c70
    refine z_aload_n dX10_string_73 rfl (j := 0) rfl ?_
    refine z_callV Γ kk_X10_escaped kc_RX10_170 (As := []) h (by omega) (by decide) (show (parseMethodDescriptor yX10_escaped.desc).map (fun q => q.parameters.length) = some 0 by decide +kernel) hok (Nat.zero_le _) dX10_string_74 ht.1 ht.2.1 rfl rfl (fun _ h9 => nomatch h9) ?_
    clear h
    intro r74 M74 h
    show rt_Go _ _ _ _ _ _ _ _ _ _ _ _ 77 [(0, zv s0 2 t), (1, zv s0 0 v1), (2, zv s0 0 v2)] [zv s0 0 r74] (zw s0 ca C S M74)
    refine z_istore_n (i := 2) (lv' := [(2, zv s0 0 r74), (0, zv s0 2 t), (1, zv s0 0 v1)]) dX10_string_77 rfl (by decide) (by simp [zv_cat0, zv_cat1, zv_cat2, zv_cats]) ?_
    refine rt_goto (tgt := 91) dX10_string_78 (by decide) ?_
    exact rt_lfew [1, 2, 0] rfl (zs_X10_string_91 Γ hd hok ht  h)

def zt_X10_string_58 (l : Launch) (s0 : State) (G : va_G) (ca : Nat → ClassId) (d : Nat) (C : Nat × Nat) (S : zS) (w0 : rt_Wd) (t : Int) (v1 : Int) (v2 : Int)  (M : zM) (Q : Int → zM → Prop) (X : zM → Prop) : Prop :=
  zt_X10_string_59 l s0 G ca d C S w0 t v1 v2 0 M Q X
set_option maxRecDepth 100000 in
theorem zs_X10_string_58 {l : Launch} {s0 : State} {a0 : Array Value} {G : va_G} {ca : Nat → ClassId} (Γ : rt_Γ l s0 a0 G ca) {d : Nat} {C : Nat × Nat} {S : zS} (hd : 1 ≤ d) (hok : zok C) {t : Int} (ht : zTx S t) {w0 : rt_Wd} {v1 : Int} {v2 : Int}   {M : zM} {Q : Int → zM → Prop} {X : zM → Prop} (h : zt_X10_string_58 l s0 G ca d C S w0 t v1 v2 M Q X) : zg_X10_string_58 l s0 G ca d C S w0 t v1 v2 M Q X := by
  unfold zt_X10_string_58 at h
  refine z_iconst dX10_string_58 ?_
  exact rt_lfew [0, 1, 2] rfl (zs_X10_string_59 Γ hd hok ht  h)

def zt_X10_string_27 (l : Launch) (s0 : State) (G : va_G) (ca : Nat → ClassId) (d : Nat) (C : Nat × Nat) (S : zS) (w0 : rt_Wd) (t : Int) (v1 : Int)  (M : zM) (Q : Int → zM → Prop) (X : zM → Prop) : Prop :=
  zm_X10_look l s0 G ca (d - 1) C S t  M (fun r28 M28 => zIf (w32 r28 = 34) (Q v1 ((zu M28 t 2 ((M28 t 2) + 1)))) (zm_X10_look l s0 G ca (d - 1) C S t  M28 (fun r37 M37 => zIf (w32 r37 < 32) (zt_X10_string_58 l s0 G ca d C S w0 t v1 r37 M37 Q X) (zIf (126 < w32 r37) (zt_X10_string_58 l s0 G ca d C S w0 t v1 r37 M37 Q X) (zt_X10_string_59 l s0 G ca d C S w0 t v1 r37 1 M37 Q X))) X)) X
set_option maxRecDepth 100000 in
theorem zs_X10_string_27 {l : Launch} {s0 : State} {a0 : Array Value} {G : va_G} {ca : Nat → ClassId} (Γ : rt_Γ l s0 a0 G ca) {d : Nat} {C : Nat × Nat} {S : zS} (hd : 1 ≤ d) (hok : zok C) {t : Int} (ht : zTx S t) {w0 : rt_Wd} {v1 : Int}   {M : zM} {Q : Int → zM → Prop} {X : zM → Prop} (h : zt_X10_string_27 l s0 G ca d C S w0 t v1 M Q X) : zg_X10_string_27 l s0 G ca d C S w0 t v1 M Q X := by
  unfold zt_X10_string_27 at h
  refine z_aload_n dX10_string_27 rfl (j := 0) rfl ?_
  refine z_callV Γ kk_X10_look kc_RX10_101 (As := []) h (by omega) (by decide) (show (parseMethodDescriptor yX10_look.desc).map (fun q => q.parameters.length) = some 0 by decide +kernel) hok (Nat.zero_le _) dX10_string_28 ht.1 ht.2.1 rfl rfl (fun _ h9 => nomatch h9) ?_
  clear h
  intro r28 M28 h
  show rt_Go _ _ _ _ _ _ _ _ _ _ _ _ 31 [(0, zv s0 2 t), (1, zv s0 0 v1)] [zv s0 0 r28] (zw s0 ca C S M28)
  refine z_bipush dX10_string_31 (by decide) ?_
  refine z_icmp_eq (tgt := 125) (x' := w32 r28) (y' := 34) rfl (by decide) dX10_string_33 (by decide) (fun c33 => ?_) (fun c33 => ?_)
  · replace h := h.1 c33
    refine z_aload_n dX10_string_125 rfl (j := 0) rfl ?_
    refine z_dup2 dX10_string_126 ?_
    refine z_get Γ kf_RX10_95 dX10_string_127 ht.1 ht.2.1 rfl (by decide) (v9 := M28 t 2) rfl ?_
    refine z_iconst dX10_string_130 ?_
    refine z_iadd dX10_string_131 ?_
    refine z_put0 Γ kp_RX10_95 dX10_string_132 ht.1 ht.2.1 rfl (k9 := 2) rfl ?_
    refine z_iload_n dX10_string_135 rfl (j := 1) rfl ?_
    exact z_iret dX10_string_136 rfl h
  · replace h := h.2 c33
    refine z_aload_n dX10_string_36 rfl (j := 0) rfl ?_
    refine z_callV Γ kk_X10_look kc_RX10_101 (As := []) h (by omega) (by decide) (show (parseMethodDescriptor yX10_look.desc).map (fun q => q.parameters.length) = some 0 by decide +kernel) hok (Nat.zero_le _) dX10_string_37 ht.1 ht.2.1 rfl rfl (fun _ h9 => nomatch h9) ?_
    clear h
    intro r37 M37 h
    show rt_Go _ _ _ _ _ _ _ _ _ _ _ _ 40 [(0, zv s0 2 t), (1, zv s0 0 v1)] [zv s0 0 r37] (zw s0 ca C S M37)
    refine z_istore_n (i := 2) (lv' := [(2, zv s0 0 r37), (0, zv s0 2 t), (1, zv s0 0 v1)]) dX10_string_40 rfl (by decide) (by simp [zv_cat0, zv_cat1, zv_cat2, zv_cats]) ?_
    refine z_aload_n dX10_string_41 rfl (j := 1) rfl ?_
    refine z_iload_n dX10_string_42 rfl (j := 0) rfl ?_
    refine z_bipush dX10_string_43 (by decide) ?_
    refine z_icmp_lt (tgt := 58) (x' := w32 r37) (y' := 32) rfl (by decide) dX10_string_45 (by decide) (fun c45 => ?_) (fun c45 => ?_)
    · replace h := h.1 c45
      exact rt_lfew [1, 2, 0] rfl (zs_X10_string_58 Γ hd hok ht  h)
    · replace h := h.2 c45
      refine z_iload_n dX10_string_48 rfl (j := 0) rfl ?_
      refine z_bipush dX10_string_49 (by decide) ?_
      refine z_icmp_gt (tgt := 58) (x' := w32 r37) (y' := 126) rfl (by decide) dX10_string_51 (by decide) (fun c51 => ?_) (fun c51 => ?_)
      · replace h := h.1 c51
        exact rt_lfew [1, 2, 0] rfl (zs_X10_string_58 Γ hd hok ht  h)
      · replace h := h.2 c51
        refine z_iconst dX10_string_54 ?_
        refine rt_goto (tgt := 59) dX10_string_55 (by decide) ?_
        exact rt_lfew [1, 2, 0] rfl (zs_X10_string_59 Γ hd hok ht  h)

def zt_X10_string (l : Launch) (s0 : State) (G : va_G) (ca : Nat → ClassId) (d : Nat) (C : Nat × Nat) (S : zS) (w0 : rt_Wd) (t : Int)  (M : zM) (Q : Int → zM → Prop) (X : zM → Prop) : Prop :=
  zm_X10_node l s0 G ca (d - 1) C S t 2 M (fun r2 M2 => (0 ≤ r2 ∧ r2 < 4200) ∧ (zg_X10_string_27 l s0 G ca d C S w0 t r2 ((zu ((zu M2 (t + 4) r2 (w32 (M2 t 15)))) t 2 ((M2 t 2) + 1))) Q X)) X
set_option maxRecDepth 100000 in
theorem z_X10_string {l : Launch} {s0 : State} {a0 : Array Value} {G : va_G} {ca : Nat → ClassId} (Γ : rt_Γ l s0 a0 G ca) {d : Nat} {C : Nat × Nat} {S : zS} (hd : 1 ≤ d) (hok : zok C) {t : Int} (ht : zTx S t)  {M : zM} {Q : Int → zM → Prop} {X : zM → Prop} (h : zt_X10_string l s0 G ca d C S (zw s0 ca C S M) t  M Q X) : zm_X10_string l s0 G ca d C S t  M Q X := by
  refine z_met (lv := [(0, zv s0 2 t)]) Γ kk_X10_string rfl (show (lg_sl [zv s0 2 t]).length ≤ 3 from by simp only [zn_2, show (lg_sl []).length = 0 from rfl]; omega) (show lv_args 0 [zv s0 2 t] = [(0, zv s0 2 t)] from by rw [zl_2]; rfl) ?_
  unfold zt_X10_string at h
  refine z_aload_n dX10_string_0 rfl (j := 0) rfl ?_
  refine z_iconst dX10_string_1 ?_
  refine z_callV Γ kk_X10_node kc_RX10_127 (As := [zv s0 0 2]) h (by omega) (by decide) (show (parseMethodDescriptor yX10_node.desc).map (fun q => q.parameters.length) = some 1 by decide +kernel) hok (Nat.zero_le _) dX10_string_2 ht.1 ht.2.1 rfl rfl (fun _ h9 => nomatch h9) ?_
  clear h
  intro r2 M2 h
  show rt_Go _ _ _ _ _ _ _ _ _ _ _ _ 5 [(0, zv s0 2 t)] [zv s0 0 r2] (zw s0 ca C S M2)
  refine z_istore_n (i := 1) (lv' := [(1, zv s0 0 r2), (0, zv s0 2 t)]) dX10_string_5 rfl (by decide) (by simp [zv_cat0, zv_cat1, zv_cat2, zv_cats]) ?_
  refine z_aload_n dX10_string_6 rfl (j := 1) rfl ?_
  refine z_getc Γ kf_RX10_22 dX10_string_7 ht.1 ht.2.1 rfl ?_
  refine z_iload_n dX10_string_10 rfl (j := 0) rfl ?_
  refine z_aload_n dX10_string_11 rfl (j := 1) rfl ?_
  refine z_get Γ kf_RX10_167 dX10_string_12 ht.1 ht.2.1 rfl (by decide) (v9 := M2 t 15) rfl ?_
  refine z_i2l dX10_string_15 ?_
  obtain ⟨hi16, h⟩ := h
  refine z_last Γ dX10_string_16 (by have := ht.1; omega) ht.2.2.2.2.2.1 (by decide) hi16 ?_
  refine z_aload_n dX10_string_17 rfl (j := 1) rfl ?_
  refine z_dup2 dX10_string_18 ?_
  refine z_get Γ kf_RX10_95 dX10_string_19 ht.1 ht.2.1 rfl (by decide) (v9 := M2 t 2) ((zu_a (by omega)).trans rfl) ?_
  refine z_iconst dX10_string_22 ?_
  refine z_iadd dX10_string_23 ?_
  refine z_put0 Γ kp_RX10_95 dX10_string_24 ht.1 ht.2.1 rfl (k9 := 2) rfl ?_
  exact rt_lfew [1, 0] rfl h

abbrev zg_X10_number_20 (l : Launch) (s0 : State) (G : va_G) (ca : Nat → ClassId) (d : Nat) (C : Nat × Nat) (S : zS) (w0 : rt_Wd) (t : Int) (v1 : Int) (k0 : Int) (M : zM) (Q : Int → zM → Prop) (X : zM → Prop) : Prop := rt_Go l s0 G RX10 "number" cX10_number 8 (Option.some FieldType.int) [] d w0 (zQ s0 ca 0 C S Q X) 20 [(0, zv s0 2 t), (1, zv s0 0 v1)] [zv s0 0 k0] (zw s0 ca C S M)
abbrev zg_X10_number_39 (l : Launch) (s0 : State) (G : va_G) (ca : Nat → ClassId) (d : Nat) (C : Nat × Nat) (S : zS) (w0 : rt_Wd) (t : Int) (v1 : Int) (v2 : Int) (k0 : Int) (M : zM) (Q : Int → zM → Prop) (X : zM → Prop) : Prop := rt_Go l s0 G RX10 "number" cX10_number 8 (Option.some FieldType.int) [] d w0 (zQ s0 ca 0 C S Q X) 39 [(0, zv s0 2 t), (1, zv s0 0 v1), (2, zv s0 0 v2)] [zv s0 0 k0, zv s0 2 t] (zw s0 ca C S M)
abbrev zg_X10_number_65 (l : Launch) (s0 : State) (G : va_G) (ca : Nat → ClassId) (d : Nat) (C : Nat × Nat) (S : zS) (w0 : rt_Wd) (t : Int) (v1 : Int) (v2 : Int)  (M : zM) (Q : Int → zM → Prop) (X : zM → Prop) : Prop := rt_Go l s0 G RX10 "number" cX10_number 8 (Option.some FieldType.int) [] d w0 (zQ s0 ca 0 C S Q X) 65 [(0, zv s0 2 t), (1, zv s0 0 v1), (2, zv s0 0 v2)] [zv s0 2 t] (zw s0 ca C S M)
abbrev zg_X10_number_66 (l : Launch) (s0 : State) (G : va_G) (ca : Nat → ClassId) (d : Nat) (C : Nat × Nat) (S : zS) (w0 : rt_Wd) (t : Int) (v1 : Int) (v2 : Int) (k0 : Int) (M : zM) (Q : Int → zM → Prop) (X : zM → Prop) : Prop := rt_Go l s0 G RX10 "number" cX10_number 8 (Option.some FieldType.int) [] d w0 (zQ s0 ca 0 C S Q X) 66 [(0, zv s0 2 t), (1, zv s0 0 v1), (2, zv s0 0 v2)] [zv s0 0 k0, zv s0 2 t] (zw s0 ca C S M)
abbrev zg_X10_number_95 (l : Launch) (s0 : State) (G : va_G) (ca : Nat → ClassId) (d : Nat) (C : Nat × Nat) (S : zS) (w0 : rt_Wd) (t : Int) (v1 : Int) (v2 : Int) (v3 : Int) (v4 : Int) (v5 : Int)  (M : zM) (Q : Int → zM → Prop) (X : zM → Prop) : Prop := rt_Go l s0 G RX10 "number" cX10_number 8 (Option.some FieldType.int) [] d w0 (zQ s0 ca 0 C S Q X) 95 [(0, zv s0 2 t), (1, zv s0 0 v1), (2, zv s0 0 v2), (3, zv s0 0 v3), (4, zv s0 0 v4), (5, zv s0 1 v5)] [] (zw s0 ca C S M)
abbrev zg_X10_number_143 (l : Launch) (s0 : State) (G : va_G) (ca : Nat → ClassId) (d : Nat) (C : Nat × Nat) (S : zS) (w0 : rt_Wd) (t : Int) (v1 : Int) (v2 : Int) (v3 : Int) (v4 : Int) (v5 : Int)  (M : zM) (Q : Int → zM → Prop) (X : zM → Prop) : Prop := rt_Go l s0 G RX10 "number" cX10_number 8 (Option.some FieldType.int) [] d w0 (zQ s0 ca 0 C S Q X) 143 [(0, zv s0 2 t), (1, zv s0 0 v1), (2, zv s0 0 v2), (3, zv s0 0 v3), (4, zv s0 0 v4), (5, zv s0 1 v5)] [] (zw s0 ca C S M)
abbrev zg_X10_number_188 (l : Launch) (s0 : State) (G : va_G) (ca : Nat → ClassId) (d : Nat) (C : Nat × Nat) (S : zS) (w0 : rt_Wd) (t : Int) (v1 : Int) (v2 : Int) (v3 : Int) (v5 : Int) (v7 : Int) (k0 : Int) (k1 : Int) (M : zM) (Q : Int → zM → Prop) (X : zM → Prop) : Prop := rt_Go l s0 G RX10 "number" cX10_number 8 (Option.some FieldType.int) [] d w0 (zQ s0 ca 0 C S Q X) 188 [(0, zv s0 2 t), (1, zv s0 0 v1), (2, zv s0 0 v2), (3, zv s0 0 v3), (5, zv s0 1 v5), (7, zv s0 0 v7)] [zv s0 0 k0, zv s0 0 k1] (zw s0 ca C S M)
abbrev zg_X10_number_191 (l : Launch) (s0 : State) (G : va_G) (ca : Nat → ClassId) (d : Nat) (C : Nat × Nat) (S : zS) (w0 : rt_Wd) (t : Int) (v1 : Int) (v2 : Int) (v3 : Int) (v5 : Int) (v7 : Int)  (M : zM) (Q : Int → zM → Prop) (X : zM → Prop) : Prop := rt_Go l s0 G RX10 "number" cX10_number 8 (Option.some FieldType.int) [] d w0 (zQ s0 ca 0 C S Q X) 191 [(0, zv s0 2 t), (1, zv s0 0 v1), (2, zv s0 0 v2), (3, zv s0 0 v3), (5, zv s0 1 v5), (7, zv s0 0 v7)] [] (zw s0 ca C S M)
abbrev zg_X10_number_195 (l : Launch) (s0 : State) (G : va_G) (ca : Nat → ClassId) (d : Nat) (C : Nat × Nat) (S : zS) (w0 : rt_Wd) (t : Int) (v1 : Int) (v2 : Int) (v3 : Int) (v5 : Int) (v7 : Int)  (M : zM) (Q : Int → zM → Prop) (X : zM → Prop) : Prop := rt_Go l s0 G RX10 "number" cX10_number 8 (Option.some FieldType.int) [] d w0 (zQ s0 ca 0 C S Q X) 195 [(0, zv s0 2 t), (1, zv s0 0 v1), (2, zv s0 0 v2), (3, zv s0 0 v3), (5, zv s0 1 v5), (7, zv s0 0 v7)] [] (zw s0 ca C S M)
abbrev zg_X10_number_196 (l : Launch) (s0 : State) (G : va_G) (ca : Nat → ClassId) (d : Nat) (C : Nat × Nat) (S : zS) (w0 : rt_Wd) (t : Int) (v1 : Int) (v2 : Int) (v3 : Int) (v5 : Int) (v7 : Int) (k0 : Int) (M : zM) (Q : Int → zM → Prop) (X : zM → Prop) : Prop := rt_Go l s0 G RX10 "number" cX10_number 8 (Option.some FieldType.int) [] d w0 (zQ s0 ca 0 C S Q X) 196 [(0, zv s0 2 t), (1, zv s0 0 v1), (2, zv s0 0 v2), (3, zv s0 0 v3), (5, zv s0 1 v5), (7, zv s0 0 v7)] [zv s0 0 k0] (zw s0 ca C S M)
abbrev zg_X10_number_218 (l : Launch) (s0 : State) (G : va_G) (ca : Nat → ClassId) (d : Nat) (C : Nat × Nat) (S : zS) (w0 : rt_Wd) (t : Int) (v1 : Int) (v2 : Int) (v3 : Int) (v4 : Int) (k0 : Int) (M : zM) (Q : Int → zM → Prop) (X : zM → Prop) : Prop := rt_Go l s0 G RX10 "number" cX10_number 8 (Option.some FieldType.int) [] d w0 (zQ s0 ca 0 C S Q X) 218 [(0, zv s0 2 t), (1, zv s0 0 v1), (2, zv s0 0 v2), (3, zv s0 0 v3), (4, zv s0 0 v4)] [zv s0 1 k0] (zw s0 ca C S M)
abbrev zg_X10_number_243 (l : Launch) (s0 : State) (G : va_G) (ca : Nat → ClassId) (d : Nat) (C : Nat × Nat) (S : zS) (w0 : rt_Wd) (t : Int) (v1 : Int) (v2 : Int) (v4 : Int) (v5 : Int)  (M : zM) (Q : Int → zM → Prop) (X : zM → Prop) : Prop := rt_Go l s0 G RX10 "number" cX10_number 8 (Option.some FieldType.int) [] d w0 (zQ s0 ca 0 C S Q X) 243 [(0, zv s0 2 t), (1, zv s0 0 v1), (2, zv s0 0 v2), (4, zv s0 0 v4), (5, zv s0 1 v5)] [] (zw s0 ca C S M)
def zt_X10_number_66 (l : Launch) (s0 : State) (G : va_G) (ca : Nat → ClassId) (d : Nat) (C : Nat × Nat) (S : zS) (w0 : rt_Wd) (t : Int) (v1 : Int) (v2 : Int) (k0 : Int) (M : zM) (Q : Int → zM → Prop) (X : zM → Prop) : Prop :=
  zm_X10_need l s0 G ca (d - 1) C S t k0 1 (M t 2) M (fun r71 M71 => zm_X10_look l s0 G ca (d - 1) C S t  M71 (fun r75 M75 => zIf (w32 r75 = 48) (zg_X10_number_95 l s0 G ca d C S w0 t v1 v2 1 1 0 M75 Q X) (zg_X10_number_95 l s0 G ca d C S w0 t v1 v2 0 1 0 M75 Q X)) X) X
set_option maxRecDepth 100000 in
theorem zs_X10_number_66 {l : Launch} {s0 : State} {a0 : Array Value} {G : va_G} {ca : Nat → ClassId} (Γ : rt_Γ l s0 a0 G ca) {d : Nat} {C : Nat × Nat} {S : zS} (hd : 1 ≤ d) (hok : zok C) {t : Int} (ht : zTx S t) {w0 : rt_Wd} {v1 : Int} {v2 : Int} {k0 : Int}  {M : zM} {Q : Int → zM → Prop} {X : zM → Prop} (h : zt_X10_number_66 l s0 G ca d C S w0 t v1 v2 k0 M Q X) : zg_X10_number_66 l s0 G ca d C S w0 t v1 v2 k0 M Q X := by
  unfold zt_X10_number_66 at h
  refine z_iconst dX10_number_66 ?_
  refine z_aload_n dX10_number_67 rfl (j := 0) rfl ?_
  refine z_get Γ kf_RX10_95 dX10_number_68 ht.1 ht.2.1 rfl (by decide) (v9 := M t 2) rfl ?_
  refine z_callV Γ kk_X10_need kc_RX10_105 (As := [zv s0 0 k0, zv s0 0 1, zv s0 0 (M t 2)]) h (by omega) (by decide) (show (parseMethodDescriptor yX10_need.desc).map (fun q => q.parameters.length) = some 3 by decide +kernel) hok (Nat.zero_le _) dX10_number_71 ht.1 ht.2.1 rfl rfl (fun _ h9 => nomatch h9) ?_
  clear h
  intro r71 M71 h
  show rt_Go _ _ _ _ _ _ _ _ _ _ _ _ 74 [(0, zv s0 2 t), (1, zv s0 0 v1), (2, zv s0 0 v2)] [] (zw s0 ca C S M71)
  refine z_aload_n dX10_number_74 rfl (j := 0) rfl ?_
  refine z_callV Γ kk_X10_look kc_RX10_101 (As := []) h (by omega) (by decide) (show (parseMethodDescriptor yX10_look.desc).map (fun q => q.parameters.length) = some 0 by decide +kernel) hok (Nat.zero_le _) dX10_number_75 ht.1 ht.2.1 rfl rfl (fun _ h9 => nomatch h9) ?_
  clear h
  intro r75 M75 h
  show rt_Go _ _ _ _ _ _ _ _ _ _ _ _ 78 [(0, zv s0 2 t), (1, zv s0 0 v1), (2, zv s0 0 v2)] [zv s0 0 r75] (zw s0 ca C S M75)
  refine z_bipush dX10_number_78 (by decide) ?_
  refine z_icmp_ne (tgt := 87) (x' := w32 r75) (y' := 48) rfl (by decide) dX10_number_80 (by decide) (fun c80 => ?_) (fun c80 => ?_)
  · replace h := h.2 c80
    refine z_iconst dX10_number_87 ?_
    refine z_istore_n (i := 3) (lv' := [(3, zv s0 0 0), (0, zv s0 2 t), (1, zv s0 0 v1), (2, zv s0 0 v2)]) dX10_number_88 rfl (by decide) (by simp [zv_cat0, zv_cat1, zv_cat2, zv_cats]) ?_
    refine z_iconst dX10_number_89 ?_
    refine z_istore (i := 4) (lv' := [(4, zv s0 0 1), (3, zv s0 0 0), (0, zv s0 2 t), (1, zv s0 0 v1), (2, zv s0 0 v2)]) dX10_number_90 (by decide) (by simp [zv_cat0, zv_cat1, zv_cat2, zv_cats]) ?_
    refine z_lconst (v := 0) dX10_number_92 (by decide) ?_
    refine z_lstore (i := 5) (lv' := [(5, zv s0 1 0), (4, zv s0 0 1), (3, zv s0 0 0), (0, zv s0 2 t), (1, zv s0 0 v1), (2, zv s0 0 v2)]) dX10_number_93 (by decide) (by simp [zv_cat0, zv_cat1, zv_cat2, zv_cats]) ?_
    exact rt_lfew [3, 4, 5, 2, 1, 0] rfl h
  · replace h := h.1 c80
    refine z_iconst dX10_number_83 ?_
    refine rt_goto (tgt := 88) dX10_number_84 (by decide) ?_
    refine z_istore_n (i := 3) (lv' := [(3, zv s0 0 1), (0, zv s0 2 t), (1, zv s0 0 v1), (2, zv s0 0 v2)]) dX10_number_88 rfl (by decide) (by simp [zv_cat0, zv_cat1, zv_cat2, zv_cats]) ?_
    refine z_iconst dX10_number_89 ?_
    refine z_istore (i := 4) (lv' := [(4, zv s0 0 1), (3, zv s0 0 1), (0, zv s0 2 t), (1, zv s0 0 v1), (2, zv s0 0 v2)]) dX10_number_90 (by decide) (by simp [zv_cat0, zv_cat1, zv_cat2, zv_cats]) ?_
    refine z_lconst (v := 0) dX10_number_92 (by decide) ?_
    refine z_lstore (i := 5) (lv' := [(5, zv s0 1 0), (4, zv s0 0 1), (3, zv s0 0 1), (0, zv s0 2 t), (1, zv s0 0 v1), (2, zv s0 0 v2)]) dX10_number_93 (by decide) (by simp [zv_cat0, zv_cat1, zv_cat2, zv_cats]) ?_
    exact rt_lfew [3, 4, 5, 2, 1, 0] rfl h

def zt_X10_number_65 (l : Launch) (s0 : State) (G : va_G) (ca : Nat → ClassId) (d : Nat) (C : Nat × Nat) (S : zS) (w0 : rt_Wd) (t : Int) (v1 : Int) (v2 : Int)  (M : zM) (Q : Int → zM → Prop) (X : zM → Prop) : Prop :=
  zt_X10_number_66 l s0 G ca d C S w0 t v1 v2 0 M Q X
set_option maxRecDepth 100000 in
theorem zs_X10_number_65 {l : Launch} {s0 : State} {a0 : Array Value} {G : va_G} {ca : Nat → ClassId} (Γ : rt_Γ l s0 a0 G ca) {d : Nat} {C : Nat × Nat} {S : zS} (hd : 1 ≤ d) (hok : zok C) {t : Int} (ht : zTx S t) {w0 : rt_Wd} {v1 : Int} {v2 : Int}   {M : zM} {Q : Int → zM → Prop} {X : zM → Prop} (h : zt_X10_number_65 l s0 G ca d C S w0 t v1 v2 M Q X) : zg_X10_number_65 l s0 G ca d C S w0 t v1 v2 M Q X := by
  unfold zt_X10_number_65 at h
  refine z_iconst dX10_number_65 ?_
  exact rt_lfew [0, 1, 2] rfl (zs_X10_number_66 Γ hd hok ht  h)

def zt_X10_number_39 (l : Launch) (s0 : State) (G : va_G) (ca : Nat → ClassId) (d : Nat) (C : Nat × Nat) (S : zS) (w0 : rt_Wd) (t : Int) (v1 : Int) (v2 : Int) (k0 : Int) (M : zM) (Q : Int → zM → Prop) (X : zM → Prop) : Prop :=
  zm_X10_look l s0 G ca (d - 1) C S t  ((zu M t 2 k0)) (fun r44 M44 => zIf (w32 r44 < 48) (zt_X10_number_65 l s0 G ca d C S w0 t v1 v2 M44 Q X) (zm_X10_look l s0 G ca (d - 1) C S t  M44 (fun r53 M53 => zIf (57 < w32 r53) (zt_X10_number_65 l s0 G ca d C S w0 t v1 v2 M53 Q X) (zt_X10_number_66 l s0 G ca d C S w0 t v1 v2 1 M53 Q X)) X)) X
set_option maxRecDepth 100000 in
theorem zs_X10_number_39 {l : Launch} {s0 : State} {a0 : Array Value} {G : va_G} {ca : Nat → ClassId} (Γ : rt_Γ l s0 a0 G ca) {d : Nat} {C : Nat × Nat} {S : zS} (hd : 1 ≤ d) (hok : zok C) {t : Int} (ht : zTx S t) {w0 : rt_Wd} {v1 : Int} {v2 : Int} {k0 : Int}  {M : zM} {Q : Int → zM → Prop} {X : zM → Prop} (h : zt_X10_number_39 l s0 G ca d C S w0 t v1 v2 k0 M Q X) : zg_X10_number_39 l s0 G ca d C S w0 t v1 v2 k0 M Q X := by
  unfold zt_X10_number_39 at h
  refine z_put0 Γ kp_RX10_95 dX10_number_39 ht.1 ht.2.1 rfl (k9 := 2) rfl ?_
  refine z_aload_n dX10_number_42 rfl (j := 0) rfl ?_
  refine z_aload_n dX10_number_43 rfl (j := 0) rfl ?_
  refine z_callV Γ kk_X10_look kc_RX10_101 (As := []) h (by omega) (by decide) (show (parseMethodDescriptor yX10_look.desc).map (fun q => q.parameters.length) = some 0 by decide +kernel) hok (by simp only [List.map, zv_cat0, zv_cat1, zv_cat2, List.sum_cons, List.sum_nil]; decide) dX10_number_44 ht.1 ht.2.1 rfl rfl (fun _ h9 => nomatch h9) ?_
  clear h
  intro r44 M44 h
  show rt_Go _ _ _ _ _ _ _ _ _ _ _ _ 47 [(0, zv s0 2 t), (1, zv s0 0 v1), (2, zv s0 0 v2)] [zv s0 0 r44, zv s0 2 t] (zw s0 ca C S M44)
  refine z_bipush dX10_number_47 (by decide) ?_
  refine z_icmp_lt (tgt := 65) (x' := w32 r44) (y' := 48) rfl (by decide) dX10_number_49 (by decide) (fun c49 => ?_) (fun c49 => ?_)
  · replace h := h.1 c49
    exact rt_lfew [0, 1, 2] rfl (zs_X10_number_65 Γ hd hok ht  h)
  · replace h := h.2 c49
    refine z_aload_n dX10_number_52 rfl (j := 0) rfl ?_
    refine z_callV Γ kk_X10_look kc_RX10_101 (As := []) h (by omega) (by decide) (show (parseMethodDescriptor yX10_look.desc).map (fun q => q.parameters.length) = some 0 by decide +kernel) hok (by simp only [List.map, zv_cat0, zv_cat1, zv_cat2, List.sum_cons, List.sum_nil]; decide) dX10_number_53 ht.1 ht.2.1 rfl rfl (fun _ h9 => nomatch h9) ?_
    clear h
    intro r53 M53 h
    show rt_Go _ _ _ _ _ _ _ _ _ _ _ _ 56 [(0, zv s0 2 t), (1, zv s0 0 v1), (2, zv s0 0 v2)] [zv s0 0 r53, zv s0 2 t] (zw s0 ca C S M53)
    refine z_bipush dX10_number_56 (by decide) ?_
    refine z_icmp_gt (tgt := 65) (x' := w32 r53) (y' := 57) rfl (by decide) dX10_number_58 (by decide) (fun c58 => ?_) (fun c58 => ?_)
    · replace h := h.1 c58
      exact rt_lfew [0, 1, 2] rfl (zs_X10_number_65 Γ hd hok ht  h)
    · replace h := h.2 c58
      refine z_iconst dX10_number_61 ?_
      refine rt_goto (tgt := 66) dX10_number_62 (by decide) ?_
      exact rt_lfew [0, 1, 2] rfl (zs_X10_number_66 Γ hd hok ht  h)

def zt_X10_number_20 (l : Launch) (s0 : State) (G : va_G) (ca : Nat → ClassId) (d : Nat) (C : Nat × Nat) (S : zS) (w0 : rt_Wd) (t : Int) (v1 : Int) (k0 : Int) (M : zM) (Q : Int → zM → Prop) (X : zM → Prop) : Prop :=
  zIf (w32 k0 = 0) (zt_X10_number_39 l s0 G ca d C S w0 t v1 k0 (M t 2) M Q X) (zt_X10_number_39 l s0 G ca d C S w0 t v1 k0 ((M t 2) + 1) M Q X)
set_option maxRecDepth 100000 in
theorem zs_X10_number_20 {l : Launch} {s0 : State} {a0 : Array Value} {G : va_G} {ca : Nat → ClassId} (Γ : rt_Γ l s0 a0 G ca) {d : Nat} {C : Nat × Nat} {S : zS} (hd : 1 ≤ d) (hok : zok C) {t : Int} (ht : zTx S t) {w0 : rt_Wd} {v1 : Int} {k0 : Int}  {M : zM} {Q : Int → zM → Prop} {X : zM → Prop} (h : zt_X10_number_20 l s0 G ca d C S w0 t v1 k0 M Q X) : zg_X10_number_20 l s0 G ca d C S w0 t v1 k0 M Q X := by
  unfold zt_X10_number_20 at h
  refine z_istore_n (i := 2) (lv' := [(2, zv s0 0 k0), (0, zv s0 2 t), (1, zv s0 0 v1)]) dX10_number_20 rfl (by decide) (by simp [zv_cat0, zv_cat1, zv_cat2, zv_cats]) ?_
  refine z_aload_n dX10_number_21 rfl (j := 1) rfl ?_
  refine z_iload_n dX10_number_22 rfl (j := 0) rfl ?_
  refine z_if_eq (tgt := 35) (x' := w32 k0) rfl dX10_number_23 (by decide) (fun c23 => ?_) (fun c23 => ?_)
  · replace h := h.1 c23
    refine z_aload_n dX10_number_35 rfl (j := 1) rfl ?_
    refine z_get Γ kf_RX10_95 dX10_number_36 ht.1 ht.2.1 rfl (by decide) (v9 := M t 2) rfl ?_
    exact rt_lfew [1, 2, 0] rfl (zs_X10_number_39 Γ hd hok ht  h)
  · replace h := h.2 c23
    refine z_aload_n dX10_number_26 rfl (j := 1) rfl ?_
    refine z_get Γ kf_RX10_95 dX10_number_27 ht.1 ht.2.1 rfl (by decide) (v9 := M t 2) rfl ?_
    refine z_iconst dX10_number_30 ?_
    refine z_iadd dX10_number_31 ?_
    refine rt_goto (tgt := 39) dX10_number_32 (by decide) ?_
    exact rt_lfew [1, 2, 0] rfl (zs_X10_number_39 Γ hd hok ht  h)

def zt_X10_number_243 (l : Launch) (s0 : State) (G : va_G) (ca : Nat → ClassId) (d : Nat) (C : Nat × Nat) (S : zS) (w0 : rt_Wd) (t : Int) (v1 : Int) (v2 : Int) (v4 : Int) (v5 : Int)  (M : zM) (Q : Int → zM → Prop) (X : zM → Prop) : Prop :=
  (0 ≤ v1 ∧ v1 < 4200) ∧ (zm_X10_need l s0 G ca (d - 1) C S t v4 1 (M (t + 3) v1) M (fun r253 M253 => zIf (w32 v2 = 0) (Q v1 ((zu M253 (t + 4) v1 (-v5)))) (Q v1 ((zu M253 (t + 4) v1 v5)))) X)
set_option maxRecDepth 100000 in
theorem zs_X10_number_243 {l : Launch} {s0 : State} {a0 : Array Value} {G : va_G} {ca : Nat → ClassId} (Γ : rt_Γ l s0 a0 G ca) {d : Nat} {C : Nat × Nat} {S : zS} (hd : 1 ≤ d) (hok : zok C) {t : Int} (ht : zTx S t) {w0 : rt_Wd} {v1 : Int} {v2 : Int} {v4 : Int} {v5 : Int}   {M : zM} {Q : Int → zM → Prop} {X : zM → Prop} (h : zt_X10_number_243 l s0 G ca d C S w0 t v1 v2 v4 v5 M Q X) : zg_X10_number_243 l s0 G ca d C S w0 t v1 v2 v4 v5 M Q X := by
  unfold zt_X10_number_243 at h
  refine z_aload_n dX10_number_243 rfl (j := 0) rfl ?_
  refine z_iload dX10_number_244 (j := 3) rfl ?_
  refine z_iconst dX10_number_246 ?_
  refine z_aload_n dX10_number_247 rfl (j := 0) rfl ?_
  refine z_getc Γ kf_RX10_19 dX10_number_248 ht.1 ht.2.1 rfl ?_
  refine z_iload_n dX10_number_251 rfl (j := 1) rfl ?_
  obtain ⟨hi252, h⟩ := h
  refine z_iald Γ dX10_number_252 (by have := ht.1; omega) ht.2.2.2.2.1 (by decide) hi252 (v9 := M (t + 3) v1) rfl ?_
  refine z_callV Γ kk_X10_need kc_RX10_105 (As := [zv s0 0 v4, zv s0 0 1, zv s0 0 (M (t + 3) v1)]) h (by omega) (by decide) (show (parseMethodDescriptor yX10_need.desc).map (fun q => q.parameters.length) = some 3 by decide +kernel) hok (Nat.zero_le _) dX10_number_253 ht.1 ht.2.1 rfl rfl (fun _ h9 => nomatch h9) ?_
  clear h
  intro r253 M253 h
  show rt_Go _ _ _ _ _ _ _ _ _ _ _ _ 256 [(0, zv s0 2 t), (1, zv s0 0 v1), (2, zv s0 0 v2), (4, zv s0 0 v4), (5, zv s0 1 v5)] [] (zw s0 ca C S M253)
  refine z_aload_n dX10_number_256 rfl (j := 0) rfl ?_
  refine z_getc Γ kf_RX10_22 dX10_number_257 ht.1 ht.2.1 rfl ?_
  refine z_iload_n dX10_number_260 rfl (j := 1) rfl ?_
  refine z_iload_n dX10_number_261 rfl (j := 2) rfl ?_
  refine z_if_eq (tgt := 270) (x' := w32 v2) rfl dX10_number_262 (by decide) (fun c262 => ?_) (fun c262 => ?_)
  · replace h := h.1 c262
    refine z_lload dX10_number_270 (j := 4) rfl ?_
    refine z_lneg dX10_number_272 ?_
    refine z_last Γ dX10_number_273 (by have := ht.1; omega) ht.2.2.2.2.2.1 (by decide) hi252 ?_
    refine z_iload_n dX10_number_274 rfl (j := 1) rfl ?_
    exact z_iret dX10_number_275 rfl h
  · replace h := h.2 c262
    refine z_lload dX10_number_265 (j := 4) rfl ?_
    refine rt_goto (tgt := 273) dX10_number_267 (by decide) ?_
    refine z_last Γ dX10_number_273 (by have := ht.1; omega) ht.2.2.2.2.2.1 (by decide) hi252 ?_
    refine z_iload_n dX10_number_274 rfl (j := 1) rfl ?_
    exact z_iret dX10_number_275 rfl h

def zt_X10_number_218 (l : Launch) (s0 : State) (G : va_G) (ca : Nat → ClassId) (d : Nat) (C : Nat × Nat) (S : zS) (w0 : rt_Wd) (t : Int) (v1 : Int) (v2 : Int) (v3 : Int) (v4 : Int) (k0 : Int) (M : zM) (Q : Int → zM → Prop) (X : zM → Prop) : Prop :=
  (0 ≤ v1 ∧ v1 < 4200) ∧ (zg_X10_number_95 l s0 G ca d C S w0 t v1 v2 v3 v4 k0 ((zu ((zu M (t + 5) v1 ((M (t + 5) v1) + 1))) t 2 ((M t 2) + 1))) Q X)
set_option maxRecDepth 100000 in
theorem zs_X10_number_218 {l : Launch} {s0 : State} {a0 : Array Value} {G : va_G} {ca : Nat → ClassId} (Γ : rt_Γ l s0 a0 G ca) {d : Nat} {C : Nat × Nat} {S : zS} (hd : 1 ≤ d) (hok : zok C) {t : Int} (ht : zTx S t) {w0 : rt_Wd} {v1 : Int} {v2 : Int} {v3 : Int} {v4 : Int} {k0 : Int}  {M : zM} {Q : Int → zM → Prop} {X : zM → Prop} (h : zt_X10_number_218 l s0 G ca d C S w0 t v1 v2 v3 v4 k0 M Q X) : zg_X10_number_218 l s0 G ca d C S w0 t v1 v2 v3 v4 k0 M Q X := by
  unfold zt_X10_number_218 at h
  refine z_lstore (i := 5) (lv' := [(5, zv s0 1 k0), (0, zv s0 2 t), (1, zv s0 0 v1), (2, zv s0 0 v2), (3, zv s0 0 v3), (4, zv s0 0 v4)]) dX10_number_218 (by decide) (by simp [zv_cat0, zv_cat1, zv_cat2, zv_cats]) ?_
  refine z_aload_n dX10_number_220 rfl (j := 1) rfl ?_
  refine z_getc Γ kf_RX10_26 dX10_number_221 ht.1 ht.2.1 rfl ?_
  refine z_iload_n dX10_number_224 rfl (j := 2) rfl ?_
  refine z_dupp dX10_number_225 ?_
  obtain ⟨hi226, h⟩ := h
  refine z_iald Γ dX10_number_226 (by have := ht.1; omega) ht.2.2.2.2.2.2.1 (by decide) hi226 (v9 := M (t + 5) v1) rfl ?_
  refine z_iconst dX10_number_227 ?_
  refine z_iadd dX10_number_228 ?_
  refine z_iast Γ dX10_number_229 (by have := ht.1; omega) ht.2.2.2.2.2.2.1 (by decide) hi226 ?_
  refine z_aload_n dX10_number_230 rfl (j := 1) rfl ?_
  refine z_dup2 dX10_number_231 ?_
  refine z_get Γ kf_RX10_95 dX10_number_232 ht.1 ht.2.1 rfl (by decide) (v9 := M t 2) ((zu_a (by omega)).trans rfl) ?_
  refine z_iconst dX10_number_235 ?_
  refine z_iadd dX10_number_236 ?_
  refine z_put0 Γ kp_RX10_95 dX10_number_237 ht.1 ht.2.1 rfl (k9 := 2) rfl ?_
  refine rt_goto (tgt := 95) dX10_number_240 (by decide) ?_
  exact rt_lfew [1, 2, 3, 4, 5, 0] rfl h

def zt_X10_number_196 (l : Launch) (s0 : State) (G : va_G) (ca : Nat → ClassId) (d : Nat) (C : Nat × Nat) (S : zS) (w0 : rt_Wd) (t : Int) (v1 : Int) (v2 : Int) (v3 : Int) (v5 : Int) (v7 : Int) (k0 : Int) (M : zM) (Q : Int → zM → Prop) (X : zM → Prop) : Prop :=
  zIf (w32 k0 = 0) (zt_X10_number_218 l s0 G ca d C S w0 t v1 v2 v3 k0 v5 M Q X) (zt_X10_number_218 l s0 G ca d C S w0 t v1 v2 v3 k0 ((10 * v5) - (w32 v7)) M Q X)
set_option maxRecDepth 100000 in
theorem zs_X10_number_196 {l : Launch} {s0 : State} {a0 : Array Value} {G : va_G} {ca : Nat → ClassId} (Γ : rt_Γ l s0 a0 G ca) {d : Nat} {C : Nat × Nat} {S : zS} (hd : 1 ≤ d) (hok : zok C) {t : Int} (ht : zTx S t) {w0 : rt_Wd} {v1 : Int} {v2 : Int} {v3 : Int} {v5 : Int} {v7 : Int} {k0 : Int}  {M : zM} {Q : Int → zM → Prop} {X : zM → Prop} (h : zt_X10_number_196 l s0 G ca d C S w0 t v1 v2 v3 v5 v7 k0 M Q X) : zg_X10_number_196 l s0 G ca d C S w0 t v1 v2 v3 v5 v7 k0 M Q X := by
  unfold zt_X10_number_196 at h
  refine z_istore (i := 4) (lv' := [(4, zv s0 0 k0), (0, zv s0 2 t), (1, zv s0 0 v1), (2, zv s0 0 v2), (3, zv s0 0 v3), (5, zv s0 1 v5), (7, zv s0 0 v7)]) dX10_number_196 (by decide) (by simp [zv_cat0, zv_cat1, zv_cat2, zv_cats]) ?_
  refine z_iload dX10_number_198 (j := 0) rfl ?_
  refine z_if_eq (tgt := 216) (x' := w32 k0) rfl dX10_number_200 (by decide) (fun c200 => ?_) (fun c200 => ?_)
  · replace h := h.1 c200
    refine z_lload dX10_number_216 (j := 5) rfl ?_
    exact rt_lfew [1, 2, 3, 4, 0] rfl (zs_X10_number_218 Γ hd hok ht  h)
  · replace h := h.2 c200
    refine rt_ldc2 Γ dX10_number_203 kv_RX10_175 ?_
    show rt_Go _ _ _ _ _ _ _ _ _ _ _ _ 206 [(4, zv s0 0 k0), (0, zv s0 2 t), (1, zv s0 0 v1), (2, zv s0 0 v2), (3, zv s0 0 v3), (5, zv s0 1 v5), (7, zv s0 0 v7)] [zv s0 1 10] _
    refine z_lload dX10_number_206 (j := 5) rfl ?_
    refine z_lmul dX10_number_208 ?_
    refine z_iload dX10_number_209 (j := 6) rfl ?_
    refine z_i2l dX10_number_211 ?_
    refine z_lsub dX10_number_212 ?_
    refine rt_goto (tgt := 218) dX10_number_213 (by decide) ?_
    exact rt_lfew [1, 2, 3, 4, 0] rfl (zs_X10_number_218 Γ hd hok ht  h)

def zt_X10_number_195 (l : Launch) (s0 : State) (G : va_G) (ca : Nat → ClassId) (d : Nat) (C : Nat × Nat) (S : zS) (w0 : rt_Wd) (t : Int) (v1 : Int) (v2 : Int) (v3 : Int) (v5 : Int) (v7 : Int)  (M : zM) (Q : Int → zM → Prop) (X : zM → Prop) : Prop :=
  zt_X10_number_196 l s0 G ca d C S w0 t v1 v2 v3 v5 v7 0 M Q X
set_option maxRecDepth 100000 in
theorem zs_X10_number_195 {l : Launch} {s0 : State} {a0 : Array Value} {G : va_G} {ca : Nat → ClassId} (Γ : rt_Γ l s0 a0 G ca) {d : Nat} {C : Nat × Nat} {S : zS} (hd : 1 ≤ d) (hok : zok C) {t : Int} (ht : zTx S t) {w0 : rt_Wd} {v1 : Int} {v2 : Int} {v3 : Int} {v5 : Int} {v7 : Int}   {M : zM} {Q : Int → zM → Prop} {X : zM → Prop} (h : zt_X10_number_195 l s0 G ca d C S w0 t v1 v2 v3 v5 v7 M Q X) : zg_X10_number_195 l s0 G ca d C S w0 t v1 v2 v3 v5 v7 M Q X := by
  unfold zt_X10_number_195 at h
  refine z_iconst dX10_number_195 ?_
  exact rt_lfew [0, 1, 2, 3, 4, 5] rfl (zs_X10_number_196 Γ hd hok ht  h)

def zt_X10_number_191 (l : Launch) (s0 : State) (G : va_G) (ca : Nat → ClassId) (d : Nat) (C : Nat × Nat) (S : zS) (w0 : rt_Wd) (t : Int) (v1 : Int) (v2 : Int) (v3 : Int) (v5 : Int) (v7 : Int)  (M : zM) (Q : Int → zM → Prop) (X : zM → Prop) : Prop :=
  zt_X10_number_196 l s0 G ca d C S w0 t v1 v2 v3 v5 v7 1 M Q X
set_option maxRecDepth 100000 in
theorem zs_X10_number_191 {l : Launch} {s0 : State} {a0 : Array Value} {G : va_G} {ca : Nat → ClassId} (Γ : rt_Γ l s0 a0 G ca) {d : Nat} {C : Nat × Nat} {S : zS} (hd : 1 ≤ d) (hok : zok C) {t : Int} (ht : zTx S t) {w0 : rt_Wd} {v1 : Int} {v2 : Int} {v3 : Int} {v5 : Int} {v7 : Int}   {M : zM} {Q : Int → zM → Prop} {X : zM → Prop} (h : zt_X10_number_191 l s0 G ca d C S w0 t v1 v2 v3 v5 v7 M Q X) : zg_X10_number_191 l s0 G ca d C S w0 t v1 v2 v3 v5 v7 M Q X := by
  unfold zt_X10_number_191 at h
  refine z_iconst dX10_number_191 ?_
  refine rt_goto (tgt := 196) dX10_number_192 (by decide) ?_
  exact rt_lfew [0, 1, 2, 3, 4, 5] rfl (zs_X10_number_196 Γ hd hok ht  h)

def zt_X10_number_188 (l : Launch) (s0 : State) (G : va_G) (ca : Nat → ClassId) (d : Nat) (C : Nat × Nat) (S : zS) (w0 : rt_Wd) (t : Int) (v1 : Int) (v2 : Int) (v3 : Int) (v5 : Int) (v7 : Int) (k0 : Int) (k1 : Int) (M : zM) (Q : Int → zM → Prop) (X : zM → Prop) : Prop :=
  zIf (w32 k0 < w32 k1) (zt_X10_number_195 l s0 G ca d C S w0 t v1 v2 v3 v5 v7 M Q X) (zt_X10_number_191 l s0 G ca d C S w0 t v1 v2 v3 v5 v7 M Q X)
set_option maxRecDepth 100000 in
theorem zs_X10_number_188 {l : Launch} {s0 : State} {a0 : Array Value} {G : va_G} {ca : Nat → ClassId} (Γ : rt_Γ l s0 a0 G ca) {d : Nat} {C : Nat × Nat} {S : zS} (hd : 1 ≤ d) (hok : zok C) {t : Int} (ht : zTx S t) {w0 : rt_Wd} {v1 : Int} {v2 : Int} {v3 : Int} {v5 : Int} {v7 : Int} {k0 : Int} {k1 : Int}  {M : zM} {Q : Int → zM → Prop} {X : zM → Prop} (h : zt_X10_number_188 l s0 G ca d C S w0 t v1 v2 v3 v5 v7 k0 k1 M Q X) : zg_X10_number_188 l s0 G ca d C S w0 t v1 v2 v3 v5 v7 k0 k1 M Q X := by
  unfold zt_X10_number_188 at h
  refine z_icmp_gt (tgt := 195) (x' := w32 k1) (y' := w32 k0) rfl rfl dX10_number_188 (by decide) (fun c188 => ?_) (fun c188 => ?_)
  · replace h := h.1 c188
    exact rt_lfew [0, 1, 2, 3, 4, 5] rfl (zs_X10_number_195 Γ hd hok ht  h)
  · replace h := h.2 c188
    exact rt_lfew [0, 1, 2, 3, 4, 5] rfl (zs_X10_number_191 Γ hd hok ht  h)

def zt_X10_number_143 (l : Launch) (s0 : State) (G : va_G) (ca : Nat → ClassId) (d : Nat) (C : Nat × Nat) (S : zS) (w0 : rt_Wd) (t : Int) (v1 : Int) (v2 : Int) (v3 : Int) (v4 : Int) (v5 : Int)  (M : zM) (Q : Int → zM → Prop) (X : zM → Prop) : Prop :=
  zm_X10_look l s0 G ca (d - 1) C S t  M (fun r144 M144 => zIf (w32 v4 = 0) (zt_X10_number_195 l s0 G ca d C S w0 t v1 v2 v3 v5 (r144 - 48) M144 Q X) (zIf (((-922337203685477580)) < w64 v5) (zt_X10_number_191 l s0 G ca d C S w0 t v1 v2 v3 v5 (r144 - 48) M144 Q X) (zIf (w64 v5 = ((-922337203685477580))) (zIf (w32 v2 = 0) (zt_X10_number_188 l s0 G ca d C S w0 t v1 v2 v3 v5 (r144 - 48) 7 (r144 - 48) M144 Q X) (zt_X10_number_188 l s0 G ca d C S w0 t v1 v2 v3 v5 (r144 - 48) 8 (r144 - 48) M144 Q X)) (zt_X10_number_195 l s0 G ca d C S w0 t v1 v2 v3 v5 (r144 - 48) M144 Q X)))) X
set_option maxRecDepth 100000 in
theorem zs_X10_number_143 {l : Launch} {s0 : State} {a0 : Array Value} {G : va_G} {ca : Nat → ClassId} (Γ : rt_Γ l s0 a0 G ca) {d : Nat} {C : Nat × Nat} {S : zS} (hd : 1 ≤ d) (hok : zok C) {t : Int} (ht : zTx S t) {w0 : rt_Wd} {v1 : Int} {v2 : Int} {v3 : Int} {v4 : Int} {v5 : Int}   {M : zM} {Q : Int → zM → Prop} {X : zM → Prop} (h : zt_X10_number_143 l s0 G ca d C S w0 t v1 v2 v3 v4 v5 M Q X) : zg_X10_number_143 l s0 G ca d C S w0 t v1 v2 v3 v4 v5 M Q X := by
  unfold zt_X10_number_143 at h
  refine z_aload_n dX10_number_143 rfl (j := 0) rfl ?_
  refine z_callV Γ kk_X10_look kc_RX10_101 (As := []) h (by omega) (by decide) (show (parseMethodDescriptor yX10_look.desc).map (fun q => q.parameters.length) = some 0 by decide +kernel) hok (Nat.zero_le _) dX10_number_144 ht.1 ht.2.1 rfl rfl (fun _ h9 => nomatch h9) ?_
  clear h
  intro r144 M144 h
  show rt_Go _ _ _ _ _ _ _ _ _ _ _ _ 147 [(0, zv s0 2 t), (1, zv s0 0 v1), (2, zv s0 0 v2), (3, zv s0 0 v3), (4, zv s0 0 v4), (5, zv s0 1 v5)] [zv s0 0 r144] (zw s0 ca C S M144)
  refine z_bipush dX10_number_147 (by decide) ?_
  refine z_isub dX10_number_149 ?_
  refine z_istore (i := 7) (lv' := [(7, zv s0 0 (r144 - 48)), (0, zv s0 2 t), (1, zv s0 0 v1), (2, zv s0 0 v2), (3, zv s0 0 v3), (4, zv s0 0 v4), (5, zv s0 1 v5)]) dX10_number_150 (by decide) (by simp [zv_cat0, zv_cat1, zv_cat2, zv_cats]) ?_
  refine z_iload dX10_number_152 (j := 5) rfl ?_
  refine z_if_eq (tgt := 195) (x' := w32 v4) rfl dX10_number_154 (by decide) (fun c154 => ?_) (fun c154 => ?_)
  · replace h := h.1 c154
    exact rt_lfew [1, 2, 3, 4, 6, 0] rfl (zs_X10_number_195 Γ hd hok ht  h)
  · replace h := h.2 c154
    refine z_lload dX10_number_157 (j := 6) rfl ?_
    refine rt_ldc2 Γ dX10_number_159 kv_RX10_173 ?_
    show rt_Go _ _ _ _ _ _ _ _ _ _ _ _ 162 [(7, zv s0 0 (r144 - 48)), (0, zv s0 2 t), (1, zv s0 0 v1), (2, zv s0 0 v2), (3, zv s0 0 v3), (4, zv s0 0 v4), (5, zv s0 1 v5)] [zv s0 1 ((-922337203685477580)), zv s0 1 v5] _
    refine z_lif_gt (tgt := 191) (x' := w64 v5) (y' := ((-922337203685477580))) rfl (by decide) dX10_number_162 dX10_number_163 (by decide) (fun c162 => ?_) (fun c162 => ?_)
    · replace h := h.1 c162
      exact rt_lfew [1, 2, 3, 4, 6, 0] rfl (zs_X10_number_191 Γ hd hok ht  h)
    · replace h := h.2 c162
      refine z_lload dX10_number_166 (j := 6) rfl ?_
      refine rt_ldc2 Γ dX10_number_168 kv_RX10_173 ?_
      show rt_Go _ _ _ _ _ _ _ _ _ _ _ _ 171 [(7, zv s0 0 (r144 - 48)), (0, zv s0 2 t), (1, zv s0 0 v1), (2, zv s0 0 v2), (3, zv s0 0 v3), (4, zv s0 0 v4), (5, zv s0 1 v5)] [zv s0 1 ((-922337203685477580)), zv s0 1 v5] _
      refine z_lif_ne (tgt := 195) (x' := w64 v5) (y' := ((-922337203685477580))) rfl (by decide) dX10_number_171 dX10_number_172 (by decide) (fun c171 => ?_) (fun c171 => ?_)
      · replace h := h.2 c171
        exact rt_lfew [1, 2, 3, 4, 6, 0] rfl (zs_X10_number_195 Γ hd hok ht  h)
      · replace h := h.1 c171
        refine z_iload dX10_number_175 (j := 0) rfl ?_
        refine z_iload_n dX10_number_177 rfl (j := 3) rfl ?_
        refine z_if_eq (tgt := 186) (x' := w32 v2) rfl dX10_number_178 (by decide) (fun c178 => ?_) (fun c178 => ?_)
        · replace h := h.1 c178
          refine z_bipush dX10_number_186 (by decide) ?_
          exact rt_lfew [1, 2, 3, 4, 6, 0] rfl (zs_X10_number_188 Γ hd hok ht  h)
        · replace h := h.2 c178
          refine z_bipush dX10_number_181 (by decide) ?_
          refine rt_goto (tgt := 188) dX10_number_183 (by decide) ?_
          exact rt_lfew [1, 2, 3, 4, 6, 0] rfl (zs_X10_number_188 Γ hd hok ht  h)

def zt_X10_number_95 (l : Launch) (s0 : State) (G : va_G) (ca : Nat → ClassId) (d : Nat) (C : Nat × Nat) (S : zS) (w0 : rt_Wd) (t : Int) (v1 : Int) (v2 : Int) (v3 : Int) (v4 : Int) (v5 : Int)  (M : zM) (Q : Int → zM → Prop) (X : zM → Prop) : Prop :=
  zm_X10_look l s0 G ca (d - 1) C S t  M (fun r96 M96 => zIf (w32 r96 < 48) (zt_X10_number_243 l s0 G ca d C S w0 t v1 v2 v4 v5 M96 Q X) (zm_X10_look l s0 G ca (d - 1) C S t  M96 (fun r105 M105 => zIf (57 < w32 r105) (zt_X10_number_243 l s0 G ca d C S w0 t v1 v2 v4 v5 M105 Q X) (zIf (w32 v3 = 0) (zt_X10_number_143 l s0 G ca d C S w0 t v1 v2 v3 v4 v5 M105 Q X) (zIf (w64 v5 = 0) ((0 ≤ v1 ∧ v1 < 4200) ∧ (zIf (w32 (M105 (t + 2) v1) = 3) (zIf (w32 (M105 (t + 5) v1) = 0) (zt_X10_number_143 l s0 G ca d C S w0 t v1 v2 v3 v4 v5 M105 Q X) (zt_X10_number_243 l s0 G ca d C S w0 t v1 v2 v4 v5 M105 Q X)) (zt_X10_number_243 l s0 G ca d C S w0 t v1 v2 v4 v5 M105 Q X))) (zt_X10_number_243 l s0 G ca d C S w0 t v1 v2 v4 v5 M105 Q X)))) X)) X
set_option maxRecDepth 100000 in
theorem zs_X10_number_95 {l : Launch} {s0 : State} {a0 : Array Value} {G : va_G} {ca : Nat → ClassId} (Γ : rt_Γ l s0 a0 G ca) {d : Nat} {C : Nat × Nat} {S : zS} (hd : 1 ≤ d) (hok : zok C) {t : Int} (ht : zTx S t) {w0 : rt_Wd} {v1 : Int} {v2 : Int} {v3 : Int} {v4 : Int} {v5 : Int}   {M : zM} {Q : Int → zM → Prop} {X : zM → Prop} (h : zt_X10_number_95 l s0 G ca d C S w0 t v1 v2 v3 v4 v5 M Q X) : zg_X10_number_95 l s0 G ca d C S w0 t v1 v2 v3 v4 v5 M Q X := by
  unfold zt_X10_number_95 at h
  refine z_aload_n dX10_number_95 rfl (j := 0) rfl ?_
  refine z_callV Γ kk_X10_look kc_RX10_101 (As := []) h (by omega) (by decide) (show (parseMethodDescriptor yX10_look.desc).map (fun q => q.parameters.length) = some 0 by decide +kernel) hok (Nat.zero_le _) dX10_number_96 ht.1 ht.2.1 rfl rfl (fun _ h9 => nomatch h9) ?_
  clear h
  intro r96 M96 h
  show rt_Go _ _ _ _ _ _ _ _ _ _ _ _ 99 [(0, zv s0 2 t), (1, zv s0 0 v1), (2, zv s0 0 v2), (3, zv s0 0 v3), (4, zv s0 0 v4), (5, zv s0 1 v5)] [zv s0 0 r96] (zw s0 ca C S M96)
  refine z_bipush dX10_number_99 (by decide) ?_
  refine z_icmp_lt (tgt := 243) (x' := w32 r96) (y' := 48) rfl (by decide) dX10_number_101 (by decide) (fun c101 => ?_) (fun c101 => ?_)
  · replace h := h.1 c101
    exact rt_lfew [0, 1, 2, 4, 5] rfl (zs_X10_number_243 Γ hd hok ht  h)
  · replace h := h.2 c101
    refine z_aload_n dX10_number_104 rfl (j := 0) rfl ?_
    refine z_callV Γ kk_X10_look kc_RX10_101 (As := []) h (by omega) (by decide) (show (parseMethodDescriptor yX10_look.desc).map (fun q => q.parameters.length) = some 0 by decide +kernel) hok (Nat.zero_le _) dX10_number_105 ht.1 ht.2.1 rfl rfl (fun _ h9 => nomatch h9) ?_
    clear h
    intro r105 M105 h
    show rt_Go _ _ _ _ _ _ _ _ _ _ _ _ 108 [(0, zv s0 2 t), (1, zv s0 0 v1), (2, zv s0 0 v2), (3, zv s0 0 v3), (4, zv s0 0 v4), (5, zv s0 1 v5)] [zv s0 0 r105] (zw s0 ca C S M105)
    refine z_bipush dX10_number_108 (by decide) ?_
    refine z_icmp_gt (tgt := 243) (x' := w32 r105) (y' := 57) rfl (by decide) dX10_number_110 (by decide) (fun c110 => ?_) (fun c110 => ?_)
    · replace h := h.1 c110
      exact rt_lfew [0, 1, 2, 4, 5] rfl (zs_X10_number_243 Γ hd hok ht  h)
    · replace h := h.2 c110
      refine z_iload_n dX10_number_113 rfl (j := 3) rfl ?_
      refine z_if_eq (tgt := 143) (x' := w32 v3) rfl dX10_number_114 (by decide) (fun c114 => ?_) (fun c114 => ?_)
      · replace h := h.1 c114
        exact rt_lfew [0, 1, 2, 3, 4, 5] rfl (zs_X10_number_143 Γ hd hok ht  h)
      · replace h := h.2 c114
        refine z_lload dX10_number_117 (j := 5) rfl ?_
        refine z_lconst (v := 0) dX10_number_119 (by decide) ?_
        refine z_lif_ne (tgt := 243) (x' := w64 v5) (y' := 0) rfl (by decide) dX10_number_120 dX10_number_121 (by decide) (fun c120 => ?_) (fun c120 => ?_)
        · replace h := h.2 c120
          exact rt_lfew [0, 1, 2, 4, 5] rfl (zs_X10_number_243 Γ hd hok ht  h)
        · replace h := h.1 c120
          refine z_aload_n dX10_number_124 rfl (j := 0) rfl ?_
          refine z_getc Γ kf_RX10_15 dX10_number_125 ht.1 ht.2.1 rfl ?_
          refine z_iload_n dX10_number_128 rfl (j := 1) rfl ?_
          obtain ⟨hi129, h⟩ := h
          refine z_iald Γ dX10_number_129 (by have := ht.1; omega) ht.2.2.2.1 (by decide) hi129 (v9 := M105 (t + 2) v1) rfl ?_
          refine z_iconst dX10_number_130 ?_
          refine z_icmp_ne (tgt := 243) (x' := w32 (M105 (t + 2) v1)) (y' := 3) rfl (by decide) dX10_number_131 (by decide) (fun c131 => ?_) (fun c131 => ?_)
          · replace h := h.2 c131
            exact rt_lfew [0, 1, 2, 4, 5] rfl (zs_X10_number_243 Γ hd hok ht  h)
          · replace h := h.1 c131
            refine z_aload_n dX10_number_134 rfl (j := 0) rfl ?_
            refine z_getc Γ kf_RX10_26 dX10_number_135 ht.1 ht.2.1 rfl ?_
            refine z_iload_n dX10_number_138 rfl (j := 1) rfl ?_
            refine z_iald Γ dX10_number_139 (by have := ht.1; omega) ht.2.2.2.2.2.2.1 (by decide) hi129 (v9 := M105 (t + 5) v1) rfl ?_
            refine z_if_ne (tgt := 243) (x' := w32 (M105 (t + 5) v1)) rfl dX10_number_140 (by decide) (fun c140 => ?_) (fun c140 => ?_)
            · replace h := h.2 c140
              exact rt_lfew [0, 1, 2, 4, 5] rfl (zs_X10_number_243 Γ hd hok ht  h)
            · replace h := h.1 c140
              exact rt_lfew [0, 1, 2, 3, 4, 5] rfl (zs_X10_number_143 Γ hd hok ht  h)

def zt_X10_number (l : Launch) (s0 : State) (G : va_G) (ca : Nat → ClassId) (d : Nat) (C : Nat × Nat) (S : zS) (w0 : rt_Wd) (t : Int)  (M : zM) (Q : Int → zM → Prop) (X : zM → Prop) : Prop :=
  zm_X10_node l s0 G ca (d - 1) C S t 3 M (fun r2 M2 => zm_X10_look l s0 G ca (d - 1) C S t  M2 (fun r7 M7 => zIf (w32 r7 = 45) (zt_X10_number_20 l s0 G ca d C S w0 t r2 1 M7 Q X) (zt_X10_number_20 l s0 G ca d C S w0 t r2 0 M7 Q X)) X) X
set_option maxRecDepth 100000 in
theorem z_X10_number {l : Launch} {s0 : State} {a0 : Array Value} {G : va_G} {ca : Nat → ClassId} (Γ : rt_Γ l s0 a0 G ca) {d : Nat} {C : Nat × Nat} {S : zS} (hd : 1 ≤ d) (hok : zok C) {t : Int} (ht : zTx S t)  {M : zM} {Q : Int → zM → Prop} {X : zM → Prop} (h : zt_X10_number l s0 G ca d C S (zw s0 ca C S M) t  M Q X) : zm_X10_number l s0 G ca d C S t  M Q X := by
  refine z_met (lv := [(0, zv s0 2 t)]) Γ kk_X10_number rfl (show (lg_sl [zv s0 2 t]).length ≤ 8 from by simp only [zn_2, show (lg_sl []).length = 0 from rfl]; omega) (show lv_args 0 [zv s0 2 t] = [(0, zv s0 2 t)] from by rw [zl_2]; rfl) ?_
  unfold zt_X10_number at h
  refine z_aload_n dX10_number_0 rfl (j := 0) rfl ?_
  refine z_iconst dX10_number_1 ?_
  refine z_callV Γ kk_X10_node kc_RX10_127 (As := [zv s0 0 3]) h (by omega) (by decide) (show (parseMethodDescriptor yX10_node.desc).map (fun q => q.parameters.length) = some 1 by decide +kernel) hok (Nat.zero_le _) dX10_number_2 ht.1 ht.2.1 rfl rfl (fun _ h9 => nomatch h9) ?_
  clear h
  intro r2 M2 h
  show rt_Go _ _ _ _ _ _ _ _ _ _ _ _ 5 [(0, zv s0 2 t)] [zv s0 0 r2] (zw s0 ca C S M2)
  refine z_istore_n (i := 1) (lv' := [(1, zv s0 0 r2), (0, zv s0 2 t)]) dX10_number_5 rfl (by decide) (by simp [zv_cat0, zv_cat1, zv_cat2, zv_cats]) ?_
  refine z_aload_n dX10_number_6 rfl (j := 1) rfl ?_
  refine z_callV Γ kk_X10_look kc_RX10_101 (As := []) h (by omega) (by decide) (show (parseMethodDescriptor yX10_look.desc).map (fun q => q.parameters.length) = some 0 by decide +kernel) hok (Nat.zero_le _) dX10_number_7 ht.1 ht.2.1 rfl rfl (fun _ h9 => nomatch h9) ?_
  clear h
  intro r7 M7 h
  show rt_Go _ _ _ _ _ _ _ _ _ _ _ _ 10 [(1, zv s0 0 r2), (0, zv s0 2 t)] [zv s0 0 r7] (zw s0 ca C S M7)
  refine z_bipush dX10_number_10 (by decide) ?_
  refine z_icmp_ne (tgt := 19) (x' := w32 r7) (y' := 45) rfl (by decide) dX10_number_12 (by decide) (fun c12 => ?_) (fun c12 => ?_)
  · replace h := h.2 c12
    refine z_iconst dX10_number_19 ?_
    exact rt_lfew [1, 0] rfl (zs_X10_number_20 Γ hd hok ht  h)
  · replace h := h.1 c12
    refine z_iconst dX10_number_15 ?_
    refine rt_goto (tgt := 20) dX10_number_16 (by decide) ?_
    exact rt_lfew [1, 0] rfl (zs_X10_number_20 Γ hd hok ht  h)

abbrev zg_X10_list_37 (l : Launch) (s0 : State) (G : va_G) (ca : Nat → ClassId) (d : Nat) (C : Nat × Nat) (S : zS) (w0 : rt_Wd) (t : Int) (v1 : Int) (v2 : Int) (v3 : Int)  (M : zM) (Q : Int → zM → Prop) (X : zM → Prop) : Prop := rt_Go l s0 G RX10 "list" cX10_list 5 (Option.some FieldType.int) [] d w0 (zQ s0 ca 0 C S Q X) 37 [(0, zv s0 2 t), (1, zv s0 0 v1), (2, zv s0 0 v2), (3, zv s0 0 v3)] [] (zw s0 ca C S M)
abbrev zg_X10_list_70 (l : Launch) (s0 : State) (G : va_G) (ca : Nat → ClassId) (d : Nat) (C : Nat × Nat) (S : zS) (w0 : rt_Wd) (t : Int) (v1 : Int) (v4 : Int)  (M : zM) (Q : Int → zM → Prop) (X : zM → Prop) : Prop := rt_Go l s0 G RX10 "list" cX10_list 5 (Option.some FieldType.int) [] d w0 (zQ s0 ca 0 C S Q X) 70 [(0, zv s0 2 t), (1, zv s0 0 v1), (4, zv s0 0 v4)] [] (zw s0 ca C S M)
abbrev zg_X10_list_101 (l : Launch) (s0 : State) (G : va_G) (ca : Nat → ClassId) (d : Nat) (C : Nat × Nat) (S : zS) (w0 : rt_Wd) (t : Int) (v1 : Int) (v2 : Int) (k0 : Int) (M : zM) (Q : Int → zM → Prop) (X : zM → Prop) : Prop := rt_Go l s0 G RX10 "list" cX10_list 5 (Option.some FieldType.int) [] d w0 (zQ s0 ca 0 C S Q X) 101 [(0, zv s0 2 t), (1, zv s0 0 v1), (2, zv s0 0 v2)] [zv s0 0 k0] (zw s0 ca C S M)
def zt_X10_list_101 (l : Launch) (s0 : State) (G : va_G) (ca : Nat → ClassId) (d : Nat) (C : Nat × Nat) (S : zS) (w0 : rt_Wd) (t : Int) (v1 : Int) (v2 : Int) (k0 : Int) (M : zM) (Q : Int → zM → Prop) (X : zM → Prop) : Prop :=
  zIf (w32 k0 = 0) (zg_X10_list_37 l s0 G ca d C S w0 t v1 v2 k0 M Q X) (zm_X10_blanks l s0 G ca (d - 1) C S t  ((zu M t 2 ((M t 2) + 1))) (fun r117 M117 => zg_X10_list_37 l s0 G ca d C S w0 t v1 v2 k0 M117 Q X) X)
set_option maxRecDepth 100000 in
theorem zs_X10_list_101 {l : Launch} {s0 : State} {a0 : Array Value} {G : va_G} {ca : Nat → ClassId} (Γ : rt_Γ l s0 a0 G ca) {d : Nat} {C : Nat × Nat} {S : zS} (hd : 1 ≤ d) (hok : zok C) {t : Int} (ht : zTx S t) {w0 : rt_Wd} {v1 : Int} {v2 : Int} {k0 : Int}  {M : zM} {Q : Int → zM → Prop} {X : zM → Prop} (h : zt_X10_list_101 l s0 G ca d C S w0 t v1 v2 k0 M Q X) : zg_X10_list_101 l s0 G ca d C S w0 t v1 v2 k0 M Q X := by
  unfold zt_X10_list_101 at h
  refine z_istore_n (i := 3) (lv' := [(3, zv s0 0 k0), (0, zv s0 2 t), (1, zv s0 0 v1), (2, zv s0 0 v2)]) dX10_list_101 rfl (by decide) (by simp [zv_cat0, zv_cat1, zv_cat2, zv_cats]) ?_
  refine z_iload_n dX10_list_102 rfl (j := 0) rfl ?_
  refine z_if_eq (tgt := 120) (x' := w32 k0) rfl dX10_list_103 (by decide) (fun c103 => ?_) (fun c103 => ?_)
  · replace h := h.1 c103
    refine rt_goto (tgt := 37) dX10_list_120 (by decide) ?_
    exact rt_lfew [1, 2, 3, 0] rfl h
  · replace h := h.2 c103
    refine z_aload_n dX10_list_106 rfl (j := 1) rfl ?_
    refine z_dup2 dX10_list_107 ?_
    refine z_get Γ kf_RX10_95 dX10_list_108 ht.1 ht.2.1 rfl (by decide) (v9 := M t 2) rfl ?_
    refine z_iconst dX10_list_111 ?_
    refine z_iadd dX10_list_112 ?_
    refine z_put0 Γ kp_RX10_95 dX10_list_113 ht.1 ht.2.1 rfl (k9 := 2) rfl ?_
    refine z_aload_n dX10_list_116 rfl (j := 1) rfl ?_
    refine z_callV Γ kk_X10_blanks kc_RX10_149 (As := []) h (by omega) (by decide) (show (parseMethodDescriptor yX10_blanks.desc).map (fun q => q.parameters.length) = some 0 by decide +kernel) hok (Nat.zero_le _) dX10_list_117 ht.1 ht.2.1 rfl rfl (fun _ h9 => nomatch h9) ?_
    clear h
    intro r117 M117 h
    show rt_Go _ _ _ _ _ _ _ _ _ _ _ _ 120 [(3, zv s0 0 k0), (0, zv s0 2 t), (1, zv s0 0 v1), (2, zv s0 0 v2)] [] (zw s0 ca C S M117)
    refine rt_goto (tgt := 37) dX10_list_120 (by decide) ?_
    exact rt_lfew [1, 2, 3, 0] rfl h

def zt_X10_list_70 (l : Launch) (s0 : State) (G : va_G) (ca : Nat → ClassId) (d : Nat) (C : Nat × Nat) (S : zS) (w0 : rt_Wd) (t : Int) (v1 : Int) (v4 : Int)  (M : zM) (Q : Int → zM → Prop) (X : zM → Prop) : Prop :=
  (0 ≤ v1 ∧ v1 < 4200) ∧ (zm_X10_blanks l s0 G ca (d - 1) C S t  ((zu M (t + 5) v1 ((M (t + 5) v1) + 1))) (fun r84 M84 => zm_X10_look l s0 G ca (d - 1) C S t  M84 (fun r88 M88 => zIf (w32 r88 = 44) (zt_X10_list_101 l s0 G ca d C S w0 t v1 v4 1 M88 Q X) (zt_X10_list_101 l s0 G ca d C S w0 t v1 v4 0 M88 Q X)) X) X)
set_option maxRecDepth 100000 in
theorem zs_X10_list_70 {l : Launch} {s0 : State} {a0 : Array Value} {G : va_G} {ca : Nat → ClassId} (Γ : rt_Γ l s0 a0 G ca) {d : Nat} {C : Nat × Nat} {S : zS} (hd : 1 ≤ d) (hok : zok C) {t : Int} (ht : zTx S t) {w0 : rt_Wd} {v1 : Int} {v4 : Int}   {M : zM} {Q : Int → zM → Prop} {X : zM → Prop} (h : zt_X10_list_70 l s0 G ca d C S w0 t v1 v4 M Q X) : zg_X10_list_70 l s0 G ca d C S w0 t v1 v4 M Q X := by
  unfold zt_X10_list_70 at h
  refine z_iload dX10_list_70 (j := 2) rfl ?_
  refine z_istore_n (i := 2) (lv' := [(2, zv s0 0 v4), (0, zv s0 2 t), (1, zv s0 0 v1), (4, zv s0 0 v4)]) dX10_list_72 rfl (by decide) (by simp [zv_cat0, zv_cat1, zv_cat2, zv_cats]) ?_
  refine z_aload_n dX10_list_73 rfl (j := 1) rfl ?_
  refine z_getc Γ kf_RX10_26 dX10_list_74 ht.1 ht.2.1 rfl ?_
  refine z_iload_n dX10_list_77 rfl (j := 2) rfl ?_
  refine z_dupp dX10_list_78 ?_
  obtain ⟨hi79, h⟩ := h
  refine z_iald Γ dX10_list_79 (by have := ht.1; omega) ht.2.2.2.2.2.2.1 (by decide) hi79 (v9 := M (t + 5) v1) rfl ?_
  refine z_iconst dX10_list_80 ?_
  refine z_iadd dX10_list_81 ?_
  refine z_iast Γ dX10_list_82 (by have := ht.1; omega) ht.2.2.2.2.2.2.1 (by decide) hi79 ?_
  refine z_aload_n dX10_list_83 rfl (j := 1) rfl ?_
  refine z_callV Γ kk_X10_blanks kc_RX10_149 (As := []) h (by omega) (by decide) (show (parseMethodDescriptor yX10_blanks.desc).map (fun q => q.parameters.length) = some 0 by decide +kernel) hok (Nat.zero_le _) dX10_list_84 ht.1 ht.2.1 rfl rfl (fun _ h9 => nomatch h9) ?_
  clear h
  intro r84 M84 h
  show rt_Go _ _ _ _ _ _ _ _ _ _ _ _ 87 [(2, zv s0 0 v4), (0, zv s0 2 t), (1, zv s0 0 v1), (4, zv s0 0 v4)] [] (zw s0 ca C S M84)
  refine z_aload_n dX10_list_87 rfl (j := 1) rfl ?_
  refine z_callV Γ kk_X10_look kc_RX10_101 (As := []) h (by omega) (by decide) (show (parseMethodDescriptor yX10_look.desc).map (fun q => q.parameters.length) = some 0 by decide +kernel) hok (Nat.zero_le _) dX10_list_88 ht.1 ht.2.1 rfl rfl (fun _ h9 => nomatch h9) ?_
  clear h
  intro r88 M88 h
  show rt_Go _ _ _ _ _ _ _ _ _ _ _ _ 91 [(2, zv s0 0 v4), (0, zv s0 2 t), (1, zv s0 0 v1), (4, zv s0 0 v4)] [zv s0 0 r88] (zw s0 ca C S M88)
  refine z_bipush dX10_list_91 (by decide) ?_
  refine z_icmp_ne (tgt := 100) (x' := w32 r88) (y' := 44) rfl (by decide) dX10_list_93 (by decide) (fun c93 => ?_) (fun c93 => ?_)
  · replace h := h.2 c93
    refine z_iconst dX10_list_100 ?_
    exact rt_lfew [1, 2, 0] rfl (zs_X10_list_101 Γ hd hok ht  h)
  · replace h := h.1 c93
    refine z_iconst dX10_list_96 ?_
    refine rt_goto (tgt := 101) dX10_list_97 (by decide) ?_
    exact rt_lfew [1, 2, 0] rfl (zs_X10_list_101 Γ hd hok ht  h)

def zt_X10_list_37 (l : Launch) (s0 : State) (G : va_G) (ca : Nat → ClassId) (d : Nat) (C : Nat × Nat) (S : zS) (w0 : rt_Wd) (t : Int) (v1 : Int) (v2 : Int) (v3 : Int)  (M : zM) (Q : Int → zM → Prop) (X : zM → Prop) : Prop :=
  zIf (w32 v3 = 0) (zm_X10_take l s0 G ca (d - 1) C S t 93 M (fun r126 M126 => Q v1 M126) X) (zm_X10_value l s0 G ca (d - 1) C S t  M (fun r42 M42 => zIf (0 ≤ w32 v2) ((0 ≤ v2 ∧ v2 < 4200) ∧ (zt_X10_list_70 l s0 G ca d C S w0 t v1 r42 ((zu M42 (t + 7) v2 r42)) Q X)) ((0 ≤ v1 ∧ v1 < 4200) ∧ (zt_X10_list_70 l s0 G ca d C S w0 t v1 r42 ((zu M42 (t + 6) v1 r42)) Q X))) X)
set_option maxRecDepth 100000 in
theorem zs_X10_list_37 {l : Launch} {s0 : State} {a0 : Array Value} {G : va_G} {ca : Nat → ClassId} (Γ : rt_Γ l s0 a0 G ca) {d : Nat} {C : Nat × Nat} {S : zS} (hd : 1 ≤ d) (hok : zok C) {t : Int} (ht : zTx S t) {w0 : rt_Wd} {v1 : Int} {v2 : Int} {v3 : Int}   {M : zM} {Q : Int → zM → Prop} {X : zM → Prop} (h : zt_X10_list_37 l s0 G ca d C S w0 t v1 v2 v3 M Q X) : zg_X10_list_37 l s0 G ca d C S w0 t v1 v2 v3 M Q X := by
  unfold zt_X10_list_37 at h
  refine z_iload_n dX10_list_37 rfl (j := 3) rfl ?_
  refine z_if_eq (tgt := 123) (x' := w32 v3) rfl dX10_list_38 (by decide) (fun c38 => ?_) (fun c38 => ?_)
  · replace h := h.1 c38
    refine z_aload_n dX10_list_123 rfl (j := 0) rfl ?_
    refine z_bipush dX10_list_124 (by decide) ?_
    refine z_callV Γ kk_X10_take kc_RX10_145 (As := [zv s0 0 93]) h (by omega) (by decide) (show (parseMethodDescriptor yX10_take.desc).map (fun q => q.parameters.length) = some 1 by decide +kernel) hok (Nat.zero_le _) dX10_list_126 ht.1 ht.2.1 rfl rfl (fun _ h9 => nomatch h9) ?_
    clear h
    intro r126 M126 h
    show rt_Go _ _ _ _ _ _ _ _ _ _ _ _ 129 [(0, zv s0 2 t), (1, zv s0 0 v1), (2, zv s0 0 v2), (3, zv s0 0 v3)] [] (zw s0 ca C S M126)
    refine z_iload_n dX10_list_129 rfl (j := 1) rfl ?_
    exact z_iret dX10_list_130 rfl h
  · replace h := h.2 c38
    refine z_aload_n dX10_list_41 rfl (j := 0) rfl ?_
    refine z_callV Γ kk_X10_value kc_RX10_152 (As := []) h (by omega) (by decide) (show (parseMethodDescriptor yX10_value.desc).map (fun q => q.parameters.length) = some 0 by decide +kernel) hok (Nat.zero_le _) dX10_list_42 ht.1 ht.2.1 rfl rfl (fun _ h9 => nomatch h9) ?_
    clear h
    intro r42 M42 h
    show rt_Go _ _ _ _ _ _ _ _ _ _ _ _ 45 [(0, zv s0 2 t), (1, zv s0 0 v1), (2, zv s0 0 v2), (3, zv s0 0 v3)] [zv s0 0 r42] (zw s0 ca C S M42)
    refine z_istore (i := 4) (lv' := [(4, zv s0 0 r42), (0, zv s0 2 t), (1, zv s0 0 v1), (2, zv s0 0 v2), (3, zv s0 0 v3)]) dX10_list_45 (by decide) (by simp [zv_cat0, zv_cat1, zv_cat2, zv_cats]) ?_
    refine z_iload_n dX10_list_47 rfl (j := 3) rfl ?_
    refine z_if_ge (tgt := 62) (x' := w32 v2) rfl dX10_list_48 (by decide) (fun c48 => ?_) (fun c48 => ?_)
    · replace h := h.1 c48
      refine z_aload_n dX10_list_62 rfl (j := 1) rfl ?_
      refine z_getc Γ kf_RX10_32 dX10_list_63 ht.1 ht.2.1 rfl ?_
      refine z_iload_n dX10_list_66 rfl (j := 3) rfl ?_
      refine z_iload dX10_list_67 (j := 0) rfl ?_
      obtain ⟨hi69, h⟩ := h
      refine z_iast Γ dX10_list_69 (by have := ht.1; omega) ht.2.2.2.2.2.2.2.2.1 (by decide) hi69 ?_
      exact rt_lfew [1, 2, 0] rfl (zs_X10_list_70 Γ hd hok ht  h)
    · replace h := h.2 c48
      refine z_aload_n dX10_list_51 rfl (j := 1) rfl ?_
      refine z_getc Γ kf_RX10_29 dX10_list_52 ht.1 ht.2.1 rfl ?_
      refine z_iload_n dX10_list_55 rfl (j := 2) rfl ?_
      refine z_iload dX10_list_56 (j := 0) rfl ?_
      obtain ⟨hi58, h⟩ := h
      refine z_iast Γ dX10_list_58 (by have := ht.1; omega) ht.2.2.2.2.2.2.2.1 (by decide) hi58 ?_
      refine rt_goto (tgt := 70) dX10_list_59 (by decide) ?_
      exact rt_lfew [1, 2, 0] rfl (zs_X10_list_70 Γ hd hok ht  h)

def zt_X10_list (l : Launch) (s0 : State) (G : va_G) (ca : Nat → ClassId) (d : Nat) (C : Nat × Nat) (S : zS) (w0 : rt_Wd) (t : Int)  (M : zM) (Q : Int → zM → Prop) (X : zM → Prop) : Prop :=
  zm_X10_node l s0 G ca (d - 1) C S t 1 M (fun r2 M2 => zm_X10_blanks l s0 G ca (d - 1) C S t  ((zu M2 t 2 ((M2 t 2) + 1))) (fun r17 M17 => zm_X10_look l s0 G ca (d - 1) C S t  M17 (fun r23 M23 => zIf (w32 r23 = 93) (zg_X10_list_37 l s0 G ca d C S w0 t r2 ((-1)) 0 M23 Q X) (zg_X10_list_37 l s0 G ca d C S w0 t r2 ((-1)) 1 M23 Q X)) X) X) X
set_option maxRecDepth 100000 in
theorem z_X10_list {l : Launch} {s0 : State} {a0 : Array Value} {G : va_G} {ca : Nat → ClassId} (Γ : rt_Γ l s0 a0 G ca) {d : Nat} {C : Nat × Nat} {S : zS} (hd : 1 ≤ d) (hok : zok C) {t : Int} (ht : zTx S t)  {M : zM} {Q : Int → zM → Prop} {X : zM → Prop} (h : zt_X10_list l s0 G ca d C S (zw s0 ca C S M) t  M Q X) : zm_X10_list l s0 G ca d C S t  M Q X := by
  refine z_met (lv := [(0, zv s0 2 t)]) Γ kk_X10_list rfl (show (lg_sl [zv s0 2 t]).length ≤ 5 from by simp only [zn_2, show (lg_sl []).length = 0 from rfl]; omega) (show lv_args 0 [zv s0 2 t] = [(0, zv s0 2 t)] from by rw [zl_2]; rfl) ?_
  unfold zt_X10_list at h
  refine z_aload_n dX10_list_0 rfl (j := 0) rfl ?_
  refine z_iconst dX10_list_1 ?_
  refine z_callV Γ kk_X10_node kc_RX10_127 (As := [zv s0 0 1]) h (by omega) (by decide) (show (parseMethodDescriptor yX10_node.desc).map (fun q => q.parameters.length) = some 1 by decide +kernel) hok (Nat.zero_le _) dX10_list_2 ht.1 ht.2.1 rfl rfl (fun _ h9 => nomatch h9) ?_
  clear h
  intro r2 M2 h
  show rt_Go _ _ _ _ _ _ _ _ _ _ _ _ 5 [(0, zv s0 2 t)] [zv s0 0 r2] (zw s0 ca C S M2)
  refine z_istore_n (i := 1) (lv' := [(1, zv s0 0 r2), (0, zv s0 2 t)]) dX10_list_5 rfl (by decide) (by simp [zv_cat0, zv_cat1, zv_cat2, zv_cats]) ?_
  refine z_aload_n dX10_list_6 rfl (j := 1) rfl ?_
  refine z_dup2 dX10_list_7 ?_
  refine z_get Γ kf_RX10_95 dX10_list_8 ht.1 ht.2.1 rfl (by decide) (v9 := M2 t 2) rfl ?_
  refine z_iconst dX10_list_11 ?_
  refine z_iadd dX10_list_12 ?_
  refine z_put0 Γ kp_RX10_95 dX10_list_13 ht.1 ht.2.1 rfl (k9 := 2) rfl ?_
  refine z_aload_n dX10_list_16 rfl (j := 1) rfl ?_
  refine z_callV Γ kk_X10_blanks kc_RX10_149 (As := []) h (by omega) (by decide) (show (parseMethodDescriptor yX10_blanks.desc).map (fun q => q.parameters.length) = some 0 by decide +kernel) hok (Nat.zero_le _) dX10_list_17 ht.1 ht.2.1 rfl rfl (fun _ h9 => nomatch h9) ?_
  clear h
  intro r17 M17 h
  show rt_Go _ _ _ _ _ _ _ _ _ _ _ _ 20 [(1, zv s0 0 r2), (0, zv s0 2 t)] [] (zw s0 ca C S M17)
  refine z_iconst dX10_list_20 ?_
  refine z_istore_n (i := 2) (lv' := [(2, zv s0 0 ((-1))), (1, zv s0 0 r2), (0, zv s0 2 t)]) dX10_list_21 rfl (by decide) (by simp [zv_cat0, zv_cat1, zv_cat2, zv_cats]) ?_
  refine z_aload_n dX10_list_22 rfl (j := 2) rfl ?_
  refine z_callV Γ kk_X10_look kc_RX10_101 (As := []) h (by omega) (by decide) (show (parseMethodDescriptor yX10_look.desc).map (fun q => q.parameters.length) = some 0 by decide +kernel) hok (Nat.zero_le _) dX10_list_23 ht.1 ht.2.1 rfl rfl (fun _ h9 => nomatch h9) ?_
  clear h
  intro r23 M23 h
  show rt_Go _ _ _ _ _ _ _ _ _ _ _ _ 26 [(2, zv s0 0 ((-1))), (1, zv s0 0 r2), (0, zv s0 2 t)] [zv s0 0 r23] (zw s0 ca C S M23)
  refine z_bipush dX10_list_26 (by decide) ?_
  refine z_icmp_eq (tgt := 35) (x' := w32 r23) (y' := 93) rfl (by decide) dX10_list_28 (by decide) (fun c28 => ?_) (fun c28 => ?_)
  · replace h := h.1 c28
    refine z_iconst dX10_list_35 ?_
    refine z_istore_n (i := 3) (lv' := [(3, zv s0 0 0), (2, zv s0 0 ((-1))), (1, zv s0 0 r2), (0, zv s0 2 t)]) dX10_list_36 rfl (by decide) (by simp [zv_cat0, zv_cat1, zv_cat2, zv_cats]) ?_
    exact rt_lfew [3, 2, 1, 0] rfl h
  · replace h := h.2 c28
    refine z_iconst dX10_list_31 ?_
    refine rt_goto (tgt := 36) dX10_list_32 (by decide) ?_
    refine z_istore_n (i := 3) (lv' := [(3, zv s0 0 1), (2, zv s0 0 ((-1))), (1, zv s0 0 r2), (0, zv s0 2 t)]) dX10_list_36 rfl (by decide) (by simp [zv_cat0, zv_cat1, zv_cat2, zv_cats]) ?_
    exact rt_lfew [3, 2, 1, 0] rfl h

abbrev zg_X10_object_37 (l : Launch) (s0 : State) (G : va_G) (ca : Nat → ClassId) (d : Nat) (C : Nat × Nat) (S : zS) (w0 : rt_Wd) (t : Int) (v1 : Int) (v2 : Int) (v3 : Int)  (M : zM) (Q : Int → zM → Prop) (X : zM → Prop) : Prop := rt_Go l s0 G RX10 "object" cX10_object 6 (Option.some FieldType.int) [] d w0 (zQ s0 ca 0 C S Q X) 37 [(0, zv s0 2 t), (1, zv s0 0 v1), (2, zv s0 0 v2), (3, zv s0 0 v3)] [] (zw s0 ca C S M)
abbrev zg_X10_object_56 (l : Launch) (s0 : State) (G : va_G) (ca : Nat → ClassId) (d : Nat) (C : Nat × Nat) (S : zS) (w0 : rt_Wd) (t : Int) (v1 : Int) (v2 : Int) (k0 : Int) (M : zM) (Q : Int → zM → Prop) (X : zM → Prop) : Prop := rt_Go l s0 G RX10 "object" cX10_object 6 (Option.some FieldType.int) [] d w0 (zQ s0 ca 0 C S Q X) 56 [(0, zv s0 2 t), (1, zv s0 0 v1), (2, zv s0 0 v2)] [zv s0 0 k0, zv s0 2 t] (zw s0 ca C S M)
abbrev zg_X10_object_78 (l : Launch) (s0 : State) (G : va_G) (ca : Nat → ClassId) (d : Nat) (C : Nat × Nat) (S : zS) (w0 : rt_Wd) (t : Int) (v1 : Int) (v2 : Int) (v4 : Int) (v5 : Int)  (M : zM) (Q : Int → zM → Prop) (X : zM → Prop) : Prop := rt_Go l s0 G RX10 "object" cX10_object 6 (Option.some FieldType.int) [] d w0 (zQ s0 ca 0 C S Q X) 78 [(0, zv s0 2 t), (1, zv s0 0 v1), (2, zv s0 0 v2), (4, zv s0 0 v4), (5, zv s0 0 v5)] [] (zw s0 ca C S M)
abbrev zg_X10_object_101 (l : Launch) (s0 : State) (G : va_G) (ca : Nat → ClassId) (d : Nat) (C : Nat × Nat) (S : zS) (w0 : rt_Wd) (t : Int) (v1 : Int) (v2 : Int) (v4 : Int) (v5 : Int) (k0 : Int) (M : zM) (Q : Int → zM → Prop) (X : zM → Prop) : Prop := rt_Go l s0 G RX10 "object" cX10_object 6 (Option.some FieldType.int) [] d w0 (zQ s0 ca 0 C S Q X) 101 [(0, zv s0 2 t), (1, zv s0 0 v1), (2, zv s0 0 v2), (4, zv s0 0 v4), (5, zv s0 0 v5)] [zv s0 0 k0, zv s0 2 t] (zw s0 ca C S M)
abbrev zg_X10_object_172 (l : Launch) (s0 : State) (G : va_G) (ca : Nat → ClassId) (d : Nat) (C : Nat × Nat) (S : zS) (w0 : rt_Wd) (t : Int) (v1 : Int) (v4 : Int) (v5 : Int)  (M : zM) (Q : Int → zM → Prop) (X : zM → Prop) : Prop := rt_Go l s0 G RX10 "object" cX10_object 6 (Option.some FieldType.int) [] d w0 (zQ s0 ca 0 C S Q X) 172 [(0, zv s0 2 t), (1, zv s0 0 v1), (4, zv s0 0 v4), (5, zv s0 0 v5)] [] (zw s0 ca C S M)
abbrev zg_X10_object_202 (l : Launch) (s0 : State) (G : va_G) (ca : Nat → ClassId) (d : Nat) (C : Nat × Nat) (S : zS) (w0 : rt_Wd) (t : Int) (v1 : Int) (v2 : Int) (k0 : Int) (M : zM) (Q : Int → zM → Prop) (X : zM → Prop) : Prop := rt_Go l s0 G RX10 "object" cX10_object 6 (Option.some FieldType.int) [] d w0 (zQ s0 ca 0 C S Q X) 202 [(0, zv s0 2 t), (1, zv s0 0 v1), (2, zv s0 0 v2)] [zv s0 0 k0] (zw s0 ca C S M)
def zt_X10_object_56 (l : Launch) (s0 : State) (G : va_G) (ca : Nat → ClassId) (d : Nat) (C : Nat × Nat) (S : zS) (w0 : rt_Wd) (t : Int) (v1 : Int) (v2 : Int) (k0 : Int) (M : zM) (Q : Int → zM → Prop) (X : zM → Prop) : Prop :=
  zm_X10_need l s0 G ca (d - 1) C S t k0 1 (M t 2) M (fun r61 M61 => zm_X10_string l s0 G ca (d - 1) C S t  M61 (fun r65 M65 => (0 ≤ v1 ∧ v1 < 4200) ∧ (zg_X10_object_78 l s0 G ca d C S w0 t v1 v2 r65 (M65 (t + 6) v1) M65 Q X)) X) X
set_option maxRecDepth 100000 in
theorem zs_X10_object_56 {l : Launch} {s0 : State} {a0 : Array Value} {G : va_G} {ca : Nat → ClassId} (Γ : rt_Γ l s0 a0 G ca) {d : Nat} {C : Nat × Nat} {S : zS} (hd : 1 ≤ d) (hok : zok C) {t : Int} (ht : zTx S t) {w0 : rt_Wd} {v1 : Int} {v2 : Int} {k0 : Int}  {M : zM} {Q : Int → zM → Prop} {X : zM → Prop} (h : zt_X10_object_56 l s0 G ca d C S w0 t v1 v2 k0 M Q X) : zg_X10_object_56 l s0 G ca d C S w0 t v1 v2 k0 M Q X := by
  unfold zt_X10_object_56 at h
  refine z_iconst dX10_object_56 ?_
  refine z_aload_n dX10_object_57 rfl (j := 0) rfl ?_
  refine z_get Γ kf_RX10_95 dX10_object_58 ht.1 ht.2.1 rfl (by decide) (v9 := M t 2) rfl ?_
  refine z_callV Γ kk_X10_need kc_RX10_105 (As := [zv s0 0 k0, zv s0 0 1, zv s0 0 (M t 2)]) h (by omega) (by decide) (show (parseMethodDescriptor yX10_need.desc).map (fun q => q.parameters.length) = some 3 by decide +kernel) hok (Nat.zero_le _) dX10_object_61 ht.1 ht.2.1 rfl rfl (fun _ h9 => nomatch h9) ?_
  clear h
  intro r61 M61 h
  show rt_Go _ _ _ _ _ _ _ _ _ _ _ _ 64 [(0, zv s0 2 t), (1, zv s0 0 v1), (2, zv s0 0 v2)] [] (zw s0 ca C S M61)
  refine z_aload_n dX10_object_64 rfl (j := 0) rfl ?_
  refine z_callV Γ kk_X10_string kc_RX10_121 (As := []) h (by omega) (by decide) (show (parseMethodDescriptor yX10_string.desc).map (fun q => q.parameters.length) = some 0 by decide +kernel) hok (Nat.zero_le _) dX10_object_65 ht.1 ht.2.1 rfl rfl (fun _ h9 => nomatch h9) ?_
  clear h
  intro r65 M65 h
  show rt_Go _ _ _ _ _ _ _ _ _ _ _ _ 68 [(0, zv s0 2 t), (1, zv s0 0 v1), (2, zv s0 0 v2)] [zv s0 0 r65] (zw s0 ca C S M65)
  refine z_istore (i := 4) (lv' := [(4, zv s0 0 r65), (0, zv s0 2 t), (1, zv s0 0 v1), (2, zv s0 0 v2)]) dX10_object_68 (by decide) (by simp [zv_cat0, zv_cat1, zv_cat2, zv_cats]) ?_
  refine z_aload_n dX10_object_70 rfl (j := 1) rfl ?_
  refine z_getc Γ kf_RX10_29 dX10_object_71 ht.1 ht.2.1 rfl ?_
  refine z_iload_n dX10_object_74 rfl (j := 2) rfl ?_
  obtain ⟨hi75, h⟩ := h
  refine z_iald Γ dX10_object_75 (by have := ht.1; omega) ht.2.2.2.2.2.2.2.1 (by decide) hi75 (v9 := M65 (t + 6) v1) rfl ?_
  refine z_istore (i := 5) (lv' := [(5, zv s0 0 (M65 (t + 6) v1)), (4, zv s0 0 r65), (0, zv s0 2 t), (1, zv s0 0 v1), (2, zv s0 0 v2)]) dX10_object_76 (by decide) (by simp [zv_cat0, zv_cat1, zv_cat2, zv_cats]) ?_
  exact rt_lfew [2, 3, 4, 1, 0] rfl h

def zt_X10_object_37 (l : Launch) (s0 : State) (G : va_G) (ca : Nat → ClassId) (d : Nat) (C : Nat × Nat) (S : zS) (w0 : rt_Wd) (t : Int) (v1 : Int) (v2 : Int) (v3 : Int)  (M : zM) (Q : Int → zM → Prop) (X : zM → Prop) : Prop :=
  zIf (w32 v3 = 0) (zm_X10_take l s0 G ca (d - 1) C S t 125 M (fun r227 M227 => Q v1 M227) X) (zm_X10_look l s0 G ca (d - 1) C S t  M (fun r43 M43 => zIf (w32 r43 = 34) (zt_X10_object_56 l s0 G ca d C S w0 t v1 v2 1 M43 Q X) (zt_X10_object_56 l s0 G ca d C S w0 t v1 v2 0 M43 Q X)) X)
set_option maxRecDepth 100000 in
theorem zs_X10_object_37 {l : Launch} {s0 : State} {a0 : Array Value} {G : va_G} {ca : Nat → ClassId} (Γ : rt_Γ l s0 a0 G ca) {d : Nat} {C : Nat × Nat} {S : zS} (hd : 1 ≤ d) (hok : zok C) {t : Int} (ht : zTx S t) {w0 : rt_Wd} {v1 : Int} {v2 : Int} {v3 : Int}   {M : zM} {Q : Int → zM → Prop} {X : zM → Prop} (h : zt_X10_object_37 l s0 G ca d C S w0 t v1 v2 v3 M Q X) : zg_X10_object_37 l s0 G ca d C S w0 t v1 v2 v3 M Q X := by
  unfold zt_X10_object_37 at h
  refine z_iload_n dX10_object_37 rfl (j := 3) rfl ?_
  refine z_if_eq (tgt := 224) (x' := w32 v3) rfl dX10_object_38 (by decide) (fun c38 => ?_) (fun c38 => ?_)
  · replace h := h.1 c38
    refine z_aload_n dX10_object_224 rfl (j := 0) rfl ?_
    refine z_bipush dX10_object_225 (by decide) ?_
    refine z_callV Γ kk_X10_take kc_RX10_145 (As := [zv s0 0 125]) h (by omega) (by decide) (show (parseMethodDescriptor yX10_take.desc).map (fun q => q.parameters.length) = some 1 by decide +kernel) hok (Nat.zero_le _) dX10_object_227 ht.1 ht.2.1 rfl rfl (fun _ h9 => nomatch h9) ?_
    clear h
    intro r227 M227 h
    show rt_Go _ _ _ _ _ _ _ _ _ _ _ _ 230 [(0, zv s0 2 t), (1, zv s0 0 v1), (2, zv s0 0 v2), (3, zv s0 0 v3)] [] (zw s0 ca C S M227)
    refine z_iload_n dX10_object_230 rfl (j := 1) rfl ?_
    exact z_iret dX10_object_231 rfl h
  · replace h := h.2 c38
    refine z_aload_n dX10_object_41 rfl (j := 0) rfl ?_
    refine z_aload_n dX10_object_42 rfl (j := 0) rfl ?_
    refine z_callV Γ kk_X10_look kc_RX10_101 (As := []) h (by omega) (by decide) (show (parseMethodDescriptor yX10_look.desc).map (fun q => q.parameters.length) = some 0 by decide +kernel) hok (by simp only [List.map, zv_cat0, zv_cat1, zv_cat2, List.sum_cons, List.sum_nil]; decide) dX10_object_43 ht.1 ht.2.1 rfl rfl (fun _ h9 => nomatch h9) ?_
    clear h
    intro r43 M43 h
    show rt_Go _ _ _ _ _ _ _ _ _ _ _ _ 46 [(0, zv s0 2 t), (1, zv s0 0 v1), (2, zv s0 0 v2), (3, zv s0 0 v3)] [zv s0 0 r43, zv s0 2 t] (zw s0 ca C S M43)
    refine z_bipush dX10_object_46 (by decide) ?_
    refine z_icmp_ne (tgt := 55) (x' := w32 r43) (y' := 34) rfl (by decide) dX10_object_48 (by decide) (fun c48 => ?_) (fun c48 => ?_)
    · replace h := h.2 c48
      refine z_iconst dX10_object_55 ?_
      exact rt_lfew [0, 1, 2] rfl (zs_X10_object_56 Γ hd hok ht  h)
    · replace h := h.1 c48
      refine z_iconst dX10_object_51 ?_
      refine rt_goto (tgt := 56) dX10_object_52 (by decide) ?_
      exact rt_lfew [0, 1, 2] rfl (zs_X10_object_56 Γ hd hok ht  h)

def zt_X10_object_202 (l : Launch) (s0 : State) (G : va_G) (ca : Nat → ClassId) (d : Nat) (C : Nat × Nat) (S : zS) (w0 : rt_Wd) (t : Int) (v1 : Int) (v2 : Int) (k0 : Int) (M : zM) (Q : Int → zM → Prop) (X : zM → Prop) : Prop :=
  zIf (w32 k0 = 0) (zg_X10_object_37 l s0 G ca d C S w0 t v1 v2 k0 M Q X) (zm_X10_blanks l s0 G ca (d - 1) C S t  ((zu M t 2 ((M t 2) + 1))) (fun r218 M218 => zg_X10_object_37 l s0 G ca d C S w0 t v1 v2 k0 M218 Q X) X)
set_option maxRecDepth 100000 in
theorem zs_X10_object_202 {l : Launch} {s0 : State} {a0 : Array Value} {G : va_G} {ca : Nat → ClassId} (Γ : rt_Γ l s0 a0 G ca) {d : Nat} {C : Nat × Nat} {S : zS} (hd : 1 ≤ d) (hok : zok C) {t : Int} (ht : zTx S t) {w0 : rt_Wd} {v1 : Int} {v2 : Int} {k0 : Int}  {M : zM} {Q : Int → zM → Prop} {X : zM → Prop} (h : zt_X10_object_202 l s0 G ca d C S w0 t v1 v2 k0 M Q X) : zg_X10_object_202 l s0 G ca d C S w0 t v1 v2 k0 M Q X := by
  unfold zt_X10_object_202 at h
  refine z_istore_n (i := 3) (lv' := [(3, zv s0 0 k0), (0, zv s0 2 t), (1, zv s0 0 v1), (2, zv s0 0 v2)]) dX10_object_202 rfl (by decide) (by simp [zv_cat0, zv_cat1, zv_cat2, zv_cats]) ?_
  refine z_iload_n dX10_object_203 rfl (j := 0) rfl ?_
  refine z_if_eq (tgt := 221) (x' := w32 k0) rfl dX10_object_204 (by decide) (fun c204 => ?_) (fun c204 => ?_)
  · replace h := h.1 c204
    refine rt_goto (tgt := 37) dX10_object_221 (by decide) ?_
    exact rt_lfew [1, 2, 3, 0] rfl h
  · replace h := h.2 c204
    refine z_aload_n dX10_object_207 rfl (j := 1) rfl ?_
    refine z_dup2 dX10_object_208 ?_
    refine z_get Γ kf_RX10_95 dX10_object_209 ht.1 ht.2.1 rfl (by decide) (v9 := M t 2) rfl ?_
    refine z_iconst dX10_object_212 ?_
    refine z_iadd dX10_object_213 ?_
    refine z_put0 Γ kp_RX10_95 dX10_object_214 ht.1 ht.2.1 rfl (k9 := 2) rfl ?_
    refine z_aload_n dX10_object_217 rfl (j := 1) rfl ?_
    refine z_callV Γ kk_X10_blanks kc_RX10_149 (As := []) h (by omega) (by decide) (show (parseMethodDescriptor yX10_blanks.desc).map (fun q => q.parameters.length) = some 0 by decide +kernel) hok (Nat.zero_le _) dX10_object_218 ht.1 ht.2.1 rfl rfl (fun _ h9 => nomatch h9) ?_
    clear h
    intro r218 M218 h
    show rt_Go _ _ _ _ _ _ _ _ _ _ _ _ 221 [(3, zv s0 0 k0), (0, zv s0 2 t), (1, zv s0 0 v1), (2, zv s0 0 v2)] [] (zw s0 ca C S M218)
    refine rt_goto (tgt := 37) dX10_object_221 (by decide) ?_
    exact rt_lfew [1, 2, 3, 0] rfl h

def zt_X10_object_172 (l : Launch) (s0 : State) (G : va_G) (ca : Nat → ClassId) (d : Nat) (C : Nat × Nat) (S : zS) (w0 : rt_Wd) (t : Int) (v1 : Int) (v4 : Int) (v5 : Int)  (M : zM) (Q : Int → zM → Prop) (X : zM → Prop) : Prop :=
  (0 ≤ v4 ∧ v4 < 4200) ∧ (zm_X10_blanks l s0 G ca (d - 1) C S t  ((zu M (t + 7) v4 v5)) (fun r185 M185 => zm_X10_look l s0 G ca (d - 1) C S t  M185 (fun r189 M189 => zIf (w32 r189 = 44) (zt_X10_object_202 l s0 G ca d C S w0 t v1 v5 1 M189 Q X) (zt_X10_object_202 l s0 G ca d C S w0 t v1 v5 0 M189 Q X)) X) X)
set_option maxRecDepth 100000 in
theorem zs_X10_object_172 {l : Launch} {s0 : State} {a0 : Array Value} {G : va_G} {ca : Nat → ClassId} (Γ : rt_Γ l s0 a0 G ca) {d : Nat} {C : Nat × Nat} {S : zS} (hd : 1 ≤ d) (hok : zok C) {t : Int} (ht : zTx S t) {w0 : rt_Wd} {v1 : Int} {v4 : Int} {v5 : Int}   {M : zM} {Q : Int → zM → Prop} {X : zM → Prop} (h : zt_X10_object_172 l s0 G ca d C S w0 t v1 v4 v5 M Q X) : zg_X10_object_172 l s0 G ca d C S w0 t v1 v4 v5 M Q X := by
  unfold zt_X10_object_172 at h
  refine z_aload_n dX10_object_172 rfl (j := 0) rfl ?_
  refine z_getc Γ kf_RX10_32 dX10_object_173 ht.1 ht.2.1 rfl ?_
  refine z_iload dX10_object_176 (j := 2) rfl ?_
  refine z_iload dX10_object_178 (j := 3) rfl ?_
  obtain ⟨hi180, h⟩ := h
  refine z_iast Γ dX10_object_180 (by have := ht.1; omega) ht.2.2.2.2.2.2.2.2.1 (by decide) hi180 ?_
  refine z_iload dX10_object_181 (j := 3) rfl ?_
  refine z_istore_n (i := 2) (lv' := [(2, zv s0 0 v5), (0, zv s0 2 t), (1, zv s0 0 v1), (4, zv s0 0 v4), (5, zv s0 0 v5)]) dX10_object_183 rfl (by decide) (by simp [zv_cat0, zv_cat1, zv_cat2, zv_cats]) ?_
  refine z_aload_n dX10_object_184 rfl (j := 1) rfl ?_
  refine z_callV Γ kk_X10_blanks kc_RX10_149 (As := []) h (by omega) (by decide) (show (parseMethodDescriptor yX10_blanks.desc).map (fun q => q.parameters.length) = some 0 by decide +kernel) hok (Nat.zero_le _) dX10_object_185 ht.1 ht.2.1 rfl rfl (fun _ h9 => nomatch h9) ?_
  clear h
  intro r185 M185 h
  show rt_Go _ _ _ _ _ _ _ _ _ _ _ _ 188 [(2, zv s0 0 v5), (0, zv s0 2 t), (1, zv s0 0 v1), (4, zv s0 0 v4), (5, zv s0 0 v5)] [] (zw s0 ca C S M185)
  refine z_aload_n dX10_object_188 rfl (j := 1) rfl ?_
  refine z_callV Γ kk_X10_look kc_RX10_101 (As := []) h (by omega) (by decide) (show (parseMethodDescriptor yX10_look.desc).map (fun q => q.parameters.length) = some 0 by decide +kernel) hok (Nat.zero_le _) dX10_object_189 ht.1 ht.2.1 rfl rfl (fun _ h9 => nomatch h9) ?_
  clear h
  intro r189 M189 h
  show rt_Go _ _ _ _ _ _ _ _ _ _ _ _ 192 [(2, zv s0 0 v5), (0, zv s0 2 t), (1, zv s0 0 v1), (4, zv s0 0 v4), (5, zv s0 0 v5)] [zv s0 0 r189] (zw s0 ca C S M189)
  refine z_bipush dX10_object_192 (by decide) ?_
  refine z_icmp_ne (tgt := 201) (x' := w32 r189) (y' := 44) rfl (by decide) dX10_object_194 (by decide) (fun c194 => ?_) (fun c194 => ?_)
  · replace h := h.2 c194
    refine z_iconst dX10_object_201 ?_
    exact rt_lfew [1, 2, 0] rfl (zs_X10_object_202 Γ hd hok ht  h)
  · replace h := h.1 c194
    refine z_iconst dX10_object_197 ?_
    refine rt_goto (tgt := 202) dX10_object_198 (by decide) ?_
    exact rt_lfew [1, 2, 0] rfl (zs_X10_object_202 Γ hd hok ht  h)

def zt_X10_object_101 (l : Launch) (s0 : State) (G : va_G) (ca : Nat → ClassId) (d : Nat) (C : Nat × Nat) (S : zS) (w0 : rt_Wd) (t : Int) (v1 : Int) (v2 : Int) (v4 : Int) (v5 : Int) (k0 : Int) (M : zM) (Q : Int → zM → Prop) (X : zM → Prop) : Prop :=
  (0 ≤ v4 ∧ v4 < 4200) ∧ (zm_X10_need l s0 G ca (d - 1) C S t k0 1 (M (t + 3) v4) M (fun r109 M109 => (0 ≤ v5 ∧ v5 < 4200) ∧ ((0 ≤ M109 (t + 7) v5 ∧ M109 (t + 7) v5 < 4200) ∧ (zg_X10_object_78 l s0 G ca d C S w0 t v1 v2 v4 (M109 (t + 7) (M109 (t + 7) v5)) M109 Q X))) X)
set_option maxRecDepth 100000 in
theorem zs_X10_object_101 {l : Launch} {s0 : State} {a0 : Array Value} {G : va_G} {ca : Nat → ClassId} (Γ : rt_Γ l s0 a0 G ca) {d : Nat} {C : Nat × Nat} {S : zS} (hd : 1 ≤ d) (hok : zok C) {t : Int} (ht : zTx S t) {w0 : rt_Wd} {v1 : Int} {v2 : Int} {v4 : Int} {v5 : Int} {k0 : Int}  {M : zM} {Q : Int → zM → Prop} {X : zM → Prop} (h : zt_X10_object_101 l s0 G ca d C S w0 t v1 v2 v4 v5 k0 M Q X) : zg_X10_object_101 l s0 G ca d C S w0 t v1 v2 v4 v5 k0 M Q X := by
  unfold zt_X10_object_101 at h
  refine z_iconst dX10_object_101 ?_
  refine z_aload_n dX10_object_102 rfl (j := 0) rfl ?_
  refine z_getc Γ kf_RX10_19 dX10_object_103 ht.1 ht.2.1 rfl ?_
  refine z_iload dX10_object_106 (j := 3) rfl ?_
  obtain ⟨hi108, h⟩ := h
  refine z_iald Γ dX10_object_108 (by have := ht.1; omega) ht.2.2.2.2.1 (by decide) hi108 (v9 := M (t + 3) v4) rfl ?_
  refine z_callV Γ kk_X10_need kc_RX10_105 (As := [zv s0 0 k0, zv s0 0 1, zv s0 0 (M (t + 3) v4)]) h (by omega) (by decide) (show (parseMethodDescriptor yX10_need.desc).map (fun q => q.parameters.length) = some 3 by decide +kernel) hok (Nat.zero_le _) dX10_object_109 ht.1 ht.2.1 rfl rfl (fun _ h9 => nomatch h9) ?_
  clear h
  intro r109 M109 h
  show rt_Go _ _ _ _ _ _ _ _ _ _ _ _ 112 [(0, zv s0 2 t), (1, zv s0 0 v1), (2, zv s0 0 v2), (4, zv s0 0 v4), (5, zv s0 0 v5)] [] (zw s0 ca C S M109)
  refine z_aload_n dX10_object_112 rfl (j := 0) rfl ?_
  refine z_getc Γ kf_RX10_32 dX10_object_113 ht.1 ht.2.1 rfl ?_
  refine z_aload_n dX10_object_116 rfl (j := 0) rfl ?_
  refine z_getc Γ kf_RX10_32 dX10_object_117 ht.1 ht.2.1 rfl ?_
  refine z_iload dX10_object_120 (j := 4) rfl ?_
  obtain ⟨hi122, h⟩ := h
  refine z_iald Γ dX10_object_122 (by have := ht.1; omega) ht.2.2.2.2.2.2.2.2.1 (by decide) hi122 (v9 := M109 (t + 7) v5) rfl ?_
  obtain ⟨hi123, h⟩ := h
  refine z_iald Γ dX10_object_123 (by have := ht.1; omega) ht.2.2.2.2.2.2.2.2.1 (by decide) hi123 (v9 := M109 (t + 7) (M109 (t + 7) v5)) rfl ?_
  refine z_istore (i := 5) (lv' := [(5, zv s0 0 (M109 (t + 7) (M109 (t + 7) v5))), (0, zv s0 2 t), (1, zv s0 0 v1), (2, zv s0 0 v2), (4, zv s0 0 v4)]) dX10_object_124 (by decide) (by simp [zv_cat0, zv_cat1, zv_cat2, zv_cats]) ?_
  refine rt_goto (tgt := 78) dX10_object_126 (by decide) ?_
  exact rt_lfew [1, 2, 3, 4, 0] rfl h

def zt_X10_object_78 (l : Launch) (s0 : State) (G : va_G) (ca : Nat → ClassId) (d : Nat) (C : Nat × Nat) (S : zS) (w0 : rt_Wd) (t : Int) (v1 : Int) (v2 : Int) (v4 : Int) (v5 : Int)  (M : zM) (Q : Int → zM → Prop) (X : zM → Prop) : Prop :=
  zIf (w32 v5 < 0) (zm_X10_blanks l s0 G ca (d - 1) C S t  M (fun r130 M130 => zm_X10_take l s0 G ca (d - 1) C S t 58 M130 (fun r136 M136 => zm_X10_blanks l s0 G ca (d - 1) C S t  M136 (fun r140 M140 => zm_X10_value l s0 G ca (d - 1) C S t  M140 (fun r144 M144 => zIf (0 ≤ w32 v2) ((0 ≤ v2 ∧ v2 < 4200) ∧ (zt_X10_object_172 l s0 G ca d C S w0 t v1 v4 r144 ((zu M144 (t + 7) v2 v4)) Q X)) ((0 ≤ v1 ∧ v1 < 4200) ∧ (zt_X10_object_172 l s0 G ca d C S w0 t v1 v4 r144 ((zu M144 (t + 6) v1 v4)) Q X))) X) X) X) X) (zm_X10_same l s0 G ca (d - 1) C S t v5 t v4 M (fun r90 M90 => zIf (w32 r90 = 0) (zt_X10_object_101 l s0 G ca d C S w0 t v1 v2 v4 v5 1 M90 Q X) (zt_X10_object_101 l s0 G ca d C S w0 t v1 v2 v4 v5 0 M90 Q X)) X)
set_option maxRecDepth 100000 in
theorem zs_X10_object_78 {l : Launch} {s0 : State} {a0 : Array Value} {G : va_G} {ca : Nat → ClassId} (Γ : rt_Γ l s0 a0 G ca) {d : Nat} {C : Nat × Nat} {S : zS} (hd : 1 ≤ d) (hok : zok C) {t : Int} (ht : zTx S t) {w0 : rt_Wd} {v1 : Int} {v2 : Int} {v4 : Int} {v5 : Int}   {M : zM} {Q : Int → zM → Prop} {X : zM → Prop} (h : zt_X10_object_78 l s0 G ca d C S w0 t v1 v2 v4 v5 M Q X) : zg_X10_object_78 l s0 G ca d C S w0 t v1 v2 v4 v5 M Q X := by
  unfold zt_X10_object_78 at h
  refine z_iload dX10_object_78 (j := 4) rfl ?_
  refine z_if_lt (tgt := 129) (x' := w32 v5) rfl dX10_object_80 (by decide) (fun c80 => ?_) (fun c80 => ?_)
  · replace h := h.1 c80
    refine z_aload_n dX10_object_129 rfl (j := 0) rfl ?_
    refine z_callV Γ kk_X10_blanks kc_RX10_149 (As := []) h (by omega) (by decide) (show (parseMethodDescriptor yX10_blanks.desc).map (fun q => q.parameters.length) = some 0 by decide +kernel) hok (Nat.zero_le _) dX10_object_130 ht.1 ht.2.1 rfl rfl (fun _ h9 => nomatch h9) ?_
    clear h
    intro r130 M130 h
    show rt_Go _ _ _ _ _ _ _ _ _ _ _ _ 133 [(0, zv s0 2 t), (1, zv s0 0 v1), (2, zv s0 0 v2), (4, zv s0 0 v4), (5, zv s0 0 v5)] [] (zw s0 ca C S M130)
    refine z_aload_n dX10_object_133 rfl (j := 0) rfl ?_
    refine z_bipush dX10_object_134 (by decide) ?_
    refine z_callV Γ kk_X10_take kc_RX10_145 (As := [zv s0 0 58]) h (by omega) (by decide) (show (parseMethodDescriptor yX10_take.desc).map (fun q => q.parameters.length) = some 1 by decide +kernel) hok (Nat.zero_le _) dX10_object_136 ht.1 ht.2.1 rfl rfl (fun _ h9 => nomatch h9) ?_
    clear h
    intro r136 M136 h
    show rt_Go _ _ _ _ _ _ _ _ _ _ _ _ 139 [(0, zv s0 2 t), (1, zv s0 0 v1), (2, zv s0 0 v2), (4, zv s0 0 v4), (5, zv s0 0 v5)] [] (zw s0 ca C S M136)
    refine z_aload_n dX10_object_139 rfl (j := 0) rfl ?_
    refine z_callV Γ kk_X10_blanks kc_RX10_149 (As := []) h (by omega) (by decide) (show (parseMethodDescriptor yX10_blanks.desc).map (fun q => q.parameters.length) = some 0 by decide +kernel) hok (Nat.zero_le _) dX10_object_140 ht.1 ht.2.1 rfl rfl (fun _ h9 => nomatch h9) ?_
    clear h
    intro r140 M140 h
    show rt_Go _ _ _ _ _ _ _ _ _ _ _ _ 143 [(0, zv s0 2 t), (1, zv s0 0 v1), (2, zv s0 0 v2), (4, zv s0 0 v4), (5, zv s0 0 v5)] [] (zw s0 ca C S M140)
    refine z_aload_n dX10_object_143 rfl (j := 0) rfl ?_
    refine z_callV Γ kk_X10_value kc_RX10_152 (As := []) h (by omega) (by decide) (show (parseMethodDescriptor yX10_value.desc).map (fun q => q.parameters.length) = some 0 by decide +kernel) hok (Nat.zero_le _) dX10_object_144 ht.1 ht.2.1 rfl rfl (fun _ h9 => nomatch h9) ?_
    clear h
    intro r144 M144 h
    show rt_Go _ _ _ _ _ _ _ _ _ _ _ _ 147 [(0, zv s0 2 t), (1, zv s0 0 v1), (2, zv s0 0 v2), (4, zv s0 0 v4), (5, zv s0 0 v5)] [zv s0 0 r144] (zw s0 ca C S M144)
    refine z_istore (i := 5) (lv' := [(5, zv s0 0 r144), (0, zv s0 2 t), (1, zv s0 0 v1), (2, zv s0 0 v2), (4, zv s0 0 v4)]) dX10_object_147 (by decide) (by simp [zv_cat0, zv_cat1, zv_cat2, zv_cats]) ?_
    refine z_iload_n dX10_object_149 rfl (j := 3) rfl ?_
    refine z_if_ge (tgt := 164) (x' := w32 v2) rfl dX10_object_150 (by decide) (fun c150 => ?_) (fun c150 => ?_)
    · replace h := h.1 c150
      refine z_aload_n dX10_object_164 rfl (j := 1) rfl ?_
      refine z_getc Γ kf_RX10_32 dX10_object_165 ht.1 ht.2.1 rfl ?_
      refine z_iload_n dX10_object_168 rfl (j := 3) rfl ?_
      refine z_iload dX10_object_169 (j := 4) rfl ?_
      obtain ⟨hi171, h⟩ := h
      refine z_iast Γ dX10_object_171 (by have := ht.1; omega) ht.2.2.2.2.2.2.2.2.1 (by decide) hi171 ?_
      exact rt_lfew [1, 2, 4, 0] rfl (zs_X10_object_172 Γ hd hok ht  h)
    · replace h := h.2 c150
      refine z_aload_n dX10_object_153 rfl (j := 1) rfl ?_
      refine z_getc Γ kf_RX10_29 dX10_object_154 ht.1 ht.2.1 rfl ?_
      refine z_iload_n dX10_object_157 rfl (j := 2) rfl ?_
      refine z_iload dX10_object_158 (j := 4) rfl ?_
      obtain ⟨hi160, h⟩ := h
      refine z_iast Γ dX10_object_160 (by have := ht.1; omega) ht.2.2.2.2.2.2.2.1 (by decide) hi160 ?_
      refine rt_goto (tgt := 172) dX10_object_161 (by decide) ?_
      exact rt_lfew [1, 2, 4, 0] rfl (zs_X10_object_172 Γ hd hok ht  h)
  · replace h := h.2 c80
    refine z_aload_n dX10_object_83 rfl (j := 0) rfl ?_
    refine z_aload_n dX10_object_84 rfl (j := 0) rfl ?_
    refine z_iload dX10_object_85 (j := 4) rfl ?_
    refine z_aload_n dX10_object_87 rfl (j := 0) rfl ?_
    refine z_iload dX10_object_88 (j := 3) rfl ?_
    refine z_callV Γ kk_X10_same kc_RX10_155 (As := [zv s0 0 v5, zv s0 2 t, zv s0 0 v4]) h (by omega) (by decide) (show (parseMethodDescriptor yX10_same.desc).map (fun q => q.parameters.length) = some 3 by decide +kernel) hok (by simp only [List.map, zv_cat0, zv_cat1, zv_cat2, List.sum_cons, List.sum_nil]; decide) dX10_object_90 ht.1 ht.2.1 rfl rfl (fun _ h9 => nomatch h9) ?_
    clear h
    intro r90 M90 h
    show rt_Go _ _ _ _ _ _ _ _ _ _ _ _ 93 [(0, zv s0 2 t), (1, zv s0 0 v1), (2, zv s0 0 v2), (4, zv s0 0 v4), (5, zv s0 0 v5)] [zv s0 0 r90, zv s0 2 t] (zw s0 ca C S M90)
    refine z_if_ne (tgt := 100) (x' := w32 r90) rfl dX10_object_93 (by decide) (fun c93 => ?_) (fun c93 => ?_)
    · replace h := h.2 c93
      refine z_iconst dX10_object_100 ?_
      exact rt_lfew [0, 1, 2, 3, 4] rfl (zs_X10_object_101 Γ hd hok ht  h)
    · replace h := h.1 c93
      refine z_iconst dX10_object_96 ?_
      refine rt_goto (tgt := 101) dX10_object_97 (by decide) ?_
      exact rt_lfew [0, 1, 2, 3, 4] rfl (zs_X10_object_101 Γ hd hok ht  h)

def zt_X10_object (l : Launch) (s0 : State) (G : va_G) (ca : Nat → ClassId) (d : Nat) (C : Nat × Nat) (S : zS) (w0 : rt_Wd) (t : Int)  (M : zM) (Q : Int → zM → Prop) (X : zM → Prop) : Prop :=
  zm_X10_node l s0 G ca (d - 1) C S t 0 M (fun r2 M2 => zm_X10_blanks l s0 G ca (d - 1) C S t  ((zu M2 t 2 ((M2 t 2) + 1))) (fun r17 M17 => zm_X10_look l s0 G ca (d - 1) C S t  M17 (fun r23 M23 => zIf (w32 r23 = 125) (zg_X10_object_37 l s0 G ca d C S w0 t r2 ((-1)) 0 M23 Q X) (zg_X10_object_37 l s0 G ca d C S w0 t r2 ((-1)) 1 M23 Q X)) X) X) X
set_option maxRecDepth 100000 in
theorem z_X10_object {l : Launch} {s0 : State} {a0 : Array Value} {G : va_G} {ca : Nat → ClassId} (Γ : rt_Γ l s0 a0 G ca) {d : Nat} {C : Nat × Nat} {S : zS} (hd : 1 ≤ d) (hok : zok C) {t : Int} (ht : zTx S t)  {M : zM} {Q : Int → zM → Prop} {X : zM → Prop} (h : zt_X10_object l s0 G ca d C S (zw s0 ca C S M) t  M Q X) : zm_X10_object l s0 G ca d C S t  M Q X := by
  refine z_met (lv := [(0, zv s0 2 t)]) Γ kk_X10_object rfl (show (lg_sl [zv s0 2 t]).length ≤ 6 from by simp only [zn_2, show (lg_sl []).length = 0 from rfl]; omega) (show lv_args 0 [zv s0 2 t] = [(0, zv s0 2 t)] from by rw [zl_2]; rfl) ?_
  unfold zt_X10_object at h
  refine z_aload_n dX10_object_0 rfl (j := 0) rfl ?_
  refine z_iconst dX10_object_1 ?_
  refine z_callV Γ kk_X10_node kc_RX10_127 (As := [zv s0 0 0]) h (by omega) (by decide) (show (parseMethodDescriptor yX10_node.desc).map (fun q => q.parameters.length) = some 1 by decide +kernel) hok (Nat.zero_le _) dX10_object_2 ht.1 ht.2.1 rfl rfl (fun _ h9 => nomatch h9) ?_
  clear h
  intro r2 M2 h
  show rt_Go _ _ _ _ _ _ _ _ _ _ _ _ 5 [(0, zv s0 2 t)] [zv s0 0 r2] (zw s0 ca C S M2)
  refine z_istore_n (i := 1) (lv' := [(1, zv s0 0 r2), (0, zv s0 2 t)]) dX10_object_5 rfl (by decide) (by simp [zv_cat0, zv_cat1, zv_cat2, zv_cats]) ?_
  refine z_aload_n dX10_object_6 rfl (j := 1) rfl ?_
  refine z_dup2 dX10_object_7 ?_
  refine z_get Γ kf_RX10_95 dX10_object_8 ht.1 ht.2.1 rfl (by decide) (v9 := M2 t 2) rfl ?_
  refine z_iconst dX10_object_11 ?_
  refine z_iadd dX10_object_12 ?_
  refine z_put0 Γ kp_RX10_95 dX10_object_13 ht.1 ht.2.1 rfl (k9 := 2) rfl ?_
  refine z_aload_n dX10_object_16 rfl (j := 1) rfl ?_
  refine z_callV Γ kk_X10_blanks kc_RX10_149 (As := []) h (by omega) (by decide) (show (parseMethodDescriptor yX10_blanks.desc).map (fun q => q.parameters.length) = some 0 by decide +kernel) hok (Nat.zero_le _) dX10_object_17 ht.1 ht.2.1 rfl rfl (fun _ h9 => nomatch h9) ?_
  clear h
  intro r17 M17 h
  show rt_Go _ _ _ _ _ _ _ _ _ _ _ _ 20 [(1, zv s0 0 r2), (0, zv s0 2 t)] [] (zw s0 ca C S M17)
  refine z_iconst dX10_object_20 ?_
  refine z_istore_n (i := 2) (lv' := [(2, zv s0 0 ((-1))), (1, zv s0 0 r2), (0, zv s0 2 t)]) dX10_object_21 rfl (by decide) (by simp [zv_cat0, zv_cat1, zv_cat2, zv_cats]) ?_
  refine z_aload_n dX10_object_22 rfl (j := 2) rfl ?_
  refine z_callV Γ kk_X10_look kc_RX10_101 (As := []) h (by omega) (by decide) (show (parseMethodDescriptor yX10_look.desc).map (fun q => q.parameters.length) = some 0 by decide +kernel) hok (Nat.zero_le _) dX10_object_23 ht.1 ht.2.1 rfl rfl (fun _ h9 => nomatch h9) ?_
  clear h
  intro r23 M23 h
  show rt_Go _ _ _ _ _ _ _ _ _ _ _ _ 26 [(2, zv s0 0 ((-1))), (1, zv s0 0 r2), (0, zv s0 2 t)] [zv s0 0 r23] (zw s0 ca C S M23)
  refine z_bipush dX10_object_26 (by decide) ?_
  refine z_icmp_eq (tgt := 35) (x' := w32 r23) (y' := 125) rfl (by decide) dX10_object_28 (by decide) (fun c28 => ?_) (fun c28 => ?_)
  · replace h := h.1 c28
    refine z_iconst dX10_object_35 ?_
    refine z_istore_n (i := 3) (lv' := [(3, zv s0 0 0), (2, zv s0 0 ((-1))), (1, zv s0 0 r2), (0, zv s0 2 t)]) dX10_object_36 rfl (by decide) (by simp [zv_cat0, zv_cat1, zv_cat2, zv_cats]) ?_
    exact rt_lfew [3, 2, 1, 0] rfl h
  · replace h := h.2 c28
    refine z_iconst dX10_object_31 ?_
    refine rt_goto (tgt := 36) dX10_object_32 (by decide) ?_
    refine z_istore_n (i := 3) (lv' := [(3, zv s0 0 1), (2, zv s0 0 ((-1))), (1, zv s0 0 r2), (0, zv s0 2 t)]) dX10_object_36 rfl (by decide) (by simp [zv_cat0, zv_cat1, zv_cat2, zv_cats]) ?_
    exact rt_lfew [3, 2, 1, 0] rfl h

abbrev zg_X10_value_17 (l : Launch) (s0 : State) (G : va_G) (ca : Nat → ClassId) (d : Nat) (C : Nat × Nat) (S : zS) (w0 : rt_Wd) (t : Int) (v1 : Int)  (M : zM) (Q : Int → zM → Prop) (X : zM → Prop) : Prop := rt_Go l s0 G RX10 "value" cX10_value 5 (Option.some FieldType.int) [] d w0 (zQ s0 ca 0 C S Q X) 17 [(0, zv s0 2 t), (1, zv s0 0 v1)] [] (zw s0 ca C S M)
abbrev zg_X10_value_32 (l : Launch) (s0 : State) (G : va_G) (ca : Nat → ClassId) (d : Nat) (C : Nat × Nat) (S : zS) (w0 : rt_Wd) (t : Int) (v1 : Int) (k0 : Int) (M : zM) (Q : Int → zM → Prop) (X : zM → Prop) : Prop := rt_Go l s0 G RX10 "value" cX10_value 5 (Option.some FieldType.int) [] d w0 (zQ s0 ca 0 C S Q X) 32 [(0, zv s0 2 t), (1, zv s0 0 v1)] [zv s0 0 k0, zv s0 2 t] (zw s0 ca C S M)
abbrev zg_X10_value_67 (l : Launch) (s0 : State) (G : va_G) (ca : Nat → ClassId) (d : Nat) (C : Nat × Nat) (S : zS) (w0 : rt_Wd) (t : Int)  (k0 : Int) (M : zM) (Q : Int → zM → Prop) (X : zM → Prop) : Prop := rt_Go l s0 G RX10 "value" cX10_value 5 (Option.some FieldType.int) [] d w0 (zQ s0 ca 0 C S Q X) 67 [(0, zv s0 2 t)] [zv s0 0 k0] (zw s0 ca C S M)
abbrev zg_X10_value_114 (l : Launch) (s0 : State) (G : va_G) (ca : Nat → ClassId) (d : Nat) (C : Nat × Nat) (S : zS) (w0 : rt_Wd) (t : Int) (v1 : Int)  (M : zM) (Q : Int → zM → Prop) (X : zM → Prop) : Prop := rt_Go l s0 G RX10 "value" cX10_value 5 (Option.some FieldType.int) [] d w0 (zQ s0 ca 0 C S Q X) 114 [(0, zv s0 2 t), (1, zv s0 0 v1)] [] (zw s0 ca C S M)
abbrev zg_X10_value_137 (l : Launch) (s0 : State) (G : va_G) (ca : Nat → ClassId) (d : Nat) (C : Nat × Nat) (S : zS) (w0 : rt_Wd) (t : Int) (v1 : Int) (k0 : Int) (M : zM) (Q : Int → zM → Prop) (X : zM → Prop) : Prop := rt_Go l s0 G RX10 "value" cX10_value 5 (Option.some FieldType.int) [] d w0 (zQ s0 ca 0 C S Q X) 137 [(0, zv s0 2 t), (1, zv s0 0 v1)] [zv s0 0 k0, zv s0 2 t] (zw s0 ca C S M)
abbrev zg_X10_value_169 (l : Launch) (s0 : State) (G : va_G) (ca : Nat → ClassId) (d : Nat) (C : Nat × Nat) (S : zS) (w0 : rt_Wd) (t : Int) (v2 : Int) (v3 : Nat) (v3b : List Int) (v4 : Int)  (M : zM) (Q : Int → zM → Prop) (X : zM → Prop) : Prop := rt_Go l s0 G RX10 "value" cX10_value 5 (Option.some FieldType.int) [] d w0 (zQ s0 ca 0 C S Q X) 169 [(0, zv s0 2 t), (2, zv s0 0 v2), (3, .ref v3), (4, zv s0 0 v4)] [] (zw s0 ca C S M)
def zt_X10_value_67 (l : Launch) (s0 : State) (G : va_G) (ca : Nat → ClassId) (d : Nat) (C : Nat × Nat) (S : zS) (w0 : rt_Wd) (t : Int)  (k0 : Int) (M : zM) (Q : Int → zM → Prop) (X : zM → Prop) : Prop :=
  Q k0 ((zu M t 3 ((M t 3) - 1)))
set_option maxRecDepth 100000 in
theorem zs_X10_value_67 {l : Launch} {s0 : State} {a0 : Array Value} {G : va_G} {ca : Nat → ClassId} (Γ : rt_Γ l s0 a0 G ca) {d : Nat} {C : Nat × Nat} {S : zS} (hd : 4 ≤ d) (hok : zok C) {t : Int} (ht : zTx S t) {w0 : rt_Wd}  {k0 : Int}  {M : zM} {Q : Int → zM → Prop} {X : zM → Prop} (h : zt_X10_value_67 l s0 G ca d C S w0 t k0 M Q X) : zg_X10_value_67 l s0 G ca d C S w0 t k0 M Q X := by
  unfold zt_X10_value_67 at h
  refine z_istore_n (i := 2) (lv' := [(2, zv s0 0 k0), (0, zv s0 2 t)]) dX10_value_67 rfl (by decide) (by simp [zv_cat0, zv_cat1, zv_cat2, zv_cats]) ?_
  refine z_aload_n dX10_value_68 rfl (j := 1) rfl ?_
  refine z_dup2 dX10_value_69 ?_
  refine z_get Γ kf_RX10_112 dX10_value_70 ht.1 ht.2.1 rfl (by decide) (v9 := M t 3) rfl ?_
  refine z_iconst dX10_value_73 ?_
  refine z_isub dX10_value_74 ?_
  refine z_put0 Γ kp_RX10_112 dX10_value_75 ht.1 ht.2.1 rfl (k9 := 3) rfl ?_
  refine z_iload_n dX10_value_78 rfl (j := 0) rfl ?_
  exact z_iret dX10_value_79 rfl h

def zt_X10_value_32 (l : Launch) (s0 : State) (G : va_G) (ca : Nat → ClassId) (d : Nat) (C : Nat × Nat) (S : zS) (w0 : rt_Wd) (t : Int) (v1 : Int) (k0 : Int) (M : zM) (Q : Int → zM → Prop) (X : zM → Prop) : Prop :=
  zm_X10_need l s0 G ca (d - 1) C S t k0 1 (M t 2) M (fun r37 M37 => zIf (w32 v1 = 123) (zm_X10_object l s0 G ca (d - 1) C S t  ((zu M37 t 3 ((M37 t 3) + 1))) (fun r57 M57 => zt_X10_value_67 l s0 G ca d C S w0 t r57 M57 Q X) X) (zm_X10_list l s0 G ca (d - 1) C S t  ((zu M37 t 3 ((M37 t 3) + 1))) (fun r64 M64 => zt_X10_value_67 l s0 G ca d C S w0 t r64 M64 Q X) X)) X
set_option maxRecDepth 100000 in
theorem zs_X10_value_32 {l : Launch} {s0 : State} {a0 : Array Value} {G : va_G} {ca : Nat → ClassId} (Γ : rt_Γ l s0 a0 G ca) {d : Nat} {C : Nat × Nat} {S : zS} (hd : 4 ≤ d) (hok : zok C) {t : Int} (ht : zTx S t) {w0 : rt_Wd} {v1 : Int} {k0 : Int}  {M : zM} {Q : Int → zM → Prop} {X : zM → Prop} (h : zt_X10_value_32 l s0 G ca d C S w0 t v1 k0 M Q X) : zg_X10_value_32 l s0 G ca d C S w0 t v1 k0 M Q X := by
  unfold zt_X10_value_32 at h
  refine z_iconst dX10_value_32 ?_
  refine z_aload_n dX10_value_33 rfl (j := 0) rfl ?_
  refine z_get Γ kf_RX10_95 dX10_value_34 ht.1 ht.2.1 rfl (by decide) (v9 := M t 2) rfl ?_
  refine z_callV Γ kk_X10_need kc_RX10_105 (As := [zv s0 0 k0, zv s0 0 1, zv s0 0 (M t 2)]) h (by omega) (by decide) (show (parseMethodDescriptor yX10_need.desc).map (fun q => q.parameters.length) = some 3 by decide +kernel) hok (Nat.zero_le _) dX10_value_37 ht.1 ht.2.1 rfl rfl (fun _ h9 => nomatch h9) ?_
  clear h
  intro r37 M37 h
  show rt_Go _ _ _ _ _ _ _ _ _ _ _ _ 40 [(0, zv s0 2 t), (1, zv s0 0 v1)] [] (zw s0 ca C S M37)
  refine z_aload_n dX10_value_40 rfl (j := 0) rfl ?_
  refine z_dup2 dX10_value_41 ?_
  refine z_get Γ kf_RX10_112 dX10_value_42 ht.1 ht.2.1 rfl (by decide) (v9 := M37 t 3) rfl ?_
  refine z_iconst dX10_value_45 ?_
  refine z_iadd dX10_value_46 ?_
  refine z_put0 Γ kp_RX10_112 dX10_value_47 ht.1 ht.2.1 rfl (k9 := 3) rfl ?_
  refine z_iload_n dX10_value_50 rfl (j := 1) rfl ?_
  refine z_bipush dX10_value_51 (by decide) ?_
  refine z_icmp_ne (tgt := 63) (x' := w32 v1) (y' := 123) rfl (by decide) dX10_value_53 (by decide) (fun c53 => ?_) (fun c53 => ?_)
  · replace h := h.2 c53
    refine z_aload_n dX10_value_63 rfl (j := 0) rfl ?_
    refine z_callV Γ kk_X10_list kc_RX10_118 (As := []) h (by omega) (by decide) (show (parseMethodDescriptor yX10_list.desc).map (fun q => q.parameters.length) = some 0 by decide +kernel) hok (Nat.zero_le _) dX10_value_64 ht.1 ht.2.1 rfl rfl (fun _ h9 => nomatch h9) ?_
    clear h
    intro r64 M64 h
    show rt_Go _ _ _ _ _ _ _ _ _ _ _ _ 67 [(0, zv s0 2 t), (1, zv s0 0 v1)] [zv s0 0 r64] (zw s0 ca C S M64)
    exact rt_lfew [0] rfl (zs_X10_value_67 Γ hd hok ht  h)
  · replace h := h.1 c53
    refine z_aload_n dX10_value_56 rfl (j := 0) rfl ?_
    refine z_callV Γ kk_X10_object kc_RX10_115 (As := []) h (by omega) (by decide) (show (parseMethodDescriptor yX10_object.desc).map (fun q => q.parameters.length) = some 0 by decide +kernel) hok (Nat.zero_le _) dX10_value_57 ht.1 ht.2.1 rfl rfl (fun _ h9 => nomatch h9) ?_
    clear h
    intro r57 M57 h
    show rt_Go _ _ _ _ _ _ _ _ _ _ _ _ 60 [(0, zv s0 2 t), (1, zv s0 0 v1)] [zv s0 0 r57] (zw s0 ca C S M57)
    refine rt_goto (tgt := 67) dX10_value_60 (by decide) ?_
    exact rt_lfew [0] rfl (zs_X10_value_67 Γ hd hok ht  h)

def zt_X10_value_17 (l : Launch) (s0 : State) (G : va_G) (ca : Nat → ClassId) (d : Nat) (C : Nat × Nat) (S : zS) (w0 : rt_Wd) (t : Int) (v1 : Int)  (M : zM) (Q : Int → zM → Prop) (X : zM → Prop) : Prop :=
  zIf (24 ≤ w32 (M t 3)) (zt_X10_value_32 l s0 G ca d C S w0 t v1 0 M Q X) (zt_X10_value_32 l s0 G ca d C S w0 t v1 1 M Q X)
set_option maxRecDepth 100000 in
theorem zs_X10_value_17 {l : Launch} {s0 : State} {a0 : Array Value} {G : va_G} {ca : Nat → ClassId} (Γ : rt_Γ l s0 a0 G ca) {d : Nat} {C : Nat × Nat} {S : zS} (hd : 4 ≤ d) (hok : zok C) {t : Int} (ht : zTx S t) {w0 : rt_Wd} {v1 : Int}   {M : zM} {Q : Int → zM → Prop} {X : zM → Prop} (h : zt_X10_value_17 l s0 G ca d C S w0 t v1 M Q X) : zg_X10_value_17 l s0 G ca d C S w0 t v1 M Q X := by
  unfold zt_X10_value_17 at h
  refine z_aload_n dX10_value_17 rfl (j := 0) rfl ?_
  refine z_aload_n dX10_value_18 rfl (j := 0) rfl ?_
  refine z_get Γ kf_RX10_112 dX10_value_19 ht.1 ht.2.1 rfl (by decide) (v9 := M t 3) rfl ?_
  refine z_bipush dX10_value_22 (by decide) ?_
  refine z_icmp_ge (tgt := 31) (x' := w32 (M t 3)) (y' := 24) rfl (by decide) dX10_value_24 (by decide) (fun c24 => ?_) (fun c24 => ?_)
  · replace h := h.1 c24
    refine z_iconst dX10_value_31 ?_
    exact rt_lfew [0, 1] rfl (zs_X10_value_32 Γ hd hok ht  h)
  · replace h := h.2 c24
    refine z_iconst dX10_value_27 ?_
    refine rt_goto (tgt := 32) dX10_value_28 (by decide) ?_
    exact rt_lfew [0, 1] rfl (zs_X10_value_32 Γ hd hok ht  h)

def zt_X10_value_137 (l : Launch) (s0 : State) (G : va_G) (ca : Nat → ClassId) (d : Nat) (C : Nat × Nat) (S : zS) (w0 : rt_Wd) (t : Int) (v1 : Int) (k0 : Int) (M : zM) (Q : Int → zM → Prop) (X : zM → Prop) : Prop :=
  zm_X10_node l s0 G ca (d - 1) C S t k0 M (fun r137 M137 => zIf (w32 v1 = 116) (∀ q147 : Nat, zstr s0 q147 [116, 114, 117, 101] → (zg_X10_value_169 l s0 G ca d C S w0 t r137 q147 ([116, 114, 117, 101]) 0 M137 Q X)) (zIf (w32 v1 = 102) (∀ q158 : Nat, zstr s0 q158 [102, 97, 108, 115, 101] → (zg_X10_value_169 l s0 G ca d C S w0 t r137 q158 ([102, 97, 108, 115, 101]) 0 M137 Q X)) (∀ q163 : Nat, zstr s0 q163 [110, 117, 108, 108] → (zg_X10_value_169 l s0 G ca d C S w0 t r137 q163 ([110, 117, 108, 108]) 0 M137 Q X)))) X
set_option maxRecDepth 100000 in
theorem zs_X10_value_137 {l : Launch} {s0 : State} {a0 : Array Value} {G : va_G} {ca : Nat → ClassId} (Γ : rt_Γ l s0 a0 G ca) {d : Nat} {C : Nat × Nat} {S : zS} (hd : 4 ≤ d) (hok : zok C) {t : Int} (ht : zTx S t) {w0 : rt_Wd} {v1 : Int} {k0 : Int}  {M : zM} {Q : Int → zM → Prop} {X : zM → Prop} (h : zt_X10_value_137 l s0 G ca d C S w0 t v1 k0 M Q X) : zg_X10_value_137 l s0 G ca d C S w0 t v1 k0 M Q X := by
  unfold zt_X10_value_137 at h
  refine z_callV Γ kk_X10_node kc_RX10_127 (As := [zv s0 0 k0]) h (by omega) (by decide) (show (parseMethodDescriptor yX10_node.desc).map (fun q => q.parameters.length) = some 1 by decide +kernel) hok (Nat.zero_le _) dX10_value_137 ht.1 ht.2.1 rfl rfl (fun _ h9 => nomatch h9) ?_
  clear h
  intro r137 M137 h
  show rt_Go _ _ _ _ _ _ _ _ _ _ _ _ 140 [(0, zv s0 2 t), (1, zv s0 0 v1)] [zv s0 0 r137] (zw s0 ca C S M137)
  refine z_istore_n (i := 2) (lv' := [(2, zv s0 0 r137), (0, zv s0 2 t), (1, zv s0 0 v1)]) dX10_value_140 rfl (by decide) (by simp [zv_cat0, zv_cat1, zv_cat2, zv_cats]) ?_
  refine z_iload_n dX10_value_141 rfl (j := 2) rfl ?_
  refine z_bipush dX10_value_142 (by decide) ?_
  refine z_icmp_ne (tgt := 152) (x' := w32 v1) (y' := 116) rfl (by decide) dX10_value_144 (by decide) (fun c144 => ?_) (fun c144 => ?_)
  · replace h := h.2 c144
    refine z_iload_n dX10_value_152 rfl (j := 2) rfl ?_
    refine z_bipush dX10_value_153 (by decide) ?_
    refine z_icmp_ne (tgt := 163) (x' := w32 v1) (y' := 102) rfl (by decide) dX10_value_155 (by decide) (fun c155 => ?_) (fun c155 => ?_)
    · replace h := h.2 c155
      obtain ⟨q163, hq163a, hq163b⟩ := ks_RX10_135 Γ
      have hq163 : zstr s0 q163 [110, 117, 108, 108] := ⟨hq163b, by decide, by decide⟩
      replace h := h q163 hq163
      refine rt_ldcS Γ hq163a dX10_value_163 ?_
      refine rt_astoreA_n (i := 3) (lv' := [(3, .ref q163), (2, zv s0 0 r137), (0, zv s0 2 t), (1, zv s0 0 v1)]) dX10_value_165 rfl (by decide) (by simp [zv_cat0, zv_cat1, zv_cat2, zv_cats]) ?_
      refine z_iconst dX10_value_166 ?_
      refine z_istore (i := 4) (lv' := [(4, zv s0 0 0), (3, .ref q163), (2, zv s0 0 r137), (0, zv s0 2 t), (1, zv s0 0 v1)]) dX10_value_167 (by decide) (by simp [zv_cat0, zv_cat1, zv_cat2, zv_cats]) ?_
      exact rt_lfew [3, 2, 1, 0] rfl h
    · replace h := h.1 c155
      obtain ⟨q158, hq158a, hq158b⟩ := ks_RX10_133 Γ
      have hq158 : zstr s0 q158 [102, 97, 108, 115, 101] := ⟨hq158b, by decide, by decide⟩
      replace h := h q158 hq158
      refine rt_ldcS Γ hq158a dX10_value_158 ?_
      refine rt_goto (tgt := 165) dX10_value_160 (by decide) ?_
      refine rt_astoreA_n (i := 3) (lv' := [(3, .ref q158), (2, zv s0 0 r137), (0, zv s0 2 t), (1, zv s0 0 v1)]) dX10_value_165 rfl (by decide) (by simp [zv_cat0, zv_cat1, zv_cat2, zv_cats]) ?_
      refine z_iconst dX10_value_166 ?_
      refine z_istore (i := 4) (lv' := [(4, zv s0 0 0), (3, .ref q158), (2, zv s0 0 r137), (0, zv s0 2 t), (1, zv s0 0 v1)]) dX10_value_167 (by decide) (by simp [zv_cat0, zv_cat1, zv_cat2, zv_cats]) ?_
      exact rt_lfew [3, 2, 1, 0] rfl h
  · replace h := h.1 c144
    obtain ⟨q147, hq147a, hq147b⟩ := ks_RX10_131 Γ
    have hq147 : zstr s0 q147 [116, 114, 117, 101] := ⟨hq147b, by decide, by decide⟩
    replace h := h q147 hq147
    refine rt_ldcS Γ hq147a dX10_value_147 ?_
    refine rt_goto (tgt := 165) dX10_value_149 (by decide) ?_
    refine rt_astoreA_n (i := 3) (lv' := [(3, .ref q147), (2, zv s0 0 r137), (0, zv s0 2 t), (1, zv s0 0 v1)]) dX10_value_165 rfl (by decide) (by simp [zv_cat0, zv_cat1, zv_cat2, zv_cats]) ?_
    refine z_iconst dX10_value_166 ?_
    refine z_istore (i := 4) (lv' := [(4, zv s0 0 0), (3, .ref q147), (2, zv s0 0 r137), (0, zv s0 2 t), (1, zv s0 0 v1)]) dX10_value_167 (by decide) (by simp [zv_cat0, zv_cat1, zv_cat2, zv_cats]) ?_
    exact rt_lfew [3, 2, 1, 0] rfl h

def zt_X10_value_114 (l : Launch) (s0 : State) (G : va_G) (ca : Nat → ClassId) (d : Nat) (C : Nat × Nat) (S : zS) (w0 : rt_Wd) (t : Int) (v1 : Int)  (M : zM) (Q : Int → zM → Prop) (X : zM → Prop) : Prop :=
  zIf (w32 v1 = 116) (zt_X10_value_137 l s0 G ca d C S w0 t v1 4 M Q X) (zIf (w32 v1 = 102) (zt_X10_value_137 l s0 G ca d C S w0 t v1 5 M Q X) (zt_X10_value_137 l s0 G ca d C S w0 t v1 6 M Q X))
set_option maxRecDepth 100000 in
theorem zs_X10_value_114 {l : Launch} {s0 : State} {a0 : Array Value} {G : va_G} {ca : Nat → ClassId} (Γ : rt_Γ l s0 a0 G ca) {d : Nat} {C : Nat × Nat} {S : zS} (hd : 4 ≤ d) (hok : zok C) {t : Int} (ht : zTx S t) {w0 : rt_Wd} {v1 : Int}   {M : zM} {Q : Int → zM → Prop} {X : zM → Prop} (h : zt_X10_value_114 l s0 G ca d C S w0 t v1 M Q X) : zg_X10_value_114 l s0 G ca d C S w0 t v1 M Q X := by
  unfold zt_X10_value_114 at h
  refine z_aload_n dX10_value_114 rfl (j := 0) rfl ?_
  refine z_iload_n dX10_value_115 rfl (j := 1) rfl ?_
  refine z_bipush dX10_value_116 (by decide) ?_
  refine z_icmp_ne (tgt := 125) (x' := w32 v1) (y' := 116) rfl (by decide) dX10_value_118 (by decide) (fun c118 => ?_) (fun c118 => ?_)
  · replace h := h.2 c118
    refine z_iload_n dX10_value_125 rfl (j := 1) rfl ?_
    refine z_bipush dX10_value_126 (by decide) ?_
    refine z_icmp_ne (tgt := 135) (x' := w32 v1) (y' := 102) rfl (by decide) dX10_value_128 (by decide) (fun c128 => ?_) (fun c128 => ?_)
    · replace h := h.2 c128
      refine z_bipush dX10_value_135 (by decide) ?_
      exact rt_lfew [0, 1] rfl (zs_X10_value_137 Γ hd hok ht  h)
    · replace h := h.1 c128
      refine z_iconst dX10_value_131 ?_
      refine rt_goto (tgt := 137) dX10_value_132 (by decide) ?_
      exact rt_lfew [0, 1] rfl (zs_X10_value_137 Γ hd hok ht  h)
  · replace h := h.1 c118
    refine z_iconst dX10_value_121 ?_
    refine rt_goto (tgt := 137) dX10_value_122 (by decide) ?_
    exact rt_lfew [0, 1] rfl (zs_X10_value_137 Γ hd hok ht  h)

def zt_X10_value_169 (l : Launch) (s0 : State) (G : va_G) (ca : Nat → ClassId) (d : Nat) (C : Nat × Nat) (S : zS) (w0 : rt_Wd) (t : Int) (v2 : Int) (v3 : Nat) (v3b : List Int) (v4 : Int)  (M : zM) (Q : Int → zM → Prop) (X : zM → Prop) : Prop :=
  zIf (w32 ((v3b.length : Int)) ≤ w32 v4) (Q v2 M) ((0 ≤ v4 ∧ v4 < v3b.length) ∧ (zm_X10_take l s0 G ca (d - 1) C S t (v3b.getD v4.toNat 0) M (fun r185 M185 => zg_X10_value_169 l s0 G ca d C S w0 t v2 v3 v3b (v4 + 1) M185 Q X) X))
set_option maxRecDepth 100000 in
theorem zs_X10_value_169 {l : Launch} {s0 : State} {a0 : Array Value} {G : va_G} {ca : Nat → ClassId} (Γ : rt_Γ l s0 a0 G ca) {d : Nat} {C : Nat × Nat} {S : zS} (hd : 4 ≤ d) (hok : zok C) {t : Int} (ht : zTx S t) {w0 : rt_Wd} {v2 : Int} {v3 : Nat} {v3b : List Int} {v4 : Int}  (hv3 : zstr s0 v3 v3b) {M : zM} {Q : Int → zM → Prop} {X : zM → Prop} (h : zt_X10_value_169 l s0 G ca d C S w0 t v2 v3 v3b v4 M Q X) : zg_X10_value_169 l s0 G ca d C S w0 t v2 v3 v3b v4 M Q X := by
  unfold zt_X10_value_169 at h
  refine z_iload dX10_value_169 (j := 3) rfl ?_
  refine rt_aloadA_n dX10_value_171 rfl (j := 2) rfl ?_
  refine z_slen Γ hv3 kc_RX10_137 (by omega) hok (by simp only [List.map, zv_cat0, zv_cat1, zv_cat2, List.sum_cons, List.sum_nil]; decide) dX10_value_172 ?_
  refine z_icmp_ge (tgt := 194) (x' := w32 v4) (y' := w32 ((v3b.length : Int))) rfl rfl dX10_value_175 (by decide) (fun c175 => ?_) (fun c175 => ?_)
  · replace h := h.1 c175
    refine z_iload_n dX10_value_194 rfl (j := 1) rfl ?_
    exact z_iret dX10_value_195 rfl h
  · replace h := h.2 c175
    refine z_aload_n dX10_value_178 rfl (j := 0) rfl ?_
    refine rt_aloadA_n dX10_value_179 rfl (j := 2) rfl ?_
    refine z_iload dX10_value_180 (j := 3) rfl ?_
    obtain ⟨hi9, h⟩ := h
    refine z_scat Γ hv3 kc_RX10_141 (by omega) hok (by simp only [List.map, zv_cat0, zv_cat1, zv_cat2, List.sum_cons, List.sum_nil]; decide) hi9 dX10_value_182 ?_
    refine z_callV Γ kk_X10_take kc_RX10_145 (As := [zv s0 0 (v3b.getD v4.toNat 0)]) h (by omega) (by decide) (show (parseMethodDescriptor yX10_take.desc).map (fun q => q.parameters.length) = some 1 by decide +kernel) hok (Nat.zero_le _) dX10_value_185 ht.1 ht.2.1 rfl rfl (fun _ h9 => nomatch h9) ?_
    clear h
    intro r185 M185 h
    show rt_Go _ _ _ _ _ _ _ _ _ _ _ _ 188 [(0, zv s0 2 t), (2, zv s0 0 v2), (3, .ref v3), (4, zv s0 0 v4)] [] (zw s0 ca C S M185)
    refine z_iinc (lv' := [(4, zv s0 0 (v4 + 1)), (0, zv s0 2 t), (2, zv s0 0 v2), (3, .ref v3)]) dX10_value_188 (j := 3) rfl (by decide) (by simp [zv_cat0, zv_cat1, zv_cat2, zv_cats]) ?_
    refine rt_goto (tgt := 169) dX10_value_191 (by decide) ?_
    exact rt_lfew [1, 2, 3, 0] rfl h

def zt_X10_value (l : Launch) (s0 : State) (G : va_G) (ca : Nat → ClassId) (d : Nat) (C : Nat × Nat) (S : zS) (w0 : rt_Wd) (t : Int)  (M : zM) (Q : Int → zM → Prop) (X : zM → Prop) : Prop :=
  zm_X10_look l s0 G ca (d - 1) C S t  M (fun r1 M1 => zIf (w32 r1 = 123) (zt_X10_value_17 l s0 G ca d C S w0 t r1 M1 Q X) (zIf (w32 r1 = 91) (zt_X10_value_17 l s0 G ca d C S w0 t r1 M1 Q X) (zIf (w32 r1 = 34) (zm_X10_string l s0 G ca (d - 1) C S t  M1 (fun r87 M87 => Q r87 M87) X) (zIf (w32 r1 = 45) (zm_X10_number l s0 G ca (d - 1) C S t  M1 (fun r110 M110 => Q r110 M110) X) (zIf (w32 r1 < 48) (zt_X10_value_114 l s0 G ca d C S w0 t r1 M1 Q X) (zIf (57 < w32 r1) (zt_X10_value_114 l s0 G ca d C S w0 t r1 M1 Q X) (zm_X10_number l s0 G ca (d - 1) C S t  M1 (fun r110 M110 => Q r110 M110) X))))))) X
set_option maxRecDepth 100000 in
theorem z_X10_value {l : Launch} {s0 : State} {a0 : Array Value} {G : va_G} {ca : Nat → ClassId} (Γ : rt_Γ l s0 a0 G ca) {d : Nat} {C : Nat × Nat} {S : zS} (hd : 4 ≤ d) (hok : zok C) {t : Int} (ht : zTx S t)  {M : zM} {Q : Int → zM → Prop} {X : zM → Prop} (h : zt_X10_value l s0 G ca d C S (zw s0 ca C S M) t  M Q X) : zm_X10_value l s0 G ca d C S t  M Q X := by
  refine z_met (lv := [(0, zv s0 2 t)]) Γ kk_X10_value rfl (show (lg_sl [zv s0 2 t]).length ≤ 5 from by simp only [zn_2, show (lg_sl []).length = 0 from rfl]; omega) (show lv_args 0 [zv s0 2 t] = [(0, zv s0 2 t)] from by rw [zl_2]; rfl) ?_
  unfold zt_X10_value at h
  refine z_aload_n dX10_value_0 rfl (j := 0) rfl ?_
  refine z_callV Γ kk_X10_look kc_RX10_101 (As := []) h (by omega) (by decide) (show (parseMethodDescriptor yX10_look.desc).map (fun q => q.parameters.length) = some 0 by decide +kernel) hok (Nat.zero_le _) dX10_value_1 ht.1 ht.2.1 rfl rfl (fun _ h9 => nomatch h9) ?_
  clear h
  intro r1 M1 h
  show rt_Go _ _ _ _ _ _ _ _ _ _ _ _ 4 [(0, zv s0 2 t)] [zv s0 0 r1] (zw s0 ca C S M1)
  refine z_istore_n (i := 1) (lv' := [(1, zv s0 0 r1), (0, zv s0 2 t)]) dX10_value_4 rfl (by decide) (by simp [zv_cat0, zv_cat1, zv_cat2, zv_cats]) ?_
  refine z_iload_n dX10_value_5 rfl (j := 0) rfl ?_
  refine z_bipush dX10_value_6 (by decide) ?_
  refine z_icmp_eq (tgt := 17) (x' := w32 r1) (y' := 123) rfl (by decide) dX10_value_8 (by decide) (fun c8 => ?_) (fun c8 => ?_)
  · replace h := h.1 c8
    exact rt_lfew [1, 0] rfl (zs_X10_value_17 Γ hd hok ht  h)
  · replace h := h.2 c8
    refine z_iload_n dX10_value_11 rfl (j := 0) rfl ?_
    refine z_bipush dX10_value_12 (by decide) ?_
    refine z_icmp_ne (tgt := 80) (x' := w32 r1) (y' := 91) rfl (by decide) dX10_value_14 (by decide) (fun c14 => ?_) (fun c14 => ?_)
    · replace h := h.2 c14
      refine z_iload_n dX10_value_80 rfl (j := 0) rfl ?_
      refine z_bipush dX10_value_81 (by decide) ?_
      refine z_icmp_ne (tgt := 91) (x' := w32 r1) (y' := 34) rfl (by decide) dX10_value_83 (by decide) (fun c83 => ?_) (fun c83 => ?_)
      · replace h := h.2 c83
        refine z_iload_n dX10_value_91 rfl (j := 0) rfl ?_
        refine z_bipush dX10_value_92 (by decide) ?_
        refine z_icmp_eq (tgt := 109) (x' := w32 r1) (y' := 45) rfl (by decide) dX10_value_94 (by decide) (fun c94 => ?_) (fun c94 => ?_)
        · replace h := h.1 c94
          refine z_aload_n dX10_value_109 rfl (j := 1) rfl ?_
          refine z_callV Γ kk_X10_number kc_RX10_124 (As := []) h (by omega) (by decide) (show (parseMethodDescriptor yX10_number.desc).map (fun q => q.parameters.length) = some 0 by decide +kernel) hok (Nat.zero_le _) dX10_value_110 ht.1 ht.2.1 rfl rfl (fun _ h9 => nomatch h9) ?_
          clear h
          intro r110 M110 h
          show rt_Go _ _ _ _ _ _ _ _ _ _ _ _ 113 [(1, zv s0 0 r1), (0, zv s0 2 t)] [zv s0 0 r110] (zw s0 ca C S M110)
          exact z_iret dX10_value_113 rfl h
        · replace h := h.2 c94
          refine z_iload_n dX10_value_97 rfl (j := 0) rfl ?_
          refine z_bipush dX10_value_98 (by decide) ?_
          refine z_icmp_lt (tgt := 114) (x' := w32 r1) (y' := 48) rfl (by decide) dX10_value_100 (by decide) (fun c100 => ?_) (fun c100 => ?_)
          · replace h := h.1 c100
            exact rt_lfew [1, 0] rfl (zs_X10_value_114 Γ hd hok ht  h)
          · replace h := h.2 c100
            refine z_iload_n dX10_value_103 rfl (j := 0) rfl ?_
            refine z_bipush dX10_value_104 (by decide) ?_
            refine z_icmp_gt (tgt := 114) (x' := w32 r1) (y' := 57) rfl (by decide) dX10_value_106 (by decide) (fun c106 => ?_) (fun c106 => ?_)
            · replace h := h.1 c106
              exact rt_lfew [1, 0] rfl (zs_X10_value_114 Γ hd hok ht  h)
            · replace h := h.2 c106
              refine z_aload_n dX10_value_109 rfl (j := 1) rfl ?_
              refine z_callV Γ kk_X10_number kc_RX10_124 (As := []) h (by omega) (by decide) (show (parseMethodDescriptor yX10_number.desc).map (fun q => q.parameters.length) = some 0 by decide +kernel) hok (Nat.zero_le _) dX10_value_110 ht.1 ht.2.1 rfl rfl (fun _ h9 => nomatch h9) ?_
              clear h
              intro r110 M110 h
              show rt_Go _ _ _ _ _ _ _ _ _ _ _ _ 113 [(1, zv s0 0 r1), (0, zv s0 2 t)] [zv s0 0 r110] (zw s0 ca C S M110)
              exact z_iret dX10_value_113 rfl h
      · replace h := h.1 c83
        refine z_aload_n dX10_value_86 rfl (j := 1) rfl ?_
        refine z_callV Γ kk_X10_string kc_RX10_121 (As := []) h (by omega) (by decide) (show (parseMethodDescriptor yX10_string.desc).map (fun q => q.parameters.length) = some 0 by decide +kernel) hok (Nat.zero_le _) dX10_value_87 ht.1 ht.2.1 rfl rfl (fun _ h9 => nomatch h9) ?_
        clear h
        intro r87 M87 h
        show rt_Go _ _ _ _ _ _ _ _ _ _ _ _ 90 [(1, zv s0 0 r1), (0, zv s0 2 t)] [zv s0 0 r87] (zw s0 ca C S M87)
        exact z_iret dX10_value_90 rfl h
    · replace h := h.1 c14
      exact rt_lfew [1, 0] rfl (zs_X10_value_17 Γ hd hok ht  h)

abbrev zg_X10_same_20 (l : Launch) (s0 : State) (G : va_G) (ca : Nat → ClassId) (d : Nat) (C : Nat × Nat) (S : zS) (w0 : rt_Wd) (t : Int) (v1 : Int) (v2 : Int) (v3 : Int) (v4 : Int)  (M : zM) (Q : Int → zM → Prop) (X : zM → Prop) : Prop := rt_Go l s0 G RX10 "same" cX10_same 5 (Option.some FieldType.boolean) [] d w0 (zQ s0 ca 0 C S Q X) 20 [(0, zv s0 2 t), (1, zv s0 0 v1), (2, zv s0 2 v2), (3, zv s0 0 v3), (4, zv s0 0 v4)] [] (zw s0 ca C S M)
def zt_X10_same_20 (l : Launch) (s0 : State) (G : va_G) (ca : Nat → ClassId) (d : Nat) (C : Nat × Nat) (S : zS) (w0 : rt_Wd) (t : Int) (v1 : Int) (v2 : Int) (v3 : Int) (v4 : Int)  (M : zM) (Q : Int → zM → Prop) (X : zM → Prop) : Prop :=
  (0 ≤ v1 ∧ v1 < 4200) ∧ (zIf (w32 (M (t + 5) v1) ≤ w32 v4) (Q 1 M) ((0 ≤ (M (t + 4) v1) + v4 ∧ (M (t + 4) v1) + v4 < 4200) ∧ (zTx S v2 ∧ ((0 ≤ v3 ∧ v3 < 4200) ∧ ((0 ≤ (M (v2 + 4) v3) + v4 ∧ (M (v2 + 4) v3) + v4 < 4200) ∧ (zIf (w32 (M (t + 8) ((M (t + 4) v1) + v4)) = w32 (M (v2 + 8) ((M (v2 + 4) v3) + v4))) (zg_X10_same_20 l s0 G ca d C S w0 t v1 v2 v3 (v4 + 1) M Q X) (Q 0 M)))))))
set_option maxRecDepth 100000 in
theorem zs_X10_same_20 {l : Launch} {s0 : State} {a0 : Array Value} {G : va_G} {ca : Nat → ClassId} (Γ : rt_Γ l s0 a0 G ca) {d : Nat} {C : Nat × Nat} {S : zS} (hok : zok C) {t : Int} (ht : zTx S t) {w0 : rt_Wd} {v1 : Int} {v2 : Int} {v3 : Int} {v4 : Int}   {M : zM} {Q : Int → zM → Prop} {X : zM → Prop} (h : zt_X10_same_20 l s0 G ca d C S w0 t v1 v2 v3 v4 M Q X) : zg_X10_same_20 l s0 G ca d C S w0 t v1 v2 v3 v4 M Q X := by
  unfold zt_X10_same_20 at h
  refine z_iload dX10_same_20 (j := 4) rfl ?_
  refine z_aload_n dX10_same_22 rfl (j := 0) rfl ?_
  refine z_getc Γ kf_RX10_26 dX10_same_23 ht.1 ht.2.1 rfl ?_
  refine z_iload_n dX10_same_26 rfl (j := 1) rfl ?_
  obtain ⟨hi27, h⟩ := h
  refine z_iald Γ dX10_same_27 (by have := ht.1; omega) ht.2.2.2.2.2.2.1 (by decide) hi27 (v9 := M (t + 5) v1) rfl ?_
  refine z_icmp_ge (tgt := 72) (x' := w32 v4) (y' := w32 (M (t + 5) v1)) rfl rfl dX10_same_28 (by decide) (fun c28 => ?_) (fun c28 => ?_)
  · replace h := h.1 c28
    refine z_iconst dX10_same_72 ?_
    exact z_zret dX10_same_73 rfl (by decide) h
  · replace h := h.2 c28
    refine z_aload_n dX10_same_31 rfl (j := 0) rfl ?_
    refine z_getc Γ kf_RX10_35 dX10_same_32 ht.1 ht.2.1 rfl ?_
    refine z_aload_n dX10_same_35 rfl (j := 0) rfl ?_
    refine z_getc Γ kf_RX10_22 dX10_same_36 ht.1 ht.2.1 rfl ?_
    refine z_iload_n dX10_same_39 rfl (j := 1) rfl ?_
    refine z_lald Γ dX10_same_40 (by have := ht.1; omega) ht.2.2.2.2.2.1 (by decide) hi27 (v9 := M (t + 4) v1) rfl ?_
    refine z_l2i dX10_same_41 ?_
    refine z_iload dX10_same_42 (j := 4) rfl ?_
    refine z_iadd dX10_same_44 ?_
    obtain ⟨hi45, h⟩ := h
    refine z_bald Γ dX10_same_45 (by have := ht.1; omega) ht.2.2.2.2.2.2.2.2.2.1 (by decide) hi45 (v9 := M (t + 8) ((M (t + 4) v1) + v4)) rfl ?_
    refine z_aload_n dX10_same_46 rfl (j := 2) rfl ?_
    obtain ⟨hk0, h⟩ := h
    refine z_getc Γ kf_RX10_35 dX10_same_47 hk0.1 hk0.2.1 rfl ?_
    refine z_aload_n dX10_same_50 rfl (j := 2) rfl ?_
    refine z_getc Γ kf_RX10_22 dX10_same_51 hk0.1 hk0.2.1 rfl ?_
    refine z_iload_n dX10_same_54 rfl (j := 3) rfl ?_
    obtain ⟨hi55, h⟩ := h
    refine z_lald Γ dX10_same_55 (by have := hk0.1; omega) hk0.2.2.2.2.2.1 (by decide) hi55 (v9 := M (v2 + 4) v3) rfl ?_
    refine z_l2i dX10_same_56 ?_
    refine z_iload dX10_same_57 (j := 4) rfl ?_
    refine z_iadd dX10_same_59 ?_
    obtain ⟨hi60, h⟩ := h
    refine z_bald Γ dX10_same_60 (by have := hk0.1; omega) hk0.2.2.2.2.2.2.2.2.2.1 (by decide) hi60 (v9 := M (v2 + 8) ((M (v2 + 4) v3) + v4)) rfl ?_
    refine z_icmp_eq (tgt := 66) (x' := w32 (M (t + 8) ((M (t + 4) v1) + v4))) (y' := w32 (M (v2 + 8) ((M (v2 + 4) v3) + v4))) rfl rfl dX10_same_61 (by decide) (fun c61 => ?_) (fun c61 => ?_)
    · replace h := h.1 c61
      refine z_iinc (lv' := [(4, zv s0 0 (v4 + 1)), (0, zv s0 2 t), (1, zv s0 0 v1), (2, zv s0 2 v2), (3, zv s0 0 v3)]) dX10_same_66 (j := 4) rfl (by decide) (by simp [zv_cat0, zv_cat1, zv_cat2, zv_cats]) ?_
      refine rt_goto (tgt := 20) dX10_same_69 (by decide) ?_
      exact rt_lfew [1, 2, 3, 4, 0] rfl h
    · replace h := h.2 c61
      refine z_iconst dX10_same_64 ?_
      exact z_zret dX10_same_65 rfl (by decide) h

def zt_X10_same (l : Launch) (s0 : State) (G : va_G) (ca : Nat → ClassId) (d : Nat) (C : Nat × Nat) (S : zS) (w0 : rt_Wd) (t : Int) (a : Int) (o : Int) (b : Int) (M : zM) (Q : Int → zM → Prop) (X : zM → Prop) : Prop :=
  (0 ≤ a ∧ a < 4200) ∧ (zTx S o ∧ ((0 ≤ b ∧ b < 4200) ∧ (zIf (w32 (M (t + 5) a) = w32 (M (o + 5) b)) (zg_X10_same_20 l s0 G ca d C S w0 t a o b 0 M Q X) (Q 0 M))))
set_option maxRecDepth 100000 in
theorem z_X10_same {l : Launch} {s0 : State} {a0 : Array Value} {G : va_G} {ca : Nat → ClassId} (Γ : rt_Γ l s0 a0 G ca) {d : Nat} {C : Nat × Nat} {S : zS} (hok : zok C) {t : Int} (ht : zTx S t) {a : Int} {o : Int} {b : Int} {M : zM} {Q : Int → zM → Prop} {X : zM → Prop} (h : zt_X10_same l s0 G ca d C S (zw s0 ca C S M) t a o b M Q X) : zm_X10_same l s0 G ca d C S t a o b M Q X := by
  refine z_met (lv := [(0, zv s0 2 t), (1, zv s0 0 a), (2, zv s0 2 o), (3, zv s0 0 b)]) Γ kk_X10_same rfl (show (lg_sl [zv s0 2 t, zv s0 0 a, zv s0 2 o, zv s0 0 b]).length ≤ 5 from by simp only [zn_0, zn_2, show (lg_sl []).length = 0 from rfl]; omega) (show lv_args 0 [zv s0 2 t, zv s0 0 a, zv s0 2 o, zv s0 0 b] = [(0, zv s0 2 t), (1, zv s0 0 a), (2, zv s0 2 o), (3, zv s0 0 b)] from by rw [zl_2, zl_0, zl_2, zl_0]; rfl) ?_
  unfold zt_X10_same at h
  refine z_aload_n dX10_same_0 rfl (j := 0) rfl ?_
  refine z_getc Γ kf_RX10_26 dX10_same_1 ht.1 ht.2.1 rfl ?_
  refine z_iload_n dX10_same_4 rfl (j := 1) rfl ?_
  obtain ⟨hi5, h⟩ := h
  refine z_iald Γ dX10_same_5 (by have := ht.1; omega) ht.2.2.2.2.2.2.1 (by decide) hi5 (v9 := M (t + 5) a) rfl ?_
  refine z_aload_n dX10_same_6 rfl (j := 2) rfl ?_
  obtain ⟨hk0, h⟩ := h
  refine z_getc Γ kf_RX10_26 dX10_same_7 hk0.1 hk0.2.1 rfl ?_
  refine z_iload_n dX10_same_10 rfl (j := 3) rfl ?_
  obtain ⟨hi11, h⟩ := h
  refine z_iald Γ dX10_same_11 (by have := hk0.1; omega) hk0.2.2.2.2.2.2.1 (by decide) hi11 (v9 := M (o + 5) b) rfl ?_
  refine z_icmp_eq (tgt := 17) (x' := w32 (M (t + 5) a)) (y' := w32 (M (o + 5) b)) rfl rfl dX10_same_12 (by decide) (fun c12 => ?_) (fun c12 => ?_)
  · replace h := h.1 c12
    refine z_iconst dX10_same_17 ?_
    refine z_istore (i := 4) (lv' := [(4, zv s0 0 0), (0, zv s0 2 t), (1, zv s0 0 a), (2, zv s0 2 o), (3, zv s0 0 b)]) dX10_same_18 (by decide) (by simp [zv_cat0, zv_cat1, zv_cat2, zv_cats]) ?_
    exact rt_lfew [1, 2, 3, 4, 0] rfl h
  · replace h := h.2 c12
    refine z_iconst dX10_same_15 ?_
    exact z_zret dX10_same_16 rfl (by decide) h

abbrev zg_X10_is_32 (l : Launch) (s0 : State) (G : va_G) (ca : Nat → ClassId) (d : Nat) (C : Nat × Nat) (S : zS) (w0 : rt_Wd) (t : Int) (w : Nat) (wb : List Int) (v1 : Int) (v3 : Int) (v4 : Int)  (M : zM) (Q : Int → zM → Prop) (X : zM → Prop) : Prop := rt_Go l s0 G RX10 "is" cX10_is 5 (Option.some FieldType.boolean) [] d w0 (zQ s0 ca 0 C S Q X) 32 [(0, zv s0 2 t), (1, zv s0 0 v1), (2, .ref w), (3, zv s0 0 v3), (4, zv s0 0 v4)] [] (zw s0 ca C S M)
def zt_X10_is_32 (l : Launch) (s0 : State) (G : va_G) (ca : Nat → ClassId) (d : Nat) (C : Nat × Nat) (S : zS) (w0 : rt_Wd) (t : Int) (w : Nat) (wb : List Int) (v1 : Int) (v3 : Int) (v4 : Int)  (M : zM) (Q : Int → zM → Prop) (X : zM → Prop) : Prop :=
  zIf (w32 ((wb.length : Int)) ≤ w32 v4) ((v3 = 0 ∨ v3 = 1) ∧ Q v3 M) (zIf (w32 v3 = 0) ((v3 = 0 ∨ v3 = 1) ∧ Q v3 M) ((0 ≤ v1 ∧ v1 < 4200) ∧ ((0 ≤ (M (t + 4) v1) + v4 ∧ (M (t + 4) v1) + v4 < 4200) ∧ ((0 ≤ v4 ∧ v4 < wb.length) ∧ (zIf (w32 (M (t + 8) ((M (t + 4) v1) + v4)) = w32 (wb.getD v4.toNat 0)) (zg_X10_is_32 l s0 G ca d C S w0 t w wb v1 1 (v4 + 1) M Q X) (zg_X10_is_32 l s0 G ca d C S w0 t w wb v1 0 (v4 + 1) M Q X))))))
set_option maxRecDepth 100000 in
theorem zs_X10_is_32 {l : Launch} {s0 : State} {a0 : Array Value} {G : va_G} {ca : Nat → ClassId} (Γ : rt_Γ l s0 a0 G ca) {d : Nat} {C : Nat × Nat} {S : zS} (hd : 4 ≤ d) (hok : zok C) {t : Int} {w : Nat} {wb : List Int} (ht : zTx S t) (hw : zstr s0 w wb) {w0 : rt_Wd} {v1 : Int} {v3 : Int} {v4 : Int}   {M : zM} {Q : Int → zM → Prop} {X : zM → Prop} (h : zt_X10_is_32 l s0 G ca d C S w0 t w wb v1 v3 v4 M Q X) : zg_X10_is_32 l s0 G ca d C S w0 t w wb v1 v3 v4 M Q X := by
  unfold zt_X10_is_32 at h
  refine z_iload dX10_is_32 (j := 4) rfl ?_
  refine rt_aloadA_n dX10_is_34 rfl (j := 2) rfl ?_
  refine z_slen Γ hw kc_RX10_137 (by omega) hok (by simp only [List.map, zv_cat0, zv_cat1, zv_cat2, List.sum_cons, List.sum_nil]; decide) dX10_is_35 ?_
  refine z_icmp_ge (tgt := 81) (x' := w32 v4) (y' := w32 ((wb.length : Int))) rfl rfl dX10_is_38 (by decide) (fun c38 => ?_) (fun c38 => ?_)
  · replace h := h.1 c38
    refine z_iload_n dX10_is_81 rfl (j := 3) rfl ?_
    obtain ⟨hi9, h⟩ := h
    exact z_zret dX10_is_82 rfl hi9 h
  · replace h := h.2 c38
    refine z_iload_n dX10_is_41 rfl (j := 3) rfl ?_
    refine z_if_eq (tgt := 81) (x' := w32 v3) rfl dX10_is_42 (by decide) (fun c42 => ?_) (fun c42 => ?_)
    · replace h := h.1 c42
      refine z_iload_n dX10_is_81 rfl (j := 3) rfl ?_
      obtain ⟨hi9, h⟩ := h
      exact z_zret dX10_is_82 rfl hi9 h
    · replace h := h.2 c42
      refine z_aload_n dX10_is_45 rfl (j := 0) rfl ?_
      refine z_getc Γ kf_RX10_35 dX10_is_46 ht.1 ht.2.1 rfl ?_
      refine z_aload_n dX10_is_49 rfl (j := 0) rfl ?_
      refine z_getc Γ kf_RX10_22 dX10_is_50 ht.1 ht.2.1 rfl ?_
      refine z_iload_n dX10_is_53 rfl (j := 1) rfl ?_
      obtain ⟨hi54, h⟩ := h
      refine z_lald Γ dX10_is_54 (by have := ht.1; omega) ht.2.2.2.2.2.1 (by decide) hi54 (v9 := M (t + 4) v1) rfl ?_
      refine z_l2i dX10_is_55 ?_
      refine z_iload dX10_is_56 (j := 4) rfl ?_
      refine z_iadd dX10_is_58 ?_
      obtain ⟨hi59, h⟩ := h
      refine z_bald Γ dX10_is_59 (by have := ht.1; omega) ht.2.2.2.2.2.2.2.2.2.1 (by decide) hi59 (v9 := M (t + 8) ((M (t + 4) v1) + v4)) rfl ?_
      refine rt_aloadA_n dX10_is_60 rfl (j := 2) rfl ?_
      refine z_iload dX10_is_61 (j := 4) rfl ?_
      obtain ⟨hi9, h⟩ := h
      refine z_scat Γ hw kc_RX10_141 (by omega) hok (by simp only [List.map, zv_cat0, zv_cat1, zv_cat2, List.sum_cons, List.sum_nil]; decide) hi9 dX10_is_63 ?_
      refine z_icmp_ne (tgt := 73) (x' := w32 (M (t + 8) ((M (t + 4) v1) + v4))) (y' := w32 (wb.getD v4.toNat 0)) rfl rfl dX10_is_66 (by decide) (fun c66 => ?_) (fun c66 => ?_)
      · replace h := h.2 c66
        refine z_iconst dX10_is_73 ?_
        refine z_istore_n (i := 3) (lv' := [(3, zv s0 0 0), (0, zv s0 2 t), (1, zv s0 0 v1), (2, .ref w), (4, zv s0 0 v4)]) dX10_is_74 rfl (by decide) (by simp [zv_cat0, zv_cat1, zv_cat2, zv_cats]) ?_
        refine z_iinc (lv' := [(4, zv s0 0 (v4 + 1)), (3, zv s0 0 0), (0, zv s0 2 t), (1, zv s0 0 v1), (2, .ref w)]) dX10_is_75 (j := 4) rfl (by decide) (by simp [zv_cat0, zv_cat1, zv_cat2, zv_cats]) ?_
        refine rt_goto (tgt := 32) dX10_is_78 (by decide) ?_
        exact rt_lfew [2, 3, 4, 1, 0] rfl h
      · replace h := h.1 c66
        refine z_iconst dX10_is_69 ?_
        refine rt_goto (tgt := 74) dX10_is_70 (by decide) ?_
        refine z_istore_n (i := 3) (lv' := [(3, zv s0 0 1), (0, zv s0 2 t), (1, zv s0 0 v1), (2, .ref w), (4, zv s0 0 v4)]) dX10_is_74 rfl (by decide) (by simp [zv_cat0, zv_cat1, zv_cat2, zv_cats]) ?_
        refine z_iinc (lv' := [(4, zv s0 0 (v4 + 1)), (3, zv s0 0 1), (0, zv s0 2 t), (1, zv s0 0 v1), (2, .ref w)]) dX10_is_75 (j := 4) rfl (by decide) (by simp [zv_cat0, zv_cat1, zv_cat2, zv_cats]) ?_
        refine rt_goto (tgt := 32) dX10_is_78 (by decide) ?_
        exact rt_lfew [2, 3, 4, 1, 0] rfl h

def zt_X10_is (l : Launch) (s0 : State) (G : va_G) (ca : Nat → ClassId) (d : Nat) (C : Nat × Nat) (S : zS) (w0 : rt_Wd) (t : Int) (w : Nat) (wb : List Int) (n : Int) (M : zM) (Q : Int → zM → Prop) (X : zM → Prop) : Prop :=
  (0 ≤ n ∧ n < 4200) ∧ (zIf (w32 (M (t + 2) n) = 2) (zIf (w32 (M (t + 5) n) = w32 ((wb.length : Int))) (zg_X10_is_32 l s0 G ca d C S w0 t w wb n 1 0 M Q X) (zg_X10_is_32 l s0 G ca d C S w0 t w wb n 0 0 M Q X)) (zg_X10_is_32 l s0 G ca d C S w0 t w wb n 0 0 M Q X))
set_option maxRecDepth 100000 in
theorem z_X10_is {l : Launch} {s0 : State} {a0 : Array Value} {G : va_G} {ca : Nat → ClassId} (Γ : rt_Γ l s0 a0 G ca) {d : Nat} {C : Nat × Nat} {S : zS} (hd : 4 ≤ d) (hok : zok C) {t : Int} {w : Nat} {wb : List Int} (ht : zTx S t) (hw : zstr s0 w wb) {n : Int} {M : zM} {Q : Int → zM → Prop} {X : zM → Prop} (h : zt_X10_is l s0 G ca d C S (zw s0 ca C S M) t w wb n M Q X) : zm_X10_is l s0 G ca d C S t n w M Q X := by
  refine z_met (lv := [(0, zv s0 2 t), (1, zv s0 0 n), (2, .ref w)]) Γ kk_X10_is rfl (show (lg_sl [zv s0 2 t, zv s0 0 n, .ref w]).length ≤ 5 from by simp only [zn_0, zn_2, zn_s, show (lg_sl []).length = 0 from rfl]; omega) (show lv_args 0 [zv s0 2 t, zv s0 0 n, .ref w] = [(0, zv s0 2 t), (1, zv s0 0 n), (2, .ref w)] from by rw [zl_2, zl_0, zl_s]; rfl) ?_
  unfold zt_X10_is at h
  refine z_aload_n dX10_is_0 rfl (j := 0) rfl ?_
  refine z_getc Γ kf_RX10_15 dX10_is_1 ht.1 ht.2.1 rfl ?_
  refine z_iload_n dX10_is_4 rfl (j := 1) rfl ?_
  obtain ⟨hi5, h⟩ := h
  refine z_iald Γ dX10_is_5 (by have := ht.1; omega) ht.2.2.2.1 (by decide) hi5 (v9 := M (t + 2) n) rfl ?_
  refine z_iconst dX10_is_6 ?_
  refine z_icmp_ne (tgt := 27) (x' := w32 (M (t + 2) n)) (y' := 2) rfl (by decide) dX10_is_7 (by decide) (fun c7 => ?_) (fun c7 => ?_)
  · replace h := h.2 c7
    refine z_iconst dX10_is_27 ?_
    refine z_istore_n (i := 3) (lv' := [(3, zv s0 0 0), (0, zv s0 2 t), (1, zv s0 0 n), (2, .ref w)]) dX10_is_28 rfl (by decide) (by simp [zv_cat0, zv_cat1, zv_cat2, zv_cats]) ?_
    refine z_iconst dX10_is_29 ?_
    refine z_istore (i := 4) (lv' := [(4, zv s0 0 0), (3, zv s0 0 0), (0, zv s0 2 t), (1, zv s0 0 n), (2, .ref w)]) dX10_is_30 (by decide) (by simp [zv_cat0, zv_cat1, zv_cat2, zv_cats]) ?_
    exact rt_lfew [2, 3, 4, 1, 0] rfl h
  · replace h := h.1 c7
    refine z_aload_n dX10_is_10 rfl (j := 0) rfl ?_
    refine z_getc Γ kf_RX10_26 dX10_is_11 ht.1 ht.2.1 rfl ?_
    refine z_iload_n dX10_is_14 rfl (j := 1) rfl ?_
    refine z_iald Γ dX10_is_15 (by have := ht.1; omega) ht.2.2.2.2.2.2.1 (by decide) hi5 (v9 := M (t + 5) n) rfl ?_
    refine rt_aloadA_n dX10_is_16 rfl (j := 2) rfl ?_
    refine z_slen Γ hw kc_RX10_137 (by omega) hok (by simp only [List.map, zv_cat0, zv_cat1, zv_cat2, List.sum_cons, List.sum_nil]; decide) dX10_is_17 ?_
    refine z_icmp_ne (tgt := 27) (x' := w32 (M (t + 5) n)) (y' := w32 ((wb.length : Int))) rfl rfl dX10_is_20 (by decide) (fun c20 => ?_) (fun c20 => ?_)
    · replace h := h.2 c20
      refine z_iconst dX10_is_27 ?_
      refine z_istore_n (i := 3) (lv' := [(3, zv s0 0 0), (0, zv s0 2 t), (1, zv s0 0 n), (2, .ref w)]) dX10_is_28 rfl (by decide) (by simp [zv_cat0, zv_cat1, zv_cat2, zv_cats]) ?_
      refine z_iconst dX10_is_29 ?_
      refine z_istore (i := 4) (lv' := [(4, zv s0 0 0), (3, zv s0 0 0), (0, zv s0 2 t), (1, zv s0 0 n), (2, .ref w)]) dX10_is_30 (by decide) (by simp [zv_cat0, zv_cat1, zv_cat2, zv_cats]) ?_
      exact rt_lfew [2, 3, 4, 1, 0] rfl h
    · replace h := h.1 c20
      refine z_iconst dX10_is_23 ?_
      refine rt_goto (tgt := 28) dX10_is_24 (by decide) ?_
      refine z_istore_n (i := 3) (lv' := [(3, zv s0 0 1), (0, zv s0 2 t), (1, zv s0 0 n), (2, .ref w)]) dX10_is_28 rfl (by decide) (by simp [zv_cat0, zv_cat1, zv_cat2, zv_cats]) ?_
      refine z_iconst dX10_is_29 ?_
      refine z_istore (i := 4) (lv' := [(4, zv s0 0 0), (3, zv s0 0 1), (0, zv s0 2 t), (1, zv s0 0 n), (2, .ref w)]) dX10_is_30 (by decide) (by simp [zv_cat0, zv_cat1, zv_cat2, zv_cats]) ?_
      exact rt_lfew [2, 3, 4, 1, 0] rfl h

abbrev zg_X10_member_7 (l : Launch) (s0 : State) (G : va_G) (ca : Nat → ClassId) (d : Nat) (C : Nat × Nat) (S : zS) (w0 : rt_Wd) (t : Int) (w : Nat) (wb : List Int) (v3 : Int)  (M : zM) (Q : Int → zM → Prop) (X : zM → Prop) : Prop := rt_Go l s0 G RX10 "member" cX10_member 4 (Option.some FieldType.int) [] d w0 (zQ s0 ca 0 C S Q X) 7 [(0, zv s0 2 t), (2, .ref w), (3, zv s0 0 v3)] [] (zw s0 ca C S M)
def zt_X10_member_7 (l : Launch) (s0 : State) (G : va_G) (ca : Nat → ClassId) (d : Nat) (C : Nat × Nat) (S : zS) (w0 : rt_Wd) (t : Int) (w : Nat) (wb : List Int) (v3 : Int)  (M : zM) (Q : Int → zM → Prop) (X : zM → Prop) : Prop :=
  zIf (w32 v3 < 0) (Q ((-1)) M) (zm_X10_is l s0 G ca (d - 1) C S t v3 w M (fun r14 M14 => zIf (w32 r14 = 0) ((0 ≤ v3 ∧ v3 < 4200) ∧ ((0 ≤ M14 (t + 7) v3 ∧ M14 (t + 7) v3 < 4200) ∧ (zg_X10_member_7 l s0 G ca d C S w0 t w wb (M14 (t + 7) (M14 (t + 7) v3)) M14 Q X))) ((0 ≤ v3 ∧ v3 < 4200) ∧ (Q (M14 (t + 7) v3) M14))) X)
set_option maxRecDepth 100000 in
theorem zs_X10_member_7 {l : Launch} {s0 : State} {a0 : Array Value} {G : va_G} {ca : Nat → ClassId} (Γ : rt_Γ l s0 a0 G ca) {d : Nat} {C : Nat × Nat} {S : zS} (hd : 1 ≤ d) (hok : zok C) {t : Int} {w : Nat} {wb : List Int} (ht : zTx S t) (hw : zstr s0 w wb) {w0 : rt_Wd} {v3 : Int}   {M : zM} {Q : Int → zM → Prop} {X : zM → Prop} (h : zt_X10_member_7 l s0 G ca d C S w0 t w wb v3 M Q X) : zg_X10_member_7 l s0 G ca d C S w0 t w wb v3 M Q X := by
  unfold zt_X10_member_7 at h
  refine z_iload_n dX10_member_7 rfl (j := 2) rfl ?_
  refine z_if_lt (tgt := 42) (x' := w32 v3) rfl dX10_member_8 (by decide) (fun c8 => ?_) (fun c8 => ?_)
  · replace h := h.1 c8
    refine z_iconst dX10_member_42 ?_
    exact z_iret dX10_member_43 rfl h
  · replace h := h.2 c8
    refine z_aload_n dX10_member_11 rfl (j := 0) rfl ?_
    refine z_iload_n dX10_member_12 rfl (j := 2) rfl ?_
    refine rt_aloadA_n dX10_member_13 rfl (j := 1) rfl ?_
    refine z_callV Γ kk_X10_is kc_RX10_177 (As := [zv s0 0 v3, .ref w]) h (by omega) (by decide) (show (parseMethodDescriptor yX10_is.desc).map (fun q => q.parameters.length) = some 2 by decide +kernel) hok (Nat.zero_le _) dX10_member_14 ht.1 ht.2.1 rfl rfl (fun _ h9 => nomatch h9) ?_
    clear h
    intro r14 M14 h
    show rt_Go _ _ _ _ _ _ _ _ _ _ _ _ 17 [(0, zv s0 2 t), (2, .ref w), (3, zv s0 0 v3)] [zv s0 0 r14] (zw s0 ca C S M14)
    refine z_if_eq (tgt := 27) (x' := w32 r14) rfl dX10_member_17 (by decide) (fun c17 => ?_) (fun c17 => ?_)
    · replace h := h.1 c17
      refine z_aload_n dX10_member_27 rfl (j := 0) rfl ?_
      refine z_getc Γ kf_RX10_32 dX10_member_28 ht.1 ht.2.1 rfl ?_
      refine z_aload_n dX10_member_31 rfl (j := 0) rfl ?_
      refine z_getc Γ kf_RX10_32 dX10_member_32 ht.1 ht.2.1 rfl ?_
      refine z_iload_n dX10_member_35 rfl (j := 2) rfl ?_
      obtain ⟨hi36, h⟩ := h
      refine z_iald Γ dX10_member_36 (by have := ht.1; omega) ht.2.2.2.2.2.2.2.2.1 (by decide) hi36 (v9 := M14 (t + 7) v3) rfl ?_
      obtain ⟨hi37, h⟩ := h
      refine z_iald Γ dX10_member_37 (by have := ht.1; omega) ht.2.2.2.2.2.2.2.2.1 (by decide) hi37 (v9 := M14 (t + 7) (M14 (t + 7) v3)) rfl ?_
      refine z_istore_n (i := 3) (lv' := [(3, zv s0 0 (M14 (t + 7) (M14 (t + 7) v3))), (0, zv s0 2 t), (2, .ref w)]) dX10_member_38 rfl (by decide) (by simp [zv_cat0, zv_cat1, zv_cat2, zv_cats]) ?_
      refine rt_goto (tgt := 7) dX10_member_39 (by decide) ?_
      exact rt_lfew [1, 2, 0] rfl h
    · replace h := h.2 c17
      refine z_aload_n dX10_member_20 rfl (j := 0) rfl ?_
      refine z_getc Γ kf_RX10_32 dX10_member_21 ht.1 ht.2.1 rfl ?_
      refine z_iload_n dX10_member_24 rfl (j := 2) rfl ?_
      obtain ⟨hi25, h⟩ := h
      refine z_iald Γ dX10_member_25 (by have := ht.1; omega) ht.2.2.2.2.2.2.2.2.1 (by decide) hi25 (v9 := M14 (t + 7) v3) rfl ?_
      exact z_iret dX10_member_26 rfl h

def zt_X10_member (l : Launch) (s0 : State) (G : va_G) (ca : Nat → ClassId) (d : Nat) (C : Nat × Nat) (S : zS) (w0 : rt_Wd) (t : Int) (w : Nat) (wb : List Int) (n : Int) (M : zM) (Q : Int → zM → Prop) (X : zM → Prop) : Prop :=
  (0 ≤ n ∧ n < 4200) ∧ (zg_X10_member_7 l s0 G ca d C S w0 t w wb (M (t + 6) n) M Q X)
set_option maxRecDepth 100000 in
theorem z_X10_member {l : Launch} {s0 : State} {a0 : Array Value} {G : va_G} {ca : Nat → ClassId} (Γ : rt_Γ l s0 a0 G ca) {d : Nat} {C : Nat × Nat} {S : zS} (hd : 1 ≤ d) (hok : zok C) {t : Int} {w : Nat} {wb : List Int} (ht : zTx S t) (hw : zstr s0 w wb) {n : Int} {M : zM} {Q : Int → zM → Prop} {X : zM → Prop} (h : zt_X10_member l s0 G ca d C S (zw s0 ca C S M) t w wb n M Q X) : zm_X10_member l s0 G ca d C S t n w M Q X := by
  refine z_met (lv := [(0, zv s0 2 t), (1, zv s0 0 n), (2, .ref w)]) Γ kk_X10_member rfl (show (lg_sl [zv s0 2 t, zv s0 0 n, .ref w]).length ≤ 4 from by simp only [zn_0, zn_2, zn_s, show (lg_sl []).length = 0 from rfl]; omega) (show lv_args 0 [zv s0 2 t, zv s0 0 n, .ref w] = [(0, zv s0 2 t), (1, zv s0 0 n), (2, .ref w)] from by rw [zl_2, zl_0, zl_s]; rfl) ?_
  unfold zt_X10_member at h
  refine z_aload_n dX10_member_0 rfl (j := 0) rfl ?_
  refine z_getc Γ kf_RX10_29 dX10_member_1 ht.1 ht.2.1 rfl ?_
  refine z_iload_n dX10_member_4 rfl (j := 1) rfl ?_
  obtain ⟨hi5, h⟩ := h
  refine z_iald Γ dX10_member_5 (by have := ht.1; omega) ht.2.2.2.2.2.2.2.1 (by decide) hi5 (v9 := M (t + 6) n) rfl ?_
  refine z_istore_n (i := 3) (lv' := [(3, zv s0 0 (M (t + 6) n)), (0, zv s0 2 t), (1, zv s0 0 n), (2, .ref w)]) dX10_member_6 rfl (by decide) (by simp [zv_cat0, zv_cat1, zv_cat2, zv_cats]) ?_
  exact rt_lfew [1, 3, 0] rfl h

abbrev zg_X10_isName_38 (l : Launch) (s0 : State) (G : va_G) (ca : Nat → ClassId) (d : Nat) (C : Nat × Nat) (S : zS) (w0 : rt_Wd) (t : Int) (v1 : Int) (v2 : Int) (v3 : Int)  (M : zM) (Q : Int → zM → Prop) (X : zM → Prop) : Prop := rt_Go l s0 G RX10 "isName" cX10_isName 6 (Option.some FieldType.boolean) [] d w0 (zQ s0 ca 0 C S Q X) 38 [(0, zv s0 2 t), (1, zv s0 0 v1), (2, zv s0 0 v2), (3, zv s0 0 v3)] [] (zw s0 ca C S M)
abbrev zg_X10_isName_86 (l : Launch) (s0 : State) (G : va_G) (ca : Nat → ClassId) (d : Nat) (C : Nat × Nat) (S : zS) (w0 : rt_Wd) (t : Int) (v1 : Int) (v3 : Int) (v4 : Int)  (M : zM) (Q : Int → zM → Prop) (X : zM → Prop) : Prop := rt_Go l s0 G RX10 "isName" cX10_isName 6 (Option.some FieldType.boolean) [] d w0 (zQ s0 ca 0 C S Q X) 86 [(0, zv s0 2 t), (1, zv s0 0 v1), (3, zv s0 0 v3), (4, zv s0 0 v4)] [] (zw s0 ca C S M)
abbrev zg_X10_isName_87 (l : Launch) (s0 : State) (G : va_G) (ca : Nat → ClassId) (d : Nat) (C : Nat × Nat) (S : zS) (w0 : rt_Wd) (t : Int) (v1 : Int) (v3 : Int) (v4 : Int) (k0 : Int) (M : zM) (Q : Int → zM → Prop) (X : zM → Prop) : Prop := rt_Go l s0 G RX10 "isName" cX10_isName 6 (Option.some FieldType.boolean) [] d w0 (zQ s0 ca 0 C S Q X) 87 [(0, zv s0 2 t), (1, zv s0 0 v1), (3, zv s0 0 v3), (4, zv s0 0 v4)] [zv s0 0 k0] (zw s0 ca C S M)
abbrev zg_X10_isName_103 (l : Launch) (s0 : State) (G : va_G) (ca : Nat → ClassId) (d : Nat) (C : Nat × Nat) (S : zS) (w0 : rt_Wd) (t : Int) (v1 : Int) (v3 : Int) (v4 : Int) (v5 : Int)  (M : zM) (Q : Int → zM → Prop) (X : zM → Prop) : Prop := rt_Go l s0 G RX10 "isName" cX10_isName 6 (Option.some FieldType.boolean) [] d w0 (zQ s0 ca 0 C S Q X) 103 [(0, zv s0 2 t), (1, zv s0 0 v1), (3, zv s0 0 v3), (4, zv s0 0 v4), (5, zv s0 0 v5)] [] (zw s0 ca C S M)
abbrev zg_X10_isName_117 (l : Launch) (s0 : State) (G : va_G) (ca : Nat → ClassId) (d : Nat) (C : Nat × Nat) (S : zS) (w0 : rt_Wd) (t : Int) (v1 : Int) (v3 : Int) (v4 : Int) (v5 : Int)  (M : zM) (Q : Int → zM → Prop) (X : zM → Prop) : Prop := rt_Go l s0 G RX10 "isName" cX10_isName 6 (Option.some FieldType.boolean) [] d w0 (zQ s0 ca 0 C S Q X) 117 [(0, zv s0 2 t), (1, zv s0 0 v1), (3, zv s0 0 v3), (4, zv s0 0 v4), (5, zv s0 0 v5)] [] (zw s0 ca C S M)
def zt_X10_isName_117 (l : Launch) (s0 : State) (G : va_G) (ca : Nat → ClassId) (d : Nat) (C : Nat × Nat) (S : zS) (w0 : rt_Wd) (t : Int) (v1 : Int) (v3 : Int) (v4 : Int) (v5 : Int)  (M : zM) (Q : Int → zM → Prop) (X : zM → Prop) : Prop :=
  zIf (w32 v4 = 95) (zg_X10_isName_38 l s0 G ca d C S w0 t v1 1 (v3 + 1) M Q X) (zIf (w32 v5 = 0) (zg_X10_isName_38 l s0 G ca d C S w0 t v1 0 (v3 + 1) M Q X) (zIf (w32 v3 ≤ 0) (zg_X10_isName_38 l s0 G ca d C S w0 t v1 0 (v3 + 1) M Q X) (zg_X10_isName_38 l s0 G ca d C S w0 t v1 1 (v3 + 1) M Q X)))
set_option maxRecDepth 100000 in
theorem zs_X10_isName_117 {l : Launch} {s0 : State} {a0 : Array Value} {G : va_G} {ca : Nat → ClassId} (Γ : rt_Γ l s0 a0 G ca) {d : Nat} {C : Nat × Nat} {S : zS} (hok : zok C) {t : Int} (ht : zTx S t) {w0 : rt_Wd} {v1 : Int} {v3 : Int} {v4 : Int} {v5 : Int}   {M : zM} {Q : Int → zM → Prop} {X : zM → Prop} (h : zt_X10_isName_117 l s0 G ca d C S w0 t v1 v3 v4 v5 M Q X) : zg_X10_isName_117 l s0 G ca d C S w0 t v1 v3 v4 v5 M Q X := by
  unfold zt_X10_isName_117 at h
  refine z_iload dX10_isName_117 (j := 3) rfl ?_
  refine z_bipush dX10_isName_119 (by decide) ?_
  refine z_icmp_eq (tgt := 133) (x' := w32 v4) (y' := 95) rfl (by decide) dX10_isName_121 (by decide) (fun c121 => ?_) (fun c121 => ?_)
  · replace h := h.1 c121
    refine z_iconst dX10_isName_133 ?_
    refine rt_goto (tgt := 138) dX10_isName_134 (by decide) ?_
    refine z_istore_n (i := 2) (lv' := [(2, zv s0 0 1), (0, zv s0 2 t), (1, zv s0 0 v1), (3, zv s0 0 v3), (4, zv s0 0 v4), (5, zv s0 0 v5)]) dX10_isName_138 rfl (by decide) (by simp [zv_cat0, zv_cat1, zv_cat2, zv_cats]) ?_
    refine z_iinc (lv' := [(3, zv s0 0 (v3 + 1)), (2, zv s0 0 1), (0, zv s0 2 t), (1, zv s0 0 v1), (4, zv s0 0 v4), (5, zv s0 0 v5)]) dX10_isName_139 (j := 3) rfl (by decide) (by simp [zv_cat0, zv_cat1, zv_cat2, zv_cats]) ?_
    refine rt_goto (tgt := 38) dX10_isName_142 (by decide) ?_
    exact rt_lfew [2, 3, 1, 0] rfl h
  · replace h := h.2 c121
    refine z_iload dX10_isName_124 (j := 4) rfl ?_
    refine z_if_eq (tgt := 137) (x' := w32 v5) rfl dX10_isName_126 (by decide) (fun c126 => ?_) (fun c126 => ?_)
    · replace h := h.1 c126
      refine z_iconst dX10_isName_137 ?_
      refine z_istore_n (i := 2) (lv' := [(2, zv s0 0 0), (0, zv s0 2 t), (1, zv s0 0 v1), (3, zv s0 0 v3), (4, zv s0 0 v4), (5, zv s0 0 v5)]) dX10_isName_138 rfl (by decide) (by simp [zv_cat0, zv_cat1, zv_cat2, zv_cats]) ?_
      refine z_iinc (lv' := [(3, zv s0 0 (v3 + 1)), (2, zv s0 0 0), (0, zv s0 2 t), (1, zv s0 0 v1), (4, zv s0 0 v4), (5, zv s0 0 v5)]) dX10_isName_139 (j := 3) rfl (by decide) (by simp [zv_cat0, zv_cat1, zv_cat2, zv_cats]) ?_
      refine rt_goto (tgt := 38) dX10_isName_142 (by decide) ?_
      exact rt_lfew [2, 3, 1, 0] rfl h
    · replace h := h.2 c126
      refine z_iload_n dX10_isName_129 rfl (j := 2) rfl ?_
      refine z_if_le (tgt := 137) (x' := w32 v3) rfl dX10_isName_130 (by decide) (fun c130 => ?_) (fun c130 => ?_)
      · replace h := h.1 c130
        refine z_iconst dX10_isName_137 ?_
        refine z_istore_n (i := 2) (lv' := [(2, zv s0 0 0), (0, zv s0 2 t), (1, zv s0 0 v1), (3, zv s0 0 v3), (4, zv s0 0 v4), (5, zv s0 0 v5)]) dX10_isName_138 rfl (by decide) (by simp [zv_cat0, zv_cat1, zv_cat2, zv_cats]) ?_
        refine z_iinc (lv' := [(3, zv s0 0 (v3 + 1)), (2, zv s0 0 0), (0, zv s0 2 t), (1, zv s0 0 v1), (4, zv s0 0 v4), (5, zv s0 0 v5)]) dX10_isName_139 (j := 3) rfl (by decide) (by simp [zv_cat0, zv_cat1, zv_cat2, zv_cats]) ?_
        refine rt_goto (tgt := 38) dX10_isName_142 (by decide) ?_
        exact rt_lfew [2, 3, 1, 0] rfl h
      · replace h := h.2 c130
        refine z_iconst dX10_isName_133 ?_
        refine rt_goto (tgt := 138) dX10_isName_134 (by decide) ?_
        refine z_istore_n (i := 2) (lv' := [(2, zv s0 0 1), (0, zv s0 2 t), (1, zv s0 0 v1), (3, zv s0 0 v3), (4, zv s0 0 v4), (5, zv s0 0 v5)]) dX10_isName_138 rfl (by decide) (by simp [zv_cat0, zv_cat1, zv_cat2, zv_cats]) ?_
        refine z_iinc (lv' := [(3, zv s0 0 (v3 + 1)), (2, zv s0 0 1), (0, zv s0 2 t), (1, zv s0 0 v1), (4, zv s0 0 v4), (5, zv s0 0 v5)]) dX10_isName_139 (j := 3) rfl (by decide) (by simp [zv_cat0, zv_cat1, zv_cat2, zv_cats]) ?_
        refine rt_goto (tgt := 38) dX10_isName_142 (by decide) ?_
        exact rt_lfew [2, 3, 1, 0] rfl h

def zt_X10_isName_103 (l : Launch) (s0 : State) (G : va_G) (ca : Nat → ClassId) (d : Nat) (C : Nat × Nat) (S : zS) (w0 : rt_Wd) (t : Int) (v1 : Int) (v3 : Int) (v4 : Int) (v5 : Int)  (M : zM) (Q : Int → zM → Prop) (X : zM → Prop) : Prop :=
  zIf (w32 v4 < 65) (zt_X10_isName_117 l s0 G ca d C S w0 t v1 v3 v4 v5 M Q X) (zIf (w32 v4 ≤ 90) (zg_X10_isName_38 l s0 G ca d C S w0 t v1 1 (v3 + 1) M Q X) (zt_X10_isName_117 l s0 G ca d C S w0 t v1 v3 v4 v5 M Q X))
set_option maxRecDepth 100000 in
theorem zs_X10_isName_103 {l : Launch} {s0 : State} {a0 : Array Value} {G : va_G} {ca : Nat → ClassId} (Γ : rt_Γ l s0 a0 G ca) {d : Nat} {C : Nat × Nat} {S : zS} (hok : zok C) {t : Int} (ht : zTx S t) {w0 : rt_Wd} {v1 : Int} {v3 : Int} {v4 : Int} {v5 : Int}   {M : zM} {Q : Int → zM → Prop} {X : zM → Prop} (h : zt_X10_isName_103 l s0 G ca d C S w0 t v1 v3 v4 v5 M Q X) : zg_X10_isName_103 l s0 G ca d C S w0 t v1 v3 v4 v5 M Q X := by
  unfold zt_X10_isName_103 at h
  refine z_iload dX10_isName_103 (j := 3) rfl ?_
  refine z_bipush dX10_isName_105 (by decide) ?_
  refine z_icmp_lt (tgt := 117) (x' := w32 v4) (y' := 65) rfl (by decide) dX10_isName_107 (by decide) (fun c107 => ?_) (fun c107 => ?_)
  · replace h := h.1 c107
    exact rt_lfew [0, 1, 2, 3, 4] rfl (zs_X10_isName_117 Γ hok ht  h)
  · replace h := h.2 c107
    refine z_iload dX10_isName_110 (j := 3) rfl ?_
    refine z_bipush dX10_isName_112 (by decide) ?_
    refine z_icmp_le (tgt := 133) (x' := w32 v4) (y' := 90) rfl (by decide) dX10_isName_114 (by decide) (fun c114 => ?_) (fun c114 => ?_)
    · replace h := h.1 c114
      refine z_iconst dX10_isName_133 ?_
      refine rt_goto (tgt := 138) dX10_isName_134 (by decide) ?_
      refine z_istore_n (i := 2) (lv' := [(2, zv s0 0 1), (0, zv s0 2 t), (1, zv s0 0 v1), (3, zv s0 0 v3), (4, zv s0 0 v4), (5, zv s0 0 v5)]) dX10_isName_138 rfl (by decide) (by simp [zv_cat0, zv_cat1, zv_cat2, zv_cats]) ?_
      refine z_iinc (lv' := [(3, zv s0 0 (v3 + 1)), (2, zv s0 0 1), (0, zv s0 2 t), (1, zv s0 0 v1), (4, zv s0 0 v4), (5, zv s0 0 v5)]) dX10_isName_139 (j := 3) rfl (by decide) (by simp [zv_cat0, zv_cat1, zv_cat2, zv_cats]) ?_
      refine rt_goto (tgt := 38) dX10_isName_142 (by decide) ?_
      exact rt_lfew [2, 3, 1, 0] rfl h
    · replace h := h.2 c114
      exact rt_lfew [0, 1, 2, 3, 4] rfl (zs_X10_isName_117 Γ hok ht  h)

def zt_X10_isName_87 (l : Launch) (s0 : State) (G : va_G) (ca : Nat → ClassId) (d : Nat) (C : Nat × Nat) (S : zS) (w0 : rt_Wd) (t : Int) (v1 : Int) (v3 : Int) (v4 : Int) (k0 : Int) (M : zM) (Q : Int → zM → Prop) (X : zM → Prop) : Prop :=
  zIf (w32 v4 < 97) (zt_X10_isName_103 l s0 G ca d C S w0 t v1 v3 v4 k0 M Q X) (zIf (w32 v4 ≤ 122) (zg_X10_isName_38 l s0 G ca d C S w0 t v1 1 (v3 + 1) M Q X) (zt_X10_isName_103 l s0 G ca d C S w0 t v1 v3 v4 k0 M Q X))
set_option maxRecDepth 100000 in
theorem zs_X10_isName_87 {l : Launch} {s0 : State} {a0 : Array Value} {G : va_G} {ca : Nat → ClassId} (Γ : rt_Γ l s0 a0 G ca) {d : Nat} {C : Nat × Nat} {S : zS} (hok : zok C) {t : Int} (ht : zTx S t) {w0 : rt_Wd} {v1 : Int} {v3 : Int} {v4 : Int} {k0 : Int}  {M : zM} {Q : Int → zM → Prop} {X : zM → Prop} (h : zt_X10_isName_87 l s0 G ca d C S w0 t v1 v3 v4 k0 M Q X) : zg_X10_isName_87 l s0 G ca d C S w0 t v1 v3 v4 k0 M Q X := by
  unfold zt_X10_isName_87 at h
  refine z_istore (i := 5) (lv' := [(5, zv s0 0 k0), (0, zv s0 2 t), (1, zv s0 0 v1), (3, zv s0 0 v3), (4, zv s0 0 v4)]) dX10_isName_87 (by decide) (by simp [zv_cat0, zv_cat1, zv_cat2, zv_cats]) ?_
  refine z_iload dX10_isName_89 (j := 4) rfl ?_
  refine z_bipush dX10_isName_91 (by decide) ?_
  refine z_icmp_lt (tgt := 103) (x' := w32 v4) (y' := 97) rfl (by decide) dX10_isName_93 (by decide) (fun c93 => ?_) (fun c93 => ?_)
  · replace h := h.1 c93
    exact rt_lfew [1, 2, 3, 4, 0] rfl (zs_X10_isName_103 Γ hok ht  h)
  · replace h := h.2 c93
    refine z_iload dX10_isName_96 (j := 4) rfl ?_
    refine z_bipush dX10_isName_98 (by decide) ?_
    refine z_icmp_le (tgt := 133) (x' := w32 v4) (y' := 122) rfl (by decide) dX10_isName_100 (by decide) (fun c100 => ?_) (fun c100 => ?_)
    · replace h := h.1 c100
      refine z_iconst dX10_isName_133 ?_
      refine rt_goto (tgt := 138) dX10_isName_134 (by decide) ?_
      refine z_istore_n (i := 2) (lv' := [(2, zv s0 0 1), (5, zv s0 0 k0), (0, zv s0 2 t), (1, zv s0 0 v1), (3, zv s0 0 v3), (4, zv s0 0 v4)]) dX10_isName_138 rfl (by decide) (by simp [zv_cat0, zv_cat1, zv_cat2, zv_cats]) ?_
      refine z_iinc (lv' := [(3, zv s0 0 (v3 + 1)), (2, zv s0 0 1), (5, zv s0 0 k0), (0, zv s0 2 t), (1, zv s0 0 v1), (4, zv s0 0 v4)]) dX10_isName_139 (j := 4) rfl (by decide) (by simp [zv_cat0, zv_cat1, zv_cat2, zv_cats]) ?_
      refine rt_goto (tgt := 38) dX10_isName_142 (by decide) ?_
      exact rt_lfew [3, 4, 1, 0] rfl h
    · replace h := h.2 c100
      exact rt_lfew [1, 2, 3, 4, 0] rfl (zs_X10_isName_103 Γ hok ht  h)

def zt_X10_isName_86 (l : Launch) (s0 : State) (G : va_G) (ca : Nat → ClassId) (d : Nat) (C : Nat × Nat) (S : zS) (w0 : rt_Wd) (t : Int) (v1 : Int) (v3 : Int) (v4 : Int)  (M : zM) (Q : Int → zM → Prop) (X : zM → Prop) : Prop :=
  zt_X10_isName_87 l s0 G ca d C S w0 t v1 v3 v4 0 M Q X
set_option maxRecDepth 100000 in
theorem zs_X10_isName_86 {l : Launch} {s0 : State} {a0 : Array Value} {G : va_G} {ca : Nat → ClassId} (Γ : rt_Γ l s0 a0 G ca) {d : Nat} {C : Nat × Nat} {S : zS} (hok : zok C) {t : Int} (ht : zTx S t) {w0 : rt_Wd} {v1 : Int} {v3 : Int} {v4 : Int}   {M : zM} {Q : Int → zM → Prop} {X : zM → Prop} (h : zt_X10_isName_86 l s0 G ca d C S w0 t v1 v3 v4 M Q X) : zg_X10_isName_86 l s0 G ca d C S w0 t v1 v3 v4 M Q X := by
  unfold zt_X10_isName_86 at h
  refine z_iconst dX10_isName_86 ?_
  exact rt_lfew [0, 1, 2, 3] rfl (zs_X10_isName_87 Γ hok ht  h)

def zt_X10_isName_38 (l : Launch) (s0 : State) (G : va_G) (ca : Nat → ClassId) (d : Nat) (C : Nat × Nat) (S : zS) (w0 : rt_Wd) (t : Int) (v1 : Int) (v2 : Int) (v3 : Int)  (M : zM) (Q : Int → zM → Prop) (X : zM → Prop) : Prop :=
  (0 ≤ v1 ∧ v1 < 4200) ∧ (zIf (w32 (M (t + 5) v1) ≤ w32 v3) ((v2 = 0 ∨ v2 = 1) ∧ Q v2 M) (zIf (w32 v2 = 0) ((v2 = 0 ∨ v2 = 1) ∧ Q v2 M) ((0 ≤ (M (t + 4) v1) + v3 ∧ (M (t + 4) v1) + v3 < 4200) ∧ (zIf (w32 (M (t + 8) ((M (t + 4) v1) + v3)) < 48) (zt_X10_isName_86 l s0 G ca d C S w0 t v1 v3 (M (t + 8) ((M (t + 4) v1) + v3)) M Q X) (zIf (57 < w32 (M (t + 8) ((M (t + 4) v1) + v3))) (zt_X10_isName_86 l s0 G ca d C S w0 t v1 v3 (M (t + 8) ((M (t + 4) v1) + v3)) M Q X) (zt_X10_isName_87 l s0 G ca d C S w0 t v1 v3 (M (t + 8) ((M (t + 4) v1) + v3)) 1 M Q X))))))
set_option maxRecDepth 100000 in
theorem zs_X10_isName_38 {l : Launch} {s0 : State} {a0 : Array Value} {G : va_G} {ca : Nat → ClassId} (Γ : rt_Γ l s0 a0 G ca) {d : Nat} {C : Nat × Nat} {S : zS} (hok : zok C) {t : Int} (ht : zTx S t) {w0 : rt_Wd} {v1 : Int} {v2 : Int} {v3 : Int}   {M : zM} {Q : Int → zM → Prop} {X : zM → Prop} (h : zt_X10_isName_38 l s0 G ca d C S w0 t v1 v2 v3 M Q X) : zg_X10_isName_38 l s0 G ca d C S w0 t v1 v2 v3 M Q X := by
  unfold zt_X10_isName_38 at h
  refine z_iload_n dX10_isName_38 rfl (j := 3) rfl ?_
  refine z_aload_n dX10_isName_39 rfl (j := 0) rfl ?_
  refine z_getc Γ kf_RX10_26 dX10_isName_40 ht.1 ht.2.1 rfl ?_
  refine z_iload_n dX10_isName_43 rfl (j := 1) rfl ?_
  obtain ⟨hi44, h⟩ := h
  refine z_iald Γ dX10_isName_44 (by have := ht.1; omega) ht.2.2.2.2.2.2.1 (by decide) hi44 (v9 := M (t + 5) v1) rfl ?_
  refine z_icmp_ge (tgt := 145) (x' := w32 v3) (y' := w32 (M (t + 5) v1)) rfl rfl dX10_isName_45 (by decide) (fun c45 => ?_) (fun c45 => ?_)
  · replace h := h.1 c45
    refine z_iload_n dX10_isName_145 rfl (j := 2) rfl ?_
    obtain ⟨hi9, h⟩ := h
    exact z_zret dX10_isName_146 rfl hi9 h
  · replace h := h.2 c45
    refine z_iload_n dX10_isName_48 rfl (j := 2) rfl ?_
    refine z_if_eq (tgt := 145) (x' := w32 v2) rfl dX10_isName_49 (by decide) (fun c49 => ?_) (fun c49 => ?_)
    · replace h := h.1 c49
      refine z_iload_n dX10_isName_145 rfl (j := 2) rfl ?_
      obtain ⟨hi9, h⟩ := h
      exact z_zret dX10_isName_146 rfl hi9 h
    · replace h := h.2 c49
      refine z_aload_n dX10_isName_52 rfl (j := 0) rfl ?_
      refine z_getc Γ kf_RX10_35 dX10_isName_53 ht.1 ht.2.1 rfl ?_
      refine z_aload_n dX10_isName_56 rfl (j := 0) rfl ?_
      refine z_getc Γ kf_RX10_22 dX10_isName_57 ht.1 ht.2.1 rfl ?_
      refine z_iload_n dX10_isName_60 rfl (j := 1) rfl ?_
      refine z_lald Γ dX10_isName_61 (by have := ht.1; omega) ht.2.2.2.2.2.1 (by decide) hi44 (v9 := M (t + 4) v1) rfl ?_
      refine z_l2i dX10_isName_62 ?_
      refine z_iload_n dX10_isName_63 rfl (j := 3) rfl ?_
      refine z_iadd dX10_isName_64 ?_
      obtain ⟨hi65, h⟩ := h
      refine z_bald Γ dX10_isName_65 (by have := ht.1; omega) ht.2.2.2.2.2.2.2.2.2.1 (by decide) hi65 (v9 := M (t + 8) ((M (t + 4) v1) + v3)) rfl ?_
      refine z_istore (i := 4) (lv' := [(4, zv s0 0 (M (t + 8) ((M (t + 4) v1) + v3))), (0, zv s0 2 t), (1, zv s0 0 v1), (2, zv s0 0 v2), (3, zv s0 0 v3)]) dX10_isName_66 (by decide) (by simp [zv_cat0, zv_cat1, zv_cat2, zv_cats]) ?_
      refine z_iload dX10_isName_68 (j := 0) rfl ?_
      refine z_bipush dX10_isName_70 (by decide) ?_
      refine z_icmp_lt (tgt := 86) (x' := w32 (M (t + 8) ((M (t + 4) v1) + v3))) (y' := 48) rfl (by decide) dX10_isName_72 (by decide) (fun c72 => ?_) (fun c72 => ?_)
      · replace h := h.1 c72
        exact rt_lfew [1, 2, 4, 0] rfl (zs_X10_isName_86 Γ hok ht  h)
      · replace h := h.2 c72
        refine z_iload dX10_isName_75 (j := 0) rfl ?_
        refine z_bipush dX10_isName_77 (by decide) ?_
        refine z_icmp_gt (tgt := 86) (x' := w32 (M (t + 8) ((M (t + 4) v1) + v3))) (y' := 57) rfl (by decide) dX10_isName_79 (by decide) (fun c79 => ?_) (fun c79 => ?_)
        · replace h := h.1 c79
          exact rt_lfew [1, 2, 4, 0] rfl (zs_X10_isName_86 Γ hok ht  h)
        · replace h := h.2 c79
          refine z_iconst dX10_isName_82 ?_
          refine rt_goto (tgt := 87) dX10_isName_83 (by decide) ?_
          exact rt_lfew [1, 2, 4, 0] rfl (zs_X10_isName_87 Γ hok ht  h)

def zt_X10_isName (l : Launch) (s0 : State) (G : va_G) (ca : Nat → ClassId) (d : Nat) (C : Nat × Nat) (S : zS) (w0 : rt_Wd) (t : Int) (n : Int) (M : zM) (Q : Int → zM → Prop) (X : zM → Prop) : Prop :=
  (0 ≤ n ∧ n < 4200) ∧ (zIf (w32 (M (t + 2) n) = 2) (zIf (w32 (M (t + 5) n) ≤ 0) (zg_X10_isName_38 l s0 G ca d C S w0 t n 0 0 M Q X) (zIf (33 ≤ w32 (M (t + 5) n)) (zg_X10_isName_38 l s0 G ca d C S w0 t n 0 0 M Q X) (zg_X10_isName_38 l s0 G ca d C S w0 t n 1 0 M Q X))) (zg_X10_isName_38 l s0 G ca d C S w0 t n 0 0 M Q X))
set_option maxRecDepth 100000 in
theorem z_X10_isName {l : Launch} {s0 : State} {a0 : Array Value} {G : va_G} {ca : Nat → ClassId} (Γ : rt_Γ l s0 a0 G ca) {d : Nat} {C : Nat × Nat} {S : zS} (hok : zok C) {t : Int} (ht : zTx S t) {n : Int} {M : zM} {Q : Int → zM → Prop} {X : zM → Prop} (h : zt_X10_isName l s0 G ca d C S (zw s0 ca C S M) t n M Q X) : zm_X10_isName l s0 G ca d C S t n M Q X := by
  refine z_met (lv := [(0, zv s0 2 t), (1, zv s0 0 n)]) Γ kk_X10_isName rfl (show (lg_sl [zv s0 2 t, zv s0 0 n]).length ≤ 6 from by simp only [zn_0, zn_2, show (lg_sl []).length = 0 from rfl]; omega) (show lv_args 0 [zv s0 2 t, zv s0 0 n] = [(0, zv s0 2 t), (1, zv s0 0 n)] from by rw [zl_2, zl_0]; rfl) ?_
  unfold zt_X10_isName at h
  refine z_aload_n dX10_isName_0 rfl (j := 0) rfl ?_
  refine z_getc Γ kf_RX10_15 dX10_isName_1 ht.1 ht.2.1 rfl ?_
  refine z_iload_n dX10_isName_4 rfl (j := 1) rfl ?_
  obtain ⟨hi5, h⟩ := h
  refine z_iald Γ dX10_isName_5 (by have := ht.1; omega) ht.2.2.2.1 (by decide) hi5 (v9 := M (t + 2) n) rfl ?_
  refine z_iconst dX10_isName_6 ?_
  refine z_icmp_ne (tgt := 34) (x' := w32 (M (t + 2) n)) (y' := 2) rfl (by decide) dX10_isName_7 (by decide) (fun c7 => ?_) (fun c7 => ?_)
  · replace h := h.2 c7
    refine z_iconst dX10_isName_34 ?_
    refine z_istore_n (i := 2) (lv' := [(2, zv s0 0 0), (0, zv s0 2 t), (1, zv s0 0 n)]) dX10_isName_35 rfl (by decide) (by simp [zv_cat0, zv_cat1, zv_cat2, zv_cats]) ?_
    refine z_iconst dX10_isName_36 ?_
    refine z_istore_n (i := 3) (lv' := [(3, zv s0 0 0), (2, zv s0 0 0), (0, zv s0 2 t), (1, zv s0 0 n)]) dX10_isName_37 rfl (by decide) (by simp [zv_cat0, zv_cat1, zv_cat2, zv_cats]) ?_
    exact rt_lfew [2, 3, 1, 0] rfl h
  · replace h := h.1 c7
    refine z_aload_n dX10_isName_10 rfl (j := 0) rfl ?_
    refine z_getc Γ kf_RX10_26 dX10_isName_11 ht.1 ht.2.1 rfl ?_
    refine z_iload_n dX10_isName_14 rfl (j := 1) rfl ?_
    refine z_iald Γ dX10_isName_15 (by have := ht.1; omega) ht.2.2.2.2.2.2.1 (by decide) hi5 (v9 := M (t + 5) n) rfl ?_
    refine z_if_le (tgt := 34) (x' := w32 (M (t + 5) n)) rfl dX10_isName_16 (by decide) (fun c16 => ?_) (fun c16 => ?_)
    · replace h := h.1 c16
      refine z_iconst dX10_isName_34 ?_
      refine z_istore_n (i := 2) (lv' := [(2, zv s0 0 0), (0, zv s0 2 t), (1, zv s0 0 n)]) dX10_isName_35 rfl (by decide) (by simp [zv_cat0, zv_cat1, zv_cat2, zv_cats]) ?_
      refine z_iconst dX10_isName_36 ?_
      refine z_istore_n (i := 3) (lv' := [(3, zv s0 0 0), (2, zv s0 0 0), (0, zv s0 2 t), (1, zv s0 0 n)]) dX10_isName_37 rfl (by decide) (by simp [zv_cat0, zv_cat1, zv_cat2, zv_cats]) ?_
      exact rt_lfew [2, 3, 1, 0] rfl h
    · replace h := h.2 c16
      refine z_aload_n dX10_isName_19 rfl (j := 0) rfl ?_
      refine z_getc Γ kf_RX10_26 dX10_isName_20 ht.1 ht.2.1 rfl ?_
      refine z_iload_n dX10_isName_23 rfl (j := 1) rfl ?_
      refine z_iald Γ dX10_isName_24 (by have := ht.1; omega) ht.2.2.2.2.2.2.1 (by decide) hi5 (v9 := M (t + 5) n) rfl ?_
      refine z_bipush dX10_isName_25 (by decide) ?_
      refine z_icmp_ge (tgt := 34) (x' := w32 (M (t + 5) n)) (y' := 33) rfl (by decide) dX10_isName_27 (by decide) (fun c27 => ?_) (fun c27 => ?_)
      · replace h := h.1 c27
        refine z_iconst dX10_isName_34 ?_
        refine z_istore_n (i := 2) (lv' := [(2, zv s0 0 0), (0, zv s0 2 t), (1, zv s0 0 n)]) dX10_isName_35 rfl (by decide) (by simp [zv_cat0, zv_cat1, zv_cat2, zv_cats]) ?_
        refine z_iconst dX10_isName_36 ?_
        refine z_istore_n (i := 3) (lv' := [(3, zv s0 0 0), (2, zv s0 0 0), (0, zv s0 2 t), (1, zv s0 0 n)]) dX10_isName_37 rfl (by decide) (by simp [zv_cat0, zv_cat1, zv_cat2, zv_cats]) ?_
        exact rt_lfew [2, 3, 1, 0] rfl h
      · replace h := h.2 c27
        refine z_iconst dX10_isName_30 ?_
        refine rt_goto (tgt := 35) dX10_isName_31 (by decide) ?_
        refine z_istore_n (i := 2) (lv' := [(2, zv s0 0 1), (0, zv s0 2 t), (1, zv s0 0 n)]) dX10_isName_35 rfl (by decide) (by simp [zv_cat0, zv_cat1, zv_cat2, zv_cats]) ?_
        refine z_iconst dX10_isName_36 ?_
        refine z_istore_n (i := 3) (lv' := [(3, zv s0 0 0), (2, zv s0 0 1), (0, zv s0 2 t), (1, zv s0 0 n)]) dX10_isName_37 rfl (by decide) (by simp [zv_cat0, zv_cat1, zv_cat2, zv_cats]) ?_
        exact rt_lfew [2, 3, 1, 0] rfl h

def zt_X10_word (l : Launch) (s0 : State) (G : va_G) (ca : Nat → ClassId) (d : Nat) (C : Nat × Nat) (S : zS) (w0 : rt_Wd) (t : Int) (n : Int) (M : zM) (Q : Int → zM → Prop) (X : zM → Prop) : Prop :=
  ∀ q2 : Nat, zstr s0 q2 [110, 117, 108, 108] → (zm_X10_is l s0 G ca (d - 1) C S t n q2 M (fun r4 M4 => zIf (w32 r4 = 0) (∀ q16 : Nat, zstr s0 q16 [98, 111, 111, 108, 101, 97, 110] → (zm_X10_is l s0 G ca (d - 1) C S t n q16 M4 (fun r18 M18 => zIf (w32 r18 = 0) (∀ q30 : Nat, zstr s0 q30 [105, 110, 116] → (zm_X10_is l s0 G ca (d - 1) C S t n q30 M18 (fun r32 M32 => zIf (w32 r32 = 0) (∀ q44 : Nat, zstr s0 q44 [108, 111, 110, 103] → (zm_X10_is l s0 G ca (d - 1) C S t n q44 M32 (fun r46 M46 => zIf (w32 r46 = 0) (∀ q58 : Nat, zstr s0 q58 [98, 121, 116, 101, 115] → (zm_X10_is l s0 G ca (d - 1) C S t n q58 M46 (fun r60 M60 => zIf (w32 r60 = 0) (∀ q72 : Nat, zstr s0 q72 [115, 116, 114, 105, 110, 103] → (zm_X10_is l s0 G ca (d - 1) C S t n q72 M60 (fun r74 M74 => zIf (w32 r74 = 0) (Q ((-1)) M74) (Q 5 M74)) X)) (Q 4 M60)) X)) (Q 3 M46)) X)) (Q 2 M32)) X)) (Q 1 M18)) X)) (Q 0 M4)) X)
set_option maxRecDepth 100000 in
theorem z_X10_word {l : Launch} {s0 : State} {a0 : Array Value} {G : va_G} {ca : Nat → ClassId} (Γ : rt_Γ l s0 a0 G ca) {d : Nat} {C : Nat × Nat} {S : zS} (hd : 1 ≤ d) (hok : zok C) {t : Int} (ht : zTx S t) {n : Int} {M : zM} {Q : Int → zM → Prop} {X : zM → Prop} (h : zt_X10_word l s0 G ca d C S (zw s0 ca C S M) t n M Q X) : zm_X10_word l s0 G ca d C S t n M Q X := by
  refine z_met (lv := [(0, zv s0 2 t), (1, zv s0 0 n)]) Γ kk_X10_word rfl (show (lg_sl [zv s0 2 t, zv s0 0 n]).length ≤ 2 from by simp only [zn_0, zn_2, show (lg_sl []).length = 0 from rfl]; omega) (show lv_args 0 [zv s0 2 t, zv s0 0 n] = [(0, zv s0 2 t), (1, zv s0 0 n)] from by rw [zl_2, zl_0]; rfl) ?_
  unfold zt_X10_word at h
  refine z_aload_n dX10_word_0 rfl (j := 0) rfl ?_
  refine z_iload_n dX10_word_1 rfl (j := 1) rfl ?_
  obtain ⟨q2, hq2a, hq2b⟩ := ks_RX10_135 Γ
  have hq2 : zstr s0 q2 [110, 117, 108, 108] := ⟨hq2b, by decide, by decide⟩
  replace h := h q2 hq2
  refine rt_ldcS Γ hq2a dX10_word_2 ?_
  refine z_callV Γ kk_X10_is kc_RX10_177 (As := [zv s0 0 n, .ref q2]) h (by omega) (by decide) (show (parseMethodDescriptor yX10_is.desc).map (fun q => q.parameters.length) = some 2 by decide +kernel) hok (Nat.zero_le _) dX10_word_4 ht.1 ht.2.1 rfl rfl (fun _ h9 => nomatch h9) ?_
  clear h
  intro r4 M4 h
  show rt_Go _ _ _ _ _ _ _ _ _ _ _ _ 7 [(0, zv s0 2 t), (1, zv s0 0 n)] [zv s0 0 r4] (zw s0 ca C S M4)
  refine z_if_eq (tgt := 14) (x' := w32 r4) rfl dX10_word_7 (by decide) (fun c7 => ?_) (fun c7 => ?_)
  · replace h := h.1 c7
    refine z_aload_n dX10_word_14 rfl (j := 0) rfl ?_
    refine z_iload_n dX10_word_15 rfl (j := 1) rfl ?_
    obtain ⟨q16, hq16a, hq16b⟩ := ks_RX10_181 Γ
    have hq16 : zstr s0 q16 [98, 111, 111, 108, 101, 97, 110] := ⟨hq16b, by decide, by decide⟩
    replace h := h q16 hq16
    refine rt_ldcS Γ hq16a dX10_word_16 ?_
    refine z_callV Γ kk_X10_is kc_RX10_177 (As := [zv s0 0 n, .ref q16]) h (by omega) (by decide) (show (parseMethodDescriptor yX10_is.desc).map (fun q => q.parameters.length) = some 2 by decide +kernel) hok (Nat.zero_le _) dX10_word_18 ht.1 ht.2.1 rfl rfl (fun _ h9 => nomatch h9) ?_
    clear h
    intro r18 M18 h
    show rt_Go _ _ _ _ _ _ _ _ _ _ _ _ 21 [(0, zv s0 2 t), (1, zv s0 0 n)] [zv s0 0 r18] (zw s0 ca C S M18)
    refine z_if_eq (tgt := 28) (x' := w32 r18) rfl dX10_word_21 (by decide) (fun c21 => ?_) (fun c21 => ?_)
    · replace h := h.1 c21
      refine z_aload_n dX10_word_28 rfl (j := 0) rfl ?_
      refine z_iload_n dX10_word_29 rfl (j := 1) rfl ?_
      obtain ⟨q30, hq30a, hq30b⟩ := ks_RX10_183 Γ
      have hq30 : zstr s0 q30 [105, 110, 116] := ⟨hq30b, by decide, by decide⟩
      replace h := h q30 hq30
      refine rt_ldcS Γ hq30a dX10_word_30 ?_
      refine z_callV Γ kk_X10_is kc_RX10_177 (As := [zv s0 0 n, .ref q30]) h (by omega) (by decide) (show (parseMethodDescriptor yX10_is.desc).map (fun q => q.parameters.length) = some 2 by decide +kernel) hok (Nat.zero_le _) dX10_word_32 ht.1 ht.2.1 rfl rfl (fun _ h9 => nomatch h9) ?_
      clear h
      intro r32 M32 h
      show rt_Go _ _ _ _ _ _ _ _ _ _ _ _ 35 [(0, zv s0 2 t), (1, zv s0 0 n)] [zv s0 0 r32] (zw s0 ca C S M32)
      refine z_if_eq (tgt := 42) (x' := w32 r32) rfl dX10_word_35 (by decide) (fun c35 => ?_) (fun c35 => ?_)
      · replace h := h.1 c35
        refine z_aload_n dX10_word_42 rfl (j := 0) rfl ?_
        refine z_iload_n dX10_word_43 rfl (j := 1) rfl ?_
        obtain ⟨q44, hq44a, hq44b⟩ := ks_RX10_185 Γ
        have hq44 : zstr s0 q44 [108, 111, 110, 103] := ⟨hq44b, by decide, by decide⟩
        replace h := h q44 hq44
        refine rt_ldcS Γ hq44a dX10_word_44 ?_
        refine z_callV Γ kk_X10_is kc_RX10_177 (As := [zv s0 0 n, .ref q44]) h (by omega) (by decide) (show (parseMethodDescriptor yX10_is.desc).map (fun q => q.parameters.length) = some 2 by decide +kernel) hok (Nat.zero_le _) dX10_word_46 ht.1 ht.2.1 rfl rfl (fun _ h9 => nomatch h9) ?_
        clear h
        intro r46 M46 h
        show rt_Go _ _ _ _ _ _ _ _ _ _ _ _ 49 [(0, zv s0 2 t), (1, zv s0 0 n)] [zv s0 0 r46] (zw s0 ca C S M46)
        refine z_if_eq (tgt := 56) (x' := w32 r46) rfl dX10_word_49 (by decide) (fun c49 => ?_) (fun c49 => ?_)
        · replace h := h.1 c49
          refine z_aload_n dX10_word_56 rfl (j := 0) rfl ?_
          refine z_iload_n dX10_word_57 rfl (j := 1) rfl ?_
          obtain ⟨q58, hq58a, hq58b⟩ := ks_RX10_187 Γ
          have hq58 : zstr s0 q58 [98, 121, 116, 101, 115] := ⟨hq58b, by decide, by decide⟩
          replace h := h q58 hq58
          refine rt_ldcS Γ hq58a dX10_word_58 ?_
          refine z_callV Γ kk_X10_is kc_RX10_177 (As := [zv s0 0 n, .ref q58]) h (by omega) (by decide) (show (parseMethodDescriptor yX10_is.desc).map (fun q => q.parameters.length) = some 2 by decide +kernel) hok (Nat.zero_le _) dX10_word_60 ht.1 ht.2.1 rfl rfl (fun _ h9 => nomatch h9) ?_
          clear h
          intro r60 M60 h
          show rt_Go _ _ _ _ _ _ _ _ _ _ _ _ 63 [(0, zv s0 2 t), (1, zv s0 0 n)] [zv s0 0 r60] (zw s0 ca C S M60)
          refine z_if_eq (tgt := 70) (x' := w32 r60) rfl dX10_word_63 (by decide) (fun c63 => ?_) (fun c63 => ?_)
          · replace h := h.1 c63
            refine z_aload_n dX10_word_70 rfl (j := 0) rfl ?_
            refine z_iload_n dX10_word_71 rfl (j := 1) rfl ?_
            obtain ⟨q72, hq72a, hq72b⟩ := ks_RX10_188 Γ
            have hq72 : zstr s0 q72 [115, 116, 114, 105, 110, 103] := ⟨hq72b, by decide, by decide⟩
            replace h := h q72 hq72
            refine rt_ldcS Γ hq72a dX10_word_72 ?_
            refine z_callV Γ kk_X10_is kc_RX10_177 (As := [zv s0 0 n, .ref q72]) h (by omega) (by decide) (show (parseMethodDescriptor yX10_is.desc).map (fun q => q.parameters.length) = some 2 by decide +kernel) hok (Nat.zero_le _) dX10_word_74 ht.1 ht.2.1 rfl rfl (fun _ h9 => nomatch h9) ?_
            clear h
            intro r74 M74 h
            show rt_Go _ _ _ _ _ _ _ _ _ _ _ _ 77 [(0, zv s0 2 t), (1, zv s0 0 n)] [zv s0 0 r74] (zw s0 ca C S M74)
            refine z_if_eq (tgt := 84) (x' := w32 r74) rfl dX10_word_77 (by decide) (fun c77 => ?_) (fun c77 => ?_)
            · replace h := h.1 c77
              refine z_iconst dX10_word_84 ?_
              exact z_iret dX10_word_85 rfl h
            · replace h := h.2 c77
              refine z_iconst dX10_word_80 ?_
              refine rt_goto (tgt := 85) dX10_word_81 (by decide) ?_
              exact z_iret dX10_word_85 rfl h
          · replace h := h.2 c63
            refine z_iconst dX10_word_66 ?_
            refine rt_goto (tgt := 85) dX10_word_67 (by decide) ?_
            exact z_iret dX10_word_85 rfl h
        · replace h := h.2 c49
          refine z_iconst dX10_word_52 ?_
          refine rt_goto (tgt := 85) dX10_word_53 (by decide) ?_
          exact z_iret dX10_word_85 rfl h
      · replace h := h.2 c35
        refine z_iconst dX10_word_38 ?_
        refine rt_goto (tgt := 85) dX10_word_39 (by decide) ?_
        exact z_iret dX10_word_85 rfl h
    · replace h := h.2 c21
      refine z_iconst dX10_word_24 ?_
      refine rt_goto (tgt := 85) dX10_word_25 (by decide) ?_
      exact z_iret dX10_word_85 rfl h
  · replace h := h.2 c7
    refine z_iconst dX10_word_10 ?_
    refine rt_goto (tgt := 85) dX10_word_11 (by decide) ?_
    exact z_iret dX10_word_85 rfl h

abbrev zg_X10_defined_3 (l : Launch) (s0 : State) (G : va_G) (ca : Nat → ClassId) (d : Nat) (C : Nat × Nat) (S : zS) (w0 : rt_Wd) (t : Int) (v1 : Int) (v2 : Int)  (M : zM) (Q : Int → zM → Prop) (X : zM → Prop) : Prop := rt_Go l s0 G RX10 "defined" cX10_defined 3 (Option.some FieldType.int) [] d w0 (zQ s0 ca 0 C S Q X) 3 [(0, zv s0 2 t), (1, zv s0 0 v1), (2, zv s0 0 v2)] [] (zw s0 ca C S M)
def zt_X10_defined_3 (l : Launch) (s0 : State) (G : va_G) (ca : Nat → ClassId) (d : Nat) (C : Nat × Nat) (S : zS) (w0 : rt_Wd) (t : Int) (v1 : Int) (v2 : Int)  (M : zM) (Q : Int → zM → Prop) (X : zM → Prop) : Prop :=
  zIf (w32 (M t 16) ≤ w32 v2) (Q ((-1)) M) ((0 ≤ v2 ∧ v2 < 140) ∧ (zIf (w32 (M (t + 10) v2) < 0) (zg_X10_defined_3 l s0 G ca d C S w0 t v1 (v2 + 1) M Q X) (zm_X10_same l s0 G ca (d - 1) C S t (M (t + 10) v2) t v1 M (fun r29 M29 => zIf (w32 r29 = 0) (zg_X10_defined_3 l s0 G ca d C S w0 t v1 (v2 + 1) M29 Q X) (Q v2 M29)) X)))
set_option maxRecDepth 100000 in
theorem zs_X10_defined_3 {l : Launch} {s0 : State} {a0 : Array Value} {G : va_G} {ca : Nat → ClassId} (Γ : rt_Γ l s0 a0 G ca) {d : Nat} {C : Nat × Nat} {S : zS} (hd : 1 ≤ d) (hok : zok C) {t : Int} (ht : zTx S t) {w0 : rt_Wd} {v1 : Int} {v2 : Int}   {M : zM} {Q : Int → zM → Prop} {X : zM → Prop} (h : zt_X10_defined_3 l s0 G ca d C S w0 t v1 v2 M Q X) : zg_X10_defined_3 l s0 G ca d C S w0 t v1 v2 M Q X := by
  unfold zt_X10_defined_3 at h
  refine z_iload_n dX10_defined_3 rfl (j := 2) rfl ?_
  refine z_aload_n dX10_defined_4 rfl (j := 0) rfl ?_
  refine z_get Γ kf_RX10_189 dX10_defined_5 ht.1 ht.2.1 rfl (by decide) (v9 := M t 16) rfl ?_
  refine z_icmp_ge (tgt := 43) (x' := w32 v2) (y' := w32 (M t 16)) rfl rfl dX10_defined_8 (by decide) (fun c8 => ?_) (fun c8 => ?_)
  · replace h := h.1 c8
    refine z_iconst dX10_defined_43 ?_
    exact z_iret dX10_defined_44 rfl h
  · replace h := h.2 c8
    refine z_aload_n dX10_defined_11 rfl (j := 0) rfl ?_
    refine z_getc Γ kf_RX10_41 dX10_defined_12 ht.1 ht.2.1 rfl ?_
    refine z_iload_n dX10_defined_15 rfl (j := 2) rfl ?_
    obtain ⟨hi16, h⟩ := h
    refine z_iald Γ dX10_defined_16 (by have := ht.1; omega) ht.2.2.2.2.2.2.2.2.2.2.2.1 (by decide) hi16 (v9 := M (t + 10) v2) rfl ?_
    refine z_if_lt (tgt := 37) (x' := w32 (M (t + 10) v2)) rfl dX10_defined_17 (by decide) (fun c17 => ?_) (fun c17 => ?_)
    · replace h := h.1 c17
      refine z_iinc (lv' := [(2, zv s0 0 (v2 + 1)), (0, zv s0 2 t), (1, zv s0 0 v1)]) dX10_defined_37 (j := 2) rfl (by decide) (by simp [zv_cat0, zv_cat1, zv_cat2, zv_cats]) ?_
      refine rt_goto (tgt := 3) dX10_defined_40 (by decide) ?_
      exact rt_lfew [1, 2, 0] rfl h
    · replace h := h.2 c17
      refine z_aload_n dX10_defined_20 rfl (j := 0) rfl ?_
      refine z_aload_n dX10_defined_21 rfl (j := 0) rfl ?_
      refine z_getc Γ kf_RX10_41 dX10_defined_22 ht.1 ht.2.1 rfl ?_
      refine z_iload_n dX10_defined_25 rfl (j := 2) rfl ?_
      refine z_iald Γ dX10_defined_26 (by have := ht.1; omega) ht.2.2.2.2.2.2.2.2.2.2.2.1 (by decide) hi16 (v9 := M (t + 10) v2) rfl ?_
      refine z_aload_n dX10_defined_27 rfl (j := 0) rfl ?_
      refine z_iload_n dX10_defined_28 rfl (j := 1) rfl ?_
      refine z_callV Γ kk_X10_same kc_RX10_155 (As := [zv s0 0 (M (t + 10) v2), zv s0 2 t, zv s0 0 v1]) h (by omega) (by decide) (show (parseMethodDescriptor yX10_same.desc).map (fun q => q.parameters.length) = some 3 by decide +kernel) hok (Nat.zero_le _) dX10_defined_29 ht.1 ht.2.1 rfl rfl (fun _ h9 => nomatch h9) ?_
      clear h
      intro r29 M29 h
      show rt_Go _ _ _ _ _ _ _ _ _ _ _ _ 32 [(0, zv s0 2 t), (1, zv s0 0 v1), (2, zv s0 0 v2)] [zv s0 0 r29] (zw s0 ca C S M29)
      refine z_if_eq (tgt := 37) (x' := w32 r29) rfl dX10_defined_32 (by decide) (fun c32 => ?_) (fun c32 => ?_)
      · replace h := h.1 c32
        refine z_iinc (lv' := [(2, zv s0 0 (v2 + 1)), (0, zv s0 2 t), (1, zv s0 0 v1)]) dX10_defined_37 (j := 2) rfl (by decide) (by simp [zv_cat0, zv_cat1, zv_cat2, zv_cats]) ?_
        refine rt_goto (tgt := 3) dX10_defined_40 (by decide) ?_
        exact rt_lfew [1, 2, 0] rfl h
      · replace h := h.2 c32
        refine z_iload_n dX10_defined_35 rfl (j := 2) rfl ?_
        exact z_iret dX10_defined_36 rfl h

def zt_X10_defined (l : Launch) (s0 : State) (G : va_G) (ca : Nat → ClassId) (d : Nat) (C : Nat × Nat) (S : zS) (w0 : rt_Wd) (t : Int) (n : Int) (M : zM) (Q : Int → zM → Prop) (X : zM → Prop) : Prop :=
  zg_X10_defined_3 l s0 G ca d C S w0 t n 6 M Q X
set_option maxRecDepth 100000 in
theorem z_X10_defined {l : Launch} {s0 : State} {a0 : Array Value} {G : va_G} {ca : Nat → ClassId} (Γ : rt_Γ l s0 a0 G ca) {d : Nat} {C : Nat × Nat} {S : zS} (hd : 1 ≤ d) (hok : zok C) {t : Int} (ht : zTx S t) {n : Int} {M : zM} {Q : Int → zM → Prop} {X : zM → Prop} (h : zt_X10_defined l s0 G ca d C S (zw s0 ca C S M) t n M Q X) : zm_X10_defined l s0 G ca d C S t n M Q X := by
  refine z_met (lv := [(0, zv s0 2 t), (1, zv s0 0 n)]) Γ kk_X10_defined rfl (show (lg_sl [zv s0 2 t, zv s0 0 n]).length ≤ 3 from by simp only [zn_0, zn_2, show (lg_sl []).length = 0 from rfl]; omega) (show lv_args 0 [zv s0 2 t, zv s0 0 n] = [(0, zv s0 2 t), (1, zv s0 0 n)] from by rw [zl_2, zl_0]; rfl) ?_
  unfold zt_X10_defined at h
  refine z_bipush dX10_defined_0 (by decide) ?_
  refine z_istore_n (i := 2) (lv' := [(2, zv s0 0 6), (0, zv s0 2 t), (1, zv s0 0 n)]) dX10_defined_2 rfl (by decide) (by simp [zv_cat0, zv_cat1, zv_cat2, zv_cats]) ?_
  exact rt_lfew [1, 2, 0] rfl h

def zt_X10_shape (l : Launch) (s0 : State) (G : va_G) (ca : Nat → ClassId) (d : Nat) (C : Nat × Nat) (S : zS) (w0 : rt_Wd) (t : Int) (k : Int) (M : zM) (Q : Int → zM → Prop) (X : zM → Prop) : Prop :=
  (0 ≤ M t 16 ∧ M t 16 < 140) ∧ (Q (((M t 16) + 1) - 1) ((zu ((zu ((zu ((zu ((zu ((zu ((zu M (t + 9) (M t 16) k)) (t + 10) (M t 16) ((-1)))) (t + 11) (M t 16) 0)) (t + 12) (M t 16) ((-1)))) (t + 13) (M t 16) 0)) (t + 14) (M t 16) ((-1)))) t 16 ((M t 16) + 1))))
set_option maxRecDepth 100000 in
theorem z_X10_shape {l : Launch} {s0 : State} {a0 : Array Value} {G : va_G} {ca : Nat → ClassId} (Γ : rt_Γ l s0 a0 G ca) {d : Nat} {C : Nat × Nat} {S : zS} (hok : zok C) {t : Int} (ht : zTx S t) {k : Int} {M : zM} {Q : Int → zM → Prop} {X : zM → Prop} (h : zt_X10_shape l s0 G ca d C S (zw s0 ca C S M) t k M Q X) : zm_X10_shape l s0 G ca d C S t k M Q X := by
  refine z_met (lv := [(0, zv s0 2 t), (1, zv s0 0 k)]) Γ kk_X10_shape rfl (show (lg_sl [zv s0 2 t, zv s0 0 k]).length ≤ 2 from by simp only [zn_0, zn_2, show (lg_sl []).length = 0 from rfl]; omega) (show lv_args 0 [zv s0 2 t, zv s0 0 k] = [(0, zv s0 2 t), (1, zv s0 0 k)] from by rw [zl_2, zl_0]; rfl) ?_
  unfold zt_X10_shape at h
  refine z_aload_n dX10_shape_0 rfl (j := 0) rfl ?_
  refine z_getc Γ kf_RX10_38 dX10_shape_1 ht.1 ht.2.1 rfl ?_
  refine z_aload_n dX10_shape_4 rfl (j := 0) rfl ?_
  refine z_get Γ kf_RX10_189 dX10_shape_5 ht.1 ht.2.1 rfl (by decide) (v9 := M t 16) rfl ?_
  refine z_iload_n dX10_shape_8 rfl (j := 1) rfl ?_
  obtain ⟨hi9, h⟩ := h
  refine z_iast Γ dX10_shape_9 (by have := ht.1; omega) ht.2.2.2.2.2.2.2.2.2.2.1 (by decide) hi9 ?_
  refine z_aload_n dX10_shape_10 rfl (j := 0) rfl ?_
  refine z_getc Γ kf_RX10_41 dX10_shape_11 ht.1 ht.2.1 rfl ?_
  refine z_aload_n dX10_shape_14 rfl (j := 0) rfl ?_
  refine z_get Γ kf_RX10_189 dX10_shape_15 ht.1 ht.2.1 rfl (by decide) (v9 := M t 16) ((zu_a (by omega)).trans rfl) ?_
  refine z_iconst dX10_shape_18 ?_
  refine z_iast Γ dX10_shape_19 (by have := ht.1; omega) ht.2.2.2.2.2.2.2.2.2.2.2.1 (by decide) hi9 ?_
  refine z_aload_n dX10_shape_20 rfl (j := 0) rfl ?_
  refine z_getc Γ kf_RX10_44 dX10_shape_21 ht.1 ht.2.1 rfl ?_
  refine z_aload_n dX10_shape_24 rfl (j := 0) rfl ?_
  refine z_get Γ kf_RX10_189 dX10_shape_25 ht.1 ht.2.1 rfl (by decide) (v9 := M t 16) ((zu_a (by omega)).trans ((zu_a (by omega)).trans rfl)) ?_
  refine z_iconst dX10_shape_28 ?_
  refine z_iast Γ dX10_shape_29 (by have := ht.1; omega) ht.2.2.2.2.2.2.2.2.2.2.2.2.1 (by decide) hi9 ?_
  refine z_aload_n dX10_shape_30 rfl (j := 0) rfl ?_
  refine z_getc Γ kf_RX10_47 dX10_shape_31 ht.1 ht.2.1 rfl ?_
  refine z_aload_n dX10_shape_34 rfl (j := 0) rfl ?_
  refine z_get Γ kf_RX10_189 dX10_shape_35 ht.1 ht.2.1 rfl (by decide) (v9 := M t 16) ((zu_a (by omega)).trans ((zu_a (by omega)).trans ((zu_a (by omega)).trans rfl))) ?_
  refine z_iconst dX10_shape_38 ?_
  refine z_iast Γ dX10_shape_39 (by have := ht.1; omega) ht.2.2.2.2.2.2.2.2.2.2.2.2.2.1 (by decide) hi9 ?_
  refine z_aload_n dX10_shape_40 rfl (j := 0) rfl ?_
  refine z_getc Γ kf_RX10_50 dX10_shape_41 ht.1 ht.2.1 rfl ?_
  refine z_aload_n dX10_shape_44 rfl (j := 0) rfl ?_
  refine z_get Γ kf_RX10_189 dX10_shape_45 ht.1 ht.2.1 rfl (by decide) (v9 := M t 16) ((zu_a (by omega)).trans ((zu_a (by omega)).trans ((zu_a (by omega)).trans ((zu_a (by omega)).trans rfl)))) ?_
  refine z_iconst dX10_shape_48 ?_
  refine z_iast Γ dX10_shape_49 (by have := ht.1; omega) ht.2.2.2.2.2.2.2.2.2.2.2.2.2.2.1 (by decide) hi9 ?_
  refine z_aload_n dX10_shape_50 rfl (j := 0) rfl ?_
  refine z_getc Γ kf_RX10_53 dX10_shape_51 ht.1 ht.2.1 rfl ?_
  refine z_aload_n dX10_shape_54 rfl (j := 0) rfl ?_
  refine z_get Γ kf_RX10_189 dX10_shape_55 ht.1 ht.2.1 rfl (by decide) (v9 := M t 16) ((zu_a (by omega)).trans ((zu_a (by omega)).trans ((zu_a (by omega)).trans ((zu_a (by omega)).trans ((zu_a (by omega)).trans rfl))))) ?_
  refine z_iconst dX10_shape_58 ?_
  refine z_iast Γ dX10_shape_59 (by have := ht.1; omega) ht.2.2.2.2.2.2.2.2.2.2.2.2.2.2.2.1 (by decide) hi9 ?_
  refine z_aload_n dX10_shape_60 rfl (j := 0) rfl ?_
  refine z_dup2 dX10_shape_61 ?_
  refine z_get Γ kf_RX10_189 dX10_shape_62 ht.1 ht.2.1 rfl (by decide) (v9 := M t 16) ((zu_a (by omega)).trans ((zu_a (by omega)).trans ((zu_a (by omega)).trans ((zu_a (by omega)).trans ((zu_a (by omega)).trans ((zu_a (by omega)).trans rfl)))))) ?_
  refine z_iconst dX10_shape_65 ?_
  refine z_iadd dX10_shape_66 ?_
  refine z_put0 Γ kp_RX10_189 dX10_shape_67 ht.1 ht.2.1 rfl (k9 := 16) rfl ?_
  refine z_aload_n dX10_shape_70 rfl (j := 0) rfl ?_
  refine z_get Γ kf_RX10_189 dX10_shape_71 ht.1 ht.2.1 rfl (by decide) (v9 := (M t 16) + 1) (zu_s _ _ _ _) ?_
  refine z_iconst dX10_shape_74 ?_
  refine z_isub dX10_shape_75 ?_
  exact z_iret dX10_shape_76 rfl h

abbrev zg_X10_addKid_64 (l : Launch) (s0 : State) (G : va_G) (ca : Nat → ClassId) (d : Nat) (C : Nat × Nat) (S : zS) (w0 : rt_Wd) (t : Int) (v1 : Int) (v3 : Int)  (M : zM) (Q : Int → zM → Prop) (X : zM → Prop) : Prop := rt_Go l s0 G RX10 "addKid" cX10_addKid 4 (Option.some FieldType.int) [] d w0 (zQ s0 ca 0 C S Q X) 64 [(0, zv s0 2 t), (1, zv s0 0 v1), (3, zv s0 0 v3)] [] (zw s0 ca C S M)
def zt_X10_addKid_64 (l : Launch) (s0 : State) (G : va_G) (ca : Nat → ClassId) (d : Nat) (C : Nat × Nat) (S : zS) (w0 : rt_Wd) (t : Int) (v1 : Int) (v3 : Int)  (M : zM) (Q : Int → zM → Prop) (X : zM → Prop) : Prop :=
  (0 ≤ v1 ∧ v1 < 140) ∧ (Q v3 ((zu M (t + 13) v1 ((M (t + 13) v1) + 1))))
set_option maxRecDepth 100000 in
theorem zs_X10_addKid_64 {l : Launch} {s0 : State} {a0 : Array Value} {G : va_G} {ca : Nat → ClassId} (Γ : rt_Γ l s0 a0 G ca) {d : Nat} {C : Nat × Nat} {S : zS} (hok : zok C) {t : Int} (ht : zTx S t) {w0 : rt_Wd} {v1 : Int} {v3 : Int}   {M : zM} {Q : Int → zM → Prop} {X : zM → Prop} (h : zt_X10_addKid_64 l s0 G ca d C S w0 t v1 v3 M Q X) : zg_X10_addKid_64 l s0 G ca d C S w0 t v1 v3 M Q X := by
  unfold zt_X10_addKid_64 at h
  refine z_aload_n dX10_addKid_64 rfl (j := 0) rfl ?_
  refine z_getc Γ kf_RX10_50 dX10_addKid_65 ht.1 ht.2.1 rfl ?_
  refine z_iload_n dX10_addKid_68 rfl (j := 1) rfl ?_
  refine z_dupp dX10_addKid_69 ?_
  obtain ⟨hi70, h⟩ := h
  refine z_iald Γ dX10_addKid_70 (by have := ht.1; omega) ht.2.2.2.2.2.2.2.2.2.2.2.2.2.2.1 (by decide) hi70 (v9 := M (t + 13) v1) rfl ?_
  refine z_iconst dX10_addKid_71 ?_
  refine z_iadd dX10_addKid_72 ?_
  refine z_iast Γ dX10_addKid_73 (by have := ht.1; omega) ht.2.2.2.2.2.2.2.2.2.2.2.2.2.2.1 (by decide) hi70 ?_
  refine z_iload_n dX10_addKid_74 rfl (j := 2) rfl ?_
  exact z_iret dX10_addKid_75 rfl h

def zt_X10_addKid (l : Launch) (s0 : State) (G : va_G) (ca : Nat → ClassId) (d : Nat) (C : Nat × Nat) (S : zS) (w0 : rt_Wd) (t : Int) (s : Int) (e : Int) (M : zM) (Q : Int → zM → Prop) (X : zM → Prop) : Prop :=
  (0 ≤ M t 24 ∧ M t 24 < 2200) ∧ (zIf (0 ≤ w32 e) ((0 ≤ e ∧ e < 2200) ∧ (zt_X10_addKid_64 l s0 G ca d C S w0 t s (M t 24) ((zu ((zu ((zu ((zu ((zu ((zu M t 24 ((M t 24) + 1))) (t + 15) (M t 24) ((-1)))) (t + 16) (M t 24) ((-1)))) (t + 17) (M t 24) ((-1)))) (t + 18) (M t 24) ((-1)))) (t + 18) e (M t 24))) Q X)) ((0 ≤ s ∧ s < 140) ∧ (zt_X10_addKid_64 l s0 G ca d C S w0 t s (M t 24) ((zu ((zu ((zu ((zu ((zu ((zu M t 24 ((M t 24) + 1))) (t + 15) (M t 24) ((-1)))) (t + 16) (M t 24) ((-1)))) (t + 17) (M t 24) ((-1)))) (t + 18) (M t 24) ((-1)))) (t + 12) s (M t 24))) Q X)))
set_option maxRecDepth 100000 in
theorem z_X10_addKid {l : Launch} {s0 : State} {a0 : Array Value} {G : va_G} {ca : Nat → ClassId} (Γ : rt_Γ l s0 a0 G ca) {d : Nat} {C : Nat × Nat} {S : zS} (hok : zok C) {t : Int} (ht : zTx S t) {s : Int} {e : Int} {M : zM} {Q : Int → zM → Prop} {X : zM → Prop} (h : zt_X10_addKid l s0 G ca d C S (zw s0 ca C S M) t s e M Q X) : zm_X10_addKid l s0 G ca d C S t s e M Q X := by
  refine z_met (lv := [(0, zv s0 2 t), (1, zv s0 0 s), (2, zv s0 0 e)]) Γ kk_X10_addKid rfl (show (lg_sl [zv s0 2 t, zv s0 0 s, zv s0 0 e]).length ≤ 4 from by simp only [zn_0, zn_2, show (lg_sl []).length = 0 from rfl]; omega) (show lv_args 0 [zv s0 2 t, zv s0 0 s, zv s0 0 e] = [(0, zv s0 2 t), (1, zv s0 0 s), (2, zv s0 0 e)] from by rw [zl_2, zl_0, zl_0]; rfl) ?_
  unfold zt_X10_addKid at h
  refine z_aload_n dX10_addKid_0 rfl (j := 0) rfl ?_
  refine z_get Γ kf_RX10_192 dX10_addKid_1 ht.1 ht.2.1 rfl (by decide) (v9 := M t 24) rfl ?_
  refine z_istore_n (i := 3) (lv' := [(3, zv s0 0 (M t 24)), (0, zv s0 2 t), (1, zv s0 0 s), (2, zv s0 0 e)]) dX10_addKid_4 rfl (by decide) (by simp [zv_cat0, zv_cat1, zv_cat2, zv_cats]) ?_
  refine z_aload_n dX10_addKid_5 rfl (j := 1) rfl ?_
  refine z_dup2 dX10_addKid_6 ?_
  refine z_get Γ kf_RX10_192 dX10_addKid_7 ht.1 ht.2.1 rfl (by decide) (v9 := M t 24) rfl ?_
  refine z_iconst dX10_addKid_10 ?_
  refine z_iadd dX10_addKid_11 ?_
  refine z_put0 Γ kp_RX10_192 dX10_addKid_12 ht.1 ht.2.1 rfl (k9 := 24) rfl ?_
  refine z_aload_n dX10_addKid_15 rfl (j := 1) rfl ?_
  refine z_getc Γ kf_RX10_56 dX10_addKid_16 ht.1 ht.2.1 rfl ?_
  refine z_iload_n dX10_addKid_19 rfl (j := 0) rfl ?_
  refine z_iconst dX10_addKid_20 ?_
  obtain ⟨hi21, h⟩ := h
  refine z_iast Γ dX10_addKid_21 (by have := ht.1; omega) ht.2.2.2.2.2.2.2.2.2.2.2.2.2.2.2.2.1 (by decide) hi21 ?_
  refine z_aload_n dX10_addKid_22 rfl (j := 1) rfl ?_
  refine z_getc Γ kf_RX10_59 dX10_addKid_23 ht.1 ht.2.1 rfl ?_
  refine z_iload_n dX10_addKid_26 rfl (j := 0) rfl ?_
  refine z_iconst dX10_addKid_27 ?_
  refine z_iast Γ dX10_addKid_28 (by have := ht.1; omega) ht.2.2.2.2.2.2.2.2.2.2.2.2.2.2.2.2.2.1 (by decide) hi21 ?_
  refine z_aload_n dX10_addKid_29 rfl (j := 1) rfl ?_
  refine z_getc Γ kf_RX10_62 dX10_addKid_30 ht.1 ht.2.1 rfl ?_
  refine z_iload_n dX10_addKid_33 rfl (j := 0) rfl ?_
  refine z_iconst dX10_addKid_34 ?_
  refine z_iast Γ dX10_addKid_35 (by have := ht.1; omega) ht.2.2.2.2.2.2.2.2.2.2.2.2.2.2.2.2.2.2.1 (by decide) hi21 ?_
  refine z_aload_n dX10_addKid_36 rfl (j := 1) rfl ?_
  refine z_getc Γ kf_RX10_65 dX10_addKid_37 ht.1 ht.2.1 rfl ?_
  refine z_iload_n dX10_addKid_40 rfl (j := 0) rfl ?_
  refine z_iconst dX10_addKid_41 ?_
  refine z_iast Γ dX10_addKid_42 (by have := ht.1; omega) ht.2.2.2.2.2.2.2.2.2.2.2.2.2.2.2.2.2.2.2.1 (by decide) hi21 ?_
  refine z_iload_n dX10_addKid_43 rfl (j := 3) rfl ?_
  refine z_if_ge (tgt := 57) (x' := w32 e) rfl dX10_addKid_44 (by decide) (fun c44 => ?_) (fun c44 => ?_)
  · replace h := h.1 c44
    refine z_aload_n dX10_addKid_57 rfl (j := 1) rfl ?_
    refine z_getc Γ kf_RX10_65 dX10_addKid_58 ht.1 ht.2.1 rfl ?_
    refine z_iload_n dX10_addKid_61 rfl (j := 3) rfl ?_
    refine z_iload_n dX10_addKid_62 rfl (j := 0) rfl ?_
    obtain ⟨hi63, h⟩ := h
    refine z_iast Γ dX10_addKid_63 (by have := ht.1; omega) ht.2.2.2.2.2.2.2.2.2.2.2.2.2.2.2.2.2.2.2.1 (by decide) hi63 ?_
    exact rt_lfew [1, 2, 0] rfl (zs_X10_addKid_64 Γ hok ht  h)
  · replace h := h.2 c44
    refine z_aload_n dX10_addKid_47 rfl (j := 1) rfl ?_
    refine z_getc Γ kf_RX10_47 dX10_addKid_48 ht.1 ht.2.1 rfl ?_
    refine z_iload_n dX10_addKid_51 rfl (j := 2) rfl ?_
    refine z_iload_n dX10_addKid_52 rfl (j := 0) rfl ?_
    obtain ⟨hi53, h⟩ := h
    refine z_iast Γ dX10_addKid_53 (by have := ht.1; omega) ht.2.2.2.2.2.2.2.2.2.2.2.2.2.1 (by decide) hi53 ?_
    refine rt_goto (tgt := 64) dX10_addKid_54 (by decide) ?_
    exact rt_lfew [1, 2, 0] rfl (zs_X10_addKid_64 Γ hok ht  h)

def zt_X10_alike (l : Launch) (s0 : State) (G : va_G) (ca : Nat → ClassId) (d : Nat) (C : Nat × Nat) (S : zS) (w0 : rt_Wd) (t : Int) (a : Int) (b : Int) (M : zM) (Q : Int → zM → Prop) (X : zM → Prop) : Prop :=
  zIf (w32 a = w32 b) (Q 1 M) ((0 ≤ a ∧ a < 140) ∧ ((0 ≤ b ∧ b < 140) ∧ (zIf (w32 (M (t + 9) a) = w32 (M (t + 9) b)) (zIf (w32 (M (t + 9) a) = 6) (Q 1 M) (zIf (w32 (M (t + 9) a) = 7) (Q 1 M) (Q 0 M))) (Q 0 M))))
set_option maxRecDepth 100000 in
theorem z_X10_alike {l : Launch} {s0 : State} {a0 : Array Value} {G : va_G} {ca : Nat → ClassId} (Γ : rt_Γ l s0 a0 G ca) {d : Nat} {C : Nat × Nat} {S : zS} (hok : zok C) {t : Int} (ht : zTx S t) {a : Int} {b : Int} {M : zM} {Q : Int → zM → Prop} {X : zM → Prop} (h : zt_X10_alike l s0 G ca d C S (zw s0 ca C S M) t a b M Q X) : zm_X10_alike l s0 G ca d C S t a b M Q X := by
  refine z_met (lv := [(0, zv s0 2 t), (1, zv s0 0 a), (2, zv s0 0 b)]) Γ kk_X10_alike rfl (show (lg_sl [zv s0 2 t, zv s0 0 a, zv s0 0 b]).length ≤ 3 from by simp only [zn_0, zn_2, show (lg_sl []).length = 0 from rfl]; omega) (show lv_args 0 [zv s0 2 t, zv s0 0 a, zv s0 0 b] = [(0, zv s0 2 t), (1, zv s0 0 a), (2, zv s0 0 b)] from by rw [zl_2, zl_0, zl_0]; rfl) ?_
  unfold zt_X10_alike at h
  refine z_iload_n dX10_alike_0 rfl (j := 1) rfl ?_
  refine z_iload_n dX10_alike_1 rfl (j := 2) rfl ?_
  refine z_icmp_ne (tgt := 7) (x' := w32 a) (y' := w32 b) rfl rfl dX10_alike_2 (by decide) (fun c2 => ?_) (fun c2 => ?_)
  · replace h := h.2 c2
    refine z_aload_n dX10_alike_7 rfl (j := 0) rfl ?_
    refine z_getc Γ kf_RX10_38 dX10_alike_8 ht.1 ht.2.1 rfl ?_
    refine z_iload_n dX10_alike_11 rfl (j := 1) rfl ?_
    obtain ⟨hi12, h⟩ := h
    refine z_iald Γ dX10_alike_12 (by have := ht.1; omega) ht.2.2.2.2.2.2.2.2.2.2.1 (by decide) hi12 (v9 := M (t + 9) a) rfl ?_
    refine z_aload_n dX10_alike_13 rfl (j := 0) rfl ?_
    refine z_getc Γ kf_RX10_38 dX10_alike_14 ht.1 ht.2.1 rfl ?_
    refine z_iload_n dX10_alike_17 rfl (j := 2) rfl ?_
    obtain ⟨hi18, h⟩ := h
    refine z_iald Γ dX10_alike_18 (by have := ht.1; omega) ht.2.2.2.2.2.2.2.2.2.2.1 (by decide) hi18 (v9 := M (t + 9) b) rfl ?_
    refine z_icmp_ne (tgt := 48) (x' := w32 (M (t + 9) a)) (y' := w32 (M (t + 9) b)) rfl rfl dX10_alike_19 (by decide) (fun c19 => ?_) (fun c19 => ?_)
    · replace h := h.2 c19
      refine z_iconst dX10_alike_48 ?_
      exact z_zret dX10_alike_49 rfl (by decide) h
    · replace h := h.1 c19
      refine z_aload_n dX10_alike_22 rfl (j := 0) rfl ?_
      refine z_getc Γ kf_RX10_38 dX10_alike_23 ht.1 ht.2.1 rfl ?_
      refine z_iload_n dX10_alike_26 rfl (j := 1) rfl ?_
      refine z_iald Γ dX10_alike_27 (by have := ht.1; omega) ht.2.2.2.2.2.2.2.2.2.2.1 (by decide) hi12 (v9 := M (t + 9) a) rfl ?_
      refine z_bipush dX10_alike_28 (by decide) ?_
      refine z_icmp_eq (tgt := 44) (x' := w32 (M (t + 9) a)) (y' := 6) rfl (by decide) dX10_alike_30 (by decide) (fun c30 => ?_) (fun c30 => ?_)
      · replace h := h.1 c30
        refine z_iconst dX10_alike_44 ?_
        refine rt_goto (tgt := 49) dX10_alike_45 (by decide) ?_
        exact z_zret dX10_alike_49 rfl (by decide) h
      · replace h := h.2 c30
        refine z_aload_n dX10_alike_33 rfl (j := 0) rfl ?_
        refine z_getc Γ kf_RX10_38 dX10_alike_34 ht.1 ht.2.1 rfl ?_
        refine z_iload_n dX10_alike_37 rfl (j := 1) rfl ?_
        refine z_iald Γ dX10_alike_38 (by have := ht.1; omega) ht.2.2.2.2.2.2.2.2.2.2.1 (by decide) hi12 (v9 := M (t + 9) a) rfl ?_
        refine z_bipush dX10_alike_39 (by decide) ?_
        refine z_icmp_ne (tgt := 48) (x' := w32 (M (t + 9) a)) (y' := 7) rfl (by decide) dX10_alike_41 (by decide) (fun c41 => ?_) (fun c41 => ?_)
        · replace h := h.2 c41
          refine z_iconst dX10_alike_48 ?_
          exact z_zret dX10_alike_49 rfl (by decide) h
        · replace h := h.1 c41
          refine z_iconst dX10_alike_44 ?_
          refine rt_goto (tgt := 49) dX10_alike_45 (by decide) ?_
          exact z_zret dX10_alike_49 rfl (by decide) h
  · replace h := h.1 c2
    refine z_iconst dX10_alike_5 ?_
    exact z_zret dX10_alike_6 rfl (by decide) h

abbrev zg_X10_symbol_11 (l : Launch) (s0 : State) (G : va_G) (ca : Nat → ClassId) (d : Nat) (C : Nat × Nat) (S : zS) (w0 : rt_Wd) (t : Int) (v2 : Int) (v3 : Int) (v4 : Int) (v5 : Int)  (M : zM) (Q : Int → zM → Prop) (X : zM → Prop) : Prop := rt_Go l s0 G RX10 "symbol" cX10_symbol 6 (Option.some FieldType.int) [] d w0 (zQ s0 ca 0 C S Q X) 11 [(0, zv s0 2 t), (2, zv s0 2 v2), (3, zv s0 0 v3), (4, zv s0 0 v4), (5, zv s0 0 v5)] [] (zw s0 ca C S M)
def zt_X10_symbol_11 (l : Launch) (s0 : State) (G : va_G) (ca : Nat → ClassId) (d : Nat) (C : Nat × Nat) (S : zS) (w0 : rt_Wd) (t : Int) (v2 : Int) (v3 : Int) (v4 : Int) (v5 : Int)  (M : zM) (Q : Int → zM → Prop) (X : zM → Prop) : Prop :=
  zIf (w32 v5 < 0) (Q ((-1)) M) ((0 ≤ v5 ∧ v5 < 2200) ∧ (zm_X10_same l s0 G ca (d - 1) C S t (M (t + 16) v5) v2 v3 M (fun r26 M26 => zIf (w32 r26 = 0) (zg_X10_symbol_11 l s0 G ca d C S w0 t v2 v3 (v4 + 1) (M26 (t + 18) v5) M26 Q X) (Q v4 M26)) X))
set_option maxRecDepth 100000 in
theorem zs_X10_symbol_11 {l : Launch} {s0 : State} {a0 : Array Value} {G : va_G} {ca : Nat → ClassId} (Γ : rt_Γ l s0 a0 G ca) {d : Nat} {C : Nat × Nat} {S : zS} (hd : 1 ≤ d) (hok : zok C) {t : Int} (ht : zTx S t) {w0 : rt_Wd} {v2 : Int} {v3 : Int} {v4 : Int} {v5 : Int}   {M : zM} {Q : Int → zM → Prop} {X : zM → Prop} (h : zt_X10_symbol_11 l s0 G ca d C S w0 t v2 v3 v4 v5 M Q X) : zg_X10_symbol_11 l s0 G ca d C S w0 t v2 v3 v4 v5 M Q X := by
  unfold zt_X10_symbol_11 at h
  refine z_iload dX10_symbol_11 (j := 4) rfl ?_
  refine z_if_lt (tgt := 50) (x' := w32 v5) rfl dX10_symbol_13 (by decide) (fun c13 => ?_) (fun c13 => ?_)
  · replace h := h.1 c13
    refine z_iconst dX10_symbol_50 ?_
    exact z_iret dX10_symbol_51 rfl h
  · replace h := h.2 c13
    refine z_aload_n dX10_symbol_16 rfl (j := 0) rfl ?_
    refine z_aload_n dX10_symbol_17 rfl (j := 0) rfl ?_
    refine z_getc Γ kf_RX10_59 dX10_symbol_18 ht.1 ht.2.1 rfl ?_
    refine z_iload dX10_symbol_21 (j := 4) rfl ?_
    obtain ⟨hi23, h⟩ := h
    refine z_iald Γ dX10_symbol_23 (by have := ht.1; omega) ht.2.2.2.2.2.2.2.2.2.2.2.2.2.2.2.2.2.1 (by decide) hi23 (v9 := M (t + 16) v5) rfl ?_
    refine z_aload_n dX10_symbol_24 rfl (j := 1) rfl ?_
    refine z_iload_n dX10_symbol_25 rfl (j := 2) rfl ?_
    refine z_callV Γ kk_X10_same kc_RX10_155 (As := [zv s0 0 (M (t + 16) v5), zv s0 2 v2, zv s0 0 v3]) h (by omega) (by decide) (show (parseMethodDescriptor yX10_same.desc).map (fun q => q.parameters.length) = some 3 by decide +kernel) hok (Nat.zero_le _) dX10_symbol_26 ht.1 ht.2.1 rfl rfl (fun _ h9 => nomatch h9) ?_
    clear h
    intro r26 M26 h
    show rt_Go _ _ _ _ _ _ _ _ _ _ _ _ 29 [(0, zv s0 2 t), (2, zv s0 2 v2), (3, zv s0 0 v3), (4, zv s0 0 v4), (5, zv s0 0 v5)] [zv s0 0 r26] (zw s0 ca C S M26)
    refine z_if_eq (tgt := 35) (x' := w32 r26) rfl dX10_symbol_29 (by decide) (fun c29 => ?_) (fun c29 => ?_)
    · replace h := h.1 c29
      refine z_iinc (lv' := [(4, zv s0 0 (v4 + 1)), (0, zv s0 2 t), (2, zv s0 2 v2), (3, zv s0 0 v3), (5, zv s0 0 v5)]) dX10_symbol_35 (j := 3) rfl (by decide) (by simp [zv_cat0, zv_cat1, zv_cat2, zv_cats]) ?_
      refine z_aload_n dX10_symbol_38 rfl (j := 1) rfl ?_
      refine z_getc Γ kf_RX10_65 dX10_symbol_39 ht.1 ht.2.1 rfl ?_
      refine z_iload dX10_symbol_42 (j := 4) rfl ?_
      refine z_iald Γ dX10_symbol_44 (by have := ht.1; omega) ht.2.2.2.2.2.2.2.2.2.2.2.2.2.2.2.2.2.2.2.1 (by decide) hi23 (v9 := M26 (t + 18) v5) rfl ?_
      refine z_istore (i := 5) (lv' := [(5, zv s0 0 (M26 (t + 18) v5)), (4, zv s0 0 (v4 + 1)), (0, zv s0 2 t), (2, zv s0 2 v2), (3, zv s0 0 v3)]) dX10_symbol_45 (by decide) (by simp [zv_cat0, zv_cat1, zv_cat2, zv_cats]) ?_
      refine rt_goto (tgt := 11) dX10_symbol_47 (by decide) ?_
      exact rt_lfew [2, 3, 4, 1, 0] rfl h
    · replace h := h.2 c29
      refine z_iload dX10_symbol_32 (j := 3) rfl ?_
      exact z_iret dX10_symbol_34 rfl h

def zt_X10_symbol (l : Launch) (s0 : State) (G : va_G) (ca : Nat → ClassId) (d : Nat) (C : Nat × Nat) (S : zS) (w0 : rt_Wd) (t : Int) (s : Int) (o : Int) (n : Int) (M : zM) (Q : Int → zM → Prop) (X : zM → Prop) : Prop :=
  (0 ≤ s ∧ s < 140) ∧ (zg_X10_symbol_11 l s0 G ca d C S w0 t o n 0 (M (t + 12) s) M Q X)
set_option maxRecDepth 100000 in
theorem z_X10_symbol {l : Launch} {s0 : State} {a0 : Array Value} {G : va_G} {ca : Nat → ClassId} (Γ : rt_Γ l s0 a0 G ca) {d : Nat} {C : Nat × Nat} {S : zS} (hd : 1 ≤ d) (hok : zok C) {t : Int} (ht : zTx S t) {s : Int} {o : Int} {n : Int} {M : zM} {Q : Int → zM → Prop} {X : zM → Prop} (h : zt_X10_symbol l s0 G ca d C S (zw s0 ca C S M) t s o n M Q X) : zm_X10_symbol l s0 G ca d C S t s o n M Q X := by
  refine z_met (lv := [(0, zv s0 2 t), (1, zv s0 0 s), (2, zv s0 2 o), (3, zv s0 0 n)]) Γ kk_X10_symbol rfl (show (lg_sl [zv s0 2 t, zv s0 0 s, zv s0 2 o, zv s0 0 n]).length ≤ 6 from by simp only [zn_0, zn_2, show (lg_sl []).length = 0 from rfl]; omega) (show lv_args 0 [zv s0 2 t, zv s0 0 s, zv s0 2 o, zv s0 0 n] = [(0, zv s0 2 t), (1, zv s0 0 s), (2, zv s0 2 o), (3, zv s0 0 n)] from by rw [zl_2, zl_0, zl_2, zl_0]; rfl) ?_
  unfold zt_X10_symbol at h
  refine z_iconst dX10_symbol_0 ?_
  refine z_istore (i := 4) (lv' := [(4, zv s0 0 0), (0, zv s0 2 t), (1, zv s0 0 s), (2, zv s0 2 o), (3, zv s0 0 n)]) dX10_symbol_1 (by decide) (by simp [zv_cat0, zv_cat1, zv_cat2, zv_cats]) ?_
  refine z_aload_n dX10_symbol_3 rfl (j := 1) rfl ?_
  refine z_getc Γ kf_RX10_47 dX10_symbol_4 ht.1 ht.2.1 rfl ?_
  refine z_iload_n dX10_symbol_7 rfl (j := 2) rfl ?_
  obtain ⟨hi8, h⟩ := h
  refine z_iald Γ dX10_symbol_8 (by have := ht.1; omega) ht.2.2.2.2.2.2.2.2.2.2.2.2.2.1 (by decide) hi8 (v9 := M (t + 12) s) rfl ?_
  refine z_istore (i := 5) (lv' := [(5, zv s0 0 (M (t + 12) s)), (4, zv s0 0 0), (0, zv s0 2 t), (1, zv s0 0 s), (2, zv s0 2 o), (3, zv s0 0 n)]) dX10_symbol_9 (by decide) (by simp [zv_cat0, zv_cat1, zv_cat2, zv_cats]) ?_
  exact rt_lfew [2, 4, 5, 1, 0] rfl h

abbrev zg_X10_kid_10 (l : Launch) (s0 : State) (G : va_G) (ca : Nat → ClassId) (d : Nat) (C : Nat × Nat) (S : zS) (w0 : rt_Wd) (t : Int) (v2 : Int) (v3 : Int) (v4 : Int)  (M : zM) (Q : Int → zM → Prop) (X : zM → Prop) : Prop := rt_Go l s0 G RX10 "kid" cX10_kid 5 (Option.some FieldType.int) [] d w0 (zQ s0 ca 0 C S Q X) 10 [(0, zv s0 2 t), (2, zv s0 0 v2), (3, zv s0 0 v3), (4, zv s0 0 v4)] [] (zw s0 ca C S M)
def zt_X10_kid_10 (l : Launch) (s0 : State) (G : va_G) (ca : Nat → ClassId) (d : Nat) (C : Nat × Nat) (S : zS) (w0 : rt_Wd) (t : Int) (v2 : Int) (v3 : Int) (v4 : Int)  (M : zM) (Q : Int → zM → Prop) (X : zM → Prop) : Prop :=
  zIf (w32 v2 ≤ w32 v4) (Q v3 M) ((0 ≤ v3 ∧ v3 < 2200) ∧ (zg_X10_kid_10 l s0 G ca d C S w0 t v2 (M (t + 18) v3) (v4 + 1) M Q X))
set_option maxRecDepth 100000 in
theorem zs_X10_kid_10 {l : Launch} {s0 : State} {a0 : Array Value} {G : va_G} {ca : Nat → ClassId} (Γ : rt_Γ l s0 a0 G ca) {d : Nat} {C : Nat × Nat} {S : zS} (hok : zok C) {t : Int} (ht : zTx S t) {w0 : rt_Wd} {v2 : Int} {v3 : Int} {v4 : Int}   {M : zM} {Q : Int → zM → Prop} {X : zM → Prop} (h : zt_X10_kid_10 l s0 G ca d C S w0 t v2 v3 v4 M Q X) : zg_X10_kid_10 l s0 G ca d C S w0 t v2 v3 v4 M Q X := by
  unfold zt_X10_kid_10 at h
  refine z_iload dX10_kid_10 (j := 3) rfl ?_
  refine z_iload_n dX10_kid_12 rfl (j := 1) rfl ?_
  refine z_icmp_ge (tgt := 29) (x' := w32 v4) (y' := w32 v2) rfl rfl dX10_kid_13 (by decide) (fun c13 => ?_) (fun c13 => ?_)
  · replace h := h.1 c13
    refine z_iload_n dX10_kid_29 rfl (j := 2) rfl ?_
    exact z_iret dX10_kid_30 rfl h
  · replace h := h.2 c13
    refine z_aload_n dX10_kid_16 rfl (j := 0) rfl ?_
    refine z_getc Γ kf_RX10_65 dX10_kid_17 ht.1 ht.2.1 rfl ?_
    refine z_iload_n dX10_kid_20 rfl (j := 2) rfl ?_
    obtain ⟨hi21, h⟩ := h
    refine z_iald Γ dX10_kid_21 (by have := ht.1; omega) ht.2.2.2.2.2.2.2.2.2.2.2.2.2.2.2.2.2.2.2.1 (by decide) hi21 (v9 := M (t + 18) v3) rfl ?_
    refine z_istore_n (i := 3) (lv' := [(3, zv s0 0 (M (t + 18) v3)), (0, zv s0 2 t), (2, zv s0 0 v2), (4, zv s0 0 v4)]) dX10_kid_22 rfl (by decide) (by simp [zv_cat0, zv_cat1, zv_cat2, zv_cats]) ?_
    refine z_iinc (lv' := [(4, zv s0 0 (v4 + 1)), (3, zv s0 0 (M (t + 18) v3)), (0, zv s0 2 t), (2, zv s0 0 v2)]) dX10_kid_23 (j := 3) rfl (by decide) (by simp [zv_cat0, zv_cat1, zv_cat2, zv_cats]) ?_
    refine rt_goto (tgt := 10) dX10_kid_26 (by decide) ?_
    exact rt_lfew [2, 3, 1, 0] rfl h

def zt_X10_kid (l : Launch) (s0 : State) (G : va_G) (ca : Nat → ClassId) (d : Nat) (C : Nat × Nat) (S : zS) (w0 : rt_Wd) (t : Int) (s : Int) (i : Int) (M : zM) (Q : Int → zM → Prop) (X : zM → Prop) : Prop :=
  (0 ≤ s ∧ s < 140) ∧ (zg_X10_kid_10 l s0 G ca d C S w0 t i (M (t + 12) s) 0 M Q X)
set_option maxRecDepth 100000 in
theorem z_X10_kid {l : Launch} {s0 : State} {a0 : Array Value} {G : va_G} {ca : Nat → ClassId} (Γ : rt_Γ l s0 a0 G ca) {d : Nat} {C : Nat × Nat} {S : zS} (hok : zok C) {t : Int} (ht : zTx S t) {s : Int} {i : Int} {M : zM} {Q : Int → zM → Prop} {X : zM → Prop} (h : zt_X10_kid l s0 G ca d C S (zw s0 ca C S M) t s i M Q X) : zm_X10_kid l s0 G ca d C S t s i M Q X := by
  refine z_met (lv := [(0, zv s0 2 t), (1, zv s0 0 s), (2, zv s0 0 i)]) Γ kk_X10_kid rfl (show (lg_sl [zv s0 2 t, zv s0 0 s, zv s0 0 i]).length ≤ 5 from by simp only [zn_0, zn_2, show (lg_sl []).length = 0 from rfl]; omega) (show lv_args 0 [zv s0 2 t, zv s0 0 s, zv s0 0 i] = [(0, zv s0 2 t), (1, zv s0 0 s), (2, zv s0 0 i)] from by rw [zl_2, zl_0, zl_0]; rfl) ?_
  unfold zt_X10_kid at h
  refine z_aload_n dX10_kid_0 rfl (j := 0) rfl ?_
  refine z_getc Γ kf_RX10_47 dX10_kid_1 ht.1 ht.2.1 rfl ?_
  refine z_iload_n dX10_kid_4 rfl (j := 1) rfl ?_
  obtain ⟨hi5, h⟩ := h
  refine z_iald Γ dX10_kid_5 (by have := ht.1; omega) ht.2.2.2.2.2.2.2.2.2.2.2.2.2.1 (by decide) hi5 (v9 := M (t + 12) s) rfl ?_
  refine z_istore_n (i := 3) (lv' := [(3, zv s0 0 (M (t + 12) s)), (0, zv s0 2 t), (1, zv s0 0 s), (2, zv s0 0 i)]) dX10_kid_6 rfl (by decide) (by simp [zv_cat0, zv_cat1, zv_cat2, zv_cats]) ?_
  refine z_iconst dX10_kid_7 ?_
  refine z_istore (i := 4) (lv' := [(4, zv s0 0 0), (3, zv s0 0 (M (t + 12) s)), (0, zv s0 2 t), (1, zv s0 0 s), (2, zv s0 0 i)]) dX10_kid_8 (by decide) (by simp [zv_cat0, zv_cat1, zv_cat2, zv_cats]) ?_
  exact rt_lfew [2, 4, 1, 0] rfl h

abbrev zg_X10_memberLike_7 (l : Launch) (s0 : State) (G : va_G) (ca : Nat → ClassId) (d : Nat) (C : Nat × Nat) (S : zS) (w0 : rt_Wd) (t : Int) (v2 : Int) (v3 : Int)  (M : zM) (Q : Int → zM → Prop) (X : zM → Prop) : Prop := rt_Go l s0 G RX10 "memberLike" cX10_memberLike 4 (Option.some FieldType.int) [] d w0 (zQ s0 ca 0 C S Q X) 7 [(0, zv s0 2 t), (2, zv s0 0 v2), (3, zv s0 0 v3)] [] (zw s0 ca C S M)
def zt_X10_memberLike_7 (l : Launch) (s0 : State) (G : va_G) (ca : Nat → ClassId) (d : Nat) (C : Nat × Nat) (S : zS) (w0 : rt_Wd) (t : Int) (v2 : Int) (v3 : Int)  (M : zM) (Q : Int → zM → Prop) (X : zM → Prop) : Prop :=
  zIf (w32 v3 < 0) (Q ((-1)) M) (zm_X10_same l s0 G ca (d - 1) C S t v3 t v2 M (fun r15 M15 => zIf (w32 r15 = 0) ((0 ≤ v3 ∧ v3 < 4200) ∧ ((0 ≤ M15 (t + 7) v3 ∧ M15 (t + 7) v3 < 4200) ∧ (zg_X10_memberLike_7 l s0 G ca d C S w0 t v2 (M15 (t + 7) (M15 (t + 7) v3)) M15 Q X))) ((0 ≤ v3 ∧ v3 < 4200) ∧ (Q (M15 (t + 7) v3) M15))) X)
set_option maxRecDepth 100000 in
theorem zs_X10_memberLike_7 {l : Launch} {s0 : State} {a0 : Array Value} {G : va_G} {ca : Nat → ClassId} (Γ : rt_Γ l s0 a0 G ca) {d : Nat} {C : Nat × Nat} {S : zS} (hd : 1 ≤ d) (hok : zok C) {t : Int} (ht : zTx S t) {w0 : rt_Wd} {v2 : Int} {v3 : Int}   {M : zM} {Q : Int → zM → Prop} {X : zM → Prop} (h : zt_X10_memberLike_7 l s0 G ca d C S w0 t v2 v3 M Q X) : zg_X10_memberLike_7 l s0 G ca d C S w0 t v2 v3 M Q X := by
  unfold zt_X10_memberLike_7 at h
  refine z_iload_n dX10_memberLike_7 rfl (j := 2) rfl ?_
  refine z_if_lt (tgt := 43) (x' := w32 v3) rfl dX10_memberLike_8 (by decide) (fun c8 => ?_) (fun c8 => ?_)
  · replace h := h.1 c8
    refine z_iconst dX10_memberLike_43 ?_
    exact z_iret dX10_memberLike_44 rfl h
  · replace h := h.2 c8
    refine z_aload_n dX10_memberLike_11 rfl (j := 0) rfl ?_
    refine z_iload_n dX10_memberLike_12 rfl (j := 2) rfl ?_
    refine z_aload_n dX10_memberLike_13 rfl (j := 0) rfl ?_
    refine z_iload_n dX10_memberLike_14 rfl (j := 1) rfl ?_
    refine z_callV Γ kk_X10_same kc_RX10_155 (As := [zv s0 0 v3, zv s0 2 t, zv s0 0 v2]) h (by omega) (by decide) (show (parseMethodDescriptor yX10_same.desc).map (fun q => q.parameters.length) = some 3 by decide +kernel) hok (Nat.zero_le _) dX10_memberLike_15 ht.1 ht.2.1 rfl rfl (fun _ h9 => nomatch h9) ?_
    clear h
    intro r15 M15 h
    show rt_Go _ _ _ _ _ _ _ _ _ _ _ _ 18 [(0, zv s0 2 t), (2, zv s0 0 v2), (3, zv s0 0 v3)] [zv s0 0 r15] (zw s0 ca C S M15)
    refine z_if_eq (tgt := 28) (x' := w32 r15) rfl dX10_memberLike_18 (by decide) (fun c18 => ?_) (fun c18 => ?_)
    · replace h := h.1 c18
      refine z_aload_n dX10_memberLike_28 rfl (j := 0) rfl ?_
      refine z_getc Γ kf_RX10_32 dX10_memberLike_29 ht.1 ht.2.1 rfl ?_
      refine z_aload_n dX10_memberLike_32 rfl (j := 0) rfl ?_
      refine z_getc Γ kf_RX10_32 dX10_memberLike_33 ht.1 ht.2.1 rfl ?_
      refine z_iload_n dX10_memberLike_36 rfl (j := 2) rfl ?_
      obtain ⟨hi37, h⟩ := h
      refine z_iald Γ dX10_memberLike_37 (by have := ht.1; omega) ht.2.2.2.2.2.2.2.2.1 (by decide) hi37 (v9 := M15 (t + 7) v3) rfl ?_
      obtain ⟨hi38, h⟩ := h
      refine z_iald Γ dX10_memberLike_38 (by have := ht.1; omega) ht.2.2.2.2.2.2.2.2.1 (by decide) hi38 (v9 := M15 (t + 7) (M15 (t + 7) v3)) rfl ?_
      refine z_istore_n (i := 3) (lv' := [(3, zv s0 0 (M15 (t + 7) (M15 (t + 7) v3))), (0, zv s0 2 t), (2, zv s0 0 v2)]) dX10_memberLike_39 rfl (by decide) (by simp [zv_cat0, zv_cat1, zv_cat2, zv_cats]) ?_
      refine rt_goto (tgt := 7) dX10_memberLike_40 (by decide) ?_
      exact rt_lfew [1, 2, 0] rfl h
    · replace h := h.2 c18
      refine z_aload_n dX10_memberLike_21 rfl (j := 0) rfl ?_
      refine z_getc Γ kf_RX10_32 dX10_memberLike_22 ht.1 ht.2.1 rfl ?_
      refine z_iload_n dX10_memberLike_25 rfl (j := 2) rfl ?_
      obtain ⟨hi26, h⟩ := h
      refine z_iald Γ dX10_memberLike_26 (by have := ht.1; omega) ht.2.2.2.2.2.2.2.2.1 (by decide) hi26 (v9 := M15 (t + 7) v3) rfl ?_
      exact z_iret dX10_memberLike_27 rfl h

def zt_X10_memberLike (l : Launch) (s0 : State) (G : va_G) (ca : Nat → ClassId) (d : Nat) (C : Nat × Nat) (S : zS) (w0 : rt_Wd) (t : Int) (n : Int) (k : Int) (M : zM) (Q : Int → zM → Prop) (X : zM → Prop) : Prop :=
  (0 ≤ n ∧ n < 4200) ∧ (zg_X10_memberLike_7 l s0 G ca d C S w0 t k (M (t + 6) n) M Q X)
set_option maxRecDepth 100000 in
theorem z_X10_memberLike {l : Launch} {s0 : State} {a0 : Array Value} {G : va_G} {ca : Nat → ClassId} (Γ : rt_Γ l s0 a0 G ca) {d : Nat} {C : Nat × Nat} {S : zS} (hd : 1 ≤ d) (hok : zok C) {t : Int} (ht : zTx S t) {n : Int} {k : Int} {M : zM} {Q : Int → zM → Prop} {X : zM → Prop} (h : zt_X10_memberLike l s0 G ca d C S (zw s0 ca C S M) t n k M Q X) : zm_X10_memberLike l s0 G ca d C S t n k M Q X := by
  refine z_met (lv := [(0, zv s0 2 t), (1, zv s0 0 n), (2, zv s0 0 k)]) Γ kk_X10_memberLike rfl (show (lg_sl [zv s0 2 t, zv s0 0 n, zv s0 0 k]).length ≤ 4 from by simp only [zn_0, zn_2, show (lg_sl []).length = 0 from rfl]; omega) (show lv_args 0 [zv s0 2 t, zv s0 0 n, zv s0 0 k] = [(0, zv s0 2 t), (1, zv s0 0 n), (2, zv s0 0 k)] from by rw [zl_2, zl_0, zl_0]; rfl) ?_
  unfold zt_X10_memberLike at h
  refine z_aload_n dX10_memberLike_0 rfl (j := 0) rfl ?_
  refine z_getc Γ kf_RX10_29 dX10_memberLike_1 ht.1 ht.2.1 rfl ?_
  refine z_iload_n dX10_memberLike_4 rfl (j := 1) rfl ?_
  obtain ⟨hi5, h⟩ := h
  refine z_iald Γ dX10_memberLike_5 (by have := ht.1; omega) ht.2.2.2.2.2.2.2.1 (by decide) hi5 (v9 := M (t + 6) n) rfl ?_
  refine z_istore_n (i := 3) (lv' := [(3, zv s0 0 (M (t + 6) n)), (0, zv s0 2 t), (1, zv s0 0 n), (2, zv s0 0 k)]) dX10_memberLike_6 rfl (by decide) (by simp [zv_cat0, zv_cat1, zv_cat2, zv_cats]) ?_
  exact rt_lfew [1, 3, 0] rfl h

abbrev zg_X10_union_10 (l : Launch) (s0 : State) (G : va_G) (ca : Nat → ClassId) (d : Nat) (C : Nat × Nat) (S : zS) (w0 : rt_Wd) (t : Int) (v1 : Int) (v2 : Int) (k0 : Int) (M : zM) (Q : Int → zM → Prop) (X : zM → Prop) : Prop := rt_Go l s0 G RX10 "union" cX10_union 9 (Option.some FieldType.int) [] d w0 (zQ s0 ca 0 C S Q X) 10 [(0, zv s0 2 t), (1, zv s0 0 v1), (2, zv s0 0 v2)] [zv s0 0 k0, zv s0 2 t] (zw s0 ca C S M)
abbrev zg_X10_union_45 (l : Launch) (s0 : State) (G : va_G) (ca : Nat → ClassId) (d : Nat) (C : Nat × Nat) (S : zS) (w0 : rt_Wd) (t : Int) (v1 : Int) (v2 : Int)  (M : zM) (Q : Int → zM → Prop) (X : zM → Prop) : Prop := rt_Go l s0 G RX10 "union" cX10_union 9 (Option.some FieldType.int) [] d w0 (zQ s0 ca 0 C S Q X) 45 [(0, zv s0 2 t), (1, zv s0 0 v1), (2, zv s0 0 v2)] [zv s0 2 t] (zw s0 ca C S M)
abbrev zg_X10_union_46 (l : Launch) (s0 : State) (G : va_G) (ca : Nat → ClassId) (d : Nat) (C : Nat × Nat) (S : zS) (w0 : rt_Wd) (t : Int) (v1 : Int) (v2 : Int) (k0 : Int) (M : zM) (Q : Int → zM → Prop) (X : zM → Prop) : Prop := rt_Go l s0 G RX10 "union" cX10_union 9 (Option.some FieldType.int) [] d w0 (zQ s0 ca 0 C S Q X) 46 [(0, zv s0 2 t), (1, zv s0 0 v1), (2, zv s0 0 v2)] [zv s0 0 k0, zv s0 2 t] (zw s0 ca C S M)
abbrev zg_X10_union_75 (l : Launch) (s0 : State) (G : va_G) (ca : Nat → ClassId) (d : Nat) (C : Nat × Nat) (S : zS) (w0 : rt_Wd) (t : Int) (v2 : Int) (v4 : Int) (v5 : Int) (v6 : Int)  (M : zM) (Q : Int → zM → Prop) (X : zM → Prop) : Prop := rt_Go l s0 G RX10 "union" cX10_union 9 (Option.some FieldType.int) [] d w0 (zQ s0 ca 0 C S Q X) 75 [(0, zv s0 2 t), (2, zv s0 0 v2), (4, zv s0 0 v4), (5, zv s0 0 v5), (6, zv s0 0 v6)] [] (zw s0 ca C S M)
abbrev zg_X10_union_101 (l : Launch) (s0 : State) (G : va_G) (ca : Nat → ClassId) (d : Nat) (C : Nat × Nat) (S : zS) (w0 : rt_Wd) (t : Int) (v2 : Int) (v4 : Int) (v5 : Int) (v6 : Int) (v7 : Int) (v8 : Int)  (M : zM) (Q : Int → zM → Prop) (X : zM → Prop) : Prop := rt_Go l s0 G RX10 "union" cX10_union 9 (Option.some FieldType.int) [] d w0 (zQ s0 ca 0 C S Q X) 101 [(0, zv s0 2 t), (2, zv s0 0 v2), (4, zv s0 0 v4), (5, zv s0 0 v5), (6, zv s0 0 v6), (7, zv s0 0 v7), (8, zv s0 0 v8)] [] (zw s0 ca C S M)
abbrev zg_X10_union_128 (l : Launch) (s0 : State) (G : va_G) (ca : Nat → ClassId) (d : Nat) (C : Nat × Nat) (S : zS) (w0 : rt_Wd) (t : Int) (v2 : Int) (v4 : Int) (v5 : Int) (v6 : Int) (v7 : Int) (v8 : Int) (k0 : Int) (M : zM) (Q : Int → zM → Prop) (X : zM → Prop) : Prop := rt_Go l s0 G RX10 "union" cX10_union 9 (Option.some FieldType.int) [] d w0 (zQ s0 ca 0 C S Q X) 128 [(0, zv s0 2 t), (2, zv s0 0 v2), (4, zv s0 0 v4), (5, zv s0 0 v5), (6, zv s0 0 v6), (7, zv s0 0 v7), (8, zv s0 0 v8)] [zv s0 0 k0, zv s0 2 t] (zw s0 ca C S M)
def zt_X10_union_46 (l : Launch) (s0 : State) (G : va_G) (ca : Nat → ClassId) (d : Nat) (C : Nat × Nat) (S : zS) (w0 : rt_Wd) (t : Int) (v1 : Int) (v2 : Int) (k0 : Int) (M : zM) (Q : Int → zM → Prop) (X : zM → Prop) : Prop :=
  (0 ≤ v1 ∧ v1 < 4200) ∧ (zm_X10_need l s0 G ca (d - 1) C S t k0 5 (M (t + 3) v1) M (fun r53 M53 => zm_X10_shape l s0 G ca (d - 1) C S t 8 M53 (fun r59 M59 => zg_X10_union_75 l s0 G ca d C S w0 t v2 r59 ((-1)) (M59 (t + 6) v1) M59 Q X) X) X)
set_option maxRecDepth 100000 in
theorem zs_X10_union_46 {l : Launch} {s0 : State} {a0 : Array Value} {G : va_G} {ca : Nat → ClassId} (Γ : rt_Γ l s0 a0 G ca) {d : Nat} {C : Nat × Nat} {S : zS} (hd : 1 ≤ d) (hok : zok C) {t : Int} (ht : zTx S t) {w0 : rt_Wd} {v1 : Int} {v2 : Int} {k0 : Int}  {M : zM} {Q : Int → zM → Prop} {X : zM → Prop} (h : zt_X10_union_46 l s0 G ca d C S w0 t v1 v2 k0 M Q X) : zg_X10_union_46 l s0 G ca d C S w0 t v1 v2 k0 M Q X := by
  unfold zt_X10_union_46 at h
  refine z_iconst dX10_union_46 ?_
  refine z_aload_n dX10_union_47 rfl (j := 0) rfl ?_
  refine z_getc Γ kf_RX10_19 dX10_union_48 ht.1 ht.2.1 rfl ?_
  refine z_iload_n dX10_union_51 rfl (j := 1) rfl ?_
  obtain ⟨hi52, h⟩ := h
  refine z_iald Γ dX10_union_52 (by have := ht.1; omega) ht.2.2.2.2.1 (by decide) hi52 (v9 := M (t + 3) v1) rfl ?_
  refine z_callV Γ kk_X10_need kc_RX10_105 (As := [zv s0 0 k0, zv s0 0 5, zv s0 0 (M (t + 3) v1)]) h (by omega) (by decide) (show (parseMethodDescriptor yX10_need.desc).map (fun q => q.parameters.length) = some 3 by decide +kernel) hok (Nat.zero_le _) dX10_union_53 ht.1 ht.2.1 rfl rfl (fun _ h9 => nomatch h9) ?_
  clear h
  intro r53 M53 h
  show rt_Go _ _ _ _ _ _ _ _ _ _ _ _ 56 [(0, zv s0 2 t), (1, zv s0 0 v1), (2, zv s0 0 v2)] [] (zw s0 ca C S M53)
  refine z_aload_n dX10_union_56 rfl (j := 0) rfl ?_
  refine z_bipush dX10_union_57 (by decide) ?_
  refine z_callV Γ kk_X10_shape kc_RX10_222 (As := [zv s0 0 8]) h (by omega) (by decide) (show (parseMethodDescriptor yX10_shape.desc).map (fun q => q.parameters.length) = some 1 by decide +kernel) hok (Nat.zero_le _) dX10_union_59 ht.1 ht.2.1 rfl rfl (fun _ h9 => nomatch h9) ?_
  clear h
  intro r59 M59 h
  show rt_Go _ _ _ _ _ _ _ _ _ _ _ _ 62 [(0, zv s0 2 t), (1, zv s0 0 v1), (2, zv s0 0 v2)] [zv s0 0 r59] (zw s0 ca C S M59)
  refine z_istore (i := 4) (lv' := [(4, zv s0 0 r59), (0, zv s0 2 t), (1, zv s0 0 v1), (2, zv s0 0 v2)]) dX10_union_62 (by decide) (by simp [zv_cat0, zv_cat1, zv_cat2, zv_cats]) ?_
  refine z_iconst dX10_union_64 ?_
  refine z_istore (i := 5) (lv' := [(5, zv s0 0 ((-1))), (4, zv s0 0 r59), (0, zv s0 2 t), (1, zv s0 0 v1), (2, zv s0 0 v2)]) dX10_union_65 (by decide) (by simp [zv_cat0, zv_cat1, zv_cat2, zv_cats]) ?_
  refine z_aload_n dX10_union_67 rfl (j := 2) rfl ?_
  refine z_getc Γ kf_RX10_29 dX10_union_68 ht.1 ht.2.1 rfl ?_
  refine z_iload_n dX10_union_71 rfl (j := 3) rfl ?_
  refine z_iald Γ dX10_union_72 (by have := ht.1; omega) ht.2.2.2.2.2.2.2.1 (by decide) hi52 (v9 := M59 (t + 6) v1) rfl ?_
  refine z_istore (i := 6) (lv' := [(6, zv s0 0 (M59 (t + 6) v1)), (5, zv s0 0 ((-1))), (4, zv s0 0 r59), (0, zv s0 2 t), (1, zv s0 0 v1), (2, zv s0 0 v2)]) dX10_union_73 (by decide) (by simp [zv_cat0, zv_cat1, zv_cat2, zv_cats]) ?_
  exact rt_lfew [3, 5, 2, 1, 0] rfl h

def zt_X10_union_45 (l : Launch) (s0 : State) (G : va_G) (ca : Nat → ClassId) (d : Nat) (C : Nat × Nat) (S : zS) (w0 : rt_Wd) (t : Int) (v1 : Int) (v2 : Int)  (M : zM) (Q : Int → zM → Prop) (X : zM → Prop) : Prop :=
  zt_X10_union_46 l s0 G ca d C S w0 t v1 v2 0 M Q X
set_option maxRecDepth 100000 in
theorem zs_X10_union_45 {l : Launch} {s0 : State} {a0 : Array Value} {G : va_G} {ca : Nat → ClassId} (Γ : rt_Γ l s0 a0 G ca) {d : Nat} {C : Nat × Nat} {S : zS} (hd : 1 ≤ d) (hok : zok C) {t : Int} (ht : zTx S t) {w0 : rt_Wd} {v1 : Int} {v2 : Int}   {M : zM} {Q : Int → zM → Prop} {X : zM → Prop} (h : zt_X10_union_45 l s0 G ca d C S w0 t v1 v2 M Q X) : zg_X10_union_45 l s0 G ca d C S w0 t v1 v2 M Q X := by
  unfold zt_X10_union_45 at h
  refine z_iconst dX10_union_45 ?_
  exact rt_lfew [0, 1, 2] rfl (zs_X10_union_46 Γ hd hok ht  h)

def zt_X10_union_10 (l : Launch) (s0 : State) (G : va_G) (ca : Nat → ClassId) (d : Nat) (C : Nat × Nat) (S : zS) (w0 : rt_Wd) (t : Int) (v1 : Int) (v2 : Int) (k0 : Int) (M : zM) (Q : Int → zM → Prop) (X : zM → Prop) : Prop :=
  (0 ≤ v1 ∧ v1 < 4200) ∧ (zm_X10_need l s0 G ca (d - 1) C S t k0 4 (M (t + 3) v1) M (fun r17 M17 => zIf (w32 (M17 (t + 5) v1) ≤ 0) (zt_X10_union_45 l s0 G ca d C S w0 t v1 v2 M17 Q X) (zIf (17 ≤ w32 (M17 (t + 5) v1)) (zt_X10_union_45 l s0 G ca d C S w0 t v1 v2 M17 Q X) (zt_X10_union_46 l s0 G ca d C S w0 t v1 v2 1 M17 Q X))) X)
set_option maxRecDepth 100000 in
theorem zs_X10_union_10 {l : Launch} {s0 : State} {a0 : Array Value} {G : va_G} {ca : Nat → ClassId} (Γ : rt_Γ l s0 a0 G ca) {d : Nat} {C : Nat × Nat} {S : zS} (hd : 1 ≤ d) (hok : zok C) {t : Int} (ht : zTx S t) {w0 : rt_Wd} {v1 : Int} {v2 : Int} {k0 : Int}  {M : zM} {Q : Int → zM → Prop} {X : zM → Prop} (h : zt_X10_union_10 l s0 G ca d C S w0 t v1 v2 k0 M Q X) : zg_X10_union_10 l s0 G ca d C S w0 t v1 v2 k0 M Q X := by
  unfold zt_X10_union_10 at h
  refine z_iconst dX10_union_10 ?_
  refine z_aload_n dX10_union_11 rfl (j := 0) rfl ?_
  refine z_getc Γ kf_RX10_19 dX10_union_12 ht.1 ht.2.1 rfl ?_
  refine z_iload_n dX10_union_15 rfl (j := 1) rfl ?_
  obtain ⟨hi16, h⟩ := h
  refine z_iald Γ dX10_union_16 (by have := ht.1; omega) ht.2.2.2.2.1 (by decide) hi16 (v9 := M (t + 3) v1) rfl ?_
  refine z_callV Γ kk_X10_need kc_RX10_105 (As := [zv s0 0 k0, zv s0 0 4, zv s0 0 (M (t + 3) v1)]) h (by omega) (by decide) (show (parseMethodDescriptor yX10_need.desc).map (fun q => q.parameters.length) = some 3 by decide +kernel) hok (Nat.zero_le _) dX10_union_17 ht.1 ht.2.1 rfl rfl (fun _ h9 => nomatch h9) ?_
  clear h
  intro r17 M17 h
  show rt_Go _ _ _ _ _ _ _ _ _ _ _ _ 20 [(0, zv s0 2 t), (1, zv s0 0 v1), (2, zv s0 0 v2)] [] (zw s0 ca C S M17)
  refine z_aload_n dX10_union_20 rfl (j := 0) rfl ?_
  refine z_aload_n dX10_union_21 rfl (j := 0) rfl ?_
  refine z_getc Γ kf_RX10_26 dX10_union_22 ht.1 ht.2.1 rfl ?_
  refine z_iload_n dX10_union_25 rfl (j := 1) rfl ?_
  refine z_iald Γ dX10_union_26 (by have := ht.1; omega) ht.2.2.2.2.2.2.1 (by decide) hi16 (v9 := M17 (t + 5) v1) rfl ?_
  refine z_if_le (tgt := 45) (x' := w32 (M17 (t + 5) v1)) rfl dX10_union_27 (by decide) (fun c27 => ?_) (fun c27 => ?_)
  · replace h := h.1 c27
    exact rt_lfew [0, 1, 2] rfl (zs_X10_union_45 Γ hd hok ht  h)
  · replace h := h.2 c27
    refine z_aload_n dX10_union_30 rfl (j := 0) rfl ?_
    refine z_getc Γ kf_RX10_26 dX10_union_31 ht.1 ht.2.1 rfl ?_
    refine z_iload_n dX10_union_34 rfl (j := 1) rfl ?_
    refine z_iald Γ dX10_union_35 (by have := ht.1; omega) ht.2.2.2.2.2.2.1 (by decide) hi16 (v9 := M17 (t + 5) v1) rfl ?_
    refine z_bipush dX10_union_36 (by decide) ?_
    refine z_icmp_ge (tgt := 45) (x' := w32 (M17 (t + 5) v1)) (y' := 17) rfl (by decide) dX10_union_38 (by decide) (fun c38 => ?_) (fun c38 => ?_)
    · replace h := h.1 c38
      exact rt_lfew [0, 1, 2] rfl (zs_X10_union_45 Γ hd hok ht  h)
    · replace h := h.2 c38
      refine z_iconst dX10_union_41 ?_
      refine rt_goto (tgt := 46) dX10_union_42 (by decide) ?_
      exact rt_lfew [0, 1, 2] rfl (zs_X10_union_46 Γ hd hok ht  h)

def zt_X10_union_75 (l : Launch) (s0 : State) (G : va_G) (ca : Nat → ClassId) (d : Nat) (C : Nat × Nat) (S : zS) (w0 : rt_Wd) (t : Int) (v2 : Int) (v4 : Int) (v5 : Int) (v6 : Int)  (M : zM) (Q : Int → zM → Prop) (X : zM → Prop) : Prop :=
  zIf (w32 v6 < 0) (Q v4 M) (zm_X10_schemaOf l s0 G ca (d - 1) C S t v6 (v2 + 1) 1 M (fun r87 M87 => (0 ≤ v4 ∧ v4 < 140) ∧ (zg_X10_union_101 l s0 G ca d C S w0 t v2 v4 v5 v6 r87 (M87 (t + 12) v4) M87 Q X)) X)
set_option maxRecDepth 100000 in
theorem zs_X10_union_75 {l : Launch} {s0 : State} {a0 : Array Value} {G : va_G} {ca : Nat → ClassId} (Γ : rt_Γ l s0 a0 G ca) {d : Nat} {C : Nat × Nat} {S : zS} (hd : 1 ≤ d) (hok : zok C) {t : Int} (ht : zTx S t) {w0 : rt_Wd} {v2 : Int} {v4 : Int} {v5 : Int} {v6 : Int}   {M : zM} {Q : Int → zM → Prop} {X : zM → Prop} (h : zt_X10_union_75 l s0 G ca d C S w0 t v2 v4 v5 v6 M Q X) : zg_X10_union_75 l s0 G ca d C S w0 t v2 v4 v5 v6 M Q X := by
  unfold zt_X10_union_75 at h
  refine z_iload dX10_union_75 (j := 4) rfl ?_
  refine z_if_lt (tgt := 183) (x' := w32 v6) rfl dX10_union_77 (by decide) (fun c77 => ?_) (fun c77 => ?_)
  · replace h := h.1 c77
    refine z_iload dX10_union_183 (j := 2) rfl ?_
    exact z_iret dX10_union_185 rfl h
  · replace h := h.2 c77
    refine z_aload_n dX10_union_80 rfl (j := 0) rfl ?_
    refine z_iload dX10_union_81 (j := 4) rfl ?_
    refine z_iload_n dX10_union_83 rfl (j := 1) rfl ?_
    refine z_iconst dX10_union_84 ?_
    refine z_iadd dX10_union_85 ?_
    refine z_iconst dX10_union_86 ?_
    refine z_callV Γ kk_X10_schemaOf kc_RX10_229 (As := [zv s0 0 v6, zv s0 0 (v2 + 1), zv s0 0 1]) h (by omega) (by decide) (show (parseMethodDescriptor yX10_schemaOf.desc).map (fun q => q.parameters.length) = some 3 by decide +kernel) hok (Nat.zero_le _) dX10_union_87 ht.1 ht.2.1 rfl rfl (fun _ h9 => nomatch h9) ?_
    clear h
    intro r87 M87 h
    show rt_Go _ _ _ _ _ _ _ _ _ _ _ _ 90 [(0, zv s0 2 t), (2, zv s0 0 v2), (4, zv s0 0 v4), (5, zv s0 0 v5), (6, zv s0 0 v6)] [zv s0 0 r87] (zw s0 ca C S M87)
    refine z_istore (i := 7) (lv' := [(7, zv s0 0 r87), (0, zv s0 2 t), (2, zv s0 0 v2), (4, zv s0 0 v4), (5, zv s0 0 v5), (6, zv s0 0 v6)]) dX10_union_90 (by decide) (by simp [zv_cat0, zv_cat1, zv_cat2, zv_cats]) ?_
    refine z_aload_n dX10_union_92 rfl (j := 1) rfl ?_
    refine z_getc Γ kf_RX10_47 dX10_union_93 ht.1 ht.2.1 rfl ?_
    refine z_iload dX10_union_96 (j := 3) rfl ?_
    obtain ⟨hi98, h⟩ := h
    refine z_iald Γ dX10_union_98 (by have := ht.1; omega) ht.2.2.2.2.2.2.2.2.2.2.2.2.2.1 (by decide) hi98 (v9 := M87 (t + 12) v4) rfl ?_
    refine z_istore (i := 8) (lv' := [(8, zv s0 0 (M87 (t + 12) v4)), (7, zv s0 0 r87), (0, zv s0 2 t), (2, zv s0 0 v2), (4, zv s0 0 v4), (5, zv s0 0 v5), (6, zv s0 0 v6)]) dX10_union_99 (by decide) (by simp [zv_cat0, zv_cat1, zv_cat2, zv_cats]) ?_
    exact rt_lfew [2, 3, 4, 5, 6, 1, 0] rfl h

def zt_X10_union_128 (l : Launch) (s0 : State) (G : va_G) (ca : Nat → ClassId) (d : Nat) (C : Nat × Nat) (S : zS) (w0 : rt_Wd) (t : Int) (v2 : Int) (v4 : Int) (v5 : Int) (v6 : Int) (v7 : Int) (v8 : Int) (k0 : Int) (M : zM) (Q : Int → zM → Prop) (X : zM → Prop) : Prop :=
  (0 ≤ v6 ∧ v6 < 4200) ∧ (zm_X10_need l s0 G ca (d - 1) C S t k0 6 (M (t + 3) v6) M (fun r137 M137 => (0 ≤ v8 ∧ v8 < 2200) ∧ (zg_X10_union_101 l s0 G ca d C S w0 t v2 v4 v5 v6 v7 (M137 (t + 18) v8) M137 Q X)) X)
set_option maxRecDepth 100000 in
theorem zs_X10_union_128 {l : Launch} {s0 : State} {a0 : Array Value} {G : va_G} {ca : Nat → ClassId} (Γ : rt_Γ l s0 a0 G ca) {d : Nat} {C : Nat × Nat} {S : zS} (hd : 1 ≤ d) (hok : zok C) {t : Int} (ht : zTx S t) {w0 : rt_Wd} {v2 : Int} {v4 : Int} {v5 : Int} {v6 : Int} {v7 : Int} {v8 : Int} {k0 : Int}  {M : zM} {Q : Int → zM → Prop} {X : zM → Prop} (h : zt_X10_union_128 l s0 G ca d C S w0 t v2 v4 v5 v6 v7 v8 k0 M Q X) : zg_X10_union_128 l s0 G ca d C S w0 t v2 v4 v5 v6 v7 v8 k0 M Q X := by
  unfold zt_X10_union_128 at h
  refine z_bipush dX10_union_128 (by decide) ?_
  refine z_aload_n dX10_union_130 rfl (j := 0) rfl ?_
  refine z_getc Γ kf_RX10_19 dX10_union_131 ht.1 ht.2.1 rfl ?_
  refine z_iload dX10_union_134 (j := 4) rfl ?_
  obtain ⟨hi136, h⟩ := h
  refine z_iald Γ dX10_union_136 (by have := ht.1; omega) ht.2.2.2.2.1 (by decide) hi136 (v9 := M (t + 3) v6) rfl ?_
  refine z_callV Γ kk_X10_need kc_RX10_105 (As := [zv s0 0 k0, zv s0 0 6, zv s0 0 (M (t + 3) v6)]) h (by omega) (by decide) (show (parseMethodDescriptor yX10_need.desc).map (fun q => q.parameters.length) = some 3 by decide +kernel) hok (Nat.zero_le _) dX10_union_137 ht.1 ht.2.1 rfl rfl (fun _ h9 => nomatch h9) ?_
  clear h
  intro r137 M137 h
  show rt_Go _ _ _ _ _ _ _ _ _ _ _ _ 140 [(0, zv s0 2 t), (2, zv s0 0 v2), (4, zv s0 0 v4), (5, zv s0 0 v5), (6, zv s0 0 v6), (7, zv s0 0 v7), (8, zv s0 0 v8)] [] (zw s0 ca C S M137)
  refine z_aload_n dX10_union_140 rfl (j := 0) rfl ?_
  refine z_getc Γ kf_RX10_65 dX10_union_141 ht.1 ht.2.1 rfl ?_
  refine z_iload dX10_union_144 (j := 6) rfl ?_
  obtain ⟨hi146, h⟩ := h
  refine z_iald Γ dX10_union_146 (by have := ht.1; omega) ht.2.2.2.2.2.2.2.2.2.2.2.2.2.2.2.2.2.2.2.1 (by decide) hi146 (v9 := M137 (t + 18) v8) rfl ?_
  refine z_istore (i := 8) (lv' := [(8, zv s0 0 (M137 (t + 18) v8)), (0, zv s0 2 t), (2, zv s0 0 v2), (4, zv s0 0 v4), (5, zv s0 0 v5), (6, zv s0 0 v6), (7, zv s0 0 v7)]) dX10_union_147 (by decide) (by simp [zv_cat0, zv_cat1, zv_cat2, zv_cats]) ?_
  refine rt_goto (tgt := 101) dX10_union_149 (by decide) ?_
  exact rt_lfew [1, 2, 3, 4, 5, 6, 0] rfl h

def zt_X10_union_101 (l : Launch) (s0 : State) (G : va_G) (ca : Nat → ClassId) (d : Nat) (C : Nat × Nat) (S : zS) (w0 : rt_Wd) (t : Int) (v2 : Int) (v4 : Int) (v5 : Int) (v6 : Int) (v7 : Int) (v8 : Int)  (M : zM) (Q : Int → zM → Prop) (X : zM → Prop) : Prop :=
  zIf (w32 v8 < 0) (zm_X10_addKid l s0 G ca (d - 1) C S t v4 v5 M (fun r157 M157 => (0 ≤ r157 ∧ r157 < 2200) ∧ ((0 ≤ v6 ∧ v6 < 4200) ∧ (zg_X10_union_75 l s0 G ca d C S w0 t v2 v4 r157 (M157 (t + 7) v6) ((zu M157 (t + 15) r157 v7)) Q X))) X) ((0 ≤ v8 ∧ v8 < 2200) ∧ (zm_X10_alike l s0 G ca (d - 1) C S t (M (t + 15) v8) v7 M (fun r117 M117 => zIf (w32 r117 = 0) (zt_X10_union_128 l s0 G ca d C S w0 t v2 v4 v5 v6 v7 v8 1 M117 Q X) (zt_X10_union_128 l s0 G ca d C S w0 t v2 v4 v5 v6 v7 v8 0 M117 Q X)) X))
set_option maxRecDepth 100000 in
theorem zs_X10_union_101 {l : Launch} {s0 : State} {a0 : Array Value} {G : va_G} {ca : Nat → ClassId} (Γ : rt_Γ l s0 a0 G ca) {d : Nat} {C : Nat × Nat} {S : zS} (hd : 1 ≤ d) (hok : zok C) {t : Int} (ht : zTx S t) {w0 : rt_Wd} {v2 : Int} {v4 : Int} {v5 : Int} {v6 : Int} {v7 : Int} {v8 : Int}   {M : zM} {Q : Int → zM → Prop} {X : zM → Prop} (h : zt_X10_union_101 l s0 G ca d C S w0 t v2 v4 v5 v6 v7 v8 M Q X) : zg_X10_union_101 l s0 G ca d C S w0 t v2 v4 v5 v6 v7 v8 M Q X := by
  unfold zt_X10_union_101 at h
  refine z_iload dX10_union_101 (j := 6) rfl ?_
  refine z_if_lt (tgt := 152) (x' := w32 v8) rfl dX10_union_103 (by decide) (fun c103 => ?_) (fun c103 => ?_)
  · replace h := h.1 c103
    refine z_aload_n dX10_union_152 rfl (j := 0) rfl ?_
    refine z_iload dX10_union_153 (j := 2) rfl ?_
    refine z_iload dX10_union_155 (j := 3) rfl ?_
    refine z_callV Γ kk_X10_addKid kc_RX10_225 (As := [zv s0 0 v4, zv s0 0 v5]) h (by omega) (by decide) (show (parseMethodDescriptor yX10_addKid.desc).map (fun q => q.parameters.length) = some 2 by decide +kernel) hok (Nat.zero_le _) dX10_union_157 ht.1 ht.2.1 rfl rfl (fun _ h9 => nomatch h9) ?_
    clear h
    intro r157 M157 h
    show rt_Go _ _ _ _ _ _ _ _ _ _ _ _ 160 [(0, zv s0 2 t), (2, zv s0 0 v2), (4, zv s0 0 v4), (5, zv s0 0 v5), (6, zv s0 0 v6), (7, zv s0 0 v7), (8, zv s0 0 v8)] [zv s0 0 r157] (zw s0 ca C S M157)
    refine z_istore (i := 5) (lv' := [(5, zv s0 0 r157), (0, zv s0 2 t), (2, zv s0 0 v2), (4, zv s0 0 v4), (6, zv s0 0 v6), (7, zv s0 0 v7), (8, zv s0 0 v8)]) dX10_union_160 (by decide) (by simp [zv_cat0, zv_cat1, zv_cat2, zv_cats]) ?_
    refine z_aload_n dX10_union_162 rfl (j := 1) rfl ?_
    refine z_getc Γ kf_RX10_56 dX10_union_163 ht.1 ht.2.1 rfl ?_
    refine z_iload dX10_union_166 (j := 0) rfl ?_
    refine z_iload dX10_union_168 (j := 5) rfl ?_
    obtain ⟨hi170, h⟩ := h
    refine z_iast Γ dX10_union_170 (by have := ht.1; omega) ht.2.2.2.2.2.2.2.2.2.2.2.2.2.2.2.2.1 (by decide) hi170 ?_
    refine z_aload_n dX10_union_171 rfl (j := 1) rfl ?_
    refine z_getc Γ kf_RX10_32 dX10_union_172 ht.1 ht.2.1 rfl ?_
    refine z_iload dX10_union_175 (j := 4) rfl ?_
    obtain ⟨hi177, h⟩ := h
    refine z_iald Γ dX10_union_177 (by have := ht.1; omega) ht.2.2.2.2.2.2.2.2.1 (by decide) hi177 (v9 := M157 (t + 7) v6) ((zu_a (by omega)).trans rfl) ?_
    refine z_istore (i := 6) (lv' := [(6, zv s0 0 (M157 (t + 7) v6)), (5, zv s0 0 r157), (0, zv s0 2 t), (2, zv s0 0 v2), (4, zv s0 0 v4), (7, zv s0 0 v7), (8, zv s0 0 v8)]) dX10_union_178 (by decide) (by simp [zv_cat0, zv_cat1, zv_cat2, zv_cats]) ?_
    refine rt_goto (tgt := 75) dX10_union_180 (by decide) ?_
    exact rt_lfew [2, 3, 4, 1, 0] rfl h
  · replace h := h.2 c103
    refine z_aload_n dX10_union_106 rfl (j := 0) rfl ?_
    refine z_aload_n dX10_union_107 rfl (j := 0) rfl ?_
    refine z_aload_n dX10_union_108 rfl (j := 0) rfl ?_
    refine z_getc Γ kf_RX10_56 dX10_union_109 ht.1 ht.2.1 rfl ?_
    refine z_iload dX10_union_112 (j := 6) rfl ?_
    obtain ⟨hi114, h⟩ := h
    refine z_iald Γ dX10_union_114 (by have := ht.1; omega) ht.2.2.2.2.2.2.2.2.2.2.2.2.2.2.2.2.1 (by decide) hi114 (v9 := M (t + 15) v8) rfl ?_
    refine z_iload dX10_union_115 (j := 5) rfl ?_
    refine z_callV Γ kk_X10_alike kc_RX10_242 (As := [zv s0 0 (M (t + 15) v8), zv s0 0 v7]) h (by omega) (by decide) (show (parseMethodDescriptor yX10_alike.desc).map (fun q => q.parameters.length) = some 2 by decide +kernel) hok (by simp only [List.map, zv_cat0, zv_cat1, zv_cat2, List.sum_cons, List.sum_nil]; decide) dX10_union_117 ht.1 ht.2.1 rfl rfl (fun _ h9 => nomatch h9) ?_
    clear h
    intro r117 M117 h
    show rt_Go _ _ _ _ _ _ _ _ _ _ _ _ 120 [(0, zv s0 2 t), (2, zv s0 0 v2), (4, zv s0 0 v4), (5, zv s0 0 v5), (6, zv s0 0 v6), (7, zv s0 0 v7), (8, zv s0 0 v8)] [zv s0 0 r117, zv s0 2 t] (zw s0 ca C S M117)
    refine z_if_ne (tgt := 127) (x' := w32 r117) rfl dX10_union_120 (by decide) (fun c120 => ?_) (fun c120 => ?_)
    · replace h := h.2 c120
      refine z_iconst dX10_union_127 ?_
      exact rt_lfew [0, 1, 2, 3, 4, 5, 6] rfl (zs_X10_union_128 Γ hd hok ht  h)
    · replace h := h.1 c120
      refine z_iconst dX10_union_123 ?_
      refine rt_goto (tgt := 128) dX10_union_124 (by decide) ?_
      exact rt_lfew [0, 1, 2, 3, 4, 5, 6] rfl (zs_X10_union_128 Γ hd hok ht  h)

def zt_X10_union (l : Launch) (s0 : State) (G : va_G) (ca : Nat → ClassId) (d : Nat) (C : Nat × Nat) (S : zS) (w0 : rt_Wd) (t : Int) (v : Int) (e : Int) (b : Int) (M : zM) (Q : Int → zM → Prop) (X : zM → Prop) : Prop :=
  zIf (w32 b = 0) (zt_X10_union_10 l s0 G ca d C S w0 t v e 1 M Q X) (zt_X10_union_10 l s0 G ca d C S w0 t v e 0 M Q X)
set_option maxRecDepth 100000 in
theorem z_X10_union {l : Launch} {s0 : State} {a0 : Array Value} {G : va_G} {ca : Nat → ClassId} (Γ : rt_Γ l s0 a0 G ca) {d : Nat} {C : Nat × Nat} {S : zS} (hd : 1 ≤ d) (hok : zok C) {t : Int} (ht : zTx S t) {v : Int} {e : Int} {b : Int} {M : zM} {Q : Int → zM → Prop} {X : zM → Prop} (h : zt_X10_union l s0 G ca d C S (zw s0 ca C S M) t v e b M Q X) : zm_X10_union l s0 G ca d C S t v e b M Q X := by
  refine z_met (lv := [(0, zv s0 2 t), (1, zv s0 0 v), (2, zv s0 0 e), (3, zv s0 0 b)]) Γ kk_X10_union rfl (show (lg_sl [zv s0 2 t, zv s0 0 v, zv s0 0 e, zv s0 0 b]).length ≤ 9 from by simp only [zn_0, zn_2, show (lg_sl []).length = 0 from rfl]; omega) (show lv_args 0 [zv s0 2 t, zv s0 0 v, zv s0 0 e, zv s0 0 b] = [(0, zv s0 2 t), (1, zv s0 0 v), (2, zv s0 0 e), (3, zv s0 0 b)] from by rw [zl_2, zl_0, zl_0, zl_0]; rfl) ?_
  unfold zt_X10_union at h
  refine z_aload_n dX10_union_0 rfl (j := 0) rfl ?_
  refine z_iload_n dX10_union_1 rfl (j := 3) rfl ?_
  refine z_if_ne (tgt := 9) (x' := w32 b) rfl dX10_union_2 (by decide) (fun c2 => ?_) (fun c2 => ?_)
  · replace h := h.2 c2
    refine z_iconst dX10_union_9 ?_
    exact rt_lfew [0, 1, 2] rfl (zs_X10_union_10 Γ hd hok ht  h)
  · replace h := h.1 c2
    refine z_iconst dX10_union_5 ?_
    refine rt_goto (tgt := 10) dX10_union_6 (by decide) ?_
    exact rt_lfew [0, 1, 2] rfl (zs_X10_union_10 Γ hd hok ht  h)

abbrev zg_X10_symbols_19 (l : Launch) (s0 : State) (G : va_G) (ca : Nat → ClassId) (d : Nat) (C : Nat × Nat) (S : zS) (w0 : rt_Wd) (t : Int) (v1 : Int) (v2 : Int) (v3 : Int) (k0 : Int) (M : zM) (Q : Int → zM → Prop) (X : zM → Prop) : Prop := rt_Go l s0 G RX10 "symbols" cX10_symbols 7 (Option.none : Option FieldType) [] d w0 (zQ s0 ca 9 C S Q X) 19 [(0, zv s0 2 t), (1, zv s0 0 v1), (2, zv s0 0 v2), (3, zv s0 0 v3)] [zv s0 0 k0, zv s0 2 t] (zw s0 ca C S M)
abbrev zg_X10_symbols_65 (l : Launch) (s0 : State) (G : va_G) (ca : Nat → ClassId) (d : Nat) (C : Nat × Nat) (S : zS) (w0 : rt_Wd) (t : Int) (v1 : Int) (v2 : Int) (v3 : Int)  (M : zM) (Q : Int → zM → Prop) (X : zM → Prop) : Prop := rt_Go l s0 G RX10 "symbols" cX10_symbols 7 (Option.none : Option FieldType) [] d w0 (zQ s0 ca 9 C S Q X) 65 [(0, zv s0 2 t), (1, zv s0 0 v1), (2, zv s0 0 v2), (3, zv s0 0 v3)] [zv s0 2 t] (zw s0 ca C S M)
abbrev zg_X10_symbols_66 (l : Launch) (s0 : State) (G : va_G) (ca : Nat → ClassId) (d : Nat) (C : Nat × Nat) (S : zS) (w0 : rt_Wd) (t : Int) (v1 : Int) (v2 : Int) (v3 : Int) (k0 : Int) (M : zM) (Q : Int → zM → Prop) (X : zM → Prop) : Prop := rt_Go l s0 G RX10 "symbols" cX10_symbols 7 (Option.none : Option FieldType) [] d w0 (zQ s0 ca 9 C S Q X) 66 [(0, zv s0 2 t), (1, zv s0 0 v1), (2, zv s0 0 v2), (3, zv s0 0 v3)] [zv s0 0 k0, zv s0 2 t] (zw s0 ca C S M)
abbrev zg_X10_symbols_88 (l : Launch) (s0 : State) (G : va_G) (ca : Nat → ClassId) (d : Nat) (C : Nat × Nat) (S : zS) (w0 : rt_Wd) (t : Int) (v1 : Int) (v2 : Int) (v4 : Int) (v5 : Int)  (M : zM) (Q : Int → zM → Prop) (X : zM → Prop) : Prop := rt_Go l s0 G RX10 "symbols" cX10_symbols 7 (Option.none : Option FieldType) [] d w0 (zQ s0 ca 9 C S Q X) 88 [(0, zv s0 2 t), (1, zv s0 0 v1), (2, zv s0 0 v2), (4, zv s0 0 v4), (5, zv s0 0 v5)] [] (zw s0 ca C S M)
abbrev zg_X10_symbols_120 (l : Launch) (s0 : State) (G : va_G) (ca : Nat → ClassId) (d : Nat) (C : Nat × Nat) (S : zS) (w0 : rt_Wd) (t : Int) (v1 : Int) (v2 : Int) (v4 : Int) (v5 : Int) (v6 : Int)  (M : zM) (Q : Int → zM → Prop) (X : zM → Prop) : Prop := rt_Go l s0 G RX10 "symbols" cX10_symbols 7 (Option.none : Option FieldType) [] d w0 (zQ s0 ca 9 C S Q X) 120 [(0, zv s0 2 t), (1, zv s0 0 v1), (2, zv s0 0 v2), (4, zv s0 0 v4), (5, zv s0 0 v5), (6, zv s0 0 v6)] [] (zw s0 ca C S M)
abbrev zg_X10_symbols_148 (l : Launch) (s0 : State) (G : va_G) (ca : Nat → ClassId) (d : Nat) (C : Nat × Nat) (S : zS) (w0 : rt_Wd) (t : Int) (v1 : Int) (v2 : Int) (v4 : Int) (v5 : Int) (v6 : Int) (k0 : Int) (M : zM) (Q : Int → zM → Prop) (X : zM → Prop) : Prop := rt_Go l s0 G RX10 "symbols" cX10_symbols 7 (Option.none : Option FieldType) [] d w0 (zQ s0 ca 9 C S Q X) 148 [(0, zv s0 2 t), (1, zv s0 0 v1), (2, zv s0 0 v2), (4, zv s0 0 v4), (5, zv s0 0 v5), (6, zv s0 0 v6)] [zv s0 0 k0, zv s0 2 t] (zw s0 ca C S M)
abbrev zg_X10_symbols_244 (l : Launch) (s0 : State) (G : va_G) (ca : Nat → ClassId) (d : Nat) (C : Nat × Nat) (S : zS) (w0 : rt_Wd) (t : Int) (v1 : Int) (v5 : Int)  (M : zM) (Q : Int → zM → Prop) (X : zM → Prop) : Prop := rt_Go l s0 G RX10 "symbols" cX10_symbols 7 (Option.none : Option FieldType) [] d w0 (zQ s0 ca 9 C S Q X) 244 [(0, zv s0 2 t), (1, zv s0 0 v1), (5, zv s0 0 v5)] [zv s0 2 t] (zw s0 ca C S M)
abbrev zg_X10_symbols_245 (l : Launch) (s0 : State) (G : va_G) (ca : Nat → ClassId) (d : Nat) (C : Nat × Nat) (S : zS) (w0 : rt_Wd) (t : Int) (v1 : Int) (v5 : Int) (k0 : Int) (M : zM) (Q : Int → zM → Prop) (X : zM → Prop) : Prop := rt_Go l s0 G RX10 "symbols" cX10_symbols 7 (Option.none : Option FieldType) [] d w0 (zQ s0 ca 9 C S Q X) 245 [(0, zv s0 2 t), (1, zv s0 0 v1), (5, zv s0 0 v5)] [zv s0 0 k0, zv s0 2 t] (zw s0 ca C S M)
def zt_X10_symbols_66 (l : Launch) (s0 : State) (G : va_G) (ca : Nat → ClassId) (d : Nat) (C : Nat × Nat) (S : zS) (w0 : rt_Wd) (t : Int) (v1 : Int) (v2 : Int) (v3 : Int) (k0 : Int) (M : zM) (Q : Int → zM → Prop) (X : zM → Prop) : Prop :=
  (0 ≤ v3 ∧ v3 < 4200) ∧ (zm_X10_need l s0 G ca (d - 1) C S t k0 11 (M (t + 3) v3) M (fun r74 M74 => zg_X10_symbols_88 l s0 G ca d C S w0 t v1 v2 ((-1)) (M74 (t + 6) v3) M74 Q X) X)
set_option maxRecDepth 100000 in
theorem zs_X10_symbols_66 {l : Launch} {s0 : State} {a0 : Array Value} {G : va_G} {ca : Nat → ClassId} (Γ : rt_Γ l s0 a0 G ca) {d : Nat} {C : Nat × Nat} {S : zS} (hd : 1 ≤ d) (hok : zok C) {t : Int} (ht : zTx S t) {w0 : rt_Wd} {v1 : Int} {v2 : Int} {v3 : Int} {k0 : Int}  {M : zM} {Q : Int → zM → Prop} {X : zM → Prop} (h : zt_X10_symbols_66 l s0 G ca d C S w0 t v1 v2 v3 k0 M Q X) : zg_X10_symbols_66 l s0 G ca d C S w0 t v1 v2 v3 k0 M Q X := by
  unfold zt_X10_symbols_66 at h
  refine z_bipush dX10_symbols_66 (by decide) ?_
  refine z_aload_n dX10_symbols_68 rfl (j := 0) rfl ?_
  refine z_getc Γ kf_RX10_19 dX10_symbols_69 ht.1 ht.2.1 rfl ?_
  refine z_iload_n dX10_symbols_72 rfl (j := 3) rfl ?_
  obtain ⟨hi73, h⟩ := h
  refine z_iald Γ dX10_symbols_73 (by have := ht.1; omega) ht.2.2.2.2.1 (by decide) hi73 (v9 := M (t + 3) v3) rfl ?_
  refine z_callV Γ kk_X10_need kc_RX10_105 (As := [zv s0 0 k0, zv s0 0 11, zv s0 0 (M (t + 3) v3)]) h (by omega) (by decide) (show (parseMethodDescriptor yX10_need.desc).map (fun q => q.parameters.length) = some 3 by decide +kernel) hok (Nat.zero_le _) dX10_symbols_74 ht.1 ht.2.1 rfl rfl (fun _ h9 => nomatch h9) ?_
  clear h
  intro r74 M74 h
  show rt_Go _ _ _ _ _ _ _ _ _ _ _ _ 77 [(0, zv s0 2 t), (1, zv s0 0 v1), (2, zv s0 0 v2), (3, zv s0 0 v3)] [] (zw s0 ca C S M74)
  refine z_iconst dX10_symbols_77 ?_
  refine z_istore (i := 4) (lv' := [(4, zv s0 0 ((-1))), (0, zv s0 2 t), (1, zv s0 0 v1), (2, zv s0 0 v2), (3, zv s0 0 v3)]) dX10_symbols_78 (by decide) (by simp [zv_cat0, zv_cat1, zv_cat2, zv_cats]) ?_
  refine z_aload_n dX10_symbols_80 rfl (j := 1) rfl ?_
  refine z_getc Γ kf_RX10_29 dX10_symbols_81 ht.1 ht.2.1 rfl ?_
  refine z_iload_n dX10_symbols_84 rfl (j := 4) rfl ?_
  refine z_iald Γ dX10_symbols_85 (by have := ht.1; omega) ht.2.2.2.2.2.2.2.1 (by decide) hi73 (v9 := M74 (t + 6) v3) rfl ?_
  refine z_istore (i := 5) (lv' := [(5, zv s0 0 (M74 (t + 6) v3)), (4, zv s0 0 ((-1))), (0, zv s0 2 t), (1, zv s0 0 v1), (2, zv s0 0 v2), (3, zv s0 0 v3)]) dX10_symbols_86 (by decide) (by simp [zv_cat0, zv_cat1, zv_cat2, zv_cats]) ?_
  exact rt_lfew [2, 3, 4, 1, 0] rfl h

def zt_X10_symbols_65 (l : Launch) (s0 : State) (G : va_G) (ca : Nat → ClassId) (d : Nat) (C : Nat × Nat) (S : zS) (w0 : rt_Wd) (t : Int) (v1 : Int) (v2 : Int) (v3 : Int)  (M : zM) (Q : Int → zM → Prop) (X : zM → Prop) : Prop :=
  zt_X10_symbols_66 l s0 G ca d C S w0 t v1 v2 v3 0 M Q X
set_option maxRecDepth 100000 in
theorem zs_X10_symbols_65 {l : Launch} {s0 : State} {a0 : Array Value} {G : va_G} {ca : Nat → ClassId} (Γ : rt_Γ l s0 a0 G ca) {d : Nat} {C : Nat × Nat} {S : zS} (hd : 1 ≤ d) (hok : zok C) {t : Int} (ht : zTx S t) {w0 : rt_Wd} {v1 : Int} {v2 : Int} {v3 : Int}   {M : zM} {Q : Int → zM → Prop} {X : zM → Prop} (h : zt_X10_symbols_65 l s0 G ca d C S w0 t v1 v2 v3 M Q X) : zg_X10_symbols_65 l s0 G ca d C S w0 t v1 v2 v3 M Q X := by
  unfold zt_X10_symbols_65 at h
  refine z_iconst dX10_symbols_65 ?_
  exact rt_lfew [0, 1, 2, 3] rfl (zs_X10_symbols_66 Γ hd hok ht  h)

def zt_X10_symbols_19 (l : Launch) (s0 : State) (G : va_G) (ca : Nat → ClassId) (d : Nat) (C : Nat × Nat) (S : zS) (w0 : rt_Wd) (t : Int) (v1 : Int) (v2 : Int) (v3 : Int) (k0 : Int) (M : zM) (Q : Int → zM → Prop) (X : zM → Prop) : Prop :=
  (0 ≤ v2 ∧ v2 < 4200) ∧ (zm_X10_need l s0 G ca (d - 1) C S t k0 8 (M (t + 3) v2) M (fun r27 M27 => (0 ≤ v3 ∧ v3 < 4200) ∧ (zIf (w32 (M27 (t + 2) v3) = 1) (zIf (w32 (M27 (t + 5) v3) ≤ 0) (zt_X10_symbols_65 l s0 G ca d C S w0 t v1 v2 v3 M27 Q X) (zIf (33 ≤ w32 (M27 (t + 5) v3)) (zt_X10_symbols_65 l s0 G ca d C S w0 t v1 v2 v3 M27 Q X) (zt_X10_symbols_66 l s0 G ca d C S w0 t v1 v2 v3 1 M27 Q X))) (zt_X10_symbols_65 l s0 G ca d C S w0 t v1 v2 v3 M27 Q X))) X)
set_option maxRecDepth 100000 in
theorem zs_X10_symbols_19 {l : Launch} {s0 : State} {a0 : Array Value} {G : va_G} {ca : Nat → ClassId} (Γ : rt_Γ l s0 a0 G ca) {d : Nat} {C : Nat × Nat} {S : zS} (hd : 1 ≤ d) (hok : zok C) {t : Int} (ht : zTx S t) {w0 : rt_Wd} {v1 : Int} {v2 : Int} {v3 : Int} {k0 : Int}  {M : zM} {Q : Int → zM → Prop} {X : zM → Prop} (h : zt_X10_symbols_19 l s0 G ca d C S w0 t v1 v2 v3 k0 M Q X) : zg_X10_symbols_19 l s0 G ca d C S w0 t v1 v2 v3 k0 M Q X := by
  unfold zt_X10_symbols_19 at h
  refine z_bipush dX10_symbols_19 (by decide) ?_
  refine z_aload_n dX10_symbols_21 rfl (j := 0) rfl ?_
  refine z_getc Γ kf_RX10_19 dX10_symbols_22 ht.1 ht.2.1 rfl ?_
  refine z_iload_n dX10_symbols_25 rfl (j := 2) rfl ?_
  obtain ⟨hi26, h⟩ := h
  refine z_iald Γ dX10_symbols_26 (by have := ht.1; omega) ht.2.2.2.2.1 (by decide) hi26 (v9 := M (t + 3) v2) rfl ?_
  refine z_callV Γ kk_X10_need kc_RX10_105 (As := [zv s0 0 k0, zv s0 0 8, zv s0 0 (M (t + 3) v2)]) h (by omega) (by decide) (show (parseMethodDescriptor yX10_need.desc).map (fun q => q.parameters.length) = some 3 by decide +kernel) hok (Nat.zero_le _) dX10_symbols_27 ht.1 ht.2.1 rfl rfl (fun _ h9 => nomatch h9) ?_
  clear h
  intro r27 M27 h
  show rt_Go _ _ _ _ _ _ _ _ _ _ _ _ 30 [(0, zv s0 2 t), (1, zv s0 0 v1), (2, zv s0 0 v2), (3, zv s0 0 v3)] [] (zw s0 ca C S M27)
  refine z_aload_n dX10_symbols_30 rfl (j := 0) rfl ?_
  refine z_aload_n dX10_symbols_31 rfl (j := 0) rfl ?_
  refine z_getc Γ kf_RX10_15 dX10_symbols_32 ht.1 ht.2.1 rfl ?_
  refine z_iload_n dX10_symbols_35 rfl (j := 3) rfl ?_
  obtain ⟨hi36, h⟩ := h
  refine z_iald Γ dX10_symbols_36 (by have := ht.1; omega) ht.2.2.2.1 (by decide) hi36 (v9 := M27 (t + 2) v3) rfl ?_
  refine z_iconst dX10_symbols_37 ?_
  refine z_icmp_ne (tgt := 65) (x' := w32 (M27 (t + 2) v3)) (y' := 1) rfl (by decide) dX10_symbols_38 (by decide) (fun c38 => ?_) (fun c38 => ?_)
  · replace h := h.2 c38
    exact rt_lfew [0, 1, 2, 3] rfl (zs_X10_symbols_65 Γ hd hok ht  h)
  · replace h := h.1 c38
    refine z_aload_n dX10_symbols_41 rfl (j := 0) rfl ?_
    refine z_getc Γ kf_RX10_26 dX10_symbols_42 ht.1 ht.2.1 rfl ?_
    refine z_iload_n dX10_symbols_45 rfl (j := 3) rfl ?_
    refine z_iald Γ dX10_symbols_46 (by have := ht.1; omega) ht.2.2.2.2.2.2.1 (by decide) hi36 (v9 := M27 (t + 5) v3) rfl ?_
    refine z_if_le (tgt := 65) (x' := w32 (M27 (t + 5) v3)) rfl dX10_symbols_47 (by decide) (fun c47 => ?_) (fun c47 => ?_)
    · replace h := h.1 c47
      exact rt_lfew [0, 1, 2, 3] rfl (zs_X10_symbols_65 Γ hd hok ht  h)
    · replace h := h.2 c47
      refine z_aload_n dX10_symbols_50 rfl (j := 0) rfl ?_
      refine z_getc Γ kf_RX10_26 dX10_symbols_51 ht.1 ht.2.1 rfl ?_
      refine z_iload_n dX10_symbols_54 rfl (j := 3) rfl ?_
      refine z_iald Γ dX10_symbols_55 (by have := ht.1; omega) ht.2.2.2.2.2.2.1 (by decide) hi36 (v9 := M27 (t + 5) v3) rfl ?_
      refine z_bipush dX10_symbols_56 (by decide) ?_
      refine z_icmp_ge (tgt := 65) (x' := w32 (M27 (t + 5) v3)) (y' := 33) rfl (by decide) dX10_symbols_58 (by decide) (fun c58 => ?_) (fun c58 => ?_)
      · replace h := h.1 c58
        exact rt_lfew [0, 1, 2, 3] rfl (zs_X10_symbols_65 Γ hd hok ht  h)
      · replace h := h.2 c58
        refine z_iconst dX10_symbols_61 ?_
        refine rt_goto (tgt := 66) dX10_symbols_62 (by decide) ?_
        exact rt_lfew [0, 1, 2, 3] rfl (zs_X10_symbols_66 Γ hd hok ht  h)

def zt_X10_symbols_245 (l : Launch) (s0 : State) (G : va_G) (ca : Nat → ClassId) (d : Nat) (C : Nat × Nat) (S : zS) (w0 : rt_Wd) (t : Int) (v1 : Int) (v5 : Int) (k0 : Int) (M : zM) (Q : Int → zM → Prop) (X : zM → Prop) : Prop :=
  (0 ≤ v5 ∧ v5 < 4200) ∧ (zm_X10_need l s0 G ca (d - 1) C S t k0 12 (M (t + 3) v5) M (fun r254 M254 => zm_X10_symbol l s0 G ca (d - 1) C S t v1 t v5 M254 (fun r267 M267 => (0 ≤ v1 ∧ v1 < 140) ∧ (Q 0 ((zu M267 (t + 14) v1 r267)))) X) X)
set_option maxRecDepth 100000 in
theorem zs_X10_symbols_245 {l : Launch} {s0 : State} {a0 : Array Value} {G : va_G} {ca : Nat → ClassId} (Γ : rt_Γ l s0 a0 G ca) {d : Nat} {C : Nat × Nat} {S : zS} (hd : 1 ≤ d) (hok : zok C) {t : Int} (ht : zTx S t) {w0 : rt_Wd} {v1 : Int} {v5 : Int} {k0 : Int}  {M : zM} {Q : Int → zM → Prop} {X : zM → Prop} (h : zt_X10_symbols_245 l s0 G ca d C S w0 t v1 v5 k0 M Q X) : zg_X10_symbols_245 l s0 G ca d C S w0 t v1 v5 k0 M Q X := by
  unfold zt_X10_symbols_245 at h
  refine z_bipush dX10_symbols_245 (by decide) ?_
  refine z_aload_n dX10_symbols_247 rfl (j := 0) rfl ?_
  refine z_getc Γ kf_RX10_19 dX10_symbols_248 ht.1 ht.2.1 rfl ?_
  refine z_iload dX10_symbols_251 (j := 2) rfl ?_
  obtain ⟨hi253, h⟩ := h
  refine z_iald Γ dX10_symbols_253 (by have := ht.1; omega) ht.2.2.2.2.1 (by decide) hi253 (v9 := M (t + 3) v5) rfl ?_
  refine z_callV Γ kk_X10_need kc_RX10_105 (As := [zv s0 0 k0, zv s0 0 12, zv s0 0 (M (t + 3) v5)]) h (by omega) (by decide) (show (parseMethodDescriptor yX10_need.desc).map (fun q => q.parameters.length) = some 3 by decide +kernel) hok (Nat.zero_le _) dX10_symbols_254 ht.1 ht.2.1 rfl rfl (fun _ h9 => nomatch h9) ?_
  clear h
  intro r254 M254 h
  show rt_Go _ _ _ _ _ _ _ _ _ _ _ _ 257 [(0, zv s0 2 t), (1, zv s0 0 v1), (5, zv s0 0 v5)] [] (zw s0 ca C S M254)
  refine z_aload_n dX10_symbols_257 rfl (j := 0) rfl ?_
  refine z_getc Γ kf_RX10_53 dX10_symbols_258 ht.1 ht.2.1 rfl ?_
  refine z_iload_n dX10_symbols_261 rfl (j := 1) rfl ?_
  refine z_aload_n dX10_symbols_262 rfl (j := 0) rfl ?_
  refine z_iload_n dX10_symbols_263 rfl (j := 1) rfl ?_
  refine z_aload_n dX10_symbols_264 rfl (j := 0) rfl ?_
  refine z_iload dX10_symbols_265 (j := 2) rfl ?_
  refine z_callV Γ kk_X10_symbol kc_RX10_266 (As := [zv s0 0 v1, zv s0 2 t, zv s0 0 v5]) h (by omega) (by decide) (show (parseMethodDescriptor yX10_symbol.desc).map (fun q => q.parameters.length) = some 3 by decide +kernel) hok (by simp only [List.map, zv_cat0, zv_cat1, zv_cat2, List.sum_cons, List.sum_nil]; decide) dX10_symbols_267 ht.1 ht.2.1 rfl rfl (fun _ h9 => nomatch h9) ?_
  clear h
  intro r267 M267 h
  show rt_Go _ _ _ _ _ _ _ _ _ _ _ _ 270 [(0, zv s0 2 t), (1, zv s0 0 v1), (5, zv s0 0 v5)] [zv s0 0 r267, zv s0 0 v1, zv s0 2 (t + 14)] (zw s0 ca C S M267)
  obtain ⟨hi270, h⟩ := h
  refine z_iast Γ dX10_symbols_270 (by have := ht.1; omega) ht.2.2.2.2.2.2.2.2.2.2.2.2.2.2.2.1 (by decide) hi270 ?_
  exact z_vret dX10_symbols_271 rfl h

def zt_X10_symbols_244 (l : Launch) (s0 : State) (G : va_G) (ca : Nat → ClassId) (d : Nat) (C : Nat × Nat) (S : zS) (w0 : rt_Wd) (t : Int) (v1 : Int) (v5 : Int)  (M : zM) (Q : Int → zM → Prop) (X : zM → Prop) : Prop :=
  zt_X10_symbols_245 l s0 G ca d C S w0 t v1 v5 0 M Q X
set_option maxRecDepth 100000 in
theorem zs_X10_symbols_244 {l : Launch} {s0 : State} {a0 : Array Value} {G : va_G} {ca : Nat → ClassId} (Γ : rt_Γ l s0 a0 G ca) {d : Nat} {C : Nat × Nat} {S : zS} (hd : 1 ≤ d) (hok : zok C) {t : Int} (ht : zTx S t) {w0 : rt_Wd} {v1 : Int} {v5 : Int}   {M : zM} {Q : Int → zM → Prop} {X : zM → Prop} (h : zt_X10_symbols_244 l s0 G ca d C S w0 t v1 v5 M Q X) : zg_X10_symbols_244 l s0 G ca d C S w0 t v1 v5 M Q X := by
  unfold zt_X10_symbols_244 at h
  refine z_iconst dX10_symbols_244 ?_
  exact rt_lfew [0, 1, 2] rfl (zs_X10_symbols_245 Γ hd hok ht  h)

def zt_X10_symbols_88 (l : Launch) (s0 : State) (G : va_G) (ca : Nat → ClassId) (d : Nat) (C : Nat × Nat) (S : zS) (w0 : rt_Wd) (t : Int) (v1 : Int) (v2 : Int) (v4 : Int) (v5 : Int)  (M : zM) (Q : Int → zM → Prop) (X : zM → Prop) : Prop :=
  zIf (w32 v5 < 0) (∀ q204 : Nat, zstr s0 q204 [100, 101, 102, 97, 117, 108, 116] → (zm_X10_member l s0 G ca (d - 1) C S t v2 q204 M (fun r207 M207 => zIf (w32 r207 < 0) (Q 0 M207) ((0 ≤ r207 ∧ r207 < 4200) ∧ (zIf (w32 (M207 (t + 2) r207) = 2) (zm_X10_symbol l s0 G ca (d - 1) C S t v1 t r207 M207 (fun r234 M234 => zIf (w32 r234 < 0) (zt_X10_symbols_244 l s0 G ca d C S w0 t v1 r207 M234 Q X) (zt_X10_symbols_245 l s0 G ca d C S w0 t v1 r207 1 M234 Q X)) X) (zt_X10_symbols_244 l s0 G ca d C S w0 t v1 r207 M207 Q X)))) X)) (zm_X10_isName l s0 G ca (d - 1) C S t v5 M (fun r97 M97 => (0 ≤ v5 ∧ v5 < 4200) ∧ (zm_X10_need l s0 G ca (d - 1) C S t r97 11 (M97 (t + 3) v5) M97 (fun r109 M109 => (0 ≤ v1 ∧ v1 < 140) ∧ (zg_X10_symbols_120 l s0 G ca d C S w0 t v1 v2 v4 v5 (M109 (t + 12) v1) M109 Q X)) X)) X)
set_option maxRecDepth 100000 in
theorem zs_X10_symbols_88 {l : Launch} {s0 : State} {a0 : Array Value} {G : va_G} {ca : Nat → ClassId} (Γ : rt_Γ l s0 a0 G ca) {d : Nat} {C : Nat × Nat} {S : zS} (hd : 1 ≤ d) (hok : zok C) {t : Int} (ht : zTx S t) {w0 : rt_Wd} {v1 : Int} {v2 : Int} {v4 : Int} {v5 : Int}   {M : zM} {Q : Int → zM → Prop} {X : zM → Prop} (h : zt_X10_symbols_88 l s0 G ca d C S w0 t v1 v2 v4 v5 M Q X) : zg_X10_symbols_88 l s0 G ca d C S w0 t v1 v2 v4 v5 M Q X := by
  unfold zt_X10_symbols_88 at h
  refine z_iload dX10_symbols_88 (j := 4) rfl ?_
  refine z_if_lt (tgt := 202) (x' := w32 v5) rfl dX10_symbols_90 (by decide) (fun c90 => ?_) (fun c90 => ?_)
  · replace h := h.1 c90
    refine z_aload_n dX10_symbols_202 rfl (j := 0) rfl ?_
    refine z_iload_n dX10_symbols_203 rfl (j := 2) rfl ?_
    obtain ⟨q204, hq204a, hq204b⟩ := ks_RX10_264 Γ
    have hq204 : zstr s0 q204 [100, 101, 102, 97, 117, 108, 116] := ⟨hq204b, by decide, by decide⟩
    replace h := h q204 hq204
    refine rt_ldcSW Γ hq204a dX10_symbols_204 ?_
    refine z_callV Γ kk_X10_member kc_RX10_210 (As := [zv s0 0 v2, .ref q204]) h (by omega) (by decide) (show (parseMethodDescriptor yX10_member.desc).map (fun q => q.parameters.length) = some 2 by decide +kernel) hok (Nat.zero_le _) dX10_symbols_207 ht.1 ht.2.1 rfl rfl (fun _ h9 => nomatch h9) ?_
    clear h
    intro r207 M207 h
    show rt_Go _ _ _ _ _ _ _ _ _ _ _ _ 210 [(0, zv s0 2 t), (1, zv s0 0 v1), (2, zv s0 0 v2), (4, zv s0 0 v4), (5, zv s0 0 v5)] [zv s0 0 r207] (zw s0 ca C S M207)
    refine z_istore (i := 5) (lv' := [(5, zv s0 0 r207), (0, zv s0 2 t), (1, zv s0 0 v1), (2, zv s0 0 v2), (4, zv s0 0 v4)]) dX10_symbols_210 (by decide) (by simp [zv_cat0, zv_cat1, zv_cat2, zv_cats]) ?_
    refine z_iload dX10_symbols_212 (j := 0) rfl ?_
    refine z_if_lt (tgt := 271) (x' := w32 r207) rfl dX10_symbols_214 (by decide) (fun c214 => ?_) (fun c214 => ?_)
    · replace h := h.1 c214
      exact z_vret dX10_symbols_271 rfl h
    · replace h := h.2 c214
      refine z_aload_n dX10_symbols_217 rfl (j := 1) rfl ?_
      refine z_aload_n dX10_symbols_218 rfl (j := 1) rfl ?_
      refine z_getc Γ kf_RX10_15 dX10_symbols_219 ht.1 ht.2.1 rfl ?_
      refine z_iload dX10_symbols_222 (j := 0) rfl ?_
      obtain ⟨hi224, h⟩ := h
      refine z_iald Γ dX10_symbols_224 (by have := ht.1; omega) ht.2.2.2.1 (by decide) hi224 (v9 := M207 (t + 2) r207) rfl ?_
      refine z_iconst dX10_symbols_225 ?_
      refine z_icmp_ne (tgt := 244) (x' := w32 (M207 (t + 2) r207)) (y' := 2) rfl (by decide) dX10_symbols_226 (by decide) (fun c226 => ?_) (fun c226 => ?_)
      · replace h := h.2 c226
        exact rt_lfew [1, 2, 0] rfl (zs_X10_symbols_244 Γ hd hok ht  h)
      · replace h := h.1 c226
        refine z_aload_n dX10_symbols_229 rfl (j := 1) rfl ?_
        refine z_iload_n dX10_symbols_230 rfl (j := 2) rfl ?_
        refine z_aload_n dX10_symbols_231 rfl (j := 1) rfl ?_
        refine z_iload dX10_symbols_232 (j := 0) rfl ?_
        refine z_callV Γ kk_X10_symbol kc_RX10_266 (As := [zv s0 0 v1, zv s0 2 t, zv s0 0 r207]) h (by omega) (by decide) (show (parseMethodDescriptor yX10_symbol.desc).map (fun q => q.parameters.length) = some 3 by decide +kernel) hok (by simp only [List.map, zv_cat0, zv_cat1, zv_cat2, List.sum_cons, List.sum_nil]; decide) dX10_symbols_234 ht.1 ht.2.1 rfl rfl (fun _ h9 => nomatch h9) ?_
        clear h
        intro r234 M234 h
        show rt_Go _ _ _ _ _ _ _ _ _ _ _ _ 237 [(5, zv s0 0 r207), (0, zv s0 2 t), (1, zv s0 0 v1), (2, zv s0 0 v2), (4, zv s0 0 v4)] [zv s0 0 r234, zv s0 2 t] (zw s0 ca C S M234)
        refine z_if_lt (tgt := 244) (x' := w32 r234) rfl dX10_symbols_237 (by decide) (fun c237 => ?_) (fun c237 => ?_)
        · replace h := h.1 c237
          exact rt_lfew [1, 2, 0] rfl (zs_X10_symbols_244 Γ hd hok ht  h)
        · replace h := h.2 c237
          refine z_iconst dX10_symbols_240 ?_
          refine rt_goto (tgt := 245) dX10_symbols_241 (by decide) ?_
          exact rt_lfew [1, 2, 0] rfl (zs_X10_symbols_245 Γ hd hok ht  h)
  · replace h := h.2 c90
    refine z_aload_n dX10_symbols_93 rfl (j := 0) rfl ?_
    refine z_aload_n dX10_symbols_94 rfl (j := 0) rfl ?_
    refine z_iload dX10_symbols_95 (j := 4) rfl ?_
    refine z_callV Γ kk_X10_isName kc_RX10_248 (As := [zv s0 0 v5]) h (by omega) (by decide) (show (parseMethodDescriptor yX10_isName.desc).map (fun q => q.parameters.length) = some 1 by decide +kernel) hok (by simp only [List.map, zv_cat0, zv_cat1, zv_cat2, List.sum_cons, List.sum_nil]; decide) dX10_symbols_97 ht.1 ht.2.1 rfl rfl (fun _ h9 => nomatch h9) ?_
    clear h
    intro r97 M97 h
    show rt_Go _ _ _ _ _ _ _ _ _ _ _ _ 100 [(0, zv s0 2 t), (1, zv s0 0 v1), (2, zv s0 0 v2), (4, zv s0 0 v4), (5, zv s0 0 v5)] [zv s0 0 r97, zv s0 2 t] (zw s0 ca C S M97)
    refine z_bipush dX10_symbols_100 (by decide) ?_
    refine z_aload_n dX10_symbols_102 rfl (j := 0) rfl ?_
    refine z_getc Γ kf_RX10_19 dX10_symbols_103 ht.1 ht.2.1 rfl ?_
    refine z_iload dX10_symbols_106 (j := 4) rfl ?_
    obtain ⟨hi108, h⟩ := h
    refine z_iald Γ dX10_symbols_108 (by have := ht.1; omega) ht.2.2.2.2.1 (by decide) hi108 (v9 := M97 (t + 3) v5) rfl ?_
    refine z_callV Γ kk_X10_need kc_RX10_105 (As := [zv s0 0 r97, zv s0 0 11, zv s0 0 (M97 (t + 3) v5)]) h (by omega) (by decide) (show (parseMethodDescriptor yX10_need.desc).map (fun q => q.parameters.length) = some 3 by decide +kernel) hok (Nat.zero_le _) dX10_symbols_109 ht.1 ht.2.1 rfl rfl (fun _ h9 => nomatch h9) ?_
    clear h
    intro r109 M109 h
    show rt_Go _ _ _ _ _ _ _ _ _ _ _ _ 112 [(0, zv s0 2 t), (1, zv s0 0 v1), (2, zv s0 0 v2), (4, zv s0 0 v4), (5, zv s0 0 v5)] [] (zw s0 ca C S M109)
    refine z_aload_n dX10_symbols_112 rfl (j := 0) rfl ?_
    refine z_getc Γ kf_RX10_47 dX10_symbols_113 ht.1 ht.2.1 rfl ?_
    refine z_iload_n dX10_symbols_116 rfl (j := 1) rfl ?_
    obtain ⟨hi117, h⟩ := h
    refine z_iald Γ dX10_symbols_117 (by have := ht.1; omega) ht.2.2.2.2.2.2.2.2.2.2.2.2.2.1 (by decide) hi117 (v9 := M109 (t + 12) v1) rfl ?_
    refine z_istore (i := 6) (lv' := [(6, zv s0 0 (M109 (t + 12) v1)), (0, zv s0 2 t), (1, zv s0 0 v1), (2, zv s0 0 v2), (4, zv s0 0 v4), (5, zv s0 0 v5)]) dX10_symbols_118 (by decide) (by simp [zv_cat0, zv_cat1, zv_cat2, zv_cats]) ?_
    exact rt_lfew [1, 2, 3, 4, 5, 0] rfl h

def zt_X10_symbols_148 (l : Launch) (s0 : State) (G : va_G) (ca : Nat → ClassId) (d : Nat) (C : Nat × Nat) (S : zS) (w0 : rt_Wd) (t : Int) (v1 : Int) (v2 : Int) (v4 : Int) (v5 : Int) (v6 : Int) (k0 : Int) (M : zM) (Q : Int → zM → Prop) (X : zM → Prop) : Prop :=
  (0 ≤ v5 ∧ v5 < 4200) ∧ (zm_X10_need l s0 G ca (d - 1) C S t k0 11 (M (t + 3) v5) M (fun r157 M157 => (0 ≤ v6 ∧ v6 < 2200) ∧ (zg_X10_symbols_120 l s0 G ca d C S w0 t v1 v2 v4 v5 (M157 (t + 18) v6) M157 Q X)) X)
set_option maxRecDepth 100000 in
theorem zs_X10_symbols_148 {l : Launch} {s0 : State} {a0 : Array Value} {G : va_G} {ca : Nat → ClassId} (Γ : rt_Γ l s0 a0 G ca) {d : Nat} {C : Nat × Nat} {S : zS} (hd : 1 ≤ d) (hok : zok C) {t : Int} (ht : zTx S t) {w0 : rt_Wd} {v1 : Int} {v2 : Int} {v4 : Int} {v5 : Int} {v6 : Int} {k0 : Int}  {M : zM} {Q : Int → zM → Prop} {X : zM → Prop} (h : zt_X10_symbols_148 l s0 G ca d C S w0 t v1 v2 v4 v5 v6 k0 M Q X) : zg_X10_symbols_148 l s0 G ca d C S w0 t v1 v2 v4 v5 v6 k0 M Q X := by
  unfold zt_X10_symbols_148 at h
  refine z_bipush dX10_symbols_148 (by decide) ?_
  refine z_aload_n dX10_symbols_150 rfl (j := 0) rfl ?_
  refine z_getc Γ kf_RX10_19 dX10_symbols_151 ht.1 ht.2.1 rfl ?_
  refine z_iload dX10_symbols_154 (j := 4) rfl ?_
  obtain ⟨hi156, h⟩ := h
  refine z_iald Γ dX10_symbols_156 (by have := ht.1; omega) ht.2.2.2.2.1 (by decide) hi156 (v9 := M (t + 3) v5) rfl ?_
  refine z_callV Γ kk_X10_need kc_RX10_105 (As := [zv s0 0 k0, zv s0 0 11, zv s0 0 (M (t + 3) v5)]) h (by omega) (by decide) (show (parseMethodDescriptor yX10_need.desc).map (fun q => q.parameters.length) = some 3 by decide +kernel) hok (Nat.zero_le _) dX10_symbols_157 ht.1 ht.2.1 rfl rfl (fun _ h9 => nomatch h9) ?_
  clear h
  intro r157 M157 h
  show rt_Go _ _ _ _ _ _ _ _ _ _ _ _ 160 [(0, zv s0 2 t), (1, zv s0 0 v1), (2, zv s0 0 v2), (4, zv s0 0 v4), (5, zv s0 0 v5), (6, zv s0 0 v6)] [] (zw s0 ca C S M157)
  refine z_aload_n dX10_symbols_160 rfl (j := 0) rfl ?_
  refine z_getc Γ kf_RX10_65 dX10_symbols_161 ht.1 ht.2.1 rfl ?_
  refine z_iload dX10_symbols_164 (j := 5) rfl ?_
  obtain ⟨hi166, h⟩ := h
  refine z_iald Γ dX10_symbols_166 (by have := ht.1; omega) ht.2.2.2.2.2.2.2.2.2.2.2.2.2.2.2.2.2.2.2.1 (by decide) hi166 (v9 := M157 (t + 18) v6) rfl ?_
  refine z_istore (i := 6) (lv' := [(6, zv s0 0 (M157 (t + 18) v6)), (0, zv s0 2 t), (1, zv s0 0 v1), (2, zv s0 0 v2), (4, zv s0 0 v4), (5, zv s0 0 v5)]) dX10_symbols_167 (by decide) (by simp [zv_cat0, zv_cat1, zv_cat2, zv_cats]) ?_
  refine rt_goto (tgt := 120) dX10_symbols_169 (by decide) ?_
  exact rt_lfew [1, 2, 3, 4, 5, 0] rfl h

def zt_X10_symbols_120 (l : Launch) (s0 : State) (G : va_G) (ca : Nat → ClassId) (d : Nat) (C : Nat × Nat) (S : zS) (w0 : rt_Wd) (t : Int) (v1 : Int) (v2 : Int) (v4 : Int) (v5 : Int) (v6 : Int)  (M : zM) (Q : Int → zM → Prop) (X : zM → Prop) : Prop :=
  zIf (w32 v6 < 0) (zm_X10_addKid l s0 G ca (d - 1) C S t v1 v4 M (fun r176 M176 => (0 ≤ r176 ∧ r176 < 2200) ∧ ((0 ≤ v5 ∧ v5 < 4200) ∧ (zg_X10_symbols_88 l s0 G ca d C S w0 t v1 v2 r176 (M176 (t + 7) v5) ((zu M176 (t + 16) r176 v5)) Q X))) X) ((0 ≤ v6 ∧ v6 < 2200) ∧ (zm_X10_same l s0 G ca (d - 1) C S t (M (t + 16) v6) t v5 M (fun r137 M137 => zIf (w32 r137 = 0) (zt_X10_symbols_148 l s0 G ca d C S w0 t v1 v2 v4 v5 v6 1 M137 Q X) (zt_X10_symbols_148 l s0 G ca d C S w0 t v1 v2 v4 v5 v6 0 M137 Q X)) X))
set_option maxRecDepth 100000 in
theorem zs_X10_symbols_120 {l : Launch} {s0 : State} {a0 : Array Value} {G : va_G} {ca : Nat → ClassId} (Γ : rt_Γ l s0 a0 G ca) {d : Nat} {C : Nat × Nat} {S : zS} (hd : 1 ≤ d) (hok : zok C) {t : Int} (ht : zTx S t) {w0 : rt_Wd} {v1 : Int} {v2 : Int} {v4 : Int} {v5 : Int} {v6 : Int}   {M : zM} {Q : Int → zM → Prop} {X : zM → Prop} (h : zt_X10_symbols_120 l s0 G ca d C S w0 t v1 v2 v4 v5 v6 M Q X) : zg_X10_symbols_120 l s0 G ca d C S w0 t v1 v2 v4 v5 v6 M Q X := by
  unfold zt_X10_symbols_120 at h
  refine z_iload dX10_symbols_120 (j := 5) rfl ?_
  refine z_if_lt (tgt := 172) (x' := w32 v6) rfl dX10_symbols_122 (by decide) (fun c122 => ?_) (fun c122 => ?_)
  · replace h := h.1 c122
    refine z_aload_n dX10_symbols_172 rfl (j := 0) rfl ?_
    refine z_iload_n dX10_symbols_173 rfl (j := 1) rfl ?_
    refine z_iload dX10_symbols_174 (j := 3) rfl ?_
    refine z_callV Γ kk_X10_addKid kc_RX10_225 (As := [zv s0 0 v1, zv s0 0 v4]) h (by omega) (by decide) (show (parseMethodDescriptor yX10_addKid.desc).map (fun q => q.parameters.length) = some 2 by decide +kernel) hok (Nat.zero_le _) dX10_symbols_176 ht.1 ht.2.1 rfl rfl (fun _ h9 => nomatch h9) ?_
    clear h
    intro r176 M176 h
    show rt_Go _ _ _ _ _ _ _ _ _ _ _ _ 179 [(0, zv s0 2 t), (1, zv s0 0 v1), (2, zv s0 0 v2), (4, zv s0 0 v4), (5, zv s0 0 v5), (6, zv s0 0 v6)] [zv s0 0 r176] (zw s0 ca C S M176)
    refine z_istore (i := 4) (lv' := [(4, zv s0 0 r176), (0, zv s0 2 t), (1, zv s0 0 v1), (2, zv s0 0 v2), (5, zv s0 0 v5), (6, zv s0 0 v6)]) dX10_symbols_179 (by decide) (by simp [zv_cat0, zv_cat1, zv_cat2, zv_cats]) ?_
    refine z_aload_n dX10_symbols_181 rfl (j := 1) rfl ?_
    refine z_getc Γ kf_RX10_59 dX10_symbols_182 ht.1 ht.2.1 rfl ?_
    refine z_iload dX10_symbols_185 (j := 0) rfl ?_
    refine z_iload dX10_symbols_187 (j := 4) rfl ?_
    obtain ⟨hi189, h⟩ := h
    refine z_iast Γ dX10_symbols_189 (by have := ht.1; omega) ht.2.2.2.2.2.2.2.2.2.2.2.2.2.2.2.2.2.1 (by decide) hi189 ?_
    refine z_aload_n dX10_symbols_190 rfl (j := 1) rfl ?_
    refine z_getc Γ kf_RX10_32 dX10_symbols_191 ht.1 ht.2.1 rfl ?_
    refine z_iload dX10_symbols_194 (j := 4) rfl ?_
    obtain ⟨hi196, h⟩ := h
    refine z_iald Γ dX10_symbols_196 (by have := ht.1; omega) ht.2.2.2.2.2.2.2.2.1 (by decide) hi196 (v9 := M176 (t + 7) v5) ((zu_a (by omega)).trans rfl) ?_
    refine z_istore (i := 5) (lv' := [(5, zv s0 0 (M176 (t + 7) v5)), (4, zv s0 0 r176), (0, zv s0 2 t), (1, zv s0 0 v1), (2, zv s0 0 v2), (6, zv s0 0 v6)]) dX10_symbols_197 (by decide) (by simp [zv_cat0, zv_cat1, zv_cat2, zv_cats]) ?_
    refine rt_goto (tgt := 88) dX10_symbols_199 (by decide) ?_
    exact rt_lfew [2, 3, 4, 1, 0] rfl h
  · replace h := h.2 c122
    refine z_aload_n dX10_symbols_125 rfl (j := 0) rfl ?_
    refine z_aload_n dX10_symbols_126 rfl (j := 0) rfl ?_
    refine z_aload_n dX10_symbols_127 rfl (j := 0) rfl ?_
    refine z_getc Γ kf_RX10_59 dX10_symbols_128 ht.1 ht.2.1 rfl ?_
    refine z_iload dX10_symbols_131 (j := 5) rfl ?_
    obtain ⟨hi133, h⟩ := h
    refine z_iald Γ dX10_symbols_133 (by have := ht.1; omega) ht.2.2.2.2.2.2.2.2.2.2.2.2.2.2.2.2.2.1 (by decide) hi133 (v9 := M (t + 16) v6) rfl ?_
    refine z_aload_n dX10_symbols_134 rfl (j := 0) rfl ?_
    refine z_iload dX10_symbols_135 (j := 4) rfl ?_
    refine z_callV Γ kk_X10_same kc_RX10_155 (As := [zv s0 0 (M (t + 16) v6), zv s0 2 t, zv s0 0 v5]) h (by omega) (by decide) (show (parseMethodDescriptor yX10_same.desc).map (fun q => q.parameters.length) = some 3 by decide +kernel) hok (by simp only [List.map, zv_cat0, zv_cat1, zv_cat2, List.sum_cons, List.sum_nil]; decide) dX10_symbols_137 ht.1 ht.2.1 rfl rfl (fun _ h9 => nomatch h9) ?_
    clear h
    intro r137 M137 h
    show rt_Go _ _ _ _ _ _ _ _ _ _ _ _ 140 [(0, zv s0 2 t), (1, zv s0 0 v1), (2, zv s0 0 v2), (4, zv s0 0 v4), (5, zv s0 0 v5), (6, zv s0 0 v6)] [zv s0 0 r137, zv s0 2 t] (zw s0 ca C S M137)
    refine z_if_ne (tgt := 147) (x' := w32 r137) rfl dX10_symbols_140 (by decide) (fun c140 => ?_) (fun c140 => ?_)
    · replace h := h.2 c140
      refine z_iconst dX10_symbols_147 ?_
      exact rt_lfew [0, 1, 2, 3, 4, 5] rfl (zs_X10_symbols_148 Γ hd hok ht  h)
    · replace h := h.1 c140
      refine z_iconst dX10_symbols_143 ?_
      refine rt_goto (tgt := 148) dX10_symbols_144 (by decide) ?_
      exact rt_lfew [0, 1, 2, 3, 4, 5] rfl (zs_X10_symbols_148 Γ hd hok ht  h)

def zt_X10_symbols (l : Launch) (s0 : State) (G : va_G) (ca : Nat → ClassId) (d : Nat) (C : Nat × Nat) (S : zS) (w0 : rt_Wd) (t : Int) (s : Int) (v : Int) (M : zM) (Q : Int → zM → Prop) (X : zM → Prop) : Prop :=
  ∀ q2 : Nat, zstr s0 q2 [115, 121, 109, 98, 111, 108, 115] → (zm_X10_member l s0 G ca (d - 1) C S t v q2 M (fun r5 M5 => zIf (w32 r5 < 0) (zt_X10_symbols_19 l s0 G ca d C S w0 t s v r5 0 M5 Q X) (zt_X10_symbols_19 l s0 G ca d C S w0 t s v r5 1 M5 Q X)) X)
set_option maxRecDepth 100000 in
theorem z_X10_symbols {l : Launch} {s0 : State} {a0 : Array Value} {G : va_G} {ca : Nat → ClassId} (Γ : rt_Γ l s0 a0 G ca) {d : Nat} {C : Nat × Nat} {S : zS} (hd : 1 ≤ d) (hok : zok C) {t : Int} (ht : zTx S t) {s : Int} {v : Int} {M : zM} {Q : Int → zM → Prop} {X : zM → Prop} (h : zt_X10_symbols l s0 G ca d C S (zw s0 ca C S M) t s v M Q X) : zm_X10_symbols l s0 G ca d C S t s v M Q X := by
  refine z_met (lv := [(0, zv s0 2 t), (1, zv s0 0 s), (2, zv s0 0 v)]) Γ kk_X10_symbols rfl (show (lg_sl [zv s0 2 t, zv s0 0 s, zv s0 0 v]).length ≤ 7 from by simp only [zn_0, zn_2, show (lg_sl []).length = 0 from rfl]; omega) (show lv_args 0 [zv s0 2 t, zv s0 0 s, zv s0 0 v] = [(0, zv s0 2 t), (1, zv s0 0 s), (2, zv s0 0 v)] from by rw [zl_2, zl_0, zl_0]; rfl) ?_
  unfold zt_X10_symbols at h
  refine z_aload_n dX10_symbols_0 rfl (j := 0) rfl ?_
  refine z_iload_n dX10_symbols_1 rfl (j := 2) rfl ?_
  obtain ⟨q2, hq2a, hq2b⟩ := ks_RX10_263 Γ
  have hq2 : zstr s0 q2 [115, 121, 109, 98, 111, 108, 115] := ⟨hq2b, by decide, by decide⟩
  replace h := h q2 hq2
  refine rt_ldcSW Γ hq2a dX10_symbols_2 ?_
  refine z_callV Γ kk_X10_member kc_RX10_210 (As := [zv s0 0 v, .ref q2]) h (by omega) (by decide) (show (parseMethodDescriptor yX10_member.desc).map (fun q => q.parameters.length) = some 2 by decide +kernel) hok (Nat.zero_le _) dX10_symbols_5 ht.1 ht.2.1 rfl rfl (fun _ h9 => nomatch h9) ?_
  clear h
  intro r5 M5 h
  show rt_Go _ _ _ _ _ _ _ _ _ _ _ _ 8 [(0, zv s0 2 t), (1, zv s0 0 s), (2, zv s0 0 v)] [zv s0 0 r5] (zw s0 ca C S M5)
  refine z_istore_n (i := 3) (lv' := [(3, zv s0 0 r5), (0, zv s0 2 t), (1, zv s0 0 s), (2, zv s0 0 v)]) dX10_symbols_8 rfl (by decide) (by simp [zv_cat0, zv_cat1, zv_cat2, zv_cats]) ?_
  refine z_aload_n dX10_symbols_9 rfl (j := 1) rfl ?_
  refine z_iload_n dX10_symbols_10 rfl (j := 0) rfl ?_
  refine z_if_lt (tgt := 18) (x' := w32 r5) rfl dX10_symbols_11 (by decide) (fun c11 => ?_) (fun c11 => ?_)
  · replace h := h.1 c11
    refine z_iconst dX10_symbols_18 ?_
    exact rt_lfew [1, 2, 3, 0] rfl (zs_X10_symbols_19 Γ hd hok ht  h)
  · replace h := h.2 c11
    refine z_iconst dX10_symbols_14 ?_
    refine rt_goto (tgt := 19) dX10_symbols_15 (by decide) ?_
    exact rt_lfew [1, 2, 3, 0] rfl (zs_X10_symbols_19 Γ hd hok ht  h)

abbrev zg_X10_fields_21 (l : Launch) (s0 : State) (G : va_G) (ca : Nat → ClassId) (d : Nat) (C : Nat × Nat) (S : zS) (w0 : rt_Wd) (t : Int) (v1 : Int) (v2 : Int) (v3 : Int) (v4 : Int) (k0 : Int) (M : zM) (Q : Int → zM → Prop) (X : zM → Prop) : Prop := rt_Go l s0 G RX10 "fields" cX10_fields 10 (Option.none : Option FieldType) [] d w0 (zQ s0 ca 9 C S Q X) 21 [(0, zv s0 2 t), (1, zv s0 0 v1), (2, zv s0 0 v2), (3, zv s0 0 v3), (4, zv s0 0 v4)] [zv s0 0 k0, zv s0 2 t] (zw s0 ca C S M)
abbrev zg_X10_fields_60 (l : Launch) (s0 : State) (G : va_G) (ca : Nat → ClassId) (d : Nat) (C : Nat × Nat) (S : zS) (w0 : rt_Wd) (t : Int) (v1 : Int) (v3 : Int) (v4 : Int)  (M : zM) (Q : Int → zM → Prop) (X : zM → Prop) : Prop := rt_Go l s0 G RX10 "fields" cX10_fields 10 (Option.none : Option FieldType) [] d w0 (zQ s0 ca 9 C S Q X) 60 [(0, zv s0 2 t), (1, zv s0 0 v1), (3, zv s0 0 v3), (4, zv s0 0 v4)] [zv s0 2 t] (zw s0 ca C S M)
abbrev zg_X10_fields_61 (l : Launch) (s0 : State) (G : va_G) (ca : Nat → ClassId) (d : Nat) (C : Nat × Nat) (S : zS) (w0 : rt_Wd) (t : Int) (v1 : Int) (v3 : Int) (v4 : Int) (k0 : Int) (M : zM) (Q : Int → zM → Prop) (X : zM → Prop) : Prop := rt_Go l s0 G RX10 "fields" cX10_fields 10 (Option.none : Option FieldType) [] d w0 (zQ s0 ca 9 C S Q X) 61 [(0, zv s0 2 t), (1, zv s0 0 v1), (3, zv s0 0 v3), (4, zv s0 0 v4)] [zv s0 0 k0, zv s0 2 t] (zw s0 ca C S M)
abbrev zg_X10_fields_85 (l : Launch) (s0 : State) (G : va_G) (ca : Nat → ClassId) (d : Nat) (C : Nat × Nat) (S : zS) (w0 : rt_Wd) (t : Int) (v1 : Int) (v3 : Int) (v5 : Int) (v6 : Int)  (M : zM) (Q : Int → zM → Prop) (X : zM → Prop) : Prop := rt_Go l s0 G RX10 "fields" cX10_fields 10 (Option.none : Option FieldType) [] d w0 (zQ s0 ca 9 C S Q X) 85 [(0, zv s0 2 t), (1, zv s0 0 v1), (3, zv s0 0 v3), (5, zv s0 0 v5), (6, zv s0 0 v6)] [] (zw s0 ca C S M)
abbrev zg_X10_fields_106 (l : Launch) (s0 : State) (G : va_G) (ca : Nat → ClassId) (d : Nat) (C : Nat × Nat) (S : zS) (w0 : rt_Wd) (t : Int) (v1 : Int) (v3 : Int) (v5 : Int) (v6 : Int) (k0 : Int) (M : zM) (Q : Int → zM → Prop) (X : zM → Prop) : Prop := rt_Go l s0 G RX10 "fields" cX10_fields 10 (Option.none : Option FieldType) [] d w0 (zQ s0 ca 9 C S Q X) 106 [(0, zv s0 2 t), (1, zv s0 0 v1), (3, zv s0 0 v3), (5, zv s0 0 v5), (6, zv s0 0 v6)] [zv s0 0 k0, zv s0 2 t] (zw s0 ca C S M)
abbrev zg_X10_fields_149 (l : Launch) (s0 : State) (G : va_G) (ca : Nat → ClassId) (d : Nat) (C : Nat × Nat) (S : zS) (w0 : rt_Wd) (t : Int) (v1 : Int) (v3 : Int) (v5 : Int) (v6 : Int) (v7 : Int)  (M : zM) (Q : Int → zM → Prop) (X : zM → Prop) : Prop := rt_Go l s0 G RX10 "fields" cX10_fields 10 (Option.none : Option FieldType) [] d w0 (zQ s0 ca 9 C S Q X) 149 [(0, zv s0 2 t), (1, zv s0 0 v1), (3, zv s0 0 v3), (5, zv s0 0 v5), (6, zv s0 0 v6), (7, zv s0 0 v7)] [zv s0 2 t] (zw s0 ca C S M)
abbrev zg_X10_fields_150 (l : Launch) (s0 : State) (G : va_G) (ca : Nat → ClassId) (d : Nat) (C : Nat × Nat) (S : zS) (w0 : rt_Wd) (t : Int) (v1 : Int) (v3 : Int) (v5 : Int) (v6 : Int) (v7 : Int) (k0 : Int) (M : zM) (Q : Int → zM → Prop) (X : zM → Prop) : Prop := rt_Go l s0 G RX10 "fields" cX10_fields 10 (Option.none : Option FieldType) [] d w0 (zQ s0 ca 9 C S Q X) 150 [(0, zv s0 2 t), (1, zv s0 0 v1), (3, zv s0 0 v3), (5, zv s0 0 v5), (6, zv s0 0 v6), (7, zv s0 0 v7)] [zv s0 0 k0, zv s0 2 t] (zw s0 ca C S M)
abbrev zg_X10_fields_178 (l : Launch) (s0 : State) (G : va_G) (ca : Nat → ClassId) (d : Nat) (C : Nat × Nat) (S : zS) (w0 : rt_Wd) (t : Int) (v1 : Int) (v3 : Int) (v5 : Int) (v6 : Int) (v7 : Int) (v8 : Int) (v9 : Int)  (M : zM) (Q : Int → zM → Prop) (X : zM → Prop) : Prop := rt_Go l s0 G RX10 "fields" cX10_fields 10 (Option.none : Option FieldType) [] d w0 (zQ s0 ca 9 C S Q X) 178 [(0, zv s0 2 t), (1, zv s0 0 v1), (3, zv s0 0 v3), (5, zv s0 0 v5), (6, zv s0 0 v6), (7, zv s0 0 v7), (8, zv s0 0 v8), (9, zv s0 0 v9)] [] (zw s0 ca C S M)
abbrev zg_X10_fields_209 (l : Launch) (s0 : State) (G : va_G) (ca : Nat → ClassId) (d : Nat) (C : Nat × Nat) (S : zS) (w0 : rt_Wd) (t : Int) (v1 : Int) (v3 : Int) (v5 : Int) (v6 : Int) (v7 : Int) (v9 : Int)  (M : zM) (Q : Int → zM → Prop) (X : zM → Prop) : Prop := rt_Go l s0 G RX10 "fields" cX10_fields 10 (Option.none : Option FieldType) [] d w0 (zQ s0 ca 9 C S Q X) 209 [(0, zv s0 2 t), (1, zv s0 0 v1), (3, zv s0 0 v3), (5, zv s0 0 v5), (6, zv s0 0 v6), (7, zv s0 0 v7), (9, zv s0 0 v9)] [] (zw s0 ca C S M)
abbrev zg_X10_fields_210 (l : Launch) (s0 : State) (G : va_G) (ca : Nat → ClassId) (d : Nat) (C : Nat × Nat) (S : zS) (w0 : rt_Wd) (t : Int) (v1 : Int) (v3 : Int) (v5 : Int) (v6 : Int) (v7 : Int) (v9 : Int) (k0 : Int) (M : zM) (Q : Int → zM → Prop) (X : zM → Prop) : Prop := rt_Go l s0 G RX10 "fields" cX10_fields 10 (Option.none : Option FieldType) [] d w0 (zQ s0 ca 9 C S Q X) 210 [(0, zv s0 2 t), (1, zv s0 0 v1), (3, zv s0 0 v3), (5, zv s0 0 v5), (6, zv s0 0 v6), (7, zv s0 0 v7), (9, zv s0 0 v9)] [zv s0 0 k0] (zw s0 ca C S M)
abbrev zg_X10_fields_260 (l : Launch) (s0 : State) (G : va_G) (ca : Nat → ClassId) (d : Nat) (C : Nat × Nat) (S : zS) (w0 : rt_Wd) (t : Int) (v1 : Int) (v3 : Int) (v5 : Int) (v6 : Int) (v7 : Int) (v9 : Int) (k0 : Int) (M : zM) (Q : Int → zM → Prop) (X : zM → Prop) : Prop := rt_Go l s0 G RX10 "fields" cX10_fields 10 (Option.none : Option FieldType) [] d w0 (zQ s0 ca 9 C S Q X) 260 [(0, zv s0 2 t), (1, zv s0 0 v1), (3, zv s0 0 v3), (5, zv s0 0 v5), (6, zv s0 0 v6), (7, zv s0 0 v7), (9, zv s0 0 v9)] [zv s0 0 k0, zv s0 2 t] (zw s0 ca C S M)
def zt_X10_fields_61 (l : Launch) (s0 : State) (G : va_G) (ca : Nat → ClassId) (d : Nat) (C : Nat × Nat) (S : zS) (w0 : rt_Wd) (t : Int) (v1 : Int) (v3 : Int) (v4 : Int) (k0 : Int) (M : zM) (Q : Int → zM → Prop) (X : zM → Prop) : Prop :=
  (0 ≤ v4 ∧ v4 < 4200) ∧ (zm_X10_need l s0 G ca (d - 1) C S t k0 11 (M (t + 3) v4) M (fun r70 M70 => zg_X10_fields_85 l s0 G ca d C S w0 t v1 v3 ((-1)) (M70 (t + 6) v4) M70 Q X) X)
set_option maxRecDepth 100000 in
theorem zs_X10_fields_61 {l : Launch} {s0 : State} {a0 : Array Value} {G : va_G} {ca : Nat → ClassId} (Γ : rt_Γ l s0 a0 G ca) {d : Nat} {C : Nat × Nat} {S : zS} (hd : 1 ≤ d) (hok : zok C) {t : Int} (ht : zTx S t) {w0 : rt_Wd} {v1 : Int} {v3 : Int} {v4 : Int} {k0 : Int}  {M : zM} {Q : Int → zM → Prop} {X : zM → Prop} (h : zt_X10_fields_61 l s0 G ca d C S w0 t v1 v3 v4 k0 M Q X) : zg_X10_fields_61 l s0 G ca d C S w0 t v1 v3 v4 k0 M Q X := by
  unfold zt_X10_fields_61 at h
  refine z_bipush dX10_fields_61 (by decide) ?_
  refine z_aload_n dX10_fields_63 rfl (j := 0) rfl ?_
  refine z_getc Γ kf_RX10_19 dX10_fields_64 ht.1 ht.2.1 rfl ?_
  refine z_iload dX10_fields_67 (j := 3) rfl ?_
  obtain ⟨hi69, h⟩ := h
  refine z_iald Γ dX10_fields_69 (by have := ht.1; omega) ht.2.2.2.2.1 (by decide) hi69 (v9 := M (t + 3) v4) rfl ?_
  refine z_callV Γ kk_X10_need kc_RX10_105 (As := [zv s0 0 k0, zv s0 0 11, zv s0 0 (M (t + 3) v4)]) h (by omega) (by decide) (show (parseMethodDescriptor yX10_need.desc).map (fun q => q.parameters.length) = some 3 by decide +kernel) hok (Nat.zero_le _) dX10_fields_70 ht.1 ht.2.1 rfl rfl (fun _ h9 => nomatch h9) ?_
  clear h
  intro r70 M70 h
  show rt_Go _ _ _ _ _ _ _ _ _ _ _ _ 73 [(0, zv s0 2 t), (1, zv s0 0 v1), (3, zv s0 0 v3), (4, zv s0 0 v4)] [] (zw s0 ca C S M70)
  refine z_iconst dX10_fields_73 ?_
  refine z_istore (i := 5) (lv' := [(5, zv s0 0 ((-1))), (0, zv s0 2 t), (1, zv s0 0 v1), (3, zv s0 0 v3), (4, zv s0 0 v4)]) dX10_fields_74 (by decide) (by simp [zv_cat0, zv_cat1, zv_cat2, zv_cats]) ?_
  refine z_aload_n dX10_fields_76 rfl (j := 1) rfl ?_
  refine z_getc Γ kf_RX10_29 dX10_fields_77 ht.1 ht.2.1 rfl ?_
  refine z_iload dX10_fields_80 (j := 4) rfl ?_
  refine z_iald Γ dX10_fields_82 (by have := ht.1; omega) ht.2.2.2.2.2.2.2.1 (by decide) hi69 (v9 := M70 (t + 6) v4) rfl ?_
  refine z_istore (i := 6) (lv' := [(6, zv s0 0 (M70 (t + 6) v4)), (5, zv s0 0 ((-1))), (0, zv s0 2 t), (1, zv s0 0 v1), (3, zv s0 0 v3), (4, zv s0 0 v4)]) dX10_fields_83 (by decide) (by simp [zv_cat0, zv_cat1, zv_cat2, zv_cats]) ?_
  exact rt_lfew [2, 3, 4, 1, 0] rfl h

def zt_X10_fields_60 (l : Launch) (s0 : State) (G : va_G) (ca : Nat → ClassId) (d : Nat) (C : Nat × Nat) (S : zS) (w0 : rt_Wd) (t : Int) (v1 : Int) (v3 : Int) (v4 : Int)  (M : zM) (Q : Int → zM → Prop) (X : zM → Prop) : Prop :=
  zt_X10_fields_61 l s0 G ca d C S w0 t v1 v3 v4 0 M Q X
set_option maxRecDepth 100000 in
theorem zs_X10_fields_60 {l : Launch} {s0 : State} {a0 : Array Value} {G : va_G} {ca : Nat → ClassId} (Γ : rt_Γ l s0 a0 G ca) {d : Nat} {C : Nat × Nat} {S : zS} (hd : 1 ≤ d) (hok : zok C) {t : Int} (ht : zTx S t) {w0 : rt_Wd} {v1 : Int} {v3 : Int} {v4 : Int}   {M : zM} {Q : Int → zM → Prop} {X : zM → Prop} (h : zt_X10_fields_60 l s0 G ca d C S w0 t v1 v3 v4 M Q X) : zg_X10_fields_60 l s0 G ca d C S w0 t v1 v3 v4 M Q X := by
  unfold zt_X10_fields_60 at h
  refine z_iconst dX10_fields_60 ?_
  exact rt_lfew [0, 1, 2, 3] rfl (zs_X10_fields_61 Γ hd hok ht  h)

def zt_X10_fields_21 (l : Launch) (s0 : State) (G : va_G) (ca : Nat → ClassId) (d : Nat) (C : Nat × Nat) (S : zS) (w0 : rt_Wd) (t : Int) (v1 : Int) (v2 : Int) (v3 : Int) (v4 : Int) (k0 : Int) (M : zM) (Q : Int → zM → Prop) (X : zM → Prop) : Prop :=
  (0 ≤ v2 ∧ v2 < 4200) ∧ (zm_X10_need l s0 G ca (d - 1) C S t k0 8 (M (t + 3) v2) M (fun r29 M29 => (0 ≤ v4 ∧ v4 < 4200) ∧ (zIf (w32 (M29 (t + 2) v4) = 1) (zIf (33 ≤ w32 (M29 (t + 5) v4)) (zt_X10_fields_60 l s0 G ca d C S w0 t v1 v3 v4 M29 Q X) (zt_X10_fields_61 l s0 G ca d C S w0 t v1 v3 v4 1 M29 Q X)) (zt_X10_fields_60 l s0 G ca d C S w0 t v1 v3 v4 M29 Q X))) X)
set_option maxRecDepth 100000 in
theorem zs_X10_fields_21 {l : Launch} {s0 : State} {a0 : Array Value} {G : va_G} {ca : Nat → ClassId} (Γ : rt_Γ l s0 a0 G ca) {d : Nat} {C : Nat × Nat} {S : zS} (hd : 1 ≤ d) (hok : zok C) {t : Int} (ht : zTx S t) {w0 : rt_Wd} {v1 : Int} {v2 : Int} {v3 : Int} {v4 : Int} {k0 : Int}  {M : zM} {Q : Int → zM → Prop} {X : zM → Prop} (h : zt_X10_fields_21 l s0 G ca d C S w0 t v1 v2 v3 v4 k0 M Q X) : zg_X10_fields_21 l s0 G ca d C S w0 t v1 v2 v3 v4 k0 M Q X := by
  unfold zt_X10_fields_21 at h
  refine z_bipush dX10_fields_21 (by decide) ?_
  refine z_aload_n dX10_fields_23 rfl (j := 0) rfl ?_
  refine z_getc Γ kf_RX10_19 dX10_fields_24 ht.1 ht.2.1 rfl ?_
  refine z_iload_n dX10_fields_27 rfl (j := 2) rfl ?_
  obtain ⟨hi28, h⟩ := h
  refine z_iald Γ dX10_fields_28 (by have := ht.1; omega) ht.2.2.2.2.1 (by decide) hi28 (v9 := M (t + 3) v2) rfl ?_
  refine z_callV Γ kk_X10_need kc_RX10_105 (As := [zv s0 0 k0, zv s0 0 8, zv s0 0 (M (t + 3) v2)]) h (by omega) (by decide) (show (parseMethodDescriptor yX10_need.desc).map (fun q => q.parameters.length) = some 3 by decide +kernel) hok (Nat.zero_le _) dX10_fields_29 ht.1 ht.2.1 rfl rfl (fun _ h9 => nomatch h9) ?_
  clear h
  intro r29 M29 h
  show rt_Go _ _ _ _ _ _ _ _ _ _ _ _ 32 [(0, zv s0 2 t), (1, zv s0 0 v1), (2, zv s0 0 v2), (3, zv s0 0 v3), (4, zv s0 0 v4)] [] (zw s0 ca C S M29)
  refine z_aload_n dX10_fields_32 rfl (j := 0) rfl ?_
  refine z_aload_n dX10_fields_33 rfl (j := 0) rfl ?_
  refine z_getc Γ kf_RX10_15 dX10_fields_34 ht.1 ht.2.1 rfl ?_
  refine z_iload dX10_fields_37 (j := 4) rfl ?_
  obtain ⟨hi39, h⟩ := h
  refine z_iald Γ dX10_fields_39 (by have := ht.1; omega) ht.2.2.2.1 (by decide) hi39 (v9 := M29 (t + 2) v4) rfl ?_
  refine z_iconst dX10_fields_40 ?_
  refine z_icmp_ne (tgt := 60) (x' := w32 (M29 (t + 2) v4)) (y' := 1) rfl (by decide) dX10_fields_41 (by decide) (fun c41 => ?_) (fun c41 => ?_)
  · replace h := h.2 c41
    exact rt_lfew [0, 1, 3, 4] rfl (zs_X10_fields_60 Γ hd hok ht  h)
  · replace h := h.1 c41
    refine z_aload_n dX10_fields_44 rfl (j := 0) rfl ?_
    refine z_getc Γ kf_RX10_26 dX10_fields_45 ht.1 ht.2.1 rfl ?_
    refine z_iload dX10_fields_48 (j := 4) rfl ?_
    refine z_iald Γ dX10_fields_50 (by have := ht.1; omega) ht.2.2.2.2.2.2.1 (by decide) hi39 (v9 := M29 (t + 5) v4) rfl ?_
    refine z_bipush dX10_fields_51 (by decide) ?_
    refine z_icmp_ge (tgt := 60) (x' := w32 (M29 (t + 5) v4)) (y' := 33) rfl (by decide) dX10_fields_53 (by decide) (fun c53 => ?_) (fun c53 => ?_)
    · replace h := h.1 c53
      exact rt_lfew [0, 1, 3, 4] rfl (zs_X10_fields_60 Γ hd hok ht  h)
    · replace h := h.2 c53
      refine z_iconst dX10_fields_56 ?_
      refine rt_goto (tgt := 61) dX10_fields_57 (by decide) ?_
      exact rt_lfew [0, 1, 3, 4] rfl (zs_X10_fields_61 Γ hd hok ht  h)

def zt_X10_fields_150 (l : Launch) (s0 : State) (G : va_G) (ca : Nat → ClassId) (d : Nat) (C : Nat × Nat) (S : zS) (w0 : rt_Wd) (t : Int) (v1 : Int) (v3 : Int) (v5 : Int) (v6 : Int) (v7 : Int) (k0 : Int) (M : zM) (Q : Int → zM → Prop) (X : zM → Prop) : Prop :=
  (0 ≤ v6 ∧ v6 < 4200) ∧ (zm_X10_need l s0 G ca (d - 1) C S t k0 8 (M (t + 3) v6) M (fun r159 M159 => zm_X10_isName l s0 G ca (d - 1) C S t v7 M159 (fun r165 M165 => (0 ≤ v1 ∧ v1 < 140) ∧ (zg_X10_fields_178 l s0 G ca d C S w0 t v1 v3 v5 v6 v7 r165 (M165 (t + 12) v1) M165 Q X)) X) X)
set_option maxRecDepth 100000 in
theorem zs_X10_fields_150 {l : Launch} {s0 : State} {a0 : Array Value} {G : va_G} {ca : Nat → ClassId} (Γ : rt_Γ l s0 a0 G ca) {d : Nat} {C : Nat × Nat} {S : zS} (hd : 1 ≤ d) (hok : zok C) {t : Int} (ht : zTx S t) {w0 : rt_Wd} {v1 : Int} {v3 : Int} {v5 : Int} {v6 : Int} {v7 : Int} {k0 : Int}  {M : zM} {Q : Int → zM → Prop} {X : zM → Prop} (h : zt_X10_fields_150 l s0 G ca d C S w0 t v1 v3 v5 v6 v7 k0 M Q X) : zg_X10_fields_150 l s0 G ca d C S w0 t v1 v3 v5 v6 v7 k0 M Q X := by
  unfold zt_X10_fields_150 at h
  refine z_bipush dX10_fields_150 (by decide) ?_
  refine z_aload_n dX10_fields_152 rfl (j := 0) rfl ?_
  refine z_getc Γ kf_RX10_19 dX10_fields_153 ht.1 ht.2.1 rfl ?_
  refine z_iload dX10_fields_156 (j := 4) rfl ?_
  obtain ⟨hi158, h⟩ := h
  refine z_iald Γ dX10_fields_158 (by have := ht.1; omega) ht.2.2.2.2.1 (by decide) hi158 (v9 := M (t + 3) v6) rfl ?_
  refine z_callV Γ kk_X10_need kc_RX10_105 (As := [zv s0 0 k0, zv s0 0 8, zv s0 0 (M (t + 3) v6)]) h (by omega) (by decide) (show (parseMethodDescriptor yX10_need.desc).map (fun q => q.parameters.length) = some 3 by decide +kernel) hok (Nat.zero_le _) dX10_fields_159 ht.1 ht.2.1 rfl rfl (fun _ h9 => nomatch h9) ?_
  clear h
  intro r159 M159 h
  show rt_Go _ _ _ _ _ _ _ _ _ _ _ _ 162 [(0, zv s0 2 t), (1, zv s0 0 v1), (3, zv s0 0 v3), (5, zv s0 0 v5), (6, zv s0 0 v6), (7, zv s0 0 v7)] [] (zw s0 ca C S M159)
  refine z_aload_n dX10_fields_162 rfl (j := 0) rfl ?_
  refine z_iload dX10_fields_163 (j := 5) rfl ?_
  refine z_callV Γ kk_X10_isName kc_RX10_248 (As := [zv s0 0 v7]) h (by omega) (by decide) (show (parseMethodDescriptor yX10_isName.desc).map (fun q => q.parameters.length) = some 1 by decide +kernel) hok (Nat.zero_le _) dX10_fields_165 ht.1 ht.2.1 rfl rfl (fun _ h9 => nomatch h9) ?_
  clear h
  intro r165 M165 h
  show rt_Go _ _ _ _ _ _ _ _ _ _ _ _ 168 [(0, zv s0 2 t), (1, zv s0 0 v1), (3, zv s0 0 v3), (5, zv s0 0 v5), (6, zv s0 0 v6), (7, zv s0 0 v7)] [zv s0 0 r165] (zw s0 ca C S M165)
  refine z_istore (i := 8) (lv' := [(8, zv s0 0 r165), (0, zv s0 2 t), (1, zv s0 0 v1), (3, zv s0 0 v3), (5, zv s0 0 v5), (6, zv s0 0 v6), (7, zv s0 0 v7)]) dX10_fields_168 (by decide) (by simp [zv_cat0, zv_cat1, zv_cat2, zv_cats]) ?_
  refine z_aload_n dX10_fields_170 rfl (j := 1) rfl ?_
  refine z_getc Γ kf_RX10_47 dX10_fields_171 ht.1 ht.2.1 rfl ?_
  refine z_iload_n dX10_fields_174 rfl (j := 2) rfl ?_
  obtain ⟨hi175, h⟩ := h
  refine z_iald Γ dX10_fields_175 (by have := ht.1; omega) ht.2.2.2.2.2.2.2.2.2.2.2.2.2.1 (by decide) hi175 (v9 := M165 (t + 12) v1) rfl ?_
  refine z_istore (i := 9) (lv' := [(9, zv s0 0 (M165 (t + 12) v1)), (8, zv s0 0 r165), (0, zv s0 2 t), (1, zv s0 0 v1), (3, zv s0 0 v3), (5, zv s0 0 v5), (6, zv s0 0 v6), (7, zv s0 0 v7)]) dX10_fields_176 (by decide) (by simp [zv_cat0, zv_cat1, zv_cat2, zv_cats]) ?_
  exact rt_lfew [2, 3, 4, 5, 6, 7, 1, 0] rfl h

def zt_X10_fields_149 (l : Launch) (s0 : State) (G : va_G) (ca : Nat → ClassId) (d : Nat) (C : Nat × Nat) (S : zS) (w0 : rt_Wd) (t : Int) (v1 : Int) (v3 : Int) (v5 : Int) (v6 : Int) (v7 : Int)  (M : zM) (Q : Int → zM → Prop) (X : zM → Prop) : Prop :=
  zt_X10_fields_150 l s0 G ca d C S w0 t v1 v3 v5 v6 v7 0 M Q X
set_option maxRecDepth 100000 in
theorem zs_X10_fields_149 {l : Launch} {s0 : State} {a0 : Array Value} {G : va_G} {ca : Nat → ClassId} (Γ : rt_Γ l s0 a0 G ca) {d : Nat} {C : Nat × Nat} {S : zS} (hd : 1 ≤ d) (hok : zok C) {t : Int} (ht : zTx S t) {w0 : rt_Wd} {v1 : Int} {v3 : Int} {v5 : Int} {v6 : Int} {v7 : Int}   {M : zM} {Q : Int → zM → Prop} {X : zM → Prop} (h : zt_X10_fields_149 l s0 G ca d C S w0 t v1 v3 v5 v6 v7 M Q X) : zg_X10_fields_149 l s0 G ca d C S w0 t v1 v3 v5 v6 v7 M Q X := by
  unfold zt_X10_fields_149 at h
  refine z_iconst dX10_fields_149 ?_
  exact rt_lfew [0, 1, 2, 3, 4, 5] rfl (zs_X10_fields_150 Γ hd hok ht  h)

def zt_X10_fields_106 (l : Launch) (s0 : State) (G : va_G) (ca : Nat → ClassId) (d : Nat) (C : Nat × Nat) (S : zS) (w0 : rt_Wd) (t : Int) (v1 : Int) (v3 : Int) (v5 : Int) (v6 : Int) (k0 : Int) (M : zM) (Q : Int → zM → Prop) (X : zM → Prop) : Prop :=
  (0 ≤ v6 ∧ v6 < 4200) ∧ (zm_X10_need l s0 G ca (d - 1) C S t k0 11 (M (t + 3) v6) M (fun r115 M115 => ∀ q121 : Nat, zstr s0 q121 [110, 97, 109, 101] → (zm_X10_member l s0 G ca (d - 1) C S t v6 q121 M115 (fun r123 M123 => zIf (w32 r123 < 0) (zt_X10_fields_149 l s0 G ca d C S w0 t v1 v3 v5 v6 r123 M123 Q X) ((0 ≤ r123 ∧ r123 < 4200) ∧ (zIf (w32 (M123 (t + 2) r123) = 2) (zt_X10_fields_150 l s0 G ca d C S w0 t v1 v3 v5 v6 r123 1 M123 Q X) (zt_X10_fields_149 l s0 G ca d C S w0 t v1 v3 v5 v6 r123 M123 Q X)))) X)) X)
set_option maxRecDepth 100000 in
theorem zs_X10_fields_106 {l : Launch} {s0 : State} {a0 : Array Value} {G : va_G} {ca : Nat → ClassId} (Γ : rt_Γ l s0 a0 G ca) {d : Nat} {C : Nat × Nat} {S : zS} (hd : 1 ≤ d) (hok : zok C) {t : Int} (ht : zTx S t) {w0 : rt_Wd} {v1 : Int} {v3 : Int} {v5 : Int} {v6 : Int} {k0 : Int}  {M : zM} {Q : Int → zM → Prop} {X : zM → Prop} (h : zt_X10_fields_106 l s0 G ca d C S w0 t v1 v3 v5 v6 k0 M Q X) : zg_X10_fields_106 l s0 G ca d C S w0 t v1 v3 v5 v6 k0 M Q X := by
  unfold zt_X10_fields_106 at h
  refine z_bipush dX10_fields_106 (by decide) ?_
  refine z_aload_n dX10_fields_108 rfl (j := 0) rfl ?_
  refine z_getc Γ kf_RX10_19 dX10_fields_109 ht.1 ht.2.1 rfl ?_
  refine z_iload dX10_fields_112 (j := 4) rfl ?_
  obtain ⟨hi114, h⟩ := h
  refine z_iald Γ dX10_fields_114 (by have := ht.1; omega) ht.2.2.2.2.1 (by decide) hi114 (v9 := M (t + 3) v6) rfl ?_
  refine z_callV Γ kk_X10_need kc_RX10_105 (As := [zv s0 0 k0, zv s0 0 11, zv s0 0 (M (t + 3) v6)]) h (by omega) (by decide) (show (parseMethodDescriptor yX10_need.desc).map (fun q => q.parameters.length) = some 3 by decide +kernel) hok (Nat.zero_le _) dX10_fields_115 ht.1 ht.2.1 rfl rfl (fun _ h9 => nomatch h9) ?_
  clear h
  intro r115 M115 h
  show rt_Go _ _ _ _ _ _ _ _ _ _ _ _ 118 [(0, zv s0 2 t), (1, zv s0 0 v1), (3, zv s0 0 v3), (5, zv s0 0 v5), (6, zv s0 0 v6)] [] (zw s0 ca C S M115)
  refine z_aload_n dX10_fields_118 rfl (j := 0) rfl ?_
  refine z_iload dX10_fields_119 (j := 4) rfl ?_
  obtain ⟨q121, hq121a, hq121b⟩ := ks_RX10_246 Γ
  have hq121 : zstr s0 q121 [110, 97, 109, 101] := ⟨hq121b, by decide, by decide⟩
  replace h := h q121 hq121
  refine rt_ldcS Γ hq121a dX10_fields_121 ?_
  refine z_callV Γ kk_X10_member kc_RX10_210 (As := [zv s0 0 v6, .ref q121]) h (by omega) (by decide) (show (parseMethodDescriptor yX10_member.desc).map (fun q => q.parameters.length) = some 2 by decide +kernel) hok (Nat.zero_le _) dX10_fields_123 ht.1 ht.2.1 rfl rfl (fun _ h9 => nomatch h9) ?_
  clear h
  intro r123 M123 h
  show rt_Go _ _ _ _ _ _ _ _ _ _ _ _ 126 [(0, zv s0 2 t), (1, zv s0 0 v1), (3, zv s0 0 v3), (5, zv s0 0 v5), (6, zv s0 0 v6)] [zv s0 0 r123] (zw s0 ca C S M123)
  refine z_istore (i := 7) (lv' := [(7, zv s0 0 r123), (0, zv s0 2 t), (1, zv s0 0 v1), (3, zv s0 0 v3), (5, zv s0 0 v5), (6, zv s0 0 v6)]) dX10_fields_126 (by decide) (by simp [zv_cat0, zv_cat1, zv_cat2, zv_cats]) ?_
  refine z_aload_n dX10_fields_128 rfl (j := 1) rfl ?_
  refine z_iload dX10_fields_129 (j := 0) rfl ?_
  refine z_if_lt (tgt := 149) (x' := w32 r123) rfl dX10_fields_131 (by decide) (fun c131 => ?_) (fun c131 => ?_)
  · replace h := h.1 c131
    exact rt_lfew [1, 2, 3, 4, 5, 0] rfl (zs_X10_fields_149 Γ hd hok ht  h)
  · replace h := h.2 c131
    refine z_aload_n dX10_fields_134 rfl (j := 1) rfl ?_
    refine z_getc Γ kf_RX10_15 dX10_fields_135 ht.1 ht.2.1 rfl ?_
    refine z_iload dX10_fields_138 (j := 0) rfl ?_
    obtain ⟨hi140, h⟩ := h
    refine z_iald Γ dX10_fields_140 (by have := ht.1; omega) ht.2.2.2.1 (by decide) hi140 (v9 := M123 (t + 2) r123) rfl ?_
    refine z_iconst dX10_fields_141 ?_
    refine z_icmp_ne (tgt := 149) (x' := w32 (M123 (t + 2) r123)) (y' := 2) rfl (by decide) dX10_fields_142 (by decide) (fun c142 => ?_) (fun c142 => ?_)
    · replace h := h.2 c142
      exact rt_lfew [1, 2, 3, 4, 5, 0] rfl (zs_X10_fields_149 Γ hd hok ht  h)
    · replace h := h.1 c142
      refine z_iconst dX10_fields_145 ?_
      refine rt_goto (tgt := 150) dX10_fields_146 (by decide) ?_
      exact rt_lfew [1, 2, 3, 4, 5, 0] rfl (zs_X10_fields_150 Γ hd hok ht  h)

def zt_X10_fields_85 (l : Launch) (s0 : State) (G : va_G) (ca : Nat → ClassId) (d : Nat) (C : Nat × Nat) (S : zS) (w0 : rt_Wd) (t : Int) (v1 : Int) (v3 : Int) (v5 : Int) (v6 : Int)  (M : zM) (Q : Int → zM → Prop) (X : zM → Prop) : Prop :=
  zIf (w32 v6 < 0) (Q 0 M) ((0 ≤ v6 ∧ v6 < 4200) ∧ (zIf (w32 (M (t + 2) v6) = 0) (zt_X10_fields_106 l s0 G ca d C S w0 t v1 v3 v5 v6 1 M Q X) (zt_X10_fields_106 l s0 G ca d C S w0 t v1 v3 v5 v6 0 M Q X)))
set_option maxRecDepth 100000 in
theorem zs_X10_fields_85 {l : Launch} {s0 : State} {a0 : Array Value} {G : va_G} {ca : Nat → ClassId} (Γ : rt_Γ l s0 a0 G ca) {d : Nat} {C : Nat × Nat} {S : zS} (hd : 1 ≤ d) (hok : zok C) {t : Int} (ht : zTx S t) {w0 : rt_Wd} {v1 : Int} {v3 : Int} {v5 : Int} {v6 : Int}   {M : zM} {Q : Int → zM → Prop} {X : zM → Prop} (h : zt_X10_fields_85 l s0 G ca d C S w0 t v1 v3 v5 v6 M Q X) : zg_X10_fields_85 l s0 G ca d C S w0 t v1 v3 v5 v6 M Q X := by
  unfold zt_X10_fields_85 at h
  refine z_iload dX10_fields_85 (j := 4) rfl ?_
  refine z_if_lt (tgt := 356) (x' := w32 v6) rfl dX10_fields_87 (by decide) (fun c87 => ?_) (fun c87 => ?_)
  · replace h := h.1 c87
    exact z_vret dX10_fields_356 rfl h
  · replace h := h.2 c87
    refine z_aload_n dX10_fields_90 rfl (j := 0) rfl ?_
    refine z_aload_n dX10_fields_91 rfl (j := 0) rfl ?_
    refine z_getc Γ kf_RX10_15 dX10_fields_92 ht.1 ht.2.1 rfl ?_
    refine z_iload dX10_fields_95 (j := 4) rfl ?_
    obtain ⟨hi97, h⟩ := h
    refine z_iald Γ dX10_fields_97 (by have := ht.1; omega) ht.2.2.2.1 (by decide) hi97 (v9 := M (t + 2) v6) rfl ?_
    refine z_if_ne (tgt := 105) (x' := w32 (M (t + 2) v6)) rfl dX10_fields_98 (by decide) (fun c98 => ?_) (fun c98 => ?_)
    · replace h := h.2 c98
      refine z_iconst dX10_fields_105 ?_
      exact rt_lfew [0, 1, 2, 3, 4] rfl (zs_X10_fields_106 Γ hd hok ht  h)
    · replace h := h.1 c98
      refine z_iconst dX10_fields_101 ?_
      refine rt_goto (tgt := 106) dX10_fields_102 (by decide) ?_
      exact rt_lfew [0, 1, 2, 3, 4] rfl (zs_X10_fields_106 Γ hd hok ht  h)

def zt_X10_fields_260 (l : Launch) (s0 : State) (G : va_G) (ca : Nat → ClassId) (d : Nat) (C : Nat × Nat) (S : zS) (w0 : rt_Wd) (t : Int) (v1 : Int) (v3 : Int) (v5 : Int) (v6 : Int) (v7 : Int) (v9 : Int) (k0 : Int) (M : zM) (Q : Int → zM → Prop) (X : zM → Prop) : Prop :=
  (0 ≤ v6 ∧ v6 < 4200) ∧ (zm_X10_need l s0 G ca (d - 1) C S t k0 8 (M (t + 3) v6) M (fun r269 M269 => zm_X10_addKid l s0 G ca (d - 1) C S t v1 v5 M269 (fun r276 M276 => (0 ≤ r276 ∧ r276 < 2200) ∧ (∀ q299 : Nat, zstr s0 q299 [100, 101, 102, 97, 117, 108, 116] → (zm_X10_member l s0 G ca (d - 1) C S t v6 q299 ((zu M276 (t + 16) r276 v7)) (fun r302 M302 => zm_X10_schemaOf l s0 G ca (d - 1) C S t v9 (v3 + 1) 0 ((zu M302 (t + 17) r276 r302)) (fun r319 M319 => (0 ≤ M319 t 29 ∧ M319 t 29 < 2200) ∧ (zg_X10_fields_85 l s0 G ca d C S w0 t v1 v3 r276 (M319 (t + 7) v6) ((zu ((zu ((zu M319 (t + 15) r276 r319)) (t + 19) (M319 t 29) r276)) t 29 ((M319 t 29) + 1))) Q X)) X) X))) X) X)
set_option maxRecDepth 100000 in
theorem zs_X10_fields_260 {l : Launch} {s0 : State} {a0 : Array Value} {G : va_G} {ca : Nat → ClassId} (Γ : rt_Γ l s0 a0 G ca) {d : Nat} {C : Nat × Nat} {S : zS} (hd : 1 ≤ d) (hok : zok C) {t : Int} (ht : zTx S t) {w0 : rt_Wd} {v1 : Int} {v3 : Int} {v5 : Int} {v6 : Int} {v7 : Int} {v9 : Int} {k0 : Int}  {M : zM} {Q : Int → zM → Prop} {X : zM → Prop} (h : zt_X10_fields_260 l s0 G ca d C S w0 t v1 v3 v5 v6 v7 v9 k0 M Q X) : zg_X10_fields_260 l s0 G ca d C S w0 t v1 v3 v5 v6 v7 v9 k0 M Q X := by
  unfold zt_X10_fields_260 at h
  refine z_bipush dX10_fields_260 (by decide) ?_
  refine z_aload_n dX10_fields_262 rfl (j := 0) rfl ?_
  refine z_getc Γ kf_RX10_19 dX10_fields_263 ht.1 ht.2.1 rfl ?_
  refine z_iload dX10_fields_266 (j := 4) rfl ?_
  obtain ⟨hi268, h⟩ := h
  refine z_iald Γ dX10_fields_268 (by have := ht.1; omega) ht.2.2.2.2.1 (by decide) hi268 (v9 := M (t + 3) v6) rfl ?_
  refine z_callV Γ kk_X10_need kc_RX10_105 (As := [zv s0 0 k0, zv s0 0 8, zv s0 0 (M (t + 3) v6)]) h (by omega) (by decide) (show (parseMethodDescriptor yX10_need.desc).map (fun q => q.parameters.length) = some 3 by decide +kernel) hok (Nat.zero_le _) dX10_fields_269 ht.1 ht.2.1 rfl rfl (fun _ h9 => nomatch h9) ?_
  clear h
  intro r269 M269 h
  show rt_Go _ _ _ _ _ _ _ _ _ _ _ _ 272 [(0, zv s0 2 t), (1, zv s0 0 v1), (3, zv s0 0 v3), (5, zv s0 0 v5), (6, zv s0 0 v6), (7, zv s0 0 v7), (9, zv s0 0 v9)] [] (zw s0 ca C S M269)
  refine z_aload_n dX10_fields_272 rfl (j := 0) rfl ?_
  refine z_iload_n dX10_fields_273 rfl (j := 1) rfl ?_
  refine z_iload dX10_fields_274 (j := 3) rfl ?_
  refine z_callV Γ kk_X10_addKid kc_RX10_225 (As := [zv s0 0 v1, zv s0 0 v5]) h (by omega) (by decide) (show (parseMethodDescriptor yX10_addKid.desc).map (fun q => q.parameters.length) = some 2 by decide +kernel) hok (Nat.zero_le _) dX10_fields_276 ht.1 ht.2.1 rfl rfl (fun _ h9 => nomatch h9) ?_
  clear h
  intro r276 M276 h
  show rt_Go _ _ _ _ _ _ _ _ _ _ _ _ 279 [(0, zv s0 2 t), (1, zv s0 0 v1), (3, zv s0 0 v3), (5, zv s0 0 v5), (6, zv s0 0 v6), (7, zv s0 0 v7), (9, zv s0 0 v9)] [zv s0 0 r276] (zw s0 ca C S M276)
  refine z_istore (i := 5) (lv' := [(5, zv s0 0 r276), (0, zv s0 2 t), (1, zv s0 0 v1), (3, zv s0 0 v3), (6, zv s0 0 v6), (7, zv s0 0 v7), (9, zv s0 0 v9)]) dX10_fields_279 (by decide) (by simp [zv_cat0, zv_cat1, zv_cat2, zv_cats]) ?_
  refine z_aload_n dX10_fields_281 rfl (j := 1) rfl ?_
  refine z_getc Γ kf_RX10_59 dX10_fields_282 ht.1 ht.2.1 rfl ?_
  refine z_iload dX10_fields_285 (j := 0) rfl ?_
  refine z_iload dX10_fields_287 (j := 5) rfl ?_
  obtain ⟨hi289, h⟩ := h
  refine z_iast Γ dX10_fields_289 (by have := ht.1; omega) ht.2.2.2.2.2.2.2.2.2.2.2.2.2.2.2.2.2.1 (by decide) hi289 ?_
  refine z_aload_n dX10_fields_290 rfl (j := 1) rfl ?_
  refine z_getc Γ kf_RX10_62 dX10_fields_291 ht.1 ht.2.1 rfl ?_
  refine z_iload dX10_fields_294 (j := 0) rfl ?_
  refine z_aload_n dX10_fields_296 rfl (j := 1) rfl ?_
  refine z_iload dX10_fields_297 (j := 4) rfl ?_
  obtain ⟨q299, hq299a, hq299b⟩ := ks_RX10_264 Γ
  have hq299 : zstr s0 q299 [100, 101, 102, 97, 117, 108, 116] := ⟨hq299b, by decide, by decide⟩
  replace h := h q299 hq299
  refine rt_ldcSW Γ hq299a dX10_fields_299 ?_
  refine z_callV Γ kk_X10_member kc_RX10_210 (As := [zv s0 0 v6, .ref q299]) h (by omega) (by decide) (show (parseMethodDescriptor yX10_member.desc).map (fun q => q.parameters.length) = some 2 by decide +kernel) hok (by simp only [List.map, zv_cat0, zv_cat1, zv_cat2, List.sum_cons, List.sum_nil]; decide) dX10_fields_302 ht.1 ht.2.1 rfl rfl (fun _ h9 => nomatch h9) ?_
  clear h
  intro r302 M302 h
  show rt_Go _ _ _ _ _ _ _ _ _ _ _ _ 305 [(5, zv s0 0 r276), (0, zv s0 2 t), (1, zv s0 0 v1), (3, zv s0 0 v3), (6, zv s0 0 v6), (7, zv s0 0 v7), (9, zv s0 0 v9)] [zv s0 0 r302, zv s0 0 r276, zv s0 2 (t + 17)] (zw s0 ca C S M302)
  refine z_iast Γ dX10_fields_305 (by have := ht.1; omega) ht.2.2.2.2.2.2.2.2.2.2.2.2.2.2.2.2.2.2.1 (by decide) hi289 ?_
  refine z_aload_n dX10_fields_306 rfl (j := 1) rfl ?_
  refine z_getc Γ kf_RX10_56 dX10_fields_307 ht.1 ht.2.1 rfl ?_
  refine z_iload dX10_fields_310 (j := 0) rfl ?_
  refine z_aload_n dX10_fields_312 rfl (j := 1) rfl ?_
  refine z_iload dX10_fields_313 (j := 6) rfl ?_
  refine z_iload_n dX10_fields_315 rfl (j := 3) rfl ?_
  refine z_iconst dX10_fields_316 ?_
  refine z_iadd dX10_fields_317 ?_
  refine z_iconst dX10_fields_318 ?_
  refine z_callV Γ kk_X10_schemaOf kc_RX10_229 (As := [zv s0 0 v9, zv s0 0 (v3 + 1), zv s0 0 0]) h (by omega) (by decide) (show (parseMethodDescriptor yX10_schemaOf.desc).map (fun q => q.parameters.length) = some 3 by decide +kernel) hok (by simp only [List.map, zv_cat0, zv_cat1, zv_cat2, List.sum_cons, List.sum_nil]; decide) dX10_fields_319 ht.1 ht.2.1 rfl rfl (fun _ h9 => nomatch h9) ?_
  clear h
  intro r319 M319 h
  show rt_Go _ _ _ _ _ _ _ _ _ _ _ _ 322 [(5, zv s0 0 r276), (0, zv s0 2 t), (1, zv s0 0 v1), (3, zv s0 0 v3), (6, zv s0 0 v6), (7, zv s0 0 v7), (9, zv s0 0 v9)] [zv s0 0 r319, zv s0 0 r276, zv s0 2 (t + 15)] (zw s0 ca C S M319)
  refine z_iast Γ dX10_fields_322 (by have := ht.1; omega) ht.2.2.2.2.2.2.2.2.2.2.2.2.2.2.2.2.1 (by decide) hi289 ?_
  refine z_aload_n dX10_fields_323 rfl (j := 1) rfl ?_
  refine z_getc Γ kf_RX10_68 dX10_fields_324 ht.1 ht.2.1 rfl ?_
  refine z_aload_n dX10_fields_327 rfl (j := 1) rfl ?_
  refine z_get Γ kf_RX10_271 dX10_fields_328 ht.1 ht.2.1 rfl (by decide) (v9 := M319 t 29) ((zu_a (by omega)).trans rfl) ?_
  refine z_iload dX10_fields_331 (j := 0) rfl ?_
  obtain ⟨hi333, h⟩ := h
  refine z_iast Γ dX10_fields_333 (by have := ht.1; omega) ht.2.2.2.2.2.2.2.2.2.2.2.2.2.2.2.2.2.2.2.2.1 (by decide) hi333 ?_
  refine z_aload_n dX10_fields_334 rfl (j := 1) rfl ?_
  refine z_dup2 dX10_fields_335 ?_
  refine z_get Γ kf_RX10_271 dX10_fields_336 ht.1 ht.2.1 rfl (by decide) (v9 := M319 t 29) ((zu_a (by omega)).trans ((zu_a (by omega)).trans rfl)) ?_
  refine z_iconst dX10_fields_339 ?_
  refine z_iadd dX10_fields_340 ?_
  refine z_put0 Γ kp_RX10_271 dX10_fields_341 ht.1 ht.2.1 rfl (k9 := 29) rfl ?_
  refine z_aload_n dX10_fields_344 rfl (j := 1) rfl ?_
  refine z_getc Γ kf_RX10_32 dX10_fields_345 ht.1 ht.2.1 rfl ?_
  refine z_iload dX10_fields_348 (j := 4) rfl ?_
  refine z_iald Γ dX10_fields_350 (by have := ht.1; omega) ht.2.2.2.2.2.2.2.2.1 (by decide) hi268 (v9 := M319 (t + 7) v6) ((zu_a (by omega)).trans ((zu_a (by omega)).trans ((zu_a (by omega)).trans rfl))) ?_
  refine z_istore (i := 6) (lv' := [(6, zv s0 0 (M319 (t + 7) v6)), (5, zv s0 0 r276), (0, zv s0 2 t), (1, zv s0 0 v1), (3, zv s0 0 v3), (7, zv s0 0 v7), (9, zv s0 0 v9)]) dX10_fields_351 (by decide) (by simp [zv_cat0, zv_cat1, zv_cat2, zv_cats]) ?_
  refine rt_goto (tgt := 85) dX10_fields_353 (by decide) ?_
  exact rt_lfew [2, 3, 4, 1, 0] rfl h

def zt_X10_fields_210 (l : Launch) (s0 : State) (G : va_G) (ca : Nat → ClassId) (d : Nat) (C : Nat × Nat) (S : zS) (w0 : rt_Wd) (t : Int) (v1 : Int) (v3 : Int) (v5 : Int) (v6 : Int) (v7 : Int) (v9 : Int) (k0 : Int) (M : zM) (Q : Int → zM → Prop) (X : zM → Prop) : Prop :=
  (0 ≤ v9 ∧ v9 < 2200) ∧ (zg_X10_fields_178 l s0 G ca d C S w0 t v1 v3 v5 v6 v7 k0 (M (t + 18) v9) M Q X)
set_option maxRecDepth 100000 in
theorem zs_X10_fields_210 {l : Launch} {s0 : State} {a0 : Array Value} {G : va_G} {ca : Nat → ClassId} (Γ : rt_Γ l s0 a0 G ca) {d : Nat} {C : Nat × Nat} {S : zS} (hd : 1 ≤ d) (hok : zok C) {t : Int} (ht : zTx S t) {w0 : rt_Wd} {v1 : Int} {v3 : Int} {v5 : Int} {v6 : Int} {v7 : Int} {v9 : Int} {k0 : Int}  {M : zM} {Q : Int → zM → Prop} {X : zM → Prop} (h : zt_X10_fields_210 l s0 G ca d C S w0 t v1 v3 v5 v6 v7 v9 k0 M Q X) : zg_X10_fields_210 l s0 G ca d C S w0 t v1 v3 v5 v6 v7 v9 k0 M Q X := by
  unfold zt_X10_fields_210 at h
  refine z_istore (i := 8) (lv' := [(8, zv s0 0 k0), (0, zv s0 2 t), (1, zv s0 0 v1), (3, zv s0 0 v3), (5, zv s0 0 v5), (6, zv s0 0 v6), (7, zv s0 0 v7), (9, zv s0 0 v9)]) dX10_fields_210 (by decide) (by simp [zv_cat0, zv_cat1, zv_cat2, zv_cats]) ?_
  refine z_aload_n dX10_fields_212 rfl (j := 1) rfl ?_
  refine z_getc Γ kf_RX10_65 dX10_fields_213 ht.1 ht.2.1 rfl ?_
  refine z_iload dX10_fields_216 (j := 7) rfl ?_
  obtain ⟨hi218, h⟩ := h
  refine z_iald Γ dX10_fields_218 (by have := ht.1; omega) ht.2.2.2.2.2.2.2.2.2.2.2.2.2.2.2.2.2.2.2.1 (by decide) hi218 (v9 := M (t + 18) v9) rfl ?_
  refine z_istore (i := 9) (lv' := [(9, zv s0 0 (M (t + 18) v9)), (8, zv s0 0 k0), (0, zv s0 2 t), (1, zv s0 0 v1), (3, zv s0 0 v3), (5, zv s0 0 v5), (6, zv s0 0 v6), (7, zv s0 0 v7)]) dX10_fields_219 (by decide) (by simp [zv_cat0, zv_cat1, zv_cat2, zv_cats]) ?_
  refine rt_goto (tgt := 178) dX10_fields_221 (by decide) ?_
  exact rt_lfew [2, 3, 4, 5, 6, 7, 1, 0] rfl h

def zt_X10_fields_209 (l : Launch) (s0 : State) (G : va_G) (ca : Nat → ClassId) (d : Nat) (C : Nat × Nat) (S : zS) (w0 : rt_Wd) (t : Int) (v1 : Int) (v3 : Int) (v5 : Int) (v6 : Int) (v7 : Int) (v9 : Int)  (M : zM) (Q : Int → zM → Prop) (X : zM → Prop) : Prop :=
  zt_X10_fields_210 l s0 G ca d C S w0 t v1 v3 v5 v6 v7 v9 0 M Q X
set_option maxRecDepth 100000 in
theorem zs_X10_fields_209 {l : Launch} {s0 : State} {a0 : Array Value} {G : va_G} {ca : Nat → ClassId} (Γ : rt_Γ l s0 a0 G ca) {d : Nat} {C : Nat × Nat} {S : zS} (hd : 1 ≤ d) (hok : zok C) {t : Int} (ht : zTx S t) {w0 : rt_Wd} {v1 : Int} {v3 : Int} {v5 : Int} {v6 : Int} {v7 : Int} {v9 : Int}   {M : zM} {Q : Int → zM → Prop} {X : zM → Prop} (h : zt_X10_fields_209 l s0 G ca d C S w0 t v1 v3 v5 v6 v7 v9 M Q X) : zg_X10_fields_209 l s0 G ca d C S w0 t v1 v3 v5 v6 v7 v9 M Q X := by
  unfold zt_X10_fields_209 at h
  refine z_iconst dX10_fields_209 ?_
  exact rt_lfew [0, 1, 2, 3, 4, 5, 6] rfl (zs_X10_fields_210 Γ hd hok ht  h)

def zt_X10_fields_178 (l : Launch) (s0 : State) (G : va_G) (ca : Nat → ClassId) (d : Nat) (C : Nat × Nat) (S : zS) (w0 : rt_Wd) (t : Int) (v1 : Int) (v3 : Int) (v5 : Int) (v6 : Int) (v7 : Int) (v8 : Int) (v9 : Int)  (M : zM) (Q : Int → zM → Prop) (X : zM → Prop) : Prop :=
  zIf (w32 v9 < 0) ((0 ≤ v7 ∧ v7 < 4200) ∧ (zm_X10_need l s0 G ca (d - 1) C S t v8 9 (M (t + 3) v7) M (fun r236 M236 => ∀ q242 : Nat, zstr s0 q242 [116, 121, 112, 101] → (zm_X10_member l s0 G ca (d - 1) C S t v6 q242 M236 (fun r244 M244 => zIf (w32 r244 < 0) (zt_X10_fields_260 l s0 G ca d C S w0 t v1 v3 v5 v6 v7 r244 0 M244 Q X) (zt_X10_fields_260 l s0 G ca d C S w0 t v1 v3 v5 v6 v7 r244 1 M244 Q X)) X)) X)) (zIf (w32 v8 = 0) (zt_X10_fields_209 l s0 G ca d C S w0 t v1 v3 v5 v6 v7 v9 M Q X) ((0 ≤ v9 ∧ v9 < 2200) ∧ (zm_X10_same l s0 G ca (d - 1) C S t (M (t + 16) v9) t v7 M (fun r199 M199 => zIf (w32 r199 = 0) (zt_X10_fields_210 l s0 G ca d C S w0 t v1 v3 v5 v6 v7 v9 1 M199 Q X) (zt_X10_fields_209 l s0 G ca d C S w0 t v1 v3 v5 v6 v7 v9 M199 Q X)) X)))
set_option maxRecDepth 100000 in
theorem zs_X10_fields_178 {l : Launch} {s0 : State} {a0 : Array Value} {G : va_G} {ca : Nat → ClassId} (Γ : rt_Γ l s0 a0 G ca) {d : Nat} {C : Nat × Nat} {S : zS} (hd : 1 ≤ d) (hok : zok C) {t : Int} (ht : zTx S t) {w0 : rt_Wd} {v1 : Int} {v3 : Int} {v5 : Int} {v6 : Int} {v7 : Int} {v8 : Int} {v9 : Int}   {M : zM} {Q : Int → zM → Prop} {X : zM → Prop} (h : zt_X10_fields_178 l s0 G ca d C S w0 t v1 v3 v5 v6 v7 v8 v9 M Q X) : zg_X10_fields_178 l s0 G ca d C S w0 t v1 v3 v5 v6 v7 v8 v9 M Q X := by
  unfold zt_X10_fields_178 at h
  refine z_iload dX10_fields_178 (j := 7) rfl ?_
  refine z_if_lt (tgt := 224) (x' := w32 v9) rfl dX10_fields_180 (by decide) (fun c180 => ?_) (fun c180 => ?_)
  · replace h := h.1 c180
    refine z_aload_n dX10_fields_224 rfl (j := 0) rfl ?_
    refine z_iload dX10_fields_225 (j := 6) rfl ?_
    refine z_bipush dX10_fields_227 (by decide) ?_
    refine z_aload_n dX10_fields_229 rfl (j := 0) rfl ?_
    refine z_getc Γ kf_RX10_19 dX10_fields_230 ht.1 ht.2.1 rfl ?_
    refine z_iload dX10_fields_233 (j := 5) rfl ?_
    obtain ⟨hi235, h⟩ := h
    refine z_iald Γ dX10_fields_235 (by have := ht.1; omega) ht.2.2.2.2.1 (by decide) hi235 (v9 := M (t + 3) v7) rfl ?_
    refine z_callV Γ kk_X10_need kc_RX10_105 (As := [zv s0 0 v8, zv s0 0 9, zv s0 0 (M (t + 3) v7)]) h (by omega) (by decide) (show (parseMethodDescriptor yX10_need.desc).map (fun q => q.parameters.length) = some 3 by decide +kernel) hok (Nat.zero_le _) dX10_fields_236 ht.1 ht.2.1 rfl rfl (fun _ h9 => nomatch h9) ?_
    clear h
    intro r236 M236 h
    show rt_Go _ _ _ _ _ _ _ _ _ _ _ _ 239 [(0, zv s0 2 t), (1, zv s0 0 v1), (3, zv s0 0 v3), (5, zv s0 0 v5), (6, zv s0 0 v6), (7, zv s0 0 v7), (8, zv s0 0 v8), (9, zv s0 0 v9)] [] (zw s0 ca C S M236)
    refine z_aload_n dX10_fields_239 rfl (j := 0) rfl ?_
    refine z_iload dX10_fields_240 (j := 4) rfl ?_
    obtain ⟨q242, hq242a, hq242b⟩ := ks_RX10_208 Γ
    have hq242 : zstr s0 q242 [116, 121, 112, 101] := ⟨hq242b, by decide, by decide⟩
    replace h := h q242 hq242
    refine rt_ldcS Γ hq242a dX10_fields_242 ?_
    refine z_callV Γ kk_X10_member kc_RX10_210 (As := [zv s0 0 v6, .ref q242]) h (by omega) (by decide) (show (parseMethodDescriptor yX10_member.desc).map (fun q => q.parameters.length) = some 2 by decide +kernel) hok (Nat.zero_le _) dX10_fields_244 ht.1 ht.2.1 rfl rfl (fun _ h9 => nomatch h9) ?_
    clear h
    intro r244 M244 h
    show rt_Go _ _ _ _ _ _ _ _ _ _ _ _ 247 [(0, zv s0 2 t), (1, zv s0 0 v1), (3, zv s0 0 v3), (5, zv s0 0 v5), (6, zv s0 0 v6), (7, zv s0 0 v7), (8, zv s0 0 v8), (9, zv s0 0 v9)] [zv s0 0 r244] (zw s0 ca C S M244)
    refine z_istore (i := 9) (lv' := [(9, zv s0 0 r244), (0, zv s0 2 t), (1, zv s0 0 v1), (3, zv s0 0 v3), (5, zv s0 0 v5), (6, zv s0 0 v6), (7, zv s0 0 v7), (8, zv s0 0 v8)]) dX10_fields_247 (by decide) (by simp [zv_cat0, zv_cat1, zv_cat2, zv_cats]) ?_
    refine z_aload_n dX10_fields_249 rfl (j := 1) rfl ?_
    refine z_iload dX10_fields_250 (j := 0) rfl ?_
    refine z_if_lt (tgt := 259) (x' := w32 r244) rfl dX10_fields_252 (by decide) (fun c252 => ?_) (fun c252 => ?_)
    · replace h := h.1 c252
      refine z_iconst dX10_fields_259 ?_
      exact rt_lfew [1, 2, 3, 4, 5, 6, 0] rfl (zs_X10_fields_260 Γ hd hok ht  h)
    · replace h := h.2 c252
      refine z_iconst dX10_fields_255 ?_
      refine rt_goto (tgt := 260) dX10_fields_256 (by decide) ?_
      exact rt_lfew [1, 2, 3, 4, 5, 6, 0] rfl (zs_X10_fields_260 Γ hd hok ht  h)
  · replace h := h.2 c180
    refine z_iload dX10_fields_183 (j := 6) rfl ?_
    refine z_if_eq (tgt := 209) (x' := w32 v8) rfl dX10_fields_185 (by decide) (fun c185 => ?_) (fun c185 => ?_)
    · replace h := h.1 c185
      exact rt_lfew [0, 1, 2, 3, 4, 5, 7] rfl (zs_X10_fields_209 Γ hd hok ht  h)
    · replace h := h.2 c185
      refine z_aload_n dX10_fields_188 rfl (j := 0) rfl ?_
      refine z_aload_n dX10_fields_189 rfl (j := 0) rfl ?_
      refine z_getc Γ kf_RX10_59 dX10_fields_190 ht.1 ht.2.1 rfl ?_
      refine z_iload dX10_fields_193 (j := 7) rfl ?_
      obtain ⟨hi195, h⟩ := h
      refine z_iald Γ dX10_fields_195 (by have := ht.1; omega) ht.2.2.2.2.2.2.2.2.2.2.2.2.2.2.2.2.2.1 (by decide) hi195 (v9 := M (t + 16) v9) rfl ?_
      refine z_aload_n dX10_fields_196 rfl (j := 0) rfl ?_
      refine z_iload dX10_fields_197 (j := 5) rfl ?_
      refine z_callV Γ kk_X10_same kc_RX10_155 (As := [zv s0 0 (M (t + 16) v9), zv s0 2 t, zv s0 0 v7]) h (by omega) (by decide) (show (parseMethodDescriptor yX10_same.desc).map (fun q => q.parameters.length) = some 3 by decide +kernel) hok (Nat.zero_le _) dX10_fields_199 ht.1 ht.2.1 rfl rfl (fun _ h9 => nomatch h9) ?_
      clear h
      intro r199 M199 h
      show rt_Go _ _ _ _ _ _ _ _ _ _ _ _ 202 [(0, zv s0 2 t), (1, zv s0 0 v1), (3, zv s0 0 v3), (5, zv s0 0 v5), (6, zv s0 0 v6), (7, zv s0 0 v7), (8, zv s0 0 v8), (9, zv s0 0 v9)] [zv s0 0 r199] (zw s0 ca C S M199)
      refine z_if_ne (tgt := 209) (x' := w32 r199) rfl dX10_fields_202 (by decide) (fun c202 => ?_) (fun c202 => ?_)
      · replace h := h.2 c202
        exact rt_lfew [0, 1, 2, 3, 4, 5, 7] rfl (zs_X10_fields_209 Γ hd hok ht  h)
      · replace h := h.1 c202
        refine z_iconst dX10_fields_205 ?_
        refine rt_goto (tgt := 210) dX10_fields_206 (by decide) ?_
        exact rt_lfew [0, 1, 2, 3, 4, 5, 7] rfl (zs_X10_fields_210 Γ hd hok ht  h)

def zt_X10_fields (l : Launch) (s0 : State) (G : va_G) (ca : Nat → ClassId) (d : Nat) (C : Nat × Nat) (S : zS) (w0 : rt_Wd) (t : Int) (s : Int) (v : Int) (e : Int) (M : zM) (Q : Int → zM → Prop) (X : zM → Prop) : Prop :=
  ∀ q2 : Nat, zstr s0 q2 [102, 105, 101, 108, 100, 115] → (zm_X10_member l s0 G ca (d - 1) C S t v q2 M (fun r5 M5 => zIf (w32 r5 < 0) (zt_X10_fields_21 l s0 G ca d C S w0 t s v e r5 0 M5 Q X) (zt_X10_fields_21 l s0 G ca d C S w0 t s v e r5 1 M5 Q X)) X)
set_option maxRecDepth 100000 in
theorem z_X10_fields {l : Launch} {s0 : State} {a0 : Array Value} {G : va_G} {ca : Nat → ClassId} (Γ : rt_Γ l s0 a0 G ca) {d : Nat} {C : Nat × Nat} {S : zS} (hd : 1 ≤ d) (hok : zok C) {t : Int} (ht : zTx S t) {s : Int} {v : Int} {e : Int} {M : zM} {Q : Int → zM → Prop} {X : zM → Prop} (h : zt_X10_fields l s0 G ca d C S (zw s0 ca C S M) t s v e M Q X) : zm_X10_fields l s0 G ca d C S t s v e M Q X := by
  refine z_met (lv := [(0, zv s0 2 t), (1, zv s0 0 s), (2, zv s0 0 v), (3, zv s0 0 e)]) Γ kk_X10_fields rfl (show (lg_sl [zv s0 2 t, zv s0 0 s, zv s0 0 v, zv s0 0 e]).length ≤ 10 from by simp only [zn_0, zn_2, show (lg_sl []).length = 0 from rfl]; omega) (show lv_args 0 [zv s0 2 t, zv s0 0 s, zv s0 0 v, zv s0 0 e] = [(0, zv s0 2 t), (1, zv s0 0 s), (2, zv s0 0 v), (3, zv s0 0 e)] from by rw [zl_2, zl_0, zl_0, zl_0]; rfl) ?_
  unfold zt_X10_fields at h
  refine z_aload_n dX10_fields_0 rfl (j := 0) rfl ?_
  refine z_iload_n dX10_fields_1 rfl (j := 2) rfl ?_
  obtain ⟨q2, hq2a, hq2b⟩ := ks_RX10_270 Γ
  have hq2 : zstr s0 q2 [102, 105, 101, 108, 100, 115] := ⟨hq2b, by decide, by decide⟩
  replace h := h q2 hq2
  refine rt_ldcSW Γ hq2a dX10_fields_2 ?_
  refine z_callV Γ kk_X10_member kc_RX10_210 (As := [zv s0 0 v, .ref q2]) h (by omega) (by decide) (show (parseMethodDescriptor yX10_member.desc).map (fun q => q.parameters.length) = some 2 by decide +kernel) hok (Nat.zero_le _) dX10_fields_5 ht.1 ht.2.1 rfl rfl (fun _ h9 => nomatch h9) ?_
  clear h
  intro r5 M5 h
  show rt_Go _ _ _ _ _ _ _ _ _ _ _ _ 8 [(0, zv s0 2 t), (1, zv s0 0 s), (2, zv s0 0 v), (3, zv s0 0 e)] [zv s0 0 r5] (zw s0 ca C S M5)
  refine z_istore (i := 4) (lv' := [(4, zv s0 0 r5), (0, zv s0 2 t), (1, zv s0 0 s), (2, zv s0 0 v), (3, zv s0 0 e)]) dX10_fields_8 (by decide) (by simp [zv_cat0, zv_cat1, zv_cat2, zv_cats]) ?_
  refine z_aload_n dX10_fields_10 rfl (j := 1) rfl ?_
  refine z_iload dX10_fields_11 (j := 0) rfl ?_
  refine z_if_lt (tgt := 20) (x' := w32 r5) rfl dX10_fields_13 (by decide) (fun c13 => ?_) (fun c13 => ?_)
  · replace h := h.1 c13
    refine z_iconst dX10_fields_20 ?_
    exact rt_lfew [1, 2, 3, 4, 0] rfl (zs_X10_fields_21 Γ hd hok ht  h)
  · replace h := h.2 c13
    refine z_iconst dX10_fields_16 ?_
    refine rt_goto (tgt := 21) dX10_fields_17 (by decide) ?_
    exact rt_lfew [1, 2, 3, 4, 0] rfl (zs_X10_fields_21 Γ hd hok ht  h)

abbrev zg_X10_named_30 (l : Launch) (s0 : State) (G : va_G) (ca : Nat → ClassId) (d : Nat) (C : Nat × Nat) (S : zS) (w0 : rt_Wd) (t : Int) (v1 : Int) (v2 : Int) (v3 : Int) (v4 : Int)  (M : zM) (Q : Int → zM → Prop) (X : zM → Prop) : Prop := rt_Go l s0 G RX10 "named" cX10_named 8 (Option.some FieldType.int) [] d w0 (zQ s0 ca 0 C S Q X) 30 [(0, zv s0 2 t), (1, zv s0 0 v1), (2, zv s0 0 v2), (3, zv s0 0 v3), (4, zv s0 0 v4)] [zv s0 2 t] (zw s0 ca C S M)
abbrev zg_X10_named_31 (l : Launch) (s0 : State) (G : va_G) (ca : Nat → ClassId) (d : Nat) (C : Nat × Nat) (S : zS) (w0 : rt_Wd) (t : Int) (v1 : Int) (v2 : Int) (v3 : Int) (v4 : Int) (k0 : Int) (M : zM) (Q : Int → zM → Prop) (X : zM → Prop) : Prop := rt_Go l s0 G RX10 "named" cX10_named 8 (Option.some FieldType.int) [] d w0 (zQ s0 ca 0 C S Q X) 31 [(0, zv s0 2 t), (1, zv s0 0 v1), (2, zv s0 0 v2), (3, zv s0 0 v3), (4, zv s0 0 v4)] [zv s0 0 k0, zv s0 2 t] (zw s0 ca C S M)
abbrev zg_X10_named_128 (l : Launch) (s0 : State) (G : va_G) (ca : Nat → ClassId) (d : Nat) (C : Nat × Nat) (S : zS) (w0 : rt_Wd) (t : Int) (v1 : Int) (v2 : Int) (v3 : Int) (v4 : Int)  (M : zM) (Q : Int → zM → Prop) (X : zM → Prop) : Prop := rt_Go l s0 G RX10 "named" cX10_named 8 (Option.some FieldType.int) [] d w0 (zQ s0 ca 0 C S Q X) 128 [(0, zv s0 2 t), (1, zv s0 0 v1), (2, zv s0 0 v2), (3, zv s0 0 v3), (4, zv s0 0 v4)] [] (zw s0 ca C S M)
abbrev zg_X10_named_129 (l : Launch) (s0 : State) (G : va_G) (ca : Nat → ClassId) (d : Nat) (C : Nat × Nat) (S : zS) (w0 : rt_Wd) (t : Int) (v1 : Int) (v2 : Int) (v3 : Int) (v4 : Int) (k0 : Int) (M : zM) (Q : Int → zM → Prop) (X : zM → Prop) : Prop := rt_Go l s0 G RX10 "named" cX10_named 8 (Option.some FieldType.int) [] d w0 (zQ s0 ca 0 C S Q X) 129 [(0, zv s0 2 t), (1, zv s0 0 v1), (2, zv s0 0 v2), (3, zv s0 0 v3), (4, zv s0 0 v4)] [zv s0 0 k0] (zw s0 ca C S M)
abbrev zg_X10_named_179 (l : Launch) (s0 : State) (G : va_G) (ca : Nat → ClassId) (d : Nat) (C : Nat × Nat) (S : zS) (w0 : rt_Wd) (t : Int) (v1 : Int) (v3 : Int) (v4 : Int) (k0 : Int) (M : zM) (Q : Int → zM → Prop) (X : zM → Prop) : Prop := rt_Go l s0 G RX10 "named" cX10_named 8 (Option.some FieldType.int) [] d w0 (zQ s0 ca 0 C S Q X) 179 [(0, zv s0 2 t), (1, zv s0 0 v1), (3, zv s0 0 v3), (4, zv s0 0 v4)] [zv s0 0 k0, zv s0 2 t] (zw s0 ca C S M)
abbrev zg_X10_named_225 (l : Launch) (s0 : State) (G : va_G) (ca : Nat → ClassId) (d : Nat) (C : Nat × Nat) (S : zS) (w0 : rt_Wd) (t : Int) (v1 : Int) (v6 : Int) (v7 : Int) (k0 : Int) (M : zM) (Q : Int → zM → Prop) (X : zM → Prop) : Prop := rt_Go l s0 G RX10 "named" cX10_named 8 (Option.some FieldType.int) [] d w0 (zQ s0 ca 0 C S Q X) 225 [(0, zv s0 2 t), (1, zv s0 0 v1), (6, zv s0 0 v6), (7, zv s0 0 v7)] [zv s0 0 k0, zv s0 2 t] (zw s0 ca C S M)
abbrev zg_X10_named_278 (l : Launch) (s0 : State) (G : va_G) (ca : Nat → ClassId) (d : Nat) (C : Nat × Nat) (S : zS) (w0 : rt_Wd) (t : Int) (v6 : Int) (v7 : Int)  (M : zM) (Q : Int → zM → Prop) (X : zM → Prop) : Prop := rt_Go l s0 G RX10 "named" cX10_named 8 (Option.some FieldType.int) [] d w0 (zQ s0 ca 0 C S Q X) 278 [(0, zv s0 2 t), (6, zv s0 0 v6), (7, zv s0 0 v7)] [zv s0 2 t] (zw s0 ca C S M)
abbrev zg_X10_named_279 (l : Launch) (s0 : State) (G : va_G) (ca : Nat → ClassId) (d : Nat) (C : Nat × Nat) (S : zS) (w0 : rt_Wd) (t : Int) (v6 : Int) (v7 : Int) (k0 : Int) (M : zM) (Q : Int → zM → Prop) (X : zM → Prop) : Prop := rt_Go l s0 G RX10 "named" cX10_named 8 (Option.some FieldType.int) [] d w0 (zQ s0 ca 0 C S Q X) 279 [(0, zv s0 2 t), (6, zv s0 0 v6), (7, zv s0 0 v7)] [zv s0 0 k0, zv s0 2 t] (zw s0 ca C S M)
def zt_X10_named_279 (l : Launch) (s0 : State) (G : va_G) (ca : Nat → ClassId) (d : Nat) (C : Nat × Nat) (S : zS) (w0 : rt_Wd) (t : Int) (v6 : Int) (v7 : Int) (k0 : Int) (M : zM) (Q : Int → zM → Prop) (X : zM → Prop) : Prop :=
  (0 ≤ v7 ∧ v7 < 4200) ∧ (zm_X10_need l s0 G ca (d - 1) C S t k0 10 (M (t + 3) v7) M (fun r288 M288 => (0 ≤ v6 ∧ v6 < 140) ∧ (Q v6 ((zu M288 (t + 11) v6 (M288 (t + 4) v7))))) X)
set_option maxRecDepth 100000 in
theorem zs_X10_named_279 {l : Launch} {s0 : State} {a0 : Array Value} {G : va_G} {ca : Nat → ClassId} (Γ : rt_Γ l s0 a0 G ca) {d : Nat} {C : Nat × Nat} {S : zS} (hd : 1 ≤ d) (hok : zok C) {t : Int} (ht : zTx S t) {w0 : rt_Wd} {v6 : Int} {v7 : Int} {k0 : Int}  {M : zM} {Q : Int → zM → Prop} {X : zM → Prop} (h : zt_X10_named_279 l s0 G ca d C S w0 t v6 v7 k0 M Q X) : zg_X10_named_279 l s0 G ca d C S w0 t v6 v7 k0 M Q X := by
  unfold zt_X10_named_279 at h
  refine z_bipush dX10_named_279 (by decide) ?_
  refine z_aload_n dX10_named_281 rfl (j := 0) rfl ?_
  refine z_getc Γ kf_RX10_19 dX10_named_282 ht.1 ht.2.1 rfl ?_
  refine z_iload dX10_named_285 (j := 2) rfl ?_
  obtain ⟨hi287, h⟩ := h
  refine z_iald Γ dX10_named_287 (by have := ht.1; omega) ht.2.2.2.2.1 (by decide) hi287 (v9 := M (t + 3) v7) rfl ?_
  refine z_callV Γ kk_X10_need kc_RX10_105 (As := [zv s0 0 k0, zv s0 0 10, zv s0 0 (M (t + 3) v7)]) h (by omega) (by decide) (show (parseMethodDescriptor yX10_need.desc).map (fun q => q.parameters.length) = some 3 by decide +kernel) hok (Nat.zero_le _) dX10_named_288 ht.1 ht.2.1 rfl rfl (fun _ h9 => nomatch h9) ?_
  clear h
  intro r288 M288 h
  show rt_Go _ _ _ _ _ _ _ _ _ _ _ _ 291 [(0, zv s0 2 t), (6, zv s0 0 v6), (7, zv s0 0 v7)] [] (zw s0 ca C S M288)
  refine z_aload_n dX10_named_291 rfl (j := 0) rfl ?_
  refine z_getc Γ kf_RX10_44 dX10_named_292 ht.1 ht.2.1 rfl ?_
  refine z_iload dX10_named_295 (j := 1) rfl ?_
  refine z_aload_n dX10_named_297 rfl (j := 0) rfl ?_
  refine z_getc Γ kf_RX10_22 dX10_named_298 ht.1 ht.2.1 rfl ?_
  refine z_iload dX10_named_301 (j := 2) rfl ?_
  refine z_lald Γ dX10_named_303 (by have := ht.1; omega) ht.2.2.2.2.2.1 (by decide) hi287 (v9 := M288 (t + 4) v7) rfl ?_
  refine z_l2i dX10_named_304 ?_
  obtain ⟨hi305, h⟩ := h
  refine z_iast Γ dX10_named_305 (by have := ht.1; omega) ht.2.2.2.2.2.2.2.2.2.2.2.2.1 (by decide) hi305 ?_
  refine rt_goto (tgt := 339) dX10_named_306 (by decide) ?_
  refine z_iload dX10_named_339 (j := 1) rfl ?_
  exact z_iret dX10_named_341 rfl h

def zt_X10_named_278 (l : Launch) (s0 : State) (G : va_G) (ca : Nat → ClassId) (d : Nat) (C : Nat × Nat) (S : zS) (w0 : rt_Wd) (t : Int) (v6 : Int) (v7 : Int)  (M : zM) (Q : Int → zM → Prop) (X : zM → Prop) : Prop :=
  zt_X10_named_279 l s0 G ca d C S w0 t v6 v7 0 M Q X
set_option maxRecDepth 100000 in
theorem zs_X10_named_278 {l : Launch} {s0 : State} {a0 : Array Value} {G : va_G} {ca : Nat → ClassId} (Γ : rt_Γ l s0 a0 G ca) {d : Nat} {C : Nat × Nat} {S : zS} (hd : 1 ≤ d) (hok : zok C) {t : Int} (ht : zTx S t) {w0 : rt_Wd} {v6 : Int} {v7 : Int}   {M : zM} {Q : Int → zM → Prop} {X : zM → Prop} (h : zt_X10_named_278 l s0 G ca d C S w0 t v6 v7 M Q X) : zg_X10_named_278 l s0 G ca d C S w0 t v6 v7 M Q X := by
  unfold zt_X10_named_278 at h
  refine z_iconst dX10_named_278 ?_
  exact rt_lfew [0, 1, 2] rfl (zs_X10_named_279 Γ hd hok ht  h)

def zt_X10_named_225 (l : Launch) (s0 : State) (G : va_G) (ca : Nat → ClassId) (d : Nat) (C : Nat × Nat) (S : zS) (w0 : rt_Wd) (t : Int) (v1 : Int) (v6 : Int) (v7 : Int) (k0 : Int) (M : zM) (Q : Int → zM → Prop) (X : zM → Prop) : Prop :=
  (0 ≤ v1 ∧ v1 < 4200) ∧ (zm_X10_need l s0 G ca (d - 1) C S t k0 8 (M (t + 3) v1) M (fun r233 M233 => (0 ≤ v7 ∧ v7 < 4200) ∧ (zIf (w32 (M233 (t + 2) v7) = 3) (zIf (w64 (M233 (t + 4) v7) < 0) (zt_X10_named_278 l s0 G ca d C S w0 t v6 v7 M233 Q X) (zIf (64 < w64 (M233 (t + 4) v7)) (zt_X10_named_278 l s0 G ca d C S w0 t v6 v7 M233 Q X) (zt_X10_named_279 l s0 G ca d C S w0 t v6 v7 1 M233 Q X))) (zt_X10_named_278 l s0 G ca d C S w0 t v6 v7 M233 Q X))) X)
set_option maxRecDepth 100000 in
theorem zs_X10_named_225 {l : Launch} {s0 : State} {a0 : Array Value} {G : va_G} {ca : Nat → ClassId} (Γ : rt_Γ l s0 a0 G ca) {d : Nat} {C : Nat × Nat} {S : zS} (hd : 1 ≤ d) (hok : zok C) {t : Int} (ht : zTx S t) {w0 : rt_Wd} {v1 : Int} {v6 : Int} {v7 : Int} {k0 : Int}  {M : zM} {Q : Int → zM → Prop} {X : zM → Prop} (h : zt_X10_named_225 l s0 G ca d C S w0 t v1 v6 v7 k0 M Q X) : zg_X10_named_225 l s0 G ca d C S w0 t v1 v6 v7 k0 M Q X := by
  unfold zt_X10_named_225 at h
  refine z_bipush dX10_named_225 (by decide) ?_
  refine z_aload_n dX10_named_227 rfl (j := 0) rfl ?_
  refine z_getc Γ kf_RX10_19 dX10_named_228 ht.1 ht.2.1 rfl ?_
  refine z_iload_n dX10_named_231 rfl (j := 1) rfl ?_
  obtain ⟨hi232, h⟩ := h
  refine z_iald Γ dX10_named_232 (by have := ht.1; omega) ht.2.2.2.2.1 (by decide) hi232 (v9 := M (t + 3) v1) rfl ?_
  refine z_callV Γ kk_X10_need kc_RX10_105 (As := [zv s0 0 k0, zv s0 0 8, zv s0 0 (M (t + 3) v1)]) h (by omega) (by decide) (show (parseMethodDescriptor yX10_need.desc).map (fun q => q.parameters.length) = some 3 by decide +kernel) hok (Nat.zero_le _) dX10_named_233 ht.1 ht.2.1 rfl rfl (fun _ h9 => nomatch h9) ?_
  clear h
  intro r233 M233 h
  show rt_Go _ _ _ _ _ _ _ _ _ _ _ _ 236 [(0, zv s0 2 t), (1, zv s0 0 v1), (6, zv s0 0 v6), (7, zv s0 0 v7)] [] (zw s0 ca C S M233)
  refine z_aload_n dX10_named_236 rfl (j := 0) rfl ?_
  refine z_aload_n dX10_named_237 rfl (j := 0) rfl ?_
  refine z_getc Γ kf_RX10_15 dX10_named_238 ht.1 ht.2.1 rfl ?_
  refine z_iload dX10_named_241 (j := 3) rfl ?_
  obtain ⟨hi243, h⟩ := h
  refine z_iald Γ dX10_named_243 (by have := ht.1; omega) ht.2.2.2.1 (by decide) hi243 (v9 := M233 (t + 2) v7) rfl ?_
  refine z_iconst dX10_named_244 ?_
  refine z_icmp_ne (tgt := 278) (x' := w32 (M233 (t + 2) v7)) (y' := 3) rfl (by decide) dX10_named_245 (by decide) (fun c245 => ?_) (fun c245 => ?_)
  · replace h := h.2 c245
    exact rt_lfew [0, 2, 3] rfl (zs_X10_named_278 Γ hd hok ht  h)
  · replace h := h.1 c245
    refine z_aload_n dX10_named_248 rfl (j := 0) rfl ?_
    refine z_getc Γ kf_RX10_22 dX10_named_249 ht.1 ht.2.1 rfl ?_
    refine z_iload dX10_named_252 (j := 3) rfl ?_
    refine z_lald Γ dX10_named_254 (by have := ht.1; omega) ht.2.2.2.2.2.1 (by decide) hi243 (v9 := M233 (t + 4) v7) rfl ?_
    refine z_lconst (v := 0) dX10_named_255 (by decide) ?_
    refine z_lif_lt (tgt := 278) (x' := w64 (M233 (t + 4) v7)) (y' := 0) rfl (by decide) dX10_named_256 dX10_named_257 (by decide) (fun c256 => ?_) (fun c256 => ?_)
    · replace h := h.1 c256
      exact rt_lfew [0, 2, 3] rfl (zs_X10_named_278 Γ hd hok ht  h)
    · replace h := h.2 c256
      refine z_aload_n dX10_named_260 rfl (j := 0) rfl ?_
      refine z_getc Γ kf_RX10_22 dX10_named_261 ht.1 ht.2.1 rfl ?_
      refine z_iload dX10_named_264 (j := 3) rfl ?_
      refine z_lald Γ dX10_named_266 (by have := ht.1; omega) ht.2.2.2.2.2.1 (by decide) hi243 (v9 := M233 (t + 4) v7) rfl ?_
      refine rt_ldc2 Γ dX10_named_267 kv_RX10_254 ?_
      show rt_Go _ _ _ _ _ _ _ _ _ _ _ _ 270 [(0, zv s0 2 t), (1, zv s0 0 v1), (6, zv s0 0 v6), (7, zv s0 0 v7)] [zv s0 1 64, zv s0 1 (M233 (t + 4) v7), zv s0 2 t] _
      refine z_lif_gt (tgt := 278) (x' := w64 (M233 (t + 4) v7)) (y' := 64) rfl (by decide) dX10_named_270 dX10_named_271 (by decide) (fun c270 => ?_) (fun c270 => ?_)
      · replace h := h.1 c270
        exact rt_lfew [0, 2, 3] rfl (zs_X10_named_278 Γ hd hok ht  h)
      · replace h := h.2 c270
        refine z_iconst dX10_named_274 ?_
        refine rt_goto (tgt := 279) dX10_named_275 (by decide) ?_
        exact rt_lfew [0, 2, 3] rfl (zs_X10_named_279 Γ hd hok ht  h)

def zt_X10_named_179 (l : Launch) (s0 : State) (G : va_G) (ca : Nat → ClassId) (d : Nat) (C : Nat × Nat) (S : zS) (w0 : rt_Wd) (t : Int) (v1 : Int) (v3 : Int) (v4 : Int) (k0 : Int) (M : zM) (Q : Int → zM → Prop) (X : zM → Prop) : Prop :=
  zm_X10_shape l s0 G ca (d - 1) C S t k0 M (fun r179 M179 => (0 ≤ r179 ∧ r179 < 140) ∧ (zIf (w32 (M179 (t + 9) r179) = 9) (∀ q207 : Nat, zstr s0 q207 [115, 105, 122, 101] → (zm_X10_member l s0 G ca (d - 1) C S t v1 q207 ((zu M179 (t + 10) r179 v4)) (fun r209 M209 => zIf (w32 r209 < 0) (zt_X10_named_225 l s0 G ca d C S w0 t v1 r179 r209 0 M209 Q X) (zt_X10_named_225 l s0 G ca d C S w0 t v1 r179 r209 1 M209 Q X)) X)) (zIf (w32 (M179 (t + 9) r179) = 10) (zm_X10_symbols l s0 G ca (d - 1) C S t r179 v1 ((zu M179 (t + 10) r179 v4)) (fun r325 M325 => Q r179 M325) X) (zm_X10_fields l s0 G ca (d - 1) C S t r179 v1 v3 ((zu M179 (t + 10) r179 v4)) (fun r336 M336 => Q r179 M336) X)))) X
set_option maxRecDepth 100000 in
theorem zs_X10_named_179 {l : Launch} {s0 : State} {a0 : Array Value} {G : va_G} {ca : Nat → ClassId} (Γ : rt_Γ l s0 a0 G ca) {d : Nat} {C : Nat × Nat} {S : zS} (hd : 1 ≤ d) (hok : zok C) {t : Int} (ht : zTx S t) {w0 : rt_Wd} {v1 : Int} {v3 : Int} {v4 : Int} {k0 : Int}  {M : zM} {Q : Int → zM → Prop} {X : zM → Prop} (h : zt_X10_named_179 l s0 G ca d C S w0 t v1 v3 v4 k0 M Q X) : zg_X10_named_179 l s0 G ca d C S w0 t v1 v3 v4 k0 M Q X := by
  unfold zt_X10_named_179 at h
  refine z_callV Γ kk_X10_shape kc_RX10_222 (As := [zv s0 0 k0]) h (by omega) (by decide) (show (parseMethodDescriptor yX10_shape.desc).map (fun q => q.parameters.length) = some 1 by decide +kernel) hok (Nat.zero_le _) dX10_named_179 ht.1 ht.2.1 rfl rfl (fun _ h9 => nomatch h9) ?_
  clear h
  intro r179 M179 h
  show rt_Go _ _ _ _ _ _ _ _ _ _ _ _ 182 [(0, zv s0 2 t), (1, zv s0 0 v1), (3, zv s0 0 v3), (4, zv s0 0 v4)] [zv s0 0 r179] (zw s0 ca C S M179)
  refine z_istore (i := 6) (lv' := [(6, zv s0 0 r179), (0, zv s0 2 t), (1, zv s0 0 v1), (3, zv s0 0 v3), (4, zv s0 0 v4)]) dX10_named_182 (by decide) (by simp [zv_cat0, zv_cat1, zv_cat2, zv_cats]) ?_
  refine z_aload_n dX10_named_184 rfl (j := 1) rfl ?_
  refine z_getc Γ kf_RX10_41 dX10_named_185 ht.1 ht.2.1 rfl ?_
  refine z_iload dX10_named_188 (j := 0) rfl ?_
  refine z_iload dX10_named_190 (j := 4) rfl ?_
  obtain ⟨hi192, h⟩ := h
  refine z_iast Γ dX10_named_192 (by have := ht.1; omega) ht.2.2.2.2.2.2.2.2.2.2.2.1 (by decide) hi192 ?_
  refine z_aload_n dX10_named_193 rfl (j := 1) rfl ?_
  refine z_getc Γ kf_RX10_38 dX10_named_194 ht.1 ht.2.1 rfl ?_
  refine z_iload dX10_named_197 (j := 0) rfl ?_
  refine z_iald Γ dX10_named_199 (by have := ht.1; omega) ht.2.2.2.2.2.2.2.2.2.2.1 (by decide) hi192 (v9 := M179 (t + 9) r179) ((zu_a (by omega)).trans rfl) ?_
  refine z_bipush dX10_named_200 (by decide) ?_
  refine z_icmp_ne (tgt := 309) (x' := w32 (M179 (t + 9) r179)) (y' := 9) rfl (by decide) dX10_named_202 (by decide) (fun c202 => ?_) (fun c202 => ?_)
  · replace h := h.2 c202
    refine z_aload_n dX10_named_309 rfl (j := 1) rfl ?_
    refine z_getc Γ kf_RX10_38 dX10_named_310 ht.1 ht.2.1 rfl ?_
    refine z_iload dX10_named_313 (j := 0) rfl ?_
    refine z_iald Γ dX10_named_315 (by have := ht.1; omega) ht.2.2.2.2.2.2.2.2.2.2.1 (by decide) hi192 (v9 := M179 (t + 9) r179) ((zu_a (by omega)).trans rfl) ?_
    refine z_bipush dX10_named_316 (by decide) ?_
    refine z_icmp_ne (tgt := 331) (x' := w32 (M179 (t + 9) r179)) (y' := 10) rfl (by decide) dX10_named_318 (by decide) (fun c318 => ?_) (fun c318 => ?_)
    · replace h := h.2 c318
      refine z_aload_n dX10_named_331 rfl (j := 1) rfl ?_
      refine z_iload dX10_named_332 (j := 0) rfl ?_
      refine z_iload_n dX10_named_334 rfl (j := 2) rfl ?_
      refine z_iload_n dX10_named_335 rfl (j := 3) rfl ?_
      refine z_callV Γ kk_X10_fields kc_RX10_259 (As := [zv s0 0 r179, zv s0 0 v1, zv s0 0 v3]) h (by omega) (by decide) (show (parseMethodDescriptor yX10_fields.desc).map (fun q => q.parameters.length) = some 3 by decide +kernel) hok (Nat.zero_le _) dX10_named_336 ht.1 ht.2.1 rfl rfl (fun _ h9 => nomatch h9) ?_
      clear h
      intro r336 M336 h
      show rt_Go _ _ _ _ _ _ _ _ _ _ _ _ 339 [(6, zv s0 0 r179), (0, zv s0 2 t), (1, zv s0 0 v1), (3, zv s0 0 v3), (4, zv s0 0 v4)] [] (zw s0 ca C S M336)
      refine z_iload dX10_named_339 (j := 0) rfl ?_
      exact z_iret dX10_named_341 rfl h
    · replace h := h.1 c318
      refine z_aload_n dX10_named_321 rfl (j := 1) rfl ?_
      refine z_iload dX10_named_322 (j := 0) rfl ?_
      refine z_iload_n dX10_named_324 rfl (j := 2) rfl ?_
      refine z_callV Γ kk_X10_symbols kc_RX10_256 (As := [zv s0 0 r179, zv s0 0 v1]) h (by omega) (by decide) (show (parseMethodDescriptor yX10_symbols.desc).map (fun q => q.parameters.length) = some 2 by decide +kernel) hok (Nat.zero_le _) dX10_named_325 ht.1 ht.2.1 rfl rfl (fun _ h9 => nomatch h9) ?_
      clear h
      intro r325 M325 h
      show rt_Go _ _ _ _ _ _ _ _ _ _ _ _ 328 [(6, zv s0 0 r179), (0, zv s0 2 t), (1, zv s0 0 v1), (3, zv s0 0 v3), (4, zv s0 0 v4)] [] (zw s0 ca C S M325)
      refine rt_goto (tgt := 339) dX10_named_328 (by decide) ?_
      refine z_iload dX10_named_339 (j := 0) rfl ?_
      exact z_iret dX10_named_341 rfl h
  · replace h := h.1 c202
    refine z_aload_n dX10_named_205 rfl (j := 1) rfl ?_
    refine z_iload_n dX10_named_206 rfl (j := 2) rfl ?_
    obtain ⟨q207, hq207a, hq207b⟩ := ks_RX10_252 Γ
    have hq207 : zstr s0 q207 [115, 105, 122, 101] := ⟨hq207b, by decide, by decide⟩
    replace h := h q207 hq207
    refine rt_ldcS Γ hq207a dX10_named_207 ?_
    refine z_callV Γ kk_X10_member kc_RX10_210 (As := [zv s0 0 v1, .ref q207]) h (by omega) (by decide) (show (parseMethodDescriptor yX10_member.desc).map (fun q => q.parameters.length) = some 2 by decide +kernel) hok (Nat.zero_le _) dX10_named_209 ht.1 ht.2.1 rfl rfl (fun _ h9 => nomatch h9) ?_
    clear h
    intro r209 M209 h
    show rt_Go _ _ _ _ _ _ _ _ _ _ _ _ 212 [(6, zv s0 0 r179), (0, zv s0 2 t), (1, zv s0 0 v1), (3, zv s0 0 v3), (4, zv s0 0 v4)] [zv s0 0 r209] (zw s0 ca C S M209)
    refine z_istore (i := 7) (lv' := [(7, zv s0 0 r209), (6, zv s0 0 r179), (0, zv s0 2 t), (1, zv s0 0 v1), (3, zv s0 0 v3), (4, zv s0 0 v4)]) dX10_named_212 (by decide) (by simp [zv_cat0, zv_cat1, zv_cat2, zv_cats]) ?_
    refine z_aload_n dX10_named_214 rfl (j := 2) rfl ?_
    refine z_iload dX10_named_215 (j := 0) rfl ?_
    refine z_if_lt (tgt := 224) (x' := w32 r209) rfl dX10_named_217 (by decide) (fun c217 => ?_) (fun c217 => ?_)
    · replace h := h.1 c217
      refine z_iconst dX10_named_224 ?_
      exact rt_lfew [2, 3, 1, 0] rfl (zs_X10_named_225 Γ hd hok ht  h)
    · replace h := h.2 c217
      refine z_iconst dX10_named_220 ?_
      refine rt_goto (tgt := 225) dX10_named_221 (by decide) ?_
      exact rt_lfew [2, 3, 1, 0] rfl (zs_X10_named_225 Γ hd hok ht  h)

def zt_X10_named_129 (l : Launch) (s0 : State) (G : va_G) (ca : Nat → ClassId) (d : Nat) (C : Nat × Nat) (S : zS) (w0 : rt_Wd) (t : Int) (v1 : Int) (v2 : Int) (v3 : Int) (v4 : Int) (k0 : Int) (M : zM) (Q : Int → zM → Prop) (X : zM → Prop) : Prop :=
  (0 ≤ v4 ∧ v4 < 4200) ∧ (zm_X10_need l s0 G ca (d - 1) C S t k0 9 (M (t + 3) v4) M (fun r143 M143 => ∀ q149 : Nat, zstr s0 q149 [102, 105, 120, 101, 100] → (zm_X10_is l s0 G ca (d - 1) C S t v2 q149 M143 (fun r151 M151 => zIf (w32 r151 = 0) (∀ q164 : Nat, zstr s0 q164 [101, 110, 117, 109] → (zm_X10_is l s0 G ca (d - 1) C S t v2 q164 M151 (fun r166 M166 => zIf (w32 r166 = 0) (zt_X10_named_179 l s0 G ca d C S w0 t v1 v3 v4 11 M166 Q X) (zt_X10_named_179 l s0 G ca d C S w0 t v1 v3 v4 10 M166 Q X)) X)) (zt_X10_named_179 l s0 G ca d C S w0 t v1 v3 v4 9 M151 Q X)) X)) X)
set_option maxRecDepth 100000 in
theorem zs_X10_named_129 {l : Launch} {s0 : State} {a0 : Array Value} {G : va_G} {ca : Nat → ClassId} (Γ : rt_Γ l s0 a0 G ca) {d : Nat} {C : Nat × Nat} {S : zS} (hd : 1 ≤ d) (hok : zok C) {t : Int} (ht : zTx S t) {w0 : rt_Wd} {v1 : Int} {v2 : Int} {v3 : Int} {v4 : Int} {k0 : Int}  {M : zM} {Q : Int → zM → Prop} {X : zM → Prop} (h : zt_X10_named_129 l s0 G ca d C S w0 t v1 v2 v3 v4 k0 M Q X) : zg_X10_named_129 l s0 G ca d C S w0 t v1 v2 v3 v4 k0 M Q X := by
  unfold zt_X10_named_129 at h
  refine z_istore (i := 5) (lv' := [(5, zv s0 0 k0), (0, zv s0 2 t), (1, zv s0 0 v1), (2, zv s0 0 v2), (3, zv s0 0 v3), (4, zv s0 0 v4)]) dX10_named_129 (by decide) (by simp [zv_cat0, zv_cat1, zv_cat2, zv_cats]) ?_
  refine z_aload_n dX10_named_131 rfl (j := 1) rfl ?_
  refine z_iload dX10_named_132 (j := 0) rfl ?_
  refine z_bipush dX10_named_134 (by decide) ?_
  refine z_aload_n dX10_named_136 rfl (j := 1) rfl ?_
  refine z_getc Γ kf_RX10_19 dX10_named_137 ht.1 ht.2.1 rfl ?_
  refine z_iload dX10_named_140 (j := 5) rfl ?_
  obtain ⟨hi142, h⟩ := h
  refine z_iald Γ dX10_named_142 (by have := ht.1; omega) ht.2.2.2.2.1 (by decide) hi142 (v9 := M (t + 3) v4) rfl ?_
  refine z_callV Γ kk_X10_need kc_RX10_105 (As := [zv s0 0 k0, zv s0 0 9, zv s0 0 (M (t + 3) v4)]) h (by omega) (by decide) (show (parseMethodDescriptor yX10_need.desc).map (fun q => q.parameters.length) = some 3 by decide +kernel) hok (Nat.zero_le _) dX10_named_143 ht.1 ht.2.1 rfl rfl (fun _ h9 => nomatch h9) ?_
  clear h
  intro r143 M143 h
  show rt_Go _ _ _ _ _ _ _ _ _ _ _ _ 146 [(5, zv s0 0 k0), (0, zv s0 2 t), (1, zv s0 0 v1), (2, zv s0 0 v2), (3, zv s0 0 v3), (4, zv s0 0 v4)] [] (zw s0 ca C S M143)
  refine z_aload_n dX10_named_146 rfl (j := 1) rfl ?_
  refine z_aload_n dX10_named_147 rfl (j := 1) rfl ?_
  refine z_iload_n dX10_named_148 rfl (j := 3) rfl ?_
  obtain ⟨q149, hq149a, hq149b⟩ := ks_RX10_232 Γ
  have hq149 : zstr s0 q149 [102, 105, 120, 101, 100] := ⟨hq149b, by decide, by decide⟩
  replace h := h q149 hq149
  refine rt_ldcS Γ hq149a dX10_named_149 ?_
  refine z_callV Γ kk_X10_is kc_RX10_177 (As := [zv s0 0 v2, .ref q149]) h (by omega) (by decide) (show (parseMethodDescriptor yX10_is.desc).map (fun q => q.parameters.length) = some 2 by decide +kernel) hok (by simp only [List.map, zv_cat0, zv_cat1, zv_cat2, List.sum_cons, List.sum_nil]; decide) dX10_named_151 ht.1 ht.2.1 rfl rfl (fun _ h9 => nomatch h9) ?_
  clear h
  intro r151 M151 h
  show rt_Go _ _ _ _ _ _ _ _ _ _ _ _ 154 [(5, zv s0 0 k0), (0, zv s0 2 t), (1, zv s0 0 v1), (2, zv s0 0 v2), (3, zv s0 0 v3), (4, zv s0 0 v4)] [zv s0 0 r151, zv s0 2 t] (zw s0 ca C S M151)
  refine z_if_eq (tgt := 162) (x' := w32 r151) rfl dX10_named_154 (by decide) (fun c154 => ?_) (fun c154 => ?_)
  · replace h := h.1 c154
    refine z_aload_n dX10_named_162 rfl (j := 1) rfl ?_
    refine z_iload_n dX10_named_163 rfl (j := 3) rfl ?_
    obtain ⟨q164, hq164a, hq164b⟩ := ks_RX10_234 Γ
    have hq164 : zstr s0 q164 [101, 110, 117, 109] := ⟨hq164b, by decide, by decide⟩
    replace h := h q164 hq164
    refine rt_ldcS Γ hq164a dX10_named_164 ?_
    refine z_callV Γ kk_X10_is kc_RX10_177 (As := [zv s0 0 v2, .ref q164]) h (by omega) (by decide) (show (parseMethodDescriptor yX10_is.desc).map (fun q => q.parameters.length) = some 2 by decide +kernel) hok (by simp only [List.map, zv_cat0, zv_cat1, zv_cat2, List.sum_cons, List.sum_nil]; decide) dX10_named_166 ht.1 ht.2.1 rfl rfl (fun _ h9 => nomatch h9) ?_
    clear h
    intro r166 M166 h
    show rt_Go _ _ _ _ _ _ _ _ _ _ _ _ 169 [(5, zv s0 0 k0), (0, zv s0 2 t), (1, zv s0 0 v1), (2, zv s0 0 v2), (3, zv s0 0 v3), (4, zv s0 0 v4)] [zv s0 0 r166, zv s0 2 t] (zw s0 ca C S M166)
    refine z_if_eq (tgt := 177) (x' := w32 r166) rfl dX10_named_169 (by decide) (fun c169 => ?_) (fun c169 => ?_)
    · replace h := h.1 c169
      refine z_bipush dX10_named_177 (by decide) ?_
      exact rt_lfew [1, 2, 4, 5] rfl (zs_X10_named_179 Γ hd hok ht  h)
    · replace h := h.2 c169
      refine z_bipush dX10_named_172 (by decide) ?_
      refine rt_goto (tgt := 179) dX10_named_174 (by decide) ?_
      exact rt_lfew [1, 2, 4, 5] rfl (zs_X10_named_179 Γ hd hok ht  h)
  · replace h := h.2 c154
    refine z_bipush dX10_named_157 (by decide) ?_
    refine rt_goto (tgt := 179) dX10_named_159 (by decide) ?_
    exact rt_lfew [1, 2, 4, 5] rfl (zs_X10_named_179 Γ hd hok ht  h)

def zt_X10_named_128 (l : Launch) (s0 : State) (G : va_G) (ca : Nat → ClassId) (d : Nat) (C : Nat × Nat) (S : zS) (w0 : rt_Wd) (t : Int) (v1 : Int) (v2 : Int) (v3 : Int) (v4 : Int)  (M : zM) (Q : Int → zM → Prop) (X : zM → Prop) : Prop :=
  zt_X10_named_129 l s0 G ca d C S w0 t v1 v2 v3 v4 0 M Q X
set_option maxRecDepth 100000 in
theorem zs_X10_named_128 {l : Launch} {s0 : State} {a0 : Array Value} {G : va_G} {ca : Nat → ClassId} (Γ : rt_Γ l s0 a0 G ca) {d : Nat} {C : Nat × Nat} {S : zS} (hd : 1 ≤ d) (hok : zok C) {t : Int} (ht : zTx S t) {w0 : rt_Wd} {v1 : Int} {v2 : Int} {v3 : Int} {v4 : Int}   {M : zM} {Q : Int → zM → Prop} {X : zM → Prop} (h : zt_X10_named_128 l s0 G ca d C S w0 t v1 v2 v3 v4 M Q X) : zg_X10_named_128 l s0 G ca d C S w0 t v1 v2 v3 v4 M Q X := by
  unfold zt_X10_named_128 at h
  refine z_iconst dX10_named_128 ?_
  exact rt_lfew [0, 1, 2, 3, 4] rfl (zs_X10_named_129 Γ hd hok ht  h)

def zt_X10_named_31 (l : Launch) (s0 : State) (G : va_G) (ca : Nat → ClassId) (d : Nat) (C : Nat × Nat) (S : zS) (w0 : rt_Wd) (t : Int) (v1 : Int) (v2 : Int) (v3 : Int) (v4 : Int) (k0 : Int) (M : zM) (Q : Int → zM → Prop) (X : zM → Prop) : Prop :=
  (0 ≤ v1 ∧ v1 < 4200) ∧ (zm_X10_need l s0 G ca (d - 1) C S t k0 8 (M (t + 3) v1) M (fun r39 M39 => zm_X10_isName l s0 G ca (d - 1) C S t v4 M39 (fun r45 M45 => zIf (w32 r45 = 0) (zt_X10_named_128 l s0 G ca d C S w0 t v1 v2 v3 v4 M45 Q X) (zm_X10_word l s0 G ca (d - 1) C S t v4 M45 (fun r54 M54 => zIf (0 ≤ w32 r54) (zt_X10_named_128 l s0 G ca d C S w0 t v1 v2 v3 v4 M54 Q X) (∀ q63 : Nat, zstr s0 q63 [97, 114, 114, 97, 121] → (zm_X10_is l s0 G ca (d - 1) C S t v4 q63 M54 (fun r65 M65 => zIf (w32 r65 = 0) (∀ q74 : Nat, zstr s0 q74 [109, 97, 112] → (zm_X10_is l s0 G ca (d - 1) C S t v4 q74 M65 (fun r76 M76 => zIf (w32 r76 = 0) (∀ q85 : Nat, zstr s0 q85 [102, 105, 120, 101, 100] → (zm_X10_is l s0 G ca (d - 1) C S t v4 q85 M76 (fun r87 M87 => zIf (w32 r87 = 0) (∀ q96 : Nat, zstr s0 q96 [101, 110, 117, 109] → (zm_X10_is l s0 G ca (d - 1) C S t v4 q96 M87 (fun r98 M98 => zIf (w32 r98 = 0) (∀ q107 : Nat, zstr s0 q107 [114, 101, 99, 111, 114, 100] → (zm_X10_is l s0 G ca (d - 1) C S t v4 q107 M98 (fun r109 M109 => zIf (w32 r109 = 0) (zm_X10_defined l s0 G ca (d - 1) C S t v4 M109 (fun r118 M118 => zIf (0 ≤ w32 r118) (zt_X10_named_128 l s0 G ca d C S w0 t v1 v2 v3 v4 M118 Q X) (zt_X10_named_129 l s0 G ca d C S w0 t v1 v2 v3 v4 1 M118 Q X)) X) (zt_X10_named_128 l s0 G ca d C S w0 t v1 v2 v3 v4 M109 Q X)) X)) (zt_X10_named_128 l s0 G ca d C S w0 t v1 v2 v3 v4 M98 Q X)) X)) (zt_X10_named_128 l s0 G ca d C S w0 t v1 v2 v3 v4 M87 Q X)) X)) (zt_X10_named_128 l s0 G ca d C S w0 t v1 v2 v3 v4 M76 Q X)) X)) (zt_X10_named_128 l s0 G ca d C S w0 t v1 v2 v3 v4 M65 Q X)) X))) X)) X) X)
set_option maxRecDepth 100000 in
theorem zs_X10_named_31 {l : Launch} {s0 : State} {a0 : Array Value} {G : va_G} {ca : Nat → ClassId} (Γ : rt_Γ l s0 a0 G ca) {d : Nat} {C : Nat × Nat} {S : zS} (hd : 1 ≤ d) (hok : zok C) {t : Int} (ht : zTx S t) {w0 : rt_Wd} {v1 : Int} {v2 : Int} {v3 : Int} {v4 : Int} {k0 : Int}  {M : zM} {Q : Int → zM → Prop} {X : zM → Prop} (h : zt_X10_named_31 l s0 G ca d C S w0 t v1 v2 v3 v4 k0 M Q X) : zg_X10_named_31 l s0 G ca d C S w0 t v1 v2 v3 v4 k0 M Q X := by
  unfold zt_X10_named_31 at h
  refine z_bipush dX10_named_31 (by decide) ?_
  refine z_aload_n dX10_named_33 rfl (j := 0) rfl ?_
  refine z_getc Γ kf_RX10_19 dX10_named_34 ht.1 ht.2.1 rfl ?_
  refine z_iload_n dX10_named_37 rfl (j := 1) rfl ?_
  obtain ⟨hi38, h⟩ := h
  refine z_iald Γ dX10_named_38 (by have := ht.1; omega) ht.2.2.2.2.1 (by decide) hi38 (v9 := M (t + 3) v1) rfl ?_
  refine z_callV Γ kk_X10_need kc_RX10_105 (As := [zv s0 0 k0, zv s0 0 8, zv s0 0 (M (t + 3) v1)]) h (by omega) (by decide) (show (parseMethodDescriptor yX10_need.desc).map (fun q => q.parameters.length) = some 3 by decide +kernel) hok (Nat.zero_le _) dX10_named_39 ht.1 ht.2.1 rfl rfl (fun _ h9 => nomatch h9) ?_
  clear h
  intro r39 M39 h
  show rt_Go _ _ _ _ _ _ _ _ _ _ _ _ 42 [(0, zv s0 2 t), (1, zv s0 0 v1), (2, zv s0 0 v2), (3, zv s0 0 v3), (4, zv s0 0 v4)] [] (zw s0 ca C S M39)
  refine z_aload_n dX10_named_42 rfl (j := 0) rfl ?_
  refine z_iload dX10_named_43 (j := 4) rfl ?_
  refine z_callV Γ kk_X10_isName kc_RX10_248 (As := [zv s0 0 v4]) h (by omega) (by decide) (show (parseMethodDescriptor yX10_isName.desc).map (fun q => q.parameters.length) = some 1 by decide +kernel) hok (Nat.zero_le _) dX10_named_45 ht.1 ht.2.1 rfl rfl (fun _ h9 => nomatch h9) ?_
  clear h
  intro r45 M45 h
  show rt_Go _ _ _ _ _ _ _ _ _ _ _ _ 48 [(0, zv s0 2 t), (1, zv s0 0 v1), (2, zv s0 0 v2), (3, zv s0 0 v3), (4, zv s0 0 v4)] [zv s0 0 r45] (zw s0 ca C S M45)
  refine z_if_eq (tgt := 128) (x' := w32 r45) rfl dX10_named_48 (by decide) (fun c48 => ?_) (fun c48 => ?_)
  · replace h := h.1 c48
    exact rt_lfew [0, 1, 2, 3, 4] rfl (zs_X10_named_128 Γ hd hok ht  h)
  · replace h := h.2 c48
    refine z_aload_n dX10_named_51 rfl (j := 0) rfl ?_
    refine z_iload dX10_named_52 (j := 4) rfl ?_
    refine z_callV Γ kk_X10_word kc_RX10_198 (As := [zv s0 0 v4]) h (by omega) (by decide) (show (parseMethodDescriptor yX10_word.desc).map (fun q => q.parameters.length) = some 1 by decide +kernel) hok (Nat.zero_le _) dX10_named_54 ht.1 ht.2.1 rfl rfl (fun _ h9 => nomatch h9) ?_
    clear h
    intro r54 M54 h
    show rt_Go _ _ _ _ _ _ _ _ _ _ _ _ 57 [(0, zv s0 2 t), (1, zv s0 0 v1), (2, zv s0 0 v2), (3, zv s0 0 v3), (4, zv s0 0 v4)] [zv s0 0 r54] (zw s0 ca C S M54)
    refine z_if_ge (tgt := 128) (x' := w32 r54) rfl dX10_named_57 (by decide) (fun c57 => ?_) (fun c57 => ?_)
    · replace h := h.1 c57
      exact rt_lfew [0, 1, 2, 3, 4] rfl (zs_X10_named_128 Γ hd hok ht  h)
    · replace h := h.2 c57
      refine z_aload_n dX10_named_60 rfl (j := 0) rfl ?_
      refine z_iload dX10_named_61 (j := 4) rfl ?_
      obtain ⟨q63, hq63a, hq63b⟩ := ks_RX10_214 Γ
      have hq63 : zstr s0 q63 [97, 114, 114, 97, 121] := ⟨hq63b, by decide, by decide⟩
      replace h := h q63 hq63
      refine rt_ldcS Γ hq63a dX10_named_63 ?_
      refine z_callV Γ kk_X10_is kc_RX10_177 (As := [zv s0 0 v4, .ref q63]) h (by omega) (by decide) (show (parseMethodDescriptor yX10_is.desc).map (fun q => q.parameters.length) = some 2 by decide +kernel) hok (Nat.zero_le _) dX10_named_65 ht.1 ht.2.1 rfl rfl (fun _ h9 => nomatch h9) ?_
      clear h
      intro r65 M65 h
      show rt_Go _ _ _ _ _ _ _ _ _ _ _ _ 68 [(0, zv s0 2 t), (1, zv s0 0 v1), (2, zv s0 0 v2), (3, zv s0 0 v3), (4, zv s0 0 v4)] [zv s0 0 r65] (zw s0 ca C S M65)
      refine z_if_ne (tgt := 128) (x' := w32 r65) rfl dX10_named_68 (by decide) (fun c68 => ?_) (fun c68 => ?_)
      · replace h := h.2 c68
        exact rt_lfew [0, 1, 2, 3, 4] rfl (zs_X10_named_128 Γ hd hok ht  h)
      · replace h := h.1 c68
        refine z_aload_n dX10_named_71 rfl (j := 0) rfl ?_
        refine z_iload dX10_named_72 (j := 4) rfl ?_
        obtain ⟨q74, hq74a, hq74b⟩ := ks_RX10_216 Γ
        have hq74 : zstr s0 q74 [109, 97, 112] := ⟨hq74b, by decide, by decide⟩
        replace h := h q74 hq74
        refine rt_ldcS Γ hq74a dX10_named_74 ?_
        refine z_callV Γ kk_X10_is kc_RX10_177 (As := [zv s0 0 v4, .ref q74]) h (by omega) (by decide) (show (parseMethodDescriptor yX10_is.desc).map (fun q => q.parameters.length) = some 2 by decide +kernel) hok (Nat.zero_le _) dX10_named_76 ht.1 ht.2.1 rfl rfl (fun _ h9 => nomatch h9) ?_
        clear h
        intro r76 M76 h
        show rt_Go _ _ _ _ _ _ _ _ _ _ _ _ 79 [(0, zv s0 2 t), (1, zv s0 0 v1), (2, zv s0 0 v2), (3, zv s0 0 v3), (4, zv s0 0 v4)] [zv s0 0 r76] (zw s0 ca C S M76)
        refine z_if_ne (tgt := 128) (x' := w32 r76) rfl dX10_named_79 (by decide) (fun c79 => ?_) (fun c79 => ?_)
        · replace h := h.2 c79
          exact rt_lfew [0, 1, 2, 3, 4] rfl (zs_X10_named_128 Γ hd hok ht  h)
        · replace h := h.1 c79
          refine z_aload_n dX10_named_82 rfl (j := 0) rfl ?_
          refine z_iload dX10_named_83 (j := 4) rfl ?_
          obtain ⟨q85, hq85a, hq85b⟩ := ks_RX10_232 Γ
          have hq85 : zstr s0 q85 [102, 105, 120, 101, 100] := ⟨hq85b, by decide, by decide⟩
          replace h := h q85 hq85
          refine rt_ldcS Γ hq85a dX10_named_85 ?_
          refine z_callV Γ kk_X10_is kc_RX10_177 (As := [zv s0 0 v4, .ref q85]) h (by omega) (by decide) (show (parseMethodDescriptor yX10_is.desc).map (fun q => q.parameters.length) = some 2 by decide +kernel) hok (Nat.zero_le _) dX10_named_87 ht.1 ht.2.1 rfl rfl (fun _ h9 => nomatch h9) ?_
          clear h
          intro r87 M87 h
          show rt_Go _ _ _ _ _ _ _ _ _ _ _ _ 90 [(0, zv s0 2 t), (1, zv s0 0 v1), (2, zv s0 0 v2), (3, zv s0 0 v3), (4, zv s0 0 v4)] [zv s0 0 r87] (zw s0 ca C S M87)
          refine z_if_ne (tgt := 128) (x' := w32 r87) rfl dX10_named_90 (by decide) (fun c90 => ?_) (fun c90 => ?_)
          · replace h := h.2 c90
            exact rt_lfew [0, 1, 2, 3, 4] rfl (zs_X10_named_128 Γ hd hok ht  h)
          · replace h := h.1 c90
            refine z_aload_n dX10_named_93 rfl (j := 0) rfl ?_
            refine z_iload dX10_named_94 (j := 4) rfl ?_
            obtain ⟨q96, hq96a, hq96b⟩ := ks_RX10_234 Γ
            have hq96 : zstr s0 q96 [101, 110, 117, 109] := ⟨hq96b, by decide, by decide⟩
            replace h := h q96 hq96
            refine rt_ldcS Γ hq96a dX10_named_96 ?_
            refine z_callV Γ kk_X10_is kc_RX10_177 (As := [zv s0 0 v4, .ref q96]) h (by omega) (by decide) (show (parseMethodDescriptor yX10_is.desc).map (fun q => q.parameters.length) = some 2 by decide +kernel) hok (Nat.zero_le _) dX10_named_98 ht.1 ht.2.1 rfl rfl (fun _ h9 => nomatch h9) ?_
            clear h
            intro r98 M98 h
            show rt_Go _ _ _ _ _ _ _ _ _ _ _ _ 101 [(0, zv s0 2 t), (1, zv s0 0 v1), (2, zv s0 0 v2), (3, zv s0 0 v3), (4, zv s0 0 v4)] [zv s0 0 r98] (zw s0 ca C S M98)
            refine z_if_ne (tgt := 128) (x' := w32 r98) rfl dX10_named_101 (by decide) (fun c101 => ?_) (fun c101 => ?_)
            · replace h := h.2 c101
              exact rt_lfew [0, 1, 2, 3, 4] rfl (zs_X10_named_128 Γ hd hok ht  h)
            · replace h := h.1 c101
              refine z_aload_n dX10_named_104 rfl (j := 0) rfl ?_
              refine z_iload dX10_named_105 (j := 4) rfl ?_
              obtain ⟨q107, hq107a, hq107b⟩ := ks_RX10_236 Γ
              have hq107 : zstr s0 q107 [114, 101, 99, 111, 114, 100] := ⟨hq107b, by decide, by decide⟩
              replace h := h q107 hq107
              refine rt_ldcS Γ hq107a dX10_named_107 ?_
              refine z_callV Γ kk_X10_is kc_RX10_177 (As := [zv s0 0 v4, .ref q107]) h (by omega) (by decide) (show (parseMethodDescriptor yX10_is.desc).map (fun q => q.parameters.length) = some 2 by decide +kernel) hok (Nat.zero_le _) dX10_named_109 ht.1 ht.2.1 rfl rfl (fun _ h9 => nomatch h9) ?_
              clear h
              intro r109 M109 h
              show rt_Go _ _ _ _ _ _ _ _ _ _ _ _ 112 [(0, zv s0 2 t), (1, zv s0 0 v1), (2, zv s0 0 v2), (3, zv s0 0 v3), (4, zv s0 0 v4)] [zv s0 0 r109] (zw s0 ca C S M109)
              refine z_if_ne (tgt := 128) (x' := w32 r109) rfl dX10_named_112 (by decide) (fun c112 => ?_) (fun c112 => ?_)
              · replace h := h.2 c112
                exact rt_lfew [0, 1, 2, 3, 4] rfl (zs_X10_named_128 Γ hd hok ht  h)
              · replace h := h.1 c112
                refine z_aload_n dX10_named_115 rfl (j := 0) rfl ?_
                refine z_iload dX10_named_116 (j := 4) rfl ?_
                refine z_callV Γ kk_X10_defined kc_RX10_201 (As := [zv s0 0 v4]) h (by omega) (by decide) (show (parseMethodDescriptor yX10_defined.desc).map (fun q => q.parameters.length) = some 1 by decide +kernel) hok (Nat.zero_le _) dX10_named_118 ht.1 ht.2.1 rfl rfl (fun _ h9 => nomatch h9) ?_
                clear h
                intro r118 M118 h
                show rt_Go _ _ _ _ _ _ _ _ _ _ _ _ 121 [(0, zv s0 2 t), (1, zv s0 0 v1), (2, zv s0 0 v2), (3, zv s0 0 v3), (4, zv s0 0 v4)] [zv s0 0 r118] (zw s0 ca C S M118)
                refine z_if_ge (tgt := 128) (x' := w32 r118) rfl dX10_named_121 (by decide) (fun c121 => ?_) (fun c121 => ?_)
                · replace h := h.1 c121
                  exact rt_lfew [0, 1, 2, 3, 4] rfl (zs_X10_named_128 Γ hd hok ht  h)
                · replace h := h.2 c121
                  refine z_iconst dX10_named_124 ?_
                  refine rt_goto (tgt := 129) dX10_named_125 (by decide) ?_
                  exact rt_lfew [0, 1, 2, 3, 4] rfl (zs_X10_named_129 Γ hd hok ht  h)

def zt_X10_named_30 (l : Launch) (s0 : State) (G : va_G) (ca : Nat → ClassId) (d : Nat) (C : Nat × Nat) (S : zS) (w0 : rt_Wd) (t : Int) (v1 : Int) (v2 : Int) (v3 : Int) (v4 : Int)  (M : zM) (Q : Int → zM → Prop) (X : zM → Prop) : Prop :=
  zt_X10_named_31 l s0 G ca d C S w0 t v1 v2 v3 v4 0 M Q X
set_option maxRecDepth 100000 in
theorem zs_X10_named_30 {l : Launch} {s0 : State} {a0 : Array Value} {G : va_G} {ca : Nat → ClassId} (Γ : rt_Γ l s0 a0 G ca) {d : Nat} {C : Nat × Nat} {S : zS} (hd : 1 ≤ d) (hok : zok C) {t : Int} (ht : zTx S t) {w0 : rt_Wd} {v1 : Int} {v2 : Int} {v3 : Int} {v4 : Int}   {M : zM} {Q : Int → zM → Prop} {X : zM → Prop} (h : zt_X10_named_30 l s0 G ca d C S w0 t v1 v2 v3 v4 M Q X) : zg_X10_named_30 l s0 G ca d C S w0 t v1 v2 v3 v4 M Q X := by
  unfold zt_X10_named_30 at h
  refine z_iconst dX10_named_30 ?_
  exact rt_lfew [0, 1, 2, 3, 4] rfl (zs_X10_named_31 Γ hd hok ht  h)

def zt_X10_named (l : Launch) (s0 : State) (G : va_G) (ca : Nat → ClassId) (d : Nat) (C : Nat × Nat) (S : zS) (w0 : rt_Wd) (t : Int) (v : Int) (k : Int) (e : Int) (M : zM) (Q : Int → zM → Prop) (X : zM → Prop) : Prop :=
  ∀ q2 : Nat, zstr s0 q2 [110, 97, 109, 101] → (zm_X10_member l s0 G ca (d - 1) C S t v q2 M (fun r4 M4 => zIf (w32 r4 < 0) (zt_X10_named_30 l s0 G ca d C S w0 t v k e r4 M4 Q X) ((0 ≤ r4 ∧ r4 < 4200) ∧ (zIf (w32 (M4 (t + 2) r4) = 2) (zt_X10_named_31 l s0 G ca d C S w0 t v k e r4 1 M4 Q X) (zt_X10_named_30 l s0 G ca d C S w0 t v k e r4 M4 Q X)))) X)
set_option maxRecDepth 100000 in
theorem z_X10_named {l : Launch} {s0 : State} {a0 : Array Value} {G : va_G} {ca : Nat → ClassId} (Γ : rt_Γ l s0 a0 G ca) {d : Nat} {C : Nat × Nat} {S : zS} (hd : 1 ≤ d) (hok : zok C) {t : Int} (ht : zTx S t) {v : Int} {k : Int} {e : Int} {M : zM} {Q : Int → zM → Prop} {X : zM → Prop} (h : zt_X10_named l s0 G ca d C S (zw s0 ca C S M) t v k e M Q X) : zm_X10_named l s0 G ca d C S t v k e M Q X := by
  refine z_met (lv := [(0, zv s0 2 t), (1, zv s0 0 v), (2, zv s0 0 k), (3, zv s0 0 e)]) Γ kk_X10_named rfl (show (lg_sl [zv s0 2 t, zv s0 0 v, zv s0 0 k, zv s0 0 e]).length ≤ 8 from by simp only [zn_0, zn_2, show (lg_sl []).length = 0 from rfl]; omega) (show lv_args 0 [zv s0 2 t, zv s0 0 v, zv s0 0 k, zv s0 0 e] = [(0, zv s0 2 t), (1, zv s0 0 v), (2, zv s0 0 k), (3, zv s0 0 e)] from by rw [zl_2, zl_0, zl_0, zl_0]; rfl) ?_
  unfold zt_X10_named at h
  refine z_aload_n dX10_named_0 rfl (j := 0) rfl ?_
  refine z_iload_n dX10_named_1 rfl (j := 1) rfl ?_
  obtain ⟨q2, hq2a, hq2b⟩ := ks_RX10_246 Γ
  have hq2 : zstr s0 q2 [110, 97, 109, 101] := ⟨hq2b, by decide, by decide⟩
  replace h := h q2 hq2
  refine rt_ldcS Γ hq2a dX10_named_2 ?_
  refine z_callV Γ kk_X10_member kc_RX10_210 (As := [zv s0 0 v, .ref q2]) h (by omega) (by decide) (show (parseMethodDescriptor yX10_member.desc).map (fun q => q.parameters.length) = some 2 by decide +kernel) hok (Nat.zero_le _) dX10_named_4 ht.1 ht.2.1 rfl rfl (fun _ h9 => nomatch h9) ?_
  clear h
  intro r4 M4 h
  show rt_Go _ _ _ _ _ _ _ _ _ _ _ _ 7 [(0, zv s0 2 t), (1, zv s0 0 v), (2, zv s0 0 k), (3, zv s0 0 e)] [zv s0 0 r4] (zw s0 ca C S M4)
  refine z_istore (i := 4) (lv' := [(4, zv s0 0 r4), (0, zv s0 2 t), (1, zv s0 0 v), (2, zv s0 0 k), (3, zv s0 0 e)]) dX10_named_7 (by decide) (by simp [zv_cat0, zv_cat1, zv_cat2, zv_cats]) ?_
  refine z_aload_n dX10_named_9 rfl (j := 1) rfl ?_
  refine z_iload dX10_named_10 (j := 0) rfl ?_
  refine z_if_lt (tgt := 30) (x' := w32 r4) rfl dX10_named_12 (by decide) (fun c12 => ?_) (fun c12 => ?_)
  · replace h := h.1 c12
    exact rt_lfew [1, 2, 3, 4, 0] rfl (zs_X10_named_30 Γ hd hok ht  h)
  · replace h := h.2 c12
    refine z_aload_n dX10_named_15 rfl (j := 1) rfl ?_
    refine z_getc Γ kf_RX10_15 dX10_named_16 ht.1 ht.2.1 rfl ?_
    refine z_iload dX10_named_19 (j := 0) rfl ?_
    obtain ⟨hi21, h⟩ := h
    refine z_iald Γ dX10_named_21 (by have := ht.1; omega) ht.2.2.2.1 (by decide) hi21 (v9 := M4 (t + 2) r4) rfl ?_
    refine z_iconst dX10_named_22 ?_
    refine z_icmp_ne (tgt := 30) (x' := w32 (M4 (t + 2) r4)) (y' := 2) rfl (by decide) dX10_named_23 (by decide) (fun c23 => ?_) (fun c23 => ?_)
    · replace h := h.2 c23
      exact rt_lfew [1, 2, 3, 4, 0] rfl (zs_X10_named_30 Γ hd hok ht  h)
    · replace h := h.1 c23
      refine z_iconst dX10_named_26 ?_
      refine rt_goto (tgt := 31) dX10_named_27 (by decide) ?_
      exact rt_lfew [1, 2, 3, 4, 0] rfl (zs_X10_named_31 Γ hd hok ht  h)

abbrev zg_X10_schemaOf_16 (l : Launch) (s0 : State) (G : va_G) (ca : Nat → ClassId) (d : Nat) (C : Nat × Nat) (S : zS) (w0 : rt_Wd) (t : Int) (v1 : Int) (v2 : Int) (v3 : Int) (k0 : Int) (M : zM) (Q : Int → zM → Prop) (X : zM → Prop) : Prop := rt_Go l s0 G RX10 "schemaOf" cX10_schemaOf 9 (Option.some FieldType.int) [] d w0 (zQ s0 ca 0 C S Q X) 16 [(0, zv s0 2 t), (1, zv s0 0 v1), (2, zv s0 0 v2), (3, zv s0 0 v3)] [zv s0 0 k0, zv s0 2 t] (zw s0 ca C S M)
abbrev zg_X10_schemaOf_49 (l : Launch) (s0 : State) (G : va_G) (ca : Nat → ClassId) (d : Nat) (C : Nat × Nat) (S : zS) (w0 : rt_Wd) (t : Int) (v1 : Int) (v2 : Int) (v3 : Int) (k0 : Int) (M : zM) (Q : Int → zM → Prop) (X : zM → Prop) : Prop := rt_Go l s0 G RX10 "schemaOf" cX10_schemaOf 9 (Option.some FieldType.int) [] d w0 (zQ s0 ca 0 C S Q X) 49 [(0, zv s0 2 t), (1, zv s0 0 v1), (2, zv s0 0 v2), (3, zv s0 0 v3)] [zv s0 0 k0, zv s0 2 t] (zw s0 ca C S M)
abbrev zg_X10_schemaOf_92 (l : Launch) (s0 : State) (G : va_G) (ca : Nat → ClassId) (d : Nat) (C : Nat × Nat) (S : zS) (w0 : rt_Wd) (t : Int) (v1 : Int) (k0 : Int) (M : zM) (Q : Int → zM → Prop) (X : zM → Prop) : Prop := rt_Go l s0 G RX10 "schemaOf" cX10_schemaOf 9 (Option.some FieldType.int) [] d w0 (zQ s0 ca 0 C S Q X) 92 [(0, zv s0 2 t), (1, zv s0 0 v1)] [zv s0 0 k0] (zw s0 ca C S M)
abbrev zg_X10_schemaOf_105 (l : Launch) (s0 : State) (G : va_G) (ca : Nat → ClassId) (d : Nat) (C : Nat × Nat) (S : zS) (w0 : rt_Wd) (t : Int) (v1 : Int) (v5 : Int) (k0 : Int) (M : zM) (Q : Int → zM → Prop) (X : zM → Prop) : Prop := rt_Go l s0 G RX10 "schemaOf" cX10_schemaOf 9 (Option.some FieldType.int) [] d w0 (zQ s0 ca 0 C S Q X) 105 [(0, zv s0 2 t), (1, zv s0 0 v1), (5, zv s0 0 v5)] [zv s0 0 k0, zv s0 2 t] (zw s0 ca C S M)
abbrev zg_X10_schemaOf_151 (l : Launch) (s0 : State) (G : va_G) (ca : Nat → ClassId) (d : Nat) (C : Nat × Nat) (S : zS) (w0 : rt_Wd) (t : Int) (v1 : Int) (v2 : Int) (k0 : Int) (M : zM) (Q : Int → zM → Prop) (X : zM → Prop) : Prop := rt_Go l s0 G RX10 "schemaOf" cX10_schemaOf 9 (Option.some FieldType.int) [] d w0 (zQ s0 ca 0 C S Q X) 151 [(0, zv s0 2 t), (1, zv s0 0 v1), (2, zv s0 0 v2)] [zv s0 0 k0, zv s0 2 t] (zw s0 ca C S M)
abbrev zg_X10_schemaOf_191 (l : Launch) (s0 : State) (G : va_G) (ca : Nat → ClassId) (d : Nat) (C : Nat × Nat) (S : zS) (w0 : rt_Wd) (t : Int) (v1 : Int) (v2 : Int) (v4 : Int)  (M : zM) (Q : Int → zM → Prop) (X : zM → Prop) : Prop := rt_Go l s0 G RX10 "schemaOf" cX10_schemaOf 9 (Option.some FieldType.int) [] d w0 (zQ s0 ca 0 C S Q X) 191 [(0, zv s0 2 t), (1, zv s0 0 v1), (2, zv s0 0 v2), (4, zv s0 0 v4)] [zv s0 2 t] (zw s0 ca C S M)
abbrev zg_X10_schemaOf_192 (l : Launch) (s0 : State) (G : va_G) (ca : Nat → ClassId) (d : Nat) (C : Nat × Nat) (S : zS) (w0 : rt_Wd) (t : Int) (v1 : Int) (v2 : Int) (v4 : Int) (k0 : Int) (M : zM) (Q : Int → zM → Prop) (X : zM → Prop) : Prop := rt_Go l s0 G RX10 "schemaOf" cX10_schemaOf 9 (Option.some FieldType.int) [] d w0 (zQ s0 ca 0 C S Q X) 192 [(0, zv s0 2 t), (1, zv s0 0 v1), (2, zv s0 0 v2), (4, zv s0 0 v4)] [zv s0 0 k0, zv s0 2 t] (zw s0 ca C S M)
abbrev zg_X10_schemaOf_241 (l : Launch) (s0 : State) (G : va_G) (ca : Nat → ClassId) (d : Nat) (C : Nat × Nat) (S : zS) (w0 : rt_Wd) (t : Int) (v1 : Int) (v2 : Int) (v4 : Int)  (M : zM) (Q : Int → zM → Prop) (X : zM → Prop) : Prop := rt_Go l s0 G RX10 "schemaOf" cX10_schemaOf 9 (Option.some FieldType.int) [] d w0 (zQ s0 ca 0 C S Q X) 241 [(0, zv s0 2 t), (1, zv s0 0 v1), (2, zv s0 0 v2), (4, zv s0 0 v4)] [] (zw s0 ca C S M)
abbrev zg_X10_schemaOf_265 (l : Launch) (s0 : State) (G : va_G) (ca : Nat → ClassId) (d : Nat) (C : Nat × Nat) (S : zS) (w0 : rt_Wd) (t : Int) (v1 : Int) (v2 : Int) (v5 : Int) (k0 : Nat) (k0b : List Int) (k1 : Int) (M : zM) (Q : Int → zM → Prop) (X : zM → Prop) : Prop := rt_Go l s0 G RX10 "schemaOf" cX10_schemaOf 9 (Option.some FieldType.int) [] d w0 (zQ s0 ca 0 C S Q X) 265 [(0, zv s0 2 t), (1, zv s0 0 v1), (2, zv s0 0 v2), (5, zv s0 0 v5)] [.ref k0, zv s0 0 k1, zv s0 2 t] (zw s0 ca C S M)
abbrev zg_X10_schemaOf_281 (l : Launch) (s0 : State) (G : va_G) (ca : Nat → ClassId) (d : Nat) (C : Nat × Nat) (S : zS) (w0 : rt_Wd) (t : Int) (v1 : Int) (v2 : Int) (v5 : Int) (v6 : Int) (k0 : Int) (M : zM) (Q : Int → zM → Prop) (X : zM → Prop) : Prop := rt_Go l s0 G RX10 "schemaOf" cX10_schemaOf 9 (Option.some FieldType.int) [] d w0 (zQ s0 ca 0 C S Q X) 281 [(0, zv s0 2 t), (1, zv s0 0 v1), (2, zv s0 0 v2), (5, zv s0 0 v5), (6, zv s0 0 v6)] [zv s0 0 k0, zv s0 2 t] (zw s0 ca C S M)
abbrev zg_X10_schemaOf_305 (l : Launch) (s0 : State) (G : va_G) (ca : Nat → ClassId) (d : Nat) (C : Nat × Nat) (S : zS) (w0 : rt_Wd) (t : Int) (v2 : Int) (v6 : Int) (k0 : Int) (M : zM) (Q : Int → zM → Prop) (X : zM → Prop) : Prop := rt_Go l s0 G RX10 "schemaOf" cX10_schemaOf 9 (Option.some FieldType.int) [] d w0 (zQ s0 ca 0 C S Q X) 305 [(0, zv s0 2 t), (2, zv s0 0 v2), (6, zv s0 0 v6)] [zv s0 0 k0, zv s0 2 t] (zw s0 ca C S M)
abbrev zg_X10_schemaOf_400 (l : Launch) (s0 : State) (G : va_G) (ca : Nat → ClassId) (d : Nat) (C : Nat × Nat) (S : zS) (w0 : rt_Wd) (t : Int) (v4 : Int) (v5 : Int) (k0 : Int) (M : zM) (Q : Int → zM → Prop) (X : zM → Prop) : Prop := rt_Go l s0 G RX10 "schemaOf" cX10_schemaOf 9 (Option.some FieldType.int) [] d w0 (zQ s0 ca 0 C S Q X) 400 [(0, zv s0 2 t), (4, zv s0 0 v4), (5, zv s0 0 v5)] [zv s0 0 k0, zv s0 2 t] (zw s0 ca C S M)
def zt_X10_schemaOf_305 (l : Launch) (s0 : State) (G : va_G) (ca : Nat → ClassId) (d : Nat) (C : Nat × Nat) (S : zS) (w0 : rt_Wd) (t : Int) (v2 : Int) (v6 : Int) (k0 : Int) (M : zM) (Q : Int → zM → Prop) (X : zM → Prop) : Prop :=
  zm_X10_shape l s0 G ca (d - 1) C S t k0 M (fun r305 M305 => zm_X10_addKid l s0 G ca (d - 1) C S t r305 ((-1)) M305 (fun r314 M314 => zm_X10_schemaOf l s0 G ca (d - 1) C S t v6 (v2 + 1) 0 M314 (fun r332 M332 => (0 ≤ r314 ∧ r314 < 2200) ∧ (Q r305 ((zu M332 (t + 15) r314 r332)))) X) X) X
set_option maxRecDepth 100000 in
theorem zs_X10_schemaOf_305 {l : Launch} {s0 : State} {a0 : Array Value} {G : va_G} {ca : Nat → ClassId} (Γ : rt_Γ l s0 a0 G ca) {d : Nat} {C : Nat × Nat} {S : zS} (hd : 1 ≤ d) (hok : zok C) {t : Int} (ht : zTx S t) {w0 : rt_Wd} {v2 : Int} {v6 : Int} {k0 : Int}  {M : zM} {Q : Int → zM → Prop} {X : zM → Prop} (h : zt_X10_schemaOf_305 l s0 G ca d C S w0 t v2 v6 k0 M Q X) : zg_X10_schemaOf_305 l s0 G ca d C S w0 t v2 v6 k0 M Q X := by
  unfold zt_X10_schemaOf_305 at h
  refine z_callV Γ kk_X10_shape kc_RX10_222 (As := [zv s0 0 k0]) h (by omega) (by decide) (show (parseMethodDescriptor yX10_shape.desc).map (fun q => q.parameters.length) = some 1 by decide +kernel) hok (Nat.zero_le _) dX10_schemaOf_305 ht.1 ht.2.1 rfl rfl (fun _ h9 => nomatch h9) ?_
  clear h
  intro r305 M305 h
  show rt_Go _ _ _ _ _ _ _ _ _ _ _ _ 308 [(0, zv s0 2 t), (2, zv s0 0 v2), (6, zv s0 0 v6)] [zv s0 0 r305] (zw s0 ca C S M305)
  refine z_istore (i := 7) (lv' := [(7, zv s0 0 r305), (0, zv s0 2 t), (2, zv s0 0 v2), (6, zv s0 0 v6)]) dX10_schemaOf_308 (by decide) (by simp [zv_cat0, zv_cat1, zv_cat2, zv_cats]) ?_
  refine z_aload_n dX10_schemaOf_310 rfl (j := 1) rfl ?_
  refine z_iload dX10_schemaOf_311 (j := 0) rfl ?_
  refine z_iconst dX10_schemaOf_313 ?_
  refine z_callV Γ kk_X10_addKid kc_RX10_225 (As := [zv s0 0 r305, zv s0 0 ((-1))]) h (by omega) (by decide) (show (parseMethodDescriptor yX10_addKid.desc).map (fun q => q.parameters.length) = some 2 by decide +kernel) hok (Nat.zero_le _) dX10_schemaOf_314 ht.1 ht.2.1 rfl rfl (fun _ h9 => nomatch h9) ?_
  clear h
  intro r314 M314 h
  show rt_Go _ _ _ _ _ _ _ _ _ _ _ _ 317 [(7, zv s0 0 r305), (0, zv s0 2 t), (2, zv s0 0 v2), (6, zv s0 0 v6)] [zv s0 0 r314] (zw s0 ca C S M314)
  refine z_istore (i := 8) (lv' := [(8, zv s0 0 r314), (7, zv s0 0 r305), (0, zv s0 2 t), (2, zv s0 0 v2), (6, zv s0 0 v6)]) dX10_schemaOf_317 (by decide) (by simp [zv_cat0, zv_cat1, zv_cat2, zv_cats]) ?_
  refine z_aload_n dX10_schemaOf_319 rfl (j := 2) rfl ?_
  refine z_getc Γ kf_RX10_56 dX10_schemaOf_320 ht.1 ht.2.1 rfl ?_
  refine z_iload dX10_schemaOf_323 (j := 0) rfl ?_
  refine z_aload_n dX10_schemaOf_325 rfl (j := 2) rfl ?_
  refine z_iload dX10_schemaOf_326 (j := 4) rfl ?_
  refine z_iload_n dX10_schemaOf_328 rfl (j := 3) rfl ?_
  refine z_iconst dX10_schemaOf_329 ?_
  refine z_iadd dX10_schemaOf_330 ?_
  refine z_iconst dX10_schemaOf_331 ?_
  refine z_callV Γ kk_X10_schemaOf kc_RX10_229 (As := [zv s0 0 v6, zv s0 0 (v2 + 1), zv s0 0 0]) h (by omega) (by decide) (show (parseMethodDescriptor yX10_schemaOf.desc).map (fun q => q.parameters.length) = some 3 by decide +kernel) hok (by simp only [List.map, zv_cat0, zv_cat1, zv_cat2, List.sum_cons, List.sum_nil]; decide) dX10_schemaOf_332 ht.1 ht.2.1 rfl rfl (fun _ h9 => nomatch h9) ?_
  clear h
  intro r332 M332 h
  show rt_Go _ _ _ _ _ _ _ _ _ _ _ _ 335 [(8, zv s0 0 r314), (7, zv s0 0 r305), (0, zv s0 2 t), (2, zv s0 0 v2), (6, zv s0 0 v6)] [zv s0 0 r332, zv s0 0 r314, zv s0 2 (t + 15)] (zw s0 ca C S M332)
  obtain ⟨hi335, h⟩ := h
  refine z_iast Γ dX10_schemaOf_335 (by have := ht.1; omega) ht.2.2.2.2.2.2.2.2.2.2.2.2.2.2.2.2.1 (by decide) hi335 ?_
  refine z_iload dX10_schemaOf_336 (j := 1) rfl ?_
  exact z_iret dX10_schemaOf_338 rfl h

def zt_X10_schemaOf_281 (l : Launch) (s0 : State) (G : va_G) (ca : Nat → ClassId) (d : Nat) (C : Nat × Nat) (S : zS) (w0 : rt_Wd) (t : Int) (v1 : Int) (v2 : Int) (v5 : Int) (v6 : Int) (k0 : Int) (M : zM) (Q : Int → zM → Prop) (X : zM → Prop) : Prop :=
  (0 ≤ v1 ∧ v1 < 4200) ∧ (zm_X10_need l s0 G ca (d - 1) C S t k0 8 (M (t + 3) v1) M (fun r289 M289 => zIf (w32 v5 = 0) (zt_X10_schemaOf_305 l s0 G ca d C S w0 t v2 v6 7 M289 Q X) (zt_X10_schemaOf_305 l s0 G ca d C S w0 t v2 v6 6 M289 Q X)) X)
set_option maxRecDepth 100000 in
theorem zs_X10_schemaOf_281 {l : Launch} {s0 : State} {a0 : Array Value} {G : va_G} {ca : Nat → ClassId} (Γ : rt_Γ l s0 a0 G ca) {d : Nat} {C : Nat × Nat} {S : zS} (hd : 1 ≤ d) (hok : zok C) {t : Int} (ht : zTx S t) {w0 : rt_Wd} {v1 : Int} {v2 : Int} {v5 : Int} {v6 : Int} {k0 : Int}  {M : zM} {Q : Int → zM → Prop} {X : zM → Prop} (h : zt_X10_schemaOf_281 l s0 G ca d C S w0 t v1 v2 v5 v6 k0 M Q X) : zg_X10_schemaOf_281 l s0 G ca d C S w0 t v1 v2 v5 v6 k0 M Q X := by
  unfold zt_X10_schemaOf_281 at h
  refine z_bipush dX10_schemaOf_281 (by decide) ?_
  refine z_aload_n dX10_schemaOf_283 rfl (j := 0) rfl ?_
  refine z_getc Γ kf_RX10_19 dX10_schemaOf_284 ht.1 ht.2.1 rfl ?_
  refine z_iload_n dX10_schemaOf_287 rfl (j := 1) rfl ?_
  obtain ⟨hi288, h⟩ := h
  refine z_iald Γ dX10_schemaOf_288 (by have := ht.1; omega) ht.2.2.2.2.1 (by decide) hi288 (v9 := M (t + 3) v1) rfl ?_
  refine z_callV Γ kk_X10_need kc_RX10_105 (As := [zv s0 0 k0, zv s0 0 8, zv s0 0 (M (t + 3) v1)]) h (by omega) (by decide) (show (parseMethodDescriptor yX10_need.desc).map (fun q => q.parameters.length) = some 3 by decide +kernel) hok (Nat.zero_le _) dX10_schemaOf_289 ht.1 ht.2.1 rfl rfl (fun _ h9 => nomatch h9) ?_
  clear h
  intro r289 M289 h
  show rt_Go _ _ _ _ _ _ _ _ _ _ _ _ 292 [(0, zv s0 2 t), (1, zv s0 0 v1), (2, zv s0 0 v2), (5, zv s0 0 v5), (6, zv s0 0 v6)] [] (zw s0 ca C S M289)
  refine z_aload_n dX10_schemaOf_292 rfl (j := 0) rfl ?_
  refine z_iload dX10_schemaOf_293 (j := 3) rfl ?_
  refine z_if_eq (tgt := 303) (x' := w32 v5) rfl dX10_schemaOf_295 (by decide) (fun c295 => ?_) (fun c295 => ?_)
  · replace h := h.1 c295
    refine z_bipush dX10_schemaOf_303 (by decide) ?_
    exact rt_lfew [0, 2, 4] rfl (zs_X10_schemaOf_305 Γ hd hok ht  h)
  · replace h := h.2 c295
    refine z_bipush dX10_schemaOf_298 (by decide) ?_
    refine rt_goto (tgt := 305) dX10_schemaOf_300 (by decide) ?_
    exact rt_lfew [0, 2, 4] rfl (zs_X10_schemaOf_305 Γ hd hok ht  h)

def zt_X10_schemaOf_265 (l : Launch) (s0 : State) (G : va_G) (ca : Nat → ClassId) (d : Nat) (C : Nat × Nat) (S : zS) (w0 : rt_Wd) (t : Int) (v1 : Int) (v2 : Int) (v5 : Int) (k0 : Nat) (k0b : List Int) (k1 : Int) (M : zM) (Q : Int → zM → Prop) (X : zM → Prop) : Prop :=
  zm_X10_member l s0 G ca (d - 1) C S t k1 k0 M (fun r265 M265 => zIf (w32 r265 < 0) (zt_X10_schemaOf_281 l s0 G ca d C S w0 t v1 v2 v5 r265 0 M265 Q X) (zt_X10_schemaOf_281 l s0 G ca d C S w0 t v1 v2 v5 r265 1 M265 Q X)) X
set_option maxRecDepth 100000 in
theorem zs_X10_schemaOf_265 {l : Launch} {s0 : State} {a0 : Array Value} {G : va_G} {ca : Nat → ClassId} (Γ : rt_Γ l s0 a0 G ca) {d : Nat} {C : Nat × Nat} {S : zS} (hd : 1 ≤ d) (hok : zok C) {t : Int} (ht : zTx S t) {w0 : rt_Wd} {v1 : Int} {v2 : Int} {v5 : Int} {k0 : Nat} {k0b : List Int} {k1 : Int} (hk0 : zstr s0 k0 k0b) {M : zM} {Q : Int → zM → Prop} {X : zM → Prop} (h : zt_X10_schemaOf_265 l s0 G ca d C S w0 t v1 v2 v5 k0 k0b k1 M Q X) : zg_X10_schemaOf_265 l s0 G ca d C S w0 t v1 v2 v5 k0 k0b k1 M Q X := by
  unfold zt_X10_schemaOf_265 at h
  refine z_callV Γ kk_X10_member kc_RX10_210 (As := [zv s0 0 k1, .ref k0]) h (by omega) (by decide) (show (parseMethodDescriptor yX10_member.desc).map (fun q => q.parameters.length) = some 2 by decide +kernel) hok (Nat.zero_le _) dX10_schemaOf_265 ht.1 ht.2.1 rfl rfl (fun _ h9 => nomatch h9) ?_
  clear h
  intro r265 M265 h
  show rt_Go _ _ _ _ _ _ _ _ _ _ _ _ 268 [(0, zv s0 2 t), (1, zv s0 0 v1), (2, zv s0 0 v2), (5, zv s0 0 v5)] [zv s0 0 r265] (zw s0 ca C S M265)
  refine z_istore (i := 6) (lv' := [(6, zv s0 0 r265), (0, zv s0 2 t), (1, zv s0 0 v1), (2, zv s0 0 v2), (5, zv s0 0 v5)]) dX10_schemaOf_268 (by decide) (by simp [zv_cat0, zv_cat1, zv_cat2, zv_cats]) ?_
  refine z_aload_n dX10_schemaOf_270 rfl (j := 1) rfl ?_
  refine z_iload dX10_schemaOf_271 (j := 0) rfl ?_
  refine z_if_lt (tgt := 280) (x' := w32 r265) rfl dX10_schemaOf_273 (by decide) (fun c273 => ?_) (fun c273 => ?_)
  · replace h := h.1 c273
    refine z_iconst dX10_schemaOf_280 ?_
    exact rt_lfew [1, 2, 3, 4, 0] rfl (zs_X10_schemaOf_281 Γ hd hok ht  h)
  · replace h := h.2 c273
    refine z_iconst dX10_schemaOf_276 ?_
    refine rt_goto (tgt := 281) dX10_schemaOf_277 (by decide) ?_
    exact rt_lfew [1, 2, 3, 4, 0] rfl (zs_X10_schemaOf_281 Γ hd hok ht  h)

def zt_X10_schemaOf_241 (l : Launch) (s0 : State) (G : va_G) (ca : Nat → ClassId) (d : Nat) (C : Nat × Nat) (S : zS) (w0 : rt_Wd) (t : Int) (v1 : Int) (v2 : Int) (v4 : Int)  (M : zM) (Q : Int → zM → Prop) (X : zM → Prop) : Prop :=
  ∀ q244 : Nat, zstr s0 q244 [97, 114, 114, 97, 121] → (zm_X10_is l s0 G ca (d - 1) C S t v4 q244 M (fun r246 M246 => zIf (w32 r246 = 0) (∀ q263 : Nat, zstr s0 q263 [118, 97, 108, 117, 101, 115] → (zt_X10_schemaOf_265 l s0 G ca d C S w0 t v1 v2 r246 q263 ([118, 97, 108, 117, 101, 115]) v1 M246 Q X)) (∀ q258 : Nat, zstr s0 q258 [105, 116, 101, 109, 115] → (zt_X10_schemaOf_265 l s0 G ca d C S w0 t v1 v2 r246 q258 ([105, 116, 101, 109, 115]) v1 M246 Q X))) X)
set_option maxRecDepth 100000 in
theorem zs_X10_schemaOf_241 {l : Launch} {s0 : State} {a0 : Array Value} {G : va_G} {ca : Nat → ClassId} (Γ : rt_Γ l s0 a0 G ca) {d : Nat} {C : Nat × Nat} {S : zS} (hd : 1 ≤ d) (hok : zok C) {t : Int} (ht : zTx S t) {w0 : rt_Wd} {v1 : Int} {v2 : Int} {v4 : Int}   {M : zM} {Q : Int → zM → Prop} {X : zM → Prop} (h : zt_X10_schemaOf_241 l s0 G ca d C S w0 t v1 v2 v4 M Q X) : zg_X10_schemaOf_241 l s0 G ca d C S w0 t v1 v2 v4 M Q X := by
  unfold zt_X10_schemaOf_241 at h
  refine z_aload_n dX10_schemaOf_241 rfl (j := 0) rfl ?_
  refine z_iload dX10_schemaOf_242 (j := 3) rfl ?_
  obtain ⟨q244, hq244a, hq244b⟩ := ks_RX10_214 Γ
  have hq244 : zstr s0 q244 [97, 114, 114, 97, 121] := ⟨hq244b, by decide, by decide⟩
  replace h := h q244 hq244
  refine rt_ldcS Γ hq244a dX10_schemaOf_244 ?_
  refine z_callV Γ kk_X10_is kc_RX10_177 (As := [zv s0 0 v4, .ref q244]) h (by omega) (by decide) (show (parseMethodDescriptor yX10_is.desc).map (fun q => q.parameters.length) = some 2 by decide +kernel) hok (Nat.zero_le _) dX10_schemaOf_246 ht.1 ht.2.1 rfl rfl (fun _ h9 => nomatch h9) ?_
  clear h
  intro r246 M246 h
  show rt_Go _ _ _ _ _ _ _ _ _ _ _ _ 249 [(0, zv s0 2 t), (1, zv s0 0 v1), (2, zv s0 0 v2), (4, zv s0 0 v4)] [zv s0 0 r246] (zw s0 ca C S M246)
  refine z_istore (i := 5) (lv' := [(5, zv s0 0 r246), (0, zv s0 2 t), (1, zv s0 0 v1), (2, zv s0 0 v2), (4, zv s0 0 v4)]) dX10_schemaOf_249 (by decide) (by simp [zv_cat0, zv_cat1, zv_cat2, zv_cats]) ?_
  refine z_aload_n dX10_schemaOf_251 rfl (j := 1) rfl ?_
  refine z_iload_n dX10_schemaOf_252 rfl (j := 2) rfl ?_
  refine z_iload dX10_schemaOf_253 (j := 0) rfl ?_
  refine z_if_eq (tgt := 263) (x' := w32 r246) rfl dX10_schemaOf_255 (by decide) (fun c255 => ?_) (fun c255 => ?_)
  · replace h := h.1 c255
    obtain ⟨q263, hq263a, hq263b⟩ := ks_RX10_220 Γ
    have hq263 : zstr s0 q263 [118, 97, 108, 117, 101, 115] := ⟨hq263b, by decide, by decide⟩
    replace h := h q263 hq263
    refine rt_ldcS Γ hq263a dX10_schemaOf_263 ?_
    exact rt_lfew [1, 2, 3, 0] rfl (zs_X10_schemaOf_265 Γ hd hok ht hq263 h)
  · replace h := h.2 c255
    obtain ⟨q258, hq258a, hq258b⟩ := ks_RX10_218 Γ
    have hq258 : zstr s0 q258 [105, 116, 101, 109, 115] := ⟨hq258b, by decide, by decide⟩
    replace h := h q258 hq258
    refine rt_ldcS Γ hq258a dX10_schemaOf_258 ?_
    refine rt_goto (tgt := 265) dX10_schemaOf_260 (by decide) ?_
    exact rt_lfew [1, 2, 3, 0] rfl (zs_X10_schemaOf_265 Γ hd hok ht hq258 h)

def zt_X10_schemaOf_400 (l : Launch) (s0 : State) (G : va_G) (ca : Nat → ClassId) (d : Nat) (C : Nat × Nat) (S : zS) (w0 : rt_Wd) (t : Int) (v4 : Int) (v5 : Int) (k0 : Int) (M : zM) (Q : Int → zM → Prop) (X : zM → Prop) : Prop :=
  (0 ≤ v4 ∧ v4 < 4200) ∧ (zm_X10_need l s0 G ca (d - 1) C S t k0 3 (M (t + 3) v4) M (fun r408 M408 => Q v5 M408) X)
set_option maxRecDepth 100000 in
theorem zs_X10_schemaOf_400 {l : Launch} {s0 : State} {a0 : Array Value} {G : va_G} {ca : Nat → ClassId} (Γ : rt_Γ l s0 a0 G ca) {d : Nat} {C : Nat × Nat} {S : zS} (hd : 1 ≤ d) (hok : zok C) {t : Int} (ht : zTx S t) {w0 : rt_Wd} {v4 : Int} {v5 : Int} {k0 : Int}  {M : zM} {Q : Int → zM → Prop} {X : zM → Prop} (h : zt_X10_schemaOf_400 l s0 G ca d C S w0 t v4 v5 k0 M Q X) : zg_X10_schemaOf_400 l s0 G ca d C S w0 t v4 v5 k0 M Q X := by
  unfold zt_X10_schemaOf_400 at h
  refine z_iconst dX10_schemaOf_400 ?_
  refine z_aload_n dX10_schemaOf_401 rfl (j := 0) rfl ?_
  refine z_getc Γ kf_RX10_19 dX10_schemaOf_402 ht.1 ht.2.1 rfl ?_
  refine z_iload dX10_schemaOf_405 (j := 1) rfl ?_
  obtain ⟨hi407, h⟩ := h
  refine z_iald Γ dX10_schemaOf_407 (by have := ht.1; omega) ht.2.2.2.2.1 (by decide) hi407 (v9 := M (t + 3) v4) rfl ?_
  refine z_callV Γ kk_X10_need kc_RX10_105 (As := [zv s0 0 k0, zv s0 0 3, zv s0 0 (M (t + 3) v4)]) h (by omega) (by decide) (show (parseMethodDescriptor yX10_need.desc).map (fun q => q.parameters.length) = some 3 by decide +kernel) hok (Nat.zero_le _) dX10_schemaOf_408 ht.1 ht.2.1 rfl rfl (fun _ h9 => nomatch h9) ?_
  clear h
  intro r408 M408 h
  show rt_Go _ _ _ _ _ _ _ _ _ _ _ _ 411 [(0, zv s0 2 t), (4, zv s0 0 v4), (5, zv s0 0 v5)] [] (zw s0 ca C S M408)
  refine z_iload dX10_schemaOf_411 (j := 2) rfl ?_
  exact z_iret dX10_schemaOf_413 rfl h

def zt_X10_schemaOf_192 (l : Launch) (s0 : State) (G : va_G) (ca : Nat → ClassId) (d : Nat) (C : Nat × Nat) (S : zS) (w0 : rt_Wd) (t : Int) (v1 : Int) (v2 : Int) (v4 : Int) (k0 : Int) (M : zM) (Q : Int → zM → Prop) (X : zM → Prop) : Prop :=
  (0 ≤ v1 ∧ v1 < 4200) ∧ (zm_X10_need l s0 G ca (d - 1) C S t k0 7 (M (t + 3) v1) M (fun r200 M200 => zm_X10_word l s0 G ca (d - 1) C S t v4 M200 (fun r206 M206 => zIf (w32 r206 < 0) (∀ q222 : Nat, zstr s0 q222 [97, 114, 114, 97, 121] → (zm_X10_is l s0 G ca (d - 1) C S t v4 q222 M206 (fun r224 M224 => zIf (w32 r224 = 0) (∀ q233 : Nat, zstr s0 q233 [109, 97, 112] → (zm_X10_is l s0 G ca (d - 1) C S t v4 q233 M224 (fun r235 M235 => zIf (w32 r235 = 0) (∀ q342 : Nat, zstr s0 q342 [102, 105, 120, 101, 100] → (zm_X10_is l s0 G ca (d - 1) C S t v4 q342 M235 (fun r344 M344 => zIf (w32 r344 = 0) (∀ q353 : Nat, zstr s0 q353 [101, 110, 117, 109] → (zm_X10_is l s0 G ca (d - 1) C S t v4 q353 M344 (fun r355 M355 => zIf (w32 r355 = 0) (∀ q364 : Nat, zstr s0 q364 [114, 101, 99, 111, 114, 100] → (zm_X10_is l s0 G ca (d - 1) C S t v4 q364 M355 (fun r366 M366 => zIf (w32 r366 = 0) (zm_X10_defined l s0 G ca (d - 1) C S t v4 M366 (fun r384 M384 => zIf (w32 r384 < 0) (zt_X10_schemaOf_400 l s0 G ca d C S w0 t v4 r384 0 M384 Q X) (zt_X10_schemaOf_400 l s0 G ca d C S w0 t v4 r384 1 M384 Q X)) X) (zm_X10_named l s0 G ca (d - 1) C S t v1 v4 v2 M366 (fun r377 M377 => Q r377 M377) X)) X)) (zm_X10_named l s0 G ca (d - 1) C S t v1 v4 v2 M355 (fun r377 M377 => Q r377 M377) X)) X)) (zm_X10_named l s0 G ca (d - 1) C S t v1 v4 v2 M344 (fun r377 M377 => Q r377 M377) X)) X)) (zt_X10_schemaOf_241 l s0 G ca d C S w0 t v1 v2 v4 M235 Q X)) X)) (zt_X10_schemaOf_241 l s0 G ca d C S w0 t v1 v2 v4 M224 Q X)) X)) (zm_X10_word l s0 G ca (d - 1) C S t v4 M206 (fun r215 M215 => Q r215 M215) X)) X) X)
set_option maxRecDepth 100000 in
theorem zs_X10_schemaOf_192 {l : Launch} {s0 : State} {a0 : Array Value} {G : va_G} {ca : Nat → ClassId} (Γ : rt_Γ l s0 a0 G ca) {d : Nat} {C : Nat × Nat} {S : zS} (hd : 1 ≤ d) (hok : zok C) {t : Int} (ht : zTx S t) {w0 : rt_Wd} {v1 : Int} {v2 : Int} {v4 : Int} {k0 : Int}  {M : zM} {Q : Int → zM → Prop} {X : zM → Prop} (h : zt_X10_schemaOf_192 l s0 G ca d C S w0 t v1 v2 v4 k0 M Q X) : zg_X10_schemaOf_192 l s0 G ca d C S w0 t v1 v2 v4 k0 M Q X := by
  unfold zt_X10_schemaOf_192 at h
  refine z_bipush dX10_schemaOf_192 (by decide) ?_
  refine z_aload_n dX10_schemaOf_194 rfl (j := 0) rfl ?_
  refine z_getc Γ kf_RX10_19 dX10_schemaOf_195 ht.1 ht.2.1 rfl ?_
  refine z_iload_n dX10_schemaOf_198 rfl (j := 1) rfl ?_
  obtain ⟨hi199, h⟩ := h
  refine z_iald Γ dX10_schemaOf_199 (by have := ht.1; omega) ht.2.2.2.2.1 (by decide) hi199 (v9 := M (t + 3) v1) rfl ?_
  refine z_callV Γ kk_X10_need kc_RX10_105 (As := [zv s0 0 k0, zv s0 0 7, zv s0 0 (M (t + 3) v1)]) h (by omega) (by decide) (show (parseMethodDescriptor yX10_need.desc).map (fun q => q.parameters.length) = some 3 by decide +kernel) hok (Nat.zero_le _) dX10_schemaOf_200 ht.1 ht.2.1 rfl rfl (fun _ h9 => nomatch h9) ?_
  clear h
  intro r200 M200 h
  show rt_Go _ _ _ _ _ _ _ _ _ _ _ _ 203 [(0, zv s0 2 t), (1, zv s0 0 v1), (2, zv s0 0 v2), (4, zv s0 0 v4)] [] (zw s0 ca C S M200)
  refine z_aload_n dX10_schemaOf_203 rfl (j := 0) rfl ?_
  refine z_iload dX10_schemaOf_204 (j := 3) rfl ?_
  refine z_callV Γ kk_X10_word kc_RX10_198 (As := [zv s0 0 v4]) h (by omega) (by decide) (show (parseMethodDescriptor yX10_word.desc).map (fun q => q.parameters.length) = some 1 by decide +kernel) hok (Nat.zero_le _) dX10_schemaOf_206 ht.1 ht.2.1 rfl rfl (fun _ h9 => nomatch h9) ?_
  clear h
  intro r206 M206 h
  show rt_Go _ _ _ _ _ _ _ _ _ _ _ _ 209 [(0, zv s0 2 t), (1, zv s0 0 v1), (2, zv s0 0 v2), (4, zv s0 0 v4)] [zv s0 0 r206] (zw s0 ca C S M206)
  refine z_if_lt (tgt := 219) (x' := w32 r206) rfl dX10_schemaOf_209 (by decide) (fun c209 => ?_) (fun c209 => ?_)
  · replace h := h.1 c209
    refine z_aload_n dX10_schemaOf_219 rfl (j := 0) rfl ?_
    refine z_iload dX10_schemaOf_220 (j := 3) rfl ?_
    obtain ⟨q222, hq222a, hq222b⟩ := ks_RX10_214 Γ
    have hq222 : zstr s0 q222 [97, 114, 114, 97, 121] := ⟨hq222b, by decide, by decide⟩
    replace h := h q222 hq222
    refine rt_ldcS Γ hq222a dX10_schemaOf_222 ?_
    refine z_callV Γ kk_X10_is kc_RX10_177 (As := [zv s0 0 v4, .ref q222]) h (by omega) (by decide) (show (parseMethodDescriptor yX10_is.desc).map (fun q => q.parameters.length) = some 2 by decide +kernel) hok (Nat.zero_le _) dX10_schemaOf_224 ht.1 ht.2.1 rfl rfl (fun _ h9 => nomatch h9) ?_
    clear h
    intro r224 M224 h
    show rt_Go _ _ _ _ _ _ _ _ _ _ _ _ 227 [(0, zv s0 2 t), (1, zv s0 0 v1), (2, zv s0 0 v2), (4, zv s0 0 v4)] [zv s0 0 r224] (zw s0 ca C S M224)
    refine z_if_ne (tgt := 241) (x' := w32 r224) rfl dX10_schemaOf_227 (by decide) (fun c227 => ?_) (fun c227 => ?_)
    · replace h := h.2 c227
      exact rt_lfew [0, 1, 2, 3] rfl (zs_X10_schemaOf_241 Γ hd hok ht  h)
    · replace h := h.1 c227
      refine z_aload_n dX10_schemaOf_230 rfl (j := 0) rfl ?_
      refine z_iload dX10_schemaOf_231 (j := 3) rfl ?_
      obtain ⟨q233, hq233a, hq233b⟩ := ks_RX10_216 Γ
      have hq233 : zstr s0 q233 [109, 97, 112] := ⟨hq233b, by decide, by decide⟩
      replace h := h q233 hq233
      refine rt_ldcS Γ hq233a dX10_schemaOf_233 ?_
      refine z_callV Γ kk_X10_is kc_RX10_177 (As := [zv s0 0 v4, .ref q233]) h (by omega) (by decide) (show (parseMethodDescriptor yX10_is.desc).map (fun q => q.parameters.length) = some 2 by decide +kernel) hok (Nat.zero_le _) dX10_schemaOf_235 ht.1 ht.2.1 rfl rfl (fun _ h9 => nomatch h9) ?_
      clear h
      intro r235 M235 h
      show rt_Go _ _ _ _ _ _ _ _ _ _ _ _ 238 [(0, zv s0 2 t), (1, zv s0 0 v1), (2, zv s0 0 v2), (4, zv s0 0 v4)] [zv s0 0 r235] (zw s0 ca C S M235)
      refine z_if_eq (tgt := 339) (x' := w32 r235) rfl dX10_schemaOf_238 (by decide) (fun c238 => ?_) (fun c238 => ?_)
      · replace h := h.1 c238
        refine z_aload_n dX10_schemaOf_339 rfl (j := 0) rfl ?_
        refine z_iload dX10_schemaOf_340 (j := 3) rfl ?_
        obtain ⟨q342, hq342a, hq342b⟩ := ks_RX10_232 Γ
        have hq342 : zstr s0 q342 [102, 105, 120, 101, 100] := ⟨hq342b, by decide, by decide⟩
        replace h := h q342 hq342
        refine rt_ldcS Γ hq342a dX10_schemaOf_342 ?_
        refine z_callV Γ kk_X10_is kc_RX10_177 (As := [zv s0 0 v4, .ref q342]) h (by omega) (by decide) (show (parseMethodDescriptor yX10_is.desc).map (fun q => q.parameters.length) = some 2 by decide +kernel) hok (Nat.zero_le _) dX10_schemaOf_344 ht.1 ht.2.1 rfl rfl (fun _ h9 => nomatch h9) ?_
        clear h
        intro r344 M344 h
        show rt_Go _ _ _ _ _ _ _ _ _ _ _ _ 347 [(0, zv s0 2 t), (1, zv s0 0 v1), (2, zv s0 0 v2), (4, zv s0 0 v4)] [zv s0 0 r344] (zw s0 ca C S M344)
        refine z_if_ne (tgt := 372) (x' := w32 r344) rfl dX10_schemaOf_347 (by decide) (fun c347 => ?_) (fun c347 => ?_)
        · replace h := h.2 c347
          refine z_aload_n dX10_schemaOf_372 rfl (j := 0) rfl ?_
          refine z_iload_n dX10_schemaOf_373 rfl (j := 1) rfl ?_
          refine z_iload dX10_schemaOf_374 (j := 3) rfl ?_
          refine z_iload_n dX10_schemaOf_376 rfl (j := 2) rfl ?_
          refine z_callV Γ kk_X10_named kc_RX10_238 (As := [zv s0 0 v1, zv s0 0 v4, zv s0 0 v2]) h (by omega) (by decide) (show (parseMethodDescriptor yX10_named.desc).map (fun q => q.parameters.length) = some 3 by decide +kernel) hok (Nat.zero_le _) dX10_schemaOf_377 ht.1 ht.2.1 rfl rfl (fun _ h9 => nomatch h9) ?_
          clear h
          intro r377 M377 h
          show rt_Go _ _ _ _ _ _ _ _ _ _ _ _ 380 [(0, zv s0 2 t), (1, zv s0 0 v1), (2, zv s0 0 v2), (4, zv s0 0 v4)] [zv s0 0 r377] (zw s0 ca C S M377)
          exact z_iret dX10_schemaOf_380 rfl h
        · replace h := h.1 c347
          refine z_aload_n dX10_schemaOf_350 rfl (j := 0) rfl ?_
          refine z_iload dX10_schemaOf_351 (j := 3) rfl ?_
          obtain ⟨q353, hq353a, hq353b⟩ := ks_RX10_234 Γ
          have hq353 : zstr s0 q353 [101, 110, 117, 109] := ⟨hq353b, by decide, by decide⟩
          replace h := h q353 hq353
          refine rt_ldcS Γ hq353a dX10_schemaOf_353 ?_
          refine z_callV Γ kk_X10_is kc_RX10_177 (As := [zv s0 0 v4, .ref q353]) h (by omega) (by decide) (show (parseMethodDescriptor yX10_is.desc).map (fun q => q.parameters.length) = some 2 by decide +kernel) hok (Nat.zero_le _) dX10_schemaOf_355 ht.1 ht.2.1 rfl rfl (fun _ h9 => nomatch h9) ?_
          clear h
          intro r355 M355 h
          show rt_Go _ _ _ _ _ _ _ _ _ _ _ _ 358 [(0, zv s0 2 t), (1, zv s0 0 v1), (2, zv s0 0 v2), (4, zv s0 0 v4)] [zv s0 0 r355] (zw s0 ca C S M355)
          refine z_if_ne (tgt := 372) (x' := w32 r355) rfl dX10_schemaOf_358 (by decide) (fun c358 => ?_) (fun c358 => ?_)
          · replace h := h.2 c358
            refine z_aload_n dX10_schemaOf_372 rfl (j := 0) rfl ?_
            refine z_iload_n dX10_schemaOf_373 rfl (j := 1) rfl ?_
            refine z_iload dX10_schemaOf_374 (j := 3) rfl ?_
            refine z_iload_n dX10_schemaOf_376 rfl (j := 2) rfl ?_
            refine z_callV Γ kk_X10_named kc_RX10_238 (As := [zv s0 0 v1, zv s0 0 v4, zv s0 0 v2]) h (by omega) (by decide) (show (parseMethodDescriptor yX10_named.desc).map (fun q => q.parameters.length) = some 3 by decide +kernel) hok (Nat.zero_le _) dX10_schemaOf_377 ht.1 ht.2.1 rfl rfl (fun _ h9 => nomatch h9) ?_
            clear h
            intro r377 M377 h
            show rt_Go _ _ _ _ _ _ _ _ _ _ _ _ 380 [(0, zv s0 2 t), (1, zv s0 0 v1), (2, zv s0 0 v2), (4, zv s0 0 v4)] [zv s0 0 r377] (zw s0 ca C S M377)
            exact z_iret dX10_schemaOf_380 rfl h
          · replace h := h.1 c358
            refine z_aload_n dX10_schemaOf_361 rfl (j := 0) rfl ?_
            refine z_iload dX10_schemaOf_362 (j := 3) rfl ?_
            obtain ⟨q364, hq364a, hq364b⟩ := ks_RX10_236 Γ
            have hq364 : zstr s0 q364 [114, 101, 99, 111, 114, 100] := ⟨hq364b, by decide, by decide⟩
            replace h := h q364 hq364
            refine rt_ldcS Γ hq364a dX10_schemaOf_364 ?_
            refine z_callV Γ kk_X10_is kc_RX10_177 (As := [zv s0 0 v4, .ref q364]) h (by omega) (by decide) (show (parseMethodDescriptor yX10_is.desc).map (fun q => q.parameters.length) = some 2 by decide +kernel) hok (Nat.zero_le _) dX10_schemaOf_366 ht.1 ht.2.1 rfl rfl (fun _ h9 => nomatch h9) ?_
            clear h
            intro r366 M366 h
            show rt_Go _ _ _ _ _ _ _ _ _ _ _ _ 369 [(0, zv s0 2 t), (1, zv s0 0 v1), (2, zv s0 0 v2), (4, zv s0 0 v4)] [zv s0 0 r366] (zw s0 ca C S M366)
            refine z_if_eq (tgt := 381) (x' := w32 r366) rfl dX10_schemaOf_369 (by decide) (fun c369 => ?_) (fun c369 => ?_)
            · replace h := h.1 c369
              refine z_aload_n dX10_schemaOf_381 rfl (j := 0) rfl ?_
              refine z_iload dX10_schemaOf_382 (j := 3) rfl ?_
              refine z_callV Γ kk_X10_defined kc_RX10_201 (As := [zv s0 0 v4]) h (by omega) (by decide) (show (parseMethodDescriptor yX10_defined.desc).map (fun q => q.parameters.length) = some 1 by decide +kernel) hok (Nat.zero_le _) dX10_schemaOf_384 ht.1 ht.2.1 rfl rfl (fun _ h9 => nomatch h9) ?_
              clear h
              intro r384 M384 h
              show rt_Go _ _ _ _ _ _ _ _ _ _ _ _ 387 [(0, zv s0 2 t), (1, zv s0 0 v1), (2, zv s0 0 v2), (4, zv s0 0 v4)] [zv s0 0 r384] (zw s0 ca C S M384)
              refine z_istore (i := 5) (lv' := [(5, zv s0 0 r384), (0, zv s0 2 t), (1, zv s0 0 v1), (2, zv s0 0 v2), (4, zv s0 0 v4)]) dX10_schemaOf_387 (by decide) (by simp [zv_cat0, zv_cat1, zv_cat2, zv_cats]) ?_
              refine z_aload_n dX10_schemaOf_389 rfl (j := 1) rfl ?_
              refine z_iload dX10_schemaOf_390 (j := 0) rfl ?_
              refine z_if_lt (tgt := 399) (x' := w32 r384) rfl dX10_schemaOf_392 (by decide) (fun c392 => ?_) (fun c392 => ?_)
              · replace h := h.1 c392
                refine z_iconst dX10_schemaOf_399 ?_
                exact rt_lfew [1, 4, 0] rfl (zs_X10_schemaOf_400 Γ hd hok ht  h)
              · replace h := h.2 c392
                refine z_iconst dX10_schemaOf_395 ?_
                refine rt_goto (tgt := 400) dX10_schemaOf_396 (by decide) ?_
                exact rt_lfew [1, 4, 0] rfl (zs_X10_schemaOf_400 Γ hd hok ht  h)
            · replace h := h.2 c369
              refine z_aload_n dX10_schemaOf_372 rfl (j := 0) rfl ?_
              refine z_iload_n dX10_schemaOf_373 rfl (j := 1) rfl ?_
              refine z_iload dX10_schemaOf_374 (j := 3) rfl ?_
              refine z_iload_n dX10_schemaOf_376 rfl (j := 2) rfl ?_
              refine z_callV Γ kk_X10_named kc_RX10_238 (As := [zv s0 0 v1, zv s0 0 v4, zv s0 0 v2]) h (by omega) (by decide) (show (parseMethodDescriptor yX10_named.desc).map (fun q => q.parameters.length) = some 3 by decide +kernel) hok (Nat.zero_le _) dX10_schemaOf_377 ht.1 ht.2.1 rfl rfl (fun _ h9 => nomatch h9) ?_
              clear h
              intro r377 M377 h
              show rt_Go _ _ _ _ _ _ _ _ _ _ _ _ 380 [(0, zv s0 2 t), (1, zv s0 0 v1), (2, zv s0 0 v2), (4, zv s0 0 v4)] [zv s0 0 r377] (zw s0 ca C S M377)
              exact z_iret dX10_schemaOf_380 rfl h
      · replace h := h.2 c238
        exact rt_lfew [0, 1, 2, 3] rfl (zs_X10_schemaOf_241 Γ hd hok ht  h)
  · replace h := h.2 c209
    refine z_aload_n dX10_schemaOf_212 rfl (j := 0) rfl ?_
    refine z_iload dX10_schemaOf_213 (j := 3) rfl ?_
    refine z_callV Γ kk_X10_word kc_RX10_198 (As := [zv s0 0 v4]) h (by omega) (by decide) (show (parseMethodDescriptor yX10_word.desc).map (fun q => q.parameters.length) = some 1 by decide +kernel) hok (Nat.zero_le _) dX10_schemaOf_215 ht.1 ht.2.1 rfl rfl (fun _ h9 => nomatch h9) ?_
    clear h
    intro r215 M215 h
    show rt_Go _ _ _ _ _ _ _ _ _ _ _ _ 218 [(0, zv s0 2 t), (1, zv s0 0 v1), (2, zv s0 0 v2), (4, zv s0 0 v4)] [zv s0 0 r215] (zw s0 ca C S M215)
    exact z_iret dX10_schemaOf_218 rfl h

def zt_X10_schemaOf_191 (l : Launch) (s0 : State) (G : va_G) (ca : Nat → ClassId) (d : Nat) (C : Nat × Nat) (S : zS) (w0 : rt_Wd) (t : Int) (v1 : Int) (v2 : Int) (v4 : Int)  (M : zM) (Q : Int → zM → Prop) (X : zM → Prop) : Prop :=
  zt_X10_schemaOf_192 l s0 G ca d C S w0 t v1 v2 v4 0 M Q X
set_option maxRecDepth 100000 in
theorem zs_X10_schemaOf_191 {l : Launch} {s0 : State} {a0 : Array Value} {G : va_G} {ca : Nat → ClassId} (Γ : rt_Γ l s0 a0 G ca) {d : Nat} {C : Nat × Nat} {S : zS} (hd : 1 ≤ d) (hok : zok C) {t : Int} (ht : zTx S t) {w0 : rt_Wd} {v1 : Int} {v2 : Int} {v4 : Int}   {M : zM} {Q : Int → zM → Prop} {X : zM → Prop} (h : zt_X10_schemaOf_191 l s0 G ca d C S w0 t v1 v2 v4 M Q X) : zg_X10_schemaOf_191 l s0 G ca d C S w0 t v1 v2 v4 M Q X := by
  unfold zt_X10_schemaOf_191 at h
  refine z_iconst dX10_schemaOf_191 ?_
  exact rt_lfew [0, 1, 2, 3] rfl (zs_X10_schemaOf_192 Γ hd hok ht  h)

def zt_X10_schemaOf_151 (l : Launch) (s0 : State) (G : va_G) (ca : Nat → ClassId) (d : Nat) (C : Nat × Nat) (S : zS) (w0 : rt_Wd) (t : Int) (v1 : Int) (v2 : Int) (k0 : Int) (M : zM) (Q : Int → zM → Prop) (X : zM → Prop) : Prop :=
  (0 ≤ v1 ∧ v1 < 4200) ∧ (zm_X10_need l s0 G ca (d - 1) C S t k0 2 (M (t + 3) v1) M (fun r158 M158 => ∀ q163 : Nat, zstr s0 q163 [116, 121, 112, 101] → (zm_X10_member l s0 G ca (d - 1) C S t v1 q163 M158 (fun r165 M165 => zIf (w32 r165 < 0) (zt_X10_schemaOf_191 l s0 G ca d C S w0 t v1 v2 r165 M165 Q X) ((0 ≤ r165 ∧ r165 < 4200) ∧ (zIf (w32 (M165 (t + 2) r165) = 2) (zt_X10_schemaOf_192 l s0 G ca d C S w0 t v1 v2 r165 1 M165 Q X) (zt_X10_schemaOf_191 l s0 G ca d C S w0 t v1 v2 r165 M165 Q X)))) X)) X)
set_option maxRecDepth 100000 in
theorem zs_X10_schemaOf_151 {l : Launch} {s0 : State} {a0 : Array Value} {G : va_G} {ca : Nat → ClassId} (Γ : rt_Γ l s0 a0 G ca) {d : Nat} {C : Nat × Nat} {S : zS} (hd : 1 ≤ d) (hok : zok C) {t : Int} (ht : zTx S t) {w0 : rt_Wd} {v1 : Int} {v2 : Int} {k0 : Int}  {M : zM} {Q : Int → zM → Prop} {X : zM → Prop} (h : zt_X10_schemaOf_151 l s0 G ca d C S w0 t v1 v2 k0 M Q X) : zg_X10_schemaOf_151 l s0 G ca d C S w0 t v1 v2 k0 M Q X := by
  unfold zt_X10_schemaOf_151 at h
  refine z_iconst dX10_schemaOf_151 ?_
  refine z_aload_n dX10_schemaOf_152 rfl (j := 0) rfl ?_
  refine z_getc Γ kf_RX10_19 dX10_schemaOf_153 ht.1 ht.2.1 rfl ?_
  refine z_iload_n dX10_schemaOf_156 rfl (j := 1) rfl ?_
  obtain ⟨hi157, h⟩ := h
  refine z_iald Γ dX10_schemaOf_157 (by have := ht.1; omega) ht.2.2.2.2.1 (by decide) hi157 (v9 := M (t + 3) v1) rfl ?_
  refine z_callV Γ kk_X10_need kc_RX10_105 (As := [zv s0 0 k0, zv s0 0 2, zv s0 0 (M (t + 3) v1)]) h (by omega) (by decide) (show (parseMethodDescriptor yX10_need.desc).map (fun q => q.parameters.length) = some 3 by decide +kernel) hok (Nat.zero_le _) dX10_schemaOf_158 ht.1 ht.2.1 rfl rfl (fun _ h9 => nomatch h9) ?_
  clear h
  intro r158 M158 h
  show rt_Go _ _ _ _ _ _ _ _ _ _ _ _ 161 [(0, zv s0 2 t), (1, zv s0 0 v1), (2, zv s0 0 v2)] [] (zw s0 ca C S M158)
  refine z_aload_n dX10_schemaOf_161 rfl (j := 0) rfl ?_
  refine z_iload_n dX10_schemaOf_162 rfl (j := 1) rfl ?_
  obtain ⟨q163, hq163a, hq163b⟩ := ks_RX10_208 Γ
  have hq163 : zstr s0 q163 [116, 121, 112, 101] := ⟨hq163b, by decide, by decide⟩
  replace h := h q163 hq163
  refine rt_ldcS Γ hq163a dX10_schemaOf_163 ?_
  refine z_callV Γ kk_X10_member kc_RX10_210 (As := [zv s0 0 v1, .ref q163]) h (by omega) (by decide) (show (parseMethodDescriptor yX10_member.desc).map (fun q => q.parameters.length) = some 2 by decide +kernel) hok (Nat.zero_le _) dX10_schemaOf_165 ht.1 ht.2.1 rfl rfl (fun _ h9 => nomatch h9) ?_
  clear h
  intro r165 M165 h
  show rt_Go _ _ _ _ _ _ _ _ _ _ _ _ 168 [(0, zv s0 2 t), (1, zv s0 0 v1), (2, zv s0 0 v2)] [zv s0 0 r165] (zw s0 ca C S M165)
  refine z_istore (i := 4) (lv' := [(4, zv s0 0 r165), (0, zv s0 2 t), (1, zv s0 0 v1), (2, zv s0 0 v2)]) dX10_schemaOf_168 (by decide) (by simp [zv_cat0, zv_cat1, zv_cat2, zv_cats]) ?_
  refine z_aload_n dX10_schemaOf_170 rfl (j := 1) rfl ?_
  refine z_iload dX10_schemaOf_171 (j := 0) rfl ?_
  refine z_if_lt (tgt := 191) (x' := w32 r165) rfl dX10_schemaOf_173 (by decide) (fun c173 => ?_) (fun c173 => ?_)
  · replace h := h.1 c173
    exact rt_lfew [1, 2, 3, 0] rfl (zs_X10_schemaOf_191 Γ hd hok ht  h)
  · replace h := h.2 c173
    refine z_aload_n dX10_schemaOf_176 rfl (j := 1) rfl ?_
    refine z_getc Γ kf_RX10_15 dX10_schemaOf_177 ht.1 ht.2.1 rfl ?_
    refine z_iload dX10_schemaOf_180 (j := 0) rfl ?_
    obtain ⟨hi182, h⟩ := h
    refine z_iald Γ dX10_schemaOf_182 (by have := ht.1; omega) ht.2.2.2.1 (by decide) hi182 (v9 := M165 (t + 2) r165) rfl ?_
    refine z_iconst dX10_schemaOf_183 ?_
    refine z_icmp_ne (tgt := 191) (x' := w32 (M165 (t + 2) r165)) (y' := 2) rfl (by decide) dX10_schemaOf_184 (by decide) (fun c184 => ?_) (fun c184 => ?_)
    · replace h := h.2 c184
      exact rt_lfew [1, 2, 3, 0] rfl (zs_X10_schemaOf_191 Γ hd hok ht  h)
    · replace h := h.1 c184
      refine z_iconst dX10_schemaOf_187 ?_
      refine rt_goto (tgt := 192) dX10_schemaOf_188 (by decide) ?_
      exact rt_lfew [1, 2, 3, 0] rfl (zs_X10_schemaOf_192 Γ hd hok ht  h)

def zt_X10_schemaOf_105 (l : Launch) (s0 : State) (G : va_G) (ca : Nat → ClassId) (d : Nat) (C : Nat × Nat) (S : zS) (w0 : rt_Wd) (t : Int) (v1 : Int) (v5 : Int) (k0 : Int) (M : zM) (Q : Int → zM → Prop) (X : zM → Prop) : Prop :=
  (0 ≤ v1 ∧ v1 < 4200) ∧ (zm_X10_need l s0 G ca (d - 1) C S t k0 3 (M (t + 3) v1) M (fun r112 M112 => Q v5 M112) X)
set_option maxRecDepth 100000 in
theorem zs_X10_schemaOf_105 {l : Launch} {s0 : State} {a0 : Array Value} {G : va_G} {ca : Nat → ClassId} (Γ : rt_Γ l s0 a0 G ca) {d : Nat} {C : Nat × Nat} {S : zS} (hd : 1 ≤ d) (hok : zok C) {t : Int} (ht : zTx S t) {w0 : rt_Wd} {v1 : Int} {v5 : Int} {k0 : Int}  {M : zM} {Q : Int → zM → Prop} {X : zM → Prop} (h : zt_X10_schemaOf_105 l s0 G ca d C S w0 t v1 v5 k0 M Q X) : zg_X10_schemaOf_105 l s0 G ca d C S w0 t v1 v5 k0 M Q X := by
  unfold zt_X10_schemaOf_105 at h
  refine z_iconst dX10_schemaOf_105 ?_
  refine z_aload_n dX10_schemaOf_106 rfl (j := 0) rfl ?_
  refine z_getc Γ kf_RX10_19 dX10_schemaOf_107 ht.1 ht.2.1 rfl ?_
  refine z_iload_n dX10_schemaOf_110 rfl (j := 1) rfl ?_
  obtain ⟨hi111, h⟩ := h
  refine z_iald Γ dX10_schemaOf_111 (by have := ht.1; omega) ht.2.2.2.2.1 (by decide) hi111 (v9 := M (t + 3) v1) rfl ?_
  refine z_callV Γ kk_X10_need kc_RX10_105 (As := [zv s0 0 k0, zv s0 0 3, zv s0 0 (M (t + 3) v1)]) h (by omega) (by decide) (show (parseMethodDescriptor yX10_need.desc).map (fun q => q.parameters.length) = some 3 by decide +kernel) hok (Nat.zero_le _) dX10_schemaOf_112 ht.1 ht.2.1 rfl rfl (fun _ h9 => nomatch h9) ?_
  clear h
  intro r112 M112 h
  show rt_Go _ _ _ _ _ _ _ _ _ _ _ _ 115 [(0, zv s0 2 t), (1, zv s0 0 v1), (5, zv s0 0 v5)] [] (zw s0 ca C S M112)
  refine z_iload dX10_schemaOf_115 (j := 2) rfl ?_
  exact z_iret dX10_schemaOf_117 rfl h

def zt_X10_schemaOf_92 (l : Launch) (s0 : State) (G : va_G) (ca : Nat → ClassId) (d : Nat) (C : Nat × Nat) (S : zS) (w0 : rt_Wd) (t : Int) (v1 : Int) (k0 : Int) (M : zM) (Q : Int → zM → Prop) (X : zM → Prop) : Prop :=
  zIf (w32 k0 < 0) (zt_X10_schemaOf_105 l s0 G ca d C S w0 t v1 k0 0 M Q X) (zt_X10_schemaOf_105 l s0 G ca d C S w0 t v1 k0 1 M Q X)
set_option maxRecDepth 100000 in
theorem zs_X10_schemaOf_92 {l : Launch} {s0 : State} {a0 : Array Value} {G : va_G} {ca : Nat → ClassId} (Γ : rt_Γ l s0 a0 G ca) {d : Nat} {C : Nat × Nat} {S : zS} (hd : 1 ≤ d) (hok : zok C) {t : Int} (ht : zTx S t) {w0 : rt_Wd} {v1 : Int} {k0 : Int}  {M : zM} {Q : Int → zM → Prop} {X : zM → Prop} (h : zt_X10_schemaOf_92 l s0 G ca d C S w0 t v1 k0 M Q X) : zg_X10_schemaOf_92 l s0 G ca d C S w0 t v1 k0 M Q X := by
  unfold zt_X10_schemaOf_92 at h
  refine z_istore (i := 5) (lv' := [(5, zv s0 0 k0), (0, zv s0 2 t), (1, zv s0 0 v1)]) dX10_schemaOf_92 (by decide) (by simp [zv_cat0, zv_cat1, zv_cat2, zv_cats]) ?_
  refine z_aload_n dX10_schemaOf_94 rfl (j := 1) rfl ?_
  refine z_iload dX10_schemaOf_95 (j := 0) rfl ?_
  refine z_if_lt (tgt := 104) (x' := w32 k0) rfl dX10_schemaOf_97 (by decide) (fun c97 => ?_) (fun c97 => ?_)
  · replace h := h.1 c97
    refine z_iconst dX10_schemaOf_104 ?_
    exact rt_lfew [1, 2, 0] rfl (zs_X10_schemaOf_105 Γ hd hok ht  h)
  · replace h := h.2 c97
    refine z_iconst dX10_schemaOf_100 ?_
    refine rt_goto (tgt := 105) dX10_schemaOf_101 (by decide) ?_
    exact rt_lfew [1, 2, 0] rfl (zs_X10_schemaOf_105 Γ hd hok ht  h)

def zt_X10_schemaOf_49 (l : Launch) (s0 : State) (G : va_G) (ca : Nat → ClassId) (d : Nat) (C : Nat × Nat) (S : zS) (w0 : rt_Wd) (t : Int) (v1 : Int) (v2 : Int) (v3 : Int) (k0 : Int) (M : zM) (Q : Int → zM → Prop) (X : zM → Prop) : Prop :=
  (0 ≤ v1 ∧ v1 < 4200) ∧ (zm_X10_need l s0 G ca (d - 1) C S t k0 14 (M (t + 3) v1) M (fun r57 M57 => zIf (w32 (M57 (t + 2) v1) = 2) (zm_X10_word l s0 G ca (d - 1) C S t v1 M57 (fun r72 M72 => zIf (w32 r72 < 0) (zm_X10_defined l s0 G ca (d - 1) C S t v1 M72 (fun r89 M89 => zt_X10_schemaOf_92 l s0 G ca d C S w0 t v1 r89 M89 Q X) X) (zt_X10_schemaOf_92 l s0 G ca d C S w0 t v1 r72 M72 Q X)) X) (zIf (w32 (M57 (t + 2) v1) = 1) (zm_X10_union l s0 G ca (d - 1) C S t v1 v2 v3 M57 (fun r132 M132 => Q r132 M132) X) (zIf (w32 (M57 (t + 2) v1) = 0) (zt_X10_schemaOf_151 l s0 G ca d C S w0 t v1 v2 1 M57 Q X) (zt_X10_schemaOf_151 l s0 G ca d C S w0 t v1 v2 0 M57 Q X)))) X)
set_option maxRecDepth 100000 in
theorem zs_X10_schemaOf_49 {l : Launch} {s0 : State} {a0 : Array Value} {G : va_G} {ca : Nat → ClassId} (Γ : rt_Γ l s0 a0 G ca) {d : Nat} {C : Nat × Nat} {S : zS} (hd : 1 ≤ d) (hok : zok C) {t : Int} (ht : zTx S t) {w0 : rt_Wd} {v1 : Int} {v2 : Int} {v3 : Int} {k0 : Int}  {M : zM} {Q : Int → zM → Prop} {X : zM → Prop} (h : zt_X10_schemaOf_49 l s0 G ca d C S w0 t v1 v2 v3 k0 M Q X) : zg_X10_schemaOf_49 l s0 G ca d C S w0 t v1 v2 v3 k0 M Q X := by
  unfold zt_X10_schemaOf_49 at h
  refine z_bipush dX10_schemaOf_49 (by decide) ?_
  refine z_aload_n dX10_schemaOf_51 rfl (j := 0) rfl ?_
  refine z_getc Γ kf_RX10_19 dX10_schemaOf_52 ht.1 ht.2.1 rfl ?_
  refine z_iload_n dX10_schemaOf_55 rfl (j := 1) rfl ?_
  obtain ⟨hi56, h⟩ := h
  refine z_iald Γ dX10_schemaOf_56 (by have := ht.1; omega) ht.2.2.2.2.1 (by decide) hi56 (v9 := M (t + 3) v1) rfl ?_
  refine z_callV Γ kk_X10_need kc_RX10_105 (As := [zv s0 0 k0, zv s0 0 14, zv s0 0 (M (t + 3) v1)]) h (by omega) (by decide) (show (parseMethodDescriptor yX10_need.desc).map (fun q => q.parameters.length) = some 3 by decide +kernel) hok (Nat.zero_le _) dX10_schemaOf_57 ht.1 ht.2.1 rfl rfl (fun _ h9 => nomatch h9) ?_
  clear h
  intro r57 M57 h
  show rt_Go _ _ _ _ _ _ _ _ _ _ _ _ 60 [(0, zv s0 2 t), (1, zv s0 0 v1), (2, zv s0 0 v2), (3, zv s0 0 v3)] [] (zw s0 ca C S M57)
  refine z_aload_n dX10_schemaOf_60 rfl (j := 0) rfl ?_
  refine z_getc Γ kf_RX10_15 dX10_schemaOf_61 ht.1 ht.2.1 rfl ?_
  refine z_iload_n dX10_schemaOf_64 rfl (j := 1) rfl ?_
  refine z_iald Γ dX10_schemaOf_65 (by have := ht.1; omega) ht.2.2.2.1 (by decide) hi56 (v9 := M57 (t + 2) v1) rfl ?_
  refine z_iconst dX10_schemaOf_66 ?_
  refine z_icmp_ne (tgt := 118) (x' := w32 (M57 (t + 2) v1)) (y' := 2) rfl (by decide) dX10_schemaOf_67 (by decide) (fun c67 => ?_) (fun c67 => ?_)
  · replace h := h.2 c67
    refine z_aload_n dX10_schemaOf_118 rfl (j := 0) rfl ?_
    refine z_getc Γ kf_RX10_15 dX10_schemaOf_119 ht.1 ht.2.1 rfl ?_
    refine z_iload_n dX10_schemaOf_122 rfl (j := 1) rfl ?_
    refine z_iald Γ dX10_schemaOf_123 (by have := ht.1; omega) ht.2.2.2.1 (by decide) hi56 (v9 := M57 (t + 2) v1) rfl ?_
    refine z_iconst dX10_schemaOf_124 ?_
    refine z_icmp_ne (tgt := 136) (x' := w32 (M57 (t + 2) v1)) (y' := 1) rfl (by decide) dX10_schemaOf_125 (by decide) (fun c125 => ?_) (fun c125 => ?_)
    · replace h := h.2 c125
      refine z_aload_n dX10_schemaOf_136 rfl (j := 0) rfl ?_
      refine z_aload_n dX10_schemaOf_137 rfl (j := 0) rfl ?_
      refine z_getc Γ kf_RX10_15 dX10_schemaOf_138 ht.1 ht.2.1 rfl ?_
      refine z_iload_n dX10_schemaOf_141 rfl (j := 1) rfl ?_
      refine z_iald Γ dX10_schemaOf_142 (by have := ht.1; omega) ht.2.2.2.1 (by decide) hi56 (v9 := M57 (t + 2) v1) rfl ?_
      refine z_if_ne (tgt := 150) (x' := w32 (M57 (t + 2) v1)) rfl dX10_schemaOf_143 (by decide) (fun c143 => ?_) (fun c143 => ?_)
      · replace h := h.2 c143
        refine z_iconst dX10_schemaOf_150 ?_
        exact rt_lfew [0, 1, 2] rfl (zs_X10_schemaOf_151 Γ hd hok ht  h)
      · replace h := h.1 c143
        refine z_iconst dX10_schemaOf_146 ?_
        refine rt_goto (tgt := 151) dX10_schemaOf_147 (by decide) ?_
        exact rt_lfew [0, 1, 2] rfl (zs_X10_schemaOf_151 Γ hd hok ht  h)
    · replace h := h.1 c125
      refine z_aload_n dX10_schemaOf_128 rfl (j := 0) rfl ?_
      refine z_iload_n dX10_schemaOf_129 rfl (j := 1) rfl ?_
      refine z_iload_n dX10_schemaOf_130 rfl (j := 2) rfl ?_
      refine z_iload_n dX10_schemaOf_131 rfl (j := 3) rfl ?_
      refine z_callV Γ kk_X10_union kc_RX10_204 (As := [zv s0 0 v1, zv s0 0 v2, zv s0 0 v3]) h (by omega) (by decide) (show (parseMethodDescriptor yX10_union.desc).map (fun q => q.parameters.length) = some 3 by decide +kernel) hok (Nat.zero_le _) dX10_schemaOf_132 ht.1 ht.2.1 rfl rfl (fun _ h9 => nomatch h9) ?_
      clear h
      intro r132 M132 h
      show rt_Go _ _ _ _ _ _ _ _ _ _ _ _ 135 [(0, zv s0 2 t), (1, zv s0 0 v1), (2, zv s0 0 v2), (3, zv s0 0 v3)] [zv s0 0 r132] (zw s0 ca C S M132)
      exact z_iret dX10_schemaOf_135 rfl h
  · replace h := h.1 c67
    refine z_aload_n dX10_schemaOf_70 rfl (j := 0) rfl ?_
    refine z_iload_n dX10_schemaOf_71 rfl (j := 1) rfl ?_
    refine z_callV Γ kk_X10_word kc_RX10_198 (As := [zv s0 0 v1]) h (by omega) (by decide) (show (parseMethodDescriptor yX10_word.desc).map (fun q => q.parameters.length) = some 1 by decide +kernel) hok (Nat.zero_le _) dX10_schemaOf_72 ht.1 ht.2.1 rfl rfl (fun _ h9 => nomatch h9) ?_
    clear h
    intro r72 M72 h
    show rt_Go _ _ _ _ _ _ _ _ _ _ _ _ 75 [(0, zv s0 2 t), (1, zv s0 0 v1), (2, zv s0 0 v2), (3, zv s0 0 v3)] [zv s0 0 r72] (zw s0 ca C S M72)
    refine z_istore (i := 4) (lv' := [(4, zv s0 0 r72), (0, zv s0 2 t), (1, zv s0 0 v1), (2, zv s0 0 v2), (3, zv s0 0 v3)]) dX10_schemaOf_75 (by decide) (by simp [zv_cat0, zv_cat1, zv_cat2, zv_cats]) ?_
    refine z_iload dX10_schemaOf_77 (j := 0) rfl ?_
    refine z_if_lt (tgt := 87) (x' := w32 r72) rfl dX10_schemaOf_79 (by decide) (fun c79 => ?_) (fun c79 => ?_)
    · replace h := h.1 c79
      refine z_aload_n dX10_schemaOf_87 rfl (j := 1) rfl ?_
      refine z_iload_n dX10_schemaOf_88 rfl (j := 2) rfl ?_
      refine z_callV Γ kk_X10_defined kc_RX10_201 (As := [zv s0 0 v1]) h (by omega) (by decide) (show (parseMethodDescriptor yX10_defined.desc).map (fun q => q.parameters.length) = some 1 by decide +kernel) hok (Nat.zero_le _) dX10_schemaOf_89 ht.1 ht.2.1 rfl rfl (fun _ h9 => nomatch h9) ?_
      clear h
      intro r89 M89 h
      show rt_Go _ _ _ _ _ _ _ _ _ _ _ _ 92 [(4, zv s0 0 r72), (0, zv s0 2 t), (1, zv s0 0 v1), (2, zv s0 0 v2), (3, zv s0 0 v3)] [zv s0 0 r89] (zw s0 ca C S M89)
      exact rt_lfew [1, 2] rfl (zs_X10_schemaOf_92 Γ hd hok ht  h)
    · replace h := h.2 c79
      refine z_iload dX10_schemaOf_82 (j := 0) rfl ?_
      refine rt_goto (tgt := 92) dX10_schemaOf_84 (by decide) ?_
      exact rt_lfew [1, 2] rfl (zs_X10_schemaOf_92 Γ hd hok ht  h)

def zt_X10_schemaOf_16 (l : Launch) (s0 : State) (G : va_G) (ca : Nat → ClassId) (d : Nat) (C : Nat × Nat) (S : zS) (w0 : rt_Wd) (t : Int) (v1 : Int) (v2 : Int) (v3 : Int) (k0 : Int) (M : zM) (Q : Int → zM → Prop) (X : zM → Prop) : Prop :=
  (0 ≤ v1 ∧ v1 < 4200) ∧ (zm_X10_need l s0 G ca (d - 1) C S t k0 13 (M (t + 3) v1) M (fun r24 M24 => zIf (16 ≤ w32 v2) (zt_X10_schemaOf_49 l s0 G ca d C S w0 t v1 v2 v3 0 ((zu M24 t 17 ((M24 t 17) + 1))) Q X) (zt_X10_schemaOf_49 l s0 G ca d C S w0 t v1 v2 v3 1 ((zu M24 t 17 ((M24 t 17) + 1))) Q X)) X)
set_option maxRecDepth 100000 in
theorem zs_X10_schemaOf_16 {l : Launch} {s0 : State} {a0 : Array Value} {G : va_G} {ca : Nat → ClassId} (Γ : rt_Γ l s0 a0 G ca) {d : Nat} {C : Nat × Nat} {S : zS} (hd : 1 ≤ d) (hok : zok C) {t : Int} (ht : zTx S t) {w0 : rt_Wd} {v1 : Int} {v2 : Int} {v3 : Int} {k0 : Int}  {M : zM} {Q : Int → zM → Prop} {X : zM → Prop} (h : zt_X10_schemaOf_16 l s0 G ca d C S w0 t v1 v2 v3 k0 M Q X) : zg_X10_schemaOf_16 l s0 G ca d C S w0 t v1 v2 v3 k0 M Q X := by
  unfold zt_X10_schemaOf_16 at h
  refine z_bipush dX10_schemaOf_16 (by decide) ?_
  refine z_aload_n dX10_schemaOf_18 rfl (j := 0) rfl ?_
  refine z_getc Γ kf_RX10_19 dX10_schemaOf_19 ht.1 ht.2.1 rfl ?_
  refine z_iload_n dX10_schemaOf_22 rfl (j := 1) rfl ?_
  obtain ⟨hi23, h⟩ := h
  refine z_iald Γ dX10_schemaOf_23 (by have := ht.1; omega) ht.2.2.2.2.1 (by decide) hi23 (v9 := M (t + 3) v1) rfl ?_
  refine z_callV Γ kk_X10_need kc_RX10_105 (As := [zv s0 0 k0, zv s0 0 13, zv s0 0 (M (t + 3) v1)]) h (by omega) (by decide) (show (parseMethodDescriptor yX10_need.desc).map (fun q => q.parameters.length) = some 3 by decide +kernel) hok (Nat.zero_le _) dX10_schemaOf_24 ht.1 ht.2.1 rfl rfl (fun _ h9 => nomatch h9) ?_
  clear h
  intro r24 M24 h
  show rt_Go _ _ _ _ _ _ _ _ _ _ _ _ 27 [(0, zv s0 2 t), (1, zv s0 0 v1), (2, zv s0 0 v2), (3, zv s0 0 v3)] [] (zw s0 ca C S M24)
  refine z_aload_n dX10_schemaOf_27 rfl (j := 0) rfl ?_
  refine z_dup2 dX10_schemaOf_28 ?_
  refine z_get Γ kf_RX10_195 dX10_schemaOf_29 ht.1 ht.2.1 rfl (by decide) (v9 := M24 t 17) rfl ?_
  refine z_iconst dX10_schemaOf_32 ?_
  refine z_iadd dX10_schemaOf_33 ?_
  refine z_put0 Γ kp_RX10_195 dX10_schemaOf_34 ht.1 ht.2.1 rfl (k9 := 17) rfl ?_
  refine z_aload_n dX10_schemaOf_37 rfl (j := 0) rfl ?_
  refine z_iload_n dX10_schemaOf_38 rfl (j := 2) rfl ?_
  refine z_bipush dX10_schemaOf_39 (by decide) ?_
  refine z_icmp_ge (tgt := 48) (x' := w32 v2) (y' := 16) rfl (by decide) dX10_schemaOf_41 (by decide) (fun c41 => ?_) (fun c41 => ?_)
  · replace h := h.1 c41
    refine z_iconst dX10_schemaOf_48 ?_
    exact rt_lfew [0, 1, 2, 3] rfl (zs_X10_schemaOf_49 Γ hd hok ht  h)
  · replace h := h.2 c41
    refine z_iconst dX10_schemaOf_44 ?_
    refine rt_goto (tgt := 49) dX10_schemaOf_45 (by decide) ?_
    exact rt_lfew [0, 1, 2, 3] rfl (zs_X10_schemaOf_49 Γ hd hok ht  h)

def zt_X10_schemaOf (l : Launch) (s0 : State) (G : va_G) (ca : Nat → ClassId) (d : Nat) (C : Nat × Nat) (S : zS) (w0 : rt_Wd) (t : Int) (v : Int) (e : Int) (b : Int) (M : zM) (Q : Int → zM → Prop) (X : zM → Prop) : Prop :=
  zIf (128 ≤ w32 (M t 17)) (zt_X10_schemaOf_16 l s0 G ca d C S w0 t v e b 0 M Q X) (zt_X10_schemaOf_16 l s0 G ca d C S w0 t v e b 1 M Q X)
set_option maxRecDepth 100000 in
theorem z_X10_schemaOf {l : Launch} {s0 : State} {a0 : Array Value} {G : va_G} {ca : Nat → ClassId} (Γ : rt_Γ l s0 a0 G ca) {d : Nat} {C : Nat × Nat} {S : zS} (hd : 1 ≤ d) (hok : zok C) {t : Int} (ht : zTx S t) {v : Int} {e : Int} {b : Int} {M : zM} {Q : Int → zM → Prop} {X : zM → Prop} (h : zt_X10_schemaOf l s0 G ca d C S (zw s0 ca C S M) t v e b M Q X) : zm_X10_schemaOf l s0 G ca d C S t v e b M Q X := by
  refine z_met (lv := [(0, zv s0 2 t), (1, zv s0 0 v), (2, zv s0 0 e), (3, zv s0 0 b)]) Γ kk_X10_schemaOf rfl (show (lg_sl [zv s0 2 t, zv s0 0 v, zv s0 0 e, zv s0 0 b]).length ≤ 9 from by simp only [zn_0, zn_2, show (lg_sl []).length = 0 from rfl]; omega) (show lv_args 0 [zv s0 2 t, zv s0 0 v, zv s0 0 e, zv s0 0 b] = [(0, zv s0 2 t), (1, zv s0 0 v), (2, zv s0 0 e), (3, zv s0 0 b)] from by rw [zl_2, zl_0, zl_0, zl_0]; rfl) ?_
  unfold zt_X10_schemaOf at h
  refine z_aload_n dX10_schemaOf_0 rfl (j := 0) rfl ?_
  refine z_aload_n dX10_schemaOf_1 rfl (j := 0) rfl ?_
  refine z_get Γ kf_RX10_195 dX10_schemaOf_2 ht.1 ht.2.1 rfl (by decide) (v9 := M t 17) rfl ?_
  refine z_sipush dX10_schemaOf_5 (by decide) ?_
  refine z_icmp_ge (tgt := 15) (x' := w32 (M t 17)) (y' := 128) rfl (by decide) dX10_schemaOf_8 (by decide) (fun c8 => ?_) (fun c8 => ?_)
  · replace h := h.1 c8
    refine z_iconst dX10_schemaOf_15 ?_
    exact rt_lfew [0, 1, 2, 3] rfl (zs_X10_schemaOf_16 Γ hd hok ht  h)
  · replace h := h.2 c8
    refine z_iconst dX10_schemaOf_11 ?_
    refine rt_goto (tgt := 16) dX10_schemaOf_12 (by decide) ?_
    exact rt_lfew [0, 1, 2, 3] rfl (zs_X10_schemaOf_16 Γ hd hok ht  h)

abbrev zg_X10_fit_119 (l : Launch) (s0 : State) (G : va_G) (ca : Nat → ClassId) (d : Nat) (C : Nat × Nat) (S : zS) (w0 : rt_Wd) (t : Int) (v3 : Int)  (M : zM) (Q : Int → zM → Prop) (X : zM → Prop) : Prop := rt_Go l s0 G RX10 "fit" cX10_fit 6 (Option.none : Option FieldType) [] d w0 (zQ s0 ca 9 C S Q X) 119 [(3, zv s0 0 v3)] [zv s0 2 t] (zw s0 ca C S M)
abbrev zg_X10_fit_336 (l : Launch) (s0 : State) (G : va_G) (ca : Nat → ClassId) (d : Nat) (C : Nat × Nat) (S : zS) (w0 : rt_Wd) (t : Int) (v1 : Int) (v2 : Int) (v3 : Int) (k0 : Int) (M : zM) (Q : Int → zM → Prop) (X : zM → Prop) : Prop := rt_Go l s0 G RX10 "fit" cX10_fit 6 (Option.none : Option FieldType) [] d w0 (zQ s0 ca 9 C S Q X) 336 [(0, zv s0 2 t), (1, zv s0 0 v1), (2, zv s0 0 v2), (3, zv s0 0 v3)] [zv s0 0 k0, zv s0 2 t] (zw s0 ca C S M)
abbrev zg_X10_fit_350 (l : Launch) (s0 : State) (G : va_G) (ca : Nat → ClassId) (d : Nat) (C : Nat × Nat) (S : zS) (w0 : rt_Wd) (t : Int) (v2 : Int) (v4 : Int)  (M : zM) (Q : Int → zM → Prop) (X : zM → Prop) : Prop := rt_Go l s0 G RX10 "fit" cX10_fit 6 (Option.none : Option FieldType) [] d w0 (zQ s0 ca 9 C S Q X) 350 [(0, zv s0 2 t), (2, zv s0 0 v2), (4, zv s0 0 v4)] [] (zw s0 ca C S M)
abbrev zg_X10_fit_402 (l : Launch) (s0 : State) (G : va_G) (ca : Nat → ClassId) (d : Nat) (C : Nat × Nat) (S : zS) (w0 : rt_Wd) (t : Int) (v1 : Int) (v2 : Int) (v3 : Int) (k0 : Int) (M : zM) (Q : Int → zM → Prop) (X : zM → Prop) : Prop := rt_Go l s0 G RX10 "fit" cX10_fit 6 (Option.none : Option FieldType) [] d w0 (zQ s0 ca 9 C S Q X) 402 [(0, zv s0 2 t), (1, zv s0 0 v1), (2, zv s0 0 v2), (3, zv s0 0 v3)] [zv s0 0 k0, zv s0 2 t] (zw s0 ca C S M)
abbrev zg_X10_fit_416 (l : Launch) (s0 : State) (G : va_G) (ca : Nat → ClassId) (d : Nat) (C : Nat × Nat) (S : zS) (w0 : rt_Wd) (t : Int) (v2 : Int) (v4 : Int)  (M : zM) (Q : Int → zM → Prop) (X : zM → Prop) : Prop := rt_Go l s0 G RX10 "fit" cX10_fit 6 (Option.none : Option FieldType) [] d w0 (zQ s0 ca 9 C S Q X) 416 [(0, zv s0 2 t), (2, zv s0 0 v2), (4, zv s0 0 v4)] [] (zw s0 ca C S M)
abbrev zg_X10_fit_478 (l : Launch) (s0 : State) (G : va_G) (ca : Nat → ClassId) (d : Nat) (C : Nat × Nat) (S : zS) (w0 : rt_Wd) (t : Int) (v1 : Int) (v2 : Int) (v3 : Int) (k0 : Int) (M : zM) (Q : Int → zM → Prop) (X : zM → Prop) : Prop := rt_Go l s0 G RX10 "fit" cX10_fit 6 (Option.none : Option FieldType) [] d w0 (zQ s0 ca 9 C S Q X) 478 [(0, zv s0 2 t), (1, zv s0 0 v1), (2, zv s0 0 v2), (3, zv s0 0 v3)] [zv s0 0 k0, zv s0 2 t] (zw s0 ca C S M)
abbrev zg_X10_fit_492 (l : Launch) (s0 : State) (G : va_G) (ca : Nat → ClassId) (d : Nat) (C : Nat × Nat) (S : zS) (w0 : rt_Wd) (t : Int) (v1 : Int) (v3 : Int) (v4 : Int)  (M : zM) (Q : Int → zM → Prop) (X : zM → Prop) : Prop := rt_Go l s0 G RX10 "fit" cX10_fit 6 (Option.none : Option FieldType) [] d w0 (zQ s0 ca 9 C S Q X) 492 [(0, zv s0 2 t), (1, zv s0 0 v1), (3, zv s0 0 v3), (4, zv s0 0 v4)] [] (zw s0 ca C S M)
abbrev zg_X10_fit_522 (l : Launch) (s0 : State) (G : va_G) (ca : Nat → ClassId) (d : Nat) (C : Nat × Nat) (S : zS) (w0 : rt_Wd) (t : Int) (v1 : Int) (v3 : Int) (v4 : Int) (v5 : Int) (k0 : Int) (M : zM) (Q : Int → zM → Prop) (X : zM → Prop) : Prop := rt_Go l s0 G RX10 "fit" cX10_fit 6 (Option.none : Option FieldType) [] d w0 (zQ s0 ca 9 C S Q X) 522 [(0, zv s0 2 t), (1, zv s0 0 v1), (3, zv s0 0 v3), (4, zv s0 0 v4), (5, zv s0 0 v5)] [zv s0 0 k0, zv s0 2 t] (zw s0 ca C S M)
def zt_X10_fit_119 (l : Launch) (s0 : State) (G : va_G) (ca : Nat → ClassId) (d : Nat) (C : Nat × Nat) (S : zS) (w0 : rt_Wd) (t : Int) (v3 : Int)  (M : zM) (Q : Int → zM → Prop) (X : zM → Prop) : Prop :=
  zm_X10_need l s0 G ca (d - 1) C S t 1 12 v3 M (fun r127 M127 => Q 0 M127) X
set_option maxRecDepth 100000 in
theorem zs_X10_fit_119 {l : Launch} {s0 : State} {a0 : Array Value} {G : va_G} {ca : Nat → ClassId} (Γ : rt_Γ l s0 a0 G ca) {d : Nat} {C : Nat × Nat} {S : zS} (hd : 1 ≤ d) (hok : zok C) {t : Int} (ht : zTx S t) {w0 : rt_Wd} {v3 : Int}   {M : zM} {Q : Int → zM → Prop} {X : zM → Prop} (h : zt_X10_fit_119 l s0 G ca d C S w0 t v3 M Q X) : zg_X10_fit_119 l s0 G ca d C S w0 t v3 M Q X := by
  unfold zt_X10_fit_119 at h
  refine z_iconst dX10_fit_119 ?_
  refine rt_goto (tgt := 124) dX10_fit_120 (by decide) ?_
  refine z_bipush dX10_fit_124 (by decide) ?_
  refine z_iload_n dX10_fit_126 rfl (j := 0) rfl ?_
  refine z_callV Γ kk_X10_need kc_RX10_105 (As := [zv s0 0 1, zv s0 0 12, zv s0 0 v3]) h (by omega) (by decide) (show (parseMethodDescriptor yX10_need.desc).map (fun q => q.parameters.length) = some 3 by decide +kernel) hok (Nat.zero_le _) dX10_fit_127 ht.1 ht.2.1 rfl rfl (fun _ h9 => nomatch h9) ?_
  clear h
  intro r127 M127 h
  show rt_Go _ _ _ _ _ _ _ _ _ _ _ _ 130 [(3, zv s0 0 v3)] [] (zw s0 ca C S M127)
  refine rt_goto (tgt := 553) dX10_fit_130 (by decide) ?_
  exact z_vret dX10_fit_553 rfl h

def zt_X10_fit_336 (l : Launch) (s0 : State) (G : va_G) (ca : Nat → ClassId) (d : Nat) (C : Nat × Nat) (S : zS) (w0 : rt_Wd) (t : Int) (v1 : Int) (v2 : Int) (v3 : Int) (k0 : Int) (M : zM) (Q : Int → zM → Prop) (X : zM → Prop) : Prop :=
  zm_X10_need l s0 G ca (d - 1) C S t k0 12 v3 M (fun r339 M339 => (0 ≤ v1 ∧ v1 < 4200) ∧ (zg_X10_fit_350 l s0 G ca d C S w0 t v2 (M339 (t + 6) v1) M339 Q X)) X
set_option maxRecDepth 100000 in
theorem zs_X10_fit_336 {l : Launch} {s0 : State} {a0 : Array Value} {G : va_G} {ca : Nat → ClassId} (Γ : rt_Γ l s0 a0 G ca) {d : Nat} {C : Nat × Nat} {S : zS} (hd : 1 ≤ d) (hok : zok C) {t : Int} (ht : zTx S t) {w0 : rt_Wd} {v1 : Int} {v2 : Int} {v3 : Int} {k0 : Int}  {M : zM} {Q : Int → zM → Prop} {X : zM → Prop} (h : zt_X10_fit_336 l s0 G ca d C S w0 t v1 v2 v3 k0 M Q X) : zg_X10_fit_336 l s0 G ca d C S w0 t v1 v2 v3 k0 M Q X := by
  unfold zt_X10_fit_336 at h
  refine z_bipush dX10_fit_336 (by decide) ?_
  refine z_iload_n dX10_fit_338 rfl (j := 3) rfl ?_
  refine z_callV Γ kk_X10_need kc_RX10_105 (As := [zv s0 0 k0, zv s0 0 12, zv s0 0 v3]) h (by omega) (by decide) (show (parseMethodDescriptor yX10_need.desc).map (fun q => q.parameters.length) = some 3 by decide +kernel) hok (Nat.zero_le _) dX10_fit_339 ht.1 ht.2.1 rfl rfl (fun _ h9 => nomatch h9) ?_
  clear h
  intro r339 M339 h
  show rt_Go _ _ _ _ _ _ _ _ _ _ _ _ 342 [(0, zv s0 2 t), (1, zv s0 0 v1), (2, zv s0 0 v2), (3, zv s0 0 v3)] [] (zw s0 ca C S M339)
  refine z_aload_n dX10_fit_342 rfl (j := 0) rfl ?_
  refine z_getc Γ kf_RX10_29 dX10_fit_343 ht.1 ht.2.1 rfl ?_
  refine z_iload_n dX10_fit_346 rfl (j := 1) rfl ?_
  obtain ⟨hi347, h⟩ := h
  refine z_iald Γ dX10_fit_347 (by have := ht.1; omega) ht.2.2.2.2.2.2.2.1 (by decide) hi347 (v9 := M339 (t + 6) v1) rfl ?_
  refine z_istore (i := 4) (lv' := [(4, zv s0 0 (M339 (t + 6) v1)), (0, zv s0 2 t), (1, zv s0 0 v1), (2, zv s0 0 v2), (3, zv s0 0 v3)]) dX10_fit_348 (by decide) (by simp [zv_cat0, zv_cat1, zv_cat2, zv_cats]) ?_
  exact rt_lfew [1, 3, 0] rfl h

def zt_X10_fit_350 (l : Launch) (s0 : State) (G : va_G) (ca : Nat → ClassId) (d : Nat) (C : Nat × Nat) (S : zS) (w0 : rt_Wd) (t : Int) (v2 : Int) (v4 : Int)  (M : zM) (Q : Int → zM → Prop) (X : zM → Prop) : Prop :=
  zIf (w32 v4 < 0) (Q 0 M) ((0 ≤ v2 ∧ v2 < 140) ∧ ((0 ≤ M (t + 12) v2 ∧ M (t + 12) v2 < 2200) ∧ (zm_X10_fit l s0 G ca (d - 1) C S t v4 (M (t + 15) (M (t + 12) v2)) M (fun r369 M369 => (0 ≤ v4 ∧ v4 < 4200) ∧ (zg_X10_fit_350 l s0 G ca d C S w0 t v2 (M369 (t + 7) v4) M369 Q X)) X)))
set_option maxRecDepth 100000 in
theorem zs_X10_fit_350 {l : Launch} {s0 : State} {a0 : Array Value} {G : va_G} {ca : Nat → ClassId} (Γ : rt_Γ l s0 a0 G ca) {d : Nat} {C : Nat × Nat} {S : zS} (hd : 1 ≤ d) (hok : zok C) {t : Int} (ht : zTx S t) {w0 : rt_Wd} {v2 : Int} {v4 : Int}   {M : zM} {Q : Int → zM → Prop} {X : zM → Prop} (h : zt_X10_fit_350 l s0 G ca d C S w0 t v2 v4 M Q X) : zg_X10_fit_350 l s0 G ca d C S w0 t v2 v4 M Q X := by
  unfold zt_X10_fit_350 at h
  refine z_iload dX10_fit_350 (j := 2) rfl ?_
  refine z_if_lt (tgt := 384) (x' := w32 v4) rfl dX10_fit_352 (by decide) (fun c352 => ?_) (fun c352 => ?_)
  · replace h := h.1 c352
    refine rt_goto (tgt := 553) dX10_fit_384 (by decide) ?_
    exact z_vret dX10_fit_553 rfl h
  · replace h := h.2 c352
    refine z_aload_n dX10_fit_355 rfl (j := 0) rfl ?_
    refine z_iload dX10_fit_356 (j := 2) rfl ?_
    refine z_aload_n dX10_fit_358 rfl (j := 0) rfl ?_
    refine z_getc Γ kf_RX10_56 dX10_fit_359 ht.1 ht.2.1 rfl ?_
    refine z_aload_n dX10_fit_362 rfl (j := 0) rfl ?_
    refine z_getc Γ kf_RX10_47 dX10_fit_363 ht.1 ht.2.1 rfl ?_
    refine z_iload_n dX10_fit_366 rfl (j := 1) rfl ?_
    obtain ⟨hi367, h⟩ := h
    refine z_iald Γ dX10_fit_367 (by have := ht.1; omega) ht.2.2.2.2.2.2.2.2.2.2.2.2.2.1 (by decide) hi367 (v9 := M (t + 12) v2) rfl ?_
    obtain ⟨hi368, h⟩ := h
    refine z_iald Γ dX10_fit_368 (by have := ht.1; omega) ht.2.2.2.2.2.2.2.2.2.2.2.2.2.2.2.2.1 (by decide) hi368 (v9 := M (t + 15) (M (t + 12) v2)) rfl ?_
    refine z_callV Γ kk_X10_fit kc_RX10_274 (As := [zv s0 0 v4, zv s0 0 (M (t + 15) (M (t + 12) v2))]) h (by omega) (by decide) (show (parseMethodDescriptor yX10_fit.desc).map (fun q => q.parameters.length) = some 2 by decide +kernel) hok (Nat.zero_le _) dX10_fit_369 ht.1 ht.2.1 rfl rfl (fun _ h9 => nomatch h9) ?_
    clear h
    intro r369 M369 h
    show rt_Go _ _ _ _ _ _ _ _ _ _ _ _ 372 [(0, zv s0 2 t), (2, zv s0 0 v2), (4, zv s0 0 v4)] [] (zw s0 ca C S M369)
    refine z_aload_n dX10_fit_372 rfl (j := 0) rfl ?_
    refine z_getc Γ kf_RX10_32 dX10_fit_373 ht.1 ht.2.1 rfl ?_
    refine z_iload dX10_fit_376 (j := 2) rfl ?_
    obtain ⟨hi378, h⟩ := h
    refine z_iald Γ dX10_fit_378 (by have := ht.1; omega) ht.2.2.2.2.2.2.2.2.1 (by decide) hi378 (v9 := M369 (t + 7) v4) rfl ?_
    refine z_istore (i := 4) (lv' := [(4, zv s0 0 (M369 (t + 7) v4)), (0, zv s0 2 t), (2, zv s0 0 v2)]) dX10_fit_379 (by decide) (by simp [zv_cat0, zv_cat1, zv_cat2, zv_cats]) ?_
    refine rt_goto (tgt := 350) dX10_fit_381 (by decide) ?_
    exact rt_lfew [1, 2, 0] rfl h

def zt_X10_fit_402 (l : Launch) (s0 : State) (G : va_G) (ca : Nat → ClassId) (d : Nat) (C : Nat × Nat) (S : zS) (w0 : rt_Wd) (t : Int) (v1 : Int) (v2 : Int) (v3 : Int) (k0 : Int) (M : zM) (Q : Int → zM → Prop) (X : zM → Prop) : Prop :=
  zm_X10_need l s0 G ca (d - 1) C S t k0 12 v3 M (fun r405 M405 => (0 ≤ v1 ∧ v1 < 4200) ∧ (zg_X10_fit_416 l s0 G ca d C S w0 t v2 (M405 (t + 6) v1) M405 Q X)) X
set_option maxRecDepth 100000 in
theorem zs_X10_fit_402 {l : Launch} {s0 : State} {a0 : Array Value} {G : va_G} {ca : Nat → ClassId} (Γ : rt_Γ l s0 a0 G ca) {d : Nat} {C : Nat × Nat} {S : zS} (hd : 1 ≤ d) (hok : zok C) {t : Int} (ht : zTx S t) {w0 : rt_Wd} {v1 : Int} {v2 : Int} {v3 : Int} {k0 : Int}  {M : zM} {Q : Int → zM → Prop} {X : zM → Prop} (h : zt_X10_fit_402 l s0 G ca d C S w0 t v1 v2 v3 k0 M Q X) : zg_X10_fit_402 l s0 G ca d C S w0 t v1 v2 v3 k0 M Q X := by
  unfold zt_X10_fit_402 at h
  refine z_bipush dX10_fit_402 (by decide) ?_
  refine z_iload_n dX10_fit_404 rfl (j := 3) rfl ?_
  refine z_callV Γ kk_X10_need kc_RX10_105 (As := [zv s0 0 k0, zv s0 0 12, zv s0 0 v3]) h (by omega) (by decide) (show (parseMethodDescriptor yX10_need.desc).map (fun q => q.parameters.length) = some 3 by decide +kernel) hok (Nat.zero_le _) dX10_fit_405 ht.1 ht.2.1 rfl rfl (fun _ h9 => nomatch h9) ?_
  clear h
  intro r405 M405 h
  show rt_Go _ _ _ _ _ _ _ _ _ _ _ _ 408 [(0, zv s0 2 t), (1, zv s0 0 v1), (2, zv s0 0 v2), (3, zv s0 0 v3)] [] (zw s0 ca C S M405)
  refine z_aload_n dX10_fit_408 rfl (j := 0) rfl ?_
  refine z_getc Γ kf_RX10_29 dX10_fit_409 ht.1 ht.2.1 rfl ?_
  refine z_iload_n dX10_fit_412 rfl (j := 1) rfl ?_
  obtain ⟨hi413, h⟩ := h
  refine z_iald Γ dX10_fit_413 (by have := ht.1; omega) ht.2.2.2.2.2.2.2.1 (by decide) hi413 (v9 := M405 (t + 6) v1) rfl ?_
  refine z_istore (i := 4) (lv' := [(4, zv s0 0 (M405 (t + 6) v1)), (0, zv s0 2 t), (1, zv s0 0 v1), (2, zv s0 0 v2), (3, zv s0 0 v3)]) dX10_fit_414 (by decide) (by simp [zv_cat0, zv_cat1, zv_cat2, zv_cats]) ?_
  exact rt_lfew [1, 3, 0] rfl h

def zt_X10_fit_416 (l : Launch) (s0 : State) (G : va_G) (ca : Nat → ClassId) (d : Nat) (C : Nat × Nat) (S : zS) (w0 : rt_Wd) (t : Int) (v2 : Int) (v4 : Int)  (M : zM) (Q : Int → zM → Prop) (X : zM → Prop) : Prop :=
  zIf (w32 v4 < 0) (Q 0 M) ((0 ≤ v4 ∧ v4 < 4200) ∧ ((0 ≤ v2 ∧ v2 < 140) ∧ ((0 ≤ M (t + 12) v2 ∧ M (t + 12) v2 < 2200) ∧ (zm_X10_fit l s0 G ca (d - 1) C S t (M (t + 7) v4) (M (t + 15) (M (t + 12) v2)) M (fun r440 M440 => (0 ≤ M440 (t + 7) v4 ∧ M440 (t + 7) v4 < 4200) ∧ (zg_X10_fit_416 l s0 G ca d C S w0 t v2 (M440 (t + 7) (M440 (t + 7) v4)) M440 Q X)) X))))
set_option maxRecDepth 100000 in
theorem zs_X10_fit_416 {l : Launch} {s0 : State} {a0 : Array Value} {G : va_G} {ca : Nat → ClassId} (Γ : rt_Γ l s0 a0 G ca) {d : Nat} {C : Nat × Nat} {S : zS} (hd : 1 ≤ d) (hok : zok C) {t : Int} (ht : zTx S t) {w0 : rt_Wd} {v2 : Int} {v4 : Int}   {M : zM} {Q : Int → zM → Prop} {X : zM → Prop} (h : zt_X10_fit_416 l s0 G ca d C S w0 t v2 v4 M Q X) : zg_X10_fit_416 l s0 G ca d C S w0 t v2 v4 M Q X := by
  unfold zt_X10_fit_416 at h
  refine z_iload dX10_fit_416 (j := 2) rfl ?_
  refine z_if_lt (tgt := 460) (x' := w32 v4) rfl dX10_fit_418 (by decide) (fun c418 => ?_) (fun c418 => ?_)
  · replace h := h.1 c418
    refine rt_goto (tgt := 553) dX10_fit_460 (by decide) ?_
    exact z_vret dX10_fit_553 rfl h
  · replace h := h.2 c418
    refine z_aload_n dX10_fit_421 rfl (j := 0) rfl ?_
    refine z_aload_n dX10_fit_422 rfl (j := 0) rfl ?_
    refine z_getc Γ kf_RX10_32 dX10_fit_423 ht.1 ht.2.1 rfl ?_
    refine z_iload dX10_fit_426 (j := 2) rfl ?_
    obtain ⟨hi428, h⟩ := h
    refine z_iald Γ dX10_fit_428 (by have := ht.1; omega) ht.2.2.2.2.2.2.2.2.1 (by decide) hi428 (v9 := M (t + 7) v4) rfl ?_
    refine z_aload_n dX10_fit_429 rfl (j := 0) rfl ?_
    refine z_getc Γ kf_RX10_56 dX10_fit_430 ht.1 ht.2.1 rfl ?_
    refine z_aload_n dX10_fit_433 rfl (j := 0) rfl ?_
    refine z_getc Γ kf_RX10_47 dX10_fit_434 ht.1 ht.2.1 rfl ?_
    refine z_iload_n dX10_fit_437 rfl (j := 1) rfl ?_
    obtain ⟨hi438, h⟩ := h
    refine z_iald Γ dX10_fit_438 (by have := ht.1; omega) ht.2.2.2.2.2.2.2.2.2.2.2.2.2.1 (by decide) hi438 (v9 := M (t + 12) v2) rfl ?_
    obtain ⟨hi439, h⟩ := h
    refine z_iald Γ dX10_fit_439 (by have := ht.1; omega) ht.2.2.2.2.2.2.2.2.2.2.2.2.2.2.2.2.1 (by decide) hi439 (v9 := M (t + 15) (M (t + 12) v2)) rfl ?_
    refine z_callV Γ kk_X10_fit kc_RX10_274 (As := [zv s0 0 (M (t + 7) v4), zv s0 0 (M (t + 15) (M (t + 12) v2))]) h (by omega) (by decide) (show (parseMethodDescriptor yX10_fit.desc).map (fun q => q.parameters.length) = some 2 by decide +kernel) hok (Nat.zero_le _) dX10_fit_440 ht.1 ht.2.1 rfl rfl (fun _ h9 => nomatch h9) ?_
    clear h
    intro r440 M440 h
    show rt_Go _ _ _ _ _ _ _ _ _ _ _ _ 443 [(0, zv s0 2 t), (2, zv s0 0 v2), (4, zv s0 0 v4)] [] (zw s0 ca C S M440)
    refine z_aload_n dX10_fit_443 rfl (j := 0) rfl ?_
    refine z_getc Γ kf_RX10_32 dX10_fit_444 ht.1 ht.2.1 rfl ?_
    refine z_aload_n dX10_fit_447 rfl (j := 0) rfl ?_
    refine z_getc Γ kf_RX10_32 dX10_fit_448 ht.1 ht.2.1 rfl ?_
    refine z_iload dX10_fit_451 (j := 2) rfl ?_
    refine z_iald Γ dX10_fit_453 (by have := ht.1; omega) ht.2.2.2.2.2.2.2.2.1 (by decide) hi428 (v9 := M440 (t + 7) v4) rfl ?_
    obtain ⟨hi454, h⟩ := h
    refine z_iald Γ dX10_fit_454 (by have := ht.1; omega) ht.2.2.2.2.2.2.2.2.1 (by decide) hi454 (v9 := M440 (t + 7) (M440 (t + 7) v4)) rfl ?_
    refine z_istore (i := 4) (lv' := [(4, zv s0 0 (M440 (t + 7) (M440 (t + 7) v4))), (0, zv s0 2 t), (2, zv s0 0 v2)]) dX10_fit_455 (by decide) (by simp [zv_cat0, zv_cat1, zv_cat2, zv_cats]) ?_
    refine rt_goto (tgt := 416) dX10_fit_457 (by decide) ?_
    exact rt_lfew [1, 2, 0] rfl h

def zt_X10_fit_478 (l : Launch) (s0 : State) (G : va_G) (ca : Nat → ClassId) (d : Nat) (C : Nat × Nat) (S : zS) (w0 : rt_Wd) (t : Int) (v1 : Int) (v2 : Int) (v3 : Int) (k0 : Int) (M : zM) (Q : Int → zM → Prop) (X : zM → Prop) : Prop :=
  zm_X10_need l s0 G ca (d - 1) C S t k0 12 v3 M (fun r481 M481 => (0 ≤ v2 ∧ v2 < 140) ∧ (zg_X10_fit_492 l s0 G ca d C S w0 t v1 v3 (M481 (t + 12) v2) M481 Q X)) X
set_option maxRecDepth 100000 in
theorem zs_X10_fit_478 {l : Launch} {s0 : State} {a0 : Array Value} {G : va_G} {ca : Nat → ClassId} (Γ : rt_Γ l s0 a0 G ca) {d : Nat} {C : Nat × Nat} {S : zS} (hd : 1 ≤ d) (hok : zok C) {t : Int} (ht : zTx S t) {w0 : rt_Wd} {v1 : Int} {v2 : Int} {v3 : Int} {k0 : Int}  {M : zM} {Q : Int → zM → Prop} {X : zM → Prop} (h : zt_X10_fit_478 l s0 G ca d C S w0 t v1 v2 v3 k0 M Q X) : zg_X10_fit_478 l s0 G ca d C S w0 t v1 v2 v3 k0 M Q X := by
  unfold zt_X10_fit_478 at h
  refine z_bipush dX10_fit_478 (by decide) ?_
  refine z_iload_n dX10_fit_480 rfl (j := 3) rfl ?_
  refine z_callV Γ kk_X10_need kc_RX10_105 (As := [zv s0 0 k0, zv s0 0 12, zv s0 0 v3]) h (by omega) (by decide) (show (parseMethodDescriptor yX10_need.desc).map (fun q => q.parameters.length) = some 3 by decide +kernel) hok (Nat.zero_le _) dX10_fit_481 ht.1 ht.2.1 rfl rfl (fun _ h9 => nomatch h9) ?_
  clear h
  intro r481 M481 h
  show rt_Go _ _ _ _ _ _ _ _ _ _ _ _ 484 [(0, zv s0 2 t), (1, zv s0 0 v1), (2, zv s0 0 v2), (3, zv s0 0 v3)] [] (zw s0 ca C S M481)
  refine z_aload_n dX10_fit_484 rfl (j := 0) rfl ?_
  refine z_getc Γ kf_RX10_47 dX10_fit_485 ht.1 ht.2.1 rfl ?_
  refine z_iload_n dX10_fit_488 rfl (j := 2) rfl ?_
  obtain ⟨hi489, h⟩ := h
  refine z_iald Γ dX10_fit_489 (by have := ht.1; omega) ht.2.2.2.2.2.2.2.2.2.2.2.2.2.1 (by decide) hi489 (v9 := M481 (t + 12) v2) rfl ?_
  refine z_istore (i := 4) (lv' := [(4, zv s0 0 (M481 (t + 12) v2)), (0, zv s0 2 t), (1, zv s0 0 v1), (2, zv s0 0 v2), (3, zv s0 0 v3)]) dX10_fit_490 (by decide) (by simp [zv_cat0, zv_cat1, zv_cat2, zv_cats]) ?_
  exact rt_lfew [1, 2, 4, 0] rfl h

def zt_X10_fit_522 (l : Launch) (s0 : State) (G : va_G) (ca : Nat → ClassId) (d : Nat) (C : Nat × Nat) (S : zS) (w0 : rt_Wd) (t : Int) (v1 : Int) (v3 : Int) (v4 : Int) (v5 : Int) (k0 : Int) (M : zM) (Q : Int → zM → Prop) (X : zM → Prop) : Prop :=
  zm_X10_need l s0 G ca (d - 1) C S t k0 12 v3 M (fun r525 M525 => (0 ≤ v4 ∧ v4 < 2200) ∧ (zm_X10_fit l s0 G ca (d - 1) C S t v5 (M525 (t + 15) v4) M525 (fun r538 M538 => zg_X10_fit_492 l s0 G ca d C S w0 t v1 v3 (M538 (t + 18) v4) M538 Q X) X)) X
set_option maxRecDepth 100000 in
theorem zs_X10_fit_522 {l : Launch} {s0 : State} {a0 : Array Value} {G : va_G} {ca : Nat → ClassId} (Γ : rt_Γ l s0 a0 G ca) {d : Nat} {C : Nat × Nat} {S : zS} (hd : 1 ≤ d) (hok : zok C) {t : Int} (ht : zTx S t) {w0 : rt_Wd} {v1 : Int} {v3 : Int} {v4 : Int} {v5 : Int} {k0 : Int}  {M : zM} {Q : Int → zM → Prop} {X : zM → Prop} (h : zt_X10_fit_522 l s0 G ca d C S w0 t v1 v3 v4 v5 k0 M Q X) : zg_X10_fit_522 l s0 G ca d C S w0 t v1 v3 v4 v5 k0 M Q X := by
  unfold zt_X10_fit_522 at h
  refine z_bipush dX10_fit_522 (by decide) ?_
  refine z_iload_n dX10_fit_524 rfl (j := 2) rfl ?_
  refine z_callV Γ kk_X10_need kc_RX10_105 (As := [zv s0 0 k0, zv s0 0 12, zv s0 0 v3]) h (by omega) (by decide) (show (parseMethodDescriptor yX10_need.desc).map (fun q => q.parameters.length) = some 3 by decide +kernel) hok (Nat.zero_le _) dX10_fit_525 ht.1 ht.2.1 rfl rfl (fun _ h9 => nomatch h9) ?_
  clear h
  intro r525 M525 h
  show rt_Go _ _ _ _ _ _ _ _ _ _ _ _ 528 [(0, zv s0 2 t), (1, zv s0 0 v1), (3, zv s0 0 v3), (4, zv s0 0 v4), (5, zv s0 0 v5)] [] (zw s0 ca C S M525)
  refine z_aload_n dX10_fit_528 rfl (j := 0) rfl ?_
  refine z_iload dX10_fit_529 (j := 4) rfl ?_
  refine z_aload_n dX10_fit_531 rfl (j := 0) rfl ?_
  refine z_getc Γ kf_RX10_56 dX10_fit_532 ht.1 ht.2.1 rfl ?_
  refine z_iload dX10_fit_535 (j := 3) rfl ?_
  obtain ⟨hi537, h⟩ := h
  refine z_iald Γ dX10_fit_537 (by have := ht.1; omega) ht.2.2.2.2.2.2.2.2.2.2.2.2.2.2.2.2.1 (by decide) hi537 (v9 := M525 (t + 15) v4) rfl ?_
  refine z_callV Γ kk_X10_fit kc_RX10_274 (As := [zv s0 0 v5, zv s0 0 (M525 (t + 15) v4)]) h (by omega) (by decide) (show (parseMethodDescriptor yX10_fit.desc).map (fun q => q.parameters.length) = some 2 by decide +kernel) hok (Nat.zero_le _) dX10_fit_538 ht.1 ht.2.1 rfl rfl (fun _ h9 => nomatch h9) ?_
  clear h
  intro r538 M538 h
  show rt_Go _ _ _ _ _ _ _ _ _ _ _ _ 541 [(0, zv s0 2 t), (1, zv s0 0 v1), (3, zv s0 0 v3), (4, zv s0 0 v4), (5, zv s0 0 v5)] [] (zw s0 ca C S M538)
  refine z_aload_n dX10_fit_541 rfl (j := 0) rfl ?_
  refine z_getc Γ kf_RX10_65 dX10_fit_542 ht.1 ht.2.1 rfl ?_
  refine z_iload dX10_fit_545 (j := 3) rfl ?_
  refine z_iald Γ dX10_fit_547 (by have := ht.1; omega) ht.2.2.2.2.2.2.2.2.2.2.2.2.2.2.2.2.2.2.2.1 (by decide) hi537 (v9 := M538 (t + 18) v4) rfl ?_
  refine z_istore (i := 4) (lv' := [(4, zv s0 0 (M538 (t + 18) v4)), (0, zv s0 2 t), (1, zv s0 0 v1), (3, zv s0 0 v3), (5, zv s0 0 v5)]) dX10_fit_548 (by decide) (by simp [zv_cat0, zv_cat1, zv_cat2, zv_cats]) ?_
  refine rt_goto (tgt := 492) dX10_fit_550 (by decide) ?_
  exact rt_lfew [1, 2, 3, 0] rfl h

def zt_X10_fit_492 (l : Launch) (s0 : State) (G : va_G) (ca : Nat → ClassId) (d : Nat) (C : Nat × Nat) (S : zS) (w0 : rt_Wd) (t : Int) (v1 : Int) (v3 : Int) (v4 : Int)  (M : zM) (Q : Int → zM → Prop) (X : zM → Prop) : Prop :=
  zIf (w32 v4 < 0) (Q 0 M) ((0 ≤ v4 ∧ v4 < 2200) ∧ (zm_X10_memberLike l s0 G ca (d - 1) C S t v1 (M (t + 16) v4) M (fun r506 M506 => zIf (w32 r506 < 0) (zt_X10_fit_522 l s0 G ca d C S w0 t v1 v3 v4 r506 0 M506 Q X) (zt_X10_fit_522 l s0 G ca d C S w0 t v1 v3 v4 r506 1 M506 Q X)) X))
set_option maxRecDepth 100000 in
theorem zs_X10_fit_492 {l : Launch} {s0 : State} {a0 : Array Value} {G : va_G} {ca : Nat → ClassId} (Γ : rt_Γ l s0 a0 G ca) {d : Nat} {C : Nat × Nat} {S : zS} (hd : 1 ≤ d) (hok : zok C) {t : Int} (ht : zTx S t) {w0 : rt_Wd} {v1 : Int} {v3 : Int} {v4 : Int}   {M : zM} {Q : Int → zM → Prop} {X : zM → Prop} (h : zt_X10_fit_492 l s0 G ca d C S w0 t v1 v3 v4 M Q X) : zg_X10_fit_492 l s0 G ca d C S w0 t v1 v3 v4 M Q X := by
  unfold zt_X10_fit_492 at h
  refine z_iload dX10_fit_492 (j := 3) rfl ?_
  refine z_if_lt (tgt := 553) (x' := w32 v4) rfl dX10_fit_494 (by decide) (fun c494 => ?_) (fun c494 => ?_)
  · replace h := h.1 c494
    exact z_vret dX10_fit_553 rfl h
  · replace h := h.2 c494
    refine z_aload_n dX10_fit_497 rfl (j := 0) rfl ?_
    refine z_iload_n dX10_fit_498 rfl (j := 1) rfl ?_
    refine z_aload_n dX10_fit_499 rfl (j := 0) rfl ?_
    refine z_getc Γ kf_RX10_59 dX10_fit_500 ht.1 ht.2.1 rfl ?_
    refine z_iload dX10_fit_503 (j := 3) rfl ?_
    obtain ⟨hi505, h⟩ := h
    refine z_iald Γ dX10_fit_505 (by have := ht.1; omega) ht.2.2.2.2.2.2.2.2.2.2.2.2.2.2.2.2.2.1 (by decide) hi505 (v9 := M (t + 16) v4) rfl ?_
    refine z_callV Γ kk_X10_memberLike kc_RX10_277 (As := [zv s0 0 v1, zv s0 0 (M (t + 16) v4)]) h (by omega) (by decide) (show (parseMethodDescriptor yX10_memberLike.desc).map (fun q => q.parameters.length) = some 2 by decide +kernel) hok (Nat.zero_le _) dX10_fit_506 ht.1 ht.2.1 rfl rfl (fun _ h9 => nomatch h9) ?_
    clear h
    intro r506 M506 h
    show rt_Go _ _ _ _ _ _ _ _ _ _ _ _ 509 [(0, zv s0 2 t), (1, zv s0 0 v1), (3, zv s0 0 v3), (4, zv s0 0 v4)] [zv s0 0 r506] (zw s0 ca C S M506)
    refine z_istore (i := 5) (lv' := [(5, zv s0 0 r506), (0, zv s0 2 t), (1, zv s0 0 v1), (3, zv s0 0 v3), (4, zv s0 0 v4)]) dX10_fit_509 (by decide) (by simp [zv_cat0, zv_cat1, zv_cat2, zv_cats]) ?_
    refine z_aload_n dX10_fit_511 rfl (j := 1) rfl ?_
    refine z_iload dX10_fit_512 (j := 0) rfl ?_
    refine z_if_lt (tgt := 521) (x' := w32 r506) rfl dX10_fit_514 (by decide) (fun c514 => ?_) (fun c514 => ?_)
    · replace h := h.1 c514
      refine z_iconst dX10_fit_521 ?_
      exact rt_lfew [1, 2, 3, 4, 0] rfl (zs_X10_fit_522 Γ hd hok ht  h)
    · replace h := h.2 c514
      refine z_iconst dX10_fit_517 ?_
      refine rt_goto (tgt := 522) dX10_fit_518 (by decide) ?_
      exact rt_lfew [1, 2, 3, 4, 0] rfl (zs_X10_fit_522 Γ hd hok ht  h)

def zt_X10_fit (l : Launch) (s0 : State) (G : va_G) (ca : Nat → ClassId) (d : Nat) (C : Nat × Nat) (S : zS) (w0 : rt_Wd) (t : Int) (v : Int) (s : Int) (M : zM) (Q : Int → zM → Prop) (X : zM → Prop) : Prop :=
  (0 ≤ v ∧ v < 4200) ∧ ((0 ≤ s ∧ s < 140) ∧ (zIf (w32 (M (t + 9) s) = 0) (zIf (w32 (M (t + 2) v) = 6) (zm_X10_need l s0 G ca (d - 1) C S t 1 12 (M (t + 3) v) M (fun r92 M92 => Q 0 M92) X) (zm_X10_need l s0 G ca (d - 1) C S t 0 12 (M (t + 3) v) M (fun r92 M92 => Q 0 M92) X)) (zIf (w32 (M (t + 9) s) = 1) (zIf (w32 (M (t + 2) v) = 4) (zt_X10_fit_119 l s0 G ca d C S w0 t (M (t + 3) v) M Q X) (zIf (w32 (M (t + 2) v) = 5) (zt_X10_fit_119 l s0 G ca d C S w0 t (M (t + 3) v) M Q X) (zm_X10_need l s0 G ca (d - 1) C S t 0 12 (M (t + 3) v) M (fun r127 M127 => Q 0 M127) X))) (zIf (w32 (M (t + 9) s) = 2) (zIf (w32 (M (t + 2) v) = 3) (zIf (w64 (M (t + 4) v) = w64 (w32 (M (t + 4) v))) (zm_X10_need l s0 G ca (d - 1) C S t 1 12 (M (t + 3) v) M (fun r170 M170 => Q 0 M170) X) (zm_X10_need l s0 G ca (d - 1) C S t 0 12 (M (t + 3) v) M (fun r170 M170 => Q 0 M170) X)) (zm_X10_need l s0 G ca (d - 1) C S t 0 12 (M (t + 3) v) M (fun r170 M170 => Q 0 M170) X)) (zIf (w32 (M (t + 9) s) = 3) (zIf (w32 (M (t + 2) v) = 3) (zm_X10_need l s0 G ca (d - 1) C S t 1 12 (M (t + 3) v) M (fun r195 M195 => Q 0 M195) X) (zm_X10_need l s0 G ca (d - 1) C S t 0 12 (M (t + 3) v) M (fun r195 M195 => Q 0 M195) X)) (zIf (w32 (M (t + 9) s) = 4) (zIf (w32 (M (t + 2) v) = 2) (zm_X10_need l s0 G ca (d - 1) C S t 1 12 (M (t + 3) v) M (fun r220 M220 => Q 0 M220) X) (zm_X10_need l s0 G ca (d - 1) C S t 0 12 (M (t + 3) v) M (fun r220 M220 => Q 0 M220) X)) (zIf (w32 (M (t + 9) s) = 5) (zIf (w32 (M (t + 2) v) = 2) (zm_X10_need l s0 G ca (d - 1) C S t 1 12 (M (t + 3) v) M (fun r220 M220 => Q 0 M220) X) (zm_X10_need l s0 G ca (d - 1) C S t 0 12 (M (t + 3) v) M (fun r220 M220 => Q 0 M220) X)) (zIf (w32 (M (t + 9) s) = 6) (zIf (w32 (M (t + 2) v) = 1) (zt_X10_fit_336 l s0 G ca d C S w0 t v s (M (t + 3) v) 1 M Q X) (zt_X10_fit_336 l s0 G ca d C S w0 t v s (M (t + 3) v) 0 M Q X)) (zIf (w32 (M (t + 9) s) = 7) (zIf (w32 (M (t + 2) v) = 0) (zt_X10_fit_402 l s0 G ca d C S w0 t v s (M (t + 3) v) 1 M Q X) (zt_X10_fit_402 l s0 G ca d C S w0 t v s (M (t + 3) v) 0 M Q X)) (zIf (w32 (M (t + 9) s) = 8) ((0 ≤ M (t + 12) s ∧ M (t + 12) s < 2200) ∧ (zm_X10_fit l s0 G ca (d - 1) C S t v (M (t + 15) (M (t + 12) s)) M (fun r314 M314 => Q 0 M314) X)) (zIf (w32 (M (t + 9) s) = 9) (zIf (w32 (M (t + 2) v) = 2) (zIf (w32 (M (t + 5) v) = w32 (M (t + 11) s)) (zm_X10_need l s0 G ca (d - 1) C S t 1 12 (M (t + 3) v) M (fun r260 M260 => Q 0 M260) X) (zm_X10_need l s0 G ca (d - 1) C S t 0 12 (M (t + 3) v) M (fun r260 M260 => Q 0 M260) X)) (zm_X10_need l s0 G ca (d - 1) C S t 0 12 (M (t + 3) v) M (fun r260 M260 => Q 0 M260) X)) (zIf (w32 (M (t + 9) s) = 10) (zIf (w32 (M (t + 2) v) = 2) (zm_X10_symbol l s0 G ca (d - 1) C S t s t v M (fun r281 M281 => zIf (w32 r281 < 0) (zm_X10_need l s0 G ca (d - 1) C S t 0 12 (M (t + 3) v) M281 (fun r295 M295 => Q 0 M295) X) (zm_X10_need l s0 G ca (d - 1) C S t 1 12 (M (t + 3) v) M281 (fun r295 M295 => Q 0 M295) X)) X) (zm_X10_need l s0 G ca (d - 1) C S t 0 12 (M (t + 3) v) M (fun r295 M295 => Q 0 M295) X)) (zIf (w32 (M (t + 2) v) = 0) (zt_X10_fit_478 l s0 G ca d C S w0 t v s (M (t + 3) v) 1 M Q X) (zt_X10_fit_478 l s0 G ca d C S w0 t v s (M (t + 3) v) 0 M Q X))))))))))))))
set_option maxRecDepth 100000 in
theorem z_X10_fit {l : Launch} {s0 : State} {a0 : Array Value} {G : va_G} {ca : Nat → ClassId} (Γ : rt_Γ l s0 a0 G ca) {d : Nat} {C : Nat × Nat} {S : zS} (hd : 1 ≤ d) (hok : zok C) {t : Int} (ht : zTx S t) {v : Int} {s : Int} {M : zM} {Q : Int → zM → Prop} {X : zM → Prop} (h : zt_X10_fit l s0 G ca d C S (zw s0 ca C S M) t v s M Q X) : zm_X10_fit l s0 G ca d C S t v s M Q X := by
  refine z_met (lv := [(0, zv s0 2 t), (1, zv s0 0 v), (2, zv s0 0 s)]) Γ kk_X10_fit rfl (show (lg_sl [zv s0 2 t, zv s0 0 v, zv s0 0 s]).length ≤ 6 from by simp only [zn_0, zn_2, show (lg_sl []).length = 0 from rfl]; omega) (show lv_args 0 [zv s0 2 t, zv s0 0 v, zv s0 0 s] = [(0, zv s0 2 t), (1, zv s0 0 v), (2, zv s0 0 s)] from by rw [zl_2, zl_0, zl_0]; rfl) ?_
  unfold zt_X10_fit at h
  refine z_aload_n dX10_fit_0 rfl (j := 0) rfl ?_
  refine z_getc Γ kf_RX10_19 dX10_fit_1 ht.1 ht.2.1 rfl ?_
  refine z_iload_n dX10_fit_4 rfl (j := 1) rfl ?_
  obtain ⟨hi5, h⟩ := h
  refine z_iald Γ dX10_fit_5 (by have := ht.1; omega) ht.2.2.2.2.1 (by decide) hi5 (v9 := M (t + 3) v) rfl ?_
  refine z_istore_n (i := 3) (lv' := [(3, zv s0 0 (M (t + 3) v)), (0, zv s0 2 t), (1, zv s0 0 v), (2, zv s0 0 s)]) dX10_fit_6 rfl (by decide) (by simp [zv_cat0, zv_cat1, zv_cat2, zv_cats]) ?_
  refine z_aload_n dX10_fit_7 rfl (j := 1) rfl ?_
  refine z_getc Γ kf_RX10_38 dX10_fit_8 ht.1 ht.2.1 rfl ?_
  refine z_iload_n dX10_fit_11 rfl (j := 3) rfl ?_
  obtain ⟨hi12, h⟩ := h
  refine z_iald Γ dX10_fit_12 (by have := ht.1; omega) ht.2.2.2.2.2.2.2.2.2.2.1 (by decide) hi12 (v9 := M (t + 9) s) rfl ?_
  by_cases c13_0 : w32 (M (t + 9) s) = 0
  · replace h := h.1 c13_0
    refine z_tin c13_0 dX10_fit_13 (by decide) (off := 59) (tgt := 72) (by decide) (by decide) ?_
    refine z_aload_n dX10_fit_72 rfl (j := 1) rfl ?_
    refine z_aload_n dX10_fit_73 rfl (j := 1) rfl ?_
    refine z_getc Γ kf_RX10_15 dX10_fit_74 ht.1 ht.2.1 rfl ?_
    refine z_iload_n dX10_fit_77 rfl (j := 2) rfl ?_
    refine z_iald Γ dX10_fit_78 (by have := ht.1; omega) ht.2.2.2.1 (by decide) hi5 (v9 := M (t + 2) v) rfl ?_
    refine z_bipush dX10_fit_79 (by decide) ?_
    refine z_icmp_ne (tgt := 88) (x' := w32 (M (t + 2) v)) (y' := 6) rfl (by decide) dX10_fit_81 (by decide) (fun c81 => ?_) (fun c81 => ?_)
    · replace h := h.2 c81
      refine z_iconst dX10_fit_88 ?_
      refine z_bipush dX10_fit_89 (by decide) ?_
      refine z_iload_n dX10_fit_91 rfl (j := 0) rfl ?_
      refine z_callV Γ kk_X10_need kc_RX10_105 (As := [zv s0 0 0, zv s0 0 12, zv s0 0 (M (t + 3) v)]) h (by omega) (by decide) (show (parseMethodDescriptor yX10_need.desc).map (fun q => q.parameters.length) = some 3 by decide +kernel) hok (Nat.zero_le _) dX10_fit_92 ht.1 ht.2.1 rfl rfl (fun _ h9 => nomatch h9) ?_
      clear h
      intro r92 M92 h
      show rt_Go _ _ _ _ _ _ _ _ _ _ _ _ 95 [(3, zv s0 0 (M (t + 3) v)), (0, zv s0 2 t), (1, zv s0 0 v), (2, zv s0 0 s)] [] (zw s0 ca C S M92)
      refine rt_goto (tgt := 553) dX10_fit_95 (by decide) ?_
      exact z_vret dX10_fit_553 rfl h
    · replace h := h.1 c81
      refine z_iconst dX10_fit_84 ?_
      refine rt_goto (tgt := 89) dX10_fit_85 (by decide) ?_
      refine z_bipush dX10_fit_89 (by decide) ?_
      refine z_iload_n dX10_fit_91 rfl (j := 0) rfl ?_
      refine z_callV Γ kk_X10_need kc_RX10_105 (As := [zv s0 0 1, zv s0 0 12, zv s0 0 (M (t + 3) v)]) h (by omega) (by decide) (show (parseMethodDescriptor yX10_need.desc).map (fun q => q.parameters.length) = some 3 by decide +kernel) hok (Nat.zero_le _) dX10_fit_92 ht.1 ht.2.1 rfl rfl (fun _ h9 => nomatch h9) ?_
      clear h
      intro r92 M92 h
      show rt_Go _ _ _ _ _ _ _ _ _ _ _ _ 95 [(3, zv s0 0 (M (t + 3) v)), (0, zv s0 2 t), (1, zv s0 0 v), (2, zv s0 0 s)] [] (zw s0 ca C S M92)
      refine rt_goto (tgt := 553) dX10_fit_95 (by decide) ?_
      exact z_vret dX10_fit_553 rfl h
  replace h := h.2 c13_0
  by_cases c13_1 : w32 (M (t + 9) s) = 1
  · replace h := h.1 c13_1
    refine z_tin c13_1 dX10_fit_13 (by decide) (off := 85) (tgt := 98) (by decide) (by decide) ?_
    refine z_aload_n dX10_fit_98 rfl (j := 1) rfl ?_
    refine z_aload_n dX10_fit_99 rfl (j := 1) rfl ?_
    refine z_getc Γ kf_RX10_15 dX10_fit_100 ht.1 ht.2.1 rfl ?_
    refine z_iload_n dX10_fit_103 rfl (j := 2) rfl ?_
    refine z_iald Γ dX10_fit_104 (by have := ht.1; omega) ht.2.2.2.1 (by decide) hi5 (v9 := M (t + 2) v) rfl ?_
    refine z_iconst dX10_fit_105 ?_
    refine z_icmp_eq (tgt := 119) (x' := w32 (M (t + 2) v)) (y' := 4) rfl (by decide) dX10_fit_106 (by decide) (fun c106 => ?_) (fun c106 => ?_)
    · replace h := h.1 c106
      exact rt_lfew [0] rfl (zs_X10_fit_119 Γ hd hok ht  h)
    · replace h := h.2 c106
      refine z_aload_n dX10_fit_109 rfl (j := 1) rfl ?_
      refine z_getc Γ kf_RX10_15 dX10_fit_110 ht.1 ht.2.1 rfl ?_
      refine z_iload_n dX10_fit_113 rfl (j := 2) rfl ?_
      refine z_iald Γ dX10_fit_114 (by have := ht.1; omega) ht.2.2.2.1 (by decide) hi5 (v9 := M (t + 2) v) rfl ?_
      refine z_iconst dX10_fit_115 ?_
      refine z_icmp_ne (tgt := 123) (x' := w32 (M (t + 2) v)) (y' := 5) rfl (by decide) dX10_fit_116 (by decide) (fun c116 => ?_) (fun c116 => ?_)
      · replace h := h.2 c116
        refine z_iconst dX10_fit_123 ?_
        refine z_bipush dX10_fit_124 (by decide) ?_
        refine z_iload_n dX10_fit_126 rfl (j := 0) rfl ?_
        refine z_callV Γ kk_X10_need kc_RX10_105 (As := [zv s0 0 0, zv s0 0 12, zv s0 0 (M (t + 3) v)]) h (by omega) (by decide) (show (parseMethodDescriptor yX10_need.desc).map (fun q => q.parameters.length) = some 3 by decide +kernel) hok (Nat.zero_le _) dX10_fit_127 ht.1 ht.2.1 rfl rfl (fun _ h9 => nomatch h9) ?_
        clear h
        intro r127 M127 h
        show rt_Go _ _ _ _ _ _ _ _ _ _ _ _ 130 [(3, zv s0 0 (M (t + 3) v)), (0, zv s0 2 t), (1, zv s0 0 v), (2, zv s0 0 s)] [] (zw s0 ca C S M127)
        refine rt_goto (tgt := 553) dX10_fit_130 (by decide) ?_
        exact z_vret dX10_fit_553 rfl h
      · replace h := h.1 c116
        exact rt_lfew [0] rfl (zs_X10_fit_119 Γ hd hok ht  h)
  replace h := h.2 c13_1
  by_cases c13_2 : w32 (M (t + 9) s) = 2
  · replace h := h.1 c13_2
    refine z_tin c13_2 dX10_fit_13 (by decide) (off := 120) (tgt := 133) (by decide) (by decide) ?_
    refine z_aload_n dX10_fit_133 rfl (j := 1) rfl ?_
    refine z_aload_n dX10_fit_134 rfl (j := 1) rfl ?_
    refine z_getc Γ kf_RX10_15 dX10_fit_135 ht.1 ht.2.1 rfl ?_
    refine z_iload_n dX10_fit_138 rfl (j := 2) rfl ?_
    refine z_iald Γ dX10_fit_139 (by have := ht.1; omega) ht.2.2.2.1 (by decide) hi5 (v9 := M (t + 2) v) rfl ?_
    refine z_iconst dX10_fit_140 ?_
    refine z_icmp_ne (tgt := 166) (x' := w32 (M (t + 2) v)) (y' := 3) rfl (by decide) dX10_fit_141 (by decide) (fun c141 => ?_) (fun c141 => ?_)
    · replace h := h.2 c141
      refine z_iconst dX10_fit_166 ?_
      refine z_bipush dX10_fit_167 (by decide) ?_
      refine z_iload_n dX10_fit_169 rfl (j := 0) rfl ?_
      refine z_callV Γ kk_X10_need kc_RX10_105 (As := [zv s0 0 0, zv s0 0 12, zv s0 0 (M (t + 3) v)]) h (by omega) (by decide) (show (parseMethodDescriptor yX10_need.desc).map (fun q => q.parameters.length) = some 3 by decide +kernel) hok (Nat.zero_le _) dX10_fit_170 ht.1 ht.2.1 rfl rfl (fun _ h9 => nomatch h9) ?_
      clear h
      intro r170 M170 h
      show rt_Go _ _ _ _ _ _ _ _ _ _ _ _ 173 [(3, zv s0 0 (M (t + 3) v)), (0, zv s0 2 t), (1, zv s0 0 v), (2, zv s0 0 s)] [] (zw s0 ca C S M170)
      refine rt_goto (tgt := 553) dX10_fit_173 (by decide) ?_
      exact z_vret dX10_fit_553 rfl h
    · replace h := h.1 c141
      refine z_aload_n dX10_fit_144 rfl (j := 1) rfl ?_
      refine z_getc Γ kf_RX10_22 dX10_fit_145 ht.1 ht.2.1 rfl ?_
      refine z_iload_n dX10_fit_148 rfl (j := 2) rfl ?_
      refine z_lald Γ dX10_fit_149 (by have := ht.1; omega) ht.2.2.2.2.2.1 (by decide) hi5 (v9 := M (t + 4) v) rfl ?_
      refine z_aload_n dX10_fit_150 rfl (j := 1) rfl ?_
      refine z_getc Γ kf_RX10_22 dX10_fit_151 ht.1 ht.2.1 rfl ?_
      refine z_iload_n dX10_fit_154 rfl (j := 2) rfl ?_
      refine z_lald Γ dX10_fit_155 (by have := ht.1; omega) ht.2.2.2.2.2.1 (by decide) hi5 (v9 := M (t + 4) v) rfl ?_
      refine z_l2i dX10_fit_156 ?_
      refine z_i2l dX10_fit_157 ?_
      refine z_lif_ne (tgt := 166) (x' := w64 (M (t + 4) v)) (y' := w64 (w32 (M (t + 4) v))) rfl rfl dX10_fit_158 dX10_fit_159 (by decide) (fun c158 => ?_) (fun c158 => ?_)
      · replace h := h.2 c158
        refine z_iconst dX10_fit_166 ?_
        refine z_bipush dX10_fit_167 (by decide) ?_
        refine z_iload_n dX10_fit_169 rfl (j := 0) rfl ?_
        refine z_callV Γ kk_X10_need kc_RX10_105 (As := [zv s0 0 0, zv s0 0 12, zv s0 0 (M (t + 3) v)]) h (by omega) (by decide) (show (parseMethodDescriptor yX10_need.desc).map (fun q => q.parameters.length) = some 3 by decide +kernel) hok (Nat.zero_le _) dX10_fit_170 ht.1 ht.2.1 rfl rfl (fun _ h9 => nomatch h9) ?_
        clear h
        intro r170 M170 h
        show rt_Go _ _ _ _ _ _ _ _ _ _ _ _ 173 [(3, zv s0 0 (M (t + 3) v)), (0, zv s0 2 t), (1, zv s0 0 v), (2, zv s0 0 s)] [] (zw s0 ca C S M170)
        refine rt_goto (tgt := 553) dX10_fit_173 (by decide) ?_
        exact z_vret dX10_fit_553 rfl h
      · replace h := h.1 c158
        refine z_iconst dX10_fit_162 ?_
        refine rt_goto (tgt := 167) dX10_fit_163 (by decide) ?_
        refine z_bipush dX10_fit_167 (by decide) ?_
        refine z_iload_n dX10_fit_169 rfl (j := 0) rfl ?_
        refine z_callV Γ kk_X10_need kc_RX10_105 (As := [zv s0 0 1, zv s0 0 12, zv s0 0 (M (t + 3) v)]) h (by omega) (by decide) (show (parseMethodDescriptor yX10_need.desc).map (fun q => q.parameters.length) = some 3 by decide +kernel) hok (Nat.zero_le _) dX10_fit_170 ht.1 ht.2.1 rfl rfl (fun _ h9 => nomatch h9) ?_
        clear h
        intro r170 M170 h
        show rt_Go _ _ _ _ _ _ _ _ _ _ _ _ 173 [(3, zv s0 0 (M (t + 3) v)), (0, zv s0 2 t), (1, zv s0 0 v), (2, zv s0 0 s)] [] (zw s0 ca C S M170)
        refine rt_goto (tgt := 553) dX10_fit_173 (by decide) ?_
        exact z_vret dX10_fit_553 rfl h
  replace h := h.2 c13_2
  by_cases c13_3 : w32 (M (t + 9) s) = 3
  · replace h := h.1 c13_3
    refine z_tin c13_3 dX10_fit_13 (by decide) (off := 163) (tgt := 176) (by decide) (by decide) ?_
    refine z_aload_n dX10_fit_176 rfl (j := 1) rfl ?_
    refine z_aload_n dX10_fit_177 rfl (j := 1) rfl ?_
    refine z_getc Γ kf_RX10_15 dX10_fit_178 ht.1 ht.2.1 rfl ?_
    refine z_iload_n dX10_fit_181 rfl (j := 2) rfl ?_
    refine z_iald Γ dX10_fit_182 (by have := ht.1; omega) ht.2.2.2.1 (by decide) hi5 (v9 := M (t + 2) v) rfl ?_
    refine z_iconst dX10_fit_183 ?_
    refine z_icmp_ne (tgt := 191) (x' := w32 (M (t + 2) v)) (y' := 3) rfl (by decide) dX10_fit_184 (by decide) (fun c184 => ?_) (fun c184 => ?_)
    · replace h := h.2 c184
      refine z_iconst dX10_fit_191 ?_
      refine z_bipush dX10_fit_192 (by decide) ?_
      refine z_iload_n dX10_fit_194 rfl (j := 0) rfl ?_
      refine z_callV Γ kk_X10_need kc_RX10_105 (As := [zv s0 0 0, zv s0 0 12, zv s0 0 (M (t + 3) v)]) h (by omega) (by decide) (show (parseMethodDescriptor yX10_need.desc).map (fun q => q.parameters.length) = some 3 by decide +kernel) hok (Nat.zero_le _) dX10_fit_195 ht.1 ht.2.1 rfl rfl (fun _ h9 => nomatch h9) ?_
      clear h
      intro r195 M195 h
      show rt_Go _ _ _ _ _ _ _ _ _ _ _ _ 198 [(3, zv s0 0 (M (t + 3) v)), (0, zv s0 2 t), (1, zv s0 0 v), (2, zv s0 0 s)] [] (zw s0 ca C S M195)
      refine rt_goto (tgt := 553) dX10_fit_198 (by decide) ?_
      exact z_vret dX10_fit_553 rfl h
    · replace h := h.1 c184
      refine z_iconst dX10_fit_187 ?_
      refine rt_goto (tgt := 192) dX10_fit_188 (by decide) ?_
      refine z_bipush dX10_fit_192 (by decide) ?_
      refine z_iload_n dX10_fit_194 rfl (j := 0) rfl ?_
      refine z_callV Γ kk_X10_need kc_RX10_105 (As := [zv s0 0 1, zv s0 0 12, zv s0 0 (M (t + 3) v)]) h (by omega) (by decide) (show (parseMethodDescriptor yX10_need.desc).map (fun q => q.parameters.length) = some 3 by decide +kernel) hok (Nat.zero_le _) dX10_fit_195 ht.1 ht.2.1 rfl rfl (fun _ h9 => nomatch h9) ?_
      clear h
      intro r195 M195 h
      show rt_Go _ _ _ _ _ _ _ _ _ _ _ _ 198 [(3, zv s0 0 (M (t + 3) v)), (0, zv s0 2 t), (1, zv s0 0 v), (2, zv s0 0 s)] [] (zw s0 ca C S M195)
      refine rt_goto (tgt := 553) dX10_fit_198 (by decide) ?_
      exact z_vret dX10_fit_553 rfl h
  replace h := h.2 c13_3
  by_cases c13_4 : w32 (M (t + 9) s) = 4
  · replace h := h.1 c13_4
    refine z_tin c13_4 dX10_fit_13 (by decide) (off := 188) (tgt := 201) (by decide) (by decide) ?_
    refine z_aload_n dX10_fit_201 rfl (j := 1) rfl ?_
    refine z_aload_n dX10_fit_202 rfl (j := 1) rfl ?_
    refine z_getc Γ kf_RX10_15 dX10_fit_203 ht.1 ht.2.1 rfl ?_
    refine z_iload_n dX10_fit_206 rfl (j := 2) rfl ?_
    refine z_iald Γ dX10_fit_207 (by have := ht.1; omega) ht.2.2.2.1 (by decide) hi5 (v9 := M (t + 2) v) rfl ?_
    refine z_iconst dX10_fit_208 ?_
    refine z_icmp_ne (tgt := 216) (x' := w32 (M (t + 2) v)) (y' := 2) rfl (by decide) dX10_fit_209 (by decide) (fun c209 => ?_) (fun c209 => ?_)
    · replace h := h.2 c209
      refine z_iconst dX10_fit_216 ?_
      refine z_bipush dX10_fit_217 (by decide) ?_
      refine z_iload_n dX10_fit_219 rfl (j := 0) rfl ?_
      refine z_callV Γ kk_X10_need kc_RX10_105 (As := [zv s0 0 0, zv s0 0 12, zv s0 0 (M (t + 3) v)]) h (by omega) (by decide) (show (parseMethodDescriptor yX10_need.desc).map (fun q => q.parameters.length) = some 3 by decide +kernel) hok (Nat.zero_le _) dX10_fit_220 ht.1 ht.2.1 rfl rfl (fun _ h9 => nomatch h9) ?_
      clear h
      intro r220 M220 h
      show rt_Go _ _ _ _ _ _ _ _ _ _ _ _ 223 [(3, zv s0 0 (M (t + 3) v)), (0, zv s0 2 t), (1, zv s0 0 v), (2, zv s0 0 s)] [] (zw s0 ca C S M220)
      refine rt_goto (tgt := 553) dX10_fit_223 (by decide) ?_
      exact z_vret dX10_fit_553 rfl h
    · replace h := h.1 c209
      refine z_iconst dX10_fit_212 ?_
      refine rt_goto (tgt := 217) dX10_fit_213 (by decide) ?_
      refine z_bipush dX10_fit_217 (by decide) ?_
      refine z_iload_n dX10_fit_219 rfl (j := 0) rfl ?_
      refine z_callV Γ kk_X10_need kc_RX10_105 (As := [zv s0 0 1, zv s0 0 12, zv s0 0 (M (t + 3) v)]) h (by omega) (by decide) (show (parseMethodDescriptor yX10_need.desc).map (fun q => q.parameters.length) = some 3 by decide +kernel) hok (Nat.zero_le _) dX10_fit_220 ht.1 ht.2.1 rfl rfl (fun _ h9 => nomatch h9) ?_
      clear h
      intro r220 M220 h
      show rt_Go _ _ _ _ _ _ _ _ _ _ _ _ 223 [(3, zv s0 0 (M (t + 3) v)), (0, zv s0 2 t), (1, zv s0 0 v), (2, zv s0 0 s)] [] (zw s0 ca C S M220)
      refine rt_goto (tgt := 553) dX10_fit_223 (by decide) ?_
      exact z_vret dX10_fit_553 rfl h
  replace h := h.2 c13_4
  by_cases c13_5 : w32 (M (t + 9) s) = 5
  · replace h := h.1 c13_5
    refine z_tin c13_5 dX10_fit_13 (by decide) (off := 188) (tgt := 201) (by decide) (by decide) ?_
    refine z_aload_n dX10_fit_201 rfl (j := 1) rfl ?_
    refine z_aload_n dX10_fit_202 rfl (j := 1) rfl ?_
    refine z_getc Γ kf_RX10_15 dX10_fit_203 ht.1 ht.2.1 rfl ?_
    refine z_iload_n dX10_fit_206 rfl (j := 2) rfl ?_
    refine z_iald Γ dX10_fit_207 (by have := ht.1; omega) ht.2.2.2.1 (by decide) hi5 (v9 := M (t + 2) v) rfl ?_
    refine z_iconst dX10_fit_208 ?_
    refine z_icmp_ne (tgt := 216) (x' := w32 (M (t + 2) v)) (y' := 2) rfl (by decide) dX10_fit_209 (by decide) (fun c209 => ?_) (fun c209 => ?_)
    · replace h := h.2 c209
      refine z_iconst dX10_fit_216 ?_
      refine z_bipush dX10_fit_217 (by decide) ?_
      refine z_iload_n dX10_fit_219 rfl (j := 0) rfl ?_
      refine z_callV Γ kk_X10_need kc_RX10_105 (As := [zv s0 0 0, zv s0 0 12, zv s0 0 (M (t + 3) v)]) h (by omega) (by decide) (show (parseMethodDescriptor yX10_need.desc).map (fun q => q.parameters.length) = some 3 by decide +kernel) hok (Nat.zero_le _) dX10_fit_220 ht.1 ht.2.1 rfl rfl (fun _ h9 => nomatch h9) ?_
      clear h
      intro r220 M220 h
      show rt_Go _ _ _ _ _ _ _ _ _ _ _ _ 223 [(3, zv s0 0 (M (t + 3) v)), (0, zv s0 2 t), (1, zv s0 0 v), (2, zv s0 0 s)] [] (zw s0 ca C S M220)
      refine rt_goto (tgt := 553) dX10_fit_223 (by decide) ?_
      exact z_vret dX10_fit_553 rfl h
    · replace h := h.1 c209
      refine z_iconst dX10_fit_212 ?_
      refine rt_goto (tgt := 217) dX10_fit_213 (by decide) ?_
      refine z_bipush dX10_fit_217 (by decide) ?_
      refine z_iload_n dX10_fit_219 rfl (j := 0) rfl ?_
      refine z_callV Γ kk_X10_need kc_RX10_105 (As := [zv s0 0 1, zv s0 0 12, zv s0 0 (M (t + 3) v)]) h (by omega) (by decide) (show (parseMethodDescriptor yX10_need.desc).map (fun q => q.parameters.length) = some 3 by decide +kernel) hok (Nat.zero_le _) dX10_fit_220 ht.1 ht.2.1 rfl rfl (fun _ h9 => nomatch h9) ?_
      clear h
      intro r220 M220 h
      show rt_Go _ _ _ _ _ _ _ _ _ _ _ _ 223 [(3, zv s0 0 (M (t + 3) v)), (0, zv s0 2 t), (1, zv s0 0 v), (2, zv s0 0 s)] [] (zw s0 ca C S M220)
      refine rt_goto (tgt := 553) dX10_fit_223 (by decide) ?_
      exact z_vret dX10_fit_553 rfl h
  replace h := h.2 c13_5
  by_cases c13_6 : w32 (M (t + 9) s) = 6
  · replace h := h.1 c13_6
    refine z_tin c13_6 dX10_fit_13 (by decide) (off := 307) (tgt := 320) (by decide) (by decide) ?_
    refine z_aload_n dX10_fit_320 rfl (j := 1) rfl ?_
    refine z_aload_n dX10_fit_321 rfl (j := 1) rfl ?_
    refine z_getc Γ kf_RX10_15 dX10_fit_322 ht.1 ht.2.1 rfl ?_
    refine z_iload_n dX10_fit_325 rfl (j := 2) rfl ?_
    refine z_iald Γ dX10_fit_326 (by have := ht.1; omega) ht.2.2.2.1 (by decide) hi5 (v9 := M (t + 2) v) rfl ?_
    refine z_iconst dX10_fit_327 ?_
    refine z_icmp_ne (tgt := 335) (x' := w32 (M (t + 2) v)) (y' := 1) rfl (by decide) dX10_fit_328 (by decide) (fun c328 => ?_) (fun c328 => ?_)
    · replace h := h.2 c328
      refine z_iconst dX10_fit_335 ?_
      exact rt_lfew [1, 2, 3, 0] rfl (zs_X10_fit_336 Γ hd hok ht  h)
    · replace h := h.1 c328
      refine z_iconst dX10_fit_331 ?_
      refine rt_goto (tgt := 336) dX10_fit_332 (by decide) ?_
      exact rt_lfew [1, 2, 3, 0] rfl (zs_X10_fit_336 Γ hd hok ht  h)
  replace h := h.2 c13_6
  by_cases c13_7 : w32 (M (t + 9) s) = 7
  · replace h := h.1 c13_7
    refine z_tin c13_7 dX10_fit_13 (by decide) (off := 374) (tgt := 387) (by decide) (by decide) ?_
    refine z_aload_n dX10_fit_387 rfl (j := 1) rfl ?_
    refine z_aload_n dX10_fit_388 rfl (j := 1) rfl ?_
    refine z_getc Γ kf_RX10_15 dX10_fit_389 ht.1 ht.2.1 rfl ?_
    refine z_iload_n dX10_fit_392 rfl (j := 2) rfl ?_
    refine z_iald Γ dX10_fit_393 (by have := ht.1; omega) ht.2.2.2.1 (by decide) hi5 (v9 := M (t + 2) v) rfl ?_
    refine z_if_ne (tgt := 401) (x' := w32 (M (t + 2) v)) rfl dX10_fit_394 (by decide) (fun c394 => ?_) (fun c394 => ?_)
    · replace h := h.2 c394
      refine z_iconst dX10_fit_401 ?_
      exact rt_lfew [1, 2, 3, 0] rfl (zs_X10_fit_402 Γ hd hok ht  h)
    · replace h := h.1 c394
      refine z_iconst dX10_fit_397 ?_
      refine rt_goto (tgt := 402) dX10_fit_398 (by decide) ?_
      exact rt_lfew [1, 2, 3, 0] rfl (zs_X10_fit_402 Γ hd hok ht  h)
  replace h := h.2 c13_7
  by_cases c13_8 : w32 (M (t + 9) s) = 8
  · replace h := h.1 c13_8
    refine z_tin c13_8 dX10_fit_13 (by decide) (off := 288) (tgt := 301) (by decide) (by decide) ?_
    refine z_aload_n dX10_fit_301 rfl (j := 1) rfl ?_
    refine z_iload_n dX10_fit_302 rfl (j := 2) rfl ?_
    refine z_aload_n dX10_fit_303 rfl (j := 1) rfl ?_
    refine z_getc Γ kf_RX10_56 dX10_fit_304 ht.1 ht.2.1 rfl ?_
    refine z_aload_n dX10_fit_307 rfl (j := 1) rfl ?_
    refine z_getc Γ kf_RX10_47 dX10_fit_308 ht.1 ht.2.1 rfl ?_
    refine z_iload_n dX10_fit_311 rfl (j := 3) rfl ?_
    refine z_iald Γ dX10_fit_312 (by have := ht.1; omega) ht.2.2.2.2.2.2.2.2.2.2.2.2.2.1 (by decide) hi12 (v9 := M (t + 12) s) rfl ?_
    obtain ⟨hi313, h⟩ := h
    refine z_iald Γ dX10_fit_313 (by have := ht.1; omega) ht.2.2.2.2.2.2.2.2.2.2.2.2.2.2.2.2.1 (by decide) hi313 (v9 := M (t + 15) (M (t + 12) s)) rfl ?_
    refine z_callV Γ kk_X10_fit kc_RX10_274 (As := [zv s0 0 v, zv s0 0 (M (t + 15) (M (t + 12) s))]) h (by omega) (by decide) (show (parseMethodDescriptor yX10_fit.desc).map (fun q => q.parameters.length) = some 2 by decide +kernel) hok (Nat.zero_le _) dX10_fit_314 ht.1 ht.2.1 rfl rfl (fun _ h9 => nomatch h9) ?_
    clear h
    intro r314 M314 h
    show rt_Go _ _ _ _ _ _ _ _ _ _ _ _ 317 [(3, zv s0 0 (M (t + 3) v)), (0, zv s0 2 t), (1, zv s0 0 v), (2, zv s0 0 s)] [] (zw s0 ca C S M314)
    refine rt_goto (tgt := 553) dX10_fit_317 (by decide) ?_
    exact z_vret dX10_fit_553 rfl h
  replace h := h.2 c13_8
  by_cases c13_9 : w32 (M (t + 9) s) = 9
  · replace h := h.1 c13_9
    refine z_tin c13_9 dX10_fit_13 (by decide) (off := 213) (tgt := 226) (by decide) (by decide) ?_
    refine z_aload_n dX10_fit_226 rfl (j := 1) rfl ?_
    refine z_aload_n dX10_fit_227 rfl (j := 1) rfl ?_
    refine z_getc Γ kf_RX10_15 dX10_fit_228 ht.1 ht.2.1 rfl ?_
    refine z_iload_n dX10_fit_231 rfl (j := 2) rfl ?_
    refine z_iald Γ dX10_fit_232 (by have := ht.1; omega) ht.2.2.2.1 (by decide) hi5 (v9 := M (t + 2) v) rfl ?_
    refine z_iconst dX10_fit_233 ?_
    refine z_icmp_ne (tgt := 256) (x' := w32 (M (t + 2) v)) (y' := 2) rfl (by decide) dX10_fit_234 (by decide) (fun c234 => ?_) (fun c234 => ?_)
    · replace h := h.2 c234
      refine z_iconst dX10_fit_256 ?_
      refine z_bipush dX10_fit_257 (by decide) ?_
      refine z_iload_n dX10_fit_259 rfl (j := 0) rfl ?_
      refine z_callV Γ kk_X10_need kc_RX10_105 (As := [zv s0 0 0, zv s0 0 12, zv s0 0 (M (t + 3) v)]) h (by omega) (by decide) (show (parseMethodDescriptor yX10_need.desc).map (fun q => q.parameters.length) = some 3 by decide +kernel) hok (Nat.zero_le _) dX10_fit_260 ht.1 ht.2.1 rfl rfl (fun _ h9 => nomatch h9) ?_
      clear h
      intro r260 M260 h
      show rt_Go _ _ _ _ _ _ _ _ _ _ _ _ 263 [(3, zv s0 0 (M (t + 3) v)), (0, zv s0 2 t), (1, zv s0 0 v), (2, zv s0 0 s)] [] (zw s0 ca C S M260)
      refine rt_goto (tgt := 553) dX10_fit_263 (by decide) ?_
      exact z_vret dX10_fit_553 rfl h
    · replace h := h.1 c234
      refine z_aload_n dX10_fit_237 rfl (j := 1) rfl ?_
      refine z_getc Γ kf_RX10_26 dX10_fit_238 ht.1 ht.2.1 rfl ?_
      refine z_iload_n dX10_fit_241 rfl (j := 2) rfl ?_
      refine z_iald Γ dX10_fit_242 (by have := ht.1; omega) ht.2.2.2.2.2.2.1 (by decide) hi5 (v9 := M (t + 5) v) rfl ?_
      refine z_aload_n dX10_fit_243 rfl (j := 1) rfl ?_
      refine z_getc Γ kf_RX10_44 dX10_fit_244 ht.1 ht.2.1 rfl ?_
      refine z_iload_n dX10_fit_247 rfl (j := 3) rfl ?_
      refine z_iald Γ dX10_fit_248 (by have := ht.1; omega) ht.2.2.2.2.2.2.2.2.2.2.2.2.1 (by decide) hi12 (v9 := M (t + 11) s) rfl ?_
      refine z_icmp_ne (tgt := 256) (x' := w32 (M (t + 5) v)) (y' := w32 (M (t + 11) s)) rfl rfl dX10_fit_249 (by decide) (fun c249 => ?_) (fun c249 => ?_)
      · replace h := h.2 c249
        refine z_iconst dX10_fit_256 ?_
        refine z_bipush dX10_fit_257 (by decide) ?_
        refine z_iload_n dX10_fit_259 rfl (j := 0) rfl ?_
        refine z_callV Γ kk_X10_need kc_RX10_105 (As := [zv s0 0 0, zv s0 0 12, zv s0 0 (M (t + 3) v)]) h (by omega) (by decide) (show (parseMethodDescriptor yX10_need.desc).map (fun q => q.parameters.length) = some 3 by decide +kernel) hok (Nat.zero_le _) dX10_fit_260 ht.1 ht.2.1 rfl rfl (fun _ h9 => nomatch h9) ?_
        clear h
        intro r260 M260 h
        show rt_Go _ _ _ _ _ _ _ _ _ _ _ _ 263 [(3, zv s0 0 (M (t + 3) v)), (0, zv s0 2 t), (1, zv s0 0 v), (2, zv s0 0 s)] [] (zw s0 ca C S M260)
        refine rt_goto (tgt := 553) dX10_fit_263 (by decide) ?_
        exact z_vret dX10_fit_553 rfl h
      · replace h := h.1 c249
        refine z_iconst dX10_fit_252 ?_
        refine rt_goto (tgt := 257) dX10_fit_253 (by decide) ?_
        refine z_bipush dX10_fit_257 (by decide) ?_
        refine z_iload_n dX10_fit_259 rfl (j := 0) rfl ?_
        refine z_callV Γ kk_X10_need kc_RX10_105 (As := [zv s0 0 1, zv s0 0 12, zv s0 0 (M (t + 3) v)]) h (by omega) (by decide) (show (parseMethodDescriptor yX10_need.desc).map (fun q => q.parameters.length) = some 3 by decide +kernel) hok (Nat.zero_le _) dX10_fit_260 ht.1 ht.2.1 rfl rfl (fun _ h9 => nomatch h9) ?_
        clear h
        intro r260 M260 h
        show rt_Go _ _ _ _ _ _ _ _ _ _ _ _ 263 [(3, zv s0 0 (M (t + 3) v)), (0, zv s0 2 t), (1, zv s0 0 v), (2, zv s0 0 s)] [] (zw s0 ca C S M260)
        refine rt_goto (tgt := 553) dX10_fit_263 (by decide) ?_
        exact z_vret dX10_fit_553 rfl h
  replace h := h.2 c13_9
  by_cases c13_10 : w32 (M (t + 9) s) = 10
  · replace h := h.1 c13_10
    refine z_tin c13_10 dX10_fit_13 (by decide) (off := 253) (tgt := 266) (by decide) (by decide) ?_
    refine z_aload_n dX10_fit_266 rfl (j := 1) rfl ?_
    refine z_aload_n dX10_fit_267 rfl (j := 1) rfl ?_
    refine z_getc Γ kf_RX10_15 dX10_fit_268 ht.1 ht.2.1 rfl ?_
    refine z_iload_n dX10_fit_271 rfl (j := 2) rfl ?_
    refine z_iald Γ dX10_fit_272 (by have := ht.1; omega) ht.2.2.2.1 (by decide) hi5 (v9 := M (t + 2) v) rfl ?_
    refine z_iconst dX10_fit_273 ?_
    refine z_icmp_ne (tgt := 291) (x' := w32 (M (t + 2) v)) (y' := 2) rfl (by decide) dX10_fit_274 (by decide) (fun c274 => ?_) (fun c274 => ?_)
    · replace h := h.2 c274
      refine z_iconst dX10_fit_291 ?_
      refine z_bipush dX10_fit_292 (by decide) ?_
      refine z_iload_n dX10_fit_294 rfl (j := 0) rfl ?_
      refine z_callV Γ kk_X10_need kc_RX10_105 (As := [zv s0 0 0, zv s0 0 12, zv s0 0 (M (t + 3) v)]) h (by omega) (by decide) (show (parseMethodDescriptor yX10_need.desc).map (fun q => q.parameters.length) = some 3 by decide +kernel) hok (Nat.zero_le _) dX10_fit_295 ht.1 ht.2.1 rfl rfl (fun _ h9 => nomatch h9) ?_
      clear h
      intro r295 M295 h
      show rt_Go _ _ _ _ _ _ _ _ _ _ _ _ 298 [(3, zv s0 0 (M (t + 3) v)), (0, zv s0 2 t), (1, zv s0 0 v), (2, zv s0 0 s)] [] (zw s0 ca C S M295)
      refine rt_goto (tgt := 553) dX10_fit_298 (by decide) ?_
      exact z_vret dX10_fit_553 rfl h
    · replace h := h.1 c274
      refine z_aload_n dX10_fit_277 rfl (j := 1) rfl ?_
      refine z_iload_n dX10_fit_278 rfl (j := 3) rfl ?_
      refine z_aload_n dX10_fit_279 rfl (j := 1) rfl ?_
      refine z_iload_n dX10_fit_280 rfl (j := 2) rfl ?_
      refine z_callV Γ kk_X10_symbol kc_RX10_266 (As := [zv s0 0 s, zv s0 2 t, zv s0 0 v]) h (by omega) (by decide) (show (parseMethodDescriptor yX10_symbol.desc).map (fun q => q.parameters.length) = some 3 by decide +kernel) hok (by simp only [List.map, zv_cat0, zv_cat1, zv_cat2, List.sum_cons, List.sum_nil]; decide) dX10_fit_281 ht.1 ht.2.1 rfl rfl (fun _ h9 => nomatch h9) ?_
      clear h
      intro r281 M281 h
      show rt_Go _ _ _ _ _ _ _ _ _ _ _ _ 284 [(3, zv s0 0 (M (t + 3) v)), (0, zv s0 2 t), (1, zv s0 0 v), (2, zv s0 0 s)] [zv s0 0 r281, zv s0 2 t] (zw s0 ca C S M281)
      refine z_if_lt (tgt := 291) (x' := w32 r281) rfl dX10_fit_284 (by decide) (fun c284 => ?_) (fun c284 => ?_)
      · replace h := h.1 c284
        refine z_iconst dX10_fit_291 ?_
        refine z_bipush dX10_fit_292 (by decide) ?_
        refine z_iload_n dX10_fit_294 rfl (j := 0) rfl ?_
        refine z_callV Γ kk_X10_need kc_RX10_105 (As := [zv s0 0 0, zv s0 0 12, zv s0 0 (M (t + 3) v)]) h (by omega) (by decide) (show (parseMethodDescriptor yX10_need.desc).map (fun q => q.parameters.length) = some 3 by decide +kernel) hok (Nat.zero_le _) dX10_fit_295 ht.1 ht.2.1 rfl rfl (fun _ h9 => nomatch h9) ?_
        clear h
        intro r295 M295 h
        show rt_Go _ _ _ _ _ _ _ _ _ _ _ _ 298 [(3, zv s0 0 (M (t + 3) v)), (0, zv s0 2 t), (1, zv s0 0 v), (2, zv s0 0 s)] [] (zw s0 ca C S M295)
        refine rt_goto (tgt := 553) dX10_fit_298 (by decide) ?_
        exact z_vret dX10_fit_553 rfl h
      · replace h := h.2 c284
        refine z_iconst dX10_fit_287 ?_
        refine rt_goto (tgt := 292) dX10_fit_288 (by decide) ?_
        refine z_bipush dX10_fit_292 (by decide) ?_
        refine z_iload_n dX10_fit_294 rfl (j := 0) rfl ?_
        refine z_callV Γ kk_X10_need kc_RX10_105 (As := [zv s0 0 1, zv s0 0 12, zv s0 0 (M (t + 3) v)]) h (by omega) (by decide) (show (parseMethodDescriptor yX10_need.desc).map (fun q => q.parameters.length) = some 3 by decide +kernel) hok (Nat.zero_le _) dX10_fit_295 ht.1 ht.2.1 rfl rfl (fun _ h9 => nomatch h9) ?_
        clear h
        intro r295 M295 h
        show rt_Go _ _ _ _ _ _ _ _ _ _ _ _ 298 [(3, zv s0 0 (M (t + 3) v)), (0, zv s0 2 t), (1, zv s0 0 v), (2, zv s0 0 s)] [] (zw s0 ca C S M295)
        refine rt_goto (tgt := 553) dX10_fit_298 (by decide) ?_
        exact z_vret dX10_fit_553 rfl h
  replace h := h.2 c13_10
  refine z_tout dX10_fit_13 (show w32 (M (t + 9) s) < 0 ∨ 10 < w32 (M (t + 9) s) from by omega) (tgt := 463) (by decide) ?_
  refine z_aload_n dX10_fit_463 rfl (j := 1) rfl ?_
  refine z_aload_n dX10_fit_464 rfl (j := 1) rfl ?_
  refine z_getc Γ kf_RX10_15 dX10_fit_465 ht.1 ht.2.1 rfl ?_
  refine z_iload_n dX10_fit_468 rfl (j := 2) rfl ?_
  refine z_iald Γ dX10_fit_469 (by have := ht.1; omega) ht.2.2.2.1 (by decide) hi5 (v9 := M (t + 2) v) rfl ?_
  refine z_if_ne (tgt := 477) (x' := w32 (M (t + 2) v)) rfl dX10_fit_470 (by decide) (fun c470 => ?_) (fun c470 => ?_)
  · replace h := h.2 c470
    refine z_iconst dX10_fit_477 ?_
    exact rt_lfew [1, 2, 3, 0] rfl (zs_X10_fit_478 Γ hd hok ht  h)
  · replace h := h.1 c470
    refine z_iconst dX10_fit_473 ?_
    refine rt_goto (tgt := 478) dX10_fit_474 (by decide) ?_
    exact rt_lfew [1, 2, 3, 0] rfl (zs_X10_fit_478 Γ hd hok ht  h)

abbrev zg_X10_readAll_38 (l : Launch) (s0 : State) (G : va_G) (ca : Nat → ClassId) (d : Nat) (C : Nat × Nat) (S : zS) (w0 : rt_Wd) (t : Int) (v1 : Int) (k0 : Int) (M : zM) (Q : Int → zM → Prop) (X : zM → Prop) : Prop := rt_Go l s0 G RX10 "readAll" cX10_readAll 4 (Option.none : Option FieldType) [] d w0 (zQ s0 ca 9 C S Q X) 38 [(0, zv s0 2 t), (1, zv s0 0 v1)] [zv s0 0 k0, zv s0 2 t] (zw s0 ca C S M)
abbrev zg_X10_readAll_59 (l : Launch) (s0 : State) (G : va_G) (ca : Nat → ClassId) (d : Nat) (C : Nat × Nat) (S : zS) (w0 : rt_Wd) (t : Int) (v2 : Int)  (M : zM) (Q : Int → zM → Prop) (X : zM → Prop) : Prop := rt_Go l s0 G RX10 "readAll" cX10_readAll 4 (Option.none : Option FieldType) [] d w0 (zQ s0 ca 9 C S Q X) 59 [(0, zv s0 2 t), (2, zv s0 0 v2)] [] (zw s0 ca C S M)
def zt_X10_readAll_38 (l : Launch) (s0 : State) (G : va_G) (ca : Nat → ClassId) (d : Nat) (C : Nat × Nat) (S : zS) (w0 : rt_Wd) (t : Int) (v1 : Int) (k0 : Int) (M : zM) (Q : Int → zM → Prop) (X : zM → Prop) : Prop :=
  zm_X10_need l s0 G ca (d - 1) C S t k0 1 (M t 2) M (fun r43 M43 => zm_X10_schemaOf l s0 G ca (d - 1) C S t v1 0 0 M43 (fun r51 M51 => zg_X10_readAll_59 l s0 G ca d C S w0 t 0 ((zu M51 t 31 r51)) Q X) X) X
set_option maxRecDepth 100000 in
theorem zs_X10_readAll_38 {l : Launch} {s0 : State} {a0 : Array Value} {G : va_G} {ca : Nat → ClassId} (Γ : rt_Γ l s0 a0 G ca) {d : Nat} {C : Nat × Nat} {S : zS} (hd : 1 ≤ d) (hok : zok C) {t : Int} (ht : zTx S t) {w0 : rt_Wd} {v1 : Int} {k0 : Int}  {M : zM} {Q : Int → zM → Prop} {X : zM → Prop} (h : zt_X10_readAll_38 l s0 G ca d C S w0 t v1 k0 M Q X) : zg_X10_readAll_38 l s0 G ca d C S w0 t v1 k0 M Q X := by
  unfold zt_X10_readAll_38 at h
  refine z_iconst dX10_readAll_38 ?_
  refine z_aload_n dX10_readAll_39 rfl (j := 0) rfl ?_
  refine z_get Γ kf_RX10_95 dX10_readAll_40 ht.1 ht.2.1 rfl (by decide) (v9 := M t 2) rfl ?_
  refine z_callV Γ kk_X10_need kc_RX10_105 (As := [zv s0 0 k0, zv s0 0 1, zv s0 0 (M t 2)]) h (by omega) (by decide) (show (parseMethodDescriptor yX10_need.desc).map (fun q => q.parameters.length) = some 3 by decide +kernel) hok (Nat.zero_le _) dX10_readAll_43 ht.1 ht.2.1 rfl rfl (fun _ h9 => nomatch h9) ?_
  clear h
  intro r43 M43 h
  show rt_Go _ _ _ _ _ _ _ _ _ _ _ _ 46 [(0, zv s0 2 t), (1, zv s0 0 v1)] [] (zw s0 ca C S M43)
  refine z_aload_n dX10_readAll_46 rfl (j := 0) rfl ?_
  refine z_aload_n dX10_readAll_47 rfl (j := 0) rfl ?_
  refine z_iload_n dX10_readAll_48 rfl (j := 1) rfl ?_
  refine z_iconst dX10_readAll_49 ?_
  refine z_iconst dX10_readAll_50 ?_
  refine z_callV Γ kk_X10_schemaOf kc_RX10_229 (As := [zv s0 0 v1, zv s0 0 0, zv s0 0 0]) h (by omega) (by decide) (show (parseMethodDescriptor yX10_schemaOf.desc).map (fun q => q.parameters.length) = some 3 by decide +kernel) hok (by simp only [List.map, zv_cat0, zv_cat1, zv_cat2, List.sum_cons, List.sum_nil]; decide) dX10_readAll_51 ht.1 ht.2.1 rfl rfl (fun _ h9 => nomatch h9) ?_
  clear h
  intro r51 M51 h
  show rt_Go _ _ _ _ _ _ _ _ _ _ _ _ 54 [(0, zv s0 2 t), (1, zv s0 0 v1)] [zv s0 0 r51, zv s0 2 t] (zw s0 ca C S M51)
  refine z_put0 Γ kp_RX10_286 dX10_readAll_54 ht.1 ht.2.1 rfl (k9 := 31) rfl ?_
  refine z_iconst dX10_readAll_57 ?_
  refine z_istore_n (i := 2) (lv' := [(2, zv s0 0 0), (0, zv s0 2 t), (1, zv s0 0 v1)]) dX10_readAll_58 rfl (by decide) (by simp [zv_cat0, zv_cat1, zv_cat2, zv_cats]) ?_
  exact rt_lfew [1, 0] rfl h

def zt_X10_readAll_59 (l : Launch) (s0 : State) (G : va_G) (ca : Nat → ClassId) (d : Nat) (C : Nat × Nat) (S : zS) (w0 : rt_Wd) (t : Int) (v2 : Int)  (M : zM) (Q : Int → zM → Prop) (X : zM → Prop) : Prop :=
  zIf (w32 (M t 29) ≤ w32 v2) (Q 0 M) ((0 ≤ v2 ∧ v2 < 2200) ∧ ((0 ≤ M (t + 19) v2 ∧ M (t + 19) v2 < 2200) ∧ (zIf (w32 (M (t + 17) (M (t + 19) v2)) < 0) (zg_X10_readAll_59 l s0 G ca d C S w0 t (v2 + 1) M Q X) (zm_X10_fit l s0 G ca (d - 1) C S t (M (t + 17) (M (t + 19) v2)) (M (t + 15) (M (t + 19) v2)) M (fun r96 M96 => zg_X10_readAll_59 l s0 G ca d C S w0 t (v2 + 1) M96 Q X) X))))
set_option maxRecDepth 100000 in
theorem zs_X10_readAll_59 {l : Launch} {s0 : State} {a0 : Array Value} {G : va_G} {ca : Nat → ClassId} (Γ : rt_Γ l s0 a0 G ca) {d : Nat} {C : Nat × Nat} {S : zS} (hd : 1 ≤ d) (hok : zok C) {t : Int} (ht : zTx S t) {w0 : rt_Wd} {v2 : Int}   {M : zM} {Q : Int → zM → Prop} {X : zM → Prop} (h : zt_X10_readAll_59 l s0 G ca d C S w0 t v2 M Q X) : zg_X10_readAll_59 l s0 G ca d C S w0 t v2 M Q X := by
  unfold zt_X10_readAll_59 at h
  refine z_iload_n dX10_readAll_59 rfl (j := 1) rfl ?_
  refine z_aload_n dX10_readAll_60 rfl (j := 0) rfl ?_
  refine z_get Γ kf_RX10_271 dX10_readAll_61 ht.1 ht.2.1 rfl (by decide) (v9 := M t 29) rfl ?_
  refine z_icmp_ge (tgt := 105) (x' := w32 v2) (y' := w32 (M t 29)) rfl rfl dX10_readAll_64 (by decide) (fun c64 => ?_) (fun c64 => ?_)
  · replace h := h.1 c64
    exact z_vret dX10_readAll_105 rfl h
  · replace h := h.2 c64
    refine z_aload_n dX10_readAll_67 rfl (j := 0) rfl ?_
    refine z_getc Γ kf_RX10_68 dX10_readAll_68 ht.1 ht.2.1 rfl ?_
    refine z_iload_n dX10_readAll_71 rfl (j := 1) rfl ?_
    obtain ⟨hi72, h⟩ := h
    refine z_iald Γ dX10_readAll_72 (by have := ht.1; omega) ht.2.2.2.2.2.2.2.2.2.2.2.2.2.2.2.2.2.2.2.2.1 (by decide) hi72 (v9 := M (t + 19) v2) rfl ?_
    refine z_istore_n (i := 3) (lv' := [(3, zv s0 0 (M (t + 19) v2)), (0, zv s0 2 t), (2, zv s0 0 v2)]) dX10_readAll_73 rfl (by decide) (by simp [zv_cat0, zv_cat1, zv_cat2, zv_cats]) ?_
    refine z_aload_n dX10_readAll_74 rfl (j := 1) rfl ?_
    refine z_getc Γ kf_RX10_62 dX10_readAll_75 ht.1 ht.2.1 rfl ?_
    refine z_iload_n dX10_readAll_78 rfl (j := 0) rfl ?_
    obtain ⟨hi79, h⟩ := h
    refine z_iald Γ dX10_readAll_79 (by have := ht.1; omega) ht.2.2.2.2.2.2.2.2.2.2.2.2.2.2.2.2.2.2.1 (by decide) hi79 (v9 := M (t + 17) (M (t + 19) v2)) rfl ?_
    refine z_if_lt (tgt := 99) (x' := w32 (M (t + 17) (M (t + 19) v2))) rfl dX10_readAll_80 (by decide) (fun c80 => ?_) (fun c80 => ?_)
    · replace h := h.1 c80
      refine z_iinc (lv' := [(2, zv s0 0 (v2 + 1)), (3, zv s0 0 (M (t + 19) v2)), (0, zv s0 2 t)]) dX10_readAll_99 (j := 2) rfl (by decide) (by simp [zv_cat0, zv_cat1, zv_cat2, zv_cats]) ?_
      refine rt_goto (tgt := 59) dX10_readAll_102 (by decide) ?_
      exact rt_lfew [2, 0] rfl h
    · replace h := h.2 c80
      refine z_aload_n dX10_readAll_83 rfl (j := 1) rfl ?_
      refine z_aload_n dX10_readAll_84 rfl (j := 1) rfl ?_
      refine z_getc Γ kf_RX10_62 dX10_readAll_85 ht.1 ht.2.1 rfl ?_
      refine z_iload_n dX10_readAll_88 rfl (j := 0) rfl ?_
      refine z_iald Γ dX10_readAll_89 (by have := ht.1; omega) ht.2.2.2.2.2.2.2.2.2.2.2.2.2.2.2.2.2.2.1 (by decide) hi79 (v9 := M (t + 17) (M (t + 19) v2)) rfl ?_
      refine z_aload_n dX10_readAll_90 rfl (j := 1) rfl ?_
      refine z_getc Γ kf_RX10_56 dX10_readAll_91 ht.1 ht.2.1 rfl ?_
      refine z_iload_n dX10_readAll_94 rfl (j := 0) rfl ?_
      refine z_iald Γ dX10_readAll_95 (by have := ht.1; omega) ht.2.2.2.2.2.2.2.2.2.2.2.2.2.2.2.2.1 (by decide) hi79 (v9 := M (t + 15) (M (t + 19) v2)) rfl ?_
      refine z_callV Γ kk_X10_fit kc_RX10_274 (As := [zv s0 0 (M (t + 17) (M (t + 19) v2)), zv s0 0 (M (t + 15) (M (t + 19) v2))]) h (by omega) (by decide) (show (parseMethodDescriptor yX10_fit.desc).map (fun q => q.parameters.length) = some 2 by decide +kernel) hok (Nat.zero_le _) dX10_readAll_96 ht.1 ht.2.1 rfl rfl (fun _ h9 => nomatch h9) ?_
      clear h
      intro r96 M96 h
      show rt_Go _ _ _ _ _ _ _ _ _ _ _ _ 99 [(3, zv s0 0 (M (t + 19) v2)), (0, zv s0 2 t), (2, zv s0 0 v2)] [] (zw s0 ca C S M96)
      refine z_iinc (lv' := [(2, zv s0 0 (v2 + 1)), (3, zv s0 0 (M (t + 19) v2)), (0, zv s0 2 t)]) dX10_readAll_99 (j := 2) rfl (by decide) (by simp [zv_cat0, zv_cat1, zv_cat2, zv_cats]) ?_
      refine rt_goto (tgt := 59) dX10_readAll_102 (by decide) ?_
      exact rt_lfew [2, 0] rfl h

def zt_X10_readAll (l : Launch) (s0 : State) (G : va_G) (ca : Nat → ClassId) (d : Nat) (C : Nat × Nat) (S : zS) (w0 : rt_Wd) (t : Int)  (M : zM) (Q : Int → zM → Prop) (X : zM → Prop) : Prop :=
  zm_X10_blanks l s0 G ca (d - 1) C S t  M (fun r1 M1 => zm_X10_value l s0 G ca (d - 1) C S t  M1 (fun r5 M5 => zm_X10_blanks l s0 G ca (d - 1) C S t  ((zu M5 t 6 (M5 t 2))) (fun r18 M18 => zIf (w32 (M18 t 2) = w32 (M18 t 1)) (zt_X10_readAll_38 l s0 G ca d C S w0 t r5 1 M18 Q X) (zt_X10_readAll_38 l s0 G ca d C S w0 t r5 0 M18 Q X)) X) X) X
set_option maxRecDepth 100000 in
theorem z_X10_readAll {l : Launch} {s0 : State} {a0 : Array Value} {G : va_G} {ca : Nat → ClassId} (Γ : rt_Γ l s0 a0 G ca) {d : Nat} {C : Nat × Nat} {S : zS} (hd : 1 ≤ d) (hok : zok C) {t : Int} (ht : zTx S t)  {M : zM} {Q : Int → zM → Prop} {X : zM → Prop} (h : zt_X10_readAll l s0 G ca d C S (zw s0 ca C S M) t  M Q X) : zm_X10_readAll l s0 G ca d C S t  M Q X := by
  refine z_met (lv := [(0, zv s0 2 t)]) Γ kk_X10_readAll rfl (show (lg_sl [zv s0 2 t]).length ≤ 4 from by simp only [zn_2, show (lg_sl []).length = 0 from rfl]; omega) (show lv_args 0 [zv s0 2 t] = [(0, zv s0 2 t)] from by rw [zl_2]; rfl) ?_
  unfold zt_X10_readAll at h
  refine z_aload_n dX10_readAll_0 rfl (j := 0) rfl ?_
  refine z_callV Γ kk_X10_blanks kc_RX10_149 (As := []) h (by omega) (by decide) (show (parseMethodDescriptor yX10_blanks.desc).map (fun q => q.parameters.length) = some 0 by decide +kernel) hok (Nat.zero_le _) dX10_readAll_1 ht.1 ht.2.1 rfl rfl (fun _ h9 => nomatch h9) ?_
  clear h
  intro r1 M1 h
  show rt_Go _ _ _ _ _ _ _ _ _ _ _ _ 4 [(0, zv s0 2 t)] [] (zw s0 ca C S M1)
  refine z_aload_n dX10_readAll_4 rfl (j := 0) rfl ?_
  refine z_callV Γ kk_X10_value kc_RX10_152 (As := []) h (by omega) (by decide) (show (parseMethodDescriptor yX10_value.desc).map (fun q => q.parameters.length) = some 0 by decide +kernel) hok (Nat.zero_le _) dX10_readAll_5 ht.1 ht.2.1 rfl rfl (fun _ h9 => nomatch h9) ?_
  clear h
  intro r5 M5 h
  show rt_Go _ _ _ _ _ _ _ _ _ _ _ _ 8 [(0, zv s0 2 t)] [zv s0 0 r5] (zw s0 ca C S M5)
  refine z_istore_n (i := 1) (lv' := [(1, zv s0 0 r5), (0, zv s0 2 t)]) dX10_readAll_8 rfl (by decide) (by simp [zv_cat0, zv_cat1, zv_cat2, zv_cats]) ?_
  refine z_aload_n dX10_readAll_9 rfl (j := 1) rfl ?_
  refine z_aload_n dX10_readAll_10 rfl (j := 1) rfl ?_
  refine z_get Γ kf_RX10_95 dX10_readAll_11 ht.1 ht.2.1 rfl (by decide) (v9 := M5 t 2) rfl ?_
  refine z_put0 Γ kp_RX10_292 dX10_readAll_14 ht.1 ht.2.1 rfl (k9 := 6) rfl ?_
  refine z_aload_n dX10_readAll_17 rfl (j := 1) rfl ?_
  refine z_callV Γ kk_X10_blanks kc_RX10_149 (As := []) h (by omega) (by decide) (show (parseMethodDescriptor yX10_blanks.desc).map (fun q => q.parameters.length) = some 0 by decide +kernel) hok (Nat.zero_le _) dX10_readAll_18 ht.1 ht.2.1 rfl rfl (fun _ h9 => nomatch h9) ?_
  clear h
  intro r18 M18 h
  show rt_Go _ _ _ _ _ _ _ _ _ _ _ _ 21 [(1, zv s0 0 r5), (0, zv s0 2 t)] [] (zw s0 ca C S M18)
  refine z_aload_n dX10_readAll_21 rfl (j := 1) rfl ?_
  refine z_aload_n dX10_readAll_22 rfl (j := 1) rfl ?_
  refine z_get Γ kf_RX10_95 dX10_readAll_23 ht.1 ht.2.1 rfl (by decide) (v9 := M18 t 2) rfl ?_
  refine z_aload_n dX10_readAll_26 rfl (j := 1) rfl ?_
  refine z_get Γ kf_RX10_98 dX10_readAll_27 ht.1 ht.2.1 rfl (by decide) (v9 := M18 t 1) rfl ?_
  refine z_icmp_ne (tgt := 37) (x' := w32 (M18 t 2)) (y' := w32 (M18 t 1)) rfl rfl dX10_readAll_30 (by decide) (fun c30 => ?_) (fun c30 => ?_)
  · replace h := h.2 c30
    refine z_iconst dX10_readAll_37 ?_
    exact rt_lfew [1, 0] rfl (zs_X10_readAll_38 Γ hd hok ht  h)
  · replace h := h.1 c30
    refine z_iconst dX10_readAll_33 ?_
    refine rt_goto (tgt := 38) dX10_readAll_34 (by decide) ?_
    exact rt_lfew [1, 0] rfl (zs_X10_readAll_38 Γ hd hok ht  h)

abbrev zg_X10_put_2 (l : Launch) (s0 : State) (G : va_G) (ca : Nat → ClassId) (d : Nat) (C : Nat × Nat) (S : zS) (w0 : rt_Wd) (t : Int) (w : Nat) (wb : List Int) (v2 : Int)  (M : zM) (Q : Int → zM → Prop) (X : zM → Prop) : Prop := rt_Go l s0 G RX10 "put" cX10_put 3 (Option.none : Option FieldType) [] d w0 (zQ s0 ca 9 C S Q X) 2 [(0, zv s0 2 t), (1, .ref w), (2, zv s0 0 v2)] [] (zw s0 ca C S M)
def zt_X10_put_2 (l : Launch) (s0 : State) (G : va_G) (ca : Nat → ClassId) (d : Nat) (C : Nat × Nat) (S : zS) (w0 : rt_Wd) (t : Int) (w : Nat) (wb : List Int) (v2 : Int)  (M : zM) (Q : Int → zM → Prop) (X : zM → Prop) : Prop :=
  zIf (w32 ((wb.length : Int)) ≤ w32 v2) (Q 0 M) ((0 ≤ v2 ∧ v2 < wb.length) ∧ ((0 ≤ M t 33 ∧ M t 33 < 4200) ∧ (zg_X10_put_2 l s0 G ca d C S w0 t w wb (v2 + 1) ((zu ((zu M (t + 20) (M t 33) (w8 (w8 (wb.getD v2.toNat 0))))) t 33 ((M t 33) + 1))) Q X)))
set_option maxRecDepth 100000 in
theorem zs_X10_put_2 {l : Launch} {s0 : State} {a0 : Array Value} {G : va_G} {ca : Nat → ClassId} (Γ : rt_Γ l s0 a0 G ca) {d : Nat} {C : Nat × Nat} {S : zS} (hd : 4 ≤ d) (hok : zok C) {t : Int} {w : Nat} {wb : List Int} (ht : zTx S t) (hw : zstr s0 w wb) {w0 : rt_Wd} {v2 : Int}   {M : zM} {Q : Int → zM → Prop} {X : zM → Prop} (h : zt_X10_put_2 l s0 G ca d C S w0 t w wb v2 M Q X) : zg_X10_put_2 l s0 G ca d C S w0 t w wb v2 M Q X := by
  unfold zt_X10_put_2 at h
  refine z_iload_n dX10_put_2 rfl (j := 2) rfl ?_
  refine rt_aloadA_n dX10_put_3 rfl (j := 1) rfl ?_
  refine z_slen Γ hw kc_RX10_137 (by omega) hok (by simp only [List.map, zv_cat0, zv_cat1, zv_cat2, List.sum_cons, List.sum_nil]; decide) dX10_put_4 ?_
  refine z_icmp_ge (tgt := 41) (x' := w32 v2) (y' := w32 ((wb.length : Int))) rfl rfl dX10_put_7 (by decide) (fun c7 => ?_) (fun c7 => ?_)
  · replace h := h.1 c7
    exact z_vret dX10_put_41 rfl h
  · replace h := h.2 c7
    refine z_aload_n dX10_put_10 rfl (j := 0) rfl ?_
    refine z_getc Γ kf_RX10_71 dX10_put_11 ht.1 ht.2.1 rfl ?_
    refine z_aload_n dX10_put_14 rfl (j := 0) rfl ?_
    refine z_get Γ kf_RX10_280 dX10_put_15 ht.1 ht.2.1 rfl (by decide) (v9 := M t 33) rfl ?_
    refine rt_aloadA_n dX10_put_18 rfl (j := 1) rfl ?_
    refine z_iload_n dX10_put_19 rfl (j := 2) rfl ?_
    obtain ⟨hi9, h⟩ := h
    refine z_scat Γ hw kc_RX10_141 (by omega) hok (by simp only [List.map, zv_cat0, zv_cat1, zv_cat2, List.sum_cons, List.sum_nil]; decide) hi9 dX10_put_20 ?_
    refine z_i2b dX10_put_23 ?_
    obtain ⟨hi24, h⟩ := h
    refine z_bast Γ dX10_put_24 (by have := ht.1; omega) ht.2.2.2.2.2.2.2.2.2.2.2.2.2.2.2.2.2.2.2.2.2.1 (by decide) hi24 ?_
    refine z_aload_n dX10_put_25 rfl (j := 0) rfl ?_
    refine z_dup2 dX10_put_26 ?_
    refine z_get Γ kf_RX10_280 dX10_put_27 ht.1 ht.2.1 rfl (by decide) (v9 := M t 33) ((zu_a (by omega)).trans rfl) ?_
    refine z_iconst dX10_put_30 ?_
    refine z_iadd dX10_put_31 ?_
    refine z_put0 Γ kp_RX10_280 dX10_put_32 ht.1 ht.2.1 rfl (k9 := 33) rfl ?_
    refine z_iinc (lv' := [(2, zv s0 0 (v2 + 1)), (0, zv s0 2 t), (1, .ref w)]) dX10_put_35 (j := 2) rfl (by decide) (by simp [zv_cat0, zv_cat1, zv_cat2, zv_cats]) ?_
    refine rt_goto (tgt := 2) dX10_put_38 (by decide) ?_
    exact rt_lfew [1, 2, 0] rfl h

def zt_X10_put (l : Launch) (s0 : State) (G : va_G) (ca : Nat → ClassId) (d : Nat) (C : Nat × Nat) (S : zS) (w0 : rt_Wd) (t : Int) (w : Nat) (wb : List Int)  (M : zM) (Q : Int → zM → Prop) (X : zM → Prop) : Prop :=
  zg_X10_put_2 l s0 G ca d C S w0 t w wb 0 M Q X
set_option maxRecDepth 100000 in
theorem z_X10_put {l : Launch} {s0 : State} {a0 : Array Value} {G : va_G} {ca : Nat → ClassId} (Γ : rt_Γ l s0 a0 G ca) {d : Nat} {C : Nat × Nat} {S : zS} (hd : 4 ≤ d) (hok : zok C) {t : Int} {w : Nat} {wb : List Int} (ht : zTx S t) (hw : zstr s0 w wb)  {M : zM} {Q : Int → zM → Prop} {X : zM → Prop} (h : zt_X10_put l s0 G ca d C S (zw s0 ca C S M) t w wb  M Q X) : zm_X10_put l s0 G ca d C S t w M Q X := by
  refine z_met (lv := [(0, zv s0 2 t), (1, .ref w)]) Γ kk_X10_put rfl (show (lg_sl [zv s0 2 t, .ref w]).length ≤ 3 from by simp only [zn_2, zn_s, show (lg_sl []).length = 0 from rfl]; omega) (show lv_args 0 [zv s0 2 t, .ref w] = [(0, zv s0 2 t), (1, .ref w)] from by rw [zl_2, zl_s]; rfl) ?_
  unfold zt_X10_put at h
  refine z_iconst dX10_put_0 ?_
  refine z_istore_n (i := 2) (lv' := [(2, zv s0 0 0), (0, zv s0 2 t), (1, .ref w)]) dX10_put_1 rfl (by decide) (by simp [zv_cat0, zv_cat1, zv_cat2, zv_cats]) ?_
  exact rt_lfew [1, 2, 0] rfl h

abbrev zg_X10_putName_9 (l : Launch) (s0 : State) (G : va_G) (ca : Nat → ClassId) (d : Nat) (C : Nat × Nat) (S : zS) (w0 : rt_Wd) (t : Int) (v1 : Int) (v2 : Int)  (M : zM) (Q : Int → zM → Prop) (X : zM → Prop) : Prop := rt_Go l s0 G RX10 "putName" cX10_putName 3 (Option.none : Option FieldType) [] d w0 (zQ s0 ca 9 C S Q X) 9 [(0, zv s0 2 t), (1, zv s0 0 v1), (2, zv s0 0 v2)] [] (zw s0 ca C S M)
def zt_X10_putName_9 (l : Launch) (s0 : State) (G : va_G) (ca : Nat → ClassId) (d : Nat) (C : Nat × Nat) (S : zS) (w0 : rt_Wd) (t : Int) (v1 : Int) (v2 : Int)  (M : zM) (Q : Int → zM → Prop) (X : zM → Prop) : Prop :=
  (0 ≤ v1 ∧ v1 < 4200) ∧ (zIf (w32 (M (t + 5) v1) ≤ w32 v2) (∀ q59 : Nat, zstr s0 q59 [34] → (zm_X10_put l s0 G ca (d - 1) C S t q59 M (fun r62 M62 => Q 0 M62) X)) ((0 ≤ (M (t + 4) v1) + v2 ∧ (M (t + 4) v1) + v2 < 4200) ∧ ((0 ≤ M t 33 ∧ M t 33 < 4200) ∧ (zg_X10_putName_9 l s0 G ca d C S w0 t v1 (v2 + 1) ((zu ((zu M (t + 20) (M t 33) (w8 (M (t + 8) ((M (t + 4) v1) + v2))))) t 33 ((M t 33) + 1))) Q X))))
set_option maxRecDepth 100000 in
theorem zs_X10_putName_9 {l : Launch} {s0 : State} {a0 : Array Value} {G : va_G} {ca : Nat → ClassId} (Γ : rt_Γ l s0 a0 G ca) {d : Nat} {C : Nat × Nat} {S : zS} (hd : 1 ≤ d) (hok : zok C) {t : Int} (ht : zTx S t) {w0 : rt_Wd} {v1 : Int} {v2 : Int}   {M : zM} {Q : Int → zM → Prop} {X : zM → Prop} (h : zt_X10_putName_9 l s0 G ca d C S w0 t v1 v2 M Q X) : zg_X10_putName_9 l s0 G ca d C S w0 t v1 v2 M Q X := by
  unfold zt_X10_putName_9 at h
  refine z_iload_n dX10_putName_9 rfl (j := 2) rfl ?_
  refine z_aload_n dX10_putName_10 rfl (j := 0) rfl ?_
  refine z_getc Γ kf_RX10_26 dX10_putName_11 ht.1 ht.2.1 rfl ?_
  refine z_iload_n dX10_putName_14 rfl (j := 1) rfl ?_
  obtain ⟨hi15, h⟩ := h
  refine z_iald Γ dX10_putName_15 (by have := ht.1; omega) ht.2.2.2.2.2.2.1 (by decide) hi15 (v9 := M (t + 5) v1) rfl ?_
  refine z_icmp_ge (tgt := 58) (x' := w32 v2) (y' := w32 (M (t + 5) v1)) rfl rfl dX10_putName_16 (by decide) (fun c16 => ?_) (fun c16 => ?_)
  · replace h := h.1 c16
    refine z_aload_n dX10_putName_58 rfl (j := 0) rfl ?_
    obtain ⟨q59, hq59a, hq59b⟩ := ks_RX10_295 Γ
    have hq59 : zstr s0 q59 [34] := ⟨hq59b, by decide, by decide⟩
    replace h := h q59 hq59
    refine rt_ldcSW Γ hq59a dX10_putName_59 ?_
    refine z_callV Γ kk_X10_put kc_RX10_297 (As := [.ref q59]) h (by omega) (by decide) (show (parseMethodDescriptor yX10_put.desc).map (fun q => q.parameters.length) = some 1 by decide +kernel) hok (Nat.zero_le _) dX10_putName_62 ht.1 ht.2.1 rfl rfl (fun _ h9 => nomatch h9) ?_
    clear h
    intro r62 M62 h
    show rt_Go _ _ _ _ _ _ _ _ _ _ _ _ 65 [(0, zv s0 2 t), (1, zv s0 0 v1), (2, zv s0 0 v2)] [] (zw s0 ca C S M62)
    exact z_vret dX10_putName_65 rfl h
  · replace h := h.2 c16
    refine z_aload_n dX10_putName_19 rfl (j := 0) rfl ?_
    refine z_getc Γ kf_RX10_71 dX10_putName_20 ht.1 ht.2.1 rfl ?_
    refine z_aload_n dX10_putName_23 rfl (j := 0) rfl ?_
    refine z_get Γ kf_RX10_280 dX10_putName_24 ht.1 ht.2.1 rfl (by decide) (v9 := M t 33) rfl ?_
    refine z_aload_n dX10_putName_27 rfl (j := 0) rfl ?_
    refine z_getc Γ kf_RX10_35 dX10_putName_28 ht.1 ht.2.1 rfl ?_
    refine z_aload_n dX10_putName_31 rfl (j := 0) rfl ?_
    refine z_getc Γ kf_RX10_22 dX10_putName_32 ht.1 ht.2.1 rfl ?_
    refine z_iload_n dX10_putName_35 rfl (j := 1) rfl ?_
    refine z_lald Γ dX10_putName_36 (by have := ht.1; omega) ht.2.2.2.2.2.1 (by decide) hi15 (v9 := M (t + 4) v1) rfl ?_
    refine z_l2i dX10_putName_37 ?_
    refine z_iload_n dX10_putName_38 rfl (j := 2) rfl ?_
    refine z_iadd dX10_putName_39 ?_
    obtain ⟨hi40, h⟩ := h
    refine z_bald Γ dX10_putName_40 (by have := ht.1; omega) ht.2.2.2.2.2.2.2.2.2.1 (by decide) hi40 (v9 := M (t + 8) ((M (t + 4) v1) + v2)) rfl ?_
    obtain ⟨hi41, h⟩ := h
    refine z_bast Γ dX10_putName_41 (by have := ht.1; omega) ht.2.2.2.2.2.2.2.2.2.2.2.2.2.2.2.2.2.2.2.2.2.1 (by decide) hi41 ?_
    refine z_aload_n dX10_putName_42 rfl (j := 0) rfl ?_
    refine z_dup2 dX10_putName_43 ?_
    refine z_get Γ kf_RX10_280 dX10_putName_44 ht.1 ht.2.1 rfl (by decide) (v9 := M t 33) ((zu_a (by omega)).trans rfl) ?_
    refine z_iconst dX10_putName_47 ?_
    refine z_iadd dX10_putName_48 ?_
    refine z_put0 Γ kp_RX10_280 dX10_putName_49 ht.1 ht.2.1 rfl (k9 := 33) rfl ?_
    refine z_iinc (lv' := [(2, zv s0 0 (v2 + 1)), (0, zv s0 2 t), (1, zv s0 0 v1)]) dX10_putName_52 (j := 2) rfl (by decide) (by simp [zv_cat0, zv_cat1, zv_cat2, zv_cats]) ?_
    refine rt_goto (tgt := 9) dX10_putName_55 (by decide) ?_
    exact rt_lfew [1, 2, 0] rfl h

def zt_X10_putName (l : Launch) (s0 : State) (G : va_G) (ca : Nat → ClassId) (d : Nat) (C : Nat × Nat) (S : zS) (w0 : rt_Wd) (t : Int) (n : Int) (M : zM) (Q : Int → zM → Prop) (X : zM → Prop) : Prop :=
  ∀ q1 : Nat, zstr s0 q1 [34] → (zm_X10_put l s0 G ca (d - 1) C S t q1 M (fun r4 M4 => zg_X10_putName_9 l s0 G ca d C S w0 t n 0 M4 Q X) X)
set_option maxRecDepth 100000 in
theorem z_X10_putName {l : Launch} {s0 : State} {a0 : Array Value} {G : va_G} {ca : Nat → ClassId} (Γ : rt_Γ l s0 a0 G ca) {d : Nat} {C : Nat × Nat} {S : zS} (hd : 1 ≤ d) (hok : zok C) {t : Int} (ht : zTx S t) {n : Int} {M : zM} {Q : Int → zM → Prop} {X : zM → Prop} (h : zt_X10_putName l s0 G ca d C S (zw s0 ca C S M) t n M Q X) : zm_X10_putName l s0 G ca d C S t n M Q X := by
  refine z_met (lv := [(0, zv s0 2 t), (1, zv s0 0 n)]) Γ kk_X10_putName rfl (show (lg_sl [zv s0 2 t, zv s0 0 n]).length ≤ 3 from by simp only [zn_0, zn_2, show (lg_sl []).length = 0 from rfl]; omega) (show lv_args 0 [zv s0 2 t, zv s0 0 n] = [(0, zv s0 2 t), (1, zv s0 0 n)] from by rw [zl_2, zl_0]; rfl) ?_
  unfold zt_X10_putName at h
  refine z_aload_n dX10_putName_0 rfl (j := 0) rfl ?_
  obtain ⟨q1, hq1a, hq1b⟩ := ks_RX10_295 Γ
  have hq1 : zstr s0 q1 [34] := ⟨hq1b, by decide, by decide⟩
  replace h := h q1 hq1
  refine rt_ldcSW Γ hq1a dX10_putName_1 ?_
  refine z_callV Γ kk_X10_put kc_RX10_297 (As := [.ref q1]) h (by omega) (by decide) (show (parseMethodDescriptor yX10_put.desc).map (fun q => q.parameters.length) = some 1 by decide +kernel) hok (Nat.zero_le _) dX10_putName_4 ht.1 ht.2.1 rfl rfl (fun _ h9 => nomatch h9) ?_
  clear h
  intro r4 M4 h
  show rt_Go _ _ _ _ _ _ _ _ _ _ _ _ 7 [(0, zv s0 2 t), (1, zv s0 0 n)] [] (zw s0 ca C S M4)
  refine z_iconst dX10_putName_7 ?_
  refine z_istore_n (i := 2) (lv' := [(2, zv s0 0 0), (0, zv s0 2 t), (1, zv s0 0 n)]) dX10_putName_8 rfl (by decide) (by simp [zv_cat0, zv_cat1, zv_cat2, zv_cats]) ?_
  exact rt_lfew [1, 2, 0] rfl h

def zt_X10_figure (l : Launch) (s0 : State) (G : va_G) (ca : Nat → ClassId) (d : Nat) (C : Nat × Nat) (S : zS) (w0 : rt_Wd) (t : Int) (v : Int) (M : zM) (Q : Int → zM → Prop) (X : zM → Prop) : Prop :=
  (0 ≤ M t 33 ∧ M t 33 < 4200) ∧ (Q 0 ((zu ((zu M (t + 20) (M t 33) (w8 (w8 (48 + v))))) t 33 ((M t 33) + 1))))
set_option maxRecDepth 100000 in
theorem z_X10_figure {l : Launch} {s0 : State} {a0 : Array Value} {G : va_G} {ca : Nat → ClassId} (Γ : rt_Γ l s0 a0 G ca) {d : Nat} {C : Nat × Nat} {S : zS} (hok : zok C) {t : Int} (ht : zTx S t) {v : Int} {M : zM} {Q : Int → zM → Prop} {X : zM → Prop} (h : zt_X10_figure l s0 G ca d C S (zw s0 ca C S M) t v M Q X) : zm_X10_figure l s0 G ca d C S t v M Q X := by
  refine z_met (lv := [(0, zv s0 2 t), (1, zv s0 0 v)]) Γ kk_X10_figure rfl (show (lg_sl [zv s0 2 t, zv s0 0 v]).length ≤ 2 from by simp only [zn_0, zn_2, show (lg_sl []).length = 0 from rfl]; omega) (show lv_args 0 [zv s0 2 t, zv s0 0 v] = [(0, zv s0 2 t), (1, zv s0 0 v)] from by rw [zl_2, zl_0]; rfl) ?_
  unfold zt_X10_figure at h
  refine z_aload_n dX10_figure_0 rfl (j := 0) rfl ?_
  refine z_getc Γ kf_RX10_71 dX10_figure_1 ht.1 ht.2.1 rfl ?_
  refine z_aload_n dX10_figure_4 rfl (j := 0) rfl ?_
  refine z_get Γ kf_RX10_280 dX10_figure_5 ht.1 ht.2.1 rfl (by decide) (v9 := M t 33) rfl ?_
  refine z_bipush dX10_figure_8 (by decide) ?_
  refine z_iload_n dX10_figure_10 rfl (j := 1) rfl ?_
  refine z_iadd dX10_figure_11 ?_
  refine z_i2b dX10_figure_12 ?_
  obtain ⟨hi13, h⟩ := h
  refine z_bast Γ dX10_figure_13 (by have := ht.1; omega) ht.2.2.2.2.2.2.2.2.2.2.2.2.2.2.2.2.2.2.2.2.2.1 (by decide) hi13 ?_
  refine z_aload_n dX10_figure_14 rfl (j := 0) rfl ?_
  refine z_dup2 dX10_figure_15 ?_
  refine z_get Γ kf_RX10_280 dX10_figure_16 ht.1 ht.2.1 rfl (by decide) (v9 := M t 33) ((zu_a (by omega)).trans rfl) ?_
  refine z_iconst dX10_figure_19 ?_
  refine z_iadd dX10_figure_20 ?_
  refine z_put0 Γ kp_RX10_280 dX10_figure_21 ht.1 ht.2.1 rfl (k9 := 33) rfl ?_
  exact z_vret dX10_figure_24 rfl h

abbrev zg_X10_writeNamed_86 (l : Launch) (s0 : State) (G : va_G) (ca : Nat → ClassId) (d : Nat) (C : Nat × Nat) (S : zS) (w0 : rt_Wd) (t : Int) (v1 : Int)  (M : zM) (Q : Int → zM → Prop) (X : zM → Prop) : Prop := rt_Go l s0 G RX10 "writeNamed" cX10_writeNamed 3 (Option.none : Option FieldType) [] d w0 (zQ s0 ca 9 C S Q X) 86 [(0, zv s0 2 t), (1, zv s0 0 v1)] [] (zw s0 ca C S M)
abbrev zg_X10_writeNamed_138 (l : Launch) (s0 : State) (G : va_G) (ca : Nat → ClassId) (d : Nat) (C : Nat × Nat) (S : zS) (w0 : rt_Wd) (t : Int) (v1 : Int) (v2 : Int)  (M : zM) (Q : Int → zM → Prop) (X : zM → Prop) : Prop := rt_Go l s0 G RX10 "writeNamed" cX10_writeNamed 3 (Option.none : Option FieldType) [] d w0 (zQ s0 ca 9 C S Q X) 138 [(0, zv s0 2 t), (1, zv s0 0 v1), (2, zv s0 0 v2)] [] (zw s0 ca C S M)
abbrev zg_X10_writeNamed_160 (l : Launch) (s0 : State) (G : va_G) (ca : Nat → ClassId) (d : Nat) (C : Nat × Nat) (S : zS) (w0 : rt_Wd) (t : Int) (v1 : Int) (v2 : Int)  (M : zM) (Q : Int → zM → Prop) (X : zM → Prop) : Prop := rt_Go l s0 G RX10 "writeNamed" cX10_writeNamed 3 (Option.none : Option FieldType) [] d w0 (zQ s0 ca 9 C S Q X) 160 [(0, zv s0 2 t), (1, zv s0 0 v1), (2, zv s0 0 v2)] [] (zw s0 ca C S M)
abbrev zg_X10_writeNamed_205 (l : Launch) (s0 : State) (G : va_G) (ca : Nat → ClassId) (d : Nat) (C : Nat × Nat) (S : zS) (w0 : rt_Wd) (t : Int) (v1 : Int) (v2 : Int)  (M : zM) (Q : Int → zM → Prop) (X : zM → Prop) : Prop := rt_Go l s0 G RX10 "writeNamed" cX10_writeNamed 3 (Option.none : Option FieldType) [] d w0 (zQ s0 ca 9 C S Q X) 205 [(0, zv s0 2 t), (1, zv s0 0 v1), (2, zv s0 0 v2)] [] (zw s0 ca C S M)
abbrev zg_X10_writeNamed_224 (l : Launch) (s0 : State) (G : va_G) (ca : Nat → ClassId) (d : Nat) (C : Nat × Nat) (S : zS) (w0 : rt_Wd) (t : Int) (v1 : Int) (v2 : Int) (k0 : Nat) (k0b : List Int) (M : zM) (Q : Int → zM → Prop) (X : zM → Prop) : Prop := rt_Go l s0 G RX10 "writeNamed" cX10_writeNamed 3 (Option.none : Option FieldType) [] d w0 (zQ s0 ca 9 C S Q X) 224 [(0, zv s0 2 t), (1, zv s0 0 v1), (2, zv s0 0 v2)] [.ref k0, zv s0 2 t] (zw s0 ca C S M)
def zt_X10_writeNamed_86 (l : Launch) (s0 : State) (G : va_G) (ca : Nat → ClassId) (d : Nat) (C : Nat × Nat) (S : zS) (w0 : rt_Wd) (t : Int) (v1 : Int)  (M : zM) (Q : Int → zM → Prop) (X : zM → Prop) : Prop :=
  (0 ≤ v1 ∧ v1 < 140) ∧ (zm_X10_figure l s0 G ca (d - 1) C S t (zrem (M (t + 11) v1) 10) M (fun r96 M96 => ∀ q100 : Nat, zstr s0 q100 [125] → (zm_X10_put l s0 G ca (d - 1) C S t q100 M96 (fun r103 M103 => Q 0 M103) X)) X)
set_option maxRecDepth 100000 in
theorem zs_X10_writeNamed_86 {l : Launch} {s0 : State} {a0 : Array Value} {G : va_G} {ca : Nat → ClassId} (Γ : rt_Γ l s0 a0 G ca) {d : Nat} {C : Nat × Nat} {S : zS} (hd : 1 ≤ d) (hok : zok C) {t : Int} (ht : zTx S t) {w0 : rt_Wd} {v1 : Int}   {M : zM} {Q : Int → zM → Prop} {X : zM → Prop} (h : zt_X10_writeNamed_86 l s0 G ca d C S w0 t v1 M Q X) : zg_X10_writeNamed_86 l s0 G ca d C S w0 t v1 M Q X := by
  unfold zt_X10_writeNamed_86 at h
  refine z_aload_n dX10_writeNamed_86 rfl (j := 0) rfl ?_
  refine z_aload_n dX10_writeNamed_87 rfl (j := 0) rfl ?_
  refine z_getc Γ kf_RX10_44 dX10_writeNamed_88 ht.1 ht.2.1 rfl ?_
  refine z_iload_n dX10_writeNamed_91 rfl (j := 1) rfl ?_
  obtain ⟨hi92, h⟩ := h
  refine z_iald Γ dX10_writeNamed_92 (by have := ht.1; omega) ht.2.2.2.2.2.2.2.2.2.2.2.2.1 (by decide) hi92 (v9 := M (t + 11) v1) rfl ?_
  refine z_bipush dX10_writeNamed_93 (by decide) ?_
  refine z_irem dX10_writeNamed_95 (by decide) ?_
  refine z_callV Γ kk_X10_figure kc_RX10_324 (As := [zv s0 0 (zrem (M (t + 11) v1) 10)]) h (by omega) (by decide) (show (parseMethodDescriptor yX10_figure.desc).map (fun q => q.parameters.length) = some 1 by decide +kernel) hok (Nat.zero_le _) dX10_writeNamed_96 ht.1 ht.2.1 rfl rfl (fun _ h9 => nomatch h9) ?_
  clear h
  intro r96 M96 h
  show rt_Go _ _ _ _ _ _ _ _ _ _ _ _ 99 [(0, zv s0 2 t), (1, zv s0 0 v1)] [] (zw s0 ca C S M96)
  refine z_aload_n dX10_writeNamed_99 rfl (j := 0) rfl ?_
  obtain ⟨q100, hq100a, hq100b⟩ := ks_RX10_304 Γ
  have hq100 : zstr s0 q100 [125] := ⟨hq100b, by decide, by decide⟩
  replace h := h q100 hq100
  refine rt_ldcSW Γ hq100a dX10_writeNamed_100 ?_
  refine z_callV Γ kk_X10_put kc_RX10_297 (As := [.ref q100]) h (by omega) (by decide) (show (parseMethodDescriptor yX10_put.desc).map (fun q => q.parameters.length) = some 1 by decide +kernel) hok (Nat.zero_le _) dX10_writeNamed_103 ht.1 ht.2.1 rfl rfl (fun _ h9 => nomatch h9) ?_
  clear h
  intro r103 M103 h
  show rt_Go _ _ _ _ _ _ _ _ _ _ _ _ 106 [(0, zv s0 2 t), (1, zv s0 0 v1)] [] (zw s0 ca C S M103)
  exact z_vret dX10_writeNamed_106 rfl h

def zt_X10_writeNamed_224 (l : Launch) (s0 : State) (G : va_G) (ca : Nat → ClassId) (d : Nat) (C : Nat × Nat) (S : zS) (w0 : rt_Wd) (t : Int) (v1 : Int) (v2 : Int) (k0 : Nat) (k0b : List Int) (M : zM) (Q : Int → zM → Prop) (X : zM → Prop) : Prop :=
  zm_X10_put l s0 G ca (d - 1) C S t k0 M (fun r224 M224 => (0 ≤ v2 ∧ v2 < 2200) ∧ (zg_X10_writeNamed_138 l s0 G ca d C S w0 t v1 (M224 (t + 18) v2) M224 Q X)) X
set_option maxRecDepth 100000 in
theorem zs_X10_writeNamed_224 {l : Launch} {s0 : State} {a0 : Array Value} {G : va_G} {ca : Nat → ClassId} (Γ : rt_Γ l s0 a0 G ca) {d : Nat} {C : Nat × Nat} {S : zS} (hd : 1 ≤ d) (hok : zok C) {t : Int} (ht : zTx S t) {w0 : rt_Wd} {v1 : Int} {v2 : Int} {k0 : Nat} {k0b : List Int} (hk0 : zstr s0 k0 k0b) {M : zM} {Q : Int → zM → Prop} {X : zM → Prop} (h : zt_X10_writeNamed_224 l s0 G ca d C S w0 t v1 v2 k0 k0b M Q X) : zg_X10_writeNamed_224 l s0 G ca d C S w0 t v1 v2 k0 k0b M Q X := by
  unfold zt_X10_writeNamed_224 at h
  refine z_callV Γ kk_X10_put kc_RX10_297 (As := [.ref k0]) h (by omega) (by decide) (show (parseMethodDescriptor yX10_put.desc).map (fun q => q.parameters.length) = some 1 by decide +kernel) hok (Nat.zero_le _) dX10_writeNamed_224 ht.1 ht.2.1 rfl rfl (fun _ h9 => nomatch h9) ?_
  clear h
  intro r224 M224 h
  show rt_Go _ _ _ _ _ _ _ _ _ _ _ _ 227 [(0, zv s0 2 t), (1, zv s0 0 v1), (2, zv s0 0 v2)] [] (zw s0 ca C S M224)
  refine z_aload_n dX10_writeNamed_227 rfl (j := 0) rfl ?_
  refine z_getc Γ kf_RX10_65 dX10_writeNamed_228 ht.1 ht.2.1 rfl ?_
  refine z_iload_n dX10_writeNamed_231 rfl (j := 2) rfl ?_
  obtain ⟨hi232, h⟩ := h
  refine z_iald Γ dX10_writeNamed_232 (by have := ht.1; omega) ht.2.2.2.2.2.2.2.2.2.2.2.2.2.2.2.2.2.2.2.1 (by decide) hi232 (v9 := M224 (t + 18) v2) rfl ?_
  refine z_istore_n (i := 2) (lv' := [(2, zv s0 0 (M224 (t + 18) v2)), (0, zv s0 2 t), (1, zv s0 0 v1)]) dX10_writeNamed_233 rfl (by decide) (by simp [zv_cat0, zv_cat1, zv_cat2, zv_cats]) ?_
  refine rt_goto (tgt := 138) dX10_writeNamed_234 (by decide) ?_
  exact rt_lfew [1, 2, 0] rfl h

def zt_X10_writeNamed_205 (l : Launch) (s0 : State) (G : va_G) (ca : Nat → ClassId) (d : Nat) (C : Nat × Nat) (S : zS) (w0 : rt_Wd) (t : Int) (v1 : Int) (v2 : Int)  (M : zM) (Q : Int → zM → Prop) (X : zM → Prop) : Prop :=
  (0 ≤ v2 ∧ v2 < 2200) ∧ (zIf (w32 (M (t + 18) v2) < 0) (∀ q221 : Nat, zstr s0 q221 [] → (zt_X10_writeNamed_224 l s0 G ca d C S w0 t v1 v2 q221 ([]) M Q X)) (∀ q215 : Nat, zstr s0 q215 [44] → (zt_X10_writeNamed_224 l s0 G ca d C S w0 t v1 v2 q215 ([44]) M Q X)))
set_option maxRecDepth 100000 in
theorem zs_X10_writeNamed_205 {l : Launch} {s0 : State} {a0 : Array Value} {G : va_G} {ca : Nat → ClassId} (Γ : rt_Γ l s0 a0 G ca) {d : Nat} {C : Nat × Nat} {S : zS} (hd : 1 ≤ d) (hok : zok C) {t : Int} (ht : zTx S t) {w0 : rt_Wd} {v1 : Int} {v2 : Int}   {M : zM} {Q : Int → zM → Prop} {X : zM → Prop} (h : zt_X10_writeNamed_205 l s0 G ca d C S w0 t v1 v2 M Q X) : zg_X10_writeNamed_205 l s0 G ca d C S w0 t v1 v2 M Q X := by
  unfold zt_X10_writeNamed_205 at h
  refine z_aload_n dX10_writeNamed_205 rfl (j := 0) rfl ?_
  refine z_aload_n dX10_writeNamed_206 rfl (j := 0) rfl ?_
  refine z_getc Γ kf_RX10_65 dX10_writeNamed_207 ht.1 ht.2.1 rfl ?_
  refine z_iload_n dX10_writeNamed_210 rfl (j := 2) rfl ?_
  obtain ⟨hi211, h⟩ := h
  refine z_iald Γ dX10_writeNamed_211 (by have := ht.1; omega) ht.2.2.2.2.2.2.2.2.2.2.2.2.2.2.2.2.2.2.2.1 (by decide) hi211 (v9 := M (t + 18) v2) rfl ?_
  refine z_if_lt (tgt := 221) (x' := w32 (M (t + 18) v2)) rfl dX10_writeNamed_212 (by decide) (fun c212 => ?_) (fun c212 => ?_)
  · replace h := h.1 c212
    obtain ⟨q221, hq221a, hq221b⟩ := ks_RX10_310 Γ
    have hq221 : zstr s0 q221 [] := ⟨hq221b, by decide, by decide⟩
    replace h := h q221 hq221
    refine rt_ldcSW Γ hq221a dX10_writeNamed_221 ?_
    exact rt_lfew [0, 1, 2] rfl (zs_X10_writeNamed_224 Γ hd hok ht hq221 h)
  · replace h := h.2 c212
    obtain ⟨q215, hq215a, hq215b⟩ := ks_RX10_308 Γ
    have hq215 : zstr s0 q215 [44] := ⟨hq215b, by decide, by decide⟩
    replace h := h q215 hq215
    refine rt_ldcSW Γ hq215a dX10_writeNamed_215 ?_
    refine rt_goto (tgt := 224) dX10_writeNamed_218 (by decide) ?_
    exact rt_lfew [0, 1, 2] rfl (zs_X10_writeNamed_224 Γ hd hok ht hq215 h)

def zt_X10_writeNamed_160 (l : Launch) (s0 : State) (G : va_G) (ca : Nat → ClassId) (d : Nat) (C : Nat × Nat) (S : zS) (w0 : rt_Wd) (t : Int) (v1 : Int) (v2 : Int)  (M : zM) (Q : Int → zM → Prop) (X : zM → Prop) : Prop :=
  (0 ≤ v2 ∧ v2 < 2200) ∧ (zm_X10_putName l s0 G ca (d - 1) C S t (M (t + 16) v2) M (fun r167 M167 => (0 ≤ v1 ∧ v1 < 140) ∧ (zIf (w32 (M167 (t + 9) v1) = 11) (∀ q182 : Nat, zstr s0 q182 [44, 34, 116, 121, 112, 101, 34, 58] → (zm_X10_put l s0 G ca (d - 1) C S t q182 M167 (fun r185 M185 => zm_X10_write l s0 G ca (d - 1) C S t (M185 (t + 15) v2) M185 (fun r195 M195 => ∀ q199 : Nat, zstr s0 q199 [125] → (zm_X10_put l s0 G ca (d - 1) C S t q199 M195 (fun r202 M202 => zt_X10_writeNamed_205 l s0 G ca d C S w0 t v1 v2 M202 Q X) X)) X) X)) (zt_X10_writeNamed_205 l s0 G ca d C S w0 t v1 v2 M167 Q X))) X)
set_option maxRecDepth 100000 in
theorem zs_X10_writeNamed_160 {l : Launch} {s0 : State} {a0 : Array Value} {G : va_G} {ca : Nat → ClassId} (Γ : rt_Γ l s0 a0 G ca) {d : Nat} {C : Nat × Nat} {S : zS} (hd : 1 ≤ d) (hok : zok C) {t : Int} (ht : zTx S t) {w0 : rt_Wd} {v1 : Int} {v2 : Int}   {M : zM} {Q : Int → zM → Prop} {X : zM → Prop} (h : zt_X10_writeNamed_160 l s0 G ca d C S w0 t v1 v2 M Q X) : zg_X10_writeNamed_160 l s0 G ca d C S w0 t v1 v2 M Q X := by
  unfold zt_X10_writeNamed_160 at h
  refine z_aload_n dX10_writeNamed_160 rfl (j := 0) rfl ?_
  refine z_aload_n dX10_writeNamed_161 rfl (j := 0) rfl ?_
  refine z_getc Γ kf_RX10_59 dX10_writeNamed_162 ht.1 ht.2.1 rfl ?_
  refine z_iload_n dX10_writeNamed_165 rfl (j := 2) rfl ?_
  obtain ⟨hi166, h⟩ := h
  refine z_iald Γ dX10_writeNamed_166 (by have := ht.1; omega) ht.2.2.2.2.2.2.2.2.2.2.2.2.2.2.2.2.2.1 (by decide) hi166 (v9 := M (t + 16) v2) rfl ?_
  refine z_callV Γ kk_X10_putName kc_RX10_317 (As := [zv s0 0 (M (t + 16) v2)]) h (by omega) (by decide) (show (parseMethodDescriptor yX10_putName.desc).map (fun q => q.parameters.length) = some 1 by decide +kernel) hok (Nat.zero_le _) dX10_writeNamed_167 ht.1 ht.2.1 rfl rfl (fun _ h9 => nomatch h9) ?_
  clear h
  intro r167 M167 h
  show rt_Go _ _ _ _ _ _ _ _ _ _ _ _ 170 [(0, zv s0 2 t), (1, zv s0 0 v1), (2, zv s0 0 v2)] [] (zw s0 ca C S M167)
  refine z_aload_n dX10_writeNamed_170 rfl (j := 0) rfl ?_
  refine z_getc Γ kf_RX10_38 dX10_writeNamed_171 ht.1 ht.2.1 rfl ?_
  refine z_iload_n dX10_writeNamed_174 rfl (j := 1) rfl ?_
  obtain ⟨hi175, h⟩ := h
  refine z_iald Γ dX10_writeNamed_175 (by have := ht.1; omega) ht.2.2.2.2.2.2.2.2.2.2.1 (by decide) hi175 (v9 := M167 (t + 9) v1) rfl ?_
  refine z_bipush dX10_writeNamed_176 (by decide) ?_
  refine z_icmp_ne (tgt := 205) (x' := w32 (M167 (t + 9) v1)) (y' := 11) rfl (by decide) dX10_writeNamed_178 (by decide) (fun c178 => ?_) (fun c178 => ?_)
  · replace h := h.2 c178
    exact rt_lfew [0, 1, 2] rfl (zs_X10_writeNamed_205 Γ hd hok ht  h)
  · replace h := h.1 c178
    refine z_aload_n dX10_writeNamed_181 rfl (j := 0) rfl ?_
    obtain ⟨q182, hq182a, hq182b⟩ := ks_RX10_331 Γ
    have hq182 : zstr s0 q182 [44, 34, 116, 121, 112, 101, 34, 58] := ⟨hq182b, by decide, by decide⟩
    replace h := h q182 hq182
    refine rt_ldcSW Γ hq182a dX10_writeNamed_182 ?_
    refine z_callV Γ kk_X10_put kc_RX10_297 (As := [.ref q182]) h (by omega) (by decide) (show (parseMethodDescriptor yX10_put.desc).map (fun q => q.parameters.length) = some 1 by decide +kernel) hok (Nat.zero_le _) dX10_writeNamed_185 ht.1 ht.2.1 rfl rfl (fun _ h9 => nomatch h9) ?_
    clear h
    intro r185 M185 h
    show rt_Go _ _ _ _ _ _ _ _ _ _ _ _ 188 [(0, zv s0 2 t), (1, zv s0 0 v1), (2, zv s0 0 v2)] [] (zw s0 ca C S M185)
    refine z_aload_n dX10_writeNamed_188 rfl (j := 0) rfl ?_
    refine z_aload_n dX10_writeNamed_189 rfl (j := 0) rfl ?_
    refine z_getc Γ kf_RX10_56 dX10_writeNamed_190 ht.1 ht.2.1 rfl ?_
    refine z_iload_n dX10_writeNamed_193 rfl (j := 2) rfl ?_
    refine z_iald Γ dX10_writeNamed_194 (by have := ht.1; omega) ht.2.2.2.2.2.2.2.2.2.2.2.2.2.2.2.2.1 (by decide) hi166 (v9 := M185 (t + 15) v2) rfl ?_
    refine z_callV Γ kk_X10_write kc_RX10_289 (As := [zv s0 0 (M185 (t + 15) v2)]) h (by omega) (by decide) (show (parseMethodDescriptor yX10_write.desc).map (fun q => q.parameters.length) = some 1 by decide +kernel) hok (Nat.zero_le _) dX10_writeNamed_195 ht.1 ht.2.1 rfl rfl (fun _ h9 => nomatch h9) ?_
    clear h
    intro r195 M195 h
    show rt_Go _ _ _ _ _ _ _ _ _ _ _ _ 198 [(0, zv s0 2 t), (1, zv s0 0 v1), (2, zv s0 0 v2)] [] (zw s0 ca C S M195)
    refine z_aload_n dX10_writeNamed_198 rfl (j := 0) rfl ?_
    obtain ⟨q199, hq199a, hq199b⟩ := ks_RX10_304 Γ
    have hq199 : zstr s0 q199 [125] := ⟨hq199b, by decide, by decide⟩
    replace h := h q199 hq199
    refine rt_ldcSW Γ hq199a dX10_writeNamed_199 ?_
    refine z_callV Γ kk_X10_put kc_RX10_297 (As := [.ref q199]) h (by omega) (by decide) (show (parseMethodDescriptor yX10_put.desc).map (fun q => q.parameters.length) = some 1 by decide +kernel) hok (Nat.zero_le _) dX10_writeNamed_202 ht.1 ht.2.1 rfl rfl (fun _ h9 => nomatch h9) ?_
    clear h
    intro r202 M202 h
    show rt_Go _ _ _ _ _ _ _ _ _ _ _ _ 205 [(0, zv s0 2 t), (1, zv s0 0 v1), (2, zv s0 0 v2)] [] (zw s0 ca C S M202)
    exact rt_lfew [0, 1, 2] rfl (zs_X10_writeNamed_205 Γ hd hok ht  h)

def zt_X10_writeNamed_138 (l : Launch) (s0 : State) (G : va_G) (ca : Nat → ClassId) (d : Nat) (C : Nat × Nat) (S : zS) (w0 : rt_Wd) (t : Int) (v1 : Int) (v2 : Int)  (M : zM) (Q : Int → zM → Prop) (X : zM → Prop) : Prop :=
  zIf (w32 v2 < 0) (∀ q238 : Nat, zstr s0 q238 [93, 125] → (zm_X10_put l s0 G ca (d - 1) C S t q238 M (fun r241 M241 => Q 0 M241) X)) ((0 ≤ v1 ∧ v1 < 140) ∧ (zIf (w32 (M (t + 9) v1) = 11) (∀ q154 : Nat, zstr s0 q154 [123, 34, 110, 97, 109, 101, 34, 58] → (zm_X10_put l s0 G ca (d - 1) C S t q154 M (fun r157 M157 => zt_X10_writeNamed_160 l s0 G ca d C S w0 t v1 v2 M157 Q X) X)) (zt_X10_writeNamed_160 l s0 G ca d C S w0 t v1 v2 M Q X)))
set_option maxRecDepth 100000 in
theorem zs_X10_writeNamed_138 {l : Launch} {s0 : State} {a0 : Array Value} {G : va_G} {ca : Nat → ClassId} (Γ : rt_Γ l s0 a0 G ca) {d : Nat} {C : Nat × Nat} {S : zS} (hd : 1 ≤ d) (hok : zok C) {t : Int} (ht : zTx S t) {w0 : rt_Wd} {v1 : Int} {v2 : Int}   {M : zM} {Q : Int → zM → Prop} {X : zM → Prop} (h : zt_X10_writeNamed_138 l s0 G ca d C S w0 t v1 v2 M Q X) : zg_X10_writeNamed_138 l s0 G ca d C S w0 t v1 v2 M Q X := by
  unfold zt_X10_writeNamed_138 at h
  refine z_iload_n dX10_writeNamed_138 rfl (j := 2) rfl ?_
  refine z_if_lt (tgt := 237) (x' := w32 v2) rfl dX10_writeNamed_139 (by decide) (fun c139 => ?_) (fun c139 => ?_)
  · replace h := h.1 c139
    refine z_aload_n dX10_writeNamed_237 rfl (j := 0) rfl ?_
    obtain ⟨q238, hq238a, hq238b⟩ := ks_RX10_333 Γ
    have hq238 : zstr s0 q238 [93, 125] := ⟨hq238b, by decide, by decide⟩
    replace h := h q238 hq238
    refine rt_ldcSW Γ hq238a dX10_writeNamed_238 ?_
    refine z_callV Γ kk_X10_put kc_RX10_297 (As := [.ref q238]) h (by omega) (by decide) (show (parseMethodDescriptor yX10_put.desc).map (fun q => q.parameters.length) = some 1 by decide +kernel) hok (Nat.zero_le _) dX10_writeNamed_241 ht.1 ht.2.1 rfl rfl (fun _ h9 => nomatch h9) ?_
    clear h
    intro r241 M241 h
    show rt_Go _ _ _ _ _ _ _ _ _ _ _ _ 244 [(0, zv s0 2 t), (1, zv s0 0 v1), (2, zv s0 0 v2)] [] (zw s0 ca C S M241)
    exact z_vret dX10_writeNamed_244 rfl h
  · replace h := h.2 c139
    refine z_aload_n dX10_writeNamed_142 rfl (j := 0) rfl ?_
    refine z_getc Γ kf_RX10_38 dX10_writeNamed_143 ht.1 ht.2.1 rfl ?_
    refine z_iload_n dX10_writeNamed_146 rfl (j := 1) rfl ?_
    obtain ⟨hi147, h⟩ := h
    refine z_iald Γ dX10_writeNamed_147 (by have := ht.1; omega) ht.2.2.2.2.2.2.2.2.2.2.1 (by decide) hi147 (v9 := M (t + 9) v1) rfl ?_
    refine z_bipush dX10_writeNamed_148 (by decide) ?_
    refine z_icmp_ne (tgt := 160) (x' := w32 (M (t + 9) v1)) (y' := 11) rfl (by decide) dX10_writeNamed_150 (by decide) (fun c150 => ?_) (fun c150 => ?_)
    · replace h := h.2 c150
      exact rt_lfew [0, 1, 2] rfl (zs_X10_writeNamed_160 Γ hd hok ht  h)
    · replace h := h.1 c150
      refine z_aload_n dX10_writeNamed_153 rfl (j := 0) rfl ?_
      obtain ⟨q154, hq154a, hq154b⟩ := ks_RX10_320 Γ
      have hq154 : zstr s0 q154 [123, 34, 110, 97, 109, 101, 34, 58] := ⟨hq154b, by decide, by decide⟩
      replace h := h q154 hq154
      refine rt_ldcSW Γ hq154a dX10_writeNamed_154 ?_
      refine z_callV Γ kk_X10_put kc_RX10_297 (As := [.ref q154]) h (by omega) (by decide) (show (parseMethodDescriptor yX10_put.desc).map (fun q => q.parameters.length) = some 1 by decide +kernel) hok (Nat.zero_le _) dX10_writeNamed_157 ht.1 ht.2.1 rfl rfl (fun _ h9 => nomatch h9) ?_
      clear h
      intro r157 M157 h
      show rt_Go _ _ _ _ _ _ _ _ _ _ _ _ 160 [(0, zv s0 2 t), (1, zv s0 0 v1), (2, zv s0 0 v2)] [] (zw s0 ca C S M157)
      exact rt_lfew [0, 1, 2] rfl (zs_X10_writeNamed_160 Γ hd hok ht  h)

def zt_X10_writeNamed (l : Launch) (s0 : State) (G : va_G) (ca : Nat → ClassId) (d : Nat) (C : Nat × Nat) (S : zS) (w0 : rt_Wd) (t : Int) (s : Int) (M : zM) (Q : Int → zM → Prop) (X : zM → Prop) : Prop :=
  (0 ≤ s ∧ s < 140) ∧ (zIf (w32 (M (t + 21) s) = 0) (∀ q28 : Nat, zstr s0 q28 [123, 34, 110, 97, 109, 101, 34, 58] → (zm_X10_put l s0 G ca (d - 1) C S t q28 ((zu M (t + 21) s 1)) (fun r31 M31 => zm_X10_putName l s0 G ca (d - 1) C S t (M31 (t + 10) s) M31 (fun r41 M41 => zIf (w32 (M41 (t + 9) s) = 9) (∀ q56 : Nat, zstr s0 q56 [44, 34, 116, 121, 112, 101, 34, 58, 34, 102, 105, 120, 101, 100, 34, 44, 34, 115, 105, 122, 101, 34, 58] → (zm_X10_put l s0 G ca (d - 1) C S t q56 M41 (fun r59 M59 => zIf (w32 (M59 (t + 11) s) ≤ 9) (zt_X10_writeNamed_86 l s0 G ca d C S w0 t s M59 Q X) (zm_X10_figure l s0 G ca (d - 1) C S t (zdiv (M59 (t + 11) s) 10) M59 (fun r83 M83 => zt_X10_writeNamed_86 l s0 G ca d C S w0 t s M83 Q X) X)) X)) (zIf (w32 (M41 (t + 9) s) = 10) (∀ q119 : Nat, zstr s0 q119 [44, 34, 116, 121, 112, 101, 34, 58, 34, 101, 110, 117, 109, 34, 44, 34, 115, 121, 109, 98, 111, 108, 115, 34, 58, 91] → (zm_X10_put l s0 G ca (d - 1) C S t q119 M41 (fun r128 M128 => zg_X10_writeNamed_138 l s0 G ca d C S w0 t s (M128 (t + 12) s) M128 Q X) X)) (∀ q125 : Nat, zstr s0 q125 [44, 34, 116, 121, 112, 101, 34, 58, 34, 114, 101, 99, 111, 114, 100, 34, 44, 34, 102, 105, 101, 108, 100, 115, 34, 58, 91] → (zm_X10_put l s0 G ca (d - 1) C S t q125 M41 (fun r128 M128 => zg_X10_writeNamed_138 l s0 G ca d C S w0 t s (M128 (t + 12) s) M128 Q X) X)))) X) X)) (zm_X10_putName l s0 G ca (d - 1) C S t (M (t + 10) s) M (fun r16 M16 => Q 0 M16) X))
set_option maxRecDepth 100000 in
theorem z_X10_writeNamed {l : Launch} {s0 : State} {a0 : Array Value} {G : va_G} {ca : Nat → ClassId} (Γ : rt_Γ l s0 a0 G ca) {d : Nat} {C : Nat × Nat} {S : zS} (hd : 1 ≤ d) (hok : zok C) {t : Int} (ht : zTx S t) {s : Int} {M : zM} {Q : Int → zM → Prop} {X : zM → Prop} (h : zt_X10_writeNamed l s0 G ca d C S (zw s0 ca C S M) t s M Q X) : zm_X10_writeNamed l s0 G ca d C S t s M Q X := by
  refine z_met (lv := [(0, zv s0 2 t), (1, zv s0 0 s)]) Γ kk_X10_writeNamed rfl (show (lg_sl [zv s0 2 t, zv s0 0 s]).length ≤ 3 from by simp only [zn_0, zn_2, show (lg_sl []).length = 0 from rfl]; omega) (show lv_args 0 [zv s0 2 t, zv s0 0 s] = [(0, zv s0 2 t), (1, zv s0 0 s)] from by rw [zl_2, zl_0]; rfl) ?_
  unfold zt_X10_writeNamed at h
  refine z_aload_n dX10_writeNamed_0 rfl (j := 0) rfl ?_
  refine z_getc Γ kf_RX10_74 dX10_writeNamed_1 ht.1 ht.2.1 rfl ?_
  refine z_iload_n dX10_writeNamed_4 rfl (j := 1) rfl ?_
  obtain ⟨hi5, h⟩ := h
  refine z_zald Γ dX10_writeNamed_5 (by have := ht.1; omega) ht.2.2.2.2.2.2.2.2.2.2.2.2.2.2.2.2.2.2.2.2.2.2 (by decide) hi5 (v9 := M (t + 21) s) rfl ?_
  refine z_if_eq (tgt := 20) (x' := w32 (M (t + 21) s)) rfl dX10_writeNamed_6 (by decide) (fun c6 => ?_) (fun c6 => ?_)
  · replace h := h.1 c6
    refine z_aload_n dX10_writeNamed_20 rfl (j := 0) rfl ?_
    refine z_getc Γ kf_RX10_74 dX10_writeNamed_21 ht.1 ht.2.1 rfl ?_
    refine z_iload_n dX10_writeNamed_24 rfl (j := 1) rfl ?_
    refine z_iconst dX10_writeNamed_25 ?_
    refine z_zast Γ dX10_writeNamed_26 (by have := ht.1; omega) ht.2.2.2.2.2.2.2.2.2.2.2.2.2.2.2.2.2.2.2.2.2.2 (by decide) hi5 (by decide) ?_
    refine z_aload_n dX10_writeNamed_27 rfl (j := 0) rfl ?_
    obtain ⟨q28, hq28a, hq28b⟩ := ks_RX10_320 Γ
    have hq28 : zstr s0 q28 [123, 34, 110, 97, 109, 101, 34, 58] := ⟨hq28b, by decide, by decide⟩
    replace h := h q28 hq28
    refine rt_ldcSW Γ hq28a dX10_writeNamed_28 ?_
    refine z_callV Γ kk_X10_put kc_RX10_297 (As := [.ref q28]) h (by omega) (by decide) (show (parseMethodDescriptor yX10_put.desc).map (fun q => q.parameters.length) = some 1 by decide +kernel) hok (Nat.zero_le _) dX10_writeNamed_31 ht.1 ht.2.1 rfl rfl (fun _ h9 => nomatch h9) ?_
    clear h
    intro r31 M31 h
    show rt_Go _ _ _ _ _ _ _ _ _ _ _ _ 34 [(0, zv s0 2 t), (1, zv s0 0 s)] [] (zw s0 ca C S M31)
    refine z_aload_n dX10_writeNamed_34 rfl (j := 0) rfl ?_
    refine z_aload_n dX10_writeNamed_35 rfl (j := 0) rfl ?_
    refine z_getc Γ kf_RX10_41 dX10_writeNamed_36 ht.1 ht.2.1 rfl ?_
    refine z_iload_n dX10_writeNamed_39 rfl (j := 1) rfl ?_
    refine z_iald Γ dX10_writeNamed_40 (by have := ht.1; omega) ht.2.2.2.2.2.2.2.2.2.2.2.1 (by decide) hi5 (v9 := M31 (t + 10) s) rfl ?_
    refine z_callV Γ kk_X10_putName kc_RX10_317 (As := [zv s0 0 (M31 (t + 10) s)]) h (by omega) (by decide) (show (parseMethodDescriptor yX10_putName.desc).map (fun q => q.parameters.length) = some 1 by decide +kernel) hok (Nat.zero_le _) dX10_writeNamed_41 ht.1 ht.2.1 rfl rfl (fun _ h9 => nomatch h9) ?_
    clear h
    intro r41 M41 h
    show rt_Go _ _ _ _ _ _ _ _ _ _ _ _ 44 [(0, zv s0 2 t), (1, zv s0 0 s)] [] (zw s0 ca C S M41)
    refine z_aload_n dX10_writeNamed_44 rfl (j := 0) rfl ?_
    refine z_getc Γ kf_RX10_38 dX10_writeNamed_45 ht.1 ht.2.1 rfl ?_
    refine z_iload_n dX10_writeNamed_48 rfl (j := 1) rfl ?_
    refine z_iald Γ dX10_writeNamed_49 (by have := ht.1; omega) ht.2.2.2.2.2.2.2.2.2.2.1 (by decide) hi5 (v9 := M41 (t + 9) s) rfl ?_
    refine z_bipush dX10_writeNamed_50 (by decide) ?_
    refine z_icmp_ne (tgt := 107) (x' := w32 (M41 (t + 9) s)) (y' := 9) rfl (by decide) dX10_writeNamed_52 (by decide) (fun c52 => ?_) (fun c52 => ?_)
    · replace h := h.2 c52
      refine z_aload_n dX10_writeNamed_107 rfl (j := 0) rfl ?_
      refine z_aload_n dX10_writeNamed_108 rfl (j := 0) rfl ?_
      refine z_getc Γ kf_RX10_38 dX10_writeNamed_109 ht.1 ht.2.1 rfl ?_
      refine z_iload_n dX10_writeNamed_112 rfl (j := 1) rfl ?_
      refine z_iald Γ dX10_writeNamed_113 (by have := ht.1; omega) ht.2.2.2.2.2.2.2.2.2.2.1 (by decide) hi5 (v9 := M41 (t + 9) s) rfl ?_
      refine z_bipush dX10_writeNamed_114 (by decide) ?_
      refine z_icmp_ne (tgt := 125) (x' := w32 (M41 (t + 9) s)) (y' := 10) rfl (by decide) dX10_writeNamed_116 (by decide) (fun c116 => ?_) (fun c116 => ?_)
      · replace h := h.2 c116
        obtain ⟨q125, hq125a, hq125b⟩ := ks_RX10_329 Γ
        have hq125 : zstr s0 q125 [44, 34, 116, 121, 112, 101, 34, 58, 34, 114, 101, 99, 111, 114, 100, 34, 44, 34, 102, 105, 101, 108, 100, 115, 34, 58, 91] := ⟨hq125b, by decide, by decide⟩
        replace h := h q125 hq125
        refine rt_ldcSW Γ hq125a dX10_writeNamed_125 ?_
        refine z_callV Γ kk_X10_put kc_RX10_297 (As := [.ref q125]) h (by omega) (by decide) (show (parseMethodDescriptor yX10_put.desc).map (fun q => q.parameters.length) = some 1 by decide +kernel) hok (Nat.zero_le _) dX10_writeNamed_128 ht.1 ht.2.1 rfl rfl (fun _ h9 => nomatch h9) ?_
        clear h
        intro r128 M128 h
        show rt_Go _ _ _ _ _ _ _ _ _ _ _ _ 131 [(0, zv s0 2 t), (1, zv s0 0 s)] [] (zw s0 ca C S M128)
        refine z_aload_n dX10_writeNamed_131 rfl (j := 0) rfl ?_
        refine z_getc Γ kf_RX10_47 dX10_writeNamed_132 ht.1 ht.2.1 rfl ?_
        refine z_iload_n dX10_writeNamed_135 rfl (j := 1) rfl ?_
        refine z_iald Γ dX10_writeNamed_136 (by have := ht.1; omega) ht.2.2.2.2.2.2.2.2.2.2.2.2.2.1 (by decide) hi5 (v9 := M128 (t + 12) s) rfl ?_
        refine z_istore_n (i := 2) (lv' := [(2, zv s0 0 (M128 (t + 12) s)), (0, zv s0 2 t), (1, zv s0 0 s)]) dX10_writeNamed_137 rfl (by decide) (by simp [zv_cat0, zv_cat1, zv_cat2, zv_cats]) ?_
        exact rt_lfew [1, 2, 0] rfl h
      · replace h := h.1 c116
        obtain ⟨q119, hq119a, hq119b⟩ := ks_RX10_327 Γ
        have hq119 : zstr s0 q119 [44, 34, 116, 121, 112, 101, 34, 58, 34, 101, 110, 117, 109, 34, 44, 34, 115, 121, 109, 98, 111, 108, 115, 34, 58, 91] := ⟨hq119b, by decide, by decide⟩
        replace h := h q119 hq119
        refine rt_ldcSW Γ hq119a dX10_writeNamed_119 ?_
        refine rt_goto (tgt := 128) dX10_writeNamed_122 (by decide) ?_
        refine z_callV Γ kk_X10_put kc_RX10_297 (As := [.ref q119]) h (by omega) (by decide) (show (parseMethodDescriptor yX10_put.desc).map (fun q => q.parameters.length) = some 1 by decide +kernel) hok (Nat.zero_le _) dX10_writeNamed_128 ht.1 ht.2.1 rfl rfl (fun _ h9 => nomatch h9) ?_
        clear h
        intro r128 M128 h
        show rt_Go _ _ _ _ _ _ _ _ _ _ _ _ 131 [(0, zv s0 2 t), (1, zv s0 0 s)] [] (zw s0 ca C S M128)
        refine z_aload_n dX10_writeNamed_131 rfl (j := 0) rfl ?_
        refine z_getc Γ kf_RX10_47 dX10_writeNamed_132 ht.1 ht.2.1 rfl ?_
        refine z_iload_n dX10_writeNamed_135 rfl (j := 1) rfl ?_
        refine z_iald Γ dX10_writeNamed_136 (by have := ht.1; omega) ht.2.2.2.2.2.2.2.2.2.2.2.2.2.1 (by decide) hi5 (v9 := M128 (t + 12) s) rfl ?_
        refine z_istore_n (i := 2) (lv' := [(2, zv s0 0 (M128 (t + 12) s)), (0, zv s0 2 t), (1, zv s0 0 s)]) dX10_writeNamed_137 rfl (by decide) (by simp [zv_cat0, zv_cat1, zv_cat2, zv_cats]) ?_
        exact rt_lfew [1, 2, 0] rfl h
    · replace h := h.1 c52
      refine z_aload_n dX10_writeNamed_55 rfl (j := 0) rfl ?_
      obtain ⟨q56, hq56a, hq56b⟩ := ks_RX10_322 Γ
      have hq56 : zstr s0 q56 [44, 34, 116, 121, 112, 101, 34, 58, 34, 102, 105, 120, 101, 100, 34, 44, 34, 115, 105, 122, 101, 34, 58] := ⟨hq56b, by decide, by decide⟩
      replace h := h q56 hq56
      refine rt_ldcSW Γ hq56a dX10_writeNamed_56 ?_
      refine z_callV Γ kk_X10_put kc_RX10_297 (As := [.ref q56]) h (by omega) (by decide) (show (parseMethodDescriptor yX10_put.desc).map (fun q => q.parameters.length) = some 1 by decide +kernel) hok (Nat.zero_le _) dX10_writeNamed_59 ht.1 ht.2.1 rfl rfl (fun _ h9 => nomatch h9) ?_
      clear h
      intro r59 M59 h
      show rt_Go _ _ _ _ _ _ _ _ _ _ _ _ 62 [(0, zv s0 2 t), (1, zv s0 0 s)] [] (zw s0 ca C S M59)
      refine z_aload_n dX10_writeNamed_62 rfl (j := 0) rfl ?_
      refine z_getc Γ kf_RX10_44 dX10_writeNamed_63 ht.1 ht.2.1 rfl ?_
      refine z_iload_n dX10_writeNamed_66 rfl (j := 1) rfl ?_
      refine z_iald Γ dX10_writeNamed_67 (by have := ht.1; omega) ht.2.2.2.2.2.2.2.2.2.2.2.2.1 (by decide) hi5 (v9 := M59 (t + 11) s) rfl ?_
      refine z_bipush dX10_writeNamed_68 (by decide) ?_
      refine z_icmp_le (tgt := 86) (x' := w32 (M59 (t + 11) s)) (y' := 9) rfl (by decide) dX10_writeNamed_70 (by decide) (fun c70 => ?_) (fun c70 => ?_)
      · replace h := h.1 c70
        exact rt_lfew [0, 1] rfl (zs_X10_writeNamed_86 Γ hd hok ht  h)
      · replace h := h.2 c70
        refine z_aload_n dX10_writeNamed_73 rfl (j := 0) rfl ?_
        refine z_aload_n dX10_writeNamed_74 rfl (j := 0) rfl ?_
        refine z_getc Γ kf_RX10_44 dX10_writeNamed_75 ht.1 ht.2.1 rfl ?_
        refine z_iload_n dX10_writeNamed_78 rfl (j := 1) rfl ?_
        refine z_iald Γ dX10_writeNamed_79 (by have := ht.1; omega) ht.2.2.2.2.2.2.2.2.2.2.2.2.1 (by decide) hi5 (v9 := M59 (t + 11) s) rfl ?_
        refine z_bipush dX10_writeNamed_80 (by decide) ?_
        refine z_idiv dX10_writeNamed_82 (by decide) ?_
        refine z_callV Γ kk_X10_figure kc_RX10_324 (As := [zv s0 0 (zdiv (M59 (t + 11) s) 10)]) h (by omega) (by decide) (show (parseMethodDescriptor yX10_figure.desc).map (fun q => q.parameters.length) = some 1 by decide +kernel) hok (Nat.zero_le _) dX10_writeNamed_83 ht.1 ht.2.1 rfl rfl (fun _ h9 => nomatch h9) ?_
        clear h
        intro r83 M83 h
        show rt_Go _ _ _ _ _ _ _ _ _ _ _ _ 86 [(0, zv s0 2 t), (1, zv s0 0 s)] [] (zw s0 ca C S M83)
        exact rt_lfew [0, 1] rfl (zs_X10_writeNamed_86 Γ hd hok ht  h)
  · replace h := h.2 c6
    refine z_aload_n dX10_writeNamed_9 rfl (j := 0) rfl ?_
    refine z_aload_n dX10_writeNamed_10 rfl (j := 0) rfl ?_
    refine z_getc Γ kf_RX10_41 dX10_writeNamed_11 ht.1 ht.2.1 rfl ?_
    refine z_iload_n dX10_writeNamed_14 rfl (j := 1) rfl ?_
    refine z_iald Γ dX10_writeNamed_15 (by have := ht.1; omega) ht.2.2.2.2.2.2.2.2.2.2.2.1 (by decide) hi5 (v9 := M (t + 10) s) rfl ?_
    refine z_callV Γ kk_X10_putName kc_RX10_317 (As := [zv s0 0 (M (t + 10) s)]) h (by omega) (by decide) (show (parseMethodDescriptor yX10_putName.desc).map (fun q => q.parameters.length) = some 1 by decide +kernel) hok (Nat.zero_le _) dX10_writeNamed_16 ht.1 ht.2.1 rfl rfl (fun _ h9 => nomatch h9) ?_
    clear h
    intro r16 M16 h
    show rt_Go _ _ _ _ _ _ _ _ _ _ _ _ 19 [(0, zv s0 2 t), (1, zv s0 0 s)] [] (zw s0 ca C S M16)
    exact z_vret dX10_writeNamed_19 rfl h

abbrev zg_X10_write_65 (l : Launch) (s0 : State) (G : va_G) (ca : Nat → ClassId) (d : Nat) (C : Nat × Nat) (S : zS) (w0 : rt_Wd) (t : Int) (v1 : Int) (k0 : Nat) (k0b : List Int) (M : zM) (Q : Int → zM → Prop) (X : zM → Prop) : Prop := rt_Go l s0 G RX10 "write" cX10_write 3 (Option.none : Option FieldType) [] d w0 (zQ s0 ca 9 C S Q X) 65 [(0, zv s0 2 t), (1, zv s0 0 v1)] [.ref k0, zv s0 2 t] (zw s0 ca C S M)
abbrev zg_X10_write_107 (l : Launch) (s0 : State) (G : va_G) (ca : Nat → ClassId) (d : Nat) (C : Nat × Nat) (S : zS) (w0 : rt_Wd) (t : Int) (v2 : Int)  (M : zM) (Q : Int → zM → Prop) (X : zM → Prop) : Prop := rt_Go l s0 G RX10 "write" cX10_write 3 (Option.none : Option FieldType) [] d w0 (zQ s0 ca 9 C S Q X) 107 [(0, zv s0 2 t), (2, zv s0 0 v2)] [] (zw s0 ca C S M)
abbrev zg_X10_write_140 (l : Launch) (s0 : State) (G : va_G) (ca : Nat → ClassId) (d : Nat) (C : Nat × Nat) (S : zS) (w0 : rt_Wd) (t : Int) (v2 : Int) (k0 : Nat) (k0b : List Int) (M : zM) (Q : Int → zM → Prop) (X : zM → Prop) : Prop := rt_Go l s0 G RX10 "write" cX10_write 3 (Option.none : Option FieldType) [] d w0 (zQ s0 ca 9 C S Q X) 140 [(0, zv s0 2 t), (2, zv s0 0 v2)] [.ref k0, zv s0 2 t] (zw s0 ca C S M)
def zt_X10_write_65 (l : Launch) (s0 : State) (G : va_G) (ca : Nat → ClassId) (d : Nat) (C : Nat × Nat) (S : zS) (w0 : rt_Wd) (t : Int) (v1 : Int) (k0 : Nat) (k0b : List Int) (M : zM) (Q : Int → zM → Prop) (X : zM → Prop) : Prop :=
  zm_X10_put l s0 G ca (d - 1) C S t k0 M (fun r65 M65 => (0 ≤ v1 ∧ v1 < 140) ∧ ((0 ≤ M65 (t + 12) v1 ∧ M65 (t + 12) v1 < 2200) ∧ (zm_X10_write l s0 G ca (d - 1) C S t (M65 (t + 15) (M65 (t + 12) v1)) M65 (fun r80 M80 => ∀ q84 : Nat, zstr s0 q84 [125] → (zm_X10_put l s0 G ca (d - 1) C S t q84 M80 (fun r87 M87 => Q 0 M87) X)) X))) X
set_option maxRecDepth 100000 in
theorem zs_X10_write_65 {l : Launch} {s0 : State} {a0 : Array Value} {G : va_G} {ca : Nat → ClassId} (Γ : rt_Γ l s0 a0 G ca) {d : Nat} {C : Nat × Nat} {S : zS} (hd : 1 ≤ d) (hok : zok C) {t : Int} (ht : zTx S t) {w0 : rt_Wd} {v1 : Int} {k0 : Nat} {k0b : List Int} (hk0 : zstr s0 k0 k0b) {M : zM} {Q : Int → zM → Prop} {X : zM → Prop} (h : zt_X10_write_65 l s0 G ca d C S w0 t v1 k0 k0b M Q X) : zg_X10_write_65 l s0 G ca d C S w0 t v1 k0 k0b M Q X := by
  unfold zt_X10_write_65 at h
  refine z_callV Γ kk_X10_put kc_RX10_297 (As := [.ref k0]) h (by omega) (by decide) (show (parseMethodDescriptor yX10_put.desc).map (fun q => q.parameters.length) = some 1 by decide +kernel) hok (Nat.zero_le _) dX10_write_65 ht.1 ht.2.1 rfl rfl (fun _ h9 => nomatch h9) ?_
  clear h
  intro r65 M65 h
  show rt_Go _ _ _ _ _ _ _ _ _ _ _ _ 68 [(0, zv s0 2 t), (1, zv s0 0 v1)] [] (zw s0 ca C S M65)
  refine z_aload_n dX10_write_68 rfl (j := 0) rfl ?_
  refine z_aload_n dX10_write_69 rfl (j := 0) rfl ?_
  refine z_getc Γ kf_RX10_56 dX10_write_70 ht.1 ht.2.1 rfl ?_
  refine z_aload_n dX10_write_73 rfl (j := 0) rfl ?_
  refine z_getc Γ kf_RX10_47 dX10_write_74 ht.1 ht.2.1 rfl ?_
  refine z_iload_n dX10_write_77 rfl (j := 1) rfl ?_
  obtain ⟨hi78, h⟩ := h
  refine z_iald Γ dX10_write_78 (by have := ht.1; omega) ht.2.2.2.2.2.2.2.2.2.2.2.2.2.1 (by decide) hi78 (v9 := M65 (t + 12) v1) rfl ?_
  obtain ⟨hi79, h⟩ := h
  refine z_iald Γ dX10_write_79 (by have := ht.1; omega) ht.2.2.2.2.2.2.2.2.2.2.2.2.2.2.2.2.1 (by decide) hi79 (v9 := M65 (t + 15) (M65 (t + 12) v1)) rfl ?_
  refine z_callV Γ kk_X10_write kc_RX10_289 (As := [zv s0 0 (M65 (t + 15) (M65 (t + 12) v1))]) h (by omega) (by decide) (show (parseMethodDescriptor yX10_write.desc).map (fun q => q.parameters.length) = some 1 by decide +kernel) hok (Nat.zero_le _) dX10_write_80 ht.1 ht.2.1 rfl rfl (fun _ h9 => nomatch h9) ?_
  clear h
  intro r80 M80 h
  show rt_Go _ _ _ _ _ _ _ _ _ _ _ _ 83 [(0, zv s0 2 t), (1, zv s0 0 v1)] [] (zw s0 ca C S M80)
  refine z_aload_n dX10_write_83 rfl (j := 0) rfl ?_
  obtain ⟨q84, hq84a, hq84b⟩ := ks_RX10_304 Γ
  have hq84 : zstr s0 q84 [125] := ⟨hq84b, by decide, by decide⟩
  replace h := h q84 hq84
  refine rt_ldcSW Γ hq84a dX10_write_84 ?_
  refine z_callV Γ kk_X10_put kc_RX10_297 (As := [.ref q84]) h (by omega) (by decide) (show (parseMethodDescriptor yX10_put.desc).map (fun q => q.parameters.length) = some 1 by decide +kernel) hok (Nat.zero_le _) dX10_write_87 ht.1 ht.2.1 rfl rfl (fun _ h9 => nomatch h9) ?_
  clear h
  intro r87 M87 h
  show rt_Go _ _ _ _ _ _ _ _ _ _ _ _ 90 [(0, zv s0 2 t), (1, zv s0 0 v1)] [] (zw s0 ca C S M87)
  refine rt_goto (tgt := 265) dX10_write_90 (by decide) ?_
  exact z_vret dX10_write_265 rfl h

def zt_X10_write_140 (l : Launch) (s0 : State) (G : va_G) (ca : Nat → ClassId) (d : Nat) (C : Nat × Nat) (S : zS) (w0 : rt_Wd) (t : Int) (v2 : Int) (k0 : Nat) (k0b : List Int) (M : zM) (Q : Int → zM → Prop) (X : zM → Prop) : Prop :=
  zm_X10_put l s0 G ca (d - 1) C S t k0 M (fun r140 M140 => (0 ≤ v2 ∧ v2 < 2200) ∧ (zg_X10_write_107 l s0 G ca d C S w0 t (M140 (t + 18) v2) M140 Q X)) X
set_option maxRecDepth 100000 in
theorem zs_X10_write_140 {l : Launch} {s0 : State} {a0 : Array Value} {G : va_G} {ca : Nat → ClassId} (Γ : rt_Γ l s0 a0 G ca) {d : Nat} {C : Nat × Nat} {S : zS} (hd : 1 ≤ d) (hok : zok C) {t : Int} (ht : zTx S t) {w0 : rt_Wd} {v2 : Int} {k0 : Nat} {k0b : List Int} (hk0 : zstr s0 k0 k0b) {M : zM} {Q : Int → zM → Prop} {X : zM → Prop} (h : zt_X10_write_140 l s0 G ca d C S w0 t v2 k0 k0b M Q X) : zg_X10_write_140 l s0 G ca d C S w0 t v2 k0 k0b M Q X := by
  unfold zt_X10_write_140 at h
  refine z_callV Γ kk_X10_put kc_RX10_297 (As := [.ref k0]) h (by omega) (by decide) (show (parseMethodDescriptor yX10_put.desc).map (fun q => q.parameters.length) = some 1 by decide +kernel) hok (Nat.zero_le _) dX10_write_140 ht.1 ht.2.1 rfl rfl (fun _ h9 => nomatch h9) ?_
  clear h
  intro r140 M140 h
  show rt_Go _ _ _ _ _ _ _ _ _ _ _ _ 143 [(0, zv s0 2 t), (2, zv s0 0 v2)] [] (zw s0 ca C S M140)
  refine z_aload_n dX10_write_143 rfl (j := 0) rfl ?_
  refine z_getc Γ kf_RX10_65 dX10_write_144 ht.1 ht.2.1 rfl ?_
  refine z_iload_n dX10_write_147 rfl (j := 1) rfl ?_
  obtain ⟨hi148, h⟩ := h
  refine z_iald Γ dX10_write_148 (by have := ht.1; omega) ht.2.2.2.2.2.2.2.2.2.2.2.2.2.2.2.2.2.2.2.1 (by decide) hi148 (v9 := M140 (t + 18) v2) rfl ?_
  refine z_istore_n (i := 2) (lv' := [(2, zv s0 0 (M140 (t + 18) v2)), (0, zv s0 2 t)]) dX10_write_149 rfl (by decide) (by simp [zv_cat0, zv_cat1, zv_cat2, zv_cats]) ?_
  refine rt_goto (tgt := 107) dX10_write_150 (by decide) ?_
  exact rt_lfew [1, 0] rfl h

def zt_X10_write_107 (l : Launch) (s0 : State) (G : va_G) (ca : Nat → ClassId) (d : Nat) (C : Nat × Nat) (S : zS) (w0 : rt_Wd) (t : Int) (v2 : Int)  (M : zM) (Q : Int → zM → Prop) (X : zM → Prop) : Prop :=
  zIf (w32 v2 < 0) (∀ q154 : Nat, zstr s0 q154 [93] → (zm_X10_put l s0 G ca (d - 1) C S t q154 M (fun r157 M157 => Q 0 M157) X)) ((0 ≤ v2 ∧ v2 < 2200) ∧ (zm_X10_write l s0 G ca (d - 1) C S t (M (t + 15) v2) M (fun r118 M118 => zIf (w32 (M118 (t + 18) v2) < 0) (∀ q137 : Nat, zstr s0 q137 [] → (zt_X10_write_140 l s0 G ca d C S w0 t v2 q137 ([]) M118 Q X)) (∀ q131 : Nat, zstr s0 q131 [44] → (zt_X10_write_140 l s0 G ca d C S w0 t v2 q131 ([44]) M118 Q X))) X))
set_option maxRecDepth 100000 in
theorem zs_X10_write_107 {l : Launch} {s0 : State} {a0 : Array Value} {G : va_G} {ca : Nat → ClassId} (Γ : rt_Γ l s0 a0 G ca) {d : Nat} {C : Nat × Nat} {S : zS} (hd : 1 ≤ d) (hok : zok C) {t : Int} (ht : zTx S t) {w0 : rt_Wd} {v2 : Int}   {M : zM} {Q : Int → zM → Prop} {X : zM → Prop} (h : zt_X10_write_107 l s0 G ca d C S w0 t v2 M Q X) : zg_X10_write_107 l s0 G ca d C S w0 t v2 M Q X := by
  unfold zt_X10_write_107 at h
  refine z_iload_n dX10_write_107 rfl (j := 1) rfl ?_
  refine z_if_lt (tgt := 153) (x' := w32 v2) rfl dX10_write_108 (by decide) (fun c108 => ?_) (fun c108 => ?_)
  · replace h := h.1 c108
    refine z_aload_n dX10_write_153 rfl (j := 0) rfl ?_
    obtain ⟨q154, hq154a, hq154b⟩ := ks_RX10_312 Γ
    have hq154 : zstr s0 q154 [93] := ⟨hq154b, by decide, by decide⟩
    replace h := h q154 hq154
    refine rt_ldcSW Γ hq154a dX10_write_154 ?_
    refine z_callV Γ kk_X10_put kc_RX10_297 (As := [.ref q154]) h (by omega) (by decide) (show (parseMethodDescriptor yX10_put.desc).map (fun q => q.parameters.length) = some 1 by decide +kernel) hok (Nat.zero_le _) dX10_write_157 ht.1 ht.2.1 rfl rfl (fun _ h9 => nomatch h9) ?_
    clear h
    intro r157 M157 h
    show rt_Go _ _ _ _ _ _ _ _ _ _ _ _ 160 [(0, zv s0 2 t), (2, zv s0 0 v2)] [] (zw s0 ca C S M157)
    refine rt_goto (tgt := 265) dX10_write_160 (by decide) ?_
    exact z_vret dX10_write_265 rfl h
  · replace h := h.2 c108
    refine z_aload_n dX10_write_111 rfl (j := 0) rfl ?_
    refine z_aload_n dX10_write_112 rfl (j := 0) rfl ?_
    refine z_getc Γ kf_RX10_56 dX10_write_113 ht.1 ht.2.1 rfl ?_
    refine z_iload_n dX10_write_116 rfl (j := 1) rfl ?_
    obtain ⟨hi117, h⟩ := h
    refine z_iald Γ dX10_write_117 (by have := ht.1; omega) ht.2.2.2.2.2.2.2.2.2.2.2.2.2.2.2.2.1 (by decide) hi117 (v9 := M (t + 15) v2) rfl ?_
    refine z_callV Γ kk_X10_write kc_RX10_289 (As := [zv s0 0 (M (t + 15) v2)]) h (by omega) (by decide) (show (parseMethodDescriptor yX10_write.desc).map (fun q => q.parameters.length) = some 1 by decide +kernel) hok (Nat.zero_le _) dX10_write_118 ht.1 ht.2.1 rfl rfl (fun _ h9 => nomatch h9) ?_
    clear h
    intro r118 M118 h
    show rt_Go _ _ _ _ _ _ _ _ _ _ _ _ 121 [(0, zv s0 2 t), (2, zv s0 0 v2)] [] (zw s0 ca C S M118)
    refine z_aload_n dX10_write_121 rfl (j := 0) rfl ?_
    refine z_aload_n dX10_write_122 rfl (j := 0) rfl ?_
    refine z_getc Γ kf_RX10_65 dX10_write_123 ht.1 ht.2.1 rfl ?_
    refine z_iload_n dX10_write_126 rfl (j := 1) rfl ?_
    refine z_iald Γ dX10_write_127 (by have := ht.1; omega) ht.2.2.2.2.2.2.2.2.2.2.2.2.2.2.2.2.2.2.2.1 (by decide) hi117 (v9 := M118 (t + 18) v2) rfl ?_
    refine z_if_lt (tgt := 137) (x' := w32 (M118 (t + 18) v2)) rfl dX10_write_128 (by decide) (fun c128 => ?_) (fun c128 => ?_)
    · replace h := h.1 c128
      obtain ⟨q137, hq137a, hq137b⟩ := ks_RX10_310 Γ
      have hq137 : zstr s0 q137 [] := ⟨hq137b, by decide, by decide⟩
      replace h := h q137 hq137
      refine rt_ldcSW Γ hq137a dX10_write_137 ?_
      exact rt_lfew [0, 1] rfl (zs_X10_write_140 Γ hd hok ht hq137 h)
    · replace h := h.2 c128
      obtain ⟨q131, hq131a, hq131b⟩ := ks_RX10_308 Γ
      have hq131 : zstr s0 q131 [44] := ⟨hq131b, by decide, by decide⟩
      replace h := h q131 hq131
      refine rt_ldcSW Γ hq131a dX10_write_131 ?_
      refine rt_goto (tgt := 140) dX10_write_134 (by decide) ?_
      exact rt_lfew [0, 1] rfl (zs_X10_write_140 Γ hd hok ht hq131 h)

def zt_X10_write (l : Launch) (s0 : State) (G : va_G) (ca : Nat → ClassId) (d : Nat) (C : Nat × Nat) (S : zS) (w0 : rt_Wd) (t : Int) (s : Int) (M : zM) (Q : Int → zM → Prop) (X : zM → Prop) : Prop :=
  (0 ≤ s ∧ s < 140) ∧ (zIf (w32 (M (t + 9) s) = 6) (zIf (w32 (M (t + 9) s) = 6) (∀ q56 : Nat, zstr s0 q56 [123, 34, 116, 121, 112, 101, 34, 58, 34, 97, 114, 114, 97, 121, 34, 44, 34, 105, 116, 101, 109, 115, 34, 58] → (zt_X10_write_65 l s0 G ca d C S w0 t s q56 ([123, 34, 116, 121, 112, 101, 34, 58, 34, 97, 114, 114, 97, 121, 34, 44, 34, 105, 116, 101, 109, 115, 34, 58]) M Q X)) (∀ q62 : Nat, zstr s0 q62 [123, 34, 116, 121, 112, 101, 34, 58, 34, 109, 97, 112, 34, 44, 34, 118, 97, 108, 117, 101, 115, 34, 58] → (zt_X10_write_65 l s0 G ca d C S w0 t s q62 ([123, 34, 116, 121, 112, 101, 34, 58, 34, 109, 97, 112, 34, 44, 34, 118, 97, 108, 117, 101, 115, 34, 58]) M Q X))) (zIf (w32 (M (t + 9) s) = 7) (zIf (w32 (M (t + 9) s) = 6) (∀ q56 : Nat, zstr s0 q56 [123, 34, 116, 121, 112, 101, 34, 58, 34, 97, 114, 114, 97, 121, 34, 44, 34, 105, 116, 101, 109, 115, 34, 58] → (zt_X10_write_65 l s0 G ca d C S w0 t s q56 ([123, 34, 116, 121, 112, 101, 34, 58, 34, 97, 114, 114, 97, 121, 34, 44, 34, 105, 116, 101, 109, 115, 34, 58]) M Q X)) (∀ q62 : Nat, zstr s0 q62 [123, 34, 116, 121, 112, 101, 34, 58, 34, 109, 97, 112, 34, 44, 34, 118, 97, 108, 117, 101, 115, 34, 58] → (zt_X10_write_65 l s0 G ca d C S w0 t s q62 ([123, 34, 116, 121, 112, 101, 34, 58, 34, 109, 97, 112, 34, 44, 34, 118, 97, 108, 117, 101, 115, 34, 58]) M Q X))) (zIf (w32 (M (t + 9) s) = 8) (∀ q94 : Nat, zstr s0 q94 [91] → (zm_X10_put l s0 G ca (d - 1) C S t q94 M (fun r97 M97 => zg_X10_write_107 l s0 G ca d C S w0 t (M97 (t + 12) s) M97 Q X) X)) (zIf (w32 (M (t + 9) s) = 9) (zm_X10_writeNamed l s0 G ca (d - 1) C S t s M (fun r165 M165 => Q 0 M165) X) (zIf (w32 (M (t + 9) s) = 10) (zm_X10_writeNamed l s0 G ca (d - 1) C S t s M (fun r165 M165 => Q 0 M165) X) (zIf (w32 (M (t + 9) s) = 11) (zm_X10_writeNamed l s0 G ca (d - 1) C S t s M (fun r165 M165 => Q 0 M165) X) (∀ q172 : Nat, zstr s0 q172 [34] → (zm_X10_put l s0 G ca (d - 1) C S t q172 M (fun r175 M175 => zIf (w32 (M175 (t + 9) s) = 0) (∀ q188 : Nat, zstr s0 q188 [110, 117, 108, 108] → (zm_X10_put l s0 G ca (d - 1) C S t q188 M175 (fun r255 M255 => ∀ q259 : Nat, zstr s0 q259 [34] → (zm_X10_put l s0 G ca (d - 1) C S t q259 M255 (fun r262 M262 => Q 0 M262) X)) X)) (zIf (w32 (M175 (t + 9) s) = 1) (∀ q203 : Nat, zstr s0 q203 [98, 111, 111, 108, 101, 97, 110] → (zm_X10_put l s0 G ca (d - 1) C S t q203 M175 (fun r255 M255 => ∀ q259 : Nat, zstr s0 q259 [34] → (zm_X10_put l s0 G ca (d - 1) C S t q259 M255 (fun r262 M262 => Q 0 M262) X)) X)) (zIf (w32 (M175 (t + 9) s) = 2) (∀ q218 : Nat, zstr s0 q218 [105, 110, 116] → (zm_X10_put l s0 G ca (d - 1) C S t q218 M175 (fun r255 M255 => ∀ q259 : Nat, zstr s0 q259 [34] → (zm_X10_put l s0 G ca (d - 1) C S t q259 M255 (fun r262 M262 => Q 0 M262) X)) X)) (zIf (w32 (M175 (t + 9) s) = 3) (∀ q233 : Nat, zstr s0 q233 [108, 111, 110, 103] → (zm_X10_put l s0 G ca (d - 1) C S t q233 M175 (fun r255 M255 => ∀ q259 : Nat, zstr s0 q259 [34] → (zm_X10_put l s0 G ca (d - 1) C S t q259 M255 (fun r262 M262 => Q 0 M262) X)) X)) (zIf (w32 (M175 (t + 9) s) = 4) (∀ q248 : Nat, zstr s0 q248 [98, 121, 116, 101, 115] → (zm_X10_put l s0 G ca (d - 1) C S t q248 M175 (fun r255 M255 => ∀ q259 : Nat, zstr s0 q259 [34] → (zm_X10_put l s0 G ca (d - 1) C S t q259 M255 (fun r262 M262 => Q 0 M262) X)) X)) (∀ q253 : Nat, zstr s0 q253 [115, 116, 114, 105, 110, 103] → (zm_X10_put l s0 G ca (d - 1) C S t q253 M175 (fun r255 M255 => ∀ q259 : Nat, zstr s0 q259 [34] → (zm_X10_put l s0 G ca (d - 1) C S t q259 M255 (fun r262 M262 => Q 0 M262) X)) X))))))) X))))))))
set_option maxRecDepth 100000 in
theorem z_X10_write {l : Launch} {s0 : State} {a0 : Array Value} {G : va_G} {ca : Nat → ClassId} (Γ : rt_Γ l s0 a0 G ca) {d : Nat} {C : Nat × Nat} {S : zS} (hd : 1 ≤ d) (hok : zok C) {t : Int} (ht : zTx S t) {s : Int} {M : zM} {Q : Int → zM → Prop} {X : zM → Prop} (h : zt_X10_write l s0 G ca d C S (zw s0 ca C S M) t s M Q X) : zm_X10_write l s0 G ca d C S t s M Q X := by
  refine z_met (lv := [(0, zv s0 2 t), (1, zv s0 0 s)]) Γ kk_X10_write rfl (show (lg_sl [zv s0 2 t, zv s0 0 s]).length ≤ 3 from by simp only [zn_0, zn_2, show (lg_sl []).length = 0 from rfl]; omega) (show lv_args 0 [zv s0 2 t, zv s0 0 s] = [(0, zv s0 2 t), (1, zv s0 0 s)] from by rw [zl_2, zl_0]; rfl) ?_
  unfold zt_X10_write at h
  refine z_aload_n dX10_write_0 rfl (j := 0) rfl ?_
  refine z_getc Γ kf_RX10_38 dX10_write_1 ht.1 ht.2.1 rfl ?_
  refine z_iload_n dX10_write_4 rfl (j := 1) rfl ?_
  obtain ⟨hi5, h⟩ := h
  refine z_iald Γ dX10_write_5 (by have := ht.1; omega) ht.2.2.2.2.2.2.2.2.2.2.1 (by decide) hi5 (v9 := M (t + 9) s) rfl ?_
  by_cases c6_6 : w32 (M (t + 9) s) = 6
  · replace h := h.1 c6_6
    refine z_tin c6_6 dX10_write_6 (by decide) (off := 38) (tgt := 44) (by decide) (by decide) ?_
    refine z_aload_n dX10_write_44 rfl (j := 0) rfl ?_
    refine z_aload_n dX10_write_45 rfl (j := 0) rfl ?_
    refine z_getc Γ kf_RX10_38 dX10_write_46 ht.1 ht.2.1 rfl ?_
    refine z_iload_n dX10_write_49 rfl (j := 1) rfl ?_
    refine z_iald Γ dX10_write_50 (by have := ht.1; omega) ht.2.2.2.2.2.2.2.2.2.2.1 (by decide) hi5 (v9 := M (t + 9) s) rfl ?_
    refine z_bipush dX10_write_51 (by decide) ?_
    refine z_icmp_ne (tgt := 62) (x' := w32 (M (t + 9) s)) (y' := 6) rfl (by decide) dX10_write_53 (by decide) (fun c53 => ?_) (fun c53 => ?_)
    · replace h := h.2 c53
      obtain ⟨q62, hq62a, hq62b⟩ := ks_RX10_302 Γ
      have hq62 : zstr s0 q62 [123, 34, 116, 121, 112, 101, 34, 58, 34, 109, 97, 112, 34, 44, 34, 118, 97, 108, 117, 101, 115, 34, 58] := ⟨hq62b, by decide, by decide⟩
      replace h := h q62 hq62
      refine rt_ldcSW Γ hq62a dX10_write_62 ?_
      exact rt_lfew [0, 1] rfl (zs_X10_write_65 Γ hd hok ht hq62 h)
    · replace h := h.1 c53
      obtain ⟨q56, hq56a, hq56b⟩ := ks_RX10_300 Γ
      have hq56 : zstr s0 q56 [123, 34, 116, 121, 112, 101, 34, 58, 34, 97, 114, 114, 97, 121, 34, 44, 34, 105, 116, 101, 109, 115, 34, 58] := ⟨hq56b, by decide, by decide⟩
      replace h := h q56 hq56
      refine rt_ldcSW Γ hq56a dX10_write_56 ?_
      refine rt_goto (tgt := 65) dX10_write_59 (by decide) ?_
      exact rt_lfew [0, 1] rfl (zs_X10_write_65 Γ hd hok ht hq56 h)
  replace h := h.2 c6_6
  by_cases c6_7 : w32 (M (t + 9) s) = 7
  · replace h := h.1 c6_7
    refine z_tin c6_7 dX10_write_6 (by decide) (off := 38) (tgt := 44) (by decide) (by decide) ?_
    refine z_aload_n dX10_write_44 rfl (j := 0) rfl ?_
    refine z_aload_n dX10_write_45 rfl (j := 0) rfl ?_
    refine z_getc Γ kf_RX10_38 dX10_write_46 ht.1 ht.2.1 rfl ?_
    refine z_iload_n dX10_write_49 rfl (j := 1) rfl ?_
    refine z_iald Γ dX10_write_50 (by have := ht.1; omega) ht.2.2.2.2.2.2.2.2.2.2.1 (by decide) hi5 (v9 := M (t + 9) s) rfl ?_
    refine z_bipush dX10_write_51 (by decide) ?_
    refine z_icmp_ne (tgt := 62) (x' := w32 (M (t + 9) s)) (y' := 6) rfl (by decide) dX10_write_53 (by decide) (fun c53 => ?_) (fun c53 => ?_)
    · replace h := h.2 c53
      obtain ⟨q62, hq62a, hq62b⟩ := ks_RX10_302 Γ
      have hq62 : zstr s0 q62 [123, 34, 116, 121, 112, 101, 34, 58, 34, 109, 97, 112, 34, 44, 34, 118, 97, 108, 117, 101, 115, 34, 58] := ⟨hq62b, by decide, by decide⟩
      replace h := h q62 hq62
      refine rt_ldcSW Γ hq62a dX10_write_62 ?_
      exact rt_lfew [0, 1] rfl (zs_X10_write_65 Γ hd hok ht hq62 h)
    · replace h := h.1 c53
      obtain ⟨q56, hq56a, hq56b⟩ := ks_RX10_300 Γ
      have hq56 : zstr s0 q56 [123, 34, 116, 121, 112, 101, 34, 58, 34, 97, 114, 114, 97, 121, 34, 44, 34, 105, 116, 101, 109, 115, 34, 58] := ⟨hq56b, by decide, by decide⟩
      replace h := h q56 hq56
      refine rt_ldcSW Γ hq56a dX10_write_56 ?_
      refine rt_goto (tgt := 65) dX10_write_59 (by decide) ?_
      exact rt_lfew [0, 1] rfl (zs_X10_write_65 Γ hd hok ht hq56 h)
  replace h := h.2 c6_7
  by_cases c6_8 : w32 (M (t + 9) s) = 8
  · replace h := h.1 c6_8
    refine z_tin c6_8 dX10_write_6 (by decide) (off := 87) (tgt := 93) (by decide) (by decide) ?_
    refine z_aload_n dX10_write_93 rfl (j := 0) rfl ?_
    obtain ⟨q94, hq94a, hq94b⟩ := ks_RX10_306 Γ
    have hq94 : zstr s0 q94 [91] := ⟨hq94b, by decide, by decide⟩
    replace h := h q94 hq94
    refine rt_ldcSW Γ hq94a dX10_write_94 ?_
    refine z_callV Γ kk_X10_put kc_RX10_297 (As := [.ref q94]) h (by omega) (by decide) (show (parseMethodDescriptor yX10_put.desc).map (fun q => q.parameters.length) = some 1 by decide +kernel) hok (Nat.zero_le _) dX10_write_97 ht.1 ht.2.1 rfl rfl (fun _ h9 => nomatch h9) ?_
    clear h
    intro r97 M97 h
    show rt_Go _ _ _ _ _ _ _ _ _ _ _ _ 100 [(0, zv s0 2 t), (1, zv s0 0 s)] [] (zw s0 ca C S M97)
    refine z_aload_n dX10_write_100 rfl (j := 0) rfl ?_
    refine z_getc Γ kf_RX10_47 dX10_write_101 ht.1 ht.2.1 rfl ?_
    refine z_iload_n dX10_write_104 rfl (j := 1) rfl ?_
    refine z_iald Γ dX10_write_105 (by have := ht.1; omega) ht.2.2.2.2.2.2.2.2.2.2.2.2.2.1 (by decide) hi5 (v9 := M97 (t + 12) s) rfl ?_
    refine z_istore_n (i := 2) (lv' := [(2, zv s0 0 (M97 (t + 12) s)), (0, zv s0 2 t), (1, zv s0 0 s)]) dX10_write_106 rfl (by decide) (by simp [zv_cat0, zv_cat1, zv_cat2, zv_cats]) ?_
    exact rt_lfew [1, 0] rfl h
  replace h := h.2 c6_8
  by_cases c6_9 : w32 (M (t + 9) s) = 9
  · replace h := h.1 c6_9
    refine z_tin c6_9 dX10_write_6 (by decide) (off := 157) (tgt := 163) (by decide) (by decide) ?_
    refine z_aload_n dX10_write_163 rfl (j := 0) rfl ?_
    refine z_iload_n dX10_write_164 rfl (j := 1) rfl ?_
    refine z_callV Γ kk_X10_writeNamed kc_RX10_314 (As := [zv s0 0 s]) h (by omega) (by decide) (show (parseMethodDescriptor yX10_writeNamed.desc).map (fun q => q.parameters.length) = some 1 by decide +kernel) hok (Nat.zero_le _) dX10_write_165 ht.1 ht.2.1 rfl rfl (fun _ h9 => nomatch h9) ?_
    clear h
    intro r165 M165 h
    show rt_Go _ _ _ _ _ _ _ _ _ _ _ _ 168 [(0, zv s0 2 t), (1, zv s0 0 s)] [] (zw s0 ca C S M165)
    refine rt_goto (tgt := 265) dX10_write_168 (by decide) ?_
    exact z_vret dX10_write_265 rfl h
  replace h := h.2 c6_9
  by_cases c6_10 : w32 (M (t + 9) s) = 10
  · replace h := h.1 c6_10
    refine z_tin c6_10 dX10_write_6 (by decide) (off := 157) (tgt := 163) (by decide) (by decide) ?_
    refine z_aload_n dX10_write_163 rfl (j := 0) rfl ?_
    refine z_iload_n dX10_write_164 rfl (j := 1) rfl ?_
    refine z_callV Γ kk_X10_writeNamed kc_RX10_314 (As := [zv s0 0 s]) h (by omega) (by decide) (show (parseMethodDescriptor yX10_writeNamed.desc).map (fun q => q.parameters.length) = some 1 by decide +kernel) hok (Nat.zero_le _) dX10_write_165 ht.1 ht.2.1 rfl rfl (fun _ h9 => nomatch h9) ?_
    clear h
    intro r165 M165 h
    show rt_Go _ _ _ _ _ _ _ _ _ _ _ _ 168 [(0, zv s0 2 t), (1, zv s0 0 s)] [] (zw s0 ca C S M165)
    refine rt_goto (tgt := 265) dX10_write_168 (by decide) ?_
    exact z_vret dX10_write_265 rfl h
  replace h := h.2 c6_10
  by_cases c6_11 : w32 (M (t + 9) s) = 11
  · replace h := h.1 c6_11
    refine z_tin c6_11 dX10_write_6 (by decide) (off := 157) (tgt := 163) (by decide) (by decide) ?_
    refine z_aload_n dX10_write_163 rfl (j := 0) rfl ?_
    refine z_iload_n dX10_write_164 rfl (j := 1) rfl ?_
    refine z_callV Γ kk_X10_writeNamed kc_RX10_314 (As := [zv s0 0 s]) h (by omega) (by decide) (show (parseMethodDescriptor yX10_writeNamed.desc).map (fun q => q.parameters.length) = some 1 by decide +kernel) hok (Nat.zero_le _) dX10_write_165 ht.1 ht.2.1 rfl rfl (fun _ h9 => nomatch h9) ?_
    clear h
    intro r165 M165 h
    show rt_Go _ _ _ _ _ _ _ _ _ _ _ _ 168 [(0, zv s0 2 t), (1, zv s0 0 s)] [] (zw s0 ca C S M165)
    refine rt_goto (tgt := 265) dX10_write_168 (by decide) ?_
    exact z_vret dX10_write_265 rfl h
  replace h := h.2 c6_11
  refine z_tout dX10_write_6 (show w32 (M (t + 9) s) < 6 ∨ 11 < w32 (M (t + 9) s) from by omega) (tgt := 171) (by decide) ?_
  refine z_aload_n dX10_write_171 rfl (j := 0) rfl ?_
  obtain ⟨q172, hq172a, hq172b⟩ := ks_RX10_295 Γ
  have hq172 : zstr s0 q172 [34] := ⟨hq172b, by decide, by decide⟩
  replace h := h q172 hq172
  refine rt_ldcSW Γ hq172a dX10_write_172 ?_
  refine z_callV Γ kk_X10_put kc_RX10_297 (As := [.ref q172]) h (by omega) (by decide) (show (parseMethodDescriptor yX10_put.desc).map (fun q => q.parameters.length) = some 1 by decide +kernel) hok (Nat.zero_le _) dX10_write_175 ht.1 ht.2.1 rfl rfl (fun _ h9 => nomatch h9) ?_
  clear h
  intro r175 M175 h
  show rt_Go _ _ _ _ _ _ _ _ _ _ _ _ 178 [(0, zv s0 2 t), (1, zv s0 0 s)] [] (zw s0 ca C S M175)
  refine z_aload_n dX10_write_178 rfl (j := 0) rfl ?_
  refine z_aload_n dX10_write_179 rfl (j := 0) rfl ?_
  refine z_getc Γ kf_RX10_38 dX10_write_180 ht.1 ht.2.1 rfl ?_
  refine z_iload_n dX10_write_183 rfl (j := 1) rfl ?_
  refine z_iald Γ dX10_write_184 (by have := ht.1; omega) ht.2.2.2.2.2.2.2.2.2.2.1 (by decide) hi5 (v9 := M175 (t + 9) s) rfl ?_
  refine z_if_ne (tgt := 193) (x' := w32 (M175 (t + 9) s)) rfl dX10_write_185 (by decide) (fun c185 => ?_) (fun c185 => ?_)
  · replace h := h.2 c185
    refine z_aload_n dX10_write_193 rfl (j := 0) rfl ?_
    refine z_getc Γ kf_RX10_38 dX10_write_194 ht.1 ht.2.1 rfl ?_
    refine z_iload_n dX10_write_197 rfl (j := 1) rfl ?_
    refine z_iald Γ dX10_write_198 (by have := ht.1; omega) ht.2.2.2.2.2.2.2.2.2.2.1 (by decide) hi5 (v9 := M175 (t + 9) s) rfl ?_
    refine z_iconst dX10_write_199 ?_
    refine z_icmp_ne (tgt := 208) (x' := w32 (M175 (t + 9) s)) (y' := 1) rfl (by decide) dX10_write_200 (by decide) (fun c200 => ?_) (fun c200 => ?_)
    · replace h := h.2 c200
      refine z_aload_n dX10_write_208 rfl (j := 0) rfl ?_
      refine z_getc Γ kf_RX10_38 dX10_write_209 ht.1 ht.2.1 rfl ?_
      refine z_iload_n dX10_write_212 rfl (j := 1) rfl ?_
      refine z_iald Γ dX10_write_213 (by have := ht.1; omega) ht.2.2.2.2.2.2.2.2.2.2.1 (by decide) hi5 (v9 := M175 (t + 9) s) rfl ?_
      refine z_iconst dX10_write_214 ?_
      refine z_icmp_ne (tgt := 223) (x' := w32 (M175 (t + 9) s)) (y' := 2) rfl (by decide) dX10_write_215 (by decide) (fun c215 => ?_) (fun c215 => ?_)
      · replace h := h.2 c215
        refine z_aload_n dX10_write_223 rfl (j := 0) rfl ?_
        refine z_getc Γ kf_RX10_38 dX10_write_224 ht.1 ht.2.1 rfl ?_
        refine z_iload_n dX10_write_227 rfl (j := 1) rfl ?_
        refine z_iald Γ dX10_write_228 (by have := ht.1; omega) ht.2.2.2.2.2.2.2.2.2.2.1 (by decide) hi5 (v9 := M175 (t + 9) s) rfl ?_
        refine z_iconst dX10_write_229 ?_
        refine z_icmp_ne (tgt := 238) (x' := w32 (M175 (t + 9) s)) (y' := 3) rfl (by decide) dX10_write_230 (by decide) (fun c230 => ?_) (fun c230 => ?_)
        · replace h := h.2 c230
          refine z_aload_n dX10_write_238 rfl (j := 0) rfl ?_
          refine z_getc Γ kf_RX10_38 dX10_write_239 ht.1 ht.2.1 rfl ?_
          refine z_iload_n dX10_write_242 rfl (j := 1) rfl ?_
          refine z_iald Γ dX10_write_243 (by have := ht.1; omega) ht.2.2.2.2.2.2.2.2.2.2.1 (by decide) hi5 (v9 := M175 (t + 9) s) rfl ?_
          refine z_iconst dX10_write_244 ?_
          refine z_icmp_ne (tgt := 253) (x' := w32 (M175 (t + 9) s)) (y' := 4) rfl (by decide) dX10_write_245 (by decide) (fun c245 => ?_) (fun c245 => ?_)
          · replace h := h.2 c245
            obtain ⟨q253, hq253a, hq253b⟩ := ks_RX10_188 Γ
            have hq253 : zstr s0 q253 [115, 116, 114, 105, 110, 103] := ⟨hq253b, by decide, by decide⟩
            replace h := h q253 hq253
            refine rt_ldcS Γ hq253a dX10_write_253 ?_
            refine z_callV Γ kk_X10_put kc_RX10_297 (As := [.ref q253]) h (by omega) (by decide) (show (parseMethodDescriptor yX10_put.desc).map (fun q => q.parameters.length) = some 1 by decide +kernel) hok (Nat.zero_le _) dX10_write_255 ht.1 ht.2.1 rfl rfl (fun _ h9 => nomatch h9) ?_
            clear h
            intro r255 M255 h
            show rt_Go _ _ _ _ _ _ _ _ _ _ _ _ 258 [(0, zv s0 2 t), (1, zv s0 0 s)] [] (zw s0 ca C S M255)
            refine z_aload_n dX10_write_258 rfl (j := 0) rfl ?_
            obtain ⟨q259, hq259a, hq259b⟩ := ks_RX10_295 Γ
            have hq259 : zstr s0 q259 [34] := ⟨hq259b, by decide, by decide⟩
            replace h := h q259 hq259
            refine rt_ldcSW Γ hq259a dX10_write_259 ?_
            refine z_callV Γ kk_X10_put kc_RX10_297 (As := [.ref q259]) h (by omega) (by decide) (show (parseMethodDescriptor yX10_put.desc).map (fun q => q.parameters.length) = some 1 by decide +kernel) hok (Nat.zero_le _) dX10_write_262 ht.1 ht.2.1 rfl rfl (fun _ h9 => nomatch h9) ?_
            clear h
            intro r262 M262 h
            show rt_Go _ _ _ _ _ _ _ _ _ _ _ _ 265 [(0, zv s0 2 t), (1, zv s0 0 s)] [] (zw s0 ca C S M262)
            exact z_vret dX10_write_265 rfl h
          · replace h := h.1 c245
            obtain ⟨q248, hq248a, hq248b⟩ := ks_RX10_187 Γ
            have hq248 : zstr s0 q248 [98, 121, 116, 101, 115] := ⟨hq248b, by decide, by decide⟩
            replace h := h q248 hq248
            refine rt_ldcS Γ hq248a dX10_write_248 ?_
            refine rt_goto (tgt := 255) dX10_write_250 (by decide) ?_
            refine z_callV Γ kk_X10_put kc_RX10_297 (As := [.ref q248]) h (by omega) (by decide) (show (parseMethodDescriptor yX10_put.desc).map (fun q => q.parameters.length) = some 1 by decide +kernel) hok (Nat.zero_le _) dX10_write_255 ht.1 ht.2.1 rfl rfl (fun _ h9 => nomatch h9) ?_
            clear h
            intro r255 M255 h
            show rt_Go _ _ _ _ _ _ _ _ _ _ _ _ 258 [(0, zv s0 2 t), (1, zv s0 0 s)] [] (zw s0 ca C S M255)
            refine z_aload_n dX10_write_258 rfl (j := 0) rfl ?_
            obtain ⟨q259, hq259a, hq259b⟩ := ks_RX10_295 Γ
            have hq259 : zstr s0 q259 [34] := ⟨hq259b, by decide, by decide⟩
            replace h := h q259 hq259
            refine rt_ldcSW Γ hq259a dX10_write_259 ?_
            refine z_callV Γ kk_X10_put kc_RX10_297 (As := [.ref q259]) h (by omega) (by decide) (show (parseMethodDescriptor yX10_put.desc).map (fun q => q.parameters.length) = some 1 by decide +kernel) hok (Nat.zero_le _) dX10_write_262 ht.1 ht.2.1 rfl rfl (fun _ h9 => nomatch h9) ?_
            clear h
            intro r262 M262 h
            show rt_Go _ _ _ _ _ _ _ _ _ _ _ _ 265 [(0, zv s0 2 t), (1, zv s0 0 s)] [] (zw s0 ca C S M262)
            exact z_vret dX10_write_265 rfl h
        · replace h := h.1 c230
          obtain ⟨q233, hq233a, hq233b⟩ := ks_RX10_185 Γ
          have hq233 : zstr s0 q233 [108, 111, 110, 103] := ⟨hq233b, by decide, by decide⟩
          replace h := h q233 hq233
          refine rt_ldcS Γ hq233a dX10_write_233 ?_
          refine rt_goto (tgt := 255) dX10_write_235 (by decide) ?_
          refine z_callV Γ kk_X10_put kc_RX10_297 (As := [.ref q233]) h (by omega) (by decide) (show (parseMethodDescriptor yX10_put.desc).map (fun q => q.parameters.length) = some 1 by decide +kernel) hok (Nat.zero_le _) dX10_write_255 ht.1 ht.2.1 rfl rfl (fun _ h9 => nomatch h9) ?_
          clear h
          intro r255 M255 h
          show rt_Go _ _ _ _ _ _ _ _ _ _ _ _ 258 [(0, zv s0 2 t), (1, zv s0 0 s)] [] (zw s0 ca C S M255)
          refine z_aload_n dX10_write_258 rfl (j := 0) rfl ?_
          obtain ⟨q259, hq259a, hq259b⟩ := ks_RX10_295 Γ
          have hq259 : zstr s0 q259 [34] := ⟨hq259b, by decide, by decide⟩
          replace h := h q259 hq259
          refine rt_ldcSW Γ hq259a dX10_write_259 ?_
          refine z_callV Γ kk_X10_put kc_RX10_297 (As := [.ref q259]) h (by omega) (by decide) (show (parseMethodDescriptor yX10_put.desc).map (fun q => q.parameters.length) = some 1 by decide +kernel) hok (Nat.zero_le _) dX10_write_262 ht.1 ht.2.1 rfl rfl (fun _ h9 => nomatch h9) ?_
          clear h
          intro r262 M262 h
          show rt_Go _ _ _ _ _ _ _ _ _ _ _ _ 265 [(0, zv s0 2 t), (1, zv s0 0 s)] [] (zw s0 ca C S M262)
          exact z_vret dX10_write_265 rfl h
      · replace h := h.1 c215
        obtain ⟨q218, hq218a, hq218b⟩ := ks_RX10_183 Γ
        have hq218 : zstr s0 q218 [105, 110, 116] := ⟨hq218b, by decide, by decide⟩
        replace h := h q218 hq218
        refine rt_ldcS Γ hq218a dX10_write_218 ?_
        refine rt_goto (tgt := 255) dX10_write_220 (by decide) ?_
        refine z_callV Γ kk_X10_put kc_RX10_297 (As := [.ref q218]) h (by omega) (by decide) (show (parseMethodDescriptor yX10_put.desc).map (fun q => q.parameters.length) = some 1 by decide +kernel) hok (Nat.zero_le _) dX10_write_255 ht.1 ht.2.1 rfl rfl (fun _ h9 => nomatch h9) ?_
        clear h
        intro r255 M255 h
        show rt_Go _ _ _ _ _ _ _ _ _ _ _ _ 258 [(0, zv s0 2 t), (1, zv s0 0 s)] [] (zw s0 ca C S M255)
        refine z_aload_n dX10_write_258 rfl (j := 0) rfl ?_
        obtain ⟨q259, hq259a, hq259b⟩ := ks_RX10_295 Γ
        have hq259 : zstr s0 q259 [34] := ⟨hq259b, by decide, by decide⟩
        replace h := h q259 hq259
        refine rt_ldcSW Γ hq259a dX10_write_259 ?_
        refine z_callV Γ kk_X10_put kc_RX10_297 (As := [.ref q259]) h (by omega) (by decide) (show (parseMethodDescriptor yX10_put.desc).map (fun q => q.parameters.length) = some 1 by decide +kernel) hok (Nat.zero_le _) dX10_write_262 ht.1 ht.2.1 rfl rfl (fun _ h9 => nomatch h9) ?_
        clear h
        intro r262 M262 h
        show rt_Go _ _ _ _ _ _ _ _ _ _ _ _ 265 [(0, zv s0 2 t), (1, zv s0 0 s)] [] (zw s0 ca C S M262)
        exact z_vret dX10_write_265 rfl h
    · replace h := h.1 c200
      obtain ⟨q203, hq203a, hq203b⟩ := ks_RX10_181 Γ
      have hq203 : zstr s0 q203 [98, 111, 111, 108, 101, 97, 110] := ⟨hq203b, by decide, by decide⟩
      replace h := h q203 hq203
      refine rt_ldcS Γ hq203a dX10_write_203 ?_
      refine rt_goto (tgt := 255) dX10_write_205 (by decide) ?_
      refine z_callV Γ kk_X10_put kc_RX10_297 (As := [.ref q203]) h (by omega) (by decide) (show (parseMethodDescriptor yX10_put.desc).map (fun q => q.parameters.length) = some 1 by decide +kernel) hok (Nat.zero_le _) dX10_write_255 ht.1 ht.2.1 rfl rfl (fun _ h9 => nomatch h9) ?_
      clear h
      intro r255 M255 h
      show rt_Go _ _ _ _ _ _ _ _ _ _ _ _ 258 [(0, zv s0 2 t), (1, zv s0 0 s)] [] (zw s0 ca C S M255)
      refine z_aload_n dX10_write_258 rfl (j := 0) rfl ?_
      obtain ⟨q259, hq259a, hq259b⟩ := ks_RX10_295 Γ
      have hq259 : zstr s0 q259 [34] := ⟨hq259b, by decide, by decide⟩
      replace h := h q259 hq259
      refine rt_ldcSW Γ hq259a dX10_write_259 ?_
      refine z_callV Γ kk_X10_put kc_RX10_297 (As := [.ref q259]) h (by omega) (by decide) (show (parseMethodDescriptor yX10_put.desc).map (fun q => q.parameters.length) = some 1 by decide +kernel) hok (Nat.zero_le _) dX10_write_262 ht.1 ht.2.1 rfl rfl (fun _ h9 => nomatch h9) ?_
      clear h
      intro r262 M262 h
      show rt_Go _ _ _ _ _ _ _ _ _ _ _ _ 265 [(0, zv s0 2 t), (1, zv s0 0 s)] [] (zw s0 ca C S M262)
      exact z_vret dX10_write_265 rfl h
  · replace h := h.1 c185
    obtain ⟨q188, hq188a, hq188b⟩ := ks_RX10_135 Γ
    have hq188 : zstr s0 q188 [110, 117, 108, 108] := ⟨hq188b, by decide, by decide⟩
    replace h := h q188 hq188
    refine rt_ldcS Γ hq188a dX10_write_188 ?_
    refine rt_goto (tgt := 255) dX10_write_190 (by decide) ?_
    refine z_callV Γ kk_X10_put kc_RX10_297 (As := [.ref q188]) h (by omega) (by decide) (show (parseMethodDescriptor yX10_put.desc).map (fun q => q.parameters.length) = some 1 by decide +kernel) hok (Nat.zero_le _) dX10_write_255 ht.1 ht.2.1 rfl rfl (fun _ h9 => nomatch h9) ?_
    clear h
    intro r255 M255 h
    show rt_Go _ _ _ _ _ _ _ _ _ _ _ _ 258 [(0, zv s0 2 t), (1, zv s0 0 s)] [] (zw s0 ca C S M255)
    refine z_aload_n dX10_write_258 rfl (j := 0) rfl ?_
    obtain ⟨q259, hq259a, hq259b⟩ := ks_RX10_295 Γ
    have hq259 : zstr s0 q259 [34] := ⟨hq259b, by decide, by decide⟩
    replace h := h q259 hq259
    refine rt_ldcSW Γ hq259a dX10_write_259 ?_
    refine z_callV Γ kk_X10_put kc_RX10_297 (As := [.ref q259]) h (by omega) (by decide) (show (parseMethodDescriptor yX10_put.desc).map (fun q => q.parameters.length) = some 1 by decide +kernel) hok (Nat.zero_le _) dX10_write_262 ht.1 ht.2.1 rfl rfl (fun _ h9 => nomatch h9) ?_
    clear h
    intro r262 M262 h
    show rt_Go _ _ _ _ _ _ _ _ _ _ _ _ 265 [(0, zv s0 2 t), (1, zv s0 0 s)] [] (zw s0 ca C S M262)
    exact z_vret dX10_write_265 rfl h

