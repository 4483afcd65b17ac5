/-! ===== trees: RM1 ===== -/
def zt_X11_failBytes (l : Launch) (s0 : State) (G : va_G) (ca : Nat → ClassId) (d : Nat) (C : Nat × Nat) (S : zS) (w0 : rt_Wd)  (c : Int) (w : Int) (M : zM) (Q : Int → zM → Prop) (X : zM → Prop) : Prop :=
  X ((zu ((zu M 84 17 c)) 84 18 w))
set_option maxRecDepth 100000 in
theorem z_X11_failBytes {l : Launch} {s0 : State} {a0 : Array Value} {G : va_G} {ca : Nat → ClassId} (Γ : rt_Γ l s0 a0 G ca) {d : Nat} {C : Nat × Nat} {S : zS} (hok : zok C)  (hs : zSok S) {c : Int} {w : Int} {M : zM} {Q : Int → zM → Prop} {X : zM → Prop} (h : zt_X11_failBytes l s0 G ca d C S (zw s0 ca C S M)  c w M Q X) : zm_X11_failBytes l s0 G ca d C S  c w M Q X := by
  refine z_met (lv := [(0, zv s0 2 84), (1, zv s0 0 c), (2, zv s0 0 w)]) Γ kk_X11_failBytes rfl (show (lg_sl [zv s0 2 84, zv s0 0 c, zv s0 0 w]).length ≤ 3 from by simp only [zn_0, zn_2, show (lg_sl []).length = 0 from rfl]; omega) (show lv_args 0 [zv s0 2 84, zv s0 0 c, zv s0 0 w] = [(0, zv s0 2 84), (1, zv s0 0 c), (2, zv s0 0 w)] from by rw [zl_2, zl_0, zl_0]; rfl) ?_
  unfold zt_X11_failBytes at h
  refine z_aload_n dX11_failBytes_0 rfl (j := 0) rfl ?_
  refine z_iload_n dX11_failBytes_1 rfl (j := 1) rfl ?_
  refine z_put0 Γ kp_RX11_87 dX11_failBytes_2 (by decide) (hs 84 _ rfl) rfl (k9 := 17) rfl ?_
  refine z_aload_n dX11_failBytes_5 rfl (j := 0) rfl ?_
  refine z_iload_n dX11_failBytes_6 rfl (j := 2) rfl ?_
  refine z_put0 Γ kp_RX11_90 dX11_failBytes_7 (by decide) (hs 84 _ rfl) rfl (k9 := 18) rfl ?_
  obtain ⟨qs, hqa, hqb⟩ := ks_RX11_95 Γ
  exact z_throwS Γ kt_11s hqa dX11_failBytes_10 dX11_failBytes_13 dX11_failBytes_14 dX11_failBytes_16 dX11_failBytes_19 (by decide) (Nat.zero_le _) hok h

abbrev zg_X11_byteHere_20 (l : Launch) (s0 : State) (G : va_G) (ca : Nat → ClassId) (d : Nat) (C : Nat × Nat) (S : zS) (w0 : rt_Wd)    (M : zM) (Q : Int → zM → Prop) (X : zM → Prop) : Prop := rt_Go l s0 G RX11 "byteHere" cX11_byteHere 1 (Option.some FieldType.int) [] d w0 (zQ s0 ca 0 C S Q X) 20 [(0, zv s0 2 84)] [] (zw s0 ca C S M)
def zt_X11_byteHere_20 (l : Launch) (s0 : State) (G : va_G) (ca : Nat → ClassId) (d : Nat) (C : Nat × Nat) (S : zS) (w0 : rt_Wd)    (M : zM) (Q : Int → zM → Prop) (X : zM → Prop) : Prop :=
  (0 ≤ ((M 84 16) + 1) - 1 ∧ ((M 84 16) + 1) - 1 < 4096) ∧ (Q (zand (M 85 (((M 84 16) + 1) - 1)) 255) ((zu M 84 16 ((M 84 16) + 1))))
set_option maxRecDepth 100000 in
theorem zs_X11_byteHere_20 {l : Launch} {s0 : State} {a0 : Array Value} {G : va_G} {ca : Nat → ClassId} (Γ : rt_Γ l s0 a0 G ca) {d : Nat} {C : Nat × Nat} {S : zS} (hd : 1 ≤ d) (hok : zok C)  (hs : zSok S) {w0 : rt_Wd}    {M : zM} {Q : Int → zM → Prop} {X : zM → Prop} (h : zt_X11_byteHere_20 l s0 G ca d C S w0   M Q X) : zg_X11_byteHere_20 l s0 G ca d C S w0   M Q X := by
  unfold zt_X11_byteHere_20 at h
  refine z_aload_n dX11_byteHere_20 rfl (j := 0) rfl ?_
  refine z_dup2 dX11_byteHere_21 ?_
  refine z_get Γ kf_RX11_99 dX11_byteHere_22 (by decide) (hs 84 _ rfl) rfl (by decide) (v9 := M 84 16) rfl ?_
  refine z_iconst dX11_byteHere_25 ?_
  refine z_iadd dX11_byteHere_26 ?_
  refine z_put0 Γ kp_RX11_99 dX11_byteHere_27 (by decide) (hs 84 _ rfl) rfl (k9 := 16) rfl ?_
  refine z_aload_n dX11_byteHere_30 rfl (j := 0) rfl ?_
  refine z_getc Γ kf_RX11_7 dX11_byteHere_31 (by decide) (hs 84 _ rfl) rfl ?_
  refine z_aload_n dX11_byteHere_34 rfl (j := 0) rfl ?_
  refine z_get Γ kf_RX11_99 dX11_byteHere_35 (by decide) (hs 84 _ rfl) rfl (by decide) (v9 := (M 84 16) + 1) (zu_s _ _ _ _) ?_
  refine z_iconst dX11_byteHere_38 ?_
  refine z_isub dX11_byteHere_39 ?_
  obtain ⟨hi40, h⟩ := h
  refine z_bald Γ dX11_byteHere_40 (by decide) (hs 85 _ rfl) (by decide) hi40 (v9 := M 85 (((M 84 16) + 1) - 1)) ((zu_a (by decide)).trans rfl) ?_
  refine z_sipush dX11_byteHere_41 (by decide) ?_
  refine z_iand dX11_byteHere_44 ?_
  exact z_iret dX11_byteHere_45 rfl h

def zt_X11_byteHere (l : Launch) (s0 : State) (G : va_G) (ca : Nat → ClassId) (d : Nat) (C : Nat × Nat) (S : zS) (w0 : rt_Wd)   (M : zM) (Q : Int → zM → Prop) (X : zM → Prop) : Prop :=
  zIf (w32 (M 84 16) < w32 (M 84 2)) (zt_X11_byteHere_20 l s0 G ca d C S w0   M Q X) (zm_X11_failBytes l s0 G ca (d - 1) C S 1 (M 84 2) M (fun r17 M17 => zt_X11_byteHere_20 l s0 G ca d C S w0   M17 Q X) X)
set_option maxRecDepth 100000 in
theorem z_X11_byteHere {l : Launch} {s0 : State} {a0 : Array Value} {G : va_G} {ca : Nat → ClassId} (Γ : rt_Γ l s0 a0 G ca) {d : Nat} {C : Nat × Nat} {S : zS} (hd : 1 ≤ d) (hok : zok C)  (hs : zSok S)  {M : zM} {Q : Int → zM → Prop} {X : zM → Prop} (h : zt_X11_byteHere l s0 G ca d C S (zw s0 ca C S M)   M Q X) : zm_X11_byteHere l s0 G ca d C S   M Q X := by
  refine z_met (lv := [(0, zv s0 2 84)]) Γ kk_X11_byteHere rfl (show (lg_sl [zv s0 2 84]).length ≤ 1 from by simp only [zn_2, show (lg_sl []).length = 0 from rfl]; omega) (show lv_args 0 [zv s0 2 84] = [(0, zv s0 2 84)] from by rw [zl_2]; rfl) ?_
  unfold zt_X11_byteHere at h
  refine z_aload_n dX11_byteHere_0 rfl (j := 0) rfl ?_
  refine z_get Γ kf_RX11_99 dX11_byteHere_1 (by decide) (hs 84 _ rfl) rfl (by decide) (v9 := M 84 16) rfl ?_
  refine z_aload_n dX11_byteHere_4 rfl (j := 0) rfl ?_
  refine z_get Γ kf_RX11_57 dX11_byteHere_5 (by decide) (hs 84 _ rfl) rfl (by decide) (v9 := M 84 2) rfl ?_
  refine z_icmp_lt (tgt := 20) (x' := w32 (M 84 16)) (y' := w32 (M 84 2)) rfl rfl dX11_byteHere_8 (by decide) (fun c8 => ?_) (fun c8 => ?_)
  · replace h := h.1 c8
    exact rt_lfew [0] rfl (zs_X11_byteHere_20 Γ hd hok hs  h)
  · replace h := h.2 c8
    refine z_aload_n dX11_byteHere_11 rfl (j := 0) rfl ?_
    refine z_iconst dX11_byteHere_12 ?_
    refine z_aload_n dX11_byteHere_13 rfl (j := 0) rfl ?_
    refine z_get Γ kf_RX11_57 dX11_byteHere_14 (by decide) (hs 84 _ rfl) rfl (by decide) (v9 := M 84 2) rfl ?_
    refine z_callV Γ kk_X11_failBytes kc_RX11_102 (As := [zv s0 0 1, zv s0 0 (M 84 2)]) h (by omega) (by decide) (show (parseMethodDescriptor yX11_failBytes.desc).map (fun q => q.parameters.length) = some 2 by decide +kernel) hok (Nat.zero_le _) dX11_byteHere_17 (by decide) (hs 84 _ rfl) rfl rfl (fun _ h9 => nomatch h9) ?_
    clear h
    intro r17 M17 h
    show rt_Go _ _ _ _ _ _ _ _ _ _ _ _ 20 [(0, zv s0 2 84)] [] (zw s0 ca C S M17)
    exact rt_lfew [0] rfl (zs_X11_byteHere_20 Γ hd hok hs  h)

abbrev zg_X11_varint_10 (l : Launch) (s0 : State) (G : va_G) (ca : Nat → ClassId) (d : Nat) (C : Nat × Nat) (S : zS) (w0 : rt_Wd)  (v1 : Int) (v2 : Int) (v4 : Int)  (M : zM) (Q : Int → zM → Prop) (X : zM → Prop) : Prop := rt_Go l s0 G RX11 "varint" cX11_varint 6 (Option.some FieldType.long) [] d w0 (zQ s0 ca 1 C S Q X) 10 [(0, zv s0 2 84), (1, zv s0 0 v1), (2, zv s0 1 v2), (4, zv s0 0 v4)] [] (zw s0 ca C S M)
abbrev zg_X11_varint_42 (l : Launch) (s0 : State) (G : va_G) (ca : Nat → ClassId) (d : Nat) (C : Nat × Nat) (S : zS) (w0 : rt_Wd)  (v1 : Int) (v2 : Int) (v4 : Int) (v5 : Int)  (M : zM) (Q : Int → zM → Prop) (X : zM → Prop) : Prop := rt_Go l s0 G RX11 "varint" cX11_varint 6 (Option.some FieldType.long) [] d w0 (zQ s0 ca 1 C S Q X) 42 [(0, zv s0 2 84), (1, zv s0 0 v1), (2, zv s0 1 v2), (4, zv s0 0 v4), (5, zv s0 0 v5)] [] (zw s0 ca C S M)
def zt_X11_varint_42 (l : Launch) (s0 : State) (G : va_G) (ca : Nat → ClassId) (d : Nat) (C : Nat × Nat) (S : zS) (w0 : rt_Wd)  (v1 : Int) (v2 : Int) (v4 : Int) (v5 : Int)  (M : zM) (Q : Int → zM → Prop) (X : zM → Prop) : Prop :=
  zIf (128 ≤ w32 v5) (zg_X11_varint_10 l s0 G ca d C S w0  v1 (zorL v2 (zshlL (w32 (zand v5 127)) (7 * v4))) (v4 + 1) M Q X) (Q (zxorL (zushrL (zorL v2 (zshlL (w32 (zand v5 127)) (7 * v4))) 1) (-(zandL (zorL v2 (zshlL (w32 (zand v5 127)) (7 * v4))) 1))) M)
set_option maxRecDepth 100000 in
theorem zs_X11_varint_42 {l : Launch} {s0 : State} {a0 : Array Value} {G : va_G} {ca : Nat → ClassId} (Γ : rt_Γ l s0 a0 G ca) {d : Nat} {C : Nat × Nat} {S : zS} (hd : 1 ≤ d) (hok : zok C)  (hs : zSok S) {w0 : rt_Wd} {v1 : Int} {v2 : Int} {v4 : Int} {v5 : Int}   {M : zM} {Q : Int → zM → Prop} {X : zM → Prop} (h : zt_X11_varint_42 l s0 G ca d C S w0  v1 v2 v4 v5 M Q X) : zg_X11_varint_42 l s0 G ca d C S w0  v1 v2 v4 v5 M Q X := by
  unfold zt_X11_varint_42 at h
  refine z_lload_n dX11_varint_42 rfl (j := 2) rfl ?_
  refine z_iload dX11_varint_43 (j := 4) rfl ?_
  refine z_bipush dX11_varint_45 (by decide) ?_
  refine z_iand dX11_varint_47 ?_
  refine z_i2l dX11_varint_48 ?_
  refine z_bipush dX11_varint_49 (by decide) ?_
  refine z_iload dX11_varint_51 (j := 3) rfl ?_
  refine z_imul dX11_varint_53 ?_
  refine z_lshl dX11_varint_54 ?_
  refine z_lor dX11_varint_55 ?_
  refine z_lstore_n (i := 2) (lv' := [(2, zv s0 1 (zorL v2 (zshlL (w32 (zand v5 127)) (7 * v4)))), (0, zv s0 2 84), (1, zv s0 0 v1), (4, zv s0 0 v4), (5, zv s0 0 v5)]) dX11_varint_56 rfl (by decide) (by simp [zv_cat0, zv_cat1, zv_cat2, zv_cats]) ?_
  refine z_iload dX11_varint_57 (j := 4) rfl ?_
  refine z_sipush dX11_varint_59 (by decide) ?_
  refine z_icmp_ge (tgt := 74) (x' := w32 v5) (y' := 128) rfl (by decide) dX11_varint_62 (by decide) (fun c62 => ?_) (fun c62 => ?_)
  · replace h := h.1 c62
    refine z_iinc (lv' := [(4, zv s0 0 (v4 + 1)), (2, zv s0 1 (zorL v2 (zshlL (w32 (zand v5 127)) (7 * v4)))), (0, zv s0 2 84), (1, zv s0 0 v1), (5, zv s0 0 v5)]) dX11_varint_74 (j := 3) rfl (by decide) (by simp [zv_cat0, zv_cat1, zv_cat2, zv_cats]) ?_
    refine rt_goto (tgt := 10) dX11_varint_77 (by decide) ?_
    exact rt_lfew [2, 3, 1, 0] rfl h
  · replace h := h.2 c62
    refine z_lload_n dX11_varint_65 rfl (j := 0) rfl ?_
    refine z_iconst dX11_varint_66 ?_
    refine z_lushr dX11_varint_67 ?_
    refine z_lload_n dX11_varint_68 rfl (j := 0) rfl ?_
    refine z_lconst (v := 1) dX11_varint_69 (by decide) ?_
    refine z_land dX11_varint_70 ?_
    refine z_lneg dX11_varint_71 ?_
    refine z_lxor dX11_varint_72 ?_
    exact z_lret dX11_varint_73 rfl h

def zt_X11_varint_10 (l : Launch) (s0 : State) (G : va_G) (ca : Nat → ClassId) (d : Nat) (C : Nat × Nat) (S : zS) (w0 : rt_Wd)  (v1 : Int) (v2 : Int) (v4 : Int)  (M : zM) (Q : Int → zM → Prop) (X : zM → Prop) : Prop :=
  zIf (10 ≤ w32 v4) (Q 0 M) (zm_X11_byteHere l s0 G ca (d - 1) C S  M (fun r18 M18 => zIf (w32 v4 = 9) (zIf (w32 r18 ≤ 1) (zt_X11_varint_42 l s0 G ca d C S w0  v1 v2 v4 r18 M18 Q X) (zm_X11_failBytes l s0 G ca (d - 1) C S 2 v1 M18 (fun r39 M39 => zt_X11_varint_42 l s0 G ca d C S w0  v1 v2 v4 r18 M39 Q X) X)) (zt_X11_varint_42 l s0 G ca d C S w0  v1 v2 v4 r18 M18 Q X)) X)
set_option maxRecDepth 100000 in
theorem zs_X11_varint_10 {l : Launch} {s0 : State} {a0 : Array Value} {G : va_G} {ca : Nat → ClassId} (Γ : rt_Γ l s0 a0 G ca) {d : Nat} {C : Nat × Nat} {S : zS} (hd : 1 ≤ d) (hok : zok C)  (hs : zSok S) {w0 : rt_Wd} {v1 : Int} {v2 : Int} {v4 : Int}   {M : zM} {Q : Int → zM → Prop} {X : zM → Prop} (h : zt_X11_varint_10 l s0 G ca d C S w0  v1 v2 v4 M Q X) : zg_X11_varint_10 l s0 G ca d C S w0  v1 v2 v4 M Q X := by
  unfold zt_X11_varint_10 at h
  refine z_iload dX11_varint_10 (j := 3) rfl ?_
  refine z_bipush dX11_varint_12 (by decide) ?_
  refine z_icmp_ge (tgt := 80) (x' := w32 v4) (y' := 10) rfl (by decide) dX11_varint_14 (by decide) (fun c14 => ?_) (fun c14 => ?_)
  · replace h := h.1 c14
    refine z_lconst (v := 0) dX11_varint_80 (by decide) ?_
    exact z_lret dX11_varint_81 rfl h
  · replace h := h.2 c14
    refine z_aload_n dX11_varint_17 rfl (j := 0) rfl ?_
    refine z_callV Γ kk_X11_byteHere kc_RX11_106 (As := []) h (by omega) (by decide) (show (parseMethodDescriptor yX11_byteHere.desc).map (fun q => q.parameters.length) = some 0 by decide +kernel) hok (Nat.zero_le _) dX11_varint_18 (by decide) (hs 84 _ rfl) rfl rfl (fun _ h9 => nomatch h9) ?_
    clear h
    intro r18 M18 h
    show rt_Go _ _ _ _ _ _ _ _ _ _ _ _ 21 [(0, zv s0 2 84), (1, zv s0 0 v1), (2, zv s0 1 v2), (4, zv s0 0 v4)] [zv s0 0 r18] (zw s0 ca C S M18)
    refine z_istore (i := 5) (lv' := [(5, zv s0 0 r18), (0, zv s0 2 84), (1, zv s0 0 v1), (2, zv s0 1 v2), (4, zv s0 0 v4)]) dX11_varint_21 (by decide) (by simp [zv_cat0, zv_cat1, zv_cat2, zv_cats]) ?_
    refine z_iload dX11_varint_23 (j := 4) rfl ?_
    refine z_bipush dX11_varint_25 (by decide) ?_
    refine z_icmp_ne (tgt := 42) (x' := w32 v4) (y' := 9) rfl (by decide) dX11_varint_27 (by decide) (fun c27 => ?_) (fun c27 => ?_)
    · replace h := h.2 c27
      exact rt_lfew [1, 2, 3, 4, 0] rfl (zs_X11_varint_42 Γ hd hok hs  h)
    · replace h := h.1 c27
      refine z_iload dX11_varint_30 (j := 0) rfl ?_
      refine z_iconst dX11_varint_32 ?_
      refine z_icmp_le (tgt := 42) (x' := w32 r18) (y' := 1) rfl (by decide) dX11_varint_33 (by decide) (fun c33 => ?_) (fun c33 => ?_)
      · replace h := h.1 c33
        exact rt_lfew [1, 2, 3, 4, 0] rfl (zs_X11_varint_42 Γ hd hok hs  h)
      · replace h := h.2 c33
        refine z_aload_n dX11_varint_36 rfl (j := 1) rfl ?_
        refine z_iconst dX11_varint_37 ?_
        refine z_iload_n dX11_varint_38 rfl (j := 2) rfl ?_
        refine z_callV Γ kk_X11_failBytes kc_RX11_102 (As := [zv s0 0 2, zv s0 0 v1]) h (by omega) (by decide) (show (parseMethodDescriptor yX11_failBytes.desc).map (fun q => q.parameters.length) = some 2 by decide +kernel) hok (Nat.zero_le _) dX11_varint_39 (by decide) (hs 84 _ rfl) rfl rfl (fun _ h9 => nomatch h9) ?_
        clear h
        intro r39 M39 h
        show rt_Go _ _ _ _ _ _ _ _ _ _ _ _ 42 [(5, zv s0 0 r18), (0, zv s0 2 84), (1, zv s0 0 v1), (2, zv s0 1 v2), (4, zv s0 0 v4)] [] (zw s0 ca C S M39)
        exact rt_lfew [1, 2, 3, 4, 0] rfl (zs_X11_varint_42 Γ hd hok hs  h)

def zt_X11_varint (l : Launch) (s0 : State) (G : va_G) (ca : Nat → ClassId) (d : Nat) (C : Nat × Nat) (S : zS) (w0 : rt_Wd)   (M : zM) (Q : Int → zM → Prop) (X : zM → Prop) : Prop :=
  zg_X11_varint_10 l s0 G ca d C S w0  (M 84 16) 0 0 M Q X
set_option maxRecDepth 100000 in
theorem z_X11_varint {l : Launch} {s0 : State} {a0 : Array Value} {G : va_G} {ca : Nat → ClassId} (Γ : rt_Γ l s0 a0 G ca) {d : Nat} {C : Nat × Nat} {S : zS} (hd : 1 ≤ d) (hok : zok C)  (hs : zSok S)  {M : zM} {Q : Int → zM → Prop} {X : zM → Prop} (h : zt_X11_varint l s0 G ca d C S (zw s0 ca C S M)   M Q X) : zm_X11_varint l s0 G ca d C S   M Q X := by
  refine z_met (lv := [(0, zv s0 2 84)]) Γ kk_X11_varint rfl (show (lg_sl [zv s0 2 84]).length ≤ 6 from by simp only [zn_2, show (lg_sl []).length = 0 from rfl]; omega) (show lv_args 0 [zv s0 2 84] = [(0, zv s0 2 84)] from by rw [zl_2]; rfl) ?_
  unfold zt_X11_varint at h
  refine z_aload_n dX11_varint_0 rfl (j := 0) rfl ?_
  refine z_get Γ kf_RX11_99 dX11_varint_1 (by decide) (hs 84 _ rfl) rfl (by decide) (v9 := M 84 16) rfl ?_
  refine z_istore_n (i := 1) (lv' := [(1, zv s0 0 (M 84 16)), (0, zv s0 2 84)]) dX11_varint_4 rfl (by decide) (by simp [zv_cat0, zv_cat1, zv_cat2, zv_cats]) ?_
  refine z_lconst (v := 0) dX11_varint_5 (by decide) ?_
  refine z_lstore_n (i := 2) (lv' := [(2, zv s0 1 0), (1, zv s0 0 (M 84 16)), (0, zv s0 2 84)]) dX11_varint_6 rfl (by decide) (by simp [zv_cat0, zv_cat1, zv_cat2, zv_cats]) ?_
  refine z_iconst dX11_varint_7 ?_
  refine z_istore (i := 4) (lv' := [(4, zv s0 0 0), (2, zv s0 1 0), (1, zv s0 0 (M 84 16)), (0, zv s0 2 84)]) dX11_varint_8 (by decide) (by simp [zv_cat0, zv_cat1, zv_cat2, zv_cats]) ?_
  exact rt_lfew [3, 2, 1, 0] rfl h

abbrev zg_X11_passBytes_24 (l : Launch) (s0 : State) (G : va_G) (ca : Nat → ClassId) (d : Nat) (C : Nat × Nat) (S : zS) (w0 : rt_Wd)  (v1 : Int)  (M : zM) (Q : Int → zM → Prop) (X : zM → Prop) : Prop := rt_Go l s0 G RX11 "passBytes" cX11_passBytes 3 (Option.none : Option FieldType) [] d w0 (zQ s0 ca 9 C S Q X) 24 [(0, zv s0 2 84), (1, zv s0 1 v1)] [] (zw s0 ca C S M)
def zt_X11_passBytes_24 (l : Launch) (s0 : State) (G : va_G) (ca : Nat → ClassId) (d : Nat) (C : Nat × Nat) (S : zS) (w0 : rt_Wd)  (v1 : Int)  (M : zM) (Q : Int → zM → Prop) (X : zM → Prop) : Prop :=
  Q 0 ((zu M 84 16 ((M 84 16) + v1)))
set_option maxRecDepth 100000 in
theorem zs_X11_passBytes_24 {l : Launch} {s0 : State} {a0 : Array Value} {G : va_G} {ca : Nat → ClassId} (Γ : rt_Γ l s0 a0 G ca) {d : Nat} {C : Nat × Nat} {S : zS} (hd : 1 ≤ d) (hok : zok C)  (hs : zSok S) {w0 : rt_Wd} {v1 : Int}   {M : zM} {Q : Int → zM → Prop} {X : zM → Prop} (h : zt_X11_passBytes_24 l s0 G ca d C S w0  v1 M Q X) : zg_X11_passBytes_24 l s0 G ca d C S w0  v1 M Q X := by
  unfold zt_X11_passBytes_24 at h
  refine z_aload_n dX11_passBytes_24 rfl (j := 0) rfl ?_
  refine z_aload_n dX11_passBytes_25 rfl (j := 0) rfl ?_
  refine z_get Γ kf_RX11_99 dX11_passBytes_26 (by decide) (hs 84 _ rfl) rfl (by decide) (v9 := M 84 16) rfl ?_
  refine z_lload_n dX11_passBytes_29 rfl (j := 1) rfl ?_
  refine z_l2i dX11_passBytes_30 ?_
  refine z_iadd dX11_passBytes_31 ?_
  refine z_put0 Γ kp_RX11_99 dX11_passBytes_32 (by decide) (hs 84 _ rfl) rfl (k9 := 16) rfl ?_
  exact z_vret dX11_passBytes_35 rfl h

def zt_X11_passBytes (l : Launch) (s0 : State) (G : va_G) (ca : Nat → ClassId) (d : Nat) (C : Nat × Nat) (S : zS) (w0 : rt_Wd)  (k : Int) (M : zM) (Q : Int → zM → Prop) (X : zM → Prop) : Prop :=
  zIf (w64 k ≤ w64 (w32 ((M 84 2) - (M 84 16)))) (zt_X11_passBytes_24 l s0 G ca d C S w0  k M Q X) (zm_X11_failBytes l s0 G ca (d - 1) C S 1 (M 84 2) M (fun r21 M21 => zt_X11_passBytes_24 l s0 G ca d C S w0  k M21 Q X) X)
set_option maxRecDepth 100000 in
theorem z_X11_passBytes {l : Launch} {s0 : State} {a0 : Array Value} {G : va_G} {ca : Nat → ClassId} (Γ : rt_Γ l s0 a0 G ca) {d : Nat} {C : Nat × Nat} {S : zS} (hd : 1 ≤ d) (hok : zok C)  (hs : zSok S) {k : Int} {M : zM} {Q : Int → zM → Prop} {X : zM → Prop} (h : zt_X11_passBytes l s0 G ca d C S (zw s0 ca C S M)  k M Q X) : zm_X11_passBytes l s0 G ca d C S  k M Q X := by
  refine z_met (lv := [(0, zv s0 2 84), (1, zv s0 1 k)]) Γ kk_X11_passBytes rfl (show (lg_sl [zv s0 2 84, zv s0 1 k]).length ≤ 3 from by simp only [zn_1, zn_2, show (lg_sl []).length = 0 from rfl]; omega) (show lv_args 0 [zv s0 2 84, zv s0 1 k] = [(0, zv s0 2 84), (1, zv s0 1 k)] from by rw [zl_2, zl_1]; rfl) ?_
  unfold zt_X11_passBytes at h
  refine z_lload_n dX11_passBytes_0 rfl (j := 1) rfl ?_
  refine z_aload_n dX11_passBytes_1 rfl (j := 0) rfl ?_
  refine z_get Γ kf_RX11_57 dX11_passBytes_2 (by decide) (hs 84 _ rfl) rfl (by decide) (v9 := M 84 2) rfl ?_
  refine z_aload_n dX11_passBytes_5 rfl (j := 0) rfl ?_
  refine z_get Γ kf_RX11_99 dX11_passBytes_6 (by decide) (hs 84 _ rfl) rfl (by decide) (v9 := M 84 16) rfl ?_
  refine z_isub dX11_passBytes_9 ?_
  refine z_i2l dX11_passBytes_10 ?_
  refine z_lif_le (tgt := 24) (x' := w64 k) (y' := w64 (w32 ((M 84 2) - (M 84 16)))) rfl rfl dX11_passBytes_11 dX11_passBytes_12 (by decide) (fun c11 => ?_) (fun c11 => ?_)
  · replace h := h.1 c11
    exact rt_lfew [0, 1] rfl (zs_X11_passBytes_24 Γ hd hok hs  h)
  · replace h := h.2 c11
    refine z_aload_n dX11_passBytes_15 rfl (j := 0) rfl ?_
    refine z_iconst dX11_passBytes_16 ?_
    refine z_aload_n dX11_passBytes_17 rfl (j := 0) rfl ?_
    refine z_get Γ kf_RX11_57 dX11_passBytes_18 (by decide) (hs 84 _ rfl) rfl (by decide) (v9 := M 84 2) rfl ?_
    refine z_callV Γ kk_X11_failBytes kc_RX11_102 (As := [zv s0 0 1, zv s0 0 (M 84 2)]) h (by omega) (by decide) (show (parseMethodDescriptor yX11_failBytes.desc).map (fun q => q.parameters.length) = some 2 by decide +kernel) hok (Nat.zero_le _) dX11_passBytes_21 (by decide) (hs 84 _ rfl) rfl rfl (fun _ h9 => nomatch h9) ?_
    clear h
    intro r21 M21 h
    show rt_Go _ _ _ _ _ _ _ _ _ _ _ _ 24 [(0, zv s0 2 84), (1, zv s0 1 k)] [] (zw s0 ca C S M21)
    exact rt_lfew [0, 1] rfl (zs_X11_passBytes_24 Γ hd hok hs  h)

abbrev zg_X11_putByte_21 (l : Launch) (s0 : State) (G : va_G) (ca : Nat → ClassId) (d : Nat) (C : Nat × Nat) (S : zS) (w0 : rt_Wd)    (M : zM) (Q : Int → zM → Prop) (X : zM → Prop) : Prop := rt_Go l s0 G RX11 "putByte" cX11_putByte 2 (Option.none : Option FieldType) [] d w0 (zQ s0 ca 9 C S Q X) 21 [(0, zv s0 2 84)] [] (zw s0 ca C S M)
def zt_X11_putByte_21 (l : Launch) (s0 : State) (G : va_G) (ca : Nat → ClassId) (d : Nat) (C : Nat × Nat) (S : zS) (w0 : rt_Wd)    (M : zM) (Q : Int → zM → Prop) (X : zM → Prop) : Prop :=
  Q 0 ((zu M 84 15 ((M 84 15) + 1)))
set_option maxRecDepth 100000 in
theorem zs_X11_putByte_21 {l : Launch} {s0 : State} {a0 : Array Value} {G : va_G} {ca : Nat → ClassId} (Γ : rt_Γ l s0 a0 G ca) {d : Nat} {C : Nat × Nat} {S : zS} (hok : zok C)  (hs : zSok S) {w0 : rt_Wd}    {M : zM} {Q : Int → zM → Prop} {X : zM → Prop} (h : zt_X11_putByte_21 l s0 G ca d C S w0   M Q X) : zg_X11_putByte_21 l s0 G ca d C S w0   M Q X := by
  unfold zt_X11_putByte_21 at h
  refine z_aload_n dX11_putByte_21 rfl (j := 0) rfl ?_
  refine z_dup2 dX11_putByte_22 ?_
  refine z_get Γ kf_RX11_115 dX11_putByte_23 (by decide) (hs 84 _ rfl) rfl (by decide) (v9 := M 84 15) rfl ?_
  refine z_iconst dX11_putByte_26 ?_
  refine z_iadd dX11_putByte_27 ?_
  refine z_put0 Γ kp_RX11_115 dX11_putByte_28 (by decide) (hs 84 _ rfl) rfl (k9 := 15) rfl ?_
  exact z_vret dX11_putByte_31 rfl h

def zt_X11_putByte (l : Launch) (s0 : State) (G : va_G) (ca : Nat → ClassId) (d : Nat) (C : Nat × Nat) (S : zS) (w0 : rt_Wd)  (b : Int) (M : zM) (Q : Int → zM → Prop) (X : zM → Prop) : Prop :=
  zIf (4200 ≤ w32 (M 84 15)) (zt_X11_putByte_21 l s0 G ca d C S w0   M Q X) ((0 ≤ M 84 15 ∧ M 84 15 < 4200) ∧ (zt_X11_putByte_21 l s0 G ca d C S w0   ((zu M 134 (M 84 15) (w8 (w8 b)))) Q X))
set_option maxRecDepth 100000 in
theorem z_X11_putByte {l : Launch} {s0 : State} {a0 : Array Value} {G : va_G} {ca : Nat → ClassId} (Γ : rt_Γ l s0 a0 G ca) {d : Nat} {C : Nat × Nat} {S : zS} (hok : zok C)  (hs : zSok S) {b : Int} {M : zM} {Q : Int → zM → Prop} {X : zM → Prop} (h : zt_X11_putByte l s0 G ca d C S (zw s0 ca C S M)  b M Q X) : zm_X11_putByte l s0 G ca d C S  b M Q X := by
  refine z_met (lv := [(0, zv s0 2 84), (1, zv s0 0 b)]) Γ kk_X11_putByte rfl (show (lg_sl [zv s0 2 84, zv s0 0 b]).length ≤ 2 from by simp only [zn_0, zn_2, show (lg_sl []).length = 0 from rfl]; omega) (show lv_args 0 [zv s0 2 84, zv s0 0 b] = [(0, zv s0 2 84), (1, zv s0 0 b)] from by rw [zl_2, zl_0]; rfl) ?_
  unfold zt_X11_putByte at h
  refine z_aload_n dX11_putByte_0 rfl (j := 0) rfl ?_
  refine z_get Γ kf_RX11_115 dX11_putByte_1 (by decide) (hs 84 _ rfl) rfl (by decide) (v9 := M 84 15) rfl ?_
  refine z_sipush dX11_putByte_4 (by decide) ?_
  refine z_icmp_ge (tgt := 21) (x' := w32 (M 84 15)) (y' := 4200) rfl (by decide) dX11_putByte_7 (by decide) (fun c7 => ?_) (fun c7 => ?_)
  · replace h := h.1 c7
    exact rt_lfew [0] rfl (zs_X11_putByte_21 Γ hok hs  h)
  · replace h := h.2 c7
    refine z_aload_n dX11_putByte_10 rfl (j := 0) rfl ?_
    refine z_getc Γ kf_RX11_44 dX11_putByte_11 (by decide) (hs 84 _ rfl) rfl ?_
    refine z_aload_n dX11_putByte_14 rfl (j := 0) rfl ?_
    refine z_get Γ kf_RX11_115 dX11_putByte_15 (by decide) (hs 84 _ rfl) rfl (by decide) (v9 := M 84 15) rfl ?_
    refine z_iload_n dX11_putByte_18 rfl (j := 1) rfl ?_
    refine z_i2b dX11_putByte_19 ?_
    obtain ⟨hi20, h⟩ := h
    refine z_bast Γ dX11_putByte_20 (by decide) (hs 134 _ rfl) (by decide) hi20 ?_
    exact rt_lfew [0] rfl (zs_X11_putByte_21 Γ hok hs  h)

abbrev zg_X11_putVarint_9 (l : Launch) (s0 : State) (G : va_G) (ca : Nat → ClassId) (d : Nat) (C : Nat × Nat) (S : zS) (w0 : rt_Wd)  (v3 : Int)  (M : zM) (Q : Int → zM → Prop) (X : zM → Prop) : Prop := rt_Go l s0 G RX11 "putVarint" cX11_putVarint 5 (Option.none : Option FieldType) [] d w0 (zQ s0 ca 9 C S Q X) 9 [(0, zv s0 2 84), (3, zv s0 1 v3)] [] (zw s0 ca C S M)
def zt_X11_putVarint_9 (l : Launch) (s0 : State) (G : va_G) (ca : Nat → ClassId) (d : Nat) (C : Nat × Nat) (S : zS) (w0 : rt_Wd)  (v3 : Int)  (M : zM) (Q : Int → zM → Prop) (X : zM → Prop) : Prop :=
  zIf (w64 (zushrL v3 7) = 0) (zm_X11_putByte l s0 G ca (d - 1) C S v3 M (fun r43 M43 => Q 0 M43) X) (zm_X11_putByte l s0 G ca (d - 1) C S (zor (zandL v3 127) 128) M (fun r29 M29 => zg_X11_putVarint_9 l s0 G ca d C S w0  (zushrL v3 7) M29 Q X) X)
set_option maxRecDepth 100000 in
theorem zs_X11_putVarint_9 {l : Launch} {s0 : State} {a0 : Array Value} {G : va_G} {ca : Nat → ClassId} (Γ : rt_Γ l s0 a0 G ca) {d : Nat} {C : Nat × Nat} {S : zS} (hd : 1 ≤ d) (hok : zok C)  (hs : zSok S) {w0 : rt_Wd} {v3 : Int}   {M : zM} {Q : Int → zM → Prop} {X : zM → Prop} (h : zt_X11_putVarint_9 l s0 G ca d C S w0  v3 M Q X) : zg_X11_putVarint_9 l s0 G ca d C S w0  v3 M Q X := by
  unfold zt_X11_putVarint_9 at h
  refine z_lload_n dX11_putVarint_9 rfl (j := 1) rfl ?_
  refine z_bipush dX11_putVarint_10 (by decide) ?_
  refine z_lushr dX11_putVarint_12 ?_
  refine z_lconst (v := 0) dX11_putVarint_13 (by decide) ?_
  refine z_lif_eq (tgt := 40) (x' := w64 (zushrL v3 7)) (y' := 0) rfl (by decide) dX11_putVarint_14 dX11_putVarint_15 (by decide) (fun c14 => ?_) (fun c14 => ?_)
  · replace h := h.1 c14
    refine z_aload_n dX11_putVarint_40 rfl (j := 0) rfl ?_
    refine z_lload_n dX11_putVarint_41 rfl (j := 1) rfl ?_
    refine z_l2i dX11_putVarint_42 ?_
    refine z_callV Γ kk_X11_putByte kc_RX11_112 (As := [zv s0 0 v3]) h (by omega) (by decide) (show (parseMethodDescriptor yX11_putByte.desc).map (fun q => q.parameters.length) = some 1 by decide +kernel) hok (Nat.zero_le _) dX11_putVarint_43 (by decide) (hs 84 _ rfl) rfl rfl (fun _ h9 => nomatch h9) ?_
    clear h
    intro r43 M43 h
    show rt_Go _ _ _ _ _ _ _ _ _ _ _ _ 46 [(0, zv s0 2 84), (3, zv s0 1 v3)] [] (zw s0 ca C S M43)
    exact z_vret dX11_putVarint_46 rfl h
  · replace h := h.2 c14
    refine z_aload_n dX11_putVarint_18 rfl (j := 0) rfl ?_
    refine z_lload_n dX11_putVarint_19 rfl (j := 1) rfl ?_
    refine rt_ldc2 Γ dX11_putVarint_20 kv_RX11_110 ?_
    show rt_Go _ _ _ _ _ _ _ _ _ _ _ _ 23 [(0, zv s0 2 84), (3, zv s0 1 v3)] [zv s0 1 127, zv s0 1 v3, zv s0 2 84] _
    refine z_land dX11_putVarint_23 ?_
    refine z_l2i dX11_putVarint_24 ?_
    refine z_sipush dX11_putVarint_25 (by decide) ?_
    refine z_ior dX11_putVarint_28 ?_
    refine z_callV Γ kk_X11_putByte kc_RX11_112 (As := [zv s0 0 (zor (zandL v3 127) 128)]) h (by omega) (by decide) (show (parseMethodDescriptor yX11_putByte.desc).map (fun q => q.parameters.length) = some 1 by decide +kernel) hok (Nat.zero_le _) dX11_putVarint_29 (by decide) (hs 84 _ rfl) rfl rfl (fun _ h9 => nomatch h9) ?_
    clear h
    intro r29 M29 h
    show rt_Go _ _ _ _ _ _ _ _ _ _ _ _ 32 [(0, zv s0 2 84), (3, zv s0 1 v3)] [] (zw s0 ca C S M29)
    refine z_lload_n dX11_putVarint_32 rfl (j := 1) rfl ?_
    refine z_bipush dX11_putVarint_33 (by decide) ?_
    refine z_lushr dX11_putVarint_35 ?_
    refine z_lstore_n (i := 3) (lv' := [(3, zv s0 1 (zushrL v3 7)), (0, zv s0 2 84)]) dX11_putVarint_36 rfl (by decide) (by simp [zv_cat0, zv_cat1, zv_cat2, zv_cats]) ?_
    refine rt_goto (tgt := 9) dX11_putVarint_37 (by decide) ?_
    exact rt_lfew [1, 0] rfl h

def zt_X11_putVarint (l : Launch) (s0 : State) (G : va_G) (ca : Nat → ClassId) (d : Nat) (C : Nat × Nat) (S : zS) (w0 : rt_Wd)  (v : Int) (M : zM) (Q : Int → zM → Prop) (X : zM → Prop) : Prop :=
  zg_X11_putVarint_9 l s0 G ca d C S w0  (zxorL (zshlL v 1) (zshrL v 63)) M Q X
set_option maxRecDepth 100000 in
theorem z_X11_putVarint {l : Launch} {s0 : State} {a0 : Array Value} {G : va_G} {ca : Nat → ClassId} (Γ : rt_Γ l s0 a0 G ca) {d : Nat} {C : Nat × Nat} {S : zS} (hd : 1 ≤ d) (hok : zok C)  (hs : zSok S) {v : Int} {M : zM} {Q : Int → zM → Prop} {X : zM → Prop} (h : zt_X11_putVarint l s0 G ca d C S (zw s0 ca C S M)  v M Q X) : zm_X11_putVarint l s0 G ca d C S  v M Q X := by
  refine z_met (lv := [(0, zv s0 2 84), (1, zv s0 1 v)]) Γ kk_X11_putVarint rfl (show (lg_sl [zv s0 2 84, zv s0 1 v]).length ≤ 5 from by simp only [zn_1, zn_2, show (lg_sl []).length = 0 from rfl]; omega) (show lv_args 0 [zv s0 2 84, zv s0 1 v] = [(0, zv s0 2 84), (1, zv s0 1 v)] from by rw [zl_2, zl_1]; rfl) ?_
  unfold zt_X11_putVarint at h
  refine z_lload_n dX11_putVarint_0 rfl (j := 1) rfl ?_
  refine z_iconst dX11_putVarint_1 ?_
  refine z_lshl dX11_putVarint_2 ?_
  refine z_lload_n dX11_putVarint_3 rfl (j := 1) rfl ?_
  refine z_bipush dX11_putVarint_4 (by decide) ?_
  refine z_lshr dX11_putVarint_6 ?_
  refine z_lxor dX11_putVarint_7 ?_
  refine z_lstore_n (i := 3) (lv' := [(3, zv s0 1 (zxorL (zshlL v 1) (zshrL v 63))), (0, zv s0 2 84), (1, zv s0 1 v)]) dX11_putVarint_8 rfl (by decide) (by simp [zv_cat0, zv_cat1, zv_cat2, zv_cats]) ?_
  exact rt_lfew [1, 0] rfl h

abbrev zg_X11_string_23 (l : Launch) (s0 : State) (G : va_G) (ca : Nat → ClassId) (d : Nat) (C : Nat × Nat) (S : zS) (w0 : rt_Wd)  (v1 : Int) (v3 : Int)  (M : zM) (Q : Int → zM → Prop) (X : zM → Prop) : Prop := rt_Go l s0 G RX11 "string" cX11_string 7 (Option.none : Option FieldType) [] d w0 (zQ s0 ca 9 C S Q X) 23 [(0, zv s0 2 84), (1, zv s0 0 v1), (3, zv s0 1 v3)] [] (zw s0 ca C S M)
abbrev zg_X11_string_47 (l : Launch) (s0 : State) (G : va_G) (ca : Nat → ClassId) (d : Nat) (C : Nat × Nat) (S : zS) (w0 : rt_Wd)  (v6 : Int)  (M : zM) (Q : Int → zM → Prop) (X : zM → Prop) : Prop := rt_Go l s0 G RX11 "string" cX11_string 7 (Option.none : Option FieldType) [] d w0 (zQ s0 ca 9 C S Q X) 47 [(0, zv s0 2 84), (6, zv s0 0 v6)] [] (zw s0 ca C S M)
def zt_X11_string_23 (l : Launch) (s0 : State) (G : va_G) (ca : Nat → ClassId) (d : Nat) (C : Nat × Nat) (S : zS) (w0 : rt_Wd)  (v1 : Int) (v3 : Int)  (M : zM) (Q : Int → zM → Prop) (X : zM → Prop) : Prop :=
  zm_X11_passBytes l s0 G ca (d - 1) C S v3 M (fun r31 M31 => zIf (w32 v1 = 0) (Q 0 M31) (zm_X11_putVarint l s0 G ca (d - 1) C S v3 M31 (fun r40 M40 => zg_X11_string_47 l s0 G ca d C S w0  (M 84 16) M40 Q X) X)) X
set_option maxRecDepth 100000 in
theorem zs_X11_string_23 {l : Launch} {s0 : State} {a0 : Array Value} {G : va_G} {ca : Nat → ClassId} (Γ : rt_Γ l s0 a0 G ca) {d : Nat} {C : Nat × Nat} {S : zS} (hd : 1 ≤ d) (hok : zok C)  (hs : zSok S) {w0 : rt_Wd} {v1 : Int} {v3 : Int}   {M : zM} {Q : Int → zM → Prop} {X : zM → Prop} (h : zt_X11_string_23 l s0 G ca d C S w0  v1 v3 M Q X) : zg_X11_string_23 l s0 G ca d C S w0  v1 v3 M Q X := by
  unfold zt_X11_string_23 at h
  refine z_aload_n dX11_string_23 rfl (j := 0) rfl ?_
  refine z_get Γ kf_RX11_99 dX11_string_24 (by decide) (hs 84 _ rfl) rfl (by decide) (v9 := M 84 16) rfl ?_
  refine z_istore (i := 5) (lv' := [(5, zv s0 0 (M 84 16)), (0, zv s0 2 84), (1, zv s0 0 v1), (3, zv s0 1 v3)]) dX11_string_27 (by decide) (by simp [zv_cat0, zv_cat1, zv_cat2, zv_cats]) ?_
  refine z_aload_n dX11_string_29 rfl (j := 1) rfl ?_
  refine z_lload_n dX11_string_30 rfl (j := 3) rfl ?_
  refine z_callV Γ kk_X11_passBytes kc_RX11_122 (As := [zv s0 1 v3]) h (by omega) (by decide) (show (parseMethodDescriptor yX11_passBytes.desc).map (fun q => q.parameters.length) = some 1 by decide +kernel) hok (Nat.zero_le _) dX11_string_31 (by decide) (hs 84 _ rfl) rfl rfl (fun _ h9 => nomatch h9) ?_
  clear h
  intro r31 M31 h
  show rt_Go _ _ _ _ _ _ _ _ _ _ _ _ 34 [(5, zv s0 0 (M 84 16)), (0, zv s0 2 84), (1, zv s0 0 v1), (3, zv s0 1 v3)] [] (zw s0 ca C S M31)
  refine z_iload_n dX11_string_34 rfl (j := 2) rfl ?_
  refine z_if_eq (tgt := 73) (x' := w32 v1) rfl dX11_string_35 (by decide) (fun c35 => ?_) (fun c35 => ?_)
  · replace h := h.1 c35
    exact z_vret dX11_string_73 rfl h
  · replace h := h.2 c35
    refine z_aload_n dX11_string_38 rfl (j := 1) rfl ?_
    refine z_lload_n dX11_string_39 rfl (j := 3) rfl ?_
    refine z_callV Γ kk_X11_putVarint kc_RX11_126 (As := [zv s0 1 v3]) h (by omega) (by decide) (show (parseMethodDescriptor yX11_putVarint.desc).map (fun q => q.parameters.length) = some 1 by decide +kernel) hok (Nat.zero_le _) dX11_string_40 (by decide) (hs 84 _ rfl) rfl rfl (fun _ h9 => nomatch h9) ?_
    clear h
    intro r40 M40 h
    show rt_Go _ _ _ _ _ _ _ _ _ _ _ _ 43 [(5, zv s0 0 (M 84 16)), (0, zv s0 2 84), (1, zv s0 0 v1), (3, zv s0 1 v3)] [] (zw s0 ca C S M40)
    refine z_iload dX11_string_43 (j := 0) rfl ?_
    refine z_istore (i := 6) (lv' := [(6, zv s0 0 (M 84 16)), (5, zv s0 0 (M 84 16)), (0, zv s0 2 84), (1, zv s0 0 v1), (3, zv s0 1 v3)]) dX11_string_45 (by decide) (by simp [zv_cat0, zv_cat1, zv_cat2, zv_cats]) ?_
    exact rt_lfew [2, 0] rfl h

def zt_X11_string_47 (l : Launch) (s0 : State) (G : va_G) (ca : Nat → ClassId) (d : Nat) (C : Nat × Nat) (S : zS) (w0 : rt_Wd)  (v6 : Int)  (M : zM) (Q : Int → zM → Prop) (X : zM → Prop) : Prop :=
  zIf (w32 (M 84 16) ≤ w32 v6) (Q 0 M) ((0 ≤ v6 ∧ v6 < 4096) ∧ (zm_X11_putByte l s0 G ca (d - 1) C S (M 85 v6) M (fun r64 M64 => zg_X11_string_47 l s0 G ca d C S w0  (v6 + 1) M64 Q X) X))
set_option maxRecDepth 100000 in
theorem zs_X11_string_47 {l : Launch} {s0 : State} {a0 : Array Value} {G : va_G} {ca : Nat → ClassId} (Γ : rt_Γ l s0 a0 G ca) {d : Nat} {C : Nat × Nat} {S : zS} (hd : 1 ≤ d) (hok : zok C)  (hs : zSok S) {w0 : rt_Wd} {v6 : Int}   {M : zM} {Q : Int → zM → Prop} {X : zM → Prop} (h : zt_X11_string_47 l s0 G ca d C S w0  v6 M Q X) : zg_X11_string_47 l s0 G ca d C S w0  v6 M Q X := by
  unfold zt_X11_string_47 at h
  refine z_iload dX11_string_47 (j := 1) rfl ?_
  refine z_aload_n dX11_string_49 rfl (j := 0) rfl ?_
  refine z_get Γ kf_RX11_99 dX11_string_50 (by decide) (hs 84 _ rfl) rfl (by decide) (v9 := M 84 16) rfl ?_
  refine z_icmp_ge (tgt := 73) (x' := w32 v6) (y' := w32 (M 84 16)) rfl rfl dX11_string_53 (by decide) (fun c53 => ?_) (fun c53 => ?_)
  · replace h := h.1 c53
    exact z_vret dX11_string_73 rfl h
  · replace h := h.2 c53
    refine z_aload_n dX11_string_56 rfl (j := 0) rfl ?_
    refine z_aload_n dX11_string_57 rfl (j := 0) rfl ?_
    refine z_getc Γ kf_RX11_7 dX11_string_58 (by decide) (hs 84 _ rfl) rfl ?_
    refine z_iload dX11_string_61 (j := 1) rfl ?_
    obtain ⟨hi63, h⟩ := h
    refine z_bald Γ dX11_string_63 (by decide) (hs 85 _ rfl) (by decide) hi63 (v9 := M 85 v6) rfl ?_
    refine z_callV Γ kk_X11_putByte kc_RX11_112 (As := [zv s0 0 (M 85 v6)]) h (by omega) (by decide) (show (parseMethodDescriptor yX11_putByte.desc).map (fun q => q.parameters.length) = some 1 by decide +kernel) hok (Nat.zero_le _) dX11_string_64 (by decide) (hs 84 _ rfl) rfl rfl (fun _ h9 => nomatch h9) ?_
    clear h
    intro r64 M64 h
    show rt_Go _ _ _ _ _ _ _ _ _ _ _ _ 67 [(0, zv s0 2 84), (6, zv s0 0 v6)] [] (zw s0 ca C S M64)
    refine z_iinc (lv' := [(6, zv s0 0 (v6 + 1)), (0, zv s0 2 84)]) dX11_string_67 (j := 1) rfl (by decide) (by simp [zv_cat0, zv_cat1, zv_cat2, zv_cats]) ?_
    refine rt_goto (tgt := 47) dX11_string_70 (by decide) ?_
    exact rt_lfew [1, 0] rfl h

def zt_X11_string (l : Launch) (s0 : State) (G : va_G) (ca : Nat → ClassId) (d : Nat) (C : Nat × Nat) (S : zS) (w0 : rt_Wd)  (p : Int) (M : zM) (Q : Int → zM → Prop) (X : zM → Prop) : Prop :=
  zm_X11_varint l s0 G ca (d - 1) C S  M (fun r6 M6 => zIf (0 ≤ w64 r6) (zt_X11_string_23 l s0 G ca d C S w0  p r6 M6 Q X) (zm_X11_failBytes l s0 G ca (d - 1) C S 6 (M 84 16) M6 (fun r20 M20 => zt_X11_string_23 l s0 G ca d C S w0  p r6 M20 Q X) X)) X
set_option maxRecDepth 100000 in
theorem z_X11_string {l : Launch} {s0 : State} {a0 : Array Value} {G : va_G} {ca : Nat → ClassId} (Γ : rt_Γ l s0 a0 G ca) {d : Nat} {C : Nat × Nat} {S : zS} (hd : 1 ≤ d) (hok : zok C)  (hs : zSok S) {p : Int} {M : zM} {Q : Int → zM → Prop} {X : zM → Prop} (h : zt_X11_string l s0 G ca d C S (zw s0 ca C S M)  p M Q X) : zm_X11_string l s0 G ca d C S  p M Q X := by
  refine z_met (lv := [(0, zv s0 2 84), (1, zv s0 0 p)]) Γ kk_X11_string rfl (show (lg_sl [zv s0 2 84, zv s0 0 p]).length ≤ 7 from by simp only [zn_0, zn_2, show (lg_sl []).length = 0 from rfl]; omega) (show lv_args 0 [zv s0 2 84, zv s0 0 p] = [(0, zv s0 2 84), (1, zv s0 0 p)] from by rw [zl_2, zl_0]; rfl) ?_
  unfold zt_X11_string at h
  refine z_aload_n dX11_string_0 rfl (j := 0) rfl ?_
  refine z_get Γ kf_RX11_99 dX11_string_1 (by decide) (hs 84 _ rfl) rfl (by decide) (v9 := M 84 16) rfl ?_
  refine z_istore_n (i := 2) (lv' := [(2, zv s0 0 (M 84 16)), (0, zv s0 2 84), (1, zv s0 0 p)]) dX11_string_4 rfl (by decide) (by simp [zv_cat0, zv_cat1, zv_cat2, zv_cats]) ?_
  refine z_aload_n dX11_string_5 rfl (j := 1) rfl ?_
  refine z_callV Γ kk_X11_varint kc_RX11_118 (As := []) h (by omega) (by decide) (show (parseMethodDescriptor yX11_varint.desc).map (fun q => q.parameters.length) = some 0 by decide +kernel) hok (Nat.zero_le _) dX11_string_6 (by decide) (hs 84 _ rfl) rfl rfl (fun _ h9 => nomatch h9) ?_
  clear h
  intro r6 M6 h
  show rt_Go _ _ _ _ _ _ _ _ _ _ _ _ 9 [(2, zv s0 0 (M 84 16)), (0, zv s0 2 84), (1, zv s0 0 p)] [zv s0 1 r6] (zw s0 ca C S M6)
  refine z_lstore_n (i := 3) (lv' := [(3, zv s0 1 r6), (2, zv s0 0 (M 84 16)), (0, zv s0 2 84), (1, zv s0 0 p)]) dX11_string_9 rfl (by decide) (by simp [zv_cat0, zv_cat1, zv_cat2, zv_cats]) ?_
  refine z_lload_n dX11_string_10 rfl (j := 0) rfl ?_
  refine z_lconst (v := 0) dX11_string_11 (by decide) ?_
  refine z_lif_ge (tgt := 23) (x' := w64 r6) (y' := 0) rfl (by decide) dX11_string_12 dX11_string_13 (by decide) (fun c12 => ?_) (fun c12 => ?_)
  · replace h := h.1 c12
    exact rt_lfew [2, 3, 0] rfl (zs_X11_string_23 Γ hd hok hs  h)
  · replace h := h.2 c12
    refine z_aload_n dX11_string_16 rfl (j := 2) rfl ?_
    refine z_bipush dX11_string_17 (by decide) ?_
    refine z_iload_n dX11_string_19 rfl (j := 1) rfl ?_
    refine z_callV Γ kk_X11_failBytes kc_RX11_102 (As := [zv s0 0 6, zv s0 0 (M 84 16)]) h (by omega) (by decide) (show (parseMethodDescriptor yX11_failBytes.desc).map (fun q => q.parameters.length) = some 2 by decide +kernel) hok (Nat.zero_le _) dX11_string_20 (by decide) (hs 84 _ rfl) rfl rfl (fun _ h9 => nomatch h9) ?_
    clear h
    intro r20 M20 h
    show rt_Go _ _ _ _ _ _ _ _ _ _ _ _ 23 [(3, zv s0 1 r6), (2, zv s0 0 (M 84 16)), (0, zv s0 2 84), (1, zv s0 0 p)] [] (zw s0 ca C S M20)
    exact rt_lfew [2, 3, 0] rfl (zs_X11_string_23 Γ hd hok hs  h)

def zt_X11_put (l : Launch) (s0 : State) (G : va_G) (ca : Nat → ClassId) (d : Nat) (C : Nat × Nat) (S : zS) (w0 : rt_Wd)  (b : Int) (p : Int) (M : zM) (Q : Int → zM → Prop) (X : zM → Prop) : Prop :=
  zIf (w32 p = 0) (Q 0 M) (zm_X11_putByte l s0 G ca (d - 1) C S b M (fun r6 M6 => Q 0 M6) X)
set_option maxRecDepth 100000 in
theorem z_X11_put {l : Launch} {s0 : State} {a0 : Array Value} {G : va_G} {ca : Nat → ClassId} (Γ : rt_Γ l s0 a0 G ca) {d : Nat} {C : Nat × Nat} {S : zS} (hd : 1 ≤ d) (hok : zok C)  (hs : zSok S) {b : Int} {p : Int} {M : zM} {Q : Int → zM → Prop} {X : zM → Prop} (h : zt_X11_put l s0 G ca d C S (zw s0 ca C S M)  b p M Q X) : zm_X11_put l s0 G ca d C S  b p M Q X := by
  refine z_met (lv := [(0, zv s0 2 84), (1, zv s0 0 b), (2, zv s0 0 p)]) Γ kk_X11_put rfl (show (lg_sl [zv s0 2 84, zv s0 0 b, zv s0 0 p]).length ≤ 3 from by simp only [zn_0, zn_2, show (lg_sl []).length = 0 from rfl]; omega) (show lv_args 0 [zv s0 2 84, zv s0 0 b, zv s0 0 p] = [(0, zv s0 2 84), (1, zv s0 0 b), (2, zv s0 0 p)] from by rw [zl_2, zl_0, zl_0]; rfl) ?_
  unfold zt_X11_put at h
  refine z_iload_n dX11_put_0 rfl (j := 2) rfl ?_
  refine z_if_eq (tgt := 9) (x' := w32 p) rfl dX11_put_1 (by decide) (fun c1 => ?_) (fun c1 => ?_)
  · replace h := h.1 c1
    exact z_vret dX11_put_9 rfl h
  · replace h := h.2 c1
    refine z_aload_n dX11_put_4 rfl (j := 0) rfl ?_
    refine z_iload_n dX11_put_5 rfl (j := 1) rfl ?_
    refine z_callV Γ kk_X11_putByte kc_RX11_112 (As := [zv s0 0 b]) h (by omega) (by decide) (show (parseMethodDescriptor yX11_putByte.desc).map (fun q => q.parameters.length) = some 1 by decide +kernel) hok (Nat.zero_le _) dX11_put_6 (by decide) (hs 84 _ rfl) rfl rfl (fun _ h9 => nomatch h9) ?_
    clear h
    intro r6 M6 h
    show rt_Go _ _ _ _ _ _ _ _ _ _ _ _ 9 [(0, zv s0 2 84), (1, zv s0 0 b), (2, zv s0 0 p)] [] (zw s0 ca C S M6)
    exact z_vret dX11_put_9 rfl h

abbrev zg_X11_insert_19 (l : Launch) (s0 : State) (G : va_G) (ca : Nat → ClassId) (d : Nat) (C : Nat × Nat) (S : zS) (w0 : rt_Wd)  (v1 : Int) (v2 : Int) (v3 : Int) (v4 : Int)  (M : zM) (Q : Int → zM → Prop) (X : zM → Prop) : Prop := rt_Go l s0 G RX11 "insert" cX11_insert 5 (Option.none : Option FieldType) [] d w0 (zQ s0 ca 9 C S Q X) 19 [(0, zv s0 2 84), (1, zv s0 0 v1), (2, zv s0 0 v2), (3, zv s0 0 v3), (4, zv s0 0 v4)] [] (zw s0 ca C S M)
abbrev zg_X11_insert_59 (l : Launch) (s0 : State) (G : va_G) (ca : Nat → ClassId) (d : Nat) (C : Nat × Nat) (S : zS) (w0 : rt_Wd)  (v1 : Int) (v2 : Int) (v3 : Int)  (M : zM) (Q : Int → zM → Prop) (X : zM → Prop) : Prop := rt_Go l s0 G RX11 "insert" cX11_insert 5 (Option.none : Option FieldType) [] d w0 (zQ s0 ca 9 C S Q X) 59 [(0, zv s0 2 84), (1, zv s0 0 v1), (2, zv s0 0 v2), (3, zv s0 0 v3)] [] (zw s0 ca C S M)
def zt_X11_insert_59 (l : Launch) (s0 : State) (G : va_G) (ca : Nat → ClassId) (d : Nat) (C : Nat × Nat) (S : zS) (w0 : rt_Wd)  (v1 : Int) (v2 : Int) (v3 : Int)  (M : zM) (Q : Int → zM → Prop) (X : zM → Prop) : Prop :=
  zm_X11_putVarint l s0 G ca (d - 1) C S (w32 v2) ((zu M 84 15 v1)) (fun r73 M73 => Q 0 ((zu M73 84 15 ((M 84 15) + v3)))) X
set_option maxRecDepth 100000 in
theorem zs_X11_insert_59 {l : Launch} {s0 : State} {a0 : Array Value} {G : va_G} {ca : Nat → ClassId} (Γ : rt_Γ l s0 a0 G ca) {d : Nat} {C : Nat × Nat} {S : zS} (hd : 1 ≤ d) (hok : zok C)  (hs : zSok S) {w0 : rt_Wd} {v1 : Int} {v2 : Int} {v3 : Int}   {M : zM} {Q : Int → zM → Prop} {X : zM → Prop} (h : zt_X11_insert_59 l s0 G ca d C S w0  v1 v2 v3 M Q X) : zg_X11_insert_59 l s0 G ca d C S w0  v1 v2 v3 M Q X := by
  unfold zt_X11_insert_59 at h
  refine z_aload_n dX11_insert_59 rfl (j := 0) rfl ?_
  refine z_get Γ kf_RX11_115 dX11_insert_60 (by decide) (hs 84 _ rfl) rfl (by decide) (v9 := M 84 15) rfl ?_
  refine z_istore (i := 4) (lv' := [(4, zv s0 0 (M 84 15)), (0, zv s0 2 84), (1, zv s0 0 v1), (2, zv s0 0 v2), (3, zv s0 0 v3)]) dX11_insert_63 (by decide) (by simp [zv_cat0, zv_cat1, zv_cat2, zv_cats]) ?_
  refine z_aload_n dX11_insert_65 rfl (j := 1) rfl ?_
  refine z_iload_n dX11_insert_66 rfl (j := 2) rfl ?_
  refine z_put0 Γ kp_RX11_115 dX11_insert_67 (by decide) (hs 84 _ rfl) rfl (k9 := 15) rfl ?_
  refine z_aload_n dX11_insert_70 rfl (j := 1) rfl ?_
  refine z_iload_n dX11_insert_71 rfl (j := 3) rfl ?_
  refine z_i2l dX11_insert_72 ?_
  refine z_callV Γ kk_X11_putVarint kc_RX11_126 (As := [zv s0 1 (w32 v2)]) h (by omega) (by decide) (show (parseMethodDescriptor yX11_putVarint.desc).map (fun q => q.parameters.length) = some 1 by decide +kernel) hok (Nat.zero_le _) dX11_insert_73 (by decide) (hs 84 _ rfl) rfl rfl (fun _ h9 => nomatch h9) ?_
  clear h
  intro r73 M73 h
  show rt_Go _ _ _ _ _ _ _ _ _ _ _ _ 76 [(4, zv s0 0 (M 84 15)), (0, zv s0 2 84), (1, zv s0 0 v1), (2, zv s0 0 v2), (3, zv s0 0 v3)] [] (zw s0 ca C S M73)
  refine z_aload_n dX11_insert_76 rfl (j := 1) rfl ?_
  refine z_iload dX11_insert_77 (j := 0) rfl ?_
  refine z_iload_n dX11_insert_79 rfl (j := 4) rfl ?_
  refine z_iadd dX11_insert_80 ?_
  refine z_put0 Γ kp_RX11_115 dX11_insert_81 (by decide) (hs 84 _ rfl) rfl (k9 := 15) rfl ?_
  exact z_vret dX11_insert_84 rfl h

def zt_X11_insert_19 (l : Launch) (s0 : State) (G : va_G) (ca : Nat → ClassId) (d : Nat) (C : Nat × Nat) (S : zS) (w0 : rt_Wd)  (v1 : Int) (v2 : Int) (v3 : Int) (v4 : Int)  (M : zM) (Q : Int → zM → Prop) (X : zM → Prop) : Prop :=
  zIf (w32 v4 < w32 v1) (zt_X11_insert_59 l s0 G ca d C S w0  v1 v2 v3 M Q X) (zIf (4200 < w32 ((M 84 15) + v3)) (zt_X11_insert_59 l s0 G ca d C S w0  v1 v2 v3 M Q X) ((0 ≤ v4 ∧ v4 < 4200) ∧ ((0 ≤ v4 + v3 ∧ v4 + v3 < 4200) ∧ (zg_X11_insert_19 l s0 G ca d C S w0  v1 v2 v3 (v4 + (-1)) ((zu M 134 (v4 + v3) (w8 (M 134 v4)))) Q X))))
set_option maxRecDepth 100000 in
theorem zs_X11_insert_19 {l : Launch} {s0 : State} {a0 : Array Value} {G : va_G} {ca : Nat → ClassId} (Γ : rt_Γ l s0 a0 G ca) {d : Nat} {C : Nat × Nat} {S : zS} (hd : 1 ≤ d) (hok : zok C)  (hs : zSok S) {w0 : rt_Wd} {v1 : Int} {v2 : Int} {v3 : Int} {v4 : Int}   {M : zM} {Q : Int → zM → Prop} {X : zM → Prop} (h : zt_X11_insert_19 l s0 G ca d C S w0  v1 v2 v3 v4 M Q X) : zg_X11_insert_19 l s0 G ca d C S w0  v1 v2 v3 v4 M Q X := by
  unfold zt_X11_insert_19 at h
  refine z_iload dX11_insert_19 (j := 4) rfl ?_
  refine z_iload_n dX11_insert_21 rfl (j := 1) rfl ?_
  refine z_icmp_lt (tgt := 59) (x' := w32 v4) (y' := w32 v1) rfl rfl dX11_insert_22 (by decide) (fun c22 => ?_) (fun c22 => ?_)
  · replace h := h.1 c22
    exact rt_lfew [0, 1, 2, 3] rfl (zs_X11_insert_59 Γ hd hok hs  h)
  · replace h := h.2 c22
    refine z_aload_n dX11_insert_25 rfl (j := 0) rfl ?_
    refine z_get Γ kf_RX11_115 dX11_insert_26 (by decide) (hs 84 _ rfl) rfl (by decide) (v9 := M 84 15) rfl ?_
    refine z_iload_n dX11_insert_29 rfl (j := 3) rfl ?_
    refine z_iadd dX11_insert_30 ?_
    refine z_sipush dX11_insert_31 (by decide) ?_
    refine z_icmp_gt (tgt := 59) (x' := w32 ((M 84 15) + v3)) (y' := 4200) rfl (by decide) dX11_insert_34 (by decide) (fun c34 => ?_) (fun c34 => ?_)
    · replace h := h.1 c34
      exact rt_lfew [0, 1, 2, 3] rfl (zs_X11_insert_59 Γ hd hok hs  h)
    · replace h := h.2 c34
      refine z_aload_n dX11_insert_37 rfl (j := 0) rfl ?_
      refine z_getc Γ kf_RX11_44 dX11_insert_38 (by decide) (hs 84 _ rfl) rfl ?_
      refine z_iload dX11_insert_41 (j := 4) rfl ?_
      refine z_iload_n dX11_insert_43 rfl (j := 3) rfl ?_
      refine z_iadd dX11_insert_44 ?_
      refine z_aload_n dX11_insert_45 rfl (j := 0) rfl ?_
      refine z_getc Γ kf_RX11_44 dX11_insert_46 (by decide) (hs 84 _ rfl) rfl ?_
      refine z_iload dX11_insert_49 (j := 4) rfl ?_
      obtain ⟨hi51, h⟩ := h
      refine z_bald Γ dX11_insert_51 (by decide) (hs 134 _ rfl) (by decide) hi51 (v9 := M 134 v4) rfl ?_
      obtain ⟨hi52, h⟩ := h
      refine z_bast Γ dX11_insert_52 (by decide) (hs 134 _ rfl) (by decide) hi52 ?_
      refine z_iinc (lv' := [(4, zv s0 0 (v4 + (-1))), (0, zv s0 2 84), (1, zv s0 0 v1), (2, zv s0 0 v2), (3, zv s0 0 v3)]) dX11_insert_53 (j := 4) rfl (by decide) (by simp [zv_cat0, zv_cat1, zv_cat2, zv_cats]) ?_
      refine rt_goto (tgt := 19) dX11_insert_56 (by decide) ?_
      exact rt_lfew [1, 2, 3, 4, 0] rfl h

def zt_X11_insert (l : Launch) (s0 : State) (G : va_G) (ca : Nat → ClassId) (d : Nat) (C : Nat × Nat) (S : zS) (w0 : rt_Wd)  (a : Int) (k : Int) (M : zM) (Q : Int → zM → Prop) (X : zM → Prop) : Prop :=
  zIf (w32 k = 0) (Q 0 M) (zm_X11_varintSize l s0 G ca (d - 1) C S (w32 k) M (fun r7 M7 => zg_X11_insert_19 l s0 G ca d C S w0  a k r7 ((M7 84 15) - 1) M7 Q X) X)
set_option maxRecDepth 100000 in
theorem z_X11_insert {l : Launch} {s0 : State} {a0 : Array Value} {G : va_G} {ca : Nat → ClassId} (Γ : rt_Γ l s0 a0 G ca) {d : Nat} {C : Nat × Nat} {S : zS} (hd : 1 ≤ d) (hok : zok C)  (hs : zSok S) {a : Int} {k : Int} {M : zM} {Q : Int → zM → Prop} {X : zM → Prop} (h : zt_X11_insert l s0 G ca d C S (zw s0 ca C S M)  a k M Q X) : zm_X11_insert l s0 G ca d C S  a k M Q X := by
  refine z_met (lv := [(0, zv s0 2 84), (1, zv s0 0 a), (2, zv s0 0 k)]) Γ kk_X11_insert rfl (show (lg_sl [zv s0 2 84, zv s0 0 a, zv s0 0 k]).length ≤ 5 from by simp only [zn_0, zn_2, show (lg_sl []).length = 0 from rfl]; omega) (show lv_args 0 [zv s0 2 84, zv s0 0 a, zv s0 0 k] = [(0, zv s0 2 84), (1, zv s0 0 a), (2, zv s0 0 k)] from by rw [zl_2, zl_0, zl_0]; rfl) ?_
  unfold zt_X11_insert at h
  refine z_iload_n dX11_insert_0 rfl (j := 2) rfl ?_
  refine z_if_ne (tgt := 5) (x' := w32 k) rfl dX11_insert_1 (by decide) (fun c1 => ?_) (fun c1 => ?_)
  · replace h := h.2 c1
    refine z_iload_n dX11_insert_5 rfl (j := 2) rfl ?_
    refine z_i2l dX11_insert_6 ?_
    refine z_callS Γ kk_X11_varintSize kc_RX11_184 (As := [zv s0 1 (w32 k)]) h (by omega) (by decide) (show (parseMethodDescriptor yX11_varintSize.desc).map (fun q => q.parameters.length) = some 1 by decide +kernel) hok (Nat.zero_le _) dX11_insert_7 rfl (fun _ h9 => nomatch h9) ?_
    clear h
    intro r7 M7 h
    show rt_Go _ _ _ _ _ _ _ _ _ _ _ _ 10 [(0, zv s0 2 84), (1, zv s0 0 a), (2, zv s0 0 k)] [zv s0 0 r7] (zw s0 ca C S M7)
    refine z_istore_n (i := 3) (lv' := [(3, zv s0 0 r7), (0, zv s0 2 84), (1, zv s0 0 a), (2, zv s0 0 k)]) dX11_insert_10 rfl (by decide) (by simp [zv_cat0, zv_cat1, zv_cat2, zv_cats]) ?_
    refine z_aload_n dX11_insert_11 rfl (j := 1) rfl ?_
    refine z_get Γ kf_RX11_115 dX11_insert_12 (by decide) (hs 84 _ rfl) rfl (by decide) (v9 := M7 84 15) rfl ?_
    refine z_iconst dX11_insert_15 ?_
    refine z_isub dX11_insert_16 ?_
    refine z_istore (i := 4) (lv' := [(4, zv s0 0 ((M7 84 15) - 1)), (3, zv s0 0 r7), (0, zv s0 2 84), (1, zv s0 0 a), (2, zv s0 0 k)]) dX11_insert_17 (by decide) (by simp [zv_cat0, zv_cat1, zv_cat2, zv_cats]) ?_
    exact rt_lfew [2, 3, 4, 1, 0] rfl h
  · replace h := h.1 c1
    exact z_vret dX11_insert_4 rfl h

abbrev zg_X11_varintSize_12 (l : Launch) (s0 : State) (G : va_G) (ca : Nat → ClassId) (d : Nat) (C : Nat × Nat) (S : zS) (w0 : rt_Wd)  (v2 : Int) (v4 : Int)  (M : zM) (Q : Int → zM → Prop) (X : zM → Prop) : Prop := rt_Go l s0 G RX11 "varintSize" cX11_varintSize 5 (Option.some FieldType.int) [] d w0 (zQ s0 ca 0 C S Q X) 12 [(2, zv s0 1 v2), (4, zv s0 0 v4)] [] (zw s0 ca C S M)
def zt_X11_varintSize_12 (l : Launch) (s0 : State) (G : va_G) (ca : Nat → ClassId) (d : Nat) (C : Nat × Nat) (S : zS) (w0 : rt_Wd)  (v2 : Int) (v4 : Int)  (M : zM) (Q : Int → zM → Prop) (X : zM → Prop) : Prop :=
  zIf (w64 (zushrL v2 7) = 0) (Q v4 M) (zg_X11_varintSize_12 l s0 G ca d C S w0  (zushrL v2 7) (v4 + 1) M Q X)
set_option maxRecDepth 100000 in
theorem zs_X11_varintSize_12 {l : Launch} {s0 : State} {a0 : Array Value} {G : va_G} {ca : Nat → ClassId} (Γ : rt_Γ l s0 a0 G ca) {d : Nat} {C : Nat × Nat} {S : zS} (hok : zok C)  (hs : zSok S) {w0 : rt_Wd} {v2 : Int} {v4 : Int}   {M : zM} {Q : Int → zM → Prop} {X : zM → Prop} (h : zt_X11_varintSize_12 l s0 G ca d C S w0  v2 v4 M Q X) : zg_X11_varintSize_12 l s0 G ca d C S w0  v2 v4 M Q X := by
  unfold zt_X11_varintSize_12 at h
  refine z_lload_n dX11_varintSize_12 rfl (j := 0) rfl ?_
  refine z_bipush dX11_varintSize_13 (by decide) ?_
  refine z_lushr dX11_varintSize_15 ?_
  refine z_lconst (v := 0) dX11_varintSize_16 (by decide) ?_
  refine z_lif_eq (tgt := 32) (x' := w64 (zushrL v2 7)) (y' := 0) rfl (by decide) dX11_varintSize_17 dX11_varintSize_18 (by decide) (fun c17 => ?_) (fun c17 => ?_)
  · replace h := h.1 c17
    refine z_iload dX11_varintSize_32 (j := 1) rfl ?_
    exact z_iret dX11_varintSize_34 rfl h
  · replace h := h.2 c17
    refine z_lload_n dX11_varintSize_21 rfl (j := 0) rfl ?_
    refine z_bipush dX11_varintSize_22 (by decide) ?_
    refine z_lushr dX11_varintSize_24 ?_
    refine z_lstore_n (i := 2) (lv' := [(2, zv s0 1 (zushrL v2 7)), (4, zv s0 0 v4)]) dX11_varintSize_25 rfl (by decide) (by simp [zv_cat0, zv_cat1, zv_cat2, zv_cats]) ?_
    refine z_iinc (lv' := [(4, zv s0 0 (v4 + 1)), (2, zv s0 1 (zushrL v2 7))]) dX11_varintSize_26 (j := 1) rfl (by decide) (by simp [zv_cat0, zv_cat1, zv_cat2, zv_cats]) ?_
    refine rt_goto (tgt := 12) dX11_varintSize_29 (by decide) ?_
    exact rt_lfew [1, 0] rfl h

def zt_X11_varintSize (l : Launch) (s0 : State) (G : va_G) (ca : Nat → ClassId) (d : Nat) (C : Nat × Nat) (S : zS) (w0 : rt_Wd)  (v : Int) (M : zM) (Q : Int → zM → Prop) (X : zM → Prop) : Prop :=
  zg_X11_varintSize_12 l s0 G ca d C S w0  (zxorL (zshlL v 1) (zshrL v 63)) 1 M Q X
set_option maxRecDepth 100000 in
theorem z_X11_varintSize {l : Launch} {s0 : State} {a0 : Array Value} {G : va_G} {ca : Nat → ClassId} (Γ : rt_Γ l s0 a0 G ca) {d : Nat} {C : Nat × Nat} {S : zS} (hok : zok C)  (hs : zSok S) {v : Int} {M : zM} {Q : Int → zM → Prop} {X : zM → Prop} (h : zt_X11_varintSize l s0 G ca d C S (zw s0 ca C S M)  v M Q X) : zm_X11_varintSize l s0 G ca d C S  v M Q X := by
  refine z_met (lv := [(0, zv s0 1 v)]) Γ kk_X11_varintSize rfl (show (lg_sl [zv s0 1 v]).length ≤ 5 from by simp only [zn_1, show (lg_sl []).length = 0 from rfl]; omega) (show lv_args 0 [zv s0 1 v] = [(0, zv s0 1 v)] from by rw [zl_1]; rfl) ?_
  unfold zt_X11_varintSize at h
  refine z_lload_n dX11_varintSize_0 rfl (j := 0) rfl ?_
  refine z_iconst dX11_varintSize_1 ?_
  refine z_lshl dX11_varintSize_2 ?_
  refine z_lload_n dX11_varintSize_3 rfl (j := 0) rfl ?_
  refine z_bipush dX11_varintSize_4 (by decide) ?_
  refine z_lshr dX11_varintSize_6 ?_
  refine z_lxor dX11_varintSize_7 ?_
  refine z_lstore_n (i := 2) (lv' := [(2, zv s0 1 (zxorL (zshlL v 1) (zshrL v 63))), (0, zv s0 1 v)]) dX11_varintSize_8 rfl (by decide) (by simp [zv_cat0, zv_cat1, zv_cat2, zv_cats]) ?_
  refine z_iconst dX11_varintSize_9 ?_
  refine z_istore (i := 4) (lv' := [(4, zv s0 0 1), (2, zv s0 1 (zxorL (zshlL v 1) (zshrL v 63))), (0, zv s0 1 v)]) dX11_varintSize_10 (by decide) (by simp [zv_cat0, zv_cat1, zv_cat2, zv_cats]) ?_
  exact rt_lfew [1, 0] rfl h

abbrev zg_X11_item_17 (l : Launch) (s0 : State) (G : va_G) (ca : Nat → ClassId) (d : Nat) (C : Nat × Nat) (S : zS) (w0 : rt_Wd)  (v1 : Int) (v2 : Int) (v3 : Int) (v4 : Int)  (M : zM) (Q : Int → zM → Prop) (X : zM → Prop) : Prop := rt_Go l s0 G RX11 "item" cX11_item 5 (Option.none : Option FieldType) [] d w0 (zQ s0 ca 9 C S Q X) 17 [(0, zv s0 2 84), (1, zv s0 2 v1), (2, zv s0 0 v2), (3, zv s0 0 v3), (4, zv s0 0 v4)] [] (zw s0 ca C S M)
def zt_X11_item_17 (l : Launch) (s0 : State) (G : va_G) (ca : Nat → ClassId) (d : Nat) (C : Nat × Nat) (S : zS) (w0 : rt_Wd)  (v1 : Int) (v2 : Int) (v3 : Int) (v4 : Int)  (M : zM) (Q : Int → zM → Prop) (X : zM → Prop) : Prop :=
  zTx S v1 ∧ ((0 ≤ v2 ∧ v2 < 140) ∧ ((0 ≤ M (v1 + 12) v2 ∧ M (v1 + 12) v2 < 2200) ∧ (zm_X11_datum l s0 G ca (d - 1) C S v1 (M (v1 + 15) (M (v1 + 12) v2)) (v3 + 1) v4 M (fun r35 M35 => Q 0 M35) X)))
set_option maxRecDepth 100000 in
theorem zs_X11_item_17 {l : Launch} {s0 : State} {a0 : Array Value} {G : va_G} {ca : Nat → ClassId} (Γ : rt_Γ l s0 a0 G ca) {d : Nat} {C : Nat × Nat} {S : zS} (hd : 1 ≤ d) (hok : zok C)  (hs : zSok S) {w0 : rt_Wd} {v1 : Int} {v2 : Int} {v3 : Int} {v4 : Int}   {M : zM} {Q : Int → zM → Prop} {X : zM → Prop} (h : zt_X11_item_17 l s0 G ca d C S w0  v1 v2 v3 v4 M Q X) : zg_X11_item_17 l s0 G ca d C S w0  v1 v2 v3 v4 M Q X := by
  unfold zt_X11_item_17 at h
  refine z_aload_n dX11_item_17 rfl (j := 0) rfl ?_
  refine z_aload_n dX11_item_18 rfl (j := 1) rfl ?_
  refine z_aload_n dX11_item_19 rfl (j := 1) rfl ?_
  obtain ⟨hk0, h⟩ := h
  refine z_getcN Γ kfN_RX11_149 dX11_item_20 hk0.1 hk0.2.1 rfl ?_
  refine z_aload_n dX11_item_23 rfl (j := 1) rfl ?_
  refine z_getcN Γ kfN_RX11_160 dX11_item_24 hk0.1 hk0.2.1 rfl ?_
  refine z_iload_n dX11_item_27 rfl (j := 2) rfl ?_
  obtain ⟨hi28, h⟩ := h
  refine z_iald Γ dX11_item_28 (by have := hk0.1; omega) hk0.2.2.2.2.2.2.2.2.2.2.2.2.2.1 (by decide) hi28 (v9 := M (v1 + 12) v2) rfl ?_
  obtain ⟨hi29, h⟩ := h
  refine z_iald Γ dX11_item_29 (by have := hk0.1; omega) hk0.2.2.2.2.2.2.2.2.2.2.2.2.2.2.2.2.1 (by decide) hi29 (v9 := M (v1 + 15) (M (v1 + 12) v2)) rfl ?_
  refine z_iload_n dX11_item_30 rfl (j := 3) rfl ?_
  refine z_iconst dX11_item_31 ?_
  refine z_iadd dX11_item_32 ?_
  refine z_iload dX11_item_33 (j := 4) rfl ?_
  refine z_callV Γ kk_X11_datum kc_RX11_156 (As := [zv s0 2 v1, zv s0 0 (M (v1 + 15) (M (v1 + 12) v2)), zv s0 0 (v3 + 1), zv s0 0 v4]) h (by omega) (by decide) (show (parseMethodDescriptor yX11_datum.desc).map (fun q => q.parameters.length) = some 4 by decide +kernel) hok (Nat.zero_le _) dX11_item_35 (by decide) (hs 84 _ rfl) rfl rfl (fun _ h9 => nomatch h9) ?_
  clear h
  intro r35 M35 h
  show rt_Go _ _ _ _ _ _ _ _ _ _ _ _ 38 [(0, zv s0 2 84), (1, zv s0 2 v1), (2, zv s0 0 v2), (3, zv s0 0 v3), (4, zv s0 0 v4)] [] (zw s0 ca C S M35)
  exact z_vret dX11_item_38 rfl h

def zt_X11_item (l : Launch) (s0 : State) (G : va_G) (ca : Nat → ClassId) (d : Nat) (C : Nat × Nat) (S : zS) (w0 : rt_Wd)  (t : Int) (s : Int) (e : Int) (p : Int) (M : zM) (Q : Int → zM → Prop) (X : zM → Prop) : Prop :=
  zTx S t ∧ ((0 ≤ s ∧ s < 140) ∧ (zIf (w32 (M (t + 9) s) = 7) (zm_X11_string l s0 G ca (d - 1) C S p M (fun r14 M14 => zt_X11_item_17 l s0 G ca d C S w0  t s e p M14 Q X) X) (zt_X11_item_17 l s0 G ca d C S w0  t s e p M Q X)))
set_option maxRecDepth 100000 in
theorem z_X11_item {l : Launch} {s0 : State} {a0 : Array Value} {G : va_G} {ca : Nat → ClassId} (Γ : rt_Γ l s0 a0 G ca) {d : Nat} {C : Nat × Nat} {S : zS} (hd : 1 ≤ d) (hok : zok C)  (hs : zSok S) {t : Int} {s : Int} {e : Int} {p : Int} {M : zM} {Q : Int → zM → Prop} {X : zM → Prop} (h : zt_X11_item l s0 G ca d C S (zw s0 ca C S M)  t s e p M Q X) : zm_X11_item l s0 G ca d C S  t s e p M Q X := by
  refine z_met (lv := [(0, zv s0 2 84), (1, zv s0 2 t), (2, zv s0 0 s), (3, zv s0 0 e), (4, zv s0 0 p)]) Γ kk_X11_item rfl (show (lg_sl [zv s0 2 84, zv s0 2 t, zv s0 0 s, zv s0 0 e, zv s0 0 p]).length ≤ 5 from by simp only [zn_0, zn_2, show (lg_sl []).length = 0 from rfl]; omega) (show lv_args 0 [zv s0 2 84, zv s0 2 t, zv s0 0 s, zv s0 0 e, zv s0 0 p] = [(0, zv s0 2 84), (1, zv s0 2 t), (2, zv s0 0 s), (3, zv s0 0 e), (4, zv s0 0 p)] from by rw [zl_2, zl_2, zl_0, zl_0, zl_0]; rfl) ?_
  unfold zt_X11_item at h
  refine z_aload_n dX11_item_0 rfl (j := 1) rfl ?_
  obtain ⟨hk0, h⟩ := h
  refine z_getcN Γ kfN_RX11_132 dX11_item_1 hk0.1 hk0.2.1 rfl ?_
  refine z_iload_n dX11_item_4 rfl (j := 2) rfl ?_
  obtain ⟨hi5, h⟩ := h
  refine z_iald Γ dX11_item_5 (by have := hk0.1; omega) hk0.2.2.2.2.2.2.2.2.2.2.1 (by decide) hi5 (v9 := M (t + 9) s) rfl ?_
  refine z_bipush dX11_item_6 (by decide) ?_
  refine z_icmp_ne (tgt := 17) (x' := w32 (M (t + 9) s)) (y' := 7) rfl (by decide) dX11_item_8 (by decide) (fun c8 => ?_) (fun c8 => ?_)
  · replace h := h.2 c8
    exact rt_lfew [0, 1, 2, 3, 4] rfl (zs_X11_item_17 Γ hd hok hs  h)
  · replace h := h.1 c8
    refine z_aload_n dX11_item_11 rfl (j := 0) rfl ?_
    refine z_iload dX11_item_12 (j := 4) rfl ?_
    refine z_callV Γ kk_X11_string kc_RX11_139 (As := [zv s0 0 p]) h (by omega) (by decide) (show (parseMethodDescriptor yX11_string.desc).map (fun q => q.parameters.length) = some 1 by decide +kernel) hok (Nat.zero_le _) dX11_item_14 (by decide) (hs 84 _ rfl) rfl rfl (fun _ h9 => nomatch h9) ?_
    clear h
    intro r14 M14 h
    show rt_Go _ _ _ _ _ _ _ _ _ _ _ _ 17 [(0, zv s0 2 84), (1, zv s0 2 t), (2, zv s0 0 s), (3, zv s0 0 e), (4, zv s0 0 p)] [] (zw s0 ca C S M14)
    exact rt_lfew [0, 1, 2, 3, 4] rfl (zs_X11_item_17 Γ hd hok hs  h)

abbrev zg_X11_blocks_12 (l : Launch) (s0 : State) (G : va_G) (ca : Nat → ClassId) (d : Nat) (C : Nat × Nat) (S : zS) (w0 : rt_Wd)  (v1 : Int) (v2 : Int) (v3 : Int) (v4 : Int) (v5 : Int) (v6 : Int) (v7 : Int)  (M : zM) (Q : Int → zM → Prop) (X : zM → Prop) : Prop := rt_Go l s0 G RX11 "blocks" cX11_blocks 18 (Option.none : Option FieldType) [] d w0 (zQ s0 ca 9 C S Q X) 12 [(0, zv s0 2 84), (1, zv s0 2 v1), (2, zv s0 0 v2), (3, zv s0 0 v3), (4, zv s0 0 v4), (5, zv s0 0 v5), (6, zv s0 0 v6), (7, zv s0 0 v7)] [] (zw s0 ca C S M)
abbrev zg_X11_blocks_41 (l : Launch) (s0 : State) (G : va_G) (ca : Nat → ClassId) (d : Nat) (C : Nat × Nat) (S : zS) (w0 : rt_Wd)  (v1 : Int) (v2 : Int) (v3 : Int) (v4 : Int) (v5 : Int) (v6 : Int) (v8 : Int) (v9 : Int) (k0 : Int) (M : zM) (Q : Int → zM → Prop) (X : zM → Prop) : Prop := rt_Go l s0 G RX11 "blocks" cX11_blocks 18 (Option.none : Option FieldType) [] d w0 (zQ s0 ca 9 C S Q X) 41 [(0, zv s0 2 84), (1, zv s0 2 v1), (2, zv s0 0 v2), (3, zv s0 0 v3), (4, zv s0 0 v4), (5, zv s0 0 v5), (6, zv s0 0 v6), (8, zv s0 0 v8), (9, zv s0 1 v9)] [zv s0 0 k0] (zw s0 ca C S M)
abbrev zg_X11_blocks_72 (l : Launch) (s0 : State) (G : va_G) (ca : Nat → ClassId) (d : Nat) (C : Nat × Nat) (S : zS) (w0 : rt_Wd)  (v1 : Int) (v2 : Int) (v3 : Int) (v4 : Int) (v5 : Int) (v6 : Int) (v7 : Int) (v8 : Int) (v9 : Int) (k0 : Int) (M : zM) (Q : Int → zM → Prop) (X : zM → Prop) : Prop := rt_Go l s0 G RX11 "blocks" cX11_blocks 18 (Option.none : Option FieldType) [] d w0 (zQ s0 ca 9 C S Q X) 72 [(0, zv s0 2 84), (1, zv s0 2 v1), (2, zv s0 0 v2), (3, zv s0 0 v3), (4, zv s0 0 v4), (5, zv s0 0 v5), (6, zv s0 0 v6), (7, zv s0 0 v7), (8, zv s0 0 v8), (9, zv s0 1 v9)] [zv s0 1 k0] (zw s0 ca C S M)
abbrev zg_X11_blocks_85 (l : Launch) (s0 : State) (G : va_G) (ca : Nat → ClassId) (d : Nat) (C : Nat × Nat) (S : zS) (w0 : rt_Wd)  (v1 : Int) (v2 : Int) (v3 : Int) (v4 : Int) (v5 : Int) (v6 : Int) (v7 : Int) (v8 : Int) (v9 : Int)  (M : zM) (Q : Int → zM → Prop) (X : zM → Prop) : Prop := rt_Go l s0 G RX11 "blocks" cX11_blocks 18 (Option.none : Option FieldType) [] d w0 (zQ s0 ca 9 C S Q X) 85 [(0, zv s0 2 84), (1, zv s0 2 v1), (2, zv s0 0 v2), (3, zv s0 0 v3), (4, zv s0 0 v4), (5, zv s0 0 v5), (6, zv s0 0 v6), (7, zv s0 0 v7), (8, zv s0 0 v8), (9, zv s0 1 v9)] [] (zw s0 ca C S M)
abbrev zg_X11_blocks_90 (l : Launch) (s0 : State) (G : va_G) (ca : Nat → ClassId) (d : Nat) (C : Nat × Nat) (S : zS) (w0 : rt_Wd)  (v1 : Int) (v2 : Int) (v3 : Int) (v4 : Int) (v5 : Int) (v6 : Int) (v7 : Int) (v8 : Int) (v9 : Int) (k0 : Int) (M : zM) (Q : Int → zM → Prop) (X : zM → Prop) : Prop := rt_Go l s0 G RX11 "blocks" cX11_blocks 18 (Option.none : Option FieldType) [] d w0 (zQ s0 ca 9 C S Q X) 90 [(0, zv s0 2 84), (1, zv s0 2 v1), (2, zv s0 0 v2), (3, zv s0 0 v3), (4, zv s0 0 v4), (5, zv s0 0 v5), (6, zv s0 0 v6), (7, zv s0 0 v7), (8, zv s0 0 v8), (9, zv s0 1 v9)] [zv s0 0 k0] (zw s0 ca C S M)
abbrev zg_X11_blocks_105 (l : Launch) (s0 : State) (G : va_G) (ca : Nat → ClassId) (d : Nat) (C : Nat × Nat) (S : zS) (w0 : rt_Wd)  (v1 : Int) (v2 : Int) (v3 : Int) (v4 : Int) (v5 : Int) (v6 : Int) (v7 : Int) (v9 : Int)  (M : zM) (Q : Int → zM → Prop) (X : zM → Prop) : Prop := rt_Go l s0 G RX11 "blocks" cX11_blocks 18 (Option.none : Option FieldType) [] d w0 (zQ s0 ca 9 C S Q X) 105 [(0, zv s0 2 84), (1, zv s0 2 v1), (2, zv s0 0 v2), (3, zv s0 0 v3), (4, zv s0 0 v4), (5, zv s0 0 v5), (6, zv s0 0 v6), (7, zv s0 0 v7), (9, zv s0 1 v9)] [] (zw s0 ca C S M)
abbrev zg_X11_blocks_117 (l : Launch) (s0 : State) (G : va_G) (ca : Nat → ClassId) (d : Nat) (C : Nat × Nat) (S : zS) (w0 : rt_Wd)  (v1 : Int) (v2 : Int) (v3 : Int) (v4 : Int) (v5 : Int) (v6 : Int) (v7 : Int) (v9 : Int) (k0 : Int) (M : zM) (Q : Int → zM → Prop) (X : zM → Prop) : Prop := rt_Go l s0 G RX11 "blocks" cX11_blocks 18 (Option.none : Option FieldType) [] d w0 (zQ s0 ca 9 C S Q X) 117 [(0, zv s0 2 84), (1, zv s0 2 v1), (2, zv s0 0 v2), (3, zv s0 0 v3), (4, zv s0 0 v4), (5, zv s0 0 v5), (6, zv s0 0 v6), (7, zv s0 0 v7), (9, zv s0 1 v9)] [zv s0 0 k0] (zw s0 ca C S M)
abbrev zg_X11_blocks_138 (l : Launch) (s0 : State) (G : va_G) (ca : Nat → ClassId) (d : Nat) (C : Nat × Nat) (S : zS) (w0 : rt_Wd)  (v1 : Int) (v2 : Int) (v3 : Int) (v4 : Int) (v5 : Int) (v6 : Int) (v7 : Int) (v9 : Int) (v12 : Int) (v13 : Int) (k0 : Int) (M : zM) (Q : Int → zM → Prop) (X : zM → Prop) : Prop := rt_Go l s0 G RX11 "blocks" cX11_blocks 18 (Option.none : Option FieldType) [] d w0 (zQ s0 ca 9 C S Q X) 138 [(0, zv s0 2 84), (1, zv s0 2 v1), (2, zv s0 0 v2), (3, zv s0 0 v3), (4, zv s0 0 v4), (5, zv s0 0 v5), (6, zv s0 0 v6), (7, zv s0 0 v7), (9, zv s0 1 v9), (12, zv s0 0 v12), (13, zv s0 0 v13)] [zv s0 1 k0] (zw s0 ca C S M)
abbrev zg_X11_blocks_153 (l : Launch) (s0 : State) (G : va_G) (ca : Nat → ClassId) (d : Nat) (C : Nat × Nat) (S : zS) (w0 : rt_Wd)  (v1 : Int) (v2 : Int) (v3 : Int) (v4 : Int) (v5 : Int) (v6 : Int) (v7 : Int) (v12 : Int) (v13 : Int) (v14 : Int) (k0 : Int) (M : zM) (Q : Int → zM → Prop) (X : zM → Prop) : Prop := rt_Go l s0 G RX11 "blocks" cX11_blocks 18 (Option.none : Option FieldType) [] d w0 (zQ s0 ca 9 C S Q X) 153 [(0, zv s0 2 84), (1, zv s0 2 v1), (2, zv s0 0 v2), (3, zv s0 0 v3), (4, zv s0 0 v4), (5, zv s0 0 v5), (6, zv s0 0 v6), (7, zv s0 0 v7), (12, zv s0 0 v12), (13, zv s0 0 v13), (14, zv s0 1 v14)] [zv s0 1 k0] (zw s0 ca C S M)
abbrev zg_X11_blocks_176 (l : Launch) (s0 : State) (G : va_G) (ca : Nat → ClassId) (d : Nat) (C : Nat × Nat) (S : zS) (w0 : rt_Wd)  (v1 : Int) (v2 : Int) (v3 : Int) (v4 : Int) (v5 : Int) (v6 : Int) (v7 : Int) (v9 : Int) (v12 : Int) (v13 : Int) (v14 : Int) (v16 : Int) (v17 : Int)  (M : zM) (Q : Int → zM → Prop) (X : zM → Prop) : Prop := rt_Go l s0 G RX11 "blocks" cX11_blocks 18 (Option.none : Option FieldType) [] d w0 (zQ s0 ca 9 C S Q X) 176 [(0, zv s0 2 84), (1, zv s0 2 v1), (2, zv s0 0 v2), (3, zv s0 0 v3), (4, zv s0 0 v4), (5, zv s0 0 v5), (6, zv s0 0 v6), (7, zv s0 0 v7), (9, zv s0 1 v9), (12, zv s0 0 v12), (13, zv s0 0 v13), (14, zv s0 1 v14), (16, zv s0 0 v16), (17, zv s0 0 v17)] [] (zw s0 ca C S M)
def zt_X11_blocks_153 (l : Launch) (s0 : State) (G : va_G) (ca : Nat → ClassId) (d : Nat) (C : Nat × Nat) (S : zS) (w0 : rt_Wd)  (v1 : Int) (v2 : Int) (v3 : Int) (v4 : Int) (v5 : Int) (v6 : Int) (v7 : Int) (v12 : Int) (v13 : Int) (v14 : Int) (k0 : Int) (M : zM) (Q : Int → zM → Prop) (X : zM → Prop) : Prop :=
  zg_X11_blocks_176 l s0 G ca d C S w0  v1 v2 v3 v4 v5 v6 v7 k0 v12 v13 v14 (M 84 16) 0 ((zu M 84 19 ((M 84 19) + k0))) Q X
set_option maxRecDepth 100000 in
theorem zs_X11_blocks_153 {l : Launch} {s0 : State} {a0 : Array Value} {G : va_G} {ca : Nat → ClassId} (Γ : rt_Γ l s0 a0 G ca) {d : Nat} {C : Nat × Nat} {S : zS} (hd : 1 ≤ d) (hok : zok C)  (hs : zSok S) {w0 : rt_Wd} {v1 : Int} {v2 : Int} {v3 : Int} {v4 : Int} {v5 : Int} {v6 : Int} {v7 : Int} {v12 : Int} {v13 : Int} {v14 : Int} {k0 : Int}  {M : zM} {Q : Int → zM → Prop} {X : zM → Prop} (h : zt_X11_blocks_153 l s0 G ca d C S w0  v1 v2 v3 v4 v5 v6 v7 v12 v13 v14 k0 M Q X) : zg_X11_blocks_153 l s0 G ca d C S w0  v1 v2 v3 v4 v5 v6 v7 v12 v13 v14 k0 M Q X := by
  unfold zt_X11_blocks_153 at h
  refine z_lstore (i := 9) (lv' := [(9, zv s0 1 k0), (0, zv s0 2 84), (1, zv s0 2 v1), (2, zv s0 0 v2), (3, zv s0 0 v3), (4, zv s0 0 v4), (5, zv s0 0 v5), (6, zv s0 0 v6), (7, zv s0 0 v7), (12, zv s0 0 v12), (13, zv s0 0 v13), (14, zv s0 1 v14)]) dX11_blocks_153 (by decide) (by simp [zv_cat0, zv_cat1, zv_cat2, zv_cats]) ?_
  refine z_aload_n dX11_blocks_155 rfl (j := 1) rfl ?_
  refine z_aload_n dX11_blocks_156 rfl (j := 1) rfl ?_
  refine z_get Γ kf_RX11_175 dX11_blocks_157 (by decide) (hs 84 _ rfl) rfl (by decide) (v9 := M 84 19) rfl ?_
  refine z_lload dX11_blocks_160 (j := 0) rfl ?_
  refine z_l2i dX11_blocks_162 ?_
  refine z_iadd dX11_blocks_163 ?_
  refine z_put0 Γ kp_RX11_175 dX11_blocks_164 (by decide) (hs 84 _ rfl) rfl (k9 := 19) rfl ?_
  refine z_aload_n dX11_blocks_167 rfl (j := 1) rfl ?_
  refine z_get Γ kf_RX11_99 dX11_blocks_168 (by decide) (hs 84 _ rfl) rfl (by decide) (v9 := M 84 16) ((zu_k (by decide)).trans rfl) ?_
  refine z_istore (i := 16) (lv' := [(16, zv s0 0 (M 84 16)), (9, zv s0 1 k0), (0, zv s0 2 84), (1, zv s0 2 v1), (2, zv s0 0 v2), (3, zv s0 0 v3), (4, zv s0 0 v4), (5, zv s0 0 v5), (6, zv s0 0 v6), (7, zv s0 0 v7), (12, zv s0 0 v12), (13, zv s0 0 v13), (14, zv s0 1 v14)]) dX11_blocks_171 (by decide) (by simp [zv_cat0, zv_cat1, zv_cat2, zv_cats]) ?_
  refine z_iconst dX11_blocks_173 ?_
  refine z_istore (i := 17) (lv' := [(17, zv s0 0 0), (16, zv s0 0 (M 84 16)), (9, zv s0 1 k0), (0, zv s0 2 84), (1, zv s0 2 v1), (2, zv s0 0 v2), (3, zv s0 0 v3), (4, zv s0 0 v4), (5, zv s0 0 v5), (6, zv s0 0 v6), (7, zv s0 0 v7), (12, zv s0 0 v12), (13, zv s0 0 v13), (14, zv s0 1 v14)]) dX11_blocks_174 (by decide) (by simp [zv_cat0, zv_cat1, zv_cat2, zv_cats]) ?_
  exact rt_lfew [3, 4, 5, 6, 7, 8, 9, 10, 2, 11, 12, 13, 1, 0] rfl h

def zt_X11_blocks_138 (l : Launch) (s0 : State) (G : va_G) (ca : Nat → ClassId) (d : Nat) (C : Nat × Nat) (S : zS) (w0 : rt_Wd)  (v1 : Int) (v2 : Int) (v3 : Int) (v4 : Int) (v5 : Int) (v6 : Int) (v7 : Int) (v9 : Int) (v12 : Int) (v13 : Int) (k0 : Int) (M : zM) (Q : Int → zM → Prop) (X : zM → Prop) : Prop :=
  zIf (w32 v12 = 0) (zt_X11_blocks_153 l s0 G ca d C S w0  v1 v2 v3 v4 v5 v6 v7 v12 v13 k0 v9 M Q X) (zt_X11_blocks_153 l s0 G ca d C S w0  v1 v2 v3 v4 v5 v6 v7 v12 v13 k0 (-v9) M Q X)
set_option maxRecDepth 100000 in
theorem zs_X11_blocks_138 {l : Launch} {s0 : State} {a0 : Array Value} {G : va_G} {ca : Nat → ClassId} (Γ : rt_Γ l s0 a0 G ca) {d : Nat} {C : Nat × Nat} {S : zS} (hd : 1 ≤ d) (hok : zok C)  (hs : zSok S) {w0 : rt_Wd} {v1 : Int} {v2 : Int} {v3 : Int} {v4 : Int} {v5 : Int} {v6 : Int} {v7 : Int} {v9 : Int} {v12 : Int} {v13 : Int} {k0 : Int}  {M : zM} {Q : Int → zM → Prop} {X : zM → Prop} (h : zt_X11_blocks_138 l s0 G ca d C S w0  v1 v2 v3 v4 v5 v6 v7 v9 v12 v13 k0 M Q X) : zg_X11_blocks_138 l s0 G ca d C S w0  v1 v2 v3 v4 v5 v6 v7 v9 v12 v13 k0 M Q X := by
  unfold zt_X11_blocks_138 at h
  refine z_lstore (i := 14) (lv' := [(14, zv s0 1 k0), (0, zv s0 2 84), (1, zv s0 2 v1), (2, zv s0 0 v2), (3, zv s0 0 v3), (4, zv s0 0 v4), (5, zv s0 0 v5), (6, zv s0 0 v6), (7, zv s0 0 v7), (9, zv s0 1 v9), (12, zv s0 0 v12), (13, zv s0 0 v13)]) dX11_blocks_138 (by decide) (by simp [zv_cat0, zv_cat1, zv_cat2, zv_cats]) ?_
  refine z_iload dX11_blocks_140 (j := 10) rfl ?_
  refine z_if_eq (tgt := 151) (x' := w32 v12) rfl dX11_blocks_142 (by decide) (fun c142 => ?_) (fun c142 => ?_)
  · replace h := h.1 c142
    refine z_lload dX11_blocks_151 (j := 9) rfl ?_
    exact rt_lfew [1, 2, 3, 4, 5, 6, 7, 8, 10, 11, 0] rfl (zs_X11_blocks_153 Γ hd hok hs  h)
  · replace h := h.2 c142
    refine z_lload dX11_blocks_145 (j := 9) rfl ?_
    refine z_lneg dX11_blocks_147 ?_
    refine rt_goto (tgt := 153) dX11_blocks_148 (by decide) ?_
    exact rt_lfew [1, 2, 3, 4, 5, 6, 7, 8, 10, 11, 0] rfl (zs_X11_blocks_153 Γ hd hok hs  h)

def zt_X11_blocks_117 (l : Launch) (s0 : State) (G : va_G) (ca : Nat → ClassId) (d : Nat) (C : Nat × Nat) (S : zS) (w0 : rt_Wd)  (v1 : Int) (v2 : Int) (v3 : Int) (v4 : Int) (v5 : Int) (v6 : Int) (v7 : Int) (v9 : Int) (k0 : Int) (M : zM) (Q : Int → zM → Prop) (X : zM → Prop) : Prop :=
  zIf (w32 k0 = 0) (zt_X11_blocks_138 l s0 G ca d C S w0  v1 v2 v3 v4 v5 v6 v7 v9 k0 (M 84 16) 0 M Q X) (zm_X11_varint l s0 G ca (d - 1) C S  M (fun r131 M131 => zt_X11_blocks_138 l s0 G ca d C S w0  v1 v2 v3 v4 v5 v6 v7 v9 k0 (M 84 16) r131 M131 Q X) X)
set_option maxRecDepth 100000 in
theorem zs_X11_blocks_117 {l : Launch} {s0 : State} {a0 : Array Value} {G : va_G} {ca : Nat → ClassId} (Γ : rt_Γ l s0 a0 G ca) {d : Nat} {C : Nat × Nat} {S : zS} (hd : 1 ≤ d) (hok : zok C)  (hs : zSok S) {w0 : rt_Wd} {v1 : Int} {v2 : Int} {v3 : Int} {v4 : Int} {v5 : Int} {v6 : Int} {v7 : Int} {v9 : Int} {k0 : Int}  {M : zM} {Q : Int → zM → Prop} {X : zM → Prop} (h : zt_X11_blocks_117 l s0 G ca d C S w0  v1 v2 v3 v4 v5 v6 v7 v9 k0 M Q X) : zg_X11_blocks_117 l s0 G ca d C S w0  v1 v2 v3 v4 v5 v6 v7 v9 k0 M Q X := by
  unfold zt_X11_blocks_117 at h
  refine z_istore (i := 12) (lv' := [(12, zv s0 0 k0), (0, zv s0 2 84), (1, zv s0 2 v1), (2, zv s0 0 v2), (3, zv s0 0 v3), (4, zv s0 0 v4), (5, zv s0 0 v5), (6, zv s0 0 v6), (7, zv s0 0 v7), (9, zv s0 1 v9)]) dX11_blocks_117 (by decide) (by simp [zv_cat0, zv_cat1, zv_cat2, zv_cats]) ?_
  refine z_aload_n dX11_blocks_119 rfl (j := 1) rfl ?_
  refine z_get Γ kf_RX11_99 dX11_blocks_120 (by decide) (hs 84 _ rfl) rfl (by decide) (v9 := M 84 16) rfl ?_
  refine z_istore (i := 13) (lv' := [(13, zv s0 0 (M 84 16)), (12, zv s0 0 k0), (0, zv s0 2 84), (1, zv s0 2 v1), (2, zv s0 0 v2), (3, zv s0 0 v3), (4, zv s0 0 v4), (5, zv s0 0 v5), (6, zv s0 0 v6), (7, zv s0 0 v7), (9, zv s0 1 v9)]) dX11_blocks_123 (by decide) (by simp [zv_cat0, zv_cat1, zv_cat2, zv_cats]) ?_
  refine z_iload dX11_blocks_125 (j := 1) rfl ?_
  refine z_if_eq (tgt := 137) (x' := w32 k0) rfl dX11_blocks_127 (by decide) (fun c127 => ?_) (fun c127 => ?_)
  · replace h := h.1 c127
    refine z_lconst (v := 0) dX11_blocks_137 (by decide) ?_
    exact rt_lfew [2, 3, 4, 5, 6, 7, 8, 9, 10, 1, 0] rfl (zs_X11_blocks_138 Γ hd hok hs  h)
  · replace h := h.2 c127
    refine z_aload_n dX11_blocks_130 rfl (j := 2) rfl ?_
    refine z_callV Γ kk_X11_varint kc_RX11_118 (As := []) h (by omega) (by decide) (show (parseMethodDescriptor yX11_varint.desc).map (fun q => q.parameters.length) = some 0 by decide +kernel) hok (Nat.zero_le _) dX11_blocks_131 (by decide) (hs 84 _ rfl) rfl rfl (fun _ h9 => nomatch h9) ?_
    clear h
    intro r131 M131 h
    show rt_Go _ _ _ _ _ _ _ _ _ _ _ _ 134 [(13, zv s0 0 (M 84 16)), (12, zv s0 0 k0), (0, zv s0 2 84), (1, zv s0 2 v1), (2, zv s0 0 v2), (3, zv s0 0 v3), (4, zv s0 0 v4), (5, zv s0 0 v5), (6, zv s0 0 v6), (7, zv s0 0 v7), (9, zv s0 1 v9)] [zv s0 1 r131] (zw s0 ca C S M131)
    refine rt_goto (tgt := 138) dX11_blocks_134 (by decide) ?_
    exact rt_lfew [2, 3, 4, 5, 6, 7, 8, 9, 10, 1, 0] rfl (zs_X11_blocks_138 Γ hd hok hs  h)

def zt_X11_blocks_105 (l : Launch) (s0 : State) (G : va_G) (ca : Nat → ClassId) (d : Nat) (C : Nat × Nat) (S : zS) (w0 : rt_Wd)  (v1 : Int) (v2 : Int) (v3 : Int) (v4 : Int) (v5 : Int) (v6 : Int) (v7 : Int) (v9 : Int)  (M : zM) (Q : Int → zM → Prop) (X : zM → Prop) : Prop :=
  zIf (0 ≤ w64 v9) (zt_X11_blocks_117 l s0 G ca d C S w0  v1 v2 v3 v4 v5 v6 v7 v9 0 M Q X) (zt_X11_blocks_117 l s0 G ca d C S w0  v1 v2 v3 v4 v5 v6 v7 v9 1 M Q X)
set_option maxRecDepth 100000 in
theorem zs_X11_blocks_105 {l : Launch} {s0 : State} {a0 : Array Value} {G : va_G} {ca : Nat → ClassId} (Γ : rt_Γ l s0 a0 G ca) {d : Nat} {C : Nat × Nat} {S : zS} (hd : 1 ≤ d) (hok : zok C)  (hs : zSok S) {w0 : rt_Wd} {v1 : Int} {v2 : Int} {v3 : Int} {v4 : Int} {v5 : Int} {v6 : Int} {v7 : Int} {v9 : Int}   {M : zM} {Q : Int → zM → Prop} {X : zM → Prop} (h : zt_X11_blocks_105 l s0 G ca d C S w0  v1 v2 v3 v4 v5 v6 v7 v9 M Q X) : zg_X11_blocks_105 l s0 G ca d C S w0  v1 v2 v3 v4 v5 v6 v7 v9 M Q X := by
  unfold zt_X11_blocks_105 at h
  refine z_lload dX11_blocks_105 (j := 8) rfl ?_
  refine z_lconst (v := 0) dX11_blocks_107 (by decide) ?_
  refine z_lif_ge (tgt := 116) (x' := w64 v9) (y' := 0) rfl (by decide) dX11_blocks_108 dX11_blocks_109 (by decide) (fun c108 => ?_) (fun c108 => ?_)
  · replace h := h.1 c108
    refine z_iconst dX11_blocks_116 ?_
    exact rt_lfew [0, 1, 2, 3, 4, 5, 6, 7, 8] rfl (zs_X11_blocks_117 Γ hd hok hs  h)
  · replace h := h.2 c108
    refine z_iconst dX11_blocks_112 ?_
    refine rt_goto (tgt := 117) dX11_blocks_113 (by decide) ?_
    exact rt_lfew [0, 1, 2, 3, 4, 5, 6, 7, 8] rfl (zs_X11_blocks_117 Γ hd hok hs  h)

def zt_X11_blocks_90 (l : Launch) (s0 : State) (G : va_G) (ca : Nat → ClassId) (d : Nat) (C : Nat × Nat) (S : zS) (w0 : rt_Wd)  (v1 : Int) (v2 : Int) (v3 : Int) (v4 : Int) (v5 : Int) (v6 : Int) (v7 : Int) (v8 : Int) (v9 : Int) (k0 : Int) (M : zM) (Q : Int → zM → Prop) (X : zM → Prop) : Prop :=
  zIf (w32 k0 = 0) (zt_X11_blocks_105 l s0 G ca d C S w0  v1 v2 v3 v4 v5 v6 v7 v9 M Q X) (zm_X11_failBytes l s0 G ca (d - 1) C S 6 v8 M (fun r102 M102 => zt_X11_blocks_105 l s0 G ca d C S w0  v1 v2 v3 v4 v5 v6 v7 v9 M102 Q X) X)
set_option maxRecDepth 100000 in
theorem zs_X11_blocks_90 {l : Launch} {s0 : State} {a0 : Array Value} {G : va_G} {ca : Nat → ClassId} (Γ : rt_Γ l s0 a0 G ca) {d : Nat} {C : Nat × Nat} {S : zS} (hd : 1 ≤ d) (hok : zok C)  (hs : zSok S) {w0 : rt_Wd} {v1 : Int} {v2 : Int} {v3 : Int} {v4 : Int} {v5 : Int} {v6 : Int} {v7 : Int} {v8 : Int} {v9 : Int} {k0 : Int}  {M : zM} {Q : Int → zM → Prop} {X : zM → Prop} (h : zt_X11_blocks_90 l s0 G ca d C S w0  v1 v2 v3 v4 v5 v6 v7 v8 v9 k0 M Q X) : zg_X11_blocks_90 l s0 G ca d C S w0  v1 v2 v3 v4 v5 v6 v7 v8 v9 k0 M Q X := by
  unfold zt_X11_blocks_90 at h
  refine z_istore (i := 11) (lv' := [(11, zv s0 0 k0), (0, zv s0 2 84), (1, zv s0 2 v1), (2, zv s0 0 v2), (3, zv s0 0 v3), (4, zv s0 0 v4), (5, zv s0 0 v5), (6, zv s0 0 v6), (7, zv s0 0 v7), (8, zv s0 0 v8), (9, zv s0 1 v9)]) dX11_blocks_90 (by decide) (by simp [zv_cat0, zv_cat1, zv_cat2, zv_cats]) ?_
  refine z_iload dX11_blocks_92 (j := 0) rfl ?_
  refine z_if_eq (tgt := 105) (x' := w32 k0) rfl dX11_blocks_94 (by decide) (fun c94 => ?_) (fun c94 => ?_)
  · replace h := h.1 c94
    exact rt_lfew [1, 2, 3, 4, 5, 6, 7, 8, 10] rfl (zs_X11_blocks_105 Γ hd hok hs  h)
  · replace h := h.2 c94
    refine z_aload_n dX11_blocks_97 rfl (j := 1) rfl ?_
    refine z_bipush dX11_blocks_98 (by decide) ?_
    refine z_iload dX11_blocks_100 (j := 9) rfl ?_
    refine z_callV Γ kk_X11_failBytes kc_RX11_102 (As := [zv s0 0 6, zv s0 0 v8]) h (by omega) (by decide) (show (parseMethodDescriptor yX11_failBytes.desc).map (fun q => q.parameters.length) = some 2 by decide +kernel) hok (Nat.zero_le _) dX11_blocks_102 (by decide) (hs 84 _ rfl) rfl rfl (fun _ h9 => nomatch h9) ?_
    clear h
    intro r102 M102 h
    show rt_Go _ _ _ _ _ _ _ _ _ _ _ _ 105 [(11, zv s0 0 k0), (0, zv s0 2 84), (1, zv s0 2 v1), (2, zv s0 0 v2), (3, zv s0 0 v3), (4, zv s0 0 v4), (5, zv s0 0 v5), (6, zv s0 0 v6), (7, zv s0 0 v7), (8, zv s0 0 v8), (9, zv s0 1 v9)] [] (zw s0 ca C S M102)
    exact rt_lfew [1, 2, 3, 4, 5, 6, 7, 8, 10] rfl (zs_X11_blocks_105 Γ hd hok hs  h)

def zt_X11_blocks_85 (l : Launch) (s0 : State) (G : va_G) (ca : Nat → ClassId) (d : Nat) (C : Nat × Nat) (S : zS) (w0 : rt_Wd)  (v1 : Int) (v2 : Int) (v3 : Int) (v4 : Int) (v5 : Int) (v6 : Int) (v7 : Int) (v8 : Int) (v9 : Int)  (M : zM) (Q : Int → zM → Prop) (X : zM → Prop) : Prop :=
  zt_X11_blocks_90 l s0 G ca d C S w0  v1 v2 v3 v4 v5 v6 v7 v8 v9 1 M Q X
set_option maxRecDepth 100000 in
theorem zs_X11_blocks_85 {l : Launch} {s0 : State} {a0 : Array Value} {G : va_G} {ca : Nat → ClassId} (Γ : rt_Γ l s0 a0 G ca) {d : Nat} {C : Nat × Nat} {S : zS} (hd : 1 ≤ d) (hok : zok C)  (hs : zSok S) {w0 : rt_Wd} {v1 : Int} {v2 : Int} {v3 : Int} {v4 : Int} {v5 : Int} {v6 : Int} {v7 : Int} {v8 : Int} {v9 : Int}   {M : zM} {Q : Int → zM → Prop} {X : zM → Prop} (h : zt_X11_blocks_85 l s0 G ca d C S w0  v1 v2 v3 v4 v5 v6 v7 v8 v9 M Q X) : zg_X11_blocks_85 l s0 G ca d C S w0  v1 v2 v3 v4 v5 v6 v7 v8 v9 M Q X := by
  unfold zt_X11_blocks_85 at h
  refine z_iconst dX11_blocks_85 ?_
  refine rt_goto (tgt := 90) dX11_blocks_86 (by decide) ?_
  exact rt_lfew [0, 1, 2, 3, 4, 5, 6, 7, 8, 9] rfl (zs_X11_blocks_90 Γ hd hok hs  h)

def zt_X11_blocks_72 (l : Launch) (s0 : State) (G : va_G) (ca : Nat → ClassId) (d : Nat) (C : Nat × Nat) (S : zS) (w0 : rt_Wd)  (v1 : Int) (v2 : Int) (v3 : Int) (v4 : Int) (v5 : Int) (v6 : Int) (v7 : Int) (v8 : Int) (v9 : Int) (k0 : Int) (M : zM) (Q : Int → zM → Prop) (X : zM → Prop) : Prop :=
  zIf (w64 k0 ≤ w64 (2000 - (w32 (M 84 19)))) (zt_X11_blocks_90 l s0 G ca d C S w0  v1 v2 v3 v4 v5 v6 v7 v8 v9 0 M Q X) (zt_X11_blocks_85 l s0 G ca d C S w0  v1 v2 v3 v4 v5 v6 v7 v8 v9 M Q X)
set_option maxRecDepth 100000 in
theorem zs_X11_blocks_72 {l : Launch} {s0 : State} {a0 : Array Value} {G : va_G} {ca : Nat → ClassId} (Γ : rt_Γ l s0 a0 G ca) {d : Nat} {C : Nat × Nat} {S : zS} (hd : 1 ≤ d) (hok : zok C)  (hs : zSok S) {w0 : rt_Wd} {v1 : Int} {v2 : Int} {v3 : Int} {v4 : Int} {v5 : Int} {v6 : Int} {v7 : Int} {v8 : Int} {v9 : Int} {k0 : Int}  {M : zM} {Q : Int → zM → Prop} {X : zM → Prop} (h : zt_X11_blocks_72 l s0 G ca d C S w0  v1 v2 v3 v4 v5 v6 v7 v8 v9 k0 M Q X) : zg_X11_blocks_72 l s0 G ca d C S w0  v1 v2 v3 v4 v5 v6 v7 v8 v9 k0 M Q X := by
  unfold zt_X11_blocks_72 at h
  refine rt_ldc2 Γ dX11_blocks_72 kv_RX11_173 ?_
  show rt_Go _ _ _ _ _ _ _ _ _ _ _ _ 75 [(0, zv s0 2 84), (1, zv s0 2 v1), (2, zv s0 0 v2), (3, zv s0 0 v3), (4, zv s0 0 v4), (5, zv s0 0 v5), (6, zv s0 0 v6), (7, zv s0 0 v7), (8, zv s0 0 v8), (9, zv s0 1 v9)] [zv s0 1 2000, zv s0 1 k0] _
  refine z_aload_n dX11_blocks_75 rfl (j := 0) rfl ?_
  refine z_get Γ kf_RX11_175 dX11_blocks_76 (by decide) (hs 84 _ rfl) rfl (by decide) (v9 := M 84 19) rfl ?_
  refine z_i2l dX11_blocks_79 ?_
  refine z_lsub dX11_blocks_80 ?_
  refine z_lif_le (tgt := 89) (x' := w64 k0) (y' := w64 (2000 - (w32 (M 84 19)))) rfl rfl dX11_blocks_81 dX11_blocks_82 (by decide) (fun c81 => ?_) (fun c81 => ?_)
  · replace h := h.1 c81
    refine z_iconst dX11_blocks_89 ?_
    exact rt_lfew [0, 1, 2, 3, 4, 5, 6, 7, 8, 9] rfl (zs_X11_blocks_90 Γ hd hok hs  h)
  · replace h := h.2 c81
    exact rt_lfew [0, 1, 2, 3, 4, 5, 6, 7, 8, 9] rfl (zs_X11_blocks_85 Γ hd hok hs  h)

def zt_X11_blocks_41 (l : Launch) (s0 : State) (G : va_G) (ca : Nat → ClassId) (d : Nat) (C : Nat × Nat) (S : zS) (w0 : rt_Wd)  (v1 : Int) (v2 : Int) (v3 : Int) (v4 : Int) (v5 : Int) (v6 : Int) (v8 : Int) (v9 : Int) (k0 : Int) (M : zM) (Q : Int → zM → Prop) (X : zM → Prop) : Prop :=
  zIf (w32 k0 = 0) (zg_X11_blocks_12 l s0 G ca d C S w0  v1 v2 v3 v4 v5 v6 k0 M Q X) (zIf (w64 v9 = ((-9223372036854775808))) (zt_X11_blocks_85 l s0 G ca d C S w0  v1 v2 v3 v4 v5 v6 k0 v8 v9 M Q X) (zIf (0 ≤ w64 v9) (zt_X11_blocks_72 l s0 G ca d C S w0  v1 v2 v3 v4 v5 v6 k0 v8 v9 v9 M Q X) (zt_X11_blocks_72 l s0 G ca d C S w0  v1 v2 v3 v4 v5 v6 k0 v8 v9 (-v9) M Q X)))
set_option maxRecDepth 100000 in
theorem zs_X11_blocks_41 {l : Launch} {s0 : State} {a0 : Array Value} {G : va_G} {ca : Nat → ClassId} (Γ : rt_Γ l s0 a0 G ca) {d : Nat} {C : Nat × Nat} {S : zS} (hd : 1 ≤ d) (hok : zok C)  (hs : zSok S) {w0 : rt_Wd} {v1 : Int} {v2 : Int} {v3 : Int} {v4 : Int} {v5 : Int} {v6 : Int} {v8 : Int} {v9 : Int} {k0 : Int}  {M : zM} {Q : Int → zM → Prop} {X : zM → Prop} (h : zt_X11_blocks_41 l s0 G ca d C S w0  v1 v2 v3 v4 v5 v6 v8 v9 k0 M Q X) : zg_X11_blocks_41 l s0 G ca d C S w0  v1 v2 v3 v4 v5 v6 v8 v9 k0 M Q X := by
  unfold zt_X11_blocks_41 at h
  refine z_istore (i := 7) (lv' := [(7, zv s0 0 k0), (0, zv s0 2 84), (1, zv s0 2 v1), (2, zv s0 0 v2), (3, zv s0 0 v3), (4, zv s0 0 v4), (5, zv s0 0 v5), (6, zv s0 0 v6), (8, zv s0 0 v8), (9, zv s0 1 v9)]) dX11_blocks_41 (by decide) (by simp [zv_cat0, zv_cat1, zv_cat2, zv_cats]) ?_
  refine z_iload dX11_blocks_43 (j := 0) rfl ?_
  refine z_if_eq (tgt := 235) (x' := w32 k0) rfl dX11_blocks_45 (by decide) (fun c45 => ?_) (fun c45 => ?_)
  · replace h := h.1 c45
    refine rt_goto (tgt := 12) dX11_blocks_235 (by decide) ?_
    exact rt_lfew [1, 2, 3, 4, 5, 6, 7, 0] rfl h
  · replace h := h.2 c45
    refine z_lload dX11_blocks_48 (j := 9) rfl ?_
    refine rt_ldc2 Γ dX11_blocks_50 kv_RX11_171 ?_
    show rt_Go _ _ _ _ _ _ _ _ _ _ _ _ 53 [(7, zv s0 0 k0), (0, zv s0 2 84), (1, zv s0 2 v1), (2, zv s0 0 v2), (3, zv s0 0 v3), (4, zv s0 0 v4), (5, zv s0 0 v5), (6, zv s0 0 v6), (8, zv s0 0 v8), (9, zv s0 1 v9)] [zv s0 1 ((-9223372036854775808)), zv s0 1 v9] _
    refine z_lif_eq (tgt := 85) (x' := w64 v9) (y' := ((-9223372036854775808))) rfl (by decide) dX11_blocks_53 dX11_blocks_54 (by decide) (fun c53 => ?_) (fun c53 => ?_)
    · replace h := h.1 c53
      exact rt_lfew [1, 2, 3, 4, 5, 6, 7, 0, 8, 9] rfl (zs_X11_blocks_85 Γ hd hok hs  h)
    · replace h := h.2 c53
      refine z_lload dX11_blocks_57 (j := 9) rfl ?_
      refine z_lconst (v := 0) dX11_blocks_59 (by decide) ?_
      refine z_lif_ge (tgt := 70) (x' := w64 v9) (y' := 0) rfl (by decide) dX11_blocks_60 dX11_blocks_61 (by decide) (fun c60 => ?_) (fun c60 => ?_)
      · replace h := h.1 c60
        refine z_lload dX11_blocks_70 (j := 9) rfl ?_
        exact rt_lfew [1, 2, 3, 4, 5, 6, 7, 0, 8, 9] rfl (zs_X11_blocks_72 Γ hd hok hs  h)
      · replace h := h.2 c60
        refine z_lload dX11_blocks_64 (j := 9) rfl ?_
        refine z_lneg dX11_blocks_66 ?_
        refine rt_goto (tgt := 72) dX11_blocks_67 (by decide) ?_
        exact rt_lfew [1, 2, 3, 4, 5, 6, 7, 0, 8, 9] rfl (zs_X11_blocks_72 Γ hd hok hs  h)

def zt_X11_blocks_12 (l : Launch) (s0 : State) (G : va_G) (ca : Nat → ClassId) (d : Nat) (C : Nat × Nat) (S : zS) (w0 : rt_Wd)  (v1 : Int) (v2 : Int) (v3 : Int) (v4 : Int) (v5 : Int) (v6 : Int) (v7 : Int)  (M : zM) (Q : Int → zM → Prop) (X : zM → Prop) : Prop :=
  zIf (w32 v7 = 0) (zIf (w32 v4 = 0) (Q 0 M) (zm_X11_insert l s0 G ca (d - 1) C S v5 v6 M (fun r248 M248 => zm_X11_putVarint l s0 G ca (d - 1) C S 0 M248 (fun r253 M253 => Q 0 M253) X) X)) (zm_X11_varint l s0 G ca (d - 1) C S  M (fun r24 M24 => zIf (w64 r24 = 0) (zt_X11_blocks_41 l s0 G ca d C S w0  v1 v2 v3 v4 v5 v6 (M 84 16) r24 0 M24 Q X) (zt_X11_blocks_41 l s0 G ca d C S w0  v1 v2 v3 v4 v5 v6 (M 84 16) r24 1 M24 Q X)) X)
set_option maxRecDepth 100000 in
theorem zs_X11_blocks_12 {l : Launch} {s0 : State} {a0 : Array Value} {G : va_G} {ca : Nat → ClassId} (Γ : rt_Γ l s0 a0 G ca) {d : Nat} {C : Nat × Nat} {S : zS} (hd : 1 ≤ d) (hok : zok C)  (hs : zSok S) {w0 : rt_Wd} {v1 : Int} {v2 : Int} {v3 : Int} {v4 : Int} {v5 : Int} {v6 : Int} {v7 : Int}   {M : zM} {Q : Int → zM → Prop} {X : zM → Prop} (h : zt_X11_blocks_12 l s0 G ca d C S w0  v1 v2 v3 v4 v5 v6 v7 M Q X) : zg_X11_blocks_12 l s0 G ca d C S w0  v1 v2 v3 v4 v5 v6 v7 M Q X := by
  unfold zt_X11_blocks_12 at h
  refine z_iload dX11_blocks_12 (j := 7) rfl ?_
  refine z_if_eq (tgt := 238) (x' := w32 v7) rfl dX11_blocks_14 (by decide) (fun c14 => ?_) (fun c14 => ?_)
  · replace h := h.1 c14
    refine z_iload dX11_blocks_238 (j := 4) rfl ?_
    refine z_if_eq (tgt := 256) (x' := w32 v4) rfl dX11_blocks_240 (by decide) (fun c240 => ?_) (fun c240 => ?_)
    · replace h := h.1 c240
      exact z_vret dX11_blocks_256 rfl h
    · replace h := h.2 c240
      refine z_aload_n dX11_blocks_243 rfl (j := 0) rfl ?_
      refine z_iload dX11_blocks_244 (j := 5) rfl ?_
      refine z_iload dX11_blocks_246 (j := 6) rfl ?_
      refine z_callV Γ kk_X11_insert kc_RX11_181 (As := [zv s0 0 v5, zv s0 0 v6]) h (by omega) (by decide) (show (parseMethodDescriptor yX11_insert.desc).map (fun q => q.parameters.length) = some 2 by decide +kernel) hok (Nat.zero_le _) dX11_blocks_248 (by decide) (hs 84 _ rfl) rfl rfl (fun _ h9 => nomatch h9) ?_
      clear h
      intro r248 M248 h
      show rt_Go _ _ _ _ _ _ _ _ _ _ _ _ 251 [(0, zv s0 2 84), (1, zv s0 2 v1), (2, zv s0 0 v2), (3, zv s0 0 v3), (4, zv s0 0 v4), (5, zv s0 0 v5), (6, zv s0 0 v6), (7, zv s0 0 v7)] [] (zw s0 ca C S M248)
      refine z_aload_n dX11_blocks_251 rfl (j := 0) rfl ?_
      refine z_lconst (v := 0) dX11_blocks_252 (by decide) ?_
      refine z_callV Γ kk_X11_putVarint kc_RX11_126 (As := [zv s0 1 0]) h (by omega) (by decide) (show (parseMethodDescriptor yX11_putVarint.desc).map (fun q => q.parameters.length) = some 1 by decide +kernel) hok (Nat.zero_le _) dX11_blocks_253 (by decide) (hs 84 _ rfl) rfl rfl (fun _ h9 => nomatch h9) ?_
      clear h
      intro r253 M253 h
      show rt_Go _ _ _ _ _ _ _ _ _ _ _ _ 256 [(0, zv s0 2 84), (1, zv s0 2 v1), (2, zv s0 0 v2), (3, zv s0 0 v3), (4, zv s0 0 v4), (5, zv s0 0 v5), (6, zv s0 0 v6), (7, zv s0 0 v7)] [] (zw s0 ca C S M253)
      exact z_vret dX11_blocks_256 rfl h
  · replace h := h.2 c14
    refine z_aload_n dX11_blocks_17 rfl (j := 0) rfl ?_
    refine z_get Γ kf_RX11_99 dX11_blocks_18 (by decide) (hs 84 _ rfl) rfl (by decide) (v9 := M 84 16) rfl ?_
    refine z_istore (i := 8) (lv' := [(8, zv s0 0 (M 84 16)), (0, zv s0 2 84), (1, zv s0 2 v1), (2, zv s0 0 v2), (3, zv s0 0 v3), (4, zv s0 0 v4), (5, zv s0 0 v5), (6, zv s0 0 v6), (7, zv s0 0 v7)]) dX11_blocks_21 (by decide) (by simp [zv_cat0, zv_cat1, zv_cat2, zv_cats]) ?_
    refine z_aload_n dX11_blocks_23 rfl (j := 1) rfl ?_
    refine z_callV Γ kk_X11_varint kc_RX11_118 (As := []) h (by omega) (by decide) (show (parseMethodDescriptor yX11_varint.desc).map (fun q => q.parameters.length) = some 0 by decide +kernel) hok (Nat.zero_le _) dX11_blocks_24 (by decide) (hs 84 _ rfl) rfl rfl (fun _ h9 => nomatch h9) ?_
    clear h
    intro r24 M24 h
    show rt_Go _ _ _ _ _ _ _ _ _ _ _ _ 27 [(8, zv s0 0 (M 84 16)), (0, zv s0 2 84), (1, zv s0 2 v1), (2, zv s0 0 v2), (3, zv s0 0 v3), (4, zv s0 0 v4), (5, zv s0 0 v5), (6, zv s0 0 v6), (7, zv s0 0 v7)] [zv s0 1 r24] (zw s0 ca C S M24)
    refine z_lstore (i := 9) (lv' := [(9, zv s0 1 r24), (8, zv s0 0 (M 84 16)), (0, zv s0 2 84), (1, zv s0 2 v1), (2, zv s0 0 v2), (3, zv s0 0 v3), (4, zv s0 0 v4), (5, zv s0 0 v5), (6, zv s0 0 v6), (7, zv s0 0 v7)]) dX11_blocks_27 (by decide) (by simp [zv_cat0, zv_cat1, zv_cat2, zv_cats]) ?_
    refine z_lload dX11_blocks_29 (j := 0) rfl ?_
    refine z_lconst (v := 0) dX11_blocks_31 (by decide) ?_
    refine z_lif_eq (tgt := 40) (x' := w64 r24) (y' := 0) rfl (by decide) dX11_blocks_32 dX11_blocks_33 (by decide) (fun c32 => ?_) (fun c32 => ?_)
    · replace h := h.1 c32
      refine z_iconst dX11_blocks_40 ?_
      exact rt_lfew [2, 3, 4, 5, 6, 7, 8, 1, 0] rfl (zs_X11_blocks_41 Γ hd hok hs  h)
    · replace h := h.2 c32
      refine z_iconst dX11_blocks_36 ?_
      refine rt_goto (tgt := 41) dX11_blocks_37 (by decide) ?_
      exact rt_lfew [2, 3, 4, 5, 6, 7, 8, 1, 0] rfl (zs_X11_blocks_41 Γ hd hok hs  h)

def zt_X11_blocks_176 (l : Launch) (s0 : State) (G : va_G) (ca : Nat → ClassId) (d : Nat) (C : Nat × Nat) (S : zS) (w0 : rt_Wd)  (v1 : Int) (v2 : Int) (v3 : Int) (v4 : Int) (v5 : Int) (v6 : Int) (v7 : Int) (v9 : Int) (v12 : Int) (v13 : Int) (v14 : Int) (v16 : Int) (v17 : Int)  (M : zM) (Q : Int → zM → Prop) (X : zM → Prop) : Prop :=
  zIf (w64 v9 ≤ w64 (w32 v17)) (zIf (w32 v12 = 0) (zg_X11_blocks_12 l s0 G ca d C S w0  v1 v2 v3 v4 v5 (v6 + v9) v7 M Q X) (zIf (w64 v14 = w64 (w32 ((M 84 16) - v16))) (zg_X11_blocks_12 l s0 G ca d C S w0  v1 v2 v3 v4 v5 (v6 + v9) v7 M Q X) (zm_X11_failBytes l s0 G ca (d - 1) C S 6 v13 M (fun r224 M224 => zg_X11_blocks_12 l s0 G ca d C S w0  v1 v2 v3 v4 v5 (v6 + v9) v7 M224 Q X) X))) (zm_X11_item l s0 G ca (d - 1) C S v1 v2 v3 v4 M (fun r191 M191 => zg_X11_blocks_176 l s0 G ca d C S w0  v1 v2 v3 v4 v5 v6 v7 v9 v12 v13 v14 v16 (v17 + 1) M191 Q X) X)
set_option maxRecDepth 100000 in
theorem zs_X11_blocks_176 {l : Launch} {s0 : State} {a0 : Array Value} {G : va_G} {ca : Nat → ClassId} (Γ : rt_Γ l s0 a0 G ca) {d : Nat} {C : Nat × Nat} {S : zS} (hd : 1 ≤ d) (hok : zok C)  (hs : zSok S) {w0 : rt_Wd} {v1 : Int} {v2 : Int} {v3 : Int} {v4 : Int} {v5 : Int} {v6 : Int} {v7 : Int} {v9 : Int} {v12 : Int} {v13 : Int} {v14 : Int} {v16 : Int} {v17 : Int}   {M : zM} {Q : Int → zM → Prop} {X : zM → Prop} (h : zt_X11_blocks_176 l s0 G ca d C S w0  v1 v2 v3 v4 v5 v6 v7 v9 v12 v13 v14 v16 v17 M Q X) : zg_X11_blocks_176 l s0 G ca d C S w0  v1 v2 v3 v4 v5 v6 v7 v9 v12 v13 v14 v16 v17 M Q X := by
  unfold zt_X11_blocks_176 at h
  refine z_iload dX11_blocks_176 (j := 13) rfl ?_
  refine z_i2l dX11_blocks_178 ?_
  refine z_lload dX11_blocks_179 (j := 8) rfl ?_
  refine z_lif_ge (tgt := 200) (x' := w64 (w32 v17)) (y' := w64 v9) rfl rfl dX11_blocks_181 dX11_blocks_182 (by decide) (fun c181 => ?_) (fun c181 => ?_)
  · replace h := h.1 c181
    refine z_iload dX11_blocks_200 (j := 9) rfl ?_
    refine z_if_eq (tgt := 227) (x' := w32 v12) rfl dX11_blocks_202 (by decide) (fun c202 => ?_) (fun c202 => ?_)
    · replace h := h.1 c202
      refine z_iload dX11_blocks_227 (j := 6) rfl ?_
      refine z_lload dX11_blocks_229 (j := 8) rfl ?_
      refine z_l2i dX11_blocks_231 ?_
      refine z_iadd dX11_blocks_232 ?_
      refine z_istore (i := 6) (lv' := [(6, zv s0 0 (v6 + v9)), (0, zv s0 2 84), (1, zv s0 2 v1), (2, zv s0 0 v2), (3, zv s0 0 v3), (4, zv s0 0 v4), (5, zv s0 0 v5), (7, zv s0 0 v7), (9, zv s0 1 v9), (12, zv s0 0 v12), (13, zv s0 0 v13), (14, zv s0 1 v14), (16, zv s0 0 v16), (17, zv s0 0 v17)]) dX11_blocks_233 (by decide) (by simp [zv_cat0, zv_cat1, zv_cat2, zv_cats]) ?_
      refine rt_goto (tgt := 12) dX11_blocks_235 (by decide) ?_
      exact rt_lfew [1, 2, 3, 4, 5, 6, 0, 7] rfl h
    · replace h := h.2 c202
      refine z_lload dX11_blocks_205 (j := 11) rfl ?_
      refine z_aload_n dX11_blocks_207 rfl (j := 0) rfl ?_
      refine z_get Γ kf_RX11_99 dX11_blocks_208 (by decide) (hs 84 _ rfl) rfl (by decide) (v9 := M 84 16) rfl ?_
      refine z_iload dX11_blocks_211 (j := 12) rfl ?_
      refine z_isub dX11_blocks_213 ?_
      refine z_i2l dX11_blocks_214 ?_
      refine z_lif_eq (tgt := 227) (x' := w64 v14) (y' := w64 (w32 ((M 84 16) - v16))) rfl rfl dX11_blocks_215 dX11_blocks_216 (by decide) (fun c215 => ?_) (fun c215 => ?_)
      · replace h := h.1 c215
        refine z_iload dX11_blocks_227 (j := 6) rfl ?_
        refine z_lload dX11_blocks_229 (j := 8) rfl ?_
        refine z_l2i dX11_blocks_231 ?_
        refine z_iadd dX11_blocks_232 ?_
        refine z_istore (i := 6) (lv' := [(6, zv s0 0 (v6 + v9)), (0, zv s0 2 84), (1, zv s0 2 v1), (2, zv s0 0 v2), (3, zv s0 0 v3), (4, zv s0 0 v4), (5, zv s0 0 v5), (7, zv s0 0 v7), (9, zv s0 1 v9), (12, zv s0 0 v12), (13, zv s0 0 v13), (14, zv s0 1 v14), (16, zv s0 0 v16), (17, zv s0 0 v17)]) dX11_blocks_233 (by decide) (by simp [zv_cat0, zv_cat1, zv_cat2, zv_cats]) ?_
        refine rt_goto (tgt := 12) dX11_blocks_235 (by decide) ?_
        exact rt_lfew [1, 2, 3, 4, 5, 6, 0, 7] rfl h
      · replace h := h.2 c215
        refine z_aload_n dX11_blocks_219 rfl (j := 0) rfl ?_
        refine z_bipush dX11_blocks_220 (by decide) ?_
        refine z_iload dX11_blocks_222 (j := 10) rfl ?_
        refine z_callV Γ kk_X11_failBytes kc_RX11_102 (As := [zv s0 0 6, zv s0 0 v13]) h (by omega) (by decide) (show (parseMethodDescriptor yX11_failBytes.desc).map (fun q => q.parameters.length) = some 2 by decide +kernel) hok (Nat.zero_le _) dX11_blocks_224 (by decide) (hs 84 _ rfl) rfl rfl (fun _ h9 => nomatch h9) ?_
        clear h
        intro r224 M224 h
        show rt_Go _ _ _ _ _ _ _ _ _ _ _ _ 227 [(0, zv s0 2 84), (1, zv s0 2 v1), (2, zv s0 0 v2), (3, zv s0 0 v3), (4, zv s0 0 v4), (5, zv s0 0 v5), (6, zv s0 0 v6), (7, zv s0 0 v7), (9, zv s0 1 v9), (12, zv s0 0 v12), (13, zv s0 0 v13), (14, zv s0 1 v14), (16, zv s0 0 v16), (17, zv s0 0 v17)] [] (zw s0 ca C S M224)
        refine z_iload dX11_blocks_227 (j := 6) rfl ?_
        refine z_lload dX11_blocks_229 (j := 8) rfl ?_
        refine z_l2i dX11_blocks_231 ?_
        refine z_iadd dX11_blocks_232 ?_
        refine z_istore (i := 6) (lv' := [(6, zv s0 0 (v6 + v9)), (0, zv s0 2 84), (1, zv s0 2 v1), (2, zv s0 0 v2), (3, zv s0 0 v3), (4, zv s0 0 v4), (5, zv s0 0 v5), (7, zv s0 0 v7), (9, zv s0 1 v9), (12, zv s0 0 v12), (13, zv s0 0 v13), (14, zv s0 1 v14), (16, zv s0 0 v16), (17, zv s0 0 v17)]) dX11_blocks_233 (by decide) (by simp [zv_cat0, zv_cat1, zv_cat2, zv_cats]) ?_
        refine rt_goto (tgt := 12) dX11_blocks_235 (by decide) ?_
        exact rt_lfew [1, 2, 3, 4, 5, 6, 0, 7] rfl h
  · replace h := h.2 c181
    refine z_aload_n dX11_blocks_185 rfl (j := 0) rfl ?_
    refine z_aload_n dX11_blocks_186 rfl (j := 1) rfl ?_
    refine z_iload_n dX11_blocks_187 rfl (j := 2) rfl ?_
    refine z_iload_n dX11_blocks_188 rfl (j := 3) rfl ?_
    refine z_iload dX11_blocks_189 (j := 4) rfl ?_
    refine z_callV Γ kk_X11_item kc_RX11_178 (As := [zv s0 2 v1, zv s0 0 v2, zv s0 0 v3, zv s0 0 v4]) h (by omega) (by decide) (show (parseMethodDescriptor yX11_item.desc).map (fun q => q.parameters.length) = some 4 by decide +kernel) hok (Nat.zero_le _) dX11_blocks_191 (by decide) (hs 84 _ rfl) rfl rfl (fun _ h9 => nomatch h9) ?_
    clear h
    intro r191 M191 h
    show rt_Go _ _ _ _ _ _ _ _ _ _ _ _ 194 [(0, zv s0 2 84), (1, zv s0 2 v1), (2, zv s0 0 v2), (3, zv s0 0 v3), (4, zv s0 0 v4), (5, zv s0 0 v5), (6, zv s0 0 v6), (7, zv s0 0 v7), (9, zv s0 1 v9), (12, zv s0 0 v12), (13, zv s0 0 v13), (14, zv s0 1 v14), (16, zv s0 0 v16), (17, zv s0 0 v17)] [] (zw s0 ca C S M191)
    refine z_iinc (lv' := [(17, zv s0 0 (v17 + 1)), (0, zv s0 2 84), (1, zv s0 2 v1), (2, zv s0 0 v2), (3, zv s0 0 v3), (4, zv s0 0 v4), (5, zv s0 0 v5), (6, zv s0 0 v6), (7, zv s0 0 v7), (9, zv s0 1 v9), (12, zv s0 0 v12), (13, zv s0 0 v13), (14, zv s0 1 v14), (16, zv s0 0 v16)]) dX11_blocks_194 (j := 13) rfl (by decide) (by simp [zv_cat0, zv_cat1, zv_cat2, zv_cats]) ?_
    refine rt_goto (tgt := 176) dX11_blocks_197 (by decide) ?_
    exact rt_lfew [1, 2, 3, 4, 5, 6, 7, 8, 9, 10, 11, 12, 13, 0] rfl h

def zt_X11_blocks (l : Launch) (s0 : State) (G : va_G) (ca : Nat → ClassId) (d : Nat) (C : Nat × Nat) (S : zS) (w0 : rt_Wd)  (t : Int) (s : Int) (e : Int) (p : Int) (M : zM) (Q : Int → zM → Prop) (X : zM → Prop) : Prop :=
  zg_X11_blocks_12 l s0 G ca d C S w0  t s e p (M 84 15) 0 1 M Q X
set_option maxRecDepth 100000 in
theorem z_X11_blocks {l : Launch} {s0 : State} {a0 : Array Value} {G : va_G} {ca : Nat → ClassId} (Γ : rt_Γ l s0 a0 G ca) {d : Nat} {C : Nat × Nat} {S : zS} (hd : 1 ≤ d) (hok : zok C)  (hs : zSok S) {t : Int} {s : Int} {e : Int} {p : Int} {M : zM} {Q : Int → zM → Prop} {X : zM → Prop} (h : zt_X11_blocks l s0 G ca d C S (zw s0 ca C S M)  t s e p M Q X) : zm_X11_blocks l s0 G ca d C S  t s e p M Q X := by
  refine z_met (lv := [(0, zv s0 2 84), (1, zv s0 2 t), (2, zv s0 0 s), (3, zv s0 0 e), (4, zv s0 0 p)]) Γ kk_X11_blocks rfl (show (lg_sl [zv s0 2 84, zv s0 2 t, zv s0 0 s, zv s0 0 e, zv s0 0 p]).length ≤ 18 from by simp only [zn_0, zn_2, show (lg_sl []).length = 0 from rfl]; omega) (show lv_args 0 [zv s0 2 84, zv s0 2 t, zv s0 0 s, zv s0 0 e, zv s0 0 p] = [(0, zv s0 2 84), (1, zv s0 2 t), (2, zv s0 0 s), (3, zv s0 0 e), (4, zv s0 0 p)] from by rw [zl_2, zl_2, zl_0, zl_0, zl_0]; rfl) ?_
  unfold zt_X11_blocks at h
  refine z_aload_n dX11_blocks_0 rfl (j := 0) rfl ?_
  refine z_get Γ kf_RX11_115 dX11_blocks_1 (by decide) (hs 84 _ rfl) rfl (by decide) (v9 := M 84 15) rfl ?_
  refine z_istore (i := 5) (lv' := [(5, zv s0 0 (M 84 15)), (0, zv s0 2 84), (1, zv s0 2 t), (2, zv s0 0 s), (3, zv s0 0 e), (4, zv s0 0 p)]) dX11_blocks_4 (by decide) (by simp [zv_cat0, zv_cat1, zv_cat2, zv_cats]) ?_
  refine z_iconst dX11_blocks_6 ?_
  refine z_istore (i := 6) (lv' := [(6, zv s0 0 0), (5, zv s0 0 (M 84 15)), (0, zv s0 2 84), (1, zv s0 2 t), (2, zv s0 0 s), (3, zv s0 0 e), (4, zv s0 0 p)]) dX11_blocks_7 (by decide) (by simp [zv_cat0, zv_cat1, zv_cat2, zv_cats]) ?_
  refine z_iconst dX11_blocks_9 ?_
  refine z_istore (i := 7) (lv' := [(7, zv s0 0 1), (6, zv s0 0 0), (5, zv s0 0 (M 84 15)), (0, zv s0 2 84), (1, zv s0 2 t), (2, zv s0 0 s), (3, zv s0 0 e), (4, zv s0 0 p)]) dX11_blocks_10 (by decide) (by simp [zv_cat0, zv_cat1, zv_cat2, zv_cats]) ?_
  exact rt_lfew [3, 4, 5, 6, 7, 2, 1, 0] rfl h

abbrev zg_X11_datum_20 (l : Launch) (s0 : State) (G : va_G) (ca : Nat → ClassId) (d : Nat) (C : Nat × Nat) (S : zS) (w0 : rt_Wd)  (v1 : Int) (v2 : Int) (v3 : Int) (v4 : Int) (v5 : Int)  (M : zM) (Q : Int → zM → Prop) (X : zM → Prop) : Prop := rt_Go l s0 G RX11 "datum" cX11_datum 14 (Option.none : Option FieldType) [] d w0 (zQ s0 ca 9 C S Q X) 20 [(0, zv s0 2 84), (1, zv s0 2 v1), (2, zv s0 0 v2), (3, zv s0 0 v3), (4, zv s0 0 v4), (5, zv s0 0 v5)] [] (zw s0 ca C S M)
abbrev zg_X11_datum_38 (l : Launch) (s0 : State) (G : va_G) (ca : Nat → ClassId) (d : Nat) (C : Nat × Nat) (S : zS) (w0 : rt_Wd)  (v1 : Int) (v2 : Int) (v3 : Int) (v4 : Int) (v5 : Int)  (M : zM) (Q : Int → zM → Prop) (X : zM → Prop) : Prop := rt_Go l s0 G RX11 "datum" cX11_datum 14 (Option.none : Option FieldType) [] d w0 (zQ s0 ca 9 C S Q X) 38 [(0, zv s0 2 84), (1, zv s0 2 v1), (2, zv s0 0 v2), (3, zv s0 0 v3), (4, zv s0 0 v4), (5, zv s0 0 v5)] [] (zw s0 ca C S M)
abbrev zg_X11_datum_182 (l : Launch) (s0 : State) (G : va_G) (ca : Nat → ClassId) (d : Nat) (C : Nat × Nat) (S : zS) (w0 : rt_Wd)  (v4 : Int) (v7 : Int)  (M : zM) (Q : Int → zM → Prop) (X : zM → Prop) : Prop := rt_Go l s0 G RX11 "datum" cX11_datum 14 (Option.none : Option FieldType) [] d w0 (zQ s0 ca 9 C S Q X) 182 [(0, zv s0 2 84), (4, zv s0 0 v4), (7, zv s0 1 v7)] [] (zw s0 ca C S M)
abbrev zg_X11_datum_220 (l : Launch) (s0 : State) (G : va_G) (ca : Nat → ClassId) (d : Nat) (C : Nat × Nat) (S : zS) (w0 : rt_Wd)  (v4 : Int) (v9 : Int)  (M : zM) (Q : Int → zM → Prop) (X : zM → Prop) : Prop := rt_Go l s0 G RX11 "datum" cX11_datum 14 (Option.none : Option FieldType) [] d w0 (zQ s0 ca 9 C S Q X) 220 [(0, zv s0 2 84), (4, zv s0 0 v4), (9, zv s0 0 v9)] [] (zw s0 ca C S M)
abbrev zg_X11_datum_277 (l : Launch) (s0 : State) (G : va_G) (ca : Nat → ClassId) (d : Nat) (C : Nat × Nat) (S : zS) (w0 : rt_Wd)  (v4 : Int) (v5 : Int) (v9 : Int)  (M : zM) (Q : Int → zM → Prop) (X : zM → Prop) : Prop := rt_Go l s0 G RX11 "datum" cX11_datum 14 (Option.none : Option FieldType) [] d w0 (zQ s0 ca 9 C S Q X) 277 [(0, zv s0 2 84), (4, zv s0 0 v4), (5, zv s0 0 v5), (9, zv s0 1 v9)] [] (zw s0 ca C S M)
abbrev zg_X11_datum_284 (l : Launch) (s0 : State) (G : va_G) (ca : Nat → ClassId) (d : Nat) (C : Nat × Nat) (S : zS) (w0 : rt_Wd)  (v4 : Int) (v9 : Int)  (M : zM) (Q : Int → zM → Prop) (X : zM → Prop) : Prop := rt_Go l s0 G RX11 "datum" cX11_datum 14 (Option.none : Option FieldType) [] d w0 (zQ s0 ca 9 C S Q X) 284 [(0, zv s0 2 84), (4, zv s0 0 v4), (9, zv s0 1 v9)] [] (zw s0 ca C S M)
abbrev zg_X11_datum_324 (l : Launch) (s0 : State) (G : va_G) (ca : Nat → ClassId) (d : Nat) (C : Nat × Nat) (S : zS) (w0 : rt_Wd)  (v1 : Int) (v2 : Int) (v3 : Int) (v4 : Int) (v5 : Int) (v11 : Int)  (M : zM) (Q : Int → zM → Prop) (X : zM → Prop) : Prop := rt_Go l s0 G RX11 "datum" cX11_datum 14 (Option.none : Option FieldType) [] d w0 (zQ s0 ca 9 C S Q X) 324 [(0, zv s0 2 84), (1, zv s0 2 v1), (2, zv s0 0 v2), (3, zv s0 0 v3), (4, zv s0 0 v4), (5, zv s0 0 v5), (11, zv s0 1 v11)] [] (zw s0 ca C S M)
abbrev zg_X11_datum_331 (l : Launch) (s0 : State) (G : va_G) (ca : Nat → ClassId) (d : Nat) (C : Nat × Nat) (S : zS) (w0 : rt_Wd)  (v1 : Int) (v2 : Int) (v3 : Int) (v4 : Int) (v11 : Int)  (M : zM) (Q : Int → zM → Prop) (X : zM → Prop) : Prop := rt_Go l s0 G RX11 "datum" cX11_datum 14 (Option.none : Option FieldType) [] d w0 (zQ s0 ca 9 C S Q X) 331 [(0, zv s0 2 84), (1, zv s0 2 v1), (2, zv s0 0 v2), (3, zv s0 0 v3), (4, zv s0 0 v4), (11, zv s0 1 v11)] [] (zw s0 ca C S M)
abbrev zg_X11_datum_342 (l : Launch) (s0 : State) (G : va_G) (ca : Nat → ClassId) (d : Nat) (C : Nat × Nat) (S : zS) (w0 : rt_Wd)  (v1 : Int) (v2 : Int) (v3 : Int) (v4 : Int) (v11 : Int)  (M : zM) (Q : Int → zM → Prop) (X : zM → Prop) : Prop := rt_Go l s0 G RX11 "datum" cX11_datum 14 (Option.none : Option FieldType) [] d w0 (zQ s0 ca 9 C S Q X) 342 [(0, zv s0 2 84), (1, zv s0 2 v1), (2, zv s0 0 v2), (3, zv s0 0 v3), (4, zv s0 0 v4), (11, zv s0 1 v11)] [] (zw s0 ca C S M)
abbrev zg_X11_datum_376 (l : Launch) (s0 : State) (G : va_G) (ca : Nat → ClassId) (d : Nat) (C : Nat × Nat) (S : zS) (w0 : rt_Wd)  (v1 : Int) (v3 : Int) (v4 : Int) (v13 : Int)  (M : zM) (Q : Int → zM → Prop) (X : zM → Prop) : Prop := rt_Go l s0 G RX11 "datum" cX11_datum 14 (Option.none : Option FieldType) [] d w0 (zQ s0 ca 9 C S Q X) 376 [(0, zv s0 2 84), (1, zv s0 2 v1), (3, zv s0 0 v3), (4, zv s0 0 v4), (13, zv s0 0 v13)] [] (zw s0 ca C S M)
def zt_X11_datum_342 (l : Launch) (s0 : State) (G : va_G) (ca : Nat → ClassId) (d : Nat) (C : Nat × Nat) (S : zS) (w0 : rt_Wd)  (v1 : Int) (v2 : Int) (v3 : Int) (v4 : Int) (v11 : Int)  (M : zM) (Q : Int → zM → Prop) (X : zM → Prop) : Prop :=
  zTx S v1 ∧ (zm_X10_kid l s0 G ca (d - 1) C S v1 v2 v11 M (fun r353 M353 => (0 ≤ r353 ∧ r353 < 2200) ∧ (zm_X11_datum l s0 G ca (d - 1) C S v1 (M353 (v1 + 15) r353) (v3 + 1) v4 M353 (fun r362 M362 => Q 0 M362) X)) X)
set_option maxRecDepth 100000 in
theorem zs_X11_datum_342 {l : Launch} {s0 : State} {a0 : Array Value} {G : va_G} {ca : Nat → ClassId} (Γ : rt_Γ l s0 a0 G ca) {d : Nat} {C : Nat × Nat} {S : zS} (hd : 1 ≤ d) (hok : zok C)  (hs : zSok S) {w0 : rt_Wd} {v1 : Int} {v2 : Int} {v3 : Int} {v4 : Int} {v11 : Int}   {M : zM} {Q : Int → zM → Prop} {X : zM → Prop} (h : zt_X11_datum_342 l s0 G ca d C S w0  v1 v2 v3 v4 v11 M Q X) : zg_X11_datum_342 l s0 G ca d C S w0  v1 v2 v3 v4 v11 M Q X := by
  unfold zt_X11_datum_342 at h
  refine z_aload_n dX11_datum_342 rfl (j := 0) rfl ?_
  refine z_aload_n dX11_datum_343 rfl (j := 1) rfl ?_
  refine z_aload_n dX11_datum_344 rfl (j := 1) rfl ?_
  obtain ⟨hk0, h⟩ := h
  refine z_getcN Γ kfN_RX11_149 dX11_datum_345 hk0.1 hk0.2.1 rfl ?_
  refine z_aload_n dX11_datum_348 rfl (j := 1) rfl ?_
  refine z_iload_n dX11_datum_349 rfl (j := 2) rfl ?_
  refine z_lload dX11_datum_350 (j := 5) rfl ?_
  refine z_l2i dX11_datum_352 ?_
  refine z_callVN Γ kk_X10_kid kc_RX11_152 (As := [zv s0 0 v2, zv s0 0 v11]) h (by omega) (by decide) (show (parseMethodDescriptor yX10_kid.desc).map (fun q => q.parameters.length) = some 2 by decide +kernel) hok (by simp only [List.map, zv_cat0, zv_cat1, zv_cat2, List.sum_cons, List.sum_nil]; decide) dX11_datum_353 hk0.1 hk0.2.1 rfl rfl (fun _ h9 => nomatch h9) ?_
  clear h
  intro r353 M353 h
  show rt_Go _ _ _ _ _ _ _ _ _ _ _ _ 356 [(0, zv s0 2 84), (1, zv s0 2 v1), (2, zv s0 0 v2), (3, zv s0 0 v3), (4, zv s0 0 v4), (11, zv s0 1 v11)] [zv s0 0 r353, zv s0 2 (v1 + 15), zv s0 2 v1, zv s0 2 84] (zw s0 ca C S M353)
  obtain ⟨hi356, h⟩ := h
  refine z_iald Γ dX11_datum_356 (by have := hk0.1; omega) hk0.2.2.2.2.2.2.2.2.2.2.2.2.2.2.2.2.1 (by decide) hi356 (v9 := M353 (v1 + 15) r353) rfl ?_
  refine z_iload_n dX11_datum_357 rfl (j := 3) rfl ?_
  refine z_iconst dX11_datum_358 ?_
  refine z_iadd dX11_datum_359 ?_
  refine z_iload dX11_datum_360 (j := 4) rfl ?_
  refine z_callV Γ kk_X11_datum kc_RX11_156 (As := [zv s0 2 v1, zv s0 0 (M353 (v1 + 15) r353), zv s0 0 (v3 + 1), zv s0 0 v4]) h (by omega) (by decide) (show (parseMethodDescriptor yX11_datum.desc).map (fun q => q.parameters.length) = some 4 by decide +kernel) hok (Nat.zero_le _) dX11_datum_362 (by decide) (hs 84 _ rfl) rfl rfl (fun _ h9 => nomatch h9) ?_
  clear h
  intro r362 M362 h
  show rt_Go _ _ _ _ _ _ _ _ _ _ _ _ 365 [(0, zv s0 2 84), (1, zv s0 2 v1), (2, zv s0 0 v2), (3, zv s0 0 v3), (4, zv s0 0 v4), (11, zv s0 1 v11)] [] (zw s0 ca C S M362)
  refine rt_goto (tgt := 422) dX11_datum_365 (by decide) ?_
  exact z_vret dX11_datum_422 rfl h

def zt_X11_datum_331 (l : Launch) (s0 : State) (G : va_G) (ca : Nat → ClassId) (d : Nat) (C : Nat × Nat) (S : zS) (w0 : rt_Wd)  (v1 : Int) (v2 : Int) (v3 : Int) (v4 : Int) (v11 : Int)  (M : zM) (Q : Int → zM → Prop) (X : zM → Prop) : Prop :=
  zIf (w32 v4 = 0) (zt_X11_datum_342 l s0 G ca d C S w0  v1 v2 v3 v4 v11 M Q X) (zm_X11_putVarint l s0 G ca (d - 1) C S v11 M (fun r339 M339 => zt_X11_datum_342 l s0 G ca d C S w0  v1 v2 v3 v4 v11 M339 Q X) X)
set_option maxRecDepth 100000 in
theorem zs_X11_datum_331 {l : Launch} {s0 : State} {a0 : Array Value} {G : va_G} {ca : Nat → ClassId} (Γ : rt_Γ l s0 a0 G ca) {d : Nat} {C : Nat × Nat} {S : zS} (hd : 1 ≤ d) (hok : zok C)  (hs : zSok S) {w0 : rt_Wd} {v1 : Int} {v2 : Int} {v3 : Int} {v4 : Int} {v11 : Int}   {M : zM} {Q : Int → zM → Prop} {X : zM → Prop} (h : zt_X11_datum_331 l s0 G ca d C S w0  v1 v2 v3 v4 v11 M Q X) : zg_X11_datum_331 l s0 G ca d C S w0  v1 v2 v3 v4 v11 M Q X := by
  unfold zt_X11_datum_331 at h
  refine z_iload dX11_datum_331 (j := 4) rfl ?_
  refine z_if_eq (tgt := 342) (x' := w32 v4) rfl dX11_datum_333 (by decide) (fun c333 => ?_) (fun c333 => ?_)
  · replace h := h.1 c333
    exact rt_lfew [0, 1, 2, 3, 4, 5] rfl (zs_X11_datum_342 Γ hd hok hs  h)
  · replace h := h.2 c333
    refine z_aload_n dX11_datum_336 rfl (j := 0) rfl ?_
    refine z_lload dX11_datum_337 (j := 5) rfl ?_
    refine z_callV Γ kk_X11_putVarint kc_RX11_126 (As := [zv s0 1 v11]) h (by omega) (by decide) (show (parseMethodDescriptor yX11_putVarint.desc).map (fun q => q.parameters.length) = some 1 by decide +kernel) hok (Nat.zero_le _) dX11_datum_339 (by decide) (hs 84 _ rfl) rfl rfl (fun _ h9 => nomatch h9) ?_
    clear h
    intro r339 M339 h
    show rt_Go _ _ _ _ _ _ _ _ _ _ _ _ 342 [(0, zv s0 2 84), (1, zv s0 2 v1), (2, zv s0 0 v2), (3, zv s0 0 v3), (4, zv s0 0 v4), (11, zv s0 1 v11)] [] (zw s0 ca C S M339)
    exact rt_lfew [0, 1, 2, 3, 4, 5] rfl (zs_X11_datum_342 Γ hd hok hs  h)

def zt_X11_datum_324 (l : Launch) (s0 : State) (G : va_G) (ca : Nat → ClassId) (d : Nat) (C : Nat × Nat) (S : zS) (w0 : rt_Wd)  (v1 : Int) (v2 : Int) (v3 : Int) (v4 : Int) (v5 : Int) (v11 : Int)  (M : zM) (Q : Int → zM → Prop) (X : zM → Prop) : Prop :=
  zm_X11_failBytes l s0 G ca (d - 1) C S 4 v5 M (fun r328 M328 => zt_X11_datum_331 l s0 G ca d C S w0  v1 v2 v3 v4 v11 M328 Q X) X
set_option maxRecDepth 100000 in
theorem zs_X11_datum_324 {l : Launch} {s0 : State} {a0 : Array Value} {G : va_G} {ca : Nat → ClassId} (Γ : rt_Γ l s0 a0 G ca) {d : Nat} {C : Nat × Nat} {S : zS} (hd : 1 ≤ d) (hok : zok C)  (hs : zSok S) {w0 : rt_Wd} {v1 : Int} {v2 : Int} {v3 : Int} {v4 : Int} {v5 : Int} {v11 : Int}   {M : zM} {Q : Int → zM → Prop} {X : zM → Prop} (h : zt_X11_datum_324 l s0 G ca d C S w0  v1 v2 v3 v4 v5 v11 M Q X) : zg_X11_datum_324 l s0 G ca d C S w0  v1 v2 v3 v4 v5 v11 M Q X := by
  unfold zt_X11_datum_324 at h
  refine z_aload_n dX11_datum_324 rfl (j := 0) rfl ?_
  refine z_iconst dX11_datum_325 ?_
  refine z_iload dX11_datum_326 (j := 5) rfl ?_
  refine z_callV Γ kk_X11_failBytes kc_RX11_102 (As := [zv s0 0 4, zv s0 0 v5]) h (by omega) (by decide) (show (parseMethodDescriptor yX11_failBytes.desc).map (fun q => q.parameters.length) = some 2 by decide +kernel) hok (Nat.zero_le _) dX11_datum_328 (by decide) (hs 84 _ rfl) rfl rfl (fun _ h9 => nomatch h9) ?_
  clear h
  intro r328 M328 h
  show rt_Go _ _ _ _ _ _ _ _ _ _ _ _ 331 [(0, zv s0 2 84), (1, zv s0 2 v1), (2, zv s0 0 v2), (3, zv s0 0 v3), (4, zv s0 0 v4), (5, zv s0 0 v5), (11, zv s0 1 v11)] [] (zw s0 ca C S M328)
  exact rt_lfew [0, 1, 2, 3, 4, 6] rfl (zs_X11_datum_331 Γ hd hok hs  h)

def zt_X11_datum_284 (l : Launch) (s0 : State) (G : va_G) (ca : Nat → ClassId) (d : Nat) (C : Nat × Nat) (S : zS) (w0 : rt_Wd)  (v4 : Int) (v9 : Int)  (M : zM) (Q : Int → zM → Prop) (X : zM → Prop) : Prop :=
  zIf (w32 v4 = 0) (Q 0 M) (zm_X11_putVarint l s0 G ca (d - 1) C S v9 M (fun r292 M292 => Q 0 M292) X)
set_option maxRecDepth 100000 in
theorem zs_X11_datum_284 {l : Launch} {s0 : State} {a0 : Array Value} {G : va_G} {ca : Nat → ClassId} (Γ : rt_Γ l s0 a0 G ca) {d : Nat} {C : Nat × Nat} {S : zS} (hd : 1 ≤ d) (hok : zok C)  (hs : zSok S) {w0 : rt_Wd} {v4 : Int} {v9 : Int}   {M : zM} {Q : Int → zM → Prop} {X : zM → Prop} (h : zt_X11_datum_284 l s0 G ca d C S w0  v4 v9 M Q X) : zg_X11_datum_284 l s0 G ca d C S w0  v4 v9 M Q X := by
  unfold zt_X11_datum_284 at h
  refine z_iload dX11_datum_284 (j := 1) rfl ?_
  refine z_if_eq (tgt := 422) (x' := w32 v4) rfl dX11_datum_286 (by decide) (fun c286 => ?_) (fun c286 => ?_)
  · replace h := h.1 c286
    exact z_vret dX11_datum_422 rfl h
  · replace h := h.2 c286
    refine z_aload_n dX11_datum_289 rfl (j := 0) rfl ?_
    refine z_lload dX11_datum_290 (j := 2) rfl ?_
    refine z_callV Γ kk_X11_putVarint kc_RX11_126 (As := [zv s0 1 v9]) h (by omega) (by decide) (show (parseMethodDescriptor yX11_putVarint.desc).map (fun q => q.parameters.length) = some 1 by decide +kernel) hok (Nat.zero_le _) dX11_datum_292 (by decide) (hs 84 _ rfl) rfl rfl (fun _ h9 => nomatch h9) ?_
    clear h
    intro r292 M292 h
    show rt_Go _ _ _ _ _ _ _ _ _ _ _ _ 295 [(0, zv s0 2 84), (4, zv s0 0 v4), (9, zv s0 1 v9)] [] (zw s0 ca C S M292)
    refine rt_goto (tgt := 422) dX11_datum_295 (by decide) ?_
    exact z_vret dX11_datum_422 rfl h

def zt_X11_datum_277 (l : Launch) (s0 : State) (G : va_G) (ca : Nat → ClassId) (d : Nat) (C : Nat × Nat) (S : zS) (w0 : rt_Wd)  (v4 : Int) (v5 : Int) (v9 : Int)  (M : zM) (Q : Int → zM → Prop) (X : zM → Prop) : Prop :=
  zm_X11_failBytes l s0 G ca (d - 1) C S 5 v5 M (fun r281 M281 => zt_X11_datum_284 l s0 G ca d C S w0  v4 v9 M281 Q X) X
set_option maxRecDepth 100000 in
theorem zs_X11_datum_277 {l : Launch} {s0 : State} {a0 : Array Value} {G : va_G} {ca : Nat → ClassId} (Γ : rt_Γ l s0 a0 G ca) {d : Nat} {C : Nat × Nat} {S : zS} (hd : 1 ≤ d) (hok : zok C)  (hs : zSok S) {w0 : rt_Wd} {v4 : Int} {v5 : Int} {v9 : Int}   {M : zM} {Q : Int → zM → Prop} {X : zM → Prop} (h : zt_X11_datum_277 l s0 G ca d C S w0  v4 v5 v9 M Q X) : zg_X11_datum_277 l s0 G ca d C S w0  v4 v5 v9 M Q X := by
  unfold zt_X11_datum_277 at h
  refine z_aload_n dX11_datum_277 rfl (j := 0) rfl ?_
  refine z_iconst dX11_datum_278 ?_
  refine z_iload dX11_datum_279 (j := 2) rfl ?_
  refine z_callV Γ kk_X11_failBytes kc_RX11_102 (As := [zv s0 0 5, zv s0 0 v5]) h (by omega) (by decide) (show (parseMethodDescriptor yX11_failBytes.desc).map (fun q => q.parameters.length) = some 2 by decide +kernel) hok (Nat.zero_le _) dX11_datum_281 (by decide) (hs 84 _ rfl) rfl rfl (fun _ h9 => nomatch h9) ?_
  clear h
  intro r281 M281 h
  show rt_Go _ _ _ _ _ _ _ _ _ _ _ _ 284 [(0, zv s0 2 84), (4, zv s0 0 v4), (5, zv s0 0 v5), (9, zv s0 1 v9)] [] (zw s0 ca C S M281)
  exact rt_lfew [0, 1, 3] rfl (zs_X11_datum_284 Γ hd hok hs  h)

def zt_X11_datum_182 (l : Launch) (s0 : State) (G : va_G) (ca : Nat → ClassId) (d : Nat) (C : Nat × Nat) (S : zS) (w0 : rt_Wd)  (v4 : Int) (v7 : Int)  (M : zM) (Q : Int → zM → Prop) (X : zM → Prop) : Prop :=
  zIf (w32 v4 = 0) (Q 0 M) (zm_X11_putVarint l s0 G ca (d - 1) C S v7 M (fun r190 M190 => Q 0 M190) X)
set_option maxRecDepth 100000 in
theorem zs_X11_datum_182 {l : Launch} {s0 : State} {a0 : Array Value} {G : va_G} {ca : Nat → ClassId} (Γ : rt_Γ l s0 a0 G ca) {d : Nat} {C : Nat × Nat} {S : zS} (hd : 1 ≤ d) (hok : zok C)  (hs : zSok S) {w0 : rt_Wd} {v4 : Int} {v7 : Int}   {M : zM} {Q : Int → zM → Prop} {X : zM → Prop} (h : zt_X11_datum_182 l s0 G ca d C S w0  v4 v7 M Q X) : zg_X11_datum_182 l s0 G ca d C S w0  v4 v7 M Q X := by
  unfold zt_X11_datum_182 at h
  refine z_iload dX11_datum_182 (j := 1) rfl ?_
  refine z_if_eq (tgt := 422) (x' := w32 v4) rfl dX11_datum_184 (by decide) (fun c184 => ?_) (fun c184 => ?_)
  · replace h := h.1 c184
    exact z_vret dX11_datum_422 rfl h
  · replace h := h.2 c184
    refine z_aload_n dX11_datum_187 rfl (j := 0) rfl ?_
    refine z_lload dX11_datum_188 (j := 2) rfl ?_
    refine z_callV Γ kk_X11_putVarint kc_RX11_126 (As := [zv s0 1 v7]) h (by omega) (by decide) (show (parseMethodDescriptor yX11_putVarint.desc).map (fun q => q.parameters.length) = some 1 by decide +kernel) hok (Nat.zero_le _) dX11_datum_190 (by decide) (hs 84 _ rfl) rfl rfl (fun _ h9 => nomatch h9) ?_
    clear h
    intro r190 M190 h
    show rt_Go _ _ _ _ _ _ _ _ _ _ _ _ 193 [(0, zv s0 2 84), (4, zv s0 0 v4), (7, zv s0 1 v7)] [] (zw s0 ca C S M190)
    refine rt_goto (tgt := 422) dX11_datum_193 (by decide) ?_
    exact z_vret dX11_datum_422 rfl h

def zt_X11_datum_38 (l : Launch) (s0 : State) (G : va_G) (ca : Nat → ClassId) (d : Nat) (C : Nat × Nat) (S : zS) (w0 : rt_Wd)  (v1 : Int) (v2 : Int) (v3 : Int) (v4 : Int) (v5 : Int)  (M : zM) (Q : Int → zM → Prop) (X : zM → Prop) : Prop :=
  zTx S v1 ∧ ((0 ≤ v2 ∧ v2 < 140) ∧ (zIf (w32 ((zu M 84 20 ((M 84 20) + 1)) (v1 + 9) v2) = 0) (Q 0 ((zu M 84 20 ((M 84 20) + 1)))) (zIf (w32 ((zu M 84 20 ((M 84 20) + 1)) (v1 + 9) v2) = 1) (zm_X11_byteHere l s0 G ca (d - 1) C S  ((zu M 84 20 ((M 84 20) + 1))) (fun r120 M120 => zIf (w32 r120 ≤ 1) (zm_X11_put l s0 G ca (d - 1) C S r120 v4 M120 (fun r143 M143 => Q 0 M143) X) (zm_X11_failBytes l s0 G ca (d - 1) C S 3 v5 M120 (fun r135 M135 => zm_X11_put l s0 G ca (d - 1) C S r120 v4 M135 (fun r143 M143 => Q 0 M143) X) X)) X) (zIf (w32 ((zu M 84 20 ((M 84 20) + 1)) (v1 + 9) v2) = 2) (zm_X11_varint l s0 G ca (d - 1) C S  ((zu M 84 20 ((M 84 20) + 1))) (fun r150 M150 => zIf (w32 (M150 (v1 + 9) v2) = 2) (zIf (w64 r150 = w64 (w32 r150)) (zt_X11_datum_182 l s0 G ca d C S w0  v4 r150 M150 Q X) (zm_X11_failBytes l s0 G ca (d - 1) C S 2 v5 M150 (fun r179 M179 => zt_X11_datum_182 l s0 G ca d C S w0  v4 r150 M179 Q X) X)) (zt_X11_datum_182 l s0 G ca d C S w0  v4 r150 M150 Q X)) X) (zIf (w32 ((zu M 84 20 ((M 84 20) + 1)) (v1 + 9) v2) = 3) (zm_X11_varint l s0 G ca (d - 1) C S  ((zu M 84 20 ((M 84 20) + 1))) (fun r150 M150 => zIf (w32 (M150 (v1 + 9) v2) = 2) (zIf (w64 r150 = w64 (w32 r150)) (zt_X11_datum_182 l s0 G ca d C S w0  v4 r150 M150 Q X) (zm_X11_failBytes l s0 G ca (d - 1) C S 2 v5 M150 (fun r179 M179 => zt_X11_datum_182 l s0 G ca d C S w0  v4 r150 M179 Q X) X)) (zt_X11_datum_182 l s0 G ca d C S w0  v4 r150 M150 Q X)) X) (zIf (w32 ((zu M 84 20 ((M 84 20) + 1)) (v1 + 9) v2) = 4) (zm_X11_string l s0 G ca (d - 1) C S v4 ((zu M 84 20 ((M 84 20) + 1))) (fun r199 M199 => Q 0 M199) X) (zIf (w32 ((zu M 84 20 ((M 84 20) + 1)) (v1 + 9) v2) = 5) (zm_X11_string l s0 G ca (d - 1) C S v4 ((zu M 84 20 ((M 84 20) + 1))) (fun r199 M199 => Q 0 M199) X) (zIf (w32 ((zu M 84 20 ((M 84 20) + 1)) (v1 + 9) v2) = 8) (zm_X11_varint l s0 G ca (d - 1) C S  ((zu M 84 20 ((M 84 20) + 1))) (fun r299 M299 => zIf (w64 r299 < 0) (zt_X11_datum_324 l s0 G ca d C S w0  v1 v2 v3 v4 v5 r299 M299 Q X) (zIf (w64 r299 < w64 (w32 (M299 (v1 + 13) v2))) (zt_X11_datum_331 l s0 G ca d C S w0  v1 v2 v3 v4 r299 M299 Q X) (zt_X11_datum_324 l s0 G ca d C S w0  v1 v2 v3 v4 v5 r299 M299 Q X))) X) (zIf (w32 ((zu M 84 20 ((M 84 20) + 1)) (v1 + 9) v2) = 9) (zm_X11_passBytes l s0 G ca (d - 1) C S (w32 ((zu M 84 20 ((M 84 20) + 1)) (v1 + 11) v2)) ((zu M 84 20 ((M 84 20) + 1))) (fun r213 M213 => zg_X11_datum_220 l s0 G ca d C S w0  v4 v5 M213 Q X) X) (zIf (w32 ((zu M 84 20 ((M 84 20) + 1)) (v1 + 9) v2) = 10) (zm_X11_varint l s0 G ca (d - 1) C S  ((zu M 84 20 ((M 84 20) + 1))) (fun r252 M252 => zIf (w64 r252 < 0) (zt_X11_datum_277 l s0 G ca d C S w0  v4 v5 r252 M252 Q X) (zIf (w64 r252 < w64 (w32 (M252 (v1 + 13) v2))) (zt_X11_datum_284 l s0 G ca d C S w0  v4 r252 M252 Q X) (zt_X11_datum_277 l s0 G ca d C S w0  v4 v5 r252 M252 Q X))) X) (zIf (w32 ((zu M 84 20 ((M 84 20) + 1)) (v1 + 9) v2) = 11) (zg_X11_datum_376 l s0 G ca d C S w0  v1 v3 v4 ((zu M 84 20 ((M 84 20) + 1)) (v1 + 12) v2) ((zu M 84 20 ((M 84 20) + 1))) Q X) (zm_X11_blocks l s0 G ca (d - 1) C S v1 v2 v3 v4 ((zu M 84 20 ((M 84 20) + 1))) (fun r419 M419 => Q 0 M419) X))))))))))))
set_option maxRecDepth 100000 in
theorem zs_X11_datum_38 {l : Launch} {s0 : State} {a0 : Array Value} {G : va_G} {ca : Nat → ClassId} (Γ : rt_Γ l s0 a0 G ca) {d : Nat} {C : Nat × Nat} {S : zS} (hd : 1 ≤ d) (hok : zok C)  (hs : zSok S) {w0 : rt_Wd} {v1 : Int} {v2 : Int} {v3 : Int} {v4 : Int} {v5 : Int}   {M : zM} {Q : Int → zM → Prop} {X : zM → Prop} (h : zt_X11_datum_38 l s0 G ca d C S w0  v1 v2 v3 v4 v5 M Q X) : zg_X11_datum_38 l s0 G ca d C S w0  v1 v2 v3 v4 v5 M Q X := by
  unfold zt_X11_datum_38 at h
  refine z_aload_n dX11_datum_38 rfl (j := 0) rfl ?_
  refine z_dup2 dX11_datum_39 ?_
  refine z_get Γ kf_RX11_129 dX11_datum_40 (by decide) (hs 84 _ rfl) rfl (by decide) (v9 := M 84 20) rfl ?_
  refine z_iconst dX11_datum_43 ?_
  refine z_iadd dX11_datum_44 ?_
  refine z_put0 Γ kp_RX11_129 dX11_datum_45 (by decide) (hs 84 _ rfl) rfl (k9 := 20) rfl ?_
  refine z_aload_n dX11_datum_48 rfl (j := 1) rfl ?_
  obtain ⟨hk0, h⟩ := h
  refine z_getcN Γ kfN_RX11_132 dX11_datum_49 hk0.1 hk0.2.1 rfl ?_
  refine z_iload_n dX11_datum_52 rfl (j := 2) rfl ?_
  obtain ⟨hi53, h⟩ := h
  refine z_iald Γ dX11_datum_53 (by have := hk0.1; omega) hk0.2.2.2.2.2.2.2.2.2.2.1 (by decide) hi53 (v9 := (zu M 84 20 ((M 84 20) + 1)) (v1 + 9) v2) rfl ?_
  by_cases c54_0 : w32 ((zu M 84 20 ((M 84 20) + 1)) (v1 + 9) v2) = 0
  · replace h := h.1 c54_0
    refine z_tin c54_0 dX11_datum_54 (by decide) (off := 62) (tgt := 116) (by decide) (by decide) ?_
    refine rt_goto (tgt := 422) dX11_datum_116 (by decide) ?_
    exact z_vret dX11_datum_422 rfl h
  replace h := h.2 c54_0
  by_cases c54_1 : w32 ((zu M 84 20 ((M 84 20) + 1)) (v1 + 9) v2) = 1
  · replace h := h.1 c54_1
    refine z_tin c54_1 dX11_datum_54 (by decide) (off := 65) (tgt := 119) (by decide) (by decide) ?_
    refine z_aload_n dX11_datum_119 rfl (j := 0) rfl ?_
    refine z_callV Γ kk_X11_byteHere kc_RX11_106 (As := []) h (by omega) (by decide) (show (parseMethodDescriptor yX11_byteHere.desc).map (fun q => q.parameters.length) = some 0 by decide +kernel) hok (Nat.zero_le _) dX11_datum_120 (by decide) (hs 84 _ rfl) rfl rfl (fun _ h9 => nomatch h9) ?_
    clear h
    intro r120 M120 h
    show rt_Go _ _ _ _ _ _ _ _ _ _ _ _ 123 [(0, zv s0 2 84), (1, zv s0 2 v1), (2, zv s0 0 v2), (3, zv s0 0 v3), (4, zv s0 0 v4), (5, zv s0 0 v5)] [zv s0 0 r120] (zw s0 ca C S M120)
    refine z_istore (i := 6) (lv' := [(6, zv s0 0 r120), (0, zv s0 2 84), (1, zv s0 2 v1), (2, zv s0 0 v2), (3, zv s0 0 v3), (4, zv s0 0 v4), (5, zv s0 0 v5)]) dX11_datum_123 (by decide) (by simp [zv_cat0, zv_cat1, zv_cat2, zv_cats]) ?_
    refine z_iload dX11_datum_125 (j := 0) rfl ?_
    refine z_iconst dX11_datum_127 ?_
    refine z_icmp_le (tgt := 138) (x' := w32 r120) (y' := 1) rfl (by decide) dX11_datum_128 (by decide) (fun c128 => ?_) (fun c128 => ?_)
    · replace h := h.1 c128
      refine z_aload_n dX11_datum_138 rfl (j := 1) rfl ?_
      refine z_iload dX11_datum_139 (j := 0) rfl ?_
      refine z_iload dX11_datum_141 (j := 5) rfl ?_
      refine z_callV Γ kk_X11_put kc_RX11_135 (As := [zv s0 0 r120, zv s0 0 v4]) h (by omega) (by decide) (show (parseMethodDescriptor yX11_put.desc).map (fun q => q.parameters.length) = some 2 by decide +kernel) hok (Nat.zero_le _) dX11_datum_143 (by decide) (hs 84 _ rfl) rfl rfl (fun _ h9 => nomatch h9) ?_
      clear h
      intro r143 M143 h
      show rt_Go _ _ _ _ _ _ _ _ _ _ _ _ 146 [(6, zv s0 0 r120), (0, zv s0 2 84), (1, zv s0 2 v1), (2, zv s0 0 v2), (3, zv s0 0 v3), (4, zv s0 0 v4), (5, zv s0 0 v5)] [] (zw s0 ca C S M143)
      refine rt_goto (tgt := 422) dX11_datum_146 (by decide) ?_
      exact z_vret dX11_datum_422 rfl h
    · replace h := h.2 c128
      refine z_aload_n dX11_datum_131 rfl (j := 1) rfl ?_
      refine z_iconst dX11_datum_132 ?_
      refine z_iload dX11_datum_133 (j := 6) rfl ?_
      refine z_callV Γ kk_X11_failBytes kc_RX11_102 (As := [zv s0 0 3, zv s0 0 v5]) h (by omega) (by decide) (show (parseMethodDescriptor yX11_failBytes.desc).map (fun q => q.parameters.length) = some 2 by decide +kernel) hok (Nat.zero_le _) dX11_datum_135 (by decide) (hs 84 _ rfl) rfl rfl (fun _ h9 => nomatch h9) ?_
      clear h
      intro r135 M135 h
      show rt_Go _ _ _ _ _ _ _ _ _ _ _ _ 138 [(6, zv s0 0 r120), (0, zv s0 2 84), (1, zv s0 2 v1), (2, zv s0 0 v2), (3, zv s0 0 v3), (4, zv s0 0 v4), (5, zv s0 0 v5)] [] (zw s0 ca C S M135)
      refine z_aload_n dX11_datum_138 rfl (j := 1) rfl ?_
      refine z_iload dX11_datum_139 (j := 0) rfl ?_
      refine z_iload dX11_datum_141 (j := 5) rfl ?_
      refine z_callV Γ kk_X11_put kc_RX11_135 (As := [zv s0 0 r120, zv s0 0 v4]) h (by omega) (by decide) (show (parseMethodDescriptor yX11_put.desc).map (fun q => q.parameters.length) = some 2 by decide +kernel) hok (Nat.zero_le _) dX11_datum_143 (by decide) (hs 84 _ rfl) rfl rfl (fun _ h9 => nomatch h9) ?_
      clear h
      intro r143 M143 h
      show rt_Go _ _ _ _ _ _ _ _ _ _ _ _ 146 [(6, zv s0 0 r120), (0, zv s0 2 84), (1, zv s0 2 v1), (2, zv s0 0 v2), (3, zv s0 0 v3), (4, zv s0 0 v4), (5, zv s0 0 v5)] [] (zw s0 ca C S M143)
      refine rt_goto (tgt := 422) dX11_datum_146 (by decide) ?_
      exact z_vret dX11_datum_422 rfl h
  replace h := h.2 c54_1
  by_cases c54_2 : w32 ((zu M 84 20 ((M 84 20) + 1)) (v1 + 9) v2) = 2
  · replace h := h.1 c54_2
    refine z_tin c54_2 dX11_datum_54 (by decide) (off := 95) (tgt := 149) (by decide) (by decide) ?_
    refine z_aload_n dX11_datum_149 rfl (j := 0) rfl ?_
    refine z_callV Γ kk_X11_varint kc_RX11_118 (As := []) h (by omega) (by decide) (show (parseMethodDescriptor yX11_varint.desc).map (fun q => q.parameters.length) = some 0 by decide +kernel) hok (Nat.zero_le _) dX11_datum_150 (by decide) (hs 84 _ rfl) rfl rfl (fun _ h9 => nomatch h9) ?_
    clear h
    intro r150 M150 h
    show rt_Go _ _ _ _ _ _ _ _ _ _ _ _ 153 [(0, zv s0 2 84), (1, zv s0 2 v1), (2, zv s0 0 v2), (3, zv s0 0 v3), (4, zv s0 0 v4), (5, zv s0 0 v5)] [zv s0 1 r150] (zw s0 ca C S M150)
    refine z_lstore (i := 7) (lv' := [(7, zv s0 1 r150), (0, zv s0 2 84), (1, zv s0 2 v1), (2, zv s0 0 v2), (3, zv s0 0 v3), (4, zv s0 0 v4), (5, zv s0 0 v5)]) dX11_datum_153 (by decide) (by simp [zv_cat0, zv_cat1, zv_cat2, zv_cats]) ?_
    refine z_aload_n dX11_datum_155 rfl (j := 2) rfl ?_
    refine z_getcN Γ kfN_RX11_132 dX11_datum_156 hk0.1 hk0.2.1 rfl ?_
    refine z_iload_n dX11_datum_159 rfl (j := 3) rfl ?_
    refine z_iald Γ dX11_datum_160 (by have := hk0.1; omega) hk0.2.2.2.2.2.2.2.2.2.2.1 (by decide) hi53 (v9 := M150 (v1 + 9) v2) rfl ?_
    refine z_iconst dX11_datum_161 ?_
    refine z_icmp_ne (tgt := 182) (x' := w32 (M150 (v1 + 9) v2)) (y' := 2) rfl (by decide) dX11_datum_162 (by decide) (fun c162 => ?_) (fun c162 => ?_)
    · replace h := h.2 c162
      exact rt_lfew [1, 5, 0] rfl (zs_X11_datum_182 Γ hd hok hs  h)
    · replace h := h.1 c162
      refine z_lload dX11_datum_165 (j := 0) rfl ?_
      refine z_lload dX11_datum_167 (j := 0) rfl ?_
      refine z_l2i dX11_datum_169 ?_
      refine z_i2l dX11_datum_170 ?_
      refine z_lif_eq (tgt := 182) (x' := w64 r150) (y' := w64 (w32 r150)) rfl rfl dX11_datum_171 dX11_datum_172 (by decide) (fun c171 => ?_) (fun c171 => ?_)
      · replace h := h.1 c171
        exact rt_lfew [1, 5, 0] rfl (zs_X11_datum_182 Γ hd hok hs  h)
      · replace h := h.2 c171
        refine z_aload_n dX11_datum_175 rfl (j := 1) rfl ?_
        refine z_iconst dX11_datum_176 ?_
        refine z_iload dX11_datum_177 (j := 6) rfl ?_
        refine z_callV Γ kk_X11_failBytes kc_RX11_102 (As := [zv s0 0 2, zv s0 0 v5]) h (by omega) (by decide) (show (parseMethodDescriptor yX11_failBytes.desc).map (fun q => q.parameters.length) = some 2 by decide +kernel) hok (Nat.zero_le _) dX11_datum_179 (by decide) (hs 84 _ rfl) rfl rfl (fun _ h9 => nomatch h9) ?_
        clear h
        intro r179 M179 h
        show rt_Go _ _ _ _ _ _ _ _ _ _ _ _ 182 [(7, zv s0 1 r150), (0, zv s0 2 84), (1, zv s0 2 v1), (2, zv s0 0 v2), (3, zv s0 0 v3), (4, zv s0 0 v4), (5, zv s0 0 v5)] [] (zw s0 ca C S M179)
        exact rt_lfew [1, 5, 0] rfl (zs_X11_datum_182 Γ hd hok hs  h)
  replace h := h.2 c54_2
  by_cases c54_3 : w32 ((zu M 84 20 ((M 84 20) + 1)) (v1 + 9) v2) = 3
  · replace h := h.1 c54_3
    refine z_tin c54_3 dX11_datum_54 (by decide) (off := 95) (tgt := 149) (by decide) (by decide) ?_
    refine z_aload_n dX11_datum_149 rfl (j := 0) rfl ?_
    refine z_callV Γ kk_X11_varint kc_RX11_118 (As := []) h (by omega) (by decide) (show (parseMethodDescriptor yX11_varint.desc).map (fun q => q.parameters.length) = some 0 by decide +kernel) hok (Nat.zero_le _) dX11_datum_150 (by decide) (hs 84 _ rfl) rfl rfl (fun _ h9 => nomatch h9) ?_
    clear h
    intro r150 M150 h
    show rt_Go _ _ _ _ _ _ _ _ _ _ _ _ 153 [(0, zv s0 2 84), (1, zv s0 2 v1), (2, zv s0 0 v2), (3, zv s0 0 v3), (4, zv s0 0 v4), (5, zv s0 0 v5)] [zv s0 1 r150] (zw s0 ca C S M150)
    refine z_lstore (i := 7) (lv' := [(7, zv s0 1 r150), (0, zv s0 2 84), (1, zv s0 2 v1), (2, zv s0 0 v2), (3, zv s0 0 v3), (4, zv s0 0 v4), (5, zv s0 0 v5)]) dX11_datum_153 (by decide) (by simp [zv_cat0, zv_cat1, zv_cat2, zv_cats]) ?_
    refine z_aload_n dX11_datum_155 rfl (j := 2) rfl ?_
    refine z_getcN Γ kfN_RX11_132 dX11_datum_156 hk0.1 hk0.2.1 rfl ?_
    refine z_iload_n dX11_datum_159 rfl (j := 3) rfl ?_
    refine z_iald Γ dX11_datum_160 (by have := hk0.1; omega) hk0.2.2.2.2.2.2.2.2.2.2.1 (by decide) hi53 (v9 := M150 (v1 + 9) v2) rfl ?_
    refine z_iconst dX11_datum_161 ?_
    refine z_icmp_ne (tgt := 182) (x' := w32 (M150 (v1 + 9) v2)) (y' := 2) rfl (by decide) dX11_datum_162 (by decide) (fun c162 => ?_) (fun c162 => ?_)
    · replace h := h.2 c162
      exact rt_lfew [1, 5, 0] rfl (zs_X11_datum_182 Γ hd hok hs  h)
    · replace h := h.1 c162
      refine z_lload dX11_datum_165 (j := 0) rfl ?_
      refine z_lload dX11_datum_167 (j := 0) rfl ?_
      refine z_l2i dX11_datum_169 ?_
      refine z_i2l dX11_datum_170 ?_
      refine z_lif_eq (tgt := 182) (x' := w64 r150) (y' := w64 (w32 r150)) rfl rfl dX11_datum_171 dX11_datum_172 (by decide) (fun c171 => ?_) (fun c171 => ?_)
      · replace h := h.1 c171
        exact rt_lfew [1, 5, 0] rfl (zs_X11_datum_182 Γ hd hok hs  h)
      · replace h := h.2 c171
        refine z_aload_n dX11_datum_175 rfl (j := 1) rfl ?_
        refine z_iconst dX11_datum_176 ?_
        refine z_iload dX11_datum_177 (j := 6) rfl ?_
        refine z_callV Γ kk_X11_failBytes kc_RX11_102 (As := [zv s0 0 2, zv s0 0 v5]) h (by omega) (by decide) (show (parseMethodDescriptor yX11_failBytes.desc).map (fun q => q.parameters.length) = some 2 by decide +kernel) hok (Nat.zero_le _) dX11_datum_179 (by decide) (hs 84 _ rfl) rfl rfl (fun _ h9 => nomatch h9) ?_
        clear h
        intro r179 M179 h
        show rt_Go _ _ _ _ _ _ _ _ _ _ _ _ 182 [(7, zv s0 1 r150), (0, zv s0 2 84), (1, zv s0 2 v1), (2, zv s0 0 v2), (3, zv s0 0 v3), (4, zv s0 0 v4), (5, zv s0 0 v5)] [] (zw s0 ca C S M179)
        exact rt_lfew [1, 5, 0] rfl (zs_X11_datum_182 Γ hd hok hs  h)
  replace h := h.2 c54_3
  by_cases c54_4 : w32 ((zu M 84 20 ((M 84 20) + 1)) (v1 + 9) v2) = 4
  · replace h := h.1 c54_4
    refine z_tin c54_4 dX11_datum_54 (by decide) (off := 142) (tgt := 196) (by decide) (by decide) ?_
    refine z_aload_n dX11_datum_196 rfl (j := 0) rfl ?_
    refine z_iload dX11_datum_197 (j := 4) rfl ?_
    refine z_callV Γ kk_X11_string kc_RX11_139 (As := [zv s0 0 v4]) h (by omega) (by decide) (show (parseMethodDescriptor yX11_string.desc).map (fun q => q.parameters.length) = some 1 by decide +kernel) hok (Nat.zero_le _) dX11_datum_199 (by decide) (hs 84 _ rfl) rfl rfl (fun _ h9 => nomatch h9) ?_
    clear h
    intro r199 M199 h
    show rt_Go _ _ _ _ _ _ _ _ _ _ _ _ 202 [(0, zv s0 2 84), (1, zv s0 2 v1), (2, zv s0 0 v2), (3, zv s0 0 v3), (4, zv s0 0 v4), (5, zv s0 0 v5)] [] (zw s0 ca C S M199)
    refine rt_goto (tgt := 422) dX11_datum_202 (by decide) ?_
    exact z_vret dX11_datum_422 rfl h
  replace h := h.2 c54_4
  by_cases c54_5 : w32 ((zu M 84 20 ((M 84 20) + 1)) (v1 + 9) v2) = 5
  · replace h := h.1 c54_5
    refine z_tin c54_5 dX11_datum_54 (by decide) (off := 142) (tgt := 196) (by decide) (by decide) ?_
    refine z_aload_n dX11_datum_196 rfl (j := 0) rfl ?_
    refine z_iload dX11_datum_197 (j := 4) rfl ?_
    refine z_callV Γ kk_X11_string kc_RX11_139 (As := [zv s0 0 v4]) h (by omega) (by decide) (show (parseMethodDescriptor yX11_string.desc).map (fun q => q.parameters.length) = some 1 by decide +kernel) hok (Nat.zero_le _) dX11_datum_199 (by decide) (hs 84 _ rfl) rfl rfl (fun _ h9 => nomatch h9) ?_
    clear h
    intro r199 M199 h
    show rt_Go _ _ _ _ _ _ _ _ _ _ _ _ 202 [(0, zv s0 2 84), (1, zv s0 2 v1), (2, zv s0 0 v2), (3, zv s0 0 v3), (4, zv s0 0 v4), (5, zv s0 0 v5)] [] (zw s0 ca C S M199)
    refine rt_goto (tgt := 422) dX11_datum_202 (by decide) ?_
    exact z_vret dX11_datum_422 rfl h
  replace h := h.2 c54_5
  by_cases c54_8 : w32 ((zu M 84 20 ((M 84 20) + 1)) (v1 + 9) v2) = 8
  · replace h := h.1 c54_8
    refine z_tin c54_8 dX11_datum_54 (by decide) (off := 244) (tgt := 298) (by decide) (by decide) ?_
    refine z_aload_n dX11_datum_298 rfl (j := 0) rfl ?_
    refine z_callV Γ kk_X11_varint kc_RX11_118 (As := []) h (by omega) (by decide) (show (parseMethodDescriptor yX11_varint.desc).map (fun q => q.parameters.length) = some 0 by decide +kernel) hok (Nat.zero_le _) dX11_datum_299 (by decide) (hs 84 _ rfl) rfl rfl (fun _ h9 => nomatch h9) ?_
    clear h
    intro r299 M299 h
    show rt_Go _ _ _ _ _ _ _ _ _ _ _ _ 302 [(0, zv s0 2 84), (1, zv s0 2 v1), (2, zv s0 0 v2), (3, zv s0 0 v3), (4, zv s0 0 v4), (5, zv s0 0 v5)] [zv s0 1 r299] (zw s0 ca C S M299)
    refine z_lstore (i := 11) (lv' := [(11, zv s0 1 r299), (0, zv s0 2 84), (1, zv s0 2 v1), (2, zv s0 0 v2), (3, zv s0 0 v3), (4, zv s0 0 v4), (5, zv s0 0 v5)]) dX11_datum_302 (by decide) (by simp [zv_cat0, zv_cat1, zv_cat2, zv_cats]) ?_
    refine z_lload dX11_datum_304 (j := 0) rfl ?_
    refine z_lconst (v := 0) dX11_datum_306 (by decide) ?_
    refine z_lif_lt (tgt := 324) (x' := w64 r299) (y' := 0) rfl (by decide) dX11_datum_307 dX11_datum_308 (by decide) (fun c307 => ?_) (fun c307 => ?_)
    · replace h := h.1 c307
      exact rt_lfew [1, 2, 3, 4, 5, 6, 0] rfl (zs_X11_datum_324 Γ hd hok hs  h)
    · replace h := h.2 c307
      refine z_lload dX11_datum_311 (j := 0) rfl ?_
      refine z_aload_n dX11_datum_313 rfl (j := 2) rfl ?_
      refine z_getcN Γ kfN_RX11_146 dX11_datum_314 hk0.1 hk0.2.1 rfl ?_
      refine z_iload_n dX11_datum_317 rfl (j := 3) rfl ?_
      refine z_iald Γ dX11_datum_318 (by have := hk0.1; omega) hk0.2.2.2.2.2.2.2.2.2.2.2.2.2.2.1 (by decide) hi53 (v9 := M299 (v1 + 13) v2) rfl ?_
      refine z_i2l dX11_datum_319 ?_
      refine z_lif_lt (tgt := 331) (x' := w64 r299) (y' := w64 (w32 (M299 (v1 + 13) v2))) rfl rfl dX11_datum_320 dX11_datum_321 (by decide) (fun c320 => ?_) (fun c320 => ?_)
      · replace h := h.1 c320
        exact rt_lfew [1, 2, 3, 4, 5, 0] rfl (zs_X11_datum_331 Γ hd hok hs  h)
      · replace h := h.2 c320
        exact rt_lfew [1, 2, 3, 4, 5, 6, 0] rfl (zs_X11_datum_324 Γ hd hok hs  h)
  replace h := h.2 c54_8
  by_cases c54_9 : w32 ((zu M 84 20 ((M 84 20) + 1)) (v1 + 9) v2) = 9
  · replace h := h.1 c54_9
    refine z_tin c54_9 dX11_datum_54 (by decide) (off := 151) (tgt := 205) (by decide) (by decide) ?_
    refine z_aload_n dX11_datum_205 rfl (j := 0) rfl ?_
    refine z_aload_n dX11_datum_206 rfl (j := 1) rfl ?_
    refine z_getcN Γ kfN_RX11_143 dX11_datum_207 hk0.1 hk0.2.1 rfl ?_
    refine z_iload_n dX11_datum_210 rfl (j := 2) rfl ?_
    refine z_iald Γ dX11_datum_211 (by have := hk0.1; omega) hk0.2.2.2.2.2.2.2.2.2.2.2.2.1 (by decide) hi53 (v9 := (zu M 84 20 ((M 84 20) + 1)) (v1 + 11) v2) rfl ?_
    refine z_i2l dX11_datum_212 ?_
    refine z_callV Γ kk_X11_passBytes kc_RX11_122 (As := [zv s0 1 (w32 ((zu M 84 20 ((M 84 20) + 1)) (v1 + 11) v2))]) h (by omega) (by decide) (show (parseMethodDescriptor yX11_passBytes.desc).map (fun q => q.parameters.length) = some 1 by decide +kernel) hok (Nat.zero_le _) dX11_datum_213 (by decide) (hs 84 _ rfl) rfl rfl (fun _ h9 => nomatch h9) ?_
    clear h
    intro r213 M213 h
    show rt_Go _ _ _ _ _ _ _ _ _ _ _ _ 216 [(0, zv s0 2 84), (1, zv s0 2 v1), (2, zv s0 0 v2), (3, zv s0 0 v3), (4, zv s0 0 v4), (5, zv s0 0 v5)] [] (zw s0 ca C S M213)
    refine z_iload dX11_datum_216 (j := 5) rfl ?_
    refine z_istore (i := 9) (lv' := [(9, zv s0 0 v5), (0, zv s0 2 84), (1, zv s0 2 v1), (2, zv s0 0 v2), (3, zv s0 0 v3), (4, zv s0 0 v4), (5, zv s0 0 v5)]) dX11_datum_218 (by decide) (by simp [zv_cat0, zv_cat1, zv_cat2, zv_cats]) ?_
    exact rt_lfew [1, 5, 0] rfl h
  replace h := h.2 c54_9
  by_cases c54_10 : w32 ((zu M 84 20 ((M 84 20) + 1)) (v1 + 9) v2) = 10
  · replace h := h.1 c54_10
    refine z_tin c54_10 dX11_datum_54 (by decide) (off := 197) (tgt := 251) (by decide) (by decide) ?_
    refine z_aload_n dX11_datum_251 rfl (j := 0) rfl ?_
    refine z_callV Γ kk_X11_varint kc_RX11_118 (As := []) h (by omega) (by decide) (show (parseMethodDescriptor yX11_varint.desc).map (fun q => q.parameters.length) = some 0 by decide +kernel) hok (Nat.zero_le _) dX11_datum_252 (by decide) (hs 84 _ rfl) rfl rfl (fun _ h9 => nomatch h9) ?_
    clear h
    intro r252 M252 h
    show rt_Go _ _ _ _ _ _ _ _ _ _ _ _ 255 [(0, zv s0 2 84), (1, zv s0 2 v1), (2, zv s0 0 v2), (3, zv s0 0 v3), (4, zv s0 0 v4), (5, zv s0 0 v5)] [zv s0 1 r252] (zw s0 ca C S M252)
    refine z_lstore (i := 9) (lv' := [(9, zv s0 1 r252), (0, zv s0 2 84), (1, zv s0 2 v1), (2, zv s0 0 v2), (3, zv s0 0 v3), (4, zv s0 0 v4), (5, zv s0 0 v5)]) dX11_datum_255 (by decide) (by simp [zv_cat0, zv_cat1, zv_cat2, zv_cats]) ?_
    refine z_lload dX11_datum_257 (j := 0) rfl ?_
    refine z_lconst (v := 0) dX11_datum_259 (by decide) ?_
    refine z_lif_lt (tgt := 277) (x' := w64 r252) (y' := 0) rfl (by decide) dX11_datum_260 dX11_datum_261 (by decide) (fun c260 => ?_) (fun c260 => ?_)
    · replace h := h.1 c260
      exact rt_lfew [1, 5, 6, 0] rfl (zs_X11_datum_277 Γ hd hok hs  h)
    · replace h := h.2 c260
      refine z_lload dX11_datum_264 (j := 0) rfl ?_
      refine z_aload_n dX11_datum_266 rfl (j := 2) rfl ?_
      refine z_getcN Γ kfN_RX11_146 dX11_datum_267 hk0.1 hk0.2.1 rfl ?_
      refine z_iload_n dX11_datum_270 rfl (j := 3) rfl ?_
      refine z_iald Γ dX11_datum_271 (by have := hk0.1; omega) hk0.2.2.2.2.2.2.2.2.2.2.2.2.2.2.1 (by decide) hi53 (v9 := M252 (v1 + 13) v2) rfl ?_
      refine z_i2l dX11_datum_272 ?_
      refine z_lif_lt (tgt := 284) (x' := w64 r252) (y' := w64 (w32 (M252 (v1 + 13) v2))) rfl rfl dX11_datum_273 dX11_datum_274 (by decide) (fun c273 => ?_) (fun c273 => ?_)
      · replace h := h.1 c273
        exact rt_lfew [1, 5, 0] rfl (zs_X11_datum_284 Γ hd hok hs  h)
      · replace h := h.2 c273
        exact rt_lfew [1, 5, 6, 0] rfl (zs_X11_datum_277 Γ hd hok hs  h)
  replace h := h.2 c54_10
  by_cases c54_11 : w32 ((zu M 84 20 ((M 84 20) + 1)) (v1 + 9) v2) = 11
  · replace h := h.1 c54_11
    refine z_tin c54_11 dX11_datum_54 (by decide) (off := 314) (tgt := 368) (by decide) (by decide) ?_
    refine z_aload_n dX11_datum_368 rfl (j := 1) rfl ?_
    refine z_getcN Γ kfN_RX11_160 dX11_datum_369 hk0.1 hk0.2.1 rfl ?_
    refine z_iload_n dX11_datum_372 rfl (j := 2) rfl ?_
    refine z_iald Γ dX11_datum_373 (by have := hk0.1; omega) hk0.2.2.2.2.2.2.2.2.2.2.2.2.2.1 (by decide) hi53 (v9 := (zu M 84 20 ((M 84 20) + 1)) (v1 + 12) v2) rfl ?_
    refine z_istore (i := 13) (lv' := [(13, zv s0 0 ((zu M 84 20 ((M 84 20) + 1)) (v1 + 12) v2)), (0, zv s0 2 84), (1, zv s0 2 v1), (2, zv s0 0 v2), (3, zv s0 0 v3), (4, zv s0 0 v4), (5, zv s0 0 v5)]) dX11_datum_374 (by decide) (by simp [zv_cat0, zv_cat1, zv_cat2, zv_cats]) ?_
    exact rt_lfew [1, 2, 4, 5, 0] rfl h
  replace h := h.2 c54_11
  by_cases c54_6 : w32 ((zu M 84 20 ((M 84 20) + 1)) (v1 + 9) v2) = 6
  · refine z_tin c54_6 dX11_datum_54 (by decide) (off := 359) (tgt := 413) (by decide) (by decide) ?_
    refine z_aload_n dX11_datum_413 rfl (j := 0) rfl ?_
    refine z_aload_n dX11_datum_414 rfl (j := 1) rfl ?_
    refine z_iload_n dX11_datum_415 rfl (j := 2) rfl ?_
    refine z_iload_n dX11_datum_416 rfl (j := 3) rfl ?_
    refine z_iload dX11_datum_417 (j := 4) rfl ?_
    refine z_callV Γ kk_X11_blocks kc_RX11_166 (As := [zv s0 2 v1, zv s0 0 v2, zv s0 0 v3, zv s0 0 v4]) h (by omega) (by decide) (show (parseMethodDescriptor yX11_blocks.desc).map (fun q => q.parameters.length) = some 4 by decide +kernel) hok (Nat.zero_le _) dX11_datum_419 (by decide) (hs 84 _ rfl) rfl rfl (fun _ h9 => nomatch h9) ?_
    clear h
    intro r419 M419 h
    show rt_Go _ _ _ _ _ _ _ _ _ _ _ _ 422 [(0, zv s0 2 84), (1, zv s0 2 v1), (2, zv s0 0 v2), (3, zv s0 0 v3), (4, zv s0 0 v4), (5, zv s0 0 v5)] [] (zw s0 ca C S M419)
    exact z_vret dX11_datum_422 rfl h
  by_cases c54_7 : w32 ((zu M 84 20 ((M 84 20) + 1)) (v1 + 9) v2) = 7
  · refine z_tin c54_7 dX11_datum_54 (by decide) (off := 359) (tgt := 413) (by decide) (by decide) ?_
    refine z_aload_n dX11_datum_413 rfl (j := 0) rfl ?_
    refine z_aload_n dX11_datum_414 rfl (j := 1) rfl ?_
    refine z_iload_n dX11_datum_415 rfl (j := 2) rfl ?_
    refine z_iload_n dX11_datum_416 rfl (j := 3) rfl ?_
    refine z_iload dX11_datum_417 (j := 4) rfl ?_
    refine z_callV Γ kk_X11_blocks kc_RX11_166 (As := [zv s0 2 v1, zv s0 0 v2, zv s0 0 v3, zv s0 0 v4]) h (by omega) (by decide) (show (parseMethodDescriptor yX11_blocks.desc).map (fun q => q.parameters.length) = some 4 by decide +kernel) hok (Nat.zero_le _) dX11_datum_419 (by decide) (hs 84 _ rfl) rfl rfl (fun _ h9 => nomatch h9) ?_
    clear h
    intro r419 M419 h
    show rt_Go _ _ _ _ _ _ _ _ _ _ _ _ 422 [(0, zv s0 2 84), (1, zv s0 2 v1), (2, zv s0 0 v2), (3, zv s0 0 v3), (4, zv s0 0 v4), (5, zv s0 0 v5)] [] (zw s0 ca C S M419)
    exact z_vret dX11_datum_422 rfl h
  refine z_tout dX11_datum_54 (show w32 ((zu M 84 20 ((M 84 20) + 1)) (v1 + 9) v2) < 0 ∨ 11 < w32 ((zu M 84 20 ((M 84 20) + 1)) (v1 + 9) v2) from by omega) (tgt := 413) (by decide) ?_
  refine z_aload_n dX11_datum_413 rfl (j := 0) rfl ?_
  refine z_aload_n dX11_datum_414 rfl (j := 1) rfl ?_
  refine z_iload_n dX11_datum_415 rfl (j := 2) rfl ?_
  refine z_iload_n dX11_datum_416 rfl (j := 3) rfl ?_
  refine z_iload dX11_datum_417 (j := 4) rfl ?_
  refine z_callV Γ kk_X11_blocks kc_RX11_166 (As := [zv s0 2 v1, zv s0 0 v2, zv s0 0 v3, zv s0 0 v4]) h (by omega) (by decide) (show (parseMethodDescriptor yX11_blocks.desc).map (fun q => q.parameters.length) = some 4 by decide +kernel) hok (Nat.zero_le _) dX11_datum_419 (by decide) (hs 84 _ rfl) rfl rfl (fun _ h9 => nomatch h9) ?_
  clear h
  intro r419 M419 h
  show rt_Go _ _ _ _ _ _ _ _ _ _ _ _ 422 [(0, zv s0 2 84), (1, zv s0 2 v1), (2, zv s0 0 v2), (3, zv s0 0 v3), (4, zv s0 0 v4), (5, zv s0 0 v5)] [] (zw s0 ca C S M419)
  exact z_vret dX11_datum_422 rfl h

def zt_X11_datum_20 (l : Launch) (s0 : State) (G : va_G) (ca : Nat → ClassId) (d : Nat) (C : Nat × Nat) (S : zS) (w0 : rt_Wd)  (v1 : Int) (v2 : Int) (v3 : Int) (v4 : Int) (v5 : Int)  (M : zM) (Q : Int → zM → Prop) (X : zM → Prop) : Prop :=
  zIf (w32 (M 84 20) = 4000) (zm_X11_failBytes l s0 G ca (d - 1) C S 8 v5 M (fun r35 M35 => zt_X11_datum_38 l s0 G ca d C S w0  v1 v2 v3 v4 v5 M35 Q X) X) (zt_X11_datum_38 l s0 G ca d C S w0  v1 v2 v3 v4 v5 M Q X)
set_option maxRecDepth 100000 in
theorem zs_X11_datum_20 {l : Launch} {s0 : State} {a0 : Array Value} {G : va_G} {ca : Nat → ClassId} (Γ : rt_Γ l s0 a0 G ca) {d : Nat} {C : Nat × Nat} {S : zS} (hd : 1 ≤ d) (hok : zok C)  (hs : zSok S) {w0 : rt_Wd} {v1 : Int} {v2 : Int} {v3 : Int} {v4 : Int} {v5 : Int}   {M : zM} {Q : Int → zM → Prop} {X : zM → Prop} (h : zt_X11_datum_20 l s0 G ca d C S w0  v1 v2 v3 v4 v5 M Q X) : zg_X11_datum_20 l s0 G ca d C S w0  v1 v2 v3 v4 v5 M Q X := by
  unfold zt_X11_datum_20 at h
  refine z_aload_n dX11_datum_20 rfl (j := 0) rfl ?_
  refine z_get Γ kf_RX11_129 dX11_datum_21 (by decide) (hs 84 _ rfl) rfl (by decide) (v9 := M 84 20) rfl ?_
  refine z_sipush dX11_datum_24 (by decide) ?_
  refine z_icmp_ne (tgt := 38) (x' := w32 (M 84 20)) (y' := 4000) rfl (by decide) dX11_datum_27 (by decide) (fun c27 => ?_) (fun c27 => ?_)
  · replace h := h.2 c27
    exact rt_lfew [0, 1, 2, 3, 4, 5] rfl (zs_X11_datum_38 Γ hd hok hs  h)
  · replace h := h.1 c27
    refine z_aload_n dX11_datum_30 rfl (j := 0) rfl ?_
    refine z_bipush dX11_datum_31 (by decide) ?_
    refine z_iload dX11_datum_33 (j := 5) rfl ?_
    refine z_callV Γ kk_X11_failBytes kc_RX11_102 (As := [zv s0 0 8, zv s0 0 v5]) h (by omega) (by decide) (show (parseMethodDescriptor yX11_failBytes.desc).map (fun q => q.parameters.length) = some 2 by decide +kernel) hok (Nat.zero_le _) dX11_datum_35 (by decide) (hs 84 _ rfl) rfl rfl (fun _ h9 => nomatch h9) ?_
    clear h
    intro r35 M35 h
    show rt_Go _ _ _ _ _ _ _ _ _ _ _ _ 38 [(0, zv s0 2 84), (1, zv s0 2 v1), (2, zv s0 0 v2), (3, zv s0 0 v3), (4, zv s0 0 v4), (5, zv s0 0 v5)] [] (zw s0 ca C S M35)
    exact rt_lfew [0, 1, 2, 3, 4, 5] rfl (zs_X11_datum_38 Γ hd hok hs  h)

def zt_X11_datum_220 (l : Launch) (s0 : State) (G : va_G) (ca : Nat → ClassId) (d : Nat) (C : Nat × Nat) (S : zS) (w0 : rt_Wd)  (v4 : Int) (v9 : Int)  (M : zM) (Q : Int → zM → Prop) (X : zM → Prop) : Prop :=
  zIf (w32 (M 84 16) ≤ w32 v9) (Q 0 M) ((0 ≤ v9 ∧ v9 < 4096) ∧ (zm_X11_put l s0 G ca (d - 1) C S (M 85 v9) v4 M (fun r239 M239 => zg_X11_datum_220 l s0 G ca d C S w0  v4 (v9 + 1) M239 Q X) X))
set_option maxRecDepth 100000 in
theorem zs_X11_datum_220 {l : Launch} {s0 : State} {a0 : Array Value} {G : va_G} {ca : Nat → ClassId} (Γ : rt_Γ l s0 a0 G ca) {d : Nat} {C : Nat × Nat} {S : zS} (hd : 1 ≤ d) (hok : zok C)  (hs : zSok S) {w0 : rt_Wd} {v4 : Int} {v9 : Int}   {M : zM} {Q : Int → zM → Prop} {X : zM → Prop} (h : zt_X11_datum_220 l s0 G ca d C S w0  v4 v9 M Q X) : zg_X11_datum_220 l s0 G ca d C S w0  v4 v9 M Q X := by
  unfold zt_X11_datum_220 at h
  refine z_iload dX11_datum_220 (j := 2) rfl ?_
  refine z_aload_n dX11_datum_222 rfl (j := 0) rfl ?_
  refine z_get Γ kf_RX11_99 dX11_datum_223 (by decide) (hs 84 _ rfl) rfl (by decide) (v9 := M 84 16) rfl ?_
  refine z_icmp_ge (tgt := 248) (x' := w32 v9) (y' := w32 (M 84 16)) rfl rfl dX11_datum_226 (by decide) (fun c226 => ?_) (fun c226 => ?_)
  · replace h := h.1 c226
    refine rt_goto (tgt := 422) dX11_datum_248 (by decide) ?_
    exact z_vret dX11_datum_422 rfl h
  · replace h := h.2 c226
    refine z_aload_n dX11_datum_229 rfl (j := 0) rfl ?_
    refine z_aload_n dX11_datum_230 rfl (j := 0) rfl ?_
    refine z_getc Γ kf_RX11_7 dX11_datum_231 (by decide) (hs 84 _ rfl) rfl ?_
    refine z_iload dX11_datum_234 (j := 2) rfl ?_
    obtain ⟨hi236, h⟩ := h
    refine z_bald Γ dX11_datum_236 (by decide) (hs 85 _ rfl) (by decide) hi236 (v9 := M 85 v9) rfl ?_
    refine z_iload dX11_datum_237 (j := 1) rfl ?_
    refine z_callV Γ kk_X11_put kc_RX11_135 (As := [zv s0 0 (M 85 v9), zv s0 0 v4]) h (by omega) (by decide) (show (parseMethodDescriptor yX11_put.desc).map (fun q => q.parameters.length) = some 2 by decide +kernel) hok (Nat.zero_le _) dX11_datum_239 (by decide) (hs 84 _ rfl) rfl rfl (fun _ h9 => nomatch h9) ?_
    clear h
    intro r239 M239 h
    show rt_Go _ _ _ _ _ _ _ _ _ _ _ _ 242 [(0, zv s0 2 84), (4, zv s0 0 v4), (9, zv s0 0 v9)] [] (zw s0 ca C S M239)
    refine z_iinc (lv' := [(9, zv s0 0 (v9 + 1)), (0, zv s0 2 84), (4, zv s0 0 v4)]) dX11_datum_242 (j := 2) rfl (by decide) (by simp [zv_cat0, zv_cat1, zv_cat2, zv_cats]) ?_
    refine rt_goto (tgt := 220) dX11_datum_245 (by decide) ?_
    exact rt_lfew [1, 2, 0] rfl h

def zt_X11_datum_376 (l : Launch) (s0 : State) (G : va_G) (ca : Nat → ClassId) (d : Nat) (C : Nat × Nat) (S : zS) (w0 : rt_Wd)  (v1 : Int) (v3 : Int) (v4 : Int) (v13 : Int)  (M : zM) (Q : Int → zM → Prop) (X : zM → Prop) : Prop :=
  zIf (w32 v13 < 0) (Q 0 M) (zTx S v1 ∧ ((0 ≤ v13 ∧ v13 < 2200) ∧ (zm_X11_datum l s0 G ca (d - 1) C S v1 (M (v1 + 15) v13) (v3 + 1) v4 M (fun r395 M395 => zg_X11_datum_376 l s0 G ca d C S w0  v1 v3 v4 (M395 (v1 + 18) v13) M395 Q X) X)))
set_option maxRecDepth 100000 in
theorem zs_X11_datum_376 {l : Launch} {s0 : State} {a0 : Array Value} {G : va_G} {ca : Nat → ClassId} (Γ : rt_Γ l s0 a0 G ca) {d : Nat} {C : Nat × Nat} {S : zS} (hd : 1 ≤ d) (hok : zok C)  (hs : zSok S) {w0 : rt_Wd} {v1 : Int} {v3 : Int} {v4 : Int} {v13 : Int}   {M : zM} {Q : Int → zM → Prop} {X : zM → Prop} (h : zt_X11_datum_376 l s0 G ca d C S w0  v1 v3 v4 v13 M Q X) : zg_X11_datum_376 l s0 G ca d C S w0  v1 v3 v4 v13 M Q X := by
  unfold zt_X11_datum_376 at h
  refine z_iload dX11_datum_376 (j := 4) rfl ?_
  refine z_if_lt (tgt := 410) (x' := w32 v13) rfl dX11_datum_378 (by decide) (fun c378 => ?_) (fun c378 => ?_)
  · replace h := h.1 c378
    refine rt_goto (tgt := 422) dX11_datum_410 (by decide) ?_
    exact z_vret dX11_datum_422 rfl h
  · replace h := h.2 c378
    refine z_aload_n dX11_datum_381 rfl (j := 0) rfl ?_
    refine z_aload_n dX11_datum_382 rfl (j := 1) rfl ?_
    refine z_aload_n dX11_datum_383 rfl (j := 1) rfl ?_
    obtain ⟨hk0, h⟩ := h
    refine z_getcN Γ kfN_RX11_149 dX11_datum_384 hk0.1 hk0.2.1 rfl ?_
    refine z_iload dX11_datum_387 (j := 4) rfl ?_
    obtain ⟨hi389, h⟩ := h
    refine z_iald Γ dX11_datum_389 (by have := hk0.1; omega) hk0.2.2.2.2.2.2.2.2.2.2.2.2.2.2.2.2.1 (by decide) hi389 (v9 := M (v1 + 15) v13) rfl ?_
    refine z_iload_n dX11_datum_390 rfl (j := 2) rfl ?_
    refine z_iconst dX11_datum_391 ?_
    refine z_iadd dX11_datum_392 ?_
    refine z_iload dX11_datum_393 (j := 3) rfl ?_
    refine z_callV Γ kk_X11_datum kc_RX11_156 (As := [zv s0 2 v1, zv s0 0 (M (v1 + 15) v13), zv s0 0 (v3 + 1), zv s0 0 v4]) h (by omega) (by decide) (show (parseMethodDescriptor yX11_datum.desc).map (fun q => q.parameters.length) = some 4 by decide +kernel) hok (Nat.zero_le _) dX11_datum_395 (by decide) (hs 84 _ rfl) rfl rfl (fun _ h9 => nomatch h9) ?_
    clear h
    intro r395 M395 h
    show rt_Go _ _ _ _ _ _ _ _ _ _ _ _ 398 [(0, zv s0 2 84), (1, zv s0 2 v1), (3, zv s0 0 v3), (4, zv s0 0 v4), (13, zv s0 0 v13)] [] (zw s0 ca C S M395)
    refine z_aload_n dX11_datum_398 rfl (j := 1) rfl ?_
    refine z_getcN Γ kfN_RX11_163 dX11_datum_399 hk0.1 hk0.2.1 rfl ?_
    refine z_iload dX11_datum_402 (j := 4) rfl ?_
    refine z_iald Γ dX11_datum_404 (by have := hk0.1; omega) hk0.2.2.2.2.2.2.2.2.2.2.2.2.2.2.2.2.2.2.2.1 (by decide) hi389 (v9 := M395 (v1 + 18) v13) rfl ?_
    refine z_istore (i := 13) (lv' := [(13, zv s0 0 (M395 (v1 + 18) v13)), (0, zv s0 2 84), (1, zv s0 2 v1), (3, zv s0 0 v3), (4, zv s0 0 v4)]) dX11_datum_405 (by decide) (by simp [zv_cat0, zv_cat1, zv_cat2, zv_cats]) ?_
    refine rt_goto (tgt := 376) dX11_datum_407 (by decide) ?_
    exact rt_lfew [1, 2, 3, 4, 0] rfl h

def zt_X11_datum (l : Launch) (s0 : State) (G : va_G) (ca : Nat → ClassId) (d : Nat) (C : Nat × Nat) (S : zS) (w0 : rt_Wd)  (t : Int) (s : Int) (e : Int) (p : Int) (M : zM) (Q : Int → zM → Prop) (X : zM → Prop) : Prop :=
  zIf (w32 e ≤ 31) (zt_X11_datum_20 l s0 G ca d C S w0  t s e p (M 84 16) M Q X) (zm_X11_failBytes l s0 G ca (d - 1) C S 7 (M 84 16) M (fun r17 M17 => zt_X11_datum_20 l s0 G ca d C S w0  t s e p (M 84 16) M17 Q X) X)
set_option maxRecDepth 100000 in
theorem z_X11_datum {l : Launch} {s0 : State} {a0 : Array Value} {G : va_G} {ca : Nat → ClassId} (Γ : rt_Γ l s0 a0 G ca) {d : Nat} {C : Nat × Nat} {S : zS} (hd : 1 ≤ d) (hok : zok C)  (hs : zSok S) {t : Int} {s : Int} {e : Int} {p : Int} {M : zM} {Q : Int → zM → Prop} {X : zM → Prop} (h : zt_X11_datum l s0 G ca d C S (zw s0 ca C S M)  t s e p M Q X) : zm_X11_datum l s0 G ca d C S  t s e p M Q X := by
  refine z_met (lv := [(0, zv s0 2 84), (1, zv s0 2 t), (2, zv s0 0 s), (3, zv s0 0 e), (4, zv s0 0 p)]) Γ kk_X11_datum rfl (show (lg_sl [zv s0 2 84, zv s0 2 t, zv s0 0 s, zv s0 0 e, zv s0 0 p]).length ≤ 14 from by simp only [zn_0, zn_2, show (lg_sl []).length = 0 from rfl]; omega) (show lv_args 0 [zv s0 2 84, zv s0 2 t, zv s0 0 s, zv s0 0 e, zv s0 0 p] = [(0, zv s0 2 84), (1, zv s0 2 t), (2, zv s0 0 s), (3, zv s0 0 e), (4, zv s0 0 p)] from by rw [zl_2, zl_2, zl_0, zl_0, zl_0]; rfl) ?_
  unfold zt_X11_datum at h
  refine z_aload_n dX11_datum_0 rfl (j := 0) rfl ?_
  refine z_get Γ kf_RX11_99 dX11_datum_1 (by decide) (hs 84 _ rfl) rfl (by decide) (v9 := M 84 16) rfl ?_
  refine z_istore (i := 5) (lv' := [(5, zv s0 0 (M 84 16)), (0, zv s0 2 84), (1, zv s0 2 t), (2, zv s0 0 s), (3, zv s0 0 e), (4, zv s0 0 p)]) dX11_datum_4 (by decide) (by simp [zv_cat0, zv_cat1, zv_cat2, zv_cats]) ?_
  refine z_iload_n dX11_datum_6 rfl (j := 4) rfl ?_
  refine z_bipush dX11_datum_7 (by decide) ?_
  refine z_icmp_le (tgt := 20) (x' := w32 e) (y' := 31) rfl (by decide) dX11_datum_9 (by decide) (fun c9 => ?_) (fun c9 => ?_)
  · replace h := h.1 c9
    exact rt_lfew [1, 2, 3, 4, 5, 0] rfl (zs_X11_datum_20 Γ hd hok hs  h)
  · replace h := h.2 c9
    refine z_aload_n dX11_datum_12 rfl (j := 1) rfl ?_
    refine z_bipush dX11_datum_13 (by decide) ?_
    refine z_iload dX11_datum_15 (j := 0) rfl ?_
    refine z_callV Γ kk_X11_failBytes kc_RX11_102 (As := [zv s0 0 7, zv s0 0 (M 84 16)]) h (by omega) (by decide) (show (parseMethodDescriptor yX11_failBytes.desc).map (fun q => q.parameters.length) = some 2 by decide +kernel) hok (Nat.zero_le _) dX11_datum_17 (by decide) (hs 84 _ rfl) rfl rfl (fun _ h9 => nomatch h9) ?_
    clear h
    intro r17 M17 h
    show rt_Go _ _ _ _ _ _ _ _ _ _ _ _ 20 [(5, zv s0 0 (M 84 16)), (0, zv s0 2 84), (1, zv s0 2 t), (2, zv s0 0 s), (3, zv s0 0 e), (4, zv s0 0 p)] [] (zw s0 ca C S M17)
    exact rt_lfew [1, 2, 3, 4, 5, 0] rfl (zs_X11_datum_20 Γ hd hok hs  h)

def zt_X11_sixOf (l : Launch) (s0 : State) (G : va_G) (ca : Nat → ClassId) (d : Nat) (C : Nat × Nat) (S : zS) (w0 : rt_Wd)  (k : Int) (M : zM) (Q : Int → zM → Prop) (X : zM → Prop) : Prop :=
  zIf (6 ≤ w32 k) (Q 0 M) (Q 1 M)
set_option maxRecDepth 100000 in
theorem z_X11_sixOf {l : Launch} {s0 : State} {a0 : Array Value} {G : va_G} {ca : Nat → ClassId} (Γ : rt_Γ l s0 a0 G ca) {d : Nat} {C : Nat × Nat} {S : zS} (hok : zok C)  (hs : zSok S) {k : Int} {M : zM} {Q : Int → zM → Prop} {X : zM → Prop} (h : zt_X11_sixOf l s0 G ca d C S (zw s0 ca C S M)  k M Q X) : zm_X11_sixOf l s0 G ca d C S  k M Q X := by
  refine z_met (lv := [(0, zv s0 0 k)]) Γ kk_X11_sixOf rfl (show (lg_sl [zv s0 0 k]).length ≤ 1 from by simp only [zn_0, show (lg_sl []).length = 0 from rfl]; omega) (show lv_args 0 [zv s0 0 k] = [(0, zv s0 0 k)] from by rw [zl_0]; rfl) ?_
  unfold zt_X11_sixOf at h
  refine z_iload_n dX11_sixOf_0 rfl (j := 0) rfl ?_
  refine z_bipush dX11_sixOf_1 (by decide) ?_
  refine z_icmp_ge (tgt := 10) (x' := w32 k) (y' := 6) rfl (by decide) dX11_sixOf_3 (by decide) (fun c3 => ?_) (fun c3 => ?_)
  · replace h := h.1 c3
    refine z_iconst dX11_sixOf_10 ?_
    exact z_zret dX11_sixOf_11 rfl (by decide) h
  · replace h := h.2 c3
    refine z_iconst dX11_sixOf_6 ?_
    refine rt_goto (tgt := 11) dX11_sixOf_7 (by decide) ?_
    exact z_zret dX11_sixOf_11 rfl (by decide) h

abbrev zg_X11_matchesSix_15 (l : Launch) (s0 : State) (G : va_G) (ca : Nat → ClassId) (d : Nat) (C : Nat × Nat) (S : zS) (w0 : rt_Wd)  (v0 : Int) (v1 : Int)  (M : zM) (Q : Int → zM → Prop) (X : zM → Prop) : Prop := rt_Go l s0 G RX11 "matchesSix" cX11_matchesSix 2 (Option.some FieldType.boolean) [] d w0 (zQ s0 ca 0 C S Q X) 15 [(0, zv s0 0 v0), (1, zv s0 0 v1)] [] (zw s0 ca C S M)
abbrev zg_X11_matchesSix_25 (l : Launch) (s0 : State) (G : va_G) (ca : Nat → ClassId) (d : Nat) (C : Nat × Nat) (S : zS) (w0 : rt_Wd)  (v1 : Int)  (M : zM) (Q : Int → zM → Prop) (X : zM → Prop) : Prop := rt_Go l s0 G RX11 "matchesSix" cX11_matchesSix 2 (Option.some FieldType.boolean) [] d w0 (zQ s0 ca 0 C S Q X) 25 [(1, zv s0 0 v1)] [] (zw s0 ca C S M)
def zt_X11_matchesSix_25 (l : Launch) (s0 : State) (G : va_G) (ca : Nat → ClassId) (d : Nat) (C : Nat × Nat) (S : zS) (w0 : rt_Wd)  (v1 : Int)  (M : zM) (Q : Int → zM → Prop) (X : zM → Prop) : Prop :=
  zIf (w32 v1 = 4) (Q 1 M) (zIf (w32 v1 = 5) (Q 1 M) (Q 0 M))
set_option maxRecDepth 100000 in
theorem zs_X11_matchesSix_25 {l : Launch} {s0 : State} {a0 : Array Value} {G : va_G} {ca : Nat → ClassId} (Γ : rt_Γ l s0 a0 G ca) {d : Nat} {C : Nat × Nat} {S : zS} (hok : zok C)  (hs : zSok S) {w0 : rt_Wd} {v1 : Int}   {M : zM} {Q : Int → zM → Prop} {X : zM → Prop} (h : zt_X11_matchesSix_25 l s0 G ca d C S w0  v1 M Q X) : zg_X11_matchesSix_25 l s0 G ca d C S w0  v1 M Q X := by
  unfold zt_X11_matchesSix_25 at h
  refine z_iload_n dX11_matchesSix_25 rfl (j := 0) rfl ?_
  refine z_iconst dX11_matchesSix_26 ?_
  refine z_icmp_eq (tgt := 35) (x' := w32 v1) (y' := 4) rfl (by decide) dX11_matchesSix_27 (by decide) (fun c27 => ?_) (fun c27 => ?_)
  · replace h := h.1 c27
    refine z_iconst dX11_matchesSix_35 ?_
    refine rt_goto (tgt := 40) dX11_matchesSix_36 (by decide) ?_
    exact z_zret dX11_matchesSix_40 rfl (by decide) h
  · replace h := h.2 c27
    refine z_iload_n dX11_matchesSix_30 rfl (j := 0) rfl ?_
    refine z_iconst dX11_matchesSix_31 ?_
    refine z_icmp_ne (tgt := 39) (x' := w32 v1) (y' := 5) rfl (by decide) dX11_matchesSix_32 (by decide) (fun c32 => ?_) (fun c32 => ?_)
    · replace h := h.2 c32
      refine z_iconst dX11_matchesSix_39 ?_
      exact z_zret dX11_matchesSix_40 rfl (by decide) h
    · replace h := h.1 c32
      refine z_iconst dX11_matchesSix_35 ?_
      refine rt_goto (tgt := 40) dX11_matchesSix_36 (by decide) ?_
      exact z_zret dX11_matchesSix_40 rfl (by decide) h

def zt_X11_matchesSix_15 (l : Launch) (s0 : State) (G : va_G) (ca : Nat → ClassId) (d : Nat) (C : Nat × Nat) (S : zS) (w0 : rt_Wd)  (v0 : Int) (v1 : Int)  (M : zM) (Q : Int → zM → Prop) (X : zM → Prop) : Prop :=
  zIf (w32 v0 = 4) (zt_X11_matchesSix_25 l s0 G ca d C S w0  v1 M Q X) (zIf (w32 v0 = 5) (zt_X11_matchesSix_25 l s0 G ca d C S w0  v1 M Q X) (Q 0 M))
set_option maxRecDepth 100000 in
theorem zs_X11_matchesSix_15 {l : Launch} {s0 : State} {a0 : Array Value} {G : va_G} {ca : Nat → ClassId} (Γ : rt_Γ l s0 a0 G ca) {d : Nat} {C : Nat × Nat} {S : zS} (hok : zok C)  (hs : zSok S) {w0 : rt_Wd} {v0 : Int} {v1 : Int}   {M : zM} {Q : Int → zM → Prop} {X : zM → Prop} (h : zt_X11_matchesSix_15 l s0 G ca d C S w0  v0 v1 M Q X) : zg_X11_matchesSix_15 l s0 G ca d C S w0  v0 v1 M Q X := by
  unfold zt_X11_matchesSix_15 at h
  refine z_iload_n dX11_matchesSix_15 rfl (j := 0) rfl ?_
  refine z_iconst dX11_matchesSix_16 ?_
  refine z_icmp_eq (tgt := 25) (x' := w32 v0) (y' := 4) rfl (by decide) dX11_matchesSix_17 (by decide) (fun c17 => ?_) (fun c17 => ?_)
  · replace h := h.1 c17
    exact rt_lfew [1] rfl (zs_X11_matchesSix_25 Γ hok hs  h)
  · replace h := h.2 c17
    refine z_iload_n dX11_matchesSix_20 rfl (j := 0) rfl ?_
    refine z_iconst dX11_matchesSix_21 ?_
    refine z_icmp_ne (tgt := 39) (x' := w32 v0) (y' := 5) rfl (by decide) dX11_matchesSix_22 (by decide) (fun c22 => ?_) (fun c22 => ?_)
    · replace h := h.2 c22
      refine z_iconst dX11_matchesSix_39 ?_
      exact z_zret dX11_matchesSix_40 rfl (by decide) h
    · replace h := h.1 c22
      exact rt_lfew [1] rfl (zs_X11_matchesSix_25 Γ hok hs  h)

def zt_X11_matchesSix (l : Launch) (s0 : State) (G : va_G) (ca : Nat → ClassId) (d : Nat) (C : Nat × Nat) (S : zS) (w0 : rt_Wd)  (w : Int) (r : Int) (M : zM) (Q : Int → zM → Prop) (X : zM → Prop) : Prop :=
  zIf (w32 w = w32 r) (Q 1 M) (zIf (w32 w = 2) (zIf (w32 r = 3) (Q 1 M) (zt_X11_matchesSix_15 l s0 G ca d C S w0  w r M Q X)) (zt_X11_matchesSix_15 l s0 G ca d C S w0  w r M Q X))
set_option maxRecDepth 100000 in
theorem z_X11_matchesSix {l : Launch} {s0 : State} {a0 : Array Value} {G : va_G} {ca : Nat → ClassId} (Γ : rt_Γ l s0 a0 G ca) {d : Nat} {C : Nat × Nat} {S : zS} (hok : zok C)  (hs : zSok S) {w : Int} {r : Int} {M : zM} {Q : Int → zM → Prop} {X : zM → Prop} (h : zt_X11_matchesSix l s0 G ca d C S (zw s0 ca C S M)  w r M Q X) : zm_X11_matchesSix l s0 G ca d C S  w r M Q X := by
  refine z_met (lv := [(0, zv s0 0 w), (1, zv s0 0 r)]) Γ kk_X11_matchesSix rfl (show (lg_sl [zv s0 0 w, zv s0 0 r]).length ≤ 2 from by simp only [zn_0, show (lg_sl []).length = 0 from rfl]; omega) (show lv_args 0 [zv s0 0 w, zv s0 0 r] = [(0, zv s0 0 w), (1, zv s0 0 r)] from by rw [zl_0, zl_0]; rfl) ?_
  unfold zt_X11_matchesSix at h
  refine z_iload_n dX11_matchesSix_0 rfl (j := 0) rfl ?_
  refine z_iload_n dX11_matchesSix_1 rfl (j := 1) rfl ?_
  refine z_icmp_eq (tgt := 35) (x' := w32 w) (y' := w32 r) rfl rfl dX11_matchesSix_2 (by decide) (fun c2 => ?_) (fun c2 => ?_)
  · replace h := h.1 c2
    refine z_iconst dX11_matchesSix_35 ?_
    refine rt_goto (tgt := 40) dX11_matchesSix_36 (by decide) ?_
    exact z_zret dX11_matchesSix_40 rfl (by decide) h
  · replace h := h.2 c2
    refine z_iload_n dX11_matchesSix_5 rfl (j := 0) rfl ?_
    refine z_iconst dX11_matchesSix_6 ?_
    refine z_icmp_ne (tgt := 15) (x' := w32 w) (y' := 2) rfl (by decide) dX11_matchesSix_7 (by decide) (fun c7 => ?_) (fun c7 => ?_)
    · replace h := h.2 c7
      exact rt_lfew [0, 1] rfl (zs_X11_matchesSix_15 Γ hok hs  h)
    · replace h := h.1 c7
      refine z_iload_n dX11_matchesSix_10 rfl (j := 1) rfl ?_
      refine z_iconst dX11_matchesSix_11 ?_
      refine z_icmp_eq (tgt := 35) (x' := w32 r) (y' := 3) rfl (by decide) dX11_matchesSix_12 (by decide) (fun c12 => ?_) (fun c12 => ?_)
      · replace h := h.1 c12
        refine z_iconst dX11_matchesSix_35 ?_
        refine rt_goto (tgt := 40) dX11_matchesSix_36 (by decide) ?_
        exact z_zret dX11_matchesSix_40 rfl (by decide) h
      · replace h := h.2 c12
        exact rt_lfew [0, 1] rfl (zs_X11_matchesSix_15 Γ hok hs  h)

abbrev zg_X11_matches_48 (l : Launch) (s0 : State) (G : va_G) (ca : Nat → ClassId) (d : Nat) (C : Nat × Nat) (S : zS) (w0 : rt_Wd)  (v4 : Int) (v5 : Int)  (M : zM) (Q : Int → zM → Prop) (X : zM → Prop) : Prop := rt_Go l s0 G RX11 "matches" cX11_matches 6 (Option.some FieldType.boolean) [] d w0 (zQ s0 ca 0 C S Q X) 48 [(4, zv s0 0 v4), (5, zv s0 0 v5)] [] (zw s0 ca C S M)
abbrev zg_X11_matches_103 (l : Launch) (s0 : State) (G : va_G) (ca : Nat → ClassId) (d : Nat) (C : Nat × Nat) (S : zS) (w0 : rt_Wd)  (v0 : Int) (v1 : Int) (v2 : Int) (v3 : Int)  (M : zM) (Q : Int → zM → Prop) (X : zM → Prop) : Prop := rt_Go l s0 G RX11 "matches" cX11_matches 6 (Option.some FieldType.boolean) [] d w0 (zQ s0 ca 0 C S Q X) 103 [(0, zv s0 2 v0), (1, zv s0 0 v1), (2, zv s0 2 v2), (3, zv s0 0 v3)] [] (zw s0 ca C S M)
def zt_X11_matches_48 (l : Launch) (s0 : State) (G : va_G) (ca : Nat → ClassId) (d : Nat) (C : Nat × Nat) (S : zS) (w0 : rt_Wd)  (v4 : Int) (v5 : Int)  (M : zM) (Q : Int → zM → Prop) (X : zM → Prop) : Prop :=
  zm_X11_sixOf l s0 G ca (d - 1) C S v4 M (fun r50 M50 => zIf (w32 r50 = 0) (Q 0 M50) (zm_X11_sixOf l s0 G ca (d - 1) C S v5 M50 (fun r58 M58 => zIf (w32 r58 = 0) (Q 0 M58) (zm_X11_matchesSix l s0 G ca (d - 1) C S v4 v5 M58 (fun r68 M68 => zIf (w32 r68 = 0) (Q 0 M68) (Q 1 M68)) X)) X)) X
set_option maxRecDepth 100000 in
theorem zs_X11_matches_48 {l : Launch} {s0 : State} {a0 : Array Value} {G : va_G} {ca : Nat → ClassId} (Γ : rt_Γ l s0 a0 G ca) {d : Nat} {C : Nat × Nat} {S : zS} (hd : 1 ≤ d) (hok : zok C)  (hs : zSok S) {w0 : rt_Wd} {v4 : Int} {v5 : Int}   {M : zM} {Q : Int → zM → Prop} {X : zM → Prop} (h : zt_X11_matches_48 l s0 G ca d C S w0  v4 v5 M Q X) : zg_X11_matches_48 l s0 G ca d C S w0  v4 v5 M Q X := by
  unfold zt_X11_matches_48 at h
  refine z_iload dX11_matches_48 (j := 0) rfl ?_
  refine z_callS Γ kk_X11_sixOf kc_RX11_201 (As := [zv s0 0 v4]) h (by omega) (by decide) (show (parseMethodDescriptor yX11_sixOf.desc).map (fun q => q.parameters.length) = some 1 by decide +kernel) hok (Nat.zero_le _) dX11_matches_50 rfl (fun _ h9 => nomatch h9) ?_
  clear h
  intro r50 M50 h
  show rt_Go _ _ _ _ _ _ _ _ _ _ _ _ 53 [(4, zv s0 0 v4), (5, zv s0 0 v5)] [zv s0 0 r50] (zw s0 ca C S M50)
  refine z_if_eq (tgt := 78) (x' := w32 r50) rfl dX11_matches_53 (by decide) (fun c53 => ?_) (fun c53 => ?_)
  · replace h := h.1 c53
    refine z_iconst dX11_matches_78 ?_
    exact z_zret dX11_matches_79 rfl (by decide) h
  · replace h := h.2 c53
    refine z_iload dX11_matches_56 (j := 1) rfl ?_
    refine z_callS Γ kk_X11_sixOf kc_RX11_201 (As := [zv s0 0 v5]) h (by omega) (by decide) (show (parseMethodDescriptor yX11_sixOf.desc).map (fun q => q.parameters.length) = some 1 by decide +kernel) hok (Nat.zero_le _) dX11_matches_58 rfl (fun _ h9 => nomatch h9) ?_
    clear h
    intro r58 M58 h
    show rt_Go _ _ _ _ _ _ _ _ _ _ _ _ 61 [(4, zv s0 0 v4), (5, zv s0 0 v5)] [zv s0 0 r58] (zw s0 ca C S M58)
    refine z_if_eq (tgt := 78) (x' := w32 r58) rfl dX11_matches_61 (by decide) (fun c61 => ?_) (fun c61 => ?_)
    · replace h := h.1 c61
      refine z_iconst dX11_matches_78 ?_
      exact z_zret dX11_matches_79 rfl (by decide) h
    · replace h := h.2 c61
      refine z_iload dX11_matches_64 (j := 0) rfl ?_
      refine z_iload dX11_matches_66 (j := 1) rfl ?_
      refine z_callS Γ kk_X11_matchesSix kc_RX11_204 (As := [zv s0 0 v4, zv s0 0 v5]) h (by omega) (by decide) (show (parseMethodDescriptor yX11_matchesSix.desc).map (fun q => q.parameters.length) = some 2 by decide +kernel) hok (Nat.zero_le _) dX11_matches_68 rfl (fun _ h9 => nomatch h9) ?_
      clear h
      intro r68 M68 h
      show rt_Go _ _ _ _ _ _ _ _ _ _ _ _ 71 [(4, zv s0 0 v4), (5, zv s0 0 v5)] [zv s0 0 r68] (zw s0 ca C S M68)
      refine z_if_eq (tgt := 78) (x' := w32 r68) rfl dX11_matches_71 (by decide) (fun c71 => ?_) (fun c71 => ?_)
      · replace h := h.1 c71
        refine z_iconst dX11_matches_78 ?_
        exact z_zret dX11_matches_79 rfl (by decide) h
      · replace h := h.2 c71
        refine z_iconst dX11_matches_74 ?_
        refine rt_goto (tgt := 79) dX11_matches_75 (by decide) ?_
        exact z_zret dX11_matches_79 rfl (by decide) h

def zt_X11_matches_103 (l : Launch) (s0 : State) (G : va_G) (ca : Nat → ClassId) (d : Nat) (C : Nat × Nat) (S : zS) (w0 : rt_Wd)  (v0 : Int) (v1 : Int) (v2 : Int) (v3 : Int)  (M : zM) (Q : Int → zM → Prop) (X : zM → Prop) : Prop :=
  zTx S v0 ∧ ((0 ≤ v1 ∧ v1 < 140) ∧ ((0 ≤ M (v0 + 12) v1 ∧ M (v0 + 12) v1 < 2200) ∧ (zTx S v2 ∧ ((0 ≤ v3 ∧ v3 < 140) ∧ ((0 ≤ M (v2 + 12) v3 ∧ M (v2 + 12) v3 < 2200) ∧ (zm_X11_matches l s0 G ca (d - 1) C S v0 (M (v0 + 15) (M (v0 + 12) v1)) v2 (M (v2 + 15) (M (v2 + 12) v3)) M (fun r127 M127 => (r127 = 0 ∨ r127 = 1) ∧ Q r127 M127) X))))))
set_option maxRecDepth 100000 in
theorem zs_X11_matches_103 {l : Launch} {s0 : State} {a0 : Array Value} {G : va_G} {ca : Nat → ClassId} (Γ : rt_Γ l s0 a0 G ca) {d : Nat} {C : Nat × Nat} {S : zS} (hd : 1 ≤ d) (hok : zok C)  (hs : zSok S) {w0 : rt_Wd} {v0 : Int} {v1 : Int} {v2 : Int} {v3 : Int}   {M : zM} {Q : Int → zM → Prop} {X : zM → Prop} (h : zt_X11_matches_103 l s0 G ca d C S w0  v0 v1 v2 v3 M Q X) : zg_X11_matches_103 l s0 G ca d C S w0  v0 v1 v2 v3 M Q X := by
  unfold zt_X11_matches_103 at h
  refine z_aload_n dX11_matches_103 rfl (j := 0) rfl ?_
  refine z_aload_n dX11_matches_104 rfl (j := 0) rfl ?_
  obtain ⟨hk0, h⟩ := h
  refine z_getcN Γ kfN_RX11_149 dX11_matches_105 hk0.1 hk0.2.1 rfl ?_
  refine z_aload_n dX11_matches_108 rfl (j := 0) rfl ?_
  refine z_getcN Γ kfN_RX11_160 dX11_matches_109 hk0.1 hk0.2.1 rfl ?_
  refine z_iload_n dX11_matches_112 rfl (j := 1) rfl ?_
  obtain ⟨hi113, h⟩ := h
  refine z_iald Γ dX11_matches_113 (by have := hk0.1; omega) hk0.2.2.2.2.2.2.2.2.2.2.2.2.2.1 (by decide) hi113 (v9 := M (v0 + 12) v1) rfl ?_
  obtain ⟨hi114, h⟩ := h
  refine z_iald Γ dX11_matches_114 (by have := hk0.1; omega) hk0.2.2.2.2.2.2.2.2.2.2.2.2.2.2.2.2.1 (by decide) hi114 (v9 := M (v0 + 15) (M (v0 + 12) v1)) rfl ?_
  refine z_aload_n dX11_matches_115 rfl (j := 2) rfl ?_
  refine z_aload_n dX11_matches_116 rfl (j := 2) rfl ?_
  obtain ⟨hk1, h⟩ := h
  refine z_getcN Γ kfN_RX11_149 dX11_matches_117 hk1.1 hk1.2.1 rfl ?_
  refine z_aload_n dX11_matches_120 rfl (j := 2) rfl ?_
  refine z_getcN Γ kfN_RX11_160 dX11_matches_121 hk1.1 hk1.2.1 rfl ?_
  refine z_iload_n dX11_matches_124 rfl (j := 3) rfl ?_
  obtain ⟨hi125, h⟩ := h
  refine z_iald Γ dX11_matches_125 (by have := hk1.1; omega) hk1.2.2.2.2.2.2.2.2.2.2.2.2.2.1 (by decide) hi125 (v9 := M (v2 + 12) v3) rfl ?_
  obtain ⟨hi126, h⟩ := h
  refine z_iald Γ dX11_matches_126 (by have := hk1.1; omega) hk1.2.2.2.2.2.2.2.2.2.2.2.2.2.2.2.2.1 (by decide) hi126 (v9 := M (v2 + 15) (M (v2 + 12) v3)) rfl ?_
  refine z_callS Γ kk_X11_matches kc_RX11_208 (As := [zv s0 2 v0, zv s0 0 (M (v0 + 15) (M (v0 + 12) v1)), zv s0 2 v2, zv s0 0 (M (v2 + 15) (M (v2 + 12) v3))]) h (by omega) (by decide) (show (parseMethodDescriptor yX11_matches.desc).map (fun q => q.parameters.length) = some 4 by decide +kernel) hok (Nat.zero_le _) dX11_matches_127 rfl (fun _ h9 => nomatch h9) ?_
  clear h
  intro r127 M127 h
  show rt_Go _ _ _ _ _ _ _ _ _ _ _ _ 130 [(0, zv s0 2 v0), (1, zv s0 0 v1), (2, zv s0 2 v2), (3, zv s0 0 v3)] [zv s0 0 r127] (zw s0 ca C S M127)
  obtain ⟨hi9, h⟩ := h
  exact z_zret dX11_matches_130 rfl hi9 h

def zt_X11_matches (l : Launch) (s0 : State) (G : va_G) (ca : Nat → ClassId) (d : Nat) (C : Nat × Nat) (S : zS) (w0 : rt_Wd)  (a : Int) (w : Int) (b : Int) (r : Int) (M : zM) (Q : Int → zM → Prop) (X : zM → Prop) : Prop :=
  zTx S a ∧ ((0 ≤ w ∧ w < 140) ∧ (zTx S b ∧ ((0 ≤ r ∧ r < 140) ∧ (zIf (w32 (M (a + 9) w) = 8) (Q 1 M) (zIf (w32 (M (b + 9) r) = 8) (Q 1 M) (zm_X11_sixOf l s0 G ca (d - 1) C S (M (a + 9) w) M (fun r34 M34 => zIf (w32 r34 = 0) (zm_X11_sixOf l s0 G ca (d - 1) C S (M (b + 9) r) M34 (fun r42 M42 => zIf (w32 r42 = 0) (zIf (w32 (M (a + 9) w) = w32 (M (b + 9) r)) (zIf (w32 (M (a + 9) w) = 6) (zt_X11_matches_103 l s0 G ca d C S w0  a w b r M42 Q X) (zIf (w32 (M (a + 9) w) = 7) (zt_X11_matches_103 l s0 G ca d C S w0  a w b r M42 Q X) (zm_X10_same l s0 G ca (d - 1) C S a (M42 (a + 10) w) b (M42 (b + 10) r) M42 (fun r145 M145 => zIf (w32 r145 = 0) (Q 0 M145) (zIf (w32 (M (a + 9) w) = 9) (zIf (w32 (M145 (a + 11) w) = w32 (M145 (b + 11) r)) (Q 1 M145) (Q 0 M145)) (Q 1 M145))) X))) (Q 0 M42)) (zt_X11_matches_48 l s0 G ca d C S w0  (M (a + 9) w) (M (b + 9) r) M42 Q X)) X) (zt_X11_matches_48 l s0 G ca d C S w0  (M (a + 9) w) (M (b + 9) r) M34 Q X)) X))))))
set_option maxRecDepth 100000 in
theorem z_X11_matches {l : Launch} {s0 : State} {a0 : Array Value} {G : va_G} {ca : Nat → ClassId} (Γ : rt_Γ l s0 a0 G ca) {d : Nat} {C : Nat × Nat} {S : zS} (hd : 1 ≤ d) (hok : zok C)  (hs : zSok S) {a : Int} {w : Int} {b : Int} {r : Int} {M : zM} {Q : Int → zM → Prop} {X : zM → Prop} (h : zt_X11_matches l s0 G ca d C S (zw s0 ca C S M)  a w b r M Q X) : zm_X11_matches l s0 G ca d C S  a w b r M Q X := by
  refine z_met (lv := [(0, zv s0 2 a), (1, zv s0 0 w), (2, zv s0 2 b), (3, zv s0 0 r)]) Γ kk_X11_matches rfl (show (lg_sl [zv s0 2 a, zv s0 0 w, zv s0 2 b, zv s0 0 r]).length ≤ 6 from by simp only [zn_0, zn_2, show (lg_sl []).length = 0 from rfl]; omega) (show lv_args 0 [zv s0 2 a, zv s0 0 w, zv s0 2 b, zv s0 0 r] = [(0, zv s0 2 a), (1, zv s0 0 w), (2, zv s0 2 b), (3, zv s0 0 r)] from by rw [zl_2, zl_0, zl_2, zl_0]; rfl) ?_
  unfold zt_X11_matches at h
  refine z_aload_n dX11_matches_0 rfl (j := 0) rfl ?_
  obtain ⟨hk0, h⟩ := h
  refine z_getcN Γ kfN_RX11_132 dX11_matches_1 hk0.1 hk0.2.1 rfl ?_
  refine z_iload_n dX11_matches_4 rfl (j := 1) rfl ?_
  obtain ⟨hi5, h⟩ := h
  refine z_iald Γ dX11_matches_5 (by have := hk0.1; omega) hk0.2.2.2.2.2.2.2.2.2.2.1 (by decide) hi5 (v9 := M (a + 9) w) rfl ?_
  refine z_istore (i := 4) (lv' := [(4, zv s0 0 (M (a + 9) w)), (0, zv s0 2 a), (1, zv s0 0 w), (2, zv s0 2 b), (3, zv s0 0 r)]) dX11_matches_6 (by decide) (by simp [zv_cat0, zv_cat1, zv_cat2, zv_cats]) ?_
  refine z_aload_n dX11_matches_8 rfl (j := 3) rfl ?_
  obtain ⟨hk1, h⟩ := h
  refine z_getcN Γ kfN_RX11_132 dX11_matches_9 hk1.1 hk1.2.1 rfl ?_
  refine z_iload_n dX11_matches_12 rfl (j := 4) rfl ?_
  obtain ⟨hi13, h⟩ := h
  refine z_iald Γ dX11_matches_13 (by have := hk1.1; omega) hk1.2.2.2.2.2.2.2.2.2.2.1 (by decide) hi13 (v9 := M (b + 9) r) rfl ?_
  refine z_istore (i := 5) (lv' := [(5, zv s0 0 (M (b + 9) r)), (4, zv s0 0 (M (a + 9) w)), (0, zv s0 2 a), (1, zv s0 0 w), (2, zv s0 2 b), (3, zv s0 0 r)]) dX11_matches_14 (by decide) (by simp [zv_cat0, zv_cat1, zv_cat2, zv_cats]) ?_
  refine z_iload dX11_matches_16 (j := 1) rfl ?_
  refine z_bipush dX11_matches_18 (by decide) ?_
  refine z_icmp_eq (tgt := 30) (x' := w32 (M (a + 9) w)) (y' := 8) rfl (by decide) dX11_matches_20 (by decide) (fun c20 => ?_) (fun c20 => ?_)
  · replace h := h.1 c20
    refine z_iconst dX11_matches_30 ?_
    exact z_zret dX11_matches_31 rfl (by decide) h
  · replace h := h.2 c20
    refine z_iload dX11_matches_23 (j := 0) rfl ?_
    refine z_bipush dX11_matches_25 (by decide) ?_
    refine z_icmp_ne (tgt := 32) (x' := w32 (M (b + 9) r)) (y' := 8) rfl (by decide) dX11_matches_27 (by decide) (fun c27 => ?_) (fun c27 => ?_)
    · replace h := h.2 c27
      refine z_iload dX11_matches_32 (j := 1) rfl ?_
      refine z_callS Γ kk_X11_sixOf kc_RX11_201 (As := [zv s0 0 (M (a + 9) w)]) h (by omega) (by decide) (show (parseMethodDescriptor yX11_sixOf.desc).map (fun q => q.parameters.length) = some 1 by decide +kernel) hok (Nat.zero_le _) dX11_matches_34 rfl (fun _ h9 => nomatch h9) ?_
      clear h
      intro r34 M34 h
      show rt_Go _ _ _ _ _ _ _ _ _ _ _ _ 37 [(5, zv s0 0 (M (b + 9) r)), (4, zv s0 0 (M (a + 9) w)), (0, zv s0 2 a), (1, zv s0 0 w), (2, zv s0 2 b), (3, zv s0 0 r)] [zv s0 0 r34] (zw s0 ca C S M34)
      refine z_if_ne (tgt := 48) (x' := w32 r34) rfl dX11_matches_37 (by decide) (fun c37 => ?_) (fun c37 => ?_)
      · replace h := h.2 c37
        exact rt_lfew [1, 0] rfl (zs_X11_matches_48 Γ hd hok hs  h)
      · replace h := h.1 c37
        refine z_iload dX11_matches_40 (j := 0) rfl ?_
        refine z_callS Γ kk_X11_sixOf kc_RX11_201 (As := [zv s0 0 (M (b + 9) r)]) h (by omega) (by decide) (show (parseMethodDescriptor yX11_sixOf.desc).map (fun q => q.parameters.length) = some 1 by decide +kernel) hok (Nat.zero_le _) dX11_matches_42 rfl (fun _ h9 => nomatch h9) ?_
        clear h
        intro r42 M42 h
        show rt_Go _ _ _ _ _ _ _ _ _ _ _ _ 45 [(5, zv s0 0 (M (b + 9) r)), (4, zv s0 0 (M (a + 9) w)), (0, zv s0 2 a), (1, zv s0 0 w), (2, zv s0 2 b), (3, zv s0 0 r)] [zv s0 0 r42] (zw s0 ca C S M42)
        refine z_if_eq (tgt := 80) (x' := w32 r42) rfl dX11_matches_45 (by decide) (fun c45 => ?_) (fun c45 => ?_)
        · replace h := h.1 c45
          refine z_iload dX11_matches_80 (j := 1) rfl ?_
          refine z_iload dX11_matches_82 (j := 0) rfl ?_
          refine z_icmp_eq (tgt := 89) (x' := w32 (M (a + 9) w)) (y' := w32 (M (b + 9) r)) rfl rfl dX11_matches_84 (by decide) (fun c84 => ?_) (fun c84 => ?_)
          · replace h := h.1 c84
            refine z_iload dX11_matches_89 (j := 1) rfl ?_
            refine z_bipush dX11_matches_91 (by decide) ?_
            refine z_icmp_eq (tgt := 103) (x' := w32 (M (a + 9) w)) (y' := 6) rfl (by decide) dX11_matches_93 (by decide) (fun c93 => ?_) (fun c93 => ?_)
            · replace h := h.1 c93
              exact rt_lfew [2, 3, 4, 5] rfl (zs_X11_matches_103 Γ hd hok hs  h)
            · replace h := h.2 c93
              refine z_iload dX11_matches_96 (j := 1) rfl ?_
              refine z_bipush dX11_matches_98 (by decide) ?_
              refine z_icmp_ne (tgt := 131) (x' := w32 (M (a + 9) w)) (y' := 7) rfl (by decide) dX11_matches_100 (by decide) (fun c100 => ?_) (fun c100 => ?_)
              · replace h := h.2 c100
                refine z_aload_n dX11_matches_131 rfl (j := 2) rfl ?_
                refine z_aload_n dX11_matches_132 rfl (j := 2) rfl ?_
                refine z_getcN Γ kfN_RX11_212 dX11_matches_133 hk0.1 hk0.2.1 rfl ?_
                refine z_iload_n dX11_matches_136 rfl (j := 3) rfl ?_
                refine z_iald Γ dX11_matches_137 (by have := hk0.1; omega) hk0.2.2.2.2.2.2.2.2.2.2.2.1 (by decide) hi5 (v9 := M42 (a + 10) w) rfl ?_
                refine z_aload_n dX11_matches_138 rfl (j := 4) rfl ?_
                refine z_aload_n dX11_matches_139 rfl (j := 4) rfl ?_
                refine z_getcN Γ kfN_RX11_212 dX11_matches_140 hk1.1 hk1.2.1 rfl ?_
                refine z_iload_n dX11_matches_143 rfl (j := 5) rfl ?_
                refine z_iald Γ dX11_matches_144 (by have := hk1.1; omega) hk1.2.2.2.2.2.2.2.2.2.2.2.1 (by decide) hi13 (v9 := M42 (b + 10) r) rfl ?_
                refine z_callVN Γ kk_X10_same kc_RX11_215 (As := [zv s0 0 (M42 (a + 10) w), zv s0 2 b, zv s0 0 (M42 (b + 10) r)]) h (by omega) (by decide) (show (parseMethodDescriptor yX10_same.desc).map (fun q => q.parameters.length) = some 3 by decide +kernel) hok (Nat.zero_le _) dX11_matches_145 hk0.1 hk0.2.1 rfl rfl (fun _ h9 => nomatch h9) ?_
                clear h
                intro r145 M145 h
                show rt_Go _ _ _ _ _ _ _ _ _ _ _ _ 148 [(5, zv s0 0 (M (b + 9) r)), (4, zv s0 0 (M (a + 9) w)), (0, zv s0 2 a), (1, zv s0 0 w), (2, zv s0 2 b), (3, zv s0 0 r)] [zv s0 0 r145] (zw s0 ca C S M145)
                refine z_if_eq (tgt := 177) (x' := w32 r145) rfl dX11_matches_148 (by decide) (fun c148 => ?_) (fun c148 => ?_)
                · replace h := h.1 c148
                  refine z_iconst dX11_matches_177 ?_
                  exact z_zret dX11_matches_178 rfl (by decide) h
                · replace h := h.2 c148
                  refine z_iload dX11_matches_151 (j := 1) rfl ?_
                  refine z_bipush dX11_matches_153 (by decide) ?_
                  refine z_icmp_ne (tgt := 173) (x' := w32 (M (a + 9) w)) (y' := 9) rfl (by decide) dX11_matches_155 (by decide) (fun c155 => ?_) (fun c155 => ?_)
                  · replace h := h.2 c155
                    refine z_iconst dX11_matches_173 ?_
                    refine rt_goto (tgt := 178) dX11_matches_174 (by decide) ?_
                    exact z_zret dX11_matches_178 rfl (by decide) h
                  · replace h := h.1 c155
                    refine z_aload_n dX11_matches_158 rfl (j := 2) rfl ?_
                    refine z_getcN Γ kfN_RX11_143 dX11_matches_159 hk0.1 hk0.2.1 rfl ?_
                    refine z_iload_n dX11_matches_162 rfl (j := 3) rfl ?_
                    refine z_iald Γ dX11_matches_163 (by have := hk0.1; omega) hk0.2.2.2.2.2.2.2.2.2.2.2.2.1 (by decide) hi5 (v9 := M145 (a + 11) w) rfl ?_
                    refine z_aload_n dX11_matches_164 rfl (j := 4) rfl ?_
                    refine z_getcN Γ kfN_RX11_143 dX11_matches_165 hk1.1 hk1.2.1 rfl ?_
                    refine z_iload_n dX11_matches_168 rfl (j := 5) rfl ?_
                    refine z_iald Γ dX11_matches_169 (by have := hk1.1; omega) hk1.2.2.2.2.2.2.2.2.2.2.2.2.1 (by decide) hi13 (v9 := M145 (b + 11) r) rfl ?_
                    refine z_icmp_ne (tgt := 177) (x' := w32 (M145 (a + 11) w)) (y' := w32 (M145 (b + 11) r)) rfl rfl dX11_matches_170 (by decide) (fun c170 => ?_) (fun c170 => ?_)
                    · replace h := h.2 c170
                      refine z_iconst dX11_matches_177 ?_
                      exact z_zret dX11_matches_178 rfl (by decide) h
                    · replace h := h.1 c170
                      refine z_iconst dX11_matches_173 ?_
                      refine rt_goto (tgt := 178) dX11_matches_174 (by decide) ?_
                      exact z_zret dX11_matches_178 rfl (by decide) h
              · replace h := h.1 c100
                exact rt_lfew [2, 3, 4, 5] rfl (zs_X11_matches_103 Γ hd hok hs  h)
          · replace h := h.2 c84
            refine z_iconst dX11_matches_87 ?_
            exact z_zret dX11_matches_88 rfl (by decide) h
        · replace h := h.2 c45
          exact rt_lfew [1, 0] rfl (zs_X11_matches_48 Γ hd hok hs  h)
    · replace h := h.1 c27
      refine z_iconst dX11_matches_30 ?_
      exact z_zret dX11_matches_31 rfl (by decide) h

abbrev zg_X11_branchFor_8 (l : Launch) (s0 : State) (G : va_G) (ca : Nat → ClassId) (d : Nat) (C : Nat × Nat) (S : zS) (w0 : rt_Wd)  (v0 : Int) (v1 : Int) (v2 : Int) (v4 : Int)  (M : zM) (Q : Int → zM → Prop) (X : zM → Prop) : Prop := rt_Go l s0 G RX11 "branchFor" cX11_branchFor 5 (Option.some FieldType.int) [] d w0 (zQ s0 ca 0 C S Q X) 8 [(0, zv s0 2 v0), (1, zv s0 0 v1), (2, zv s0 2 v2), (4, zv s0 0 v4)] [] (zw s0 ca C S M)
def zt_X11_branchFor_8 (l : Launch) (s0 : State) (G : va_G) (ca : Nat → ClassId) (d : Nat) (C : Nat × Nat) (S : zS) (w0 : rt_Wd)  (v0 : Int) (v1 : Int) (v2 : Int) (v4 : Int)  (M : zM) (Q : Int → zM → Prop) (X : zM → Prop) : Prop :=
  zIf (w32 v4 < 0) (Q ((-1)) M) (zTx S v2 ∧ ((0 ≤ v4 ∧ v4 < 2200) ∧ (zm_X11_matches l s0 G ca (d - 1) C S v0 v1 v2 (M (v2 + 15) v4) M (fun r23 M23 => zIf (w32 r23 = 0) (zg_X11_branchFor_8 l s0 G ca d C S w0  v0 v1 v2 (M23 (v2 + 18) v4) M23 Q X) (Q v4 M23)) X)))
set_option maxRecDepth 100000 in
theorem zs_X11_branchFor_8 {l : Launch} {s0 : State} {a0 : Array Value} {G : va_G} {ca : Nat → ClassId} (Γ : rt_Γ l s0 a0 G ca) {d : Nat} {C : Nat × Nat} {S : zS} (hd : 1 ≤ d) (hok : zok C)  (hs : zSok S) {w0 : rt_Wd} {v0 : Int} {v1 : Int} {v2 : Int} {v4 : Int}   {M : zM} {Q : Int → zM → Prop} {X : zM → Prop} (h : zt_X11_branchFor_8 l s0 G ca d C S w0  v0 v1 v2 v4 M Q X) : zg_X11_branchFor_8 l s0 G ca d C S w0  v0 v1 v2 v4 M Q X := by
  unfold zt_X11_branchFor_8 at h
  refine z_iload dX11_branchFor_8 (j := 3) rfl ?_
  refine z_if_lt (tgt := 44) (x' := w32 v4) rfl dX11_branchFor_10 (by decide) (fun c10 => ?_) (fun c10 => ?_)
  · replace h := h.1 c10
    refine z_iconst dX11_branchFor_44 ?_
    exact z_iret dX11_branchFor_45 rfl h
  · replace h := h.2 c10
    refine z_aload_n dX11_branchFor_13 rfl (j := 0) rfl ?_
    refine z_iload_n dX11_branchFor_14 rfl (j := 1) rfl ?_
    refine z_aload_n dX11_branchFor_15 rfl (j := 2) rfl ?_
    refine z_aload_n dX11_branchFor_16 rfl (j := 2) rfl ?_
    obtain ⟨hk0, h⟩ := h
    refine z_getcN Γ kfN_RX11_149 dX11_branchFor_17 hk0.1 hk0.2.1 rfl ?_
    refine z_iload dX11_branchFor_20 (j := 3) rfl ?_
    obtain ⟨hi22, h⟩ := h
    refine z_iald Γ dX11_branchFor_22 (by have := hk0.1; omega) hk0.2.2.2.2.2.2.2.2.2.2.2.2.2.2.2.2.1 (by decide) hi22 (v9 := M (v2 + 15) v4) rfl ?_
    refine z_callS Γ kk_X11_matches kc_RX11_208 (As := [zv s0 2 v0, zv s0 0 v1, zv s0 2 v2, zv s0 0 (M (v2 + 15) v4)]) h (by omega) (by decide) (show (parseMethodDescriptor yX11_matches.desc).map (fun q => q.parameters.length) = some 4 by decide +kernel) hok (Nat.zero_le _) dX11_branchFor_23 rfl (fun _ h9 => nomatch h9) ?_
    clear h
    intro r23 M23 h
    show rt_Go _ _ _ _ _ _ _ _ _ _ _ _ 26 [(0, zv s0 2 v0), (1, zv s0 0 v1), (2, zv s0 2 v2), (4, zv s0 0 v4)] [zv s0 0 r23] (zw s0 ca C S M23)
    refine z_if_eq (tgt := 32) (x' := w32 r23) rfl dX11_branchFor_26 (by decide) (fun c26 => ?_) (fun c26 => ?_)
    · replace h := h.1 c26
      refine z_aload_n dX11_branchFor_32 rfl (j := 2) rfl ?_
      refine z_getcN Γ kfN_RX11_163 dX11_branchFor_33 hk0.1 hk0.2.1 rfl ?_
      refine z_iload dX11_branchFor_36 (j := 3) rfl ?_
      refine z_iald Γ dX11_branchFor_38 (by have := hk0.1; omega) hk0.2.2.2.2.2.2.2.2.2.2.2.2.2.2.2.2.2.2.2.1 (by decide) hi22 (v9 := M23 (v2 + 18) v4) rfl ?_
      refine z_istore (i := 4) (lv' := [(4, zv s0 0 (M23 (v2 + 18) v4)), (0, zv s0 2 v0), (1, zv s0 0 v1), (2, zv s0 2 v2)]) dX11_branchFor_39 (by decide) (by simp [zv_cat0, zv_cat1, zv_cat2, zv_cats]) ?_
      refine rt_goto (tgt := 8) dX11_branchFor_41 (by decide) ?_
      exact rt_lfew [1, 2, 3, 0] rfl h
    · replace h := h.2 c26
      refine z_iload dX11_branchFor_29 (j := 3) rfl ?_
      exact z_iret dX11_branchFor_31 rfl h

def zt_X11_branchFor (l : Launch) (s0 : State) (G : va_G) (ca : Nat → ClassId) (d : Nat) (C : Nat × Nat) (S : zS) (w0 : rt_Wd)  (a : Int) (w : Int) (b : Int) (r : Int) (M : zM) (Q : Int → zM → Prop) (X : zM → Prop) : Prop :=
  zTx S b ∧ ((0 ≤ r ∧ r < 140) ∧ (zg_X11_branchFor_8 l s0 G ca d C S w0  a w b (M (b + 12) r) M Q X))
set_option maxRecDepth 100000 in
theorem z_X11_branchFor {l : Launch} {s0 : State} {a0 : Array Value} {G : va_G} {ca : Nat → ClassId} (Γ : rt_Γ l s0 a0 G ca) {d : Nat} {C : Nat × Nat} {S : zS} (hd : 1 ≤ d) (hok : zok C)  (hs : zSok S) {a : Int} {w : Int} {b : Int} {r : Int} {M : zM} {Q : Int → zM → Prop} {X : zM → Prop} (h : zt_X11_branchFor l s0 G ca d C S (zw s0 ca C S M)  a w b r M Q X) : zm_X11_branchFor l s0 G ca d C S  a w b r M Q X := by
  refine z_met (lv := [(0, zv s0 2 a), (1, zv s0 0 w), (2, zv s0 2 b), (3, zv s0 0 r)]) Γ kk_X11_branchFor rfl (show (lg_sl [zv s0 2 a, zv s0 0 w, zv s0 2 b, zv s0 0 r]).length ≤ 5 from by simp only [zn_0, zn_2, show (lg_sl []).length = 0 from rfl]; omega) (show lv_args 0 [zv s0 2 a, zv s0 0 w, zv s0 2 b, zv s0 0 r] = [(0, zv s0 2 a), (1, zv s0 0 w), (2, zv s0 2 b), (3, zv s0 0 r)] from by rw [zl_2, zl_0, zl_2, zl_0]; rfl) ?_
  unfold zt_X11_branchFor at h
  refine z_aload_n dX11_branchFor_0 rfl (j := 2) rfl ?_
  obtain ⟨hk0, h⟩ := h
  refine z_getcN Γ kfN_RX11_160 dX11_branchFor_1 hk0.1 hk0.2.1 rfl ?_
  refine z_iload_n dX11_branchFor_4 rfl (j := 3) rfl ?_
  obtain ⟨hi5, h⟩ := h
  refine z_iald Γ dX11_branchFor_5 (by have := hk0.1; omega) hk0.2.2.2.2.2.2.2.2.2.2.2.2.2.1 (by decide) hi5 (v9 := M (b + 12) r) rfl ?_
  refine z_istore (i := 4) (lv' := [(4, zv s0 0 (M (b + 12) r)), (0, zv s0 2 a), (1, zv s0 0 w), (2, zv s0 2 b), (3, zv s0 0 r)]) dX11_branchFor_6 (by decide) (by simp [zv_cat0, zv_cat1, zv_cat2, zv_cats]) ?_
  exact rt_lfew [1, 2, 3, 0] rfl h

def zt_X11_ask (l : Launch) (s0 : State) (G : va_G) (ca : Nat → ClassId) (d : Nat) (C : Nat × Nat) (S : zS) (w0 : rt_Wd)  (w : Int) (r : Int) (M : zM) (Q : Int → zM → Prop) (X : zM → Prop) : Prop :=
  (0 ≤ (140 * w) + r ∧ (140 * w) + r < 19600) ∧ (zIf (w32 (M 135 ((140 * w) + r)) = 0) ((0 ≤ M 84 23 ∧ M 84 23 < 19600) ∧ (Q 0 ((zu ((zu ((zu M 135 ((140 * w) + r) 1)) 136 (M 84 23) ((140 * w) + r))) 84 23 ((M 84 23) + 1))))) (Q 0 M))
set_option maxRecDepth 100000 in
theorem z_X11_ask {l : Launch} {s0 : State} {a0 : Array Value} {G : va_G} {ca : Nat → ClassId} (Γ : rt_Γ l s0 a0 G ca) {d : Nat} {C : Nat × Nat} {S : zS} (hok : zok C)  (hs : zSok S) {w : Int} {r : Int} {M : zM} {Q : Int → zM → Prop} {X : zM → Prop} (h : zt_X11_ask l s0 G ca d C S (zw s0 ca C S M)  w r M Q X) : zm_X11_ask l s0 G ca d C S  w r M Q X := by
  refine z_met (lv := [(0, zv s0 2 84), (1, zv s0 0 w), (2, zv s0 0 r)]) Γ kk_X11_ask rfl (show (lg_sl [zv s0 2 84, zv s0 0 w, zv s0 0 r]).length ≤ 3 from by simp only [zn_0, zn_2, show (lg_sl []).length = 0 from rfl]; omega) (show lv_args 0 [zv s0 2 84, zv s0 0 w, zv s0 0 r] = [(0, zv s0 2 84), (1, zv s0 0 w), (2, zv s0 0 r)] from by rw [zl_2, zl_0, zl_0]; rfl) ?_
  unfold zt_X11_ask at h
  refine z_aload_n dX11_ask_0 rfl (j := 0) rfl ?_
  refine z_getc Γ kf_RX11_47 dX11_ask_1 (by decide) (hs 84 _ rfl) rfl ?_
  refine z_sipush dX11_ask_4 (by decide) ?_
  refine z_iload_n dX11_ask_7 rfl (j := 1) rfl ?_
  refine z_imul dX11_ask_8 ?_
  refine z_iload_n dX11_ask_9 rfl (j := 2) rfl ?_
  refine z_iadd dX11_ask_10 ?_
  obtain ⟨hi11, h⟩ := h
  refine z_zald Γ dX11_ask_11 (by decide) (hs 135 _ rfl) (by decide) hi11 (v9 := M 135 ((140 * w) + r)) rfl ?_
  refine z_if_ne (tgt := 54) (x' := w32 (M 135 ((140 * w) + r))) rfl dX11_ask_12 (by decide) (fun c12 => ?_) (fun c12 => ?_)
  · replace h := h.2 c12
    exact z_vret dX11_ask_54 rfl h
  · replace h := h.1 c12
    refine z_aload_n dX11_ask_15 rfl (j := 0) rfl ?_
    refine z_getc Γ kf_RX11_47 dX11_ask_16 (by decide) (hs 84 _ rfl) rfl ?_
    refine z_sipush dX11_ask_19 (by decide) ?_
    refine z_iload_n dX11_ask_22 rfl (j := 1) rfl ?_
    refine z_imul dX11_ask_23 ?_
    refine z_iload_n dX11_ask_24 rfl (j := 2) rfl ?_
    refine z_iadd dX11_ask_25 ?_
    refine z_iconst dX11_ask_26 ?_
    refine z_zast Γ dX11_ask_27 (by decide) (hs 135 _ rfl) (by decide) hi11 (by decide) ?_
    refine z_aload_n dX11_ask_28 rfl (j := 0) rfl ?_
    refine z_getc Γ kf_RX11_51 dX11_ask_29 (by decide) (hs 84 _ rfl) rfl ?_
    refine z_aload_n dX11_ask_32 rfl (j := 0) rfl ?_
    refine z_get Γ kf_RX11_219 dX11_ask_33 (by decide) (hs 84 _ rfl) rfl (by decide) (v9 := M 84 23) ((zu_a (by decide)).trans rfl) ?_
    refine z_sipush dX11_ask_36 (by decide) ?_
    refine z_iload_n dX11_ask_39 rfl (j := 1) rfl ?_
    refine z_imul dX11_ask_40 ?_
    refine z_iload_n dX11_ask_41 rfl (j := 2) rfl ?_
    refine z_iadd dX11_ask_42 ?_
    obtain ⟨hi43, h⟩ := h
    refine z_iast Γ dX11_ask_43 (by decide) (hs 136 _ rfl) (by decide) hi43 ?_
    refine z_aload_n dX11_ask_44 rfl (j := 0) rfl ?_
    refine z_dup2 dX11_ask_45 ?_
    refine z_get Γ kf_RX11_219 dX11_ask_46 (by decide) (hs 84 _ rfl) rfl (by decide) (v9 := M 84 23) ((zu_a (by decide)).trans ((zu_a (by decide)).trans rfl)) ?_
    refine z_iconst dX11_ask_49 ?_
    refine z_iadd dX11_ask_50 ?_
    refine z_put0 Γ kp_RX11_219 dX11_ask_51 (by decide) (hs 84 _ rfl) rfl (k9 := 23) rfl ?_
    exact z_vret dX11_ask_54 rfl h

abbrev zg_X11_fieldLike_8 (l : Launch) (s0 : State) (G : va_G) (ca : Nat → ClassId) (d : Nat) (C : Nat × Nat) (S : zS) (w0 : rt_Wd)  (v0 : Int) (v2 : Int) (v3 : Int) (v4 : Int)  (M : zM) (Q : Int → zM → Prop) (X : zM → Prop) : Prop := rt_Go l s0 G RX11 "fieldLike" cX11_fieldLike 5 (Option.some FieldType.int) [] d w0 (zQ s0 ca 0 C S Q X) 8 [(0, zv s0 2 v0), (2, zv s0 2 v2), (3, zv s0 0 v3), (4, zv s0 0 v4)] [] (zw s0 ca C S M)
def zt_X11_fieldLike_8 (l : Launch) (s0 : State) (G : va_G) (ca : Nat → ClassId) (d : Nat) (C : Nat × Nat) (S : zS) (w0 : rt_Wd)  (v0 : Int) (v2 : Int) (v3 : Int) (v4 : Int)  (M : zM) (Q : Int → zM → Prop) (X : zM → Prop) : Prop :=
  zIf (w32 v4 < 0) (Q ((-1)) M) (zTx S v0 ∧ ((0 ≤ v4 ∧ v4 < 2200) ∧ (zTx S v2 ∧ ((0 ≤ v3 ∧ v3 < 2200) ∧ (zm_X10_same l s0 G ca (d - 1) C S v0 (M (v0 + 16) v4) v2 (M (v2 + 16) v3) M (fun r28 M28 => zIf (w32 r28 = 0) (zg_X11_fieldLike_8 l s0 G ca d C S w0  v0 v2 v3 (M28 (v0 + 18) v4) M28 Q X) (Q v4 M28)) X)))))
set_option maxRecDepth 100000 in
theorem zs_X11_fieldLike_8 {l : Launch} {s0 : State} {a0 : Array Value} {G : va_G} {ca : Nat → ClassId} (Γ : rt_Γ l s0 a0 G ca) {d : Nat} {C : Nat × Nat} {S : zS} (hd : 1 ≤ d) (hok : zok C)  (hs : zSok S) {w0 : rt_Wd} {v0 : Int} {v2 : Int} {v3 : Int} {v4 : Int}   {M : zM} {Q : Int → zM → Prop} {X : zM → Prop} (h : zt_X11_fieldLike_8 l s0 G ca d C S w0  v0 v2 v3 v4 M Q X) : zg_X11_fieldLike_8 l s0 G ca d C S w0  v0 v2 v3 v4 M Q X := by
  unfold zt_X11_fieldLike_8 at h
  refine z_iload dX11_fieldLike_8 (j := 3) rfl ?_
  refine z_if_lt (tgt := 49) (x' := w32 v4) rfl dX11_fieldLike_10 (by decide) (fun c10 => ?_) (fun c10 => ?_)
  · replace h := h.1 c10
    refine z_iconst dX11_fieldLike_49 ?_
    exact z_iret dX11_fieldLike_50 rfl h
  · replace h := h.2 c10
    refine z_aload_n dX11_fieldLike_13 rfl (j := 0) rfl ?_
    refine z_aload_n dX11_fieldLike_14 rfl (j := 0) rfl ?_
    obtain ⟨hk0, h⟩ := h
    refine z_getcN Γ kfN_RX11_231 dX11_fieldLike_15 hk0.1 hk0.2.1 rfl ?_
    refine z_iload dX11_fieldLike_18 (j := 3) rfl ?_
    obtain ⟨hi20, h⟩ := h
    refine z_iald Γ dX11_fieldLike_20 (by have := hk0.1; omega) hk0.2.2.2.2.2.2.2.2.2.2.2.2.2.2.2.2.2.1 (by decide) hi20 (v9 := M (v0 + 16) v4) rfl ?_
    refine z_aload_n dX11_fieldLike_21 rfl (j := 1) rfl ?_
    refine z_aload_n dX11_fieldLike_22 rfl (j := 1) rfl ?_
    obtain ⟨hk1, h⟩ := h
    refine z_getcN Γ kfN_RX11_231 dX11_fieldLike_23 hk1.1 hk1.2.1 rfl ?_
    refine z_iload_n dX11_fieldLike_26 rfl (j := 2) rfl ?_
    obtain ⟨hi27, h⟩ := h
    refine z_iald Γ dX11_fieldLike_27 (by have := hk1.1; omega) hk1.2.2.2.2.2.2.2.2.2.2.2.2.2.2.2.2.2.1 (by decide) hi27 (v9 := M (v2 + 16) v3) rfl ?_
    refine z_callVN Γ kk_X10_same kc_RX11_215 (As := [zv s0 0 (M (v0 + 16) v4), zv s0 2 v2, zv s0 0 (M (v2 + 16) v3)]) h (by omega) (by decide) (show (parseMethodDescriptor yX10_same.desc).map (fun q => q.parameters.length) = some 3 by decide +kernel) hok (Nat.zero_le _) dX11_fieldLike_28 hk0.1 hk0.2.1 rfl rfl (fun _ h9 => nomatch h9) ?_
    clear h
    intro r28 M28 h
    show rt_Go _ _ _ _ _ _ _ _ _ _ _ _ 31 [(0, zv s0 2 v0), (2, zv s0 2 v2), (3, zv s0 0 v3), (4, zv s0 0 v4)] [zv s0 0 r28] (zw s0 ca C S M28)
    refine z_if_eq (tgt := 37) (x' := w32 r28) rfl dX11_fieldLike_31 (by decide) (fun c31 => ?_) (fun c31 => ?_)
    · replace h := h.1 c31
      refine z_aload_n dX11_fieldLike_37 rfl (j := 0) rfl ?_
      refine z_getcN Γ kfN_RX11_163 dX11_fieldLike_38 hk0.1 hk0.2.1 rfl ?_
      refine z_iload dX11_fieldLike_41 (j := 3) rfl ?_
      refine z_iald Γ dX11_fieldLike_43 (by have := hk0.1; omega) hk0.2.2.2.2.2.2.2.2.2.2.2.2.2.2.2.2.2.2.2.1 (by decide) hi20 (v9 := M28 (v0 + 18) v4) rfl ?_
      refine z_istore (i := 4) (lv' := [(4, zv s0 0 (M28 (v0 + 18) v4)), (0, zv s0 2 v0), (2, zv s0 2 v2), (3, zv s0 0 v3)]) dX11_fieldLike_44 (by decide) (by simp [zv_cat0, zv_cat1, zv_cat2, zv_cats]) ?_
      refine rt_goto (tgt := 8) dX11_fieldLike_46 (by decide) ?_
      exact rt_lfew [1, 2, 3, 0] rfl h
    · replace h := h.2 c31
      refine z_iload dX11_fieldLike_34 (j := 3) rfl ?_
      exact z_iret dX11_fieldLike_36 rfl h

def zt_X11_fieldLike (l : Launch) (s0 : State) (G : va_G) (ca : Nat → ClassId) (d : Nat) (C : Nat × Nat) (S : zS) (w0 : rt_Wd)  (a : Int) (w : Int) (b : Int) (k : Int) (M : zM) (Q : Int → zM → Prop) (X : zM → Prop) : Prop :=
  zTx S a ∧ ((0 ≤ w ∧ w < 140) ∧ (zg_X11_fieldLike_8 l s0 G ca d C S w0  a b k (M (a + 12) w) M Q X))
set_option maxRecDepth 100000 in
theorem z_X11_fieldLike {l : Launch} {s0 : State} {a0 : Array Value} {G : va_G} {ca : Nat → ClassId} (Γ : rt_Γ l s0 a0 G ca) {d : Nat} {C : Nat × Nat} {S : zS} (hd : 1 ≤ d) (hok : zok C)  (hs : zSok S) {a : Int} {w : Int} {b : Int} {k : Int} {M : zM} {Q : Int → zM → Prop} {X : zM → Prop} (h : zt_X11_fieldLike l s0 G ca d C S (zw s0 ca C S M)  a w b k M Q X) : zm_X11_fieldLike l s0 G ca d C S  a w b k M Q X := by
  refine z_met (lv := [(0, zv s0 2 a), (1, zv s0 0 w), (2, zv s0 2 b), (3, zv s0 0 k)]) Γ kk_X11_fieldLike rfl (show (lg_sl [zv s0 2 a, zv s0 0 w, zv s0 2 b, zv s0 0 k]).length ≤ 5 from by simp only [zn_0, zn_2, show (lg_sl []).length = 0 from rfl]; omega) (show lv_args 0 [zv s0 2 a, zv s0 0 w, zv s0 2 b, zv s0 0 k] = [(0, zv s0 2 a), (1, zv s0 0 w), (2, zv s0 2 b), (3, zv s0 0 k)] from by rw [zl_2, zl_0, zl_2, zl_0]; rfl) ?_
  unfold zt_X11_fieldLike at h
  refine z_aload_n dX11_fieldLike_0 rfl (j := 0) rfl ?_
  obtain ⟨hk0, h⟩ := h
  refine z_getcN Γ kfN_RX11_160 dX11_fieldLike_1 hk0.1 hk0.2.1 rfl ?_
  refine z_iload_n dX11_fieldLike_4 rfl (j := 1) rfl ?_
  obtain ⟨hi5, h⟩ := h
  refine z_iald Γ dX11_fieldLike_5 (by have := hk0.1; omega) hk0.2.2.2.2.2.2.2.2.2.2.2.2.2.1 (by decide) hi5 (v9 := M (a + 12) w) rfl ?_
  refine z_istore (i := 4) (lv' := [(4, zv s0 0 (M (a + 12) w)), (0, zv s0 2 a), (1, zv s0 0 w), (2, zv s0 2 b), (3, zv s0 0 k)]) dX11_fieldLike_6 (by decide) (by simp [zv_cat0, zv_cat1, zv_cat2, zv_cats]) ?_
  exact rt_lfew [1, 3, 4, 0] rfl h

abbrev zg_X11_may_23 (l : Launch) (s0 : State) (G : va_G) (ca : Nat → ClassId) (d : Nat) (C : Nat × Nat) (S : zS) (w0 : rt_Wd)  (v1 : Int) (v4 : Int) (v6 : Int)  (M : zM) (Q : Int → zM → Prop) (X : zM → Prop) : Prop := rt_Go l s0 G RX11 "may" cX11_may 9 (Option.some FieldType.boolean) [] d w0 (zQ s0 ca 0 C S Q X) 23 [(0, zv s0 2 84), (1, zv s0 2 v1), (4, zv s0 0 v4), (6, zv s0 0 v6)] [] (zw s0 ca C S M)
abbrev zg_X11_may_126 (l : Launch) (s0 : State) (G : va_G) (ca : Nat → ClassId) (d : Nat) (C : Nat × Nat) (S : zS) (w0 : rt_Wd)  (v3 : Int) (v4 : Int) (v5 : Int)  (M : zM) (Q : Int → zM → Prop) (X : zM → Prop) : Prop := rt_Go l s0 G RX11 "may" cX11_may 9 (Option.some FieldType.boolean) [] d w0 (zQ s0 ca 0 C S Q X) 126 [(3, zv s0 2 v3), (4, zv s0 0 v4), (5, zv s0 0 v5)] [] (zw s0 ca C S M)
abbrev zg_X11_may_196 (l : Launch) (s0 : State) (G : va_G) (ca : Nat → ClassId) (d : Nat) (C : Nat × Nat) (S : zS) (w0 : rt_Wd)  (v1 : Int) (v2 : Int) (v3 : Int) (v4 : Int)  (M : zM) (Q : Int → zM → Prop) (X : zM → Prop) : Prop := rt_Go l s0 G RX11 "may" cX11_may 9 (Option.some FieldType.boolean) [] d w0 (zQ s0 ca 0 C S Q X) 196 [(0, zv s0 2 84), (1, zv s0 2 v1), (2, zv s0 0 v2), (3, zv s0 2 v3), (4, zv s0 0 v4)] [] (zw s0 ca C S M)
abbrev zg_X11_may_256 (l : Launch) (s0 : State) (G : va_G) (ca : Nat → ClassId) (d : Nat) (C : Nat × Nat) (S : zS) (w0 : rt_Wd)  (v1 : Int) (v3 : Int) (v4 : Int) (v6 : Int) (v7 : Int)  (M : zM) (Q : Int → zM → Prop) (X : zM → Prop) : Prop := rt_Go l s0 G RX11 "may" cX11_may 9 (Option.some FieldType.boolean) [] d w0 (zQ s0 ca 0 C S Q X) 256 [(1, zv s0 2 v1), (3, zv s0 2 v3), (4, zv s0 0 v4), (6, zv s0 0 v6), (7, zv s0 0 v7)] [] (zw s0 ca C S M)
abbrev zg_X11_may_287 (l : Launch) (s0 : State) (G : va_G) (ca : Nat → ClassId) (d : Nat) (C : Nat × Nat) (S : zS) (w0 : rt_Wd)  (v1 : Int) (v3 : Int) (v4 : Int) (v7 : Int)  (M : zM) (Q : Int → zM → Prop) (X : zM → Prop) : Prop := rt_Go l s0 G RX11 "may" cX11_may 9 (Option.some FieldType.boolean) [] d w0 (zQ s0 ca 0 C S Q X) 287 [(1, zv s0 2 v1), (3, zv s0 2 v3), (4, zv s0 0 v4), (7, zv s0 0 v7)] [] (zw s0 ca C S M)
abbrev zg_X11_may_288 (l : Launch) (s0 : State) (G : va_G) (ca : Nat → ClassId) (d : Nat) (C : Nat × Nat) (S : zS) (w0 : rt_Wd)  (v1 : Int) (v3 : Int) (v4 : Int) (v7 : Int) (k0 : Int) (M : zM) (Q : Int → zM → Prop) (X : zM → Prop) : Prop := rt_Go l s0 G RX11 "may" cX11_may 9 (Option.some FieldType.boolean) [] d w0 (zQ s0 ca 0 C S Q X) 288 [(1, zv s0 2 v1), (3, zv s0 2 v3), (4, zv s0 0 v4), (7, zv s0 0 v7)] [zv s0 0 k0] (zw s0 ca C S M)
abbrev zg_X11_may_335 (l : Launch) (s0 : State) (G : va_G) (ca : Nat → ClassId) (d : Nat) (C : Nat × Nat) (S : zS) (w0 : rt_Wd)  (v1 : Int) (v2 : Int) (v3 : Int) (v5 : Int) (v6 : Int) (v7 : Int)  (M : zM) (Q : Int → zM → Prop) (X : zM → Prop) : Prop := rt_Go l s0 G RX11 "may" cX11_may 9 (Option.some FieldType.boolean) [] d w0 (zQ s0 ca 0 C S Q X) 335 [(0, zv s0 2 84), (1, zv s0 2 v1), (2, zv s0 0 v2), (3, zv s0 2 v3), (5, zv s0 0 v5), (6, zv s0 0 v6), (7, zv s0 0 v7)] [] (zw s0 ca C S M)
abbrev zg_X11_may_380 (l : Launch) (s0 : State) (G : va_G) (ca : Nat → ClassId) (d : Nat) (C : Nat × Nat) (S : zS) (w0 : rt_Wd)  (v1 : Int) (v2 : Int) (v3 : Int) (v5 : Int) (v6 : Int) (v7 : Int) (v8 : Int)  (M : zM) (Q : Int → zM → Prop) (X : zM → Prop) : Prop := rt_Go l s0 G RX11 "may" cX11_may 9 (Option.some FieldType.boolean) [] d w0 (zQ s0 ca 0 C S Q X) 380 [(0, zv s0 2 84), (1, zv s0 2 v1), (2, zv s0 0 v2), (3, zv s0 2 v3), (5, zv s0 0 v5), (6, zv s0 0 v6), (7, zv s0 0 v7), (8, zv s0 0 v8)] [] (zw s0 ca C S M)
abbrev zg_X11_may_400 (l : Launch) (s0 : State) (G : va_G) (ca : Nat → ClassId) (d : Nat) (C : Nat × Nat) (S : zS) (w0 : rt_Wd)  (v1 : Int) (v2 : Int) (v3 : Int) (v5 : Int) (v7 : Int)  (M : zM) (Q : Int → zM → Prop) (X : zM → Prop) : Prop := rt_Go l s0 G RX11 "may" cX11_may 9 (Option.some FieldType.boolean) [] d w0 (zQ s0 ca 0 C S Q X) 400 [(0, zv s0 2 84), (1, zv s0 2 v1), (2, zv s0 0 v2), (3, zv s0 2 v3), (5, zv s0 0 v5), (7, zv s0 0 v7)] [] (zw s0 ca C S M)
abbrev zg_X11_may_404 (l : Launch) (s0 : State) (G : va_G) (ca : Nat → ClassId) (d : Nat) (C : Nat × Nat) (S : zS) (w0 : rt_Wd)  (v1 : Int) (v2 : Int) (v3 : Int) (v5 : Int) (v7 : Int)  (M : zM) (Q : Int → zM → Prop) (X : zM → Prop) : Prop := rt_Go l s0 G RX11 "may" cX11_may 9 (Option.some FieldType.boolean) [] d w0 (zQ s0 ca 0 C S Q X) 404 [(0, zv s0 2 84), (1, zv s0 2 v1), (2, zv s0 0 v2), (3, zv s0 2 v3), (5, zv s0 0 v5), (7, zv s0 0 v7)] [] (zw s0 ca C S M)
abbrev zg_X11_may_405 (l : Launch) (s0 : State) (G : va_G) (ca : Nat → ClassId) (d : Nat) (C : Nat × Nat) (S : zS) (w0 : rt_Wd)  (v1 : Int) (v2 : Int) (v3 : Int) (v5 : Int) (v7 : Int) (k0 : Int) (M : zM) (Q : Int → zM → Prop) (X : zM → Prop) : Prop := rt_Go l s0 G RX11 "may" cX11_may 9 (Option.some FieldType.boolean) [] d w0 (zQ s0 ca 0 C S Q X) 405 [(0, zv s0 2 84), (1, zv s0 2 v1), (2, zv s0 0 v2), (3, zv s0 2 v3), (5, zv s0 0 v5), (7, zv s0 0 v7)] [zv s0 0 k0] (zw s0 ca C S M)
def zt_X11_may_23 (l : Launch) (s0 : State) (G : va_G) (ca : Nat → ClassId) (d : Nat) (C : Nat × Nat) (S : zS) (w0 : rt_Wd)  (v1 : Int) (v4 : Int) (v6 : Int)  (M : zM) (Q : Int → zM → Prop) (X : zM → Prop) : Prop :=
  zIf (w32 v6 < 0) (Q 1 M) (zTx S v1 ∧ ((0 ≤ v6 ∧ v6 < 2200) ∧ (zm_X11_ask l s0 G ca (d - 1) C S (M (v1 + 15) v6) v4 M (fun r38 M38 => zg_X11_may_23 l s0 G ca d C S w0  v1 v4 (M38 (v1 + 18) v6) M38 Q X) X)))
set_option maxRecDepth 100000 in
theorem zs_X11_may_23 {l : Launch} {s0 : State} {a0 : Array Value} {G : va_G} {ca : Nat → ClassId} (Γ : rt_Γ l s0 a0 G ca) {d : Nat} {C : Nat × Nat} {S : zS} (hd : 1 ≤ d) (hok : zok C)  (hs : zSok S) {w0 : rt_Wd} {v1 : Int} {v4 : Int} {v6 : Int}   {M : zM} {Q : Int → zM → Prop} {X : zM → Prop} (h : zt_X11_may_23 l s0 G ca d C S w0  v1 v4 v6 M Q X) : zg_X11_may_23 l s0 G ca d C S w0  v1 v4 v6 M Q X := by
  unfold zt_X11_may_23 at h
  refine z_iload dX11_may_23 (j := 3) rfl ?_
  refine z_if_lt (tgt := 53) (x' := w32 v6) rfl dX11_may_25 (by decide) (fun c25 => ?_) (fun c25 => ?_)
  · replace h := h.1 c25
    refine z_iconst dX11_may_53 ?_
    exact z_zret dX11_may_54 rfl (by decide) h
  · replace h := h.2 c25
    refine z_aload_n dX11_may_28 rfl (j := 0) rfl ?_
    refine z_aload_n dX11_may_29 rfl (j := 1) rfl ?_
    obtain ⟨hk0, h⟩ := h
    refine z_getcN Γ kfN_RX11_149 dX11_may_30 hk0.1 hk0.2.1 rfl ?_
    refine z_iload dX11_may_33 (j := 3) rfl ?_
    obtain ⟨hi35, h⟩ := h
    refine z_iald Γ dX11_may_35 (by have := hk0.1; omega) hk0.2.2.2.2.2.2.2.2.2.2.2.2.2.2.2.2.1 (by decide) hi35 (v9 := M (v1 + 15) v6) rfl ?_
    refine z_iload dX11_may_36 (j := 2) rfl ?_
    refine z_callV Γ kk_X11_ask kc_RX11_221 (As := [zv s0 0 (M (v1 + 15) v6), zv s0 0 v4]) h (by omega) (by decide) (show (parseMethodDescriptor yX11_ask.desc).map (fun q => q.parameters.length) = some 2 by decide +kernel) hok (Nat.zero_le _) dX11_may_38 (by decide) (hs 84 _ rfl) rfl rfl (fun _ h9 => nomatch h9) ?_
    clear h
    intro r38 M38 h
    show rt_Go _ _ _ _ _ _ _ _ _ _ _ _ 41 [(0, zv s0 2 84), (1, zv s0 2 v1), (4, zv s0 0 v4), (6, zv s0 0 v6)] [] (zw s0 ca C S M38)
    refine z_aload_n dX11_may_41 rfl (j := 1) rfl ?_
    refine z_getcN Γ kfN_RX11_163 dX11_may_42 hk0.1 hk0.2.1 rfl ?_
    refine z_iload dX11_may_45 (j := 3) rfl ?_
    refine z_iald Γ dX11_may_47 (by have := hk0.1; omega) hk0.2.2.2.2.2.2.2.2.2.2.2.2.2.2.2.2.2.2.2.1 (by decide) hi35 (v9 := M38 (v1 + 18) v6) rfl ?_
    refine z_istore (i := 6) (lv' := [(6, zv s0 0 (M38 (v1 + 18) v6)), (0, zv s0 2 84), (1, zv s0 2 v1), (4, zv s0 0 v4)]) dX11_may_48 (by decide) (by simp [zv_cat0, zv_cat1, zv_cat2, zv_cats]) ?_
    refine rt_goto (tgt := 23) dX11_may_50 (by decide) ?_
    exact rt_lfew [1, 2, 3, 0] rfl h

def zt_X11_may_126 (l : Launch) (s0 : State) (G : va_G) (ca : Nat → ClassId) (d : Nat) (C : Nat × Nat) (S : zS) (w0 : rt_Wd)  (v3 : Int) (v4 : Int) (v5 : Int)  (M : zM) (Q : Int → zM → Prop) (X : zM → Prop) : Prop :=
  zm_X11_sixOf l s0 G ca (d - 1) C S v5 M (fun r128 M128 => zIf (w32 r128 = 0) (Q 0 M128) (zTx S v3 ∧ ((0 ≤ v4 ∧ v4 < 140) ∧ (zm_X11_sixOf l s0 G ca (d - 1) C S (M128 (v3 + 9) v4) M128 (fun r141 M141 => zIf (w32 r141 = 0) (Q 0 M141) (zm_X11_matchesSix l s0 G ca (d - 1) C S v5 (M141 (v3 + 9) v4) M141 (fun r156 M156 => zIf (w32 r156 = 0) (Q 0 M156) (Q 1 M156)) X)) X)))) X
set_option maxRecDepth 100000 in
theorem zs_X11_may_126 {l : Launch} {s0 : State} {a0 : Array Value} {G : va_G} {ca : Nat → ClassId} (Γ : rt_Γ l s0 a0 G ca) {d : Nat} {C : Nat × Nat} {S : zS} (hd : 1 ≤ d) (hok : zok C)  (hs : zSok S) {w0 : rt_Wd} {v3 : Int} {v4 : Int} {v5 : Int}   {M : zM} {Q : Int → zM → Prop} {X : zM → Prop} (h : zt_X11_may_126 l s0 G ca d C S w0  v3 v4 v5 M Q X) : zg_X11_may_126 l s0 G ca d C S w0  v3 v4 v5 M Q X := by
  unfold zt_X11_may_126 at h
  refine z_iload dX11_may_126 (j := 2) rfl ?_
  refine z_callS Γ kk_X11_sixOf kc_RX11_201 (As := [zv s0 0 v5]) h (by omega) (by decide) (show (parseMethodDescriptor yX11_sixOf.desc).map (fun q => q.parameters.length) = some 1 by decide +kernel) hok (Nat.zero_le _) dX11_may_128 rfl (fun _ h9 => nomatch h9) ?_
  clear h
  intro r128 M128 h
  show rt_Go _ _ _ _ _ _ _ _ _ _ _ _ 131 [(3, zv s0 2 v3), (4, zv s0 0 v4), (5, zv s0 0 v5)] [zv s0 0 r128] (zw s0 ca C S M128)
  refine z_if_eq (tgt := 166) (x' := w32 r128) rfl dX11_may_131 (by decide) (fun c131 => ?_) (fun c131 => ?_)
  · replace h := h.1 c131
    refine z_iconst dX11_may_166 ?_
    exact z_zret dX11_may_167 rfl (by decide) h
  · replace h := h.2 c131
    refine z_aload_n dX11_may_134 rfl (j := 0) rfl ?_
    obtain ⟨hk0, h⟩ := h
    refine z_getcN Γ kfN_RX11_132 dX11_may_135 hk0.1 hk0.2.1 rfl ?_
    refine z_iload dX11_may_138 (j := 1) rfl ?_
    obtain ⟨hi140, h⟩ := h
    refine z_iald Γ dX11_may_140 (by have := hk0.1; omega) hk0.2.2.2.2.2.2.2.2.2.2.1 (by decide) hi140 (v9 := M128 (v3 + 9) v4) rfl ?_
    refine z_callS Γ kk_X11_sixOf kc_RX11_201 (As := [zv s0 0 (M128 (v3 + 9) v4)]) h (by omega) (by decide) (show (parseMethodDescriptor yX11_sixOf.desc).map (fun q => q.parameters.length) = some 1 by decide +kernel) hok (Nat.zero_le _) dX11_may_141 rfl (fun _ h9 => nomatch h9) ?_
    clear h
    intro r141 M141 h
    show rt_Go _ _ _ _ _ _ _ _ _ _ _ _ 144 [(3, zv s0 2 v3), (4, zv s0 0 v4), (5, zv s0 0 v5)] [zv s0 0 r141] (zw s0 ca C S M141)
    refine z_if_eq (tgt := 166) (x' := w32 r141) rfl dX11_may_144 (by decide) (fun c144 => ?_) (fun c144 => ?_)
    · replace h := h.1 c144
      refine z_iconst dX11_may_166 ?_
      exact z_zret dX11_may_167 rfl (by decide) h
    · replace h := h.2 c144
      refine z_iload dX11_may_147 (j := 2) rfl ?_
      refine z_aload_n dX11_may_149 rfl (j := 0) rfl ?_
      refine z_getcN Γ kfN_RX11_132 dX11_may_150 hk0.1 hk0.2.1 rfl ?_
      refine z_iload dX11_may_153 (j := 1) rfl ?_
      refine z_iald Γ dX11_may_155 (by have := hk0.1; omega) hk0.2.2.2.2.2.2.2.2.2.2.1 (by decide) hi140 (v9 := M141 (v3 + 9) v4) rfl ?_
      refine z_callS Γ kk_X11_matchesSix kc_RX11_204 (As := [zv s0 0 v5, zv s0 0 (M141 (v3 + 9) v4)]) h (by omega) (by decide) (show (parseMethodDescriptor yX11_matchesSix.desc).map (fun q => q.parameters.length) = some 2 by decide +kernel) hok (Nat.zero_le _) dX11_may_156 rfl (fun _ h9 => nomatch h9) ?_
      clear h
      intro r156 M156 h
      show rt_Go _ _ _ _ _ _ _ _ _ _ _ _ 159 [(3, zv s0 2 v3), (4, zv s0 0 v4), (5, zv s0 0 v5)] [zv s0 0 r156] (zw s0 ca C S M156)
      refine z_if_eq (tgt := 166) (x' := w32 r156) rfl dX11_may_159 (by decide) (fun c159 => ?_) (fun c159 => ?_)
      · replace h := h.1 c159
        refine z_iconst dX11_may_166 ?_
        exact z_zret dX11_may_167 rfl (by decide) h
      · replace h := h.2 c159
        refine z_iconst dX11_may_162 ?_
        refine rt_goto (tgt := 167) dX11_may_163 (by decide) ?_
        exact z_zret dX11_may_167 rfl (by decide) h

def zt_X11_may_196 (l : Launch) (s0 : State) (G : va_G) (ca : Nat → ClassId) (d : Nat) (C : Nat × Nat) (S : zS) (w0 : rt_Wd)  (v1 : Int) (v2 : Int) (v3 : Int) (v4 : Int)  (M : zM) (Q : Int → zM → Prop) (X : zM → Prop) : Prop :=
  zTx S v1 ∧ ((0 ≤ v2 ∧ v2 < 140) ∧ ((0 ≤ M (v1 + 12) v2 ∧ M (v1 + 12) v2 < 2200) ∧ (zTx S v3 ∧ ((0 ≤ v4 ∧ v4 < 140) ∧ ((0 ≤ M (v3 + 12) v4 ∧ M (v3 + 12) v4 < 2200) ∧ (zm_X11_ask l s0 G ca (d - 1) C S (M (v1 + 15) (M (v1 + 12) v2)) (M (v3 + 15) (M (v3 + 12) v4)) M (fun r220 M220 => Q 1 M220) X))))))
set_option maxRecDepth 100000 in
theorem zs_X11_may_196 {l : Launch} {s0 : State} {a0 : Array Value} {G : va_G} {ca : Nat → ClassId} (Γ : rt_Γ l s0 a0 G ca) {d : Nat} {C : Nat × Nat} {S : zS} (hd : 1 ≤ d) (hok : zok C)  (hs : zSok S) {w0 : rt_Wd} {v1 : Int} {v2 : Int} {v3 : Int} {v4 : Int}   {M : zM} {Q : Int → zM → Prop} {X : zM → Prop} (h : zt_X11_may_196 l s0 G ca d C S w0  v1 v2 v3 v4 M Q X) : zg_X11_may_196 l s0 G ca d C S w0  v1 v2 v3 v4 M Q X := by
  unfold zt_X11_may_196 at h
  refine z_aload_n dX11_may_196 rfl (j := 0) rfl ?_
  refine z_aload_n dX11_may_197 rfl (j := 1) rfl ?_
  obtain ⟨hk0, h⟩ := h
  refine z_getcN Γ kfN_RX11_149 dX11_may_198 hk0.1 hk0.2.1 rfl ?_
  refine z_aload_n dX11_may_201 rfl (j := 1) rfl ?_
  refine z_getcN Γ kfN_RX11_160 dX11_may_202 hk0.1 hk0.2.1 rfl ?_
  refine z_iload_n dX11_may_205 rfl (j := 2) rfl ?_
  obtain ⟨hi206, h⟩ := h
  refine z_iald Γ dX11_may_206 (by have := hk0.1; omega) hk0.2.2.2.2.2.2.2.2.2.2.2.2.2.1 (by decide) hi206 (v9 := M (v1 + 12) v2) rfl ?_
  obtain ⟨hi207, h⟩ := h
  refine z_iald Γ dX11_may_207 (by have := hk0.1; omega) hk0.2.2.2.2.2.2.2.2.2.2.2.2.2.2.2.2.1 (by decide) hi207 (v9 := M (v1 + 15) (M (v1 + 12) v2)) rfl ?_
  refine z_aload_n dX11_may_208 rfl (j := 3) rfl ?_
  obtain ⟨hk1, h⟩ := h
  refine z_getcN Γ kfN_RX11_149 dX11_may_209 hk1.1 hk1.2.1 rfl ?_
  refine z_aload_n dX11_may_212 rfl (j := 3) rfl ?_
  refine z_getcN Γ kfN_RX11_160 dX11_may_213 hk1.1 hk1.2.1 rfl ?_
  refine z_iload dX11_may_216 (j := 4) rfl ?_
  obtain ⟨hi218, h⟩ := h
  refine z_iald Γ dX11_may_218 (by have := hk1.1; omega) hk1.2.2.2.2.2.2.2.2.2.2.2.2.2.1 (by decide) hi218 (v9 := M (v3 + 12) v4) rfl ?_
  obtain ⟨hi219, h⟩ := h
  refine z_iald Γ dX11_may_219 (by have := hk1.1; omega) hk1.2.2.2.2.2.2.2.2.2.2.2.2.2.2.2.2.1 (by decide) hi219 (v9 := M (v3 + 15) (M (v3 + 12) v4)) rfl ?_
  refine z_callV Γ kk_X11_ask kc_RX11_221 (As := [zv s0 0 (M (v1 + 15) (M (v1 + 12) v2)), zv s0 0 (M (v3 + 15) (M (v3 + 12) v4))]) h (by omega) (by decide) (show (parseMethodDescriptor yX11_ask.desc).map (fun q => q.parameters.length) = some 2 by decide +kernel) hok (Nat.zero_le _) dX11_may_220 (by decide) (hs 84 _ rfl) rfl rfl (fun _ h9 => nomatch h9) ?_
  clear h
  intro r220 M220 h
  show rt_Go _ _ _ _ _ _ _ _ _ _ _ _ 223 [(0, zv s0 2 84), (1, zv s0 2 v1), (2, zv s0 0 v2), (3, zv s0 2 v3), (4, zv s0 0 v4)] [] (zw s0 ca C S M220)
  refine z_iconst dX11_may_223 ?_
  exact z_zret dX11_may_224 rfl (by decide) h

def zt_X11_may_288 (l : Launch) (s0 : State) (G : va_G) (ca : Nat → ClassId) (d : Nat) (C : Nat × Nat) (S : zS) (w0 : rt_Wd)  (v1 : Int) (v3 : Int) (v4 : Int) (v7 : Int) (k0 : Int) (M : zM) (Q : Int → zM → Prop) (X : zM → Prop) : Prop :=
  zTx S v1 ∧ ((0 ≤ v7 ∧ v7 < 2200) ∧ (zg_X11_may_256 l s0 G ca d C S w0  v1 v3 v4 k0 (M (v1 + 18) v7) M Q X))
set_option maxRecDepth 100000 in
theorem zs_X11_may_288 {l : Launch} {s0 : State} {a0 : Array Value} {G : va_G} {ca : Nat → ClassId} (Γ : rt_Γ l s0 a0 G ca) {d : Nat} {C : Nat × Nat} {S : zS} (hd : 1 ≤ d) (hok : zok C)  (hs : zSok S) {w0 : rt_Wd} {v1 : Int} {v3 : Int} {v4 : Int} {v7 : Int} {k0 : Int}  {M : zM} {Q : Int → zM → Prop} {X : zM → Prop} (h : zt_X11_may_288 l s0 G ca d C S w0  v1 v3 v4 v7 k0 M Q X) : zg_X11_may_288 l s0 G ca d C S w0  v1 v3 v4 v7 k0 M Q X := by
  unfold zt_X11_may_288 at h
  refine z_istore (i := 6) (lv' := [(6, zv s0 0 k0), (1, zv s0 2 v1), (3, zv s0 2 v3), (4, zv s0 0 v4), (7, zv s0 0 v7)]) dX11_may_288 (by decide) (by simp [zv_cat0, zv_cat1, zv_cat2, zv_cats]) ?_
  refine z_aload_n dX11_may_290 rfl (j := 1) rfl ?_
  obtain ⟨hk0, h⟩ := h
  refine z_getcN Γ kfN_RX11_163 dX11_may_291 hk0.1 hk0.2.1 rfl ?_
  refine z_iload dX11_may_294 (j := 4) rfl ?_
  obtain ⟨hi296, h⟩ := h
  refine z_iald Γ dX11_may_296 (by have := hk0.1; omega) hk0.2.2.2.2.2.2.2.2.2.2.2.2.2.2.2.2.2.2.2.1 (by decide) hi296 (v9 := M (v1 + 18) v7) rfl ?_
  refine z_istore (i := 7) (lv' := [(7, zv s0 0 (M (v1 + 18) v7)), (6, zv s0 0 k0), (1, zv s0 2 v1), (3, zv s0 2 v3), (4, zv s0 0 v4)]) dX11_may_297 (by decide) (by simp [zv_cat0, zv_cat1, zv_cat2, zv_cats]) ?_
  refine rt_goto (tgt := 256) dX11_may_299 (by decide) ?_
  exact rt_lfew [2, 3, 4, 1, 0] rfl h

def zt_X11_may_287 (l : Launch) (s0 : State) (G : va_G) (ca : Nat → ClassId) (d : Nat) (C : Nat × Nat) (S : zS) (w0 : rt_Wd)  (v1 : Int) (v3 : Int) (v4 : Int) (v7 : Int)  (M : zM) (Q : Int → zM → Prop) (X : zM → Prop) : Prop :=
  zt_X11_may_288 l s0 G ca d C S w0  v1 v3 v4 v7 0 M Q X
set_option maxRecDepth 100000 in
theorem zs_X11_may_287 {l : Launch} {s0 : State} {a0 : Array Value} {G : va_G} {ca : Nat → ClassId} (Γ : rt_Γ l s0 a0 G ca) {d : Nat} {C : Nat × Nat} {S : zS} (hd : 1 ≤ d) (hok : zok C)  (hs : zSok S) {w0 : rt_Wd} {v1 : Int} {v3 : Int} {v4 : Int} {v7 : Int}   {M : zM} {Q : Int → zM → Prop} {X : zM → Prop} (h : zt_X11_may_287 l s0 G ca d C S w0  v1 v3 v4 v7 M Q X) : zg_X11_may_287 l s0 G ca d C S w0  v1 v3 v4 v7 M Q X := by
  unfold zt_X11_may_287 at h
  refine z_iconst dX11_may_287 ?_
  exact rt_lfew [0, 1, 2, 3] rfl (zs_X11_may_288 Γ hd hok hs  h)

def zt_X11_may_256 (l : Launch) (s0 : State) (G : va_G) (ca : Nat → ClassId) (d : Nat) (C : Nat × Nat) (S : zS) (w0 : rt_Wd)  (v1 : Int) (v3 : Int) (v4 : Int) (v6 : Int) (v7 : Int)  (M : zM) (Q : Int → zM → Prop) (X : zM → Prop) : Prop :=
  zIf (w32 v7 < 0) (zTx S v3 ∧ ((0 ≤ v4 ∧ v4 < 140) ∧ (zIf (0 ≤ w32 (M (v3 + 14) v4)) (Q 1 M) (zIf (w32 v6 = 0) (Q 0 M) (Q 1 M))))) (zIf (w32 v6 = 0) (zt_X11_may_287 l s0 G ca d C S w0  v1 v3 v4 v7 M Q X) (zTx S v1 ∧ ((0 ≤ v7 ∧ v7 < 2200) ∧ (zTx S v3 ∧ (zm_X10_symbol l s0 G ca (d - 1) C S v3 v4 v1 (M (v1 + 16) v7) M (fun r277 M277 => zIf (w32 r277 < 0) (zt_X11_may_287 l s0 G ca d C S w0  v1 v3 v4 v7 M277 Q X) (zt_X11_may_288 l s0 G ca d C S w0  v1 v3 v4 v7 1 M277 Q X)) X)))))
set_option maxRecDepth 100000 in
theorem zs_X11_may_256 {l : Launch} {s0 : State} {a0 : Array Value} {G : va_G} {ca : Nat → ClassId} (Γ : rt_Γ l s0 a0 G ca) {d : Nat} {C : Nat × Nat} {S : zS} (hd : 1 ≤ d) (hok : zok C)  (hs : zSok S) {w0 : rt_Wd} {v1 : Int} {v3 : Int} {v4 : Int} {v6 : Int} {v7 : Int}   {M : zM} {Q : Int → zM → Prop} {X : zM → Prop} (h : zt_X11_may_256 l s0 G ca d C S w0  v1 v3 v4 v6 v7 M Q X) : zg_X11_may_256 l s0 G ca d C S w0  v1 v3 v4 v6 v7 M Q X := by
  unfold zt_X11_may_256 at h
  refine z_iload dX11_may_256 (j := 4) rfl ?_
  refine z_if_lt (tgt := 302) (x' := w32 v7) rfl dX11_may_258 (by decide) (fun c258 => ?_) (fun c258 => ?_)
  · replace h := h.1 c258
    refine z_aload_n dX11_may_302 rfl (j := 1) rfl ?_
    obtain ⟨hk0, h⟩ := h
    refine z_getcN Γ kfN_RX11_238 dX11_may_303 hk0.1 hk0.2.1 rfl ?_
    refine z_iload dX11_may_306 (j := 2) rfl ?_
    obtain ⟨hi308, h⟩ := h
    refine z_iald Γ dX11_may_308 (by have := hk0.1; omega) hk0.2.2.2.2.2.2.2.2.2.2.2.2.2.2.2.1 (by decide) hi308 (v9 := M (v3 + 14) v4) rfl ?_
    refine z_if_ge (tgt := 317) (x' := w32 (M (v3 + 14) v4)) rfl dX11_may_309 (by decide) (fun c309 => ?_) (fun c309 => ?_)
    · replace h := h.1 c309
      refine z_iconst dX11_may_317 ?_
      refine rt_goto (tgt := 322) dX11_may_318 (by decide) ?_
      exact z_zret dX11_may_322 rfl (by decide) h
    · replace h := h.2 c309
      refine z_iload dX11_may_312 (j := 3) rfl ?_
      refine z_if_eq (tgt := 321) (x' := w32 v6) rfl dX11_may_314 (by decide) (fun c314 => ?_) (fun c314 => ?_)
      · replace h := h.1 c314
        refine z_iconst dX11_may_321 ?_
        exact z_zret dX11_may_322 rfl (by decide) h
      · replace h := h.2 c314
        refine z_iconst dX11_may_317 ?_
        refine rt_goto (tgt := 322) dX11_may_318 (by decide) ?_
        exact z_zret dX11_may_322 rfl (by decide) h
  · replace h := h.2 c258
    refine z_iload dX11_may_261 (j := 3) rfl ?_
    refine z_if_eq (tgt := 287) (x' := w32 v6) rfl dX11_may_263 (by decide) (fun c263 => ?_) (fun c263 => ?_)
    · replace h := h.1 c263
      exact rt_lfew [0, 1, 2, 4] rfl (zs_X11_may_287 Γ hd hok hs  h)
    · replace h := h.2 c263
      refine z_aload_n dX11_may_266 rfl (j := 1) rfl ?_
      refine z_iload dX11_may_267 (j := 2) rfl ?_
      refine z_aload_n dX11_may_269 rfl (j := 0) rfl ?_
      refine z_aload_n dX11_may_270 rfl (j := 0) rfl ?_
      obtain ⟨hk1, h⟩ := h
      refine z_getcN Γ kfN_RX11_231 dX11_may_271 hk1.1 hk1.2.1 rfl ?_
      refine z_iload dX11_may_274 (j := 4) rfl ?_
      obtain ⟨hi276, h⟩ := h
      refine z_iald Γ dX11_may_276 (by have := hk1.1; omega) hk1.2.2.2.2.2.2.2.2.2.2.2.2.2.2.2.2.2.1 (by decide) hi276 (v9 := M (v1 + 16) v7) rfl ?_
      obtain ⟨hk2, h⟩ := h
      refine z_callVN Γ kk_X10_symbol kc_RX11_234 (As := [zv s0 0 v4, zv s0 2 v1, zv s0 0 (M (v1 + 16) v7)]) h (by omega) (by decide) (show (parseMethodDescriptor yX10_symbol.desc).map (fun q => q.parameters.length) = some 3 by decide +kernel) hok (Nat.zero_le _) dX11_may_277 hk2.1 hk2.2.1 rfl rfl (fun _ h9 => nomatch h9) ?_
      clear h
      intro r277 M277 h
      show rt_Go _ _ _ _ _ _ _ _ _ _ _ _ 280 [(1, zv s0 2 v1), (3, zv s0 2 v3), (4, zv s0 0 v4), (6, zv s0 0 v6), (7, zv s0 0 v7)] [zv s0 0 r277] (zw s0 ca C S M277)
      refine z_if_lt (tgt := 287) (x' := w32 r277) rfl dX11_may_280 (by decide) (fun c280 => ?_) (fun c280 => ?_)
      · replace h := h.1 c280
        exact rt_lfew [0, 1, 2, 4] rfl (zs_X11_may_287 Γ hd hok hs  h)
      · replace h := h.2 c280
        refine z_iconst dX11_may_283 ?_
        refine rt_goto (tgt := 288) dX11_may_284 (by decide) ?_
        exact rt_lfew [0, 1, 2, 4] rfl (zs_X11_may_288 Γ hd hok hs  h)

def zt_X11_may_405 (l : Launch) (s0 : State) (G : va_G) (ca : Nat → ClassId) (d : Nat) (C : Nat × Nat) (S : zS) (w0 : rt_Wd)  (v1 : Int) (v2 : Int) (v3 : Int) (v5 : Int) (v7 : Int) (k0 : Int) (M : zM) (Q : Int → zM → Prop) (X : zM → Prop) : Prop :=
  zTx S v3 ∧ ((0 ≤ v7 ∧ v7 < 2200) ∧ (zg_X11_may_335 l s0 G ca d C S w0  v1 v2 v3 v5 k0 (M (v3 + 18) v7) M Q X))
set_option maxRecDepth 100000 in
theorem zs_X11_may_405 {l : Launch} {s0 : State} {a0 : Array Value} {G : va_G} {ca : Nat → ClassId} (Γ : rt_Γ l s0 a0 G ca) {d : Nat} {C : Nat × Nat} {S : zS} (hd : 1 ≤ d) (hok : zok C)  (hs : zSok S) {w0 : rt_Wd} {v1 : Int} {v2 : Int} {v3 : Int} {v5 : Int} {v7 : Int} {k0 : Int}  {M : zM} {Q : Int → zM → Prop} {X : zM → Prop} (h : zt_X11_may_405 l s0 G ca d C S w0  v1 v2 v3 v5 v7 k0 M Q X) : zg_X11_may_405 l s0 G ca d C S w0  v1 v2 v3 v5 v7 k0 M Q X := by
  unfold zt_X11_may_405 at h
  refine z_istore (i := 6) (lv' := [(6, zv s0 0 k0), (0, zv s0 2 84), (1, zv s0 2 v1), (2, zv s0 0 v2), (3, zv s0 2 v3), (5, zv s0 0 v5), (7, zv s0 0 v7)]) dX11_may_405 (by decide) (by simp [zv_cat0, zv_cat1, zv_cat2, zv_cats]) ?_
  refine z_aload_n dX11_may_407 rfl (j := 4) rfl ?_
  obtain ⟨hk0, h⟩ := h
  refine z_getcN Γ kfN_RX11_163 dX11_may_408 hk0.1 hk0.2.1 rfl ?_
  refine z_iload dX11_may_411 (j := 6) rfl ?_
  obtain ⟨hi413, h⟩ := h
  refine z_iald Γ dX11_may_413 (by have := hk0.1; omega) hk0.2.2.2.2.2.2.2.2.2.2.2.2.2.2.2.2.2.2.2.1 (by decide) hi413 (v9 := M (v3 + 18) v7) rfl ?_
  refine z_istore (i := 7) (lv' := [(7, zv s0 0 (M (v3 + 18) v7)), (6, zv s0 0 k0), (0, zv s0 2 84), (1, zv s0 2 v1), (2, zv s0 0 v2), (3, zv s0 2 v3), (5, zv s0 0 v5)]) dX11_may_414 (by decide) (by simp [zv_cat0, zv_cat1, zv_cat2, zv_cats]) ?_
  refine rt_goto (tgt := 335) dX11_may_416 (by decide) ?_
  exact rt_lfew [2, 3, 4, 5, 6, 1, 0] rfl h

def zt_X11_may_404 (l : Launch) (s0 : State) (G : va_G) (ca : Nat → ClassId) (d : Nat) (C : Nat × Nat) (S : zS) (w0 : rt_Wd)  (v1 : Int) (v2 : Int) (v3 : Int) (v5 : Int) (v7 : Int)  (M : zM) (Q : Int → zM → Prop) (X : zM → Prop) : Prop :=
  zt_X11_may_405 l s0 G ca d C S w0  v1 v2 v3 v5 v7 0 M Q X
set_option maxRecDepth 100000 in
theorem zs_X11_may_404 {l : Launch} {s0 : State} {a0 : Array Value} {G : va_G} {ca : Nat → ClassId} (Γ : rt_Γ l s0 a0 G ca) {d : Nat} {C : Nat × Nat} {S : zS} (hd : 1 ≤ d) (hok : zok C)  (hs : zSok S) {w0 : rt_Wd} {v1 : Int} {v2 : Int} {v3 : Int} {v5 : Int} {v7 : Int}   {M : zM} {Q : Int → zM → Prop} {X : zM → Prop} (h : zt_X11_may_404 l s0 G ca d C S w0  v1 v2 v3 v5 v7 M Q X) : zg_X11_may_404 l s0 G ca d C S w0  v1 v2 v3 v5 v7 M Q X := by
  unfold zt_X11_may_404 at h
  refine z_iconst dX11_may_404 ?_
  exact rt_lfew [0, 1, 2, 3, 4, 5] rfl (zs_X11_may_405 Γ hd hok hs  h)

def zt_X11_may_400 (l : Launch) (s0 : State) (G : va_G) (ca : Nat → ClassId) (d : Nat) (C : Nat × Nat) (S : zS) (w0 : rt_Wd)  (v1 : Int) (v2 : Int) (v3 : Int) (v5 : Int) (v7 : Int)  (M : zM) (Q : Int → zM → Prop) (X : zM → Prop) : Prop :=
  zt_X11_may_405 l s0 G ca d C S w0  v1 v2 v3 v5 v7 1 M Q X
set_option maxRecDepth 100000 in
theorem zs_X11_may_400 {l : Launch} {s0 : State} {a0 : Array Value} {G : va_G} {ca : Nat → ClassId} (Γ : rt_Γ l s0 a0 G ca) {d : Nat} {C : Nat × Nat} {S : zS} (hd : 1 ≤ d) (hok : zok C)  (hs : zSok S) {w0 : rt_Wd} {v1 : Int} {v2 : Int} {v3 : Int} {v5 : Int} {v7 : Int}   {M : zM} {Q : Int → zM → Prop} {X : zM → Prop} (h : zt_X11_may_400 l s0 G ca d C S w0  v1 v2 v3 v5 v7 M Q X) : zg_X11_may_400 l s0 G ca d C S w0  v1 v2 v3 v5 v7 M Q X := by
  unfold zt_X11_may_400 at h
  refine z_iconst dX11_may_400 ?_
  refine rt_goto (tgt := 405) dX11_may_401 (by decide) ?_
  exact rt_lfew [0, 1, 2, 3, 4, 5] rfl (zs_X11_may_405 Γ hd hok hs  h)

def zt_X11_may_380 (l : Launch) (s0 : State) (G : va_G) (ca : Nat → ClassId) (d : Nat) (C : Nat × Nat) (S : zS) (w0 : rt_Wd)  (v1 : Int) (v2 : Int) (v3 : Int) (v5 : Int) (v6 : Int) (v7 : Int) (v8 : Int)  (M : zM) (Q : Int → zM → Prop) (X : zM → Prop) : Prop :=
  zIf (w32 v6 = 0) (zt_X11_may_404 l s0 G ca d C S w0  v1 v2 v3 v5 v7 M Q X) (zIf (0 ≤ w32 v8) (zt_X11_may_400 l s0 G ca d C S w0  v1 v2 v3 v5 v7 M Q X) (zTx S v3 ∧ ((0 ≤ v7 ∧ v7 < 2200) ∧ (zIf (w32 (M (v3 + 17) v7) < 0) (zt_X11_may_404 l s0 G ca d C S w0  v1 v2 v3 v5 v7 M Q X) (zt_X11_may_400 l s0 G ca d C S w0  v1 v2 v3 v5 v7 M Q X)))))
set_option maxRecDepth 100000 in
theorem zs_X11_may_380 {l : Launch} {s0 : State} {a0 : Array Value} {G : va_G} {ca : Nat → ClassId} (Γ : rt_Γ l s0 a0 G ca) {d : Nat} {C : Nat × Nat} {S : zS} (hd : 1 ≤ d) (hok : zok C)  (hs : zSok S) {w0 : rt_Wd} {v1 : Int} {v2 : Int} {v3 : Int} {v5 : Int} {v6 : Int} {v7 : Int} {v8 : Int}   {M : zM} {Q : Int → zM → Prop} {X : zM → Prop} (h : zt_X11_may_380 l s0 G ca d C S w0  v1 v2 v3 v5 v6 v7 v8 M Q X) : zg_X11_may_380 l s0 G ca d C S w0  v1 v2 v3 v5 v6 v7 v8 M Q X := by
  unfold zt_X11_may_380 at h
  refine z_iload dX11_may_380 (j := 5) rfl ?_
  refine z_if_eq (tgt := 404) (x' := w32 v6) rfl dX11_may_382 (by decide) (fun c382 => ?_) (fun c382 => ?_)
  · replace h := h.1 c382
    exact rt_lfew [0, 1, 2, 3, 4, 6] rfl (zs_X11_may_404 Γ hd hok hs  h)
  · replace h := h.2 c382
    refine z_iload dX11_may_385 (j := 7) rfl ?_
    refine z_if_ge (tgt := 400) (x' := w32 v8) rfl dX11_may_387 (by decide) (fun c387 => ?_) (fun c387 => ?_)
    · replace h := h.1 c387
      exact rt_lfew [0, 1, 2, 3, 4, 6] rfl (zs_X11_may_400 Γ hd hok hs  h)
    · replace h := h.2 c387
      refine z_aload_n dX11_may_390 rfl (j := 3) rfl ?_
      obtain ⟨hk0, h⟩ := h
      refine z_getcN Γ kfN_RX11_244 dX11_may_391 hk0.1 hk0.2.1 rfl ?_
      refine z_iload dX11_may_394 (j := 6) rfl ?_
      obtain ⟨hi396, h⟩ := h
      refine z_iald Γ dX11_may_396 (by have := hk0.1; omega) hk0.2.2.2.2.2.2.2.2.2.2.2.2.2.2.2.2.2.2.1 (by decide) hi396 (v9 := M (v3 + 17) v7) rfl ?_
      refine z_if_lt (tgt := 404) (x' := w32 (M (v3 + 17) v7)) rfl dX11_may_397 (by decide) (fun c397 => ?_) (fun c397 => ?_)
      · replace h := h.1 c397
        exact rt_lfew [0, 1, 2, 3, 4, 6] rfl (zs_X11_may_404 Γ hd hok hs  h)
      · replace h := h.2 c397
        exact rt_lfew [0, 1, 2, 3, 4, 6] rfl (zs_X11_may_400 Γ hd hok hs  h)

def zt_X11_may_335 (l : Launch) (s0 : State) (G : va_G) (ca : Nat → ClassId) (d : Nat) (C : Nat × Nat) (S : zS) (w0 : rt_Wd)  (v1 : Int) (v2 : Int) (v3 : Int) (v5 : Int) (v6 : Int) (v7 : Int)  (M : zM) (Q : Int → zM → Prop) (X : zM → Prop) : Prop :=
  zIf (w32 v7 < 0) ((v6 = 0 ∨ v6 = 1) ∧ Q v6 M) (zIf (w32 v5 = 11) (zm_X11_fieldLike l s0 G ca (d - 1) C S v1 v2 v3 v7 M (fun r352 M352 => zIf (w32 r352 < 0) (zt_X11_may_380 l s0 G ca d C S w0  v1 v2 v3 v5 v6 v7 r352 M352 Q X) (zTx S v1 ∧ ((0 ≤ r352 ∧ r352 < 2200) ∧ (zTx S v3 ∧ ((0 ≤ v7 ∧ v7 < 2200) ∧ (zm_X11_ask l s0 G ca (d - 1) C S (M352 (v1 + 15) r352) (M352 (v3 + 15) v7) M352 (fun r377 M377 => zt_X11_may_380 l s0 G ca d C S w0  v1 v2 v3 v5 v6 v7 r352 M377 Q X) X)))))) X) ((v6 = 0 ∨ v6 = 1) ∧ Q v6 M))
set_option maxRecDepth 100000 in
theorem zs_X11_may_335 {l : Launch} {s0 : State} {a0 : Array Value} {G : va_G} {ca : Nat → ClassId} (Γ : rt_Γ l s0 a0 G ca) {d : Nat} {C : Nat × Nat} {S : zS} (hd : 1 ≤ d) (hok : zok C)  (hs : zSok S) {w0 : rt_Wd} {v1 : Int} {v2 : Int} {v3 : Int} {v5 : Int} {v6 : Int} {v7 : Int}   {M : zM} {Q : Int → zM → Prop} {X : zM → Prop} (h : zt_X11_may_335 l s0 G ca d C S w0  v1 v2 v3 v5 v6 v7 M Q X) : zg_X11_may_335 l s0 G ca d C S w0  v1 v2 v3 v5 v6 v7 M Q X := by
  unfold zt_X11_may_335 at h
  refine z_iload dX11_may_335 (j := 6) rfl ?_
  refine z_if_lt (tgt := 419) (x' := w32 v7) rfl dX11_may_337 (by decide) (fun c337 => ?_) (fun c337 => ?_)
  · replace h := h.1 c337
    refine z_iload dX11_may_419 (j := 5) rfl ?_
    obtain ⟨hi9, h⟩ := h
    exact z_zret dX11_may_421 rfl hi9 h
  · replace h := h.2 c337
    refine z_iload dX11_may_340 (j := 4) rfl ?_
    refine z_bipush dX11_may_342 (by decide) ?_
    refine z_icmp_ne (tgt := 419) (x' := w32 v5) (y' := 11) rfl (by decide) dX11_may_344 (by decide) (fun c344 => ?_) (fun c344 => ?_)
    · replace h := h.2 c344
      refine z_iload dX11_may_419 (j := 5) rfl ?_
      obtain ⟨hi9, h⟩ := h
      exact z_zret dX11_may_421 rfl hi9 h
    · replace h := h.1 c344
      refine z_aload_n dX11_may_347 rfl (j := 1) rfl ?_
      refine z_iload_n dX11_may_348 rfl (j := 2) rfl ?_
      refine z_aload_n dX11_may_349 rfl (j := 3) rfl ?_
      refine z_iload dX11_may_350 (j := 6) rfl ?_
      refine z_callS Γ kk_X11_fieldLike kc_RX11_241 (As := [zv s0 2 v1, zv s0 0 v2, zv s0 2 v3, zv s0 0 v7]) h (by omega) (by decide) (show (parseMethodDescriptor yX11_fieldLike.desc).map (fun q => q.parameters.length) = some 4 by decide +kernel) hok (Nat.zero_le _) dX11_may_352 rfl (fun _ h9 => nomatch h9) ?_
      clear h
      intro r352 M352 h
      show rt_Go _ _ _ _ _ _ _ _ _ _ _ _ 355 [(0, zv s0 2 84), (1, zv s0 2 v1), (2, zv s0 0 v2), (3, zv s0 2 v3), (5, zv s0 0 v5), (6, zv s0 0 v6), (7, zv s0 0 v7)] [zv s0 0 r352] (zw s0 ca C S M352)
      refine z_istore (i := 8) (lv' := [(8, zv s0 0 r352), (0, zv s0 2 84), (1, zv s0 2 v1), (2, zv s0 0 v2), (3, zv s0 2 v3), (5, zv s0 0 v5), (6, zv s0 0 v6), (7, zv s0 0 v7)]) dX11_may_355 (by decide) (by simp [zv_cat0, zv_cat1, zv_cat2, zv_cats]) ?_
      refine z_iload dX11_may_357 (j := 0) rfl ?_
      refine z_if_lt (tgt := 380) (x' := w32 r352) rfl dX11_may_359 (by decide) (fun c359 => ?_) (fun c359 => ?_)
      · replace h := h.1 c359
        exact rt_lfew [1, 2, 3, 4, 5, 6, 7, 0] rfl (zs_X11_may_380 Γ hd hok hs  h)
      · replace h := h.2 c359
        refine z_aload_n dX11_may_362 rfl (j := 1) rfl ?_
        refine z_aload_n dX11_may_363 rfl (j := 2) rfl ?_
        obtain ⟨hk0, h⟩ := h
        refine z_getcN Γ kfN_RX11_149 dX11_may_364 hk0.1 hk0.2.1 rfl ?_
        refine z_iload dX11_may_367 (j := 0) rfl ?_
        obtain ⟨hi369, h⟩ := h
        refine z_iald Γ dX11_may_369 (by have := hk0.1; omega) hk0.2.2.2.2.2.2.2.2.2.2.2.2.2.2.2.2.1 (by decide) hi369 (v9 := M352 (v1 + 15) r352) rfl ?_
        refine z_aload_n dX11_may_370 rfl (j := 4) rfl ?_
        obtain ⟨hk1, h⟩ := h
        refine z_getcN Γ kfN_RX11_149 dX11_may_371 hk1.1 hk1.2.1 rfl ?_
        refine z_iload dX11_may_374 (j := 7) rfl ?_
        obtain ⟨hi376, h⟩ := h
        refine z_iald Γ dX11_may_376 (by have := hk1.1; omega) hk1.2.2.2.2.2.2.2.2.2.2.2.2.2.2.2.2.1 (by decide) hi376 (v9 := M352 (v3 + 15) v7) rfl ?_
        refine z_callV Γ kk_X11_ask kc_RX11_221 (As := [zv s0 0 (M352 (v1 + 15) r352), zv s0 0 (M352 (v3 + 15) v7)]) h (by omega) (by decide) (show (parseMethodDescriptor yX11_ask.desc).map (fun q => q.parameters.length) = some 2 by decide +kernel) hok (Nat.zero_le _) dX11_may_377 (by decide) (hs 84 _ rfl) rfl rfl (fun _ h9 => nomatch h9) ?_
        clear h
        intro r377 M377 h
        show rt_Go _ _ _ _ _ _ _ _ _ _ _ _ 380 [(8, zv s0 0 r352), (0, zv s0 2 84), (1, zv s0 2 v1), (2, zv s0 0 v2), (3, zv s0 2 v3), (5, zv s0 0 v5), (6, zv s0 0 v6), (7, zv s0 0 v7)] [] (zw s0 ca C S M377)
        exact rt_lfew [1, 2, 3, 4, 5, 6, 7, 0] rfl (zs_X11_may_380 Γ hd hok hs  h)

def zt_X11_may (l : Launch) (s0 : State) (G : va_G) (ca : Nat → ClassId) (d : Nat) (C : Nat × Nat) (S : zS) (w0 : rt_Wd)  (a : Int) (w : Int) (b : Int) (r : Int) (M : zM) (Q : Int → zM → Prop) (X : zM → Prop) : Prop :=
  zTx S a ∧ ((0 ≤ w ∧ w < 140) ∧ (zIf (w32 (M (a + 9) w) = 8) (zg_X11_may_23 l s0 G ca d C S w0  a r (M (a + 12) w) M Q X) (zTx S b ∧ ((0 ≤ r ∧ r < 140) ∧ (zIf (w32 (M (b + 9) r) = 8) (zm_X11_branchFor l s0 G ca (d - 1) C S a w b r M (fun r72 M72 => zIf (w32 r72 < 0) (zIf (w32 r72 < 0) (Q 0 M72) (Q 1 M72)) ((0 ≤ r72 ∧ r72 < 2200) ∧ (zm_X11_ask l s0 G ca (d - 1) C S w (M72 (b + 15) r72) M72 (fun r91 M91 => zIf (w32 r72 < 0) (Q 0 M91) (Q 1 M91)) X))) X) (zm_X11_sixOf l s0 G ca (d - 1) C S (M (a + 9) w) M (fun r107 M107 => zIf (w32 r107 = 0) (zm_X11_sixOf l s0 G ca (d - 1) C S (M107 (b + 9) r) M107 (fun r120 M120 => zIf (w32 r120 = 0) (zIf (w32 (M (a + 9) w) = w32 (M120 (b + 9) r)) (zIf (w32 (M (a + 9) w) = 6) (zt_X11_may_196 l s0 G ca d C S w0  a w b r M120 Q X) (zIf (w32 (M (a + 9) w) = 7) (zt_X11_may_196 l s0 G ca d C S w0  a w b r M120 Q X) (zm_X11_matches l s0 G ca (d - 1) C S a w b r M120 (fun r230 M230 => zIf (w32 r230 = 0) (Q 0 M230) (zIf (w32 (M (a + 9) w) = 10) (zg_X11_may_256 l s0 G ca d C S w0  a b r 1 (M230 (a + 12) w) M230 Q X) (zg_X11_may_335 l s0 G ca d C S w0  a w b (M (a + 9) w) 1 (M230 (b + 12) r) M230 Q X))) X))) (Q 0 M120)) (zt_X11_may_126 l s0 G ca d C S w0  b r (M (a + 9) w) M120 Q X)) X) (zt_X11_may_126 l s0 G ca d C S w0  b r (M (a + 9) w) M107 Q X)) X))))))
set_option maxRecDepth 100000 in
theorem z_X11_may {l : Launch} {s0 : State} {a0 : Array Value} {G : va_G} {ca : Nat → ClassId} (Γ : rt_Γ l s0 a0 G ca) {d : Nat} {C : Nat × Nat} {S : zS} (hd : 1 ≤ d) (hok : zok C)  (hs : zSok S) {a : Int} {w : Int} {b : Int} {r : Int} {M : zM} {Q : Int → zM → Prop} {X : zM → Prop} (h : zt_X11_may l s0 G ca d C S (zw s0 ca C S M)  a w b r M Q X) : zm_X11_may l s0 G ca d C S  a w b r M Q X := by
  refine z_met (lv := [(0, zv s0 2 84), (1, zv s0 2 a), (2, zv s0 0 w), (3, zv s0 2 b), (4, zv s0 0 r)]) Γ kk_X11_may rfl (show (lg_sl [zv s0 2 84, zv s0 2 a, zv s0 0 w, zv s0 2 b, zv s0 0 r]).length ≤ 9 from by simp only [zn_0, zn_2, show (lg_sl []).length = 0 from rfl]; omega) (show lv_args 0 [zv s0 2 84, zv s0 2 a, zv s0 0 w, zv s0 2 b, zv s0 0 r] = [(0, zv s0 2 84), (1, zv s0 2 a), (2, zv s0 0 w), (3, zv s0 2 b), (4, zv s0 0 r)] from by rw [zl_2, zl_2, zl_0, zl_2, zl_0]; rfl) ?_
  unfold zt_X11_may at h
  refine z_aload_n dX11_may_0 rfl (j := 1) rfl ?_
  obtain ⟨hk0, h⟩ := h
  refine z_getcN Γ kfN_RX11_132 dX11_may_1 hk0.1 hk0.2.1 rfl ?_
  refine z_iload_n dX11_may_4 rfl (j := 2) rfl ?_
  obtain ⟨hi5, h⟩ := h
  refine z_iald Γ dX11_may_5 (by have := hk0.1; omega) hk0.2.2.2.2.2.2.2.2.2.2.1 (by decide) hi5 (v9 := M (a + 9) w) rfl ?_
  refine z_istore (i := 5) (lv' := [(5, zv s0 0 (M (a + 9) w)), (0, zv s0 2 84), (1, zv s0 2 a), (2, zv s0 0 w), (3, zv s0 2 b), (4, zv s0 0 r)]) dX11_may_6 (by decide) (by simp [zv_cat0, zv_cat1, zv_cat2, zv_cats]) ?_
  refine z_iload dX11_may_8 (j := 0) rfl ?_
  refine z_bipush dX11_may_10 (by decide) ?_
  refine z_icmp_ne (tgt := 55) (x' := w32 (M (a + 9) w)) (y' := 8) rfl (by decide) dX11_may_12 (by decide) (fun c12 => ?_) (fun c12 => ?_)
  · replace h := h.2 c12
    refine z_aload_n dX11_may_55 rfl (j := 4) rfl ?_
    obtain ⟨hk1, h⟩ := h
    refine z_getcN Γ kfN_RX11_132 dX11_may_56 hk1.1 hk1.2.1 rfl ?_
    refine z_iload dX11_may_59 (j := 5) rfl ?_
    obtain ⟨hi61, h⟩ := h
    refine z_iald Γ dX11_may_61 (by have := hk1.1; omega) hk1.2.2.2.2.2.2.2.2.2.2.1 (by decide) hi61 (v9 := M (b + 9) r) rfl ?_
    refine z_bipush dX11_may_62 (by decide) ?_
    refine z_icmp_ne (tgt := 105) (x' := w32 (M (b + 9) r)) (y' := 8) rfl (by decide) dX11_may_64 (by decide) (fun c64 => ?_) (fun c64 => ?_)
    · replace h := h.2 c64
      refine z_iload dX11_may_105 (j := 0) rfl ?_
      refine z_callS Γ kk_X11_sixOf kc_RX11_201 (As := [zv s0 0 (M (a + 9) w)]) h (by omega) (by decide) (show (parseMethodDescriptor yX11_sixOf.desc).map (fun q => q.parameters.length) = some 1 by decide +kernel) hok (Nat.zero_le _) dX11_may_107 rfl (fun _ h9 => nomatch h9) ?_
      clear h
      intro r107 M107 h
      show rt_Go _ _ _ _ _ _ _ _ _ _ _ _ 110 [(5, zv s0 0 (M (a + 9) w)), (0, zv s0 2 84), (1, zv s0 2 a), (2, zv s0 0 w), (3, zv s0 2 b), (4, zv s0 0 r)] [zv s0 0 r107] (zw s0 ca C S M107)
      refine z_if_ne (tgt := 126) (x' := w32 r107) rfl dX11_may_110 (by decide) (fun c110 => ?_) (fun c110 => ?_)
      · replace h := h.2 c110
        exact rt_lfew [4, 5, 0] rfl (zs_X11_may_126 Γ hd hok hs  h)
      · replace h := h.1 c110
        refine z_aload_n dX11_may_113 rfl (j := 4) rfl ?_
        refine z_getcN Γ kfN_RX11_132 dX11_may_114 hk1.1 hk1.2.1 rfl ?_
        refine z_iload dX11_may_117 (j := 5) rfl ?_
        refine z_iald Γ dX11_may_119 (by have := hk1.1; omega) hk1.2.2.2.2.2.2.2.2.2.2.1 (by decide) hi61 (v9 := M107 (b + 9) r) rfl ?_
        refine z_callS Γ kk_X11_sixOf kc_RX11_201 (As := [zv s0 0 (M107 (b + 9) r)]) h (by omega) (by decide) (show (parseMethodDescriptor yX11_sixOf.desc).map (fun q => q.parameters.length) = some 1 by decide +kernel) hok (Nat.zero_le _) dX11_may_120 rfl (fun _ h9 => nomatch h9) ?_
        clear h
        intro r120 M120 h
        show rt_Go _ _ _ _ _ _ _ _ _ _ _ _ 123 [(5, zv s0 0 (M (a + 9) w)), (0, zv s0 2 84), (1, zv s0 2 a), (2, zv s0 0 w), (3, zv s0 2 b), (4, zv s0 0 r)] [zv s0 0 r120] (zw s0 ca C S M120)
        refine z_if_eq (tgt := 168) (x' := w32 r120) rfl dX11_may_123 (by decide) (fun c123 => ?_) (fun c123 => ?_)
        · replace h := h.1 c123
          refine z_iload dX11_may_168 (j := 0) rfl ?_
          refine z_aload_n dX11_may_170 rfl (j := 4) rfl ?_
          refine z_getcN Γ kfN_RX11_132 dX11_may_171 hk1.1 hk1.2.1 rfl ?_
          refine z_iload dX11_may_174 (j := 5) rfl ?_
          refine z_iald Γ dX11_may_176 (by have := hk1.1; omega) hk1.2.2.2.2.2.2.2.2.2.2.1 (by decide) hi61 (v9 := M120 (b + 9) r) rfl ?_
          refine z_icmp_eq (tgt := 182) (x' := w32 (M (a + 9) w)) (y' := w32 (M120 (b + 9) r)) rfl rfl dX11_may_177 (by decide) (fun c177 => ?_) (fun c177 => ?_)
          · replace h := h.1 c177
            refine z_iload dX11_may_182 (j := 0) rfl ?_
            refine z_bipush dX11_may_184 (by decide) ?_
            refine z_icmp_eq (tgt := 196) (x' := w32 (M (a + 9) w)) (y' := 6) rfl (by decide) dX11_may_186 (by decide) (fun c186 => ?_) (fun c186 => ?_)
            · replace h := h.1 c186
              exact rt_lfew [1, 2, 3, 4, 5] rfl (zs_X11_may_196 Γ hd hok hs  h)
            · replace h := h.2 c186
              refine z_iload dX11_may_189 (j := 0) rfl ?_
              refine z_bipush dX11_may_191 (by decide) ?_
              refine z_icmp_ne (tgt := 225) (x' := w32 (M (a + 9) w)) (y' := 7) rfl (by decide) dX11_may_193 (by decide) (fun c193 => ?_) (fun c193 => ?_)
              · replace h := h.2 c193
                refine z_aload_n dX11_may_225 rfl (j := 2) rfl ?_
                refine z_iload_n dX11_may_226 rfl (j := 3) rfl ?_
                refine z_aload_n dX11_may_227 rfl (j := 4) rfl ?_
                refine z_iload dX11_may_228 (j := 5) rfl ?_
                refine z_callS Γ kk_X11_matches kc_RX11_208 (As := [zv s0 2 a, zv s0 0 w, zv s0 2 b, zv s0 0 r]) h (by omega) (by decide) (show (parseMethodDescriptor yX11_matches.desc).map (fun q => q.parameters.length) = some 4 by decide +kernel) hok (Nat.zero_le _) dX11_may_230 rfl (fun _ h9 => nomatch h9) ?_
                clear h
                intro r230 M230 h
                show rt_Go _ _ _ _ _ _ _ _ _ _ _ _ 233 [(5, zv s0 0 (M (a + 9) w)), (0, zv s0 2 84), (1, zv s0 2 a), (2, zv s0 0 w), (3, zv s0 2 b), (4, zv s0 0 r)] [zv s0 0 r230] (zw s0 ca C S M230)
                refine z_if_ne (tgt := 238) (x' := w32 r230) rfl dX11_may_233 (by decide) (fun c233 => ?_) (fun c233 => ?_)
                · replace h := h.2 c233
                  refine z_iload dX11_may_238 (j := 0) rfl ?_
                  refine z_bipush dX11_may_240 (by decide) ?_
                  refine z_icmp_ne (tgt := 323) (x' := w32 (M (a + 9) w)) (y' := 10) rfl (by decide) dX11_may_242 (by decide) (fun c242 => ?_) (fun c242 => ?_)
                  · replace h := h.2 c242
                    refine z_iconst dX11_may_323 ?_
                    refine z_istore (i := 6) (lv' := [(6, zv s0 0 1), (5, zv s0 0 (M (a + 9) w)), (0, zv s0 2 84), (1, zv s0 2 a), (2, zv s0 0 w), (3, zv s0 2 b), (4, zv s0 0 r)]) dX11_may_324 (by decide) (by simp [zv_cat0, zv_cat1, zv_cat2, zv_cats]) ?_
                    refine z_aload_n dX11_may_326 rfl (j := 5) rfl ?_
                    refine z_getcN Γ kfN_RX11_160 dX11_may_327 hk1.1 hk1.2.1 rfl ?_
                    refine z_iload dX11_may_330 (j := 6) rfl ?_
                    refine z_iald Γ dX11_may_332 (by have := hk1.1; omega) hk1.2.2.2.2.2.2.2.2.2.2.2.2.2.1 (by decide) hi61 (v9 := M230 (b + 12) r) rfl ?_
                    refine z_istore (i := 7) (lv' := [(7, zv s0 0 (M230 (b + 12) r)), (6, zv s0 0 1), (5, zv s0 0 (M (a + 9) w)), (0, zv s0 2 84), (1, zv s0 2 a), (2, zv s0 0 w), (3, zv s0 2 b), (4, zv s0 0 r)]) dX11_may_333 (by decide) (by simp [zv_cat0, zv_cat1, zv_cat2, zv_cats]) ?_
                    exact rt_lfew [3, 4, 5, 6, 2, 1, 0] rfl h
                  · replace h := h.1 c242
                    refine z_iconst dX11_may_245 ?_
                    refine z_istore (i := 6) (lv' := [(6, zv s0 0 1), (5, zv s0 0 (M (a + 9) w)), (0, zv s0 2 84), (1, zv s0 2 a), (2, zv s0 0 w), (3, zv s0 2 b), (4, zv s0 0 r)]) dX11_may_246 (by decide) (by simp [zv_cat0, zv_cat1, zv_cat2, zv_cats]) ?_
                    refine z_aload_n dX11_may_248 rfl (j := 3) rfl ?_
                    refine z_getcN Γ kfN_RX11_160 dX11_may_249 hk0.1 hk0.2.1 rfl ?_
                    refine z_iload_n dX11_may_252 rfl (j := 4) rfl ?_
                    refine z_iald Γ dX11_may_253 (by have := hk0.1; omega) hk0.2.2.2.2.2.2.2.2.2.2.2.2.2.1 (by decide) hi5 (v9 := M230 (a + 12) w) rfl ?_
                    refine z_istore (i := 7) (lv' := [(7, zv s0 0 (M230 (a + 12) w)), (6, zv s0 0 1), (5, zv s0 0 (M (a + 9) w)), (0, zv s0 2 84), (1, zv s0 2 a), (2, zv s0 0 w), (3, zv s0 2 b), (4, zv s0 0 r)]) dX11_may_254 (by decide) (by simp [zv_cat0, zv_cat1, zv_cat2, zv_cats]) ?_
                    exact rt_lfew [4, 6, 7, 1, 0] rfl h
                · replace h := h.1 c233
                  refine z_iconst dX11_may_236 ?_
                  exact z_zret dX11_may_237 rfl (by decide) h
              · replace h := h.1 c193
                exact rt_lfew [1, 2, 3, 4, 5] rfl (zs_X11_may_196 Γ hd hok hs  h)
          · replace h := h.2 c177
            refine z_iconst dX11_may_180 ?_
            exact z_zret dX11_may_181 rfl (by decide) h
        · replace h := h.2 c123
          exact rt_lfew [4, 5, 0] rfl (zs_X11_may_126 Γ hd hok hs  h)
    · replace h := h.1 c64
      refine z_aload_n dX11_may_67 rfl (j := 2) rfl ?_
      refine z_iload_n dX11_may_68 rfl (j := 3) rfl ?_
      refine z_aload_n dX11_may_69 rfl (j := 4) rfl ?_
      refine z_iload dX11_may_70 (j := 5) rfl ?_
      refine z_callS Γ kk_X11_branchFor kc_RX11_227 (As := [zv s0 2 a, zv s0 0 w, zv s0 2 b, zv s0 0 r]) h (by omega) (by decide) (show (parseMethodDescriptor yX11_branchFor.desc).map (fun q => q.parameters.length) = some 4 by decide +kernel) hok (Nat.zero_le _) dX11_may_72 rfl (fun _ h9 => nomatch h9) ?_
      clear h
      intro r72 M72 h
      show rt_Go _ _ _ _ _ _ _ _ _ _ _ _ 75 [(5, zv s0 0 (M (a + 9) w)), (0, zv s0 2 84), (1, zv s0 2 a), (2, zv s0 0 w), (3, zv s0 2 b), (4, zv s0 0 r)] [zv s0 0 r72] (zw s0 ca C S M72)
      refine z_istore (i := 6) (lv' := [(6, zv s0 0 r72), (5, zv s0 0 (M (a + 9) w)), (0, zv s0 2 84), (1, zv s0 2 a), (2, zv s0 0 w), (3, zv s0 2 b), (4, zv s0 0 r)]) dX11_may_75 (by decide) (by simp [zv_cat0, zv_cat1, zv_cat2, zv_cats]) ?_
      refine z_iload dX11_may_77 (j := 0) rfl ?_
      refine z_if_lt (tgt := 94) (x' := w32 r72) rfl dX11_may_79 (by decide) (fun c79 => ?_) (fun c79 => ?_)
      · replace h := h.1 c79
        refine z_iload dX11_may_94 (j := 0) rfl ?_
        refine z_if_lt (tgt := 103) (x' := w32 r72) rfl dX11_may_96 (by decide) (fun c96 => ?_) (fun c96 => ?_)
        · replace h := h.1 c96
          refine z_iconst dX11_may_103 ?_
          exact z_zret dX11_may_104 rfl (by decide) h
        · replace h := h.2 c96
          refine z_iconst dX11_may_99 ?_
          refine rt_goto (tgt := 104) dX11_may_100 (by decide) ?_
          exact z_zret dX11_may_104 rfl (by decide) h
      · replace h := h.2 c79
        refine z_aload_n dX11_may_82 rfl (j := 2) rfl ?_
        refine z_iload_n dX11_may_83 rfl (j := 4) rfl ?_
        refine z_aload_n dX11_may_84 rfl (j := 5) rfl ?_
        refine z_getcN Γ kfN_RX11_149 dX11_may_85 hk1.1 hk1.2.1 rfl ?_
        refine z_iload dX11_may_88 (j := 0) rfl ?_
        obtain ⟨hi90, h⟩ := h
        refine z_iald Γ dX11_may_90 (by have := hk1.1; omega) hk1.2.2.2.2.2.2.2.2.2.2.2.2.2.2.2.2.1 (by decide) hi90 (v9 := M72 (b + 15) r72) rfl ?_
        refine z_callV Γ kk_X11_ask kc_RX11_221 (As := [zv s0 0 w, zv s0 0 (M72 (b + 15) r72)]) h (by omega) (by decide) (show (parseMethodDescriptor yX11_ask.desc).map (fun q => q.parameters.length) = some 2 by decide +kernel) hok (Nat.zero_le _) dX11_may_91 (by decide) (hs 84 _ rfl) rfl rfl (fun _ h9 => nomatch h9) ?_
        clear h
        intro r91 M91 h
        show rt_Go _ _ _ _ _ _ _ _ _ _ _ _ 94 [(6, zv s0 0 r72), (5, zv s0 0 (M (a + 9) w)), (0, zv s0 2 84), (1, zv s0 2 a), (2, zv s0 0 w), (3, zv s0 2 b), (4, zv s0 0 r)] [] (zw s0 ca C S M91)
        refine z_iload dX11_may_94 (j := 0) rfl ?_
        refine z_if_lt (tgt := 103) (x' := w32 r72) rfl dX11_may_96 (by decide) (fun c96 => ?_) (fun c96 => ?_)
        · replace h := h.1 c96
          refine z_iconst dX11_may_103 ?_
          exact z_zret dX11_may_104 rfl (by decide) h
        · replace h := h.2 c96
          refine z_iconst dX11_may_99 ?_
          refine rt_goto (tgt := 104) dX11_may_100 (by decide) ?_
          exact z_zret dX11_may_104 rfl (by decide) h
  · replace h := h.1 c12
    refine z_aload_n dX11_may_15 rfl (j := 2) rfl ?_
    refine z_getcN Γ kfN_RX11_160 dX11_may_16 hk0.1 hk0.2.1 rfl ?_
    refine z_iload_n dX11_may_19 rfl (j := 3) rfl ?_
    refine z_iald Γ dX11_may_20 (by have := hk0.1; omega) hk0.2.2.2.2.2.2.2.2.2.2.2.2.2.1 (by decide) hi5 (v9 := M (a + 12) w) rfl ?_
    refine z_istore (i := 6) (lv' := [(6, zv s0 0 (M (a + 12) w)), (5, zv s0 0 (M (a + 9) w)), (0, zv s0 2 84), (1, zv s0 2 a), (2, zv s0 0 w), (3, zv s0 2 b), (4, zv s0 0 r)]) dX11_may_21 (by decide) (by simp [zv_cat0, zv_cat1, zv_cat2, zv_cats]) ?_
    exact rt_lfew [2, 3, 6, 0] rfl h

abbrev zg_X11_fitsAll_2 (l : Launch) (s0 : State) (G : va_G) (ca : Nat → ClassId) (d : Nat) (C : Nat × Nat) (S : zS) (w0 : rt_Wd)  (v1 : Int) (v2 : Int) (v3 : Int)  (M : zM) (Q : Int → zM → Prop) (X : zM → Prop) : Prop := rt_Go l s0 G RX11 "fitsAll" cX11_fitsAll 5 (Option.some FieldType.boolean) [] d w0 (zQ s0 ca 0 C S Q X) 2 [(0, zv s0 2 84), (1, zv s0 2 v1), (2, zv s0 2 v2), (3, zv s0 0 v3)] [] (zw s0 ca C S M)
abbrev zg_X11_fitsAll_44 (l : Launch) (s0 : State) (G : va_G) (ca : Nat → ClassId) (d : Nat) (C : Nat × Nat) (S : zS) (w0 : rt_Wd)  (v1 : Int) (v2 : Int) (v3 : Int) (v4 : Int)  (M : zM) (Q : Int → zM → Prop) (X : zM → Prop) : Prop := rt_Go l s0 G RX11 "fitsAll" cX11_fitsAll 5 (Option.some FieldType.boolean) [] d w0 (zQ s0 ca 0 C S Q X) 44 [(0, zv s0 2 84), (1, zv s0 2 v1), (2, zv s0 2 v2), (3, zv s0 0 v3), (4, zv s0 0 v4)] [] (zw s0 ca C S M)
def zt_X11_fitsAll_2 (l : Launch) (s0 : State) (G : va_G) (ca : Nat → ClassId) (d : Nat) (C : Nat × Nat) (S : zS) (w0 : rt_Wd)  (v1 : Int) (v2 : Int) (v3 : Int)  (M : zM) (Q : Int → zM → Prop) (X : zM → Prop) : Prop :=
  zIf (19600 ≤ w32 v3) (zTx S v1 ∧ (zTx S v2 ∧ (zm_X11_ask l s0 G ca (d - 1) C S (M v1 31) (M v2 31) ((zu M 84 23 0)) (fun r36 M36 => zg_X11_fitsAll_44 l s0 G ca d C S w0  v1 v2 1 0 M36 Q X) X))) ((0 ≤ v3 ∧ v3 < 19600) ∧ (zg_X11_fitsAll_2 l s0 G ca d C S w0  v1 v2 (v3 + 1) ((zu M 135 v3 0)) Q X))
set_option maxRecDepth 100000 in
theorem zs_X11_fitsAll_2 {l : Launch} {s0 : State} {a0 : Array Value} {G : va_G} {ca : Nat → ClassId} (Γ : rt_Γ l s0 a0 G ca) {d : Nat} {C : Nat × Nat} {S : zS} (hd : 1 ≤ d) (hok : zok C)  (hs : zSok S) {w0 : rt_Wd} {v1 : Int} {v2 : Int} {v3 : Int}   {M : zM} {Q : Int → zM → Prop} {X : zM → Prop} (h : zt_X11_fitsAll_2 l s0 G ca d C S w0  v1 v2 v3 M Q X) : zg_X11_fitsAll_2 l s0 G ca d C S w0  v1 v2 v3 M Q X := by
  unfold zt_X11_fitsAll_2 at h
  refine z_iload_n dX11_fitsAll_2 rfl (j := 3) rfl ?_
  refine z_sipush dX11_fitsAll_3 (by decide) ?_
  refine z_icmp_ge (tgt := 22) (x' := w32 v3) (y' := 19600) rfl (by decide) dX11_fitsAll_6 (by decide) (fun c6 => ?_) (fun c6 => ?_)
  · replace h := h.1 c6
    refine z_aload_n dX11_fitsAll_22 rfl (j := 0) rfl ?_
    refine z_iconst dX11_fitsAll_23 ?_
    refine z_put0 Γ kp_RX11_219 dX11_fitsAll_24 (by decide) (hs 84 _ rfl) rfl (k9 := 23) rfl ?_
    refine z_aload_n dX11_fitsAll_27 rfl (j := 0) rfl ?_
    refine z_aload_n dX11_fitsAll_28 rfl (j := 1) rfl ?_
    obtain ⟨hk0, h⟩ := h
    refine z_getN Γ kfN_RX11_188 dX11_fitsAll_29 hk0.1 hk0.2.1 rfl (by decide) (v9 := M v1 31) ((zu_k (by decide)).trans rfl) ?_
    refine z_aload_n dX11_fitsAll_32 rfl (j := 2) rfl ?_
    obtain ⟨hk1, h⟩ := h
    refine z_getN Γ kfN_RX11_188 dX11_fitsAll_33 hk1.1 hk1.2.1 rfl (by decide) (v9 := M v2 31) ((zu_k (by decide)).trans rfl) ?_
    refine z_callV Γ kk_X11_ask kc_RX11_221 (As := [zv s0 0 (M v1 31), zv s0 0 (M v2 31)]) h (by omega) (by decide) (show (parseMethodDescriptor yX11_ask.desc).map (fun q => q.parameters.length) = some 2 by decide +kernel) hok (Nat.zero_le _) dX11_fitsAll_36 (by decide) (hs 84 _ rfl) rfl rfl (fun _ h9 => nomatch h9) ?_
    clear h
    intro r36 M36 h
    show rt_Go _ _ _ _ _ _ _ _ _ _ _ _ 39 [(0, zv s0 2 84), (1, zv s0 2 v1), (2, zv s0 2 v2), (3, zv s0 0 v3)] [] (zw s0 ca C S M36)
    refine z_iconst dX11_fitsAll_39 ?_
    refine z_istore_n (i := 3) (lv' := [(3, zv s0 0 1), (0, zv s0 2 84), (1, zv s0 2 v1), (2, zv s0 2 v2)]) dX11_fitsAll_40 rfl (by decide) (by simp [zv_cat0, zv_cat1, zv_cat2, zv_cats]) ?_
    refine z_iconst dX11_fitsAll_41 ?_
    refine z_istore (i := 4) (lv' := [(4, zv s0 0 0), (3, zv s0 0 1), (0, zv s0 2 84), (1, zv s0 2 v1), (2, zv s0 2 v2)]) dX11_fitsAll_42 (by decide) (by simp [zv_cat0, zv_cat1, zv_cat2, zv_cats]) ?_
    exact rt_lfew [2, 3, 4, 1, 0] rfl h
  · replace h := h.2 c6
    refine z_aload_n dX11_fitsAll_9 rfl (j := 0) rfl ?_
    refine z_getc Γ kf_RX11_47 dX11_fitsAll_10 (by decide) (hs 84 _ rfl) rfl ?_
    refine z_iload_n dX11_fitsAll_13 rfl (j := 3) rfl ?_
    refine z_iconst dX11_fitsAll_14 ?_
    obtain ⟨hi15, h⟩ := h
    refine z_zast Γ dX11_fitsAll_15 (by decide) (hs 135 _ rfl) (by decide) hi15 (by decide) ?_
    refine z_iinc (lv' := [(3, zv s0 0 (v3 + 1)), (0, zv s0 2 84), (1, zv s0 2 v1), (2, zv s0 2 v2)]) dX11_fitsAll_16 (j := 3) rfl (by decide) (by simp [zv_cat0, zv_cat1, zv_cat2, zv_cats]) ?_
    refine rt_goto (tgt := 2) dX11_fitsAll_19 (by decide) ?_
    exact rt_lfew [1, 2, 3, 0] rfl h

def zt_X11_fitsAll_44 (l : Launch) (s0 : State) (G : va_G) (ca : Nat → ClassId) (d : Nat) (C : Nat × Nat) (S : zS) (w0 : rt_Wd)  (v1 : Int) (v2 : Int) (v3 : Int) (v4 : Int)  (M : zM) (Q : Int → zM → Prop) (X : zM → Prop) : Prop :=
  zIf (w32 (M 84 23) ≤ w32 v4) ((v3 = 0 ∨ v3 = 1) ∧ Q v3 M) (zIf (w32 v3 = 0) ((v3 = 0 ∨ v3 = 1) ∧ Q v3 M) ((0 ≤ v4 ∧ v4 < 19600) ∧ (zm_X11_may l s0 G ca (d - 1) C S v1 (zdiv (M 136 v4) 140) v2 (zrem (M 136 v4) 140) M (fun r82 M82 => zg_X11_fitsAll_44 l s0 G ca d C S w0  v1 v2 r82 (v4 + 1) M82 Q X) X)))
set_option maxRecDepth 100000 in
theorem zs_X11_fitsAll_44 {l : Launch} {s0 : State} {a0 : Array Value} {G : va_G} {ca : Nat → ClassId} (Γ : rt_Γ l s0 a0 G ca) {d : Nat} {C : Nat × Nat} {S : zS} (hd : 1 ≤ d) (hok : zok C)  (hs : zSok S) {w0 : rt_Wd} {v1 : Int} {v2 : Int} {v3 : Int} {v4 : Int}   {M : zM} {Q : Int → zM → Prop} {X : zM → Prop} (h : zt_X11_fitsAll_44 l s0 G ca d C S w0  v1 v2 v3 v4 M Q X) : zg_X11_fitsAll_44 l s0 G ca d C S w0  v1 v2 v3 v4 M Q X := by
  unfold zt_X11_fitsAll_44 at h
  refine z_iload dX11_fitsAll_44 (j := 4) rfl ?_
  refine z_aload_n dX11_fitsAll_46 rfl (j := 0) rfl ?_
  refine z_get Γ kf_RX11_219 dX11_fitsAll_47 (by decide) (hs 84 _ rfl) rfl (by decide) (v9 := M 84 23) rfl ?_
  refine z_icmp_ge (tgt := 92) (x' := w32 v4) (y' := w32 (M 84 23)) rfl rfl dX11_fitsAll_50 (by decide) (fun c50 => ?_) (fun c50 => ?_)
  · replace h := h.1 c50
    refine z_iload_n dX11_fitsAll_92 rfl (j := 3) rfl ?_
    obtain ⟨hi9, h⟩ := h
    exact z_zret dX11_fitsAll_93 rfl hi9 h
  · replace h := h.2 c50
    refine z_iload_n dX11_fitsAll_53 rfl (j := 3) rfl ?_
    refine z_if_eq (tgt := 92) (x' := w32 v3) rfl dX11_fitsAll_54 (by decide) (fun c54 => ?_) (fun c54 => ?_)
    · replace h := h.1 c54
      refine z_iload_n dX11_fitsAll_92 rfl (j := 3) rfl ?_
      obtain ⟨hi9, h⟩ := h
      exact z_zret dX11_fitsAll_93 rfl hi9 h
    · replace h := h.2 c54
      refine z_aload_n dX11_fitsAll_57 rfl (j := 0) rfl ?_
      refine z_aload_n dX11_fitsAll_58 rfl (j := 1) rfl ?_
      refine z_aload_n dX11_fitsAll_59 rfl (j := 0) rfl ?_
      refine z_getc Γ kf_RX11_51 dX11_fitsAll_60 (by decide) (hs 84 _ rfl) rfl ?_
      refine z_iload dX11_fitsAll_63 (j := 4) rfl ?_
      obtain ⟨hi65, h⟩ := h
      refine z_iald Γ dX11_fitsAll_65 (by decide) (hs 136 _ rfl) (by decide) hi65 (v9 := M 136 v4) rfl ?_
      refine z_sipush dX11_fitsAll_66 (by decide) ?_
      refine z_idiv dX11_fitsAll_69 (by decide) ?_
      refine z_aload_n dX11_fitsAll_70 rfl (j := 2) rfl ?_
      refine z_aload_n dX11_fitsAll_71 rfl (j := 0) rfl ?_
      refine z_getc Γ kf_RX11_51 dX11_fitsAll_72 (by decide) (hs 84 _ rfl) rfl ?_
      refine z_iload dX11_fitsAll_75 (j := 4) rfl ?_
      refine z_iald Γ dX11_fitsAll_77 (by decide) (hs 136 _ rfl) (by decide) hi65 (v9 := M 136 v4) rfl ?_
      refine z_sipush dX11_fitsAll_78 (by decide) ?_
      refine z_irem dX11_fitsAll_81 (by decide) ?_
      refine z_callV Γ kk_X11_may kc_RX11_224 (As := [zv s0 2 v1, zv s0 0 (zdiv (M 136 v4) 140), zv s0 2 v2, zv s0 0 (zrem (M 136 v4) 140)]) h (by omega) (by decide) (show (parseMethodDescriptor yX11_may.desc).map (fun q => q.parameters.length) = some 4 by decide +kernel) hok (Nat.zero_le _) dX11_fitsAll_82 (by decide) (hs 84 _ rfl) rfl rfl (fun _ h9 => nomatch h9) ?_
      clear h
      intro r82 M82 h
      show rt_Go _ _ _ _ _ _ _ _ _ _ _ _ 85 [(0, zv s0 2 84), (1, zv s0 2 v1), (2, zv s0 2 v2), (3, zv s0 0 v3), (4, zv s0 0 v4)] [zv s0 0 r82] (zw s0 ca C S M82)
      refine z_istore_n (i := 3) (lv' := [(3, zv s0 0 r82), (0, zv s0 2 84), (1, zv s0 2 v1), (2, zv s0 2 v2), (4, zv s0 0 v4)]) dX11_fitsAll_85 rfl (by decide) (by simp [zv_cat0, zv_cat1, zv_cat2, zv_cats]) ?_
      refine z_iinc (lv' := [(4, zv s0 0 (v4 + 1)), (3, zv s0 0 r82), (0, zv s0 2 84), (1, zv s0 2 v1), (2, zv s0 2 v2)]) dX11_fitsAll_86 (j := 4) rfl (by decide) (by simp [zv_cat0, zv_cat1, zv_cat2, zv_cats]) ?_
      refine rt_goto (tgt := 44) dX11_fitsAll_89 (by decide) ?_
      exact rt_lfew [2, 3, 4, 1, 0] rfl h

def zt_X11_fitsAll (l : Launch) (s0 : State) (G : va_G) (ca : Nat → ClassId) (d : Nat) (C : Nat × Nat) (S : zS) (w0 : rt_Wd)  (a : Int) (b : Int) (M : zM) (Q : Int → zM → Prop) (X : zM → Prop) : Prop :=
  zg_X11_fitsAll_2 l s0 G ca d C S w0  a b 0 M Q X
set_option maxRecDepth 100000 in
theorem z_X11_fitsAll {l : Launch} {s0 : State} {a0 : Array Value} {G : va_G} {ca : Nat → ClassId} (Γ : rt_Γ l s0 a0 G ca) {d : Nat} {C : Nat × Nat} {S : zS} (hd : 1 ≤ d) (hok : zok C)  (hs : zSok S) {a : Int} {b : Int} {M : zM} {Q : Int → zM → Prop} {X : zM → Prop} (h : zt_X11_fitsAll l s0 G ca d C S (zw s0 ca C S M)  a b M Q X) : zm_X11_fitsAll l s0 G ca d C S  a b M Q X := by
  refine z_met (lv := [(0, zv s0 2 84), (1, zv s0 2 a), (2, zv s0 2 b)]) Γ kk_X11_fitsAll rfl (show (lg_sl [zv s0 2 84, zv s0 2 a, zv s0 2 b]).length ≤ 5 from by simp only [zn_2, show (lg_sl []).length = 0 from rfl]; omega) (show lv_args 0 [zv s0 2 84, zv s0 2 a, zv s0 2 b] = [(0, zv s0 2 84), (1, zv s0 2 a), (2, zv s0 2 b)] from by rw [zl_2, zl_2, zl_2]; rfl) ?_
  unfold zt_X11_fitsAll at h
  refine z_iconst dX11_fitsAll_0 ?_
  refine z_istore_n (i := 3) (lv' := [(3, zv s0 0 0), (0, zv s0 2 84), (1, zv s0 2 a), (2, zv s0 2 b)]) dX11_fitsAll_1 rfl (by decide) (by simp [zv_cat0, zv_cat1, zv_cat2, zv_cats]) ?_
  exact rt_lfew [1, 2, 3, 0] rfl h

abbrev zg_X11_tellByte_18 (l : Launch) (s0 : State) (G : va_G) (ca : Nat → ClassId) (d : Nat) (C : Nat × Nat) (S : zS) (w0 : rt_Wd)  (v1 : Int)  (M : zM) (Q : Int → zM → Prop) (X : zM → Prop) : Prop := rt_Go l s0 G RX11 "tellByte" cX11_tellByte 2 (Option.none : Option FieldType) [] d w0 (zQ s0 ca 9 C S Q X) 18 [(0, zv s0 2 84), (1, zv s0 0 v1)] [] (zw s0 ca C S M)
def zt_X11_tellByte_18 (l : Launch) (s0 : State) (G : va_G) (ca : Nat → ClassId) (d : Nat) (C : Nat × Nat) (S : zS) (w0 : rt_Wd)  (v1 : Int)  (M : zM) (Q : Int → zM → Prop) (X : zM → Prop) : Prop :=
  (0 ≤ M 84 15 ∧ M 84 15 < 4200) ∧ (Q 0 ((zu ((zu M 134 (M 84 15) (w8 (w8 v1)))) 84 15 ((M 84 15) + 1))))
set_option maxRecDepth 100000 in
theorem zs_X11_tellByte_18 {l : Launch} {s0 : State} {a0 : Array Value} {G : va_G} {ca : Nat → ClassId} (Γ : rt_Γ l s0 a0 G ca) {d : Nat} {C : Nat × Nat} {S : zS} (hd : 1 ≤ d) (hok : zok C)  (hs : zSok S) {w0 : rt_Wd} {v1 : Int}   {M : zM} {Q : Int → zM → Prop} {X : zM → Prop} (h : zt_X11_tellByte_18 l s0 G ca d C S w0  v1 M Q X) : zg_X11_tellByte_18 l s0 G ca d C S w0  v1 M Q X := by
  unfold zt_X11_tellByte_18 at h
  refine z_aload_n dX11_tellByte_18 rfl (j := 0) rfl ?_
  refine z_getc Γ kf_RX11_44 dX11_tellByte_19 (by decide) (hs 84 _ rfl) rfl ?_
  refine z_aload_n dX11_tellByte_22 rfl (j := 0) rfl ?_
  refine z_get Γ kf_RX11_115 dX11_tellByte_23 (by decide) (hs 84 _ rfl) rfl (by decide) (v9 := M 84 15) rfl ?_
  refine z_iload_n dX11_tellByte_26 rfl (j := 1) rfl ?_
  refine z_i2b dX11_tellByte_27 ?_
  obtain ⟨hi28, h⟩ := h
  refine z_bast Γ dX11_tellByte_28 (by decide) (hs 134 _ rfl) (by decide) hi28 ?_
  refine z_aload_n dX11_tellByte_29 rfl (j := 0) rfl ?_
  refine z_dup2 dX11_tellByte_30 ?_
  refine z_get Γ kf_RX11_115 dX11_tellByte_31 (by decide) (hs 84 _ rfl) rfl (by decide) (v9 := M 84 15) ((zu_a (by decide)).trans rfl) ?_
  refine z_iconst dX11_tellByte_34 ?_
  refine z_iadd dX11_tellByte_35 ?_
  refine z_put0 Γ kp_RX11_115 dX11_tellByte_36 (by decide) (hs 84 _ rfl) rfl (k9 := 15) rfl ?_
  exact z_vret dX11_tellByte_39 rfl h

def zt_X11_tellByte (l : Launch) (s0 : State) (G : va_G) (ca : Nat → ClassId) (d : Nat) (C : Nat × Nat) (S : zS) (w0 : rt_Wd)  (b : Int) (M : zM) (Q : Int → zM → Prop) (X : zM → Prop) : Prop :=
  zIf (w32 (M 84 15) = w32 (M 84 25)) (zm_X11_failBytes l s0 G ca (d - 1) C S 31 0 M (fun r15 M15 => zt_X11_tellByte_18 l s0 G ca d C S w0  b M15 Q X) X) (zt_X11_tellByte_18 l s0 G ca d C S w0  b M Q X)
set_option maxRecDepth 100000 in
theorem z_X11_tellByte {l : Launch} {s0 : State} {a0 : Array Value} {G : va_G} {ca : Nat → ClassId} (Γ : rt_Γ l s0 a0 G ca) {d : Nat} {C : Nat × Nat} {S : zS} (hd : 1 ≤ d) (hok : zok C)  (hs : zSok S) {b : Int} {M : zM} {Q : Int → zM → Prop} {X : zM → Prop} (h : zt_X11_tellByte l s0 G ca d C S (zw s0 ca C S M)  b M Q X) : zm_X11_tellByte l s0 G ca d C S  b M Q X := by
  refine z_met (lv := [(0, zv s0 2 84), (1, zv s0 0 b)]) Γ kk_X11_tellByte rfl (show (lg_sl [zv s0 2 84, zv s0 0 b]).length ≤ 2 from by simp only [zn_0, zn_2, show (lg_sl []).length = 0 from rfl]; omega) (show lv_args 0 [zv s0 2 84, zv s0 0 b] = [(0, zv s0 2 84), (1, zv s0 0 b)] from by rw [zl_2, zl_0]; rfl) ?_
  unfold zt_X11_tellByte at h
  refine z_aload_n dX11_tellByte_0 rfl (j := 0) rfl ?_
  refine z_get Γ kf_RX11_115 dX11_tellByte_1 (by decide) (hs 84 _ rfl) rfl (by decide) (v9 := M 84 15) rfl ?_
  refine z_aload_n dX11_tellByte_4 rfl (j := 0) rfl ?_
  refine z_get Γ kf_RX11_247 dX11_tellByte_5 (by decide) (hs 84 _ rfl) rfl (by decide) (v9 := M 84 25) rfl ?_
  refine z_icmp_ne (tgt := 18) (x' := w32 (M 84 15)) (y' := w32 (M 84 25)) rfl rfl dX11_tellByte_8 (by decide) (fun c8 => ?_) (fun c8 => ?_)
  · replace h := h.2 c8
    exact rt_lfew [0, 1] rfl (zs_X11_tellByte_18 Γ hd hok hs  h)
  · replace h := h.1 c8
    refine z_aload_n dX11_tellByte_11 rfl (j := 0) rfl ?_
    refine z_bipush dX11_tellByte_12 (by decide) ?_
    refine z_iconst dX11_tellByte_14 ?_
    refine z_callV Γ kk_X11_failBytes kc_RX11_102 (As := [zv s0 0 31, zv s0 0 0]) h (by omega) (by decide) (show (parseMethodDescriptor yX11_failBytes.desc).map (fun q => q.parameters.length) = some 2 by decide +kernel) hok (Nat.zero_le _) dX11_tellByte_15 (by decide) (hs 84 _ rfl) rfl rfl (fun _ h9 => nomatch h9) ?_
    clear h
    intro r15 M15 h
    show rt_Go _ _ _ _ _ _ _ _ _ _ _ _ 18 [(0, zv s0 2 84), (1, zv s0 0 b)] [] (zw s0 ca C S M15)
    exact rt_lfew [0, 1] rfl (zs_X11_tellByte_18 Γ hd hok hs  h)

abbrev zg_X11_tellVarint_9 (l : Launch) (s0 : State) (G : va_G) (ca : Nat → ClassId) (d : Nat) (C : Nat × Nat) (S : zS) (w0 : rt_Wd)  (v3 : Int)  (M : zM) (Q : Int → zM → Prop) (X : zM → Prop) : Prop := rt_Go l s0 G RX11 "tellVarint" cX11_tellVarint 5 (Option.none : Option FieldType) [] d w0 (zQ s0 ca 9 C S Q X) 9 [(0, zv s0 2 84), (3, zv s0 1 v3)] [] (zw s0 ca C S M)
def zt_X11_tellVarint_9 (l : Launch) (s0 : State) (G : va_G) (ca : Nat → ClassId) (d : Nat) (C : Nat × Nat) (S : zS) (w0 : rt_Wd)  (v3 : Int)  (M : zM) (Q : Int → zM → Prop) (X : zM → Prop) : Prop :=
  zIf (w64 (zushrL v3 7) = 0) (zm_X11_tellByte l s0 G ca (d - 1) C S v3 M (fun r43 M43 => Q 0 M43) X) (zm_X11_tellByte l s0 G ca (d - 1) C S (zor (zandL v3 127) 128) M (fun r29 M29 => zg_X11_tellVarint_9 l s0 G ca d C S w0  (zushrL v3 7) M29 Q X) X)
set_option maxRecDepth 100000 in
theorem zs_X11_tellVarint_9 {l : Launch} {s0 : State} {a0 : Array Value} {G : va_G} {ca : Nat → ClassId} (Γ : rt_Γ l s0 a0 G ca) {d : Nat} {C : Nat × Nat} {S : zS} (hd : 1 ≤ d) (hok : zok C)  (hs : zSok S) {w0 : rt_Wd} {v3 : Int}   {M : zM} {Q : Int → zM → Prop} {X : zM → Prop} (h : zt_X11_tellVarint_9 l s0 G ca d C S w0  v3 M Q X) : zg_X11_tellVarint_9 l s0 G ca d C S w0  v3 M Q X := by
  unfold zt_X11_tellVarint_9 at h
  refine z_lload_n dX11_tellVarint_9 rfl (j := 1) rfl ?_
  refine z_bipush dX11_tellVarint_10 (by decide) ?_
  refine z_lushr dX11_tellVarint_12 ?_
  refine z_lconst (v := 0) dX11_tellVarint_13 (by decide) ?_
  refine z_lif_eq (tgt := 40) (x' := w64 (zushrL v3 7)) (y' := 0) rfl (by decide) dX11_tellVarint_14 dX11_tellVarint_15 (by decide) (fun c14 => ?_) (fun c14 => ?_)
  · replace h := h.1 c14
    refine z_aload_n dX11_tellVarint_40 rfl (j := 0) rfl ?_
    refine z_lload_n dX11_tellVarint_41 rfl (j := 1) rfl ?_
    refine z_l2i dX11_tellVarint_42 ?_
    refine z_callV Γ kk_X11_tellByte kc_RX11_250 (As := [zv s0 0 v3]) h (by omega) (by decide) (show (parseMethodDescriptor yX11_tellByte.desc).map (fun q => q.parameters.length) = some 1 by decide +kernel) hok (Nat.zero_le _) dX11_tellVarint_43 (by decide) (hs 84 _ rfl) rfl rfl (fun _ h9 => nomatch h9) ?_
    clear h
    intro r43 M43 h
    show rt_Go _ _ _ _ _ _ _ _ _ _ _ _ 46 [(0, zv s0 2 84), (3, zv s0 1 v3)] [] (zw s0 ca C S M43)
    exact z_vret dX11_tellVarint_46 rfl h
  · replace h := h.2 c14
    refine z_aload_n dX11_tellVarint_18 rfl (j := 0) rfl ?_
    refine z_lload_n dX11_tellVarint_19 rfl (j := 1) rfl ?_
    refine rt_ldc2 Γ dX11_tellVarint_20 kv_RX11_110 ?_
    show rt_Go _ _ _ _ _ _ _ _ _ _ _ _ 23 [(0, zv s0 2 84), (3, zv s0 1 v3)] [zv s0 1 127, zv s0 1 v3, zv s0 2 84] _
    refine z_land dX11_tellVarint_23 ?_
    refine z_l2i dX11_tellVarint_24 ?_
    refine z_sipush dX11_tellVarint_25 (by decide) ?_
    refine z_ior dX11_tellVarint_28 ?_
    refine z_callV Γ kk_X11_tellByte kc_RX11_250 (As := [zv s0 0 (zor (zandL v3 127) 128)]) h (by omega) (by decide) (show (parseMethodDescriptor yX11_tellByte.desc).map (fun q => q.parameters.length) = some 1 by decide +kernel) hok (Nat.zero_le _) dX11_tellVarint_29 (by decide) (hs 84 _ rfl) rfl rfl (fun _ h9 => nomatch h9) ?_
    clear h
    intro r29 M29 h
    show rt_Go _ _ _ _ _ _ _ _ _ _ _ _ 32 [(0, zv s0 2 84), (3, zv s0 1 v3)] [] (zw s0 ca C S M29)
    refine z_lload_n dX11_tellVarint_32 rfl (j := 1) rfl ?_
    refine z_bipush dX11_tellVarint_33 (by decide) ?_
    refine z_lushr dX11_tellVarint_35 ?_
    refine z_lstore_n (i := 3) (lv' := [(3, zv s0 1 (zushrL v3 7)), (0, zv s0 2 84)]) dX11_tellVarint_36 rfl (by decide) (by simp [zv_cat0, zv_cat1, zv_cat2, zv_cats]) ?_
    refine rt_goto (tgt := 9) dX11_tellVarint_37 (by decide) ?_
    exact rt_lfew [1, 0] rfl h

def zt_X11_tellVarint (l : Launch) (s0 : State) (G : va_G) (ca : Nat → ClassId) (d : Nat) (C : Nat × Nat) (S : zS) (w0 : rt_Wd)  (v : Int) (M : zM) (Q : Int → zM → Prop) (X : zM → Prop) : Prop :=
  zg_X11_tellVarint_9 l s0 G ca d C S w0  (zxorL (zshlL v 1) (zshrL v 63)) M Q X
set_option maxRecDepth 100000 in
theorem z_X11_tellVarint {l : Launch} {s0 : State} {a0 : Array Value} {G : va_G} {ca : Nat → ClassId} (Γ : rt_Γ l s0 a0 G ca) {d : Nat} {C : Nat × Nat} {S : zS} (hd : 1 ≤ d) (hok : zok C)  (hs : zSok S) {v : Int} {M : zM} {Q : Int → zM → Prop} {X : zM → Prop} (h : zt_X11_tellVarint l s0 G ca d C S (zw s0 ca C S M)  v M Q X) : zm_X11_tellVarint l s0 G ca d C S  v M Q X := by
  refine z_met (lv := [(0, zv s0 2 84), (1, zv s0 1 v)]) Γ kk_X11_tellVarint rfl (show (lg_sl [zv s0 2 84, zv s0 1 v]).length ≤ 5 from by simp only [zn_1, zn_2, show (lg_sl []).length = 0 from rfl]; omega) (show lv_args 0 [zv s0 2 84, zv s0 1 v] = [(0, zv s0 2 84), (1, zv s0 1 v)] from by rw [zl_2, zl_1]; rfl) ?_
  unfold zt_X11_tellVarint at h
  refine z_lload_n dX11_tellVarint_0 rfl (j := 1) rfl ?_
  refine z_iconst dX11_tellVarint_1 ?_
  refine z_lshl dX11_tellVarint_2 ?_
  refine z_lload_n dX11_tellVarint_3 rfl (j := 1) rfl ?_
  refine z_bipush dX11_tellVarint_4 (by decide) ?_
  refine z_lshr dX11_tellVarint_6 ?_
  refine z_lxor dX11_tellVarint_7 ?_
  refine z_lstore_n (i := 3) (lv' := [(3, zv s0 1 (zxorL (zshlL v 1) (zshrL v 63))), (0, zv s0 2 84), (1, zv s0 1 v)]) dX11_tellVarint_8 rfl (by decide) (by simp [zv_cat0, zv_cat1, zv_cat2, zv_cats]) ?_
  exact rt_lfew [1, 0] rfl h

abbrev zg_X11_readVarint_9 (l : Launch) (s0 : State) (G : va_G) (ca : Nat → ClassId) (d : Nat) (C : Nat × Nat) (S : zS) (w0 : rt_Wd)  (v1 : Int) (v3 : Int) (v4 : Int)  (M : zM) (Q : Int → zM → Prop) (X : zM → Prop) : Prop := rt_Go l s0 G RX11 "readVarint" cX11_readVarint 5 (Option.some FieldType.long) [] d w0 (zQ s0 ca 1 C S Q X) 9 [(0, zv s0 2 84), (1, zv s0 1 v1), (3, zv s0 0 v3), (4, zv s0 0 v4)] [] (zw s0 ca C S M)
def zt_X11_readVarint_9 (l : Launch) (s0 : State) (G : va_G) (ca : Nat → ClassId) (d : Nat) (C : Nat × Nat) (S : zS) (w0 : rt_Wd)  (v1 : Int) (v3 : Int) (v4 : Int)  (M : zM) (Q : Int → zM → Prop) (X : zM → Prop) : Prop :=
  zIf (w32 v4 ≤ 127) (Q (zxorL (zushrL v1 1) (-(zandL v1 1))) M) ((0 ≤ M 84 24 ∧ M 84 24 < 4200) ∧ (zg_X11_readVarint_9 l s0 G ca d C S w0  (zorL v1 (zshlL (w32 (zand (zand (M 132 (M 84 24)) 255) 127)) v3)) (v3 + 7) (zand (M 132 (M 84 24)) 255) ((zu M 84 24 ((M 84 24) + 1))) Q X))
set_option maxRecDepth 100000 in
theorem zs_X11_readVarint_9 {l : Launch} {s0 : State} {a0 : Array Value} {G : va_G} {ca : Nat → ClassId} (Γ : rt_Γ l s0 a0 G ca) {d : Nat} {C : Nat × Nat} {S : zS} (hok : zok C)  (hs : zSok S) {w0 : rt_Wd} {v1 : Int} {v3 : Int} {v4 : Int}   {M : zM} {Q : Int → zM → Prop} {X : zM → Prop} (h : zt_X11_readVarint_9 l s0 G ca d C S w0  v1 v3 v4 M Q X) : zg_X11_readVarint_9 l s0 G ca d C S w0  v1 v3 v4 M Q X := by
  unfold zt_X11_readVarint_9 at h
  refine z_iload dX11_readVarint_9 (j := 3) rfl ?_
  refine z_bipush dX11_readVarint_11 (by decide) ?_
  refine z_icmp_le (tgt := 60) (x' := w32 v4) (y' := 127) rfl (by decide) dX11_readVarint_13 (by decide) (fun c13 => ?_) (fun c13 => ?_)
  · replace h := h.1 c13
    refine z_lload_n dX11_readVarint_60 rfl (j := 1) rfl ?_
    refine z_iconst dX11_readVarint_61 ?_
    refine z_lushr dX11_readVarint_62 ?_
    refine z_lload_n dX11_readVarint_63 rfl (j := 1) rfl ?_
    refine z_lconst (v := 1) dX11_readVarint_64 (by decide) ?_
    refine z_land dX11_readVarint_65 ?_
    refine z_lneg dX11_readVarint_66 ?_
    refine z_lxor dX11_readVarint_67 ?_
    exact z_lret dX11_readVarint_68 rfl h
  · replace h := h.2 c13
    refine z_aload_n dX11_readVarint_16 rfl (j := 0) rfl ?_
    refine z_getc Γ kf_RX11_35 dX11_readVarint_17 (by decide) (hs 84 _ rfl) rfl ?_
    refine z_aload_n dX11_readVarint_20 rfl (j := 0) rfl ?_
    refine z_get Γ kf_RX11_253 dX11_readVarint_21 (by decide) (hs 84 _ rfl) rfl (by decide) (v9 := M 84 24) rfl ?_
    obtain ⟨hi24, h⟩ := h
    refine z_bald Γ dX11_readVarint_24 (by decide) (hs 132 _ rfl) (by decide) hi24 (v9 := M 132 (M 84 24)) rfl ?_
    refine z_sipush dX11_readVarint_25 (by decide) ?_
    refine z_iand dX11_readVarint_28 ?_
    refine z_istore (i := 4) (lv' := [(4, zv s0 0 (zand (M 132 (M 84 24)) 255)), (0, zv s0 2 84), (1, zv s0 1 v1), (3, zv s0 0 v3)]) dX11_readVarint_29 (by decide) (by simp [zv_cat0, zv_cat1, zv_cat2, zv_cats]) ?_
    refine z_aload_n dX11_readVarint_31 rfl (j := 1) rfl ?_
    refine z_dup2 dX11_readVarint_32 ?_
    refine z_get Γ kf_RX11_253 dX11_readVarint_33 (by decide) (hs 84 _ rfl) rfl (by decide) (v9 := M 84 24) rfl ?_
    refine z_iconst dX11_readVarint_36 ?_
    refine z_iadd dX11_readVarint_37 ?_
    refine z_put0 Γ kp_RX11_253 dX11_readVarint_38 (by decide) (hs 84 _ rfl) rfl (k9 := 24) rfl ?_
    refine z_lload_n dX11_readVarint_41 rfl (j := 2) rfl ?_
    refine z_iload dX11_readVarint_42 (j := 0) rfl ?_
    refine z_bipush dX11_readVarint_44 (by decide) ?_
    refine z_iand dX11_readVarint_46 ?_
    refine z_i2l dX11_readVarint_47 ?_
    refine z_iload_n dX11_readVarint_48 rfl (j := 3) rfl ?_
    refine z_lshl dX11_readVarint_49 ?_
    refine z_lor dX11_readVarint_50 ?_
    refine z_lstore_n (i := 1) (lv' := [(1, zv s0 1 (zorL v1 (zshlL (w32 (zand (zand (M 132 (M 84 24)) 255) 127)) v3))), (4, zv s0 0 (zand (M 132 (M 84 24)) 255)), (0, zv s0 2 84), (3, zv s0 0 v3)]) dX11_readVarint_51 rfl (by decide) (by simp [zv_cat0, zv_cat1, zv_cat2, zv_cats]) ?_
    refine z_iload_n dX11_readVarint_52 rfl (j := 3) rfl ?_
    refine z_bipush dX11_readVarint_53 (by decide) ?_
    refine z_iadd dX11_readVarint_55 ?_
    refine z_istore_n (i := 3) (lv' := [(3, zv s0 0 (v3 + 7)), (1, zv s0 1 (zorL v1 (zshlL (w32 (zand (zand (M 132 (M 84 24)) 255) 127)) v3))), (4, zv s0 0 (zand (M 132 (M 84 24)) 255)), (0, zv s0 2 84)]) dX11_readVarint_56 rfl (by decide) (by simp [zv_cat0, zv_cat1, zv_cat2, zv_cats]) ?_
    refine rt_goto (tgt := 9) dX11_readVarint_57 (by decide) ?_
    exact rt_lfew [3, 1, 0, 2] rfl h

def zt_X11_readVarint (l : Launch) (s0 : State) (G : va_G) (ca : Nat → ClassId) (d : Nat) (C : Nat × Nat) (S : zS) (w0 : rt_Wd)   (M : zM) (Q : Int → zM → Prop) (X : zM → Prop) : Prop :=
  zg_X11_readVarint_9 l s0 G ca d C S w0  0 0 128 M Q X
set_option maxRecDepth 100000 in
theorem z_X11_readVarint {l : Launch} {s0 : State} {a0 : Array Value} {G : va_G} {ca : Nat → ClassId} (Γ : rt_Γ l s0 a0 G ca) {d : Nat} {C : Nat × Nat} {S : zS} (hok : zok C)  (hs : zSok S)  {M : zM} {Q : Int → zM → Prop} {X : zM → Prop} (h : zt_X11_readVarint l s0 G ca d C S (zw s0 ca C S M)   M Q X) : zm_X11_readVarint l s0 G ca d C S   M Q X := by
  refine z_met (lv := [(0, zv s0 2 84)]) Γ kk_X11_readVarint rfl (show (lg_sl [zv s0 2 84]).length ≤ 5 from by simp only [zn_2, show (lg_sl []).length = 0 from rfl]; omega) (show lv_args 0 [zv s0 2 84] = [(0, zv s0 2 84)] from by rw [zl_2]; rfl) ?_
  unfold zt_X11_readVarint at h
  refine z_lconst (v := 0) dX11_readVarint_0 (by decide) ?_
  refine z_lstore_n (i := 1) (lv' := [(1, zv s0 1 0), (0, zv s0 2 84)]) dX11_readVarint_1 rfl (by decide) (by simp [zv_cat0, zv_cat1, zv_cat2, zv_cats]) ?_
  refine z_iconst dX11_readVarint_2 ?_
  refine z_istore_n (i := 3) (lv' := [(3, zv s0 0 0), (1, zv s0 1 0), (0, zv s0 2 84)]) dX11_readVarint_3 rfl (by decide) (by simp [zv_cat0, zv_cat1, zv_cat2, zv_cats]) ?_
  refine z_sipush dX11_readVarint_4 (by decide) ?_
  refine z_istore (i := 4) (lv' := [(4, zv s0 0 128), (3, zv s0 0 0), (1, zv s0 1 0), (0, zv s0 2 84)]) dX11_readVarint_7 (by decide) (by simp [zv_cat0, zv_cat1, zv_cat2, zv_cats]) ?_
  exact rt_lfew [3, 2, 1, 0] rfl h

abbrev zg_X11_copyBytes_3 (l : Launch) (s0 : State) (G : va_G) (ca : Nat → ClassId) (d : Nat) (C : Nat × Nat) (S : zS) (w0 : rt_Wd)  (v1 : Int) (v3 : Int) (v4 : Int)  (M : zM) (Q : Int → zM → Prop) (X : zM → Prop) : Prop := rt_Go l s0 G RX11 "copyBytes" cX11_copyBytes 6 (Option.none : Option FieldType) [] d w0 (zQ s0 ca 9 C S Q X) 3 [(0, zv s0 2 84), (1, zv s0 1 v1), (3, zv s0 0 v3), (4, zv s0 1 v4)] [] (zw s0 ca C S M)
abbrev zg_X11_copyBytes_27 (l : Launch) (s0 : State) (G : va_G) (ca : Nat → ClassId) (d : Nat) (C : Nat × Nat) (S : zS) (w0 : rt_Wd)  (v1 : Int) (v3 : Int) (v4 : Int)  (M : zM) (Q : Int → zM → Prop) (X : zM → Prop) : Prop := rt_Go l s0 G RX11 "copyBytes" cX11_copyBytes 6 (Option.none : Option FieldType) [] d w0 (zQ s0 ca 9 C S Q X) 27 [(0, zv s0 2 84), (1, zv s0 1 v1), (3, zv s0 0 v3), (4, zv s0 1 v4)] [] (zw s0 ca C S M)
def zt_X11_copyBytes_27 (l : Launch) (s0 : State) (G : va_G) (ca : Nat → ClassId) (d : Nat) (C : Nat × Nat) (S : zS) (w0 : rt_Wd)  (v1 : Int) (v3 : Int) (v4 : Int)  (M : zM) (Q : Int → zM → Prop) (X : zM → Prop) : Prop :=
  zg_X11_copyBytes_3 l s0 G ca d C S w0  v1 v3 (v4 + 1) ((zu M 84 24 ((M 84 24) + 1))) Q X
set_option maxRecDepth 100000 in
theorem zs_X11_copyBytes_27 {l : Launch} {s0 : State} {a0 : Array Value} {G : va_G} {ca : Nat → ClassId} (Γ : rt_Γ l s0 a0 G ca) {d : Nat} {C : Nat × Nat} {S : zS} (hd : 1 ≤ d) (hok : zok C)  (hs : zSok S) {w0 : rt_Wd} {v1 : Int} {v3 : Int} {v4 : Int}   {M : zM} {Q : Int → zM → Prop} {X : zM → Prop} (h : zt_X11_copyBytes_27 l s0 G ca d C S w0  v1 v3 v4 M Q X) : zg_X11_copyBytes_27 l s0 G ca d C S w0  v1 v3 v4 M Q X := by
  unfold zt_X11_copyBytes_27 at h
  refine z_aload_n dX11_copyBytes_27 rfl (j := 0) rfl ?_
  refine z_dup2 dX11_copyBytes_28 ?_
  refine z_get Γ kf_RX11_253 dX11_copyBytes_29 (by decide) (hs 84 _ rfl) rfl (by decide) (v9 := M 84 24) rfl ?_
  refine z_iconst dX11_copyBytes_32 ?_
  refine z_iadd dX11_copyBytes_33 ?_
  refine z_put0 Γ kp_RX11_253 dX11_copyBytes_34 (by decide) (hs 84 _ rfl) rfl (k9 := 24) rfl ?_
  refine z_lload dX11_copyBytes_37 (j := 3) rfl ?_
  refine z_lconst (v := 1) dX11_copyBytes_39 (by decide) ?_
  refine z_ladd dX11_copyBytes_40 ?_
  refine z_lstore (i := 4) (lv' := [(4, zv s0 1 (v4 + 1)), (0, zv s0 2 84), (1, zv s0 1 v1), (3, zv s0 0 v3)]) dX11_copyBytes_41 (by decide) (by simp [zv_cat0, zv_cat1, zv_cat2, zv_cats]) ?_
  refine rt_goto (tgt := 3) dX11_copyBytes_43 (by decide) ?_
  exact rt_lfew [1, 2, 3, 0] rfl h

def zt_X11_copyBytes_3 (l : Launch) (s0 : State) (G : va_G) (ca : Nat → ClassId) (d : Nat) (C : Nat × Nat) (S : zS) (w0 : rt_Wd)  (v1 : Int) (v3 : Int) (v4 : Int)  (M : zM) (Q : Int → zM → Prop) (X : zM → Prop) : Prop :=
  zIf (w64 v1 ≤ w64 v4) (Q 0 M) (zIf (w32 v3 = 0) (zt_X11_copyBytes_27 l s0 G ca d C S w0  v1 v3 v4 M Q X) ((0 ≤ M 84 24 ∧ M 84 24 < 4200) ∧ (zm_X11_tellByte l s0 G ca (d - 1) C S (M 132 (M 84 24)) M (fun r24 M24 => zt_X11_copyBytes_27 l s0 G ca d C S w0  v1 v3 v4 M24 Q X) X)))
set_option maxRecDepth 100000 in
theorem zs_X11_copyBytes_3 {l : Launch} {s0 : State} {a0 : Array Value} {G : va_G} {ca : Nat → ClassId} (Γ : rt_Γ l s0 a0 G ca) {d : Nat} {C : Nat × Nat} {S : zS} (hd : 1 ≤ d) (hok : zok C)  (hs : zSok S) {w0 : rt_Wd} {v1 : Int} {v3 : Int} {v4 : Int}   {M : zM} {Q : Int → zM → Prop} {X : zM → Prop} (h : zt_X11_copyBytes_3 l s0 G ca d C S w0  v1 v3 v4 M Q X) : zg_X11_copyBytes_3 l s0 G ca d C S w0  v1 v3 v4 M Q X := by
  unfold zt_X11_copyBytes_3 at h
  refine z_lload dX11_copyBytes_3 (j := 3) rfl ?_
  refine z_lload_n dX11_copyBytes_5 rfl (j := 1) rfl ?_
  refine z_lif_ge (tgt := 46) (x' := w64 v4) (y' := w64 v1) rfl rfl dX11_copyBytes_6 dX11_copyBytes_7 (by decide) (fun c6 => ?_) (fun c6 => ?_)
  · replace h := h.1 c6
    exact z_vret dX11_copyBytes_46 rfl h
  · replace h := h.2 c6
    refine z_iload_n dX11_copyBytes_10 rfl (j := 2) rfl ?_
    refine z_if_eq (tgt := 27) (x' := w32 v3) rfl dX11_copyBytes_11 (by decide) (fun c11 => ?_) (fun c11 => ?_)
    · replace h := h.1 c11
      exact rt_lfew [0, 1, 2, 3] rfl (zs_X11_copyBytes_27 Γ hd hok hs  h)
    · replace h := h.2 c11
      refine z_aload_n dX11_copyBytes_14 rfl (j := 0) rfl ?_
      refine z_aload_n dX11_copyBytes_15 rfl (j := 0) rfl ?_
      refine z_getc Γ kf_RX11_35 dX11_copyBytes_16 (by decide) (hs 84 _ rfl) rfl ?_
      refine z_aload_n dX11_copyBytes_19 rfl (j := 0) rfl ?_
      refine z_get Γ kf_RX11_253 dX11_copyBytes_20 (by decide) (hs 84 _ rfl) rfl (by decide) (v9 := M 84 24) rfl ?_
      obtain ⟨hi23, h⟩ := h
      refine z_bald Γ dX11_copyBytes_23 (by decide) (hs 132 _ rfl) (by decide) hi23 (v9 := M 132 (M 84 24)) rfl ?_
      refine z_callV Γ kk_X11_tellByte kc_RX11_250 (As := [zv s0 0 (M 132 (M 84 24))]) h (by omega) (by decide) (show (parseMethodDescriptor yX11_tellByte.desc).map (fun q => q.parameters.length) = some 1 by decide +kernel) hok (Nat.zero_le _) dX11_copyBytes_24 (by decide) (hs 84 _ rfl) rfl rfl (fun _ h9 => nomatch h9) ?_
      clear h
      intro r24 M24 h
      show rt_Go _ _ _ _ _ _ _ _ _ _ _ _ 27 [(0, zv s0 2 84), (1, zv s0 1 v1), (3, zv s0 0 v3), (4, zv s0 1 v4)] [] (zw s0 ca C S M24)
      exact rt_lfew [0, 1, 2, 3] rfl (zs_X11_copyBytes_27 Γ hd hok hs  h)

def zt_X11_copyBytes (l : Launch) (s0 : State) (G : va_G) (ca : Nat → ClassId) (d : Nat) (C : Nat × Nat) (S : zS) (w0 : rt_Wd)  (k : Int) (b : Int) (M : zM) (Q : Int → zM → Prop) (X : zM → Prop) : Prop :=
  zg_X11_copyBytes_3 l s0 G ca d C S w0  k b 0 M Q X
set_option maxRecDepth 100000 in
theorem z_X11_copyBytes {l : Launch} {s0 : State} {a0 : Array Value} {G : va_G} {ca : Nat → ClassId} (Γ : rt_Γ l s0 a0 G ca) {d : Nat} {C : Nat × Nat} {S : zS} (hd : 1 ≤ d) (hok : zok C)  (hs : zSok S) {k : Int} {b : Int} {M : zM} {Q : Int → zM → Prop} {X : zM → Prop} (h : zt_X11_copyBytes l s0 G ca d C S (zw s0 ca C S M)  k b M Q X) : zm_X11_copyBytes l s0 G ca d C S  k b M Q X := by
  refine z_met (lv := [(0, zv s0 2 84), (1, zv s0 1 k), (3, zv s0 0 b)]) Γ kk_X11_copyBytes rfl (show (lg_sl [zv s0 2 84, zv s0 1 k, zv s0 0 b]).length ≤ 6 from by simp only [zn_0, zn_1, zn_2, show (lg_sl []).length = 0 from rfl]; omega) (show lv_args 0 [zv s0 2 84, zv s0 1 k, zv s0 0 b] = [(0, zv s0 2 84), (1, zv s0 1 k), (3, zv s0 0 b)] from by rw [zl_2, zl_1, zl_0]; rfl) ?_
  unfold zt_X11_copyBytes at h
  refine z_lconst (v := 0) dX11_copyBytes_0 (by decide) ?_
  refine z_lstore (i := 4) (lv' := [(4, zv s0 1 0), (0, zv s0 2 84), (1, zv s0 1 k), (3, zv s0 0 b)]) dX11_copyBytes_1 (by decide) (by simp [zv_cat0, zv_cat1, zv_cat2, zv_cats]) ?_
  exact rt_lfew [1, 2, 3, 0] rfl h

abbrev zg_X11_skip_149 (l : Launch) (s0 : State) (G : va_G) (ca : Nat → ClassId) (d : Nat) (C : Nat × Nat) (S : zS) (w0 : rt_Wd)  (v1 : Int) (v3 : Int)  (M : zM) (Q : Int → zM → Prop) (X : zM → Prop) : Prop := rt_Go l s0 G RX11 "skip" cX11_skip 7 (Option.none : Option FieldType) [] d w0 (zQ s0 ca 9 C S Q X) 149 [(0, zv s0 2 84), (1, zv s0 2 v1), (3, zv s0 0 v3)] [] (zw s0 ca C S M)
abbrev zg_X11_skip_185 (l : Launch) (s0 : State) (G : va_G) (ca : Nat → ClassId) (d : Nat) (C : Nat × Nat) (S : zS) (w0 : rt_Wd)  (v1 : Int) (v2 : Int) (v3 : Int) (v5 : Int)  (M : zM) (Q : Int → zM → Prop) (X : zM → Prop) : Prop := rt_Go l s0 G RX11 "skip" cX11_skip 7 (Option.none : Option FieldType) [] d w0 (zQ s0 ca 9 C S Q X) 185 [(0, zv s0 2 84), (1, zv s0 2 v1), (2, zv s0 0 v2), (3, zv s0 1 v3), (5, zv s0 1 v5)] [] (zw s0 ca C S M)
abbrev zg_X11_skip_212 (l : Launch) (s0 : State) (G : va_G) (ca : Nat → ClassId) (d : Nat) (C : Nat × Nat) (S : zS) (w0 : rt_Wd)  (v1 : Int) (v2 : Int) (v3 : Int) (v5 : Int)  (M : zM) (Q : Int → zM → Prop) (X : zM → Prop) : Prop := rt_Go l s0 G RX11 "skip" cX11_skip 7 (Option.none : Option FieldType) [] d w0 (zQ s0 ca 9 C S Q X) 212 [(0, zv s0 2 84), (1, zv s0 2 v1), (2, zv s0 0 v2), (3, zv s0 1 v3), (5, zv s0 1 v5)] [] (zw s0 ca C S M)
def zt_X11_skip_149 (l : Launch) (s0 : State) (G : va_G) (ca : Nat → ClassId) (d : Nat) (C : Nat × Nat) (S : zS) (w0 : rt_Wd)  (v1 : Int) (v3 : Int)  (M : zM) (Q : Int → zM → Prop) (X : zM → Prop) : Prop :=
  zIf (w32 v3 < 0) (Q 0 M) (zTx S v1 ∧ ((0 ≤ v3 ∧ v3 < 2200) ∧ (zm_X11_skip l s0 G ca (d - 1) C S v1 (M (v1 + 15) v3) M (fun r161 M161 => zg_X11_skip_149 l s0 G ca d C S w0  v1 (M161 (v1 + 18) v3) M161 Q X) X)))
set_option maxRecDepth 100000 in
theorem zs_X11_skip_149 {l : Launch} {s0 : State} {a0 : Array Value} {G : va_G} {ca : Nat → ClassId} (Γ : rt_Γ l s0 a0 G ca) {d : Nat} {C : Nat × Nat} {S : zS} (hd : 1 ≤ d) (hok : zok C)  (hs : zSok S) {w0 : rt_Wd} {v1 : Int} {v3 : Int}   {M : zM} {Q : Int → zM → Prop} {X : zM → Prop} (h : zt_X11_skip_149 l s0 G ca d C S w0  v1 v3 M Q X) : zg_X11_skip_149 l s0 G ca d C S w0  v1 v3 M Q X := by
  unfold zt_X11_skip_149 at h
  refine z_iload_n dX11_skip_149 rfl (j := 2) rfl ?_
  refine z_if_lt (tgt := 174) (x' := w32 v3) rfl dX11_skip_150 (by decide) (fun c150 => ?_) (fun c150 => ?_)
  · replace h := h.1 c150
    refine rt_goto (tgt := 248) dX11_skip_174 (by decide) ?_
    exact z_vret dX11_skip_248 rfl h
  · replace h := h.2 c150
    refine z_aload_n dX11_skip_153 rfl (j := 0) rfl ?_
    refine z_aload_n dX11_skip_154 rfl (j := 1) rfl ?_
    refine z_aload_n dX11_skip_155 rfl (j := 1) rfl ?_
    obtain ⟨hk0, h⟩ := h
    refine z_getcN Γ kfN_RX11_149 dX11_skip_156 hk0.1 hk0.2.1 rfl ?_
    refine z_iload_n dX11_skip_159 rfl (j := 2) rfl ?_
    obtain ⟨hi160, h⟩ := h
    refine z_iald Γ dX11_skip_160 (by have := hk0.1; omega) hk0.2.2.2.2.2.2.2.2.2.2.2.2.2.2.2.2.1 (by decide) hi160 (v9 := M (v1 + 15) v3) rfl ?_
    refine z_callV Γ kk_X11_skip kc_RX11_263 (As := [zv s0 2 v1, zv s0 0 (M (v1 + 15) v3)]) h (by omega) (by decide) (show (parseMethodDescriptor yX11_skip.desc).map (fun q => q.parameters.length) = some 2 by decide +kernel) hok (Nat.zero_le _) dX11_skip_161 (by decide) (hs 84 _ rfl) rfl rfl (fun _ h9 => nomatch h9) ?_
    clear h
    intro r161 M161 h
    show rt_Go _ _ _ _ _ _ _ _ _ _ _ _ 164 [(0, zv s0 2 84), (1, zv s0 2 v1), (3, zv s0 0 v3)] [] (zw s0 ca C S M161)
    refine z_aload_n dX11_skip_164 rfl (j := 1) rfl ?_
    refine z_getcN Γ kfN_RX11_163 dX11_skip_165 hk0.1 hk0.2.1 rfl ?_
    refine z_iload_n dX11_skip_168 rfl (j := 2) rfl ?_
    refine z_iald Γ dX11_skip_169 (by have := hk0.1; omega) hk0.2.2.2.2.2.2.2.2.2.2.2.2.2.2.2.2.2.2.2.1 (by decide) hi160 (v9 := M161 (v1 + 18) v3) rfl ?_
    refine z_istore_n (i := 3) (lv' := [(3, zv s0 0 (M161 (v1 + 18) v3)), (0, zv s0 2 84), (1, zv s0 2 v1)]) dX11_skip_170 rfl (by decide) (by simp [zv_cat0, zv_cat1, zv_cat2, zv_cats]) ?_
    refine rt_goto (tgt := 149) dX11_skip_171 (by decide) ?_
    exact rt_lfew [1, 2, 0] rfl h

def zt_X11_skip_212 (l : Launch) (s0 : State) (G : va_G) (ca : Nat → ClassId) (d : Nat) (C : Nat × Nat) (S : zS) (w0 : rt_Wd)  (v1 : Int) (v2 : Int) (v3 : Int) (v5 : Int)  (M : zM) (Q : Int → zM → Prop) (X : zM → Prop) : Prop :=
  zTx S v1 ∧ ((0 ≤ v2 ∧ v2 < 140) ∧ ((0 ≤ M (v1 + 12) v2 ∧ M (v1 + 12) v2 < 2200) ∧ (zm_X11_skip l s0 G ca (d - 1) C S v1 (M (v1 + 15) (M (v1 + 12) v2)) M (fun r225 M225 => zg_X11_skip_185 l s0 G ca d C S w0  v1 v2 v3 (v5 + 1) M225 Q X) X)))
set_option maxRecDepth 100000 in
theorem zs_X11_skip_212 {l : Launch} {s0 : State} {a0 : Array Value} {G : va_G} {ca : Nat → ClassId} (Γ : rt_Γ l s0 a0 G ca) {d : Nat} {C : Nat × Nat} {S : zS} (hd : 1 ≤ d) (hok : zok C)  (hs : zSok S) {w0 : rt_Wd} {v1 : Int} {v2 : Int} {v3 : Int} {v5 : Int}   {M : zM} {Q : Int → zM → Prop} {X : zM → Prop} (h : zt_X11_skip_212 l s0 G ca d C S w0  v1 v2 v3 v5 M Q X) : zg_X11_skip_212 l s0 G ca d C S w0  v1 v2 v3 v5 M Q X := by
  unfold zt_X11_skip_212 at h
  refine z_aload_n dX11_skip_212 rfl (j := 0) rfl ?_
  refine z_aload_n dX11_skip_213 rfl (j := 1) rfl ?_
  refine z_aload_n dX11_skip_214 rfl (j := 1) rfl ?_
  obtain ⟨hk0, h⟩ := h
  refine z_getcN Γ kfN_RX11_149 dX11_skip_215 hk0.1 hk0.2.1 rfl ?_
  refine z_aload_n dX11_skip_218 rfl (j := 1) rfl ?_
  refine z_getcN Γ kfN_RX11_160 dX11_skip_219 hk0.1 hk0.2.1 rfl ?_
  refine z_iload_n dX11_skip_222 rfl (j := 2) rfl ?_
  obtain ⟨hi223, h⟩ := h
  refine z_iald Γ dX11_skip_223 (by have := hk0.1; omega) hk0.2.2.2.2.2.2.2.2.2.2.2.2.2.1 (by decide) hi223 (v9 := M (v1 + 12) v2) rfl ?_
  obtain ⟨hi224, h⟩ := h
  refine z_iald Γ dX11_skip_224 (by have := hk0.1; omega) hk0.2.2.2.2.2.2.2.2.2.2.2.2.2.2.2.2.1 (by decide) hi224 (v9 := M (v1 + 15) (M (v1 + 12) v2)) rfl ?_
  refine z_callV Γ kk_X11_skip kc_RX11_263 (As := [zv s0 2 v1, zv s0 0 (M (v1 + 15) (M (v1 + 12) v2))]) h (by omega) (by decide) (show (parseMethodDescriptor yX11_skip.desc).map (fun q => q.parameters.length) = some 2 by decide +kernel) hok (Nat.zero_le _) dX11_skip_225 (by decide) (hs 84 _ rfl) rfl rfl (fun _ h9 => nomatch h9) ?_
  clear h
  intro r225 M225 h
  show rt_Go _ _ _ _ _ _ _ _ _ _ _ _ 228 [(0, zv s0 2 84), (1, zv s0 2 v1), (2, zv s0 0 v2), (3, zv s0 1 v3), (5, zv s0 1 v5)] [] (zw s0 ca C S M225)
  refine z_lload dX11_skip_228 (j := 4) rfl ?_
  refine z_lconst (v := 1) dX11_skip_230 (by decide) ?_
  refine z_ladd dX11_skip_231 ?_
  refine z_lstore (i := 5) (lv' := [(5, zv s0 1 (v5 + 1)), (0, zv s0 2 84), (1, zv s0 2 v1), (2, zv s0 0 v2), (3, zv s0 1 v3)]) dX11_skip_232 (by decide) (by simp [zv_cat0, zv_cat1, zv_cat2, zv_cats]) ?_
  refine rt_goto (tgt := 185) dX11_skip_234 (by decide) ?_
  exact rt_lfew [1, 2, 3, 4, 0] rfl h

def zt_X11_skip_185 (l : Launch) (s0 : State) (G : va_G) (ca : Nat → ClassId) (d : Nat) (C : Nat × Nat) (S : zS) (w0 : rt_Wd)  (v1 : Int) (v2 : Int) (v3 : Int) (v5 : Int)  (M : zM) (Q : Int → zM → Prop) (X : zM → Prop) : Prop :=
  zIf (w64 v3 ≤ w64 v5) (zIf (w64 v3 ≤ 0) (Q 0 M) (zm_X11_readVarint l s0 G ca (d - 1) C S  M (fun r244 M244 => Q 0 M244) X)) (zTx S v1 ∧ ((0 ≤ v2 ∧ v2 < 140) ∧ (zIf (w32 (M (v1 + 9) v2) = 7) (zm_X11_readVarint l s0 G ca (d - 1) C S  M (fun r205 M205 => zm_X11_copyBytes l s0 G ca (d - 1) C S r205 0 M205 (fun r209 M209 => zt_X11_skip_212 l s0 G ca d C S w0  v1 v2 v3 v5 M209 Q X) X) X) (zt_X11_skip_212 l s0 G ca d C S w0  v1 v2 v3 v5 M Q X))))
set_option maxRecDepth 100000 in
theorem zs_X11_skip_185 {l : Launch} {s0 : State} {a0 : Array Value} {G : va_G} {ca : Nat → ClassId} (Γ : rt_Γ l s0 a0 G ca) {d : Nat} {C : Nat × Nat} {S : zS} (hd : 1 ≤ d) (hok : zok C)  (hs : zSok S) {w0 : rt_Wd} {v1 : Int} {v2 : Int} {v3 : Int} {v5 : Int}   {M : zM} {Q : Int → zM → Prop} {X : zM → Prop} (h : zt_X11_skip_185 l s0 G ca d C S w0  v1 v2 v3 v5 M Q X) : zg_X11_skip_185 l s0 G ca d C S w0  v1 v2 v3 v5 M Q X := by
  unfold zt_X11_skip_185 at h
  refine z_lload dX11_skip_185 (j := 4) rfl ?_
  refine z_lload_n dX11_skip_187 rfl (j := 3) rfl ?_
  refine z_lif_ge (tgt := 237) (x' := w64 v5) (y' := w64 v3) rfl rfl dX11_skip_188 dX11_skip_189 (by decide) (fun c188 => ?_) (fun c188 => ?_)
  · replace h := h.1 c188
    refine z_lload_n dX11_skip_237 rfl (j := 3) rfl ?_
    refine z_lconst (v := 0) dX11_skip_238 (by decide) ?_
    refine z_lif_le (tgt := 248) (x' := w64 v3) (y' := 0) rfl (by decide) dX11_skip_239 dX11_skip_240 (by decide) (fun c239 => ?_) (fun c239 => ?_)
    · replace h := h.1 c239
      exact z_vret dX11_skip_248 rfl h
    · replace h := h.2 c239
      refine z_aload_n dX11_skip_243 rfl (j := 0) rfl ?_
      refine z_callV Γ kk_X11_readVarint kc_RX11_256 (As := []) h (by omega) (by decide) (show (parseMethodDescriptor yX11_readVarint.desc).map (fun q => q.parameters.length) = some 0 by decide +kernel) hok (Nat.zero_le _) dX11_skip_244 (by decide) (hs 84 _ rfl) rfl rfl (fun _ h9 => nomatch h9) ?_
      clear h
      intro r244 M244 h
      show rt_Go _ _ _ _ _ _ _ _ _ _ _ _ 247 [(0, zv s0 2 84), (1, zv s0 2 v1), (2, zv s0 0 v2), (3, zv s0 1 v3), (5, zv s0 1 v5)] [zv s0 1 r244] (zw s0 ca C S M244)
      refine z_pop2L dX11_skip_247 ?_
      exact z_vret dX11_skip_248 rfl h
  · replace h := h.2 c188
    refine z_aload_n dX11_skip_192 rfl (j := 1) rfl ?_
    obtain ⟨hk0, h⟩ := h
    refine z_getcN Γ kfN_RX11_132 dX11_skip_193 hk0.1 hk0.2.1 rfl ?_
    refine z_iload_n dX11_skip_196 rfl (j := 2) rfl ?_
    obtain ⟨hi197, h⟩ := h
    refine z_iald Γ dX11_skip_197 (by have := hk0.1; omega) hk0.2.2.2.2.2.2.2.2.2.2.1 (by decide) hi197 (v9 := M (v1 + 9) v2) rfl ?_
    refine z_bipush dX11_skip_198 (by decide) ?_
    refine z_icmp_ne (tgt := 212) (x' := w32 (M (v1 + 9) v2)) (y' := 7) rfl (by decide) dX11_skip_200 (by decide) (fun c200 => ?_) (fun c200 => ?_)
    · replace h := h.2 c200
      exact rt_lfew [0, 1, 2, 3, 4] rfl (zs_X11_skip_212 Γ hd hok hs  h)
    · replace h := h.1 c200
      refine z_aload_n dX11_skip_203 rfl (j := 0) rfl ?_
      refine z_aload_n dX11_skip_204 rfl (j := 0) rfl ?_
      refine z_callV Γ kk_X11_readVarint kc_RX11_256 (As := []) h (by omega) (by decide) (show (parseMethodDescriptor yX11_readVarint.desc).map (fun q => q.parameters.length) = some 0 by decide +kernel) hok (by simp only [List.map, zv_cat0, zv_cat1, zv_cat2, List.sum_cons, List.sum_nil]; decide) dX11_skip_205 (by decide) (hs 84 _ rfl) rfl rfl (fun _ h9 => nomatch h9) ?_
      clear h
      intro r205 M205 h
      show rt_Go _ _ _ _ _ _ _ _ _ _ _ _ 208 [(0, zv s0 2 84), (1, zv s0 2 v1), (2, zv s0 0 v2), (3, zv s0 1 v3), (5, zv s0 1 v5)] [zv s0 1 r205, zv s0 2 84] (zw s0 ca C S M205)
      refine z_iconst dX11_skip_208 ?_
      refine z_callV Γ kk_X11_copyBytes kc_RX11_259 (As := [zv s0 1 r205, zv s0 0 0]) h (by omega) (by decide) (show (parseMethodDescriptor yX11_copyBytes.desc).map (fun q => q.parameters.length) = some 2 by decide +kernel) hok (Nat.zero_le _) dX11_skip_209 (by decide) (hs 84 _ rfl) rfl rfl (fun _ h9 => nomatch h9) ?_
      clear h
      intro r209 M209 h
      show rt_Go _ _ _ _ _ _ _ _ _ _ _ _ 212 [(0, zv s0 2 84), (1, zv s0 2 v1), (2, zv s0 0 v2), (3, zv s0 1 v3), (5, zv s0 1 v5)] [] (zw s0 ca C S M209)
      exact rt_lfew [0, 1, 2, 3, 4] rfl (zs_X11_skip_212 Γ hd hok hs  h)

def zt_X11_skip (l : Launch) (s0 : State) (G : va_G) (ca : Nat → ClassId) (d : Nat) (C : Nat × Nat) (S : zS) (w0 : rt_Wd)  (a : Int) (w : Int) (M : zM) (Q : Int → zM → Prop) (X : zM → Prop) : Prop :=
  zTx S a ∧ ((0 ≤ w ∧ w < 140) ∧ (zIf (w32 (M (a + 9) w) = 0) (Q 0 M) (zIf (w32 (M (a + 9) w) = 1) (Q 0 ((zu M 84 24 ((M 84 24) + 1)))) (zIf (w32 (M (a + 9) w) = 2) (zm_X11_readVarint l s0 G ca (d - 1) C S  M (fun r85 M85 => Q 0 M85) X) (zIf (w32 (M (a + 9) w) = 3) (zm_X11_readVarint l s0 G ca (d - 1) C S  M (fun r85 M85 => Q 0 M85) X) (zIf (w32 (M (a + 9) w) = 4) (zm_X11_readVarint l s0 G ca (d - 1) C S  M (fun r94 M94 => zm_X11_copyBytes l s0 G ca (d - 1) C S r94 0 M94 (fun r98 M98 => Q 0 M98) X) X) (zIf (w32 (M (a + 9) w) = 5) (zm_X11_readVarint l s0 G ca (d - 1) C S  M (fun r94 M94 => zm_X11_copyBytes l s0 G ca (d - 1) C S r94 0 M94 (fun r98 M98 => Q 0 M98) X) X) (zIf (w32 (M (a + 9) w) = 8) (zm_X11_readVarint l s0 G ca (d - 1) C S  M (fun r128 M128 => zm_X10_kid l s0 G ca (d - 1) C S a w r128 M128 (fun r132 M132 => (0 ≤ r132 ∧ r132 < 2200) ∧ (zm_X11_skip l s0 G ca (d - 1) C S a (M132 (a + 15) r132) M132 (fun r136 M136 => Q 0 M136) X)) X) X) (zIf (w32 (M (a + 9) w) = 9) (zm_X11_copyBytes l s0 G ca (d - 1) C S (w32 (M (a + 11) w)) 0 M (fun r113 M113 => Q 0 M113) X) (zIf (w32 (M (a + 9) w) = 10) (zm_X11_readVarint l s0 G ca (d - 1) C S  M (fun r85 M85 => Q 0 M85) X) (zIf (w32 (M (a + 9) w) = 11) (zg_X11_skip_149 l s0 G ca d C S w0  a (M (a + 12) w) M Q X) (zm_X11_readVarint l s0 G ca (d - 1) C S  M (fun r178 M178 => zg_X11_skip_185 l s0 G ca d C S w0  a w r178 0 M178 Q X) X))))))))))))
set_option maxRecDepth 100000 in
theorem z_X11_skip {l : Launch} {s0 : State} {a0 : Array Value} {G : va_G} {ca : Nat → ClassId} (Γ : rt_Γ l s0 a0 G ca) {d : Nat} {C : Nat × Nat} {S : zS} (hd : 1 ≤ d) (hok : zok C)  (hs : zSok S) {a : Int} {w : Int} {M : zM} {Q : Int → zM → Prop} {X : zM → Prop} (h : zt_X11_skip l s0 G ca d C S (zw s0 ca C S M)  a w M Q X) : zm_X11_skip l s0 G ca d C S  a w M Q X := by
  refine z_met (lv := [(0, zv s0 2 84), (1, zv s0 2 a), (2, zv s0 0 w)]) Γ kk_X11_skip rfl (show (lg_sl [zv s0 2 84, zv s0 2 a, zv s0 0 w]).length ≤ 7 from by simp only [zn_0, zn_2, show (lg_sl []).length = 0 from rfl]; omega) (show lv_args 0 [zv s0 2 84, zv s0 2 a, zv s0 0 w] = [(0, zv s0 2 84), (1, zv s0 2 a), (2, zv s0 0 w)] from by rw [zl_2, zl_2, zl_0]; rfl) ?_
  unfold zt_X11_skip at h
  refine z_aload_n dX11_skip_0 rfl (j := 1) rfl ?_
  obtain ⟨hk0, h⟩ := h
  refine z_getcN Γ kfN_RX11_132 dX11_skip_1 hk0.1 hk0.2.1 rfl ?_
  refine z_iload_n dX11_skip_4 rfl (j := 2) rfl ?_
  obtain ⟨hi5, h⟩ := h
  refine z_iald Γ dX11_skip_5 (by have := hk0.1; omega) hk0.2.2.2.2.2.2.2.2.2.2.1 (by decide) hi5 (v9 := M (a + 9) w) rfl ?_
  by_cases c6_0 : w32 (M (a + 9) w) = 0
  · replace h := h.1 c6_0
    refine z_tin c6_0 dX11_skip_6 (by decide) (off := 62) (tgt := 68) (by decide) (by decide) ?_
    refine rt_goto (tgt := 248) dX11_skip_68 (by decide) ?_
    exact z_vret dX11_skip_248 rfl h
  replace h := h.2 c6_0
  by_cases c6_1 : w32 (M (a + 9) w) = 1
  · replace h := h.1 c6_1
    refine z_tin c6_1 dX11_skip_6 (by decide) (off := 65) (tgt := 71) (by decide) (by decide) ?_
    refine z_aload_n dX11_skip_71 rfl (j := 0) rfl ?_
    refine z_dup2 dX11_skip_72 ?_
    refine z_get Γ kf_RX11_253 dX11_skip_73 (by decide) (hs 84 _ rfl) rfl (by decide) (v9 := M 84 24) rfl ?_
    refine z_iconst dX11_skip_76 ?_
    refine z_iadd dX11_skip_77 ?_
    refine z_put0 Γ kp_RX11_253 dX11_skip_78 (by decide) (hs 84 _ rfl) rfl (k9 := 24) rfl ?_
    refine rt_goto (tgt := 248) dX11_skip_81 (by decide) ?_
    exact z_vret dX11_skip_248 rfl h
  replace h := h.2 c6_1
  by_cases c6_2 : w32 (M (a + 9) w) = 2
  · replace h := h.1 c6_2
    refine z_tin c6_2 dX11_skip_6 (by decide) (off := 78) (tgt := 84) (by decide) (by decide) ?_
    refine z_aload_n dX11_skip_84 rfl (j := 0) rfl ?_
    refine z_callV Γ kk_X11_readVarint kc_RX11_256 (As := []) h (by omega) (by decide) (show (parseMethodDescriptor yX11_readVarint.desc).map (fun q => q.parameters.length) = some 0 by decide +kernel) hok (Nat.zero_le _) dX11_skip_85 (by decide) (hs 84 _ rfl) rfl rfl (fun _ h9 => nomatch h9) ?_
    clear h
    intro r85 M85 h
    show rt_Go _ _ _ _ _ _ _ _ _ _ _ _ 88 [(0, zv s0 2 84), (1, zv s0 2 a), (2, zv s0 0 w)] [zv s0 1 r85] (zw s0 ca C S M85)
    refine z_pop2L dX11_skip_88 ?_
    refine rt_goto (tgt := 248) dX11_skip_89 (by decide) ?_
    exact z_vret dX11_skip_248 rfl h
  replace h := h.2 c6_2
  by_cases c6_3 : w32 (M (a + 9) w) = 3
  · replace h := h.1 c6_3
    refine z_tin c6_3 dX11_skip_6 (by decide) (off := 78) (tgt := 84) (by decide) (by decide) ?_
    refine z_aload_n dX11_skip_84 rfl (j := 0) rfl ?_
    refine z_callV Γ kk_X11_readVarint kc_RX11_256 (As := []) h (by omega) (by decide) (show (parseMethodDescriptor yX11_readVarint.desc).map (fun q => q.parameters.length) = some 0 by decide +kernel) hok (Nat.zero_le _) dX11_skip_85 (by decide) (hs 84 _ rfl) rfl rfl (fun _ h9 => nomatch h9) ?_
    clear h
    intro r85 M85 h
    show rt_Go _ _ _ _ _ _ _ _ _ _ _ _ 88 [(0, zv s0 2 84), (1, zv s0 2 a), (2, zv s0 0 w)] [zv s0 1 r85] (zw s0 ca C S M85)
    refine z_pop2L dX11_skip_88 ?_
    refine rt_goto (tgt := 248) dX11_skip_89 (by decide) ?_
    exact z_vret dX11_skip_248 rfl h
  replace h := h.2 c6_3
  by_cases c6_4 : w32 (M (a + 9) w) = 4
  · replace h := h.1 c6_4
    refine z_tin c6_4 dX11_skip_6 (by decide) (off := 86) (tgt := 92) (by decide) (by decide) ?_
    refine z_aload_n dX11_skip_92 rfl (j := 0) rfl ?_
    refine z_aload_n dX11_skip_93 rfl (j := 0) rfl ?_
    refine z_callV Γ kk_X11_readVarint kc_RX11_256 (As := []) h (by omega) (by decide) (show (parseMethodDescriptor yX11_readVarint.desc).map (fun q => q.parameters.length) = some 0 by decide +kernel) hok (by simp only [List.map, zv_cat0, zv_cat1, zv_cat2, List.sum_cons, List.sum_nil]; decide) dX11_skip_94 (by decide) (hs 84 _ rfl) rfl rfl (fun _ h9 => nomatch h9) ?_
    clear h
    intro r94 M94 h
    show rt_Go _ _ _ _ _ _ _ _ _ _ _ _ 97 [(0, zv s0 2 84), (1, zv s0 2 a), (2, zv s0 0 w)] [zv s0 1 r94, zv s0 2 84] (zw s0 ca C S M94)
    refine z_iconst dX11_skip_97 ?_
    refine z_callV Γ kk_X11_copyBytes kc_RX11_259 (As := [zv s0 1 r94, zv s0 0 0]) h (by omega) (by decide) (show (parseMethodDescriptor yX11_copyBytes.desc).map (fun q => q.parameters.length) = some 2 by decide +kernel) hok (Nat.zero_le _) dX11_skip_98 (by decide) (hs 84 _ rfl) rfl rfl (fun _ h9 => nomatch h9) ?_
    clear h
    intro r98 M98 h
    show rt_Go _ _ _ _ _ _ _ _ _ _ _ _ 101 [(0, zv s0 2 84), (1, zv s0 2 a), (2, zv s0 0 w)] [] (zw s0 ca C S M98)
    refine rt_goto (tgt := 248) dX11_skip_101 (by decide) ?_
    exact z_vret dX11_skip_248 rfl h
  replace h := h.2 c6_4
  by_cases c6_5 : w32 (M (a + 9) w) = 5
  · replace h := h.1 c6_5
    refine z_tin c6_5 dX11_skip_6 (by decide) (off := 86) (tgt := 92) (by decide) (by decide) ?_
    refine z_aload_n dX11_skip_92 rfl (j := 0) rfl ?_
    refine z_aload_n dX11_skip_93 rfl (j := 0) rfl ?_
    refine z_callV Γ kk_X11_readVarint kc_RX11_256 (As := []) h (by omega) (by decide) (show (parseMethodDescriptor yX11_readVarint.desc).map (fun q => q.parameters.length) = some 0 by decide +kernel) hok (by simp only [List.map, zv_cat0, zv_cat1, zv_cat2, List.sum_cons, List.sum_nil]; decide) dX11_skip_94 (by decide) (hs 84 _ rfl) rfl rfl (fun _ h9 => nomatch h9) ?_
    clear h
    intro r94 M94 h
    show rt_Go _ _ _ _ _ _ _ _ _ _ _ _ 97 [(0, zv s0 2 84), (1, zv s0 2 a), (2, zv s0 0 w)] [zv s0 1 r94, zv s0 2 84] (zw s0 ca C S M94)
    refine z_iconst dX11_skip_97 ?_
    refine z_callV Γ kk_X11_copyBytes kc_RX11_259 (As := [zv s0 1 r94, zv s0 0 0]) h (by omega) (by decide) (show (parseMethodDescriptor yX11_copyBytes.desc).map (fun q => q.parameters.length) = some 2 by decide +kernel) hok (Nat.zero_le _) dX11_skip_98 (by decide) (hs 84 _ rfl) rfl rfl (fun _ h9 => nomatch h9) ?_
    clear h
    intro r98 M98 h
    show rt_Go _ _ _ _ _ _ _ _ _ _ _ _ 101 [(0, zv s0 2 84), (1, zv s0 2 a), (2, zv s0 0 w)] [] (zw s0 ca C S M98)
    refine rt_goto (tgt := 248) dX11_skip_101 (by decide) ?_
    exact z_vret dX11_skip_248 rfl h
  replace h := h.2 c6_5
  by_cases c6_8 : w32 (M (a + 9) w) = 8
  · replace h := h.1 c6_8
    refine z_tin c6_8 dX11_skip_6 (by decide) (off := 113) (tgt := 119) (by decide) (by decide) ?_
    refine z_aload_n dX11_skip_119 rfl (j := 0) rfl ?_
    refine z_aload_n dX11_skip_120 rfl (j := 1) rfl ?_
    refine z_aload_n dX11_skip_121 rfl (j := 1) rfl ?_
    refine z_getcN Γ kfN_RX11_149 dX11_skip_122 hk0.1 hk0.2.1 rfl ?_
    refine z_aload_n dX11_skip_125 rfl (j := 1) rfl ?_
    refine z_iload_n dX11_skip_126 rfl (j := 2) rfl ?_
    refine z_aload_n dX11_skip_127 rfl (j := 0) rfl ?_
    refine z_callV Γ kk_X11_readVarint kc_RX11_256 (As := []) h (by omega) (by decide) (show (parseMethodDescriptor yX11_readVarint.desc).map (fun q => q.parameters.length) = some 0 by decide +kernel) hok (by simp only [List.map, zv_cat0, zv_cat1, zv_cat2, List.sum_cons, List.sum_nil]; decide) dX11_skip_128 (by decide) (hs 84 _ rfl) rfl rfl (fun _ h9 => nomatch h9) ?_
    clear h
    intro r128 M128 h
    show rt_Go _ _ _ _ _ _ _ _ _ _ _ _ 131 [(0, zv s0 2 84), (1, zv s0 2 a), (2, zv s0 0 w)] [zv s0 1 r128, zv s0 0 w, zv s0 2 a, zv s0 2 (a + 15), zv s0 2 a, zv s0 2 84] (zw s0 ca C S M128)
    refine z_l2i dX11_skip_131 ?_
    refine z_callVN Γ kk_X10_kid kc_RX11_152 (As := [zv s0 0 w, zv s0 0 r128]) h (by omega) (by decide) (show (parseMethodDescriptor yX10_kid.desc).map (fun q => q.parameters.length) = some 2 by decide +kernel) hok (by simp only [List.map, zv_cat0, zv_cat1, zv_cat2, List.sum_cons, List.sum_nil]; decide) dX11_skip_132 hk0.1 hk0.2.1 rfl rfl (fun _ h9 => nomatch h9) ?_
    clear h
    intro r132 M132 h
    show rt_Go _ _ _ _ _ _ _ _ _ _ _ _ 135 [(0, zv s0 2 84), (1, zv s0 2 a), (2, zv s0 0 w)] [zv s0 0 r132, zv s0 2 (a + 15), zv s0 2 a, zv s0 2 84] (zw s0 ca C S M132)
    obtain ⟨hi135, h⟩ := h
    refine z_iald Γ dX11_skip_135 (by have := hk0.1; omega) hk0.2.2.2.2.2.2.2.2.2.2.2.2.2.2.2.2.1 (by decide) hi135 (v9 := M132 (a + 15) r132) rfl ?_
    refine z_callV Γ kk_X11_skip kc_RX11_263 (As := [zv s0 2 a, zv s0 0 (M132 (a + 15) r132)]) h (by omega) (by decide) (show (parseMethodDescriptor yX11_skip.desc).map (fun q => q.parameters.length) = some 2 by decide +kernel) hok (Nat.zero_le _) dX11_skip_136 (by decide) (hs 84 _ rfl) rfl rfl (fun _ h9 => nomatch h9) ?_
    clear h
    intro r136 M136 h
    show rt_Go _ _ _ _ _ _ _ _ _ _ _ _ 139 [(0, zv s0 2 84), (1, zv s0 2 a), (2, zv s0 0 w)] [] (zw s0 ca C S M136)
    refine rt_goto (tgt := 248) dX11_skip_139 (by decide) ?_
    exact z_vret dX11_skip_248 rfl h
  replace h := h.2 c6_8
  by_cases c6_9 : w32 (M (a + 9) w) = 9
  · replace h := h.1 c6_9
    refine z_tin c6_9 dX11_skip_6 (by decide) (off := 98) (tgt := 104) (by decide) (by decide) ?_
    refine z_aload_n dX11_skip_104 rfl (j := 0) rfl ?_
    refine z_aload_n dX11_skip_105 rfl (j := 1) rfl ?_
    refine z_getcN Γ kfN_RX11_143 dX11_skip_106 hk0.1 hk0.2.1 rfl ?_
    refine z_iload_n dX11_skip_109 rfl (j := 2) rfl ?_
    refine z_iald Γ dX11_skip_110 (by have := hk0.1; omega) hk0.2.2.2.2.2.2.2.2.2.2.2.2.1 (by decide) hi5 (v9 := M (a + 11) w) rfl ?_
    refine z_i2l dX11_skip_111 ?_
    refine z_iconst dX11_skip_112 ?_
    refine z_callV Γ kk_X11_copyBytes kc_RX11_259 (As := [zv s0 1 (w32 (M (a + 11) w)), zv s0 0 0]) h (by omega) (by decide) (show (parseMethodDescriptor yX11_copyBytes.desc).map (fun q => q.parameters.length) = some 2 by decide +kernel) hok (Nat.zero_le _) dX11_skip_113 (by decide) (hs 84 _ rfl) rfl rfl (fun _ h9 => nomatch h9) ?_
    clear h
    intro r113 M113 h
    show rt_Go _ _ _ _ _ _ _ _ _ _ _ _ 116 [(0, zv s0 2 84), (1, zv s0 2 a), (2, zv s0 0 w)] [] (zw s0 ca C S M113)
    refine rt_goto (tgt := 248) dX11_skip_116 (by decide) ?_
    exact z_vret dX11_skip_248 rfl h
  replace h := h.2 c6_9
  by_cases c6_10 : w32 (M (a + 9) w) = 10
  · replace h := h.1 c6_10
    refine z_tin c6_10 dX11_skip_6 (by decide) (off := 78) (tgt := 84) (by decide) (by decide) ?_
    refine z_aload_n dX11_skip_84 rfl (j := 0) rfl ?_
    refine z_callV Γ kk_X11_readVarint kc_RX11_256 (As := []) h (by omega) (by decide) (show (parseMethodDescriptor yX11_readVarint.desc).map (fun q => q.parameters.length) = some 0 by decide +kernel) hok (Nat.zero_le _) dX11_skip_85 (by decide) (hs 84 _ rfl) rfl rfl (fun _ h9 => nomatch h9) ?_
    clear h
    intro r85 M85 h
    show rt_Go _ _ _ _ _ _ _ _ _ _ _ _ 88 [(0, zv s0 2 84), (1, zv s0 2 a), (2, zv s0 0 w)] [zv s0 1 r85] (zw s0 ca C S M85)
    refine z_pop2L dX11_skip_88 ?_
    refine rt_goto (tgt := 248) dX11_skip_89 (by decide) ?_
    exact z_vret dX11_skip_248 rfl h
  replace h := h.2 c6_10
  by_cases c6_11 : w32 (M (a + 9) w) = 11
  · replace h := h.1 c6_11
    refine z_tin c6_11 dX11_skip_6 (by decide) (off := 136) (tgt := 142) (by decide) (by decide) ?_
    refine z_aload_n dX11_skip_142 rfl (j := 1) rfl ?_
    refine z_getcN Γ kfN_RX11_160 dX11_skip_143 hk0.1 hk0.2.1 rfl ?_
    refine z_iload_n dX11_skip_146 rfl (j := 2) rfl ?_
    refine z_iald Γ dX11_skip_147 (by have := hk0.1; omega) hk0.2.2.2.2.2.2.2.2.2.2.2.2.2.1 (by decide) hi5 (v9 := M (a + 12) w) rfl ?_
    refine z_istore_n (i := 3) (lv' := [(3, zv s0 0 (M (a + 12) w)), (0, zv s0 2 84), (1, zv s0 2 a), (2, zv s0 0 w)]) dX11_skip_148 rfl (by decide) (by simp [zv_cat0, zv_cat1, zv_cat2, zv_cats]) ?_
    exact rt_lfew [1, 2, 0] rfl h
  replace h := h.2 c6_11
  by_cases c6_6 : w32 (M (a + 9) w) = 6
  · refine z_tin c6_6 dX11_skip_6 (by decide) (off := 171) (tgt := 177) (by decide) (by decide) ?_
    refine z_aload_n dX11_skip_177 rfl (j := 0) rfl ?_
    refine z_callV Γ kk_X11_readVarint kc_RX11_256 (As := []) h (by omega) (by decide) (show (parseMethodDescriptor yX11_readVarint.desc).map (fun q => q.parameters.length) = some 0 by decide +kernel) hok (Nat.zero_le _) dX11_skip_178 (by decide) (hs 84 _ rfl) rfl rfl (fun _ h9 => nomatch h9) ?_
    clear h
    intro r178 M178 h
    show rt_Go _ _ _ _ _ _ _ _ _ _ _ _ 181 [(0, zv s0 2 84), (1, zv s0 2 a), (2, zv s0 0 w)] [zv s0 1 r178] (zw s0 ca C S M178)
    refine z_lstore_n (i := 3) (lv' := [(3, zv s0 1 r178), (0, zv s0 2 84), (1, zv s0 2 a), (2, zv s0 0 w)]) dX11_skip_181 rfl (by decide) (by simp [zv_cat0, zv_cat1, zv_cat2, zv_cats]) ?_
    refine z_lconst (v := 0) dX11_skip_182 (by decide) ?_
    refine z_lstore (i := 5) (lv' := [(5, zv s0 1 0), (3, zv s0 1 r178), (0, zv s0 2 84), (1, zv s0 2 a), (2, zv s0 0 w)]) dX11_skip_183 (by decide) (by simp [zv_cat0, zv_cat1, zv_cat2, zv_cats]) ?_
    exact rt_lfew [2, 3, 4, 1, 0] rfl h
  by_cases c6_7 : w32 (M (a + 9) w) = 7
  · refine z_tin c6_7 dX11_skip_6 (by decide) (off := 171) (tgt := 177) (by decide) (by decide) ?_
    refine z_aload_n dX11_skip_177 rfl (j := 0) rfl ?_
    refine z_callV Γ kk_X11_readVarint kc_RX11_256 (As := []) h (by omega) (by decide) (show (parseMethodDescriptor yX11_readVarint.desc).map (fun q => q.parameters.length) = some 0 by decide +kernel) hok (Nat.zero_le _) dX11_skip_178 (by decide) (hs 84 _ rfl) rfl rfl (fun _ h9 => nomatch h9) ?_
    clear h
    intro r178 M178 h
    show rt_Go _ _ _ _ _ _ _ _ _ _ _ _ 181 [(0, zv s0 2 84), (1, zv s0 2 a), (2, zv s0 0 w)] [zv s0 1 r178] (zw s0 ca C S M178)
    refine z_lstore_n (i := 3) (lv' := [(3, zv s0 1 r178), (0, zv s0 2 84), (1, zv s0 2 a), (2, zv s0 0 w)]) dX11_skip_181 rfl (by decide) (by simp [zv_cat0, zv_cat1, zv_cat2, zv_cats]) ?_
    refine z_lconst (v := 0) dX11_skip_182 (by decide) ?_
    refine z_lstore (i := 5) (lv' := [(5, zv s0 1 0), (3, zv s0 1 r178), (0, zv s0 2 84), (1, zv s0 2 a), (2, zv s0 0 w)]) dX11_skip_183 (by decide) (by simp [zv_cat0, zv_cat1, zv_cat2, zv_cats]) ?_
    exact rt_lfew [2, 3, 4, 1, 0] rfl h
  refine z_tout dX11_skip_6 (show w32 (M (a + 9) w) < 0 ∨ 11 < w32 (M (a + 9) w) from by omega) (tgt := 177) (by decide) ?_
  refine z_aload_n dX11_skip_177 rfl (j := 0) rfl ?_
  refine z_callV Γ kk_X11_readVarint kc_RX11_256 (As := []) h (by omega) (by decide) (show (parseMethodDescriptor yX11_readVarint.desc).map (fun q => q.parameters.length) = some 0 by decide +kernel) hok (Nat.zero_le _) dX11_skip_178 (by decide) (hs 84 _ rfl) rfl rfl (fun _ h9 => nomatch h9) ?_
  clear h
  intro r178 M178 h
  show rt_Go _ _ _ _ _ _ _ _ _ _ _ _ 181 [(0, zv s0 2 84), (1, zv s0 2 a), (2, zv s0 0 w)] [zv s0 1 r178] (zw s0 ca C S M178)
  refine z_lstore_n (i := 3) (lv' := [(3, zv s0 1 r178), (0, zv s0 2 84), (1, zv s0 2 a), (2, zv s0 0 w)]) dX11_skip_181 rfl (by decide) (by simp [zv_cat0, zv_cat1, zv_cat2, zv_cats]) ?_
  refine z_lconst (v := 0) dX11_skip_182 (by decide) ?_
  refine z_lstore (i := 5) (lv' := [(5, zv s0 1 0), (3, zv s0 1 r178), (0, zv s0 2 84), (1, zv s0 2 a), (2, zv s0 0 w)]) dX11_skip_183 (by decide) (by simp [zv_cat0, zv_cat1, zv_cat2, zv_cats]) ?_
  exact rt_lfew [2, 3, 4, 1, 0] rfl h

def zt_X11_unresolved (l : Launch) (s0 : State) (G : va_G) (ca : Nat → ClassId) (d : Nat) (C : Nat × Nat) (S : zS) (w0 : rt_Wd)   (M : zM) (Q : Int → zM → Prop) (X : zM → Prop) : Prop :=
  zm_X11_failBytes l s0 G ca (d - 1) C S 20 0 M (fun r4 M4 => Q 0 M4) X
set_option maxRecDepth 100000 in
theorem z_X11_unresolved {l : Launch} {s0 : State} {a0 : Array Value} {G : va_G} {ca : Nat → ClassId} (Γ : rt_Γ l s0 a0 G ca) {d : Nat} {C : Nat × Nat} {S : zS} (hd : 1 ≤ d) (hok : zok C)  (hs : zSok S)  {M : zM} {Q : Int → zM → Prop} {X : zM → Prop} (h : zt_X11_unresolved l s0 G ca d C S (zw s0 ca C S M)   M Q X) : zm_X11_unresolved l s0 G ca d C S   M Q X := by
  refine z_met (lv := [(0, zv s0 2 84)]) Γ kk_X11_unresolved rfl (show (lg_sl [zv s0 2 84]).length ≤ 1 from by simp only [zn_2, show (lg_sl []).length = 0 from rfl]; omega) (show lv_args 0 [zv s0 2 84] = [(0, zv s0 2 84)] from by rw [zl_2]; rfl) ?_
  unfold zt_X11_unresolved at h
  refine z_aload_n dX11_unresolved_0 rfl (j := 0) rfl ?_
  refine z_bipush dX11_unresolved_1 (by decide) ?_
  refine z_iconst dX11_unresolved_3 ?_
  refine z_callV Γ kk_X11_failBytes kc_RX11_102 (As := [zv s0 0 20, zv s0 0 0]) h (by omega) (by decide) (show (parseMethodDescriptor yX11_failBytes.desc).map (fun q => q.parameters.length) = some 2 by decide +kernel) hok (Nat.zero_le _) dX11_unresolved_4 (by decide) (hs 84 _ rfl) rfl rfl (fun _ h9 => nomatch h9) ?_
  clear h
  intro r4 M4 h
  show rt_Go _ _ _ _ _ _ _ _ _ _ _ _ 7 [(0, zv s0 2 84)] [] (zw s0 ca C S M4)
  exact z_vret dX11_unresolved_7 rfl h

abbrev zg_X11_tell_70 (l : Launch) (s0 : State) (G : va_G) (ca : Nat → ClassId) (d : Nat) (C : Nat × Nat) (S : zS) (w0 : rt_Wd)  (v1 : Int) (v2 : Int) (v3 : Int) (v4 : Int) (v6 : Int)  (M : zM) (Q : Int → zM → Prop) (X : zM → Prop) : Prop := rt_Go l s0 G RX11 "tell" cX11_tell 11 (Option.none : Option FieldType) [] d w0 (zQ s0 ca 9 C S Q X) 70 [(0, zv s0 2 84), (1, zv s0 2 v1), (2, zv s0 0 v2), (3, zv s0 2 v3), (4, zv s0 0 v4), (6, zv s0 0 v6)] [] (zw s0 ca C S M)
abbrev zg_X11_tell_82 (l : Launch) (s0 : State) (G : va_G) (ca : Nat → ClassId) (d : Nat) (C : Nat × Nat) (S : zS) (w0 : rt_Wd)  (v1 : Int) (v2 : Int) (v3 : Int) (v6 : Int) (v7 : Int) (v8 : Int)  (M : zM) (Q : Int → zM → Prop) (X : zM → Prop) : Prop := rt_Go l s0 G RX11 "tell" cX11_tell 11 (Option.none : Option FieldType) [] d w0 (zQ s0 ca 9 C S Q X) 82 [(0, zv s0 2 84), (1, zv s0 2 v1), (2, zv s0 0 v2), (3, zv s0 2 v3), (6, zv s0 0 v6), (7, zv s0 0 v7), (8, zv s0 0 v8)] [] (zw s0 ca C S M)
abbrev zg_X11_tell_159 (l : Launch) (s0 : State) (G : va_G) (ca : Nat → ClassId) (d : Nat) (C : Nat × Nat) (S : zS) (w0 : rt_Wd)  (v3 : Int) (v4 : Int) (v5 : Int)  (M : zM) (Q : Int → zM → Prop) (X : zM → Prop) : Prop := rt_Go l s0 G RX11 "tell" cX11_tell 11 (Option.none : Option FieldType) [] d w0 (zQ s0 ca 9 C S Q X) 159 [(0, zv s0 2 84), (3, zv s0 2 v3), (4, zv s0 0 v4), (5, zv s0 0 v5)] [] (zw s0 ca C S M)
abbrev zg_X11_tell_235 (l : Launch) (s0 : State) (G : va_G) (ca : Nat → ClassId) (d : Nat) (C : Nat × Nat) (S : zS) (w0 : rt_Wd)  (v1 : Int) (v2 : Int) (v3 : Int) (v4 : Int) (v5 : Int)  (M : zM) (Q : Int → zM → Prop) (X : zM → Prop) : Prop := rt_Go l s0 G RX11 "tell" cX11_tell 11 (Option.none : Option FieldType) [] d w0 (zQ s0 ca 9 C S Q X) 235 [(0, zv s0 2 84), (1, zv s0 2 v1), (2, zv s0 0 v2), (3, zv s0 2 v3), (4, zv s0 0 v4), (5, zv s0 0 v5)] [] (zw s0 ca C S M)
abbrev zg_X11_tell_320 (l : Launch) (s0 : State) (G : va_G) (ca : Nat → ClassId) (d : Nat) (C : Nat × Nat) (S : zS) (w0 : rt_Wd)   (k0 : Int) (M : zM) (Q : Int → zM → Prop) (X : zM → Prop) : Prop := rt_Go l s0 G RX11 "tell" cX11_tell 11 (Option.none : Option FieldType) [] d w0 (zQ s0 ca 9 C S Q X) 320 [(0, zv s0 2 84)] [zv s0 0 k0] (zw s0 ca C S M)
abbrev zg_X11_tell_375 (l : Launch) (s0 : State) (G : va_G) (ca : Nat → ClassId) (d : Nat) (C : Nat × Nat) (S : zS) (w0 : rt_Wd)  (v1 : Int) (v2 : Int) (v3 : Int) (v4 : Int) (v5 : Int) (v7 : Int) (v9 : Int)  (M : zM) (Q : Int → zM → Prop) (X : zM → Prop) : Prop := rt_Go l s0 G RX11 "tell" cX11_tell 11 (Option.none : Option FieldType) [] d w0 (zQ s0 ca 9 C S Q X) 375 [(0, zv s0 2 84), (1, zv s0 2 v1), (2, zv s0 0 v2), (3, zv s0 2 v3), (4, zv s0 0 v4), (5, zv s0 0 v5), (7, zv s0 1 v7), (9, zv s0 1 v9)] [] (zw s0 ca C S M)
abbrev zg_X11_tell_395 (l : Launch) (s0 : State) (G : va_G) (ca : Nat → ClassId) (d : Nat) (C : Nat × Nat) (S : zS) (w0 : rt_Wd)  (v1 : Int) (v2 : Int) (v3 : Int) (v4 : Int) (v5 : Int) (v7 : Int) (v9 : Int)  (M : zM) (Q : Int → zM → Prop) (X : zM → Prop) : Prop := rt_Go l s0 G RX11 "tell" cX11_tell 11 (Option.none : Option FieldType) [] d w0 (zQ s0 ca 9 C S Q X) 395 [(0, zv s0 2 84), (1, zv s0 2 v1), (2, zv s0 0 v2), (3, zv s0 2 v3), (4, zv s0 0 v4), (5, zv s0 0 v5), (7, zv s0 1 v7), (9, zv s0 1 v9)] [] (zw s0 ca C S M)
def zt_X11_tell_70 (l : Launch) (s0 : State) (G : va_G) (ca : Nat → ClassId) (d : Nat) (C : Nat × Nat) (S : zS) (w0 : rt_Wd)  (v1 : Int) (v2 : Int) (v3 : Int) (v4 : Int) (v6 : Int)  (M : zM) (Q : Int → zM → Prop) (X : zM → Prop) : Prop :=
  zTx S v3 ∧ ((0 ≤ v4 ∧ v4 < 140) ∧ (zg_X11_tell_82 l s0 G ca d C S w0  v1 v2 v3 v6 0 (M (v3 + 12) v4) M Q X))
set_option maxRecDepth 100000 in
theorem zs_X11_tell_70 {l : Launch} {s0 : State} {a0 : Array Value} {G : va_G} {ca : Nat → ClassId} (Γ : rt_Γ l s0 a0 G ca) {d : Nat} {C : Nat × Nat} {S : zS} (hd : 1 ≤ d) (hok : zok C)  (hs : zSok S) {w0 : rt_Wd} {v1 : Int} {v2 : Int} {v3 : Int} {v4 : Int} {v6 : Int}   {M : zM} {Q : Int → zM → Prop} {X : zM → Prop} (h : zt_X11_tell_70 l s0 G ca d C S w0  v1 v2 v3 v4 v6 M Q X) : zg_X11_tell_70 l s0 G ca d C S w0  v1 v2 v3 v4 v6 M Q X := by
  unfold zt_X11_tell_70 at h
  refine z_iconst dX11_tell_70 ?_
  refine z_istore (i := 7) (lv' := [(7, zv s0 0 0), (0, zv s0 2 84), (1, zv s0 2 v1), (2, zv s0 0 v2), (3, zv s0 2 v3), (4, zv s0 0 v4), (6, zv s0 0 v6)]) dX11_tell_71 (by decide) (by simp [zv_cat0, zv_cat1, zv_cat2, zv_cats]) ?_
  refine z_aload_n dX11_tell_73 rfl (j := 4) rfl ?_
  obtain ⟨hk0, h⟩ := h
  refine z_getcN Γ kfN_RX11_160 dX11_tell_74 hk0.1 hk0.2.1 rfl ?_
  refine z_iload dX11_tell_77 (j := 5) rfl ?_
  obtain ⟨hi79, h⟩ := h
  refine z_iald Γ dX11_tell_79 (by have := hk0.1; omega) hk0.2.2.2.2.2.2.2.2.2.2.2.2.2.1 (by decide) hi79 (v9 := M (v3 + 12) v4) rfl ?_
  refine z_istore (i := 8) (lv' := [(8, zv s0 0 (M (v3 + 12) v4)), (7, zv s0 0 0), (0, zv s0 2 84), (1, zv s0 2 v1), (2, zv s0 0 v2), (3, zv s0 2 v3), (4, zv s0 0 v4), (6, zv s0 0 v6)]) dX11_tell_80 (by decide) (by simp [zv_cat0, zv_cat1, zv_cat2, zv_cats]) ?_
  exact rt_lfew [2, 3, 4, 5, 7, 1, 0] rfl h

def zt_X11_tell_82 (l : Launch) (s0 : State) (G : va_G) (ca : Nat → ClassId) (d : Nat) (C : Nat × Nat) (S : zS) (w0 : rt_Wd)  (v1 : Int) (v2 : Int) (v3 : Int) (v6 : Int) (v7 : Int) (v8 : Int)  (M : zM) (Q : Int → zM → Prop) (X : zM → Prop) : Prop :=
  zIf (w32 v8 = w32 v6) (zm_X11_tellVarint l s0 G ca (d - 1) C S (w32 v7) M (fun r108 M108 => zTx S v3 ∧ ((0 ≤ v6 ∧ v6 < 2200) ∧ (zm_X11_tell l s0 G ca (d - 1) C S v1 v2 v3 (M108 (v3 + 15) v6) M108 (fun r122 M122 => Q 0 M122) X))) X) (zTx S v3 ∧ ((0 ≤ v8 ∧ v8 < 2200) ∧ (zg_X11_tell_82 l s0 G ca d C S w0  v1 v2 v3 v6 (v7 + 1) (M (v3 + 18) v8) M Q X)))
set_option maxRecDepth 100000 in
theorem zs_X11_tell_82 {l : Launch} {s0 : State} {a0 : Array Value} {G : va_G} {ca : Nat → ClassId} (Γ : rt_Γ l s0 a0 G ca) {d : Nat} {C : Nat × Nat} {S : zS} (hd : 1 ≤ d) (hok : zok C)  (hs : zSok S) {w0 : rt_Wd} {v1 : Int} {v2 : Int} {v3 : Int} {v6 : Int} {v7 : Int} {v8 : Int}   {M : zM} {Q : Int → zM → Prop} {X : zM → Prop} (h : zt_X11_tell_82 l s0 G ca d C S w0  v1 v2 v3 v6 v7 v8 M Q X) : zg_X11_tell_82 l s0 G ca d C S w0  v1 v2 v3 v6 v7 v8 M Q X := by
  unfold zt_X11_tell_82 at h
  refine z_iload dX11_tell_82 (j := 6) rfl ?_
  refine z_iload dX11_tell_84 (j := 4) rfl ?_
  refine z_icmp_eq (tgt := 104) (x' := w32 v8) (y' := w32 v6) rfl rfl dX11_tell_86 (by decide) (fun c86 => ?_) (fun c86 => ?_)
  · replace h := h.1 c86
    refine z_aload_n dX11_tell_104 rfl (j := 0) rfl ?_
    refine z_iload dX11_tell_105 (j := 5) rfl ?_
    refine z_i2l dX11_tell_107 ?_
    refine z_callV Γ kk_X11_tellVarint kc_RX11_273 (As := [zv s0 1 (w32 v7)]) h (by omega) (by decide) (show (parseMethodDescriptor yX11_tellVarint.desc).map (fun q => q.parameters.length) = some 1 by decide +kernel) hok (Nat.zero_le _) dX11_tell_108 (by decide) (hs 84 _ rfl) rfl rfl (fun _ h9 => nomatch h9) ?_
    clear h
    intro r108 M108 h
    show rt_Go _ _ _ _ _ _ _ _ _ _ _ _ 111 [(0, zv s0 2 84), (1, zv s0 2 v1), (2, zv s0 0 v2), (3, zv s0 2 v3), (6, zv s0 0 v6), (7, zv s0 0 v7), (8, zv s0 0 v8)] [] (zw s0 ca C S M108)
    refine z_aload_n dX11_tell_111 rfl (j := 0) rfl ?_
    refine z_aload_n dX11_tell_112 rfl (j := 1) rfl ?_
    refine z_iload_n dX11_tell_113 rfl (j := 2) rfl ?_
    refine z_aload_n dX11_tell_114 rfl (j := 3) rfl ?_
    refine z_aload_n dX11_tell_115 rfl (j := 3) rfl ?_
    obtain ⟨hk0, h⟩ := h
    refine z_getcN Γ kfN_RX11_149 dX11_tell_116 hk0.1 hk0.2.1 rfl ?_
    refine z_iload dX11_tell_119 (j := 4) rfl ?_
    obtain ⟨hi121, h⟩ := h
    refine z_iald Γ dX11_tell_121 (by have := hk0.1; omega) hk0.2.2.2.2.2.2.2.2.2.2.2.2.2.2.2.2.1 (by decide) hi121 (v9 := M108 (v3 + 15) v6) rfl ?_
    refine z_callV Γ kk_X11_tell kc_RX11_266 (As := [zv s0 2 v1, zv s0 0 v2, zv s0 2 v3, zv s0 0 (M108 (v3 + 15) v6)]) h (by omega) (by decide) (show (parseMethodDescriptor yX11_tell.desc).map (fun q => q.parameters.length) = some 4 by decide +kernel) hok (Nat.zero_le _) dX11_tell_122 (by decide) (hs 84 _ rfl) rfl rfl (fun _ h9 => nomatch h9) ?_
    clear h
    intro r122 M122 h
    show rt_Go _ _ _ _ _ _ _ _ _ _ _ _ 125 [(0, zv s0 2 84), (1, zv s0 2 v1), (2, zv s0 0 v2), (3, zv s0 2 v3), (6, zv s0 0 v6), (7, zv s0 0 v7), (8, zv s0 0 v8)] [] (zw s0 ca C S M122)
    exact z_vret dX11_tell_125 rfl h
  · replace h := h.2 c86
    refine z_iinc (lv' := [(7, zv s0 0 (v7 + 1)), (0, zv s0 2 84), (1, zv s0 2 v1), (2, zv s0 0 v2), (3, zv s0 2 v3), (6, zv s0 0 v6), (8, zv s0 0 v8)]) dX11_tell_89 (j := 5) rfl (by decide) (by simp [zv_cat0, zv_cat1, zv_cat2, zv_cats]) ?_
    refine z_aload_n dX11_tell_92 rfl (j := 4) rfl ?_
    obtain ⟨hk1, h⟩ := h
    refine z_getcN Γ kfN_RX11_163 dX11_tell_93 hk1.1 hk1.2.1 rfl ?_
    refine z_iload dX11_tell_96 (j := 6) rfl ?_
    obtain ⟨hi98, h⟩ := h
    refine z_iald Γ dX11_tell_98 (by have := hk1.1; omega) hk1.2.2.2.2.2.2.2.2.2.2.2.2.2.2.2.2.2.2.2.1 (by decide) hi98 (v9 := M (v3 + 18) v8) rfl ?_
    refine z_istore (i := 8) (lv' := [(8, zv s0 0 (M (v3 + 18) v8)), (7, zv s0 0 (v7 + 1)), (0, zv s0 2 84), (1, zv s0 2 v1), (2, zv s0 0 v2), (3, zv s0 2 v3), (6, zv s0 0 v6)]) dX11_tell_99 (by decide) (by simp [zv_cat0, zv_cat1, zv_cat2, zv_cats]) ?_
    refine rt_goto (tgt := 82) dX11_tell_101 (by decide) ?_
    exact rt_lfew [2, 3, 4, 5, 6, 1, 0] rfl h

def zt_X11_tell_159 (l : Launch) (s0 : State) (G : va_G) (ca : Nat → ClassId) (d : Nat) (C : Nat × Nat) (S : zS) (w0 : rt_Wd)  (v3 : Int) (v4 : Int) (v5 : Int)  (M : zM) (Q : Int → zM → Prop) (X : zM → Prop) : Prop :=
  zm_X11_sixOf l s0 G ca (d - 1) C S v5 M (fun r161 M161 => zIf (w32 r161 = 0) (zm_X11_unresolved l s0 G ca (d - 1) C S  M161 (fun r196 M196 => zm_X11_tellSix l s0 G ca (d - 1) C S v5 M196 (fun r202 M202 => Q 0 M202) X) X) (zTx S v3 ∧ ((0 ≤ v4 ∧ v4 < 140) ∧ (zm_X11_sixOf l s0 G ca (d - 1) C S (M161 (v3 + 9) v4) M161 (fun r174 M174 => zIf (w32 r174 = 0) (zm_X11_unresolved l s0 G ca (d - 1) C S  M174 (fun r196 M196 => zm_X11_tellSix l s0 G ca (d - 1) C S v5 M196 (fun r202 M202 => Q 0 M202) X) X) (zm_X11_matchesSix l s0 G ca (d - 1) C S v5 (M174 (v3 + 9) v4) M174 (fun r189 M189 => zIf (w32 r189 = 0) (zm_X11_unresolved l s0 G ca (d - 1) C S  M189 (fun r196 M196 => zm_X11_tellSix l s0 G ca (d - 1) C S v5 M196 (fun r202 M202 => Q 0 M202) X) X) (zm_X11_tellSix l s0 G ca (d - 1) C S v5 M189 (fun r202 M202 => Q 0 M202) X)) X)) X)))) X
set_option maxRecDepth 100000 in
theorem zs_X11_tell_159 {l : Launch} {s0 : State} {a0 : Array Value} {G : va_G} {ca : Nat → ClassId} (Γ : rt_Γ l s0 a0 G ca) {d : Nat} {C : Nat × Nat} {S : zS} (hd : 1 ≤ d) (hok : zok C)  (hs : zSok S) {w0 : rt_Wd} {v3 : Int} {v4 : Int} {v5 : Int}   {M : zM} {Q : Int → zM → Prop} {X : zM → Prop} (h : zt_X11_tell_159 l s0 G ca d C S w0  v3 v4 v5 M Q X) : zg_X11_tell_159 l s0 G ca d C S w0  v3 v4 v5 M Q X := by
  unfold zt_X11_tell_159 at h
  refine z_iload dX11_tell_159 (j := 3) rfl ?_
  refine z_callS Γ kk_X11_sixOf kc_RX11_201 (As := [zv s0 0 v5]) h (by omega) (by decide) (show (parseMethodDescriptor yX11_sixOf.desc).map (fun q => q.parameters.length) = some 1 by decide +kernel) hok (Nat.zero_le _) dX11_tell_161 rfl (fun _ h9 => nomatch h9) ?_
  clear h
  intro r161 M161 h
  show rt_Go _ _ _ _ _ _ _ _ _ _ _ _ 164 [(0, zv s0 2 84), (3, zv s0 2 v3), (4, zv s0 0 v4), (5, zv s0 0 v5)] [zv s0 0 r161] (zw s0 ca C S M161)
  refine z_if_eq (tgt := 195) (x' := w32 r161) rfl dX11_tell_164 (by decide) (fun c164 => ?_) (fun c164 => ?_)
  · replace h := h.1 c164
    refine z_aload_n dX11_tell_195 rfl (j := 0) rfl ?_
    refine z_callV Γ kk_X11_unresolved kc_RX11_270 (As := []) h (by omega) (by decide) (show (parseMethodDescriptor yX11_unresolved.desc).map (fun q => q.parameters.length) = some 0 by decide +kernel) hok (Nat.zero_le _) dX11_tell_196 (by decide) (hs 84 _ rfl) rfl rfl (fun _ h9 => nomatch h9) ?_
    clear h
    intro r196 M196 h
    show rt_Go _ _ _ _ _ _ _ _ _ _ _ _ 199 [(0, zv s0 2 84), (3, zv s0 2 v3), (4, zv s0 0 v4), (5, zv s0 0 v5)] [] (zw s0 ca C S M196)
    refine z_aload_n dX11_tell_199 rfl (j := 0) rfl ?_
    refine z_iload dX11_tell_200 (j := 3) rfl ?_
    refine z_callV Γ kk_X11_tellSix kc_RX11_276 (As := [zv s0 0 v5]) h (by omega) (by decide) (show (parseMethodDescriptor yX11_tellSix.desc).map (fun q => q.parameters.length) = some 1 by decide +kernel) hok (Nat.zero_le _) dX11_tell_202 (by decide) (hs 84 _ rfl) rfl rfl (fun _ h9 => nomatch h9) ?_
    clear h
    intro r202 M202 h
    show rt_Go _ _ _ _ _ _ _ _ _ _ _ _ 205 [(0, zv s0 2 84), (3, zv s0 2 v3), (4, zv s0 0 v4), (5, zv s0 0 v5)] [] (zw s0 ca C S M202)
    exact z_vret dX11_tell_205 rfl h
  · replace h := h.2 c164
    refine z_aload_n dX11_tell_167 rfl (j := 1) rfl ?_
    obtain ⟨hk0, h⟩ := h
    refine z_getcN Γ kfN_RX11_132 dX11_tell_168 hk0.1 hk0.2.1 rfl ?_
    refine z_iload dX11_tell_171 (j := 2) rfl ?_
    obtain ⟨hi173, h⟩ := h
    refine z_iald Γ dX11_tell_173 (by have := hk0.1; omega) hk0.2.2.2.2.2.2.2.2.2.2.1 (by decide) hi173 (v9 := M161 (v3 + 9) v4) rfl ?_
    refine z_callS Γ kk_X11_sixOf kc_RX11_201 (As := [zv s0 0 (M161 (v3 + 9) v4)]) h (by omega) (by decide) (show (parseMethodDescriptor yX11_sixOf.desc).map (fun q => q.parameters.length) = some 1 by decide +kernel) hok (Nat.zero_le _) dX11_tell_174 rfl (fun _ h9 => nomatch h9) ?_
    clear h
    intro r174 M174 h
    show rt_Go _ _ _ _ _ _ _ _ _ _ _ _ 177 [(0, zv s0 2 84), (3, zv s0 2 v3), (4, zv s0 0 v4), (5, zv s0 0 v5)] [zv s0 0 r174] (zw s0 ca C S M174)
    refine z_if_eq (tgt := 195) (x' := w32 r174) rfl dX11_tell_177 (by decide) (fun c177 => ?_) (fun c177 => ?_)
    · replace h := h.1 c177
      refine z_aload_n dX11_tell_195 rfl (j := 0) rfl ?_
      refine z_callV Γ kk_X11_unresolved kc_RX11_270 (As := []) h (by omega) (by decide) (show (parseMethodDescriptor yX11_unresolved.desc).map (fun q => q.parameters.length) = some 0 by decide +kernel) hok (Nat.zero_le _) dX11_tell_196 (by decide) (hs 84 _ rfl) rfl rfl (fun _ h9 => nomatch h9) ?_
      clear h
      intro r196 M196 h
      show rt_Go _ _ _ _ _ _ _ _ _ _ _ _ 199 [(0, zv s0 2 84), (3, zv s0 2 v3), (4, zv s0 0 v4), (5, zv s0 0 v5)] [] (zw s0 ca C S M196)
      refine z_aload_n dX11_tell_199 rfl (j := 0) rfl ?_
      refine z_iload dX11_tell_200 (j := 3) rfl ?_
      refine z_callV Γ kk_X11_tellSix kc_RX11_276 (As := [zv s0 0 v5]) h (by omega) (by decide) (show (parseMethodDescriptor yX11_tellSix.desc).map (fun q => q.parameters.length) = some 1 by decide +kernel) hok (Nat.zero_le _) dX11_tell_202 (by decide) (hs 84 _ rfl) rfl rfl (fun _ h9 => nomatch h9) ?_
      clear h
      intro r202 M202 h
      show rt_Go _ _ _ _ _ _ _ _ _ _ _ _ 205 [(0, zv s0 2 84), (3, zv s0 2 v3), (4, zv s0 0 v4), (5, zv s0 0 v5)] [] (zw s0 ca C S M202)
      exact z_vret dX11_tell_205 rfl h
    · replace h := h.2 c177
      refine z_iload dX11_tell_180 (j := 3) rfl ?_
      refine z_aload_n dX11_tell_182 rfl (j := 1) rfl ?_
      refine z_getcN Γ kfN_RX11_132 dX11_tell_183 hk0.1 hk0.2.1 rfl ?_
      refine z_iload dX11_tell_186 (j := 2) rfl ?_
      refine z_iald Γ dX11_tell_188 (by have := hk0.1; omega) hk0.2.2.2.2.2.2.2.2.2.2.1 (by decide) hi173 (v9 := M174 (v3 + 9) v4) rfl ?_
      refine z_callS Γ kk_X11_matchesSix kc_RX11_204 (As := [zv s0 0 v5, zv s0 0 (M174 (v3 + 9) v4)]) h (by omega) (by decide) (show (parseMethodDescriptor yX11_matchesSix.desc).map (fun q => q.parameters.length) = some 2 by decide +kernel) hok (Nat.zero_le _) dX11_tell_189 rfl (fun _ h9 => nomatch h9) ?_
      clear h
      intro r189 M189 h
      show rt_Go _ _ _ _ _ _ _ _ _ _ _ _ 192 [(0, zv s0 2 84), (3, zv s0 2 v3), (4, zv s0 0 v4), (5, zv s0 0 v5)] [zv s0 0 r189] (zw s0 ca C S M189)
      refine z_if_ne (tgt := 199) (x' := w32 r189) rfl dX11_tell_192 (by decide) (fun c192 => ?_) (fun c192 => ?_)
      · replace h := h.2 c192
        refine z_aload_n dX11_tell_199 rfl (j := 0) rfl ?_
        refine z_iload dX11_tell_200 (j := 3) rfl ?_
        refine z_callV Γ kk_X11_tellSix kc_RX11_276 (As := [zv s0 0 v5]) h (by omega) (by decide) (show (parseMethodDescriptor yX11_tellSix.desc).map (fun q => q.parameters.length) = some 1 by decide +kernel) hok (Nat.zero_le _) dX11_tell_202 (by decide) (hs 84 _ rfl) rfl rfl (fun _ h9 => nomatch h9) ?_
        clear h
        intro r202 M202 h
        show rt_Go _ _ _ _ _ _ _ _ _ _ _ _ 205 [(0, zv s0 2 84), (3, zv s0 2 v3), (4, zv s0 0 v4), (5, zv s0 0 v5)] [] (zw s0 ca C S M202)
        exact z_vret dX11_tell_205 rfl h
      · replace h := h.1 c192
        refine z_aload_n dX11_tell_195 rfl (j := 0) rfl ?_
        refine z_callV Γ kk_X11_unresolved kc_RX11_270 (As := []) h (by omega) (by decide) (show (parseMethodDescriptor yX11_unresolved.desc).map (fun q => q.parameters.length) = some 0 by decide +kernel) hok (Nat.zero_le _) dX11_tell_196 (by decide) (hs 84 _ rfl) rfl rfl (fun _ h9 => nomatch h9) ?_
        clear h
        intro r196 M196 h
        show rt_Go _ _ _ _ _ _ _ _ _ _ _ _ 199 [(0, zv s0 2 84), (3, zv s0 2 v3), (4, zv s0 0 v4), (5, zv s0 0 v5)] [] (zw s0 ca C S M196)
        refine z_aload_n dX11_tell_199 rfl (j := 0) rfl ?_
        refine z_iload dX11_tell_200 (j := 3) rfl ?_
        refine z_callV Γ kk_X11_tellSix kc_RX11_276 (As := [zv s0 0 v5]) h (by omega) (by decide) (show (parseMethodDescriptor yX11_tellSix.desc).map (fun q => q.parameters.length) = some 1 by decide +kernel) hok (Nat.zero_le _) dX11_tell_202 (by decide) (hs 84 _ rfl) rfl rfl (fun _ h9 => nomatch h9) ?_
        clear h
        intro r202 M202 h
        show rt_Go _ _ _ _ _ _ _ _ _ _ _ _ 205 [(0, zv s0 2 84), (3, zv s0 2 v3), (4, zv s0 0 v4), (5, zv s0 0 v5)] [] (zw s0 ca C S M202)
        exact z_vret dX11_tell_205 rfl h

def zt_X11_tell_320 (l : Launch) (s0 : State) (G : va_G) (ca : Nat → ClassId) (d : Nat) (C : Nat × Nat) (S : zS) (w0 : rt_Wd)   (k0 : Int) (M : zM) (Q : Int → zM → Prop) (X : zM → Prop) : Prop :=
  zIf (0 ≤ w32 k0) (zm_X11_tellVarint l s0 G ca (d - 1) C S (w32 k0) M (fun r335 M335 => Q 0 M335) X) (zm_X11_unresolved l s0 G ca (d - 1) C S  M (fun r328 M328 => zm_X11_tellVarint l s0 G ca (d - 1) C S (w32 k0) M328 (fun r335 M335 => Q 0 M335) X) X)
set_option maxRecDepth 100000 in
theorem zs_X11_tell_320 {l : Launch} {s0 : State} {a0 : Array Value} {G : va_G} {ca : Nat → ClassId} (Γ : rt_Γ l s0 a0 G ca) {d : Nat} {C : Nat × Nat} {S : zS} (hd : 1 ≤ d) (hok : zok C)  (hs : zSok S) {w0 : rt_Wd}  {k0 : Int}  {M : zM} {Q : Int → zM → Prop} {X : zM → Prop} (h : zt_X11_tell_320 l s0 G ca d C S w0  k0 M Q X) : zg_X11_tell_320 l s0 G ca d C S w0  k0 M Q X := by
  unfold zt_X11_tell_320 at h
  refine z_istore (i := 6) (lv' := [(6, zv s0 0 k0), (0, zv s0 2 84)]) dX11_tell_320 (by decide) (by simp [zv_cat0, zv_cat1, zv_cat2, zv_cats]) ?_
  refine z_iload dX11_tell_322 (j := 0) rfl ?_
  refine z_if_ge (tgt := 331) (x' := w32 k0) rfl dX11_tell_324 (by decide) (fun c324 => ?_) (fun c324 => ?_)
  · replace h := h.1 c324
    refine z_aload_n dX11_tell_331 rfl (j := 1) rfl ?_
    refine z_iload dX11_tell_332 (j := 0) rfl ?_
    refine z_i2l dX11_tell_334 ?_
    refine z_callV Γ kk_X11_tellVarint kc_RX11_273 (As := [zv s0 1 (w32 k0)]) h (by omega) (by decide) (show (parseMethodDescriptor yX11_tellVarint.desc).map (fun q => q.parameters.length) = some 1 by decide +kernel) hok (Nat.zero_le _) dX11_tell_335 (by decide) (hs 84 _ rfl) rfl rfl (fun _ h9 => nomatch h9) ?_
    clear h
    intro r335 M335 h
    show rt_Go _ _ _ _ _ _ _ _ _ _ _ _ 338 [(6, zv s0 0 k0), (0, zv s0 2 84)] [] (zw s0 ca C S M335)
    refine rt_goto (tgt := 450) dX11_tell_338 (by decide) ?_
    exact z_vret dX11_tell_450 rfl h
  · replace h := h.2 c324
    refine z_aload_n dX11_tell_327 rfl (j := 1) rfl ?_
    refine z_callV Γ kk_X11_unresolved kc_RX11_270 (As := []) h (by omega) (by decide) (show (parseMethodDescriptor yX11_unresolved.desc).map (fun q => q.parameters.length) = some 0 by decide +kernel) hok (Nat.zero_le _) dX11_tell_328 (by decide) (hs 84 _ rfl) rfl rfl (fun _ h9 => nomatch h9) ?_
    clear h
    intro r328 M328 h
    show rt_Go _ _ _ _ _ _ _ _ _ _ _ _ 331 [(6, zv s0 0 k0), (0, zv s0 2 84)] [] (zw s0 ca C S M328)
    refine z_aload_n dX11_tell_331 rfl (j := 1) rfl ?_
    refine z_iload dX11_tell_332 (j := 0) rfl ?_
    refine z_i2l dX11_tell_334 ?_
    refine z_callV Γ kk_X11_tellVarint kc_RX11_273 (As := [zv s0 1 (w32 k0)]) h (by omega) (by decide) (show (parseMethodDescriptor yX11_tellVarint.desc).map (fun q => q.parameters.length) = some 1 by decide +kernel) hok (Nat.zero_le _) dX11_tell_335 (by decide) (hs 84 _ rfl) rfl rfl (fun _ h9 => nomatch h9) ?_
    clear h
    intro r335 M335 h
    show rt_Go _ _ _ _ _ _ _ _ _ _ _ _ 338 [(6, zv s0 0 k0), (0, zv s0 2 84)] [] (zw s0 ca C S M335)
    refine rt_goto (tgt := 450) dX11_tell_338 (by decide) ?_
    exact z_vret dX11_tell_450 rfl h

def zt_X11_tell_235 (l : Launch) (s0 : State) (G : va_G) (ca : Nat → ClassId) (d : Nat) (C : Nat × Nat) (S : zS) (w0 : rt_Wd)  (v1 : Int) (v2 : Int) (v3 : Int) (v4 : Int) (v5 : Int)  (M : zM) (Q : Int → zM → Prop) (X : zM → Prop) : Prop :=
  zIf (w32 v5 = 9) (zTx S v1 ∧ ((0 ≤ v2 ∧ v2 < 140) ∧ (zm_X11_copyBytes l s0 G ca (d - 1) C S (w32 (M (v1 + 11) v2)) 1 M (fun r273 M273 => Q 0 M273) X))) (zIf (w32 v5 = 10) (zTx S v1 ∧ (zm_X11_readVarint l s0 G ca (d - 1) C S  M (fun r290 M290 => zm_X10_kid l s0 G ca (d - 1) C S v1 v2 r290 M290 (fun r294 M294 => (0 ≤ r294 ∧ r294 < 2200) ∧ (zTx S v3 ∧ (zm_X10_symbol l s0 G ca (d - 1) C S v3 v4 v1 (M294 (v1 + 16) r294) M294 (fun r298 M298 => zIf (0 ≤ w32 r298) (zt_X11_tell_320 l s0 G ca d C S w0  r298 M298 Q X) ((0 ≤ v4 ∧ v4 < 140) ∧ (zt_X11_tell_320 l s0 G ca d C S w0  (M298 (v3 + 14) v4) M298 Q X))) X))) X) X)) (zIf (w32 v5 = 11) (zm_X11_tellRecord l s0 G ca (d - 1) C S v1 v2 v3 v4 M (fun r347 M347 => Q 0 M347) X) (zm_X11_readVarint l s0 G ca (d - 1) C S  M (fun r354 M354 => zIf (w64 r354 ≤ 0) (zg_X11_tell_375 l s0 G ca d C S w0  v1 v2 v3 v4 v5 r354 0 M354 Q X) (zm_X11_tellVarint l s0 G ca (d - 1) C S r354 M354 (fun r369 M369 => zg_X11_tell_375 l s0 G ca d C S w0  v1 v2 v3 v4 v5 r354 0 M369 Q X) X)) X)))
set_option maxRecDepth 100000 in
theorem zs_X11_tell_235 {l : Launch} {s0 : State} {a0 : Array Value} {G : va_G} {ca : Nat → ClassId} (Γ : rt_Γ l s0 a0 G ca) {d : Nat} {C : Nat × Nat} {S : zS} (hd : 1 ≤ d) (hok : zok C)  (hs : zSok S) {w0 : rt_Wd} {v1 : Int} {v2 : Int} {v3 : Int} {v4 : Int} {v5 : Int}   {M : zM} {Q : Int → zM → Prop} {X : zM → Prop} (h : zt_X11_tell_235 l s0 G ca d C S w0  v1 v2 v3 v4 v5 M Q X) : zg_X11_tell_235 l s0 G ca d C S w0  v1 v2 v3 v4 v5 M Q X := by
  unfold zt_X11_tell_235 at h
  refine z_iload dX11_tell_235 (j := 5) rfl ?_
  by_cases c237_9 : w32 v5 = 9
  · replace h := h.1 c237_9
    refine z_tin c237_9 dX11_tell_237 (by decide) (off := 27) (tgt := 264) (by decide) (by decide) ?_
    refine z_aload_n dX11_tell_264 rfl (j := 0) rfl ?_
    refine z_aload_n dX11_tell_265 rfl (j := 1) rfl ?_
    obtain ⟨hk0, h⟩ := h
    refine z_getcN Γ kfN_RX11_143 dX11_tell_266 hk0.1 hk0.2.1 rfl ?_
    refine z_iload_n dX11_tell_269 rfl (j := 2) rfl ?_
    obtain ⟨hi270, h⟩ := h
    refine z_iald Γ dX11_tell_270 (by have := hk0.1; omega) hk0.2.2.2.2.2.2.2.2.2.2.2.2.1 (by decide) hi270 (v9 := M (v1 + 11) v2) rfl ?_
    refine z_i2l dX11_tell_271 ?_
    refine z_iconst dX11_tell_272 ?_
    refine z_callV Γ kk_X11_copyBytes kc_RX11_259 (As := [zv s0 1 (w32 (M (v1 + 11) v2)), zv s0 0 1]) h (by omega) (by decide) (show (parseMethodDescriptor yX11_copyBytes.desc).map (fun q => q.parameters.length) = some 2 by decide +kernel) hok (Nat.zero_le _) dX11_tell_273 (by decide) (hs 84 _ rfl) rfl rfl (fun _ h9 => nomatch h9) ?_
    clear h
    intro r273 M273 h
    show rt_Go _ _ _ _ _ _ _ _ _ _ _ _ 276 [(0, zv s0 2 84), (1, zv s0 2 v1), (2, zv s0 0 v2), (3, zv s0 2 v3), (4, zv s0 0 v4), (5, zv s0 0 v5)] [] (zw s0 ca C S M273)
    refine rt_goto (tgt := 450) dX11_tell_276 (by decide) ?_
    exact z_vret dX11_tell_450 rfl h
  replace h := h.2 c237_9
  by_cases c237_10 : w32 v5 = 10
  · replace h := h.1 c237_10
    refine z_tin c237_10 dX11_tell_237 (by decide) (off := 42) (tgt := 279) (by decide) (by decide) ?_
    refine z_aload_n dX11_tell_279 rfl (j := 3) rfl ?_
    refine z_iload dX11_tell_280 (j := 4) rfl ?_
    refine z_aload_n dX11_tell_282 rfl (j := 1) rfl ?_
    refine z_aload_n dX11_tell_283 rfl (j := 1) rfl ?_
    obtain ⟨hk1, h⟩ := h
    refine z_getcN Γ kfN_RX11_231 dX11_tell_284 hk1.1 hk1.2.1 rfl ?_
    refine z_aload_n dX11_tell_287 rfl (j := 1) rfl ?_
    refine z_iload_n dX11_tell_288 rfl (j := 2) rfl ?_
    refine z_aload_n dX11_tell_289 rfl (j := 0) rfl ?_
    refine z_callV Γ kk_X11_readVarint kc_RX11_256 (As := []) h (by omega) (by decide) (show (parseMethodDescriptor yX11_readVarint.desc).map (fun q => q.parameters.length) = some 0 by decide +kernel) hok (by simp only [List.map, zv_cat0, zv_cat1, zv_cat2, List.sum_cons, List.sum_nil]; decide) dX11_tell_290 (by decide) (hs 84 _ rfl) rfl rfl (fun _ h9 => nomatch h9) ?_
    clear h
    intro r290 M290 h
    show rt_Go _ _ _ _ _ _ _ _ _ _ _ _ 293 [(0, zv s0 2 84), (1, zv s0 2 v1), (2, zv s0 0 v2), (3, zv s0 2 v3), (4, zv s0 0 v4), (5, zv s0 0 v5)] [zv s0 1 r290, zv s0 0 v2, zv s0 2 v1, zv s0 2 (v1 + 16), zv s0 2 v1, zv s0 0 v4, zv s0 2 v3] (zw s0 ca C S M290)
    refine z_l2i dX11_tell_293 ?_
    refine z_callVN Γ kk_X10_kid kc_RX11_152 (As := [zv s0 0 v2, zv s0 0 r290]) h (by omega) (by decide) (show (parseMethodDescriptor yX10_kid.desc).map (fun q => q.parameters.length) = some 2 by decide +kernel) hok (by simp only [List.map, zv_cat0, zv_cat1, zv_cat2, List.sum_cons, List.sum_nil]; decide) dX11_tell_294 hk1.1 hk1.2.1 rfl rfl (fun _ h9 => nomatch h9) ?_
    clear h
    intro r294 M294 h
    show rt_Go _ _ _ _ _ _ _ _ _ _ _ _ 297 [(0, zv s0 2 84), (1, zv s0 2 v1), (2, zv s0 0 v2), (3, zv s0 2 v3), (4, zv s0 0 v4), (5, zv s0 0 v5)] [zv s0 0 r294, zv s0 2 (v1 + 16), zv s0 2 v1, zv s0 0 v4, zv s0 2 v3] (zw s0 ca C S M294)
    obtain ⟨hi297, h⟩ := h
    refine z_iald Γ dX11_tell_297 (by have := hk1.1; omega) hk1.2.2.2.2.2.2.2.2.2.2.2.2.2.2.2.2.2.1 (by decide) hi297 (v9 := M294 (v1 + 16) r294) rfl ?_
    obtain ⟨hk2, h⟩ := h
    refine z_callVN Γ kk_X10_symbol kc_RX11_234 (As := [zv s0 0 v4, zv s0 2 v1, zv s0 0 (M294 (v1 + 16) r294)]) h (by omega) (by decide) (show (parseMethodDescriptor yX10_symbol.desc).map (fun q => q.parameters.length) = some 3 by decide +kernel) hok (Nat.zero_le _) dX11_tell_298 hk2.1 hk2.2.1 rfl rfl (fun _ h9 => nomatch h9) ?_
    clear h
    intro r298 M298 h
    show rt_Go _ _ _ _ _ _ _ _ _ _ _ _ 301 [(0, zv s0 2 84), (1, zv s0 2 v1), (2, zv s0 0 v2), (3, zv s0 2 v3), (4, zv s0 0 v4), (5, zv s0 0 v5)] [zv s0 0 r298] (zw s0 ca C S M298)
    refine z_istore (i := 6) (lv' := [(6, zv s0 0 r298), (0, zv s0 2 84), (1, zv s0 2 v1), (2, zv s0 0 v2), (3, zv s0 2 v3), (4, zv s0 0 v4), (5, zv s0 0 v5)]) dX11_tell_301 (by decide) (by simp [zv_cat0, zv_cat1, zv_cat2, zv_cats]) ?_
    refine z_iload dX11_tell_303 (j := 0) rfl ?_
    refine z_if_ge (tgt := 318) (x' := w32 r298) rfl dX11_tell_305 (by decide) (fun c305 => ?_) (fun c305 => ?_)
    · replace h := h.1 c305
      refine z_iload dX11_tell_318 (j := 0) rfl ?_
      exact rt_lfew [1] rfl (zs_X11_tell_320 Γ hd hok hs  h)
    · replace h := h.2 c305
      refine z_aload_n dX11_tell_308 rfl (j := 4) rfl ?_
      refine z_getcN Γ kfN_RX11_238 dX11_tell_309 hk2.1 hk2.2.1 rfl ?_
      refine z_iload dX11_tell_312 (j := 5) rfl ?_
      obtain ⟨hi314, h⟩ := h
      refine z_iald Γ dX11_tell_314 (by have := hk2.1; omega) hk2.2.2.2.2.2.2.2.2.2.2.2.2.2.2.2.1 (by decide) hi314 (v9 := M298 (v3 + 14) v4) rfl ?_
      refine rt_goto (tgt := 320) dX11_tell_315 (by decide) ?_
      exact rt_lfew [1] rfl (zs_X11_tell_320 Γ hd hok hs  h)
  replace h := h.2 c237_10
  by_cases c237_11 : w32 v5 = 11
  · replace h := h.1 c237_11
    refine z_tin c237_11 dX11_tell_237 (by decide) (off := 104) (tgt := 341) (by decide) (by decide) ?_
    refine z_aload_n dX11_tell_341 rfl (j := 0) rfl ?_
    refine z_aload_n dX11_tell_342 rfl (j := 1) rfl ?_
    refine z_iload_n dX11_tell_343 rfl (j := 2) rfl ?_
    refine z_aload_n dX11_tell_344 rfl (j := 3) rfl ?_
    refine z_iload dX11_tell_345 (j := 4) rfl ?_
    refine z_callV Γ kk_X11_tellRecord kc_RX11_279 (As := [zv s0 2 v1, zv s0 0 v2, zv s0 2 v3, zv s0 0 v4]) h (by omega) (by decide) (show (parseMethodDescriptor yX11_tellRecord.desc).map (fun q => q.parameters.length) = some 4 by decide +kernel) hok (Nat.zero_le _) dX11_tell_347 (by decide) (hs 84 _ rfl) rfl rfl (fun _ h9 => nomatch h9) ?_
    clear h
    intro r347 M347 h
    show rt_Go _ _ _ _ _ _ _ _ _ _ _ _ 350 [(0, zv s0 2 84), (1, zv s0 2 v1), (2, zv s0 0 v2), (3, zv s0 2 v3), (4, zv s0 0 v4), (5, zv s0 0 v5)] [] (zw s0 ca C S M347)
    refine rt_goto (tgt := 450) dX11_tell_350 (by decide) ?_
    exact z_vret dX11_tell_450 rfl h
  replace h := h.2 c237_11
  refine z_tout dX11_tell_237 (show w32 v5 < 9 ∨ 11 < w32 v5 from by omega) (tgt := 353) (by decide) ?_
  refine z_aload_n dX11_tell_353 rfl (j := 0) rfl ?_
  refine z_callV Γ kk_X11_readVarint kc_RX11_256 (As := []) h (by omega) (by decide) (show (parseMethodDescriptor yX11_readVarint.desc).map (fun q => q.parameters.length) = some 0 by decide +kernel) hok (Nat.zero_le _) dX11_tell_354 (by decide) (hs 84 _ rfl) rfl rfl (fun _ h9 => nomatch h9) ?_
  clear h
  intro r354 M354 h
  show rt_Go _ _ _ _ _ _ _ _ _ _ _ _ 357 [(0, zv s0 2 84), (1, zv s0 2 v1), (2, zv s0 0 v2), (3, zv s0 2 v3), (4, zv s0 0 v4), (5, zv s0 0 v5)] [zv s0 1 r354] (zw s0 ca C S M354)
  refine z_lstore (i := 7) (lv' := [(7, zv s0 1 r354), (0, zv s0 2 84), (1, zv s0 2 v1), (2, zv s0 0 v2), (3, zv s0 2 v3), (4, zv s0 0 v4), (5, zv s0 0 v5)]) dX11_tell_357 (by decide) (by simp [zv_cat0, zv_cat1, zv_cat2, zv_cats]) ?_
  refine z_lload dX11_tell_359 (j := 0) rfl ?_
  refine z_lconst (v := 0) dX11_tell_361 (by decide) ?_
  refine z_lif_le (tgt := 372) (x' := w64 r354) (y' := 0) rfl (by decide) dX11_tell_362 dX11_tell_363 (by decide) (fun c362 => ?_) (fun c362 => ?_)
  · replace h := h.1 c362
    refine z_lconst (v := 0) dX11_tell_372 (by decide) ?_
    refine z_lstore (i := 9) (lv' := [(9, zv s0 1 0), (7, zv s0 1 r354), (0, zv s0 2 84), (1, zv s0 2 v1), (2, zv s0 0 v2), (3, zv s0 2 v3), (4, zv s0 0 v4), (5, zv s0 0 v5)]) dX11_tell_373 (by decide) (by simp [zv_cat0, zv_cat1, zv_cat2, zv_cats]) ?_
    exact rt_lfew [2, 3, 4, 5, 6, 7, 1, 0] rfl h
  · replace h := h.2 c362
    refine z_aload_n dX11_tell_366 rfl (j := 1) rfl ?_
    refine z_lload dX11_tell_367 (j := 0) rfl ?_
    refine z_callV Γ kk_X11_tellVarint kc_RX11_273 (As := [zv s0 1 r354]) h (by omega) (by decide) (show (parseMethodDescriptor yX11_tellVarint.desc).map (fun q => q.parameters.length) = some 1 by decide +kernel) hok (Nat.zero_le _) dX11_tell_369 (by decide) (hs 84 _ rfl) rfl rfl (fun _ h9 => nomatch h9) ?_
    clear h
    intro r369 M369 h
    show rt_Go _ _ _ _ _ _ _ _ _ _ _ _ 372 [(7, zv s0 1 r354), (0, zv s0 2 84), (1, zv s0 2 v1), (2, zv s0 0 v2), (3, zv s0 2 v3), (4, zv s0 0 v4), (5, zv s0 0 v5)] [] (zw s0 ca C S M369)
    refine z_lconst (v := 0) dX11_tell_372 (by decide) ?_
    refine z_lstore (i := 9) (lv' := [(9, zv s0 1 0), (7, zv s0 1 r354), (0, zv s0 2 84), (1, zv s0 2 v1), (2, zv s0 0 v2), (3, zv s0 2 v3), (4, zv s0 0 v4), (5, zv s0 0 v5)]) dX11_tell_373 (by decide) (by simp [zv_cat0, zv_cat1, zv_cat2, zv_cats]) ?_
    exact rt_lfew [2, 3, 4, 5, 6, 7, 1, 0] rfl h

def zt_X11_tell_395 (l : Launch) (s0 : State) (G : va_G) (ca : Nat → ClassId) (d : Nat) (C : Nat × Nat) (S : zS) (w0 : rt_Wd)  (v1 : Int) (v2 : Int) (v3 : Int) (v4 : Int) (v5 : Int) (v7 : Int) (v9 : Int)  (M : zM) (Q : Int → zM → Prop) (X : zM → Prop) : Prop :=
  zTx S v1 ∧ ((0 ≤ v2 ∧ v2 < 140) ∧ ((0 ≤ M (v1 + 12) v2 ∧ M (v1 + 12) v2 < 2200) ∧ (zTx S v3 ∧ ((0 ≤ v4 ∧ v4 < 140) ∧ ((0 ≤ M (v3 + 12) v4 ∧ M (v3 + 12) v4 < 2200) ∧ (zm_X11_tell l s0 G ca (d - 1) C S v1 (M (v1 + 15) (M (v1 + 12) v2)) v3 (M (v3 + 15) (M (v3 + 12) v4)) M (fun r421 M421 => zg_X11_tell_375 l s0 G ca d C S w0  v1 v2 v3 v4 v5 v7 (v9 + 1) M421 Q X) X))))))
set_option maxRecDepth 100000 in
theorem zs_X11_tell_395 {l : Launch} {s0 : State} {a0 : Array Value} {G : va_G} {ca : Nat → ClassId} (Γ : rt_Γ l s0 a0 G ca) {d : Nat} {C : Nat × Nat} {S : zS} (hd : 1 ≤ d) (hok : zok C)  (hs : zSok S) {w0 : rt_Wd} {v1 : Int} {v2 : Int} {v3 : Int} {v4 : Int} {v5 : Int} {v7 : Int} {v9 : Int}   {M : zM} {Q : Int → zM → Prop} {X : zM → Prop} (h : zt_X11_tell_395 l s0 G ca d C S w0  v1 v2 v3 v4 v5 v7 v9 M Q X) : zg_X11_tell_395 l s0 G ca d C S w0  v1 v2 v3 v4 v5 v7 v9 M Q X := by
  unfold zt_X11_tell_395 at h
  refine z_aload_n dX11_tell_395 rfl (j := 0) rfl ?_
  refine z_aload_n dX11_tell_396 rfl (j := 1) rfl ?_
  refine z_aload_n dX11_tell_397 rfl (j := 1) rfl ?_
  obtain ⟨hk0, h⟩ := h
  refine z_getcN Γ kfN_RX11_149 dX11_tell_398 hk0.1 hk0.2.1 rfl ?_
  refine z_aload_n dX11_tell_401 rfl (j := 1) rfl ?_
  refine z_getcN Γ kfN_RX11_160 dX11_tell_402 hk0.1 hk0.2.1 rfl ?_
  refine z_iload_n dX11_tell_405 rfl (j := 2) rfl ?_
  obtain ⟨hi406, h⟩ := h
  refine z_iald Γ dX11_tell_406 (by have := hk0.1; omega) hk0.2.2.2.2.2.2.2.2.2.2.2.2.2.1 (by decide) hi406 (v9 := M (v1 + 12) v2) rfl ?_
  obtain ⟨hi407, h⟩ := h
  refine z_iald Γ dX11_tell_407 (by have := hk0.1; omega) hk0.2.2.2.2.2.2.2.2.2.2.2.2.2.2.2.2.1 (by decide) hi407 (v9 := M (v1 + 15) (M (v1 + 12) v2)) rfl ?_
  refine z_aload_n dX11_tell_408 rfl (j := 3) rfl ?_
  refine z_aload_n dX11_tell_409 rfl (j := 3) rfl ?_
  obtain ⟨hk1, h⟩ := h
  refine z_getcN Γ kfN_RX11_149 dX11_tell_410 hk1.1 hk1.2.1 rfl ?_
  refine z_aload_n dX11_tell_413 rfl (j := 3) rfl ?_
  refine z_getcN Γ kfN_RX11_160 dX11_tell_414 hk1.1 hk1.2.1 rfl ?_
  refine z_iload dX11_tell_417 (j := 4) rfl ?_
  obtain ⟨hi419, h⟩ := h
  refine z_iald Γ dX11_tell_419 (by have := hk1.1; omega) hk1.2.2.2.2.2.2.2.2.2.2.2.2.2.1 (by decide) hi419 (v9 := M (v3 + 12) v4) rfl ?_
  obtain ⟨hi420, h⟩ := h
  refine z_iald Γ dX11_tell_420 (by have := hk1.1; omega) hk1.2.2.2.2.2.2.2.2.2.2.2.2.2.2.2.2.1 (by decide) hi420 (v9 := M (v3 + 15) (M (v3 + 12) v4)) rfl ?_
  refine z_callV Γ kk_X11_tell kc_RX11_266 (As := [zv s0 2 v1, zv s0 0 (M (v1 + 15) (M (v1 + 12) v2)), zv s0 2 v3, zv s0 0 (M (v3 + 15) (M (v3 + 12) v4))]) h (by omega) (by decide) (show (parseMethodDescriptor yX11_tell.desc).map (fun q => q.parameters.length) = some 4 by decide +kernel) hok (Nat.zero_le _) dX11_tell_421 (by decide) (hs 84 _ rfl) rfl rfl (fun _ h9 => nomatch h9) ?_
  clear h
  intro r421 M421 h
  show rt_Go _ _ _ _ _ _ _ _ _ _ _ _ 424 [(0, zv s0 2 84), (1, zv s0 2 v1), (2, zv s0 0 v2), (3, zv s0 2 v3), (4, zv s0 0 v4), (5, zv s0 0 v5), (7, zv s0 1 v7), (9, zv s0 1 v9)] [] (zw s0 ca C S M421)
  refine z_lload dX11_tell_424 (j := 7) rfl ?_
  refine z_lconst (v := 1) dX11_tell_426 (by decide) ?_
  refine z_ladd dX11_tell_427 ?_
  refine z_lstore (i := 9) (lv' := [(9, zv s0 1 (v9 + 1)), (0, zv s0 2 84), (1, zv s0 2 v1), (2, zv s0 0 v2), (3, zv s0 2 v3), (4, zv s0 0 v4), (5, zv s0 0 v5), (7, zv s0 1 v7)]) dX11_tell_428 (by decide) (by simp [zv_cat0, zv_cat1, zv_cat2, zv_cats]) ?_
  refine rt_goto (tgt := 375) dX11_tell_430 (by decide) ?_
  exact rt_lfew [1, 2, 3, 4, 5, 6, 7, 0] rfl h

def zt_X11_tell_375 (l : Launch) (s0 : State) (G : va_G) (ca : Nat → ClassId) (d : Nat) (C : Nat × Nat) (S : zS) (w0 : rt_Wd)  (v1 : Int) (v2 : Int) (v3 : Int) (v4 : Int) (v5 : Int) (v7 : Int) (v9 : Int)  (M : zM) (Q : Int → zM → Prop) (X : zM → Prop) : Prop :=
  zIf (w64 v7 ≤ w64 v9) (zIf (w64 v7 ≤ 0) (zm_X11_tellVarint l s0 G ca (d - 1) C S 0 M (fun r447 M447 => Q 0 M447) X) (zm_X11_readVarint l s0 G ca (d - 1) C S  M (fun r441 M441 => zm_X11_tellVarint l s0 G ca (d - 1) C S 0 M441 (fun r447 M447 => Q 0 M447) X) X)) (zIf (w32 v5 = 7) (zm_X11_tellSix l s0 G ca (d - 1) C S 5 M (fun r392 M392 => zt_X11_tell_395 l s0 G ca d C S w0  v1 v2 v3 v4 v5 v7 v9 M392 Q X) X) (zt_X11_tell_395 l s0 G ca d C S w0  v1 v2 v3 v4 v5 v7 v9 M Q X))
set_option maxRecDepth 100000 in
theorem zs_X11_tell_375 {l : Launch} {s0 : State} {a0 : Array Value} {G : va_G} {ca : Nat → ClassId} (Γ : rt_Γ l s0 a0 G ca) {d : Nat} {C : Nat × Nat} {S : zS} (hd : 1 ≤ d) (hok : zok C)  (hs : zSok S) {w0 : rt_Wd} {v1 : Int} {v2 : Int} {v3 : Int} {v4 : Int} {v5 : Int} {v7 : Int} {v9 : Int}   {M : zM} {Q : Int → zM → Prop} {X : zM → Prop} (h : zt_X11_tell_375 l s0 G ca d C S w0  v1 v2 v3 v4 v5 v7 v9 M Q X) : zg_X11_tell_375 l s0 G ca d C S w0  v1 v2 v3 v4 v5 v7 v9 M Q X := by
  unfold zt_X11_tell_375 at h
  refine z_lload dX11_tell_375 (j := 7) rfl ?_
  refine z_lload dX11_tell_377 (j := 6) rfl ?_
  refine z_lif_ge (tgt := 433) (x' := w64 v9) (y' := w64 v7) rfl rfl dX11_tell_379 dX11_tell_380 (by decide) (fun c379 => ?_) (fun c379 => ?_)
  · replace h := h.1 c379
    refine z_lload dX11_tell_433 (j := 6) rfl ?_
    refine z_lconst (v := 0) dX11_tell_435 (by decide) ?_
    refine z_lif_le (tgt := 445) (x' := w64 v7) (y' := 0) rfl (by decide) dX11_tell_436 dX11_tell_437 (by decide) (fun c436 => ?_) (fun c436 => ?_)
    · replace h := h.1 c436
      refine z_aload_n dX11_tell_445 rfl (j := 0) rfl ?_
      refine z_lconst (v := 0) dX11_tell_446 (by decide) ?_
      refine z_callV Γ kk_X11_tellVarint kc_RX11_273 (As := [zv s0 1 0]) h (by omega) (by decide) (show (parseMethodDescriptor yX11_tellVarint.desc).map (fun q => q.parameters.length) = some 1 by decide +kernel) hok (Nat.zero_le _) dX11_tell_447 (by decide) (hs 84 _ rfl) rfl rfl (fun _ h9 => nomatch h9) ?_
      clear h
      intro r447 M447 h
      show rt_Go _ _ _ _ _ _ _ _ _ _ _ _ 450 [(0, zv s0 2 84), (1, zv s0 2 v1), (2, zv s0 0 v2), (3, zv s0 2 v3), (4, zv s0 0 v4), (5, zv s0 0 v5), (7, zv s0 1 v7), (9, zv s0 1 v9)] [] (zw s0 ca C S M447)
      exact z_vret dX11_tell_450 rfl h
    · replace h := h.2 c436
      refine z_aload_n dX11_tell_440 rfl (j := 0) rfl ?_
      refine z_callV Γ kk_X11_readVarint kc_RX11_256 (As := []) h (by omega) (by decide) (show (parseMethodDescriptor yX11_readVarint.desc).map (fun q => q.parameters.length) = some 0 by decide +kernel) hok (Nat.zero_le _) dX11_tell_441 (by decide) (hs 84 _ rfl) rfl rfl (fun _ h9 => nomatch h9) ?_
      clear h
      intro r441 M441 h
      show rt_Go _ _ _ _ _ _ _ _ _ _ _ _ 444 [(0, zv s0 2 84), (1, zv s0 2 v1), (2, zv s0 0 v2), (3, zv s0 2 v3), (4, zv s0 0 v4), (5, zv s0 0 v5), (7, zv s0 1 v7), (9, zv s0 1 v9)] [zv s0 1 r441] (zw s0 ca C S M441)
      refine z_pop2L dX11_tell_444 ?_
      refine z_aload_n dX11_tell_445 rfl (j := 0) rfl ?_
      refine z_lconst (v := 0) dX11_tell_446 (by decide) ?_
      refine z_callV Γ kk_X11_tellVarint kc_RX11_273 (As := [zv s0 1 0]) h (by omega) (by decide) (show (parseMethodDescriptor yX11_tellVarint.desc).map (fun q => q.parameters.length) = some 1 by decide +kernel) hok (Nat.zero_le _) dX11_tell_447 (by decide) (hs 84 _ rfl) rfl rfl (fun _ h9 => nomatch h9) ?_
      clear h
      intro r447 M447 h
      show rt_Go _ _ _ _ _ _ _ _ _ _ _ _ 450 [(0, zv s0 2 84), (1, zv s0 2 v1), (2, zv s0 0 v2), (3, zv s0 2 v3), (4, zv s0 0 v4), (5, zv s0 0 v5), (7, zv s0 1 v7), (9, zv s0 1 v9)] [] (zw s0 ca C S M447)
      exact z_vret dX11_tell_450 rfl h
  · replace h := h.2 c379
    refine z_iload dX11_tell_383 (j := 5) rfl ?_
    refine z_bipush dX11_tell_385 (by decide) ?_
    refine z_icmp_ne (tgt := 395) (x' := w32 v5) (y' := 7) rfl (by decide) dX11_tell_387 (by decide) (fun c387 => ?_) (fun c387 => ?_)
    · replace h := h.2 c387
      exact rt_lfew [0, 1, 2, 3, 4, 5, 6, 7] rfl (zs_X11_tell_395 Γ hd hok hs  h)
    · replace h := h.1 c387
      refine z_aload_n dX11_tell_390 rfl (j := 0) rfl ?_
      refine z_iconst dX11_tell_391 ?_
      refine z_callV Γ kk_X11_tellSix kc_RX11_276 (As := [zv s0 0 5]) h (by omega) (by decide) (show (parseMethodDescriptor yX11_tellSix.desc).map (fun q => q.parameters.length) = some 1 by decide +kernel) hok (Nat.zero_le _) dX11_tell_392 (by decide) (hs 84 _ rfl) rfl rfl (fun _ h9 => nomatch h9) ?_
      clear h
      intro r392 M392 h
      show rt_Go _ _ _ _ _ _ _ _ _ _ _ _ 395 [(0, zv s0 2 84), (1, zv s0 2 v1), (2, zv s0 0 v2), (3, zv s0 2 v3), (4, zv s0 0 v4), (5, zv s0 0 v5), (7, zv s0 1 v7), (9, zv s0 1 v9)] [] (zw s0 ca C S M392)
      exact rt_lfew [0, 1, 2, 3, 4, 5, 6, 7] rfl (zs_X11_tell_395 Γ hd hok hs  h)

def zt_X11_tell (l : Launch) (s0 : State) (G : va_G) (ca : Nat → ClassId) (d : Nat) (C : Nat × Nat) (S : zS) (w0 : rt_Wd)  (a : Int) (w : Int) (b : Int) (r : Int) (M : zM) (Q : Int → zM → Prop) (X : zM → Prop) : Prop :=
  zTx S a ∧ ((0 ≤ w ∧ w < 140) ∧ (zIf (w32 (M (a + 9) w) = 8) (zm_X11_readVarint l s0 G ca (d - 1) C S  M (fun r24 M24 => zm_X10_kid l s0 G ca (d - 1) C S a w r24 M24 (fun r28 M28 => (0 ≤ r28 ∧ r28 < 2200) ∧ (zm_X11_tell l s0 G ca (d - 1) C S a (M28 (a + 15) r28) b r M28 (fun r35 M35 => Q 0 M35) X)) X) X) (zTx S b ∧ ((0 ≤ r ∧ r < 140) ∧ (zIf (w32 (M (b + 9) r) = 8) (zm_X11_branchFor l s0 G ca (d - 1) C S a w b r M (fun r56 M56 => zIf (0 ≤ w32 r56) (zt_X11_tell_70 l s0 G ca d C S w0  a w b r r56 M56 Q X) (zm_X11_unresolved l s0 G ca (d - 1) C S  M56 (fun r67 M67 => zt_X11_tell_70 l s0 G ca d C S w0  a w b r r56 M67 Q X) X)) X) (zm_X11_sixOf l s0 G ca (d - 1) C S (M (a + 9) w) M (fun r128 M128 => zIf (w32 r128 = 0) (zm_X11_sixOf l s0 G ca (d - 1) C S (M128 (b + 9) r) M128 (fun r141 M141 => zIf (w32 r141 = 0) (zIf (w32 (M (a + 9) w) = w32 (M141 (b + 9) r)) (zIf (w32 (M (a + 9) w) = 6) (zt_X11_tell_235 l s0 G ca d C S w0  a w b r (M (a + 9) w) M141 Q X) (zIf (w32 (M (a + 9) w) = 7) (zt_X11_tell_235 l s0 G ca d C S w0  a w b r (M (a + 9) w) M141 Q X) (zm_X11_matches l s0 G ca (d - 1) C S a w b r M141 (fun r225 M225 => zIf (w32 r225 = 0) (zm_X11_unresolved l s0 G ca (d - 1) C S  M225 (fun r232 M232 => zt_X11_tell_235 l s0 G ca d C S w0  a w b r (M (a + 9) w) M232 Q X) X) (zt_X11_tell_235 l s0 G ca d C S w0  a w b r (M (a + 9) w) M225 Q X)) X))) (zt_X11_tell_159 l s0 G ca d C S w0  b r (M (a + 9) w) M141 Q X)) (zt_X11_tell_159 l s0 G ca d C S w0  b r (M (a + 9) w) M141 Q X)) X) (zt_X11_tell_159 l s0 G ca d C S w0  b r (M (a + 9) w) M128 Q X)) X))))))
set_option maxRecDepth 100000 in
theorem z_X11_tell {l : Launch} {s0 : State} {a0 : Array Value} {G : va_G} {ca : Nat → ClassId} (Γ : rt_Γ l s0 a0 G ca) {d : Nat} {C : Nat × Nat} {S : zS} (hd : 1 ≤ d) (hok : zok C)  (hs : zSok S) {a : Int} {w : Int} {b : Int} {r : Int} {M : zM} {Q : Int → zM → Prop} {X : zM → Prop} (h : zt_X11_tell l s0 G ca d C S (zw s0 ca C S M)  a w b r M Q X) : zm_X11_tell l s0 G ca d C S  a w b r M Q X := by
  refine z_met (lv := [(0, zv s0 2 84), (1, zv s0 2 a), (2, zv s0 0 w), (3, zv s0 2 b), (4, zv s0 0 r)]) Γ kk_X11_tell rfl (show (lg_sl [zv s0 2 84, zv s0 2 a, zv s0 0 w, zv s0 2 b, zv s0 0 r]).length ≤ 11 from by simp only [zn_0, zn_2, show (lg_sl []).length = 0 from rfl]; omega) (show lv_args 0 [zv s0 2 84, zv s0 2 a, zv s0 0 w, zv s0 2 b, zv s0 0 r] = [(0, zv s0 2 84), (1, zv s0 2 a), (2, zv s0 0 w), (3, zv s0 2 b), (4, zv s0 0 r)] from by rw [zl_2, zl_2, zl_0, zl_2, zl_0]; rfl) ?_
  unfold zt_X11_tell at h
  refine z_aload_n dX11_tell_0 rfl (j := 1) rfl ?_
  obtain ⟨hk0, h⟩ := h
  refine z_getcN Γ kfN_RX11_132 dX11_tell_1 hk0.1 hk0.2.1 rfl ?_
  refine z_iload_n dX11_tell_4 rfl (j := 2) rfl ?_
  obtain ⟨hi5, h⟩ := h
  refine z_iald Γ dX11_tell_5 (by have := hk0.1; omega) hk0.2.2.2.2.2.2.2.2.2.2.1 (by decide) hi5 (v9 := M (a + 9) w) rfl ?_
  refine z_istore (i := 5) (lv' := [(5, zv s0 0 (M (a + 9) w)), (0, zv s0 2 84), (1, zv s0 2 a), (2, zv s0 0 w), (3, zv s0 2 b), (4, zv s0 0 r)]) dX11_tell_6 (by decide) (by simp [zv_cat0, zv_cat1, zv_cat2, zv_cats]) ?_
  refine z_iload dX11_tell_8 (j := 0) rfl ?_
  refine z_bipush dX11_tell_10 (by decide) ?_
  refine z_icmp_ne (tgt := 39) (x' := w32 (M (a + 9) w)) (y' := 8) rfl (by decide) dX11_tell_12 (by decide) (fun c12 => ?_) (fun c12 => ?_)
  · replace h := h.2 c12
    refine z_aload_n dX11_tell_39 rfl (j := 4) rfl ?_
    obtain ⟨hk1, h⟩ := h
    refine z_getcN Γ kfN_RX11_132 dX11_tell_40 hk1.1 hk1.2.1 rfl ?_
    refine z_iload dX11_tell_43 (j := 5) rfl ?_
    obtain ⟨hi45, h⟩ := h
    refine z_iald Γ dX11_tell_45 (by have := hk1.1; omega) hk1.2.2.2.2.2.2.2.2.2.2.1 (by decide) hi45 (v9 := M (b + 9) r) rfl ?_
    refine z_bipush dX11_tell_46 (by decide) ?_
    refine z_icmp_ne (tgt := 126) (x' := w32 (M (b + 9) r)) (y' := 8) rfl (by decide) dX11_tell_48 (by decide) (fun c48 => ?_) (fun c48 => ?_)
    · replace h := h.2 c48
      refine z_iload dX11_tell_126 (j := 0) rfl ?_
      refine z_callS Γ kk_X11_sixOf kc_RX11_201 (As := [zv s0 0 (M (a + 9) w)]) h (by omega) (by decide) (show (parseMethodDescriptor yX11_sixOf.desc).map (fun q => q.parameters.length) = some 1 by decide +kernel) hok (Nat.zero_le _) dX11_tell_128 rfl (fun _ h9 => nomatch h9) ?_
      clear h
      intro r128 M128 h
      show rt_Go _ _ _ _ _ _ _ _ _ _ _ _ 131 [(5, zv s0 0 (M (a + 9) w)), (0, zv s0 2 84), (1, zv s0 2 a), (2, zv s0 0 w), (3, zv s0 2 b), (4, zv s0 0 r)] [zv s0 0 r128] (zw s0 ca C S M128)
      refine z_if_ne (tgt := 159) (x' := w32 r128) rfl dX11_tell_131 (by decide) (fun c131 => ?_) (fun c131 => ?_)
      · replace h := h.2 c131
        exact rt_lfew [1, 4, 5, 0] rfl (zs_X11_tell_159 Γ hd hok hs  h)
      · replace h := h.1 c131
        refine z_aload_n dX11_tell_134 rfl (j := 4) rfl ?_
        refine z_getcN Γ kfN_RX11_132 dX11_tell_135 hk1.1 hk1.2.1 rfl ?_
        refine z_iload dX11_tell_138 (j := 5) rfl ?_
        refine z_iald Γ dX11_tell_140 (by have := hk1.1; omega) hk1.2.2.2.2.2.2.2.2.2.2.1 (by decide) hi45 (v9 := M128 (b + 9) r) rfl ?_
        refine z_callS Γ kk_X11_sixOf kc_RX11_201 (As := [zv s0 0 (M128 (b + 9) r)]) h (by omega) (by decide) (show (parseMethodDescriptor yX11_sixOf.desc).map (fun q => q.parameters.length) = some 1 by decide +kernel) hok (Nat.zero_le _) dX11_tell_141 rfl (fun _ h9 => nomatch h9) ?_
        clear h
        intro r141 M141 h
        show rt_Go _ _ _ _ _ _ _ _ _ _ _ _ 144 [(5, zv s0 0 (M (a + 9) w)), (0, zv s0 2 84), (1, zv s0 2 a), (2, zv s0 0 w), (3, zv s0 2 b), (4, zv s0 0 r)] [zv s0 0 r141] (zw s0 ca C S M141)
        refine z_if_ne (tgt := 159) (x' := w32 r141) rfl dX11_tell_144 (by decide) (fun c144 => ?_) (fun c144 => ?_)
        · replace h := h.2 c144
          exact rt_lfew [1, 4, 5, 0] rfl (zs_X11_tell_159 Γ hd hok hs  h)
        · replace h := h.1 c144
          refine z_iload dX11_tell_147 (j := 0) rfl ?_
          refine z_aload_n dX11_tell_149 rfl (j := 4) rfl ?_
          refine z_getcN Γ kfN_RX11_132 dX11_tell_150 hk1.1 hk1.2.1 rfl ?_
          refine z_iload dX11_tell_153 (j := 5) rfl ?_
          refine z_iald Γ dX11_tell_155 (by have := hk1.1; omega) hk1.2.2.2.2.2.2.2.2.2.2.1 (by decide) hi45 (v9 := M141 (b + 9) r) rfl ?_
          refine z_icmp_eq (tgt := 206) (x' := w32 (M (a + 9) w)) (y' := w32 (M141 (b + 9) r)) rfl rfl dX11_tell_156 (by decide) (fun c156 => ?_) (fun c156 => ?_)
          · replace h := h.1 c156
            refine z_iload dX11_tell_206 (j := 0) rfl ?_
            refine z_bipush dX11_tell_208 (by decide) ?_
            refine z_icmp_eq (tgt := 235) (x' := w32 (M (a + 9) w)) (y' := 6) rfl (by decide) dX11_tell_210 (by decide) (fun c210 => ?_) (fun c210 => ?_)
            · replace h := h.1 c210
              exact rt_lfew [1, 2, 3, 4, 5, 0] rfl (zs_X11_tell_235 Γ hd hok hs  h)
            · replace h := h.2 c210
              refine z_iload dX11_tell_213 (j := 0) rfl ?_
              refine z_bipush dX11_tell_215 (by decide) ?_
              refine z_icmp_eq (tgt := 235) (x' := w32 (M (a + 9) w)) (y' := 7) rfl (by decide) dX11_tell_217 (by decide) (fun c217 => ?_) (fun c217 => ?_)
              · replace h := h.1 c217
                exact rt_lfew [1, 2, 3, 4, 5, 0] rfl (zs_X11_tell_235 Γ hd hok hs  h)
              · replace h := h.2 c217
                refine z_aload_n dX11_tell_220 rfl (j := 2) rfl ?_
                refine z_iload_n dX11_tell_221 rfl (j := 3) rfl ?_
                refine z_aload_n dX11_tell_222 rfl (j := 4) rfl ?_
                refine z_iload dX11_tell_223 (j := 5) rfl ?_
                refine z_callS Γ kk_X11_matches kc_RX11_208 (As := [zv s0 2 a, zv s0 0 w, zv s0 2 b, zv s0 0 r]) h (by omega) (by decide) (show (parseMethodDescriptor yX11_matches.desc).map (fun q => q.parameters.length) = some 4 by decide +kernel) hok (Nat.zero_le _) dX11_tell_225 rfl (fun _ h9 => nomatch h9) ?_
                clear h
                intro r225 M225 h
                show rt_Go _ _ _ _ _ _ _ _ _ _ _ _ 228 [(5, zv s0 0 (M (a + 9) w)), (0, zv s0 2 84), (1, zv s0 2 a), (2, zv s0 0 w), (3, zv s0 2 b), (4, zv s0 0 r)] [zv s0 0 r225] (zw s0 ca C S M225)
                refine z_if_ne (tgt := 235) (x' := w32 r225) rfl dX11_tell_228 (by decide) (fun c228 => ?_) (fun c228 => ?_)
                · replace h := h.2 c228
                  exact rt_lfew [1, 2, 3, 4, 5, 0] rfl (zs_X11_tell_235 Γ hd hok hs  h)
                · replace h := h.1 c228
                  refine z_aload_n dX11_tell_231 rfl (j := 1) rfl ?_
                  refine z_callV Γ kk_X11_unresolved kc_RX11_270 (As := []) h (by omega) (by decide) (show (parseMethodDescriptor yX11_unresolved.desc).map (fun q => q.parameters.length) = some 0 by decide +kernel) hok (Nat.zero_le _) dX11_tell_232 (by decide) (hs 84 _ rfl) rfl rfl (fun _ h9 => nomatch h9) ?_
                  clear h
                  intro r232 M232 h
                  show rt_Go _ _ _ _ _ _ _ _ _ _ _ _ 235 [(5, zv s0 0 (M (a + 9) w)), (0, zv s0 2 84), (1, zv s0 2 a), (2, zv s0 0 w), (3, zv s0 2 b), (4, zv s0 0 r)] [] (zw s0 ca C S M232)
                  exact rt_lfew [1, 2, 3, 4, 5, 0] rfl (zs_X11_tell_235 Γ hd hok hs  h)
          · replace h := h.2 c156
            exact rt_lfew [1, 4, 5, 0] rfl (zs_X11_tell_159 Γ hd hok hs  h)
    · replace h := h.1 c48
      refine z_aload_n dX11_tell_51 rfl (j := 2) rfl ?_
      refine z_iload_n dX11_tell_52 rfl (j := 3) rfl ?_
      refine z_aload_n dX11_tell_53 rfl (j := 4) rfl ?_
      refine z_iload dX11_tell_54 (j := 5) rfl ?_
      refine z_callS Γ kk_X11_branchFor kc_RX11_227 (As := [zv s0 2 a, zv s0 0 w, zv s0 2 b, zv s0 0 r]) h (by omega) (by decide) (show (parseMethodDescriptor yX11_branchFor.desc).map (fun q => q.parameters.length) = some 4 by decide +kernel) hok (Nat.zero_le _) dX11_tell_56 rfl (fun _ h9 => nomatch h9) ?_
      clear h
      intro r56 M56 h
      show rt_Go _ _ _ _ _ _ _ _ _ _ _ _ 59 [(5, zv s0 0 (M (a + 9) w)), (0, zv s0 2 84), (1, zv s0 2 a), (2, zv s0 0 w), (3, zv s0 2 b), (4, zv s0 0 r)] [zv s0 0 r56] (zw s0 ca C S M56)
      refine z_istore (i := 6) (lv' := [(6, zv s0 0 r56), (5, zv s0 0 (M (a + 9) w)), (0, zv s0 2 84), (1, zv s0 2 a), (2, zv s0 0 w), (3, zv s0 2 b), (4, zv s0 0 r)]) dX11_tell_59 (by decide) (by simp [zv_cat0, zv_cat1, zv_cat2, zv_cats]) ?_
      refine z_iload dX11_tell_61 (j := 0) rfl ?_
      refine z_if_ge (tgt := 70) (x' := w32 r56) rfl dX11_tell_63 (by decide) (fun c63 => ?_) (fun c63 => ?_)
      · replace h := h.1 c63
        exact rt_lfew [2, 3, 4, 5, 6, 0] rfl (zs_X11_tell_70 Γ hd hok hs  h)
      · replace h := h.2 c63
        refine z_aload_n dX11_tell_66 rfl (j := 2) rfl ?_
        refine z_callV Γ kk_X11_unresolved kc_RX11_270 (As := []) h (by omega) (by decide) (show (parseMethodDescriptor yX11_unresolved.desc).map (fun q => q.parameters.length) = some 0 by decide +kernel) hok (Nat.zero_le _) dX11_tell_67 (by decide) (hs 84 _ rfl) rfl rfl (fun _ h9 => nomatch h9) ?_
        clear h
        intro r67 M67 h
        show rt_Go _ _ _ _ _ _ _ _ _ _ _ _ 70 [(6, zv s0 0 r56), (5, zv s0 0 (M (a + 9) w)), (0, zv s0 2 84), (1, zv s0 2 a), (2, zv s0 0 w), (3, zv s0 2 b), (4, zv s0 0 r)] [] (zw s0 ca C S M67)
        exact rt_lfew [2, 3, 4, 5, 6, 0] rfl (zs_X11_tell_70 Γ hd hok hs  h)
  · replace h := h.1 c12
    refine z_aload_n dX11_tell_15 rfl (j := 1) rfl ?_
    refine z_aload_n dX11_tell_16 rfl (j := 2) rfl ?_
    refine z_aload_n dX11_tell_17 rfl (j := 2) rfl ?_
    refine z_getcN Γ kfN_RX11_149 dX11_tell_18 hk0.1 hk0.2.1 rfl ?_
    refine z_aload_n dX11_tell_21 rfl (j := 2) rfl ?_
    refine z_iload_n dX11_tell_22 rfl (j := 3) rfl ?_
    refine z_aload_n dX11_tell_23 rfl (j := 1) rfl ?_
    refine z_callV Γ kk_X11_readVarint kc_RX11_256 (As := []) h (by omega) (by decide) (show (parseMethodDescriptor yX11_readVarint.desc).map (fun q => q.parameters.length) = some 0 by decide +kernel) hok (by simp only [List.map, zv_cat0, zv_cat1, zv_cat2, List.sum_cons, List.sum_nil]; decide) dX11_tell_24 (by decide) (hs 84 _ rfl) rfl rfl (fun _ h9 => nomatch h9) ?_
    clear h
    intro r24 M24 h
    show rt_Go _ _ _ _ _ _ _ _ _ _ _ _ 27 [(5, zv s0 0 (M (a + 9) w)), (0, zv s0 2 84), (1, zv s0 2 a), (2, zv s0 0 w), (3, zv s0 2 b), (4, zv s0 0 r)] [zv s0 1 r24, zv s0 0 w, zv s0 2 a, zv s0 2 (a + 15), zv s0 2 a, zv s0 2 84] (zw s0 ca C S M24)
    refine z_l2i dX11_tell_27 ?_
    refine z_callVN Γ kk_X10_kid kc_RX11_152 (As := [zv s0 0 w, zv s0 0 r24]) h (by omega) (by decide) (show (parseMethodDescriptor yX10_kid.desc).map (fun q => q.parameters.length) = some 2 by decide +kernel) hok (by simp only [List.map, zv_cat0, zv_cat1, zv_cat2, List.sum_cons, List.sum_nil]; decide) dX11_tell_28 hk0.1 hk0.2.1 rfl rfl (fun _ h9 => nomatch h9) ?_
    clear h
    intro r28 M28 h
    show rt_Go _ _ _ _ _ _ _ _ _ _ _ _ 31 [(5, zv s0 0 (M (a + 9) w)), (0, zv s0 2 84), (1, zv s0 2 a), (2, zv s0 0 w), (3, zv s0 2 b), (4, zv s0 0 r)] [zv s0 0 r28, zv s0 2 (a + 15), zv s0 2 a, zv s0 2 84] (zw s0 ca C S M28)
    obtain ⟨hi31, h⟩ := h
    refine z_iald Γ dX11_tell_31 (by have := hk0.1; omega) hk0.2.2.2.2.2.2.2.2.2.2.2.2.2.2.2.2.1 (by decide) hi31 (v9 := M28 (a + 15) r28) rfl ?_
    refine z_aload_n dX11_tell_32 rfl (j := 4) rfl ?_
    refine z_iload dX11_tell_33 (j := 5) rfl ?_
    refine z_callV Γ kk_X11_tell kc_RX11_266 (As := [zv s0 2 a, zv s0 0 (M28 (a + 15) r28), zv s0 2 b, zv s0 0 r]) h (by omega) (by decide) (show (parseMethodDescriptor yX11_tell.desc).map (fun q => q.parameters.length) = some 4 by decide +kernel) hok (Nat.zero_le _) dX11_tell_35 (by decide) (hs 84 _ rfl) rfl rfl (fun _ h9 => nomatch h9) ?_
    clear h
    intro r35 M35 h
    show rt_Go _ _ _ _ _ _ _ _ _ _ _ _ 38 [(5, zv s0 0 (M (a + 9) w)), (0, zv s0 2 84), (1, zv s0 2 a), (2, zv s0 0 w), (3, zv s0 2 b), (4, zv s0 0 r)] [] (zw s0 ca C S M35)
    exact z_vret dX11_tell_38 rfl h

def zt_X11_tellSix (l : Launch) (s0 : State) (G : va_G) (ca : Nat → ClassId) (d : Nat) (C : Nat × Nat) (S : zS) (w0 : rt_Wd)  (k : Int) (M : zM) (Q : Int → zM → Prop) (X : zM → Prop) : Prop :=
  zIf (w32 k = 0) (Q 0 M) (zIf (w32 k = 1) (zm_X11_copyBytes l s0 G ca (d - 1) C S 1 1 M (fun r38 M38 => Q 0 M38) X) (zIf (w32 k = 2) (zm_X11_readVarint l s0 G ca (d - 1) C S  M (fun r46 M46 => zm_X11_tellVarint l s0 G ca (d - 1) C S r46 M46 (fun r49 M49 => Q 0 M49) X) X) (zIf (w32 k = 3) (zm_X11_readVarint l s0 G ca (d - 1) C S  M (fun r46 M46 => zm_X11_tellVarint l s0 G ca (d - 1) C S r46 M46 (fun r49 M49 => Q 0 M49) X) X) (zm_X11_readVarint l s0 G ca (d - 1) C S  M (fun r56 M56 => zm_X11_tellVarint l s0 G ca (d - 1) C S r56 M56 (fun r62 M62 => zm_X11_copyBytes l s0 G ca (d - 1) C S r56 1 M62 (fun r68 M68 => Q 0 M68) X) X) X))))
set_option maxRecDepth 100000 in
theorem z_X11_tellSix {l : Launch} {s0 : State} {a0 : Array Value} {G : va_G} {ca : Nat → ClassId} (Γ : rt_Γ l s0 a0 G ca) {d : Nat} {C : Nat × Nat} {S : zS} (hd : 1 ≤ d) (hok : zok C)  (hs : zSok S) {k : Int} {M : zM} {Q : Int → zM → Prop} {X : zM → Prop} (h : zt_X11_tellSix l s0 G ca d C S (zw s0 ca C S M)  k M Q X) : zm_X11_tellSix l s0 G ca d C S  k M Q X := by
  refine z_met (lv := [(0, zv s0 2 84), (1, zv s0 0 k)]) Γ kk_X11_tellSix rfl (show (lg_sl [zv s0 2 84, zv s0 0 k]).length ≤ 4 from by simp only [zn_0, zn_2, show (lg_sl []).length = 0 from rfl]; omega) (show lv_args 0 [zv s0 2 84, zv s0 0 k] = [(0, zv s0 2 84), (1, zv s0 0 k)] from by rw [zl_2, zl_0]; rfl) ?_
  unfold zt_X11_tellSix at h
  refine z_iload_n dX11_tellSix_0 rfl (j := 1) rfl ?_
  by_cases c1_0 : w32 k = 0
  · replace h := h.1 c1_0
    refine z_tin c1_0 dX11_tellSix_1 (by decide) (off := 31) (tgt := 32) (by decide) (by decide) ?_
    refine rt_goto (tgt := 71) dX11_tellSix_32 (by decide) ?_
    exact z_vret dX11_tellSix_71 rfl h
  replace h := h.2 c1_0
  by_cases c1_1 : w32 k = 1
  · replace h := h.1 c1_1
    refine z_tin c1_1 dX11_tellSix_1 (by decide) (off := 34) (tgt := 35) (by decide) (by decide) ?_
    refine z_aload_n dX11_tellSix_35 rfl (j := 0) rfl ?_
    refine z_lconst (v := 1) dX11_tellSix_36 (by decide) ?_
    refine z_iconst dX11_tellSix_37 ?_
    refine z_callV Γ kk_X11_copyBytes kc_RX11_259 (As := [zv s0 1 1, zv s0 0 1]) h (by omega) (by decide) (show (parseMethodDescriptor yX11_copyBytes.desc).map (fun q => q.parameters.length) = some 2 by decide +kernel) hok (Nat.zero_le _) dX11_tellSix_38 (by decide) (hs 84 _ rfl) rfl rfl (fun _ h9 => nomatch h9) ?_
    clear h
    intro r38 M38 h
    show rt_Go _ _ _ _ _ _ _ _ _ _ _ _ 41 [(0, zv s0 2 84), (1, zv s0 0 k)] [] (zw s0 ca C S M38)
    refine rt_goto (tgt := 71) dX11_tellSix_41 (by decide) ?_
    exact z_vret dX11_tellSix_71 rfl h
  replace h := h.2 c1_1
  by_cases c1_2 : w32 k = 2
  · replace h := h.1 c1_2
    refine z_tin c1_2 dX11_tellSix_1 (by decide) (off := 43) (tgt := 44) (by decide) (by decide) ?_
    refine z_aload_n dX11_tellSix_44 rfl (j := 0) rfl ?_
    refine z_aload_n dX11_tellSix_45 rfl (j := 0) rfl ?_
    refine z_callV Γ kk_X11_readVarint kc_RX11_256 (As := []) h (by omega) (by decide) (show (parseMethodDescriptor yX11_readVarint.desc).map (fun q => q.parameters.length) = some 0 by decide +kernel) hok (by simp only [List.map, zv_cat0, zv_cat1, zv_cat2, List.sum_cons, List.sum_nil]; decide) dX11_tellSix_46 (by decide) (hs 84 _ rfl) rfl rfl (fun _ h9 => nomatch h9) ?_
    clear h
    intro r46 M46 h
    show rt_Go _ _ _ _ _ _ _ _ _ _ _ _ 49 [(0, zv s0 2 84), (1, zv s0 0 k)] [zv s0 1 r46, zv s0 2 84] (zw s0 ca C S M46)
    refine z_callV Γ kk_X11_tellVarint kc_RX11_273 (As := [zv s0 1 r46]) h (by omega) (by decide) (show (parseMethodDescriptor yX11_tellVarint.desc).map (fun q => q.parameters.length) = some 1 by decide +kernel) hok (Nat.zero_le _) dX11_tellSix_49 (by decide) (hs 84 _ rfl) rfl rfl (fun _ h9 => nomatch h9) ?_
    clear h
    intro r49 M49 h
    show rt_Go _ _ _ _ _ _ _ _ _ _ _ _ 52 [(0, zv s0 2 84), (1, zv s0 0 k)] [] (zw s0 ca C S M49)
    refine rt_goto (tgt := 71) dX11_tellSix_52 (by decide) ?_
    exact z_vret dX11_tellSix_71 rfl h
  replace h := h.2 c1_2
  by_cases c1_3 : w32 k = 3
  · replace h := h.1 c1_3
    refine z_tin c1_3 dX11_tellSix_1 (by decide) (off := 43) (tgt := 44) (by decide) (by decide) ?_
    refine z_aload_n dX11_tellSix_44 rfl (j := 0) rfl ?_
    refine z_aload_n dX11_tellSix_45 rfl (j := 0) rfl ?_
    refine z_callV Γ kk_X11_readVarint kc_RX11_256 (As := []) h (by omega) (by decide) (show (parseMethodDescriptor yX11_readVarint.desc).map (fun q => q.parameters.length) = some 0 by decide +kernel) hok (by simp only [List.map, zv_cat0, zv_cat1, zv_cat2, List.sum_cons, List.sum_nil]; decide) dX11_tellSix_46 (by decide) (hs 84 _ rfl) rfl rfl (fun _ h9 => nomatch h9) ?_
    clear h
    intro r46 M46 h
    show rt_Go _ _ _ _ _ _ _ _ _ _ _ _ 49 [(0, zv s0 2 84), (1, zv s0 0 k)] [zv s0 1 r46, zv s0 2 84] (zw s0 ca C S M46)
    refine z_callV Γ kk_X11_tellVarint kc_RX11_273 (As := [zv s0 1 r46]) h (by omega) (by decide) (show (parseMethodDescriptor yX11_tellVarint.desc).map (fun q => q.parameters.length) = some 1 by decide +kernel) hok (Nat.zero_le _) dX11_tellSix_49 (by decide) (hs 84 _ rfl) rfl rfl (fun _ h9 => nomatch h9) ?_
    clear h
    intro r49 M49 h
    show rt_Go _ _ _ _ _ _ _ _ _ _ _ _ 52 [(0, zv s0 2 84), (1, zv s0 0 k)] [] (zw s0 ca C S M49)
    refine rt_goto (tgt := 71) dX11_tellSix_52 (by decide) ?_
    exact z_vret dX11_tellSix_71 rfl h
  replace h := h.2 c1_3
  refine z_tout dX11_tellSix_1 (show w32 k < 0 ∨ 3 < w32 k from by omega) (tgt := 55) (by decide) ?_
  refine z_aload_n dX11_tellSix_55 rfl (j := 0) rfl ?_
  refine z_callV Γ kk_X11_readVarint kc_RX11_256 (As := []) h (by omega) (by decide) (show (parseMethodDescriptor yX11_readVarint.desc).map (fun q => q.parameters.length) = some 0 by decide +kernel) hok (Nat.zero_le _) dX11_tellSix_56 (by decide) (hs 84 _ rfl) rfl rfl (fun _ h9 => nomatch h9) ?_
  clear h
  intro r56 M56 h
  show rt_Go _ _ _ _ _ _ _ _ _ _ _ _ 59 [(0, zv s0 2 84), (1, zv s0 0 k)] [zv s0 1 r56] (zw s0 ca C S M56)
  refine z_lstore_n (i := 2) (lv' := [(2, zv s0 1 r56), (0, zv s0 2 84), (1, zv s0 0 k)]) dX11_tellSix_59 rfl (by decide) (by simp [zv_cat0, zv_cat1, zv_cat2, zv_cats]) ?_
  refine z_aload_n dX11_tellSix_60 rfl (j := 1) rfl ?_
  refine z_lload_n dX11_tellSix_61 rfl (j := 0) rfl ?_
  refine z_callV Γ kk_X11_tellVarint kc_RX11_273 (As := [zv s0 1 r56]) h (by omega) (by decide) (show (parseMethodDescriptor yX11_tellVarint.desc).map (fun q => q.parameters.length) = some 1 by decide +kernel) hok (Nat.zero_le _) dX11_tellSix_62 (by decide) (hs 84 _ rfl) rfl rfl (fun _ h9 => nomatch h9) ?_
  clear h
  intro r62 M62 h
  show rt_Go _ _ _ _ _ _ _ _ _ _ _ _ 65 [(2, zv s0 1 r56), (0, zv s0 2 84), (1, zv s0 0 k)] [] (zw s0 ca C S M62)
  refine z_aload_n dX11_tellSix_65 rfl (j := 1) rfl ?_
  refine z_lload_n dX11_tellSix_66 rfl (j := 0) rfl ?_
  refine z_iconst dX11_tellSix_67 ?_
  refine z_callV Γ kk_X11_copyBytes kc_RX11_259 (As := [zv s0 1 r56, zv s0 0 1]) h (by omega) (by decide) (show (parseMethodDescriptor yX11_copyBytes.desc).map (fun q => q.parameters.length) = some 2 by decide +kernel) hok (Nat.zero_le _) dX11_tellSix_68 (by decide) (hs 84 _ rfl) rfl rfl (fun _ h9 => nomatch h9) ?_
  clear h
  intro r68 M68 h
  show rt_Go _ _ _ _ _ _ _ _ _ _ _ _ 71 [(2, zv s0 1 r56), (0, zv s0 2 84), (1, zv s0 0 k)] [] (zw s0 ca C S M68)
  exact z_vret dX11_tellSix_71 rfl h

abbrev zg_X11_tellRecord_15 (l : Launch) (s0 : State) (G : va_G) (ca : Nat → ClassId) (d : Nat) (C : Nat × Nat) (S : zS) (w0 : rt_Wd)  (v1 : Int) (v2 : Int) (v3 : Int) (v5 : Int) (v6 : Int)  (M : zM) (Q : Int → zM → Prop) (X : zM → Prop) : Prop := rt_Go l s0 G RX11 "tellRecord" cX11_tellRecord 9 (Option.none : Option FieldType) [] d w0 (zQ s0 ca 9 C S Q X) 15 [(0, zv s0 2 84), (1, zv s0 2 v1), (2, zv s0 0 v2), (3, zv s0 2 v3), (5, zv s0 0 v5), (6, zv s0 0 v6)] [] (zw s0 ca C S M)
abbrev zg_X11_tellRecord_49 (l : Launch) (s0 : State) (G : va_G) (ca : Nat → ClassId) (d : Nat) (C : Nat × Nat) (S : zS) (w0 : rt_Wd)  (v1 : Int) (v2 : Int) (v3 : Int) (v5 : Int) (v6 : Int) (v7 : Int) (v8 : Int)  (M : zM) (Q : Int → zM → Prop) (X : zM → Prop) : Prop := rt_Go l s0 G RX11 "tellRecord" cX11_tellRecord 9 (Option.none : Option FieldType) [] d w0 (zQ s0 ca 9 C S Q X) 49 [(0, zv s0 2 84), (1, zv s0 2 v1), (2, zv s0 0 v2), (3, zv s0 2 v3), (5, zv s0 0 v5), (6, zv s0 0 v6), (7, zv s0 0 v7), (8, zv s0 0 v8)] [] (zw s0 ca C S M)
def zt_X11_tellRecord_15 (l : Launch) (s0 : State) (G : va_G) (ca : Nat → ClassId) (d : Nat) (C : Nat × Nat) (S : zS) (w0 : rt_Wd)  (v1 : Int) (v2 : Int) (v3 : Int) (v5 : Int) (v6 : Int)  (M : zM) (Q : Int → zM → Prop) (X : zM → Prop) : Prop :=
  zIf (w32 v6 < 0) (zm_X11_skip l s0 G ca (d - 1) C S v1 v2 ((zu M 84 24 v5)) (fun r160 M160 => Q 0 M160) X) (zm_X11_fieldLike l s0 G ca (d - 1) C S v1 v2 v3 v6 M (fun r25 M25 => zIf (w32 r25 < 0) (zTx S v3 ∧ ((0 ≤ v6 ∧ v6 < 2200) ∧ (zIf (w32 (M25 (v3 + 17) v6) < 0) (zm_X11_unresolved l s0 G ca (d - 1) C S  M25 (fun r136 M136 => zg_X11_tellRecord_15 l s0 G ca d C S w0  v1 v2 v3 v5 (M136 (v3 + 18) v6) M136 Q X) X) (zm_X11_tellDefault l s0 G ca (d - 1) C S v3 (M25 (v3 + 17) v6) (M25 (v3 + 15) v6) M25 (fun r129 M129 => zg_X11_tellRecord_15 l s0 G ca d C S w0  v1 v2 v3 v5 (M129 (v3 + 18) v6) M129 Q X) X)))) (zTx S v1 ∧ ((0 ≤ v2 ∧ v2 < 140) ∧ (zg_X11_tellRecord_49 l s0 G ca d C S w0  v1 v2 v3 v5 v6 r25 ((zu M25 84 24 v5) (v1 + 12) v2) ((zu M25 84 24 v5)) Q X)))) X)
set_option maxRecDepth 100000 in
theorem zs_X11_tellRecord_15 {l : Launch} {s0 : State} {a0 : Array Value} {G : va_G} {ca : Nat → ClassId} (Γ : rt_Γ l s0 a0 G ca) {d : Nat} {C : Nat × Nat} {S : zS} (hd : 1 ≤ d) (hok : zok C)  (hs : zSok S) {w0 : rt_Wd} {v1 : Int} {v2 : Int} {v3 : Int} {v5 : Int} {v6 : Int}   {M : zM} {Q : Int → zM → Prop} {X : zM → Prop} (h : zt_X11_tellRecord_15 l s0 G ca d C S w0  v1 v2 v3 v5 v6 M Q X) : zg_X11_tellRecord_15 l s0 G ca d C S w0  v1 v2 v3 v5 v6 M Q X := by
  unfold zt_X11_tellRecord_15 at h
  refine z_iload dX11_tellRecord_15 (j := 5) rfl ?_
  refine z_if_lt (tgt := 151) (x' := w32 v6) rfl dX11_tellRecord_17 (by decide) (fun c17 => ?_) (fun c17 => ?_)
  · replace h := h.1 c17
    refine z_aload_n dX11_tellRecord_151 rfl (j := 0) rfl ?_
    refine z_iload dX11_tellRecord_152 (j := 4) rfl ?_
    refine z_put0 Γ kp_RX11_253 dX11_tellRecord_154 (by decide) (hs 84 _ rfl) rfl (k9 := 24) rfl ?_
    refine z_aload_n dX11_tellRecord_157 rfl (j := 0) rfl ?_
    refine z_aload_n dX11_tellRecord_158 rfl (j := 1) rfl ?_
    refine z_iload_n dX11_tellRecord_159 rfl (j := 2) rfl ?_
    refine z_callV Γ kk_X11_skip kc_RX11_263 (As := [zv s0 2 v1, zv s0 0 v2]) h (by omega) (by decide) (show (parseMethodDescriptor yX11_skip.desc).map (fun q => q.parameters.length) = some 2 by decide +kernel) hok (Nat.zero_le _) dX11_tellRecord_160 (by decide) (hs 84 _ rfl) rfl rfl (fun _ h9 => nomatch h9) ?_
    clear h
    intro r160 M160 h
    show rt_Go _ _ _ _ _ _ _ _ _ _ _ _ 163 [(0, zv s0 2 84), (1, zv s0 2 v1), (2, zv s0 0 v2), (3, zv s0 2 v3), (5, zv s0 0 v5), (6, zv s0 0 v6)] [] (zw s0 ca C S M160)
    exact z_vret dX11_tellRecord_163 rfl h
  · replace h := h.2 c17
    refine z_aload_n dX11_tellRecord_20 rfl (j := 1) rfl ?_
    refine z_iload_n dX11_tellRecord_21 rfl (j := 2) rfl ?_
    refine z_aload_n dX11_tellRecord_22 rfl (j := 3) rfl ?_
    refine z_iload dX11_tellRecord_23 (j := 5) rfl ?_
    refine z_callS Γ kk_X11_fieldLike kc_RX11_241 (As := [zv s0 2 v1, zv s0 0 v2, zv s0 2 v3, zv s0 0 v6]) h (by omega) (by decide) (show (parseMethodDescriptor yX11_fieldLike.desc).map (fun q => q.parameters.length) = some 4 by decide +kernel) hok (Nat.zero_le _) dX11_tellRecord_25 rfl (fun _ h9 => nomatch h9) ?_
    clear h
    intro r25 M25 h
    show rt_Go _ _ _ _ _ _ _ _ _ _ _ _ 28 [(0, zv s0 2 84), (1, zv s0 2 v1), (2, zv s0 0 v2), (3, zv s0 2 v3), (5, zv s0 0 v5), (6, zv s0 0 v6)] [zv s0 0 r25] (zw s0 ca C S M25)
    refine z_istore (i := 7) (lv' := [(7, zv s0 0 r25), (0, zv s0 2 84), (1, zv s0 2 v1), (2, zv s0 0 v2), (3, zv s0 2 v3), (5, zv s0 0 v5), (6, zv s0 0 v6)]) dX11_tellRecord_28 (by decide) (by simp [zv_cat0, zv_cat1, zv_cat2, zv_cats]) ?_
    refine z_iload dX11_tellRecord_30 (j := 0) rfl ?_
    refine z_if_lt (tgt := 103) (x' := w32 r25) rfl dX11_tellRecord_32 (by decide) (fun c32 => ?_) (fun c32 => ?_)
    · replace h := h.1 c32
      refine z_aload_n dX11_tellRecord_103 rfl (j := 4) rfl ?_
      obtain ⟨hk0, h⟩ := h
      refine z_getcN Γ kfN_RX11_244 dX11_tellRecord_104 hk0.1 hk0.2.1 rfl ?_
      refine z_iload dX11_tellRecord_107 (j := 6) rfl ?_
      obtain ⟨hi109, h⟩ := h
      refine z_iald Γ dX11_tellRecord_109 (by have := hk0.1; omega) hk0.2.2.2.2.2.2.2.2.2.2.2.2.2.2.2.2.2.2.1 (by decide) hi109 (v9 := M25 (v3 + 17) v6) rfl ?_
      refine z_if_lt (tgt := 135) (x' := w32 (M25 (v3 + 17) v6)) rfl dX11_tellRecord_110 (by decide) (fun c110 => ?_) (fun c110 => ?_)
      · replace h := h.1 c110
        refine z_aload_n dX11_tellRecord_135 rfl (j := 1) rfl ?_
        refine z_callV Γ kk_X11_unresolved kc_RX11_270 (As := []) h (by omega) (by decide) (show (parseMethodDescriptor yX11_unresolved.desc).map (fun q => q.parameters.length) = some 0 by decide +kernel) hok (Nat.zero_le _) dX11_tellRecord_136 (by decide) (hs 84 _ rfl) rfl rfl (fun _ h9 => nomatch h9) ?_
        clear h
        intro r136 M136 h
        show rt_Go _ _ _ _ _ _ _ _ _ _ _ _ 139 [(7, zv s0 0 r25), (0, zv s0 2 84), (1, zv s0 2 v1), (2, zv s0 0 v2), (3, zv s0 2 v3), (5, zv s0 0 v5), (6, zv s0 0 v6)] [] (zw s0 ca C S M136)
        refine z_aload_n dX11_tellRecord_139 rfl (j := 4) rfl ?_
        refine z_getcN Γ kfN_RX11_163 dX11_tellRecord_140 hk0.1 hk0.2.1 rfl ?_
        refine z_iload dX11_tellRecord_143 (j := 6) rfl ?_
        refine z_iald Γ dX11_tellRecord_145 (by have := hk0.1; omega) hk0.2.2.2.2.2.2.2.2.2.2.2.2.2.2.2.2.2.2.2.1 (by decide) hi109 (v9 := M136 (v3 + 18) v6) rfl ?_
        refine z_istore (i := 6) (lv' := [(6, zv s0 0 (M136 (v3 + 18) v6)), (7, zv s0 0 r25), (0, zv s0 2 84), (1, zv s0 2 v1), (2, zv s0 0 v2), (3, zv s0 2 v3), (5, zv s0 0 v5)]) dX11_tellRecord_146 (by decide) (by simp [zv_cat0, zv_cat1, zv_cat2, zv_cats]) ?_
        refine rt_goto (tgt := 15) dX11_tellRecord_148 (by decide) ?_
        exact rt_lfew [2, 3, 4, 5, 6, 0] rfl h
      · replace h := h.2 c110
        refine z_aload_n dX11_tellRecord_113 rfl (j := 1) rfl ?_
        refine z_aload_n dX11_tellRecord_114 rfl (j := 4) rfl ?_
        refine z_aload_n dX11_tellRecord_115 rfl (j := 4) rfl ?_
        refine z_getcN Γ kfN_RX11_244 dX11_tellRecord_116 hk0.1 hk0.2.1 rfl ?_
        refine z_iload dX11_tellRecord_119 (j := 6) rfl ?_
        refine z_iald Γ dX11_tellRecord_121 (by have := hk0.1; omega) hk0.2.2.2.2.2.2.2.2.2.2.2.2.2.2.2.2.2.2.1 (by decide) hi109 (v9 := M25 (v3 + 17) v6) rfl ?_
        refine z_aload_n dX11_tellRecord_122 rfl (j := 4) rfl ?_
        refine z_getcN Γ kfN_RX11_149 dX11_tellRecord_123 hk0.1 hk0.2.1 rfl ?_
        refine z_iload dX11_tellRecord_126 (j := 6) rfl ?_
        refine z_iald Γ dX11_tellRecord_128 (by have := hk0.1; omega) hk0.2.2.2.2.2.2.2.2.2.2.2.2.2.2.2.2.1 (by decide) hi109 (v9 := M25 (v3 + 15) v6) rfl ?_
        refine z_callV Γ kk_X11_tellDefault kc_RX11_282 (As := [zv s0 2 v3, zv s0 0 (M25 (v3 + 17) v6), zv s0 0 (M25 (v3 + 15) v6)]) h (by omega) (by decide) (show (parseMethodDescriptor yX11_tellDefault.desc).map (fun q => q.parameters.length) = some 3 by decide +kernel) hok (Nat.zero_le _) dX11_tellRecord_129 (by decide) (hs 84 _ rfl) rfl rfl (fun _ h9 => nomatch h9) ?_
        clear h
        intro r129 M129 h
        show rt_Go _ _ _ _ _ _ _ _ _ _ _ _ 132 [(7, zv s0 0 r25), (0, zv s0 2 84), (1, zv s0 2 v1), (2, zv s0 0 v2), (3, zv s0 2 v3), (5, zv s0 0 v5), (6, zv s0 0 v6)] [] (zw s0 ca C S M129)
        refine rt_goto (tgt := 139) dX11_tellRecord_132 (by decide) ?_
        refine z_aload_n dX11_tellRecord_139 rfl (j := 4) rfl ?_
        refine z_getcN Γ kfN_RX11_163 dX11_tellRecord_140 hk0.1 hk0.2.1 rfl ?_
        refine z_iload dX11_tellRecord_143 (j := 6) rfl ?_
        refine z_iald Γ dX11_tellRecord_145 (by have := hk0.1; omega) hk0.2.2.2.2.2.2.2.2.2.2.2.2.2.2.2.2.2.2.2.1 (by decide) hi109 (v9 := M129 (v3 + 18) v6) rfl ?_
        refine z_istore (i := 6) (lv' := [(6, zv s0 0 (M129 (v3 + 18) v6)), (7, zv s0 0 r25), (0, zv s0 2 84), (1, zv s0 2 v1), (2, zv s0 0 v2), (3, zv s0 2 v3), (5, zv s0 0 v5)]) dX11_tellRecord_146 (by decide) (by simp [zv_cat0, zv_cat1, zv_cat2, zv_cats]) ?_
        refine rt_goto (tgt := 15) dX11_tellRecord_148 (by decide) ?_
        exact rt_lfew [2, 3, 4, 5, 6, 0] rfl h
    · replace h := h.2 c32
      refine z_aload_n dX11_tellRecord_35 rfl (j := 1) rfl ?_
      refine z_iload dX11_tellRecord_36 (j := 5) rfl ?_
      refine z_put0 Γ kp_RX11_253 dX11_tellRecord_38 (by decide) (hs 84 _ rfl) rfl (k9 := 24) rfl ?_
      refine z_aload_n dX11_tellRecord_41 rfl (j := 2) rfl ?_
      obtain ⟨hk1, h⟩ := h
      refine z_getcN Γ kfN_RX11_160 dX11_tellRecord_42 hk1.1 hk1.2.1 rfl ?_
      refine z_iload_n dX11_tellRecord_45 rfl (j := 3) rfl ?_
      obtain ⟨hi46, h⟩ := h
      refine z_iald Γ dX11_tellRecord_46 (by have := hk1.1; omega) hk1.2.2.2.2.2.2.2.2.2.2.2.2.2.1 (by decide) hi46 (v9 := (zu M25 84 24 v5) (v1 + 12) v2) rfl ?_
      refine z_istore (i := 8) (lv' := [(8, zv s0 0 ((zu M25 84 24 v5) (v1 + 12) v2)), (7, zv s0 0 r25), (0, zv s0 2 84), (1, zv s0 2 v1), (2, zv s0 0 v2), (3, zv s0 2 v3), (5, zv s0 0 v5), (6, zv s0 0 v6)]) dX11_tellRecord_47 (by decide) (by simp [zv_cat0, zv_cat1, zv_cat2, zv_cats]) ?_
      exact rt_lfew [2, 3, 4, 5, 6, 7, 1, 0] rfl h

def zt_X11_tellRecord_49 (l : Launch) (s0 : State) (G : va_G) (ca : Nat → ClassId) (d : Nat) (C : Nat × Nat) (S : zS) (w0 : rt_Wd)  (v1 : Int) (v2 : Int) (v3 : Int) (v5 : Int) (v6 : Int) (v7 : Int) (v8 : Int)  (M : zM) (Q : Int → zM → Prop) (X : zM → Prop) : Prop :=
  zIf (w32 v8 = w32 v7) (zTx S v1 ∧ ((0 ≤ v7 ∧ v7 < 2200) ∧ (zTx S v3 ∧ ((0 ≤ v6 ∧ v6 < 2200) ∧ (zm_X11_tell l s0 G ca (d - 1) C S v1 (M (v1 + 15) v7) v3 (M (v3 + 15) v6) M (fun r97 M97 => zg_X11_tellRecord_15 l s0 G ca d C S w0  v1 v2 v3 v5 (M97 (v3 + 18) v6) M97 Q X) X))))) (zTx S v1 ∧ ((0 ≤ v8 ∧ v8 < 2200) ∧ (zm_X11_skip l s0 G ca (d - 1) C S v1 (M (v1 + 15) v8) M (fun r65 M65 => zg_X11_tellRecord_49 l s0 G ca d C S w0  v1 v2 v3 v5 v6 v7 (M65 (v1 + 18) v8) M65 Q X) X)))
set_option maxRecDepth 100000 in
theorem zs_X11_tellRecord_49 {l : Launch} {s0 : State} {a0 : Array Value} {G : va_G} {ca : Nat → ClassId} (Γ : rt_Γ l s0 a0 G ca) {d : Nat} {C : Nat × Nat} {S : zS} (hd : 1 ≤ d) (hok : zok C)  (hs : zSok S) {w0 : rt_Wd} {v1 : Int} {v2 : Int} {v3 : Int} {v5 : Int} {v6 : Int} {v7 : Int} {v8 : Int}   {M : zM} {Q : Int → zM → Prop} {X : zM → Prop} (h : zt_X11_tellRecord_49 l s0 G ca d C S w0  v1 v2 v3 v5 v6 v7 v8 M Q X) : zg_X11_tellRecord_49 l s0 G ca d C S w0  v1 v2 v3 v5 v6 v7 v8 M Q X := by
  unfold zt_X11_tellRecord_49 at h
  refine z_iload dX11_tellRecord_49 (j := 7) rfl ?_
  refine z_iload dX11_tellRecord_51 (j := 6) rfl ?_
  refine z_icmp_eq (tgt := 80) (x' := w32 v8) (y' := w32 v7) rfl rfl dX11_tellRecord_53 (by decide) (fun c53 => ?_) (fun c53 => ?_)
  · replace h := h.1 c53
    refine z_aload_n dX11_tellRecord_80 rfl (j := 0) rfl ?_
    refine z_aload_n dX11_tellRecord_81 rfl (j := 1) rfl ?_
    refine z_aload_n dX11_tellRecord_82 rfl (j := 1) rfl ?_
    obtain ⟨hk0, h⟩ := h
    refine z_getcN Γ kfN_RX11_149 dX11_tellRecord_83 hk0.1 hk0.2.1 rfl ?_
    refine z_iload dX11_tellRecord_86 (j := 6) rfl ?_
    obtain ⟨hi88, h⟩ := h
    refine z_iald Γ dX11_tellRecord_88 (by have := hk0.1; omega) hk0.2.2.2.2.2.2.2.2.2.2.2.2.2.2.2.2.1 (by decide) hi88 (v9 := M (v1 + 15) v7) rfl ?_
    refine z_aload_n dX11_tellRecord_89 rfl (j := 3) rfl ?_
    refine z_aload_n dX11_tellRecord_90 rfl (j := 3) rfl ?_
    obtain ⟨hk1, h⟩ := h
    refine z_getcN Γ kfN_RX11_149 dX11_tellRecord_91 hk1.1 hk1.2.1 rfl ?_
    refine z_iload dX11_tellRecord_94 (j := 5) rfl ?_
    obtain ⟨hi96, h⟩ := h
    refine z_iald Γ dX11_tellRecord_96 (by have := hk1.1; omega) hk1.2.2.2.2.2.2.2.2.2.2.2.2.2.2.2.2.1 (by decide) hi96 (v9 := M (v3 + 15) v6) rfl ?_
    refine z_callV Γ kk_X11_tell kc_RX11_266 (As := [zv s0 2 v1, zv s0 0 (M (v1 + 15) v7), zv s0 2 v3, zv s0 0 (M (v3 + 15) v6)]) h (by omega) (by decide) (show (parseMethodDescriptor yX11_tell.desc).map (fun q => q.parameters.length) = some 4 by decide +kernel) hok (Nat.zero_le _) dX11_tellRecord_97 (by decide) (hs 84 _ rfl) rfl rfl (fun _ h9 => nomatch h9) ?_
    clear h
    intro r97 M97 h
    show rt_Go _ _ _ _ _ _ _ _ _ _ _ _ 100 [(0, zv s0 2 84), (1, zv s0 2 v1), (2, zv s0 0 v2), (3, zv s0 2 v3), (5, zv s0 0 v5), (6, zv s0 0 v6), (7, zv s0 0 v7), (8, zv s0 0 v8)] [] (zw s0 ca C S M97)
    refine rt_goto (tgt := 139) dX11_tellRecord_100 (by decide) ?_
    refine z_aload_n dX11_tellRecord_139 rfl (j := 3) rfl ?_
    refine z_getcN Γ kfN_RX11_163 dX11_tellRecord_140 hk1.1 hk1.2.1 rfl ?_
    refine z_iload dX11_tellRecord_143 (j := 5) rfl ?_
    refine z_iald Γ dX11_tellRecord_145 (by have := hk1.1; omega) hk1.2.2.2.2.2.2.2.2.2.2.2.2.2.2.2.2.2.2.2.1 (by decide) hi96 (v9 := M97 (v3 + 18) v6) rfl ?_
    refine z_istore (i := 6) (lv' := [(6, zv s0 0 (M97 (v3 + 18) v6)), (0, zv s0 2 84), (1, zv s0 2 v1), (2, zv s0 0 v2), (3, zv s0 2 v3), (5, zv s0 0 v5), (7, zv s0 0 v7), (8, zv s0 0 v8)]) dX11_tellRecord_146 (by decide) (by simp [zv_cat0, zv_cat1, zv_cat2, zv_cats]) ?_
    refine rt_goto (tgt := 15) dX11_tellRecord_148 (by decide) ?_
    exact rt_lfew [1, 2, 3, 4, 5, 0] rfl h
  · replace h := h.2 c53
    refine z_aload_n dX11_tellRecord_56 rfl (j := 0) rfl ?_
    refine z_aload_n dX11_tellRecord_57 rfl (j := 1) rfl ?_
    refine z_aload_n dX11_tellRecord_58 rfl (j := 1) rfl ?_
    obtain ⟨hk2, h⟩ := h
    refine z_getcN Γ kfN_RX11_149 dX11_tellRecord_59 hk2.1 hk2.2.1 rfl ?_
    refine z_iload dX11_tellRecord_62 (j := 7) rfl ?_
    obtain ⟨hi64, h⟩ := h
    refine z_iald Γ dX11_tellRecord_64 (by have := hk2.1; omega) hk2.2.2.2.2.2.2.2.2.2.2.2.2.2.2.2.2.1 (by decide) hi64 (v9 := M (v1 + 15) v8) rfl ?_
    refine z_callV Γ kk_X11_skip kc_RX11_263 (As := [zv s0 2 v1, zv s0 0 (M (v1 + 15) v8)]) h (by omega) (by decide) (show (parseMethodDescriptor yX11_skip.desc).map (fun q => q.parameters.length) = some 2 by decide +kernel) hok (Nat.zero_le _) dX11_tellRecord_65 (by decide) (hs 84 _ rfl) rfl rfl (fun _ h9 => nomatch h9) ?_
    clear h
    intro r65 M65 h
    show rt_Go _ _ _ _ _ _ _ _ _ _ _ _ 68 [(0, zv s0 2 84), (1, zv s0 2 v1), (2, zv s0 0 v2), (3, zv s0 2 v3), (5, zv s0 0 v5), (6, zv s0 0 v6), (7, zv s0 0 v7), (8, zv s0 0 v8)] [] (zw s0 ca C S M65)
    refine z_aload_n dX11_tellRecord_68 rfl (j := 1) rfl ?_
    refine z_getcN Γ kfN_RX11_163 dX11_tellRecord_69 hk2.1 hk2.2.1 rfl ?_
    refine z_iload dX11_tellRecord_72 (j := 7) rfl ?_
    refine z_iald Γ dX11_tellRecord_74 (by have := hk2.1; omega) hk2.2.2.2.2.2.2.2.2.2.2.2.2.2.2.2.2.2.2.2.1 (by decide) hi64 (v9 := M65 (v1 + 18) v8) rfl ?_
    refine z_istore (i := 8) (lv' := [(8, zv s0 0 (M65 (v1 + 18) v8)), (0, zv s0 2 84), (1, zv s0 2 v1), (2, zv s0 0 v2), (3, zv s0 2 v3), (5, zv s0 0 v5), (6, zv s0 0 v6), (7, zv s0 0 v7)]) dX11_tellRecord_75 (by decide) (by simp [zv_cat0, zv_cat1, zv_cat2, zv_cats]) ?_
    refine rt_goto (tgt := 49) dX11_tellRecord_77 (by decide) ?_
    exact rt_lfew [1, 2, 3, 4, 5, 6, 7, 0] rfl h

def zt_X11_tellRecord (l : Launch) (s0 : State) (G : va_G) (ca : Nat → ClassId) (d : Nat) (C : Nat × Nat) (S : zS) (w0 : rt_Wd)  (a : Int) (w : Int) (b : Int) (r : Int) (M : zM) (Q : Int → zM → Prop) (X : zM → Prop) : Prop :=
  zTx S b ∧ ((0 ≤ r ∧ r < 140) ∧ (zg_X11_tellRecord_15 l s0 G ca d C S w0  a w b (M 84 24) (M (b + 12) r) M Q X))
set_option maxRecDepth 100000 in
theorem z_X11_tellRecord {l : Launch} {s0 : State} {a0 : Array Value} {G : va_G} {ca : Nat → ClassId} (Γ : rt_Γ l s0 a0 G ca) {d : Nat} {C : Nat × Nat} {S : zS} (hd : 1 ≤ d) (hok : zok C)  (hs : zSok S) {a : Int} {w : Int} {b : Int} {r : Int} {M : zM} {Q : Int → zM → Prop} {X : zM → Prop} (h : zt_X11_tellRecord l s0 G ca d C S (zw s0 ca C S M)  a w b r M Q X) : zm_X11_tellRecord l s0 G ca d C S  a w b r M Q X := by
  refine z_met (lv := [(0, zv s0 2 84), (1, zv s0 2 a), (2, zv s0 0 w), (3, zv s0 2 b), (4, zv s0 0 r)]) Γ kk_X11_tellRecord rfl (show (lg_sl [zv s0 2 84, zv s0 2 a, zv s0 0 w, zv s0 2 b, zv s0 0 r]).length ≤ 9 from by simp only [zn_0, zn_2, show (lg_sl []).length = 0 from rfl]; omega) (show lv_args 0 [zv s0 2 84, zv s0 2 a, zv s0 0 w, zv s0 2 b, zv s0 0 r] = [(0, zv s0 2 84), (1, zv s0 2 a), (2, zv s0 0 w), (3, zv s0 2 b), (4, zv s0 0 r)] from by rw [zl_2, zl_2, zl_0, zl_2, zl_0]; rfl) ?_
  unfold zt_X11_tellRecord at h
  refine z_aload_n dX11_tellRecord_0 rfl (j := 0) rfl ?_
  refine z_get Γ kf_RX11_253 dX11_tellRecord_1 (by decide) (hs 84 _ rfl) rfl (by decide) (v9 := M 84 24) rfl ?_
  refine z_istore (i := 5) (lv' := [(5, zv s0 0 (M 84 24)), (0, zv s0 2 84), (1, zv s0 2 a), (2, zv s0 0 w), (3, zv s0 2 b), (4, zv s0 0 r)]) dX11_tellRecord_4 (by decide) (by simp [zv_cat0, zv_cat1, zv_cat2, zv_cats]) ?_
  refine z_aload_n dX11_tellRecord_6 rfl (j := 4) rfl ?_
  obtain ⟨hk0, h⟩ := h
  refine z_getcN Γ kfN_RX11_160 dX11_tellRecord_7 hk0.1 hk0.2.1 rfl ?_
  refine z_iload dX11_tellRecord_10 (j := 5) rfl ?_
  obtain ⟨hi12, h⟩ := h
  refine z_iald Γ dX11_tellRecord_12 (by have := hk0.1; omega) hk0.2.2.2.2.2.2.2.2.2.2.2.2.2.1 (by decide) hi12 (v9 := M (b + 12) r) rfl ?_
  refine z_istore (i := 6) (lv' := [(6, zv s0 0 (M (b + 12) r)), (5, zv s0 0 (M 84 24)), (0, zv s0 2 84), (1, zv s0 2 a), (2, zv s0 0 w), (3, zv s0 2 b), (4, zv s0 0 r)]) dX11_tellRecord_13 (by decide) (by simp [zv_cat0, zv_cat1, zv_cat2, zv_cats]) ?_
  exact rt_lfew [2, 3, 4, 5, 1, 0] rfl h

abbrev zg_X11_tellString_2 (l : Launch) (s0 : State) (G : va_G) (ca : Nat → ClassId) (d : Nat) (C : Nat × Nat) (S : zS) (w0 : rt_Wd)  (v1 : Int) (v2 : Int) (v3 : Int)  (M : zM) (Q : Int → zM → Prop) (X : zM → Prop) : Prop := rt_Go l s0 G RX11 "tellString" cX11_tellString 4 (Option.none : Option FieldType) [] d w0 (zQ s0 ca 9 C S Q X) 2 [(0, zv s0 2 84), (1, zv s0 2 v1), (2, zv s0 0 v2), (3, zv s0 0 v3)] [] (zw s0 ca C S M)
def zt_X11_tellString_2 (l : Launch) (s0 : State) (G : va_G) (ca : Nat → ClassId) (d : Nat) (C : Nat × Nat) (S : zS) (w0 : rt_Wd)  (v1 : Int) (v2 : Int) (v3 : Int)  (M : zM) (Q : Int → zM → Prop) (X : zM → Prop) : Prop :=
  zTx S v1 ∧ ((0 ≤ v2 ∧ v2 < 4200) ∧ (zIf (w32 (M (v1 + 5) v2) ≤ w32 v3) (Q 0 M) ((0 ≤ (M (v1 + 4) v2) + v3 ∧ (M (v1 + 4) v2) + v3 < 4200) ∧ (zm_X11_tellByte l s0 G ca (d - 1) C S (M (v1 + 8) ((M (v1 + 4) v2) + v3)) M (fun r27 M27 => zg_X11_tellString_2 l s0 G ca d C S w0  v1 v2 (v3 + 1) M27 Q X) X))))
set_option maxRecDepth 100000 in
theorem zs_X11_tellString_2 {l : Launch} {s0 : State} {a0 : Array Value} {G : va_G} {ca : Nat → ClassId} (Γ : rt_Γ l s0 a0 G ca) {d : Nat} {C : Nat × Nat} {S : zS} (hd : 1 ≤ d) (hok : zok C)  (hs : zSok S) {w0 : rt_Wd} {v1 : Int} {v2 : Int} {v3 : Int}   {M : zM} {Q : Int → zM → Prop} {X : zM → Prop} (h : zt_X11_tellString_2 l s0 G ca d C S w0  v1 v2 v3 M Q X) : zg_X11_tellString_2 l s0 G ca d C S w0  v1 v2 v3 M Q X := by
  unfold zt_X11_tellString_2 at h
  refine z_iload_n dX11_tellString_2 rfl (j := 3) rfl ?_
  refine z_aload_n dX11_tellString_3 rfl (j := 1) rfl ?_
  obtain ⟨hk0, h⟩ := h
  refine z_getcN Γ kfN_RX11_286 dX11_tellString_4 hk0.1 hk0.2.1 rfl ?_
  refine z_iload_n dX11_tellString_7 rfl (j := 2) rfl ?_
  obtain ⟨hi8, h⟩ := h
  refine z_iald Γ dX11_tellString_8 (by have := hk0.1; omega) hk0.2.2.2.2.2.2.1 (by decide) hi8 (v9 := M (v1 + 5) v2) rfl ?_
  refine z_icmp_ge (tgt := 36) (x' := w32 v3) (y' := w32 (M (v1 + 5) v2)) rfl rfl dX11_tellString_9 (by decide) (fun c9 => ?_) (fun c9 => ?_)
  · replace h := h.1 c9
    exact z_vret dX11_tellString_36 rfl h
  · replace h := h.2 c9
    refine z_aload_n dX11_tellString_12 rfl (j := 0) rfl ?_
    refine z_aload_n dX11_tellString_13 rfl (j := 1) rfl ?_
    refine z_getcN Γ kfN_RX11_287 dX11_tellString_14 hk0.1 hk0.2.1 rfl ?_
    refine z_aload_n dX11_tellString_17 rfl (j := 1) rfl ?_
    refine z_getcN Γ kfN_RX11_290 dX11_tellString_18 hk0.1 hk0.2.1 rfl ?_
    refine z_iload_n dX11_tellString_21 rfl (j := 2) rfl ?_
    refine z_lald Γ dX11_tellString_22 (by have := hk0.1; omega) hk0.2.2.2.2.2.1 (by decide) hi8 (v9 := M (v1 + 4) v2) rfl ?_
    refine z_l2i dX11_tellString_23 ?_
    refine z_iload_n dX11_tellString_24 rfl (j := 3) rfl ?_
    refine z_iadd dX11_tellString_25 ?_
    obtain ⟨hi26, h⟩ := h
    refine z_bald Γ dX11_tellString_26 (by have := hk0.1; omega) hk0.2.2.2.2.2.2.2.2.2.1 (by decide) hi26 (v9 := M (v1 + 8) ((M (v1 + 4) v2) + v3)) rfl ?_
    refine z_callV Γ kk_X11_tellByte kc_RX11_250 (As := [zv s0 0 (M (v1 + 8) ((M (v1 + 4) v2) + v3))]) h (by omega) (by decide) (show (parseMethodDescriptor yX11_tellByte.desc).map (fun q => q.parameters.length) = some 1 by decide +kernel) hok (Nat.zero_le _) dX11_tellString_27 (by decide) (hs 84 _ rfl) rfl rfl (fun _ h9 => nomatch h9) ?_
    clear h
    intro r27 M27 h
    show rt_Go _ _ _ _ _ _ _ _ _ _ _ _ 30 [(0, zv s0 2 84), (1, zv s0 2 v1), (2, zv s0 0 v2), (3, zv s0 0 v3)] [] (zw s0 ca C S M27)
    refine z_iinc (lv' := [(3, zv s0 0 (v3 + 1)), (0, zv s0 2 84), (1, zv s0 2 v1), (2, zv s0 0 v2)]) dX11_tellString_30 (j := 3) rfl (by decide) (by simp [zv_cat0, zv_cat1, zv_cat2, zv_cats]) ?_
    refine rt_goto (tgt := 2) dX11_tellString_33 (by decide) ?_
    exact rt_lfew [1, 2, 3, 0] rfl h

def zt_X11_tellString (l : Launch) (s0 : State) (G : va_G) (ca : Nat → ClassId) (d : Nat) (C : Nat × Nat) (S : zS) (w0 : rt_Wd)  (b : Int) (v : Int) (M : zM) (Q : Int → zM → Prop) (X : zM → Prop) : Prop :=
  zg_X11_tellString_2 l s0 G ca d C S w0  b v 0 M Q X
set_option maxRecDepth 100000 in
theorem z_X11_tellString {l : Launch} {s0 : State} {a0 : Array Value} {G : va_G} {ca : Nat → ClassId} (Γ : rt_Γ l s0 a0 G ca) {d : Nat} {C : Nat × Nat} {S : zS} (hd : 1 ≤ d) (hok : zok C)  (hs : zSok S) {b : Int} {v : Int} {M : zM} {Q : Int → zM → Prop} {X : zM → Prop} (h : zt_X11_tellString l s0 G ca d C S (zw s0 ca C S M)  b v M Q X) : zm_X11_tellString l s0 G ca d C S  b v M Q X := by
  refine z_met (lv := [(0, zv s0 2 84), (1, zv s0 2 b), (2, zv s0 0 v)]) Γ kk_X11_tellString rfl (show (lg_sl [zv s0 2 84, zv s0 2 b, zv s0 0 v]).length ≤ 4 from by simp only [zn_0, zn_2, show (lg_sl []).length = 0 from rfl]; omega) (show lv_args 0 [zv s0 2 84, zv s0 2 b, zv s0 0 v] = [(0, zv s0 2 84), (1, zv s0 2 b), (2, zv s0 0 v)] from by rw [zl_2, zl_2, zl_0]; rfl) ?_
  unfold zt_X11_tellString at h
  refine z_iconst dX11_tellString_0 ?_
  refine z_istore_n (i := 3) (lv' := [(3, zv s0 0 0), (0, zv s0 2 84), (1, zv s0 2 b), (2, zv s0 0 v)]) dX11_tellString_1 rfl (by decide) (by simp [zv_cat0, zv_cat1, zv_cat2, zv_cats]) ?_
  exact rt_lfew [1, 2, 3, 0] rfl h

abbrev zg_X11_tellDefault_183 (l : Launch) (s0 : State) (G : va_G) (ca : Nat → ClassId) (d : Nat) (C : Nat × Nat) (S : zS) (w0 : rt_Wd)  (v1 : Int) (v2 : Int) (v4 : Int)  (M : zM) (Q : Int → zM → Prop) (X : zM → Prop) : Prop := rt_Go l s0 G RX11 "tellDefault" cX11_tellDefault 6 (Option.none : Option FieldType) [] d w0 (zQ s0 ca 9 C S Q X) 183 [(0, zv s0 2 84), (1, zv s0 2 v1), (2, zv s0 0 v2), (4, zv s0 0 v4)] [] (zw s0 ca C S M)
abbrev zg_X11_tellDefault_255 (l : Launch) (s0 : State) (G : va_G) (ca : Nat → ClassId) (d : Nat) (C : Nat × Nat) (S : zS) (w0 : rt_Wd)  (v1 : Int) (v3 : Int) (v4 : Int)  (M : zM) (Q : Int → zM → Prop) (X : zM → Prop) : Prop := rt_Go l s0 G RX11 "tellDefault" cX11_tellDefault 6 (Option.none : Option FieldType) [] d w0 (zQ s0 ca 9 C S Q X) 255 [(0, zv s0 2 84), (1, zv s0 2 v1), (3, zv s0 0 v3), (4, zv s0 0 v4)] [] (zw s0 ca C S M)
abbrev zg_X11_tellDefault_309 (l : Launch) (s0 : State) (G : va_G) (ca : Nat → ClassId) (d : Nat) (C : Nat × Nat) (S : zS) (w0 : rt_Wd)  (v1 : Int) (v2 : Int) (v3 : Int) (v4 : Int) (v5 : Int)  (M : zM) (Q : Int → zM → Prop) (X : zM → Prop) : Prop := rt_Go l s0 G RX11 "tellDefault" cX11_tellDefault 6 (Option.none : Option FieldType) [] d w0 (zQ s0 ca 9 C S Q X) 309 [(0, zv s0 2 84), (1, zv s0 2 v1), (2, zv s0 0 v2), (3, zv s0 0 v3), (4, zv s0 0 v4), (5, zv s0 0 v5)] [] (zw s0 ca C S M)
abbrev zg_X11_tellDefault_354 (l : Launch) (s0 : State) (G : va_G) (ca : Nat → ClassId) (d : Nat) (C : Nat × Nat) (S : zS) (w0 : rt_Wd)  (v1 : Int) (v3 : Int) (v5 : Int)  (M : zM) (Q : Int → zM → Prop) (X : zM → Prop) : Prop := rt_Go l s0 G RX11 "tellDefault" cX11_tellDefault 6 (Option.none : Option FieldType) [] d w0 (zQ s0 ca 9 C S Q X) 354 [(0, zv s0 2 84), (1, zv s0 2 v1), (3, zv s0 0 v3), (5, zv s0 0 v5)] [] (zw s0 ca C S M)
def zt_X11_tellDefault_183 (l : Launch) (s0 : State) (G : va_G) (ca : Nat → ClassId) (d : Nat) (C : Nat × Nat) (S : zS) (w0 : rt_Wd)  (v1 : Int) (v2 : Int) (v4 : Int)  (M : zM) (Q : Int → zM → Prop) (X : zM → Prop) : Prop :=
  zIf (w32 v4 < 0) (Q 0 M) (zTx S v1 ∧ ((0 ≤ v4 ∧ v4 < 2200) ∧ (zm_X10_memberLike l s0 G ca (d - 1) C S v1 v2 (M (v1 + 16) v4) M (fun r199 M199 => zm_X11_tellDefault l s0 G ca (d - 1) C S v1 r199 (M199 (v1 + 15) v4) M199 (fun r209 M209 => zg_X11_tellDefault_183 l s0 G ca d C S w0  v1 v2 (M209 (v1 + 18) v4) M209 Q X) X) X)))
set_option maxRecDepth 100000 in
theorem zs_X11_tellDefault_183 {l : Launch} {s0 : State} {a0 : Array Value} {G : va_G} {ca : Nat → ClassId} (Γ : rt_Γ l s0 a0 G ca) {d : Nat} {C : Nat × Nat} {S : zS} (hd : 1 ≤ d) (hok : zok C)  (hs : zSok S) {w0 : rt_Wd} {v1 : Int} {v2 : Int} {v4 : Int}   {M : zM} {Q : Int → zM → Prop} {X : zM → Prop} (h : zt_X11_tellDefault_183 l s0 G ca d C S w0  v1 v2 v4 M Q X) : zg_X11_tellDefault_183 l s0 G ca d C S w0  v1 v2 v4 M Q X := by
  unfold zt_X11_tellDefault_183 at h
  refine z_iload dX11_tellDefault_183 (j := 3) rfl ?_
  refine z_if_lt (tgt := 224) (x' := w32 v4) rfl dX11_tellDefault_185 (by decide) (fun c185 => ?_) (fun c185 => ?_)
  · replace h := h.1 c185
    refine rt_goto (tgt := 423) dX11_tellDefault_224 (by decide) ?_
    exact z_vret dX11_tellDefault_423 rfl h
  · replace h := h.2 c185
    refine z_aload_n dX11_tellDefault_188 rfl (j := 0) rfl ?_
    refine z_aload_n dX11_tellDefault_189 rfl (j := 1) rfl ?_
    refine z_aload_n dX11_tellDefault_190 rfl (j := 1) rfl ?_
    refine z_iload_n dX11_tellDefault_191 rfl (j := 2) rfl ?_
    refine z_aload_n dX11_tellDefault_192 rfl (j := 1) rfl ?_
    obtain ⟨hk0, h⟩ := h
    refine z_getcN Γ kfN_RX11_231 dX11_tellDefault_193 hk0.1 hk0.2.1 rfl ?_
    refine z_iload dX11_tellDefault_196 (j := 3) rfl ?_
    obtain ⟨hi198, h⟩ := h
    refine z_iald Γ dX11_tellDefault_198 (by have := hk0.1; omega) hk0.2.2.2.2.2.2.2.2.2.2.2.2.2.2.2.2.2.1 (by decide) hi198 (v9 := M (v1 + 16) v4) rfl ?_
    refine z_callVN Γ kk_X10_memberLike kc_RX11_300 (As := [zv s0 0 v2, zv s0 0 (M (v1 + 16) v4)]) h (by omega) (by decide) (show (parseMethodDescriptor yX10_memberLike.desc).map (fun q => q.parameters.length) = some 2 by decide +kernel) hok (by simp only [List.map, zv_cat0, zv_cat1, zv_cat2, List.sum_cons, List.sum_nil]; decide) dX11_tellDefault_199 hk0.1 hk0.2.1 rfl rfl (fun _ h9 => nomatch h9) ?_
    clear h
    intro r199 M199 h
    show rt_Go _ _ _ _ _ _ _ _ _ _ _ _ 202 [(0, zv s0 2 84), (1, zv s0 2 v1), (2, zv s0 0 v2), (4, zv s0 0 v4)] [zv s0 0 r199, zv s0 2 v1, zv s0 2 84] (zw s0 ca C S M199)
    refine z_aload_n dX11_tellDefault_202 rfl (j := 1) rfl ?_
    refine z_getcN Γ kfN_RX11_149 dX11_tellDefault_203 hk0.1 hk0.2.1 rfl ?_
    refine z_iload dX11_tellDefault_206 (j := 3) rfl ?_
    refine z_iald Γ dX11_tellDefault_208 (by have := hk0.1; omega) hk0.2.2.2.2.2.2.2.2.2.2.2.2.2.2.2.2.1 (by decide) hi198 (v9 := M199 (v1 + 15) v4) rfl ?_
    refine z_callV Γ kk_X11_tellDefault kc_RX11_282 (As := [zv s0 2 v1, zv s0 0 r199, zv s0 0 (M199 (v1 + 15) v4)]) h (by omega) (by decide) (show (parseMethodDescriptor yX11_tellDefault.desc).map (fun q => q.parameters.length) = some 3 by decide +kernel) hok (Nat.zero_le _) dX11_tellDefault_209 (by decide) (hs 84 _ rfl) rfl rfl (fun _ h9 => nomatch h9) ?_
    clear h
    intro r209 M209 h
    show rt_Go _ _ _ _ _ _ _ _ _ _ _ _ 212 [(0, zv s0 2 84), (1, zv s0 2 v1), (2, zv s0 0 v2), (4, zv s0 0 v4)] [] (zw s0 ca C S M209)
    refine z_aload_n dX11_tellDefault_212 rfl (j := 1) rfl ?_
    refine z_getcN Γ kfN_RX11_163 dX11_tellDefault_213 hk0.1 hk0.2.1 rfl ?_
    refine z_iload dX11_tellDefault_216 (j := 3) rfl ?_
    refine z_iald Γ dX11_tellDefault_218 (by have := hk0.1; omega) hk0.2.2.2.2.2.2.2.2.2.2.2.2.2.2.2.2.2.2.2.1 (by decide) hi198 (v9 := M209 (v1 + 18) v4) rfl ?_
    refine z_istore (i := 4) (lv' := [(4, zv s0 0 (M209 (v1 + 18) v4)), (0, zv s0 2 84), (1, zv s0 2 v1), (2, zv s0 0 v2)]) dX11_tellDefault_219 (by decide) (by simp [zv_cat0, zv_cat1, zv_cat2, zv_cats]) ?_
    refine rt_goto (tgt := 183) dX11_tellDefault_221 (by decide) ?_
    exact rt_lfew [1, 2, 3, 0] rfl h

def zt_X11_tellDefault_255 (l : Launch) (s0 : State) (G : va_G) (ca : Nat → ClassId) (d : Nat) (C : Nat × Nat) (S : zS) (w0 : rt_Wd)  (v1 : Int) (v3 : Int) (v4 : Int)  (M : zM) (Q : Int → zM → Prop) (X : zM → Prop) : Prop :=
  zIf (w32 v4 < 0) (zm_X11_tellVarint l s0 G ca (d - 1) C S 0 M (fun r292 M292 => Q 0 M292) X) (zTx S v1 ∧ ((0 ≤ v3 ∧ v3 < 140) ∧ ((0 ≤ M (v1 + 12) v3 ∧ M (v1 + 12) v3 < 2200) ∧ (zm_X11_tellDefault l s0 G ca (d - 1) C S v1 v4 (M (v1 + 15) (M (v1 + 12) v3)) M (fun r275 M275 => (0 ≤ v4 ∧ v4 < 4200) ∧ (zg_X11_tellDefault_255 l s0 G ca d C S w0  v1 v3 (M275 (v1 + 7) v4) M275 Q X)) X))))
set_option maxRecDepth 100000 in
theorem zs_X11_tellDefault_255 {l : Launch} {s0 : State} {a0 : Array Value} {G : va_G} {ca : Nat → ClassId} (Γ : rt_Γ l s0 a0 G ca) {d : Nat} {C : Nat × Nat} {S : zS} (hd : 1 ≤ d) (hok : zok C)  (hs : zSok S) {w0 : rt_Wd} {v1 : Int} {v3 : Int} {v4 : Int}   {M : zM} {Q : Int → zM → Prop} {X : zM → Prop} (h : zt_X11_tellDefault_255 l s0 G ca d C S w0  v1 v3 v4 M Q X) : zg_X11_tellDefault_255 l s0 G ca d C S w0  v1 v3 v4 M Q X := by
  unfold zt_X11_tellDefault_255 at h
  refine z_iload dX11_tellDefault_255 (j := 3) rfl ?_
  refine z_if_lt (tgt := 290) (x' := w32 v4) rfl dX11_tellDefault_257 (by decide) (fun c257 => ?_) (fun c257 => ?_)
  · replace h := h.1 c257
    refine z_aload_n dX11_tellDefault_290 rfl (j := 0) rfl ?_
    refine z_lconst (v := 0) dX11_tellDefault_291 (by decide) ?_
    refine z_callV Γ kk_X11_tellVarint kc_RX11_273 (As := [zv s0 1 0]) h (by omega) (by decide) (show (parseMethodDescriptor yX11_tellVarint.desc).map (fun q => q.parameters.length) = some 1 by decide +kernel) hok (Nat.zero_le _) dX11_tellDefault_292 (by decide) (hs 84 _ rfl) rfl rfl (fun _ h9 => nomatch h9) ?_
    clear h
    intro r292 M292 h
    show rt_Go _ _ _ _ _ _ _ _ _ _ _ _ 295 [(0, zv s0 2 84), (1, zv s0 2 v1), (3, zv s0 0 v3), (4, zv s0 0 v4)] [] (zw s0 ca C S M292)
    refine rt_goto (tgt := 423) dX11_tellDefault_295 (by decide) ?_
    exact z_vret dX11_tellDefault_423 rfl h
  · replace h := h.2 c257
    refine z_aload_n dX11_tellDefault_260 rfl (j := 0) rfl ?_
    refine z_aload_n dX11_tellDefault_261 rfl (j := 1) rfl ?_
    refine z_iload dX11_tellDefault_262 (j := 3) rfl ?_
    refine z_aload_n dX11_tellDefault_264 rfl (j := 1) rfl ?_
    obtain ⟨hk0, h⟩ := h
    refine z_getcN Γ kfN_RX11_149 dX11_tellDefault_265 hk0.1 hk0.2.1 rfl ?_
    refine z_aload_n dX11_tellDefault_268 rfl (j := 1) rfl ?_
    refine z_getcN Γ kfN_RX11_160 dX11_tellDefault_269 hk0.1 hk0.2.1 rfl ?_
    refine z_iload_n dX11_tellDefault_272 rfl (j := 2) rfl ?_
    obtain ⟨hi273, h⟩ := h
    refine z_iald Γ dX11_tellDefault_273 (by have := hk0.1; omega) hk0.2.2.2.2.2.2.2.2.2.2.2.2.2.1 (by decide) hi273 (v9 := M (v1 + 12) v3) rfl ?_
    obtain ⟨hi274, h⟩ := h
    refine z_iald Γ dX11_tellDefault_274 (by have := hk0.1; omega) hk0.2.2.2.2.2.2.2.2.2.2.2.2.2.2.2.2.1 (by decide) hi274 (v9 := M (v1 + 15) (M (v1 + 12) v3)) rfl ?_
    refine z_callV Γ kk_X11_tellDefault kc_RX11_282 (As := [zv s0 2 v1, zv s0 0 v4, zv s0 0 (M (v1 + 15) (M (v1 + 12) v3))]) h (by omega) (by decide) (show (parseMethodDescriptor yX11_tellDefault.desc).map (fun q => q.parameters.length) = some 3 by decide +kernel) hok (Nat.zero_le _) dX11_tellDefault_275 (by decide) (hs 84 _ rfl) rfl rfl (fun _ h9 => nomatch h9) ?_
    clear h
    intro r275 M275 h
    show rt_Go _ _ _ _ _ _ _ _ _ _ _ _ 278 [(0, zv s0 2 84), (1, zv s0 2 v1), (3, zv s0 0 v3), (4, zv s0 0 v4)] [] (zw s0 ca C S M275)
    refine z_aload_n dX11_tellDefault_278 rfl (j := 1) rfl ?_
    refine z_getcN Γ kfN_RX11_306 dX11_tellDefault_279 hk0.1 hk0.2.1 rfl ?_
    refine z_iload dX11_tellDefault_282 (j := 3) rfl ?_
    obtain ⟨hi284, h⟩ := h
    refine z_iald Γ dX11_tellDefault_284 (by have := hk0.1; omega) hk0.2.2.2.2.2.2.2.2.1 (by decide) hi284 (v9 := M275 (v1 + 7) v4) rfl ?_
    refine z_istore (i := 4) (lv' := [(4, zv s0 0 (M275 (v1 + 7) v4)), (0, zv s0 2 84), (1, zv s0 2 v1), (3, zv s0 0 v3)]) dX11_tellDefault_285 (by decide) (by simp [zv_cat0, zv_cat1, zv_cat2, zv_cats]) ?_
    refine rt_goto (tgt := 255) dX11_tellDefault_287 (by decide) ?_
    exact rt_lfew [1, 2, 3, 0] rfl h

def zt_X11_tellDefault_309 (l : Launch) (s0 : State) (G : va_G) (ca : Nat → ClassId) (d : Nat) (C : Nat × Nat) (S : zS) (w0 : rt_Wd)  (v1 : Int) (v2 : Int) (v3 : Int) (v4 : Int) (v5 : Int)  (M : zM) (Q : Int → zM → Prop) (X : zM → Prop) : Prop :=
  zIf (w32 v5 < 0) (zIf (w32 v4 ≤ 0) (zTx S v1 ∧ ((0 ≤ v2 ∧ v2 < 4200) ∧ (zg_X11_tellDefault_354 l s0 G ca d C S w0  v1 v3 (M (v1 + 6) v2) M Q X))) (zm_X11_tellVarint l s0 G ca (d - 1) C S (w32 v4) M (fun r343 M343 => zTx S v1 ∧ ((0 ≤ v2 ∧ v2 < 4200) ∧ (zg_X11_tellDefault_354 l s0 G ca d C S w0  v1 v3 (M343 (v1 + 6) v2) M343 Q X))) X)) (zTx S v1 ∧ ((0 ≤ v5 ∧ v5 < 4200) ∧ ((0 ≤ M (v1 + 7) v5 ∧ M (v1 + 7) v5 < 4200) ∧ (zg_X11_tellDefault_309 l s0 G ca d C S w0  v1 v2 v3 (v4 + 1) (M (v1 + 7) (M (v1 + 7) v5)) M Q X))))
set_option maxRecDepth 100000 in
theorem zs_X11_tellDefault_309 {l : Launch} {s0 : State} {a0 : Array Value} {G : va_G} {ca : Nat → ClassId} (Γ : rt_Γ l s0 a0 G ca) {d : Nat} {C : Nat × Nat} {S : zS} (hd : 1 ≤ d) (hok : zok C)  (hs : zSok S) {w0 : rt_Wd} {v1 : Int} {v2 : Int} {v3 : Int} {v4 : Int} {v5 : Int}   {M : zM} {Q : Int → zM → Prop} {X : zM → Prop} (h : zt_X11_tellDefault_309 l s0 G ca d C S w0  v1 v2 v3 v4 v5 M Q X) : zg_X11_tellDefault_309 l s0 G ca d C S w0  v1 v2 v3 v4 v5 M Q X := by
  unfold zt_X11_tellDefault_309 at h
  refine z_iload dX11_tellDefault_309 (j := 5) rfl ?_
  refine z_if_lt (tgt := 334) (x' := w32 v5) rfl dX11_tellDefault_311 (by decide) (fun c311 => ?_) (fun c311 => ?_)
  · replace h := h.1 c311
    refine z_iload dX11_tellDefault_334 (j := 4) rfl ?_
    refine z_if_le (tgt := 346) (x' := w32 v4) rfl dX11_tellDefault_336 (by decide) (fun c336 => ?_) (fun c336 => ?_)
    · replace h := h.1 c336
      refine z_aload_n dX11_tellDefault_346 rfl (j := 1) rfl ?_
      obtain ⟨hk0, h⟩ := h
      refine z_getcN Γ kfN_RX11_303 dX11_tellDefault_347 hk0.1 hk0.2.1 rfl ?_
      refine z_iload_n dX11_tellDefault_350 rfl (j := 2) rfl ?_
      obtain ⟨hi351, h⟩ := h
      refine z_iald Γ dX11_tellDefault_351 (by have := hk0.1; omega) hk0.2.2.2.2.2.2.2.1 (by decide) hi351 (v9 := M (v1 + 6) v2) rfl ?_
      refine z_istore (i := 5) (lv' := [(5, zv s0 0 (M (v1 + 6) v2)), (0, zv s0 2 84), (1, zv s0 2 v1), (2, zv s0 0 v2), (3, zv s0 0 v3), (4, zv s0 0 v4)]) dX11_tellDefault_352 (by decide) (by simp [zv_cat0, zv_cat1, zv_cat2, zv_cats]) ?_
      exact rt_lfew [1, 2, 4, 0] rfl h
    · replace h := h.2 c336
      refine z_aload_n dX11_tellDefault_339 rfl (j := 0) rfl ?_
      refine z_iload dX11_tellDefault_340 (j := 4) rfl ?_
      refine z_i2l dX11_tellDefault_342 ?_
      refine z_callV Γ kk_X11_tellVarint kc_RX11_273 (As := [zv s0 1 (w32 v4)]) h (by omega) (by decide) (show (parseMethodDescriptor yX11_tellVarint.desc).map (fun q => q.parameters.length) = some 1 by decide +kernel) hok (Nat.zero_le _) dX11_tellDefault_343 (by decide) (hs 84 _ rfl) rfl rfl (fun _ h9 => nomatch h9) ?_
      clear h
      intro r343 M343 h
      show rt_Go _ _ _ _ _ _ _ _ _ _ _ _ 346 [(0, zv s0 2 84), (1, zv s0 2 v1), (2, zv s0 0 v2), (3, zv s0 0 v3), (4, zv s0 0 v4), (5, zv s0 0 v5)] [] (zw s0 ca C S M343)
      refine z_aload_n dX11_tellDefault_346 rfl (j := 1) rfl ?_
      obtain ⟨hk1, h⟩ := h
      refine z_getcN Γ kfN_RX11_303 dX11_tellDefault_347 hk1.1 hk1.2.1 rfl ?_
      refine z_iload_n dX11_tellDefault_350 rfl (j := 2) rfl ?_
      obtain ⟨hi351, h⟩ := h
      refine z_iald Γ dX11_tellDefault_351 (by have := hk1.1; omega) hk1.2.2.2.2.2.2.2.1 (by decide) hi351 (v9 := M343 (v1 + 6) v2) rfl ?_
      refine z_istore (i := 5) (lv' := [(5, zv s0 0 (M343 (v1 + 6) v2)), (0, zv s0 2 84), (1, zv s0 2 v1), (2, zv s0 0 v2), (3, zv s0 0 v3), (4, zv s0 0 v4)]) dX11_tellDefault_352 (by decide) (by simp [zv_cat0, zv_cat1, zv_cat2, zv_cats]) ?_
      exact rt_lfew [1, 2, 4, 0] rfl h
  · replace h := h.2 c311
    refine z_iinc (lv' := [(4, zv s0 0 (v4 + 1)), (0, zv s0 2 84), (1, zv s0 2 v1), (2, zv s0 0 v2), (3, zv s0 0 v3), (5, zv s0 0 v5)]) dX11_tellDefault_314 (j := 4) rfl (by decide) (by simp [zv_cat0, zv_cat1, zv_cat2, zv_cats]) ?_
    refine z_aload_n dX11_tellDefault_317 rfl (j := 2) rfl ?_
    obtain ⟨hk2, h⟩ := h
    refine z_getcN Γ kfN_RX11_306 dX11_tellDefault_318 hk2.1 hk2.2.1 rfl ?_
    refine z_aload_n dX11_tellDefault_321 rfl (j := 2) rfl ?_
    refine z_getcN Γ kfN_RX11_306 dX11_tellDefault_322 hk2.1 hk2.2.1 rfl ?_
    refine z_iload dX11_tellDefault_325 (j := 5) rfl ?_
    obtain ⟨hi327, h⟩ := h
    refine z_iald Γ dX11_tellDefault_327 (by have := hk2.1; omega) hk2.2.2.2.2.2.2.2.2.1 (by decide) hi327 (v9 := M (v1 + 7) v5) rfl ?_
    obtain ⟨hi328, h⟩ := h
    refine z_iald Γ dX11_tellDefault_328 (by have := hk2.1; omega) hk2.2.2.2.2.2.2.2.2.1 (by decide) hi328 (v9 := M (v1 + 7) (M (v1 + 7) v5)) rfl ?_
    refine z_istore (i := 5) (lv' := [(5, zv s0 0 (M (v1 + 7) (M (v1 + 7) v5))), (4, zv s0 0 (v4 + 1)), (0, zv s0 2 84), (1, zv s0 2 v1), (2, zv s0 0 v2), (3, zv s0 0 v3)]) dX11_tellDefault_329 (by decide) (by simp [zv_cat0, zv_cat1, zv_cat2, zv_cats]) ?_
    refine rt_goto (tgt := 309) dX11_tellDefault_331 (by decide) ?_
    exact rt_lfew [2, 3, 4, 5, 1, 0] rfl h

def zt_X11_tellDefault_354 (l : Launch) (s0 : State) (G : va_G) (ca : Nat → ClassId) (d : Nat) (C : Nat × Nat) (S : zS) (w0 : rt_Wd)  (v1 : Int) (v3 : Int) (v5 : Int)  (M : zM) (Q : Int → zM → Prop) (X : zM → Prop) : Prop :=
  zIf (w32 v5 < 0) (zm_X11_tellVarint l s0 G ca (d - 1) C S 0 M (fun r420 M420 => Q 0 M420) X) (zTx S v1 ∧ ((0 ≤ v5 ∧ v5 < 4200) ∧ (zm_X11_tellVarint l s0 G ca (d - 1) C S (w32 (M (v1 + 5) v5)) M (fun r368 M368 => zm_X11_tellString l s0 G ca (d - 1) C S v1 v5 M368 (fun r375 M375 => (0 ≤ v3 ∧ v3 < 140) ∧ ((0 ≤ M375 (v1 + 12) v3 ∧ M375 (v1 + 12) v3 < 2200) ∧ (zm_X11_tellDefault l s0 G ca (d - 1) C S v1 (M375 (v1 + 7) v5) (M375 (v1 + 15) (M375 (v1 + 12) v3)) M375 (fun r398 M398 => (0 ≤ M398 (v1 + 7) v5 ∧ M398 (v1 + 7) v5 < 4200) ∧ (zg_X11_tellDefault_354 l s0 G ca d C S w0  v1 v3 (M398 (v1 + 7) (M398 (v1 + 7) v5)) M398 Q X)) X))) X) X)))
set_option maxRecDepth 100000 in
theorem zs_X11_tellDefault_354 {l : Launch} {s0 : State} {a0 : Array Value} {G : va_G} {ca : Nat → ClassId} (Γ : rt_Γ l s0 a0 G ca) {d : Nat} {C : Nat × Nat} {S : zS} (hd : 1 ≤ d) (hok : zok C)  (hs : zSok S) {w0 : rt_Wd} {v1 : Int} {v3 : Int} {v5 : Int}   {M : zM} {Q : Int → zM → Prop} {X : zM → Prop} (h : zt_X11_tellDefault_354 l s0 G ca d C S w0  v1 v3 v5 M Q X) : zg_X11_tellDefault_354 l s0 G ca d C S w0  v1 v3 v5 M Q X := by
  unfold zt_X11_tellDefault_354 at h
  refine z_iload dX11_tellDefault_354 (j := 3) rfl ?_
  refine z_if_lt (tgt := 418) (x' := w32 v5) rfl dX11_tellDefault_356 (by decide) (fun c356 => ?_) (fun c356 => ?_)
  · replace h := h.1 c356
    refine z_aload_n dX11_tellDefault_418 rfl (j := 0) rfl ?_
    refine z_lconst (v := 0) dX11_tellDefault_419 (by decide) ?_
    refine z_callV Γ kk_X11_tellVarint kc_RX11_273 (As := [zv s0 1 0]) h (by omega) (by decide) (show (parseMethodDescriptor yX11_tellVarint.desc).map (fun q => q.parameters.length) = some 1 by decide +kernel) hok (Nat.zero_le _) dX11_tellDefault_420 (by decide) (hs 84 _ rfl) rfl rfl (fun _ h9 => nomatch h9) ?_
    clear h
    intro r420 M420 h
    show rt_Go _ _ _ _ _ _ _ _ _ _ _ _ 423 [(0, zv s0 2 84), (1, zv s0 2 v1), (3, zv s0 0 v3), (5, zv s0 0 v5)] [] (zw s0 ca C S M420)
    exact z_vret dX11_tellDefault_423 rfl h
  · replace h := h.2 c356
    refine z_aload_n dX11_tellDefault_359 rfl (j := 0) rfl ?_
    refine z_aload_n dX11_tellDefault_360 rfl (j := 1) rfl ?_
    obtain ⟨hk0, h⟩ := h
    refine z_getcN Γ kfN_RX11_286 dX11_tellDefault_361 hk0.1 hk0.2.1 rfl ?_
    refine z_iload dX11_tellDefault_364 (j := 3) rfl ?_
    obtain ⟨hi366, h⟩ := h
    refine z_iald Γ dX11_tellDefault_366 (by have := hk0.1; omega) hk0.2.2.2.2.2.2.1 (by decide) hi366 (v9 := M (v1 + 5) v5) rfl ?_
    refine z_i2l dX11_tellDefault_367 ?_
    refine z_callV Γ kk_X11_tellVarint kc_RX11_273 (As := [zv s0 1 (w32 (M (v1 + 5) v5))]) h (by omega) (by decide) (show (parseMethodDescriptor yX11_tellVarint.desc).map (fun q => q.parameters.length) = some 1 by decide +kernel) hok (Nat.zero_le _) dX11_tellDefault_368 (by decide) (hs 84 _ rfl) rfl rfl (fun _ h9 => nomatch h9) ?_
    clear h
    intro r368 M368 h
    show rt_Go _ _ _ _ _ _ _ _ _ _ _ _ 371 [(0, zv s0 2 84), (1, zv s0 2 v1), (3, zv s0 0 v3), (5, zv s0 0 v5)] [] (zw s0 ca C S M368)
    refine z_aload_n dX11_tellDefault_371 rfl (j := 0) rfl ?_
    refine z_aload_n dX11_tellDefault_372 rfl (j := 1) rfl ?_
    refine z_iload dX11_tellDefault_373 (j := 3) rfl ?_
    refine z_callV Γ kk_X11_tellString kc_RX11_297 (As := [zv s0 2 v1, zv s0 0 v5]) h (by omega) (by decide) (show (parseMethodDescriptor yX11_tellString.desc).map (fun q => q.parameters.length) = some 2 by decide +kernel) hok (Nat.zero_le _) dX11_tellDefault_375 (by decide) (hs 84 _ rfl) rfl rfl (fun _ h9 => nomatch h9) ?_
    clear h
    intro r375 M375 h
    show rt_Go _ _ _ _ _ _ _ _ _ _ _ _ 378 [(0, zv s0 2 84), (1, zv s0 2 v1), (3, zv s0 0 v3), (5, zv s0 0 v5)] [] (zw s0 ca C S M375)
    refine z_aload_n dX11_tellDefault_378 rfl (j := 0) rfl ?_
    refine z_aload_n dX11_tellDefault_379 rfl (j := 1) rfl ?_
    refine z_aload_n dX11_tellDefault_380 rfl (j := 1) rfl ?_
    refine z_getcN Γ kfN_RX11_306 dX11_tellDefault_381 hk0.1 hk0.2.1 rfl ?_
    refine z_iload dX11_tellDefault_384 (j := 3) rfl ?_
    refine z_iald Γ dX11_tellDefault_386 (by have := hk0.1; omega) hk0.2.2.2.2.2.2.2.2.1 (by decide) hi366 (v9 := M375 (v1 + 7) v5) rfl ?_
    refine z_aload_n dX11_tellDefault_387 rfl (j := 1) rfl ?_
    refine z_getcN Γ kfN_RX11_149 dX11_tellDefault_388 hk0.1 hk0.2.1 rfl ?_
    refine z_aload_n dX11_tellDefault_391 rfl (j := 1) rfl ?_
    refine z_getcN Γ kfN_RX11_160 dX11_tellDefault_392 hk0.1 hk0.2.1 rfl ?_
    refine z_iload_n dX11_tellDefault_395 rfl (j := 2) rfl ?_
    obtain ⟨hi396, h⟩ := h
    refine z_iald Γ dX11_tellDefault_396 (by have := hk0.1; omega) hk0.2.2.2.2.2.2.2.2.2.2.2.2.2.1 (by decide) hi396 (v9 := M375 (v1 + 12) v3) rfl ?_
    obtain ⟨hi397, h⟩ := h
    refine z_iald Γ dX11_tellDefault_397 (by have := hk0.1; omega) hk0.2.2.2.2.2.2.2.2.2.2.2.2.2.2.2.2.1 (by decide) hi397 (v9 := M375 (v1 + 15) (M375 (v1 + 12) v3)) rfl ?_
    refine z_callV Γ kk_X11_tellDefault kc_RX11_282 (As := [zv s0 2 v1, zv s0 0 (M375 (v1 + 7) v5), zv s0 0 (M375 (v1 + 15) (M375 (v1 + 12) v3))]) h (by omega) (by decide) (show (parseMethodDescriptor yX11_tellDefault.desc).map (fun q => q.parameters.length) = some 3 by decide +kernel) hok (Nat.zero_le _) dX11_tellDefault_398 (by decide) (hs 84 _ rfl) rfl rfl (fun _ h9 => nomatch h9) ?_
    clear h
    intro r398 M398 h
    show rt_Go _ _ _ _ _ _ _ _ _ _ _ _ 401 [(0, zv s0 2 84), (1, zv s0 2 v1), (3, zv s0 0 v3), (5, zv s0 0 v5)] [] (zw s0 ca C S M398)
    refine z_aload_n dX11_tellDefault_401 rfl (j := 1) rfl ?_
    refine z_getcN Γ kfN_RX11_306 dX11_tellDefault_402 hk0.1 hk0.2.1 rfl ?_
    refine z_aload_n dX11_tellDefault_405 rfl (j := 1) rfl ?_
    refine z_getcN Γ kfN_RX11_306 dX11_tellDefault_406 hk0.1 hk0.2.1 rfl ?_
    refine z_iload dX11_tellDefault_409 (j := 3) rfl ?_
    refine z_iald Γ dX11_tellDefault_411 (by have := hk0.1; omega) hk0.2.2.2.2.2.2.2.2.1 (by decide) hi366 (v9 := M398 (v1 + 7) v5) rfl ?_
    obtain ⟨hi412, h⟩ := h
    refine z_iald Γ dX11_tellDefault_412 (by have := hk0.1; omega) hk0.2.2.2.2.2.2.2.2.1 (by decide) hi412 (v9 := M398 (v1 + 7) (M398 (v1 + 7) v5)) rfl ?_
    refine z_istore (i := 5) (lv' := [(5, zv s0 0 (M398 (v1 + 7) (M398 (v1 + 7) v5))), (0, zv s0 2 84), (1, zv s0 2 v1), (3, zv s0 0 v3)]) dX11_tellDefault_413 (by decide) (by simp [zv_cat0, zv_cat1, zv_cat2, zv_cats]) ?_
    refine rt_goto (tgt := 354) dX11_tellDefault_415 (by decide) ?_
    exact rt_lfew [1, 2, 3, 0] rfl h

def zt_X11_tellDefault (l : Launch) (s0 : State) (G : va_G) (ca : Nat → ClassId) (d : Nat) (C : Nat × Nat) (S : zS) (w0 : rt_Wd)  (b : Int) (v : Int) (s : Int) (M : zM) (Q : Int → zM → Prop) (X : zM → Prop) : Prop :=
  zTx S b ∧ ((0 ≤ s ∧ s < 140) ∧ (zIf (w32 (M (b + 9) s) = 0) (Q 0 M) (zIf (w32 (M (b + 9) s) = 1) ((0 ≤ v ∧ v < 4200) ∧ (zIf (w32 (M (b + 2) v) = 4) (zm_X11_tellByte l s0 G ca (d - 1) C S 1 M (fun r87 M87 => Q 0 M87) X) (zm_X11_tellByte l s0 G ca (d - 1) C S 0 M (fun r87 M87 => Q 0 M87) X))) (zIf (w32 (M (b + 9) s) = 2) ((0 ≤ v ∧ v < 4200) ∧ (zm_X11_tellVarint l s0 G ca (d - 1) C S (M (b + 4) v) M (fun r100 M100 => Q 0 M100) X)) (zIf (w32 (M (b + 9) s) = 3) ((0 ≤ v ∧ v < 4200) ∧ (zm_X11_tellVarint l s0 G ca (d - 1) C S (M (b + 4) v) M (fun r100 M100 => Q 0 M100) X)) (zIf (w32 (M (b + 9) s) = 4) ((0 ≤ v ∧ v < 4200) ∧ (zm_X11_tellVarint l s0 G ca (d - 1) C S (w32 (M (b + 5) v)) M (fun r114 M114 => zm_X11_tellString l s0 G ca (d - 1) C S b v M114 (fun r120 M120 => Q 0 M120) X) X)) (zIf (w32 (M (b + 9) s) = 5) ((0 ≤ v ∧ v < 4200) ∧ (zm_X11_tellVarint l s0 G ca (d - 1) C S (w32 (M (b + 5) v)) M (fun r114 M114 => zm_X11_tellString l s0 G ca (d - 1) C S b v M114 (fun r120 M120 => Q 0 M120) X) X)) (zIf (w32 (M (b + 9) s) = 6) ((0 ≤ v ∧ v < 4200) ∧ (zIf (w32 (M (b + 6) v) < 0) (zg_X11_tellDefault_255 l s0 G ca d C S w0  b s (M (b + 6) v) M Q X) (zm_X11_tellVarint l s0 G ca (d - 1) C S (w32 (M (b + 5) v)) M (fun r244 M244 => zg_X11_tellDefault_255 l s0 G ca d C S w0  b s (M244 (b + 6) v) M244 Q X) X))) (zIf (w32 (M (b + 9) s) = 8) (zm_X11_tellVarint l s0 G ca (d - 1) C S 0 M (fun r152 M152 => (0 ≤ M152 (b + 12) s ∧ M152 (b + 12) s < 2200) ∧ (zm_X11_tellDefault l s0 G ca (d - 1) C S b v (M152 (b + 15) (M152 (b + 12) s)) M152 (fun r169 M169 => Q 0 M169) X)) X) (zIf (w32 (M (b + 9) s) = 9) (zm_X11_tellString l s0 G ca (d - 1) C S b v M (fun r129 M129 => Q 0 M129) X) (zIf (w32 (M (b + 9) s) = 10) (zm_X10_symbol l s0 G ca (d - 1) C S b s b v M (fun r140 M140 => zm_X11_tellVarint l s0 G ca (d - 1) C S (w32 r140) M140 (fun r144 M144 => Q 0 M144) X) X) (zIf (w32 (M (b + 9) s) = 11) (zg_X11_tellDefault_183 l s0 G ca d C S w0  b v (M (b + 12) s) M Q X) ((0 ≤ v ∧ v < 4200) ∧ (zg_X11_tellDefault_309 l s0 G ca d C S w0  b v s 0 (M (b + 6) v) M Q X))))))))))))))
set_option maxRecDepth 100000 in
theorem z_X11_tellDefault {l : Launch} {s0 : State} {a0 : Array Value} {G : va_G} {ca : Nat → ClassId} (Γ : rt_Γ l s0 a0 G ca) {d : Nat} {C : Nat × Nat} {S : zS} (hd : 1 ≤ d) (hok : zok C)  (hs : zSok S) {b : Int} {v : Int} {s : Int} {M : zM} {Q : Int → zM → Prop} {X : zM → Prop} (h : zt_X11_tellDefault l s0 G ca d C S (zw s0 ca C S M)  b v s M Q X) : zm_X11_tellDefault l s0 G ca d C S  b v s M Q X := by
  refine z_met (lv := [(0, zv s0 2 84), (1, zv s0 2 b), (2, zv s0 0 v), (3, zv s0 0 s)]) Γ kk_X11_tellDefault rfl (show (lg_sl [zv s0 2 84, zv s0 2 b, zv s0 0 v, zv s0 0 s]).length ≤ 6 from by simp only [zn_0, zn_2, show (lg_sl []).length = 0 from rfl]; omega) (show lv_args 0 [zv s0 2 84, zv s0 2 b, zv s0 0 v, zv s0 0 s] = [(0, zv s0 2 84), (1, zv s0 2 b), (2, zv s0 0 v), (3, zv s0 0 s)] from by rw [zl_2, zl_2, zl_0, zl_0]; rfl) ?_
  unfold zt_X11_tellDefault at h
  refine z_aload_n dX11_tellDefault_0 rfl (j := 1) rfl ?_
  obtain ⟨hk0, h⟩ := h
  refine z_getcN Γ kfN_RX11_132 dX11_tellDefault_1 hk0.1 hk0.2.1 rfl ?_
  refine z_iload_n dX11_tellDefault_4 rfl (j := 3) rfl ?_
  obtain ⟨hi5, h⟩ := h
  refine z_iald Γ dX11_tellDefault_5 (by have := hk0.1; omega) hk0.2.2.2.2.2.2.2.2.2.2.1 (by decide) hi5 (v9 := M (b + 9) s) rfl ?_
  by_cases c6_0 : w32 (M (b + 9) s) = 0
  · replace h := h.1 c6_0
    refine z_tin c6_0 dX11_tellDefault_6 (by decide) (off := 62) (tgt := 68) (by decide) (by decide) ?_
    refine rt_goto (tgt := 423) dX11_tellDefault_68 (by decide) ?_
    exact z_vret dX11_tellDefault_423 rfl h
  replace h := h.2 c6_0
  by_cases c6_1 : w32 (M (b + 9) s) = 1
  · replace h := h.1 c6_1
    refine z_tin c6_1 dX11_tellDefault_6 (by decide) (off := 65) (tgt := 71) (by decide) (by decide) ?_
    refine z_aload_n dX11_tellDefault_71 rfl (j := 0) rfl ?_
    refine z_aload_n dX11_tellDefault_72 rfl (j := 1) rfl ?_
    refine z_getcN Γ kfN_RX11_294 dX11_tellDefault_73 hk0.1 hk0.2.1 rfl ?_
    refine z_iload_n dX11_tellDefault_76 rfl (j := 2) rfl ?_
    obtain ⟨hi77, h⟩ := h
    refine z_iald Γ dX11_tellDefault_77 (by have := hk0.1; omega) hk0.2.2.2.1 (by decide) hi77 (v9 := M (b + 2) v) rfl ?_
    refine z_iconst dX11_tellDefault_78 ?_
    refine z_icmp_ne (tgt := 86) (x' := w32 (M (b + 2) v)) (y' := 4) rfl (by decide) dX11_tellDefault_79 (by decide) (fun c79 => ?_) (fun c79 => ?_)
    · replace h := h.2 c79
      refine z_iconst dX11_tellDefault_86 ?_
      refine z_callV Γ kk_X11_tellByte kc_RX11_250 (As := [zv s0 0 0]) h (by omega) (by decide) (show (parseMethodDescriptor yX11_tellByte.desc).map (fun q => q.parameters.length) = some 1 by decide +kernel) hok (Nat.zero_le _) dX11_tellDefault_87 (by decide) (hs 84 _ rfl) rfl rfl (fun _ h9 => nomatch h9) ?_
      clear h
      intro r87 M87 h
      show rt_Go _ _ _ _ _ _ _ _ _ _ _ _ 90 [(0, zv s0 2 84), (1, zv s0 2 b), (2, zv s0 0 v), (3, zv s0 0 s)] [] (zw s0 ca C S M87)
      refine rt_goto (tgt := 423) dX11_tellDefault_90 (by decide) ?_
      exact z_vret dX11_tellDefault_423 rfl h
    · replace h := h.1 c79
      refine z_iconst dX11_tellDefault_82 ?_
      refine rt_goto (tgt := 87) dX11_tellDefault_83 (by decide) ?_
      refine z_callV Γ kk_X11_tellByte kc_RX11_250 (As := [zv s0 0 1]) h (by omega) (by decide) (show (parseMethodDescriptor yX11_tellByte.desc).map (fun q => q.parameters.length) = some 1 by decide +kernel) hok (Nat.zero_le _) dX11_tellDefault_87 (by decide) (hs 84 _ rfl) rfl rfl (fun _ h9 => nomatch h9) ?_
      clear h
      intro r87 M87 h
      show rt_Go _ _ _ _ _ _ _ _ _ _ _ _ 90 [(0, zv s0 2 84), (1, zv s0 2 b), (2, zv s0 0 v), (3, zv s0 0 s)] [] (zw s0 ca C S M87)
      refine rt_goto (tgt := 423) dX11_tellDefault_90 (by decide) ?_
      exact z_vret dX11_tellDefault_423 rfl h
  replace h := h.2 c6_1
  by_cases c6_2 : w32 (M (b + 9) s) = 2
  · replace h := h.1 c6_2
    refine z_tin c6_2 dX11_tellDefault_6 (by decide) (off := 87) (tgt := 93) (by decide) (by decide) ?_
    refine z_aload_n dX11_tellDefault_93 rfl (j := 0) rfl ?_
    refine z_aload_n dX11_tellDefault_94 rfl (j := 1) rfl ?_
    refine z_getcN Γ kfN_RX11_290 dX11_tellDefault_95 hk0.1 hk0.2.1 rfl ?_
    refine z_iload_n dX11_tellDefault_98 rfl (j := 2) rfl ?_
    obtain ⟨hi99, h⟩ := h
    refine z_lald Γ dX11_tellDefault_99 (by have := hk0.1; omega) hk0.2.2.2.2.2.1 (by decide) hi99 (v9 := M (b + 4) v) rfl ?_
    refine z_callV Γ kk_X11_tellVarint kc_RX11_273 (As := [zv s0 1 (M (b + 4) v)]) h (by omega) (by decide) (show (parseMethodDescriptor yX11_tellVarint.desc).map (fun q => q.parameters.length) = some 1 by decide +kernel) hok (Nat.zero_le _) dX11_tellDefault_100 (by decide) (hs 84 _ rfl) rfl rfl (fun _ h9 => nomatch h9) ?_
    clear h
    intro r100 M100 h
    show rt_Go _ _ _ _ _ _ _ _ _ _ _ _ 103 [(0, zv s0 2 84), (1, zv s0 2 b), (2, zv s0 0 v), (3, zv s0 0 s)] [] (zw s0 ca C S M100)
    refine rt_goto (tgt := 423) dX11_tellDefault_103 (by decide) ?_
    exact z_vret dX11_tellDefault_423 rfl h
  replace h := h.2 c6_2
  by_cases c6_3 : w32 (M (b + 9) s) = 3
  · replace h := h.1 c6_3
    refine z_tin c6_3 dX11_tellDefault_6 (by decide) (off := 87) (tgt := 93) (by decide) (by decide) ?_
    refine z_aload_n dX11_tellDefault_93 rfl (j := 0) rfl ?_
    refine z_aload_n dX11_tellDefault_94 rfl (j := 1) rfl ?_
    refine z_getcN Γ kfN_RX11_290 dX11_tellDefault_95 hk0.1 hk0.2.1 rfl ?_
    refine z_iload_n dX11_tellDefault_98 rfl (j := 2) rfl ?_
    obtain ⟨hi99, h⟩ := h
    refine z_lald Γ dX11_tellDefault_99 (by have := hk0.1; omega) hk0.2.2.2.2.2.1 (by decide) hi99 (v9 := M (b + 4) v) rfl ?_
    refine z_callV Γ kk_X11_tellVarint kc_RX11_273 (As := [zv s0 1 (M (b + 4) v)]) h (by omega) (by decide) (show (parseMethodDescriptor yX11_tellVarint.desc).map (fun q => q.parameters.length) = some 1 by decide +kernel) hok (Nat.zero_le _) dX11_tellDefault_100 (by decide) (hs 84 _ rfl) rfl rfl (fun _ h9 => nomatch h9) ?_
    clear h
    intro r100 M100 h
    show rt_Go _ _ _ _ _ _ _ _ _ _ _ _ 103 [(0, zv s0 2 84), (1, zv s0 2 b), (2, zv s0 0 v), (3, zv s0 0 s)] [] (zw s0 ca C S M100)
    refine rt_goto (tgt := 423) dX11_tellDefault_103 (by decide) ?_
    exact z_vret dX11_tellDefault_423 rfl h
  replace h := h.2 c6_3
  by_cases c6_4 : w32 (M (b + 9) s) = 4
  · replace h := h.1 c6_4
    refine z_tin c6_4 dX11_tellDefault_6 (by decide) (off := 100) (tgt := 106) (by decide) (by decide) ?_
    refine z_aload_n dX11_tellDefault_106 rfl (j := 0) rfl ?_
    refine z_aload_n dX11_tellDefault_107 rfl (j := 1) rfl ?_
    refine z_getcN Γ kfN_RX11_286 dX11_tellDefault_108 hk0.1 hk0.2.1 rfl ?_
    refine z_iload_n dX11_tellDefault_111 rfl (j := 2) rfl ?_
    obtain ⟨hi112, h⟩ := h
    refine z_iald Γ dX11_tellDefault_112 (by have := hk0.1; omega) hk0.2.2.2.2.2.2.1 (by decide) hi112 (v9 := M (b + 5) v) rfl ?_
    refine z_i2l dX11_tellDefault_113 ?_
    refine z_callV Γ kk_X11_tellVarint kc_RX11_273 (As := [zv s0 1 (w32 (M (b + 5) v))]) h (by omega) (by decide) (show (parseMethodDescriptor yX11_tellVarint.desc).map (fun q => q.parameters.length) = some 1 by decide +kernel) hok (Nat.zero_le _) dX11_tellDefault_114 (by decide) (hs 84 _ rfl) rfl rfl (fun _ h9 => nomatch h9) ?_
    clear h
    intro r114 M114 h
    show rt_Go _ _ _ _ _ _ _ _ _ _ _ _ 117 [(0, zv s0 2 84), (1, zv s0 2 b), (2, zv s0 0 v), (3, zv s0 0 s)] [] (zw s0 ca C S M114)
    refine z_aload_n dX11_tellDefault_117 rfl (j := 0) rfl ?_
    refine z_aload_n dX11_tellDefault_118 rfl (j := 1) rfl ?_
    refine z_iload_n dX11_tellDefault_119 rfl (j := 2) rfl ?_
    refine z_callV Γ kk_X11_tellString kc_RX11_297 (As := [zv s0 2 b, zv s0 0 v]) h (by omega) (by decide) (show (parseMethodDescriptor yX11_tellString.desc).map (fun q => q.parameters.length) = some 2 by decide +kernel) hok (Nat.zero_le _) dX11_tellDefault_120 (by decide) (hs 84 _ rfl) rfl rfl (fun _ h9 => nomatch h9) ?_
    clear h
    intro r120 M120 h
    show rt_Go _ _ _ _ _ _ _ _ _ _ _ _ 123 [(0, zv s0 2 84), (1, zv s0 2 b), (2, zv s0 0 v), (3, zv s0 0 s)] [] (zw s0 ca C S M120)
    refine rt_goto (tgt := 423) dX11_tellDefault_123 (by decide) ?_
    exact z_vret dX11_tellDefault_423 rfl h
  replace h := h.2 c6_4
  by_cases c6_5 : w32 (M (b + 9) s) = 5
  · replace h := h.1 c6_5
    refine z_tin c6_5 dX11_tellDefault_6 (by decide) (off := 100) (tgt := 106) (by decide) (by decide) ?_
    refine z_aload_n dX11_tellDefault_106 rfl (j := 0) rfl ?_
    refine z_aload_n dX11_tellDefault_107 rfl (j := 1) rfl ?_
    refine z_getcN Γ kfN_RX11_286 dX11_tellDefault_108 hk0.1 hk0.2.1 rfl ?_
    refine z_iload_n dX11_tellDefault_111 rfl (j := 2) rfl ?_
    obtain ⟨hi112, h⟩ := h
    refine z_iald Γ dX11_tellDefault_112 (by have := hk0.1; omega) hk0.2.2.2.2.2.2.1 (by decide) hi112 (v9 := M (b + 5) v) rfl ?_
    refine z_i2l dX11_tellDefault_113 ?_
    refine z_callV Γ kk_X11_tellVarint kc_RX11_273 (As := [zv s0 1 (w32 (M (b + 5) v))]) h (by omega) (by decide) (show (parseMethodDescriptor yX11_tellVarint.desc).map (fun q => q.parameters.length) = some 1 by decide +kernel) hok (Nat.zero_le _) dX11_tellDefault_114 (by decide) (hs 84 _ rfl) rfl rfl (fun _ h9 => nomatch h9) ?_
    clear h
    intro r114 M114 h
    show rt_Go _ _ _ _ _ _ _ _ _ _ _ _ 117 [(0, zv s0 2 84), (1, zv s0 2 b), (2, zv s0 0 v), (3, zv s0 0 s)] [] (zw s0 ca C S M114)
    refine z_aload_n dX11_tellDefault_117 rfl (j := 0) rfl ?_
    refine z_aload_n dX11_tellDefault_118 rfl (j := 1) rfl ?_
    refine z_iload_n dX11_tellDefault_119 rfl (j := 2) rfl ?_
    refine z_callV Γ kk_X11_tellString kc_RX11_297 (As := [zv s0 2 b, zv s0 0 v]) h (by omega) (by decide) (show (parseMethodDescriptor yX11_tellString.desc).map (fun q => q.parameters.length) = some 2 by decide +kernel) hok (Nat.zero_le _) dX11_tellDefault_120 (by decide) (hs 84 _ rfl) rfl rfl (fun _ h9 => nomatch h9) ?_
    clear h
    intro r120 M120 h
    show rt_Go _ _ _ _ _ _ _ _ _ _ _ _ 123 [(0, zv s0 2 84), (1, zv s0 2 b), (2, zv s0 0 v), (3, zv s0 0 s)] [] (zw s0 ca C S M120)
    refine rt_goto (tgt := 423) dX11_tellDefault_123 (by decide) ?_
    exact z_vret dX11_tellDefault_423 rfl h
  replace h := h.2 c6_5
  by_cases c6_6 : w32 (M (b + 9) s) = 6
  · replace h := h.1 c6_6
    refine z_tin c6_6 dX11_tellDefault_6 (by decide) (off := 221) (tgt := 227) (by decide) (by decide) ?_
    refine z_aload_n dX11_tellDefault_227 rfl (j := 1) rfl ?_
    refine z_getcN Γ kfN_RX11_303 dX11_tellDefault_228 hk0.1 hk0.2.1 rfl ?_
    refine z_iload_n dX11_tellDefault_231 rfl (j := 2) rfl ?_
    obtain ⟨hi232, h⟩ := h
    refine z_iald Γ dX11_tellDefault_232 (by have := hk0.1; omega) hk0.2.2.2.2.2.2.2.1 (by decide) hi232 (v9 := M (b + 6) v) rfl ?_
    refine z_if_lt (tgt := 247) (x' := w32 (M (b + 6) v)) rfl dX11_tellDefault_233 (by decide) (fun c233 => ?_) (fun c233 => ?_)
    · replace h := h.1 c233
      refine z_aload_n dX11_tellDefault_247 rfl (j := 1) rfl ?_
      refine z_getcN Γ kfN_RX11_303 dX11_tellDefault_248 hk0.1 hk0.2.1 rfl ?_
      refine z_iload_n dX11_tellDefault_251 rfl (j := 2) rfl ?_
      refine z_iald Γ dX11_tellDefault_252 (by have := hk0.1; omega) hk0.2.2.2.2.2.2.2.1 (by decide) hi232 (v9 := M (b + 6) v) rfl ?_
      refine z_istore (i := 4) (lv' := [(4, zv s0 0 (M (b + 6) v)), (0, zv s0 2 84), (1, zv s0 2 b), (2, zv s0 0 v), (3, zv s0 0 s)]) dX11_tellDefault_253 (by decide) (by simp [zv_cat0, zv_cat1, zv_cat2, zv_cats]) ?_
      exact rt_lfew [1, 2, 4, 0] rfl h
    · replace h := h.2 c233
      refine z_aload_n dX11_tellDefault_236 rfl (j := 0) rfl ?_
      refine z_aload_n dX11_tellDefault_237 rfl (j := 1) rfl ?_
      refine z_getcN Γ kfN_RX11_286 dX11_tellDefault_238 hk0.1 hk0.2.1 rfl ?_
      refine z_iload_n dX11_tellDefault_241 rfl (j := 2) rfl ?_
      refine z_iald Γ dX11_tellDefault_242 (by have := hk0.1; omega) hk0.2.2.2.2.2.2.1 (by decide) hi232 (v9 := M (b + 5) v) rfl ?_
      refine z_i2l dX11_tellDefault_243 ?_
      refine z_callV Γ kk_X11_tellVarint kc_RX11_273 (As := [zv s0 1 (w32 (M (b + 5) v))]) h (by omega) (by decide) (show (parseMethodDescriptor yX11_tellVarint.desc).map (fun q => q.parameters.length) = some 1 by decide +kernel) hok (Nat.zero_le _) dX11_tellDefault_244 (by decide) (hs 84 _ rfl) rfl rfl (fun _ h9 => nomatch h9) ?_
      clear h
      intro r244 M244 h
      show rt_Go _ _ _ _ _ _ _ _ _ _ _ _ 247 [(0, zv s0 2 84), (1, zv s0 2 b), (2, zv s0 0 v), (3, zv s0 0 s)] [] (zw s0 ca C S M244)
      refine z_aload_n dX11_tellDefault_247 rfl (j := 1) rfl ?_
      refine z_getcN Γ kfN_RX11_303 dX11_tellDefault_248 hk0.1 hk0.2.1 rfl ?_
      refine z_iload_n dX11_tellDefault_251 rfl (j := 2) rfl ?_
      refine z_iald Γ dX11_tellDefault_252 (by have := hk0.1; omega) hk0.2.2.2.2.2.2.2.1 (by decide) hi232 (v9 := M244 (b + 6) v) rfl ?_
      refine z_istore (i := 4) (lv' := [(4, zv s0 0 (M244 (b + 6) v)), (0, zv s0 2 84), (1, zv s0 2 b), (2, zv s0 0 v), (3, zv s0 0 s)]) dX11_tellDefault_253 (by decide) (by simp [zv_cat0, zv_cat1, zv_cat2, zv_cats]) ?_
      exact rt_lfew [1, 2, 4, 0] rfl h
  replace h := h.2 c6_6
  by_cases c6_8 : w32 (M (b + 9) s) = 8
  · replace h := h.1 c6_8
    refine z_tin c6_8 dX11_tellDefault_6 (by decide) (off := 144) (tgt := 150) (by decide) (by decide) ?_
    refine z_aload_n dX11_tellDefault_150 rfl (j := 0) rfl ?_
    refine z_lconst (v := 0) dX11_tellDefault_151 (by decide) ?_
    refine z_callV Γ kk_X11_tellVarint kc_RX11_273 (As := [zv s0 1 0]) h (by omega) (by decide) (show (parseMethodDescriptor yX11_tellVarint.desc).map (fun q => q.parameters.length) = some 1 by decide +kernel) hok (Nat.zero_le _) dX11_tellDefault_152 (by decide) (hs 84 _ rfl) rfl rfl (fun _ h9 => nomatch h9) ?_
    clear h
    intro r152 M152 h
    show rt_Go _ _ _ _ _ _ _ _ _ _ _ _ 155 [(0, zv s0 2 84), (1, zv s0 2 b), (2, zv s0 0 v), (3, zv s0 0 s)] [] (zw s0 ca C S M152)
    refine z_aload_n dX11_tellDefault_155 rfl (j := 0) rfl ?_
    refine z_aload_n dX11_tellDefault_156 rfl (j := 1) rfl ?_
    refine z_iload_n dX11_tellDefault_157 rfl (j := 2) rfl ?_
    refine z_aload_n dX11_tellDefault_158 rfl (j := 1) rfl ?_
    refine z_getcN Γ kfN_RX11_149 dX11_tellDefault_159 hk0.1 hk0.2.1 rfl ?_
    refine z_aload_n dX11_tellDefault_162 rfl (j := 1) rfl ?_
    refine z_getcN Γ kfN_RX11_160 dX11_tellDefault_163 hk0.1 hk0.2.1 rfl ?_
    refine z_iload_n dX11_tellDefault_166 rfl (j := 3) rfl ?_
    refine z_iald Γ dX11_tellDefault_167 (by have := hk0.1; omega) hk0.2.2.2.2.2.2.2.2.2.2.2.2.2.1 (by decide) hi5 (v9 := M152 (b + 12) s) rfl ?_
    obtain ⟨hi168, h⟩ := h
    refine z_iald Γ dX11_tellDefault_168 (by have := hk0.1; omega) hk0.2.2.2.2.2.2.2.2.2.2.2.2.2.2.2.2.1 (by decide) hi168 (v9 := M152 (b + 15) (M152 (b + 12) s)) rfl ?_
    refine z_callV Γ kk_X11_tellDefault kc_RX11_282 (As := [zv s0 2 b, zv s0 0 v, zv s0 0 (M152 (b + 15) (M152 (b + 12) s))]) h (by omega) (by decide) (show (parseMethodDescriptor yX11_tellDefault.desc).map (fun q => q.parameters.length) = some 3 by decide +kernel) hok (Nat.zero_le _) dX11_tellDefault_169 (by decide) (hs 84 _ rfl) rfl rfl (fun _ h9 => nomatch h9) ?_
    clear h
    intro r169 M169 h
    show rt_Go _ _ _ _ _ _ _ _ _ _ _ _ 172 [(0, zv s0 2 84), (1, zv s0 2 b), (2, zv s0 0 v), (3, zv s0 0 s)] [] (zw s0 ca C S M169)
    refine rt_goto (tgt := 423) dX11_tellDefault_172 (by decide) ?_
    exact z_vret dX11_tellDefault_423 rfl h
  replace h := h.2 c6_8
  by_cases c6_9 : w32 (M (b + 9) s) = 9
  · replace h := h.1 c6_9
    refine z_tin c6_9 dX11_tellDefault_6 (by decide) (off := 120) (tgt := 126) (by decide) (by decide) ?_
    refine z_aload_n dX11_tellDefault_126 rfl (j := 0) rfl ?_
    refine z_aload_n dX11_tellDefault_127 rfl (j := 1) rfl ?_
    refine z_iload_n dX11_tellDefault_128 rfl (j := 2) rfl ?_
    refine z_callV Γ kk_X11_tellString kc_RX11_297 (As := [zv s0 2 b, zv s0 0 v]) h (by omega) (by decide) (show (parseMethodDescriptor yX11_tellString.desc).map (fun q => q.parameters.length) = some 2 by decide +kernel) hok (Nat.zero_le _) dX11_tellDefault_129 (by decide) (hs 84 _ rfl) rfl rfl (fun _ h9 => nomatch h9) ?_
    clear h
    intro r129 M129 h
    show rt_Go _ _ _ _ _ _ _ _ _ _ _ _ 132 [(0, zv s0 2 84), (1, zv s0 2 b), (2, zv s0 0 v), (3, zv s0 0 s)] [] (zw s0 ca C S M129)
    refine rt_goto (tgt := 423) dX11_tellDefault_132 (by decide) ?_
    exact z_vret dX11_tellDefault_423 rfl h
  replace h := h.2 c6_9
  by_cases c6_10 : w32 (M (b + 9) s) = 10
  · replace h := h.1 c6_10
    refine z_tin c6_10 dX11_tellDefault_6 (by decide) (off := 129) (tgt := 135) (by decide) (by decide) ?_
    refine z_aload_n dX11_tellDefault_135 rfl (j := 0) rfl ?_
    refine z_aload_n dX11_tellDefault_136 rfl (j := 1) rfl ?_
    refine z_iload_n dX11_tellDefault_137 rfl (j := 3) rfl ?_
    refine z_aload_n dX11_tellDefault_138 rfl (j := 1) rfl ?_
    refine z_iload_n dX11_tellDefault_139 rfl (j := 2) rfl ?_
    refine z_callVN Γ kk_X10_symbol kc_RX11_234 (As := [zv s0 0 s, zv s0 2 b, zv s0 0 v]) h (by omega) (by decide) (show (parseMethodDescriptor yX10_symbol.desc).map (fun q => q.parameters.length) = some 3 by decide +kernel) hok (by simp only [List.map, zv_cat0, zv_cat1, zv_cat2, List.sum_cons, List.sum_nil]; decide) dX11_tellDefault_140 hk0.1 hk0.2.1 rfl rfl (fun _ h9 => nomatch h9) ?_
    clear h
    intro r140 M140 h
    show rt_Go _ _ _ _ _ _ _ _ _ _ _ _ 143 [(0, zv s0 2 84), (1, zv s0 2 b), (2, zv s0 0 v), (3, zv s0 0 s)] [zv s0 0 r140, zv s0 2 84] (zw s0 ca C S M140)
    refine z_i2l dX11_tellDefault_143 ?_
    refine z_callV Γ kk_X11_tellVarint kc_RX11_273 (As := [zv s0 1 (w32 r140)]) h (by omega) (by decide) (show (parseMethodDescriptor yX11_tellVarint.desc).map (fun q => q.parameters.length) = some 1 by decide +kernel) hok (Nat.zero_le _) dX11_tellDefault_144 (by decide) (hs 84 _ rfl) rfl rfl (fun _ h9 => nomatch h9) ?_
    clear h
    intro r144 M144 h
    show rt_Go _ _ _ _ _ _ _ _ _ _ _ _ 147 [(0, zv s0 2 84), (1, zv s0 2 b), (2, zv s0 0 v), (3, zv s0 0 s)] [] (zw s0 ca C S M144)
    refine rt_goto (tgt := 423) dX11_tellDefault_147 (by decide) ?_
    exact z_vret dX11_tellDefault_423 rfl h
  replace h := h.2 c6_10
  by_cases c6_11 : w32 (M (b + 9) s) = 11
  · replace h := h.1 c6_11
    refine z_tin c6_11 dX11_tellDefault_6 (by decide) (off := 169) (tgt := 175) (by decide) (by decide) ?_
    refine z_aload_n dX11_tellDefault_175 rfl (j := 1) rfl ?_
    refine z_getcN Γ kfN_RX11_160 dX11_tellDefault_176 hk0.1 hk0.2.1 rfl ?_
    refine z_iload_n dX11_tellDefault_179 rfl (j := 3) rfl ?_
    refine z_iald Γ dX11_tellDefault_180 (by have := hk0.1; omega) hk0.2.2.2.2.2.2.2.2.2.2.2.2.2.1 (by decide) hi5 (v9 := M (b + 12) s) rfl ?_
    refine z_istore (i := 4) (lv' := [(4, zv s0 0 (M (b + 12) s)), (0, zv s0 2 84), (1, zv s0 2 b), (2, zv s0 0 v), (3, zv s0 0 s)]) dX11_tellDefault_181 (by decide) (by simp [zv_cat0, zv_cat1, zv_cat2, zv_cats]) ?_
    exact rt_lfew [1, 2, 3, 0] rfl h
  replace h := h.2 c6_11
  by_cases c6_7 : w32 (M (b + 9) s) = 7
  · refine z_tin c6_7 dX11_tellDefault_6 (by decide) (off := 292) (tgt := 298) (by decide) (by decide) ?_
    refine z_iconst dX11_tellDefault_298 ?_
    refine z_istore (i := 4) (lv' := [(4, zv s0 0 0), (0, zv s0 2 84), (1, zv s0 2 b), (2, zv s0 0 v), (3, zv s0 0 s)]) dX11_tellDefault_299 (by decide) (by simp [zv_cat0, zv_cat1, zv_cat2, zv_cats]) ?_
    refine z_aload_n dX11_tellDefault_301 rfl (j := 2) rfl ?_
    refine z_getcN Γ kfN_RX11_303 dX11_tellDefault_302 hk0.1 hk0.2.1 rfl ?_
    refine z_iload_n dX11_tellDefault_305 rfl (j := 3) rfl ?_
    obtain ⟨hi306, h⟩ := h
    refine z_iald Γ dX11_tellDefault_306 (by have := hk0.1; omega) hk0.2.2.2.2.2.2.2.1 (by decide) hi306 (v9 := M (b + 6) v) rfl ?_
    refine z_istore (i := 5) (lv' := [(5, zv s0 0 (M (b + 6) v)), (4, zv s0 0 0), (0, zv s0 2 84), (1, zv s0 2 b), (2, zv s0 0 v), (3, zv s0 0 s)]) dX11_tellDefault_307 (by decide) (by simp [zv_cat0, zv_cat1, zv_cat2, zv_cats]) ?_
    exact rt_lfew [2, 3, 4, 5, 1, 0] rfl h
  refine z_tout dX11_tellDefault_6 (show w32 (M (b + 9) s) < 0 ∨ 11 < w32 (M (b + 9) s) from by omega) (tgt := 298) (by decide) ?_
  refine z_iconst dX11_tellDefault_298 ?_
  refine z_istore (i := 4) (lv' := [(4, zv s0 0 0), (0, zv s0 2 84), (1, zv s0 2 b), (2, zv s0 0 v), (3, zv s0 0 s)]) dX11_tellDefault_299 (by decide) (by simp [zv_cat0, zv_cat1, zv_cat2, zv_cats]) ?_
  refine z_aload_n dX11_tellDefault_301 rfl (j := 2) rfl ?_
  refine z_getcN Γ kfN_RX11_303 dX11_tellDefault_302 hk0.1 hk0.2.1 rfl ?_
  refine z_iload_n dX11_tellDefault_305 rfl (j := 3) rfl ?_
  obtain ⟨hi306, h⟩ := h
  refine z_iald Γ dX11_tellDefault_306 (by have := hk0.1; omega) hk0.2.2.2.2.2.2.2.1 (by decide) hi306 (v9 := M (b + 6) v) rfl ?_
  refine z_istore (i := 5) (lv' := [(5, zv s0 0 (M (b + 6) v)), (4, zv s0 0 0), (0, zv s0 2 84), (1, zv s0 2 b), (2, zv s0 0 v), (3, zv s0 0 s)]) dX11_tellDefault_307 (by decide) (by simp [zv_cat0, zv_cat1, zv_cat2, zv_cats]) ?_
  exact rt_lfew [2, 3, 4, 5, 1, 0] rfl h

abbrev zg_X11_pass_2 (l : Launch) (s0 : State) (G : va_G) (ca : Nat → ClassId) (d : Nat) (C : Nat × Nat) (S : zS) (w0 : rt_Wd)  (v1 : Int) (v2 : Int)  (M : zM) (Q : Int → zM → Prop) (X : zM → Prop) : Prop := rt_Go l s0 G RX11 "pass" cX11_pass 3 (Option.none : Option FieldType) [] d w0 (zQ s0 ca 9 C S Q X) 2 [(0, zv s0 2 84), (1, zv s0 0 v1), (2, zv s0 0 v2)] [] (zw s0 ca C S M)
def zt_X11_pass_2 (l : Launch) (s0 : State) (G : va_G) (ca : Nat → ClassId) (d : Nat) (C : Nat × Nat) (S : zS) (w0 : rt_Wd)  (v1 : Int) (v2 : Int)  (M : zM) (Q : Int → zM → Prop) (X : zM → Prop) : Prop :=
  zIf (w32 v1 ≤ w32 v2) (Q 0 M) (zm_X11_skip l s0 G ca (d - 1) C S 86 (M 86 31) M (fun r19 M19 => zg_X11_pass_2 l s0 G ca d C S w0  v1 (v2 + 1) M19 Q X) X)
set_option maxRecDepth 100000 in
theorem zs_X11_pass_2 {l : Launch} {s0 : State} {a0 : Array Value} {G : va_G} {ca : Nat → ClassId} (Γ : rt_Γ l s0 a0 G ca) {d : Nat} {C : Nat × Nat} {S : zS} (hd : 1 ≤ d) (hok : zok C)  (hs : zSok S) {w0 : rt_Wd} {v1 : Int} {v2 : Int}   {M : zM} {Q : Int → zM → Prop} {X : zM → Prop} (h : zt_X11_pass_2 l s0 G ca d C S w0  v1 v2 M Q X) : zg_X11_pass_2 l s0 G ca d C S w0  v1 v2 M Q X := by
  unfold zt_X11_pass_2 at h
  refine z_iload_n dX11_pass_2 rfl (j := 2) rfl ?_
  refine z_iload_n dX11_pass_3 rfl (j := 1) rfl ?_
  refine z_icmp_ge (tgt := 28) (x' := w32 v2) (y' := w32 v1) rfl rfl dX11_pass_4 (by decide) (fun c4 => ?_) (fun c4 => ?_)
  · replace h := h.1 c4
    exact z_vret dX11_pass_28 rfl h
  · replace h := h.2 c4
    refine z_aload_n dX11_pass_7 rfl (j := 0) rfl ?_
    refine z_aload_n dX11_pass_8 rfl (j := 0) rfl ?_
    refine z_getc Γ kf_RX11_20 dX11_pass_9 (by decide) (hs 84 _ rfl) rfl ?_
    refine z_aload_n dX11_pass_12 rfl (j := 0) rfl ?_
    refine z_getc Γ kf_RX11_20 dX11_pass_13 (by decide) (hs 84 _ rfl) rfl ?_
    refine z_getN Γ kfN_RX11_188 dX11_pass_16 (zTx_of hs).1.1 (zTx_of hs).1.2.1 rfl (by decide) (v9 := M 86 31) rfl ?_
    refine z_callV Γ kk_X11_skip kc_RX11_263 (As := [zv s0 2 86, zv s0 0 (M 86 31)]) h (by omega) (by decide) (show (parseMethodDescriptor yX11_skip.desc).map (fun q => q.parameters.length) = some 2 by decide +kernel) hok (Nat.zero_le _) dX11_pass_19 (by decide) (hs 84 _ rfl) rfl rfl (fun _ h9 => nomatch h9) ?_
    clear h
    intro r19 M19 h
    show rt_Go _ _ _ _ _ _ _ _ _ _ _ _ 22 [(0, zv s0 2 84), (1, zv s0 0 v1), (2, zv s0 0 v2)] [] (zw s0 ca C S M19)
    refine z_iinc (lv' := [(2, zv s0 0 (v2 + 1)), (0, zv s0 2 84), (1, zv s0 0 v1)]) dX11_pass_22 (j := 2) rfl (by decide) (by simp [zv_cat0, zv_cat1, zv_cat2, zv_cats]) ?_
    refine rt_goto (tgt := 2) dX11_pass_25 (by decide) ?_
    exact rt_lfew [1, 2, 0] rfl h

def zt_X11_pass (l : Launch) (s0 : State) (G : va_G) (ca : Nat → ClassId) (d : Nat) (C : Nat × Nat) (S : zS) (w0 : rt_Wd)  (k : Int) (M : zM) (Q : Int → zM → Prop) (X : zM → Prop) : Prop :=
  zg_X11_pass_2 l s0 G ca d C S w0  k 0 M Q X
set_option maxRecDepth 100000 in
theorem z_X11_pass {l : Launch} {s0 : State} {a0 : Array Value} {G : va_G} {ca : Nat → ClassId} (Γ : rt_Γ l s0 a0 G ca) {d : Nat} {C : Nat × Nat} {S : zS} (hd : 1 ≤ d) (hok : zok C)  (hs : zSok S) {k : Int} {M : zM} {Q : Int → zM → Prop} {X : zM → Prop} (h : zt_X11_pass l s0 G ca d C S (zw s0 ca C S M)  k M Q X) : zm_X11_pass l s0 G ca d C S  k M Q X := by
  refine z_met (lv := [(0, zv s0 2 84), (1, zv s0 0 k)]) Γ kk_X11_pass rfl (show (lg_sl [zv s0 2 84, zv s0 0 k]).length ≤ 3 from by simp only [zn_0, zn_2, show (lg_sl []).length = 0 from rfl]; omega) (show lv_args 0 [zv s0 2 84, zv s0 0 k] = [(0, zv s0 2 84), (1, zv s0 0 k)] from by rw [zl_2, zl_0]; rfl) ?_
  unfold zt_X11_pass at h
  refine z_iconst dX11_pass_0 ?_
  refine z_istore_n (i := 2) (lv' := [(2, zv s0 0 0), (0, zv s0 2 84), (1, zv s0 0 k)]) dX11_pass_1 rfl (by decide) (by simp [zv_cat0, zv_cat1, zv_cat2, zv_cats]) ?_
  exact rt_lfew [1, 2, 0] rfl h

