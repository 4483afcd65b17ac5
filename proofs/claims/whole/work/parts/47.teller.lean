/-! ===== trees: TELLER ===== -/
def zt_X7_told (l : Launch) (s0 : State) (G : va_G) (ca : Nat → ClassId) (d : Nat) (C : Nat × Nat) (S : zS) (w0 : rt_Wd) (p : Int) (q : Int) (mk : Int) (mka : Int)  (M : zM) (Q : Int → zM → Prop) (X : zM → Prop) : Prop :=
  Q 57 M
set_option maxRecDepth 100000 in
theorem z_X7_told {l : Launch} {s0 : State} {a0 : Array Value} {G : va_G} {ca : Nat → ClassId} (Γ : rt_Γ l s0 a0 G ca) {d : Nat} {C : Nat × Nat} {S : zS} (hok : zok C) {p : Int} {q : Int} {mk : Int} {mka : Int} (hs : zSok S) (hp : zSc S p) (hq : zSc S q) (hmk : zCe S mk mka 4096) (hs56 : S 56 = some (0, 7, [(3, 57), (3, 59), (3, 61), (3, 63), (3, 65), (3, 67), (3, mk), (3, p), (3, q), (0, 0), (0, 0), (0, 0)]))  {M : zM} {Q : Int → zM → Prop} {X : zM → Prop} (h : zt_X7_told l s0 G ca d C S (zw s0 ca C S M) p q mk mka  M Q X) : zm_X7_told l s0 G ca d C S   M Q X := by
  refine z_met (lv := [(0, zv s0 2 56)]) Γ kk_X7_told rfl (show (lg_sl [zv s0 2 56]).length ≤ 1 from by simp only [zn_2, show (lg_sl []).length = 0 from rfl]; omega) (show lv_args 0 [zv s0 2 56] = [(0, zv s0 2 56)] from by rw [zl_2]; rfl) ?_
  unfold zt_X7_told at h
  refine z_aload_n dX7_told_0 rfl (j := 0) rfl ?_
  refine z_getc Γ kf_RX7_14 dX7_told_1 (by decide) hs56 rfl ?_
  exact z_aret dX7_told_4 rfl h

def zt_X7_halt (l : Launch) (s0 : State) (G : va_G) (ca : Nat → ClassId) (d : Nat) (C : Nat × Nat) (S : zS) (w0 : rt_Wd) (p : Int) (q : Int) (mk : Int) (mka : Int) (v : Int) (M : zM) (Q : Int → zM → Prop) (X : zM → Prop) : Prop :=
  zIf (w32 (M 56 11) = 0) (Q 0 ((zu M 56 11 v))) (Q 0 M)
set_option maxRecDepth 100000 in
theorem z_X7_halt {l : Launch} {s0 : State} {a0 : Array Value} {G : va_G} {ca : Nat → ClassId} (Γ : rt_Γ l s0 a0 G ca) {d : Nat} {C : Nat × Nat} {S : zS} (hok : zok C) {p : Int} {q : Int} {mk : Int} {mka : Int} (hs : zSok S) (hp : zSc S p) (hq : zSc S q) (hmk : zCe S mk mka 4096) (hs56 : S 56 = some (0, 7, [(3, 57), (3, 59), (3, 61), (3, 63), (3, 65), (3, 67), (3, mk), (3, p), (3, q), (0, 0), (0, 0), (0, 0)])) {v : Int} {M : zM} {Q : Int → zM → Prop} {X : zM → Prop} (h : zt_X7_halt l s0 G ca d C S (zw s0 ca C S M) p q mk mka v M Q X) : zm_X7_halt l s0 G ca d C S  v M Q X := by
  refine z_met (lv := [(0, zv s0 2 56), (1, zv s0 0 v)]) Γ kk_X7_halt rfl (show (lg_sl [zv s0 2 56, zv s0 0 v]).length ≤ 2 from by simp only [zn_0, zn_2, show (lg_sl []).length = 0 from rfl]; omega) (show lv_args 0 [zv s0 2 56, zv s0 0 v] = [(0, zv s0 2 56), (1, zv s0 0 v)] from by rw [zl_2, zl_0]; rfl) ?_
  unfold zt_X7_halt at h
  refine z_aload_n dX7_halt_0 rfl (j := 0) rfl ?_
  refine z_get Γ kf_RX7_59 dX7_halt_1 (by decide) hs56 rfl (by decide) (v9 := M 56 11) rfl ?_
  refine z_if_ne (tgt := 12) (x' := w32 (M 56 11)) rfl dX7_halt_4 (by decide) (fun c4 => ?_) (fun c4 => ?_)
  · replace h := h.2 c4
    exact z_vret dX7_halt_12 rfl h
  · replace h := h.1 c4
    refine z_aload_n dX7_halt_7 rfl (j := 0) rfl ?_
    refine z_iload_n dX7_halt_8 rfl (j := 1) rfl ?_
    refine z_put0 Γ kp_RX7_59 dX7_halt_9 (by decide) hs56 rfl (k9 := 11) rfl ?_
    exact z_vret dX7_halt_12 rfl h

def zt_X7_put (l : Launch) (s0 : State) (G : va_G) (ca : Nat → ClassId) (d : Nat) (C : Nat × Nat) (S : zS) (w0 : rt_Wd) (p : Int) (q : Int) (mk : Int) (mka : Int) (v : Int) (M : zM) (Q : Int → zM → Prop) (X : zM → Prop) : Prop :=
  zIf (w32 (M 56 11) = 0) (zm_X0_addVarint l s0 G ca (d - 1) C S 57 v M (fun r12 M12 => zIf (w32 r12 = 0) (zm_X7_halt l s0 G ca (d - 1) C S ((-31)) M12 (fun r21 M21 => Q 0 M21) X) (Q 0 M12)) X) (Q 0 M)
set_option maxRecDepth 100000 in
theorem z_X7_put {l : Launch} {s0 : State} {a0 : Array Value} {G : va_G} {ca : Nat → ClassId} (Γ : rt_Γ l s0 a0 G ca) {d : Nat} {C : Nat × Nat} {S : zS} (hd : 1 ≤ d) (hok : zok C) {p : Int} {q : Int} {mk : Int} {mka : Int} (hs : zSok S) (hp : zSc S p) (hq : zSc S q) (hmk : zCe S mk mka 4096) (hs56 : S 56 = some (0, 7, [(3, 57), (3, 59), (3, 61), (3, 63), (3, 65), (3, 67), (3, mk), (3, p), (3, q), (0, 0), (0, 0), (0, 0)])) {v : Int} {M : zM} {Q : Int → zM → Prop} {X : zM → Prop} (h : zt_X7_put l s0 G ca d C S (zw s0 ca C S M) p q mk mka v M Q X) : zm_X7_put l s0 G ca d C S  v M Q X := by
  refine z_met (lv := [(0, zv s0 2 56), (1, zv s0 1 v)]) Γ kk_X7_put rfl (show (lg_sl [zv s0 2 56, zv s0 1 v]).length ≤ 3 from by simp only [zn_1, zn_2, show (lg_sl []).length = 0 from rfl]; omega) (show lv_args 0 [zv s0 2 56, zv s0 1 v] = [(0, zv s0 2 56), (1, zv s0 1 v)] from by rw [zl_2, zl_1]; rfl) ?_
  unfold zt_X7_put at h
  refine z_aload_n dX7_put_0 rfl (j := 0) rfl ?_
  refine z_get Γ kf_RX7_59 dX7_put_1 (by decide) hs56 rfl (by decide) (v9 := M 56 11) rfl ?_
  refine z_if_ne (tgt := 24) (x' := w32 (M 56 11)) rfl dX7_put_4 (by decide) (fun c4 => ?_) (fun c4 => ?_)
  · replace h := h.2 c4
    exact z_vret dX7_put_24 rfl h
  · replace h := h.1 c4
    refine z_aload_n dX7_put_7 rfl (j := 0) rfl ?_
    refine z_getc Γ kf_RX7_14 dX7_put_8 (by decide) hs56 rfl ?_
    refine z_lload_n dX7_put_11 rfl (j := 1) rfl ?_
    refine z_callV Γ kk_X0_addVarint kc_RX7_84 (As := [zv s0 1 v]) h (by omega) (by decide) (show (parseMethodDescriptor yX0_addVarint.desc).map (fun q => q.parameters.length) = some 1 by decide +kernel) hok (Nat.zero_le _) dX7_put_12 (⟨by decide, by decide, by decide, hs 57 _ rfl, hs 58 _ rfl⟩ : zCe S 57 58 4096).1 (⟨by decide, by decide, by decide, hs 57 _ rfl, hs 58 _ rfl⟩ : zCe S 57 58 4096).2.2.2.1 rfl rfl (fun _ h9 => nomatch h9) ?_
    clear h
    intro r12 M12 h
    show rt_Go _ _ _ _ _ _ _ _ _ _ _ _ 15 [(0, zv s0 2 56), (1, zv s0 1 v)] [zv s0 0 r12] (zw s0 ca C S M12)
    refine z_if_ne (tgt := 24) (x' := w32 r12) rfl dX7_put_15 (by decide) (fun c15 => ?_) (fun c15 => ?_)
    · replace h := h.2 c15
      exact z_vret dX7_put_24 rfl h
    · replace h := h.1 c15
      refine z_aload_n dX7_put_18 rfl (j := 0) rfl ?_
      refine z_bipush dX7_put_19 (by decide) ?_
      refine z_callV Γ kk_X7_halt kc_RX7_88 (As := [zv s0 0 ((-31))]) h (by omega) (by decide) (show (parseMethodDescriptor yX7_halt.desc).map (fun q => q.parameters.length) = some 1 by decide +kernel) hok (Nat.zero_le _) dX7_put_21 (by decide) hs56 rfl rfl (fun _ h9 => nomatch h9) ?_
      clear h
      intro r21 M21 h
      show rt_Go _ _ _ _ _ _ _ _ _ _ _ _ 24 [(0, zv s0 2 56), (1, zv s0 1 v)] [] (zw s0 ca C S M21)
      exact z_vret dX7_put_24 rfl h

def zt_X7_putPart (l : Launch) (s0 : State) (G : va_G) (ca : Nat → ClassId) (d : Nat) (C : Nat × Nat) (S : zS) (w0 : rt_Wd) (p : Int) (q : Int) (mk : Int) (mka : Int) (o : Int) (f : Int) (e : Int) (M : zM) (Q : Int → zM → Prop) (X : zM → Prop) : Prop :=
  zIf (w32 (M 56 11) = 0) (zm_X0_addPart l s0 G ca (d - 1) C S 57 o f e M (fun r14 M14 => zIf (w32 r14 = 0) (zm_X7_halt l s0 G ca (d - 1) C S ((-31)) M14 (fun r23 M23 => Q 0 M23) X) (Q 0 M14)) X) (Q 0 M)
set_option maxRecDepth 100000 in
theorem z_X7_putPart {l : Launch} {s0 : State} {a0 : Array Value} {G : va_G} {ca : Nat → ClassId} (Γ : rt_Γ l s0 a0 G ca) {d : Nat} {C : Nat × Nat} {S : zS} (hd : 1 ≤ d) (hok : zok C) {p : Int} {q : Int} {mk : Int} {mka : Int} (hs : zSok S) (hp : zSc S p) (hq : zSc S q) (hmk : zCe S mk mka 4096) (hs56 : S 56 = some (0, 7, [(3, 57), (3, 59), (3, 61), (3, 63), (3, 65), (3, 67), (3, mk), (3, p), (3, q), (0, 0), (0, 0), (0, 0)])) {o : Int} {f : Int} {e : Int} {M : zM} {Q : Int → zM → Prop} {X : zM → Prop} (h : zt_X7_putPart l s0 G ca d C S (zw s0 ca C S M) p q mk mka o f e M Q X) : zm_X7_putPart l s0 G ca d C S  o f e M Q X := by
  refine z_met (lv := [(0, zv s0 2 56), (1, zv s0 2 o), (2, zv s0 0 f), (3, zv s0 0 e)]) Γ kk_X7_putPart rfl (show (lg_sl [zv s0 2 56, zv s0 2 o, zv s0 0 f, zv s0 0 e]).length ≤ 4 from by simp only [zn_0, zn_2, show (lg_sl []).length = 0 from rfl]; omega) (show lv_args 0 [zv s0 2 56, zv s0 2 o, zv s0 0 f, zv s0 0 e] = [(0, zv s0 2 56), (1, zv s0 2 o), (2, zv s0 0 f), (3, zv s0 0 e)] from by rw [zl_2, zl_2, zl_0, zl_0]; rfl) ?_
  unfold zt_X7_putPart at h
  refine z_aload_n dX7_putPart_0 rfl (j := 0) rfl ?_
  refine z_get Γ kf_RX7_59 dX7_putPart_1 (by decide) hs56 rfl (by decide) (v9 := M 56 11) rfl ?_
  refine z_if_ne (tgt := 26) (x' := w32 (M 56 11)) rfl dX7_putPart_4 (by decide) (fun c4 => ?_) (fun c4 => ?_)
  · replace h := h.2 c4
    exact z_vret dX7_putPart_26 rfl h
  · replace h := h.1 c4
    refine z_aload_n dX7_putPart_7 rfl (j := 0) rfl ?_
    refine z_getc Γ kf_RX7_14 dX7_putPart_8 (by decide) hs56 rfl ?_
    refine z_aload_n dX7_putPart_11 rfl (j := 1) rfl ?_
    refine z_iload_n dX7_putPart_12 rfl (j := 2) rfl ?_
    refine z_iload_n dX7_putPart_13 rfl (j := 3) rfl ?_
    refine z_callV Γ kk_X0_addPart kc_RX7_91 (As := [zv s0 2 o, zv s0 0 f, zv s0 0 e]) h (by omega) (by decide) (show (parseMethodDescriptor yX0_addPart.desc).map (fun q => q.parameters.length) = some 3 by decide +kernel) hok (Nat.zero_le _) dX7_putPart_14 (⟨by decide, by decide, by decide, hs 57 _ rfl, hs 58 _ rfl⟩ : zCe S 57 58 4096).1 (⟨by decide, by decide, by decide, hs 57 _ rfl, hs 58 _ rfl⟩ : zCe S 57 58 4096).2.2.2.1 rfl rfl (fun _ h9 => nomatch h9) ?_
    clear h
    intro r14 M14 h
    show rt_Go _ _ _ _ _ _ _ _ _ _ _ _ 17 [(0, zv s0 2 56), (1, zv s0 2 o), (2, zv s0 0 f), (3, zv s0 0 e)] [zv s0 0 r14] (zw s0 ca C S M14)
    refine z_if_ne (tgt := 26) (x' := w32 r14) rfl dX7_putPart_17 (by decide) (fun c17 => ?_) (fun c17 => ?_)
    · replace h := h.2 c17
      exact z_vret dX7_putPart_26 rfl h
    · replace h := h.1 c17
      refine z_aload_n dX7_putPart_20 rfl (j := 0) rfl ?_
      refine z_bipush dX7_putPart_21 (by decide) ?_
      refine z_callV Γ kk_X7_halt kc_RX7_88 (As := [zv s0 0 ((-31))]) h (by omega) (by decide) (show (parseMethodDescriptor yX7_halt.desc).map (fun q => q.parameters.length) = some 1 by decide +kernel) hok (Nat.zero_le _) dX7_putPart_23 (by decide) hs56 rfl rfl (fun _ h9 => nomatch h9) ?_
      clear h
      intro r23 M23 h
      show rt_Go _ _ _ _ _ _ _ _ _ _ _ _ 26 [(0, zv s0 2 56), (1, zv s0 2 o), (2, zv s0 0 f), (3, zv s0 0 e)] [] (zw s0 ca C S M23)
      exact z_vret dX7_putPart_26 rfl h

abbrev zg_X7_varint_4 (l : Launch) (s0 : State) (G : va_G) (ca : Nat → ClassId) (d : Nat) (C : Nat × Nat) (S : zS) (w0 : rt_Wd) (p : Int) (q : Int) (mk : Int) (mka : Int) (v1 : Int) (v3 : Int)  (M : zM) (Q : Int → zM → Prop) (X : zM → Prop) : Prop := rt_Go l s0 G RX7 "varint" cX7_varint 5 (Option.some FieldType.long) [] d w0 (zQ s0 ca 1 C S Q X) 4 [(0, zv s0 2 56), (1, zv s0 1 v1), (3, zv s0 0 v3)] [] (zw s0 ca C S M)
abbrev zg_X7_varint_64 (l : Launch) (s0 : State) (G : va_G) (ca : Nat → ClassId) (d : Nat) (C : Nat × Nat) (S : zS) (w0 : rt_Wd) (p : Int) (q : Int) (mk : Int) (mka : Int) (v1 : Int)  (M : zM) (Q : Int → zM → Prop) (X : zM → Prop) : Prop := rt_Go l s0 G RX7 "varint" cX7_varint 5 (Option.some FieldType.long) [] d w0 (zQ s0 ca 1 C S Q X) 64 [(1, zv s0 1 v1)] [] (zw s0 ca C S M)
def zt_X7_varint_64 (l : Launch) (s0 : State) (G : va_G) (ca : Nat → ClassId) (d : Nat) (C : Nat × Nat) (S : zS) (w0 : rt_Wd) (p : Int) (q : Int) (mk : Int) (mka : Int) (v1 : Int)  (M : zM) (Q : Int → zM → Prop) (X : zM → Prop) : Prop :=
  Q (zxorL (zushrL v1 1) (-(zandL v1 1))) M
set_option maxRecDepth 100000 in
theorem zs_X7_varint_64 {l : Launch} {s0 : State} {a0 : Array Value} {G : va_G} {ca : Nat → ClassId} (Γ : rt_Γ l s0 a0 G ca) {d : Nat} {C : Nat × Nat} {S : zS} (hd : 1 ≤ d) (hok : zok C) {p : Int} {q : Int} {mk : Int} {mka : Int} (hs : zSok S) (hp : zSc S p) (hq : zSc S q) (hmk : zCe S mk mka 4096) (hs56 : S 56 = some (0, 7, [(3, 57), (3, 59), (3, 61), (3, 63), (3, 65), (3, 67), (3, mk), (3, p), (3, q), (0, 0), (0, 0), (0, 0)])) {w0 : rt_Wd} {v1 : Int}   {M : zM} {Q : Int → zM → Prop} {X : zM → Prop} (h : zt_X7_varint_64 l s0 G ca d C S w0 p q mk mka v1 M Q X) : zg_X7_varint_64 l s0 G ca d C S w0 p q mk mka v1 M Q X := by
  unfold zt_X7_varint_64 at h
  refine z_lload_n dX7_varint_64 rfl (j := 0) rfl ?_
  refine z_iconst dX7_varint_65 ?_
  refine z_lushr dX7_varint_66 ?_
  refine z_lload_n dX7_varint_67 rfl (j := 0) rfl ?_
  refine z_lconst (v := 1) dX7_varint_68 (by decide) ?_
  refine z_land dX7_varint_69 ?_
  refine z_lneg dX7_varint_70 ?_
  refine z_lxor dX7_varint_71 ?_
  exact z_lret dX7_varint_72 rfl h

def zt_X7_varint_4 (l : Launch) (s0 : State) (G : va_G) (ca : Nat → ClassId) (d : Nat) (C : Nat × Nat) (S : zS) (w0 : rt_Wd) (p : Int) (q : Int) (mk : Int) (mka : Int) (v1 : Int) (v3 : Int)  (M : zM) (Q : Int → zM → Prop) (X : zM → Prop) : Prop :=
  zIf (10 ≤ w32 v3) (zt_X7_varint_64 l s0 G ca d C S w0 p q mk mka v1 M Q X) (zIf (128 ≤ w32 ((zat M mka 4096 (M 56 10)))) (zg_X7_varint_4 l s0 G ca d C S w0 p q mk mka (zorL v1 (zshlL (w32 (zand ((zat M mka 4096 (M 56 10))) 127)) (7 * v3))) (v3 + 1) ((zu M 56 10 ((M 56 10) + 1))) Q X) (zt_X7_varint_64 l s0 G ca d C S w0 p q mk mka (zorL v1 (zshlL (w32 (zand ((zat M mka 4096 (M 56 10))) 127)) (7 * v3))) ((zu M 56 10 ((M 56 10) + 1))) Q X))
set_option maxRecDepth 100000 in
theorem zs_X7_varint_4 {l : Launch} {s0 : State} {a0 : Array Value} {G : va_G} {ca : Nat → ClassId} (Γ : rt_Γ l s0 a0 G ca) {d : Nat} {C : Nat × Nat} {S : zS} (hd : 1 ≤ d) (hok : zok C) {p : Int} {q : Int} {mk : Int} {mka : Int} (hs : zSok S) (hp : zSc S p) (hq : zSc S q) (hmk : zCe S mk mka 4096) (hs56 : S 56 = some (0, 7, [(3, 57), (3, 59), (3, 61), (3, 63), (3, 65), (3, 67), (3, mk), (3, p), (3, q), (0, 0), (0, 0), (0, 0)])) {w0 : rt_Wd} {v1 : Int} {v3 : Int}   {M : zM} {Q : Int → zM → Prop} {X : zM → Prop} (h : zt_X7_varint_4 l s0 G ca d C S w0 p q mk mka v1 v3 M Q X) : zg_X7_varint_4 l s0 G ca d C S w0 p q mk mka v1 v3 M Q X := by
  unfold zt_X7_varint_4 at h
  refine z_iload_n dX7_varint_4 rfl (j := 2) rfl ?_
  refine z_bipush dX7_varint_5 (by decide) ?_
  refine z_icmp_ge (tgt := 64) (x' := w32 v3) (y' := 10) rfl (by decide) dX7_varint_7 (by decide) (fun c7 => ?_) (fun c7 => ?_)
  · replace h := h.1 c7
    exact rt_lfew [1] rfl (zs_X7_varint_64 Γ hd hok hs hp hq hmk hs56  h)
  · replace h := h.2 c7
    refine z_aload_n dX7_varint_10 rfl (j := 0) rfl ?_
    refine z_getc Γ kf_RX7_68 dX7_varint_11 (by decide) hs56 rfl ?_
    refine z_aload_n dX7_varint_14 rfl (j := 0) rfl ?_
    refine z_get Γ kf_RX7_74 dX7_varint_15 (by decide) hs56 rfl (by decide) (v9 := M 56 10) rfl ?_
    refine z_callV Γ kk_X0_at kc_RX7_95 (As := [zv s0 0 (M 56 10)]) (k_X0_at (d := d - 1) Γ hok (hmk : zCe S mk mka 4096) (M := M) (Q := fun v9 M9 => v9 = (zat M mka 4096 (M 56 10)) ∧ M9 = M) (X := X) (show _ ∧ _ from ⟨rfl, rfl⟩)) (by omega) (by decide) (show (parseMethodDescriptor yX0_at.desc).map (fun q => q.parameters.length) = some 1 by decide +kernel) hok (Nat.zero_le _) dX7_varint_18 (hmk : zCe S mk mka 4096).1 (hmk : zCe S mk mka 4096).2.2.2.1 rfl rfl (fun _ h9 => nomatch h9) ?_
    rintro v9 M9 ⟨e9, e8⟩
    rw [e9, e8]
    clear e9 e8 v9 M9
    show rt_Go _ _ _ _ _ _ _ _ _ _ _ _ 21 [(0, zv s0 2 56), (1, zv s0 1 v1), (3, zv s0 0 v3)] [zv s0 0 ((zat M mka 4096 (M 56 10)))] (zw s0 ca C S M)
    refine z_istore (i := 4) (lv' := [(4, zv s0 0 ((zat M mka 4096 (M 56 10)))), (0, zv s0 2 56), (1, zv s0 1 v1), (3, zv s0 0 v3)]) dX7_varint_21 (by decide) (by simp [zv_cat0, zv_cat1, zv_cat2, zv_cats]) ?_
    refine z_aload_n dX7_varint_23 rfl (j := 1) rfl ?_
    refine z_dup2 dX7_varint_24 ?_
    refine z_get Γ kf_RX7_74 dX7_varint_25 (by decide) hs56 rfl (by decide) (v9 := M 56 10) rfl ?_
    refine z_iconst dX7_varint_28 ?_
    refine z_iadd dX7_varint_29 ?_
    refine z_put0 Γ kp_RX7_74 dX7_varint_30 (by decide) hs56 rfl (k9 := 10) rfl ?_
    refine z_lload_n dX7_varint_33 rfl (j := 2) rfl ?_
    refine z_iload dX7_varint_34 (j := 0) rfl ?_
    refine z_bipush dX7_varint_36 (by decide) ?_
    refine z_iand dX7_varint_38 ?_
    refine z_i2l dX7_varint_39 ?_
    refine z_bipush dX7_varint_40 (by decide) ?_
    refine z_iload_n dX7_varint_42 rfl (j := 3) rfl ?_
    refine z_imul dX7_varint_43 ?_
    refine z_lshl dX7_varint_44 ?_
    refine z_lor dX7_varint_45 ?_
    refine z_lstore_n (i := 1) (lv' := [(1, zv s0 1 (zorL v1 (zshlL (w32 (zand ((zat M mka 4096 (M 56 10))) 127)) (7 * v3)))), (4, zv s0 0 ((zat M mka 4096 (M 56 10)))), (0, zv s0 2 56), (3, zv s0 0 v3)]) dX7_varint_46 rfl (by decide) (by simp [zv_cat0, zv_cat1, zv_cat2, zv_cats]) ?_
    refine z_iload dX7_varint_47 (j := 1) rfl ?_
    refine z_sipush dX7_varint_49 (by decide) ?_
    refine z_icmp_ge (tgt := 58) (x' := w32 ((zat M mka 4096 (M 56 10)))) (y' := 128) rfl (by decide) dX7_varint_52 (by decide) (fun c52 => ?_) (fun c52 => ?_)
    · replace h := h.1 c52
      refine z_iinc (lv' := [(3, zv s0 0 (v3 + 1)), (1, zv s0 1 (zorL v1 (zshlL (w32 (zand ((zat M mka 4096 (M 56 10))) 127)) (7 * v3)))), (4, zv s0 0 ((zat M mka 4096 (M 56 10)))), (0, zv s0 2 56)]) dX7_varint_58 (j := 3) rfl (by decide) (by simp [zv_cat0, zv_cat1, zv_cat2, zv_cats]) ?_
      refine rt_goto (tgt := 4) dX7_varint_61 (by decide) ?_
      exact rt_lfew [3, 1, 0] rfl h
    · replace h := h.2 c52
      refine rt_goto (tgt := 64) dX7_varint_55 (by decide) ?_
      exact rt_lfew [0] rfl (zs_X7_varint_64 Γ hd hok hs hp hq hmk hs56  h)

def zt_X7_varint (l : Launch) (s0 : State) (G : va_G) (ca : Nat → ClassId) (d : Nat) (C : Nat × Nat) (S : zS) (w0 : rt_Wd) (p : Int) (q : Int) (mk : Int) (mka : Int)  (M : zM) (Q : Int → zM → Prop) (X : zM → Prop) : Prop :=
  zg_X7_varint_4 l s0 G ca d C S w0 p q mk mka 0 0 M Q X
set_option maxRecDepth 100000 in
theorem z_X7_varint {l : Launch} {s0 : State} {a0 : Array Value} {G : va_G} {ca : Nat → ClassId} (Γ : rt_Γ l s0 a0 G ca) {d : Nat} {C : Nat × Nat} {S : zS} (hd : 1 ≤ d) (hok : zok C) {p : Int} {q : Int} {mk : Int} {mka : Int} (hs : zSok S) (hp : zSc S p) (hq : zSc S q) (hmk : zCe S mk mka 4096) (hs56 : S 56 = some (0, 7, [(3, 57), (3, 59), (3, 61), (3, 63), (3, 65), (3, 67), (3, mk), (3, p), (3, q), (0, 0), (0, 0), (0, 0)]))  {M : zM} {Q : Int → zM → Prop} {X : zM → Prop} (h : zt_X7_varint l s0 G ca d C S (zw s0 ca C S M) p q mk mka  M Q X) : zm_X7_varint l s0 G ca d C S   M Q X := by
  refine z_met (lv := [(0, zv s0 2 56)]) Γ kk_X7_varint rfl (show (lg_sl [zv s0 2 56]).length ≤ 5 from by simp only [zn_2, show (lg_sl []).length = 0 from rfl]; omega) (show lv_args 0 [zv s0 2 56] = [(0, zv s0 2 56)] from by rw [zl_2]; rfl) ?_
  unfold zt_X7_varint at h
  refine z_lconst (v := 0) dX7_varint_0 (by decide) ?_
  refine z_lstore_n (i := 1) (lv' := [(1, zv s0 1 0), (0, zv s0 2 56)]) dX7_varint_1 rfl (by decide) (by simp [zv_cat0, zv_cat1, zv_cat2, zv_cats]) ?_
  refine z_iconst dX7_varint_2 ?_
  refine z_istore_n (i := 3) (lv' := [(3, zv s0 0 0), (1, zv s0 1 0), (0, zv s0 2 56)]) dX7_varint_3 rfl (by decide) (by simp [zv_cat0, zv_cat1, zv_cat2, zv_cats]) ?_
  exact rt_lfew [2, 1, 0] rfl h

abbrev zg_X7_tellSymbol_50 (l : Launch) (s0 : State) (G : va_G) (ca : Nat → ClassId) (d : Nat) (C : Nat × Nat) (S : zS) (w0 : rt_Wd) (p : Int) (q : Int) (mk : Int) (mka : Int) (v3 : Int)  (M : zM) (Q : Int → zM → Prop) (X : zM → Prop) : Prop := rt_Go l s0 G RX7 "tellSymbol" cX7_tellSymbol 4 (Option.none : Option FieldType) [] d w0 (zQ s0 ca 9 C S Q X) 50 [(0, zv s0 2 56), (3, zv s0 0 v3)] [] (zw s0 ca C S M)
def zt_X7_tellSymbol_50 (l : Launch) (s0 : State) (G : va_G) (ca : Nat → ClassId) (d : Nat) (C : Nat × Nat) (S : zS) (w0 : rt_Wd) (p : Int) (q : Int) (mk : Int) (mka : Int) (v3 : Int)  (M : zM) (Q : Int → zM → Prop) (X : zM → Prop) : Prop :=
  zIf (w32 v3 = ((-1))) (zm_X7_halt l s0 G ca (d - 1) C S ((-20)) M (fun r58 M58 => Q 0 M58) X) (zm_X7_put l s0 G ca (d - 1) C S (w32 v3) M (fun r67 M67 => Q 0 M67) X)
set_option maxRecDepth 100000 in
theorem zs_X7_tellSymbol_50 {l : Launch} {s0 : State} {a0 : Array Value} {G : va_G} {ca : Nat → ClassId} (Γ : rt_Γ l s0 a0 G ca) {d : Nat} {C : Nat × Nat} {S : zS} (hd : 2 ≤ d) (hok : zok C) {p : Int} {q : Int} {mk : Int} {mka : Int} (hs : zSok S) (hp : zSc S p) (hq : zSc S q) (hmk : zCe S mk mka 4096) (hs56 : S 56 = some (0, 7, [(3, 57), (3, 59), (3, 61), (3, 63), (3, 65), (3, 67), (3, mk), (3, p), (3, q), (0, 0), (0, 0), (0, 0)])) {w0 : rt_Wd} {v3 : Int}   {M : zM} {Q : Int → zM → Prop} {X : zM → Prop} (h : zt_X7_tellSymbol_50 l s0 G ca d C S w0 p q mk mka v3 M Q X) : zg_X7_tellSymbol_50 l s0 G ca d C S w0 p q mk mka v3 M Q X := by
  unfold zt_X7_tellSymbol_50 at h
  refine z_iload_n dX7_tellSymbol_50 rfl (j := 1) rfl ?_
  refine z_iconst dX7_tellSymbol_51 ?_
  refine z_icmp_ne (tgt := 64) (x' := w32 v3) (y' := ((-1))) rfl (by decide) dX7_tellSymbol_52 (by decide) (fun c52 => ?_) (fun c52 => ?_)
  · replace h := h.2 c52
    refine z_aload_n dX7_tellSymbol_64 rfl (j := 0) rfl ?_
    refine z_iload_n dX7_tellSymbol_65 rfl (j := 1) rfl ?_
    refine z_i2l dX7_tellSymbol_66 ?_
    refine z_callV Γ kk_X7_put kc_RX7_116 (As := [zv s0 1 (w32 v3)]) h (by omega) (by decide) (show (parseMethodDescriptor yX7_put.desc).map (fun q => q.parameters.length) = some 1 by decide +kernel) hok (Nat.zero_le _) dX7_tellSymbol_67 (by decide) hs56 rfl rfl (fun _ h9 => nomatch h9) ?_
    clear h
    intro r67 M67 h
    show rt_Go _ _ _ _ _ _ _ _ _ _ _ _ 70 [(0, zv s0 2 56), (3, zv s0 0 v3)] [] (zw s0 ca C S M67)
    exact z_vret dX7_tellSymbol_70 rfl h
  · replace h := h.1 c52
    refine z_aload_n dX7_tellSymbol_55 rfl (j := 0) rfl ?_
    refine z_bipush dX7_tellSymbol_56 (by decide) ?_
    refine z_callV Γ kk_X7_halt kc_RX7_88 (As := [zv s0 0 ((-20))]) h (by omega) (by decide) (show (parseMethodDescriptor yX7_halt.desc).map (fun q => q.parameters.length) = some 1 by decide +kernel) hok (Nat.zero_le _) dX7_tellSymbol_58 (by decide) hs56 rfl rfl (fun _ h9 => nomatch h9) ?_
    clear h
    intro r58 M58 h
    show rt_Go _ _ _ _ _ _ _ _ _ _ _ _ 61 [(0, zv s0 2 56), (3, zv s0 0 v3)] [] (zw s0 ca C S M58)
    refine rt_goto (tgt := 70) dX7_tellSymbol_61 (by decide) ?_
    exact z_vret dX7_tellSymbol_70 rfl h

def zt_X7_tellSymbol (l : Launch) (s0 : State) (G : va_G) (ca : Nat → ClassId) (d : Nat) (C : Nat × Nat) (S : zS) (w0 : rt_Wd) (p : Int) (q : Int) (mk : Int) (mka : Int) (w : Int) (r : Int) (M : zM) (Q : Int → zM → Prop) (X : zM → Prop) : Prop :=
  zm_X7_varint l s0 G ca (d - 1) C S  M (fun r22 M22 => zm_X6_partNamed l s0 G ca (d - 1) C S q r ((p + 21)) (((zat M22 (p + 16) 2048 ((((zat M22 (p + 10) 134 w)) + r22))))) M22 (fun r32 M32 => zIf (w32 r32 = ((-1))) (zt_X7_tellSymbol_50 l s0 G ca d C S w0 p q mk mka (((zat M32 (q + 6) 134 r))) M32 Q X) (zt_X7_tellSymbol_50 l s0 G ca d C S w0 p q mk mka r32 M32 Q X)) X) X
set_option maxRecDepth 100000 in
theorem z_X7_tellSymbol {l : Launch} {s0 : State} {a0 : Array Value} {G : va_G} {ca : Nat → ClassId} (Γ : rt_Γ l s0 a0 G ca) {d : Nat} {C : Nat × Nat} {S : zS} (hd : 2 ≤ d) (hok : zok C) {p : Int} {q : Int} {mk : Int} {mka : Int} (hs : zSok S) (hp : zSc S p) (hq : zSc S q) (hmk : zCe S mk mka 4096) (hs56 : S 56 = some (0, 7, [(3, 57), (3, 59), (3, 61), (3, 63), (3, 65), (3, 67), (3, mk), (3, p), (3, q), (0, 0), (0, 0), (0, 0)])) {w : Int} {r : Int} {M : zM} {Q : Int → zM → Prop} {X : zM → Prop} (h : zt_X7_tellSymbol l s0 G ca d C S (zw s0 ca C S M) p q mk mka w r M Q X) : zm_X7_tellSymbol l s0 G ca d C S  w r M Q X := by
  refine z_met (lv := [(0, zv s0 2 56), (1, zv s0 0 w), (2, zv s0 0 r)]) Γ kk_X7_tellSymbol rfl (show (lg_sl [zv s0 2 56, zv s0 0 w, zv s0 0 r]).length ≤ 4 from by simp only [zn_0, zn_2, show (lg_sl []).length = 0 from rfl]; omega) (show lv_args 0 [zv s0 2 56, zv s0 0 w, zv s0 0 r] = [(0, zv s0 2 56), (1, zv s0 0 w), (2, zv s0 0 r)] from by rw [zl_2, zl_0, zl_0]; rfl) ?_
  unfold zt_X7_tellSymbol at h
  refine z_aload_n dX7_tellSymbol_0 rfl (j := 0) rfl ?_
  refine z_getc Γ kf_RX7_41 dX7_tellSymbol_1 (by decide) hs56 rfl ?_
  refine z_iload_n dX7_tellSymbol_4 rfl (j := 2) rfl ?_
  refine z_aload_n dX7_tellSymbol_5 rfl (j := 0) rfl ?_
  refine z_getc Γ kf_RX7_37 dX7_tellSymbol_6 (by decide) hs56 rfl ?_
  refine z_callV Γ kk_X6_names kc_RX7_139 (As := []) (z_X6_names (d := d - 1) Γ hok hp (M := M) (Q := fun v9 M9 => v9 = (p + 21) ∧ M9 = M) (X := X) (show _ ∧ _ from ⟨rfl, rfl⟩)) (by omega) (by decide) (show (parseMethodDescriptor yX6_names.desc).map (fun q => q.parameters.length) = some 0 by decide +kernel) hok (by simp only [List.map, zv_cat0, zv_cat1, zv_cat2, List.sum_cons, List.sum_nil]; decide) dX7_tellSymbol_9 hp.1 hp.2.1 rfl rfl (fun _ h9 => nomatch h9) ?_
  rintro v9 M9 ⟨e9, e8⟩
  rw [e9, e8]
  clear e9 e8 v9 M9
  show rt_Go _ _ _ _ _ _ _ _ _ _ _ _ 12 [(0, zv s0 2 56), (1, zv s0 0 w), (2, zv s0 0 r)] [zv s0 2 ((p + 21)), zv s0 0 r, zv s0 2 q] (zw s0 ca C S M)
  refine z_aload_n dX7_tellSymbol_12 rfl (j := 0) rfl ?_
  refine z_getc Γ kf_RX7_37 dX7_tellSymbol_13 (by decide) hs56 rfl ?_
  refine z_aload_n dX7_tellSymbol_16 rfl (j := 0) rfl ?_
  refine z_getc Γ kf_RX7_37 dX7_tellSymbol_17 (by decide) hs56 rfl ?_
  refine z_iload_n dX7_tellSymbol_20 rfl (j := 1) rfl ?_
  refine z_aload_n dX7_tellSymbol_21 rfl (j := 0) rfl ?_
  refine z_callV Γ kk_X7_varint kc_RX7_101 (As := []) h (by omega) (by decide) (show (parseMethodDescriptor yX7_varint.desc).map (fun q => q.parameters.length) = some 0 by decide +kernel) hok (by simp only [List.map, zv_cat0, zv_cat1, zv_cat2, List.sum_cons, List.sum_nil]; decide) dX7_tellSymbol_22 (by decide) hs56 rfl rfl (fun _ h9 => nomatch h9) ?_
  clear h
  intro r22 M22 h
  show rt_Go _ _ _ _ _ _ _ _ _ _ _ _ 25 [(0, zv s0 2 56), (1, zv s0 0 w), (2, zv s0 0 r)] [zv s0 1 r22, zv s0 0 w, zv s0 2 p, zv s0 2 p, zv s0 2 ((p + 21)), zv s0 0 r, zv s0 2 q] (zw s0 ca C S M22)
  refine z_l2i dX7_tellSymbol_25 ?_
  refine z_callV Γ kk_X6_part kc_RX7_142 (As := [zv s0 0 w, zv s0 0 r22]) (z_X6_part (d := d - 1) Γ (by omega) hok hp (M := M22) (Q := fun v9 M9 => v9 = (((zat M22 (p + 10) 134 w)) + r22) ∧ M9 = M22) (X := X) (show _ ∧ _ from ⟨rfl, rfl⟩)) (by omega) (by decide) (show (parseMethodDescriptor yX6_part.desc).map (fun q => q.parameters.length) = some 2 by decide +kernel) hok (by simp only [List.map, zv_cat0, zv_cat1, zv_cat2, List.sum_cons, List.sum_nil]; decide) dX7_tellSymbol_26 hp.1 hp.2.1 rfl rfl (fun _ h9 => nomatch h9) ?_
  rintro v9 M9 ⟨e9, e8⟩
  rw [e9, e8]
  clear e9 e8 v9 M9
  show rt_Go _ _ _ _ _ _ _ _ _ _ _ _ 29 [(0, zv s0 2 56), (1, zv s0 0 w), (2, zv s0 0 r)] [zv s0 0 ((((zat M22 (p + 10) 134 w)) + r22)), zv s0 2 p, zv s0 2 ((p + 21)), zv s0 0 r, zv s0 2 q] (zw s0 ca C S M22)
  refine z_callV Γ kk_X6_partName kc_RX7_145 (As := [zv s0 0 ((((zat M22 (p + 10) 134 w)) + r22))]) (z_X6_partName (d := d - 1) Γ (by omega) hok hp (M := M22) (Q := fun v9 M9 => v9 = ((zat M22 (p + 16) 2048 ((((zat M22 (p + 10) 134 w)) + r22)))) ∧ M9 = M22) (X := X) (show _ ∧ _ from ⟨rfl, rfl⟩)) (by omega) (by decide) (show (parseMethodDescriptor yX6_partName.desc).map (fun q => q.parameters.length) = some 1 by decide +kernel) hok (by simp only [List.map, zv_cat0, zv_cat1, zv_cat2, List.sum_cons, List.sum_nil]; decide) dX7_tellSymbol_29 hp.1 hp.2.1 rfl rfl (fun _ h9 => nomatch h9) ?_
  rintro v9 M9 ⟨e9, e8⟩
  rw [e9, e8]
  clear e9 e8 v9 M9
  show rt_Go _ _ _ _ _ _ _ _ _ _ _ _ 32 [(0, zv s0 2 56), (1, zv s0 0 w), (2, zv s0 0 r)] [zv s0 0 (((zat M22 (p + 16) 2048 ((((zat M22 (p + 10) 134 w)) + r22))))), zv s0 2 ((p + 21)), zv s0 0 r, zv s0 2 q] (zw s0 ca C S M22)
  refine z_callV Γ kk_X6_partNamed kc_RX7_148 (As := [zv s0 0 r, zv s0 2 ((p + 21)), zv s0 0 (((zat M22 (p + 16) 2048 ((((zat M22 (p + 10) 134 w)) + r22)))))]) h (by omega) (by decide) (show (parseMethodDescriptor yX6_partNamed.desc).map (fun q => q.parameters.length) = some 3 by decide +kernel) hok (Nat.zero_le _) dX7_tellSymbol_32 hq.1 hq.2.1 rfl rfl (fun _ h9 => nomatch h9) ?_
  clear h
  intro r32 M32 h
  show rt_Go _ _ _ _ _ _ _ _ _ _ _ _ 35 [(0, zv s0 2 56), (1, zv s0 0 w), (2, zv s0 0 r)] [zv s0 0 r32] (zw s0 ca C S M32)
  refine z_istore_n (i := 3) (lv' := [(3, zv s0 0 r32), (0, zv s0 2 56), (1, zv s0 0 w), (2, zv s0 0 r)]) dX7_tellSymbol_35 rfl (by decide) (by simp [zv_cat0, zv_cat1, zv_cat2, zv_cats]) ?_
  refine z_iload_n dX7_tellSymbol_36 rfl (j := 0) rfl ?_
  refine z_iconst dX7_tellSymbol_37 ?_
  refine z_icmp_ne (tgt := 50) (x' := w32 r32) (y' := ((-1))) rfl (by decide) dX7_tellSymbol_38 (by decide) (fun c38 => ?_) (fun c38 => ?_)
  · replace h := h.2 c38
    exact rt_lfew [1, 0] rfl (zs_X7_tellSymbol_50 Γ hd hok hs hp hq hmk hs56  h)
  · replace h := h.1 c38
    refine z_aload_n dX7_tellSymbol_41 rfl (j := 1) rfl ?_
    refine z_getc Γ kf_RX7_41 dX7_tellSymbol_42 (by decide) hs56 rfl ?_
    refine z_iload_n dX7_tellSymbol_45 rfl (j := 3) rfl ?_
    refine z_callV Γ kk_X6_fallback kc_RX7_152 (As := [zv s0 0 r]) (z_X6_fallback (d := d - 1) Γ (by omega) hok hq (M := M32) (Q := fun v9 M9 => v9 = ((zat M32 (q + 6) 134 r)) ∧ M9 = M32) (X := X) (show _ ∧ _ from ⟨rfl, rfl⟩)) (by omega) (by decide) (show (parseMethodDescriptor yX6_fallback.desc).map (fun q => q.parameters.length) = some 1 by decide +kernel) hok (Nat.zero_le _) dX7_tellSymbol_46 hq.1 hq.2.1 rfl rfl (fun _ h9 => nomatch h9) ?_
    rintro v9 M9 ⟨e9, e8⟩
    rw [e9, e8]
    clear e9 e8 v9 M9
    show rt_Go _ _ _ _ _ _ _ _ _ _ _ _ 49 [(3, zv s0 0 r32), (0, zv s0 2 56), (1, zv s0 0 w), (2, zv s0 0 r)] [zv s0 0 (((zat M32 (q + 6) 134 r)))] (zw s0 ca C S M32)
    refine z_istore_n (i := 3) (lv' := [(3, zv s0 0 (((zat M32 (q + 6) 134 r)))), (0, zv s0 2 56), (1, zv s0 0 w), (2, zv s0 0 r)]) dX7_tellSymbol_49 rfl (by decide) (by simp [zv_cat0, zv_cat1, zv_cat2, zv_cats]) ?_
    exact rt_lfew [1, 0] rfl (zs_X7_tellSymbol_50 Γ hd hok hs hp hq hmk hs56  h)

def zt_X7_tellDefault (l : Launch) (s0 : State) (G : va_G) (ca : Nat → ClassId) (d : Nat) (C : Nat × Nat) (S : zS) (w0 : rt_Wd) (p : Int) (q : Int) (mk : Int) (mka : Int) (f : Int) (M : zM) (Q : Int → zM → Prop) (X : zM → Prop) : Prop :=
  zIf (w32 ((zf_X6_hasDefault M q f)) = 0) (zm_X7_halt l s0 G ca (d - 1) C S ((-20)) M (fun r44 M44 => Q 0 M44) X) (zm_X7_putPart l s0 G ca (d - 1) C S ((q + 23)) (((zat M (q + 18) 2048 f))) (((zat M (q + 20) 2048 f))) M (fun r35 M35 => Q 0 M35) X)
set_option maxRecDepth 100000 in
theorem z_X7_tellDefault {l : Launch} {s0 : State} {a0 : Array Value} {G : va_G} {ca : Nat → ClassId} (Γ : rt_Γ l s0 a0 G ca) {d : Nat} {C : Nat × Nat} {S : zS} (hd : 2 ≤ d) (hok : zok C) {p : Int} {q : Int} {mk : Int} {mka : Int} (hs : zSok S) (hp : zSc S p) (hq : zSc S q) (hmk : zCe S mk mka 4096) (hs56 : S 56 = some (0, 7, [(3, 57), (3, 59), (3, 61), (3, 63), (3, 65), (3, 67), (3, mk), (3, p), (3, q), (0, 0), (0, 0), (0, 0)])) {f : Int} {M : zM} {Q : Int → zM → Prop} {X : zM → Prop} (h : zt_X7_tellDefault l s0 G ca d C S (zw s0 ca C S M) p q mk mka f M Q X) : zm_X7_tellDefault l s0 G ca d C S  f M Q X := by
  refine z_met (lv := [(0, zv s0 2 56), (1, zv s0 0 f)]) Γ kk_X7_tellDefault rfl (show (lg_sl [zv s0 2 56, zv s0 0 f]).length ≤ 2 from by simp only [zn_0, zn_2, show (lg_sl []).length = 0 from rfl]; omega) (show lv_args 0 [zv s0 2 56, zv s0 0 f] = [(0, zv s0 2 56), (1, zv s0 0 f)] from by rw [zl_2, zl_0]; rfl) ?_
  unfold zt_X7_tellDefault at h
  refine z_aload_n dX7_tellDefault_0 rfl (j := 0) rfl ?_
  refine z_getc Γ kf_RX7_41 dX7_tellDefault_1 (by decide) hs56 rfl ?_
  refine z_iload_n dX7_tellDefault_4 rfl (j := 1) rfl ?_
  refine z_callV Γ kk_X6_hasDefault kc_RX7_188 (As := [zv s0 0 f]) (k_X6_hasDefault (d := d - 1) Γ (by omega) hok hq (M := M) (Q := fun v9 M9 => v9 = (zf_X6_hasDefault M q f) ∧ M9 = M) (X := X) (show _ ∧ _ from ⟨rfl, rfl⟩)) (by omega) (by decide) (show (parseMethodDescriptor yX6_hasDefault.desc).map (fun q => q.parameters.length) = some 1 by decide +kernel) hok (Nat.zero_le _) dX7_tellDefault_5 hq.1 hq.2.1 rfl rfl (fun _ h9 => nomatch h9) ?_
  rintro v9 M9 ⟨e9, e8⟩
  rw [e9, e8]
  clear e9 e8 v9 M9
  show rt_Go _ _ _ _ _ _ _ _ _ _ _ _ 8 [(0, zv s0 2 56), (1, zv s0 0 f)] [zv s0 0 ((zf_X6_hasDefault M q f))] (zw s0 ca C S M)
  refine z_if_eq (tgt := 41) (x' := w32 ((zf_X6_hasDefault M q f))) rfl dX7_tellDefault_8 (by decide) (fun c8 => ?_) (fun c8 => ?_)
  · replace h := h.1 c8
    refine z_aload_n dX7_tellDefault_41 rfl (j := 0) rfl ?_
    refine z_bipush dX7_tellDefault_42 (by decide) ?_
    refine z_callV Γ kk_X7_halt kc_RX7_88 (As := [zv s0 0 ((-20))]) h (by omega) (by decide) (show (parseMethodDescriptor yX7_halt.desc).map (fun q => q.parameters.length) = some 1 by decide +kernel) hok (Nat.zero_le _) dX7_tellDefault_44 (by decide) hs56 rfl rfl (fun _ h9 => nomatch h9) ?_
    clear h
    intro r44 M44 h
    show rt_Go _ _ _ _ _ _ _ _ _ _ _ _ 47 [(0, zv s0 2 56), (1, zv s0 0 f)] [] (zw s0 ca C S M44)
    exact z_vret dX7_tellDefault_47 rfl h
  · replace h := h.2 c8
    refine z_aload_n dX7_tellDefault_11 rfl (j := 0) rfl ?_
    refine z_aload_n dX7_tellDefault_12 rfl (j := 0) rfl ?_
    refine z_getc Γ kf_RX7_41 dX7_tellDefault_13 (by decide) hs56 rfl ?_
    refine z_callV Γ kk_X6_defaults kc_RX7_192 (As := []) (z_X6_defaults (d := d - 1) Γ hok hq (M := M) (Q := fun v9 M9 => v9 = (q + 23) ∧ M9 = M) (X := X) (show _ ∧ _ from ⟨rfl, rfl⟩)) (by omega) (by decide) (show (parseMethodDescriptor yX6_defaults.desc).map (fun q => q.parameters.length) = some 0 by decide +kernel) hok (by simp only [List.map, zv_cat0, zv_cat1, zv_cat2, List.sum_cons, List.sum_nil]; decide) dX7_tellDefault_16 hq.1 hq.2.1 rfl rfl (fun _ h9 => nomatch h9) ?_
    rintro v9 M9 ⟨e9, e8⟩
    rw [e9, e8]
    clear e9 e8 v9 M9
    show rt_Go _ _ _ _ _ _ _ _ _ _ _ _ 19 [(0, zv s0 2 56), (1, zv s0 0 f)] [zv s0 2 ((q + 23)), zv s0 2 56] (zw s0 ca C S M)
    refine z_aload_n dX7_tellDefault_19 rfl (j := 0) rfl ?_
    refine z_getc Γ kf_RX7_41 dX7_tellDefault_20 (by decide) hs56 rfl ?_
    refine z_iload_n dX7_tellDefault_23 rfl (j := 1) rfl ?_
    refine z_callV Γ kk_X6_defaultStart kc_RX7_195 (As := [zv s0 0 f]) (z_X6_defaultStart (d := d - 1) Γ (by omega) hok hq (M := M) (Q := fun v9 M9 => v9 = ((zat M (q + 18) 2048 f)) ∧ M9 = M) (X := X) (show _ ∧ _ from ⟨rfl, rfl⟩)) (by omega) (by decide) (show (parseMethodDescriptor yX6_defaultStart.desc).map (fun q => q.parameters.length) = some 1 by decide +kernel) hok (by simp only [List.map, zv_cat0, zv_cat1, zv_cat2, List.sum_cons, List.sum_nil]; decide) dX7_tellDefault_24 hq.1 hq.2.1 rfl rfl (fun _ h9 => nomatch h9) ?_
    rintro v9 M9 ⟨e9, e8⟩
    rw [e9, e8]
    clear e9 e8 v9 M9
    show rt_Go _ _ _ _ _ _ _ _ _ _ _ _ 27 [(0, zv s0 2 56), (1, zv s0 0 f)] [zv s0 0 (((zat M (q + 18) 2048 f))), zv s0 2 ((q + 23)), zv s0 2 56] (zw s0 ca C S M)
    refine z_aload_n dX7_tellDefault_27 rfl (j := 0) rfl ?_
    refine z_getc Γ kf_RX7_41 dX7_tellDefault_28 (by decide) hs56 rfl ?_
    refine z_iload_n dX7_tellDefault_31 rfl (j := 1) rfl ?_
    refine z_callV Γ kk_X6_defaultEnd kc_RX7_198 (As := [zv s0 0 f]) (z_X6_defaultEnd (d := d - 1) Γ (by omega) hok hq (M := M) (Q := fun v9 M9 => v9 = ((zat M (q + 20) 2048 f)) ∧ M9 = M) (X := X) (show _ ∧ _ from ⟨rfl, rfl⟩)) (by omega) (by decide) (show (parseMethodDescriptor yX6_defaultEnd.desc).map (fun q => q.parameters.length) = some 1 by decide +kernel) hok (by simp only [List.map, zv_cat0, zv_cat1, zv_cat2, List.sum_cons, List.sum_nil]; decide) dX7_tellDefault_32 hq.1 hq.2.1 rfl rfl (fun _ h9 => nomatch h9) ?_
    rintro v9 M9 ⟨e9, e8⟩
    rw [e9, e8]
    clear e9 e8 v9 M9
    show rt_Go _ _ _ _ _ _ _ _ _ _ _ _ 35 [(0, zv s0 2 56), (1, zv s0 0 f)] [zv s0 0 (((zat M (q + 20) 2048 f))), zv s0 0 (((zat M (q + 18) 2048 f))), zv s0 2 ((q + 23)), zv s0 2 56] (zw s0 ca C S M)
    refine z_callV Γ kk_X7_putPart kc_RX7_135 (As := [zv s0 2 ((q + 23)), zv s0 0 (((zat M (q + 18) 2048 f))), zv s0 0 (((zat M (q + 20) 2048 f)))]) h (by omega) (by decide) (show (parseMethodDescriptor yX7_putPart.desc).map (fun q => q.parameters.length) = some 3 by decide +kernel) hok (Nat.zero_le _) dX7_tellDefault_35 (by decide) hs56 rfl rfl (fun _ h9 => nomatch h9) ?_
    clear h
    intro r35 M35 h
    show rt_Go _ _ _ _ _ _ _ _ _ _ _ _ 38 [(0, zv s0 2 56), (1, zv s0 0 f)] [] (zw s0 ca C S M35)
    refine rt_goto (tgt := 47) dX7_tellDefault_38 (by decide) ?_
    exact z_vret dX7_tellDefault_47 rfl h

abbrev zg_X7_skip_154 (l : Launch) (s0 : State) (G : va_G) (ca : Nat → ClassId) (d : Nat) (C : Nat × Nat) (S : zS) (w0 : rt_Wd) (p : Int) (q : Int) (mk : Int) (mka : Int) (v1 : Int) (v2 : Int) (v4 : Int)  (M : zM) (Q : Int → zM → Prop) (X : zM → Prop) : Prop := rt_Go l s0 G RX7 "skip" cX7_skip 5 (Option.none : Option FieldType) [] d w0 (zQ s0 ca 9 C S Q X) 154 [(0, zv s0 2 56), (1, zv s0 0 v1), (2, zv s0 0 v2), (4, zv s0 0 v4)] [] (zw s0 ca C S M)
def zt_X7_skip_154 (l : Launch) (s0 : State) (G : va_G) (ca : Nat → ClassId) (d : Nat) (C : Nat × Nat) (S : zS) (w0 : rt_Wd) (p : Int) (q : Int) (mk : Int) (mka : Int) (v1 : Int) (v2 : Int) (v4 : Int)  (M : zM) (Q : Int → zM → Prop) (X : zM → Prop) : Prop :=
  zIf (w32 (((zat M (p + 12) 134 v1))) ≤ w32 v4) (Q 0 M) (zm_X7_skip l s0 G ca (d - 1) C S (((zat M (p + 14) 2048 ((((zat M (p + 10) 134 v1)) + v4))))) (v2 + 1) M (fun r188 M188 => zg_X7_skip_154 l s0 G ca d C S w0 p q mk mka v1 v2 (v4 + 1) M188 Q X) X)
set_option maxRecDepth 100000 in
theorem zs_X7_skip_154 {l : Launch} {s0 : State} {a0 : Array Value} {G : va_G} {ca : Nat → ClassId} (Γ : rt_Γ l s0 a0 G ca) {d : Nat} {C : Nat × Nat} {S : zS} (hd : 2 ≤ d) (hok : zok C) {p : Int} {q : Int} {mk : Int} {mka : Int} (hs : zSok S) (hp : zSc S p) (hq : zSc S q) (hmk : zCe S mk mka 4096) (hs56 : S 56 = some (0, 7, [(3, 57), (3, 59), (3, 61), (3, 63), (3, 65), (3, 67), (3, mk), (3, p), (3, q), (0, 0), (0, 0), (0, 0)])) {w0 : rt_Wd} {v1 : Int} {v2 : Int} {v4 : Int}   {M : zM} {Q : Int → zM → Prop} {X : zM → Prop} (h : zt_X7_skip_154 l s0 G ca d C S w0 p q mk mka v1 v2 v4 M Q X) : zg_X7_skip_154 l s0 G ca d C S w0 p q mk mka v1 v2 v4 M Q X := by
  unfold zt_X7_skip_154 at h
  refine z_iload dX7_skip_154 (j := 3) rfl ?_
  refine z_aload_n dX7_skip_156 rfl (j := 0) rfl ?_
  refine z_getc Γ kf_RX7_37 dX7_skip_157 (by decide) hs56 rfl ?_
  refine z_iload_n dX7_skip_160 rfl (j := 1) rfl ?_
  refine z_callV Γ kk_X6_parts kc_RX7_167 (As := [zv s0 0 v1]) (z_X6_parts (d := d - 1) Γ (by omega) hok hp (M := M) (Q := fun v9 M9 => v9 = ((zat M (p + 12) 134 v1)) ∧ M9 = M) (X := X) (show _ ∧ _ from ⟨rfl, rfl⟩)) (by omega) (by decide) (show (parseMethodDescriptor yX6_parts.desc).map (fun q => q.parameters.length) = some 1 by decide +kernel) hok (by simp only [List.map, zv_cat0, zv_cat1, zv_cat2, List.sum_cons, List.sum_nil]; decide) dX7_skip_161 hp.1 hp.2.1 rfl rfl (fun _ h9 => nomatch h9) ?_
  rintro v9 M9 ⟨e9, e8⟩
  rw [e9, e8]
  clear e9 e8 v9 M9
  show rt_Go _ _ _ _ _ _ _ _ _ _ _ _ 164 [(0, zv s0 2 56), (1, zv s0 0 v1), (2, zv s0 0 v2), (4, zv s0 0 v4)] [zv s0 0 (((zat M (p + 12) 134 v1))), zv s0 0 v4] (zw s0 ca C S M)
  refine z_icmp_ge (tgt := 197) (x' := w32 v4) (y' := w32 (((zat M (p + 12) 134 v1)))) rfl rfl dX7_skip_164 (by decide) (fun c164 => ?_) (fun c164 => ?_)
  · replace h := h.1 c164
    exact z_vret dX7_skip_197 rfl h
  · replace h := h.2 c164
    refine z_aload_n dX7_skip_167 rfl (j := 0) rfl ?_
    refine z_aload_n dX7_skip_168 rfl (j := 0) rfl ?_
    refine z_getc Γ kf_RX7_37 dX7_skip_169 (by decide) hs56 rfl ?_
    refine z_aload_n dX7_skip_172 rfl (j := 0) rfl ?_
    refine z_getc Γ kf_RX7_37 dX7_skip_173 (by decide) hs56 rfl ?_
    refine z_iload_n dX7_skip_176 rfl (j := 1) rfl ?_
    refine z_iload dX7_skip_177 (j := 3) rfl ?_
    refine z_callV Γ kk_X6_part kc_RX7_142 (As := [zv s0 0 v1, zv s0 0 v4]) (z_X6_part (d := d - 1) Γ (by omega) hok hp (M := M) (Q := fun v9 M9 => v9 = (((zat M (p + 10) 134 v1)) + v4) ∧ M9 = M) (X := X) (show _ ∧ _ from ⟨rfl, rfl⟩)) (by omega) (by decide) (show (parseMethodDescriptor yX6_part.desc).map (fun q => q.parameters.length) = some 2 by decide +kernel) hok (by simp only [List.map, zv_cat0, zv_cat1, zv_cat2, List.sum_cons, List.sum_nil]; decide) dX7_skip_179 hp.1 hp.2.1 rfl rfl (fun _ h9 => nomatch h9) ?_
    rintro v9 M9 ⟨e9, e8⟩
    rw [e9, e8]
    clear e9 e8 v9 M9
    show rt_Go _ _ _ _ _ _ _ _ _ _ _ _ 182 [(0, zv s0 2 56), (1, zv s0 0 v1), (2, zv s0 0 v2), (4, zv s0 0 v4)] [zv s0 0 ((((zat M (p + 10) 134 v1)) + v4)), zv s0 2 p, zv s0 2 56] (zw s0 ca C S M)
    refine z_callV Γ kk_X6_partNode kc_RX7_180 (As := [zv s0 0 ((((zat M (p + 10) 134 v1)) + v4))]) (z_X6_partNode (d := d - 1) Γ (by omega) hok hp (M := M) (Q := fun v9 M9 => v9 = ((zat M (p + 14) 2048 ((((zat M (p + 10) 134 v1)) + v4)))) ∧ M9 = M) (X := X) (show _ ∧ _ from ⟨rfl, rfl⟩)) (by omega) (by decide) (show (parseMethodDescriptor yX6_partNode.desc).map (fun q => q.parameters.length) = some 1 by decide +kernel) hok (by simp only [List.map, zv_cat0, zv_cat1, zv_cat2, List.sum_cons, List.sum_nil]; decide) dX7_skip_182 hp.1 hp.2.1 rfl rfl (fun _ h9 => nomatch h9) ?_
    rintro v9 M9 ⟨e9, e8⟩
    rw [e9, e8]
    clear e9 e8 v9 M9
    show rt_Go _ _ _ _ _ _ _ _ _ _ _ _ 185 [(0, zv s0 2 56), (1, zv s0 0 v1), (2, zv s0 0 v2), (4, zv s0 0 v4)] [zv s0 0 (((zat M (p + 14) 2048 ((((zat M (p + 10) 134 v1)) + v4))))), zv s0 2 56] (zw s0 ca C S M)
    refine z_iload_n dX7_skip_185 rfl (j := 2) rfl ?_
    refine z_iconst dX7_skip_186 ?_
    refine z_iadd dX7_skip_187 ?_
    refine z_callV Γ kk_X7_skip kc_RX7_132 (As := [zv s0 0 (((zat M (p + 14) 2048 ((((zat M (p + 10) 134 v1)) + v4))))), zv s0 0 (v2 + 1)]) h (by omega) (by decide) (show (parseMethodDescriptor yX7_skip.desc).map (fun q => q.parameters.length) = some 2 by decide +kernel) hok (Nat.zero_le _) dX7_skip_188 (by decide) hs56 rfl rfl (fun _ h9 => nomatch h9) ?_
    clear h
    intro r188 M188 h
    show rt_Go _ _ _ _ _ _ _ _ _ _ _ _ 191 [(0, zv s0 2 56), (1, zv s0 0 v1), (2, zv s0 0 v2), (4, zv s0 0 v4)] [] (zw s0 ca C S M188)
    refine z_iinc (lv' := [(4, zv s0 0 (v4 + 1)), (0, zv s0 2 56), (1, zv s0 0 v1), (2, zv s0 0 v2)]) dX7_skip_191 (j := 3) rfl (by decide) (by simp [zv_cat0, zv_cat1, zv_cat2, zv_cats]) ?_
    refine rt_goto (tgt := 154) dX7_skip_194 (by decide) ?_
    exact rt_lfew [1, 2, 3, 0] rfl h

def zt_X7_skip (l : Launch) (s0 : State) (G : va_G) (ca : Nat → ClassId) (d : Nat) (C : Nat × Nat) (S : zS) (w0 : rt_Wd) (p : Int) (q : Int) (mk : Int) (mka : Int) (s : Int) (e : Int) (M : zM) (Q : Int → zM → Prop) (X : zM → Prop) : Prop :=
  zIf (w32 (((zat M (p + 8) 134 s))) = ((-1))) (zIf (w32 e < 33) (zIf (w32 (((zat M (p + 2) 134 s))) = 2) (zm_X7_varint l s0 G ca (d - 1) C S  M (fun r101 M101 => Q 0 M101) X) (zIf (w32 (((zat M (p + 2) 134 s))) = 3) (zm_X7_varint l s0 G ca (d - 1) C S  M (fun r101 M101 => Q 0 M101) X) (zIf (w32 (((zat M (p + 2) 134 s))) = 4) (zm_X7_varint l s0 G ca (d - 1) C S  M (fun r107 M107 => Q 0 ((zu M107 56 10 ((M107 56 10) + r107)))) X) (zIf (w32 (((zat M (p + 2) 134 s))) = 5) (zm_X7_varint l s0 G ca (d - 1) C S  M (fun r107 M107 => Q 0 ((zu M107 56 10 ((M107 56 10) + r107)))) X) (zIf (w32 (((zat M (p + 2) 134 s))) = 6) (zm_X7_skipItems l s0 G ca (d - 1) C S s e M (fun r147 M147 => Q 0 M147) X) (zIf (w32 (((zat M (p + 2) 134 s))) = 7) (zm_X7_skipItems l s0 G ca (d - 1) C S s e M (fun r147 M147 => Q 0 M147) X) (zIf (w32 (((zat M (p + 2) 134 s))) = 8) (zm_X7_varint l s0 G ca (d - 1) C S  M (fun r130 M130 => zm_X7_skip l s0 G ca (d - 1) C S ((zf_X6_branch M130 p s r130)) (e + 1) M130 (fun r140 M140 => Q 0 M140) X) X) (zIf (w32 (((zat M (p + 2) 134 s))) = 10) (zm_X7_varint l s0 G ca (d - 1) C S  M (fun r101 M101 => Q 0 M101) X) (zIf (w32 (((zat M (p + 2) 134 s))) = 11) (zg_X7_skip_154 l s0 G ca d C S w0 p q mk mka s e 0 M Q X) (Q 0 M)))))))))) (Q 0 M)) (Q 0 ((zu M 56 10 ((M 56 10) + (((zat M (p + 8) 134 s)))))))
set_option maxRecDepth 100000 in
theorem z_X7_skip {l : Launch} {s0 : State} {a0 : Array Value} {G : va_G} {ca : Nat → ClassId} (Γ : rt_Γ l s0 a0 G ca) {d : Nat} {C : Nat × Nat} {S : zS} (hd : 2 ≤ d) (hok : zok C) {p : Int} {q : Int} {mk : Int} {mka : Int} (hs : zSok S) (hp : zSc S p) (hq : zSc S q) (hmk : zCe S mk mka 4096) (hs56 : S 56 = some (0, 7, [(3, 57), (3, 59), (3, 61), (3, 63), (3, 65), (3, 67), (3, mk), (3, p), (3, q), (0, 0), (0, 0), (0, 0)])) {s : Int} {e : Int} {M : zM} {Q : Int → zM → Prop} {X : zM → Prop} (h : zt_X7_skip l s0 G ca d C S (zw s0 ca C S M) p q mk mka s e M Q X) : zm_X7_skip l s0 G ca d C S  s e M Q X := by
  refine z_met (lv := [(0, zv s0 2 56), (1, zv s0 0 s), (2, zv s0 0 e)]) Γ kk_X7_skip rfl (show (lg_sl [zv s0 2 56, zv s0 0 s, zv s0 0 e]).length ≤ 5 from by simp only [zn_0, zn_2, show (lg_sl []).length = 0 from rfl]; omega) (show lv_args 0 [zv s0 2 56, zv s0 0 s, zv s0 0 e] = [(0, zv s0 2 56), (1, zv s0 0 s), (2, zv s0 0 e)] from by rw [zl_2, zl_0, zl_0]; rfl) ?_
  unfold zt_X7_skip at h
  refine z_aload_n dX7_skip_0 rfl (j := 0) rfl ?_
  refine z_getc Γ kf_RX7_37 dX7_skip_1 (by decide) hs56 rfl ?_
  refine z_iload_n dX7_skip_4 rfl (j := 1) rfl ?_
  refine z_callV Γ kk_X6_width kc_RX7_158 (As := [zv s0 0 s]) (z_X6_width (d := d - 1) Γ (by omega) hok hp (M := M) (Q := fun v9 M9 => v9 = ((zat M (p + 8) 134 s)) ∧ M9 = M) (X := X) (show _ ∧ _ from ⟨rfl, rfl⟩)) (by omega) (by decide) (show (parseMethodDescriptor yX6_width.desc).map (fun q => q.parameters.length) = some 1 by decide +kernel) hok (Nat.zero_le _) dX7_skip_5 hp.1 hp.2.1 rfl rfl (fun _ h9 => nomatch h9) ?_
  rintro v9 M9 ⟨e9, e8⟩
  rw [e9, e8]
  clear e9 e8 v9 M9
  show rt_Go _ _ _ _ _ _ _ _ _ _ _ _ 8 [(0, zv s0 2 56), (1, zv s0 0 s), (2, zv s0 0 e)] [zv s0 0 (((zat M (p + 8) 134 s)))] (zw s0 ca C S M)
  refine z_iconst dX7_skip_8 ?_
  refine z_icmp_eq (tgt := 30) (x' := w32 (((zat M (p + 8) 134 s)))) (y' := ((-1))) rfl (by decide) dX7_skip_9 (by decide) (fun c9 => ?_) (fun c9 => ?_)
  · replace h := h.1 c9
    refine z_iload_n dX7_skip_30 rfl (j := 2) rfl ?_
    refine z_bipush dX7_skip_31 (by decide) ?_
    refine z_icmp_lt (tgt := 37) (x' := w32 e) (y' := 33) rfl (by decide) dX7_skip_33 (by decide) (fun c33 => ?_) (fun c33 => ?_)
    · replace h := h.1 c33
      refine z_aload_n dX7_skip_37 rfl (j := 0) rfl ?_
      refine z_getc Γ kf_RX7_37 dX7_skip_38 (by decide) hs56 rfl ?_
      refine z_iload_n dX7_skip_41 rfl (j := 1) rfl ?_
      refine z_callV Γ kk_X6_kind kc_RX7_98 (As := [zv s0 0 s]) (z_X6_kind (d := d - 1) Γ (by omega) hok hp (M := M) (Q := fun v9 M9 => v9 = ((zat M (p + 2) 134 s)) ∧ M9 = M) (X := X) (show _ ∧ _ from ⟨rfl, rfl⟩)) (by omega) (by decide) (show (parseMethodDescriptor yX6_kind.desc).map (fun q => q.parameters.length) = some 1 by decide +kernel) hok (Nat.zero_le _) dX7_skip_42 hp.1 hp.2.1 rfl rfl (fun _ h9 => nomatch h9) ?_
      rintro v9 M9 ⟨e9, e8⟩
      rw [e9, e8]
      clear e9 e8 v9 M9
      show rt_Go _ _ _ _ _ _ _ _ _ _ _ _ 45 [(0, zv s0 2 56), (1, zv s0 0 s), (2, zv s0 0 e)] [zv s0 0 (((zat M (p + 2) 134 s)))] (zw s0 ca C S M)
      by_cases c45_2 : w32 (((zat M (p + 2) 134 s))) = 2
      · replace h := h.1 c45_2
        refine z_tin c45_2 dX7_skip_45 (by decide) (off := 55) (tgt := 100) (by decide) (by decide) ?_
        refine z_aload_n dX7_skip_100 rfl (j := 0) rfl ?_
        refine z_callV Γ kk_X7_varint kc_RX7_101 (As := []) h (by omega) (by decide) (show (parseMethodDescriptor yX7_varint.desc).map (fun q => q.parameters.length) = some 0 by decide +kernel) hok (Nat.zero_le _) dX7_skip_101 (by decide) hs56 rfl rfl (fun _ h9 => nomatch h9) ?_
        clear h
        intro r101 M101 h
        show rt_Go _ _ _ _ _ _ _ _ _ _ _ _ 104 [(0, zv s0 2 56), (1, zv s0 0 s), (2, zv s0 0 e)] [zv s0 1 r101] (zw s0 ca C S M101)
        refine z_pop2L dX7_skip_104 ?_
        exact z_vret dX7_skip_105 rfl h
      replace h := h.2 c45_2
      by_cases c45_3 : w32 (((zat M (p + 2) 134 s))) = 3
      · replace h := h.1 c45_3
        refine z_tin c45_3 dX7_skip_45 (by decide) (off := 55) (tgt := 100) (by decide) (by decide) ?_
        refine z_aload_n dX7_skip_100 rfl (j := 0) rfl ?_
        refine z_callV Γ kk_X7_varint kc_RX7_101 (As := []) h (by omega) (by decide) (show (parseMethodDescriptor yX7_varint.desc).map (fun q => q.parameters.length) = some 0 by decide +kernel) hok (Nat.zero_le _) dX7_skip_101 (by decide) hs56 rfl rfl (fun _ h9 => nomatch h9) ?_
        clear h
        intro r101 M101 h
        show rt_Go _ _ _ _ _ _ _ _ _ _ _ _ 104 [(0, zv s0 2 56), (1, zv s0 0 s), (2, zv s0 0 e)] [zv s0 1 r101] (zw s0 ca C S M101)
        refine z_pop2L dX7_skip_104 ?_
        exact z_vret dX7_skip_105 rfl h
      replace h := h.2 c45_3
      by_cases c45_4 : w32 (((zat M (p + 2) 134 s))) = 4
      · replace h := h.1 c45_4
        refine z_tin c45_4 dX7_skip_45 (by decide) (off := 61) (tgt := 106) (by decide) (by decide) ?_
        refine z_aload_n dX7_skip_106 rfl (j := 0) rfl ?_
        refine z_callV Γ kk_X7_varint kc_RX7_101 (As := []) h (by omega) (by decide) (show (parseMethodDescriptor yX7_varint.desc).map (fun q => q.parameters.length) = some 0 by decide +kernel) hok (Nat.zero_le _) dX7_skip_107 (by decide) hs56 rfl rfl (fun _ h9 => nomatch h9) ?_
        clear h
        intro r107 M107 h
        show rt_Go _ _ _ _ _ _ _ _ _ _ _ _ 110 [(0, zv s0 2 56), (1, zv s0 0 s), (2, zv s0 0 e)] [zv s0 1 r107] (zw s0 ca C S M107)
        refine z_l2i dX7_skip_110 ?_
        refine z_istore_n (i := 3) (lv' := [(3, zv s0 0 r107), (0, zv s0 2 56), (1, zv s0 0 s), (2, zv s0 0 e)]) dX7_skip_111 rfl (by decide) (by simp [zv_cat0, zv_cat1, zv_cat2, zv_cats]) ?_
        refine z_aload_n dX7_skip_112 rfl (j := 1) rfl ?_
        refine z_dup2 dX7_skip_113 ?_
        refine z_get Γ kf_RX7_74 dX7_skip_114 (by decide) hs56 rfl (by decide) (v9 := M107 56 10) rfl ?_
        refine z_iload_n dX7_skip_117 rfl (j := 0) rfl ?_
        refine z_iadd dX7_skip_118 ?_
        refine z_put0 Γ kp_RX7_74 dX7_skip_119 (by decide) hs56 rfl (k9 := 10) rfl ?_
        exact z_vret dX7_skip_122 rfl h
      replace h := h.2 c45_4
      by_cases c45_5 : w32 (((zat M (p + 2) 134 s))) = 5
      · replace h := h.1 c45_5
        refine z_tin c45_5 dX7_skip_45 (by decide) (off := 61) (tgt := 106) (by decide) (by decide) ?_
        refine z_aload_n dX7_skip_106 rfl (j := 0) rfl ?_
        refine z_callV Γ kk_X7_varint kc_RX7_101 (As := []) h (by omega) (by decide) (show (parseMethodDescriptor yX7_varint.desc).map (fun q => q.parameters.length) = some 0 by decide +kernel) hok (Nat.zero_le _) dX7_skip_107 (by decide) hs56 rfl rfl (fun _ h9 => nomatch h9) ?_
        clear h
        intro r107 M107 h
        show rt_Go _ _ _ _ _ _ _ _ _ _ _ _ 110 [(0, zv s0 2 56), (1, zv s0 0 s), (2, zv s0 0 e)] [zv s0 1 r107] (zw s0 ca C S M107)
        refine z_l2i dX7_skip_110 ?_
        refine z_istore_n (i := 3) (lv' := [(3, zv s0 0 r107), (0, zv s0 2 56), (1, zv s0 0 s), (2, zv s0 0 e)]) dX7_skip_111 rfl (by decide) (by simp [zv_cat0, zv_cat1, zv_cat2, zv_cats]) ?_
        refine z_aload_n dX7_skip_112 rfl (j := 1) rfl ?_
        refine z_dup2 dX7_skip_113 ?_
        refine z_get Γ kf_RX7_74 dX7_skip_114 (by decide) hs56 rfl (by decide) (v9 := M107 56 10) rfl ?_
        refine z_iload_n dX7_skip_117 rfl (j := 0) rfl ?_
        refine z_iadd dX7_skip_118 ?_
        refine z_put0 Γ kp_RX7_74 dX7_skip_119 (by decide) hs56 rfl (k9 := 10) rfl ?_
        exact z_vret dX7_skip_122 rfl h
      replace h := h.2 c45_5
      by_cases c45_6 : w32 (((zat M (p + 2) 134 s))) = 6
      · replace h := h.1 c45_6
        refine z_tin c45_6 dX7_skip_45 (by decide) (off := 99) (tgt := 144) (by decide) (by decide) ?_
        refine z_aload_n dX7_skip_144 rfl (j := 0) rfl ?_
        refine z_iload_n dX7_skip_145 rfl (j := 1) rfl ?_
        refine z_iload_n dX7_skip_146 rfl (j := 2) rfl ?_
        refine z_callV Γ kk_X7_skipItems kc_RX7_201 (As := [zv s0 0 s, zv s0 0 e]) h (by omega) (by decide) (show (parseMethodDescriptor yX7_skipItems.desc).map (fun q => q.parameters.length) = some 2 by decide +kernel) hok (Nat.zero_le _) dX7_skip_147 (by decide) hs56 rfl rfl (fun _ h9 => nomatch h9) ?_
        clear h
        intro r147 M147 h
        show rt_Go _ _ _ _ _ _ _ _ _ _ _ _ 150 [(0, zv s0 2 56), (1, zv s0 0 s), (2, zv s0 0 e)] [] (zw s0 ca C S M147)
        exact z_vret dX7_skip_150 rfl h
      replace h := h.2 c45_6
      by_cases c45_7 : w32 (((zat M (p + 2) 134 s))) = 7
      · replace h := h.1 c45_7
        refine z_tin c45_7 dX7_skip_45 (by decide) (off := 99) (tgt := 144) (by decide) (by decide) ?_
        refine z_aload_n dX7_skip_144 rfl (j := 0) rfl ?_
        refine z_iload_n dX7_skip_145 rfl (j := 1) rfl ?_
        refine z_iload_n dX7_skip_146 rfl (j := 2) rfl ?_
        refine z_callV Γ kk_X7_skipItems kc_RX7_201 (As := [zv s0 0 s, zv s0 0 e]) h (by omega) (by decide) (show (parseMethodDescriptor yX7_skipItems.desc).map (fun q => q.parameters.length) = some 2 by decide +kernel) hok (Nat.zero_le _) dX7_skip_147 (by decide) hs56 rfl rfl (fun _ h9 => nomatch h9) ?_
        clear h
        intro r147 M147 h
        show rt_Go _ _ _ _ _ _ _ _ _ _ _ _ 150 [(0, zv s0 2 56), (1, zv s0 0 s), (2, zv s0 0 e)] [] (zw s0 ca C S M147)
        exact z_vret dX7_skip_150 rfl h
      replace h := h.2 c45_7
      by_cases c45_8 : w32 (((zat M (p + 2) 134 s))) = 8
      · replace h := h.1 c45_8
        refine z_tin c45_8 dX7_skip_45 (by decide) (off := 78) (tgt := 123) (by decide) (by decide) ?_
        refine z_aload_n dX7_skip_123 rfl (j := 0) rfl ?_
        refine z_aload_n dX7_skip_124 rfl (j := 0) rfl ?_
        refine z_getc Γ kf_RX7_37 dX7_skip_125 (by decide) hs56 rfl ?_
        refine z_iload_n dX7_skip_128 rfl (j := 1) rfl ?_
        refine z_aload_n dX7_skip_129 rfl (j := 0) rfl ?_
        refine z_callV Γ kk_X7_varint kc_RX7_101 (As := []) h (by omega) (by decide) (show (parseMethodDescriptor yX7_varint.desc).map (fun q => q.parameters.length) = some 0 by decide +kernel) hok (by simp only [List.map, zv_cat0, zv_cat1, zv_cat2, List.sum_cons, List.sum_nil]; decide) dX7_skip_130 (by decide) hs56 rfl rfl (fun _ h9 => nomatch h9) ?_
        clear h
        intro r130 M130 h
        show rt_Go _ _ _ _ _ _ _ _ _ _ _ _ 133 [(0, zv s0 2 56), (1, zv s0 0 s), (2, zv s0 0 e)] [zv s0 1 r130, zv s0 0 s, zv s0 2 p, zv s0 2 56] (zw s0 ca C S M130)
        refine z_l2i dX7_skip_133 ?_
        refine z_callV Γ kk_X6_branch kc_RX7_105 (As := [zv s0 0 s, zv s0 0 r130]) (k_X6_branch (d := d - 1) Γ (by omega) hok hp (M := M130) (Q := fun v9 M9 => v9 = (zf_X6_branch M130 p s r130) ∧ M9 = M130) (X := X) (show _ ∧ _ from ⟨rfl, rfl⟩)) (by omega) (by decide) (show (parseMethodDescriptor yX6_branch.desc).map (fun q => q.parameters.length) = some 2 by decide +kernel) hok (by simp only [List.map, zv_cat0, zv_cat1, zv_cat2, List.sum_cons, List.sum_nil]; decide) dX7_skip_134 hp.1 hp.2.1 rfl rfl (fun _ h9 => nomatch h9) ?_
        rintro v9 M9 ⟨e9, e8⟩
        rw [e9, e8]
        clear e9 e8 v9 M9
        show rt_Go _ _ _ _ _ _ _ _ _ _ _ _ 137 [(0, zv s0 2 56), (1, zv s0 0 s), (2, zv s0 0 e)] [zv s0 0 ((zf_X6_branch M130 p s r130)), zv s0 2 56] (zw s0 ca C S M130)
        refine z_iload_n dX7_skip_137 rfl (j := 2) rfl ?_
        refine z_iconst dX7_skip_138 ?_
        refine z_iadd dX7_skip_139 ?_
        refine z_callV Γ kk_X7_skip kc_RX7_132 (As := [zv s0 0 ((zf_X6_branch M130 p s r130)), zv s0 0 (e + 1)]) h (by omega) (by decide) (show (parseMethodDescriptor yX7_skip.desc).map (fun q => q.parameters.length) = some 2 by decide +kernel) hok (Nat.zero_le _) dX7_skip_140 (by decide) hs56 rfl rfl (fun _ h9 => nomatch h9) ?_
        clear h
        intro r140 M140 h
        show rt_Go _ _ _ _ _ _ _ _ _ _ _ _ 143 [(0, zv s0 2 56), (1, zv s0 0 s), (2, zv s0 0 e)] [] (zw s0 ca C S M140)
        exact z_vret dX7_skip_143 rfl h
      replace h := h.2 c45_8
      by_cases c45_10 : w32 (((zat M (p + 2) 134 s))) = 10
      · replace h := h.1 c45_10
        refine z_tin c45_10 dX7_skip_45 (by decide) (off := 55) (tgt := 100) (by decide) (by decide) ?_
        refine z_aload_n dX7_skip_100 rfl (j := 0) rfl ?_
        refine z_callV Γ kk_X7_varint kc_RX7_101 (As := []) h (by omega) (by decide) (show (parseMethodDescriptor yX7_varint.desc).map (fun q => q.parameters.length) = some 0 by decide +kernel) hok (Nat.zero_le _) dX7_skip_101 (by decide) hs56 rfl rfl (fun _ h9 => nomatch h9) ?_
        clear h
        intro r101 M101 h
        show rt_Go _ _ _ _ _ _ _ _ _ _ _ _ 104 [(0, zv s0 2 56), (1, zv s0 0 s), (2, zv s0 0 e)] [zv s0 1 r101] (zw s0 ca C S M101)
        refine z_pop2L dX7_skip_104 ?_
        exact z_vret dX7_skip_105 rfl h
      replace h := h.2 c45_10
      by_cases c45_11 : w32 (((zat M (p + 2) 134 s))) = 11
      · replace h := h.1 c45_11
        refine z_tin c45_11 dX7_skip_45 (by decide) (off := 106) (tgt := 151) (by decide) (by decide) ?_
        refine z_iconst dX7_skip_151 ?_
        refine z_istore (i := 4) (lv' := [(4, zv s0 0 0), (0, zv s0 2 56), (1, zv s0 0 s), (2, zv s0 0 e)]) dX7_skip_152 (by decide) (by simp [zv_cat0, zv_cat1, zv_cat2, zv_cats]) ?_
        exact rt_lfew [1, 2, 3, 0] rfl h
      replace h := h.2 c45_11
      by_cases c45_9 : w32 (((zat M (p + 2) 134 s))) = 9
      · refine z_tin c45_9 dX7_skip_45 (by decide) (off := 153) (tgt := 198) (by decide) (by decide) ?_
        exact z_vret dX7_skip_198 rfl h
      refine z_tout dX7_skip_45 (show w32 (((zat M (p + 2) 134 s))) < 2 ∨ 11 < w32 (((zat M (p + 2) 134 s))) from by omega) (tgt := 198) (by decide) ?_
      exact z_vret dX7_skip_198 rfl h
    · replace h := h.2 c33
      exact z_vret dX7_skip_36 rfl h
  · replace h := h.2 c9
    refine z_aload_n dX7_skip_12 rfl (j := 0) rfl ?_
    refine z_dup2 dX7_skip_13 ?_
    refine z_get Γ kf_RX7_74 dX7_skip_14 (by decide) hs56 rfl (by decide) (v9 := M 56 10) rfl ?_
    refine z_aload_n dX7_skip_17 rfl (j := 0) rfl ?_
    refine z_getc Γ kf_RX7_37 dX7_skip_18 (by decide) hs56 rfl ?_
    refine z_iload_n dX7_skip_21 rfl (j := 1) rfl ?_
    refine z_callV Γ kk_X6_width kc_RX7_158 (As := [zv s0 0 s]) (z_X6_width (d := d - 1) Γ (by omega) hok hp (M := M) (Q := fun v9 M9 => v9 = ((zat M (p + 8) 134 s)) ∧ M9 = M) (X := X) (show _ ∧ _ from ⟨rfl, rfl⟩)) (by omega) (by decide) (show (parseMethodDescriptor yX6_width.desc).map (fun q => q.parameters.length) = some 1 by decide +kernel) hok (by simp only [List.map, zv_cat0, zv_cat1, zv_cat2, List.sum_cons, List.sum_nil]; decide) dX7_skip_22 hp.1 hp.2.1 rfl rfl (fun _ h9 => nomatch h9) ?_
    rintro v9 M9 ⟨e9, e8⟩
    rw [e9, e8]
    clear e9 e8 v9 M9
    show rt_Go _ _ _ _ _ _ _ _ _ _ _ _ 25 [(0, zv s0 2 56), (1, zv s0 0 s), (2, zv s0 0 e)] [zv s0 0 (((zat M (p + 8) 134 s))), zv s0 0 (M 56 10), zv s0 2 56] (zw s0 ca C S M)
    refine z_iadd dX7_skip_25 ?_
    refine z_put0 Γ kp_RX7_74 dX7_skip_26 (by decide) hs56 rfl (k9 := 10) rfl ?_
    exact z_vret dX7_skip_29 rfl h

abbrev zg_X7_skipItems_15 (l : Launch) (s0 : State) (G : va_G) (ca : Nat → ClassId) (d : Nat) (C : Nat × Nat) (S : zS) (w0 : rt_Wd) (p : Int) (q : Int) (mk : Int) (mka : Int) (v1 : Int) (v2 : Int) (v3 : Int) (v5 : Int)  (M : zM) (Q : Int → zM → Prop) (X : zM → Prop) : Prop := rt_Go l s0 G RX7 "skipItems" cX7_skipItems 6 (Option.none : Option FieldType) [] d w0 (zQ s0 ca 9 C S Q X) 15 [(0, zv s0 2 56), (1, zv s0 0 v1), (2, zv s0 0 v2), (3, zv s0 1 v3), (5, zv s0 0 v5)] [] (zw s0 ca C S M)
abbrev zg_X7_skipItems_50 (l : Launch) (s0 : State) (G : va_G) (ca : Nat → ClassId) (d : Nat) (C : Nat × Nat) (S : zS) (w0 : rt_Wd) (p : Int) (q : Int) (mk : Int) (mka : Int) (v1 : Int) (v2 : Int) (v3 : Int) (v5 : Int)  (M : zM) (Q : Int → zM → Prop) (X : zM → Prop) : Prop := rt_Go l s0 G RX7 "skipItems" cX7_skipItems 6 (Option.none : Option FieldType) [] d w0 (zQ s0 ca 9 C S Q X) 50 [(0, zv s0 2 56), (1, zv s0 0 v1), (2, zv s0 0 v2), (3, zv s0 1 v3), (5, zv s0 0 v5)] [] (zw s0 ca C S M)
def zt_X7_skipItems_50 (l : Launch) (s0 : State) (G : va_G) (ca : Nat → ClassId) (d : Nat) (C : Nat × Nat) (S : zS) (w0 : rt_Wd) (p : Int) (q : Int) (mk : Int) (mka : Int) (v1 : Int) (v2 : Int) (v3 : Int) (v5 : Int)  (M : zM) (Q : Int → zM → Prop) (X : zM → Prop) : Prop :=
  zm_X7_skip l s0 G ca (d - 1) C S (((zat M (p + 6) 134 v1))) (v2 + 1) M (fun r62 M62 => zg_X7_skipItems_15 l s0 G ca d C S w0 p q mk mka v1 v2 v3 (v5 + 1) M62 Q X) X
set_option maxRecDepth 100000 in
theorem zs_X7_skipItems_50 {l : Launch} {s0 : State} {a0 : Array Value} {G : va_G} {ca : Nat → ClassId} (Γ : rt_Γ l s0 a0 G ca) {d : Nat} {C : Nat × Nat} {S : zS} (hd : 2 ≤ d) (hok : zok C) {p : Int} {q : Int} {mk : Int} {mka : Int} (hs : zSok S) (hp : zSc S p) (hq : zSc S q) (hmk : zCe S mk mka 4096) (hs56 : S 56 = some (0, 7, [(3, 57), (3, 59), (3, 61), (3, 63), (3, 65), (3, 67), (3, mk), (3, p), (3, q), (0, 0), (0, 0), (0, 0)])) {w0 : rt_Wd} {v1 : Int} {v2 : Int} {v3 : Int} {v5 : Int}   {M : zM} {Q : Int → zM → Prop} {X : zM → Prop} (h : zt_X7_skipItems_50 l s0 G ca d C S w0 p q mk mka v1 v2 v3 v5 M Q X) : zg_X7_skipItems_50 l s0 G ca d C S w0 p q mk mka v1 v2 v3 v5 M Q X := by
  unfold zt_X7_skipItems_50 at h
  refine z_aload_n dX7_skipItems_50 rfl (j := 0) rfl ?_
  refine z_aload_n dX7_skipItems_51 rfl (j := 0) rfl ?_
  refine z_getc Γ kf_RX7_37 dX7_skipItems_52 (by decide) hs56 rfl ?_
  refine z_iload_n dX7_skipItems_55 rfl (j := 1) rfl ?_
  refine z_callV Γ kk_X6_item kc_RX7_155 (As := [zv s0 0 v1]) (z_X6_item (d := d - 1) Γ (by omega) hok hp (M := M) (Q := fun v9 M9 => v9 = ((zat M (p + 6) 134 v1)) ∧ M9 = M) (X := X) (show _ ∧ _ from ⟨rfl, rfl⟩)) (by omega) (by decide) (show (parseMethodDescriptor yX6_item.desc).map (fun q => q.parameters.length) = some 1 by decide +kernel) hok (by simp only [List.map, zv_cat0, zv_cat1, zv_cat2, List.sum_cons, List.sum_nil]; decide) dX7_skipItems_56 hp.1 hp.2.1 rfl rfl (fun _ h9 => nomatch h9) ?_
  rintro v9 M9 ⟨e9, e8⟩
  rw [e9, e8]
  clear e9 e8 v9 M9
  show rt_Go _ _ _ _ _ _ _ _ _ _ _ _ 59 [(0, zv s0 2 56), (1, zv s0 0 v1), (2, zv s0 0 v2), (3, zv s0 1 v3), (5, zv s0 0 v5)] [zv s0 0 (((zat M (p + 6) 134 v1))), zv s0 2 56] (zw s0 ca C S M)
  refine z_iload_n dX7_skipItems_59 rfl (j := 2) rfl ?_
  refine z_iconst dX7_skipItems_60 ?_
  refine z_iadd dX7_skipItems_61 ?_
  refine z_callV Γ kk_X7_skip kc_RX7_132 (As := [zv s0 0 (((zat M (p + 6) 134 v1))), zv s0 0 (v2 + 1)]) h (by omega) (by decide) (show (parseMethodDescriptor yX7_skip.desc).map (fun q => q.parameters.length) = some 2 by decide +kernel) hok (Nat.zero_le _) dX7_skipItems_62 (by decide) hs56 rfl rfl (fun _ h9 => nomatch h9) ?_
  clear h
  intro r62 M62 h
  show rt_Go _ _ _ _ _ _ _ _ _ _ _ _ 65 [(0, zv s0 2 56), (1, zv s0 0 v1), (2, zv s0 0 v2), (3, zv s0 1 v3), (5, zv s0 0 v5)] [] (zw s0 ca C S M62)
  refine z_iinc (lv' := [(5, zv s0 0 (v5 + 1)), (0, zv s0 2 56), (1, zv s0 0 v1), (2, zv s0 0 v2), (3, zv s0 1 v3)]) dX7_skipItems_65 (j := 4) rfl (by decide) (by simp [zv_cat0, zv_cat1, zv_cat2, zv_cats]) ?_
  refine rt_goto (tgt := 15) dX7_skipItems_68 (by decide) ?_
  exact rt_lfew [1, 2, 3, 4, 0] rfl h

def zt_X7_skipItems_15 (l : Launch) (s0 : State) (G : va_G) (ca : Nat → ClassId) (d : Nat) (C : Nat × Nat) (S : zS) (w0 : rt_Wd) (p : Int) (q : Int) (mk : Int) (mka : Int) (v1 : Int) (v2 : Int) (v3 : Int) (v5 : Int)  (M : zM) (Q : Int → zM → Prop) (X : zM → Prop) : Prop :=
  zIf (w64 v3 ≤ w64 (w32 v5)) (zm_X7_varint l s0 G ca (d - 1) C S  M (fun r72 M72 => Q 0 M72) X) (zIf (2000 ≤ w32 v5) (zm_X7_varint l s0 G ca (d - 1) C S  M (fun r72 M72 => Q 0 M72) X) (zIf (w32 (((zat M (p + 2) 134 v1))) = 7) (zm_X7_skip l s0 G ca (d - 1) C S 5 v2 M (fun r47 M47 => zt_X7_skipItems_50 l s0 G ca d C S w0 p q mk mka v1 v2 v3 v5 M47 Q X) X) (zt_X7_skipItems_50 l s0 G ca d C S w0 p q mk mka v1 v2 v3 v5 M Q X)))
set_option maxRecDepth 100000 in
theorem zs_X7_skipItems_15 {l : Launch} {s0 : State} {a0 : Array Value} {G : va_G} {ca : Nat → ClassId} (Γ : rt_Γ l s0 a0 G ca) {d : Nat} {C : Nat × Nat} {S : zS} (hd : 2 ≤ d) (hok : zok C) {p : Int} {q : Int} {mk : Int} {mka : Int} (hs : zSok S) (hp : zSc S p) (hq : zSc S q) (hmk : zCe S mk mka 4096) (hs56 : S 56 = some (0, 7, [(3, 57), (3, 59), (3, 61), (3, 63), (3, 65), (3, 67), (3, mk), (3, p), (3, q), (0, 0), (0, 0), (0, 0)])) {w0 : rt_Wd} {v1 : Int} {v2 : Int} {v3 : Int} {v5 : Int}   {M : zM} {Q : Int → zM → Prop} {X : zM → Prop} (h : zt_X7_skipItems_15 l s0 G ca d C S w0 p q mk mka v1 v2 v3 v5 M Q X) : zg_X7_skipItems_15 l s0 G ca d C S w0 p q mk mka v1 v2 v3 v5 M Q X := by
  unfold zt_X7_skipItems_15 at h
  refine z_iload dX7_skipItems_15 (j := 4) rfl ?_
  refine z_i2l dX7_skipItems_17 ?_
  refine z_lload_n dX7_skipItems_18 rfl (j := 3) rfl ?_
  refine z_lif_ge (tgt := 71) (x' := w64 (w32 v5)) (y' := w64 v3) rfl rfl dX7_skipItems_19 dX7_skipItems_20 (by decide) (fun c19 => ?_) (fun c19 => ?_)
  · replace h := h.1 c19
    refine z_aload_n dX7_skipItems_71 rfl (j := 0) rfl ?_
    refine z_callV Γ kk_X7_varint kc_RX7_101 (As := []) h (by omega) (by decide) (show (parseMethodDescriptor yX7_varint.desc).map (fun q => q.parameters.length) = some 0 by decide +kernel) hok (Nat.zero_le _) dX7_skipItems_72 (by decide) hs56 rfl rfl (fun _ h9 => nomatch h9) ?_
    clear h
    intro r72 M72 h
    show rt_Go _ _ _ _ _ _ _ _ _ _ _ _ 75 [(0, zv s0 2 56), (1, zv s0 0 v1), (2, zv s0 0 v2), (3, zv s0 1 v3), (5, zv s0 0 v5)] [zv s0 1 r72] (zw s0 ca C S M72)
    refine z_pop2L dX7_skipItems_75 ?_
    exact z_vret dX7_skipItems_76 rfl h
  · replace h := h.2 c19
    refine z_iload dX7_skipItems_23 (j := 4) rfl ?_
    refine z_sipush dX7_skipItems_25 (by decide) ?_
    refine z_icmp_ge (tgt := 71) (x' := w32 v5) (y' := 2000) rfl (by decide) dX7_skipItems_28 (by decide) (fun c28 => ?_) (fun c28 => ?_)
    · replace h := h.1 c28
      refine z_aload_n dX7_skipItems_71 rfl (j := 0) rfl ?_
      refine z_callV Γ kk_X7_varint kc_RX7_101 (As := []) h (by omega) (by decide) (show (parseMethodDescriptor yX7_varint.desc).map (fun q => q.parameters.length) = some 0 by decide +kernel) hok (Nat.zero_le _) dX7_skipItems_72 (by decide) hs56 rfl rfl (fun _ h9 => nomatch h9) ?_
      clear h
      intro r72 M72 h
      show rt_Go _ _ _ _ _ _ _ _ _ _ _ _ 75 [(0, zv s0 2 56), (1, zv s0 0 v1), (2, zv s0 0 v2), (3, zv s0 1 v3), (5, zv s0 0 v5)] [zv s0 1 r72] (zw s0 ca C S M72)
      refine z_pop2L dX7_skipItems_75 ?_
      exact z_vret dX7_skipItems_76 rfl h
    · replace h := h.2 c28
      refine z_aload_n dX7_skipItems_31 rfl (j := 0) rfl ?_
      refine z_getc Γ kf_RX7_37 dX7_skipItems_32 (by decide) hs56 rfl ?_
      refine z_iload_n dX7_skipItems_35 rfl (j := 1) rfl ?_
      refine z_callV Γ kk_X6_kind kc_RX7_98 (As := [zv s0 0 v1]) (z_X6_kind (d := d - 1) Γ (by omega) hok hp (M := M) (Q := fun v9 M9 => v9 = ((zat M (p + 2) 134 v1)) ∧ M9 = M) (X := X) (show _ ∧ _ from ⟨rfl, rfl⟩)) (by omega) (by decide) (show (parseMethodDescriptor yX6_kind.desc).map (fun q => q.parameters.length) = some 1 by decide +kernel) hok (Nat.zero_le _) dX7_skipItems_36 hp.1 hp.2.1 rfl rfl (fun _ h9 => nomatch h9) ?_
      rintro v9 M9 ⟨e9, e8⟩
      rw [e9, e8]
      clear e9 e8 v9 M9
      show rt_Go _ _ _ _ _ _ _ _ _ _ _ _ 39 [(0, zv s0 2 56), (1, zv s0 0 v1), (2, zv s0 0 v2), (3, zv s0 1 v3), (5, zv s0 0 v5)] [zv s0 0 (((zat M (p + 2) 134 v1)))] (zw s0 ca C S M)
      refine z_bipush dX7_skipItems_39 (by decide) ?_
      refine z_icmp_ne (tgt := 50) (x' := w32 (((zat M (p + 2) 134 v1)))) (y' := 7) rfl (by decide) dX7_skipItems_41 (by decide) (fun c41 => ?_) (fun c41 => ?_)
      · replace h := h.2 c41
        exact rt_lfew [0, 1, 2, 3, 4] rfl (zs_X7_skipItems_50 Γ hd hok hs hp hq hmk hs56  h)
      · replace h := h.1 c41
        refine z_aload_n dX7_skipItems_44 rfl (j := 0) rfl ?_
        refine z_iconst dX7_skipItems_45 ?_
        refine z_iload_n dX7_skipItems_46 rfl (j := 2) rfl ?_
        refine z_callV Γ kk_X7_skip kc_RX7_132 (As := [zv s0 0 5, zv s0 0 v2]) h (by omega) (by decide) (show (parseMethodDescriptor yX7_skip.desc).map (fun q => q.parameters.length) = some 2 by decide +kernel) hok (Nat.zero_le _) dX7_skipItems_47 (by decide) hs56 rfl rfl (fun _ h9 => nomatch h9) ?_
        clear h
        intro r47 M47 h
        show rt_Go _ _ _ _ _ _ _ _ _ _ _ _ 50 [(0, zv s0 2 56), (1, zv s0 0 v1), (2, zv s0 0 v2), (3, zv s0 1 v3), (5, zv s0 0 v5)] [] (zw s0 ca C S M47)
        exact rt_lfew [0, 1, 2, 3, 4] rfl (zs_X7_skipItems_50 Γ hd hok hs hp hq hmk hs56  h)

def zt_X7_skipItems (l : Launch) (s0 : State) (G : va_G) (ca : Nat → ClassId) (d : Nat) (C : Nat × Nat) (S : zS) (w0 : rt_Wd) (p : Int) (q : Int) (mk : Int) (mka : Int) (s : Int) (e : Int) (M : zM) (Q : Int → zM → Prop) (X : zM → Prop) : Prop :=
  zm_X7_varint l s0 G ca (d - 1) C S  M (fun r1 M1 => zIf (w64 r1 = 0) (Q 0 M1) (zg_X7_skipItems_15 l s0 G ca d C S w0 p q mk mka s e r1 0 M1 Q X)) X
set_option maxRecDepth 100000 in
theorem z_X7_skipItems {l : Launch} {s0 : State} {a0 : Array Value} {G : va_G} {ca : Nat → ClassId} (Γ : rt_Γ l s0 a0 G ca) {d : Nat} {C : Nat × Nat} {S : zS} (hd : 2 ≤ d) (hok : zok C) {p : Int} {q : Int} {mk : Int} {mka : Int} (hs : zSok S) (hp : zSc S p) (hq : zSc S q) (hmk : zCe S mk mka 4096) (hs56 : S 56 = some (0, 7, [(3, 57), (3, 59), (3, 61), (3, 63), (3, 65), (3, 67), (3, mk), (3, p), (3, q), (0, 0), (0, 0), (0, 0)])) {s : Int} {e : Int} {M : zM} {Q : Int → zM → Prop} {X : zM → Prop} (h : zt_X7_skipItems l s0 G ca d C S (zw s0 ca C S M) p q mk mka s e M Q X) : zm_X7_skipItems l s0 G ca d C S  s e M Q X := by
  refine z_met (lv := [(0, zv s0 2 56), (1, zv s0 0 s), (2, zv s0 0 e)]) Γ kk_X7_skipItems rfl (show (lg_sl [zv s0 2 56, zv s0 0 s, zv s0 0 e]).length ≤ 6 from by simp only [zn_0, zn_2, show (lg_sl []).length = 0 from rfl]; omega) (show lv_args 0 [zv s0 2 56, zv s0 0 s, zv s0 0 e] = [(0, zv s0 2 56), (1, zv s0 0 s), (2, zv s0 0 e)] from by rw [zl_2, zl_0, zl_0]; rfl) ?_
  unfold zt_X7_skipItems at h
  refine z_aload_n dX7_skipItems_0 rfl (j := 0) rfl ?_
  refine z_callV Γ kk_X7_varint kc_RX7_101 (As := []) h (by omega) (by decide) (show (parseMethodDescriptor yX7_varint.desc).map (fun q => q.parameters.length) = some 0 by decide +kernel) hok (Nat.zero_le _) dX7_skipItems_1 (by decide) hs56 rfl rfl (fun _ h9 => nomatch h9) ?_
  clear h
  intro r1 M1 h
  show rt_Go _ _ _ _ _ _ _ _ _ _ _ _ 4 [(0, zv s0 2 56), (1, zv s0 0 s), (2, zv s0 0 e)] [zv s0 1 r1] (zw s0 ca C S M1)
  refine z_lstore_n (i := 3) (lv' := [(3, zv s0 1 r1), (0, zv s0 2 56), (1, zv s0 0 s), (2, zv s0 0 e)]) dX7_skipItems_4 rfl (by decide) (by simp [zv_cat0, zv_cat1, zv_cat2, zv_cats]) ?_
  refine z_lload_n dX7_skipItems_5 rfl (j := 0) rfl ?_
  refine z_lconst (v := 0) dX7_skipItems_6 (by decide) ?_
  refine z_lif_ne (tgt := 12) (x' := w64 r1) (y' := 0) rfl (by decide) dX7_skipItems_7 dX7_skipItems_8 (by decide) (fun c7 => ?_) (fun c7 => ?_)
  · replace h := h.2 c7
    refine z_iconst dX7_skipItems_12 ?_
    refine z_istore (i := 5) (lv' := [(5, zv s0 0 0), (3, zv s0 1 r1), (0, zv s0 2 56), (1, zv s0 0 s), (2, zv s0 0 e)]) dX7_skipItems_13 (by decide) (by simp [zv_cat0, zv_cat1, zv_cat2, zv_cats]) ?_
    exact rt_lfew [2, 3, 4, 1, 0] rfl h
  · replace h := h.1 c7
    exact z_vret dX7_skipItems_11 rfl h

abbrev zg_X7_skipFields_10 (l : Launch) (s0 : State) (G : va_G) (ca : Nat → ClassId) (d : Nat) (C : Nat × Nat) (S : zS) (w0 : rt_Wd) (p : Int) (q : Int) (mk : Int) (mka : Int) (v1 : Int) (v2 : Int) (v3 : Int) (v4 : Int) (v5 : Int) (v6 : Int)  (M : zM) (Q : Int → zM → Prop) (X : zM → Prop) : Prop := rt_Go l s0 G RX7 "skipFields" cX7_skipFields 7 (Option.some FieldType.int) [] d w0 (zQ s0 ca 0 C S Q X) 10 [(0, zv s0 2 56), (1, zv s0 0 v1), (2, zv s0 0 v2), (3, zv s0 0 v3), (4, zv s0 0 v4), (5, zv s0 0 v5), (6, zv s0 0 v6)] [] (zw s0 ca C S M)
def zt_X7_skipFields_10 (l : Launch) (s0 : State) (G : va_G) (ca : Nat → ClassId) (d : Nat) (C : Nat × Nat) (S : zS) (w0 : rt_Wd) (p : Int) (q : Int) (mk : Int) (mka : Int) (v1 : Int) (v2 : Int) (v3 : Int) (v4 : Int) (v5 : Int) (v6 : Int)  (M : zM) (Q : Int → zM → Prop) (X : zM → Prop) : Prop :=
  zIf (w32 v3 ≤ w32 v6) (Q (zmax v2 v3) M) (zm_X7_skip l s0 G ca (d - 1) C S (((zat ((zu M 56 10 ((zat M 62 1089 (v5 + v6))))) (p + 14) 2048 ((((zat ((zu M 56 10 ((zat M 62 1089 (v5 + v6))))) (p + 10) 134 v1)) + v6))))) (v4 + 1) ((zu M 56 10 ((zat M 62 1089 (v5 + v6))))) (fun r54 M54 => zg_X7_skipFields_10 l s0 G ca d C S w0 p q mk mka v1 v2 v3 v4 v5 (v6 + 1) ((zput M54 62 1089 ((v5 + v6) + 1) (M54 56 10))) Q X) X)
set_option maxRecDepth 100000 in
theorem zs_X7_skipFields_10 {l : Launch} {s0 : State} {a0 : Array Value} {G : va_G} {ca : Nat → ClassId} (Γ : rt_Γ l s0 a0 G ca) {d : Nat} {C : Nat × Nat} {S : zS} (hd : 2 ≤ d) (hok : zok C) {p : Int} {q : Int} {mk : Int} {mka : Int} (hs : zSok S) (hp : zSc S p) (hq : zSc S q) (hmk : zCe S mk mka 4096) (hs56 : S 56 = some (0, 7, [(3, 57), (3, 59), (3, 61), (3, 63), (3, 65), (3, 67), (3, mk), (3, p), (3, q), (0, 0), (0, 0), (0, 0)])) {w0 : rt_Wd} {v1 : Int} {v2 : Int} {v3 : Int} {v4 : Int} {v5 : Int} {v6 : Int}   {M : zM} {Q : Int → zM → Prop} {X : zM → Prop} (h : zt_X7_skipFields_10 l s0 G ca d C S w0 p q mk mka v1 v2 v3 v4 v5 v6 M Q X) : zg_X7_skipFields_10 l s0 G ca d C S w0 p q mk mka v1 v2 v3 v4 v5 v6 M Q X := by
  unfold zt_X7_skipFields_10 at h
  refine z_iload dX7_skipFields_10 (j := 6) rfl ?_
  refine z_iload_n dX7_skipFields_12 rfl (j := 3) rfl ?_
  refine z_icmp_ge (tgt := 81) (x' := w32 v6) (y' := w32 v3) rfl rfl dX7_skipFields_13 (by decide) (fun c13 => ?_) (fun c13 => ?_)
  · replace h := h.1 c13
    refine z_iload_n dX7_skipFields_81 rfl (j := 2) rfl ?_
    refine z_iload_n dX7_skipFields_82 rfl (j := 3) rfl ?_
    refine z_max Γ (Nat.zero_le _) hok dX7_skipFields_83 ?_
    exact z_iret dX7_skipFields_86 rfl h
  · replace h := h.2 c13
    refine z_aload_n dX7_skipFields_16 rfl (j := 0) rfl ?_
    refine z_aload_n dX7_skipFields_17 rfl (j := 0) rfl ?_
    refine z_getc Γ kf_RX7_25 dX7_skipFields_18 (by decide) hs56 rfl ?_
    refine z_iload dX7_skipFields_21 (j := 5) rfl ?_
    refine z_iload dX7_skipFields_23 (j := 6) rfl ?_
    refine z_iadd dX7_skipFields_25 ?_
    refine z_callV Γ kk_X0_at kc_RX7_95 (As := [zv s0 0 (v5 + v6)]) (k_X0_at (d := d - 1) Γ hok (⟨by decide, by decide, by decide, hs 61 _ rfl, hs 62 _ rfl⟩ : zCe S 61 62 1089) (M := M) (Q := fun v9 M9 => v9 = (zat M 62 1089 (v5 + v6)) ∧ M9 = M) (X := X) (show _ ∧ _ from ⟨rfl, rfl⟩)) (by omega) (by decide) (show (parseMethodDescriptor yX0_at.desc).map (fun q => q.parameters.length) = some 1 by decide +kernel) hok (by simp only [List.map, zv_cat0, zv_cat1, zv_cat2, List.sum_cons, List.sum_nil]; decide) dX7_skipFields_26 (⟨by decide, by decide, by decide, hs 61 _ rfl, hs 62 _ rfl⟩ : zCe S 61 62 1089).1 (⟨by decide, by decide, by decide, hs 61 _ rfl, hs 62 _ rfl⟩ : zCe S 61 62 1089).2.2.2.1 rfl rfl (fun _ h9 => nomatch h9) ?_
    rintro v9 M9 ⟨e9, e8⟩
    rw [e9, e8]
    clear e9 e8 v9 M9
    show rt_Go _ _ _ _ _ _ _ _ _ _ _ _ 29 [(0, zv s0 2 56), (1, zv s0 0 v1), (2, zv s0 0 v2), (3, zv s0 0 v3), (4, zv s0 0 v4), (5, zv s0 0 v5), (6, zv s0 0 v6)] [zv s0 0 ((zat M 62 1089 (v5 + v6))), zv s0 2 56] (zw s0 ca C S M)
    refine z_put0 Γ kp_RX7_74 dX7_skipFields_29 (by decide) hs56 rfl (k9 := 10) rfl ?_
    refine z_aload_n dX7_skipFields_32 rfl (j := 0) rfl ?_
    refine z_aload_n dX7_skipFields_33 rfl (j := 0) rfl ?_
    refine z_getc Γ kf_RX7_37 dX7_skipFields_34 (by decide) hs56 rfl ?_
    refine z_aload_n dX7_skipFields_37 rfl (j := 0) rfl ?_
    refine z_getc Γ kf_RX7_37 dX7_skipFields_38 (by decide) hs56 rfl ?_
    refine z_iload_n dX7_skipFields_41 rfl (j := 1) rfl ?_
    refine z_iload dX7_skipFields_42 (j := 6) rfl ?_
    refine z_callV Γ kk_X6_part kc_RX7_142 (As := [zv s0 0 v1, zv s0 0 v6]) (z_X6_part (d := d - 1) Γ (by omega) hok hp (M := ((zu M 56 10 ((zat M 62 1089 (v5 + v6)))))) (Q := fun v9 M9 => v9 = (((zat ((zu M 56 10 ((zat M 62 1089 (v5 + v6))))) (p + 10) 134 v1)) + v6) ∧ M9 = ((zu M 56 10 ((zat M 62 1089 (v5 + v6)))))) (X := X) (show _ ∧ _ from ⟨rfl, rfl⟩)) (by omega) (by decide) (show (parseMethodDescriptor yX6_part.desc).map (fun q => q.parameters.length) = some 2 by decide +kernel) hok (by simp only [List.map, zv_cat0, zv_cat1, zv_cat2, List.sum_cons, List.sum_nil]; decide) dX7_skipFields_44 hp.1 hp.2.1 rfl rfl (fun _ h9 => nomatch h9) ?_
    rintro v9 M9 ⟨e9, e8⟩
    rw [e9, e8]
    clear e9 e8 v9 M9
    show rt_Go _ _ _ _ _ _ _ _ _ _ _ _ 47 [(0, zv s0 2 56), (1, zv s0 0 v1), (2, zv s0 0 v2), (3, zv s0 0 v3), (4, zv s0 0 v4), (5, zv s0 0 v5), (6, zv s0 0 v6)] [zv s0 0 ((((zat ((zu M 56 10 ((zat M 62 1089 (v5 + v6))))) (p + 10) 134 v1)) + v6)), zv s0 2 p, zv s0 2 56] (zw s0 ca C S ((zu M 56 10 ((zat M 62 1089 (v5 + v6))))))
    refine z_callV Γ kk_X6_partNode kc_RX7_180 (As := [zv s0 0 ((((zat ((zu M 56 10 ((zat M 62 1089 (v5 + v6))))) (p + 10) 134 v1)) + v6))]) (z_X6_partNode (d := d - 1) Γ (by omega) hok hp (M := ((zu M 56 10 ((zat M 62 1089 (v5 + v6)))))) (Q := fun v9 M9 => v9 = ((zat ((zu M 56 10 ((zat M 62 1089 (v5 + v6))))) (p + 14) 2048 ((((zat ((zu M 56 10 ((zat M 62 1089 (v5 + v6))))) (p + 10) 134 v1)) + v6)))) ∧ M9 = ((zu M 56 10 ((zat M 62 1089 (v5 + v6)))))) (X := X) (show _ ∧ _ from ⟨rfl, rfl⟩)) (by omega) (by decide) (show (parseMethodDescriptor yX6_partNode.desc).map (fun q => q.parameters.length) = some 1 by decide +kernel) hok (by simp only [List.map, zv_cat0, zv_cat1, zv_cat2, List.sum_cons, List.sum_nil]; decide) dX7_skipFields_47 hp.1 hp.2.1 rfl rfl (fun _ h9 => nomatch h9) ?_
    rintro v9 M9 ⟨e9, e8⟩
    rw [e9, e8]
    clear e9 e8 v9 M9
    show rt_Go _ _ _ _ _ _ _ _ _ _ _ _ 50 [(0, zv s0 2 56), (1, zv s0 0 v1), (2, zv s0 0 v2), (3, zv s0 0 v3), (4, zv s0 0 v4), (5, zv s0 0 v5), (6, zv s0 0 v6)] [zv s0 0 (((zat ((zu M 56 10 ((zat M 62 1089 (v5 + v6))))) (p + 14) 2048 ((((zat ((zu M 56 10 ((zat M 62 1089 (v5 + v6))))) (p + 10) 134 v1)) + v6))))), zv s0 2 56] (zw s0 ca C S ((zu M 56 10 ((zat M 62 1089 (v5 + v6))))))
    refine z_iload dX7_skipFields_50 (j := 4) rfl ?_
    refine z_iconst dX7_skipFields_52 ?_
    refine z_iadd dX7_skipFields_53 ?_
    refine z_callV Γ kk_X7_skip kc_RX7_132 (As := [zv s0 0 (((zat ((zu M 56 10 ((zat M 62 1089 (v5 + v6))))) (p + 14) 2048 ((((zat ((zu M 56 10 ((zat M 62 1089 (v5 + v6))))) (p + 10) 134 v1)) + v6))))), zv s0 0 (v4 + 1)]) h (by omega) (by decide) (show (parseMethodDescriptor yX7_skip.desc).map (fun q => q.parameters.length) = some 2 by decide +kernel) hok (Nat.zero_le _) dX7_skipFields_54 (by decide) hs56 rfl rfl (fun _ h9 => nomatch h9) ?_
    clear h
    intro r54 M54 h
    show rt_Go _ _ _ _ _ _ _ _ _ _ _ _ 57 [(0, zv s0 2 56), (1, zv s0 0 v1), (2, zv s0 0 v2), (3, zv s0 0 v3), (4, zv s0 0 v4), (5, zv s0 0 v5), (6, zv s0 0 v6)] [] (zw s0 ca C S M54)
    refine z_aload_n dX7_skipFields_57 rfl (j := 0) rfl ?_
    refine z_getc Γ kf_RX7_25 dX7_skipFields_58 (by decide) hs56 rfl ?_
    refine z_iload dX7_skipFields_61 (j := 5) rfl ?_
    refine z_iload dX7_skipFields_63 (j := 6) rfl ?_
    refine z_iadd dX7_skipFields_65 ?_
    refine z_iconst dX7_skipFields_66 ?_
    refine z_iadd dX7_skipFields_67 ?_
    refine z_aload_n dX7_skipFields_68 rfl (j := 0) rfl ?_
    refine z_get Γ kf_RX7_74 dX7_skipFields_69 (by decide) hs56 rfl (by decide) (v9 := M54 56 10) rfl ?_
    refine z_callV Γ kk_X0_put kc_RX7_48 (As := [zv s0 0 ((v5 + v6) + 1), zv s0 0 (M54 56 10)]) (k_X0_put (d := d - 1) Γ hok (⟨by decide, by decide, by decide, hs 61 _ rfl, hs 62 _ rfl⟩ : zCe S 61 62 1089) (M := M54) (Q := fun v9 M9 => v9 = 0 ∧ M9 = (zput M54 62 1089 ((v5 + v6) + 1) (M54 56 10))) (X := X) (show _ ∧ _ from ⟨rfl, rfl⟩)) (by omega) (by decide) (show (parseMethodDescriptor yX0_put.desc).map (fun q => q.parameters.length) = some 2 by decide +kernel) hok (Nat.zero_le _) dX7_skipFields_72 (⟨by decide, by decide, by decide, hs 61 _ rfl, hs 62 _ rfl⟩ : zCe S 61 62 1089).1 (⟨by decide, by decide, by decide, hs 61 _ rfl, hs 62 _ rfl⟩ : zCe S 61 62 1089).2.2.2.1 rfl rfl (fun _ h9 => nomatch h9) ?_
    rintro v9 M9 ⟨e9, e8⟩
    rw [e9, e8]
    clear e9 e8 v9 M9
    show rt_Go _ _ _ _ _ _ _ _ _ _ _ _ 75 [(0, zv s0 2 56), (1, zv s0 0 v1), (2, zv s0 0 v2), (3, zv s0 0 v3), (4, zv s0 0 v4), (5, zv s0 0 v5), (6, zv s0 0 v6)] [] (zw s0 ca C S ((zput M54 62 1089 ((v5 + v6) + 1) (M54 56 10))))
    refine z_iinc (lv' := [(6, zv s0 0 (v6 + 1)), (0, zv s0 2 56), (1, zv s0 0 v1), (2, zv s0 0 v2), (3, zv s0 0 v3), (4, zv s0 0 v4), (5, zv s0 0 v5)]) dX7_skipFields_75 (j := 6) rfl (by decide) (by simp [zv_cat0, zv_cat1, zv_cat2, zv_cats]) ?_
    refine rt_goto (tgt := 10) dX7_skipFields_78 (by decide) ?_
    exact rt_lfew [1, 2, 3, 4, 5, 6, 0] rfl h

def zt_X7_skipFields (l : Launch) (s0 : State) (G : va_G) (ca : Nat → ClassId) (d : Nat) (C : Nat × Nat) (S : zS) (w0 : rt_Wd) (p : Int) (q : Int) (mk : Int) (mka : Int) (w : Int) (k : Int) (u : Int) (e : Int) (M : zM) (Q : Int → zM → Prop) (X : zM → Prop) : Prop :=
  zg_X7_skipFields_10 l s0 G ca d C S w0 p q mk mka w k u e (e * 33) k M Q X
set_option maxRecDepth 100000 in
theorem z_X7_skipFields {l : Launch} {s0 : State} {a0 : Array Value} {G : va_G} {ca : Nat → ClassId} (Γ : rt_Γ l s0 a0 G ca) {d : Nat} {C : Nat × Nat} {S : zS} (hd : 2 ≤ d) (hok : zok C) {p : Int} {q : Int} {mk : Int} {mka : Int} (hs : zSok S) (hp : zSc S p) (hq : zSc S q) (hmk : zCe S mk mka 4096) (hs56 : S 56 = some (0, 7, [(3, 57), (3, 59), (3, 61), (3, 63), (3, 65), (3, 67), (3, mk), (3, p), (3, q), (0, 0), (0, 0), (0, 0)])) {w : Int} {k : Int} {u : Int} {e : Int} {M : zM} {Q : Int → zM → Prop} {X : zM → Prop} (h : zt_X7_skipFields l s0 G ca d C S (zw s0 ca C S M) p q mk mka w k u e M Q X) : zm_X7_skipFields l s0 G ca d C S  w k u e M Q X := by
  refine z_met (lv := [(0, zv s0 2 56), (1, zv s0 0 w), (2, zv s0 0 k), (3, zv s0 0 u), (4, zv s0 0 e)]) Γ kk_X7_skipFields rfl (show (lg_sl [zv s0 2 56, zv s0 0 w, zv s0 0 k, zv s0 0 u, zv s0 0 e]).length ≤ 7 from by simp only [zn_0, zn_2, show (lg_sl []).length = 0 from rfl]; omega) (show lv_args 0 [zv s0 2 56, zv s0 0 w, zv s0 0 k, zv s0 0 u, zv s0 0 e] = [(0, zv s0 2 56), (1, zv s0 0 w), (2, zv s0 0 k), (3, zv s0 0 u), (4, zv s0 0 e)] from by rw [zl_2, zl_0, zl_0, zl_0, zl_0]; rfl) ?_
  unfold zt_X7_skipFields at h
  refine z_iload dX7_skipFields_0 (j := 4) rfl ?_
  refine z_bipush dX7_skipFields_2 (by decide) ?_
  refine z_imul dX7_skipFields_4 ?_
  refine z_istore (i := 5) (lv' := [(5, zv s0 0 (e * 33)), (0, zv s0 2 56), (1, zv s0 0 w), (2, zv s0 0 k), (3, zv s0 0 u), (4, zv s0 0 e)]) dX7_skipFields_5 (by decide) (by simp [zv_cat0, zv_cat1, zv_cat2, zv_cats]) ?_
  refine z_iload_n dX7_skipFields_7 rfl (j := 3) rfl ?_
  refine z_istore (i := 6) (lv' := [(6, zv s0 0 k), (5, zv s0 0 (e * 33)), (0, zv s0 2 56), (1, zv s0 0 w), (2, zv s0 0 k), (3, zv s0 0 u), (4, zv s0 0 e)]) dX7_skipFields_8 (by decide) (by simp [zv_cat0, zv_cat1, zv_cat2, zv_cats]) ?_
  exact rt_lfew [2, 3, 4, 5, 6, 1, 0] rfl h

def zt_X7_origin (l : Launch) (s0 : State) (G : va_G) (ca : Nat → ClassId) (d : Nat) (C : Nat × Nat) (S : zS) (w0 : rt_Wd) (p : Int) (q : Int) (mk : Int) (mka : Int) (w : Int) (f : Int) (M : zM) (Q : Int → zM → Prop) (X : zM → Prop) : Prop :=
  zIf (w32 ((zat M 60 2048 f)) = ((-2))) (zm_X6_partNamed l s0 G ca (d - 1) C S p w ((q + 21)) (((zat M (q + 16) 2048 f))) M (fun r35 M35 => Q r35 ((zput M35 60 2048 f r35))) X) (Q ((zat M 60 2048 f)) M)
set_option maxRecDepth 100000 in
theorem z_X7_origin {l : Launch} {s0 : State} {a0 : Array Value} {G : va_G} {ca : Nat → ClassId} (Γ : rt_Γ l s0 a0 G ca) {d : Nat} {C : Nat × Nat} {S : zS} (hd : 2 ≤ d) (hok : zok C) {p : Int} {q : Int} {mk : Int} {mka : Int} (hs : zSok S) (hp : zSc S p) (hq : zSc S q) (hmk : zCe S mk mka 4096) (hs56 : S 56 = some (0, 7, [(3, 57), (3, 59), (3, 61), (3, 63), (3, 65), (3, 67), (3, mk), (3, p), (3, q), (0, 0), (0, 0), (0, 0)])) {w : Int} {f : Int} {M : zM} {Q : Int → zM → Prop} {X : zM → Prop} (h : zt_X7_origin l s0 G ca d C S (zw s0 ca C S M) p q mk mka w f M Q X) : zm_X7_origin l s0 G ca d C S  w f M Q X := by
  refine z_met (lv := [(0, zv s0 2 56), (1, zv s0 0 w), (2, zv s0 0 f)]) Γ kk_X7_origin rfl (show (lg_sl [zv s0 2 56, zv s0 0 w, zv s0 0 f]).length ≤ 4 from by simp only [zn_0, zn_2, show (lg_sl []).length = 0 from rfl]; omega) (show lv_args 0 [zv s0 2 56, zv s0 0 w, zv s0 0 f] = [(0, zv s0 2 56), (1, zv s0 0 w), (2, zv s0 0 f)] from by rw [zl_2, zl_0, zl_0]; rfl) ?_
  unfold zt_X7_origin at h
  refine z_aload_n dX7_origin_0 rfl (j := 0) rfl ?_
  refine z_getc Γ kf_RX7_22 dX7_origin_1 (by decide) hs56 rfl ?_
  refine z_iload_n dX7_origin_4 rfl (j := 2) rfl ?_
  refine z_callV Γ kk_X0_at kc_RX7_95 (As := [zv s0 0 f]) (k_X0_at (d := d - 1) Γ hok (⟨by decide, by decide, by decide, hs 59 _ rfl, hs 60 _ rfl⟩ : zCe S 59 60 2048) (M := M) (Q := fun v9 M9 => v9 = (zat M 60 2048 f) ∧ M9 = M) (X := X) (show _ ∧ _ from ⟨rfl, rfl⟩)) (by omega) (by decide) (show (parseMethodDescriptor yX0_at.desc).map (fun q => q.parameters.length) = some 1 by decide +kernel) hok (Nat.zero_le _) dX7_origin_5 (⟨by decide, by decide, by decide, hs 59 _ rfl, hs 60 _ rfl⟩ : zCe S 59 60 2048).1 (⟨by decide, by decide, by decide, hs 59 _ rfl, hs 60 _ rfl⟩ : zCe S 59 60 2048).2.2.2.1 rfl rfl (fun _ h9 => nomatch h9) ?_
  rintro v9 M9 ⟨e9, e8⟩
  rw [e9, e8]
  clear e9 e8 v9 M9
  show rt_Go _ _ _ _ _ _ _ _ _ _ _ _ 8 [(0, zv s0 2 56), (1, zv s0 0 w), (2, zv s0 0 f)] [zv s0 0 ((zat M 60 2048 f))] (zw s0 ca C S M)
  refine z_istore_n (i := 3) (lv' := [(3, zv s0 0 ((zat M 60 2048 f))), (0, zv s0 2 56), (1, zv s0 0 w), (2, zv s0 0 f)]) dX7_origin_8 rfl (by decide) (by simp [zv_cat0, zv_cat1, zv_cat2, zv_cats]) ?_
  refine z_iload_n dX7_origin_9 rfl (j := 0) rfl ?_
  refine z_bipush dX7_origin_10 (by decide) ?_
  refine z_icmp_ne (tgt := 48) (x' := w32 ((zat M 60 2048 f))) (y' := ((-2))) rfl (by decide) dX7_origin_12 (by decide) (fun c12 => ?_) (fun c12 => ?_)
  · replace h := h.2 c12
    refine z_iload_n dX7_origin_48 rfl (j := 0) rfl ?_
    exact z_iret dX7_origin_49 rfl h
  · replace h := h.1 c12
    refine z_aload_n dX7_origin_15 rfl (j := 1) rfl ?_
    refine z_getc Γ kf_RX7_37 dX7_origin_16 (by decide) hs56 rfl ?_
    refine z_iload_n dX7_origin_19 rfl (j := 2) rfl ?_
    refine z_aload_n dX7_origin_20 rfl (j := 1) rfl ?_
    refine z_getc Γ kf_RX7_41 dX7_origin_21 (by decide) hs56 rfl ?_
    refine z_callV Γ kk_X6_names kc_RX7_139 (As := []) (z_X6_names (d := d - 1) Γ hok hq (M := M) (Q := fun v9 M9 => v9 = (q + 21) ∧ M9 = M) (X := X) (show _ ∧ _ from ⟨rfl, rfl⟩)) (by omega) (by decide) (show (parseMethodDescriptor yX6_names.desc).map (fun q => q.parameters.length) = some 0 by decide +kernel) hok (by simp only [List.map, zv_cat0, zv_cat1, zv_cat2, List.sum_cons, List.sum_nil]; decide) dX7_origin_24 hq.1 hq.2.1 rfl rfl (fun _ h9 => nomatch h9) ?_
    rintro v9 M9 ⟨e9, e8⟩
    rw [e9, e8]
    clear e9 e8 v9 M9
    show rt_Go _ _ _ _ _ _ _ _ _ _ _ _ 27 [(3, zv s0 0 ((zat M 60 2048 f))), (0, zv s0 2 56), (1, zv s0 0 w), (2, zv s0 0 f)] [zv s0 2 ((q + 21)), zv s0 0 w, zv s0 2 p] (zw s0 ca C S M)
    refine z_aload_n dX7_origin_27 rfl (j := 1) rfl ?_
    refine z_getc Γ kf_RX7_41 dX7_origin_28 (by decide) hs56 rfl ?_
    refine z_iload_n dX7_origin_31 rfl (j := 3) rfl ?_
    refine z_callV Γ kk_X6_partName kc_RX7_145 (As := [zv s0 0 f]) (z_X6_partName (d := d - 1) Γ (by omega) hok hq (M := M) (Q := fun v9 M9 => v9 = ((zat M (q + 16) 2048 f)) ∧ M9 = M) (X := X) (show _ ∧ _ from ⟨rfl, rfl⟩)) (by omega) (by decide) (show (parseMethodDescriptor yX6_partName.desc).map (fun q => q.parameters.length) = some 1 by decide +kernel) hok (by simp only [List.map, zv_cat0, zv_cat1, zv_cat2, List.sum_cons, List.sum_nil]; decide) dX7_origin_32 hq.1 hq.2.1 rfl rfl (fun _ h9 => nomatch h9) ?_
    rintro v9 M9 ⟨e9, e8⟩
    rw [e9, e8]
    clear e9 e8 v9 M9
    show rt_Go _ _ _ _ _ _ _ _ _ _ _ _ 35 [(3, zv s0 0 ((zat M 60 2048 f))), (0, zv s0 2 56), (1, zv s0 0 w), (2, zv s0 0 f)] [zv s0 0 (((zat M (q + 16) 2048 f))), zv s0 2 ((q + 21)), zv s0 0 w, zv s0 2 p] (zw s0 ca C S M)
    refine z_callV Γ kk_X6_partNamed kc_RX7_148 (As := [zv s0 0 w, zv s0 2 ((q + 21)), zv s0 0 (((zat M (q + 16) 2048 f)))]) h (by omega) (by decide) (show (parseMethodDescriptor yX6_partNamed.desc).map (fun q => q.parameters.length) = some 3 by decide +kernel) hok (Nat.zero_le _) dX7_origin_35 hp.1 hp.2.1 rfl rfl (fun _ h9 => nomatch h9) ?_
    clear h
    intro r35 M35 h
    show rt_Go _ _ _ _ _ _ _ _ _ _ _ _ 38 [(3, zv s0 0 ((zat M 60 2048 f))), (0, zv s0 2 56), (1, zv s0 0 w), (2, zv s0 0 f)] [zv s0 0 r35] (zw s0 ca C S M35)
    refine z_istore_n (i := 3) (lv' := [(3, zv s0 0 r35), (0, zv s0 2 56), (1, zv s0 0 w), (2, zv s0 0 f)]) dX7_origin_38 rfl (by decide) (by simp [zv_cat0, zv_cat1, zv_cat2, zv_cats]) ?_
    refine z_aload_n dX7_origin_39 rfl (j := 1) rfl ?_
    refine z_getc Γ kf_RX7_22 dX7_origin_40 (by decide) hs56 rfl ?_
    refine z_iload_n dX7_origin_43 rfl (j := 3) rfl ?_
    refine z_iload_n dX7_origin_44 rfl (j := 0) rfl ?_
    refine z_callV Γ kk_X0_put kc_RX7_48 (As := [zv s0 0 f, zv s0 0 r35]) (k_X0_put (d := d - 1) Γ hok (⟨by decide, by decide, by decide, hs 59 _ rfl, hs 60 _ rfl⟩ : zCe S 59 60 2048) (M := M35) (Q := fun v9 M9 => v9 = 0 ∧ M9 = (zput M35 60 2048 f r35)) (X := X) (show _ ∧ _ from ⟨rfl, rfl⟩)) (by omega) (by decide) (show (parseMethodDescriptor yX0_put.desc).map (fun q => q.parameters.length) = some 2 by decide +kernel) hok (Nat.zero_le _) dX7_origin_45 (⟨by decide, by decide, by decide, hs 59 _ rfl, hs 60 _ rfl⟩ : zCe S 59 60 2048).1 (⟨by decide, by decide, by decide, hs 59 _ rfl, hs 60 _ rfl⟩ : zCe S 59 60 2048).2.2.2.1 rfl rfl (fun _ h9 => nomatch h9) ?_
    rintro v9 M9 ⟨e9, e8⟩
    rw [e9, e8]
    clear e9 e8 v9 M9
    show rt_Go _ _ _ _ _ _ _ _ _ _ _ _ 48 [(3, zv s0 0 r35), (0, zv s0 2 56), (1, zv s0 0 w), (2, zv s0 0 f)] [] (zw s0 ca C S ((zput M35 60 2048 f r35)))
    refine z_iload_n dX7_origin_48 rfl (j := 0) rfl ?_
    exact z_iret dX7_origin_49 rfl h

abbrev zg_X7_tellFields_25 (l : Launch) (s0 : State) (G : va_G) (ca : Nat → ClassId) (d : Nat) (C : Nat × Nat) (S : zS) (w0 : rt_Wd) (p : Int) (q : Int) (mk : Int) (mka : Int) (v1 : Int) (v2 : Int) (v3 : Int) (v4 : Int) (v5 : Int) (v6 : Int)  (M : zM) (Q : Int → zM → Prop) (X : zM → Prop) : Prop := rt_Go l s0 G RX7 "tellFields" cX7_tellFields 9 (Option.none : Option FieldType) [] d w0 (zQ s0 ca 9 C S Q X) 25 [(0, zv s0 2 56), (1, zv s0 0 v1), (2, zv s0 0 v2), (3, zv s0 0 v3), (4, zv s0 0 v4), (5, zv s0 0 v5), (6, zv s0 0 v6)] [] (zw s0 ca C S M)
abbrev zg_X7_tellFields_174 (l : Launch) (s0 : State) (G : va_G) (ca : Nat → ClassId) (d : Nat) (C : Nat × Nat) (S : zS) (w0 : rt_Wd) (p : Int) (q : Int) (mk : Int) (mka : Int) (v1 : Int) (v3 : Int) (v4 : Int) (v5 : Int)  (M : zM) (Q : Int → zM → Prop) (X : zM → Prop) : Prop := rt_Go l s0 G RX7 "tellFields" cX7_tellFields 9 (Option.none : Option FieldType) [] d w0 (zQ s0 ca 9 C S Q X) 174 [(0, zv s0 2 56), (1, zv s0 0 v1), (3, zv s0 0 v3), (4, zv s0 0 v4), (5, zv s0 0 v5)] [] (zw s0 ca C S M)
def zt_X7_tellFields_174 (l : Launch) (s0 : State) (G : va_G) (ca : Nat → ClassId) (d : Nat) (C : Nat × Nat) (S : zS) (w0 : rt_Wd) (p : Int) (q : Int) (mk : Int) (mka : Int) (v1 : Int) (v3 : Int) (v4 : Int) (v5 : Int)  (M : zM) (Q : Int → zM → Prop) (X : zM → Prop) : Prop :=
  zIf (w32 (M 56 11) = 0) (zm_X7_skipFields l s0 G ca (d - 1) C S v1 v5 (((zat M (p + 12) 134 v1))) v3 M (fun r195 M195 => Q 0 ((zu M195 56 10 ((zat M195 62 1089 (v4 + (((zat M195 (p + 12) 134 v1))))))))) X) (Q 0 M)
set_option maxRecDepth 100000 in
theorem zs_X7_tellFields_174 {l : Launch} {s0 : State} {a0 : Array Value} {G : va_G} {ca : Nat → ClassId} (Γ : rt_Γ l s0 a0 G ca) {d : Nat} {C : Nat × Nat} {S : zS} (hd : 2 ≤ d) (hok : zok C) {p : Int} {q : Int} {mk : Int} {mka : Int} (hs : zSok S) (hp : zSc S p) (hq : zSc S q) (hmk : zCe S mk mka 4096) (hs56 : S 56 = some (0, 7, [(3, 57), (3, 59), (3, 61), (3, 63), (3, 65), (3, 67), (3, mk), (3, p), (3, q), (0, 0), (0, 0), (0, 0)])) {w0 : rt_Wd} {v1 : Int} {v3 : Int} {v4 : Int} {v5 : Int}   {M : zM} {Q : Int → zM → Prop} {X : zM → Prop} (h : zt_X7_tellFields_174 l s0 G ca d C S w0 p q mk mka v1 v3 v4 v5 M Q X) : zg_X7_tellFields_174 l s0 G ca d C S w0 p q mk mka v1 v3 v4 v5 M Q X := by
  unfold zt_X7_tellFields_174 at h
  refine z_aload_n dX7_tellFields_174 rfl (j := 0) rfl ?_
  refine z_get Γ kf_RX7_59 dX7_tellFields_175 (by decide) hs56 rfl (by decide) (v9 := M 56 11) rfl ?_
  refine z_if_eq (tgt := 182) (x' := w32 (M 56 11)) rfl dX7_tellFields_178 (by decide) (fun c178 => ?_) (fun c178 => ?_)
  · replace h := h.1 c178
    refine z_aload_n dX7_tellFields_182 rfl (j := 0) rfl ?_
    refine z_iload_n dX7_tellFields_183 rfl (j := 1) rfl ?_
    refine z_iload dX7_tellFields_184 (j := 4) rfl ?_
    refine z_aload_n dX7_tellFields_186 rfl (j := 0) rfl ?_
    refine z_getc Γ kf_RX7_37 dX7_tellFields_187 (by decide) hs56 rfl ?_
    refine z_iload_n dX7_tellFields_190 rfl (j := 1) rfl ?_
    refine z_callV Γ kk_X6_parts kc_RX7_167 (As := [zv s0 0 v1]) (z_X6_parts (d := d - 1) Γ (by omega) hok hp (M := M) (Q := fun v9 M9 => v9 = ((zat M (p + 12) 134 v1)) ∧ M9 = M) (X := X) (show _ ∧ _ from ⟨rfl, rfl⟩)) (by omega) (by decide) (show (parseMethodDescriptor yX6_parts.desc).map (fun q => q.parameters.length) = some 1 by decide +kernel) hok (by simp only [List.map, zv_cat0, zv_cat1, zv_cat2, List.sum_cons, List.sum_nil]; decide) dX7_tellFields_191 hp.1 hp.2.1 rfl rfl (fun _ h9 => nomatch h9) ?_
    rintro v9 M9 ⟨e9, e8⟩
    rw [e9, e8]
    clear e9 e8 v9 M9
    show rt_Go _ _ _ _ _ _ _ _ _ _ _ _ 194 [(0, zv s0 2 56), (1, zv s0 0 v1), (3, zv s0 0 v3), (4, zv s0 0 v4), (5, zv s0 0 v5)] [zv s0 0 (((zat M (p + 12) 134 v1))), zv s0 0 v5, zv s0 0 v1, zv s0 2 56] (zw s0 ca C S M)
    refine z_iload_n dX7_tellFields_194 rfl (j := 2) rfl ?_
    refine z_callV Γ kk_X7_skipFields kc_RX7_176 (As := [zv s0 0 v1, zv s0 0 v5, zv s0 0 (((zat M (p + 12) 134 v1))), zv s0 0 v3]) h (by omega) (by decide) (show (parseMethodDescriptor yX7_skipFields.desc).map (fun q => q.parameters.length) = some 4 by decide +kernel) hok (Nat.zero_le _) dX7_tellFields_195 (by decide) hs56 rfl rfl (fun _ h9 => nomatch h9) ?_
    clear h
    intro r195 M195 h
    show rt_Go _ _ _ _ _ _ _ _ _ _ _ _ 198 [(0, zv s0 2 56), (1, zv s0 0 v1), (3, zv s0 0 v3), (4, zv s0 0 v4), (5, zv s0 0 v5)] [zv s0 0 r195] (zw s0 ca C S M195)
    refine z_pop0 dX7_tellFields_198 ?_
    refine z_aload_n dX7_tellFields_199 rfl (j := 0) rfl ?_
    refine z_aload_n dX7_tellFields_200 rfl (j := 0) rfl ?_
    refine z_getc Γ kf_RX7_25 dX7_tellFields_201 (by decide) hs56 rfl ?_
    refine z_iload dX7_tellFields_204 (j := 3) rfl ?_
    refine z_aload_n dX7_tellFields_206 rfl (j := 0) rfl ?_
    refine z_getc Γ kf_RX7_37 dX7_tellFields_207 (by decide) hs56 rfl ?_
    refine z_iload_n dX7_tellFields_210 rfl (j := 1) rfl ?_
    refine z_callV Γ kk_X6_parts kc_RX7_167 (As := [zv s0 0 v1]) (z_X6_parts (d := d - 1) Γ (by omega) hok hp (M := M195) (Q := fun v9 M9 => v9 = ((zat M195 (p + 12) 134 v1)) ∧ M9 = M195) (X := X) (show _ ∧ _ from ⟨rfl, rfl⟩)) (by omega) (by decide) (show (parseMethodDescriptor yX6_parts.desc).map (fun q => q.parameters.length) = some 1 by decide +kernel) hok (by simp only [List.map, zv_cat0, zv_cat1, zv_cat2, List.sum_cons, List.sum_nil]; decide) dX7_tellFields_211 hp.1 hp.2.1 rfl rfl (fun _ h9 => nomatch h9) ?_
    rintro v9 M9 ⟨e9, e8⟩
    rw [e9, e8]
    clear e9 e8 v9 M9
    show rt_Go _ _ _ _ _ _ _ _ _ _ _ _ 214 [(0, zv s0 2 56), (1, zv s0 0 v1), (3, zv s0 0 v3), (4, zv s0 0 v4), (5, zv s0 0 v5)] [zv s0 0 (((zat M195 (p + 12) 134 v1))), zv s0 0 v4, zv s0 2 61, zv s0 2 56] (zw s0 ca C S M195)
    refine z_iadd dX7_tellFields_214 ?_
    refine z_callV Γ kk_X0_at kc_RX7_95 (As := [zv s0 0 (v4 + (((zat M195 (p + 12) 134 v1))))]) (k_X0_at (d := d - 1) Γ hok (⟨by decide, by decide, by decide, hs 61 _ rfl, hs 62 _ rfl⟩ : zCe S 61 62 1089) (M := M195) (Q := fun v9 M9 => v9 = (zat M195 62 1089 (v4 + (((zat M195 (p + 12) 134 v1))))) ∧ M9 = M195) (X := X) (show _ ∧ _ from ⟨rfl, rfl⟩)) (by omega) (by decide) (show (parseMethodDescriptor yX0_at.desc).map (fun q => q.parameters.length) = some 1 by decide +kernel) hok (by simp only [List.map, zv_cat0, zv_cat1, zv_cat2, List.sum_cons, List.sum_nil]; decide) dX7_tellFields_215 (⟨by decide, by decide, by decide, hs 61 _ rfl, hs 62 _ rfl⟩ : zCe S 61 62 1089).1 (⟨by decide, by decide, by decide, hs 61 _ rfl, hs 62 _ rfl⟩ : zCe S 61 62 1089).2.2.2.1 rfl rfl (fun _ h9 => nomatch h9) ?_
    rintro v9 M9 ⟨e9, e8⟩
    rw [e9, e8]
    clear e9 e8 v9 M9
    show rt_Go _ _ _ _ _ _ _ _ _ _ _ _ 218 [(0, zv s0 2 56), (1, zv s0 0 v1), (3, zv s0 0 v3), (4, zv s0 0 v4), (5, zv s0 0 v5)] [zv s0 0 ((zat M195 62 1089 (v4 + (((zat M195 (p + 12) 134 v1)))))), zv s0 2 56] (zw s0 ca C S M195)
    refine z_put0 Γ kp_RX7_74 dX7_tellFields_218 (by decide) hs56 rfl (k9 := 10) rfl ?_
    exact z_vret dX7_tellFields_221 rfl h
  · replace h := h.2 c178
    exact z_vret dX7_tellFields_181 rfl h

def zt_X7_tellFields_25 (l : Launch) (s0 : State) (G : va_G) (ca : Nat → ClassId) (d : Nat) (C : Nat × Nat) (S : zS) (w0 : rt_Wd) (p : Int) (q : Int) (mk : Int) (mka : Int) (v1 : Int) (v2 : Int) (v3 : Int) (v4 : Int) (v5 : Int) (v6 : Int)  (M : zM) (Q : Int → zM → Prop) (X : zM → Prop) : Prop :=
  zIf (w32 (((zat M (q + 12) 134 v2))) ≤ w32 v6) (zt_X7_tellFields_174 l s0 G ca d C S w0 p q mk mka v1 v3 v4 v5 M Q X) (zIf (w32 (M 56 11) = 0) (zm_X7_origin l s0 G ca (d - 1) C S v1 ((((zat M (q + 10) 134 v2)) + v6)) M (fun r61 M61 => zIf (w32 r61 = ((-1))) (zm_X7_tellDefault l s0 G ca (d - 1) C S ((((zat M (q + 10) 134 v2)) + v6)) M61 (fun r75 M75 => zg_X7_tellFields_25 l s0 G ca d C S w0 p q mk mka v1 v2 v3 v4 v5 (v6 + 1) M75 Q X) X) (zm_X7_skipFields l s0 G ca (d - 1) C S v1 v5 r61 v3 M61 (fun r88 M88 => zm_X7_tellDatum l s0 G ca (d - 1) C S (((zat ((zu M88 56 10 ((zat M88 62 1089 (v4 + r61))))) (p + 14) 2048 ((((zat ((zu M88 56 10 ((zat M88 62 1089 (v4 + r61))))) (p + 10) 134 v1)) + r61))))) (((zat ((zu M88 56 10 ((zat M88 62 1089 (v4 + r61))))) (q + 14) 2048 ((((zat M (q + 10) 134 v2)) + v6))))) (v3 + 1) ((zu M88 56 10 ((zat M88 62 1089 (v4 + r61))))) (fun r139 M139 => zIf (w32 r88 = w32 r61) (zg_X7_tellFields_25 l s0 G ca d C S w0 p q mk mka v1 v2 v3 v4 (r88 + 1) (v6 + 1) ((zput M139 62 1089 (v4 + (r88 + 1)) (M139 56 10))) Q X) (zg_X7_tellFields_25 l s0 G ca d C S w0 p q mk mka v1 v2 v3 v4 r88 (v6 + 1) M139 Q X)) X) X)) X) (zt_X7_tellFields_174 l s0 G ca d C S w0 p q mk mka v1 v3 v4 v5 M Q X))
set_option maxRecDepth 100000 in
theorem zs_X7_tellFields_25 {l : Launch} {s0 : State} {a0 : Array Value} {G : va_G} {ca : Nat → ClassId} (Γ : rt_Γ l s0 a0 G ca) {d : Nat} {C : Nat × Nat} {S : zS} (hd : 2 ≤ d) (hok : zok C) {p : Int} {q : Int} {mk : Int} {mka : Int} (hs : zSok S) (hp : zSc S p) (hq : zSc S q) (hmk : zCe S mk mka 4096) (hs56 : S 56 = some (0, 7, [(3, 57), (3, 59), (3, 61), (3, 63), (3, 65), (3, 67), (3, mk), (3, p), (3, q), (0, 0), (0, 0), (0, 0)])) {w0 : rt_Wd} {v1 : Int} {v2 : Int} {v3 : Int} {v4 : Int} {v5 : Int} {v6 : Int}   {M : zM} {Q : Int → zM → Prop} {X : zM → Prop} (h : zt_X7_tellFields_25 l s0 G ca d C S w0 p q mk mka v1 v2 v3 v4 v5 v6 M Q X) : zg_X7_tellFields_25 l s0 G ca d C S w0 p q mk mka v1 v2 v3 v4 v5 v6 M Q X := by
  unfold zt_X7_tellFields_25 at h
  refine z_iload dX7_tellFields_25 (j := 6) rfl ?_
  refine z_aload_n dX7_tellFields_27 rfl (j := 0) rfl ?_
  refine z_getc Γ kf_RX7_41 dX7_tellFields_28 (by decide) hs56 rfl ?_
  refine z_iload_n dX7_tellFields_31 rfl (j := 2) rfl ?_
  refine z_callV Γ kk_X6_parts kc_RX7_167 (As := [zv s0 0 v2]) (z_X6_parts (d := d - 1) Γ (by omega) hok hq (M := M) (Q := fun v9 M9 => v9 = ((zat M (q + 12) 134 v2)) ∧ M9 = M) (X := X) (show _ ∧ _ from ⟨rfl, rfl⟩)) (by omega) (by decide) (show (parseMethodDescriptor yX6_parts.desc).map (fun q => q.parameters.length) = some 1 by decide +kernel) hok (by simp only [List.map, zv_cat0, zv_cat1, zv_cat2, List.sum_cons, List.sum_nil]; decide) dX7_tellFields_32 hq.1 hq.2.1 rfl rfl (fun _ h9 => nomatch h9) ?_
  rintro v9 M9 ⟨e9, e8⟩
  rw [e9, e8]
  clear e9 e8 v9 M9
  show rt_Go _ _ _ _ _ _ _ _ _ _ _ _ 35 [(0, zv s0 2 56), (1, zv s0 0 v1), (2, zv s0 0 v2), (3, zv s0 0 v3), (4, zv s0 0 v4), (5, zv s0 0 v5), (6, zv s0 0 v6)] [zv s0 0 (((zat M (q + 12) 134 v2))), zv s0 0 v6] (zw s0 ca C S M)
  refine z_icmp_ge (tgt := 174) (x' := w32 v6) (y' := w32 (((zat M (q + 12) 134 v2)))) rfl rfl dX7_tellFields_35 (by decide) (fun c35 => ?_) (fun c35 => ?_)
  · replace h := h.1 c35
    exact rt_lfew [0, 1, 3, 4, 5] rfl (zs_X7_tellFields_174 Γ hd hok hs hp hq hmk hs56  h)
  · replace h := h.2 c35
    refine z_aload_n dX7_tellFields_38 rfl (j := 0) rfl ?_
    refine z_get Γ kf_RX7_59 dX7_tellFields_39 (by decide) hs56 rfl (by decide) (v9 := M 56 11) rfl ?_
    refine z_if_ne (tgt := 174) (x' := w32 (M 56 11)) rfl dX7_tellFields_42 (by decide) (fun c42 => ?_) (fun c42 => ?_)
    · replace h := h.2 c42
      exact rt_lfew [0, 1, 3, 4, 5] rfl (zs_X7_tellFields_174 Γ hd hok hs hp hq hmk hs56  h)
    · replace h := h.1 c42
      refine z_aload_n dX7_tellFields_45 rfl (j := 0) rfl ?_
      refine z_getc Γ kf_RX7_41 dX7_tellFields_46 (by decide) hs56 rfl ?_
      refine z_iload_n dX7_tellFields_49 rfl (j := 2) rfl ?_
      refine z_iload dX7_tellFields_50 (j := 6) rfl ?_
      refine z_callV Γ kk_X6_part kc_RX7_142 (As := [zv s0 0 v2, zv s0 0 v6]) (z_X6_part (d := d - 1) Γ (by omega) hok hq (M := M) (Q := fun v9 M9 => v9 = (((zat M (q + 10) 134 v2)) + v6) ∧ M9 = M) (X := X) (show _ ∧ _ from ⟨rfl, rfl⟩)) (by omega) (by decide) (show (parseMethodDescriptor yX6_part.desc).map (fun q => q.parameters.length) = some 2 by decide +kernel) hok (Nat.zero_le _) dX7_tellFields_52 hq.1 hq.2.1 rfl rfl (fun _ h9 => nomatch h9) ?_
      rintro v9 M9 ⟨e9, e8⟩
      rw [e9, e8]
      clear e9 e8 v9 M9
      show rt_Go _ _ _ _ _ _ _ _ _ _ _ _ 55 [(0, zv s0 2 56), (1, zv s0 0 v1), (2, zv s0 0 v2), (3, zv s0 0 v3), (4, zv s0 0 v4), (5, zv s0 0 v5), (6, zv s0 0 v6)] [zv s0 0 ((((zat M (q + 10) 134 v2)) + v6))] (zw s0 ca C S M)
      refine z_istore (i := 7) (lv' := [(7, zv s0 0 ((((zat M (q + 10) 134 v2)) + v6))), (0, zv s0 2 56), (1, zv s0 0 v1), (2, zv s0 0 v2), (3, zv s0 0 v3), (4, zv s0 0 v4), (5, zv s0 0 v5), (6, zv s0 0 v6)]) dX7_tellFields_55 (by decide) (by simp [zv_cat0, zv_cat1, zv_cat2, zv_cats]) ?_
      refine z_aload_n dX7_tellFields_57 rfl (j := 1) rfl ?_
      refine z_iload_n dX7_tellFields_58 rfl (j := 2) rfl ?_
      refine z_iload dX7_tellFields_59 (j := 0) rfl ?_
      refine z_callV Γ kk_X7_origin kc_RX7_170 (As := [zv s0 0 v1, zv s0 0 ((((zat M (q + 10) 134 v2)) + v6))]) h (by omega) (by decide) (show (parseMethodDescriptor yX7_origin.desc).map (fun q => q.parameters.length) = some 2 by decide +kernel) hok (Nat.zero_le _) dX7_tellFields_61 (by decide) hs56 rfl rfl (fun _ h9 => nomatch h9) ?_
      clear h
      intro r61 M61 h
      show rt_Go _ _ _ _ _ _ _ _ _ _ _ _ 64 [(7, zv s0 0 ((((zat M (q + 10) 134 v2)) + v6))), (0, zv s0 2 56), (1, zv s0 0 v1), (2, zv s0 0 v2), (3, zv s0 0 v3), (4, zv s0 0 v4), (5, zv s0 0 v5), (6, zv s0 0 v6)] [zv s0 0 r61] (zw s0 ca C S M61)
      refine z_istore (i := 8) (lv' := [(8, zv s0 0 r61), (7, zv s0 0 ((((zat M (q + 10) 134 v2)) + v6))), (0, zv s0 2 56), (1, zv s0 0 v1), (2, zv s0 0 v2), (3, zv s0 0 v3), (4, zv s0 0 v4), (5, zv s0 0 v5), (6, zv s0 0 v6)]) dX7_tellFields_64 (by decide) (by simp [zv_cat0, zv_cat1, zv_cat2, zv_cats]) ?_
      refine z_iload dX7_tellFields_66 (j := 0) rfl ?_
      refine z_iconst dX7_tellFields_68 ?_
      refine z_icmp_ne (tgt := 81) (x' := w32 r61) (y' := ((-1))) rfl (by decide) dX7_tellFields_69 (by decide) (fun c69 => ?_) (fun c69 => ?_)
      · replace h := h.2 c69
        refine z_aload_n dX7_tellFields_81 rfl (j := 2) rfl ?_
        refine z_iload_n dX7_tellFields_82 rfl (j := 3) rfl ?_
        refine z_iload dX7_tellFields_83 (j := 7) rfl ?_
        refine z_iload dX7_tellFields_85 (j := 0) rfl ?_
        refine z_iload_n dX7_tellFields_87 rfl (j := 5) rfl ?_
        refine z_callV Γ kk_X7_skipFields kc_RX7_176 (As := [zv s0 0 v1, zv s0 0 v5, zv s0 0 r61, zv s0 0 v3]) h (by omega) (by decide) (show (parseMethodDescriptor yX7_skipFields.desc).map (fun q => q.parameters.length) = some 4 by decide +kernel) hok (Nat.zero_le _) dX7_tellFields_88 (by decide) hs56 rfl rfl (fun _ h9 => nomatch h9) ?_
        clear h
        intro r88 M88 h
        show rt_Go _ _ _ _ _ _ _ _ _ _ _ _ 91 [(8, zv s0 0 r61), (7, zv s0 0 ((((zat M (q + 10) 134 v2)) + v6))), (0, zv s0 2 56), (1, zv s0 0 v1), (2, zv s0 0 v2), (3, zv s0 0 v3), (4, zv s0 0 v4), (5, zv s0 0 v5), (6, zv s0 0 v6)] [zv s0 0 r88] (zw s0 ca C S M88)
        refine z_istore (i := 5) (lv' := [(5, zv s0 0 r88), (8, zv s0 0 r61), (7, zv s0 0 ((((zat M (q + 10) 134 v2)) + v6))), (0, zv s0 2 56), (1, zv s0 0 v1), (2, zv s0 0 v2), (3, zv s0 0 v3), (4, zv s0 0 v4), (6, zv s0 0 v6)]) dX7_tellFields_91 (by decide) (by simp [zv_cat0, zv_cat1, zv_cat2, zv_cats]) ?_
        refine z_aload_n dX7_tellFields_93 rfl (j := 3) rfl ?_
        refine z_aload_n dX7_tellFields_94 rfl (j := 3) rfl ?_
        refine z_getc Γ kf_RX7_25 dX7_tellFields_95 (by decide) hs56 rfl ?_
        refine z_iload dX7_tellFields_98 (j := 7) rfl ?_
        refine z_iload dX7_tellFields_100 (j := 1) rfl ?_
        refine z_iadd dX7_tellFields_102 ?_
        refine z_callV Γ kk_X0_at kc_RX7_95 (As := [zv s0 0 (v4 + r61)]) (k_X0_at (d := d - 1) Γ hok (⟨by decide, by decide, by decide, hs 61 _ rfl, hs 62 _ rfl⟩ : zCe S 61 62 1089) (M := M88) (Q := fun v9 M9 => v9 = (zat M88 62 1089 (v4 + r61)) ∧ M9 = M88) (X := X) (show _ ∧ _ from ⟨rfl, rfl⟩)) (by omega) (by decide) (show (parseMethodDescriptor yX0_at.desc).map (fun q => q.parameters.length) = some 1 by decide +kernel) hok (by simp only [List.map, zv_cat0, zv_cat1, zv_cat2, List.sum_cons, List.sum_nil]; decide) dX7_tellFields_103 (⟨by decide, by decide, by decide, hs 61 _ rfl, hs 62 _ rfl⟩ : zCe S 61 62 1089).1 (⟨by decide, by decide, by decide, hs 61 _ rfl, hs 62 _ rfl⟩ : zCe S 61 62 1089).2.2.2.1 rfl rfl (fun _ h9 => nomatch h9) ?_
        rintro v9 M9 ⟨e9, e8⟩
        rw [e9, e8]
        clear e9 e8 v9 M9
        show rt_Go _ _ _ _ _ _ _ _ _ _ _ _ 106 [(5, zv s0 0 r88), (8, zv s0 0 r61), (7, zv s0 0 ((((zat M (q + 10) 134 v2)) + v6))), (0, zv s0 2 56), (1, zv s0 0 v1), (2, zv s0 0 v2), (3, zv s0 0 v3), (4, zv s0 0 v4), (6, zv s0 0 v6)] [zv s0 0 ((zat M88 62 1089 (v4 + r61))), zv s0 2 56] (zw s0 ca C S M88)
        refine z_put0 Γ kp_RX7_74 dX7_tellFields_106 (by decide) hs56 rfl (k9 := 10) rfl ?_
        refine z_aload_n dX7_tellFields_109 rfl (j := 3) rfl ?_
        refine z_aload_n dX7_tellFields_110 rfl (j := 3) rfl ?_
        refine z_getc Γ kf_RX7_37 dX7_tellFields_111 (by decide) hs56 rfl ?_
        refine z_aload_n dX7_tellFields_114 rfl (j := 3) rfl ?_
        refine z_getc Γ kf_RX7_37 dX7_tellFields_115 (by decide) hs56 rfl ?_
        refine z_iload_n dX7_tellFields_118 rfl (j := 4) rfl ?_
        refine z_iload dX7_tellFields_119 (j := 1) rfl ?_
        refine z_callV Γ kk_X6_part kc_RX7_142 (As := [zv s0 0 v1, zv s0 0 r61]) (z_X6_part (d := d - 1) Γ (by omega) hok hp (M := ((zu M88 56 10 ((zat M88 62 1089 (v4 + r61)))))) (Q := fun v9 M9 => v9 = (((zat ((zu M88 56 10 ((zat M88 62 1089 (v4 + r61))))) (p + 10) 134 v1)) + r61) ∧ M9 = ((zu M88 56 10 ((zat M88 62 1089 (v4 + r61)))))) (X := X) (show _ ∧ _ from ⟨rfl, rfl⟩)) (by omega) (by decide) (show (parseMethodDescriptor yX6_part.desc).map (fun q => q.parameters.length) = some 2 by decide +kernel) hok (by simp only [List.map, zv_cat0, zv_cat1, zv_cat2, List.sum_cons, List.sum_nil]; decide) dX7_tellFields_121 hp.1 hp.2.1 rfl rfl (fun _ h9 => nomatch h9) ?_
        rintro v9 M9 ⟨e9, e8⟩
        rw [e9, e8]
        clear e9 e8 v9 M9
        show rt_Go _ _ _ _ _ _ _ _ _ _ _ _ 124 [(5, zv s0 0 r88), (8, zv s0 0 r61), (7, zv s0 0 ((((zat M (q + 10) 134 v2)) + v6))), (0, zv s0 2 56), (1, zv s0 0 v1), (2, zv s0 0 v2), (3, zv s0 0 v3), (4, zv s0 0 v4), (6, zv s0 0 v6)] [zv s0 0 ((((zat ((zu M88 56 10 ((zat M88 62 1089 (v4 + r61))))) (p + 10) 134 v1)) + r61)), zv s0 2 p, zv s0 2 56] (zw s0 ca C S ((zu M88 56 10 ((zat M88 62 1089 (v4 + r61))))))
        refine z_callV Γ kk_X6_partNode kc_RX7_180 (As := [zv s0 0 ((((zat ((zu M88 56 10 ((zat M88 62 1089 (v4 + r61))))) (p + 10) 134 v1)) + r61))]) (z_X6_partNode (d := d - 1) Γ (by omega) hok hp (M := ((zu M88 56 10 ((zat M88 62 1089 (v4 + r61)))))) (Q := fun v9 M9 => v9 = ((zat ((zu M88 56 10 ((zat M88 62 1089 (v4 + r61))))) (p + 14) 2048 ((((zat ((zu M88 56 10 ((zat M88 62 1089 (v4 + r61))))) (p + 10) 134 v1)) + r61)))) ∧ M9 = ((zu M88 56 10 ((zat M88 62 1089 (v4 + r61)))))) (X := X) (show _ ∧ _ from ⟨rfl, rfl⟩)) (by omega) (by decide) (show (parseMethodDescriptor yX6_partNode.desc).map (fun q => q.parameters.length) = some 1 by decide +kernel) hok (by simp only [List.map, zv_cat0, zv_cat1, zv_cat2, List.sum_cons, List.sum_nil]; decide) dX7_tellFields_124 hp.1 hp.2.1 rfl rfl (fun _ h9 => nomatch h9) ?_
        rintro v9 M9 ⟨e9, e8⟩
        rw [e9, e8]
        clear e9 e8 v9 M9
        show rt_Go _ _ _ _ _ _ _ _ _ _ _ _ 127 [(5, zv s0 0 r88), (8, zv s0 0 r61), (7, zv s0 0 ((((zat M (q + 10) 134 v2)) + v6))), (0, zv s0 2 56), (1, zv s0 0 v1), (2, zv s0 0 v2), (3, zv s0 0 v3), (4, zv s0 0 v4), (6, zv s0 0 v6)] [zv s0 0 (((zat ((zu M88 56 10 ((zat M88 62 1089 (v4 + r61))))) (p + 14) 2048 ((((zat ((zu M88 56 10 ((zat M88 62 1089 (v4 + r61))))) (p + 10) 134 v1)) + r61))))), zv s0 2 56] (zw s0 ca C S ((zu M88 56 10 ((zat M88 62 1089 (v4 + r61))))))
        refine z_aload_n dX7_tellFields_127 rfl (j := 3) rfl ?_
        refine z_getc Γ kf_RX7_41 dX7_tellFields_128 (by decide) hs56 rfl ?_
        refine z_iload dX7_tellFields_131 (j := 2) rfl ?_
        refine z_callV Γ kk_X6_partNode kc_RX7_180 (As := [zv s0 0 ((((zat M (q + 10) 134 v2)) + v6))]) (z_X6_partNode (d := d - 1) Γ (by omega) hok hq (M := ((zu M88 56 10 ((zat M88 62 1089 (v4 + r61)))))) (Q := fun v9 M9 => v9 = ((zat ((zu M88 56 10 ((zat M88 62 1089 (v4 + r61))))) (q + 14) 2048 ((((zat M (q + 10) 134 v2)) + v6)))) ∧ M9 = ((zu M88 56 10 ((zat M88 62 1089 (v4 + r61)))))) (X := X) (show _ ∧ _ from ⟨rfl, rfl⟩)) (by omega) (by decide) (show (parseMethodDescriptor yX6_partNode.desc).map (fun q => q.parameters.length) = some 1 by decide +kernel) hok (by simp only [List.map, zv_cat0, zv_cat1, zv_cat2, List.sum_cons, List.sum_nil]; decide) dX7_tellFields_133 hq.1 hq.2.1 rfl rfl (fun _ h9 => nomatch h9) ?_
        rintro v9 M9 ⟨e9, e8⟩
        rw [e9, e8]
        clear e9 e8 v9 M9
        show rt_Go _ _ _ _ _ _ _ _ _ _ _ _ 136 [(5, zv s0 0 r88), (8, zv s0 0 r61), (7, zv s0 0 ((((zat M (q + 10) 134 v2)) + v6))), (0, zv s0 2 56), (1, zv s0 0 v1), (2, zv s0 0 v2), (3, zv s0 0 v3), (4, zv s0 0 v4), (6, zv s0 0 v6)] [zv s0 0 (((zat ((zu M88 56 10 ((zat M88 62 1089 (v4 + r61))))) (q + 14) 2048 ((((zat M (q + 10) 134 v2)) + v6))))), zv s0 0 (((zat ((zu M88 56 10 ((zat M88 62 1089 (v4 + r61))))) (p + 14) 2048 ((((zat ((zu M88 56 10 ((zat M88 62 1089 (v4 + r61))))) (p + 10) 134 v1)) + r61))))), zv s0 2 56] (zw s0 ca C S ((zu M88 56 10 ((zat M88 62 1089 (v4 + r61))))))
        refine z_iload_n dX7_tellFields_136 rfl (j := 6) rfl ?_
        refine z_iconst dX7_tellFields_137 ?_
        refine z_iadd dX7_tellFields_138 ?_
        refine z_callV Γ kk_X7_tellDatum kc_RX7_80 (As := [zv s0 0 (((zat ((zu M88 56 10 ((zat M88 62 1089 (v4 + r61))))) (p + 14) 2048 ((((zat ((zu M88 56 10 ((zat M88 62 1089 (v4 + r61))))) (p + 10) 134 v1)) + r61))))), zv s0 0 (((zat ((zu M88 56 10 ((zat M88 62 1089 (v4 + r61))))) (q + 14) 2048 ((((zat M (q + 10) 134 v2)) + v6))))), zv s0 0 (v3 + 1)]) h (by omega) (by decide) (show (parseMethodDescriptor yX7_tellDatum.desc).map (fun q => q.parameters.length) = some 3 by decide +kernel) hok (Nat.zero_le _) dX7_tellFields_139 (by decide) hs56 rfl rfl (fun _ h9 => nomatch h9) ?_
        clear h
        intro r139 M139 h
        show rt_Go _ _ _ _ _ _ _ _ _ _ _ _ 142 [(5, zv s0 0 r88), (8, zv s0 0 r61), (7, zv s0 0 ((((zat M (q + 10) 134 v2)) + v6))), (0, zv s0 2 56), (1, zv s0 0 v1), (2, zv s0 0 v2), (3, zv s0 0 v3), (4, zv s0 0 v4), (6, zv s0 0 v6)] [] (zw s0 ca C S M139)
        refine z_iload dX7_tellFields_142 (j := 0) rfl ?_
        refine z_iload dX7_tellFields_144 (j := 1) rfl ?_
        refine z_icmp_ne (tgt := 168) (x' := w32 r88) (y' := w32 r61) rfl rfl dX7_tellFields_146 (by decide) (fun c146 => ?_) (fun c146 => ?_)
        · replace h := h.2 c146
          refine z_iinc (lv' := [(6, zv s0 0 (v6 + 1)), (5, zv s0 0 r88), (8, zv s0 0 r61), (7, zv s0 0 ((((zat M (q + 10) 134 v2)) + v6))), (0, zv s0 2 56), (1, zv s0 0 v1), (2, zv s0 0 v2), (3, zv s0 0 v3), (4, zv s0 0 v4)]) dX7_tellFields_168 (j := 8) rfl (by decide) (by simp [zv_cat0, zv_cat1, zv_cat2, zv_cats]) ?_
          refine rt_goto (tgt := 25) dX7_tellFields_171 (by decide) ?_
          exact rt_lfew [4, 5, 6, 7, 8, 1, 0] rfl h
        · replace h := h.1 c146
          refine z_iinc (lv' := [(5, zv s0 0 (r88 + 1)), (8, zv s0 0 r61), (7, zv s0 0 ((((zat M (q + 10) 134 v2)) + v6))), (0, zv s0 2 56), (1, zv s0 0 v1), (2, zv s0 0 v2), (3, zv s0 0 v3), (4, zv s0 0 v4), (6, zv s0 0 v6)]) dX7_tellFields_149 (j := 0) rfl (by decide) (by simp [zv_cat0, zv_cat1, zv_cat2, zv_cats]) ?_
          refine z_aload_n dX7_tellFields_152 rfl (j := 3) rfl ?_
          refine z_getc Γ kf_RX7_25 dX7_tellFields_153 (by decide) hs56 rfl ?_
          refine z_iload dX7_tellFields_156 (j := 7) rfl ?_
          refine z_iload dX7_tellFields_158 (j := 0) rfl ?_
          refine z_iadd dX7_tellFields_160 ?_
          refine z_aload_n dX7_tellFields_161 rfl (j := 3) rfl ?_
          refine z_get Γ kf_RX7_74 dX7_tellFields_162 (by decide) hs56 rfl (by decide) (v9 := M139 56 10) rfl ?_
          refine z_callV Γ kk_X0_put kc_RX7_48 (As := [zv s0 0 (v4 + (r88 + 1)), zv s0 0 (M139 56 10)]) (k_X0_put (d := d - 1) Γ hok (⟨by decide, by decide, by decide, hs 61 _ rfl, hs 62 _ rfl⟩ : zCe S 61 62 1089) (M := M139) (Q := fun v9 M9 => v9 = 0 ∧ M9 = (zput M139 62 1089 (v4 + (r88 + 1)) (M139 56 10))) (X := X) (show _ ∧ _ from ⟨rfl, rfl⟩)) (by omega) (by decide) (show (parseMethodDescriptor yX0_put.desc).map (fun q => q.parameters.length) = some 2 by decide +kernel) hok (Nat.zero_le _) dX7_tellFields_165 (⟨by decide, by decide, by decide, hs 61 _ rfl, hs 62 _ rfl⟩ : zCe S 61 62 1089).1 (⟨by decide, by decide, by decide, hs 61 _ rfl, hs 62 _ rfl⟩ : zCe S 61 62 1089).2.2.2.1 rfl rfl (fun _ h9 => nomatch h9) ?_
          rintro v9 M9 ⟨e9, e8⟩
          rw [e9, e8]
          clear e9 e8 v9 M9
          show rt_Go _ _ _ _ _ _ _ _ _ _ _ _ 168 [(5, zv s0 0 (r88 + 1)), (8, zv s0 0 r61), (7, zv s0 0 ((((zat M (q + 10) 134 v2)) + v6))), (0, zv s0 2 56), (1, zv s0 0 v1), (2, zv s0 0 v2), (3, zv s0 0 v3), (4, zv s0 0 v4), (6, zv s0 0 v6)] [] (zw s0 ca C S ((zput M139 62 1089 (v4 + (r88 + 1)) (M139 56 10))))
          refine z_iinc (lv' := [(6, zv s0 0 (v6 + 1)), (5, zv s0 0 (r88 + 1)), (8, zv s0 0 r61), (7, zv s0 0 ((((zat M (q + 10) 134 v2)) + v6))), (0, zv s0 2 56), (1, zv s0 0 v1), (2, zv s0 0 v2), (3, zv s0 0 v3), (4, zv s0 0 v4)]) dX7_tellFields_168 (j := 8) rfl (by decide) (by simp [zv_cat0, zv_cat1, zv_cat2, zv_cats]) ?_
          refine rt_goto (tgt := 25) dX7_tellFields_171 (by decide) ?_
          exact rt_lfew [4, 5, 6, 7, 8, 1, 0] rfl h
      · replace h := h.1 c69
        refine z_aload_n dX7_tellFields_72 rfl (j := 2) rfl ?_
        refine z_iload dX7_tellFields_73 (j := 1) rfl ?_
        refine z_callV Γ kk_X7_tellDefault kc_RX7_173 (As := [zv s0 0 ((((zat M (q + 10) 134 v2)) + v6))]) h (by omega) (by decide) (show (parseMethodDescriptor yX7_tellDefault.desc).map (fun q => q.parameters.length) = some 1 by decide +kernel) hok (Nat.zero_le _) dX7_tellFields_75 (by decide) hs56 rfl rfl (fun _ h9 => nomatch h9) ?_
        clear h
        intro r75 M75 h
        show rt_Go _ _ _ _ _ _ _ _ _ _ _ _ 78 [(8, zv s0 0 r61), (7, zv s0 0 ((((zat M (q + 10) 134 v2)) + v6))), (0, zv s0 2 56), (1, zv s0 0 v1), (2, zv s0 0 v2), (3, zv s0 0 v3), (4, zv s0 0 v4), (5, zv s0 0 v5), (6, zv s0 0 v6)] [] (zw s0 ca C S M75)
        refine rt_goto (tgt := 168) dX7_tellFields_78 (by decide) ?_
        refine z_iinc (lv' := [(6, zv s0 0 (v6 + 1)), (8, zv s0 0 r61), (7, zv s0 0 ((((zat M (q + 10) 134 v2)) + v6))), (0, zv s0 2 56), (1, zv s0 0 v1), (2, zv s0 0 v2), (3, zv s0 0 v3), (4, zv s0 0 v4), (5, zv s0 0 v5)]) dX7_tellFields_168 (j := 8) rfl (by decide) (by simp [zv_cat0, zv_cat1, zv_cat2, zv_cats]) ?_
        refine rt_goto (tgt := 25) dX7_tellFields_171 (by decide) ?_
        exact rt_lfew [3, 4, 5, 6, 7, 8, 0] rfl h

def zt_X7_tellFields (l : Launch) (s0 : State) (G : va_G) (ca : Nat → ClassId) (d : Nat) (C : Nat × Nat) (S : zS) (w0 : rt_Wd) (p : Int) (q : Int) (mk : Int) (mka : Int) (w : Int) (r : Int) (e : Int) (M : zM) (Q : Int → zM → Prop) (X : zM → Prop) : Prop :=
  zg_X7_tellFields_25 l s0 G ca d C S w0 p q mk mka w r e (e * 33) 0 0 ((zput M 62 1089 (e * 33) (M 56 10))) Q X
set_option maxRecDepth 100000 in
theorem z_X7_tellFields {l : Launch} {s0 : State} {a0 : Array Value} {G : va_G} {ca : Nat → ClassId} (Γ : rt_Γ l s0 a0 G ca) {d : Nat} {C : Nat × Nat} {S : zS} (hd : 2 ≤ d) (hok : zok C) {p : Int} {q : Int} {mk : Int} {mka : Int} (hs : zSok S) (hp : zSc S p) (hq : zSc S q) (hmk : zCe S mk mka 4096) (hs56 : S 56 = some (0, 7, [(3, 57), (3, 59), (3, 61), (3, 63), (3, 65), (3, 67), (3, mk), (3, p), (3, q), (0, 0), (0, 0), (0, 0)])) {w : Int} {r : Int} {e : Int} {M : zM} {Q : Int → zM → Prop} {X : zM → Prop} (h : zt_X7_tellFields l s0 G ca d C S (zw s0 ca C S M) p q mk mka w r e M Q X) : zm_X7_tellFields l s0 G ca d C S  w r e M Q X := by
  refine z_met (lv := [(0, zv s0 2 56), (1, zv s0 0 w), (2, zv s0 0 r), (3, zv s0 0 e)]) Γ kk_X7_tellFields rfl (show (lg_sl [zv s0 2 56, zv s0 0 w, zv s0 0 r, zv s0 0 e]).length ≤ 9 from by simp only [zn_0, zn_2, show (lg_sl []).length = 0 from rfl]; omega) (show lv_args 0 [zv s0 2 56, zv s0 0 w, zv s0 0 r, zv s0 0 e] = [(0, zv s0 2 56), (1, zv s0 0 w), (2, zv s0 0 r), (3, zv s0 0 e)] from by rw [zl_2, zl_0, zl_0, zl_0]; rfl) ?_
  unfold zt_X7_tellFields at h
  refine z_iload_n dX7_tellFields_0 rfl (j := 3) rfl ?_
  refine z_bipush dX7_tellFields_1 (by decide) ?_
  refine z_imul dX7_tellFields_3 ?_
  refine z_istore (i := 4) (lv' := [(4, zv s0 0 (e * 33)), (0, zv s0 2 56), (1, zv s0 0 w), (2, zv s0 0 r), (3, zv s0 0 e)]) dX7_tellFields_4 (by decide) (by simp [zv_cat0, zv_cat1, zv_cat2, zv_cats]) ?_
  refine z_iconst dX7_tellFields_6 ?_
  refine z_istore (i := 5) (lv' := [(5, zv s0 0 0), (4, zv s0 0 (e * 33)), (0, zv s0 2 56), (1, zv s0 0 w), (2, zv s0 0 r), (3, zv s0 0 e)]) dX7_tellFields_7 (by decide) (by simp [zv_cat0, zv_cat1, zv_cat2, zv_cats]) ?_
  refine z_aload_n dX7_tellFields_9 rfl (j := 2) rfl ?_
  refine z_getc Γ kf_RX7_25 dX7_tellFields_10 (by decide) hs56 rfl ?_
  refine z_iload dX7_tellFields_13 (j := 1) rfl ?_
  refine z_aload_n dX7_tellFields_15 rfl (j := 2) rfl ?_
  refine z_get Γ kf_RX7_74 dX7_tellFields_16 (by decide) hs56 rfl (by decide) (v9 := M 56 10) rfl ?_
  refine z_callV Γ kk_X0_put kc_RX7_48 (As := [zv s0 0 (e * 33), zv s0 0 (M 56 10)]) (k_X0_put (d := d - 1) Γ hok (⟨by decide, by decide, by decide, hs 61 _ rfl, hs 62 _ rfl⟩ : zCe S 61 62 1089) (M := M) (Q := fun v9 M9 => v9 = 0 ∧ M9 = (zput M 62 1089 (e * 33) (M 56 10))) (X := X) (show _ ∧ _ from ⟨rfl, rfl⟩)) (by omega) (by decide) (show (parseMethodDescriptor yX0_put.desc).map (fun q => q.parameters.length) = some 2 by decide +kernel) hok (Nat.zero_le _) dX7_tellFields_19 (⟨by decide, by decide, by decide, hs 61 _ rfl, hs 62 _ rfl⟩ : zCe S 61 62 1089).1 (⟨by decide, by decide, by decide, hs 61 _ rfl, hs 62 _ rfl⟩ : zCe S 61 62 1089).2.2.2.1 rfl rfl (fun _ h9 => nomatch h9) ?_
  rintro v9 M9 ⟨e9, e8⟩
  rw [e9, e8]
  clear e9 e8 v9 M9
  show rt_Go _ _ _ _ _ _ _ _ _ _ _ _ 22 [(5, zv s0 0 0), (4, zv s0 0 (e * 33)), (0, zv s0 2 56), (1, zv s0 0 w), (2, zv s0 0 r), (3, zv s0 0 e)] [] (zw s0 ca C S ((zput M 62 1089 (e * 33) (M 56 10))))
  refine z_iconst dX7_tellFields_22 ?_
  refine z_istore (i := 6) (lv' := [(6, zv s0 0 0), (5, zv s0 0 0), (4, zv s0 0 (e * 33)), (0, zv s0 2 56), (1, zv s0 0 w), (2, zv s0 0 r), (3, zv s0 0 e)]) dX7_tellFields_23 (by decide) (by simp [zv_cat0, zv_cat1, zv_cat2, zv_cats]) ?_
  exact rt_lfew [3, 4, 5, 6, 2, 1, 0] rfl h

def zt_X7_tellRecord (l : Launch) (s0 : State) (G : va_G) (ca : Nat → ClassId) (d : Nat) (C : Nat × Nat) (S : zS) (w0 : rt_Wd) (p : Int) (q : Int) (mk : Int) (mka : Int) (w : Int) (r : Int) (e : Int) (M : zM) (Q : Int → zM → Prop) (X : zM → Prop) : Prop :=
  zIf (w32 (((zat M (p + 8) 134 w))) = 0) (zIf (w32 ((zat M 64 134 w)) = w32 (M 56 9)) (zm_X7_putPart l s0 G ca (d - 1) C S 57 ((zat M 66 134 w)) ((zat M 68 134 w)) M (fun r57 M57 => Q 0 M57) X) (zm_X7_tellFields l s0 G ca (d - 1) C S w r e M (fun r76 M76 => Q 0 ((zput ((zput ((zput M76 64 134 w (M76 56 9))) 66 134 w ((M 57 1)))) 68 134 w ((((zput ((zput M76 64 134 w (M76 56 9))) 66 134 w ((M 57 1)))) 57 1))))) X)) (zm_X7_tellFields l s0 G ca (d - 1) C S w r e M (fun r15 M15 => Q 0 M15) X)
set_option maxRecDepth 100000 in
theorem z_X7_tellRecord {l : Launch} {s0 : State} {a0 : Array Value} {G : va_G} {ca : Nat → ClassId} (Γ : rt_Γ l s0 a0 G ca) {d : Nat} {C : Nat × Nat} {S : zS} (hd : 2 ≤ d) (hok : zok C) {p : Int} {q : Int} {mk : Int} {mka : Int} (hs : zSok S) (hp : zSc S p) (hq : zSc S q) (hmk : zCe S mk mka 4096) (hs56 : S 56 = some (0, 7, [(3, 57), (3, 59), (3, 61), (3, 63), (3, 65), (3, 67), (3, mk), (3, p), (3, q), (0, 0), (0, 0), (0, 0)])) {w : Int} {r : Int} {e : Int} {M : zM} {Q : Int → zM → Prop} {X : zM → Prop} (h : zt_X7_tellRecord l s0 G ca d C S (zw s0 ca C S M) p q mk mka w r e M Q X) : zm_X7_tellRecord l s0 G ca d C S  w r e M Q X := by
  refine z_met (lv := [(0, zv s0 2 56), (1, zv s0 0 w), (2, zv s0 0 r), (3, zv s0 0 e)]) Γ kk_X7_tellRecord rfl (show (lg_sl [zv s0 2 56, zv s0 0 w, zv s0 0 r, zv s0 0 e]).length ≤ 5 from by simp only [zn_0, zn_2, show (lg_sl []).length = 0 from rfl]; omega) (show lv_args 0 [zv s0 2 56, zv s0 0 w, zv s0 0 r, zv s0 0 e] = [(0, zv s0 2 56), (1, zv s0 0 w), (2, zv s0 0 r), (3, zv s0 0 e)] from by rw [zl_2, zl_0, zl_0, zl_0]; rfl) ?_
  unfold zt_X7_tellRecord at h
  refine z_aload_n dX7_tellRecord_0 rfl (j := 0) rfl ?_
  refine z_getc Γ kf_RX7_37 dX7_tellRecord_1 (by decide) hs56 rfl ?_
  refine z_iload_n dX7_tellRecord_4 rfl (j := 1) rfl ?_
  refine z_callV Γ kk_X6_width kc_RX7_158 (As := [zv s0 0 w]) (z_X6_width (d := d - 1) Γ (by omega) hok hp (M := M) (Q := fun v9 M9 => v9 = ((zat M (p + 8) 134 w)) ∧ M9 = M) (X := X) (show _ ∧ _ from ⟨rfl, rfl⟩)) (by omega) (by decide) (show (parseMethodDescriptor yX6_width.desc).map (fun q => q.parameters.length) = some 1 by decide +kernel) hok (Nat.zero_le _) dX7_tellRecord_5 hp.1 hp.2.1 rfl rfl (fun _ h9 => nomatch h9) ?_
  rintro v9 M9 ⟨e9, e8⟩
  rw [e9, e8]
  clear e9 e8 v9 M9
  show rt_Go _ _ _ _ _ _ _ _ _ _ _ _ 8 [(0, zv s0 2 56), (1, zv s0 0 w), (2, zv s0 0 r), (3, zv s0 0 e)] [zv s0 0 (((zat M (p + 8) 134 w)))] (zw s0 ca C S M)
  refine z_if_eq (tgt := 21) (x' := w32 (((zat M (p + 8) 134 w)))) rfl dX7_tellRecord_8 (by decide) (fun c8 => ?_) (fun c8 => ?_)
  · replace h := h.1 c8
    refine z_aload_n dX7_tellRecord_21 rfl (j := 0) rfl ?_
    refine z_getc Γ kf_RX7_28 dX7_tellRecord_22 (by decide) hs56 rfl ?_
    refine z_iload_n dX7_tellRecord_25 rfl (j := 1) rfl ?_
    refine z_callV Γ kk_X0_at kc_RX7_95 (As := [zv s0 0 w]) (k_X0_at (d := d - 1) Γ hok (⟨by decide, by decide, by decide, hs 63 _ rfl, hs 64 _ rfl⟩ : zCe S 63 64 134) (M := M) (Q := fun v9 M9 => v9 = (zat M 64 134 w) ∧ M9 = M) (X := X) (show _ ∧ _ from ⟨rfl, rfl⟩)) (by omega) (by decide) (show (parseMethodDescriptor yX0_at.desc).map (fun q => q.parameters.length) = some 1 by decide +kernel) hok (Nat.zero_le _) dX7_tellRecord_26 (⟨by decide, by decide, by decide, hs 63 _ rfl, hs 64 _ rfl⟩ : zCe S 63 64 134).1 (⟨by decide, by decide, by decide, hs 63 _ rfl, hs 64 _ rfl⟩ : zCe S 63 64 134).2.2.2.1 rfl rfl (fun _ h9 => nomatch h9) ?_
    rintro v9 M9 ⟨e9, e8⟩
    rw [e9, e8]
    clear e9 e8 v9 M9
    show rt_Go _ _ _ _ _ _ _ _ _ _ _ _ 29 [(0, zv s0 2 56), (1, zv s0 0 w), (2, zv s0 0 r), (3, zv s0 0 e)] [zv s0 0 ((zat M 64 134 w))] (zw s0 ca C S M)
    refine z_aload_n dX7_tellRecord_29 rfl (j := 0) rfl ?_
    refine z_get Γ kf_RX7_55 dX7_tellRecord_30 (by decide) hs56 rfl (by decide) (v9 := M 56 9) rfl ?_
    refine z_icmp_ne (tgt := 63) (x' := w32 ((zat M 64 134 w))) (y' := w32 (M 56 9)) rfl rfl dX7_tellRecord_33 (by decide) (fun c33 => ?_) (fun c33 => ?_)
    · replace h := h.2 c33
      refine z_aload_n dX7_tellRecord_63 rfl (j := 0) rfl ?_
      refine z_getc Γ kf_RX7_14 dX7_tellRecord_64 (by decide) hs56 rfl ?_
      refine z_callV Γ kk_X0_count kc_RX7_164 (As := []) (k_X0_count (d := d - 1) Γ hok (⟨by decide, by decide, by decide, hs 57 _ rfl, hs 58 _ rfl⟩ : zCe S 57 58 4096) (M := M) (Q := fun v9 M9 => v9 = (M 57 1) ∧ M9 = M) (X := X) (show _ ∧ _ from ⟨rfl, rfl⟩)) (by omega) (by decide) (show (parseMethodDescriptor yX0_count.desc).map (fun q => q.parameters.length) = some 0 by decide +kernel) hok (Nat.zero_le _) dX7_tellRecord_67 (⟨by decide, by decide, by decide, hs 57 _ rfl, hs 58 _ rfl⟩ : zCe S 57 58 4096).1 (⟨by decide, by decide, by decide, hs 57 _ rfl, hs 58 _ rfl⟩ : zCe S 57 58 4096).2.2.2.1 rfl rfl (fun _ h9 => nomatch h9) ?_
      rintro v9 M9 ⟨e9, e8⟩
      rw [e9, e8]
      clear e9 e8 v9 M9
      show rt_Go _ _ _ _ _ _ _ _ _ _ _ _ 70 [(0, zv s0 2 56), (1, zv s0 0 w), (2, zv s0 0 r), (3, zv s0 0 e)] [zv s0 0 ((M 57 1))] (zw s0 ca C S M)
      refine z_istore (i := 4) (lv' := [(4, zv s0 0 ((M 57 1))), (0, zv s0 2 56), (1, zv s0 0 w), (2, zv s0 0 r), (3, zv s0 0 e)]) dX7_tellRecord_70 (by decide) (by simp [zv_cat0, zv_cat1, zv_cat2, zv_cats]) ?_
      refine z_aload_n dX7_tellRecord_72 rfl (j := 1) rfl ?_
      refine z_iload_n dX7_tellRecord_73 rfl (j := 2) rfl ?_
      refine z_iload_n dX7_tellRecord_74 rfl (j := 3) rfl ?_
      refine z_iload_n dX7_tellRecord_75 rfl (j := 4) rfl ?_
      refine z_callV Γ kk_X7_tellFields kc_RX7_161 (As := [zv s0 0 w, zv s0 0 r, zv s0 0 e]) h (by omega) (by decide) (show (parseMethodDescriptor yX7_tellFields.desc).map (fun q => q.parameters.length) = some 3 by decide +kernel) hok (Nat.zero_le _) dX7_tellRecord_76 (by decide) hs56 rfl rfl (fun _ h9 => nomatch h9) ?_
      clear h
      intro r76 M76 h
      show rt_Go _ _ _ _ _ _ _ _ _ _ _ _ 79 [(4, zv s0 0 ((M 57 1))), (0, zv s0 2 56), (1, zv s0 0 w), (2, zv s0 0 r), (3, zv s0 0 e)] [] (zw s0 ca C S M76)
      refine z_aload_n dX7_tellRecord_79 rfl (j := 1) rfl ?_
      refine z_getc Γ kf_RX7_28 dX7_tellRecord_80 (by decide) hs56 rfl ?_
      refine z_iload_n dX7_tellRecord_83 rfl (j := 2) rfl ?_
      refine z_aload_n dX7_tellRecord_84 rfl (j := 1) rfl ?_
      refine z_get Γ kf_RX7_55 dX7_tellRecord_85 (by decide) hs56 rfl (by decide) (v9 := M76 56 9) rfl ?_
      refine z_callV Γ kk_X0_put kc_RX7_48 (As := [zv s0 0 w, zv s0 0 (M76 56 9)]) (k_X0_put (d := d - 1) Γ hok (⟨by decide, by decide, by decide, hs 63 _ rfl, hs 64 _ rfl⟩ : zCe S 63 64 134) (M := M76) (Q := fun v9 M9 => v9 = 0 ∧ M9 = (zput M76 64 134 w (M76 56 9))) (X := X) (show _ ∧ _ from ⟨rfl, rfl⟩)) (by omega) (by decide) (show (parseMethodDescriptor yX0_put.desc).map (fun q => q.parameters.length) = some 2 by decide +kernel) hok (Nat.zero_le _) dX7_tellRecord_88 (⟨by decide, by decide, by decide, hs 63 _ rfl, hs 64 _ rfl⟩ : zCe S 63 64 134).1 (⟨by decide, by decide, by decide, hs 63 _ rfl, hs 64 _ rfl⟩ : zCe S 63 64 134).2.2.2.1 rfl rfl (fun _ h9 => nomatch h9) ?_
      rintro v9 M9 ⟨e9, e8⟩
      rw [e9, e8]
      clear e9 e8 v9 M9
      show rt_Go _ _ _ _ _ _ _ _ _ _ _ _ 91 [(4, zv s0 0 ((M 57 1))), (0, zv s0 2 56), (1, zv s0 0 w), (2, zv s0 0 r), (3, zv s0 0 e)] [] (zw s0 ca C S ((zput M76 64 134 w (M76 56 9))))
      refine z_aload_n dX7_tellRecord_91 rfl (j := 1) rfl ?_
      refine z_getc Γ kf_RX7_31 dX7_tellRecord_92 (by decide) hs56 rfl ?_
      refine z_iload_n dX7_tellRecord_95 rfl (j := 2) rfl ?_
      refine z_iload dX7_tellRecord_96 (j := 0) rfl ?_
      refine z_callV Γ kk_X0_put kc_RX7_48 (As := [zv s0 0 w, zv s0 0 ((M 57 1))]) (k_X0_put (d := d - 1) Γ hok (⟨by decide, by decide, by decide, hs 65 _ rfl, hs 66 _ rfl⟩ : zCe S 65 66 134) (M := ((zput M76 64 134 w (M76 56 9)))) (Q := fun v9 M9 => v9 = 0 ∧ M9 = (zput ((zput M76 64 134 w (M76 56 9))) 66 134 w ((M 57 1)))) (X := X) (show _ ∧ _ from ⟨rfl, rfl⟩)) (by omega) (by decide) (show (parseMethodDescriptor yX0_put.desc).map (fun q => q.parameters.length) = some 2 by decide +kernel) hok (Nat.zero_le _) dX7_tellRecord_98 (⟨by decide, by decide, by decide, hs 65 _ rfl, hs 66 _ rfl⟩ : zCe S 65 66 134).1 (⟨by decide, by decide, by decide, hs 65 _ rfl, hs 66 _ rfl⟩ : zCe S 65 66 134).2.2.2.1 rfl rfl (fun _ h9 => nomatch h9) ?_
      rintro v9 M9 ⟨e9, e8⟩
      rw [e9, e8]
      clear e9 e8 v9 M9
      show rt_Go _ _ _ _ _ _ _ _ _ _ _ _ 101 [(4, zv s0 0 ((M 57 1))), (0, zv s0 2 56), (1, zv s0 0 w), (2, zv s0 0 r), (3, zv s0 0 e)] [] (zw s0 ca C S ((zput ((zput M76 64 134 w (M76 56 9))) 66 134 w ((M 57 1)))))
      refine z_aload_n dX7_tellRecord_101 rfl (j := 1) rfl ?_
      refine z_getc Γ kf_RX7_34 dX7_tellRecord_102 (by decide) hs56 rfl ?_
      refine z_iload_n dX7_tellRecord_105 rfl (j := 2) rfl ?_
      refine z_aload_n dX7_tellRecord_106 rfl (j := 1) rfl ?_
      refine z_getc Γ kf_RX7_14 dX7_tellRecord_107 (by decide) hs56 rfl ?_
      refine z_callV Γ kk_X0_count kc_RX7_164 (As := []) (k_X0_count (d := d - 1) Γ hok (⟨by decide, by decide, by decide, hs 57 _ rfl, hs 58 _ rfl⟩ : zCe S 57 58 4096) (M := ((zput ((zput M76 64 134 w (M76 56 9))) 66 134 w ((M 57 1))))) (Q := fun v9 M9 => v9 = (((zput ((zput M76 64 134 w (M76 56 9))) 66 134 w ((M 57 1)))) 57 1) ∧ M9 = ((zput ((zput M76 64 134 w (M76 56 9))) 66 134 w ((M 57 1))))) (X := X) (show _ ∧ _ from ⟨rfl, rfl⟩)) (by omega) (by decide) (show (parseMethodDescriptor yX0_count.desc).map (fun q => q.parameters.length) = some 0 by decide +kernel) hok (by simp only [List.map, zv_cat0, zv_cat1, zv_cat2, List.sum_cons, List.sum_nil]; decide) dX7_tellRecord_110 (⟨by decide, by decide, by decide, hs 57 _ rfl, hs 58 _ rfl⟩ : zCe S 57 58 4096).1 (⟨by decide, by decide, by decide, hs 57 _ rfl, hs 58 _ rfl⟩ : zCe S 57 58 4096).2.2.2.1 rfl rfl (fun _ h9 => nomatch h9) ?_
      rintro v9 M9 ⟨e9, e8⟩
      rw [e9, e8]
      clear e9 e8 v9 M9
      show rt_Go _ _ _ _ _ _ _ _ _ _ _ _ 113 [(4, zv s0 0 ((M 57 1))), (0, zv s0 2 56), (1, zv s0 0 w), (2, zv s0 0 r), (3, zv s0 0 e)] [zv s0 0 ((((zput ((zput M76 64 134 w (M76 56 9))) 66 134 w ((M 57 1)))) 57 1)), zv s0 0 w, zv s0 2 67] (zw s0 ca C S ((zput ((zput M76 64 134 w (M76 56 9))) 66 134 w ((M 57 1)))))
      refine z_callV Γ kk_X0_put kc_RX7_48 (As := [zv s0 0 w, zv s0 0 ((((zput ((zput M76 64 134 w (M76 56 9))) 66 134 w ((M 57 1)))) 57 1))]) (k_X0_put (d := d - 1) Γ hok (⟨by decide, by decide, by decide, hs 67 _ rfl, hs 68 _ rfl⟩ : zCe S 67 68 134) (M := ((zput ((zput M76 64 134 w (M76 56 9))) 66 134 w ((M 57 1))))) (Q := fun v9 M9 => v9 = 0 ∧ M9 = (zput ((zput ((zput M76 64 134 w (M76 56 9))) 66 134 w ((M 57 1)))) 68 134 w ((((zput ((zput M76 64 134 w (M76 56 9))) 66 134 w ((M 57 1)))) 57 1)))) (X := X) (show _ ∧ _ from ⟨rfl, rfl⟩)) (by omega) (by decide) (show (parseMethodDescriptor yX0_put.desc).map (fun q => q.parameters.length) = some 2 by decide +kernel) hok (Nat.zero_le _) dX7_tellRecord_113 (⟨by decide, by decide, by decide, hs 67 _ rfl, hs 68 _ rfl⟩ : zCe S 67 68 134).1 (⟨by decide, by decide, by decide, hs 67 _ rfl, hs 68 _ rfl⟩ : zCe S 67 68 134).2.2.2.1 rfl rfl (fun _ h9 => nomatch h9) ?_
      rintro v9 M9 ⟨e9, e8⟩
      rw [e9, e8]
      clear e9 e8 v9 M9
      show rt_Go _ _ _ _ _ _ _ _ _ _ _ _ 116 [(4, zv s0 0 ((M 57 1))), (0, zv s0 2 56), (1, zv s0 0 w), (2, zv s0 0 r), (3, zv s0 0 e)] [] (zw s0 ca C S ((zput ((zput ((zput M76 64 134 w (M76 56 9))) 66 134 w ((M 57 1)))) 68 134 w ((((zput ((zput M76 64 134 w (M76 56 9))) 66 134 w ((M 57 1)))) 57 1)))))
      exact z_vret dX7_tellRecord_116 rfl h
    · replace h := h.1 c33
      refine z_aload_n dX7_tellRecord_36 rfl (j := 0) rfl ?_
      refine z_aload_n dX7_tellRecord_37 rfl (j := 0) rfl ?_
      refine z_getc Γ kf_RX7_14 dX7_tellRecord_38 (by decide) hs56 rfl ?_
      refine z_aload_n dX7_tellRecord_41 rfl (j := 0) rfl ?_
      refine z_getc Γ kf_RX7_31 dX7_tellRecord_42 (by decide) hs56 rfl ?_
      refine z_iload_n dX7_tellRecord_45 rfl (j := 1) rfl ?_
      refine z_callV Γ kk_X0_at kc_RX7_95 (As := [zv s0 0 w]) (k_X0_at (d := d - 1) Γ hok (⟨by decide, by decide, by decide, hs 65 _ rfl, hs 66 _ rfl⟩ : zCe S 65 66 134) (M := M) (Q := fun v9 M9 => v9 = (zat M 66 134 w) ∧ M9 = M) (X := X) (show _ ∧ _ from ⟨rfl, rfl⟩)) (by omega) (by decide) (show (parseMethodDescriptor yX0_at.desc).map (fun q => q.parameters.length) = some 1 by decide +kernel) hok (by simp only [List.map, zv_cat0, zv_cat1, zv_cat2, List.sum_cons, List.sum_nil]; decide) dX7_tellRecord_46 (⟨by decide, by decide, by decide, hs 65 _ rfl, hs 66 _ rfl⟩ : zCe S 65 66 134).1 (⟨by decide, by decide, by decide, hs 65 _ rfl, hs 66 _ rfl⟩ : zCe S 65 66 134).2.2.2.1 rfl rfl (fun _ h9 => nomatch h9) ?_
      rintro v9 M9 ⟨e9, e8⟩
      rw [e9, e8]
      clear e9 e8 v9 M9
      show rt_Go _ _ _ _ _ _ _ _ _ _ _ _ 49 [(0, zv s0 2 56), (1, zv s0 0 w), (2, zv s0 0 r), (3, zv s0 0 e)] [zv s0 0 ((zat M 66 134 w)), zv s0 2 57, zv s0 2 56] (zw s0 ca C S M)
      refine z_aload_n dX7_tellRecord_49 rfl (j := 0) rfl ?_
      refine z_getc Γ kf_RX7_34 dX7_tellRecord_50 (by decide) hs56 rfl ?_
      refine z_iload_n dX7_tellRecord_53 rfl (j := 1) rfl ?_
      refine z_callV Γ kk_X0_at kc_RX7_95 (As := [zv s0 0 w]) (k_X0_at (d := d - 1) Γ hok (⟨by decide, by decide, by decide, hs 67 _ rfl, hs 68 _ rfl⟩ : zCe S 67 68 134) (M := M) (Q := fun v9 M9 => v9 = (zat M 68 134 w) ∧ M9 = M) (X := X) (show _ ∧ _ from ⟨rfl, rfl⟩)) (by omega) (by decide) (show (parseMethodDescriptor yX0_at.desc).map (fun q => q.parameters.length) = some 1 by decide +kernel) hok (by simp only [List.map, zv_cat0, zv_cat1, zv_cat2, List.sum_cons, List.sum_nil]; decide) dX7_tellRecord_54 (⟨by decide, by decide, by decide, hs 67 _ rfl, hs 68 _ rfl⟩ : zCe S 67 68 134).1 (⟨by decide, by decide, by decide, hs 67 _ rfl, hs 68 _ rfl⟩ : zCe S 67 68 134).2.2.2.1 rfl rfl (fun _ h9 => nomatch h9) ?_
      rintro v9 M9 ⟨e9, e8⟩
      rw [e9, e8]
      clear e9 e8 v9 M9
      show rt_Go _ _ _ _ _ _ _ _ _ _ _ _ 57 [(0, zv s0 2 56), (1, zv s0 0 w), (2, zv s0 0 r), (3, zv s0 0 e)] [zv s0 0 ((zat M 68 134 w)), zv s0 0 ((zat M 66 134 w)), zv s0 2 57, zv s0 2 56] (zw s0 ca C S M)
      refine z_callV Γ kk_X7_putPart kc_RX7_135 (As := [zv s0 2 57, zv s0 0 ((zat M 66 134 w)), zv s0 0 ((zat M 68 134 w))]) h (by omega) (by decide) (show (parseMethodDescriptor yX7_putPart.desc).map (fun q => q.parameters.length) = some 3 by decide +kernel) hok (Nat.zero_le _) dX7_tellRecord_57 (by decide) hs56 rfl rfl (fun _ h9 => nomatch h9) ?_
      clear h
      intro r57 M57 h
      show rt_Go _ _ _ _ _ _ _ _ _ _ _ _ 60 [(0, zv s0 2 56), (1, zv s0 0 w), (2, zv s0 0 r), (3, zv s0 0 e)] [] (zw s0 ca C S M57)
      refine rt_goto (tgt := 116) dX7_tellRecord_60 (by decide) ?_
      exact z_vret dX7_tellRecord_116 rfl h
  · replace h := h.2 c8
    refine z_aload_n dX7_tellRecord_11 rfl (j := 0) rfl ?_
    refine z_iload_n dX7_tellRecord_12 rfl (j := 1) rfl ?_
    refine z_iload_n dX7_tellRecord_13 rfl (j := 2) rfl ?_
    refine z_iload_n dX7_tellRecord_14 rfl (j := 3) rfl ?_
    refine z_callV Γ kk_X7_tellFields kc_RX7_161 (As := [zv s0 0 w, zv s0 0 r, zv s0 0 e]) h (by omega) (by decide) (show (parseMethodDescriptor yX7_tellFields.desc).map (fun q => q.parameters.length) = some 3 by decide +kernel) hok (Nat.zero_le _) dX7_tellRecord_15 (by decide) hs56 rfl rfl (fun _ h9 => nomatch h9) ?_
    clear h
    intro r15 M15 h
    show rt_Go _ _ _ _ _ _ _ _ _ _ _ _ 18 [(0, zv s0 2 56), (1, zv s0 0 w), (2, zv s0 0 r), (3, zv s0 0 e)] [] (zw s0 ca C S M15)
    refine rt_goto (tgt := 116) dX7_tellRecord_18 (by decide) ?_
    exact z_vret dX7_tellRecord_116 rfl h

abbrev zg_X7_tellItems_23 (l : Launch) (s0 : State) (G : va_G) (ca : Nat → ClassId) (d : Nat) (C : Nat × Nat) (S : zS) (w0 : rt_Wd) (p : Int) (q : Int) (mk : Int) (mka : Int) (v1 : Int) (v2 : Int) (v3 : Int) (v4 : Int) (v6 : Int)  (M : zM) (Q : Int → zM → Prop) (X : zM → Prop) : Prop := rt_Go l s0 G RX7 "tellItems" cX7_tellItems 8 (Option.none : Option FieldType) [] d w0 (zQ s0 ca 9 C S Q X) 23 [(0, zv s0 2 56), (1, zv s0 0 v1), (2, zv s0 0 v2), (3, zv s0 0 v3), (4, zv s0 1 v4), (6, zv s0 0 v6)] [] (zw s0 ca C S M)
abbrev zg_X7_tellItems_86 (l : Launch) (s0 : State) (G : va_G) (ca : Nat → ClassId) (d : Nat) (C : Nat × Nat) (S : zS) (w0 : rt_Wd) (p : Int) (q : Int) (mk : Int) (mka : Int) (v1 : Int) (v2 : Int) (v3 : Int) (v4 : Int) (v6 : Int)  (M : zM) (Q : Int → zM → Prop) (X : zM → Prop) : Prop := rt_Go l s0 G RX7 "tellItems" cX7_tellItems 8 (Option.none : Option FieldType) [] d w0 (zQ s0 ca 9 C S Q X) 86 [(0, zv s0 2 56), (1, zv s0 0 v1), (2, zv s0 0 v2), (3, zv s0 0 v3), (4, zv s0 1 v4), (6, zv s0 0 v6)] [] (zw s0 ca C S M)
abbrev zg_X7_tellItems_122 (l : Launch) (s0 : State) (G : va_G) (ca : Nat → ClassId) (d : Nat) (C : Nat × Nat) (S : zS) (w0 : rt_Wd) (p : Int) (q : Int) (mk : Int) (mka : Int)   (M : zM) (Q : Int → zM → Prop) (X : zM → Prop) : Prop := rt_Go l s0 G RX7 "tellItems" cX7_tellItems 8 (Option.none : Option FieldType) [] d w0 (zQ s0 ca 9 C S Q X) 122 [(0, zv s0 2 56)] [] (zw s0 ca C S M)
def zt_X7_tellItems_122 (l : Launch) (s0 : State) (G : va_G) (ca : Nat → ClassId) (d : Nat) (C : Nat × Nat) (S : zS) (w0 : rt_Wd) (p : Int) (q : Int) (mk : Int) (mka : Int)   (M : zM) (Q : Int → zM → Prop) (X : zM → Prop) : Prop :=
  zIf (w32 (M 56 11) = 0) (zm_X7_varint l s0 G ca (d - 1) C S  M (fun r131 M131 => zm_X7_put l s0 G ca (d - 1) C S r131 M131 (fun r134 M134 => Q 0 M134) X) X) (Q 0 M)
set_option maxRecDepth 100000 in
theorem zs_X7_tellItems_122 {l : Launch} {s0 : State} {a0 : Array Value} {G : va_G} {ca : Nat → ClassId} (Γ : rt_Γ l s0 a0 G ca) {d : Nat} {C : Nat × Nat} {S : zS} (hd : 2 ≤ d) (hok : zok C) {p : Int} {q : Int} {mk : Int} {mka : Int} (hs : zSok S) (hp : zSc S p) (hq : zSc S q) (hmk : zCe S mk mka 4096) (hs56 : S 56 = some (0, 7, [(3, 57), (3, 59), (3, 61), (3, 63), (3, 65), (3, 67), (3, mk), (3, p), (3, q), (0, 0), (0, 0), (0, 0)])) {w0 : rt_Wd}    {M : zM} {Q : Int → zM → Prop} {X : zM → Prop} (h : zt_X7_tellItems_122 l s0 G ca d C S w0 p q mk mka  M Q X) : zg_X7_tellItems_122 l s0 G ca d C S w0 p q mk mka  M Q X := by
  unfold zt_X7_tellItems_122 at h
  refine z_aload_n dX7_tellItems_122 rfl (j := 0) rfl ?_
  refine z_get Γ kf_RX7_59 dX7_tellItems_123 (by decide) hs56 rfl (by decide) (v9 := M 56 11) rfl ?_
  refine z_if_ne (tgt := 137) (x' := w32 (M 56 11)) rfl dX7_tellItems_126 (by decide) (fun c126 => ?_) (fun c126 => ?_)
  · replace h := h.2 c126
    exact z_vret dX7_tellItems_137 rfl h
  · replace h := h.1 c126
    refine z_aload_n dX7_tellItems_129 rfl (j := 0) rfl ?_
    refine z_aload_n dX7_tellItems_130 rfl (j := 0) rfl ?_
    refine z_callV Γ kk_X7_varint kc_RX7_101 (As := []) h (by omega) (by decide) (show (parseMethodDescriptor yX7_varint.desc).map (fun q => q.parameters.length) = some 0 by decide +kernel) hok (by simp only [List.map, zv_cat0, zv_cat1, zv_cat2, List.sum_cons, List.sum_nil]; decide) dX7_tellItems_131 (by decide) hs56 rfl rfl (fun _ h9 => nomatch h9) ?_
    clear h
    intro r131 M131 h
    show rt_Go _ _ _ _ _ _ _ _ _ _ _ _ 134 [(0, zv s0 2 56)] [zv s0 1 r131, zv s0 2 56] (zw s0 ca C S M131)
    refine z_callV Γ kk_X7_put kc_RX7_116 (As := [zv s0 1 r131]) h (by omega) (by decide) (show (parseMethodDescriptor yX7_put.desc).map (fun q => q.parameters.length) = some 1 by decide +kernel) hok (Nat.zero_le _) dX7_tellItems_134 (by decide) hs56 rfl rfl (fun _ h9 => nomatch h9) ?_
    clear h
    intro r134 M134 h
    show rt_Go _ _ _ _ _ _ _ _ _ _ _ _ 137 [(0, zv s0 2 56)] [] (zw s0 ca C S M134)
    exact z_vret dX7_tellItems_137 rfl h

def zt_X7_tellItems_86 (l : Launch) (s0 : State) (G : va_G) (ca : Nat → ClassId) (d : Nat) (C : Nat × Nat) (S : zS) (w0 : rt_Wd) (p : Int) (q : Int) (mk : Int) (mka : Int) (v1 : Int) (v2 : Int) (v3 : Int) (v4 : Int) (v6 : Int)  (M : zM) (Q : Int → zM → Prop) (X : zM → Prop) : Prop :=
  zIf (w32 (M 56 11) = 0) (zm_X7_tellDatum l s0 G ca (d - 1) C S (((zat M (p + 6) 134 v1))) (((zat M (q + 6) 134 v2))) (v3 + 1) M (fun r113 M113 => zg_X7_tellItems_23 l s0 G ca d C S w0 p q mk mka v1 v2 v3 v4 (v6 + 1) M113 Q X) X) (zg_X7_tellItems_23 l s0 G ca d C S w0 p q mk mka v1 v2 v3 v4 (v6 + 1) M Q X)
set_option maxRecDepth 100000 in
theorem zs_X7_tellItems_86 {l : Launch} {s0 : State} {a0 : Array Value} {G : va_G} {ca : Nat → ClassId} (Γ : rt_Γ l s0 a0 G ca) {d : Nat} {C : Nat × Nat} {S : zS} (hd : 2 ≤ d) (hok : zok C) {p : Int} {q : Int} {mk : Int} {mka : Int} (hs : zSok S) (hp : zSc S p) (hq : zSc S q) (hmk : zCe S mk mka 4096) (hs56 : S 56 = some (0, 7, [(3, 57), (3, 59), (3, 61), (3, 63), (3, 65), (3, 67), (3, mk), (3, p), (3, q), (0, 0), (0, 0), (0, 0)])) {w0 : rt_Wd} {v1 : Int} {v2 : Int} {v3 : Int} {v4 : Int} {v6 : Int}   {M : zM} {Q : Int → zM → Prop} {X : zM → Prop} (h : zt_X7_tellItems_86 l s0 G ca d C S w0 p q mk mka v1 v2 v3 v4 v6 M Q X) : zg_X7_tellItems_86 l s0 G ca d C S w0 p q mk mka v1 v2 v3 v4 v6 M Q X := by
  unfold zt_X7_tellItems_86 at h
  refine z_aload_n dX7_tellItems_86 rfl (j := 0) rfl ?_
  refine z_get Γ kf_RX7_59 dX7_tellItems_87 (by decide) hs56 rfl (by decide) (v9 := M 56 11) rfl ?_
  refine z_if_ne (tgt := 116) (x' := w32 (M 56 11)) rfl dX7_tellItems_90 (by decide) (fun c90 => ?_) (fun c90 => ?_)
  · replace h := h.2 c90
    refine z_iinc (lv' := [(6, zv s0 0 (v6 + 1)), (0, zv s0 2 56), (1, zv s0 0 v1), (2, zv s0 0 v2), (3, zv s0 0 v3), (4, zv s0 1 v4)]) dX7_tellItems_116 (j := 5) rfl (by decide) (by simp [zv_cat0, zv_cat1, zv_cat2, zv_cats]) ?_
    refine rt_goto (tgt := 23) dX7_tellItems_119 (by decide) ?_
    exact rt_lfew [1, 2, 3, 4, 5, 0] rfl h
  · replace h := h.1 c90
    refine z_aload_n dX7_tellItems_93 rfl (j := 0) rfl ?_
    refine z_aload_n dX7_tellItems_94 rfl (j := 0) rfl ?_
    refine z_getc Γ kf_RX7_37 dX7_tellItems_95 (by decide) hs56 rfl ?_
    refine z_iload_n dX7_tellItems_98 rfl (j := 1) rfl ?_
    refine z_callV Γ kk_X6_item kc_RX7_155 (As := [zv s0 0 v1]) (z_X6_item (d := d - 1) Γ (by omega) hok hp (M := M) (Q := fun v9 M9 => v9 = ((zat M (p + 6) 134 v1)) ∧ M9 = M) (X := X) (show _ ∧ _ from ⟨rfl, rfl⟩)) (by omega) (by decide) (show (parseMethodDescriptor yX6_item.desc).map (fun q => q.parameters.length) = some 1 by decide +kernel) hok (by simp only [List.map, zv_cat0, zv_cat1, zv_cat2, List.sum_cons, List.sum_nil]; decide) dX7_tellItems_99 hp.1 hp.2.1 rfl rfl (fun _ h9 => nomatch h9) ?_
    rintro v9 M9 ⟨e9, e8⟩
    rw [e9, e8]
    clear e9 e8 v9 M9
    show rt_Go _ _ _ _ _ _ _ _ _ _ _ _ 102 [(0, zv s0 2 56), (1, zv s0 0 v1), (2, zv s0 0 v2), (3, zv s0 0 v3), (4, zv s0 1 v4), (6, zv s0 0 v6)] [zv s0 0 (((zat M (p + 6) 134 v1))), zv s0 2 56] (zw s0 ca C S M)
    refine z_aload_n dX7_tellItems_102 rfl (j := 0) rfl ?_
    refine z_getc Γ kf_RX7_41 dX7_tellItems_103 (by decide) hs56 rfl ?_
    refine z_iload_n dX7_tellItems_106 rfl (j := 2) rfl ?_
    refine z_callV Γ kk_X6_item kc_RX7_155 (As := [zv s0 0 v2]) (z_X6_item (d := d - 1) Γ (by omega) hok hq (M := M) (Q := fun v9 M9 => v9 = ((zat M (q + 6) 134 v2)) ∧ M9 = M) (X := X) (show _ ∧ _ from ⟨rfl, rfl⟩)) (by omega) (by decide) (show (parseMethodDescriptor yX6_item.desc).map (fun q => q.parameters.length) = some 1 by decide +kernel) hok (by simp only [List.map, zv_cat0, zv_cat1, zv_cat2, List.sum_cons, List.sum_nil]; decide) dX7_tellItems_107 hq.1 hq.2.1 rfl rfl (fun _ h9 => nomatch h9) ?_
    rintro v9 M9 ⟨e9, e8⟩
    rw [e9, e8]
    clear e9 e8 v9 M9
    show rt_Go _ _ _ _ _ _ _ _ _ _ _ _ 110 [(0, zv s0 2 56), (1, zv s0 0 v1), (2, zv s0 0 v2), (3, zv s0 0 v3), (4, zv s0 1 v4), (6, zv s0 0 v6)] [zv s0 0 (((zat M (q + 6) 134 v2))), zv s0 0 (((zat M (p + 6) 134 v1))), zv s0 2 56] (zw s0 ca C S M)
    refine z_iload_n dX7_tellItems_110 rfl (j := 3) rfl ?_
    refine z_iconst dX7_tellItems_111 ?_
    refine z_iadd dX7_tellItems_112 ?_
    refine z_callV Γ kk_X7_tellDatum kc_RX7_80 (As := [zv s0 0 (((zat M (p + 6) 134 v1))), zv s0 0 (((zat M (q + 6) 134 v2))), zv s0 0 (v3 + 1)]) h (by omega) (by decide) (show (parseMethodDescriptor yX7_tellDatum.desc).map (fun q => q.parameters.length) = some 3 by decide +kernel) hok (Nat.zero_le _) dX7_tellItems_113 (by decide) hs56 rfl rfl (fun _ h9 => nomatch h9) ?_
    clear h
    intro r113 M113 h
    show rt_Go _ _ _ _ _ _ _ _ _ _ _ _ 116 [(0, zv s0 2 56), (1, zv s0 0 v1), (2, zv s0 0 v2), (3, zv s0 0 v3), (4, zv s0 1 v4), (6, zv s0 0 v6)] [] (zw s0 ca C S M113)
    refine z_iinc (lv' := [(6, zv s0 0 (v6 + 1)), (0, zv s0 2 56), (1, zv s0 0 v1), (2, zv s0 0 v2), (3, zv s0 0 v3), (4, zv s0 1 v4)]) dX7_tellItems_116 (j := 5) rfl (by decide) (by simp [zv_cat0, zv_cat1, zv_cat2, zv_cats]) ?_
    refine rt_goto (tgt := 23) dX7_tellItems_119 (by decide) ?_
    exact rt_lfew [1, 2, 3, 4, 5, 0] rfl h

def zt_X7_tellItems_23 (l : Launch) (s0 : State) (G : va_G) (ca : Nat → ClassId) (d : Nat) (C : Nat × Nat) (S : zS) (w0 : rt_Wd) (p : Int) (q : Int) (mk : Int) (mka : Int) (v1 : Int) (v2 : Int) (v3 : Int) (v4 : Int) (v6 : Int)  (M : zM) (Q : Int → zM → Prop) (X : zM → Prop) : Prop :=
  zIf (w64 v4 ≤ w64 (w32 v6)) (zt_X7_tellItems_122 l s0 G ca d C S w0 p q mk mka  M Q X) (zIf (2000 ≤ w32 v6) (zt_X7_tellItems_122 l s0 G ca d C S w0 p q mk mka  M Q X) (zIf (w32 (M 56 11) = 0) (zIf (w32 (((zat M (p + 2) 134 v1))) = 7) (zm_X7_skip l s0 G ca (d - 1) C S 5 v3 M (fun r69 M69 => zm_X7_putPart l s0 G ca (d - 1) C S mk (M 56 10) (M69 56 10) M69 (fun r83 M83 => zt_X7_tellItems_86 l s0 G ca d C S w0 p q mk mka v1 v2 v3 v4 v6 M83 Q X) X) X) (zt_X7_tellItems_86 l s0 G ca d C S w0 p q mk mka v1 v2 v3 v4 v6 M Q X)) (zt_X7_tellItems_122 l s0 G ca d C S w0 p q mk mka  M Q X)))
set_option maxRecDepth 100000 in
theorem zs_X7_tellItems_23 {l : Launch} {s0 : State} {a0 : Array Value} {G : va_G} {ca : Nat → ClassId} (Γ : rt_Γ l s0 a0 G ca) {d : Nat} {C : Nat × Nat} {S : zS} (hd : 2 ≤ d) (hok : zok C) {p : Int} {q : Int} {mk : Int} {mka : Int} (hs : zSok S) (hp : zSc S p) (hq : zSc S q) (hmk : zCe S mk mka 4096) (hs56 : S 56 = some (0, 7, [(3, 57), (3, 59), (3, 61), (3, 63), (3, 65), (3, 67), (3, mk), (3, p), (3, q), (0, 0), (0, 0), (0, 0)])) {w0 : rt_Wd} {v1 : Int} {v2 : Int} {v3 : Int} {v4 : Int} {v6 : Int}   {M : zM} {Q : Int → zM → Prop} {X : zM → Prop} (h : zt_X7_tellItems_23 l s0 G ca d C S w0 p q mk mka v1 v2 v3 v4 v6 M Q X) : zg_X7_tellItems_23 l s0 G ca d C S w0 p q mk mka v1 v2 v3 v4 v6 M Q X := by
  unfold zt_X7_tellItems_23 at h
  refine z_iload dX7_tellItems_23 (j := 5) rfl ?_
  refine z_i2l dX7_tellItems_25 ?_
  refine z_lload dX7_tellItems_26 (j := 4) rfl ?_
  refine z_lif_ge (tgt := 122) (x' := w64 (w32 v6)) (y' := w64 v4) rfl rfl dX7_tellItems_28 dX7_tellItems_29 (by decide) (fun c28 => ?_) (fun c28 => ?_)
  · replace h := h.1 c28
    exact rt_lfew [0] rfl (zs_X7_tellItems_122 Γ hd hok hs hp hq hmk hs56  h)
  · replace h := h.2 c28
    refine z_iload dX7_tellItems_32 (j := 5) rfl ?_
    refine z_sipush dX7_tellItems_34 (by decide) ?_
    refine z_icmp_ge (tgt := 122) (x' := w32 v6) (y' := 2000) rfl (by decide) dX7_tellItems_37 (by decide) (fun c37 => ?_) (fun c37 => ?_)
    · replace h := h.1 c37
      exact rt_lfew [0] rfl (zs_X7_tellItems_122 Γ hd hok hs hp hq hmk hs56  h)
    · replace h := h.2 c37
      refine z_aload_n dX7_tellItems_40 rfl (j := 0) rfl ?_
      refine z_get Γ kf_RX7_59 dX7_tellItems_41 (by decide) hs56 rfl (by decide) (v9 := M 56 11) rfl ?_
      refine z_if_ne (tgt := 122) (x' := w32 (M 56 11)) rfl dX7_tellItems_44 (by decide) (fun c44 => ?_) (fun c44 => ?_)
      · replace h := h.2 c44
        exact rt_lfew [0] rfl (zs_X7_tellItems_122 Γ hd hok hs hp hq hmk hs56  h)
      · replace h := h.1 c44
        refine z_aload_n dX7_tellItems_47 rfl (j := 0) rfl ?_
        refine z_getc Γ kf_RX7_37 dX7_tellItems_48 (by decide) hs56 rfl ?_
        refine z_iload_n dX7_tellItems_51 rfl (j := 1) rfl ?_
        refine z_callV Γ kk_X6_kind kc_RX7_98 (As := [zv s0 0 v1]) (z_X6_kind (d := d - 1) Γ (by omega) hok hp (M := M) (Q := fun v9 M9 => v9 = ((zat M (p + 2) 134 v1)) ∧ M9 = M) (X := X) (show _ ∧ _ from ⟨rfl, rfl⟩)) (by omega) (by decide) (show (parseMethodDescriptor yX6_kind.desc).map (fun q => q.parameters.length) = some 1 by decide +kernel) hok (Nat.zero_le _) dX7_tellItems_52 hp.1 hp.2.1 rfl rfl (fun _ h9 => nomatch h9) ?_
        rintro v9 M9 ⟨e9, e8⟩
        rw [e9, e8]
        clear e9 e8 v9 M9
        show rt_Go _ _ _ _ _ _ _ _ _ _ _ _ 55 [(0, zv s0 2 56), (1, zv s0 0 v1), (2, zv s0 0 v2), (3, zv s0 0 v3), (4, zv s0 1 v4), (6, zv s0 0 v6)] [zv s0 0 (((zat M (p + 2) 134 v1)))] (zw s0 ca C S M)
        refine z_bipush dX7_tellItems_55 (by decide) ?_
        refine z_icmp_ne (tgt := 86) (x' := w32 (((zat M (p + 2) 134 v1)))) (y' := 7) rfl (by decide) dX7_tellItems_57 (by decide) (fun c57 => ?_) (fun c57 => ?_)
        · replace h := h.2 c57
          exact rt_lfew [0, 1, 2, 3, 4, 5] rfl (zs_X7_tellItems_86 Γ hd hok hs hp hq hmk hs56  h)
        · replace h := h.1 c57
          refine z_aload_n dX7_tellItems_60 rfl (j := 0) rfl ?_
          refine z_get Γ kf_RX7_74 dX7_tellItems_61 (by decide) hs56 rfl (by decide) (v9 := M 56 10) rfl ?_
          refine z_istore (i := 7) (lv' := [(7, zv s0 0 (M 56 10)), (0, zv s0 2 56), (1, zv s0 0 v1), (2, zv s0 0 v2), (3, zv s0 0 v3), (4, zv s0 1 v4), (6, zv s0 0 v6)]) dX7_tellItems_64 (by decide) (by simp [zv_cat0, zv_cat1, zv_cat2, zv_cats]) ?_
          refine z_aload_n dX7_tellItems_66 rfl (j := 1) rfl ?_
          refine z_iconst dX7_tellItems_67 ?_
          refine z_iload_n dX7_tellItems_68 rfl (j := 4) rfl ?_
          refine z_callV Γ kk_X7_skip kc_RX7_132 (As := [zv s0 0 5, zv s0 0 v3]) h (by omega) (by decide) (show (parseMethodDescriptor yX7_skip.desc).map (fun q => q.parameters.length) = some 2 by decide +kernel) hok (Nat.zero_le _) dX7_tellItems_69 (by decide) hs56 rfl rfl (fun _ h9 => nomatch h9) ?_
          clear h
          intro r69 M69 h
          show rt_Go _ _ _ _ _ _ _ _ _ _ _ _ 72 [(7, zv s0 0 (M 56 10)), (0, zv s0 2 56), (1, zv s0 0 v1), (2, zv s0 0 v2), (3, zv s0 0 v3), (4, zv s0 1 v4), (6, zv s0 0 v6)] [] (zw s0 ca C S M69)
          refine z_aload_n dX7_tellItems_72 rfl (j := 1) rfl ?_
          refine z_aload_n dX7_tellItems_73 rfl (j := 1) rfl ?_
          refine z_getc Γ kf_RX7_68 dX7_tellItems_74 (by decide) hs56 rfl ?_
          refine z_iload dX7_tellItems_77 (j := 0) rfl ?_
          refine z_aload_n dX7_tellItems_79 rfl (j := 1) rfl ?_
          refine z_get Γ kf_RX7_74 dX7_tellItems_80 (by decide) hs56 rfl (by decide) (v9 := M69 56 10) rfl ?_
          refine z_callV Γ kk_X7_putPart kc_RX7_135 (As := [zv s0 2 mk, zv s0 0 (M 56 10), zv s0 0 (M69 56 10)]) h (by omega) (by decide) (show (parseMethodDescriptor yX7_putPart.desc).map (fun q => q.parameters.length) = some 3 by decide +kernel) hok (Nat.zero_le _) dX7_tellItems_83 (by decide) hs56 rfl rfl (fun _ h9 => nomatch h9) ?_
          clear h
          intro r83 M83 h
          show rt_Go _ _ _ _ _ _ _ _ _ _ _ _ 86 [(7, zv s0 0 (M 56 10)), (0, zv s0 2 56), (1, zv s0 0 v1), (2, zv s0 0 v2), (3, zv s0 0 v3), (4, zv s0 1 v4), (6, zv s0 0 v6)] [] (zw s0 ca C S M83)
          exact rt_lfew [1, 2, 3, 4, 5, 6] rfl (zs_X7_tellItems_86 Γ hd hok hs hp hq hmk hs56  h)

def zt_X7_tellItems (l : Launch) (s0 : State) (G : va_G) (ca : Nat → ClassId) (d : Nat) (C : Nat × Nat) (S : zS) (w0 : rt_Wd) (p : Int) (q : Int) (mk : Int) (mka : Int) (w : Int) (r : Int) (e : Int) (M : zM) (Q : Int → zM → Prop) (X : zM → Prop) : Prop :=
  zm_X7_varint l s0 G ca (d - 1) C S  M (fun r1 M1 => zm_X7_put l s0 G ca (d - 1) C S r1 M1 (fun r9 M9 => zIf (w64 r1 = 0) (Q 0 M9) (zg_X7_tellItems_23 l s0 G ca d C S w0 p q mk mka w r e r1 0 M9 Q X)) X) X
set_option maxRecDepth 100000 in
theorem z_X7_tellItems {l : Launch} {s0 : State} {a0 : Array Value} {G : va_G} {ca : Nat → ClassId} (Γ : rt_Γ l s0 a0 G ca) {d : Nat} {C : Nat × Nat} {S : zS} (hd : 2 ≤ d) (hok : zok C) {p : Int} {q : Int} {mk : Int} {mka : Int} (hs : zSok S) (hp : zSc S p) (hq : zSc S q) (hmk : zCe S mk mka 4096) (hs56 : S 56 = some (0, 7, [(3, 57), (3, 59), (3, 61), (3, 63), (3, 65), (3, 67), (3, mk), (3, p), (3, q), (0, 0), (0, 0), (0, 0)])) {w : Int} {r : Int} {e : Int} {M : zM} {Q : Int → zM → Prop} {X : zM → Prop} (h : zt_X7_tellItems l s0 G ca d C S (zw s0 ca C S M) p q mk mka w r e M Q X) : zm_X7_tellItems l s0 G ca d C S  w r e M Q X := by
  refine z_met (lv := [(0, zv s0 2 56), (1, zv s0 0 w), (2, zv s0 0 r), (3, zv s0 0 e)]) Γ kk_X7_tellItems rfl (show (lg_sl [zv s0 2 56, zv s0 0 w, zv s0 0 r, zv s0 0 e]).length ≤ 8 from by simp only [zn_0, zn_2, show (lg_sl []).length = 0 from rfl]; omega) (show lv_args 0 [zv s0 2 56, zv s0 0 w, zv s0 0 r, zv s0 0 e] = [(0, zv s0 2 56), (1, zv s0 0 w), (2, zv s0 0 r), (3, zv s0 0 e)] from by rw [zl_2, zl_0, zl_0, zl_0]; rfl) ?_
  unfold zt_X7_tellItems at h
  refine z_aload_n dX7_tellItems_0 rfl (j := 0) rfl ?_
  refine z_callV Γ kk_X7_varint kc_RX7_101 (As := []) h (by omega) (by decide) (show (parseMethodDescriptor yX7_varint.desc).map (fun q => q.parameters.length) = some 0 by decide +kernel) hok (Nat.zero_le _) dX7_tellItems_1 (by decide) hs56 rfl rfl (fun _ h9 => nomatch h9) ?_
  clear h
  intro r1 M1 h
  show rt_Go _ _ _ _ _ _ _ _ _ _ _ _ 4 [(0, zv s0 2 56), (1, zv s0 0 w), (2, zv s0 0 r), (3, zv s0 0 e)] [zv s0 1 r1] (zw s0 ca C S M1)
  refine z_lstore (i := 4) (lv' := [(4, zv s0 1 r1), (0, zv s0 2 56), (1, zv s0 0 w), (2, zv s0 0 r), (3, zv s0 0 e)]) dX7_tellItems_4 (by decide) (by simp [zv_cat0, zv_cat1, zv_cat2, zv_cats]) ?_
  refine z_aload_n dX7_tellItems_6 rfl (j := 1) rfl ?_
  refine z_lload dX7_tellItems_7 (j := 0) rfl ?_
  refine z_callV Γ kk_X7_put kc_RX7_116 (As := [zv s0 1 r1]) h (by omega) (by decide) (show (parseMethodDescriptor yX7_put.desc).map (fun q => q.parameters.length) = some 1 by decide +kernel) hok (Nat.zero_le _) dX7_tellItems_9 (by decide) hs56 rfl rfl (fun _ h9 => nomatch h9) ?_
  clear h
  intro r9 M9 h
  show rt_Go _ _ _ _ _ _ _ _ _ _ _ _ 12 [(4, zv s0 1 r1), (0, zv s0 2 56), (1, zv s0 0 w), (2, zv s0 0 r), (3, zv s0 0 e)] [] (zw s0 ca C S M9)
  refine z_lload dX7_tellItems_12 (j := 0) rfl ?_
  refine z_lconst (v := 0) dX7_tellItems_14 (by decide) ?_
  refine z_lif_ne (tgt := 20) (x' := w64 r1) (y' := 0) rfl (by decide) dX7_tellItems_15 dX7_tellItems_16 (by decide) (fun c15 => ?_) (fun c15 => ?_)
  · replace h := h.2 c15
    refine z_iconst dX7_tellItems_20 ?_
    refine z_istore (i := 6) (lv' := [(6, zv s0 0 0), (4, zv s0 1 r1), (0, zv s0 2 56), (1, zv s0 0 w), (2, zv s0 0 r), (3, zv s0 0 e)]) dX7_tellItems_21 (by decide) (by simp [zv_cat0, zv_cat1, zv_cat2, zv_cats]) ?_
    exact rt_lfew [2, 3, 4, 5, 1, 0] rfl h
  · replace h := h.1 c15
    exact z_vret dX7_tellItems_19 rfl h

abbrev zg_X7_tellPlain_24 (l : Launch) (s0 : State) (G : va_G) (ca : Nat → ClassId) (d : Nat) (C : Nat × Nat) (S : zS) (w0 : rt_Wd) (p : Int) (q : Int) (mk : Int) (mka : Int) (v1 : Int) (v2 : Int) (v3 : Int) (v4 : Int)  (M : zM) (Q : Int → zM → Prop) (X : zM → Prop) : Prop := rt_Go l s0 G RX7 "tellPlain" cX7_tellPlain 6 (Option.none : Option FieldType) [] d w0 (zQ s0 ca 9 C S Q X) 24 [(0, zv s0 2 56), (1, zv s0 0 v1), (2, zv s0 0 v2), (3, zv s0 0 v3), (4, zv s0 0 v4)] [] (zw s0 ca C S M)
def zt_X7_tellPlain_24 (l : Launch) (s0 : State) (G : va_G) (ca : Nat → ClassId) (d : Nat) (C : Nat × Nat) (S : zS) (w0 : rt_Wd) (p : Int) (q : Int) (mk : Int) (mka : Int) (v1 : Int) (v2 : Int) (v3 : Int) (v4 : Int)  (M : zM) (Q : Int → zM → Prop) (X : zM → Prop) : Prop :=
  zIf (w32 (((zat M (q + 2) 134 v2))) = w32 v4) (zm_X7_tellItems l s0 G ca (d - 1) C S v1 v2 v3 M (fun r41 M41 => Q 0 M41) X) (zm_X7_halt l s0 G ca (d - 1) C S ((-20)) M (fun r50 M50 => Q 0 M50) X)
set_option maxRecDepth 100000 in
theorem zs_X7_tellPlain_24 {l : Launch} {s0 : State} {a0 : Array Value} {G : va_G} {ca : Nat → ClassId} (Γ : rt_Γ l s0 a0 G ca) {d : Nat} {C : Nat × Nat} {S : zS} (hd : 2 ≤ d) (hok : zok C) {p : Int} {q : Int} {mk : Int} {mka : Int} (hs : zSok S) (hp : zSc S p) (hq : zSc S q) (hmk : zCe S mk mka 4096) (hs56 : S 56 = some (0, 7, [(3, 57), (3, 59), (3, 61), (3, 63), (3, 65), (3, 67), (3, mk), (3, p), (3, q), (0, 0), (0, 0), (0, 0)])) {w0 : rt_Wd} {v1 : Int} {v2 : Int} {v3 : Int} {v4 : Int}   {M : zM} {Q : Int → zM → Prop} {X : zM → Prop} (h : zt_X7_tellPlain_24 l s0 G ca d C S w0 p q mk mka v1 v2 v3 v4 M Q X) : zg_X7_tellPlain_24 l s0 G ca d C S w0 p q mk mka v1 v2 v3 v4 M Q X := by
  unfold zt_X7_tellPlain_24 at h
  refine z_aload_n dX7_tellPlain_24 rfl (j := 0) rfl ?_
  refine z_getc Γ kf_RX7_41 dX7_tellPlain_25 (by decide) hs56 rfl ?_
  refine z_iload_n dX7_tellPlain_28 rfl (j := 2) rfl ?_
  refine z_callV Γ kk_X6_kind kc_RX7_98 (As := [zv s0 0 v2]) (z_X6_kind (d := d - 1) Γ (by omega) hok hq (M := M) (Q := fun v9 M9 => v9 = ((zat M (q + 2) 134 v2)) ∧ M9 = M) (X := X) (show _ ∧ _ from ⟨rfl, rfl⟩)) (by omega) (by decide) (show (parseMethodDescriptor yX6_kind.desc).map (fun q => q.parameters.length) = some 1 by decide +kernel) hok (Nat.zero_le _) dX7_tellPlain_29 hq.1 hq.2.1 rfl rfl (fun _ h9 => nomatch h9) ?_
  rintro v9 M9 ⟨e9, e8⟩
  rw [e9, e8]
  clear e9 e8 v9 M9
  show rt_Go _ _ _ _ _ _ _ _ _ _ _ _ 32 [(0, zv s0 2 56), (1, zv s0 0 v1), (2, zv s0 0 v2), (3, zv s0 0 v3), (4, zv s0 0 v4)] [zv s0 0 (((zat M (q + 2) 134 v2)))] (zw s0 ca C S M)
  refine z_iload dX7_tellPlain_32 (j := 4) rfl ?_
  refine z_icmp_ne (tgt := 47) (x' := w32 (((zat M (q + 2) 134 v2)))) (y' := w32 v4) rfl rfl dX7_tellPlain_34 (by decide) (fun c34 => ?_) (fun c34 => ?_)
  · replace h := h.2 c34
    refine z_aload_n dX7_tellPlain_47 rfl (j := 0) rfl ?_
    refine z_bipush dX7_tellPlain_48 (by decide) ?_
    refine z_callV Γ kk_X7_halt kc_RX7_88 (As := [zv s0 0 ((-20))]) h (by omega) (by decide) (show (parseMethodDescriptor yX7_halt.desc).map (fun q => q.parameters.length) = some 1 by decide +kernel) hok (Nat.zero_le _) dX7_tellPlain_50 (by decide) hs56 rfl rfl (fun _ h9 => nomatch h9) ?_
    clear h
    intro r50 M50 h
    show rt_Go _ _ _ _ _ _ _ _ _ _ _ _ 53 [(0, zv s0 2 56), (1, zv s0 0 v1), (2, zv s0 0 v2), (3, zv s0 0 v3), (4, zv s0 0 v4)] [] (zw s0 ca C S M50)
    refine rt_goto (tgt := 140) dX7_tellPlain_53 (by decide) ?_
    exact z_vret dX7_tellPlain_140 rfl h
  · replace h := h.1 c34
    refine z_aload_n dX7_tellPlain_37 rfl (j := 0) rfl ?_
    refine z_iload_n dX7_tellPlain_38 rfl (j := 1) rfl ?_
    refine z_iload_n dX7_tellPlain_39 rfl (j := 2) rfl ?_
    refine z_iload_n dX7_tellPlain_40 rfl (j := 3) rfl ?_
    refine z_callV Γ kk_X7_tellItems kc_RX7_119 (As := [zv s0 0 v1, zv s0 0 v2, zv s0 0 v3]) h (by omega) (by decide) (show (parseMethodDescriptor yX7_tellItems.desc).map (fun q => q.parameters.length) = some 3 by decide +kernel) hok (Nat.zero_le _) dX7_tellPlain_41 (by decide) hs56 rfl rfl (fun _ h9 => nomatch h9) ?_
    clear h
    intro r41 M41 h
    show rt_Go _ _ _ _ _ _ _ _ _ _ _ _ 44 [(0, zv s0 2 56), (1, zv s0 0 v1), (2, zv s0 0 v2), (3, zv s0 0 v3), (4, zv s0 0 v4)] [] (zw s0 ca C S M41)
    refine rt_goto (tgt := 140) dX7_tellPlain_44 (by decide) ?_
    exact z_vret dX7_tellPlain_140 rfl h

def zt_X7_tellPlain (l : Launch) (s0 : State) (G : va_G) (ca : Nat → ClassId) (d : Nat) (C : Nat × Nat) (S : zS) (w0 : rt_Wd) (p : Int) (q : Int) (mk : Int) (mka : Int) (w : Int) (r : Int) (e : Int) (M : zM) (Q : Int → zM → Prop) (X : zM → Prop) : Prop :=
  zIf (w32 (((zat M (p + 2) 134 w))) = 6) (zt_X7_tellPlain_24 l s0 G ca d C S w0 p q mk mka w r e (((zat M (p + 2) 134 w))) M Q X) (zIf (w32 (((zat M (p + 2) 134 w))) = 7) (zt_X7_tellPlain_24 l s0 G ca d C S w0 p q mk mka w r e (((zat M (p + 2) 134 w))) M Q X) (zm_X6_matchPlainly l s0 G ca (d - 1) C S p w q r M (fun r66 M66 => zIf (w32 r66 = 0) (zm_X7_halt l s0 G ca (d - 1) C S ((-20)) M66 (fun r75 M75 => Q 0 M75) X) (zIf (w32 (((zat M (p + 2) 134 w))) = 11) (zm_X7_tellRecord l s0 G ca (d - 1) C S w r e M66 (fun r92 M92 => Q 0 M92) X) (zIf (w32 (((zat M (p + 2) 134 w))) = 10) (zm_X7_tellSymbol l s0 G ca (d - 1) C S w r M66 (fun r108 M108 => Q 0 M108) X) (zm_X7_skip l s0 G ca (d - 1) C S w e M66 (fun r123 M123 => zm_X7_putPart l s0 G ca (d - 1) C S mk (M66 56 10) (M123 56 10) M123 (fun r137 M137 => Q 0 M137) X) X)))) X))
set_option maxRecDepth 100000 in
theorem z_X7_tellPlain {l : Launch} {s0 : State} {a0 : Array Value} {G : va_G} {ca : Nat → ClassId} (Γ : rt_Γ l s0 a0 G ca) {d : Nat} {C : Nat × Nat} {S : zS} (hd : 2 ≤ d) (hok : zok C) {p : Int} {q : Int} {mk : Int} {mka : Int} (hs : zSok S) (hp : zSc S p) (hq : zSc S q) (hmk : zCe S mk mka 4096) (hs56 : S 56 = some (0, 7, [(3, 57), (3, 59), (3, 61), (3, 63), (3, 65), (3, 67), (3, mk), (3, p), (3, q), (0, 0), (0, 0), (0, 0)])) {w : Int} {r : Int} {e : Int} {M : zM} {Q : Int → zM → Prop} {X : zM → Prop} (h : zt_X7_tellPlain l s0 G ca d C S (zw s0 ca C S M) p q mk mka w r e M Q X) : zm_X7_tellPlain l s0 G ca d C S  w r e M Q X := by
  refine z_met (lv := [(0, zv s0 2 56), (1, zv s0 0 w), (2, zv s0 0 r), (3, zv s0 0 e)]) Γ kk_X7_tellPlain rfl (show (lg_sl [zv s0 2 56, zv s0 0 w, zv s0 0 r, zv s0 0 e]).length ≤ 6 from by simp only [zn_0, zn_2, show (lg_sl []).length = 0 from rfl]; omega) (show lv_args 0 [zv s0 2 56, zv s0 0 w, zv s0 0 r, zv s0 0 e] = [(0, zv s0 2 56), (1, zv s0 0 w), (2, zv s0 0 r), (3, zv s0 0 e)] from by rw [zl_2, zl_0, zl_0, zl_0]; rfl) ?_
  unfold zt_X7_tellPlain at h
  refine z_aload_n dX7_tellPlain_0 rfl (j := 0) rfl ?_
  refine z_getc Γ kf_RX7_37 dX7_tellPlain_1 (by decide) hs56 rfl ?_
  refine z_iload_n dX7_tellPlain_4 rfl (j := 1) rfl ?_
  refine z_callV Γ kk_X6_kind kc_RX7_98 (As := [zv s0 0 w]) (z_X6_kind (d := d - 1) Γ (by omega) hok hp (M := M) (Q := fun v9 M9 => v9 = ((zat M (p + 2) 134 w)) ∧ M9 = M) (X := X) (show _ ∧ _ from ⟨rfl, rfl⟩)) (by omega) (by decide) (show (parseMethodDescriptor yX6_kind.desc).map (fun q => q.parameters.length) = some 1 by decide +kernel) hok (Nat.zero_le _) dX7_tellPlain_5 hp.1 hp.2.1 rfl rfl (fun _ h9 => nomatch h9) ?_
  rintro v9 M9 ⟨e9, e8⟩
  rw [e9, e8]
  clear e9 e8 v9 M9
  show rt_Go _ _ _ _ _ _ _ _ _ _ _ _ 8 [(0, zv s0 2 56), (1, zv s0 0 w), (2, zv s0 0 r), (3, zv s0 0 e)] [zv s0 0 (((zat M (p + 2) 134 w)))] (zw s0 ca C S M)
  refine z_istore (i := 4) (lv' := [(4, zv s0 0 (((zat M (p + 2) 134 w)))), (0, zv s0 2 56), (1, zv s0 0 w), (2, zv s0 0 r), (3, zv s0 0 e)]) dX7_tellPlain_8 (by decide) (by simp [zv_cat0, zv_cat1, zv_cat2, zv_cats]) ?_
  refine z_iload dX7_tellPlain_10 (j := 0) rfl ?_
  refine z_bipush dX7_tellPlain_12 (by decide) ?_
  refine z_icmp_eq (tgt := 24) (x' := w32 (((zat M (p + 2) 134 w)))) (y' := 6) rfl (by decide) dX7_tellPlain_14 (by decide) (fun c14 => ?_) (fun c14 => ?_)
  · replace h := h.1 c14
    exact rt_lfew [1, 2, 3, 4, 0] rfl (zs_X7_tellPlain_24 Γ hd hok hs hp hq hmk hs56  h)
  · replace h := h.2 c14
    refine z_iload dX7_tellPlain_17 (j := 0) rfl ?_
    refine z_bipush dX7_tellPlain_19 (by decide) ?_
    refine z_icmp_ne (tgt := 56) (x' := w32 (((zat M (p + 2) 134 w)))) (y' := 7) rfl (by decide) dX7_tellPlain_21 (by decide) (fun c21 => ?_) (fun c21 => ?_)
    · replace h := h.2 c21
      refine z_aload_n dX7_tellPlain_56 rfl (j := 1) rfl ?_
      refine z_getc Γ kf_RX7_37 dX7_tellPlain_57 (by decide) hs56 rfl ?_
      refine z_iload_n dX7_tellPlain_60 rfl (j := 2) rfl ?_
      refine z_aload_n dX7_tellPlain_61 rfl (j := 1) rfl ?_
      refine z_getc Γ kf_RX7_41 dX7_tellPlain_62 (by decide) hs56 rfl ?_
      refine z_iload_n dX7_tellPlain_65 rfl (j := 3) rfl ?_
      refine z_callS Γ kk_X6_matchPlainly kc_RX7_122 (As := [zv s0 2 p, zv s0 0 w, zv s0 2 q, zv s0 0 r]) h (by omega) (by decide) (show (parseMethodDescriptor yX6_matchPlainly.desc).map (fun q => q.parameters.length) = some 4 by decide +kernel) hok (Nat.zero_le _) dX7_tellPlain_66 rfl (fun _ h9 => nomatch h9) ?_
      clear h
      intro r66 M66 h
      show rt_Go _ _ _ _ _ _ _ _ _ _ _ _ 69 [(4, zv s0 0 (((zat M (p + 2) 134 w)))), (0, zv s0 2 56), (1, zv s0 0 w), (2, zv s0 0 r), (3, zv s0 0 e)] [zv s0 0 r66] (zw s0 ca C S M66)
      refine z_if_ne (tgt := 81) (x' := w32 r66) rfl dX7_tellPlain_69 (by decide) (fun c69 => ?_) (fun c69 => ?_)
      · replace h := h.2 c69
        refine z_iload dX7_tellPlain_81 (j := 0) rfl ?_
        refine z_bipush dX7_tellPlain_83 (by decide) ?_
        refine z_icmp_ne (tgt := 98) (x' := w32 (((zat M (p + 2) 134 w)))) (y' := 11) rfl (by decide) dX7_tellPlain_85 (by decide) (fun c85 => ?_) (fun c85 => ?_)
        · replace h := h.2 c85
          refine z_iload dX7_tellPlain_98 (j := 0) rfl ?_
          refine z_bipush dX7_tellPlain_100 (by decide) ?_
          refine z_icmp_ne (tgt := 114) (x' := w32 (((zat M (p + 2) 134 w)))) (y' := 10) rfl (by decide) dX7_tellPlain_102 (by decide) (fun c102 => ?_) (fun c102 => ?_)
          · replace h := h.2 c102
            refine z_aload_n dX7_tellPlain_114 rfl (j := 1) rfl ?_
            refine z_get Γ kf_RX7_74 dX7_tellPlain_115 (by decide) hs56 rfl (by decide) (v9 := M66 56 10) rfl ?_
            refine z_istore (i := 5) (lv' := [(5, zv s0 0 (M66 56 10)), (4, zv s0 0 (((zat M (p + 2) 134 w)))), (0, zv s0 2 56), (1, zv s0 0 w), (2, zv s0 0 r), (3, zv s0 0 e)]) dX7_tellPlain_118 (by decide) (by simp [zv_cat0, zv_cat1, zv_cat2, zv_cats]) ?_
            refine z_aload_n dX7_tellPlain_120 rfl (j := 2) rfl ?_
            refine z_iload_n dX7_tellPlain_121 rfl (j := 3) rfl ?_
            refine z_iload_n dX7_tellPlain_122 rfl (j := 5) rfl ?_
            refine z_callV Γ kk_X7_skip kc_RX7_132 (As := [zv s0 0 w, zv s0 0 e]) h (by omega) (by decide) (show (parseMethodDescriptor yX7_skip.desc).map (fun q => q.parameters.length) = some 2 by decide +kernel) hok (Nat.zero_le _) dX7_tellPlain_123 (by decide) hs56 rfl rfl (fun _ h9 => nomatch h9) ?_
            clear h
            intro r123 M123 h
            show rt_Go _ _ _ _ _ _ _ _ _ _ _ _ 126 [(5, zv s0 0 (M66 56 10)), (4, zv s0 0 (((zat M (p + 2) 134 w)))), (0, zv s0 2 56), (1, zv s0 0 w), (2, zv s0 0 r), (3, zv s0 0 e)] [] (zw s0 ca C S M123)
            refine z_aload_n dX7_tellPlain_126 rfl (j := 2) rfl ?_
            refine z_aload_n dX7_tellPlain_127 rfl (j := 2) rfl ?_
            refine z_getc Γ kf_RX7_68 dX7_tellPlain_128 (by decide) hs56 rfl ?_
            refine z_iload dX7_tellPlain_131 (j := 0) rfl ?_
            refine z_aload_n dX7_tellPlain_133 rfl (j := 2) rfl ?_
            refine z_get Γ kf_RX7_74 dX7_tellPlain_134 (by decide) hs56 rfl (by decide) (v9 := M123 56 10) rfl ?_
            refine z_callV Γ kk_X7_putPart kc_RX7_135 (As := [zv s0 2 mk, zv s0 0 (M66 56 10), zv s0 0 (M123 56 10)]) h (by omega) (by decide) (show (parseMethodDescriptor yX7_putPart.desc).map (fun q => q.parameters.length) = some 3 by decide +kernel) hok (Nat.zero_le _) dX7_tellPlain_137 (by decide) hs56 rfl rfl (fun _ h9 => nomatch h9) ?_
            clear h
            intro r137 M137 h
            show rt_Go _ _ _ _ _ _ _ _ _ _ _ _ 140 [(5, zv s0 0 (M66 56 10)), (4, zv s0 0 (((zat M (p + 2) 134 w)))), (0, zv s0 2 56), (1, zv s0 0 w), (2, zv s0 0 r), (3, zv s0 0 e)] [] (zw s0 ca C S M137)
            exact z_vret dX7_tellPlain_140 rfl h
          · replace h := h.1 c102
            refine z_aload_n dX7_tellPlain_105 rfl (j := 1) rfl ?_
            refine z_iload_n dX7_tellPlain_106 rfl (j := 2) rfl ?_
            refine z_iload_n dX7_tellPlain_107 rfl (j := 3) rfl ?_
            refine z_callV Γ kk_X7_tellSymbol kc_RX7_129 (As := [zv s0 0 w, zv s0 0 r]) h (by omega) (by decide) (show (parseMethodDescriptor yX7_tellSymbol.desc).map (fun q => q.parameters.length) = some 2 by decide +kernel) hok (Nat.zero_le _) dX7_tellPlain_108 (by decide) hs56 rfl rfl (fun _ h9 => nomatch h9) ?_
            clear h
            intro r108 M108 h
            show rt_Go _ _ _ _ _ _ _ _ _ _ _ _ 111 [(4, zv s0 0 (((zat M (p + 2) 134 w)))), (0, zv s0 2 56), (1, zv s0 0 w), (2, zv s0 0 r), (3, zv s0 0 e)] [] (zw s0 ca C S M108)
            refine rt_goto (tgt := 140) dX7_tellPlain_111 (by decide) ?_
            exact z_vret dX7_tellPlain_140 rfl h
        · replace h := h.1 c85
          refine z_aload_n dX7_tellPlain_88 rfl (j := 1) rfl ?_
          refine z_iload_n dX7_tellPlain_89 rfl (j := 2) rfl ?_
          refine z_iload_n dX7_tellPlain_90 rfl (j := 3) rfl ?_
          refine z_iload_n dX7_tellPlain_91 rfl (j := 4) rfl ?_
          refine z_callV Γ kk_X7_tellRecord kc_RX7_126 (As := [zv s0 0 w, zv s0 0 r, zv s0 0 e]) h (by omega) (by decide) (show (parseMethodDescriptor yX7_tellRecord.desc).map (fun q => q.parameters.length) = some 3 by decide +kernel) hok (Nat.zero_le _) dX7_tellPlain_92 (by decide) hs56 rfl rfl (fun _ h9 => nomatch h9) ?_
          clear h
          intro r92 M92 h
          show rt_Go _ _ _ _ _ _ _ _ _ _ _ _ 95 [(4, zv s0 0 (((zat M (p + 2) 134 w)))), (0, zv s0 2 56), (1, zv s0 0 w), (2, zv s0 0 r), (3, zv s0 0 e)] [] (zw s0 ca C S M92)
          refine rt_goto (tgt := 140) dX7_tellPlain_95 (by decide) ?_
          exact z_vret dX7_tellPlain_140 rfl h
      · replace h := h.1 c69
        refine z_aload_n dX7_tellPlain_72 rfl (j := 1) rfl ?_
        refine z_bipush dX7_tellPlain_73 (by decide) ?_
        refine z_callV Γ kk_X7_halt kc_RX7_88 (As := [zv s0 0 ((-20))]) h (by omega) (by decide) (show (parseMethodDescriptor yX7_halt.desc).map (fun q => q.parameters.length) = some 1 by decide +kernel) hok (Nat.zero_le _) dX7_tellPlain_75 (by decide) hs56 rfl rfl (fun _ h9 => nomatch h9) ?_
        clear h
        intro r75 M75 h
        show rt_Go _ _ _ _ _ _ _ _ _ _ _ _ 78 [(4, zv s0 0 (((zat M (p + 2) 134 w)))), (0, zv s0 2 56), (1, zv s0 0 w), (2, zv s0 0 r), (3, zv s0 0 e)] [] (zw s0 ca C S M75)
        refine rt_goto (tgt := 140) dX7_tellPlain_78 (by decide) ?_
        exact z_vret dX7_tellPlain_140 rfl h
    · replace h := h.1 c21
      exact rt_lfew [1, 2, 3, 4, 0] rfl (zs_X7_tellPlain_24 Γ hd hok hs hp hq hmk hs56  h)

def zt_X7_tellDatum (l : Launch) (s0 : State) (G : va_G) (ca : Nat → ClassId) (d : Nat) (C : Nat × Nat) (S : zS) (w0 : rt_Wd) (p : Int) (q : Int) (mk : Int) (mka : Int) (w : Int) (r : Int) (e : Int) (M : zM) (Q : Int → zM → Prop) (X : zM → Prop) : Prop :=
  zIf (w32 e < 33) (zIf (w32 (((zat M (p + 2) 134 w))) = 8) (zm_X7_varint l s0 G ca (d - 1) C S  M (fun r33 M33 => zm_X7_tellDatum l s0 G ca (d - 1) C S ((zf_X6_branch M33 p w r33)) r (e + 1) M33 (fun r44 M44 => Q 0 M44) X) X) (zIf (w32 (((zat M (q + 2) 134 r))) = 8) (zm_X6_firstMatch l s0 G ca (d - 1) C S p w q r M (fun r79 M79 => zIf (w32 r79 = ((-1))) (zm_X7_halt l s0 G ca (d - 1) C S ((-20)) M79 (fun r93 M93 => Q 0 M93) X) (zm_X7_put l s0 G ca (d - 1) C S (w32 r79) M79 (fun r101 M101 => zIf (w32 (M101 56 11) = 0) (zm_X7_tellPlain l s0 G ca (d - 1) C S w ((zf_X6_branch M101 q r r79)) e M101 (fun r124 M124 => Q 0 M124) X) (Q 0 M101)) X)) X) (zm_X7_tellPlain l s0 G ca (d - 1) C S w r e M (fun r65 M65 => Q 0 M65) X))) (zm_X7_halt l s0 G ca (d - 1) C S ((-20)) M (fun r9 M9 => Q 0 M9) X)
set_option maxRecDepth 100000 in
theorem z_X7_tellDatum {l : Launch} {s0 : State} {a0 : Array Value} {G : va_G} {ca : Nat → ClassId} (Γ : rt_Γ l s0 a0 G ca) {d : Nat} {C : Nat × Nat} {S : zS} (hd : 2 ≤ d) (hok : zok C) {p : Int} {q : Int} {mk : Int} {mka : Int} (hs : zSok S) (hp : zSc S p) (hq : zSc S q) (hmk : zCe S mk mka 4096) (hs56 : S 56 = some (0, 7, [(3, 57), (3, 59), (3, 61), (3, 63), (3, 65), (3, 67), (3, mk), (3, p), (3, q), (0, 0), (0, 0), (0, 0)])) {w : Int} {r : Int} {e : Int} {M : zM} {Q : Int → zM → Prop} {X : zM → Prop} (h : zt_X7_tellDatum l s0 G ca d C S (zw s0 ca C S M) p q mk mka w r e M Q X) : zm_X7_tellDatum l s0 G ca d C S  w r e M Q X := by
  refine z_met (lv := [(0, zv s0 2 56), (1, zv s0 0 w), (2, zv s0 0 r), (3, zv s0 0 e)]) Γ kk_X7_tellDatum rfl (show (lg_sl [zv s0 2 56, zv s0 0 w, zv s0 0 r, zv s0 0 e]).length ≤ 5 from by simp only [zn_0, zn_2, show (lg_sl []).length = 0 from rfl]; omega) (show lv_args 0 [zv s0 2 56, zv s0 0 w, zv s0 0 r, zv s0 0 e] = [(0, zv s0 2 56), (1, zv s0 0 w), (2, zv s0 0 r), (3, zv s0 0 e)] from by rw [zl_2, zl_0, zl_0, zl_0]; rfl) ?_
  unfold zt_X7_tellDatum at h
  refine z_iload_n dX7_tellDatum_0 rfl (j := 3) rfl ?_
  refine z_bipush dX7_tellDatum_1 (by decide) ?_
  refine z_icmp_lt (tgt := 13) (x' := w32 e) (y' := 33) rfl (by decide) dX7_tellDatum_3 (by decide) (fun c3 => ?_) (fun c3 => ?_)
  · replace h := h.1 c3
    refine z_aload_n dX7_tellDatum_13 rfl (j := 0) rfl ?_
    refine z_getc Γ kf_RX7_37 dX7_tellDatum_14 (by decide) hs56 rfl ?_
    refine z_iload_n dX7_tellDatum_17 rfl (j := 1) rfl ?_
    refine z_callV Γ kk_X6_kind kc_RX7_98 (As := [zv s0 0 w]) (z_X6_kind (d := d - 1) Γ (by omega) hok hp (M := M) (Q := fun v9 M9 => v9 = ((zat M (p + 2) 134 w)) ∧ M9 = M) (X := X) (show _ ∧ _ from ⟨rfl, rfl⟩)) (by omega) (by decide) (show (parseMethodDescriptor yX6_kind.desc).map (fun q => q.parameters.length) = some 1 by decide +kernel) hok (Nat.zero_le _) dX7_tellDatum_18 hp.1 hp.2.1 rfl rfl (fun _ h9 => nomatch h9) ?_
    rintro v9 M9 ⟨e9, e8⟩
    rw [e9, e8]
    clear e9 e8 v9 M9
    show rt_Go _ _ _ _ _ _ _ _ _ _ _ _ 21 [(0, zv s0 2 56), (1, zv s0 0 w), (2, zv s0 0 r), (3, zv s0 0 e)] [zv s0 0 (((zat M (p + 2) 134 w)))] (zw s0 ca C S M)
    refine z_bipush dX7_tellDatum_21 (by decide) ?_
    refine z_icmp_ne (tgt := 48) (x' := w32 (((zat M (p + 2) 134 w)))) (y' := 8) rfl (by decide) dX7_tellDatum_23 (by decide) (fun c23 => ?_) (fun c23 => ?_)
    · replace h := h.2 c23
      refine z_aload_n dX7_tellDatum_48 rfl (j := 0) rfl ?_
      refine z_getc Γ kf_RX7_41 dX7_tellDatum_49 (by decide) hs56 rfl ?_
      refine z_iload_n dX7_tellDatum_52 rfl (j := 2) rfl ?_
      refine z_callV Γ kk_X6_kind kc_RX7_98 (As := [zv s0 0 r]) (z_X6_kind (d := d - 1) Γ (by omega) hok hq (M := M) (Q := fun v9 M9 => v9 = ((zat M (q + 2) 134 r)) ∧ M9 = M) (X := X) (show _ ∧ _ from ⟨rfl, rfl⟩)) (by omega) (by decide) (show (parseMethodDescriptor yX6_kind.desc).map (fun q => q.parameters.length) = some 1 by decide +kernel) hok (Nat.zero_le _) dX7_tellDatum_53 hq.1 hq.2.1 rfl rfl (fun _ h9 => nomatch h9) ?_
      rintro v9 M9 ⟨e9, e8⟩
      rw [e9, e8]
      clear e9 e8 v9 M9
      show rt_Go _ _ _ _ _ _ _ _ _ _ _ _ 56 [(0, zv s0 2 56), (1, zv s0 0 w), (2, zv s0 0 r), (3, zv s0 0 e)] [zv s0 0 (((zat M (q + 2) 134 r)))] (zw s0 ca C S M)
      refine z_bipush dX7_tellDatum_56 (by decide) ?_
      refine z_icmp_eq (tgt := 69) (x' := w32 (((zat M (q + 2) 134 r)))) (y' := 8) rfl (by decide) dX7_tellDatum_58 (by decide) (fun c58 => ?_) (fun c58 => ?_)
      · replace h := h.1 c58
        refine z_aload_n dX7_tellDatum_69 rfl (j := 0) rfl ?_
        refine z_getc Γ kf_RX7_37 dX7_tellDatum_70 (by decide) hs56 rfl ?_
        refine z_iload_n dX7_tellDatum_73 rfl (j := 1) rfl ?_
        refine z_aload_n dX7_tellDatum_74 rfl (j := 0) rfl ?_
        refine z_getc Γ kf_RX7_41 dX7_tellDatum_75 (by decide) hs56 rfl ?_
        refine z_iload_n dX7_tellDatum_78 rfl (j := 2) rfl ?_
        refine z_callS Γ kk_X6_firstMatch kc_RX7_112 (As := [zv s0 2 p, zv s0 0 w, zv s0 2 q, zv s0 0 r]) h (by omega) (by decide) (show (parseMethodDescriptor yX6_firstMatch.desc).map (fun q => q.parameters.length) = some 4 by decide +kernel) hok (Nat.zero_le _) dX7_tellDatum_79 rfl (fun _ h9 => nomatch h9) ?_
        clear h
        intro r79 M79 h
        show rt_Go _ _ _ _ _ _ _ _ _ _ _ _ 82 [(0, zv s0 2 56), (1, zv s0 0 w), (2, zv s0 0 r), (3, zv s0 0 e)] [zv s0 0 r79] (zw s0 ca C S M79)
        refine z_istore (i := 4) (lv' := [(4, zv s0 0 r79), (0, zv s0 2 56), (1, zv s0 0 w), (2, zv s0 0 r), (3, zv s0 0 e)]) dX7_tellDatum_82 (by decide) (by simp [zv_cat0, zv_cat1, zv_cat2, zv_cats]) ?_
        refine z_iload dX7_tellDatum_84 (j := 0) rfl ?_
        refine z_iconst dX7_tellDatum_86 ?_
        refine z_icmp_ne (tgt := 97) (x' := w32 r79) (y' := ((-1))) rfl (by decide) dX7_tellDatum_87 (by decide) (fun c87 => ?_) (fun c87 => ?_)
        · replace h := h.2 c87
          refine z_aload_n dX7_tellDatum_97 rfl (j := 1) rfl ?_
          refine z_iload dX7_tellDatum_98 (j := 0) rfl ?_
          refine z_i2l dX7_tellDatum_100 ?_
          refine z_callV Γ kk_X7_put kc_RX7_116 (As := [zv s0 1 (w32 r79)]) h (by omega) (by decide) (show (parseMethodDescriptor yX7_put.desc).map (fun q => q.parameters.length) = some 1 by decide +kernel) hok (Nat.zero_le _) dX7_tellDatum_101 (by decide) hs56 rfl rfl (fun _ h9 => nomatch h9) ?_
          clear h
          intro r101 M101 h
          show rt_Go _ _ _ _ _ _ _ _ _ _ _ _ 104 [(4, zv s0 0 r79), (0, zv s0 2 56), (1, zv s0 0 w), (2, zv s0 0 r), (3, zv s0 0 e)] [] (zw s0 ca C S M101)
          refine z_aload_n dX7_tellDatum_104 rfl (j := 1) rfl ?_
          refine z_get Γ kf_RX7_59 dX7_tellDatum_105 (by decide) hs56 rfl (by decide) (v9 := M101 56 11) rfl ?_
          refine z_if_ne (tgt := 127) (x' := w32 (M101 56 11)) rfl dX7_tellDatum_108 (by decide) (fun c108 => ?_) (fun c108 => ?_)
          · replace h := h.2 c108
            exact z_vret dX7_tellDatum_127 rfl h
          · replace h := h.1 c108
            refine z_aload_n dX7_tellDatum_111 rfl (j := 1) rfl ?_
            refine z_iload_n dX7_tellDatum_112 rfl (j := 2) rfl ?_
            refine z_aload_n dX7_tellDatum_113 rfl (j := 1) rfl ?_
            refine z_getc Γ kf_RX7_41 dX7_tellDatum_114 (by decide) hs56 rfl ?_
            refine z_iload_n dX7_tellDatum_117 rfl (j := 3) rfl ?_
            refine z_iload dX7_tellDatum_118 (j := 0) rfl ?_
            refine z_callV Γ kk_X6_branch kc_RX7_105 (As := [zv s0 0 r, zv s0 0 r79]) (k_X6_branch (d := d - 1) Γ (by omega) hok hq (M := M101) (Q := fun v9 M9 => v9 = (zf_X6_branch M101 q r r79) ∧ M9 = M101) (X := X) (show _ ∧ _ from ⟨rfl, rfl⟩)) (by omega) (by decide) (show (parseMethodDescriptor yX6_branch.desc).map (fun q => q.parameters.length) = some 2 by decide +kernel) hok (by simp only [List.map, zv_cat0, zv_cat1, zv_cat2, List.sum_cons, List.sum_nil]; decide) dX7_tellDatum_120 hq.1 hq.2.1 rfl rfl (fun _ h9 => nomatch h9) ?_
            rintro v9 M9 ⟨e9, e8⟩
            rw [e9, e8]
            clear e9 e8 v9 M9
            show rt_Go _ _ _ _ _ _ _ _ _ _ _ _ 123 [(4, zv s0 0 r79), (0, zv s0 2 56), (1, zv s0 0 w), (2, zv s0 0 r), (3, zv s0 0 e)] [zv s0 0 ((zf_X6_branch M101 q r r79)), zv s0 0 w, zv s0 2 56] (zw s0 ca C S M101)
            refine z_iload_n dX7_tellDatum_123 rfl (j := 4) rfl ?_
            refine z_callV Γ kk_X7_tellPlain kc_RX7_109 (As := [zv s0 0 w, zv s0 0 ((zf_X6_branch M101 q r r79)), zv s0 0 e]) h (by omega) (by decide) (show (parseMethodDescriptor yX7_tellPlain.desc).map (fun q => q.parameters.length) = some 3 by decide +kernel) hok (Nat.zero_le _) dX7_tellDatum_124 (by decide) hs56 rfl rfl (fun _ h9 => nomatch h9) ?_
            clear h
            intro r124 M124 h
            show rt_Go _ _ _ _ _ _ _ _ _ _ _ _ 127 [(4, zv s0 0 r79), (0, zv s0 2 56), (1, zv s0 0 w), (2, zv s0 0 r), (3, zv s0 0 e)] [] (zw s0 ca C S M124)
            exact z_vret dX7_tellDatum_127 rfl h
        · replace h := h.1 c87
          refine z_aload_n dX7_tellDatum_90 rfl (j := 1) rfl ?_
          refine z_bipush dX7_tellDatum_91 (by decide) ?_
          refine z_callV Γ kk_X7_halt kc_RX7_88 (As := [zv s0 0 ((-20))]) h (by omega) (by decide) (show (parseMethodDescriptor yX7_halt.desc).map (fun q => q.parameters.length) = some 1 by decide +kernel) hok (Nat.zero_le _) dX7_tellDatum_93 (by decide) hs56 rfl rfl (fun _ h9 => nomatch h9) ?_
          clear h
          intro r93 M93 h
          show rt_Go _ _ _ _ _ _ _ _ _ _ _ _ 96 [(4, zv s0 0 r79), (0, zv s0 2 56), (1, zv s0 0 w), (2, zv s0 0 r), (3, zv s0 0 e)] [] (zw s0 ca C S M93)
          exact z_vret dX7_tellDatum_96 rfl h
      · replace h := h.2 c58
        refine z_aload_n dX7_tellDatum_61 rfl (j := 0) rfl ?_
        refine z_iload_n dX7_tellDatum_62 rfl (j := 1) rfl ?_
        refine z_iload_n dX7_tellDatum_63 rfl (j := 2) rfl ?_
        refine z_iload_n dX7_tellDatum_64 rfl (j := 3) rfl ?_
        refine z_callV Γ kk_X7_tellPlain kc_RX7_109 (As := [zv s0 0 w, zv s0 0 r, zv s0 0 e]) h (by omega) (by decide) (show (parseMethodDescriptor yX7_tellPlain.desc).map (fun q => q.parameters.length) = some 3 by decide +kernel) hok (Nat.zero_le _) dX7_tellDatum_65 (by decide) hs56 rfl rfl (fun _ h9 => nomatch h9) ?_
        clear h
        intro r65 M65 h
        show rt_Go _ _ _ _ _ _ _ _ _ _ _ _ 68 [(0, zv s0 2 56), (1, zv s0 0 w), (2, zv s0 0 r), (3, zv s0 0 e)] [] (zw s0 ca C S M65)
        exact z_vret dX7_tellDatum_68 rfl h
    · replace h := h.1 c23
      refine z_aload_n dX7_tellDatum_26 rfl (j := 0) rfl ?_
      refine z_aload_n dX7_tellDatum_27 rfl (j := 0) rfl ?_
      refine z_getc Γ kf_RX7_37 dX7_tellDatum_28 (by decide) hs56 rfl ?_
      refine z_iload_n dX7_tellDatum_31 rfl (j := 1) rfl ?_
      refine z_aload_n dX7_tellDatum_32 rfl (j := 0) rfl ?_
      refine z_callV Γ kk_X7_varint kc_RX7_101 (As := []) h (by omega) (by decide) (show (parseMethodDescriptor yX7_varint.desc).map (fun q => q.parameters.length) = some 0 by decide +kernel) hok (by simp only [List.map, zv_cat0, zv_cat1, zv_cat2, List.sum_cons, List.sum_nil]; decide) dX7_tellDatum_33 (by decide) hs56 rfl rfl (fun _ h9 => nomatch h9) ?_
      clear h
      intro r33 M33 h
      show rt_Go _ _ _ _ _ _ _ _ _ _ _ _ 36 [(0, zv s0 2 56), (1, zv s0 0 w), (2, zv s0 0 r), (3, zv s0 0 e)] [zv s0 1 r33, zv s0 0 w, zv s0 2 p, zv s0 2 56] (zw s0 ca C S M33)
      refine z_l2i dX7_tellDatum_36 ?_
      refine z_callV Γ kk_X6_branch kc_RX7_105 (As := [zv s0 0 w, zv s0 0 r33]) (k_X6_branch (d := d - 1) Γ (by omega) hok hp (M := M33) (Q := fun v9 M9 => v9 = (zf_X6_branch M33 p w r33) ∧ M9 = M33) (X := X) (show _ ∧ _ from ⟨rfl, rfl⟩)) (by omega) (by decide) (show (parseMethodDescriptor yX6_branch.desc).map (fun q => q.parameters.length) = some 2 by decide +kernel) hok (by simp only [List.map, zv_cat0, zv_cat1, zv_cat2, List.sum_cons, List.sum_nil]; decide) dX7_tellDatum_37 hp.1 hp.2.1 rfl rfl (fun _ h9 => nomatch h9) ?_
      rintro v9 M9 ⟨e9, e8⟩
      rw [e9, e8]
      clear e9 e8 v9 M9
      show rt_Go _ _ _ _ _ _ _ _ _ _ _ _ 40 [(0, zv s0 2 56), (1, zv s0 0 w), (2, zv s0 0 r), (3, zv s0 0 e)] [zv s0 0 ((zf_X6_branch M33 p w r33)), zv s0 2 56] (zw s0 ca C S M33)
      refine z_iload_n dX7_tellDatum_40 rfl (j := 2) rfl ?_
      refine z_iload_n dX7_tellDatum_41 rfl (j := 3) rfl ?_
      refine z_iconst dX7_tellDatum_42 ?_
      refine z_iadd dX7_tellDatum_43 ?_
      refine z_callV Γ kk_X7_tellDatum kc_RX7_80 (As := [zv s0 0 ((zf_X6_branch M33 p w r33)), zv s0 0 r, zv s0 0 (e + 1)]) h (by omega) (by decide) (show (parseMethodDescriptor yX7_tellDatum.desc).map (fun q => q.parameters.length) = some 3 by decide +kernel) hok (Nat.zero_le _) dX7_tellDatum_44 (by decide) hs56 rfl rfl (fun _ h9 => nomatch h9) ?_
      clear h
      intro r44 M44 h
      show rt_Go _ _ _ _ _ _ _ _ _ _ _ _ 47 [(0, zv s0 2 56), (1, zv s0 0 w), (2, zv s0 0 r), (3, zv s0 0 e)] [] (zw s0 ca C S M44)
      exact z_vret dX7_tellDatum_47 rfl h
  · replace h := h.2 c3
    refine z_aload_n dX7_tellDatum_6 rfl (j := 0) rfl ?_
    refine z_bipush dX7_tellDatum_7 (by decide) ?_
    refine z_callV Γ kk_X7_halt kc_RX7_88 (As := [zv s0 0 ((-20))]) h (by omega) (by decide) (show (parseMethodDescriptor yX7_halt.desc).map (fun q => q.parameters.length) = some 1 by decide +kernel) hok (Nat.zero_le _) dX7_tellDatum_9 (by decide) hs56 rfl rfl (fun _ h9 => nomatch h9) ?_
    clear h
    intro r9 M9 h
    show rt_Go _ _ _ _ _ _ _ _ _ _ _ _ 12 [(0, zv s0 2 56), (1, zv s0 0 w), (2, zv s0 0 r), (3, zv s0 0 e)] [] (zw s0 ca C S M9)
    exact z_vret dX7_tellDatum_12 rfl h

