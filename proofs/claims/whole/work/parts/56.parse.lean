/-! ===== trees: the class reads a text ===== -/
def zt_X8_fail (l : Launch) (s0 : State) (G : va_G) (ca : Nat → ClassId) (d : Nat) (C : Nat × Nat) (S : zS) (w0 : rt_Wd)  (w : Int) (M : zM) (Q : Int → zM → Prop) (X : zM → Prop) : Prop :=
  zIf (w32 (M 6 12) = ((-1))) (Q 0 ((zu M 6 12 w))) (Q 0 M)
set_option maxRecDepth 100000 in
theorem z_X8_fail {l : Launch} {s0 : State} {a0 : Array Value} {G : va_G} {ca : Nat → ClassId} (Γ : rt_Γ l s0 a0 G ca) {d : Nat} {C : Nat × Nat} {S : zS} (hok : zok C)  (hs : zSok S) (hs6 : S 6 = some (0, 8, [(3, 7), (3, 9), (3, 11), (3, 13), (3, 15), (3, 17), (3, 19), (3, 21), (3, 22), (3, 1), (0, 0), (0, 0), (0, 0)])) {w : Int} {M : zM} {Q : Int → zM → Prop} {X : zM → Prop} (h : zt_X8_fail l s0 G ca d C S (zw s0 ca C S M)  w M Q X) : zm_X8_fail l s0 G ca d C S  w M Q X := by
  refine z_met (lv := [(0, zv s0 2 6), (1, zv s0 0 w)]) Γ kk_X8_fail rfl (show (lg_sl [zv s0 2 6, zv s0 0 w]).length ≤ 2 from by simp only [zn_0, zn_2, show (lg_sl []).length = 0 from rfl]; omega) (show lv_args 0 [zv s0 2 6, zv s0 0 w] = [(0, zv s0 2 6), (1, zv s0 0 w)] from by rw [zl_2, zl_0]; rfl) ?_
  unfold zt_X8_fail at h
  refine z_aload_n dX8_fail_0 rfl (j := 0) rfl ?_
  refine z_get Γ kf_RX8_70 dX8_fail_1 (by decide) hs6 rfl (by decide) (v9 := M 6 12) rfl ?_
  refine z_iconst dX8_fail_4 ?_
  refine z_icmp_ne (tgt := 13) (x' := w32 (M 6 12)) (y' := ((-1))) rfl (by decide) dX8_fail_5 (by decide) (fun c5 => ?_) (fun c5 => ?_)
  · replace h := h.2 c5
    exact z_vret dX8_fail_13 rfl h
  · replace h := h.1 c5
    refine z_aload_n dX8_fail_8 rfl (j := 0) rfl ?_
    refine z_iload_n dX8_fail_9 rfl (j := 1) rfl ?_
    refine z_put0 Γ kp_RX8_70 dX8_fail_10 (by decide) hs6 rfl (k9 := 12) rfl ?_
    exact z_vret dX8_fail_13 rfl h

abbrev zg_X8_skipBlanks_2 (l : Launch) (s0 : State) (G : va_G) (ca : Nat → ClassId) (d : Nat) (C : Nat × Nat) (S : zS) (w0 : rt_Wd)  (v1 : Int)  (M : zM) (Q : Int → zM → Prop) (X : zM → Prop) : Prop := rt_Go l s0 G RX8 "skipBlanks" cX8_skipBlanks 3 (Option.none : Option FieldType) [] d w0 (zQ s0 ca 9 C S Q X) 2 [(0, zv s0 2 6), (1, zv s0 0 v1)] [] (zw s0 ca C S M)
abbrev zg_X8_skipBlanks_46 (l : Launch) (s0 : State) (G : va_G) (ca : Nat → ClassId) (d : Nat) (C : Nat × Nat) (S : zS) (w0 : rt_Wd)  (v1 : Int)  (M : zM) (Q : Int → zM → Prop) (X : zM → Prop) : Prop := rt_Go l s0 G RX8 "skipBlanks" cX8_skipBlanks 3 (Option.none : Option FieldType) [] d w0 (zQ s0 ca 9 C S Q X) 46 [(0, zv s0 2 6), (1, zv s0 0 v1)] [] (zw s0 ca C S M)
def zt_X8_skipBlanks_46 (l : Launch) (s0 : State) (G : va_G) (ca : Nat → ClassId) (d : Nat) (C : Nat × Nat) (S : zS) (w0 : rt_Wd)  (v1 : Int)  (M : zM) (Q : Int → zM → Prop) (X : zM → Prop) : Prop :=
  zg_X8_skipBlanks_2 l s0 G ca d C S w0  (v1 + 1) ((zu M 6 11 ((M 6 11) + 1))) Q X
set_option maxRecDepth 100000 in
theorem zs_X8_skipBlanks_46 {l : Launch} {s0 : State} {a0 : Array Value} {G : va_G} {ca : Nat → ClassId} (Γ : rt_Γ l s0 a0 G ca) {d : Nat} {C : Nat × Nat} {S : zS} (hd : 1 ≤ d) (hok : zok C)  (hs : zSok S) (hs6 : S 6 = some (0, 8, [(3, 7), (3, 9), (3, 11), (3, 13), (3, 15), (3, 17), (3, 19), (3, 21), (3, 22), (3, 1), (0, 0), (0, 0), (0, 0)])) {w0 : rt_Wd} {v1 : Int}   {M : zM} {Q : Int → zM → Prop} {X : zM → Prop} (h : zt_X8_skipBlanks_46 l s0 G ca d C S w0  v1 M Q X) : zg_X8_skipBlanks_46 l s0 G ca d C S w0  v1 M Q X := by
  unfold zt_X8_skipBlanks_46 at h
  refine z_aload_n dX8_skipBlanks_46 rfl (j := 0) rfl ?_
  refine z_dup2 dX8_skipBlanks_47 ?_
  refine z_get Γ kf_RX8_67 dX8_skipBlanks_48 (by decide) hs6 rfl (by decide) (v9 := M 6 11) rfl ?_
  refine z_iconst dX8_skipBlanks_51 ?_
  refine z_iadd dX8_skipBlanks_52 ?_
  refine z_put0 Γ kp_RX8_67 dX8_skipBlanks_53 (by decide) hs6 rfl (k9 := 11) rfl ?_
  refine z_iinc (lv' := [(1, zv s0 0 (v1 + 1)), (0, zv s0 2 6)]) dX8_skipBlanks_56 (j := 1) rfl (by decide) (by simp [zv_cat0, zv_cat1, zv_cat2, zv_cats]) ?_
  refine rt_goto (tgt := 2) dX8_skipBlanks_59 (by decide) ?_
  exact rt_lfew [1, 0] rfl h

def zt_X8_skipBlanks_2 (l : Launch) (s0 : State) (G : va_G) (ca : Nat → ClassId) (d : Nat) (C : Nat × Nat) (S : zS) (w0 : rt_Wd)  (v1 : Int)  (M : zM) (Q : Int → zM → Prop) (X : zM → Prop) : Prop :=
  zIf (4096 ≤ w32 v1) (Q 0 M) (zIf (w32 ((zpeek M 1 2 4096 (M 6 11))) = 9) (zt_X8_skipBlanks_46 l s0 G ca d C S w0  v1 M Q X) (zIf (w32 ((zpeek M 1 2 4096 (M 6 11))) = 10) (zt_X8_skipBlanks_46 l s0 G ca d C S w0  v1 M Q X) (zIf (w32 ((zpeek M 1 2 4096 (M 6 11))) = 13) (zt_X8_skipBlanks_46 l s0 G ca d C S w0  v1 M Q X) (zIf (w32 ((zpeek M 1 2 4096 (M 6 11))) = 32) (zt_X8_skipBlanks_46 l s0 G ca d C S w0  v1 M Q X) (Q 0 M)))))
set_option maxRecDepth 100000 in
theorem zs_X8_skipBlanks_2 {l : Launch} {s0 : State} {a0 : Array Value} {G : va_G} {ca : Nat → ClassId} (Γ : rt_Γ l s0 a0 G ca) {d : Nat} {C : Nat × Nat} {S : zS} (hd : 1 ≤ d) (hok : zok C)  (hs : zSok S) (hs6 : S 6 = some (0, 8, [(3, 7), (3, 9), (3, 11), (3, 13), (3, 15), (3, 17), (3, 19), (3, 21), (3, 22), (3, 1), (0, 0), (0, 0), (0, 0)])) {w0 : rt_Wd} {v1 : Int}   {M : zM} {Q : Int → zM → Prop} {X : zM → Prop} (h : zt_X8_skipBlanks_2 l s0 G ca d C S w0  v1 M Q X) : zg_X8_skipBlanks_2 l s0 G ca d C S w0  v1 M Q X := by
  unfold zt_X8_skipBlanks_2 at h
  refine z_iload_n dX8_skipBlanks_2 rfl (j := 1) rfl ?_
  refine z_sipush dX8_skipBlanks_3 (by decide) ?_
  refine z_icmp_ge (tgt := 62) (x' := w32 v1) (y' := 4096) rfl (by decide) dX8_skipBlanks_6 (by decide) (fun c6 => ?_) (fun c6 => ?_)
  · replace h := h.1 c6
    exact z_vret dX8_skipBlanks_62 rfl h
  · replace h := h.2 c6
    refine z_aload_n dX8_skipBlanks_9 rfl (j := 0) rfl ?_
    refine z_getc Γ kf_RX8_57 dX8_skipBlanks_10 (by decide) hs6 rfl ?_
    refine z_aload_n dX8_skipBlanks_13 rfl (j := 0) rfl ?_
    refine z_get Γ kf_RX8_67 dX8_skipBlanks_14 (by decide) hs6 rfl (by decide) (v9 := M 6 11) rfl ?_
    refine z_callV Γ kk_X0_peek kc_RX8_86 (As := [zv s0 0 (M 6 11)]) (k_X0_peek (d := d - 1) Γ hok (⟨by decide, by decide, by decide, hs 1 _ rfl, hs 2 _ rfl⟩ : zCe S 1 2 4096) (M := M) (Q := fun v9 M9 => v9 = (zpeek M 1 2 4096 (M 6 11)) ∧ M9 = M) (X := X) (show _ ∧ _ from ⟨rfl, rfl⟩)) (by omega) (by decide) (show (parseMethodDescriptor yX0_peek.desc).map (fun q => q.parameters.length) = some 1 by decide +kernel) hok (Nat.zero_le _) dX8_skipBlanks_17 (⟨by decide, by decide, by decide, hs 1 _ rfl, hs 2 _ rfl⟩ : zCe S 1 2 4096).1 (⟨by decide, by decide, by decide, hs 1 _ rfl, hs 2 _ rfl⟩ : zCe S 1 2 4096).2.2.2.1 rfl rfl (fun _ h9 => nomatch h9) ?_
    rintro v9 M9 ⟨e9, e8⟩
    rw [e9, e8]
    clear e9 e8 v9 M9
    show rt_Go _ _ _ _ _ _ _ _ _ _ _ _ 20 [(0, zv s0 2 6), (1, zv s0 0 v1)] [zv s0 0 ((zpeek M 1 2 4096 (M 6 11)))] (zw s0 ca C S M)
    refine z_istore_n (i := 2) (lv' := [(2, zv s0 0 ((zpeek M 1 2 4096 (M 6 11)))), (0, zv s0 2 6), (1, zv s0 0 v1)]) dX8_skipBlanks_20 rfl (by decide) (by simp [zv_cat0, zv_cat1, zv_cat2, zv_cats]) ?_
    refine z_iload_n dX8_skipBlanks_21 rfl (j := 0) rfl ?_
    refine z_bipush dX8_skipBlanks_22 (by decide) ?_
    refine z_icmp_eq (tgt := 46) (x' := w32 ((zpeek M 1 2 4096 (M 6 11)))) (y' := 9) rfl (by decide) dX8_skipBlanks_24 (by decide) (fun c24 => ?_) (fun c24 => ?_)
    · replace h := h.1 c24
      exact rt_lfew [1, 2] rfl (zs_X8_skipBlanks_46 Γ hd hok hs hs6  h)
    · replace h := h.2 c24
      refine z_iload_n dX8_skipBlanks_27 rfl (j := 0) rfl ?_
      refine z_bipush dX8_skipBlanks_28 (by decide) ?_
      refine z_icmp_eq (tgt := 46) (x' := w32 ((zpeek M 1 2 4096 (M 6 11)))) (y' := 10) rfl (by decide) dX8_skipBlanks_30 (by decide) (fun c30 => ?_) (fun c30 => ?_)
      · replace h := h.1 c30
        exact rt_lfew [1, 2] rfl (zs_X8_skipBlanks_46 Γ hd hok hs hs6  h)
      · replace h := h.2 c30
        refine z_iload_n dX8_skipBlanks_33 rfl (j := 0) rfl ?_
        refine z_bipush dX8_skipBlanks_34 (by decide) ?_
        refine z_icmp_eq (tgt := 46) (x' := w32 ((zpeek M 1 2 4096 (M 6 11)))) (y' := 13) rfl (by decide) dX8_skipBlanks_36 (by decide) (fun c36 => ?_) (fun c36 => ?_)
        · replace h := h.1 c36
          exact rt_lfew [1, 2] rfl (zs_X8_skipBlanks_46 Γ hd hok hs hs6  h)
        · replace h := h.2 c36
          refine z_iload_n dX8_skipBlanks_39 rfl (j := 0) rfl ?_
          refine z_bipush dX8_skipBlanks_40 (by decide) ?_
          refine z_icmp_eq (tgt := 46) (x' := w32 ((zpeek M 1 2 4096 (M 6 11)))) (y' := 32) rfl (by decide) dX8_skipBlanks_42 (by decide) (fun c42 => ?_) (fun c42 => ?_)
          · replace h := h.1 c42
            exact rt_lfew [1, 2] rfl (zs_X8_skipBlanks_46 Γ hd hok hs hs6  h)
          · replace h := h.2 c42
            exact z_vret dX8_skipBlanks_45 rfl h

def zt_X8_skipBlanks (l : Launch) (s0 : State) (G : va_G) (ca : Nat → ClassId) (d : Nat) (C : Nat × Nat) (S : zS) (w0 : rt_Wd)   (M : zM) (Q : Int → zM → Prop) (X : zM → Prop) : Prop :=
  zg_X8_skipBlanks_2 l s0 G ca d C S w0  0 M Q X
set_option maxRecDepth 100000 in
theorem z_X8_skipBlanks {l : Launch} {s0 : State} {a0 : Array Value} {G : va_G} {ca : Nat → ClassId} (Γ : rt_Γ l s0 a0 G ca) {d : Nat} {C : Nat × Nat} {S : zS} (hd : 1 ≤ d) (hok : zok C)  (hs : zSok S) (hs6 : S 6 = some (0, 8, [(3, 7), (3, 9), (3, 11), (3, 13), (3, 15), (3, 17), (3, 19), (3, 21), (3, 22), (3, 1), (0, 0), (0, 0), (0, 0)]))  {M : zM} {Q : Int → zM → Prop} {X : zM → Prop} (h : zt_X8_skipBlanks l s0 G ca d C S (zw s0 ca C S M)   M Q X) : zm_X8_skipBlanks l s0 G ca d C S   M Q X := by
  refine z_met (lv := [(0, zv s0 2 6)]) Γ kk_X8_skipBlanks rfl (show (lg_sl [zv s0 2 6]).length ≤ 3 from by simp only [zn_2, show (lg_sl []).length = 0 from rfl]; omega) (show lv_args 0 [zv s0 2 6] = [(0, zv s0 2 6)] from by rw [zl_2]; rfl) ?_
  unfold zt_X8_skipBlanks at h
  refine z_iconst dX8_skipBlanks_0 ?_
  refine z_istore_n (i := 1) (lv' := [(1, zv s0 0 0), (0, zv s0 2 6)]) dX8_skipBlanks_1 rfl (by decide) (by simp [zv_cat0, zv_cat1, zv_cat2, zv_cats]) ?_
  exact rt_lfew [1, 0] rfl h

def zt_X8_parse (l : Launch) (s0 : State) (G : va_G) (ca : Nat → ClassId) (d : Nat) (C : Nat × Nat) (S : zS) (w0 : rt_Wd)  (o : Int) (M : zM) (Q : Int → zM → Prop) (X : zM → Prop) : Prop :=
  zIf (o < 0) (Q 0 M) (zm_X8_skipBlanks l s0 G ca (d - 1) C S  ((zu ((zu ((zu ((zcut ((zu M 6 9 o)) 22 4096 0)) 6 10 0)) 6 11 0)) 6 12 ((-1)))) (fun r35 M35 => zm_X8_parseValue l s0 G ca (d - 1) C S 0 M35 (fun r40 M40 => zm_X8_skipBlanks l s0 G ca (d - 1) C S  M40 (fun r45 M45 => ∃ (ad1 : Int) (nd1 : Nat), zCe S (M45 6 9) ad1 nd1 ∧ (zIf (w32 ((M45 (M45 6 9) 1)) ≤ w32 (M45 6 11)) (Q (M45 6 12) M45) (zm_X8_fail l s0 G ca (d - 1) C S (M45 6 11) M45 (fun r67 M67 => Q (M67 6 12) M67) X))) X) X) X)
set_option maxRecDepth 100000 in
theorem z_X8_parse {l : Launch} {s0 : State} {a0 : Array Value} {G : va_G} {ca : Nat → ClassId} (Γ : rt_Γ l s0 a0 G ca) {d : Nat} {C : Nat × Nat} {S : zS} (hd : 1 ≤ d) (hok : zok C)  (hs : zSok S) (hs6 : S 6 = some (0, 8, [(3, 7), (3, 9), (3, 11), (3, 13), (3, 15), (3, 17), (3, 19), (3, 21), (3, 22), (2, 0), (0, 0), (0, 0), (0, 0)])) {o : Int} {M : zM} {Q : Int → zM → Prop} {X : zM → Prop} (h : zt_X8_parse l s0 G ca d C S (zw s0 ca C S M)  o M Q X) : zm_X8_parse l s0 G ca d C S  o M Q X := by
  refine z_met (lv := [(0, zv s0 2 6), (1, zv s0 2 o)]) Γ kk_X8_parse rfl (show (lg_sl [zv s0 2 6, zv s0 2 o]).length ≤ 2 from by simp only [zn_2, show (lg_sl []).length = 0 from rfl]; omega) (show lv_args 0 [zv s0 2 6, zv s0 2 o] = [(0, zv s0 2 6), (1, zv s0 2 o)] from by rw [zl_2, zl_2]; rfl) ?_
  unfold zt_X8_parse at h
  refine z_aload_n dX8_parse_0 rfl (j := 1) rfl ?_
  refine z_ifnonnull (tgt := 6) dX8_parse_1 (by decide) (fun c1 => ?_) (fun c1 => ?_)
  · replace h := h.2 c1
    refine z_aload_n dX8_parse_6 rfl (j := 0) rfl ?_
    refine z_aload_n dX8_parse_7 rfl (j := 1) rfl ?_
    refine z_put2 Γ kp_RX8_57 dX8_parse_8 (by decide) hs6 rfl (k9 := 9) rfl ?_
    refine z_aload_n dX8_parse_11 rfl (j := 0) rfl ?_
    refine z_getc Γ kf_RX8_42 dX8_parse_12 (by decide) hs6 rfl ?_
    refine z_iconst dX8_parse_15 ?_
    refine z_callV Γ kk_X0_cut kc_RX8_60 (As := [zv s0 0 0]) (k_X0_cut (d := d - 1) Γ hok (⟨by decide, by decide, by decide, hs 22 _ rfl, hs 23 _ rfl⟩ : zCe S 22 23 4096) (M := ((zu M 6 9 o))) (Q := fun v9 M9 => v9 = 0 ∧ M9 = (zcut ((zu M 6 9 o)) 22 4096 0)) (X := X) (show _ ∧ _ from ⟨rfl, rfl⟩)) (by omega) (by decide) (show (parseMethodDescriptor yX0_cut.desc).map (fun q => q.parameters.length) = some 1 by decide +kernel) hok (Nat.zero_le _) dX8_parse_16 (⟨by decide, by decide, by decide, hs 22 _ rfl, hs 23 _ rfl⟩ : zCe S 22 23 4096).1 (⟨by decide, by decide, by decide, hs 22 _ rfl, hs 23 _ rfl⟩ : zCe S 22 23 4096).2.2.2.1 rfl rfl (fun _ h9 => nomatch h9) ?_
    rintro v9 M9 ⟨e9, e8⟩
    rw [e9, e8]
    clear e9 e8 v9 M9
    show rt_Go _ _ _ _ _ _ _ _ _ _ _ _ 19 [(0, zv s0 2 6), (1, zv s0 2 o)] [] (zw s0 ca C S ((zcut ((zu M 6 9 o)) 22 4096 0)))
    refine z_aload_n dX8_parse_19 rfl (j := 0) rfl ?_
    refine z_iconst dX8_parse_20 ?_
    refine z_put0 Γ kp_RX8_63 dX8_parse_21 (by decide) hs6 rfl (k9 := 10) rfl ?_
    refine z_aload_n dX8_parse_24 rfl (j := 0) rfl ?_
    refine z_iconst dX8_parse_25 ?_
    refine z_put0 Γ kp_RX8_67 dX8_parse_26 (by decide) hs6 rfl (k9 := 11) rfl ?_
    refine z_aload_n dX8_parse_29 rfl (j := 0) rfl ?_
    refine z_iconst dX8_parse_30 ?_
    refine z_put0 Γ kp_RX8_70 dX8_parse_31 (by decide) hs6 rfl (k9 := 12) rfl ?_
    refine z_aload_n dX8_parse_34 rfl (j := 0) rfl ?_
    refine z_callV Γ kk_X8_skipBlanks kc_RX8_73 (As := []) h (by omega) (by decide) (show (parseMethodDescriptor yX8_skipBlanks.desc).map (fun q => q.parameters.length) = some 0 by decide +kernel) hok (Nat.zero_le _) dX8_parse_35 (by decide) hs6 rfl rfl (fun _ h9 => nomatch h9) ?_
    clear h
    intro r35 M35 h
    show rt_Go _ _ _ _ _ _ _ _ _ _ _ _ 38 [(0, zv s0 2 6), (1, zv s0 2 o)] [] (zw s0 ca C S M35)
    refine z_aload_n dX8_parse_38 rfl (j := 0) rfl ?_
    refine z_iconst dX8_parse_39 ?_
    refine z_callV Γ kk_X8_parseValue kc_RX8_76 (As := [zv s0 0 0]) h (by omega) (by decide) (show (parseMethodDescriptor yX8_parseValue.desc).map (fun q => q.parameters.length) = some 1 by decide +kernel) hok (Nat.zero_le _) dX8_parse_40 (by decide) hs6 rfl rfl (fun _ h9 => nomatch h9) ?_
    clear h
    intro r40 M40 h
    show rt_Go _ _ _ _ _ _ _ _ _ _ _ _ 43 [(0, zv s0 2 6), (1, zv s0 2 o)] [zv s0 0 r40] (zw s0 ca C S M40)
    refine z_pop0 dX8_parse_43 ?_
    refine z_aload_n dX8_parse_44 rfl (j := 0) rfl ?_
    refine z_callV Γ kk_X8_skipBlanks kc_RX8_73 (As := []) h (by omega) (by decide) (show (parseMethodDescriptor yX8_skipBlanks.desc).map (fun q => q.parameters.length) = some 0 by decide +kernel) hok (Nat.zero_le _) dX8_parse_45 (by decide) hs6 rfl rfl (fun _ h9 => nomatch h9) ?_
    clear h
    intro r45 M45 h
    show rt_Go _ _ _ _ _ _ _ _ _ _ _ _ 48 [(0, zv s0 2 6), (1, zv s0 2 o)] [] (zw s0 ca C S M45)
    refine z_aload_n dX8_parse_48 rfl (j := 0) rfl ?_
    refine z_get Γ kf_RX8_67 dX8_parse_49 (by decide) hs6 rfl (by decide) (v9 := M45 6 11) rfl ?_
    refine z_aload_n dX8_parse_52 rfl (j := 0) rfl ?_
    refine z_get Γ kf_RX8_57 dX8_parse_53 (by decide) hs6 rfl (by decide) (v9 := M45 6 9) rfl ?_
    obtain ⟨ad1, nd1, hk0, h⟩ := h
    refine z_callV Γ kk_X0_count kc_RX8_79 (As := []) (k_X0_count (d := d - 1) Γ hok (hk0 : zCe S (M45 6 9) ad1 nd1) (M := M45) (Q := fun v9 M9 => v9 = (M45 (M45 6 9) 1) ∧ M9 = M45) (X := X) (show _ ∧ _ from ⟨rfl, rfl⟩)) (by omega) (by decide) (show (parseMethodDescriptor yX0_count.desc).map (fun q => q.parameters.length) = some 0 by decide +kernel) hok (by simp only [List.map, zv_cat0, zv_cat1, zv_cat2, List.sum_cons, List.sum_nil]; decide) dX8_parse_56 (hk0 : zCe S (M45 6 9) ad1 nd1).1 (hk0 : zCe S (M45 6 9) ad1 nd1).2.2.2.1 rfl rfl (fun _ h9 => nomatch h9) ?_
    rintro v9 M9 ⟨e9, e8⟩
    rw [e9, e8]
    clear e9 e8 v9 M9
    show rt_Go _ _ _ _ _ _ _ _ _ _ _ _ 59 [(0, zv s0 2 6), (1, zv s0 2 o)] [zv s0 0 ((M45 (M45 6 9) 1)), zv s0 0 (M45 6 11)] (zw s0 ca C S M45)
    refine z_icmp_ge (tgt := 70) (x' := w32 (M45 6 11)) (y' := w32 ((M45 (M45 6 9) 1))) rfl rfl dX8_parse_59 (by decide) (fun c59 => ?_) (fun c59 => ?_)
    · replace h := h.1 c59
      refine z_aload_n dX8_parse_70 rfl (j := 0) rfl ?_
      refine z_get Γ kf_RX8_70 dX8_parse_71 (by decide) hs6 rfl (by decide) (v9 := M45 6 12) rfl ?_
      exact z_iret dX8_parse_74 rfl h
    · replace h := h.2 c59
      refine z_aload_n dX8_parse_62 rfl (j := 0) rfl ?_
      refine z_aload_n dX8_parse_63 rfl (j := 0) rfl ?_
      refine z_get Γ kf_RX8_67 dX8_parse_64 (by decide) hs6 rfl (by decide) (v9 := M45 6 11) rfl ?_
      refine z_callV Γ kk_X8_fail kc_RX8_83 (As := [zv s0 0 (M45 6 11)]) h (by omega) (by decide) (show (parseMethodDescriptor yX8_fail.desc).map (fun q => q.parameters.length) = some 1 by decide +kernel) hok (Nat.zero_le _) dX8_parse_67 (by decide) hs6 rfl rfl (fun _ h9 => nomatch h9) ?_
      clear h
      intro r67 M67 h
      show rt_Go _ _ _ _ _ _ _ _ _ _ _ _ 70 [(0, zv s0 2 6), (1, zv s0 2 o)] [] (zw s0 ca C S M67)
      refine z_aload_n dX8_parse_70 rfl (j := 0) rfl ?_
      refine z_get Γ kf_RX8_70 dX8_parse_71 (by decide) hs6 rfl (by decide) (v9 := M67 6 12) rfl ?_
      exact z_iret dX8_parse_74 rfl h
  · replace h := h.1 c1
    refine z_iconst dX8_parse_4 ?_
    exact z_iret dX8_parse_5 rfl h

