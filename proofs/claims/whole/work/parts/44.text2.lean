/-! ===== trees: TEXT2 ===== -/
def zt_X8_says (l : Launch) (s0 : State) (G : va_G) (ca : Nat → ClassId) (d : Nat) (C : Nat × Nat) (S : zS) (w0 : rt_Wd) (w : Nat) (wb : List Int) (v : Int) (M : zM) (Q : Int → zM → Prop) (X : zM → Prop) : Prop :=
  zm_X0_says l s0 G ca (d - 1) C S 22 ((zat M 18 2073 v)) w M (fun r13 M13 => (r13 = 0 ∨ r13 = 1) ∧ Q r13 M13) X
set_option maxRecDepth 100000 in
theorem z_X8_says {l : Launch} {s0 : State} {a0 : Array Value} {G : va_G} {ca : Nat → ClassId} (Γ : rt_Γ l s0 a0 G ca) {d : Nat} {C : Nat × Nat} {S : zS} (hd : 1 ≤ d) (hok : zok C) {w : Nat} {wb : List Int} (hs : zSok S) (hs6 : S 6 = some (0, 8, [(3, 7), (3, 9), (3, 11), (3, 13), (3, 15), (3, 17), (3, 19), (3, 21), (3, 22), (3, 1), (0, 0), (0, 0), (0, 0)])) (hw : zstr s0 w wb) {v : Int} {M : zM} {Q : Int → zM → Prop} {X : zM → Prop} (h : zt_X8_says l s0 G ca d C S (zw s0 ca C S M) w wb v M Q X) : zm_X8_says l s0 G ca d C S  v w M Q X := by
  refine z_met (lv := [(0, zv s0 2 6), (1, zv s0 0 v), (2, .ref w)]) Γ kk_X8_says rfl (show (lg_sl [zv s0 2 6, zv s0 0 v, .ref w]).length ≤ 3 from by simp only [zn_0, zn_2, zn_s, show (lg_sl []).length = 0 from rfl]; omega) (show lv_args 0 [zv s0 2 6, zv s0 0 v, .ref w] = [(0, zv s0 2 6), (1, zv s0 0 v), (2, .ref w)] from by rw [zl_2, zl_0, zl_s]; rfl) ?_
  unfold zt_X8_says at h
  refine z_aload_n dX8_says_0 rfl (j := 0) rfl ?_
  refine z_getc Γ kf_RX8_42 dX8_says_1 (by decide) hs6 rfl ?_
  refine z_aload_n dX8_says_4 rfl (j := 0) rfl ?_
  refine z_getc Γ kf_RX8_32 dX8_says_5 (by decide) hs6 rfl ?_
  refine z_iload_n dX8_says_8 rfl (j := 1) rfl ?_
  refine z_callV Γ kk_X0_at kc_RX8_45 (As := [zv s0 0 v]) (k_X0_at (d := d - 1) Γ hok (⟨by decide, by decide, by decide, hs 17 _ rfl, hs 18 _ rfl⟩ : zCe S 17 18 2073) (M := M) (Q := fun v9 M9 => v9 = (zat M 18 2073 v) ∧ M9 = M) (X := X) (show _ ∧ _ from ⟨rfl, rfl⟩)) (by omega) (by decide) (show (parseMethodDescriptor yX0_at.desc).map (fun q => q.parameters.length) = some 1 by decide +kernel) hok (by simp only [List.map, zv_cat0, zv_cat1, zv_cat2, List.sum_cons, List.sum_nil]; decide) dX8_says_9 (⟨by decide, by decide, by decide, hs 17 _ rfl, hs 18 _ rfl⟩ : zCe S 17 18 2073).1 (⟨by decide, by decide, by decide, hs 17 _ rfl, hs 18 _ rfl⟩ : zCe S 17 18 2073).2.2.2.1 rfl rfl (fun _ h9 => nomatch h9) ?_
  rintro v9 M9 ⟨e9, e8⟩
  rw [e9, e8]
  clear e9 e8 v9 M9
  show rt_Go _ _ _ _ _ _ _ _ _ _ _ _ 12 [(0, zv s0 2 6), (1, zv s0 0 v), (2, .ref w)] [zv s0 0 ((zat M 18 2073 v)), zv s0 2 22] (zw s0 ca C S M)
  refine rt_aloadA_n dX8_says_12 rfl (j := 2) rfl ?_
  refine z_callV Γ kk_X0_says kc_RX8_49 (As := [zv s0 0 ((zat M 18 2073 v)), .ref w]) h (by omega) (by decide) (show (parseMethodDescriptor yX0_says.desc).map (fun q => q.parameters.length) = some 2 by decide +kernel) hok (Nat.zero_le _) dX8_says_13 (⟨by decide, by decide, by decide, hs 22 _ rfl, hs 23 _ rfl⟩ : zCe S 22 23 4096).1 (⟨by decide, by decide, by decide, hs 22 _ rfl, hs 23 _ rfl⟩ : zCe S 22 23 4096).2.2.2.1 rfl rfl (fun _ h9 => nomatch h9) ?_
  clear h
  intro r13 M13 h
  show rt_Go _ _ _ _ _ _ _ _ _ _ _ _ 16 [(0, zv s0 2 6), (1, zv s0 0 v), (2, .ref w)] [zv s0 0 r13] (zw s0 ca C S M13)
  obtain ⟨hi9, h⟩ := h
  exact z_zret dX8_says_16 rfl hi9 h

abbrev zg_X8_member_12 (l : Launch) (s0 : State) (G : va_G) (ca : Nat → ClassId) (d : Nat) (C : Nat × Nat) (S : zS) (w0 : rt_Wd) (w : Nat) (wb : List Int) (v3 : Int) (v4 : Int)  (M : zM) (Q : Int → zM → Prop) (X : zM → Prop) : Prop := rt_Go l s0 G RX8 "member" cX8_member 5 (Option.some FieldType.int) [] d w0 (zQ s0 ca 0 C S Q X) 12 [(0, zv s0 2 6), (2, .ref w), (3, zv s0 0 v3), (4, zv s0 0 v4)] [] (zw s0 ca C S M)
def zt_X8_member_12 (l : Launch) (s0 : State) (G : va_G) (ca : Nat → ClassId) (d : Nat) (C : Nat × Nat) (S : zS) (w0 : rt_Wd) (w : Nat) (wb : List Int) (v3 : Int) (v4 : Int)  (M : zM) (Q : Int → zM → Prop) (X : zM → Prop) : Prop :=
  zIf (2073 ≤ w32 v4) (Q ((-1)) M) (zIf (w32 v3 = ((-1))) (Q ((-1)) M) (zm_X0_says l s0 G ca (d - 1) C S 22 ((zat M 20 2073 v3)) w M (fun r38 M38 => zIf (w32 r38 = 0) (zg_X8_member_12 l s0 G ca d C S w0 w wb ((zat M38 12 2073 v3)) (v4 + 1) M38 Q X) (Q v3 M38)) X))
set_option maxRecDepth 100000 in
theorem zs_X8_member_12 {l : Launch} {s0 : State} {a0 : Array Value} {G : va_G} {ca : Nat → ClassId} (Γ : rt_Γ l s0 a0 G ca) {d : Nat} {C : Nat × Nat} {S : zS} (hd : 1 ≤ d) (hok : zok C) {w : Nat} {wb : List Int} (hs : zSok S) (hs6 : S 6 = some (0, 8, [(3, 7), (3, 9), (3, 11), (3, 13), (3, 15), (3, 17), (3, 19), (3, 21), (3, 22), (3, 1), (0, 0), (0, 0), (0, 0)])) (hw : zstr s0 w wb) {w0 : rt_Wd} {v3 : Int} {v4 : Int}   {M : zM} {Q : Int → zM → Prop} {X : zM → Prop} (h : zt_X8_member_12 l s0 G ca d C S w0 w wb v3 v4 M Q X) : zg_X8_member_12 l s0 G ca d C S w0 w wb v3 v4 M Q X := by
  unfold zt_X8_member_12 at h
  refine z_iload dX8_member_12 (j := 3) rfl ?_
  refine z_sipush dX8_member_14 (by decide) ?_
  refine z_icmp_ge (tgt := 61) (x' := w32 v4) (y' := 2073) rfl (by decide) dX8_member_17 (by decide) (fun c17 => ?_) (fun c17 => ?_)
  · replace h := h.1 c17
    refine z_iconst dX8_member_61 ?_
    exact z_iret dX8_member_62 rfl h
  · replace h := h.2 c17
    refine z_iload_n dX8_member_20 rfl (j := 2) rfl ?_
    refine z_iconst dX8_member_21 ?_
    refine z_icmp_eq (tgt := 61) (x' := w32 v3) (y' := ((-1))) rfl (by decide) dX8_member_22 (by decide) (fun c22 => ?_) (fun c22 => ?_)
    · replace h := h.1 c22
      refine z_iconst dX8_member_61 ?_
      exact z_iret dX8_member_62 rfl h
    · replace h := h.2 c22
      refine z_aload_n dX8_member_25 rfl (j := 0) rfl ?_
      refine z_getc Γ kf_RX8_42 dX8_member_26 (by decide) hs6 rfl ?_
      refine z_aload_n dX8_member_29 rfl (j := 0) rfl ?_
      refine z_getc Γ kf_RX8_35 dX8_member_30 (by decide) hs6 rfl ?_
      refine z_iload_n dX8_member_33 rfl (j := 2) rfl ?_
      refine z_callV Γ kk_X0_at kc_RX8_45 (As := [zv s0 0 v3]) (k_X0_at (d := d - 1) Γ hok (⟨by decide, by decide, by decide, hs 19 _ rfl, hs 20 _ rfl⟩ : zCe S 19 20 2073) (M := M) (Q := fun v9 M9 => v9 = (zat M 20 2073 v3) ∧ M9 = M) (X := X) (show _ ∧ _ from ⟨rfl, rfl⟩)) (by omega) (by decide) (show (parseMethodDescriptor yX0_at.desc).map (fun q => q.parameters.length) = some 1 by decide +kernel) hok (by simp only [List.map, zv_cat0, zv_cat1, zv_cat2, List.sum_cons, List.sum_nil]; decide) dX8_member_34 (⟨by decide, by decide, by decide, hs 19 _ rfl, hs 20 _ rfl⟩ : zCe S 19 20 2073).1 (⟨by decide, by decide, by decide, hs 19 _ rfl, hs 20 _ rfl⟩ : zCe S 19 20 2073).2.2.2.1 rfl rfl (fun _ h9 => nomatch h9) ?_
      rintro v9 M9 ⟨e9, e8⟩
      rw [e9, e8]
      clear e9 e8 v9 M9
      show rt_Go _ _ _ _ _ _ _ _ _ _ _ _ 37 [(0, zv s0 2 6), (2, .ref w), (3, zv s0 0 v3), (4, zv s0 0 v4)] [zv s0 0 ((zat M 20 2073 v3)), zv s0 2 22] (zw s0 ca C S M)
      refine rt_aloadA_n dX8_member_37 rfl (j := 1) rfl ?_
      refine z_callV Γ kk_X0_says kc_RX8_49 (As := [zv s0 0 ((zat M 20 2073 v3)), .ref w]) h (by omega) (by decide) (show (parseMethodDescriptor yX0_says.desc).map (fun q => q.parameters.length) = some 2 by decide +kernel) hok (Nat.zero_le _) dX8_member_38 (⟨by decide, by decide, by decide, hs 22 _ rfl, hs 23 _ rfl⟩ : zCe S 22 23 4096).1 (⟨by decide, by decide, by decide, hs 22 _ rfl, hs 23 _ rfl⟩ : zCe S 22 23 4096).2.2.2.1 rfl rfl (fun _ h9 => nomatch h9) ?_
      clear h
      intro r38 M38 h
      show rt_Go _ _ _ _ _ _ _ _ _ _ _ _ 41 [(0, zv s0 2 6), (2, .ref w), (3, zv s0 0 v3), (4, zv s0 0 v4)] [zv s0 0 r38] (zw s0 ca C S M38)
      refine z_if_eq (tgt := 46) (x' := w32 r38) rfl dX8_member_41 (by decide) (fun c41 => ?_) (fun c41 => ?_)
      · replace h := h.1 c41
        refine z_aload_n dX8_member_46 rfl (j := 0) rfl ?_
        refine z_getc Γ kf_RX8_23 dX8_member_47 (by decide) hs6 rfl ?_
        refine z_iload_n dX8_member_50 rfl (j := 2) rfl ?_
        refine z_callV Γ kk_X0_at kc_RX8_45 (As := [zv s0 0 v3]) (k_X0_at (d := d - 1) Γ hok (⟨by decide, by decide, by decide, hs 11 _ rfl, hs 12 _ rfl⟩ : zCe S 11 12 2073) (M := M38) (Q := fun v9 M9 => v9 = (zat M38 12 2073 v3) ∧ M9 = M38) (X := X) (show _ ∧ _ from ⟨rfl, rfl⟩)) (by omega) (by decide) (show (parseMethodDescriptor yX0_at.desc).map (fun q => q.parameters.length) = some 1 by decide +kernel) hok (Nat.zero_le _) dX8_member_51 (⟨by decide, by decide, by decide, hs 11 _ rfl, hs 12 _ rfl⟩ : zCe S 11 12 2073).1 (⟨by decide, by decide, by decide, hs 11 _ rfl, hs 12 _ rfl⟩ : zCe S 11 12 2073).2.2.2.1 rfl rfl (fun _ h9 => nomatch h9) ?_
        rintro v9 M9 ⟨e9, e8⟩
        rw [e9, e8]
        clear e9 e8 v9 M9
        show rt_Go _ _ _ _ _ _ _ _ _ _ _ _ 54 [(0, zv s0 2 6), (2, .ref w), (3, zv s0 0 v3), (4, zv s0 0 v4)] [zv s0 0 ((zat M38 12 2073 v3))] (zw s0 ca C S M38)
        refine z_istore_n (i := 3) (lv' := [(3, zv s0 0 ((zat M38 12 2073 v3))), (0, zv s0 2 6), (2, .ref w), (4, zv s0 0 v4)]) dX8_member_54 rfl (by decide) (by simp [zv_cat0, zv_cat1, zv_cat2, zv_cats]) ?_
        refine z_iinc (lv' := [(4, zv s0 0 (v4 + 1)), (3, zv s0 0 ((zat M38 12 2073 v3))), (0, zv s0 2 6), (2, .ref w)]) dX8_member_55 (j := 3) rfl (by decide) (by simp [zv_cat0, zv_cat1, zv_cat2, zv_cats]) ?_
        refine rt_goto (tgt := 12) dX8_member_58 (by decide) ?_
        exact rt_lfew [2, 3, 1, 0] rfl h
      · replace h := h.2 c41
        refine z_iload_n dX8_member_44 rfl (j := 2) rfl ?_
        exact z_iret dX8_member_45 rfl h

def zt_X8_member (l : Launch) (s0 : State) (G : va_G) (ca : Nat → ClassId) (d : Nat) (C : Nat × Nat) (S : zS) (w0 : rt_Wd) (w : Nat) (wb : List Int) (v : Int) (M : zM) (Q : Int → zM → Prop) (X : zM → Prop) : Prop :=
  zg_X8_member_12 l s0 G ca d C S w0 w wb ((zat M 14 2073 v)) 0 M Q X
set_option maxRecDepth 100000 in
theorem z_X8_member {l : Launch} {s0 : State} {a0 : Array Value} {G : va_G} {ca : Nat → ClassId} (Γ : rt_Γ l s0 a0 G ca) {d : Nat} {C : Nat × Nat} {S : zS} (hd : 1 ≤ d) (hok : zok C) {w : Nat} {wb : List Int} (hs : zSok S) (hs6 : S 6 = some (0, 8, [(3, 7), (3, 9), (3, 11), (3, 13), (3, 15), (3, 17), (3, 19), (3, 21), (3, 22), (3, 1), (0, 0), (0, 0), (0, 0)])) (hw : zstr s0 w wb) {v : Int} {M : zM} {Q : Int → zM → Prop} {X : zM → Prop} (h : zt_X8_member l s0 G ca d C S (zw s0 ca C S M) w wb v M Q X) : zm_X8_member l s0 G ca d C S  v w M Q X := by
  refine z_met (lv := [(0, zv s0 2 6), (1, zv s0 0 v), (2, .ref w)]) Γ kk_X8_member rfl (show (lg_sl [zv s0 2 6, zv s0 0 v, .ref w]).length ≤ 5 from by simp only [zn_0, zn_2, zn_s, show (lg_sl []).length = 0 from rfl]; omega) (show lv_args 0 [zv s0 2 6, zv s0 0 v, .ref w] = [(0, zv s0 2 6), (1, zv s0 0 v), (2, .ref w)] from by rw [zl_2, zl_0, zl_s]; rfl) ?_
  unfold zt_X8_member at h
  refine z_aload_n dX8_member_0 rfl (j := 0) rfl ?_
  refine z_getc Γ kf_RX8_26 dX8_member_1 (by decide) hs6 rfl ?_
  refine z_iload_n dX8_member_4 rfl (j := 1) rfl ?_
  refine z_callV Γ kk_X0_at kc_RX8_45 (As := [zv s0 0 v]) (k_X0_at (d := d - 1) Γ hok (⟨by decide, by decide, by decide, hs 13 _ rfl, hs 14 _ rfl⟩ : zCe S 13 14 2073) (M := M) (Q := fun v9 M9 => v9 = (zat M 14 2073 v) ∧ M9 = M) (X := X) (show _ ∧ _ from ⟨rfl, rfl⟩)) (by omega) (by decide) (show (parseMethodDescriptor yX0_at.desc).map (fun q => q.parameters.length) = some 1 by decide +kernel) hok (Nat.zero_le _) dX8_member_5 (⟨by decide, by decide, by decide, hs 13 _ rfl, hs 14 _ rfl⟩ : zCe S 13 14 2073).1 (⟨by decide, by decide, by decide, hs 13 _ rfl, hs 14 _ rfl⟩ : zCe S 13 14 2073).2.2.2.1 rfl rfl (fun _ h9 => nomatch h9) ?_
  rintro v9 M9 ⟨e9, e8⟩
  rw [e9, e8]
  clear e9 e8 v9 M9
  show rt_Go _ _ _ _ _ _ _ _ _ _ _ _ 8 [(0, zv s0 2 6), (1, zv s0 0 v), (2, .ref w)] [zv s0 0 ((zat M 14 2073 v))] (zw s0 ca C S M)
  refine z_istore_n (i := 3) (lv' := [(3, zv s0 0 ((zat M 14 2073 v))), (0, zv s0 2 6), (1, zv s0 0 v), (2, .ref w)]) dX8_member_8 rfl (by decide) (by simp [zv_cat0, zv_cat1, zv_cat2, zv_cats]) ?_
  refine z_iconst dX8_member_9 ?_
  refine z_istore (i := 4) (lv' := [(4, zv s0 0 0), (3, zv s0 0 ((zat M 14 2073 v))), (0, zv s0 2 6), (1, zv s0 0 v), (2, .ref w)]) dX8_member_10 (by decide) (by simp [zv_cat0, zv_cat1, zv_cat2, zv_cats]) ?_
  exact rt_lfew [2, 4, 1, 0] rfl h

abbrev zg_X8_memberNamed_13 (l : Launch) (s0 : State) (G : va_G) (ca : Nat → ClassId) (d : Nat) (C : Nat × Nat) (S : zS) (w0 : rt_Wd)  (v2 : Int) (v3 : Int) (v4 : Int) (v5 : Int)  (M : zM) (Q : Int → zM → Prop) (X : zM → Prop) : Prop := rt_Go l s0 G RX8 "memberNamed" cX8_memberNamed 6 (Option.some FieldType.int) [] d w0 (zQ s0 ca 0 C S Q X) 13 [(0, zv s0 2 6), (2, zv s0 2 v2), (3, zv s0 0 v3), (4, zv s0 0 v4), (5, zv s0 0 v5)] [] (zw s0 ca C S M)
def zt_X8_memberNamed_13 (l : Launch) (s0 : State) (G : va_G) (ca : Nat → ClassId) (d : Nat) (C : Nat × Nat) (S : zS) (w0 : rt_Wd)  (v2 : Int) (v3 : Int) (v4 : Int) (v5 : Int)  (M : zM) (Q : Int → zM → Prop) (X : zM → Prop) : Prop :=
  zIf (2073 ≤ w32 v5) (Q ((-1)) M) (zIf (w32 v4 = ((-1))) (Q ((-1)) M) (zm_X0_isWord l s0 G ca (d - 1) C S 22 ((zat M 20 2073 v4)) v2 v3 M (fun r42 M42 => zIf (w32 r42 = 0) (zg_X8_memberNamed_13 l s0 G ca d C S w0  v2 v3 ((zat M42 12 2073 v4)) (v5 + 1) M42 Q X) (Q v4 M42)) X))
set_option maxRecDepth 100000 in
theorem zs_X8_memberNamed_13 {l : Launch} {s0 : State} {a0 : Array Value} {G : va_G} {ca : Nat → ClassId} (Γ : rt_Γ l s0 a0 G ca) {d : Nat} {C : Nat × Nat} {S : zS} (hd : 1 ≤ d) (hok : zok C)  (hs : zSok S) (hs6 : S 6 = some (0, 8, [(3, 7), (3, 9), (3, 11), (3, 13), (3, 15), (3, 17), (3, 19), (3, 21), (3, 22), (3, 1), (0, 0), (0, 0), (0, 0)])) {w0 : rt_Wd} {v2 : Int} {v3 : Int} {v4 : Int} {v5 : Int}   {M : zM} {Q : Int → zM → Prop} {X : zM → Prop} (h : zt_X8_memberNamed_13 l s0 G ca d C S w0  v2 v3 v4 v5 M Q X) : zg_X8_memberNamed_13 l s0 G ca d C S w0  v2 v3 v4 v5 M Q X := by
  unfold zt_X8_memberNamed_13 at h
  refine z_iload dX8_memberNamed_13 (j := 4) rfl ?_
  refine z_sipush dX8_memberNamed_15 (by decide) ?_
  refine z_icmp_ge (tgt := 68) (x' := w32 v5) (y' := 2073) rfl (by decide) dX8_memberNamed_18 (by decide) (fun c18 => ?_) (fun c18 => ?_)
  · replace h := h.1 c18
    refine z_iconst dX8_memberNamed_68 ?_
    exact z_iret dX8_memberNamed_69 rfl h
  · replace h := h.2 c18
    refine z_iload dX8_memberNamed_21 (j := 3) rfl ?_
    refine z_iconst dX8_memberNamed_23 ?_
    refine z_icmp_eq (tgt := 68) (x' := w32 v4) (y' := ((-1))) rfl (by decide) dX8_memberNamed_24 (by decide) (fun c24 => ?_) (fun c24 => ?_)
    · replace h := h.1 c24
      refine z_iconst dX8_memberNamed_68 ?_
      exact z_iret dX8_memberNamed_69 rfl h
    · replace h := h.2 c24
      refine z_aload_n dX8_memberNamed_27 rfl (j := 0) rfl ?_
      refine z_getc Γ kf_RX8_42 dX8_memberNamed_28 (by decide) hs6 rfl ?_
      refine z_aload_n dX8_memberNamed_31 rfl (j := 0) rfl ?_
      refine z_getc Γ kf_RX8_35 dX8_memberNamed_32 (by decide) hs6 rfl ?_
      refine z_iload dX8_memberNamed_35 (j := 3) rfl ?_
      refine z_callV Γ kk_X0_at kc_RX8_45 (As := [zv s0 0 v4]) (k_X0_at (d := d - 1) Γ hok (⟨by decide, by decide, by decide, hs 19 _ rfl, hs 20 _ rfl⟩ : zCe S 19 20 2073) (M := M) (Q := fun v9 M9 => v9 = (zat M 20 2073 v4) ∧ M9 = M) (X := X) (show _ ∧ _ from ⟨rfl, rfl⟩)) (by omega) (by decide) (show (parseMethodDescriptor yX0_at.desc).map (fun q => q.parameters.length) = some 1 by decide +kernel) hok (by simp only [List.map, zv_cat0, zv_cat1, zv_cat2, List.sum_cons, List.sum_nil]; decide) dX8_memberNamed_37 (⟨by decide, by decide, by decide, hs 19 _ rfl, hs 20 _ rfl⟩ : zCe S 19 20 2073).1 (⟨by decide, by decide, by decide, hs 19 _ rfl, hs 20 _ rfl⟩ : zCe S 19 20 2073).2.2.2.1 rfl rfl (fun _ h9 => nomatch h9) ?_
      rintro v9 M9 ⟨e9, e8⟩
      rw [e9, e8]
      clear e9 e8 v9 M9
      show rt_Go _ _ _ _ _ _ _ _ _ _ _ _ 40 [(0, zv s0 2 6), (2, zv s0 2 v2), (3, zv s0 0 v3), (4, zv s0 0 v4), (5, zv s0 0 v5)] [zv s0 0 ((zat M 20 2073 v4)), zv s0 2 22] (zw s0 ca C S M)
      refine z_aload_n dX8_memberNamed_40 rfl (j := 1) rfl ?_
      refine z_iload_n dX8_memberNamed_41 rfl (j := 2) rfl ?_
      refine z_callV Γ kk_X0_isWord kc_RX8_53 (As := [zv s0 0 ((zat M 20 2073 v4)), zv s0 2 v2, zv s0 0 v3]) h (by omega) (by decide) (show (parseMethodDescriptor yX0_isWord.desc).map (fun q => q.parameters.length) = some 3 by decide +kernel) hok (Nat.zero_le _) dX8_memberNamed_42 (⟨by decide, by decide, by decide, hs 22 _ rfl, hs 23 _ rfl⟩ : zCe S 22 23 4096).1 (⟨by decide, by decide, by decide, hs 22 _ rfl, hs 23 _ rfl⟩ : zCe S 22 23 4096).2.2.2.1 rfl rfl (fun _ h9 => nomatch h9) ?_
      clear h
      intro r42 M42 h
      show rt_Go _ _ _ _ _ _ _ _ _ _ _ _ 45 [(0, zv s0 2 6), (2, zv s0 2 v2), (3, zv s0 0 v3), (4, zv s0 0 v4), (5, zv s0 0 v5)] [zv s0 0 r42] (zw s0 ca C S M42)
      refine z_if_eq (tgt := 51) (x' := w32 r42) rfl dX8_memberNamed_45 (by decide) (fun c45 => ?_) (fun c45 => ?_)
      · replace h := h.1 c45
        refine z_aload_n dX8_memberNamed_51 rfl (j := 0) rfl ?_
        refine z_getc Γ kf_RX8_23 dX8_memberNamed_52 (by decide) hs6 rfl ?_
        refine z_iload dX8_memberNamed_55 (j := 3) rfl ?_
        refine z_callV Γ kk_X0_at kc_RX8_45 (As := [zv s0 0 v4]) (k_X0_at (d := d - 1) Γ hok (⟨by decide, by decide, by decide, hs 11 _ rfl, hs 12 _ rfl⟩ : zCe S 11 12 2073) (M := M42) (Q := fun v9 M9 => v9 = (zat M42 12 2073 v4) ∧ M9 = M42) (X := X) (show _ ∧ _ from ⟨rfl, rfl⟩)) (by omega) (by decide) (show (parseMethodDescriptor yX0_at.desc).map (fun q => q.parameters.length) = some 1 by decide +kernel) hok (Nat.zero_le _) dX8_memberNamed_57 (⟨by decide, by decide, by decide, hs 11 _ rfl, hs 12 _ rfl⟩ : zCe S 11 12 2073).1 (⟨by decide, by decide, by decide, hs 11 _ rfl, hs 12 _ rfl⟩ : zCe S 11 12 2073).2.2.2.1 rfl rfl (fun _ h9 => nomatch h9) ?_
        rintro v9 M9 ⟨e9, e8⟩
        rw [e9, e8]
        clear e9 e8 v9 M9
        show rt_Go _ _ _ _ _ _ _ _ _ _ _ _ 60 [(0, zv s0 2 6), (2, zv s0 2 v2), (3, zv s0 0 v3), (4, zv s0 0 v4), (5, zv s0 0 v5)] [zv s0 0 ((zat M42 12 2073 v4))] (zw s0 ca C S M42)
        refine z_istore (i := 4) (lv' := [(4, zv s0 0 ((zat M42 12 2073 v4))), (0, zv s0 2 6), (2, zv s0 2 v2), (3, zv s0 0 v3), (5, zv s0 0 v5)]) dX8_memberNamed_60 (by decide) (by simp [zv_cat0, zv_cat1, zv_cat2, zv_cats]) ?_
        refine z_iinc (lv' := [(5, zv s0 0 (v5 + 1)), (4, zv s0 0 ((zat M42 12 2073 v4))), (0, zv s0 2 6), (2, zv s0 2 v2), (3, zv s0 0 v3)]) dX8_memberNamed_62 (j := 4) rfl (by decide) (by simp [zv_cat0, zv_cat1, zv_cat2, zv_cats]) ?_
        refine rt_goto (tgt := 13) dX8_memberNamed_65 (by decide) ?_
        exact rt_lfew [2, 3, 4, 1, 0] rfl h
      · replace h := h.2 c45
        refine z_iload dX8_memberNamed_48 (j := 3) rfl ?_
        exact z_iret dX8_memberNamed_50 rfl h

def zt_X8_memberNamed (l : Launch) (s0 : State) (G : va_G) (ca : Nat → ClassId) (d : Nat) (C : Nat × Nat) (S : zS) (w0 : rt_Wd)  (v : Int) (o : Int) (i : Int) (M : zM) (Q : Int → zM → Prop) (X : zM → Prop) : Prop :=
  zg_X8_memberNamed_13 l s0 G ca d C S w0  o i ((zat M 14 2073 v)) 0 M Q X
set_option maxRecDepth 100000 in
theorem z_X8_memberNamed {l : Launch} {s0 : State} {a0 : Array Value} {G : va_G} {ca : Nat → ClassId} (Γ : rt_Γ l s0 a0 G ca) {d : Nat} {C : Nat × Nat} {S : zS} (hd : 1 ≤ d) (hok : zok C)  (hs : zSok S) (hs6 : S 6 = some (0, 8, [(3, 7), (3, 9), (3, 11), (3, 13), (3, 15), (3, 17), (3, 19), (3, 21), (3, 22), (3, 1), (0, 0), (0, 0), (0, 0)])) {v : Int} {o : Int} {i : Int} {M : zM} {Q : Int → zM → Prop} {X : zM → Prop} (h : zt_X8_memberNamed l s0 G ca d C S (zw s0 ca C S M)  v o i M Q X) : zm_X8_memberNamed l s0 G ca d C S  v o i M Q X := by
  refine z_met (lv := [(0, zv s0 2 6), (1, zv s0 0 v), (2, zv s0 2 o), (3, zv s0 0 i)]) Γ kk_X8_memberNamed rfl (show (lg_sl [zv s0 2 6, zv s0 0 v, zv s0 2 o, zv s0 0 i]).length ≤ 6 from by simp only [zn_0, zn_2, show (lg_sl []).length = 0 from rfl]; omega) (show lv_args 0 [zv s0 2 6, zv s0 0 v, zv s0 2 o, zv s0 0 i] = [(0, zv s0 2 6), (1, zv s0 0 v), (2, zv s0 2 o), (3, zv s0 0 i)] from by rw [zl_2, zl_0, zl_2, zl_0]; rfl) ?_
  unfold zt_X8_memberNamed at h
  refine z_aload_n dX8_memberNamed_0 rfl (j := 0) rfl ?_
  refine z_getc Γ kf_RX8_26 dX8_memberNamed_1 (by decide) hs6 rfl ?_
  refine z_iload_n dX8_memberNamed_4 rfl (j := 1) rfl ?_
  refine z_callV Γ kk_X0_at kc_RX8_45 (As := [zv s0 0 v]) (k_X0_at (d := d - 1) Γ hok (⟨by decide, by decide, by decide, hs 13 _ rfl, hs 14 _ rfl⟩ : zCe S 13 14 2073) (M := M) (Q := fun v9 M9 => v9 = (zat M 14 2073 v) ∧ M9 = M) (X := X) (show _ ∧ _ from ⟨rfl, rfl⟩)) (by omega) (by decide) (show (parseMethodDescriptor yX0_at.desc).map (fun q => q.parameters.length) = some 1 by decide +kernel) hok (Nat.zero_le _) dX8_memberNamed_5 (⟨by decide, by decide, by decide, hs 13 _ rfl, hs 14 _ rfl⟩ : zCe S 13 14 2073).1 (⟨by decide, by decide, by decide, hs 13 _ rfl, hs 14 _ rfl⟩ : zCe S 13 14 2073).2.2.2.1 rfl rfl (fun _ h9 => nomatch h9) ?_
  rintro v9 M9 ⟨e9, e8⟩
  rw [e9, e8]
  clear e9 e8 v9 M9
  show rt_Go _ _ _ _ _ _ _ _ _ _ _ _ 8 [(0, zv s0 2 6), (1, zv s0 0 v), (2, zv s0 2 o), (3, zv s0 0 i)] [zv s0 0 ((zat M 14 2073 v))] (zw s0 ca C S M)
  refine z_istore (i := 4) (lv' := [(4, zv s0 0 ((zat M 14 2073 v))), (0, zv s0 2 6), (1, zv s0 0 v), (2, zv s0 2 o), (3, zv s0 0 i)]) dX8_memberNamed_8 (by decide) (by simp [zv_cat0, zv_cat1, zv_cat2, zv_cats]) ?_
  refine z_iconst dX8_memberNamed_10 ?_
  refine z_istore (i := 5) (lv' := [(5, zv s0 0 0), (4, zv s0 0 ((zat M 14 2073 v))), (0, zv s0 2 6), (1, zv s0 0 v), (2, zv s0 2 o), (3, zv s0 0 i)]) dX8_memberNamed_11 (by decide) (by simp [zv_cat0, zv_cat1, zv_cat2, zv_cats]) ?_
  exact rt_lfew [2, 4, 5, 1, 0] rfl h

