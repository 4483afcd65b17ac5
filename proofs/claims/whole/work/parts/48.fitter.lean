/-! ===== trees: FITTER ===== -/
def zt_X3_ask (l : Launch) (s0 : State) (G : va_G) (ca : Nat → ClassId) (d : Nat) (C : Nat × Nat) (S : zS) (w0 : rt_Wd) (p : Int) (q : Int) (w : Int) (r : Int) (M : zM) (Q : Int → zM → Prop) (X : zM → Prop) : Prop :=
  zIf (w32 ((zat M 71 17956 ((w * 134) + r))) = w32 (M 69 4)) (Q 0 M) (Q 0 ((zadd ((zput M 71 17956 ((w * 134) + r) (M 69 4))) 72 73 17956 ((w * 134) + r))))
set_option maxRecDepth 100000 in
theorem z_X3_ask {l : Launch} {s0 : State} {a0 : Array Value} {G : va_G} {ca : Nat → ClassId} (Γ : rt_Γ l s0 a0 G ca) {d : Nat} {C : Nat × Nat} {S : zS} (hd : 1 ≤ d) (hok : zok C) {p : Int} {q : Int} (hs : zSok S) (hp : zSc S p) (hq : zSc S q) (hs69 : S 69 = some (0, 3, [(3, 70), (3, 72), (3, p), (3, q), (0, 0)])) {w : Int} {r : Int} {M : zM} {Q : Int → zM → Prop} {X : zM → Prop} (h : zt_X3_ask l s0 G ca d C S (zw s0 ca C S M) p q w r M Q X) : zm_X3_ask l s0 G ca d C S  w r M Q X := by
  refine z_met (lv := [(0, zv s0 2 69), (1, zv s0 0 w), (2, zv s0 0 r)]) Γ kk_X3_ask rfl (show (lg_sl [zv s0 2 69, zv s0 0 w, zv s0 0 r]).length ≤ 4 from by simp only [zn_0, zn_2, show (lg_sl []).length = 0 from rfl]; omega) (show lv_args 0 [zv s0 2 69, zv s0 0 w, zv s0 0 r] = [(0, zv s0 2 69), (1, zv s0 0 w), (2, zv s0 0 r)] from by rw [zl_2, zl_0, zl_0]; rfl) ?_
  unfold zt_X3_ask at h
  refine z_iload_n dX3_ask_0 rfl (j := 1) rfl ?_
  refine z_sipush dX3_ask_1 (by decide) ?_
  refine z_imul dX3_ask_4 ?_
  refine z_iload_n dX3_ask_5 rfl (j := 2) rfl ?_
  refine z_iadd dX3_ask_6 ?_
  refine z_istore_n (i := 3) (lv' := [(3, zv s0 0 ((w * 134) + r)), (0, zv s0 2 69), (1, zv s0 0 w), (2, zv s0 0 r)]) dX3_ask_7 rfl (by decide) (by simp [zv_cat0, zv_cat1, zv_cat2, zv_cats]) ?_
  refine z_aload_n dX3_ask_8 rfl (j := 1) rfl ?_
  refine z_getc Γ kf_RX3_18 dX3_ask_9 (by decide) hs69 rfl ?_
  refine z_iload_n dX3_ask_12 rfl (j := 0) rfl ?_
  refine z_callV Γ kk_X0_at kc_RX3_50 (As := [zv s0 0 ((w * 134) + r)]) (k_X0_at (d := d - 1) Γ hok (⟨by decide, by decide, by decide, hs 70 _ rfl, hs 71 _ rfl⟩ : zCe S 70 71 17956) (M := M) (Q := fun v9 M9 => v9 = (zat M 71 17956 ((w * 134) + r)) ∧ M9 = M) (X := X) (show _ ∧ _ from ⟨rfl, rfl⟩)) (by omega) (by decide) (show (parseMethodDescriptor yX0_at.desc).map (fun q => q.parameters.length) = some 1 by decide +kernel) hok (Nat.zero_le _) dX3_ask_13 (⟨by decide, by decide, by decide, hs 70 _ rfl, hs 71 _ rfl⟩ : zCe S 70 71 17956).1 (⟨by decide, by decide, by decide, hs 70 _ rfl, hs 71 _ rfl⟩ : zCe S 70 71 17956).2.2.2.1 rfl rfl (fun _ h9 => nomatch h9) ?_
  rintro v9 M9 ⟨e9, e8⟩
  rw [e9, e8]
  clear e9 e8 v9 M9
  show rt_Go _ _ _ _ _ _ _ _ _ _ _ _ 16 [(3, zv s0 0 ((w * 134) + r)), (0, zv s0 2 69), (1, zv s0 0 w), (2, zv s0 0 r)] [zv s0 0 ((zat M 71 17956 ((w * 134) + r)))] (zw s0 ca C S M)
  refine z_aload_n dX3_ask_16 rfl (j := 1) rfl ?_
  refine z_get Γ kf_RX3_32 dX3_ask_17 (by decide) hs69 rfl (by decide) (v9 := M 69 4) rfl ?_
  refine z_icmp_eq (tgt := 44) (x' := w32 ((zat M 71 17956 ((w * 134) + r)))) (y' := w32 (M 69 4)) rfl rfl dX3_ask_20 (by decide) (fun c20 => ?_) (fun c20 => ?_)
  · replace h := h.1 c20
    exact z_vret dX3_ask_44 rfl h
  · replace h := h.2 c20
    refine z_aload_n dX3_ask_23 rfl (j := 1) rfl ?_
    refine z_getc Γ kf_RX3_18 dX3_ask_24 (by decide) hs69 rfl ?_
    refine z_iload_n dX3_ask_27 rfl (j := 0) rfl ?_
    refine z_aload_n dX3_ask_28 rfl (j := 1) rfl ?_
    refine z_get Γ kf_RX3_32 dX3_ask_29 (by decide) hs69 rfl (by decide) (v9 := M 69 4) rfl ?_
    refine z_callV Γ kk_X0_put kc_RX3_58 (As := [zv s0 0 ((w * 134) + r), zv s0 0 (M 69 4)]) (k_X0_put (d := d - 1) Γ hok (⟨by decide, by decide, by decide, hs 70 _ rfl, hs 71 _ rfl⟩ : zCe S 70 71 17956) (M := M) (Q := fun v9 M9 => v9 = 0 ∧ M9 = (zput M 71 17956 ((w * 134) + r) (M 69 4))) (X := X) (show _ ∧ _ from ⟨rfl, rfl⟩)) (by omega) (by decide) (show (parseMethodDescriptor yX0_put.desc).map (fun q => q.parameters.length) = some 2 by decide +kernel) hok (Nat.zero_le _) dX3_ask_32 (⟨by decide, by decide, by decide, hs 70 _ rfl, hs 71 _ rfl⟩ : zCe S 70 71 17956).1 (⟨by decide, by decide, by decide, hs 70 _ rfl, hs 71 _ rfl⟩ : zCe S 70 71 17956).2.2.2.1 rfl rfl (fun _ h9 => nomatch h9) ?_
    rintro v9 M9 ⟨e9, e8⟩
    rw [e9, e8]
    clear e9 e8 v9 M9
    show rt_Go _ _ _ _ _ _ _ _ _ _ _ _ 35 [(3, zv s0 0 ((w * 134) + r)), (0, zv s0 2 69), (1, zv s0 0 w), (2, zv s0 0 r)] [] (zw s0 ca C S ((zput M 71 17956 ((w * 134) + r) (M 69 4))))
    refine z_aload_n dX3_ask_35 rfl (j := 1) rfl ?_
    refine z_getc Γ kf_RX3_22 dX3_ask_36 (by decide) hs69 rfl ?_
    refine z_iload_n dX3_ask_39 rfl (j := 0) rfl ?_
    refine z_callV Γ kk_X0_add kc_RX3_61 (As := [zv s0 0 ((w * 134) + r)]) (k_X0_add (d := d - 1) Γ hok (⟨by decide, by decide, by decide, hs 72 _ rfl, hs 73 _ rfl⟩ : zCe S 72 73 17956) (M := ((zput M 71 17956 ((w * 134) + r) (M 69 4)))) (Q := fun v9 M9 => v9 = (zaddv ((zput M 71 17956 ((w * 134) + r) (M 69 4))) 72 17956) ∧ M9 = (zadd ((zput M 71 17956 ((w * 134) + r) (M 69 4))) 72 73 17956 ((w * 134) + r))) (X := X) (show _ ∧ _ from ⟨rfl, rfl⟩)) (by omega) (by decide) (show (parseMethodDescriptor yX0_add.desc).map (fun q => q.parameters.length) = some 1 by decide +kernel) hok (Nat.zero_le _) dX3_ask_40 (⟨by decide, by decide, by decide, hs 72 _ rfl, hs 73 _ rfl⟩ : zCe S 72 73 17956).1 (⟨by decide, by decide, by decide, hs 72 _ rfl, hs 73 _ rfl⟩ : zCe S 72 73 17956).2.2.2.1 rfl rfl (fun _ h9 => nomatch h9) ?_
    rintro v9 M9 ⟨e9, e8⟩
    rw [e9, e8]
    clear e9 e8 v9 M9
    show rt_Go _ _ _ _ _ _ _ _ _ _ _ _ 43 [(3, zv s0 0 ((w * 134) + r)), (0, zv s0 2 69), (1, zv s0 0 w), (2, zv s0 0 r)] [zv s0 0 ((zaddv ((zput M 71 17956 ((w * 134) + r) (M 69 4))) 72 17956))] (zw s0 ca C S ((zadd ((zput M 71 17956 ((w * 134) + r) (M 69 4))) 72 73 17956 ((w * 134) + r))))
    refine z_pop0 dX3_ask_43 ?_
    exact z_vret dX3_ask_44 rfl h

abbrev zg_X3_hasAllSymbols_2 (l : Launch) (s0 : State) (G : va_G) (ca : Nat → ClassId) (d : Nat) (C : Nat × Nat) (S : zS) (w0 : rt_Wd) (p : Int) (q : Int) (v1 : Int) (v2 : Int) (v3 : Int)  (M : zM) (Q : Int → zM → Prop) (X : zM → Prop) : Prop := rt_Go l s0 G RX3 "hasAllSymbols" cX3_hasAllSymbols 4 (Option.some FieldType.boolean) [] d w0 (zQ s0 ca 0 C S Q X) 2 [(0, zv s0 2 69), (1, zv s0 0 v1), (2, zv s0 0 v2), (3, zv s0 0 v3)] [] (zw s0 ca C S M)
def zt_X3_hasAllSymbols_2 (l : Launch) (s0 : State) (G : va_G) (ca : Nat → ClassId) (d : Nat) (C : Nat × Nat) (S : zS) (w0 : rt_Wd) (p : Int) (q : Int) (v1 : Int) (v2 : Int) (v3 : Int)  (M : zM) (Q : Int → zM → Prop) (X : zM → Prop) : Prop :=
  zIf (w32 (((zat M (p + 12) 134 v1))) ≤ w32 v3) (Q 1 M) (zm_X6_partNamed l s0 G ca (d - 1) C S q v2 ((p + 21)) (((zat M (p + 16) 2048 ((((zat M (p + 10) 134 v1)) + v3))))) M (fun r42 M42 => zIf (w32 r42 = ((-1))) (Q 0 M42) (zg_X3_hasAllSymbols_2 l s0 G ca d C S w0 p q v1 v2 (v3 + 1) M42 Q X)) X)
set_option maxRecDepth 100000 in
theorem zs_X3_hasAllSymbols_2 {l : Launch} {s0 : State} {a0 : Array Value} {G : va_G} {ca : Nat → ClassId} (Γ : rt_Γ l s0 a0 G ca) {d : Nat} {C : Nat × Nat} {S : zS} (hd : 2 ≤ d) (hok : zok C) {p : Int} {q : Int} (hs : zSok S) (hp : zSc S p) (hq : zSc S q) (hs69 : S 69 = some (0, 3, [(3, 70), (3, 72), (3, p), (3, q), (0, 0)])) {w0 : rt_Wd} {v1 : Int} {v2 : Int} {v3 : Int}   {M : zM} {Q : Int → zM → Prop} {X : zM → Prop} (h : zt_X3_hasAllSymbols_2 l s0 G ca d C S w0 p q v1 v2 v3 M Q X) : zg_X3_hasAllSymbols_2 l s0 G ca d C S w0 p q v1 v2 v3 M Q X := by
  unfold zt_X3_hasAllSymbols_2 at h
  refine z_iload_n dX3_hasAllSymbols_2 rfl (j := 3) rfl ?_
  refine z_aload_n dX3_hasAllSymbols_3 rfl (j := 0) rfl ?_
  refine z_getc Γ kf_RX3_25 dX3_hasAllSymbols_4 (by decide) hs69 rfl ?_
  refine z_iload_n dX3_hasAllSymbols_7 rfl (j := 1) rfl ?_
  refine z_callV Γ kk_X6_parts kc_RX3_68 (As := [zv s0 0 v1]) (z_X6_parts (d := d - 1) Γ (by omega) hok hp (M := M) (Q := fun v9 M9 => v9 = ((zat M (p + 12) 134 v1)) ∧ M9 = M) (X := X) (show _ ∧ _ from ⟨rfl, rfl⟩)) (by omega) (by decide) (show (parseMethodDescriptor yX6_parts.desc).map (fun q => q.parameters.length) = some 1 by decide +kernel) hok (by simp only [List.map, zv_cat0, zv_cat1, zv_cat2, List.sum_cons, List.sum_nil]; decide) dX3_hasAllSymbols_8 hp.1 hp.2.1 rfl rfl (fun _ h9 => nomatch h9) ?_
  rintro v9 M9 ⟨e9, e8⟩
  rw [e9, e8]
  clear e9 e8 v9 M9
  show rt_Go _ _ _ _ _ _ _ _ _ _ _ _ 11 [(0, zv s0 2 69), (1, zv s0 0 v1), (2, zv s0 0 v2), (3, zv s0 0 v3)] [zv s0 0 (((zat M (p + 12) 134 v1))), zv s0 0 v3] (zw s0 ca C S M)
  refine z_icmp_ge (tgt := 57) (x' := w32 v3) (y' := w32 (((zat M (p + 12) 134 v1)))) rfl rfl dX3_hasAllSymbols_11 (by decide) (fun c11 => ?_) (fun c11 => ?_)
  · replace h := h.1 c11
    refine z_iconst dX3_hasAllSymbols_57 ?_
    exact z_zret dX3_hasAllSymbols_58 rfl (by decide) h
  · replace h := h.2 c11
    refine z_aload_n dX3_hasAllSymbols_14 rfl (j := 0) rfl ?_
    refine z_getc Γ kf_RX3_29 dX3_hasAllSymbols_15 (by decide) hs69 rfl ?_
    refine z_iload_n dX3_hasAllSymbols_18 rfl (j := 2) rfl ?_
    refine z_aload_n dX3_hasAllSymbols_19 rfl (j := 0) rfl ?_
    refine z_getc Γ kf_RX3_25 dX3_hasAllSymbols_20 (by decide) hs69 rfl ?_
    refine z_callV Γ kk_X6_names kc_RX3_95 (As := []) (z_X6_names (d := d - 1) Γ hok hp (M := M) (Q := fun v9 M9 => v9 = (p + 21) ∧ M9 = M) (X := X) (show _ ∧ _ from ⟨rfl, rfl⟩)) (by omega) (by decide) (show (parseMethodDescriptor yX6_names.desc).map (fun q => q.parameters.length) = some 0 by decide +kernel) hok (by simp only [List.map, zv_cat0, zv_cat1, zv_cat2, List.sum_cons, List.sum_nil]; decide) dX3_hasAllSymbols_23 hp.1 hp.2.1 rfl rfl (fun _ h9 => nomatch h9) ?_
    rintro v9 M9 ⟨e9, e8⟩
    rw [e9, e8]
    clear e9 e8 v9 M9
    show rt_Go _ _ _ _ _ _ _ _ _ _ _ _ 26 [(0, zv s0 2 69), (1, zv s0 0 v1), (2, zv s0 0 v2), (3, zv s0 0 v3)] [zv s0 2 ((p + 21)), zv s0 0 v2, zv s0 2 q] (zw s0 ca C S M)
    refine z_aload_n dX3_hasAllSymbols_26 rfl (j := 0) rfl ?_
    refine z_getc Γ kf_RX3_25 dX3_hasAllSymbols_27 (by decide) hs69 rfl ?_
    refine z_aload_n dX3_hasAllSymbols_30 rfl (j := 0) rfl ?_
    refine z_getc Γ kf_RX3_25 dX3_hasAllSymbols_31 (by decide) hs69 rfl ?_
    refine z_iload_n dX3_hasAllSymbols_34 rfl (j := 1) rfl ?_
    refine z_iload_n dX3_hasAllSymbols_35 rfl (j := 3) rfl ?_
    refine z_callV Γ kk_X6_part kc_RX3_99 (As := [zv s0 0 v1, zv s0 0 v3]) (z_X6_part (d := d - 1) Γ (by omega) hok hp (M := M) (Q := fun v9 M9 => v9 = (((zat M (p + 10) 134 v1)) + v3) ∧ M9 = M) (X := X) (show _ ∧ _ from ⟨rfl, rfl⟩)) (by omega) (by decide) (show (parseMethodDescriptor yX6_part.desc).map (fun q => q.parameters.length) = some 2 by decide +kernel) hok (by simp only [List.map, zv_cat0, zv_cat1, zv_cat2, List.sum_cons, List.sum_nil]; decide) dX3_hasAllSymbols_36 hp.1 hp.2.1 rfl rfl (fun _ h9 => nomatch h9) ?_
    rintro v9 M9 ⟨e9, e8⟩
    rw [e9, e8]
    clear e9 e8 v9 M9
    show rt_Go _ _ _ _ _ _ _ _ _ _ _ _ 39 [(0, zv s0 2 69), (1, zv s0 0 v1), (2, zv s0 0 v2), (3, zv s0 0 v3)] [zv s0 0 ((((zat M (p + 10) 134 v1)) + v3)), zv s0 2 p, zv s0 2 ((p + 21)), zv s0 0 v2, zv s0 2 q] (zw s0 ca C S M)
    refine z_callV Γ kk_X6_partName kc_RX3_102 (As := [zv s0 0 ((((zat M (p + 10) 134 v1)) + v3))]) (z_X6_partName (d := d - 1) Γ (by omega) hok hp (M := M) (Q := fun v9 M9 => v9 = ((zat M (p + 16) 2048 ((((zat M (p + 10) 134 v1)) + v3)))) ∧ M9 = M) (X := X) (show _ ∧ _ from ⟨rfl, rfl⟩)) (by omega) (by decide) (show (parseMethodDescriptor yX6_partName.desc).map (fun q => q.parameters.length) = some 1 by decide +kernel) hok (by simp only [List.map, zv_cat0, zv_cat1, zv_cat2, List.sum_cons, List.sum_nil]; decide) dX3_hasAllSymbols_39 hp.1 hp.2.1 rfl rfl (fun _ h9 => nomatch h9) ?_
    rintro v9 M9 ⟨e9, e8⟩
    rw [e9, e8]
    clear e9 e8 v9 M9
    show rt_Go _ _ _ _ _ _ _ _ _ _ _ _ 42 [(0, zv s0 2 69), (1, zv s0 0 v1), (2, zv s0 0 v2), (3, zv s0 0 v3)] [zv s0 0 (((zat M (p + 16) 2048 ((((zat M (p + 10) 134 v1)) + v3))))), zv s0 2 ((p + 21)), zv s0 0 v2, zv s0 2 q] (zw s0 ca C S M)
    refine z_callV Γ kk_X6_partNamed kc_RX3_105 (As := [zv s0 0 v2, zv s0 2 ((p + 21)), zv s0 0 (((zat M (p + 16) 2048 ((((zat M (p + 10) 134 v1)) + v3)))))]) h (by omega) (by decide) (show (parseMethodDescriptor yX6_partNamed.desc).map (fun q => q.parameters.length) = some 3 by decide +kernel) hok (Nat.zero_le _) dX3_hasAllSymbols_42 hq.1 hq.2.1 rfl rfl (fun _ h9 => nomatch h9) ?_
    clear h
    intro r42 M42 h
    show rt_Go _ _ _ _ _ _ _ _ _ _ _ _ 45 [(0, zv s0 2 69), (1, zv s0 0 v1), (2, zv s0 0 v2), (3, zv s0 0 v3)] [zv s0 0 r42] (zw s0 ca C S M42)
    refine z_iconst dX3_hasAllSymbols_45 ?_
    refine z_icmp_ne (tgt := 51) (x' := w32 r42) (y' := ((-1))) rfl (by decide) dX3_hasAllSymbols_46 (by decide) (fun c46 => ?_) (fun c46 => ?_)
    · replace h := h.2 c46
      refine z_iinc (lv' := [(3, zv s0 0 (v3 + 1)), (0, zv s0 2 69), (1, zv s0 0 v1), (2, zv s0 0 v2)]) dX3_hasAllSymbols_51 (j := 3) rfl (by decide) (by simp [zv_cat0, zv_cat1, zv_cat2, zv_cats]) ?_
      refine rt_goto (tgt := 2) dX3_hasAllSymbols_54 (by decide) ?_
      exact rt_lfew [1, 2, 3, 0] rfl h
    · replace h := h.1 c46
      refine z_iconst dX3_hasAllSymbols_49 ?_
      exact z_zret dX3_hasAllSymbols_50 rfl (by decide) h

def zt_X3_hasAllSymbols (l : Launch) (s0 : State) (G : va_G) (ca : Nat → ClassId) (d : Nat) (C : Nat × Nat) (S : zS) (w0 : rt_Wd) (p : Int) (q : Int) (w : Int) (r : Int) (M : zM) (Q : Int → zM → Prop) (X : zM → Prop) : Prop :=
  zg_X3_hasAllSymbols_2 l s0 G ca d C S w0 p q w r 0 M Q X
set_option maxRecDepth 100000 in
theorem z_X3_hasAllSymbols {l : Launch} {s0 : State} {a0 : Array Value} {G : va_G} {ca : Nat → ClassId} (Γ : rt_Γ l s0 a0 G ca) {d : Nat} {C : Nat × Nat} {S : zS} (hd : 2 ≤ d) (hok : zok C) {p : Int} {q : Int} (hs : zSok S) (hp : zSc S p) (hq : zSc S q) (hs69 : S 69 = some (0, 3, [(3, 70), (3, 72), (3, p), (3, q), (0, 0)])) {w : Int} {r : Int} {M : zM} {Q : Int → zM → Prop} {X : zM → Prop} (h : zt_X3_hasAllSymbols l s0 G ca d C S (zw s0 ca C S M) p q w r M Q X) : zm_X3_hasAllSymbols l s0 G ca d C S  w r M Q X := by
  refine z_met (lv := [(0, zv s0 2 69), (1, zv s0 0 w), (2, zv s0 0 r)]) Γ kk_X3_hasAllSymbols rfl (show (lg_sl [zv s0 2 69, zv s0 0 w, zv s0 0 r]).length ≤ 4 from by simp only [zn_0, zn_2, show (lg_sl []).length = 0 from rfl]; omega) (show lv_args 0 [zv s0 2 69, zv s0 0 w, zv s0 0 r] = [(0, zv s0 2 69), (1, zv s0 0 w), (2, zv s0 0 r)] from by rw [zl_2, zl_0, zl_0]; rfl) ?_
  unfold zt_X3_hasAllSymbols at h
  refine z_iconst dX3_hasAllSymbols_0 ?_
  refine z_istore_n (i := 3) (lv' := [(3, zv s0 0 0), (0, zv s0 2 69), (1, zv s0 0 w), (2, zv s0 0 r)]) dX3_hasAllSymbols_1 rfl (by decide) (by simp [zv_cat0, zv_cat1, zv_cat2, zv_cats]) ?_
  exact rt_lfew [1, 2, 3, 0] rfl h

abbrev zg_X3_fitFields_2 (l : Launch) (s0 : State) (G : va_G) (ca : Nat → ClassId) (d : Nat) (C : Nat × Nat) (S : zS) (w0 : rt_Wd) (p : Int) (q : Int) (v1 : Int) (v2 : Int) (v3 : Int)  (M : zM) (Q : Int → zM → Prop) (X : zM → Prop) : Prop := rt_Go l s0 G RX3 "fitFields" cX3_fitFields 6 (Option.some FieldType.boolean) [] d w0 (zQ s0 ca 0 C S Q X) 2 [(0, zv s0 2 69), (1, zv s0 0 v1), (2, zv s0 0 v2), (3, zv s0 0 v3)] [] (zw s0 ca C S M)
def zt_X3_fitFields_2 (l : Launch) (s0 : State) (G : va_G) (ca : Nat → ClassId) (d : Nat) (C : Nat × Nat) (S : zS) (w0 : rt_Wd) (p : Int) (q : Int) (v1 : Int) (v2 : Int) (v3 : Int)  (M : zM) (Q : Int → zM → Prop) (X : zM → Prop) : Prop :=
  zIf (w32 (((zat M (q + 12) 134 v2))) ≤ w32 v3) (Q 1 M) (zm_X6_partNamed l s0 G ca (d - 1) C S p v1 ((q + 21)) (((zat M (q + 16) 2048 ((((zat M (q + 10) 134 v2)) + v3))))) M (fun r46 M46 => zIf (w32 r46 = ((-1))) (zIf (w32 ((zf_X6_hasDefault M46 q ((((zat M (q + 10) 134 v2)) + v3)))) = 0) (Q 0 M46) (zg_X3_fitFields_2 l s0 G ca d C S w0 p q v1 v2 (v3 + 1) M46 Q X)) (zm_X3_ask l s0 G ca (d - 1) C S (((zat M46 (p + 14) 2048 ((((zat M46 (p + 10) 134 v1)) + r46))))) (((zat M46 (q + 14) 2048 ((((zat M (q + 10) 134 v2)) + v3))))) M46 (fun r84 M84 => zg_X3_fitFields_2 l s0 G ca d C S w0 p q v1 v2 (v3 + 1) M84 Q X) X)) X)
set_option maxRecDepth 100000 in
theorem zs_X3_fitFields_2 {l : Launch} {s0 : State} {a0 : Array Value} {G : va_G} {ca : Nat → ClassId} (Γ : rt_Γ l s0 a0 G ca) {d : Nat} {C : Nat × Nat} {S : zS} (hd : 2 ≤ d) (hok : zok C) {p : Int} {q : Int} (hs : zSok S) (hp : zSc S p) (hq : zSc S q) (hs69 : S 69 = some (0, 3, [(3, 70), (3, 72), (3, p), (3, q), (0, 0)])) {w0 : rt_Wd} {v1 : Int} {v2 : Int} {v3 : Int}   {M : zM} {Q : Int → zM → Prop} {X : zM → Prop} (h : zt_X3_fitFields_2 l s0 G ca d C S w0 p q v1 v2 v3 M Q X) : zg_X3_fitFields_2 l s0 G ca d C S w0 p q v1 v2 v3 M Q X := by
  unfold zt_X3_fitFields_2 at h
  refine z_iload_n dX3_fitFields_2 rfl (j := 3) rfl ?_
  refine z_aload_n dX3_fitFields_3 rfl (j := 0) rfl ?_
  refine z_getc Γ kf_RX3_29 dX3_fitFields_4 (by decide) hs69 rfl ?_
  refine z_iload_n dX3_fitFields_7 rfl (j := 2) rfl ?_
  refine z_callV Γ kk_X6_parts kc_RX3_68 (As := [zv s0 0 v2]) (z_X6_parts (d := d - 1) Γ (by omega) hok hq (M := M) (Q := fun v9 M9 => v9 = ((zat M (q + 12) 134 v2)) ∧ M9 = M) (X := X) (show _ ∧ _ from ⟨rfl, rfl⟩)) (by omega) (by decide) (show (parseMethodDescriptor yX6_parts.desc).map (fun q => q.parameters.length) = some 1 by decide +kernel) hok (by simp only [List.map, zv_cat0, zv_cat1, zv_cat2, List.sum_cons, List.sum_nil]; decide) dX3_fitFields_8 hq.1 hq.2.1 rfl rfl (fun _ h9 => nomatch h9) ?_
  rintro v9 M9 ⟨e9, e8⟩
  rw [e9, e8]
  clear e9 e8 v9 M9
  show rt_Go _ _ _ _ _ _ _ _ _ _ _ _ 11 [(0, zv s0 2 69), (1, zv s0 0 v1), (2, zv s0 0 v2), (3, zv s0 0 v3)] [zv s0 0 (((zat M (q + 12) 134 v2))), zv s0 0 v3] (zw s0 ca C S M)
  refine z_icmp_ge (tgt := 110) (x' := w32 v3) (y' := w32 (((zat M (q + 12) 134 v2)))) rfl rfl dX3_fitFields_11 (by decide) (fun c11 => ?_) (fun c11 => ?_)
  · replace h := h.1 c11
    refine z_iconst dX3_fitFields_110 ?_
    exact z_zret dX3_fitFields_111 rfl (by decide) h
  · replace h := h.2 c11
    refine z_aload_n dX3_fitFields_14 rfl (j := 0) rfl ?_
    refine z_getc Γ kf_RX3_29 dX3_fitFields_15 (by decide) hs69 rfl ?_
    refine z_iload_n dX3_fitFields_18 rfl (j := 2) rfl ?_
    refine z_iload_n dX3_fitFields_19 rfl (j := 3) rfl ?_
    refine z_callV Γ kk_X6_part kc_RX3_99 (As := [zv s0 0 v2, zv s0 0 v3]) (z_X6_part (d := d - 1) Γ (by omega) hok hq (M := M) (Q := fun v9 M9 => v9 = (((zat M (q + 10) 134 v2)) + v3) ∧ M9 = M) (X := X) (show _ ∧ _ from ⟨rfl, rfl⟩)) (by omega) (by decide) (show (parseMethodDescriptor yX6_part.desc).map (fun q => q.parameters.length) = some 2 by decide +kernel) hok (Nat.zero_le _) dX3_fitFields_20 hq.1 hq.2.1 rfl rfl (fun _ h9 => nomatch h9) ?_
    rintro v9 M9 ⟨e9, e8⟩
    rw [e9, e8]
    clear e9 e8 v9 M9
    show rt_Go _ _ _ _ _ _ _ _ _ _ _ _ 23 [(0, zv s0 2 69), (1, zv s0 0 v1), (2, zv s0 0 v2), (3, zv s0 0 v3)] [zv s0 0 ((((zat M (q + 10) 134 v2)) + v3))] (zw s0 ca C S M)
    refine z_istore (i := 4) (lv' := [(4, zv s0 0 ((((zat M (q + 10) 134 v2)) + v3))), (0, zv s0 2 69), (1, zv s0 0 v1), (2, zv s0 0 v2), (3, zv s0 0 v3)]) dX3_fitFields_23 (by decide) (by simp [zv_cat0, zv_cat1, zv_cat2, zv_cats]) ?_
    refine z_aload_n dX3_fitFields_25 rfl (j := 1) rfl ?_
    refine z_getc Γ kf_RX3_25 dX3_fitFields_26 (by decide) hs69 rfl ?_
    refine z_iload_n dX3_fitFields_29 rfl (j := 2) rfl ?_
    refine z_aload_n dX3_fitFields_30 rfl (j := 1) rfl ?_
    refine z_getc Γ kf_RX3_29 dX3_fitFields_31 (by decide) hs69 rfl ?_
    refine z_callV Γ kk_X6_names kc_RX3_95 (As := []) (z_X6_names (d := d - 1) Γ hok hq (M := M) (Q := fun v9 M9 => v9 = (q + 21) ∧ M9 = M) (X := X) (show _ ∧ _ from ⟨rfl, rfl⟩)) (by omega) (by decide) (show (parseMethodDescriptor yX6_names.desc).map (fun q => q.parameters.length) = some 0 by decide +kernel) hok (by simp only [List.map, zv_cat0, zv_cat1, zv_cat2, List.sum_cons, List.sum_nil]; decide) dX3_fitFields_34 hq.1 hq.2.1 rfl rfl (fun _ h9 => nomatch h9) ?_
    rintro v9 M9 ⟨e9, e8⟩
    rw [e9, e8]
    clear e9 e8 v9 M9
    show rt_Go _ _ _ _ _ _ _ _ _ _ _ _ 37 [(4, zv s0 0 ((((zat M (q + 10) 134 v2)) + v3))), (0, zv s0 2 69), (1, zv s0 0 v1), (2, zv s0 0 v2), (3, zv s0 0 v3)] [zv s0 2 ((q + 21)), zv s0 0 v1, zv s0 2 p] (zw s0 ca C S M)
    refine z_aload_n dX3_fitFields_37 rfl (j := 1) rfl ?_
    refine z_getc Γ kf_RX3_29 dX3_fitFields_38 (by decide) hs69 rfl ?_
    refine z_iload dX3_fitFields_41 (j := 0) rfl ?_
    refine z_callV Γ kk_X6_partName kc_RX3_102 (As := [zv s0 0 ((((zat M (q + 10) 134 v2)) + v3))]) (z_X6_partName (d := d - 1) Γ (by omega) hok hq (M := M) (Q := fun v9 M9 => v9 = ((zat M (q + 16) 2048 ((((zat M (q + 10) 134 v2)) + v3)))) ∧ M9 = M) (X := X) (show _ ∧ _ from ⟨rfl, rfl⟩)) (by omega) (by decide) (show (parseMethodDescriptor yX6_partName.desc).map (fun q => q.parameters.length) = some 1 by decide +kernel) hok (by simp only [List.map, zv_cat0, zv_cat1, zv_cat2, List.sum_cons, List.sum_nil]; decide) dX3_fitFields_43 hq.1 hq.2.1 rfl rfl (fun _ h9 => nomatch h9) ?_
    rintro v9 M9 ⟨e9, e8⟩
    rw [e9, e8]
    clear e9 e8 v9 M9
    show rt_Go _ _ _ _ _ _ _ _ _ _ _ _ 46 [(4, zv s0 0 ((((zat M (q + 10) 134 v2)) + v3))), (0, zv s0 2 69), (1, zv s0 0 v1), (2, zv s0 0 v2), (3, zv s0 0 v3)] [zv s0 0 (((zat M (q + 16) 2048 ((((zat M (q + 10) 134 v2)) + v3))))), zv s0 2 ((q + 21)), zv s0 0 v1, zv s0 2 p] (zw s0 ca C S M)
    refine z_callV Γ kk_X6_partNamed kc_RX3_105 (As := [zv s0 0 v1, zv s0 2 ((q + 21)), zv s0 0 (((zat M (q + 16) 2048 ((((zat M (q + 10) 134 v2)) + v3)))))]) h (by omega) (by decide) (show (parseMethodDescriptor yX6_partNamed.desc).map (fun q => q.parameters.length) = some 3 by decide +kernel) hok (Nat.zero_le _) dX3_fitFields_46 hp.1 hp.2.1 rfl rfl (fun _ h9 => nomatch h9) ?_
    clear h
    intro r46 M46 h
    show rt_Go _ _ _ _ _ _ _ _ _ _ _ _ 49 [(4, zv s0 0 ((((zat M (q + 10) 134 v2)) + v3))), (0, zv s0 2 69), (1, zv s0 0 v1), (2, zv s0 0 v2), (3, zv s0 0 v3)] [zv s0 0 r46] (zw s0 ca C S M46)
    refine z_istore (i := 5) (lv' := [(5, zv s0 0 r46), (4, zv s0 0 ((((zat M (q + 10) 134 v2)) + v3))), (0, zv s0 2 69), (1, zv s0 0 v1), (2, zv s0 0 v2), (3, zv s0 0 v3)]) dX3_fitFields_49 (by decide) (by simp [zv_cat0, zv_cat1, zv_cat2, zv_cats]) ?_
    refine z_iload dX3_fitFields_51 (j := 0) rfl ?_
    refine z_iconst dX3_fitFields_53 ?_
    refine z_icmp_eq (tgt := 90) (x' := w32 r46) (y' := ((-1))) rfl (by decide) dX3_fitFields_54 (by decide) (fun c54 => ?_) (fun c54 => ?_)
    · replace h := h.1 c54
      refine z_aload_n dX3_fitFields_90 rfl (j := 2) rfl ?_
      refine z_getc Γ kf_RX3_29 dX3_fitFields_91 (by decide) hs69 rfl ?_
      refine z_iload dX3_fitFields_94 (j := 1) rfl ?_
      refine z_callV Γ kk_X6_hasDefault kc_RX3_112 (As := [zv s0 0 ((((zat M (q + 10) 134 v2)) + v3))]) (k_X6_hasDefault (d := d - 1) Γ (by omega) hok hq (M := M46) (Q := fun v9 M9 => v9 = (zf_X6_hasDefault M46 q ((((zat M (q + 10) 134 v2)) + v3))) ∧ M9 = M46) (X := X) (show _ ∧ _ from ⟨rfl, rfl⟩)) (by omega) (by decide) (show (parseMethodDescriptor yX6_hasDefault.desc).map (fun q => q.parameters.length) = some 1 by decide +kernel) hok (Nat.zero_le _) dX3_fitFields_96 hq.1 hq.2.1 rfl rfl (fun _ h9 => nomatch h9) ?_
      rintro v9 M9 ⟨e9, e8⟩
      rw [e9, e8]
      clear e9 e8 v9 M9
      show rt_Go _ _ _ _ _ _ _ _ _ _ _ _ 99 [(5, zv s0 0 r46), (4, zv s0 0 ((((zat M (q + 10) 134 v2)) + v3))), (0, zv s0 2 69), (1, zv s0 0 v1), (2, zv s0 0 v2), (3, zv s0 0 v3)] [zv s0 0 ((zf_X6_hasDefault M46 q ((((zat M (q + 10) 134 v2)) + v3))))] (zw s0 ca C S M46)
      refine z_if_ne (tgt := 104) (x' := w32 ((zf_X6_hasDefault M46 q ((((zat M (q + 10) 134 v2)) + v3))))) rfl dX3_fitFields_99 (by decide) (fun c99 => ?_) (fun c99 => ?_)
      · replace h := h.2 c99
        refine z_iinc (lv' := [(3, zv s0 0 (v3 + 1)), (5, zv s0 0 r46), (4, zv s0 0 ((((zat M (q + 10) 134 v2)) + v3))), (0, zv s0 2 69), (1, zv s0 0 v1), (2, zv s0 0 v2)]) dX3_fitFields_104 (j := 5) rfl (by decide) (by simp [zv_cat0, zv_cat1, zv_cat2, zv_cats]) ?_
        refine rt_goto (tgt := 2) dX3_fitFields_107 (by decide) ?_
        exact rt_lfew [3, 4, 5, 0] rfl h
      · replace h := h.1 c99
        refine z_iconst dX3_fitFields_102 ?_
        exact z_zret dX3_fitFields_103 rfl (by decide) h
    · replace h := h.2 c54
      refine z_aload_n dX3_fitFields_57 rfl (j := 2) rfl ?_
      refine z_aload_n dX3_fitFields_58 rfl (j := 2) rfl ?_
      refine z_getc Γ kf_RX3_25 dX3_fitFields_59 (by decide) hs69 rfl ?_
      refine z_aload_n dX3_fitFields_62 rfl (j := 2) rfl ?_
      refine z_getc Γ kf_RX3_25 dX3_fitFields_63 (by decide) hs69 rfl ?_
      refine z_iload_n dX3_fitFields_66 rfl (j := 3) rfl ?_
      refine z_iload dX3_fitFields_67 (j := 0) rfl ?_
      refine z_callV Γ kk_X6_part kc_RX3_99 (As := [zv s0 0 v1, zv s0 0 r46]) (z_X6_part (d := d - 1) Γ (by omega) hok hp (M := M46) (Q := fun v9 M9 => v9 = (((zat M46 (p + 10) 134 v1)) + r46) ∧ M9 = M46) (X := X) (show _ ∧ _ from ⟨rfl, rfl⟩)) (by omega) (by decide) (show (parseMethodDescriptor yX6_part.desc).map (fun q => q.parameters.length) = some 2 by decide +kernel) hok (by simp only [List.map, zv_cat0, zv_cat1, zv_cat2, List.sum_cons, List.sum_nil]; decide) dX3_fitFields_69 hp.1 hp.2.1 rfl rfl (fun _ h9 => nomatch h9) ?_
      rintro v9 M9 ⟨e9, e8⟩
      rw [e9, e8]
      clear e9 e8 v9 M9
      show rt_Go _ _ _ _ _ _ _ _ _ _ _ _ 72 [(5, zv s0 0 r46), (4, zv s0 0 ((((zat M (q + 10) 134 v2)) + v3))), (0, zv s0 2 69), (1, zv s0 0 v1), (2, zv s0 0 v2), (3, zv s0 0 v3)] [zv s0 0 ((((zat M46 (p + 10) 134 v1)) + r46)), zv s0 2 p, zv s0 2 69] (zw s0 ca C S M46)
      refine z_callV Γ kk_X6_partNode kc_RX3_109 (As := [zv s0 0 ((((zat M46 (p + 10) 134 v1)) + r46))]) (z_X6_partNode (d := d - 1) Γ (by omega) hok hp (M := M46) (Q := fun v9 M9 => v9 = ((zat M46 (p + 14) 2048 ((((zat M46 (p + 10) 134 v1)) + r46)))) ∧ M9 = M46) (X := X) (show _ ∧ _ from ⟨rfl, rfl⟩)) (by omega) (by decide) (show (parseMethodDescriptor yX6_partNode.desc).map (fun q => q.parameters.length) = some 1 by decide +kernel) hok (by simp only [List.map, zv_cat0, zv_cat1, zv_cat2, List.sum_cons, List.sum_nil]; decide) dX3_fitFields_72 hp.1 hp.2.1 rfl rfl (fun _ h9 => nomatch h9) ?_
      rintro v9 M9 ⟨e9, e8⟩
      rw [e9, e8]
      clear e9 e8 v9 M9
      show rt_Go _ _ _ _ _ _ _ _ _ _ _ _ 75 [(5, zv s0 0 r46), (4, zv s0 0 ((((zat M (q + 10) 134 v2)) + v3))), (0, zv s0 2 69), (1, zv s0 0 v1), (2, zv s0 0 v2), (3, zv s0 0 v3)] [zv s0 0 (((zat M46 (p + 14) 2048 ((((zat M46 (p + 10) 134 v1)) + r46))))), zv s0 2 69] (zw s0 ca C S M46)
      refine z_aload_n dX3_fitFields_75 rfl (j := 2) rfl ?_
      refine z_getc Γ kf_RX3_29 dX3_fitFields_76 (by decide) hs69 rfl ?_
      refine z_iload dX3_fitFields_79 (j := 1) rfl ?_
      refine z_callV Γ kk_X6_partNode kc_RX3_109 (As := [zv s0 0 ((((zat M (q + 10) 134 v2)) + v3))]) (z_X6_partNode (d := d - 1) Γ (by omega) hok hq (M := M46) (Q := fun v9 M9 => v9 = ((zat M46 (q + 14) 2048 ((((zat M (q + 10) 134 v2)) + v3)))) ∧ M9 = M46) (X := X) (show _ ∧ _ from ⟨rfl, rfl⟩)) (by omega) (by decide) (show (parseMethodDescriptor yX6_partNode.desc).map (fun q => q.parameters.length) = some 1 by decide +kernel) hok (by simp only [List.map, zv_cat0, zv_cat1, zv_cat2, List.sum_cons, List.sum_nil]; decide) dX3_fitFields_81 hq.1 hq.2.1 rfl rfl (fun _ h9 => nomatch h9) ?_
      rintro v9 M9 ⟨e9, e8⟩
      rw [e9, e8]
      clear e9 e8 v9 M9
      show rt_Go _ _ _ _ _ _ _ _ _ _ _ _ 84 [(5, zv s0 0 r46), (4, zv s0 0 ((((zat M (q + 10) 134 v2)) + v3))), (0, zv s0 2 69), (1, zv s0 0 v1), (2, zv s0 0 v2), (3, zv s0 0 v3)] [zv s0 0 (((zat M46 (q + 14) 2048 ((((zat M (q + 10) 134 v2)) + v3))))), zv s0 0 (((zat M46 (p + 14) 2048 ((((zat M46 (p + 10) 134 v1)) + r46))))), zv s0 2 69] (zw s0 ca C S M46)
      refine z_callV Γ kk_X3_ask kc_RX3_43 (As := [zv s0 0 (((zat M46 (p + 14) 2048 ((((zat M46 (p + 10) 134 v1)) + r46))))), zv s0 0 (((zat M46 (q + 14) 2048 ((((zat M (q + 10) 134 v2)) + v3)))))]) h (by omega) (by decide) (show (parseMethodDescriptor yX3_ask.desc).map (fun q => q.parameters.length) = some 2 by decide +kernel) hok (Nat.zero_le _) dX3_fitFields_84 (by decide) hs69 rfl rfl (fun _ h9 => nomatch h9) ?_
      clear h
      intro r84 M84 h
      show rt_Go _ _ _ _ _ _ _ _ _ _ _ _ 87 [(5, zv s0 0 r46), (4, zv s0 0 ((((zat M (q + 10) 134 v2)) + v3))), (0, zv s0 2 69), (1, zv s0 0 v1), (2, zv s0 0 v2), (3, zv s0 0 v3)] [] (zw s0 ca C S M84)
      refine rt_goto (tgt := 104) dX3_fitFields_87 (by decide) ?_
      refine z_iinc (lv' := [(3, zv s0 0 (v3 + 1)), (5, zv s0 0 r46), (4, zv s0 0 ((((zat M (q + 10) 134 v2)) + v3))), (0, zv s0 2 69), (1, zv s0 0 v1), (2, zv s0 0 v2)]) dX3_fitFields_104 (j := 5) rfl (by decide) (by simp [zv_cat0, zv_cat1, zv_cat2, zv_cats]) ?_
      refine rt_goto (tgt := 2) dX3_fitFields_107 (by decide) ?_
      exact rt_lfew [3, 4, 5, 0] rfl h

def zt_X3_fitFields (l : Launch) (s0 : State) (G : va_G) (ca : Nat → ClassId) (d : Nat) (C : Nat × Nat) (S : zS) (w0 : rt_Wd) (p : Int) (q : Int) (w : Int) (r : Int) (M : zM) (Q : Int → zM → Prop) (X : zM → Prop) : Prop :=
  zg_X3_fitFields_2 l s0 G ca d C S w0 p q w r 0 M Q X
set_option maxRecDepth 100000 in
theorem z_X3_fitFields {l : Launch} {s0 : State} {a0 : Array Value} {G : va_G} {ca : Nat → ClassId} (Γ : rt_Γ l s0 a0 G ca) {d : Nat} {C : Nat × Nat} {S : zS} (hd : 2 ≤ d) (hok : zok C) {p : Int} {q : Int} (hs : zSok S) (hp : zSc S p) (hq : zSc S q) (hs69 : S 69 = some (0, 3, [(3, 70), (3, 72), (3, p), (3, q), (0, 0)])) {w : Int} {r : Int} {M : zM} {Q : Int → zM → Prop} {X : zM → Prop} (h : zt_X3_fitFields l s0 G ca d C S (zw s0 ca C S M) p q w r M Q X) : zm_X3_fitFields l s0 G ca d C S  w r M Q X := by
  refine z_met (lv := [(0, zv s0 2 69), (1, zv s0 0 w), (2, zv s0 0 r)]) Γ kk_X3_fitFields rfl (show (lg_sl [zv s0 2 69, zv s0 0 w, zv s0 0 r]).length ≤ 6 from by simp only [zn_0, zn_2, show (lg_sl []).length = 0 from rfl]; omega) (show lv_args 0 [zv s0 2 69, zv s0 0 w, zv s0 0 r] = [(0, zv s0 2 69), (1, zv s0 0 w), (2, zv s0 0 r)] from by rw [zl_2, zl_0, zl_0]; rfl) ?_
  unfold zt_X3_fitFields at h
  refine z_iconst dX3_fitFields_0 ?_
  refine z_istore_n (i := 3) (lv' := [(3, zv s0 0 0), (0, zv s0 2 69), (1, zv s0 0 w), (2, zv s0 0 r)]) dX3_fitFields_1 rfl (by decide) (by simp [zv_cat0, zv_cat1, zv_cat2, zv_cats]) ?_
  exact rt_lfew [1, 2, 3, 0] rfl h

abbrev zg_X3_fitBySelves_18 (l : Launch) (s0 : State) (G : va_G) (ca : Nat → ClassId) (d : Nat) (C : Nat × Nat) (S : zS) (w0 : rt_Wd) (p : Int) (q : Int) (v1 : Int) (v2 : Int) (v4 : Int)  (M : zM) (Q : Int → zM → Prop) (X : zM → Prop) : Prop := rt_Go l s0 G RX3 "fitBySelves" cX3_fitBySelves 5 (Option.some FieldType.boolean) [] d w0 (zQ s0 ca 0 C S Q X) 18 [(0, zv s0 2 69), (1, zv s0 0 v1), (2, zv s0 0 v2), (4, zv s0 0 v4)] [] (zw s0 ca C S M)
abbrev zg_X3_fitBySelves_103 (l : Launch) (s0 : State) (G : va_G) (ca : Nat → ClassId) (d : Nat) (C : Nat × Nat) (S : zS) (w0 : rt_Wd) (p : Int) (q : Int) (v4 : Int)  (M : zM) (Q : Int → zM → Prop) (X : zM → Prop) : Prop := rt_Go l s0 G RX3 "fitBySelves" cX3_fitBySelves 5 (Option.some FieldType.boolean) [] d w0 (zQ s0 ca 0 C S Q X) 103 [(4, zv s0 0 v4)] [] (zw s0 ca C S M)
abbrev zg_X3_fitBySelves_127 (l : Launch) (s0 : State) (G : va_G) (ca : Nat → ClassId) (d : Nat) (C : Nat × Nat) (S : zS) (w0 : rt_Wd) (p : Int) (q : Int) (v1 : Int) (v2 : Int) (v3 : Int)  (M : zM) (Q : Int → zM → Prop) (X : zM → Prop) : Prop := rt_Go l s0 G RX3 "fitBySelves" cX3_fitBySelves 5 (Option.some FieldType.boolean) [] d w0 (zQ s0 ca 0 C S Q X) 127 [(0, zv s0 2 69), (1, zv s0 0 v1), (2, zv s0 0 v2), (3, zv s0 0 v3)] [] (zw s0 ca C S M)
abbrev zg_X3_fitBySelves_159 (l : Launch) (s0 : State) (G : va_G) (ca : Nat → ClassId) (d : Nat) (C : Nat × Nat) (S : zS) (w0 : rt_Wd) (p : Int) (q : Int) (v2 : Int) (v3 : Int)  (M : zM) (Q : Int → zM → Prop) (X : zM → Prop) : Prop := rt_Go l s0 G RX3 "fitBySelves" cX3_fitBySelves 5 (Option.some FieldType.boolean) [] d w0 (zQ s0 ca 0 C S Q X) 159 [(0, zv s0 2 69), (2, zv s0 0 v2), (3, zv s0 0 v3)] [] (zw s0 ca C S M)
def zt_X3_fitBySelves_18 (l : Launch) (s0 : State) (G : va_G) (ca : Nat → ClassId) (d : Nat) (C : Nat × Nat) (S : zS) (w0 : rt_Wd) (p : Int) (q : Int) (v1 : Int) (v2 : Int) (v4 : Int)  (M : zM) (Q : Int → zM → Prop) (X : zM → Prop) : Prop :=
  zIf (w32 (((zat M (p + 12) 134 v1))) ≤ w32 v4) (Q 1 M) (zm_X3_ask l s0 G ca (d - 1) C S ((zf_X6_branch M p v1 v4)) v2 M (fun r43 M43 => zg_X3_fitBySelves_18 l s0 G ca d C S w0 p q v1 v2 (v4 + 1) M43 Q X) X)
set_option maxRecDepth 100000 in
theorem zs_X3_fitBySelves_18 {l : Launch} {s0 : State} {a0 : Array Value} {G : va_G} {ca : Nat → ClassId} (Γ : rt_Γ l s0 a0 G ca) {d : Nat} {C : Nat × Nat} {S : zS} (hd : 2 ≤ d) (hok : zok C) {p : Int} {q : Int} (hs : zSok S) (hp : zSc S p) (hq : zSc S q) (hs69 : S 69 = some (0, 3, [(3, 70), (3, 72), (3, p), (3, q), (0, 0)])) {w0 : rt_Wd} {v1 : Int} {v2 : Int} {v4 : Int}   {M : zM} {Q : Int → zM → Prop} {X : zM → Prop} (h : zt_X3_fitBySelves_18 l s0 G ca d C S w0 p q v1 v2 v4 M Q X) : zg_X3_fitBySelves_18 l s0 G ca d C S w0 p q v1 v2 v4 M Q X := by
  unfold zt_X3_fitBySelves_18 at h
  refine z_iload dX3_fitBySelves_18 (j := 3) rfl ?_
  refine z_aload_n dX3_fitBySelves_20 rfl (j := 0) rfl ?_
  refine z_getc Γ kf_RX3_25 dX3_fitBySelves_21 (by decide) hs69 rfl ?_
  refine z_iload_n dX3_fitBySelves_24 rfl (j := 1) rfl ?_
  refine z_callV Γ kk_X6_parts kc_RX3_68 (As := [zv s0 0 v1]) (z_X6_parts (d := d - 1) Γ (by omega) hok hp (M := M) (Q := fun v9 M9 => v9 = ((zat M (p + 12) 134 v1)) ∧ M9 = M) (X := X) (show _ ∧ _ from ⟨rfl, rfl⟩)) (by omega) (by decide) (show (parseMethodDescriptor yX6_parts.desc).map (fun q => q.parameters.length) = some 1 by decide +kernel) hok (by simp only [List.map, zv_cat0, zv_cat1, zv_cat2, List.sum_cons, List.sum_nil]; decide) dX3_fitBySelves_25 hp.1 hp.2.1 rfl rfl (fun _ h9 => nomatch h9) ?_
  rintro v9 M9 ⟨e9, e8⟩
  rw [e9, e8]
  clear e9 e8 v9 M9
  show rt_Go _ _ _ _ _ _ _ _ _ _ _ _ 28 [(0, zv s0 2 69), (1, zv s0 0 v1), (2, zv s0 0 v2), (4, zv s0 0 v4)] [zv s0 0 (((zat M (p + 12) 134 v1))), zv s0 0 v4] (zw s0 ca C S M)
  refine z_icmp_ge (tgt := 52) (x' := w32 v4) (y' := w32 (((zat M (p + 12) 134 v1)))) rfl rfl dX3_fitBySelves_28 (by decide) (fun c28 => ?_) (fun c28 => ?_)
  · replace h := h.1 c28
    refine z_iconst dX3_fitBySelves_52 ?_
    exact z_zret dX3_fitBySelves_53 rfl (by decide) h
  · replace h := h.2 c28
    refine z_aload_n dX3_fitBySelves_31 rfl (j := 0) rfl ?_
    refine z_aload_n dX3_fitBySelves_32 rfl (j := 0) rfl ?_
    refine z_getc Γ kf_RX3_25 dX3_fitBySelves_33 (by decide) hs69 rfl ?_
    refine z_iload_n dX3_fitBySelves_36 rfl (j := 1) rfl ?_
    refine z_iload dX3_fitBySelves_37 (j := 3) rfl ?_
    refine z_callV Γ kk_X6_branch kc_RX3_71 (As := [zv s0 0 v1, zv s0 0 v4]) (k_X6_branch (d := d - 1) Γ (by omega) hok hp (M := M) (Q := fun v9 M9 => v9 = (zf_X6_branch M p v1 v4) ∧ M9 = M) (X := X) (show _ ∧ _ from ⟨rfl, rfl⟩)) (by omega) (by decide) (show (parseMethodDescriptor yX6_branch.desc).map (fun q => q.parameters.length) = some 2 by decide +kernel) hok (by simp only [List.map, zv_cat0, zv_cat1, zv_cat2, List.sum_cons, List.sum_nil]; decide) dX3_fitBySelves_39 hp.1 hp.2.1 rfl rfl (fun _ h9 => nomatch h9) ?_
    rintro v9 M9 ⟨e9, e8⟩
    rw [e9, e8]
    clear e9 e8 v9 M9
    show rt_Go _ _ _ _ _ _ _ _ _ _ _ _ 42 [(0, zv s0 2 69), (1, zv s0 0 v1), (2, zv s0 0 v2), (4, zv s0 0 v4)] [zv s0 0 ((zf_X6_branch M p v1 v4)), zv s0 2 69] (zw s0 ca C S M)
    refine z_iload_n dX3_fitBySelves_42 rfl (j := 2) rfl ?_
    refine z_callV Γ kk_X3_ask kc_RX3_43 (As := [zv s0 0 ((zf_X6_branch M p v1 v4)), zv s0 0 v2]) h (by omega) (by decide) (show (parseMethodDescriptor yX3_ask.desc).map (fun q => q.parameters.length) = some 2 by decide +kernel) hok (Nat.zero_le _) dX3_fitBySelves_43 (by decide) hs69 rfl rfl (fun _ h9 => nomatch h9) ?_
    clear h
    intro r43 M43 h
    show rt_Go _ _ _ _ _ _ _ _ _ _ _ _ 46 [(0, zv s0 2 69), (1, zv s0 0 v1), (2, zv s0 0 v2), (4, zv s0 0 v4)] [] (zw s0 ca C S M43)
    refine z_iinc (lv' := [(4, zv s0 0 (v4 + 1)), (0, zv s0 2 69), (1, zv s0 0 v1), (2, zv s0 0 v2)]) dX3_fitBySelves_46 (j := 3) rfl (by decide) (by simp [zv_cat0, zv_cat1, zv_cat2, zv_cats]) ?_
    refine rt_goto (tgt := 18) dX3_fitBySelves_49 (by decide) ?_
    exact rt_lfew [1, 2, 3, 0] rfl h

def zt_X3_fitBySelves_103 (l : Launch) (s0 : State) (G : va_G) (ca : Nat → ClassId) (d : Nat) (C : Nat × Nat) (S : zS) (w0 : rt_Wd) (p : Int) (q : Int) (v4 : Int)  (M : zM) (Q : Int → zM → Prop) (X : zM → Prop) : Prop :=
  zIf (w32 v4 = ((-1))) (Q 0 M) (Q 1 M)
set_option maxRecDepth 100000 in
theorem zs_X3_fitBySelves_103 {l : Launch} {s0 : State} {a0 : Array Value} {G : va_G} {ca : Nat → ClassId} (Γ : rt_Γ l s0 a0 G ca) {d : Nat} {C : Nat × Nat} {S : zS} (hd : 2 ≤ d) (hok : zok C) {p : Int} {q : Int} (hs : zSok S) (hp : zSc S p) (hq : zSc S q) (hs69 : S 69 = some (0, 3, [(3, 70), (3, 72), (3, p), (3, q), (0, 0)])) {w0 : rt_Wd} {v4 : Int}   {M : zM} {Q : Int → zM → Prop} {X : zM → Prop} (h : zt_X3_fitBySelves_103 l s0 G ca d C S w0 p q v4 M Q X) : zg_X3_fitBySelves_103 l s0 G ca d C S w0 p q v4 M Q X := by
  unfold zt_X3_fitBySelves_103 at h
  refine z_iload dX3_fitBySelves_103 (j := 0) rfl ?_
  refine z_iconst dX3_fitBySelves_105 ?_
  refine z_icmp_eq (tgt := 113) (x' := w32 v4) (y' := ((-1))) rfl (by decide) dX3_fitBySelves_106 (by decide) (fun c106 => ?_) (fun c106 => ?_)
  · replace h := h.1 c106
    refine z_iconst dX3_fitBySelves_113 ?_
    exact z_zret dX3_fitBySelves_114 rfl (by decide) h
  · replace h := h.2 c106
    refine z_iconst dX3_fitBySelves_109 ?_
    refine rt_goto (tgt := 114) dX3_fitBySelves_110 (by decide) ?_
    exact z_zret dX3_fitBySelves_114 rfl (by decide) h

def zt_X3_fitBySelves_159 (l : Launch) (s0 : State) (G : va_G) (ca : Nat → ClassId) (d : Nat) (C : Nat × Nat) (S : zS) (w0 : rt_Wd) (p : Int) (q : Int) (v2 : Int) (v3 : Int)  (M : zM) (Q : Int → zM → Prop) (X : zM → Prop) : Prop :=
  zIf (w32 (((zat M (q + 2) 134 v2))) = w32 v3) (Q 1 M) (Q 0 M)
set_option maxRecDepth 100000 in
theorem zs_X3_fitBySelves_159 {l : Launch} {s0 : State} {a0 : Array Value} {G : va_G} {ca : Nat → ClassId} (Γ : rt_Γ l s0 a0 G ca) {d : Nat} {C : Nat × Nat} {S : zS} (hd : 2 ≤ d) (hok : zok C) {p : Int} {q : Int} (hs : zSok S) (hp : zSc S p) (hq : zSc S q) (hs69 : S 69 = some (0, 3, [(3, 70), (3, 72), (3, p), (3, q), (0, 0)])) {w0 : rt_Wd} {v2 : Int} {v3 : Int}   {M : zM} {Q : Int → zM → Prop} {X : zM → Prop} (h : zt_X3_fitBySelves_159 l s0 G ca d C S w0 p q v2 v3 M Q X) : zg_X3_fitBySelves_159 l s0 G ca d C S w0 p q v2 v3 M Q X := by
  unfold zt_X3_fitBySelves_159 at h
  refine z_aload_n dX3_fitBySelves_159 rfl (j := 0) rfl ?_
  refine z_getc Γ kf_RX3_29 dX3_fitBySelves_160 (by decide) hs69 rfl ?_
  refine z_iload_n dX3_fitBySelves_163 rfl (j := 1) rfl ?_
  refine z_callV Γ kk_X6_kind kc_RX3_65 (As := [zv s0 0 v2]) (z_X6_kind (d := d - 1) Γ (by omega) hok hq (M := M) (Q := fun v9 M9 => v9 = ((zat M (q + 2) 134 v2)) ∧ M9 = M) (X := X) (show _ ∧ _ from ⟨rfl, rfl⟩)) (by omega) (by decide) (show (parseMethodDescriptor yX6_kind.desc).map (fun q => q.parameters.length) = some 1 by decide +kernel) hok (Nat.zero_le _) dX3_fitBySelves_164 hq.1 hq.2.1 rfl rfl (fun _ h9 => nomatch h9) ?_
  rintro v9 M9 ⟨e9, e8⟩
  rw [e9, e8]
  clear e9 e8 v9 M9
  show rt_Go _ _ _ _ _ _ _ _ _ _ _ _ 167 [(0, zv s0 2 69), (2, zv s0 0 v2), (3, zv s0 0 v3)] [zv s0 0 (((zat M (q + 2) 134 v2)))] (zw s0 ca C S M)
  refine z_iload_n dX3_fitBySelves_167 rfl (j := 2) rfl ?_
  refine z_icmp_ne (tgt := 175) (x' := w32 (((zat M (q + 2) 134 v2)))) (y' := w32 v3) rfl rfl dX3_fitBySelves_168 (by decide) (fun c168 => ?_) (fun c168 => ?_)
  · replace h := h.2 c168
    refine z_iconst dX3_fitBySelves_175 ?_
    exact z_zret dX3_fitBySelves_176 rfl (by decide) h
  · replace h := h.1 c168
    refine z_iconst dX3_fitBySelves_171 ?_
    refine rt_goto (tgt := 176) dX3_fitBySelves_172 (by decide) ?_
    exact z_zret dX3_fitBySelves_176 rfl (by decide) h

def zt_X3_fitBySelves_127 (l : Launch) (s0 : State) (G : va_G) (ca : Nat → ClassId) (d : Nat) (C : Nat × Nat) (S : zS) (w0 : rt_Wd) (p : Int) (q : Int) (v1 : Int) (v2 : Int) (v3 : Int)  (M : zM) (Q : Int → zM → Prop) (X : zM → Prop) : Prop :=
  zIf (w32 (((zat M (q + 2) 134 v2))) = w32 v3) (zm_X3_ask l s0 G ca (d - 1) C S (((zat M (p + 6) 134 v1))) (((zat M (q + 6) 134 v2))) M (fun r156 M156 => zt_X3_fitBySelves_159 l s0 G ca d C S w0 p q v2 v3 M156 Q X) X) (zt_X3_fitBySelves_159 l s0 G ca d C S w0 p q v2 v3 M Q X)
set_option maxRecDepth 100000 in
theorem zs_X3_fitBySelves_127 {l : Launch} {s0 : State} {a0 : Array Value} {G : va_G} {ca : Nat → ClassId} (Γ : rt_Γ l s0 a0 G ca) {d : Nat} {C : Nat × Nat} {S : zS} (hd : 2 ≤ d) (hok : zok C) {p : Int} {q : Int} (hs : zSok S) (hp : zSc S p) (hq : zSc S q) (hs69 : S 69 = some (0, 3, [(3, 70), (3, 72), (3, p), (3, q), (0, 0)])) {w0 : rt_Wd} {v1 : Int} {v2 : Int} {v3 : Int}   {M : zM} {Q : Int → zM → Prop} {X : zM → Prop} (h : zt_X3_fitBySelves_127 l s0 G ca d C S w0 p q v1 v2 v3 M Q X) : zg_X3_fitBySelves_127 l s0 G ca d C S w0 p q v1 v2 v3 M Q X := by
  unfold zt_X3_fitBySelves_127 at h
  refine z_aload_n dX3_fitBySelves_127 rfl (j := 0) rfl ?_
  refine z_getc Γ kf_RX3_29 dX3_fitBySelves_128 (by decide) hs69 rfl ?_
  refine z_iload_n dX3_fitBySelves_131 rfl (j := 2) rfl ?_
  refine z_callV Γ kk_X6_kind kc_RX3_65 (As := [zv s0 0 v2]) (z_X6_kind (d := d - 1) Γ (by omega) hok hq (M := M) (Q := fun v9 M9 => v9 = ((zat M (q + 2) 134 v2)) ∧ M9 = M) (X := X) (show _ ∧ _ from ⟨rfl, rfl⟩)) (by omega) (by decide) (show (parseMethodDescriptor yX6_kind.desc).map (fun q => q.parameters.length) = some 1 by decide +kernel) hok (Nat.zero_le _) dX3_fitBySelves_132 hq.1 hq.2.1 rfl rfl (fun _ h9 => nomatch h9) ?_
  rintro v9 M9 ⟨e9, e8⟩
  rw [e9, e8]
  clear e9 e8 v9 M9
  show rt_Go _ _ _ _ _ _ _ _ _ _ _ _ 135 [(0, zv s0 2 69), (1, zv s0 0 v1), (2, zv s0 0 v2), (3, zv s0 0 v3)] [zv s0 0 (((zat M (q + 2) 134 v2)))] (zw s0 ca C S M)
  refine z_iload_n dX3_fitBySelves_135 rfl (j := 3) rfl ?_
  refine z_icmp_ne (tgt := 159) (x' := w32 (((zat M (q + 2) 134 v2)))) (y' := w32 v3) rfl rfl dX3_fitBySelves_136 (by decide) (fun c136 => ?_) (fun c136 => ?_)
  · replace h := h.2 c136
    exact rt_lfew [0, 2, 3] rfl (zs_X3_fitBySelves_159 Γ hd hok hs hp hq hs69  h)
  · replace h := h.1 c136
    refine z_aload_n dX3_fitBySelves_139 rfl (j := 0) rfl ?_
    refine z_aload_n dX3_fitBySelves_140 rfl (j := 0) rfl ?_
    refine z_getc Γ kf_RX3_25 dX3_fitBySelves_141 (by decide) hs69 rfl ?_
    refine z_iload_n dX3_fitBySelves_144 rfl (j := 1) rfl ?_
    refine z_callV Γ kk_X6_item kc_RX3_79 (As := [zv s0 0 v1]) (z_X6_item (d := d - 1) Γ (by omega) hok hp (M := M) (Q := fun v9 M9 => v9 = ((zat M (p + 6) 134 v1)) ∧ M9 = M) (X := X) (show _ ∧ _ from ⟨rfl, rfl⟩)) (by omega) (by decide) (show (parseMethodDescriptor yX6_item.desc).map (fun q => q.parameters.length) = some 1 by decide +kernel) hok (by simp only [List.map, zv_cat0, zv_cat1, zv_cat2, List.sum_cons, List.sum_nil]; decide) dX3_fitBySelves_145 hp.1 hp.2.1 rfl rfl (fun _ h9 => nomatch h9) ?_
    rintro v9 M9 ⟨e9, e8⟩
    rw [e9, e8]
    clear e9 e8 v9 M9
    show rt_Go _ _ _ _ _ _ _ _ _ _ _ _ 148 [(0, zv s0 2 69), (1, zv s0 0 v1), (2, zv s0 0 v2), (3, zv s0 0 v3)] [zv s0 0 (((zat M (p + 6) 134 v1))), zv s0 2 69] (zw s0 ca C S M)
    refine z_aload_n dX3_fitBySelves_148 rfl (j := 0) rfl ?_
    refine z_getc Γ kf_RX3_29 dX3_fitBySelves_149 (by decide) hs69 rfl ?_
    refine z_iload_n dX3_fitBySelves_152 rfl (j := 2) rfl ?_
    refine z_callV Γ kk_X6_item kc_RX3_79 (As := [zv s0 0 v2]) (z_X6_item (d := d - 1) Γ (by omega) hok hq (M := M) (Q := fun v9 M9 => v9 = ((zat M (q + 6) 134 v2)) ∧ M9 = M) (X := X) (show _ ∧ _ from ⟨rfl, rfl⟩)) (by omega) (by decide) (show (parseMethodDescriptor yX6_item.desc).map (fun q => q.parameters.length) = some 1 by decide +kernel) hok (by simp only [List.map, zv_cat0, zv_cat1, zv_cat2, List.sum_cons, List.sum_nil]; decide) dX3_fitBySelves_153 hq.1 hq.2.1 rfl rfl (fun _ h9 => nomatch h9) ?_
    rintro v9 M9 ⟨e9, e8⟩
    rw [e9, e8]
    clear e9 e8 v9 M9
    show rt_Go _ _ _ _ _ _ _ _ _ _ _ _ 156 [(0, zv s0 2 69), (1, zv s0 0 v1), (2, zv s0 0 v2), (3, zv s0 0 v3)] [zv s0 0 (((zat M (q + 6) 134 v2))), zv s0 0 (((zat M (p + 6) 134 v1))), zv s0 2 69] (zw s0 ca C S M)
    refine z_callV Γ kk_X3_ask kc_RX3_43 (As := [zv s0 0 (((zat M (p + 6) 134 v1))), zv s0 0 (((zat M (q + 6) 134 v2)))]) h (by omega) (by decide) (show (parseMethodDescriptor yX3_ask.desc).map (fun q => q.parameters.length) = some 2 by decide +kernel) hok (Nat.zero_le _) dX3_fitBySelves_156 (by decide) hs69 rfl rfl (fun _ h9 => nomatch h9) ?_
    clear h
    intro r156 M156 h
    show rt_Go _ _ _ _ _ _ _ _ _ _ _ _ 159 [(0, zv s0 2 69), (1, zv s0 0 v1), (2, zv s0 0 v2), (3, zv s0 0 v3)] [] (zw s0 ca C S M156)
    exact rt_lfew [0, 2, 3] rfl (zs_X3_fitBySelves_159 Γ hd hok hs hp hq hs69  h)

def zt_X3_fitBySelves (l : Launch) (s0 : State) (G : va_G) (ca : Nat → ClassId) (d : Nat) (C : Nat × Nat) (S : zS) (w0 : rt_Wd) (p : Int) (q : Int) (w : Int) (r : Int) (M : zM) (Q : Int → zM → Prop) (X : zM → Prop) : Prop :=
  zIf (w32 (((zat M (p + 2) 134 w))) = 8) (zg_X3_fitBySelves_18 l s0 G ca d C S w0 p q w r 0 M Q X) (zIf (w32 (((zat M (q + 2) 134 r))) = 8) (zm_X6_firstMatch l s0 G ca (d - 1) C S p w q r M (fun r77 M77 => zIf (w32 r77 = ((-1))) (zt_X3_fitBySelves_103 l s0 G ca d C S w0 p q r77 M77 Q X) (zm_X3_ask l s0 G ca (d - 1) C S w ((zf_X6_branch M77 q r r77)) M77 (fun r100 M100 => zt_X3_fitBySelves_103 l s0 G ca d C S w0 p q r77 M100 Q X) X)) X) (zIf (w32 (((zat M (p + 2) 134 w))) = 6) (zt_X3_fitBySelves_127 l s0 G ca d C S w0 p q w r (((zat M (p + 2) 134 w))) M Q X) (zIf (w32 (((zat M (p + 2) 134 w))) = 7) (zt_X3_fitBySelves_127 l s0 G ca d C S w0 p q w r (((zat M (p + 2) 134 w))) M Q X) (zm_X6_matchPlainly l s0 G ca (d - 1) C S p w q r M (fun r187 M187 => zIf (w32 r187 = 0) (Q 0 M187) (zIf (w32 (((zat M (p + 2) 134 w))) = 10) (zIf (w32 (((zat M187 (q + 6) 134 r))) = ((-1))) (zm_X3_hasAllSymbols l s0 G ca (d - 1) C S w r M187 (fun r216 M216 => zIf (w32 r216 = 0) (Q 0 M216) (Q 1 M216)) X) (Q 1 M187)) (zIf (w32 (((zat M (p + 2) 134 w))) = 11) (zm_X3_fitFields l s0 G ca (d - 1) C S w r M187 (fun r237 M237 => zIf (w32 r237 = 0) (Q 0 M237) (Q 1 M237)) X) (Q 1 M187)))) X))))
set_option maxRecDepth 100000 in
theorem z_X3_fitBySelves {l : Launch} {s0 : State} {a0 : Array Value} {G : va_G} {ca : Nat → ClassId} (Γ : rt_Γ l s0 a0 G ca) {d : Nat} {C : Nat × Nat} {S : zS} (hd : 2 ≤ d) (hok : zok C) {p : Int} {q : Int} (hs : zSok S) (hp : zSc S p) (hq : zSc S q) (hs69 : S 69 = some (0, 3, [(3, 70), (3, 72), (3, p), (3, q), (0, 0)])) {w : Int} {r : Int} {M : zM} {Q : Int → zM → Prop} {X : zM → Prop} (h : zt_X3_fitBySelves l s0 G ca d C S (zw s0 ca C S M) p q w r M Q X) : zm_X3_fitBySelves l s0 G ca d C S  w r M Q X := by
  refine z_met (lv := [(0, zv s0 2 69), (1, zv s0 0 w), (2, zv s0 0 r)]) Γ kk_X3_fitBySelves rfl (show (lg_sl [zv s0 2 69, zv s0 0 w, zv s0 0 r]).length ≤ 5 from by simp only [zn_0, zn_2, show (lg_sl []).length = 0 from rfl]; omega) (show lv_args 0 [zv s0 2 69, zv s0 0 w, zv s0 0 r] = [(0, zv s0 2 69), (1, zv s0 0 w), (2, zv s0 0 r)] from by rw [zl_2, zl_0, zl_0]; rfl) ?_
  unfold zt_X3_fitBySelves at h
  refine z_aload_n dX3_fitBySelves_0 rfl (j := 0) rfl ?_
  refine z_getc Γ kf_RX3_25 dX3_fitBySelves_1 (by decide) hs69 rfl ?_
  refine z_iload_n dX3_fitBySelves_4 rfl (j := 1) rfl ?_
  refine z_callV Γ kk_X6_kind kc_RX3_65 (As := [zv s0 0 w]) (z_X6_kind (d := d - 1) Γ (by omega) hok hp (M := M) (Q := fun v9 M9 => v9 = ((zat M (p + 2) 134 w)) ∧ M9 = M) (X := X) (show _ ∧ _ from ⟨rfl, rfl⟩)) (by omega) (by decide) (show (parseMethodDescriptor yX6_kind.desc).map (fun q => q.parameters.length) = some 1 by decide +kernel) hok (Nat.zero_le _) dX3_fitBySelves_5 hp.1 hp.2.1 rfl rfl (fun _ h9 => nomatch h9) ?_
  rintro v9 M9 ⟨e9, e8⟩
  rw [e9, e8]
  clear e9 e8 v9 M9
  show rt_Go _ _ _ _ _ _ _ _ _ _ _ _ 8 [(0, zv s0 2 69), (1, zv s0 0 w), (2, zv s0 0 r)] [zv s0 0 (((zat M (p + 2) 134 w)))] (zw s0 ca C S M)
  refine z_istore_n (i := 3) (lv' := [(3, zv s0 0 (((zat M (p + 2) 134 w)))), (0, zv s0 2 69), (1, zv s0 0 w), (2, zv s0 0 r)]) dX3_fitBySelves_8 rfl (by decide) (by simp [zv_cat0, zv_cat1, zv_cat2, zv_cats]) ?_
  refine z_iload_n dX3_fitBySelves_9 rfl (j := 0) rfl ?_
  refine z_bipush dX3_fitBySelves_10 (by decide) ?_
  refine z_icmp_ne (tgt := 54) (x' := w32 (((zat M (p + 2) 134 w)))) (y' := 8) rfl (by decide) dX3_fitBySelves_12 (by decide) (fun c12 => ?_) (fun c12 => ?_)
  · replace h := h.2 c12
    refine z_aload_n dX3_fitBySelves_54 rfl (j := 1) rfl ?_
    refine z_getc Γ kf_RX3_29 dX3_fitBySelves_55 (by decide) hs69 rfl ?_
    refine z_iload_n dX3_fitBySelves_58 rfl (j := 3) rfl ?_
    refine z_callV Γ kk_X6_kind kc_RX3_65 (As := [zv s0 0 r]) (z_X6_kind (d := d - 1) Γ (by omega) hok hq (M := M) (Q := fun v9 M9 => v9 = ((zat M (q + 2) 134 r)) ∧ M9 = M) (X := X) (show _ ∧ _ from ⟨rfl, rfl⟩)) (by omega) (by decide) (show (parseMethodDescriptor yX6_kind.desc).map (fun q => q.parameters.length) = some 1 by decide +kernel) hok (Nat.zero_le _) dX3_fitBySelves_59 hq.1 hq.2.1 rfl rfl (fun _ h9 => nomatch h9) ?_
    rintro v9 M9 ⟨e9, e8⟩
    rw [e9, e8]
    clear e9 e8 v9 M9
    show rt_Go _ _ _ _ _ _ _ _ _ _ _ _ 62 [(3, zv s0 0 (((zat M (p + 2) 134 w)))), (0, zv s0 2 69), (1, zv s0 0 w), (2, zv s0 0 r)] [zv s0 0 (((zat M (q + 2) 134 r)))] (zw s0 ca C S M)
    refine z_bipush dX3_fitBySelves_62 (by decide) ?_
    refine z_icmp_ne (tgt := 115) (x' := w32 (((zat M (q + 2) 134 r)))) (y' := 8) rfl (by decide) dX3_fitBySelves_64 (by decide) (fun c64 => ?_) (fun c64 => ?_)
    · replace h := h.2 c64
      refine z_iload_n dX3_fitBySelves_115 rfl (j := 0) rfl ?_
      refine z_bipush dX3_fitBySelves_116 (by decide) ?_
      refine z_icmp_eq (tgt := 127) (x' := w32 (((zat M (p + 2) 134 w)))) (y' := 6) rfl (by decide) dX3_fitBySelves_118 (by decide) (fun c118 => ?_) (fun c118 => ?_)
      · replace h := h.1 c118
        exact rt_lfew [1, 2, 3, 0] rfl (zs_X3_fitBySelves_127 Γ hd hok hs hp hq hs69  h)
      · replace h := h.2 c118
        refine z_iload_n dX3_fitBySelves_121 rfl (j := 0) rfl ?_
        refine z_bipush dX3_fitBySelves_122 (by decide) ?_
        refine z_icmp_ne (tgt := 177) (x' := w32 (((zat M (p + 2) 134 w)))) (y' := 7) rfl (by decide) dX3_fitBySelves_124 (by decide) (fun c124 => ?_) (fun c124 => ?_)
        · replace h := h.2 c124
          refine z_aload_n dX3_fitBySelves_177 rfl (j := 1) rfl ?_
          refine z_getc Γ kf_RX3_25 dX3_fitBySelves_178 (by decide) hs69 rfl ?_
          refine z_iload_n dX3_fitBySelves_181 rfl (j := 2) rfl ?_
          refine z_aload_n dX3_fitBySelves_182 rfl (j := 1) rfl ?_
          refine z_getc Γ kf_RX3_29 dX3_fitBySelves_183 (by decide) hs69 rfl ?_
          refine z_iload_n dX3_fitBySelves_186 rfl (j := 3) rfl ?_
          refine z_callS Γ kk_X6_matchPlainly kc_RX3_82 (As := [zv s0 2 p, zv s0 0 w, zv s0 2 q, zv s0 0 r]) h (by omega) (by decide) (show (parseMethodDescriptor yX6_matchPlainly.desc).map (fun q => q.parameters.length) = some 4 by decide +kernel) hok (Nat.zero_le _) dX3_fitBySelves_187 rfl (fun _ h9 => nomatch h9) ?_
          clear h
          intro r187 M187 h
          show rt_Go _ _ _ _ _ _ _ _ _ _ _ _ 190 [(3, zv s0 0 (((zat M (p + 2) 134 w)))), (0, zv s0 2 69), (1, zv s0 0 w), (2, zv s0 0 r)] [zv s0 0 r187] (zw s0 ca C S M187)
          refine z_if_ne (tgt := 195) (x' := w32 r187) rfl dX3_fitBySelves_190 (by decide) (fun c190 => ?_) (fun c190 => ?_)
          · replace h := h.2 c190
            refine z_iload_n dX3_fitBySelves_195 rfl (j := 0) rfl ?_
            refine z_bipush dX3_fitBySelves_196 (by decide) ?_
            refine z_icmp_ne (tgt := 228) (x' := w32 (((zat M (p + 2) 134 w)))) (y' := 10) rfl (by decide) dX3_fitBySelves_198 (by decide) (fun c198 => ?_) (fun c198 => ?_)
            · replace h := h.2 c198
              refine z_iload_n dX3_fitBySelves_228 rfl (j := 0) rfl ?_
              refine z_bipush dX3_fitBySelves_229 (by decide) ?_
              refine z_icmp_ne (tgt := 243) (x' := w32 (((zat M (p + 2) 134 w)))) (y' := 11) rfl (by decide) dX3_fitBySelves_231 (by decide) (fun c231 => ?_) (fun c231 => ?_)
              · replace h := h.2 c231
                refine z_iconst dX3_fitBySelves_243 ?_
                refine rt_goto (tgt := 248) dX3_fitBySelves_244 (by decide) ?_
                exact z_zret dX3_fitBySelves_248 rfl (by decide) h
              · replace h := h.1 c231
                refine z_aload_n dX3_fitBySelves_234 rfl (j := 1) rfl ?_
                refine z_iload_n dX3_fitBySelves_235 rfl (j := 2) rfl ?_
                refine z_iload_n dX3_fitBySelves_236 rfl (j := 3) rfl ?_
                refine z_callV Γ kk_X3_fitFields kc_RX3_92 (As := [zv s0 0 w, zv s0 0 r]) h (by omega) (by decide) (show (parseMethodDescriptor yX3_fitFields.desc).map (fun q => q.parameters.length) = some 2 by decide +kernel) hok (Nat.zero_le _) dX3_fitBySelves_237 (by decide) hs69 rfl rfl (fun _ h9 => nomatch h9) ?_
                clear h
                intro r237 M237 h
                show rt_Go _ _ _ _ _ _ _ _ _ _ _ _ 240 [(3, zv s0 0 (((zat M (p + 2) 134 w)))), (0, zv s0 2 69), (1, zv s0 0 w), (2, zv s0 0 r)] [zv s0 0 r237] (zw s0 ca C S M237)
                refine z_if_eq (tgt := 247) (x' := w32 r237) rfl dX3_fitBySelves_240 (by decide) (fun c240 => ?_) (fun c240 => ?_)
                · replace h := h.1 c240
                  refine z_iconst dX3_fitBySelves_247 ?_
                  exact z_zret dX3_fitBySelves_248 rfl (by decide) h
                · replace h := h.2 c240
                  refine z_iconst dX3_fitBySelves_243 ?_
                  refine rt_goto (tgt := 248) dX3_fitBySelves_244 (by decide) ?_
                  exact z_zret dX3_fitBySelves_248 rfl (by decide) h
            · replace h := h.1 c198
              refine z_aload_n dX3_fitBySelves_201 rfl (j := 1) rfl ?_
              refine z_getc Γ kf_RX3_29 dX3_fitBySelves_202 (by decide) hs69 rfl ?_
              refine z_iload_n dX3_fitBySelves_205 rfl (j := 3) rfl ?_
              refine z_callV Γ kk_X6_fallback kc_RX3_86 (As := [zv s0 0 r]) (z_X6_fallback (d := d - 1) Γ (by omega) hok hq (M := M187) (Q := fun v9 M9 => v9 = ((zat M187 (q + 6) 134 r)) ∧ M9 = M187) (X := X) (show _ ∧ _ from ⟨rfl, rfl⟩)) (by omega) (by decide) (show (parseMethodDescriptor yX6_fallback.desc).map (fun q => q.parameters.length) = some 1 by decide +kernel) hok (Nat.zero_le _) dX3_fitBySelves_206 hq.1 hq.2.1 rfl rfl (fun _ h9 => nomatch h9) ?_
              rintro v9 M9 ⟨e9, e8⟩
              rw [e9, e8]
              clear e9 e8 v9 M9
              show rt_Go _ _ _ _ _ _ _ _ _ _ _ _ 209 [(3, zv s0 0 (((zat M (p + 2) 134 w)))), (0, zv s0 2 69), (1, zv s0 0 w), (2, zv s0 0 r)] [zv s0 0 (((zat M187 (q + 6) 134 r)))] (zw s0 ca C S M187)
              refine z_iconst dX3_fitBySelves_209 ?_
              refine z_icmp_ne (tgt := 222) (x' := w32 (((zat M187 (q + 6) 134 r)))) (y' := ((-1))) rfl (by decide) dX3_fitBySelves_210 (by decide) (fun c210 => ?_) (fun c210 => ?_)
              · replace h := h.2 c210
                refine z_iconst dX3_fitBySelves_222 ?_
                refine rt_goto (tgt := 227) dX3_fitBySelves_223 (by decide) ?_
                exact z_zret dX3_fitBySelves_227 rfl (by decide) h
              · replace h := h.1 c210
                refine z_aload_n dX3_fitBySelves_213 rfl (j := 1) rfl ?_
                refine z_iload_n dX3_fitBySelves_214 rfl (j := 2) rfl ?_
                refine z_iload_n dX3_fitBySelves_215 rfl (j := 3) rfl ?_
                refine z_callV Γ kk_X3_hasAllSymbols kc_RX3_89 (As := [zv s0 0 w, zv s0 0 r]) h (by omega) (by decide) (show (parseMethodDescriptor yX3_hasAllSymbols.desc).map (fun q => q.parameters.length) = some 2 by decide +kernel) hok (Nat.zero_le _) dX3_fitBySelves_216 (by decide) hs69 rfl rfl (fun _ h9 => nomatch h9) ?_
                clear h
                intro r216 M216 h
                show rt_Go _ _ _ _ _ _ _ _ _ _ _ _ 219 [(3, zv s0 0 (((zat M (p + 2) 134 w)))), (0, zv s0 2 69), (1, zv s0 0 w), (2, zv s0 0 r)] [zv s0 0 r216] (zw s0 ca C S M216)
                refine z_if_eq (tgt := 226) (x' := w32 r216) rfl dX3_fitBySelves_219 (by decide) (fun c219 => ?_) (fun c219 => ?_)
                · replace h := h.1 c219
                  refine z_iconst dX3_fitBySelves_226 ?_
                  exact z_zret dX3_fitBySelves_227 rfl (by decide) h
                · replace h := h.2 c219
                  refine z_iconst dX3_fitBySelves_222 ?_
                  refine rt_goto (tgt := 227) dX3_fitBySelves_223 (by decide) ?_
                  exact z_zret dX3_fitBySelves_227 rfl (by decide) h
          · replace h := h.1 c190
            refine z_iconst dX3_fitBySelves_193 ?_
            exact z_zret dX3_fitBySelves_194 rfl (by decide) h
        · replace h := h.1 c124
          exact rt_lfew [1, 2, 3, 0] rfl (zs_X3_fitBySelves_127 Γ hd hok hs hp hq hs69  h)
    · replace h := h.1 c64
      refine z_aload_n dX3_fitBySelves_67 rfl (j := 1) rfl ?_
      refine z_getc Γ kf_RX3_25 dX3_fitBySelves_68 (by decide) hs69 rfl ?_
      refine z_iload_n dX3_fitBySelves_71 rfl (j := 2) rfl ?_
      refine z_aload_n dX3_fitBySelves_72 rfl (j := 1) rfl ?_
      refine z_getc Γ kf_RX3_29 dX3_fitBySelves_73 (by decide) hs69 rfl ?_
      refine z_iload_n dX3_fitBySelves_76 rfl (j := 3) rfl ?_
      refine z_callS Γ kk_X6_firstMatch kc_RX3_75 (As := [zv s0 2 p, zv s0 0 w, zv s0 2 q, zv s0 0 r]) h (by omega) (by decide) (show (parseMethodDescriptor yX6_firstMatch.desc).map (fun q => q.parameters.length) = some 4 by decide +kernel) hok (Nat.zero_le _) dX3_fitBySelves_77 rfl (fun _ h9 => nomatch h9) ?_
      clear h
      intro r77 M77 h
      show rt_Go _ _ _ _ _ _ _ _ _ _ _ _ 80 [(3, zv s0 0 (((zat M (p + 2) 134 w)))), (0, zv s0 2 69), (1, zv s0 0 w), (2, zv s0 0 r)] [zv s0 0 r77] (zw s0 ca C S M77)
      refine z_istore (i := 4) (lv' := [(4, zv s0 0 r77), (3, zv s0 0 (((zat M (p + 2) 134 w)))), (0, zv s0 2 69), (1, zv s0 0 w), (2, zv s0 0 r)]) dX3_fitBySelves_80 (by decide) (by simp [zv_cat0, zv_cat1, zv_cat2, zv_cats]) ?_
      refine z_iload dX3_fitBySelves_82 (j := 0) rfl ?_
      refine z_iconst dX3_fitBySelves_84 ?_
      refine z_icmp_eq (tgt := 103) (x' := w32 r77) (y' := ((-1))) rfl (by decide) dX3_fitBySelves_85 (by decide) (fun c85 => ?_) (fun c85 => ?_)
      · replace h := h.1 c85
        exact rt_lfew [0] rfl (zs_X3_fitBySelves_103 Γ hd hok hs hp hq hs69  h)
      · replace h := h.2 c85
        refine z_aload_n dX3_fitBySelves_88 rfl (j := 2) rfl ?_
        refine z_iload_n dX3_fitBySelves_89 rfl (j := 3) rfl ?_
        refine z_aload_n dX3_fitBySelves_90 rfl (j := 2) rfl ?_
        refine z_getc Γ kf_RX3_29 dX3_fitBySelves_91 (by decide) hs69 rfl ?_
        refine z_iload_n dX3_fitBySelves_94 rfl (j := 4) rfl ?_
        refine z_iload dX3_fitBySelves_95 (j := 0) rfl ?_
        refine z_callV Γ kk_X6_branch kc_RX3_71 (As := [zv s0 0 r, zv s0 0 r77]) (k_X6_branch (d := d - 1) Γ (by omega) hok hq (M := M77) (Q := fun v9 M9 => v9 = (zf_X6_branch M77 q r r77) ∧ M9 = M77) (X := X) (show _ ∧ _ from ⟨rfl, rfl⟩)) (by omega) (by decide) (show (parseMethodDescriptor yX6_branch.desc).map (fun q => q.parameters.length) = some 2 by decide +kernel) hok (by simp only [List.map, zv_cat0, zv_cat1, zv_cat2, List.sum_cons, List.sum_nil]; decide) dX3_fitBySelves_97 hq.1 hq.2.1 rfl rfl (fun _ h9 => nomatch h9) ?_
        rintro v9 M9 ⟨e9, e8⟩
        rw [e9, e8]
        clear e9 e8 v9 M9
        show rt_Go _ _ _ _ _ _ _ _ _ _ _ _ 100 [(4, zv s0 0 r77), (3, zv s0 0 (((zat M (p + 2) 134 w)))), (0, zv s0 2 69), (1, zv s0 0 w), (2, zv s0 0 r)] [zv s0 0 ((zf_X6_branch M77 q r r77)), zv s0 0 w, zv s0 2 69] (zw s0 ca C S M77)
        refine z_callV Γ kk_X3_ask kc_RX3_43 (As := [zv s0 0 w, zv s0 0 ((zf_X6_branch M77 q r r77))]) h (by omega) (by decide) (show (parseMethodDescriptor yX3_ask.desc).map (fun q => q.parameters.length) = some 2 by decide +kernel) hok (Nat.zero_le _) dX3_fitBySelves_100 (by decide) hs69 rfl rfl (fun _ h9 => nomatch h9) ?_
        clear h
        intro r100 M100 h
        show rt_Go _ _ _ _ _ _ _ _ _ _ _ _ 103 [(4, zv s0 0 r77), (3, zv s0 0 (((zat M (p + 2) 134 w)))), (0, zv s0 2 69), (1, zv s0 0 w), (2, zv s0 0 r)] [] (zw s0 ca C S M100)
        exact rt_lfew [0] rfl (zs_X3_fitBySelves_103 Γ hd hok hs hp hq hs69  h)
  · replace h := h.1 c12
    refine z_iconst dX3_fitBySelves_15 ?_
    refine z_istore (i := 4) (lv' := [(4, zv s0 0 0), (3, zv s0 0 (((zat M (p + 2) 134 w)))), (0, zv s0 2 69), (1, zv s0 0 w), (2, zv s0 0 r)]) dX3_fitBySelves_16 (by decide) (by simp [zv_cat0, zv_cat1, zv_cat2, zv_cats]) ?_
    exact rt_lfew [2, 3, 4, 0] rfl h

