/-! ===== Cells: trees ===== -/
def zt_X0_count (l : Launch) (s0 : State) (G : va_G) (ca : Nat → ClassId) (d : Nat) (C : Nat × Nat) (S : zS) (w0 : rt_Wd) (c : Int) (ca9 : Int) (n : Nat)  (M : zM) (Q : Int → zM → Prop) (X : zM → Prop) : Prop :=
  Q (M c 1) M
set_option maxRecDepth 100000 in
theorem z_X0_count {l : Launch} {s0 : State} {a0 : Array Value} {G : va_G} {ca : Nat → ClassId} (Γ : rt_Γ l s0 a0 G ca) {d : Nat} {C : Nat × Nat} {S : zS} (hok : zok C) {c : Int} {ca9 : Int} {n : Nat} (hc : zCe S c ca9 n)  {M : zM} {Q : Int → zM → Prop} {X : zM → Prop} (h : zt_X0_count l s0 G ca d C S (zw s0 ca C S M) c ca9 n  M Q X) : zm_X0_count l s0 G ca d C S c  M Q X := by
  refine z_met (lv := [(0, zv s0 2 c)]) Γ kk_X0_count rfl (show (lg_sl [zv s0 2 c]).length ≤ 1 from by simp only [zn_2, show (lg_sl []).length = 0 from rfl]; omega) (show lv_args 0 [zv s0 2 c] = [(0, zv s0 2 c)] from by rw [zl_2]; rfl) ?_
  unfold zt_X0_count at h
  refine z_aload_n dX0_count_0 rfl (j := 0) rfl ?_
  refine z_get Γ kf_RX0_15 dX0_count_1 hc.1 hc.2.2.2.1 rfl (by decide) (v9 := M c 1) rfl ?_
  exact z_iret dX0_count_4 rfl h

def zt_X0_at (l : Launch) (s0 : State) (G : va_G) (ca : Nat → ClassId) (d : Nat) (C : Nat × Nat) (S : zS) (w0 : rt_Wd) (c : Int) (ca9 : Int) (n : Nat) (i : Int) (M : zM) (Q : Int → zM → Prop) (X : zM → Prop) : Prop :=
  zIf (w32 i < 0) (Q 0 M) (zIf (w32 ((n : Int)) ≤ w32 i) (Q 0 M) ((0 ≤ w32 i ∧ w32 i < n) ∧ (Q (M ca9 (w32 i)) M)))
set_option maxRecDepth 100000 in
theorem z_X0_at {l : Launch} {s0 : State} {a0 : Array Value} {G : va_G} {ca : Nat → ClassId} (Γ : rt_Γ l s0 a0 G ca) {d : Nat} {C : Nat × Nat} {S : zS} (hok : zok C) {c : Int} {ca9 : Int} {n : Nat} (hc : zCe S c ca9 n) {i : Int} {M : zM} {Q : Int → zM → Prop} {X : zM → Prop} (h : zt_X0_at l s0 G ca d C S (zw s0 ca C S M) c ca9 n i M Q X) : zm_X0_at l s0 G ca d C S c i M Q X := by
  refine z_met (lv := [(0, zv s0 2 c), (1, zv s0 0 i)]) Γ kk_X0_at rfl (show (lg_sl [zv s0 2 c, zv s0 0 i]).length ≤ 2 from by simp only [zn_0, zn_2, show (lg_sl []).length = 0 from rfl]; omega) (show lv_args 0 [zv s0 2 c, zv s0 0 i] = [(0, zv s0 2 c), (1, zv s0 0 i)] from by rw [zl_2, zl_0]; rfl) ?_
  unfold zt_X0_at at h
  refine z_iload_n dX0_at_0 rfl (j := 1) rfl ?_
  refine z_if_lt (tgt := 22) (x' := w32 i) rfl dX0_at_1 (by decide) (fun c1 => ?_) (fun c1 => ?_)
  · replace h := h.1 c1
    refine z_iconst dX0_at_22 ?_
    exact z_iret dX0_at_23 rfl h
  · replace h := h.2 c1
    refine z_iload_n dX0_at_4 rfl (j := 1) rfl ?_
    refine z_aload_n dX0_at_5 rfl (j := 0) rfl ?_
    refine z_getc Γ kf_RX0_9 dX0_at_6 hc.1 hc.2.2.2.1 rfl ?_
    refine z_alen Γ dX0_at_9 hc.2.1 hc.2.2.2.2 ?_
    refine z_icmp_ge (tgt := 22) (x' := w32 i) (y' := w32 ((n : Int))) rfl rfl dX0_at_10 (by decide) (fun c10 => ?_) (fun c10 => ?_)
    · replace h := h.1 c10
      refine z_iconst dX0_at_22 ?_
      exact z_iret dX0_at_23 rfl h
    · replace h := h.2 c10
      refine z_aload_n dX0_at_13 rfl (j := 0) rfl ?_
      refine z_getc Γ kf_RX0_9 dX0_at_14 hc.1 hc.2.2.2.1 rfl ?_
      refine z_iload_n dX0_at_17 rfl (j := 1) rfl ?_
      obtain ⟨hi18, h⟩ := h
      refine z_ialdw Γ dX0_at_18 hc.2.1 hc.2.2.2.2 hc.2.2.1 hi18 (v9 := M ca9 (w32 i)) rfl ?_
      refine rt_goto (tgt := 23) dX0_at_19 (by decide) ?_
      exact z_iret dX0_at_23 rfl h

def zt_X0_peek (l : Launch) (s0 : State) (G : va_G) (ca : Nat → ClassId) (d : Nat) (C : Nat × Nat) (S : zS) (w0 : rt_Wd) (c : Int) (ca9 : Int) (n : Nat) (i : Int) (M : zM) (Q : Int → zM → Prop) (X : zM → Prop) : Prop :=
  zIf (w32 i < 0) (Q ((-1)) M) (zIf (w32 (M c 1) ≤ w32 i) (Q ((-1)) M) (zIf (w32 ((n : Int)) ≤ w32 i) (Q ((-1)) M) ((0 ≤ w32 i ∧ w32 i < n) ∧ (Q (M ca9 (w32 i)) M))))
set_option maxRecDepth 100000 in
theorem z_X0_peek {l : Launch} {s0 : State} {a0 : Array Value} {G : va_G} {ca : Nat → ClassId} (Γ : rt_Γ l s0 a0 G ca) {d : Nat} {C : Nat × Nat} {S : zS} (hok : zok C) {c : Int} {ca9 : Int} {n : Nat} (hc : zCe S c ca9 n) {i : Int} {M : zM} {Q : Int → zM → Prop} {X : zM → Prop} (h : zt_X0_peek l s0 G ca d C S (zw s0 ca C S M) c ca9 n i M Q X) : zm_X0_peek l s0 G ca d C S c i M Q X := by
  refine z_met (lv := [(0, zv s0 2 c), (1, zv s0 0 i)]) Γ kk_X0_peek rfl (show (lg_sl [zv s0 2 c, zv s0 0 i]).length ≤ 2 from by simp only [zn_0, zn_2, show (lg_sl []).length = 0 from rfl]; omega) (show lv_args 0 [zv s0 2 c, zv s0 0 i] = [(0, zv s0 2 c), (1, zv s0 0 i)] from by rw [zl_2, zl_0]; rfl) ?_
  unfold zt_X0_peek at h
  refine z_iload_n dX0_peek_0 rfl (j := 1) rfl ?_
  refine z_if_lt (tgt := 30) (x' := w32 i) rfl dX0_peek_1 (by decide) (fun c1 => ?_) (fun c1 => ?_)
  · replace h := h.1 c1
    refine z_iconst dX0_peek_30 ?_
    exact z_iret dX0_peek_31 rfl h
  · replace h := h.2 c1
    refine z_iload_n dX0_peek_4 rfl (j := 1) rfl ?_
    refine z_aload_n dX0_peek_5 rfl (j := 0) rfl ?_
    refine z_get Γ kf_RX0_15 dX0_peek_6 hc.1 hc.2.2.2.1 rfl (by decide) (v9 := M c 1) rfl ?_
    refine z_icmp_ge (tgt := 30) (x' := w32 i) (y' := w32 (M c 1)) rfl rfl dX0_peek_9 (by decide) (fun c9 => ?_) (fun c9 => ?_)
    · replace h := h.1 c9
      refine z_iconst dX0_peek_30 ?_
      exact z_iret dX0_peek_31 rfl h
    · replace h := h.2 c9
      refine z_iload_n dX0_peek_12 rfl (j := 1) rfl ?_
      refine z_aload_n dX0_peek_13 rfl (j := 0) rfl ?_
      refine z_getc Γ kf_RX0_9 dX0_peek_14 hc.1 hc.2.2.2.1 rfl ?_
      refine z_alen Γ dX0_peek_17 hc.2.1 hc.2.2.2.2 ?_
      refine z_icmp_ge (tgt := 30) (x' := w32 i) (y' := w32 ((n : Int))) rfl rfl dX0_peek_18 (by decide) (fun c18 => ?_) (fun c18 => ?_)
      · replace h := h.1 c18
        refine z_iconst dX0_peek_30 ?_
        exact z_iret dX0_peek_31 rfl h
      · replace h := h.2 c18
        refine z_aload_n dX0_peek_21 rfl (j := 0) rfl ?_
        refine z_getc Γ kf_RX0_9 dX0_peek_22 hc.1 hc.2.2.2.1 rfl ?_
        refine z_iload_n dX0_peek_25 rfl (j := 1) rfl ?_
        obtain ⟨hi26, h⟩ := h
        refine z_ialdw Γ dX0_peek_26 hc.2.1 hc.2.2.2.2 hc.2.2.1 hi26 (v9 := M ca9 (w32 i)) rfl ?_
        refine rt_goto (tgt := 31) dX0_peek_27 (by decide) ?_
        exact z_iret dX0_peek_31 rfl h

def zt_X0_put (l : Launch) (s0 : State) (G : va_G) (ca : Nat → ClassId) (d : Nat) (C : Nat × Nat) (S : zS) (w0 : rt_Wd) (c : Int) (ca9 : Int) (n : Nat) (i : Int) (x : Int) (M : zM) (Q : Int → zM → Prop) (X : zM → Prop) : Prop :=
  zIf (w32 i < 0) (Q 0 M) (zIf (w32 ((n : Int)) ≤ w32 i) (Q 0 M) ((0 ≤ w32 i ∧ w32 i < n) ∧ (Q 0 ((zu M ca9 (w32 i) x)))))
set_option maxRecDepth 100000 in
theorem z_X0_put {l : Launch} {s0 : State} {a0 : Array Value} {G : va_G} {ca : Nat → ClassId} (Γ : rt_Γ l s0 a0 G ca) {d : Nat} {C : Nat × Nat} {S : zS} (hok : zok C) {c : Int} {ca9 : Int} {n : Nat} (hc : zCe S c ca9 n) {i : Int} {x : Int} {M : zM} {Q : Int → zM → Prop} {X : zM → Prop} (h : zt_X0_put l s0 G ca d C S (zw s0 ca C S M) c ca9 n i x M Q X) : zm_X0_put l s0 G ca d C S c i x M Q X := by
  refine z_met (lv := [(0, zv s0 2 c), (1, zv s0 0 i), (2, zv s0 0 x)]) Γ kk_X0_put rfl (show (lg_sl [zv s0 2 c, zv s0 0 i, zv s0 0 x]).length ≤ 3 from by simp only [zn_0, zn_2, show (lg_sl []).length = 0 from rfl]; omega) (show lv_args 0 [zv s0 2 c, zv s0 0 i, zv s0 0 x] = [(0, zv s0 2 c), (1, zv s0 0 i), (2, zv s0 0 x)] from by rw [zl_2, zl_0, zl_0]; rfl) ?_
  unfold zt_X0_put at h
  refine z_iload_n dX0_put_0 rfl (j := 1) rfl ?_
  refine z_if_lt (tgt := 20) (x' := w32 i) rfl dX0_put_1 (by decide) (fun c1 => ?_) (fun c1 => ?_)
  · replace h := h.1 c1
    exact z_vret dX0_put_20 rfl h
  · replace h := h.2 c1
    refine z_iload_n dX0_put_4 rfl (j := 1) rfl ?_
    refine z_aload_n dX0_put_5 rfl (j := 0) rfl ?_
    refine z_getc Γ kf_RX0_9 dX0_put_6 hc.1 hc.2.2.2.1 rfl ?_
    refine z_alen Γ dX0_put_9 hc.2.1 hc.2.2.2.2 ?_
    refine z_icmp_ge (tgt := 20) (x' := w32 i) (y' := w32 ((n : Int))) rfl rfl dX0_put_10 (by decide) (fun c10 => ?_) (fun c10 => ?_)
    · replace h := h.1 c10
      exact z_vret dX0_put_20 rfl h
    · replace h := h.2 c10
      refine z_aload_n dX0_put_13 rfl (j := 0) rfl ?_
      refine z_getc Γ kf_RX0_9 dX0_put_14 hc.1 hc.2.2.2.1 rfl ?_
      refine z_iload_n dX0_put_17 rfl (j := 1) rfl ?_
      refine z_iload_n dX0_put_18 rfl (j := 2) rfl ?_
      obtain ⟨hi19, h⟩ := h
      refine z_iastw Γ dX0_put_19 hc.2.1 hc.2.2.2.2 hc.2.2.1 hi19 ?_
      exact z_vret dX0_put_20 rfl h

def zt_X0_add (l : Launch) (s0 : State) (G : va_G) (ca : Nat → ClassId) (d : Nat) (C : Nat × Nat) (S : zS) (w0 : rt_Wd) (c : Int) (ca9 : Int) (n : Nat) (x : Int) (M : zM) (Q : Int → zM → Prop) (X : zM → Prop) : Prop :=
  zIf (w32 (M c 1) < 0) (Q 0 M) (zIf (w32 (M c 1) < w32 ((n : Int))) ((0 ≤ w32 (M c 1) ∧ w32 (M c 1) < n) ∧ (Q 1 ((zu ((zu M ca9 (w32 (M c 1)) x)) c 1 (((zu M ca9 (w32 (M c 1)) x) c 1) + 1))))) (Q 0 M))
set_option maxRecDepth 100000 in
theorem z_X0_add {l : Launch} {s0 : State} {a0 : Array Value} {G : va_G} {ca : Nat → ClassId} (Γ : rt_Γ l s0 a0 G ca) {d : Nat} {C : Nat × Nat} {S : zS} (hok : zok C) {c : Int} {ca9 : Int} {n : Nat} (hc : zCe S c ca9 n) {x : Int} {M : zM} {Q : Int → zM → Prop} {X : zM → Prop} (h : zt_X0_add l s0 G ca d C S (zw s0 ca C S M) c ca9 n x M Q X) : zm_X0_add l s0 G ca d C S c x M Q X := by
  refine z_met (lv := [(0, zv s0 2 c), (1, zv s0 0 x)]) Γ kk_X0_add rfl (show (lg_sl [zv s0 2 c, zv s0 0 x]).length ≤ 2 from by simp only [zn_0, zn_2, show (lg_sl []).length = 0 from rfl]; omega) (show lv_args 0 [zv s0 2 c, zv s0 0 x] = [(0, zv s0 2 c), (1, zv s0 0 x)] from by rw [zl_2, zl_0]; rfl) ?_
  unfold zt_X0_add at h
  refine z_aload_n dX0_add_0 rfl (j := 0) rfl ?_
  refine z_get Γ kf_RX0_15 dX0_add_1 hc.1 hc.2.2.2.1 rfl (by decide) (v9 := M c 1) rfl ?_
  refine z_if_lt (tgt := 19) (x' := w32 (M c 1)) rfl dX0_add_4 (by decide) (fun c4 => ?_) (fun c4 => ?_)
  · replace h := h.1 c4
    refine z_iconst dX0_add_19 ?_
    exact z_zret dX0_add_20 rfl (by decide) h
  · replace h := h.2 c4
    refine z_aload_n dX0_add_7 rfl (j := 0) rfl ?_
    refine z_get Γ kf_RX0_15 dX0_add_8 hc.1 hc.2.2.2.1 rfl (by decide) (v9 := M c 1) rfl ?_
    refine z_aload_n dX0_add_11 rfl (j := 0) rfl ?_
    refine z_getc Γ kf_RX0_9 dX0_add_12 hc.1 hc.2.2.2.1 rfl ?_
    refine z_alen Γ dX0_add_15 hc.2.1 hc.2.2.2.2 ?_
    refine z_icmp_lt (tgt := 21) (x' := w32 (M c 1)) (y' := w32 ((n : Int))) rfl rfl dX0_add_16 (by decide) (fun c16 => ?_) (fun c16 => ?_)
    · replace h := h.1 c16
      refine z_aload_n dX0_add_21 rfl (j := 0) rfl ?_
      refine z_getc Γ kf_RX0_9 dX0_add_22 hc.1 hc.2.2.2.1 rfl ?_
      refine z_aload_n dX0_add_25 rfl (j := 0) rfl ?_
      refine z_get Γ kf_RX0_15 dX0_add_26 hc.1 hc.2.2.2.1 rfl (by decide) (v9 := M c 1) rfl ?_
      refine z_iload_n dX0_add_29 rfl (j := 1) rfl ?_
      obtain ⟨hi30, h⟩ := h
      refine z_iastw Γ dX0_add_30 hc.2.1 hc.2.2.2.2 hc.2.2.1 hi30 ?_
      refine z_aload_n dX0_add_31 rfl (j := 0) rfl ?_
      refine z_dup2 dX0_add_32 ?_
      refine z_get Γ kf_RX0_15 dX0_add_33 hc.1 hc.2.2.2.1 rfl (by decide) (v9 := (zu M ca9 (w32 (M c 1)) x) c 1) rfl ?_
      refine z_iconst dX0_add_36 ?_
      refine z_iadd dX0_add_37 ?_
      refine z_put0 Γ kp_RX0_15 dX0_add_38 hc.1 hc.2.2.2.1 rfl (k9 := 1) rfl ?_
      refine z_iconst dX0_add_41 ?_
      exact z_zret dX0_add_42 rfl (by decide) h
    · replace h := h.2 c16
      refine z_iconst dX0_add_19 ?_
      exact z_zret dX0_add_20 rfl (by decide) h

def zt_X0_cut (l : Launch) (s0 : State) (G : va_G) (ca : Nat → ClassId) (d : Nat) (C : Nat × Nat) (S : zS) (w0 : rt_Wd) (c : Int) (ca9 : Int) (n : Nat) (k : Int) (M : zM) (Q : Int → zM → Prop) (X : zM → Prop) : Prop :=
  zIf (w32 k < 0) (Q 0 M) (zIf (w32 ((n : Int)) < w32 k) (Q 0 M) (Q 0 ((zu M c 1 k))))
set_option maxRecDepth 100000 in
theorem z_X0_cut {l : Launch} {s0 : State} {a0 : Array Value} {G : va_G} {ca : Nat → ClassId} (Γ : rt_Γ l s0 a0 G ca) {d : Nat} {C : Nat × Nat} {S : zS} (hok : zok C) {c : Int} {ca9 : Int} {n : Nat} (hc : zCe S c ca9 n) {k : Int} {M : zM} {Q : Int → zM → Prop} {X : zM → Prop} (h : zt_X0_cut l s0 G ca d C S (zw s0 ca C S M) c ca9 n k M Q X) : zm_X0_cut l s0 G ca d C S c k M Q X := by
  refine z_met (lv := [(0, zv s0 2 c), (1, zv s0 0 k)]) Γ kk_X0_cut rfl (show (lg_sl [zv s0 2 c, zv s0 0 k]).length ≤ 2 from by simp only [zn_0, zn_2, show (lg_sl []).length = 0 from rfl]; omega) (show lv_args 0 [zv s0 2 c, zv s0 0 k] = [(0, zv s0 2 c), (1, zv s0 0 k)] from by rw [zl_2, zl_0]; rfl) ?_
  unfold zt_X0_cut at h
  refine z_iload_n dX0_cut_0 rfl (j := 1) rfl ?_
  refine z_if_lt (tgt := 18) (x' := w32 k) rfl dX0_cut_1 (by decide) (fun c1 => ?_) (fun c1 => ?_)
  · replace h := h.1 c1
    exact z_vret dX0_cut_18 rfl h
  · replace h := h.2 c1
    refine z_iload_n dX0_cut_4 rfl (j := 1) rfl ?_
    refine z_aload_n dX0_cut_5 rfl (j := 0) rfl ?_
    refine z_getc Γ kf_RX0_9 dX0_cut_6 hc.1 hc.2.2.2.1 rfl ?_
    refine z_alen Γ dX0_cut_9 hc.2.1 hc.2.2.2.2 ?_
    refine z_icmp_gt (tgt := 18) (x' := w32 k) (y' := w32 ((n : Int))) rfl rfl dX0_cut_10 (by decide) (fun c10 => ?_) (fun c10 => ?_)
    · replace h := h.1 c10
      exact z_vret dX0_cut_18 rfl h
    · replace h := h.2 c10
      refine z_aload_n dX0_cut_13 rfl (j := 0) rfl ?_
      refine z_iload_n dX0_cut_14 rfl (j := 1) rfl ?_
      refine z_put0 Γ kp_RX0_15 dX0_cut_15 hc.1 hc.2.2.2.1 rfl (k9 := 1) rfl ?_
      exact z_vret dX0_cut_18 rfl h

abbrev zg_X0_isWord_80 (l : Launch) (s0 : State) (G : va_G) (ca : Nat → ClassId) (d : Nat) (C : Nat × Nat) (S : zS) (w0 : rt_Wd) (c : Int) (ca9 : Int) (n : Nat) (v1 : Int) (v2 : Int) (v3 : Int) (v4 : Int) (v5 : Int)  (M : zM) (Q : Int → zM → Prop) (X : zM → Prop) : Prop := rt_Go l s0 G RX0 "isWord" cX0_isWord 6 (Option.some FieldType.boolean) [] d w0 (zQ s0 ca 0 C S Q X) 80 [(0, zv s0 2 c), (1, zv s0 0 v1), (2, zv s0 2 v2), (3, zv s0 0 v3), (4, zv s0 0 v4), (5, zv s0 0 v5)] [] (zw s0 ca C S M)
def zt_X0_isWord_80 (l : Launch) (s0 : State) (G : va_G) (ca : Nat → ClassId) (d : Nat) (C : Nat × Nat) (S : zS) (w0 : rt_Wd) (c : Int) (ca9 : Int) (n : Nat) (v1 : Int) (v2 : Int) (v3 : Int) (v4 : Int) (v5 : Int)  (M : zM) (Q : Int → zM → Prop) (X : zM → Prop) : Prop :=
  zIf (w32 v4 < w32 v5) (Q 1 M) ((0 ≤ w32 (v1 + v5) ∧ w32 (v1 + v5) < n) ∧ (∃ (ad1 : Int) (nd1 : Nat), zCe S v2 ad1 nd1 ∧ ((0 ≤ w32 (v3 + v5) ∧ w32 (v3 + v5) < nd1) ∧ (zIf (w32 (M ca9 (w32 (v1 + v5))) = w32 (M ad1 (w32 (v3 + v5)))) (zg_X0_isWord_80 l s0 G ca d C S w0 c ca9 n v1 v2 v3 v4 (v5 + 1) M Q X) (Q 0 M)))))
set_option maxRecDepth 100000 in
theorem zs_X0_isWord_80 {l : Launch} {s0 : State} {a0 : Array Value} {G : va_G} {ca : Nat → ClassId} (Γ : rt_Γ l s0 a0 G ca) {d : Nat} {C : Nat × Nat} {S : zS} (hok : zok C) {c : Int} {ca9 : Int} {n : Nat} (hc : zCe S c ca9 n) {w0 : rt_Wd} {v1 : Int} {v2 : Int} {v3 : Int} {v4 : Int} {v5 : Int}   {M : zM} {Q : Int → zM → Prop} {X : zM → Prop} (h : zt_X0_isWord_80 l s0 G ca d C S w0 c ca9 n v1 v2 v3 v4 v5 M Q X) : zg_X0_isWord_80 l s0 G ca d C S w0 c ca9 n v1 v2 v3 v4 v5 M Q X := by
  unfold zt_X0_isWord_80 at h
  refine z_iload dX0_isWord_80 (j := 5) rfl ?_
  refine z_iload dX0_isWord_82 (j := 4) rfl ?_
  refine z_icmp_gt (tgt := 116) (x' := w32 v5) (y' := w32 v4) rfl rfl dX0_isWord_84 (by decide) (fun c84 => ?_) (fun c84 => ?_)
  · replace h := h.1 c84
    refine z_iconst dX0_isWord_116 ?_
    exact z_zret dX0_isWord_117 rfl (by decide) h
  · replace h := h.2 c84
    refine z_aload_n dX0_isWord_87 rfl (j := 0) rfl ?_
    refine z_getc Γ kf_RX0_9 dX0_isWord_88 hc.1 hc.2.2.2.1 rfl ?_
    refine z_iload_n dX0_isWord_91 rfl (j := 1) rfl ?_
    refine z_iload dX0_isWord_92 (j := 5) rfl ?_
    refine z_iadd dX0_isWord_94 ?_
    obtain ⟨hi95, h⟩ := h
    refine z_ialdw Γ dX0_isWord_95 hc.2.1 hc.2.2.2.2 hc.2.2.1 hi95 (v9 := M ca9 (w32 (v1 + v5))) rfl ?_
    refine z_aload_n dX0_isWord_96 rfl (j := 2) rfl ?_
    obtain ⟨ad1, nd1, hk0, h⟩ := h
    refine z_getc Γ kf_RX0_9 dX0_isWord_97 hk0.1 hk0.2.2.2.1 rfl ?_
    refine z_iload_n dX0_isWord_100 rfl (j := 3) rfl ?_
    refine z_iload dX0_isWord_101 (j := 5) rfl ?_
    refine z_iadd dX0_isWord_103 ?_
    obtain ⟨hi104, h⟩ := h
    refine z_ialdw Γ dX0_isWord_104 hk0.2.1 hk0.2.2.2.2 hk0.2.2.1 hi104 (v9 := M ad1 (w32 (v3 + v5))) rfl ?_
    refine z_icmp_eq (tgt := 110) (x' := w32 (M ca9 (w32 (v1 + v5)))) (y' := w32 (M ad1 (w32 (v3 + v5)))) rfl rfl dX0_isWord_105 (by decide) (fun c105 => ?_) (fun c105 => ?_)
    · replace h := h.1 c105
      refine z_iinc (lv' := [(5, zv s0 0 (v5 + 1)), (0, zv s0 2 c), (1, zv s0 0 v1), (2, zv s0 2 v2), (3, zv s0 0 v3), (4, zv s0 0 v4)]) dX0_isWord_110 (j := 5) rfl (by decide) (by simp [zv_cat0, zv_cat1, zv_cat2, zv_cats]) ?_
      refine rt_goto (tgt := 80) dX0_isWord_113 (by decide) ?_
      exact rt_lfew [1, 2, 3, 4, 5, 0] rfl h
    · replace h := h.2 c105
      refine z_iconst dX0_isWord_108 ?_
      exact z_zret dX0_isWord_109 rfl (by decide) h

def zt_X0_isWord (l : Launch) (s0 : State) (G : va_G) (ca : Nat → ClassId) (d : Nat) (C : Nat × Nat) (S : zS) (w0 : rt_Wd) (c : Int) (ca9 : Int) (n : Nat) (i : Int) (o : Int) (k : Int) (M : zM) (Q : Int → zM → Prop) (X : zM → Prop) : Prop :=
  zIf (o < 0) (Q 0 M) (zIf (w32 i < 0) (Q 0 M) (zIf (w32 ((n : Int)) ≤ w32 i) (Q 0 M) (zIf (w32 k < 0) (Q 0 M) (∃ (ad1 : Int) (nd1 : Nat), zCe S o ad1 nd1 ∧ (zIf (w32 k < w32 ((nd1 : Int))) ((0 ≤ w32 i ∧ w32 i < n) ∧ ((0 ≤ w32 k ∧ w32 k < nd1) ∧ (zIf (w32 (M ca9 (w32 i)) = w32 (M ad1 (w32 k))) (zIf (w32 (((n : Int)) - i) ≤ w32 (M ca9 (w32 i))) (Q 0 M) (zIf (w32 (M ca9 (w32 i)) < w32 (((nd1 : Int)) - k)) (zg_X0_isWord_80 l s0 G ca d C S w0 c ca9 n i o k (M ca9 (w32 i)) 1 M Q X) (Q 0 M))) (Q 0 M)))) (Q 0 M))))))
set_option maxRecDepth 100000 in
theorem z_X0_isWord {l : Launch} {s0 : State} {a0 : Array Value} {G : va_G} {ca : Nat → ClassId} (Γ : rt_Γ l s0 a0 G ca) {d : Nat} {C : Nat × Nat} {S : zS} (hok : zok C) {c : Int} {ca9 : Int} {n : Nat} (hc : zCe S c ca9 n) {i : Int} {o : Int} {k : Int} {M : zM} {Q : Int → zM → Prop} {X : zM → Prop} (h : zt_X0_isWord l s0 G ca d C S (zw s0 ca C S M) c ca9 n i o k M Q X) : zm_X0_isWord l s0 G ca d C S c i o k M Q X := by
  refine z_met (lv := [(0, zv s0 2 c), (1, zv s0 0 i), (2, zv s0 2 o), (3, zv s0 0 k)]) Γ kk_X0_isWord rfl (show (lg_sl [zv s0 2 c, zv s0 0 i, zv s0 2 o, zv s0 0 k]).length ≤ 6 from by simp only [zn_0, zn_2, show (lg_sl []).length = 0 from rfl]; omega) (show lv_args 0 [zv s0 2 c, zv s0 0 i, zv s0 2 o, zv s0 0 k] = [(0, zv s0 2 c), (1, zv s0 0 i), (2, zv s0 2 o), (3, zv s0 0 k)] from by rw [zl_2, zl_0, zl_2, zl_0]; rfl) ?_
  unfold zt_X0_isWord at h
  refine z_aload_n dX0_isWord_0 rfl (j := 2) rfl ?_
  refine z_ifnull (tgt := 30) dX0_isWord_1 (by decide) (fun c1 => ?_) (fun c1 => ?_)
  · replace h := h.1 c1
    refine z_iconst dX0_isWord_30 ?_
    exact z_zret dX0_isWord_31 rfl (by decide) h
  · replace h := h.2 c1
    refine z_iload_n dX0_isWord_4 rfl (j := 1) rfl ?_
    refine z_if_lt (tgt := 30) (x' := w32 i) rfl dX0_isWord_5 (by decide) (fun c5 => ?_) (fun c5 => ?_)
    · replace h := h.1 c5
      refine z_iconst dX0_isWord_30 ?_
      exact z_zret dX0_isWord_31 rfl (by decide) h
    · replace h := h.2 c5
      refine z_iload_n dX0_isWord_8 rfl (j := 1) rfl ?_
      refine z_aload_n dX0_isWord_9 rfl (j := 0) rfl ?_
      refine z_getc Γ kf_RX0_9 dX0_isWord_10 hc.1 hc.2.2.2.1 rfl ?_
      refine z_alen Γ dX0_isWord_13 hc.2.1 hc.2.2.2.2 ?_
      refine z_icmp_ge (tgt := 30) (x' := w32 i) (y' := w32 ((n : Int))) rfl rfl dX0_isWord_14 (by decide) (fun c14 => ?_) (fun c14 => ?_)
      · replace h := h.1 c14
        refine z_iconst dX0_isWord_30 ?_
        exact z_zret dX0_isWord_31 rfl (by decide) h
      · replace h := h.2 c14
        refine z_iload_n dX0_isWord_17 rfl (j := 3) rfl ?_
        refine z_if_lt (tgt := 30) (x' := w32 k) rfl dX0_isWord_18 (by decide) (fun c18 => ?_) (fun c18 => ?_)
        · replace h := h.1 c18
          refine z_iconst dX0_isWord_30 ?_
          exact z_zret dX0_isWord_31 rfl (by decide) h
        · replace h := h.2 c18
          refine z_iload_n dX0_isWord_21 rfl (j := 3) rfl ?_
          refine z_aload_n dX0_isWord_22 rfl (j := 2) rfl ?_
          obtain ⟨ad1, nd1, hk0, h⟩ := h
          refine z_getc Γ kf_RX0_9 dX0_isWord_23 hk0.1 hk0.2.2.2.1 rfl ?_
          refine z_alen Γ dX0_isWord_26 hk0.2.1 hk0.2.2.2.2 ?_
          refine z_icmp_lt (tgt := 32) (x' := w32 k) (y' := w32 ((nd1 : Int))) rfl rfl dX0_isWord_27 (by decide) (fun c27 => ?_) (fun c27 => ?_)
          · replace h := h.1 c27
            refine z_aload_n dX0_isWord_32 rfl (j := 0) rfl ?_
            refine z_getc Γ kf_RX0_9 dX0_isWord_33 hc.1 hc.2.2.2.1 rfl ?_
            refine z_iload_n dX0_isWord_36 rfl (j := 1) rfl ?_
            obtain ⟨hi37, h⟩ := h
            refine z_ialdw Γ dX0_isWord_37 hc.2.1 hc.2.2.2.2 hc.2.2.1 hi37 (v9 := M ca9 (w32 i)) rfl ?_
            refine z_istore (i := 4) (lv' := [(4, zv s0 0 (M ca9 (w32 i))), (0, zv s0 2 c), (1, zv s0 0 i), (2, zv s0 2 o), (3, zv s0 0 k)]) dX0_isWord_38 (by decide) (by simp [zv_cat0, zv_cat1, zv_cat2, zv_cats]) ?_
            refine z_iload dX0_isWord_40 (j := 0) rfl ?_
            refine z_aload_n dX0_isWord_42 rfl (j := 3) rfl ?_
            refine z_getc Γ kf_RX0_9 dX0_isWord_43 hk0.1 hk0.2.2.2.1 rfl ?_
            refine z_iload_n dX0_isWord_46 rfl (j := 4) rfl ?_
            obtain ⟨hi47, h⟩ := h
            refine z_ialdw Γ dX0_isWord_47 hk0.2.1 hk0.2.2.2.2 hk0.2.2.1 hi47 (v9 := M ad1 (w32 k)) rfl ?_
            refine z_icmp_ne (tgt := 75) (x' := w32 (M ca9 (w32 i))) (y' := w32 (M ad1 (w32 k))) rfl rfl dX0_isWord_48 (by decide) (fun c48 => ?_) (fun c48 => ?_)
            · replace h := h.2 c48
              refine z_iconst dX0_isWord_75 ?_
              exact z_zret dX0_isWord_76 rfl (by decide) h
            · replace h := h.1 c48
              refine z_iload dX0_isWord_51 (j := 0) rfl ?_
              refine z_aload_n dX0_isWord_53 rfl (j := 1) rfl ?_
              refine z_getc Γ kf_RX0_9 dX0_isWord_54 hc.1 hc.2.2.2.1 rfl ?_
              refine z_alen Γ dX0_isWord_57 hc.2.1 hc.2.2.2.2 ?_
              refine z_iload_n dX0_isWord_58 rfl (j := 2) rfl ?_
              refine z_isub dX0_isWord_59 ?_
              refine z_icmp_ge (tgt := 75) (x' := w32 (M ca9 (w32 i))) (y' := w32 (((n : Int)) - i)) rfl rfl dX0_isWord_60 (by decide) (fun c60 => ?_) (fun c60 => ?_)
              · replace h := h.1 c60
                refine z_iconst dX0_isWord_75 ?_
                exact z_zret dX0_isWord_76 rfl (by decide) h
              · replace h := h.2 c60
                refine z_iload dX0_isWord_63 (j := 0) rfl ?_
                refine z_aload_n dX0_isWord_65 rfl (j := 3) rfl ?_
                refine z_getc Γ kf_RX0_9 dX0_isWord_66 hk0.1 hk0.2.2.2.1 rfl ?_
                refine z_alen Γ dX0_isWord_69 hk0.2.1 hk0.2.2.2.2 ?_
                refine z_iload_n dX0_isWord_70 rfl (j := 4) rfl ?_
                refine z_isub dX0_isWord_71 ?_
                refine z_icmp_lt (tgt := 77) (x' := w32 (M ca9 (w32 i))) (y' := w32 (((nd1 : Int)) - k)) rfl rfl dX0_isWord_72 (by decide) (fun c72 => ?_) (fun c72 => ?_)
                · replace h := h.1 c72
                  refine z_iconst dX0_isWord_77 ?_
                  refine z_istore (i := 5) (lv' := [(5, zv s0 0 1), (4, zv s0 0 (M ca9 (w32 i))), (0, zv s0 2 c), (1, zv s0 0 i), (2, zv s0 2 o), (3, zv s0 0 k)]) dX0_isWord_78 (by decide) (by simp [zv_cat0, zv_cat1, zv_cat2, zv_cats]) ?_
                  exact rt_lfew [2, 3, 4, 5, 1, 0] rfl h
                · replace h := h.2 c72
                  refine z_iconst dX0_isWord_75 ?_
                  exact z_zret dX0_isWord_76 rfl (by decide) h
          · replace h := h.2 c27
            refine z_iconst dX0_isWord_30 ?_
            exact z_zret dX0_isWord_31 rfl (by decide) h

abbrev zg_X0_says_12 (l : Launch) (s0 : State) (G : va_G) (ca : Nat → ClassId) (d : Nat) (C : Nat × Nat) (S : zS) (w0 : rt_Wd) (c : Int) (ca9 : Int) (n : Nat) (w : Nat) (wb : List Int) (v1 : Int) (k0 : Int) (M : zM) (Q : Int → zM → Prop) (X : zM → Prop) : Prop := rt_Go l s0 G RX0 "says" cX0_says 5 (Option.some FieldType.boolean) [] d w0 (zQ s0 ca 0 C S Q X) 12 [(0, zv s0 2 c), (1, zv s0 0 v1), (2, .ref w)] [zv s0 0 k0] (zw s0 ca C S M)
abbrev zg_X0_says_56 (l : Launch) (s0 : State) (G : va_G) (ca : Nat → ClassId) (d : Nat) (C : Nat × Nat) (S : zS) (w0 : rt_Wd) (c : Int) (ca9 : Int) (n : Nat) (w : Nat) (wb : List Int) (v1 : Int) (v3 : Int) (v4 : Int)  (M : zM) (Q : Int → zM → Prop) (X : zM → Prop) : Prop := rt_Go l s0 G RX0 "says" cX0_says 5 (Option.some FieldType.boolean) [] d w0 (zQ s0 ca 0 C S Q X) 56 [(0, zv s0 2 c), (1, zv s0 0 v1), (2, .ref w), (3, zv s0 0 v3), (4, zv s0 0 v4)] [] (zw s0 ca C S M)
def zt_X0_says_12 (l : Launch) (s0 : State) (G : va_G) (ca : Nat → ClassId) (d : Nat) (C : Nat × Nat) (S : zS) (w0 : rt_Wd) (c : Int) (ca9 : Int) (n : Nat) (w : Nat) (wb : List Int) (v1 : Int) (k0 : Int) (M : zM) (Q : Int → zM → Prop) (X : zM → Prop) : Prop :=
  zIf (w32 v1 < 0) (Q 0 M) (zIf (w32 ((n : Int)) ≤ w32 v1) (Q 0 M) ((0 ≤ w32 v1 ∧ w32 v1 < n) ∧ (zIf (w32 (M ca9 (w32 v1)) = w32 k0) (zIf (w32 k0 < w32 (((n : Int)) - v1)) (zg_X0_says_56 l s0 G ca d C S w0 c ca9 n w wb v1 k0 0 M Q X) (Q 0 M)) (Q 0 M))))
set_option maxRecDepth 100000 in
theorem zs_X0_says_12 {l : Launch} {s0 : State} {a0 : Array Value} {G : va_G} {ca : Nat → ClassId} (Γ : rt_Γ l s0 a0 G ca) {d : Nat} {C : Nat × Nat} {S : zS} (hd : 4 ≤ d) (hok : zok C) {c : Int} {ca9 : Int} {n : Nat} {w : Nat} {wb : List Int} (hc : zCe S c ca9 n) (hw : zstr s0 w wb) {w0 : rt_Wd} {v1 : Int} {k0 : Int}  {M : zM} {Q : Int → zM → Prop} {X : zM → Prop} (h : zt_X0_says_12 l s0 G ca d C S w0 c ca9 n w wb v1 k0 M Q X) : zg_X0_says_12 l s0 G ca d C S w0 c ca9 n w wb v1 k0 M Q X := by
  unfold zt_X0_says_12 at h
  refine z_istore_n (i := 3) (lv' := [(3, zv s0 0 k0), (0, zv s0 2 c), (1, zv s0 0 v1), (2, .ref w)]) dX0_says_12 rfl (by decide) (by simp [zv_cat0, zv_cat1, zv_cat2, zv_cats]) ?_
  refine rt_aloadA_n dX0_says_13 rfl (j := 3) rfl ?_
  refine rt_ifnullA dX0_says_14 ?_
  refine z_iload_n dX0_says_17 rfl (j := 2) rfl ?_
  refine z_if_lt (tgt := 51) (x' := w32 v1) rfl dX0_says_18 (by decide) (fun c18 => ?_) (fun c18 => ?_)
  · replace h := h.1 c18
    refine z_iconst dX0_says_51 ?_
    exact z_zret dX0_says_52 rfl (by decide) h
  · replace h := h.2 c18
    refine z_iload_n dX0_says_21 rfl (j := 2) rfl ?_
    refine z_aload_n dX0_says_22 rfl (j := 1) rfl ?_
    refine z_getc Γ kf_RX0_9 dX0_says_23 hc.1 hc.2.2.2.1 rfl ?_
    refine z_alen Γ dX0_says_26 hc.2.1 hc.2.2.2.2 ?_
    refine z_icmp_ge (tgt := 51) (x' := w32 v1) (y' := w32 ((n : Int))) rfl rfl dX0_says_27 (by decide) (fun c27 => ?_) (fun c27 => ?_)
    · replace h := h.1 c27
      refine z_iconst dX0_says_51 ?_
      exact z_zret dX0_says_52 rfl (by decide) h
    · replace h := h.2 c27
      refine z_aload_n dX0_says_30 rfl (j := 1) rfl ?_
      refine z_getc Γ kf_RX0_9 dX0_says_31 hc.1 hc.2.2.2.1 rfl ?_
      refine z_iload_n dX0_says_34 rfl (j := 2) rfl ?_
      obtain ⟨hi35, h⟩ := h
      refine z_ialdw Γ dX0_says_35 hc.2.1 hc.2.2.2.2 hc.2.2.1 hi35 (v9 := M ca9 (w32 v1)) rfl ?_
      refine z_iload_n dX0_says_36 rfl (j := 0) rfl ?_
      refine z_icmp_ne (tgt := 51) (x' := w32 (M ca9 (w32 v1))) (y' := w32 k0) rfl rfl dX0_says_37 (by decide) (fun c37 => ?_) (fun c37 => ?_)
      · replace h := h.2 c37
        refine z_iconst dX0_says_51 ?_
        exact z_zret dX0_says_52 rfl (by decide) h
      · replace h := h.1 c37
        refine z_iload_n dX0_says_40 rfl (j := 0) rfl ?_
        refine z_aload_n dX0_says_41 rfl (j := 1) rfl ?_
        refine z_getc Γ kf_RX0_9 dX0_says_42 hc.1 hc.2.2.2.1 rfl ?_
        refine z_alen Γ dX0_says_45 hc.2.1 hc.2.2.2.2 ?_
        refine z_iload_n dX0_says_46 rfl (j := 2) rfl ?_
        refine z_isub dX0_says_47 ?_
        refine z_icmp_lt (tgt := 53) (x' := w32 k0) (y' := w32 (((n : Int)) - v1)) rfl rfl dX0_says_48 (by decide) (fun c48 => ?_) (fun c48 => ?_)
        · replace h := h.1 c48
          refine z_iconst dX0_says_53 ?_
          refine z_istore (i := 4) (lv' := [(4, zv s0 0 0), (3, zv s0 0 k0), (0, zv s0 2 c), (1, zv s0 0 v1), (2, .ref w)]) dX0_says_54 (by decide) (by simp [zv_cat0, zv_cat1, zv_cat2, zv_cats]) ?_
          exact rt_lfew [2, 3, 4, 1, 0] rfl h
        · replace h := h.2 c48
          refine z_iconst dX0_says_51 ?_
          exact z_zret dX0_says_52 rfl (by decide) h

def zt_X0_says_56 (l : Launch) (s0 : State) (G : va_G) (ca : Nat → ClassId) (d : Nat) (C : Nat × Nat) (S : zS) (w0 : rt_Wd) (c : Int) (ca9 : Int) (n : Nat) (w : Nat) (wb : List Int) (v1 : Int) (v3 : Int) (v4 : Int)  (M : zM) (Q : Int → zM → Prop) (X : zM → Prop) : Prop :=
  zIf (w32 v3 ≤ w32 v4) (Q 1 M) ((0 ≤ w32 ((v1 + 1) + v4) ∧ w32 ((v1 + 1) + v4) < n) ∧ ((0 ≤ v4 ∧ v4 < wb.length) ∧ (zIf (w32 (M ca9 (w32 ((v1 + 1) + v4))) = w32 (wb.getD v4.toNat 0)) (zg_X0_says_56 l s0 G ca d C S w0 c ca9 n w wb v1 v3 (v4 + 1) M Q X) (Q 0 M))))
set_option maxRecDepth 100000 in
theorem zs_X0_says_56 {l : Launch} {s0 : State} {a0 : Array Value} {G : va_G} {ca : Nat → ClassId} (Γ : rt_Γ l s0 a0 G ca) {d : Nat} {C : Nat × Nat} {S : zS} (hd : 4 ≤ d) (hok : zok C) {c : Int} {ca9 : Int} {n : Nat} {w : Nat} {wb : List Int} (hc : zCe S c ca9 n) (hw : zstr s0 w wb) {w0 : rt_Wd} {v1 : Int} {v3 : Int} {v4 : Int}   {M : zM} {Q : Int → zM → Prop} {X : zM → Prop} (h : zt_X0_says_56 l s0 G ca d C S w0 c ca9 n w wb v1 v3 v4 M Q X) : zg_X0_says_56 l s0 G ca d C S w0 c ca9 n w wb v1 v3 v4 M Q X := by
  unfold zt_X0_says_56 at h
  refine z_iload dX0_says_56 (j := 4) rfl ?_
  refine z_iload_n dX0_says_58 rfl (j := 3) rfl ?_
  refine z_icmp_ge (tgt := 90) (x' := w32 v4) (y' := w32 v3) rfl rfl dX0_says_59 (by decide) (fun c59 => ?_) (fun c59 => ?_)
  · replace h := h.1 c59
    refine z_iconst dX0_says_90 ?_
    exact z_zret dX0_says_91 rfl (by decide) h
  · replace h := h.2 c59
    refine z_aload_n dX0_says_62 rfl (j := 0) rfl ?_
    refine z_getc Γ kf_RX0_9 dX0_says_63 hc.1 hc.2.2.2.1 rfl ?_
    refine z_iload_n dX0_says_66 rfl (j := 1) rfl ?_
    refine z_iconst dX0_says_67 ?_
    refine z_iadd dX0_says_68 ?_
    refine z_iload dX0_says_69 (j := 4) rfl ?_
    refine z_iadd dX0_says_71 ?_
    obtain ⟨hi72, h⟩ := h
    refine z_ialdw Γ dX0_says_72 hc.2.1 hc.2.2.2.2 hc.2.2.1 hi72 (v9 := M ca9 (w32 ((v1 + 1) + v4))) rfl ?_
    refine rt_aloadA_n dX0_says_73 rfl (j := 2) rfl ?_
    refine z_iload dX0_says_74 (j := 4) rfl ?_
    obtain ⟨hi9, h⟩ := h
    refine z_scat Γ hw kc_RX0_48 (by omega) hok (by simp only [List.map, zv_cat0, zv_cat1, zv_cat2, List.sum_cons, List.sum_nil]; decide) hi9 dX0_says_76 ?_
    refine z_icmp_eq (tgt := 84) (x' := w32 (M ca9 (w32 ((v1 + 1) + v4)))) (y' := w32 (wb.getD v4.toNat 0)) rfl rfl dX0_says_79 (by decide) (fun c79 => ?_) (fun c79 => ?_)
    · replace h := h.1 c79
      refine z_iinc (lv' := [(4, zv s0 0 (v4 + 1)), (0, zv s0 2 c), (1, zv s0 0 v1), (2, .ref w), (3, zv s0 0 v3)]) dX0_says_84 (j := 4) rfl (by decide) (by simp [zv_cat0, zv_cat1, zv_cat2, zv_cats]) ?_
      refine rt_goto (tgt := 56) dX0_says_87 (by decide) ?_
      exact rt_lfew [1, 2, 3, 4, 0] rfl h
    · replace h := h.2 c79
      refine z_iconst dX0_says_82 ?_
      exact z_zret dX0_says_83 rfl (by decide) h

def zt_X0_says (l : Launch) (s0 : State) (G : va_G) (ca : Nat → ClassId) (d : Nat) (C : Nat × Nat) (S : zS) (w0 : rt_Wd) (c : Int) (ca9 : Int) (n : Nat) (w : Nat) (wb : List Int) (i : Int) (M : zM) (Q : Int → zM → Prop) (X : zM → Prop) : Prop :=
  zt_X0_says_12 l s0 G ca d C S w0 c ca9 n w wb i ((wb.length : Int)) M Q X
set_option maxRecDepth 100000 in
theorem z_X0_says {l : Launch} {s0 : State} {a0 : Array Value} {G : va_G} {ca : Nat → ClassId} (Γ : rt_Γ l s0 a0 G ca) {d : Nat} {C : Nat × Nat} {S : zS} (hd : 4 ≤ d) (hok : zok C) {c : Int} {ca9 : Int} {n : Nat} {w : Nat} {wb : List Int} (hc : zCe S c ca9 n) (hw : zstr s0 w wb) {i : Int} {M : zM} {Q : Int → zM → Prop} {X : zM → Prop} (h : zt_X0_says l s0 G ca d C S (zw s0 ca C S M) c ca9 n w wb i M Q X) : zm_X0_says l s0 G ca d C S c i w M Q X := by
  refine z_met (lv := [(0, zv s0 2 c), (1, zv s0 0 i), (2, .ref w)]) Γ kk_X0_says rfl (show (lg_sl [zv s0 2 c, zv s0 0 i, .ref w]).length ≤ 5 from by simp only [zn_0, zn_2, zn_s, show (lg_sl []).length = 0 from rfl]; omega) (show lv_args 0 [zv s0 2 c, zv s0 0 i, .ref w] = [(0, zv s0 2 c), (1, zv s0 0 i), (2, .ref w)] from by rw [zl_2, zl_0, zl_s]; rfl) ?_
  unfold zt_X0_says at h
  refine rt_aloadA_n dX0_says_0 rfl (j := 2) rfl ?_
  refine rt_ifnonnullA (tgt := 8) dX0_says_1 (by decide) ?_
  refine rt_aloadA_n dX0_says_8 rfl (j := 2) rfl ?_
  refine z_slen Γ hw kc_RX0_42 (by omega) hok (Nat.zero_le _) dX0_says_9 ?_
  exact rt_lfew [0, 1, 2] rfl (zs_X0_says_12 Γ hd hok hc hw  h)

abbrev zg_X0_addVarint_12 (l : Launch) (s0 : State) (G : va_G) (ca : Nat → ClassId) (d : Nat) (C : Nat × Nat) (S : zS) (w0 : rt_Wd) (c : Int) (ca9 : Int) (n : Nat) (v3 : Int) (v5 : Int)  (M : zM) (Q : Int → zM → Prop) (X : zM → Prop) : Prop := rt_Go l s0 G RX0 "addVarint" cX0_addVarint 7 (Option.some FieldType.boolean) [] d w0 (zQ s0 ca 0 C S Q X) 12 [(0, zv s0 2 c), (3, zv s0 1 v3), (5, zv s0 0 v5)] [] (zw s0 ca C S M)
abbrev zg_X0_addVarint_33 (l : Launch) (s0 : State) (G : va_G) (ca : Nat → ClassId) (d : Nat) (C : Nat × Nat) (S : zS) (w0 : rt_Wd) (c : Int) (ca9 : Int) (n : Nat) (v3 : Int) (v5 : Int) (k0 : Int) (M : zM) (Q : Int → zM → Prop) (X : zM → Prop) : Prop := rt_Go l s0 G RX0 "addVarint" cX0_addVarint 7 (Option.some FieldType.boolean) [] d w0 (zQ s0 ca 0 C S Q X) 33 [(0, zv s0 2 c), (3, zv s0 1 v3), (5, zv s0 0 v5)] [zv s0 0 k0] (zw s0 ca C S M)
abbrev zg_X0_addVarint_54 (l : Launch) (s0 : State) (G : va_G) (ca : Nat → ClassId) (d : Nat) (C : Nat × Nat) (S : zS) (w0 : rt_Wd) (c : Int) (ca9 : Int) (n : Nat) (v3 : Int) (v5 : Int) (v6 : Int) (k0 : Int) (k1 : Int) (M : zM) (Q : Int → zM → Prop) (X : zM → Prop) : Prop := rt_Go l s0 G RX0 "addVarint" cX0_addVarint 7 (Option.some FieldType.boolean) [] d w0 (zQ s0 ca 0 C S Q X) 54 [(0, zv s0 2 c), (3, zv s0 1 v3), (5, zv s0 0 v5), (6, zv s0 0 v6)] [zv s0 0 k0, zv s0 0 k1, zv s0 2 c] (zw s0 ca C S M)
def zt_X0_addVarint_54 (l : Launch) (s0 : State) (G : va_G) (ca : Nat → ClassId) (d : Nat) (C : Nat × Nat) (S : zS) (w0 : rt_Wd) (c : Int) (ca9 : Int) (n : Nat) (v3 : Int) (v5 : Int) (v6 : Int) (k0 : Int) (k1 : Int) (M : zM) (Q : Int → zM → Prop) (X : zM → Prop) : Prop :=
  zm_X0_add l s0 G ca (d - 1) C S c (zor k1 k0) M (fun r55 M55 => zIf (w32 r55 = 0) (Q 0 M55) (zIf (w32 v6 = 0) (zg_X0_addVarint_12 l s0 G ca d C S w0 c ca9 n (zushrL v3 7) (v5 + 1) M55 Q X) (Q 1 M55))) X
set_option maxRecDepth 100000 in
theorem zs_X0_addVarint_54 {l : Launch} {s0 : State} {a0 : Array Value} {G : va_G} {ca : Nat → ClassId} (Γ : rt_Γ l s0 a0 G ca) {d : Nat} {C : Nat × Nat} {S : zS} (hd : 1 ≤ d) (hok : zok C) {c : Int} {ca9 : Int} {n : Nat} (hc : zCe S c ca9 n) {w0 : rt_Wd} {v3 : Int} {v5 : Int} {v6 : Int} {k0 : Int} {k1 : Int}  {M : zM} {Q : Int → zM → Prop} {X : zM → Prop} (h : zt_X0_addVarint_54 l s0 G ca d C S w0 c ca9 n v3 v5 v6 k0 k1 M Q X) : zg_X0_addVarint_54 l s0 G ca d C S w0 c ca9 n v3 v5 v6 k0 k1 M Q X := by
  unfold zt_X0_addVarint_54 at h
  refine z_ior dX0_addVarint_54 ?_
  refine z_callV Γ kk_X0_add kc_RX0_27 (As := [zv s0 0 (zor k1 k0)]) h (by omega) (by decide) (show (parseMethodDescriptor yX0_add.desc).map (fun q => q.parameters.length) = some 1 by decide +kernel) hok (Nat.zero_le _) dX0_addVarint_55 (hc : zCe S c ca9 n).1 (hc : zCe S c ca9 n).2.2.2.1 rfl rfl (fun _ h9 => nomatch h9) ?_
  clear h
  intro r55 M55 h
  show rt_Go _ _ _ _ _ _ _ _ _ _ _ _ 58 [(0, zv s0 2 c), (3, zv s0 1 v3), (5, zv s0 0 v5), (6, zv s0 0 v6)] [zv s0 0 r55] (zw s0 ca C S M55)
  refine z_if_ne (tgt := 63) (x' := w32 r55) rfl dX0_addVarint_58 (by decide) (fun c58 => ?_) (fun c58 => ?_)
  · replace h := h.2 c58
    refine z_iload dX0_addVarint_63 (j := 3) rfl ?_
    refine z_if_eq (tgt := 70) (x' := w32 v6) rfl dX0_addVarint_65 (by decide) (fun c65 => ?_) (fun c65 => ?_)
    · replace h := h.1 c65
      refine z_lload_n dX0_addVarint_70 rfl (j := 1) rfl ?_
      refine z_bipush dX0_addVarint_71 (by decide) ?_
      refine z_lushr dX0_addVarint_73 ?_
      refine z_lstore_n (i := 3) (lv' := [(3, zv s0 1 (zushrL v3 7)), (0, zv s0 2 c), (5, zv s0 0 v5), (6, zv s0 0 v6)]) dX0_addVarint_74 rfl (by decide) (by simp [zv_cat0, zv_cat1, zv_cat2, zv_cats]) ?_
      refine z_iinc (lv' := [(5, zv s0 0 (v5 + 1)), (3, zv s0 1 (zushrL v3 7)), (0, zv s0 2 c), (6, zv s0 0 v6)]) dX0_addVarint_75 (j := 2) rfl (by decide) (by simp [zv_cat0, zv_cat1, zv_cat2, zv_cats]) ?_
      refine rt_goto (tgt := 12) dX0_addVarint_78 (by decide) ?_
      exact rt_lfew [2, 1, 0] rfl h
    · replace h := h.2 c65
      refine z_iconst dX0_addVarint_68 ?_
      exact z_zret dX0_addVarint_69 rfl (by decide) h
  · replace h := h.1 c58
    refine z_iconst dX0_addVarint_61 ?_
    exact z_zret dX0_addVarint_62 rfl (by decide) h

def zt_X0_addVarint_33 (l : Launch) (s0 : State) (G : va_G) (ca : Nat → ClassId) (d : Nat) (C : Nat × Nat) (S : zS) (w0 : rt_Wd) (c : Int) (ca9 : Int) (n : Nat) (v3 : Int) (v5 : Int) (k0 : Int) (M : zM) (Q : Int → zM → Prop) (X : zM → Prop) : Prop :=
  zIf (w32 k0 = 0) (zt_X0_addVarint_54 l s0 G ca d C S w0 c ca9 n v3 v5 k0 128 (zandL v3 127) M Q X) (zt_X0_addVarint_54 l s0 G ca d C S w0 c ca9 n v3 v5 k0 0 (zandL v3 127) M Q X)
set_option maxRecDepth 100000 in
theorem zs_X0_addVarint_33 {l : Launch} {s0 : State} {a0 : Array Value} {G : va_G} {ca : Nat → ClassId} (Γ : rt_Γ l s0 a0 G ca) {d : Nat} {C : Nat × Nat} {S : zS} (hd : 1 ≤ d) (hok : zok C) {c : Int} {ca9 : Int} {n : Nat} (hc : zCe S c ca9 n) {w0 : rt_Wd} {v3 : Int} {v5 : Int} {k0 : Int}  {M : zM} {Q : Int → zM → Prop} {X : zM → Prop} (h : zt_X0_addVarint_33 l s0 G ca d C S w0 c ca9 n v3 v5 k0 M Q X) : zg_X0_addVarint_33 l s0 G ca d C S w0 c ca9 n v3 v5 k0 M Q X := by
  unfold zt_X0_addVarint_33 at h
  refine z_istore (i := 6) (lv' := [(6, zv s0 0 k0), (0, zv s0 2 c), (3, zv s0 1 v3), (5, zv s0 0 v5)]) dX0_addVarint_33 (by decide) (by simp [zv_cat0, zv_cat1, zv_cat2, zv_cats]) ?_
  refine z_aload_n dX0_addVarint_35 rfl (j := 1) rfl ?_
  refine z_lload_n dX0_addVarint_36 rfl (j := 2) rfl ?_
  refine rt_ldc2 Γ dX0_addVarint_37 kv_RX0_25 ?_
  show rt_Go _ _ _ _ _ _ _ _ _ _ _ _ 40 [(6, zv s0 0 k0), (0, zv s0 2 c), (3, zv s0 1 v3), (5, zv s0 0 v5)] [zv s0 1 127, zv s0 1 v3, zv s0 2 c] _
  refine z_land dX0_addVarint_40 ?_
  refine z_l2i dX0_addVarint_41 ?_
  refine z_iload dX0_addVarint_42 (j := 0) rfl ?_
  refine z_if_eq (tgt := 51) (x' := w32 k0) rfl dX0_addVarint_44 (by decide) (fun c44 => ?_) (fun c44 => ?_)
  · replace h := h.1 c44
    refine z_sipush dX0_addVarint_51 (by decide) ?_
    exact rt_lfew [1, 2, 3, 0] rfl (zs_X0_addVarint_54 Γ hd hok hc  h)
  · replace h := h.2 c44
    refine z_iconst dX0_addVarint_47 ?_
    refine rt_goto (tgt := 54) dX0_addVarint_48 (by decide) ?_
    exact rt_lfew [1, 2, 3, 0] rfl (zs_X0_addVarint_54 Γ hd hok hc  h)

def zt_X0_addVarint_12 (l : Launch) (s0 : State) (G : va_G) (ca : Nat → ClassId) (d : Nat) (C : Nat × Nat) (S : zS) (w0 : rt_Wd) (c : Int) (ca9 : Int) (n : Nat) (v3 : Int) (v5 : Int)  (M : zM) (Q : Int → zM → Prop) (X : zM → Prop) : Prop :=
  zIf (10 ≤ w32 v5) (Q 1 M) (zIf (w64 (zushrL v3 7) = 0) (zt_X0_addVarint_33 l s0 G ca d C S w0 c ca9 n v3 v5 1 M Q X) (zt_X0_addVarint_33 l s0 G ca d C S w0 c ca9 n v3 v5 0 M Q X))
set_option maxRecDepth 100000 in
theorem zs_X0_addVarint_12 {l : Launch} {s0 : State} {a0 : Array Value} {G : va_G} {ca : Nat → ClassId} (Γ : rt_Γ l s0 a0 G ca) {d : Nat} {C : Nat × Nat} {S : zS} (hd : 1 ≤ d) (hok : zok C) {c : Int} {ca9 : Int} {n : Nat} (hc : zCe S c ca9 n) {w0 : rt_Wd} {v3 : Int} {v5 : Int}   {M : zM} {Q : Int → zM → Prop} {X : zM → Prop} (h : zt_X0_addVarint_12 l s0 G ca d C S w0 c ca9 n v3 v5 M Q X) : zg_X0_addVarint_12 l s0 G ca d C S w0 c ca9 n v3 v5 M Q X := by
  unfold zt_X0_addVarint_12 at h
  refine z_iload dX0_addVarint_12 (j := 2) rfl ?_
  refine z_bipush dX0_addVarint_14 (by decide) ?_
  refine z_icmp_ge (tgt := 81) (x' := w32 v5) (y' := 10) rfl (by decide) dX0_addVarint_16 (by decide) (fun c16 => ?_) (fun c16 => ?_)
  · replace h := h.1 c16
    refine z_iconst dX0_addVarint_81 ?_
    exact z_zret dX0_addVarint_82 rfl (by decide) h
  · replace h := h.2 c16
    refine z_lload_n dX0_addVarint_19 rfl (j := 1) rfl ?_
    refine z_bipush dX0_addVarint_20 (by decide) ?_
    refine z_lushr dX0_addVarint_22 ?_
    refine z_lconst (v := 0) dX0_addVarint_23 (by decide) ?_
    refine z_lif_ne (tgt := 32) (x' := w64 (zushrL v3 7)) (y' := 0) rfl (by decide) dX0_addVarint_24 dX0_addVarint_25 (by decide) (fun c24 => ?_) (fun c24 => ?_)
    · replace h := h.2 c24
      refine z_iconst dX0_addVarint_32 ?_
      exact rt_lfew [0, 1, 2] rfl (zs_X0_addVarint_33 Γ hd hok hc  h)
    · replace h := h.1 c24
      refine z_iconst dX0_addVarint_28 ?_
      refine rt_goto (tgt := 33) dX0_addVarint_29 (by decide) ?_
      exact rt_lfew [0, 1, 2] rfl (zs_X0_addVarint_33 Γ hd hok hc  h)

def zt_X0_addVarint (l : Launch) (s0 : State) (G : va_G) (ca : Nat → ClassId) (d : Nat) (C : Nat × Nat) (S : zS) (w0 : rt_Wd) (c : Int) (ca9 : Int) (n : Nat) (v : Int) (M : zM) (Q : Int → zM → Prop) (X : zM → Prop) : Prop :=
  zg_X0_addVarint_12 l s0 G ca d C S w0 c ca9 n (zxorL (zshlL v 1) (zshrL v 63)) 0 M Q X
set_option maxRecDepth 100000 in
theorem z_X0_addVarint {l : Launch} {s0 : State} {a0 : Array Value} {G : va_G} {ca : Nat → ClassId} (Γ : rt_Γ l s0 a0 G ca) {d : Nat} {C : Nat × Nat} {S : zS} (hd : 1 ≤ d) (hok : zok C) {c : Int} {ca9 : Int} {n : Nat} (hc : zCe S c ca9 n) {v : Int} {M : zM} {Q : Int → zM → Prop} {X : zM → Prop} (h : zt_X0_addVarint l s0 G ca d C S (zw s0 ca C S M) c ca9 n v M Q X) : zm_X0_addVarint l s0 G ca d C S c v M Q X := by
  refine z_met (lv := [(0, zv s0 2 c), (1, zv s0 1 v)]) Γ kk_X0_addVarint rfl (show (lg_sl [zv s0 2 c, zv s0 1 v]).length ≤ 7 from by simp only [zn_1, zn_2, show (lg_sl []).length = 0 from rfl]; omega) (show lv_args 0 [zv s0 2 c, zv s0 1 v] = [(0, zv s0 2 c), (1, zv s0 1 v)] from by rw [zl_2, zl_1]; rfl) ?_
  unfold zt_X0_addVarint at h
  refine z_lload_n dX0_addVarint_0 rfl (j := 1) rfl ?_
  refine z_iconst dX0_addVarint_1 ?_
  refine z_lshl dX0_addVarint_2 ?_
  refine z_lload_n dX0_addVarint_3 rfl (j := 1) rfl ?_
  refine z_bipush dX0_addVarint_4 (by decide) ?_
  refine z_lshr dX0_addVarint_6 ?_
  refine z_lxor dX0_addVarint_7 ?_
  refine z_lstore_n (i := 3) (lv' := [(3, zv s0 1 (zxorL (zshlL v 1) (zshrL v 63))), (0, zv s0 2 c), (1, zv s0 1 v)]) dX0_addVarint_8 rfl (by decide) (by simp [zv_cat0, zv_cat1, zv_cat2, zv_cats]) ?_
  refine z_iconst dX0_addVarint_9 ?_
  refine z_istore (i := 5) (lv' := [(5, zv s0 0 0), (3, zv s0 1 (zxorL (zshlL v 1) (zshrL v 63))), (0, zv s0 2 c), (1, zv s0 1 v)]) dX0_addVarint_10 (by decide) (by simp [zv_cat0, zv_cat1, zv_cat2, zv_cats]) ?_
  exact rt_lfew [2, 1, 0] rfl h

abbrev zg_X0_reverse_7 (l : Launch) (s0 : State) (G : va_G) (ca : Nat → ClassId) (d : Nat) (C : Nat × Nat) (S : zS) (w0 : rt_Wd) (c : Int) (ca9 : Int) (n : Nat) (v3 : Int) (v4 : Int)  (M : zM) (Q : Int → zM → Prop) (X : zM → Prop) : Prop := rt_Go l s0 G RX0 "reverse" cX0_reverse 6 (Option.none : Option FieldType) [] d w0 (zQ s0 ca 9 C S Q X) 7 [(0, zv s0 2 c), (3, zv s0 0 v3), (4, zv s0 0 v4)] [] (zw s0 ca C S M)
def zt_X0_reverse_7 (l : Launch) (s0 : State) (G : va_G) (ca : Nat → ClassId) (d : Nat) (C : Nat × Nat) (S : zS) (w0 : rt_Wd) (c : Int) (ca9 : Int) (n : Nat) (v3 : Int) (v4 : Int)  (M : zM) (Q : Int → zM → Prop) (X : zM → Prop) : Prop :=
  zIf (w32 v4 ≤ w32 v3) (Q 0 M) (zm_X0_at l s0 G ca (d - 1) C S c v3 M (fun r15 M15 => zm_X0_at l s0 G ca (d - 1) C S c v4 M15 (fun r25 M25 => zm_X0_put l s0 G ca (d - 1) C S c v3 r25 M25 (fun r28 M28 => zm_X0_put l s0 G ca (d - 1) C S c v4 r15 M28 (fun r36 M36 => zg_X0_reverse_7 l s0 G ca d C S w0 c ca9 n (v3 + 1) (v4 + (-1)) M36 Q X) X) X) X) X)
set_option maxRecDepth 100000 in
theorem zs_X0_reverse_7 {l : Launch} {s0 : State} {a0 : Array Value} {G : va_G} {ca : Nat → ClassId} (Γ : rt_Γ l s0 a0 G ca) {d : Nat} {C : Nat × Nat} {S : zS} (hd : 1 ≤ d) (hok : zok C) {c : Int} {ca9 : Int} {n : Nat} (hc : zCe S c ca9 n) {w0 : rt_Wd} {v3 : Int} {v4 : Int}   {M : zM} {Q : Int → zM → Prop} {X : zM → Prop} (h : zt_X0_reverse_7 l s0 G ca d C S w0 c ca9 n v3 v4 M Q X) : zg_X0_reverse_7 l s0 G ca d C S w0 c ca9 n v3 v4 M Q X := by
  unfold zt_X0_reverse_7 at h
  refine z_iload_n dX0_reverse_7 rfl (j := 1) rfl ?_
  refine z_iload dX0_reverse_8 (j := 2) rfl ?_
  refine z_icmp_ge (tgt := 48) (x' := w32 v3) (y' := w32 v4) rfl rfl dX0_reverse_10 (by decide) (fun c10 => ?_) (fun c10 => ?_)
  · replace h := h.1 c10
    exact z_vret dX0_reverse_48 rfl h
  · replace h := h.2 c10
    refine z_aload_n dX0_reverse_13 rfl (j := 0) rfl ?_
    refine z_iload_n dX0_reverse_14 rfl (j := 1) rfl ?_
    refine z_callV Γ kk_X0_at kc_RX0_35 (As := [zv s0 0 v3]) h (by omega) (by decide) (show (parseMethodDescriptor yX0_at.desc).map (fun q => q.parameters.length) = some 1 by decide +kernel) hok (Nat.zero_le _) dX0_reverse_15 (hc : zCe S c ca9 n).1 (hc : zCe S c ca9 n).2.2.2.1 rfl rfl (fun _ h9 => nomatch h9) ?_
    clear h
    intro r15 M15 h
    show rt_Go _ _ _ _ _ _ _ _ _ _ _ _ 18 [(0, zv s0 2 c), (3, zv s0 0 v3), (4, zv s0 0 v4)] [zv s0 0 r15] (zw s0 ca C S M15)
    refine z_istore (i := 5) (lv' := [(5, zv s0 0 r15), (0, zv s0 2 c), (3, zv s0 0 v3), (4, zv s0 0 v4)]) dX0_reverse_18 (by decide) (by simp [zv_cat0, zv_cat1, zv_cat2, zv_cats]) ?_
    refine z_aload_n dX0_reverse_20 rfl (j := 1) rfl ?_
    refine z_iload_n dX0_reverse_21 rfl (j := 2) rfl ?_
    refine z_aload_n dX0_reverse_22 rfl (j := 1) rfl ?_
    refine z_iload dX0_reverse_23 (j := 3) rfl ?_
    refine z_callV Γ kk_X0_at kc_RX0_35 (As := [zv s0 0 v4]) h (by omega) (by decide) (show (parseMethodDescriptor yX0_at.desc).map (fun q => q.parameters.length) = some 1 by decide +kernel) hok (by simp only [List.map, zv_cat0, zv_cat1, zv_cat2, List.sum_cons, List.sum_nil]; decide) dX0_reverse_25 (hc : zCe S c ca9 n).1 (hc : zCe S c ca9 n).2.2.2.1 rfl rfl (fun _ h9 => nomatch h9) ?_
    clear h
    intro r25 M25 h
    show rt_Go _ _ _ _ _ _ _ _ _ _ _ _ 28 [(5, zv s0 0 r15), (0, zv s0 2 c), (3, zv s0 0 v3), (4, zv s0 0 v4)] [zv s0 0 r25, zv s0 0 v3, zv s0 2 c] (zw s0 ca C S M25)
    refine z_callV Γ kk_X0_put kc_RX0_39 (As := [zv s0 0 v3, zv s0 0 r25]) h (by omega) (by decide) (show (parseMethodDescriptor yX0_put.desc).map (fun q => q.parameters.length) = some 2 by decide +kernel) hok (Nat.zero_le _) dX0_reverse_28 (hc : zCe S c ca9 n).1 (hc : zCe S c ca9 n).2.2.2.1 rfl rfl (fun _ h9 => nomatch h9) ?_
    clear h
    intro r28 M28 h
    show rt_Go _ _ _ _ _ _ _ _ _ _ _ _ 31 [(5, zv s0 0 r15), (0, zv s0 2 c), (3, zv s0 0 v3), (4, zv s0 0 v4)] [] (zw s0 ca C S M28)
    refine z_aload_n dX0_reverse_31 rfl (j := 1) rfl ?_
    refine z_iload dX0_reverse_32 (j := 3) rfl ?_
    refine z_iload dX0_reverse_34 (j := 0) rfl ?_
    refine z_callV Γ kk_X0_put kc_RX0_39 (As := [zv s0 0 v4, zv s0 0 r15]) h (by omega) (by decide) (show (parseMethodDescriptor yX0_put.desc).map (fun q => q.parameters.length) = some 2 by decide +kernel) hok (Nat.zero_le _) dX0_reverse_36 (hc : zCe S c ca9 n).1 (hc : zCe S c ca9 n).2.2.2.1 rfl rfl (fun _ h9 => nomatch h9) ?_
    clear h
    intro r36 M36 h
    show rt_Go _ _ _ _ _ _ _ _ _ _ _ _ 39 [(5, zv s0 0 r15), (0, zv s0 2 c), (3, zv s0 0 v3), (4, zv s0 0 v4)] [] (zw s0 ca C S M36)
    refine z_iinc (lv' := [(3, zv s0 0 (v3 + 1)), (5, zv s0 0 r15), (0, zv s0 2 c), (4, zv s0 0 v4)]) dX0_reverse_39 (j := 2) rfl (by decide) (by simp [zv_cat0, zv_cat1, zv_cat2, zv_cats]) ?_
    refine z_iinc (lv' := [(4, zv s0 0 (v4 + (-1))), (3, zv s0 0 (v3 + 1)), (5, zv s0 0 r15), (0, zv s0 2 c)]) dX0_reverse_42 (j := 3) rfl (by decide) (by simp [zv_cat0, zv_cat1, zv_cat2, zv_cats]) ?_
    refine rt_goto (tgt := 7) dX0_reverse_45 (by decide) ?_
    exact rt_lfew [3, 1, 0] rfl h

def zt_X0_reverse (l : Launch) (s0 : State) (G : va_G) (ca : Nat → ClassId) (d : Nat) (C : Nat × Nat) (S : zS) (w0 : rt_Wd) (c : Int) (ca9 : Int) (n : Nat) (f : Int) (e : Int) (M : zM) (Q : Int → zM → Prop) (X : zM → Prop) : Prop :=
  zg_X0_reverse_7 l s0 G ca d C S w0 c ca9 n f (e - 1) M Q X
set_option maxRecDepth 100000 in
theorem z_X0_reverse {l : Launch} {s0 : State} {a0 : Array Value} {G : va_G} {ca : Nat → ClassId} (Γ : rt_Γ l s0 a0 G ca) {d : Nat} {C : Nat × Nat} {S : zS} (hd : 1 ≤ d) (hok : zok C) {c : Int} {ca9 : Int} {n : Nat} (hc : zCe S c ca9 n) {f : Int} {e : Int} {M : zM} {Q : Int → zM → Prop} {X : zM → Prop} (h : zt_X0_reverse l s0 G ca d C S (zw s0 ca C S M) c ca9 n f e M Q X) : zm_X0_reverse l s0 G ca d C S c f e M Q X := by
  refine z_met (lv := [(0, zv s0 2 c), (1, zv s0 0 f), (2, zv s0 0 e)]) Γ kk_X0_reverse rfl (show (lg_sl [zv s0 2 c, zv s0 0 f, zv s0 0 e]).length ≤ 6 from by simp only [zn_0, zn_2, show (lg_sl []).length = 0 from rfl]; omega) (show lv_args 0 [zv s0 2 c, zv s0 0 f, zv s0 0 e] = [(0, zv s0 2 c), (1, zv s0 0 f), (2, zv s0 0 e)] from by rw [zl_2, zl_0, zl_0]; rfl) ?_
  unfold zt_X0_reverse at h
  refine z_iload_n dX0_reverse_0 rfl (j := 1) rfl ?_
  refine z_istore_n (i := 3) (lv' := [(3, zv s0 0 f), (0, zv s0 2 c), (1, zv s0 0 f), (2, zv s0 0 e)]) dX0_reverse_1 rfl (by decide) (by simp [zv_cat0, zv_cat1, zv_cat2, zv_cats]) ?_
  refine z_iload_n dX0_reverse_2 rfl (j := 3) rfl ?_
  refine z_iconst dX0_reverse_3 ?_
  refine z_isub dX0_reverse_4 ?_
  refine z_istore (i := 4) (lv' := [(4, zv s0 0 (e - 1)), (3, zv s0 0 f), (0, zv s0 2 c), (1, zv s0 0 f), (2, zv s0 0 e)]) dX0_reverse_5 (by decide) (by simp [zv_cat0, zv_cat1, zv_cat2, zv_cats]) ?_
  exact rt_lfew [2, 1, 0] rfl h

def zt_X0_rotate (l : Launch) (s0 : State) (G : va_G) (ca : Nat → ClassId) (d : Nat) (C : Nat × Nat) (S : zS) (w0 : rt_Wd) (c : Int) (ca9 : Int) (n : Nat) (f : Int) (m : Int) (M : zM) (Q : Int → zM → Prop) (X : zM → Prop) : Prop :=
  zm_X0_reverse l s0 G ca (d - 1) C S c f m M (fun r3 M3 => zm_X0_reverse l s0 G ca (d - 1) C S c m (M3 c 1) M3 (fun r12 M12 => zm_X0_reverse l s0 G ca (d - 1) C S c f (M12 c 1) M12 (fun r21 M21 => Q 0 M21) X) X) X
set_option maxRecDepth 100000 in
theorem z_X0_rotate {l : Launch} {s0 : State} {a0 : Array Value} {G : va_G} {ca : Nat → ClassId} (Γ : rt_Γ l s0 a0 G ca) {d : Nat} {C : Nat × Nat} {S : zS} (hd : 1 ≤ d) (hok : zok C) {c : Int} {ca9 : Int} {n : Nat} (hc : zCe S c ca9 n) {f : Int} {m : Int} {M : zM} {Q : Int → zM → Prop} {X : zM → Prop} (h : zt_X0_rotate l s0 G ca d C S (zw s0 ca C S M) c ca9 n f m M Q X) : zm_X0_rotate l s0 G ca d C S c f m M Q X := by
  refine z_met (lv := [(0, zv s0 2 c), (1, zv s0 0 f), (2, zv s0 0 m)]) Γ kk_X0_rotate rfl (show (lg_sl [zv s0 2 c, zv s0 0 f, zv s0 0 m]).length ≤ 3 from by simp only [zn_0, zn_2, show (lg_sl []).length = 0 from rfl]; omega) (show lv_args 0 [zv s0 2 c, zv s0 0 f, zv s0 0 m] = [(0, zv s0 2 c), (1, zv s0 0 f), (2, zv s0 0 m)] from by rw [zl_2, zl_0, zl_0]; rfl) ?_
  unfold zt_X0_rotate at h
  refine z_aload_n dX0_rotate_0 rfl (j := 0) rfl ?_
  refine z_iload_n dX0_rotate_1 rfl (j := 1) rfl ?_
  refine z_iload_n dX0_rotate_2 rfl (j := 2) rfl ?_
  refine z_callV Γ kk_X0_reverse kc_RX0_31 (As := [zv s0 0 f, zv s0 0 m]) h (by omega) (by decide) (show (parseMethodDescriptor yX0_reverse.desc).map (fun q => q.parameters.length) = some 2 by decide +kernel) hok (Nat.zero_le _) dX0_rotate_3 (hc : zCe S c ca9 n).1 (hc : zCe S c ca9 n).2.2.2.1 rfl rfl (fun _ h9 => nomatch h9) ?_
  clear h
  intro r3 M3 h
  show rt_Go _ _ _ _ _ _ _ _ _ _ _ _ 6 [(0, zv s0 2 c), (1, zv s0 0 f), (2, zv s0 0 m)] [] (zw s0 ca C S M3)
  refine z_aload_n dX0_rotate_6 rfl (j := 0) rfl ?_
  refine z_iload_n dX0_rotate_7 rfl (j := 2) rfl ?_
  refine z_aload_n dX0_rotate_8 rfl (j := 0) rfl ?_
  refine z_get Γ kf_RX0_15 dX0_rotate_9 hc.1 hc.2.2.2.1 rfl (by decide) (v9 := M3 c 1) rfl ?_
  refine z_callV Γ kk_X0_reverse kc_RX0_31 (As := [zv s0 0 m, zv s0 0 (M3 c 1)]) h (by omega) (by decide) (show (parseMethodDescriptor yX0_reverse.desc).map (fun q => q.parameters.length) = some 2 by decide +kernel) hok (Nat.zero_le _) dX0_rotate_12 (hc : zCe S c ca9 n).1 (hc : zCe S c ca9 n).2.2.2.1 rfl rfl (fun _ h9 => nomatch h9) ?_
  clear h
  intro r12 M12 h
  show rt_Go _ _ _ _ _ _ _ _ _ _ _ _ 15 [(0, zv s0 2 c), (1, zv s0 0 f), (2, zv s0 0 m)] [] (zw s0 ca C S M12)
  refine z_aload_n dX0_rotate_15 rfl (j := 0) rfl ?_
  refine z_iload_n dX0_rotate_16 rfl (j := 1) rfl ?_
  refine z_aload_n dX0_rotate_17 rfl (j := 0) rfl ?_
  refine z_get Γ kf_RX0_15 dX0_rotate_18 hc.1 hc.2.2.2.1 rfl (by decide) (v9 := M12 c 1) rfl ?_
  refine z_callV Γ kk_X0_reverse kc_RX0_31 (As := [zv s0 0 f, zv s0 0 (M12 c 1)]) h (by omega) (by decide) (show (parseMethodDescriptor yX0_reverse.desc).map (fun q => q.parameters.length) = some 2 by decide +kernel) hok (Nat.zero_le _) dX0_rotate_21 (hc : zCe S c ca9 n).1 (hc : zCe S c ca9 n).2.2.2.1 rfl rfl (fun _ h9 => nomatch h9) ?_
  clear h
  intro r21 M21 h
  show rt_Go _ _ _ _ _ _ _ _ _ _ _ _ 24 [(0, zv s0 2 c), (1, zv s0 0 f), (2, zv s0 0 m)] [] (zw s0 ca C S M21)
  exact z_vret dX0_rotate_24 rfl h

