/-! ===== Cells: a row of numbers with a count ===== -/
/-- at p a Cells object, at p + 1 its row of n numbers f; u: the count -/
def rt_C (s0 : State) (ca : Nat → ClassId) (w : rt_Wd) (p n : Nat) (f : Nat → Int32) (u : Int32) : Prop := w.2.2 p = some (.inr (0, [rt_r s0 (p + 1), .int u])) ∧ w.2.2 (p + 1) = some (.inl (ca 0, n, .inl f))
def rt_cs (s0 : State) (ca : Nat → ClassId) (w : rt_Wd) (p n : Nat) (f : Nat → Int32) (u : Int32) : rt_Wd := rt_up (rt_up w (p + 1) (.inl (ca 0, n, .inl f))) p (.inr (0, [rt_r s0 (p + 1), .int u]))
theorem rt_cs_C (s0 : State) (ca : Nat → ClassId) (w : rt_Wd) (p n : Nat) (f : Nat → Int32) (u : Int32) : rt_C s0 ca (rt_cs s0 ca w p n f u) p n f u := by
  refine ⟨rt_up_s _ _ _, ?_⟩
  show (rt_up _ p _).2.2 (p + 1) = _
  rw [rt_up_n (by omega), rt_up_s]
theorem rt_cs_n {s0 : State} {ca : Nat → ClassId} {w : rt_Wd} {p n : Nat} {f : Nat → Int32} {u : Int32} {q : Nat} (h1 : q ≠ p) (h2 : q ≠ p + 1) : (rt_cs s0 ca w p n f u).2.2 q = w.2.2 q := by
  show (rt_up _ p _).2.2 q = _
  rw [rt_up_n h1, rt_up_n h2]
theorem rt_cs_id {s0 : State} {ca : Nat → ClassId} {w : rt_Wd} {p n : Nat} {f : Nat → Int32} {u : Int32} (h : rt_C s0 ca w p n f u) : rt_cs s0 ca w p n f u = w := by
  rw [rt_cs, rt_up_id h.2, rt_up_id h.1]
theorem rt_cs_cs (s0 : State) (ca : Nat → ClassId) (w : rt_Wd) (p n n' : Nat) (f f' : Nat → Int32) (u u' : Int32) : rt_cs s0 ca (rt_cs s0 ca w p n f u) p n' f' u' = rt_cs s0 ca w p n' f' u' := by
  unfold rt_cs
  rw [rt_up_comm (i := p) (j := p + 1) (by omega), rt_up_up, rt_up_up]
theorem rt_C.row {s0 : State} {ca : Nat → ClassId} {w : rt_Wd} {p n : Nat} {f : Nat → Int32} {u : Int32} (h : rt_C s0 ca w p n f u) (f' : Nat → Int32) : rt_up w (p + 1) (.inl (ca 0, n, .inl f')) = rt_cs s0 ca w p n f' u := by
  unfold rt_cs
  rw [rt_up_id (w := rt_up w (p + 1) (.inl (ca 0, n, .inl f'))) (by rw [rt_up_n (by omega)]; exact h.1)]
theorem rt_C.cnt {s0 : State} {ca : Nat → ClassId} {w : rt_Wd} {p n : Nat} {f : Nat → Int32} {u : Int32} (h : rt_C s0 ca w p n f u) (u' : Int32) : rt_up w p (.inr (0, [rt_r s0 (p + 1), .int u'])) = rt_cs s0 ca w p n f u' := by
  unfold rt_cs
  rw [rt_up_id h.2]
theorem vp_in_of' {x : Int32} {n : Nat} (hn : n < 2 ^ 31) (h1 : ¬ x < 0) (h2 : ¬ nI n ≤ x) : vp_in x n := by
  rcases pk_ix x hn with h | h | ⟨j, hj, rfl⟩
  · exact absurd h h1
  · exact absurd h h2
  · exact vp_in_nI hj hn
def cl_at (n : Nat) (f : Nat → Int32) (x : Int32) : Int32 := if x < 0 then 0 else if nI n ≤ x then 0 else f x.toNatClampNeg
def cl_peek (n : Nat) (f : Nat → Int32) (u x : Int32) : Int32 := if x < 0 then -1 else if u ≤ x then -1 else if nI n ≤ x then -1 else f x.toNatClampNeg
def cl_put (n : Nat) (f : Nat → Int32) (x v : Int32) : Nat → Int32 := if x < 0 then f else if nI n ≤ x then f else upd f x.toNatClampNeg v
def cl_cut (n : Nat) (u x : Int32) : Int32 := if x < 0 then u else if nI n < x then u else x

theorem c_X0_count {l : Launch} {s0 : State} {a0 : Array Value} {G : va_G} {ca : Nat → ClassId} (Γ : rt_Γ l s0 a0 G ca) {d : Nat} {w : rt_Wd} {p n : Nat} {f : Nat → Int32} {u : Int32} (hC : rt_C s0 ca w p n f u) : rt_Met l s0 G (.code yX0_count cX0_count 1 (Option.some FieldType.int)) yX0_count d [rt_r s0 p] w (rt_is (.inl (some (.int u))) w) := by
  refine rt_met Γ kk_X0_count rfl (Nat.le_of_ble_eq_true rfl) rfl ?_
  refine rt_aload_n dX0_count_0 rfl (j := 0) rfl ?_
  refine rt_get Γ kf_RX0_15 dX0_count_1 hC.1 rfl ?_
  exact rt_iret dX0_count_4 rfl (⟨rfl, rfl⟩)
theorem c_X0_at {l : Launch} {s0 : State} {a0 : Array Value} {G : va_G} {ca : Nat → ClassId} (Γ : rt_Γ l s0 a0 G ca) {d : Nat} {w : rt_Wd} {p n : Nat} {f : Nat → Int32} {u : Int32} (hC : rt_C s0 ca w p n f u) {x : Int32} (hn : n < 2 ^ 31) : rt_Met l s0 G (.code yX0_at cX0_at 2 (Option.some FieldType.int)) yX0_at d [rt_r s0 p, .int x] w (rt_is (.inl (some (.int (cl_at n f x)))) w) := by
  refine rt_met Γ kk_X0_at rfl (Nat.le_of_ble_eq_true rfl) rfl ?_
  refine rt_iload_n dX0_at_0 rfl (j := 1) rfl ?_
  refine rt_if_lt (tgt := 22) dX0_at_1 (by decide) (fun c1 => ?_) (fun c1 => ?_)
  · refine rt_iconst (v := 0) dX0_at_22 (by decide) ?_
    exact rt_iret dX0_at_23 rfl (⟨by rw [cl_at, if_pos c1], rfl⟩)
  · refine rt_iload_n dX0_at_4 rfl (j := 1) rfl ?_
    refine rt_aload_n dX0_at_5 rfl (j := 0) rfl ?_
    refine rt_get Γ kf_RX0_9 dX0_at_6 hC.1 rfl ?_
    refine rt_alen Γ dX0_at_9 (t := 0) rfl hC.2 (v := nI n) rfl ?_
    refine rt_icmp_ge (tgt := 22) dX0_at_10 (by decide) (fun c10 => ?_) (fun c10 => ?_)
    · refine rt_iconst (v := 0) dX0_at_22 (by decide) ?_
      exact rt_iret dX0_at_23 rfl (⟨by rw [cl_at, if_neg c1, if_pos c10], rfl⟩)
    · refine rt_aload_n dX0_at_13 rfl (j := 0) rfl ?_
      refine rt_get Γ kf_RX0_9 dX0_at_14 hC.1 rfl ?_
      refine rt_iload_n dX0_at_17 rfl (j := 1) rfl ?_
      refine rt_iald Γ dX0_at_18 hC.2 (vp_in_of' hn c1 c10) ?_
      refine rt_goto (tgt := 23) dX0_at_19 (by decide) ?_
      exact rt_iret dX0_at_23 rfl (⟨by rw [cl_at, if_neg c1, if_neg c10], rfl⟩)
theorem c_X0_peek {l : Launch} {s0 : State} {a0 : Array Value} {G : va_G} {ca : Nat → ClassId} (Γ : rt_Γ l s0 a0 G ca) {d : Nat} {w : rt_Wd} {p n : Nat} {f : Nat → Int32} {u : Int32} (hC : rt_C s0 ca w p n f u) {x : Int32} (hn : n < 2 ^ 31) : rt_Met l s0 G (.code yX0_peek cX0_peek 2 (Option.some FieldType.int)) yX0_peek d [rt_r s0 p, .int x] w (rt_is (.inl (some (.int (cl_peek n f u x)))) w) := by
  refine rt_met Γ kk_X0_peek rfl (Nat.le_of_ble_eq_true rfl) rfl ?_
  refine rt_iload_n dX0_peek_0 rfl (j := 1) rfl ?_
  refine rt_if_lt (tgt := 30) dX0_peek_1 (by decide) (fun c1 => ?_) (fun c1 => ?_)
  · refine rt_iconst (v := (-1)) dX0_peek_30 (by decide) ?_
    exact rt_iret dX0_peek_31 rfl (⟨by rw [cl_peek, if_pos c1], rfl⟩)
  · refine rt_iload_n dX0_peek_4 rfl (j := 1) rfl ?_
    refine rt_aload_n dX0_peek_5 rfl (j := 0) rfl ?_
    refine rt_get Γ kf_RX0_15 dX0_peek_6 hC.1 rfl ?_
    refine rt_icmp_ge (tgt := 30) dX0_peek_9 (by decide) (fun c9 => ?_) (fun c9 => ?_)
    · refine rt_iconst (v := (-1)) dX0_peek_30 (by decide) ?_
      exact rt_iret dX0_peek_31 rfl (⟨by rw [cl_peek, if_neg c1, if_pos c9], rfl⟩)
    · refine rt_iload_n dX0_peek_12 rfl (j := 1) rfl ?_
      refine rt_aload_n dX0_peek_13 rfl (j := 0) rfl ?_
      refine rt_get Γ kf_RX0_9 dX0_peek_14 hC.1 rfl ?_
      refine rt_alen Γ dX0_peek_17 (t := 0) rfl hC.2 (v := nI n) rfl ?_
      refine rt_icmp_ge (tgt := 30) dX0_peek_18 (by decide) (fun c18 => ?_) (fun c18 => ?_)
      · refine rt_iconst (v := (-1)) dX0_peek_30 (by decide) ?_
        exact rt_iret dX0_peek_31 rfl (⟨by rw [cl_peek, if_neg c1, if_neg c9, if_pos c18], rfl⟩)
      · refine rt_aload_n dX0_peek_21 rfl (j := 0) rfl ?_
        refine rt_get Γ kf_RX0_9 dX0_peek_22 hC.1 rfl ?_
        refine rt_iload_n dX0_peek_25 rfl (j := 1) rfl ?_
        refine rt_iald Γ dX0_peek_26 hC.2 (vp_in_of' hn c1 c18) ?_
        refine rt_goto (tgt := 31) dX0_peek_27 (by decide) ?_
        exact rt_iret dX0_peek_31 rfl (⟨by rw [cl_peek, if_neg c1, if_neg c9, if_neg c18], rfl⟩)
theorem c_X0_put {l : Launch} {s0 : State} {a0 : Array Value} {G : va_G} {ca : Nat → ClassId} (Γ : rt_Γ l s0 a0 G ca) {d : Nat} {w : rt_Wd} {p n : Nat} {f : Nat → Int32} {u : Int32} (hC : rt_C s0 ca w p n f u) {x v : Int32} (hn : n < 2 ^ 31) : rt_Met l s0 G (.code yX0_put cX0_put 3 (Option.none : Option FieldType)) yX0_put d [rt_r s0 p, .int x, .int v] w (rt_is (.inl none) (rt_cs s0 ca w p n (cl_put n f x v) u)) := by
  refine rt_met Γ kk_X0_put rfl (Nat.le_of_ble_eq_true rfl) rfl ?_
  refine rt_iload_n dX0_put_0 rfl (j := 1) rfl ?_
  refine rt_if_lt (tgt := 20) dX0_put_1 (by decide) (fun c1 => ?_) (fun c1 => ?_)
  · exact rt_vret dX0_put_20 rfl (⟨rfl, by rw [cl_put, if_pos c1, rt_cs_id hC]⟩)
  · refine rt_iload_n dX0_put_4 rfl (j := 1) rfl ?_
    refine rt_aload_n dX0_put_5 rfl (j := 0) rfl ?_
    refine rt_get Γ kf_RX0_9 dX0_put_6 hC.1 rfl ?_
    refine rt_alen Γ dX0_put_9 (t := 0) rfl hC.2 (v := nI n) rfl ?_
    refine rt_icmp_ge (tgt := 20) dX0_put_10 (by decide) (fun c10 => ?_) (fun c10 => ?_)
    · exact rt_vret dX0_put_20 rfl (⟨rfl, by rw [cl_put, if_neg c1, if_pos c10, rt_cs_id hC]⟩)
    · refine rt_aload_n dX0_put_13 rfl (j := 0) rfl ?_
      refine rt_get Γ kf_RX0_9 dX0_put_14 hC.1 rfl ?_
      refine rt_iload_n dX0_put_17 rfl (j := 1) rfl ?_
      refine rt_iload_n dX0_put_18 rfl (j := 2) rfl ?_
      refine rt_iast Γ dX0_put_19 hC.2 (vp_in_of' hn c1 c10) ?_
      exact rt_vret dX0_put_20 rfl (⟨rfl, by rw [cl_put, if_neg c1, if_neg c10, hC.row]⟩)
theorem c_X0_cut {l : Launch} {s0 : State} {a0 : Array Value} {G : va_G} {ca : Nat → ClassId} (Γ : rt_Γ l s0 a0 G ca) {d : Nat} {w : rt_Wd} {p n : Nat} {f : Nat → Int32} {u : Int32} (hC : rt_C s0 ca w p n f u) {x : Int32} : rt_Met l s0 G (.code yX0_cut cX0_cut 2 (Option.none : Option FieldType)) yX0_cut d [rt_r s0 p, .int x] w (rt_is (.inl none) (rt_cs s0 ca w p n f (cl_cut n u x))) := by
  refine rt_met Γ kk_X0_cut rfl (Nat.le_of_ble_eq_true rfl) rfl ?_
  refine rt_iload_n dX0_cut_0 rfl (j := 1) rfl ?_
  refine rt_if_lt (tgt := 18) dX0_cut_1 (by decide) (fun c1 => ?_) (fun c1 => ?_)
  · exact rt_vret dX0_cut_18 rfl (⟨rfl, by rw [cl_cut, if_pos c1, rt_cs_id hC]⟩)
  · refine rt_iload_n dX0_cut_4 rfl (j := 1) rfl ?_
    refine rt_aload_n dX0_cut_5 rfl (j := 0) rfl ?_
    refine rt_get Γ kf_RX0_9 dX0_cut_6 hC.1 rfl ?_
    refine rt_alen Γ dX0_cut_9 (t := 0) rfl hC.2 (v := nI n) rfl ?_
    refine rt_icmp_gt (tgt := 18) dX0_cut_10 (by decide) (fun c10 => ?_) (fun c10 => ?_)
    · exact rt_vret dX0_cut_18 rfl (⟨rfl, by rw [cl_cut, if_neg c1, if_pos c10, rt_cs_id hC]⟩)
    · refine rt_aload_n dX0_cut_13 rfl (j := 0) rfl ?_
      refine rt_iload_n dX0_cut_14 rfl (j := 1) rfl ?_
      refine rt_put Γ kp_RX0_15 dX0_cut_15 hC.1 (Nat.le_of_ble_eq_true rfl) rfl rfl (fs' := [rt_r s0 (p + 1), .int x]) rfl ?_
      exact rt_vret dX0_cut_18 rfl (⟨rfl, by rw [cl_cut, if_neg c1, if_neg c10, hC.cnt]⟩)
theorem c_X0_add {l : Launch} {s0 : State} {a0 : Array Value} {G : va_G} {ca : Nat → ClassId} (Γ : rt_Γ l s0 a0 G ca) {d : Nat} {w : rt_Wd} {p n k : Nat} {f : Nat → Int32} (hC : rt_C s0 ca w p n f (nI k)) {v : Int32} (hn : n < 2 ^ 31) (hk : k < n) : rt_Met l s0 G (.code yX0_add cX0_add 2 (Option.some FieldType.boolean)) yX0_add d [rt_r s0 p, .int v] w (rt_is (.inl (some (.int 1))) (rt_cs s0 ca w p n (upd f k v) (nI (k + 1)))) := by
  refine rt_met Γ kk_X0_add rfl (Nat.le_of_ble_eq_true rfl) rfl ?_
  refine rt_aload_n dX0_add_0 rfl (j := 0) rfl ?_
  refine rt_get Γ kf_RX0_15 dX0_add_1 hC.1 rfl ?_
  refine rt_if_lt (tgt := 19) dX0_add_4 (by decide) (fun c4 => absurd c4 (nI_pos (by omega))) (fun _ => ?_)
  refine rt_aload_n dX0_add_7 rfl (j := 0) rfl ?_
  refine rt_get Γ kf_RX0_15 dX0_add_8 hC.1 rfl ?_
  refine rt_aload_n dX0_add_11 rfl (j := 0) rfl ?_
  refine rt_get Γ kf_RX0_9 dX0_add_12 hC.1 rfl ?_
  refine rt_alen Γ dX0_add_15 (t := 0) rfl hC.2 (v := nI n) rfl ?_
  refine rt_icmp_lt (tgt := 21) dX0_add_16 (by decide) (fun _ => ?_) (fun c16 => absurd (nI_lt hk hn) c16)
  refine rt_aload_n dX0_add_21 rfl (j := 0) rfl ?_
  refine rt_get Γ kf_RX0_9 dX0_add_22 hC.1 rfl ?_
  refine rt_aload_n dX0_add_25 rfl (j := 0) rfl ?_
  refine rt_get Γ kf_RX0_15 dX0_add_26 hC.1 rfl ?_
  refine rt_iload_n dX0_add_29 rfl (j := 1) rfl ?_
  refine rt_iast Γ dX0_add_30 hC.2 (vp_in_nI hk hn) ?_
  rw [nI_clamp (by omega), hC.row]
  have hC2 := rt_cs_C s0 ca w p n (upd f k v) (nI k)
  refine rt_aload_n dX0_add_31 rfl (j := 0) rfl ?_
  refine rt_dup dX0_add_32 rfl ?_
  refine rt_get Γ kf_RX0_15 dX0_add_33 hC2.1 rfl ?_
  refine rt_iconst (v := 1) dX0_add_36 (by decide) ?_
  refine rt_iadd dX0_add_37 ?_
  rw [nI_1]
  refine rt_put Γ kp_RX0_15 dX0_add_38 hC2.1 (Nat.le_of_ble_eq_true rfl) rfl rfl (fs' := [rt_r s0 (p + 1), .int (nI (k + 1))]) rfl ?_
  rw [hC2.cnt, rt_cs_cs]
  refine rt_iconst (v := 1) dX0_add_41 (by decide) ?_
  exact rt_zret dX0_add_42 rfl rfl (⟨rfl, rfl⟩)
theorem c_X0_addF {l : Launch} {s0 : State} {a0 : Array Value} {G : va_G} {ca : Nat → ClassId} (Γ : rt_Γ l s0 a0 G ca) {d : Nat} {w : rt_Wd} {p n k : Nat} {f : Nat → Int32} (hC : rt_C s0 ca w p n f (nI k)) {v : Int32} (hn : n < 2 ^ 31) (hk : n ≤ k) (hk2 : k < 2 ^ 31) : rt_Met l s0 G (.code yX0_add cX0_add 2 (Option.some FieldType.boolean)) yX0_add d [rt_r s0 p, .int v] w (rt_is (.inl (some (.int 0))) w) := by
  refine rt_met Γ kk_X0_add rfl (Nat.le_of_ble_eq_true rfl) rfl ?_
  refine rt_aload_n dX0_add_0 rfl (j := 0) rfl ?_
  refine rt_get Γ kf_RX0_15 dX0_add_1 hC.1 rfl ?_
  refine rt_if_lt (tgt := 19) dX0_add_4 (by decide) (fun c4 => absurd c4 (nI_pos (by omega))) (fun _ => ?_)
  refine rt_aload_n dX0_add_7 rfl (j := 0) rfl ?_
  refine rt_get Γ kf_RX0_15 dX0_add_8 hC.1 rfl ?_
  refine rt_aload_n dX0_add_11 rfl (j := 0) rfl ?_
  refine rt_get Γ kf_RX0_9 dX0_add_12 hC.1 rfl ?_
  refine rt_alen Γ dX0_add_15 (t := 0) rfl hC.2 (v := nI n) rfl ?_
  refine rt_icmp_lt (tgt := 21) dX0_add_16 (by decide) (fun c16 => absurd c16 (nI_nlt hk (by omega))) (fun _ => ?_)
  refine rt_iconst (v := 0) dX0_add_19 (by decide) ?_
  exact rt_zret dX0_add_20 rfl rfl (⟨rfl, rfl⟩)
