/-! ===== the reference's small methods ===== -/
def rt_u2 (w : rt_Wd) (i : Nat) (a : va_E) (j : Nat) (o : va_E) : rt_Wd := rt_up (rt_up w i a) j o
theorem rt_u2_i {w : rt_Wd} {i j : Nat} {a o : va_E} (h : i ≠ j) : (rt_u2 w i a j o).2.2 i = some a := by
  unfold rt_u2; rw [rt_up_n h, rt_up_s]
theorem rt_u2_j {w : rt_Wd} {i j : Nat} {a o : va_E} : (rt_u2 w i a j o).2.2 j = some o := rt_up_s _ _ _
theorem rt_u2_n {w : rt_Wd} {i j q : Nat} {a o : va_E} (h1 : q ≠ i) (h2 : q ≠ j) : (rt_u2 w i a j o).2.2 q = w.2.2 q := by
  unfold rt_u2; rw [rt_up_n h2, rt_up_n h1]
theorem rt_u2_u2 {w : rt_Wd} {i j : Nat} {a a' o o' : va_E} (h : i ≠ j) : rt_u2 (rt_u2 w i a j o) i a' j o' = rt_u2 w i a' j o' := by
  unfold rt_u2
  rw [rt_up_comm (i := j) (j := i) (Ne.symm h), rt_up_up, rt_up_up]
theorem rt_u2_id {w : rt_Wd} {i j : Nat} {a o : va_E} (h : w.2.2 i = some a) (h2 : w.2.2 j = some o) : rt_u2 w i a j o = w := by
  unfold rt_u2
  rw [rt_up_id h, rt_up_id h2]
def cm_b (x s : Int32) : Int32 := (x >>> (s &&& 31)).toInt8.toInt32
def cm_f4 (f : Nat → Int32) (k : Nat) (x : Int32) : Nat → Int32 := upd (upd (upd (upd f k (cm_b x 24)) (k + 1) (cm_b x 16)) (k + 2) (cm_b x 8)) (k + 3) (cm_b x 0)
def cm_f20 (f : Nat → Int32) (k : Nat) (a b c d e : Int32) : Nat → Int32 := cm_f4 (cm_f4 (cm_f4 (cm_f4 (cm_f4 f k a) (k + 4) b) (k + 8) c) (k + 12) d) (k + 16) e
theorem vp_in7 {p : Int32} (h0 : ¬ p < 0) (h1 : ¬ 7 < p) : vp_in p 8 := vp_in_iff.mpr ⟨by rw [Int32.lt_iff_toInt_lt] at h0; exact Int.not_lt.mp h0, by rw [Int32.lt_iff_toInt_lt] at h1; have := Int.not_lt.mp h1; exact Int.lt_of_le_of_lt this (by decide)⟩
set_option maxRecDepth 100000 in
theorem c_X11_thrown {l : Launch} {s0 : State} {a0 : Array Value} {G : va_G} {ca : Nat → ClassId} (Γ : rt_Γ l s0 a0 G ca) {d : Nat} {w : rt_Wd} {m tp lf rt kp sz dk ou md ak pr : Nat} {th td pl ow rw rb os ms at_ fa wh it da mn fr sp : Int32} (hM : w.2.2 m = some (.inr (11, [.int th, rt_r s0 tp, .int td, .int pl, rt_r s0 lf, rt_r s0 rt, rt_r s0 kp, rt_r s0 sz, rt_r s0 dk, .int ow, .int rw, .int rb, rt_r s0 ou, .int os, rt_r s0 md, .int ms, .int at_, .int fa, .int wh, .int it, .int da, rt_r s0 ak, rt_r s0 pr, .int mn, .int fr, .int sp]))) : rt_Met l s0 G (.code yX11_thrown cX11_thrown 1 (Option.some FieldType.int)) yX11_thrown d [rt_r s0 m] w (rt_is (.inl (some (.int th))) w) := by
  refine rt_met Γ kk_X11_thrown rfl (Nat.le_of_ble_eq_true rfl) rfl ?_
  refine rt_aload_n dX11_thrown_0 rfl (j := 0) rfl ?_
  refine rt_get Γ kf_RX11_54 dX11_thrown_1 hM rfl ?_
  exact rt_iret dX11_thrown_4 rfl (⟨rfl, rfl⟩)
set_option maxRecDepth 100000 in
theorem c_X11_within {l : Launch} {s0 : State} {a0 : Array Value} {G : va_G} {ca : Nat → ClassId} (Γ : rt_Γ l s0 a0 G ca) {d : Nat} {w : rt_Wd} {v lo hi : Int32} (h0 : ¬ v < lo) (h1 : ¬ hi < v) : rt_Met l s0 G (.code yX11_within cX11_within 3 (Option.some FieldType.boolean)) yX11_within d [.int v, .int lo, .int hi] w (rt_is (.inl (some (.int 1))) w) := by
  refine rt_met Γ kk_X11_within rfl (Nat.le_of_ble_eq_true rfl) rfl ?_
  refine rt_iload_n dX11_within_0 rfl (j := 0) rfl ?_
  refine rt_iload_n dX11_within_1 rfl (j := 1) rfl ?_
  refine rt_icmp_lt (tgt := 14) dX11_within_2 (by decide) (fun c2 => absurd c2 h0) (fun _ => ?_)
  refine rt_iload_n dX11_within_5 rfl (j := 0) rfl ?_
  refine rt_iload_n dX11_within_6 rfl (j := 2) rfl ?_
  refine rt_icmp_gt (tgt := 14) dX11_within_7 (by decide) (fun c7 => absurd c7 h1) (fun _ => ?_)
  refine rt_iconst (v := 1) dX11_within_10 (by decide) ?_
  refine rt_goto (tgt := 15) dX11_within_11 (by decide) ?_
  exact rt_zret dX11_within_15 rfl rfl (⟨rfl, rfl⟩)
set_option maxRecDepth 100000 in
theorem c_X11_withinT {l : Launch} {s0 : State} {a0 : Array Value} {G : va_G} {ca : Nat → ClassId} (Γ : rt_Γ l s0 a0 G ca) {d : Nat} {w : rt_Wd} {v lo hi : Int32} (h0 : v < lo) : rt_Met l s0 G (.code yX11_within cX11_within 3 (Option.some FieldType.boolean)) yX11_within d [.int v, .int lo, .int hi] w (rt_is (.inl (some (.int 0))) w) := by
  refine rt_met Γ kk_X11_within rfl (Nat.le_of_ble_eq_true rfl) rfl ?_
  refine rt_iload_n dX11_within_0 rfl (j := 0) rfl ?_
  refine rt_iload_n dX11_within_1 rfl (j := 1) rfl ?_
  refine rt_icmp_lt (tgt := 14) dX11_within_2 (by decide) (fun _ => ?_) (fun c2 => absurd h0 c2)
  refine rt_iconst (v := 0) dX11_within_14 (by decide) ?_
  exact rt_zret dX11_within_15 rfl rfl (⟨rfl, rfl⟩)
set_option maxRecDepth 100000 in
theorem c_X11_withinU {l : Launch} {s0 : State} {a0 : Array Value} {G : va_G} {ca : Nat → ClassId} (Γ : rt_Γ l s0 a0 G ca) {d : Nat} {w : rt_Wd} {v lo hi : Int32} (h0 : ¬ v < lo) (h1 : hi < v) : rt_Met l s0 G (.code yX11_within cX11_within 3 (Option.some FieldType.boolean)) yX11_within d [.int v, .int lo, .int hi] w (rt_is (.inl (some (.int 0))) w) := by
  refine rt_met Γ kk_X11_within rfl (Nat.le_of_ble_eq_true rfl) rfl ?_
  refine rt_iload_n dX11_within_0 rfl (j := 0) rfl ?_
  refine rt_iload_n dX11_within_1 rfl (j := 1) rfl ?_
  refine rt_icmp_lt (tgt := 14) dX11_within_2 (by decide) (fun c2 => absurd c2 h0) (fun _ => ?_)
  refine rt_iload_n dX11_within_5 rfl (j := 0) rfl ?_
  refine rt_iload_n dX11_within_6 rfl (j := 2) rfl ?_
  refine rt_icmp_gt (tgt := 14) dX11_within_7 (by decide) (fun _ => ?_) (fun c7 => absurd h1 c7)
  refine rt_iconst (v := 0) dX11_within_14 (by decide) ?_
  exact rt_zret dX11_within_15 rfl rfl (⟨rfl, rfl⟩)
set_option maxRecDepth 100000 in
theorem c_X11_isPlace {l : Launch} {s0 : State} {a0 : Array Value} {G : va_G} {ca : Nat → ClassId} (Γ : rt_Γ l s0 a0 G ca) {d : Nat} {w : rt_Wd} (hd : 1 ≤ d) (hok : rt_ok w) {p : Int32} (h0 : ¬ p < 0) (h1 : ¬ 7 < p) : rt_Met l s0 G (.code yX11_isPlace cX11_isPlace 1 (Option.some FieldType.boolean)) yX11_isPlace d [.int p] w (rt_is (.inl (some (.int 1))) w) := by
  refine rt_met Γ kk_X11_isPlace rfl (Nat.le_of_ble_eq_true rfl) rfl ?_
  refine rt_iload_n dX11_isPlace_0 rfl (j := 0) rfl ?_
  refine rt_iconst (v := 0) dX11_isPlace_1 (by decide) ?_
  refine rt_bipush (v := 7) dX11_isPlace_2 (by decide) ?_
  refine rt_callS Γ kk_X11_within kc_RX11_68 (c_X11_within Γ (d := d - 1) h0 h1) (by omega) (by decide) (As := [.int p, .int 0, .int 7]) (show (parseMethodDescriptor yX11_within.desc).map (fun q => q.parameters.length) = some 3 by decide +kernel) hok (Nat.le_of_ble_eq_true rfl) dX11_isPlace_4 rfl rfl (rt_kr (st2 := [.int 1]) rfl ?_) rt_kx
  exact rt_zret dX11_isPlace_7 rfl rfl (⟨rfl, rfl⟩)
set_option maxRecDepth 100000 in
theorem c_X11_isPlaceT {l : Launch} {s0 : State} {a0 : Array Value} {G : va_G} {ca : Nat → ClassId} (Γ : rt_Γ l s0 a0 G ca) {d : Nat} {w : rt_Wd} (hd : 1 ≤ d) (hok : rt_ok w) {p : Int32} (h0 : p < 0) : rt_Met l s0 G (.code yX11_isPlace cX11_isPlace 1 (Option.some FieldType.boolean)) yX11_isPlace d [.int p] w (rt_is (.inl (some (.int 0))) w) := by
  refine rt_met Γ kk_X11_isPlace rfl (Nat.le_of_ble_eq_true rfl) rfl ?_
  refine rt_iload_n dX11_isPlace_0 rfl (j := 0) rfl ?_
  refine rt_iconst (v := 0) dX11_isPlace_1 (by decide) ?_
  refine rt_bipush (v := 7) dX11_isPlace_2 (by decide) ?_
  refine rt_callS Γ kk_X11_within kc_RX11_68 (c_X11_withinT Γ (d := d - 1) h0) (by omega) (by decide) (As := [.int p, .int 0, .int 7]) (show (parseMethodDescriptor yX11_within.desc).map (fun q => q.parameters.length) = some 3 by decide +kernel) hok (Nat.le_of_ble_eq_true rfl) dX11_isPlace_4 rfl rfl (rt_kr (st2 := [.int 0]) rfl ?_) rt_kx
  exact rt_zret dX11_isPlace_7 rfl rfl (⟨rfl, rfl⟩)
set_option maxRecDepth 100000 in
theorem c_X11_isPlaceU {l : Launch} {s0 : State} {a0 : Array Value} {G : va_G} {ca : Nat → ClassId} (Γ : rt_Γ l s0 a0 G ca) {d : Nat} {w : rt_Wd} (hd : 1 ≤ d) (hok : rt_ok w) {p : Int32} (h0 : ¬ p < 0) (h1 : 7 < p) : rt_Met l s0 G (.code yX11_isPlace cX11_isPlace 1 (Option.some FieldType.boolean)) yX11_isPlace d [.int p] w (rt_is (.inl (some (.int 0))) w) := by
  refine rt_met Γ kk_X11_isPlace rfl (Nat.le_of_ble_eq_true rfl) rfl ?_
  refine rt_iload_n dX11_isPlace_0 rfl (j := 0) rfl ?_
  refine rt_iconst (v := 0) dX11_isPlace_1 (by decide) ?_
  refine rt_bipush (v := 7) dX11_isPlace_2 (by decide) ?_
  refine rt_callS Γ kk_X11_within kc_RX11_68 (c_X11_withinU Γ (d := d - 1) h0 h1) (by omega) (by decide) (As := [.int p, .int 0, .int 7]) (show (parseMethodDescriptor yX11_within.desc).map (fun q => q.parameters.length) = some 3 by decide +kernel) hok (Nat.le_of_ble_eq_true rfl) dX11_isPlace_4 rfl rfl (rt_kr (st2 := [.int 0]) rfl ?_) rt_kx
  exact rt_zret dX11_isPlace_7 rfl rfl (⟨rfl, rfl⟩)
set_option maxRecDepth 100000 in
theorem c_X11_refused0 {l : Launch} {s0 : State} {a0 : Array Value} {G : va_G} {ca : Nat → ClassId} (Γ : rt_Γ l s0 a0 G ca) {d : Nat} {w : rt_Wd} {m tp lf rt kp sz dk ou md ak pr : Nat} {th td pl ow rw rb os ms at_ fa wh it da mn fr sp : Int32} (hM : w.2.2 m = some (.inr (11, [.int th, rt_r s0 tp, .int td, .int pl, rt_r s0 lf, rt_r s0 rt, rt_r s0 kp, rt_r s0 sz, rt_r s0 dk, .int ow, .int rw, .int rb, rt_r s0 ou, .int os, rt_r s0 md, .int ms, .int at_, .int fa, .int wh, .int it, .int da, rt_r s0 ak, rt_r s0 pr, .int mn, .int fr, .int sp]))) : rt_Met l s0 G (.code yX11_refused cX11_refused 3 (Option.some FieldType.boolean)) yX11_refused d [rt_r s0 m, .int 0, .int 0] w (rt_is (.inl (some (.int 0))) (rt_up w m (.inr (11, [.int 0, rt_r s0 tp, .int td, .int pl, rt_r s0 lf, rt_r s0 rt, rt_r s0 kp, rt_r s0 sz, rt_r s0 dk, .int ow, .int rw, .int rb, rt_r s0 ou, .int os, rt_r s0 md, .int ms, .int at_, .int fa, .int wh, .int it, .int da, rt_r s0 ak, rt_r s0 pr, .int mn, .int fr, .int sp])))) := by
  refine rt_met Γ kk_X11_refused rfl (Nat.le_of_ble_eq_true rfl) rfl ?_
  refine rt_aload_n dX11_refused_0 rfl (j := 0) rfl ?_
  refine rt_iload_n dX11_refused_1 rfl (j := 1) rfl ?_
  refine rt_if_eq (tgt := 9) dX11_refused_2 (by decide) (fun _ => ?_) (fun c2 => absurd rfl c2)
  refine rt_iload_n dX11_refused_9 rfl (j := 2) rfl ?_
  refine rt_if_eq (tgt := 17) dX11_refused_10 (by decide) (fun _ => ?_) (fun c10 => absurd rfl c10)
  refine rt_iconst (v := 0) dX11_refused_17 (by decide) ?_
  refine rt_put Γ kp_RX11_54 dX11_refused_18 hM (Nat.le_of_ble_eq_true rfl) rfl rfl (fs' := [.int 0, rt_r s0 tp, .int td, .int pl, rt_r s0 lf, rt_r s0 rt, rt_r s0 kp, rt_r s0 sz, rt_r s0 dk, .int ow, .int rw, .int rb, rt_r s0 ou, .int os, rt_r s0 md, .int ms, .int at_, .int fa, .int wh, .int it, .int da, rt_r s0 ak, rt_r s0 pr, .int mn, .int fr, .int sp]) rfl ?_
  have hM1 := rt_up_s w m (.inr (11, [.int 0, rt_r s0 tp, .int td, .int pl, rt_r s0 lf, rt_r s0 rt, rt_r s0 kp, rt_r s0 sz, rt_r s0 dk, .int ow, .int rw, .int rb, rt_r s0 ou, .int os, rt_r s0 md, .int ms, .int at_, .int fa, .int wh, .int it, .int da, rt_r s0 ak, rt_r s0 pr, .int mn, .int fr, .int sp]))
  refine rt_aload_n dX11_refused_21 rfl (j := 0) rfl ?_
  refine rt_get Γ kf_RX11_54 dX11_refused_22 hM1 rfl ?_
  refine rt_if_le (tgt := 32) dX11_refused_25 (by decide) (fun _ => ?_) (fun c25 => absurd (by decide) c25)
  refine rt_iconst (v := 0) dX11_refused_32 (by decide) ?_
  exact rt_zret dX11_refused_33 rfl rfl (⟨rfl, rfl⟩)
set_option maxRecDepth 100000 in
theorem c_X11_refused1 {l : Launch} {s0 : State} {a0 : Array Value} {G : va_G} {ca : Nat → ClassId} (Γ : rt_Γ l s0 a0 G ca) {d : Nat} {w : rt_Wd} {m tp lf rt kp sz dk ou md ak pr : Nat} {th td pl ow rw rb os ms at_ fa wh it da mn fr sp : Int32} (hM : w.2.2 m = some (.inr (11, [.int th, rt_r s0 tp, .int td, .int pl, rt_r s0 lf, rt_r s0 rt, rt_r s0 kp, rt_r s0 sz, rt_r s0 dk, .int ow, .int rw, .int rb, rt_r s0 ou, .int os, rt_r s0 md, .int ms, .int at_, .int fa, .int wh, .int it, .int da, rt_r s0 ak, rt_r s0 pr, .int mn, .int fr, .int sp]))) {b : Int32} : rt_Met l s0 G (.code yX11_refused cX11_refused 3 (Option.some FieldType.boolean)) yX11_refused d [rt_r s0 m, .int 1, .int b] w (rt_is (.inl (some (.int 1))) (rt_up w m (.inr (11, [.int 1, rt_r s0 tp, .int td, .int pl, rt_r s0 lf, rt_r s0 rt, rt_r s0 kp, rt_r s0 sz, rt_r s0 dk, .int ow, .int rw, .int rb, rt_r s0 ou, .int os, rt_r s0 md, .int ms, .int at_, .int fa, .int wh, .int it, .int da, rt_r s0 ak, rt_r s0 pr, .int mn, .int fr, .int sp])))) := by
  refine rt_met Γ kk_X11_refused rfl (Nat.le_of_ble_eq_true rfl) rfl ?_
  refine rt_aload_n dX11_refused_0 rfl (j := 0) rfl ?_
  refine rt_iload_n dX11_refused_1 rfl (j := 1) rfl ?_
  refine rt_if_eq (tgt := 9) dX11_refused_2 (by decide) (fun c2 => absurd c2 (by decide)) (fun _ => ?_)
  refine rt_iconst (v := 1) dX11_refused_5 (by decide) ?_
  refine rt_goto (tgt := 18) dX11_refused_6 (by decide) ?_
  refine rt_put Γ kp_RX11_54 dX11_refused_18 hM (Nat.le_of_ble_eq_true rfl) rfl rfl (fs' := [.int 1, rt_r s0 tp, .int td, .int pl, rt_r s0 lf, rt_r s0 rt, rt_r s0 kp, rt_r s0 sz, rt_r s0 dk, .int ow, .int rw, .int rb, rt_r s0 ou, .int os, rt_r s0 md, .int ms, .int at_, .int fa, .int wh, .int it, .int da, rt_r s0 ak, rt_r s0 pr, .int mn, .int fr, .int sp]) rfl ?_
  have hM1 := rt_up_s w m (.inr (11, [.int 1, rt_r s0 tp, .int td, .int pl, rt_r s0 lf, rt_r s0 rt, rt_r s0 kp, rt_r s0 sz, rt_r s0 dk, .int ow, .int rw, .int rb, rt_r s0 ou, .int os, rt_r s0 md, .int ms, .int at_, .int fa, .int wh, .int it, .int da, rt_r s0 ak, rt_r s0 pr, .int mn, .int fr, .int sp]))
  refine rt_aload_n dX11_refused_21 rfl (j := 0) rfl ?_
  refine rt_get Γ kf_RX11_54 dX11_refused_22 hM1 rfl ?_
  refine rt_if_le (tgt := 32) dX11_refused_25 (by decide) (fun c25 => absurd c25 (by decide)) (fun _ => ?_)
  refine rt_iconst (v := 1) dX11_refused_28 (by decide) ?_
  refine rt_goto (tgt := 33) dX11_refused_29 (by decide) ?_
  exact rt_zret dX11_refused_33 rfl rfl (⟨rfl, rfl⟩)
set_option maxRecDepth 100000 in
theorem c_X11_refused2 {l : Launch} {s0 : State} {a0 : Array Value} {G : va_G} {ca : Nat → ClassId} (Γ : rt_Γ l s0 a0 G ca) {d : Nat} {w : rt_Wd} {m tp lf rt kp sz dk ou md ak pr : Nat} {th td pl ow rw rb os ms at_ fa wh it da mn fr sp : Int32} (hM : w.2.2 m = some (.inr (11, [.int th, rt_r s0 tp, .int td, .int pl, rt_r s0 lf, rt_r s0 rt, rt_r s0 kp, rt_r s0 sz, rt_r s0 dk, .int ow, .int rw, .int rb, rt_r s0 ou, .int os, rt_r s0 md, .int ms, .int at_, .int fa, .int wh, .int it, .int da, rt_r s0 ak, rt_r s0 pr, .int mn, .int fr, .int sp]))) : rt_Met l s0 G (.code yX11_refused cX11_refused 3 (Option.some FieldType.boolean)) yX11_refused d [rt_r s0 m, .int 0, .int 1] w (rt_is (.inl (some (.int 1))) (rt_up w m (.inr (11, [.int 2, rt_r s0 tp, .int td, .int pl, rt_r s0 lf, rt_r s0 rt, rt_r s0 kp, rt_r s0 sz, rt_r s0 dk, .int ow, .int rw, .int rb, rt_r s0 ou, .int os, rt_r s0 md, .int ms, .int at_, .int fa, .int wh, .int it, .int da, rt_r s0 ak, rt_r s0 pr, .int mn, .int fr, .int sp])))) := by
  refine rt_met Γ kk_X11_refused rfl (Nat.le_of_ble_eq_true rfl) rfl ?_
  refine rt_aload_n dX11_refused_0 rfl (j := 0) rfl ?_
  refine rt_iload_n dX11_refused_1 rfl (j := 1) rfl ?_
  refine rt_if_eq (tgt := 9) dX11_refused_2 (by decide) (fun _ => ?_) (fun c2 => absurd rfl c2)
  refine rt_iload_n dX11_refused_9 rfl (j := 2) rfl ?_
  refine rt_if_eq (tgt := 17) dX11_refused_10 (by decide) (fun c10 => absurd c10 (by decide)) (fun _ => ?_)
  refine rt_iconst (v := 2) dX11_refused_13 (by decide) ?_
  refine rt_goto (tgt := 18) dX11_refused_14 (by decide) ?_
  refine rt_put Γ kp_RX11_54 dX11_refused_18 hM (Nat.le_of_ble_eq_true rfl) rfl rfl (fs' := [.int 2, rt_r s0 tp, .int td, .int pl, rt_r s0 lf, rt_r s0 rt, rt_r s0 kp, rt_r s0 sz, rt_r s0 dk, .int ow, .int rw, .int rb, rt_r s0 ou, .int os, rt_r s0 md, .int ms, .int at_, .int fa, .int wh, .int it, .int da, rt_r s0 ak, rt_r s0 pr, .int mn, .int fr, .int sp]) rfl ?_
  have hM1 := rt_up_s w m (.inr (11, [.int 2, rt_r s0 tp, .int td, .int pl, rt_r s0 lf, rt_r s0 rt, rt_r s0 kp, rt_r s0 sz, rt_r s0 dk, .int ow, .int rw, .int rb, rt_r s0 ou, .int os, rt_r s0 md, .int ms, .int at_, .int fa, .int wh, .int it, .int da, rt_r s0 ak, rt_r s0 pr, .int mn, .int fr, .int sp]))
  refine rt_aload_n dX11_refused_21 rfl (j := 0) rfl ?_
  refine rt_get Γ kf_RX11_54 dX11_refused_22 hM1 rfl ?_
  refine rt_if_le (tgt := 32) dX11_refused_25 (by decide) (fun c25 => absurd c25 (by decide)) (fun _ => ?_)
  refine rt_iconst (v := 1) dX11_refused_28 (by decide) ?_
  refine rt_goto (tgt := 33) dX11_refused_29 (by decide) ?_
  exact rt_zret dX11_refused_33 rfl rfl (⟨rfl, rfl⟩)
set_option maxRecDepth 100000 in
theorem c_X11_addInt {l : Launch} {s0 : State} {a0 : Array Value} {G : va_G} {ca : Nat → ClassId} (Γ : rt_Γ l s0 a0 G ca) {d : Nat} {w : rt_Wd} {m tp lf rt kp sz dk ou md ak pr : Nat} {th pl ow rw rb os ms at_ fa wh it da mn fr sp : Int32} {f : Nat → Int32} {k : Nat} (hT : w.2.2 tp = some (.inl (ca 1, 4096, .inl f))) (hne : tp ≠ m) (hM : w.2.2 m = some (.inr (11, [.int th, rt_r s0 tp, .int (nI k), .int pl, rt_r s0 lf, rt_r s0 rt, rt_r s0 kp, rt_r s0 sz, rt_r s0 dk, .int ow, .int rw, .int rb, rt_r s0 ou, .int os, rt_r s0 md, .int ms, .int at_, .int fa, .int wh, .int it, .int da, rt_r s0 ak, rt_r s0 pr, .int mn, .int fr, .int sp]))) {v : Int32} (hk : k + 4 ≤ 4096) : rt_Met l s0 G (.code yX11_addInt cX11_addInt 3 (Option.none : Option FieldType)) yX11_addInt d [rt_r s0 m, .int v] w (rt_is (.inl none) (rt_u2 w tp (.inl (ca 1, 4096, .inl (cm_f4 f k v))) m (.inr (11, [.int th, rt_r s0 tp, .int (nI (k + 4)), .int pl, rt_r s0 lf, rt_r s0 rt, rt_r s0 kp, rt_r s0 sz, rt_r s0 dk, .int ow, .int rw, .int rb, rt_r s0 ou, .int os, rt_r s0 md, .int ms, .int at_, .int fa, .int wh, .int it, .int da, rt_r s0 ak, rt_r s0 pr, .int mn, .int fr, .int sp])))) := by
  refine rt_met Γ kk_X11_addInt rfl (Nat.le_of_ble_eq_true rfl) rfl ?_
  refine rt_bipush (v := 24) dX11_addInt_0 (by decide) ?_
  refine rt_istore_n (lv' := [(2, .int 24), (0, rt_r s0 m), (1, .int v)]) dX11_addInt_2 rfl (by decide) rfl ?_
  refine rt_iload_n dX11_addInt_3 rfl (j := 0) rfl ?_
  have hM0 := hM
  have hT0 := hT
  refine rt_if_lt (tgt := 36) dX11_addInt_4 (by decide) (fun c4 => absurd c4 (by decide)) (fun _ => ?_)
  refine rt_aload_n dX11_addInt_7 rfl (j := 1) rfl ?_
  refine rt_get Γ kf_RX11_7 dX11_addInt_8 hM0 rfl ?_
  refine rt_aload_n dX11_addInt_11 rfl (j := 1) rfl ?_
  refine rt_get Γ kf_RX11_57 dX11_addInt_12 hM0 rfl ?_
  refine rt_iload_n dX11_addInt_15 rfl (j := 2) rfl ?_
  refine rt_iload_n dX11_addInt_16 rfl (j := 0) rfl ?_
  refine rt_ishr dX11_addInt_17 ?_
  refine rt_i2b dX11_addInt_18 rfl ?_
  show rt_Go l s0 G _ _ _ _ _ _ _ _ _ _ _ (.int (cm_b v 24) :: _) _
  refine rt_bast Γ dX11_addInt_19 hT0 (vp_in_nI (by omega) (by decide)) ?_
  rw [nI_clamp (by omega), show vp_nar .byte (cm_b v 24) = cm_b v 24 from pk_vb _]
  have hMa0 : (rt_up w tp (.inl (ca 1, 4096, .inl (upd f k (cm_b v 24))))).2.2 m = some (.inr (11, [.int th, rt_r s0 tp, .int (nI k), .int pl, rt_r s0 lf, rt_r s0 rt, rt_r s0 kp, rt_r s0 sz, rt_r s0 dk, .int ow, .int rw, .int rb, rt_r s0 ou, .int os, rt_r s0 md, .int ms, .int at_, .int fa, .int wh, .int it, .int da, rt_r s0 ak, rt_r s0 pr, .int mn, .int fr, .int sp])) := (rt_up_n (Ne.symm hne)).trans hM0
  refine rt_aload_n dX11_addInt_20 rfl (j := 1) rfl ?_
  refine rt_dup dX11_addInt_21 rfl ?_
  refine rt_get Γ kf_RX11_57 dX11_addInt_22 hMa0 rfl ?_
  refine rt_iconst (v := 1) dX11_addInt_25 (by decide) ?_
  refine rt_iadd dX11_addInt_26 ?_
  rw [nI_1]
  refine rt_put Γ kp_RX11_57 dX11_addInt_27 hMa0 (Nat.le_of_ble_eq_true rfl) rfl rfl (fs' := [.int th, rt_r s0 tp, .int (nI (k + 1)), .int pl, rt_r s0 lf, rt_r s0 rt, rt_r s0 kp, rt_r s0 sz, rt_r s0 dk, .int ow, .int rw, .int rb, rt_r s0 ou, .int os, rt_r s0 md, .int ms, .int at_, .int fa, .int wh, .int it, .int da, rt_r s0 ak, rt_r s0 pr, .int mn, .int fr, .int sp]) rfl ?_
  refine rt_weq (w' := (rt_u2 w tp (.inl (ca 1, 4096, .inl (upd f k (cm_b v 24)))) m (.inr (11, [.int th, rt_r s0 tp, .int (nI (k + 1)), .int pl, rt_r s0 lf, rt_r s0 rt, rt_r s0 kp, rt_r s0 sz, rt_r s0 dk, .int ow, .int rw, .int rb, rt_r s0 ou, .int os, rt_r s0 md, .int ms, .int at_, .int fa, .int wh, .int it, .int da, rt_r s0 ak, rt_r s0 pr, .int mn, .int fr, .int sp])))) rfl ?_
  have hM1 : (rt_u2 w tp (.inl (ca 1, 4096, .inl (upd f k (cm_b v 24)))) m (.inr (11, [.int th, rt_r s0 tp, .int (nI (k + 1)), .int pl, rt_r s0 lf, rt_r s0 rt, rt_r s0 kp, rt_r s0 sz, rt_r s0 dk, .int ow, .int rw, .int rb, rt_r s0 ou, .int os, rt_r s0 md, .int ms, .int at_, .int fa, .int wh, .int it, .int da, rt_r s0 ak, rt_r s0 pr, .int mn, .int fr, .int sp]))).2.2 m = _ := rt_u2_j
  have hT1 : (rt_u2 w tp (.inl (ca 1, 4096, .inl (upd f k (cm_b v 24)))) m (.inr (11, [.int th, rt_r s0 tp, .int (nI (k + 1)), .int pl, rt_r s0 lf, rt_r s0 rt, rt_r s0 kp, rt_r s0 sz, rt_r s0 dk, .int ow, .int rw, .int rb, rt_r s0 ou, .int os, rt_r s0 md, .int ms, .int at_, .int fa, .int wh, .int it, .int da, rt_r s0 ak, rt_r s0 pr, .int mn, .int fr, .int sp]))).2.2 tp = _ := rt_u2_i hne
  refine rt_iinc (v := 16) (lv' := [(2, .int 16), (0, rt_r s0 m), (1, .int v)]) dX11_addInt_30 (j := 0) rfl (by decide) (by decide) rfl ?_
  refine rt_goto (tgt := 3) dX11_addInt_33 (by decide) ?_
  refine rt_iload_n dX11_addInt_3 rfl (j := 0) rfl ?_
  refine rt_if_lt (tgt := 36) dX11_addInt_4 (by decide) (fun c4 => absurd c4 (by decide)) (fun _ => ?_)
  refine rt_aload_n dX11_addInt_7 rfl (j := 1) rfl ?_
  refine rt_get Γ kf_RX11_7 dX11_addInt_8 hM1 rfl ?_
  refine rt_aload_n dX11_addInt_11 rfl (j := 1) rfl ?_
  refine rt_get Γ kf_RX11_57 dX11_addInt_12 hM1 rfl ?_
  refine rt_iload_n dX11_addInt_15 rfl (j := 2) rfl ?_
  refine rt_iload_n dX11_addInt_16 rfl (j := 0) rfl ?_
  refine rt_ishr dX11_addInt_17 ?_
  refine rt_i2b dX11_addInt_18 rfl ?_
  show rt_Go l s0 G _ _ _ _ _ _ _ _ _ _ _ (.int (cm_b v 16) :: _) _
  refine rt_bast Γ dX11_addInt_19 hT1 (vp_in_nI (by omega) (by decide)) ?_
  rw [nI_clamp (by omega), show vp_nar .byte (cm_b v 16) = cm_b v 16 from pk_vb _]
  have hMa1 : (rt_up (rt_u2 w tp (.inl (ca 1, 4096, .inl (upd f k (cm_b v 24)))) m (.inr (11, [.int th, rt_r s0 tp, .int (nI (k + 1)), .int pl, rt_r s0 lf, rt_r s0 rt, rt_r s0 kp, rt_r s0 sz, rt_r s0 dk, .int ow, .int rw, .int rb, rt_r s0 ou, .int os, rt_r s0 md, .int ms, .int at_, .int fa, .int wh, .int it, .int da, rt_r s0 ak, rt_r s0 pr, .int mn, .int fr, .int sp]))) tp (.inl (ca 1, 4096, .inl (upd (upd f k (cm_b v 24)) (k + 1) (cm_b v 16))))).2.2 m = some (.inr (11, [.int th, rt_r s0 tp, .int (nI (k + 1)), .int pl, rt_r s0 lf, rt_r s0 rt, rt_r s0 kp, rt_r s0 sz, rt_r s0 dk, .int ow, .int rw, .int rb, rt_r s0 ou, .int os, rt_r s0 md, .int ms, .int at_, .int fa, .int wh, .int it, .int da, rt_r s0 ak, rt_r s0 pr, .int mn, .int fr, .int sp])) := (rt_up_n (Ne.symm hne)).trans hM1
  refine rt_aload_n dX11_addInt_20 rfl (j := 1) rfl ?_
  refine rt_dup dX11_addInt_21 rfl ?_
  refine rt_get Γ kf_RX11_57 dX11_addInt_22 hMa1 rfl ?_
  refine rt_iconst (v := 1) dX11_addInt_25 (by decide) ?_
  refine rt_iadd dX11_addInt_26 ?_
  rw [nI_1]
  refine rt_put Γ kp_RX11_57 dX11_addInt_27 hMa1 (Nat.le_of_ble_eq_true rfl) rfl rfl (fs' := [.int th, rt_r s0 tp, .int (nI (k + 2)), .int pl, rt_r s0 lf, rt_r s0 rt, rt_r s0 kp, rt_r s0 sz, rt_r s0 dk, .int ow, .int rw, .int rb, rt_r s0 ou, .int os, rt_r s0 md, .int ms, .int at_, .int fa, .int wh, .int it, .int da, rt_r s0 ak, rt_r s0 pr, .int mn, .int fr, .int sp]) rfl ?_
  refine rt_weq (w' := (rt_u2 w tp (.inl (ca 1, 4096, .inl (upd (upd f k (cm_b v 24)) (k + 1) (cm_b v 16)))) m (.inr (11, [.int th, rt_r s0 tp, .int (nI (k + 2)), .int pl, rt_r s0 lf, rt_r s0 rt, rt_r s0 kp, rt_r s0 sz, rt_r s0 dk, .int ow, .int rw, .int rb, rt_r s0 ou, .int os, rt_r s0 md, .int ms, .int at_, .int fa, .int wh, .int it, .int da, rt_r s0 ak, rt_r s0 pr, .int mn, .int fr, .int sp])))) (rt_u2_u2 hne) ?_
  have hM2 : (rt_u2 w tp (.inl (ca 1, 4096, .inl (upd (upd f k (cm_b v 24)) (k + 1) (cm_b v 16)))) m (.inr (11, [.int th, rt_r s0 tp, .int (nI (k + 2)), .int pl, rt_r s0 lf, rt_r s0 rt, rt_r s0 kp, rt_r s0 sz, rt_r s0 dk, .int ow, .int rw, .int rb, rt_r s0 ou, .int os, rt_r s0 md, .int ms, .int at_, .int fa, .int wh, .int it, .int da, rt_r s0 ak, rt_r s0 pr, .int mn, .int fr, .int sp]))).2.2 m = _ := rt_u2_j
  have hT2 : (rt_u2 w tp (.inl (ca 1, 4096, .inl (upd (upd f k (cm_b v 24)) (k + 1) (cm_b v 16)))) m (.inr (11, [.int th, rt_r s0 tp, .int (nI (k + 2)), .int pl, rt_r s0 lf, rt_r s0 rt, rt_r s0 kp, rt_r s0 sz, rt_r s0 dk, .int ow, .int rw, .int rb, rt_r s0 ou, .int os, rt_r s0 md, .int ms, .int at_, .int fa, .int wh, .int it, .int da, rt_r s0 ak, rt_r s0 pr, .int mn, .int fr, .int sp]))).2.2 tp = _ := rt_u2_i hne
  refine rt_iinc (v := 8) (lv' := [(2, .int 8), (0, rt_r s0 m), (1, .int v)]) dX11_addInt_30 (j := 0) rfl (by decide) (by decide) rfl ?_
  refine rt_goto (tgt := 3) dX11_addInt_33 (by decide) ?_
  refine rt_iload_n dX11_addInt_3 rfl (j := 0) rfl ?_
  refine rt_if_lt (tgt := 36) dX11_addInt_4 (by decide) (fun c4 => absurd c4 (by decide)) (fun _ => ?_)
  refine rt_aload_n dX11_addInt_7 rfl (j := 1) rfl ?_
  refine rt_get Γ kf_RX11_7 dX11_addInt_8 hM2 rfl ?_
  refine rt_aload_n dX11_addInt_11 rfl (j := 1) rfl ?_
  refine rt_get Γ kf_RX11_57 dX11_addInt_12 hM2 rfl ?_
  refine rt_iload_n dX11_addInt_15 rfl (j := 2) rfl ?_
  refine rt_iload_n dX11_addInt_16 rfl (j := 0) rfl ?_
  refine rt_ishr dX11_addInt_17 ?_
  refine rt_i2b dX11_addInt_18 rfl ?_
  show rt_Go l s0 G _ _ _ _ _ _ _ _ _ _ _ (.int (cm_b v 8) :: _) _
  refine rt_bast Γ dX11_addInt_19 hT2 (vp_in_nI (by omega) (by decide)) ?_
  rw [nI_clamp (by omega), show vp_nar .byte (cm_b v 8) = cm_b v 8 from pk_vb _]
  have hMa2 : (rt_up (rt_u2 w tp (.inl (ca 1, 4096, .inl (upd (upd f k (cm_b v 24)) (k + 1) (cm_b v 16)))) m (.inr (11, [.int th, rt_r s0 tp, .int (nI (k + 2)), .int pl, rt_r s0 lf, rt_r s0 rt, rt_r s0 kp, rt_r s0 sz, rt_r s0 dk, .int ow, .int rw, .int rb, rt_r s0 ou, .int os, rt_r s0 md, .int ms, .int at_, .int fa, .int wh, .int it, .int da, rt_r s0 ak, rt_r s0 pr, .int mn, .int fr, .int sp]))) tp (.inl (ca 1, 4096, .inl (upd (upd (upd f k (cm_b v 24)) (k + 1) (cm_b v 16)) (k + 2) (cm_b v 8))))).2.2 m = some (.inr (11, [.int th, rt_r s0 tp, .int (nI (k + 2)), .int pl, rt_r s0 lf, rt_r s0 rt, rt_r s0 kp, rt_r s0 sz, rt_r s0 dk, .int ow, .int rw, .int rb, rt_r s0 ou, .int os, rt_r s0 md, .int ms, .int at_, .int fa, .int wh, .int it, .int da, rt_r s0 ak, rt_r s0 pr, .int mn, .int fr, .int sp])) := (rt_up_n (Ne.symm hne)).trans hM2
  refine rt_aload_n dX11_addInt_20 rfl (j := 1) rfl ?_
  refine rt_dup dX11_addInt_21 rfl ?_
  refine rt_get Γ kf_RX11_57 dX11_addInt_22 hMa2 rfl ?_
  refine rt_iconst (v := 1) dX11_addInt_25 (by decide) ?_
  refine rt_iadd dX11_addInt_26 ?_
  rw [nI_1]
  refine rt_put Γ kp_RX11_57 dX11_addInt_27 hMa2 (Nat.le_of_ble_eq_true rfl) rfl rfl (fs' := [.int th, rt_r s0 tp, .int (nI (k + 3)), .int pl, rt_r s0 lf, rt_r s0 rt, rt_r s0 kp, rt_r s0 sz, rt_r s0 dk, .int ow, .int rw, .int rb, rt_r s0 ou, .int os, rt_r s0 md, .int ms, .int at_, .int fa, .int wh, .int it, .int da, rt_r s0 ak, rt_r s0 pr, .int mn, .int fr, .int sp]) rfl ?_
  refine rt_weq (w' := (rt_u2 w tp (.inl (ca 1, 4096, .inl (upd (upd (upd f k (cm_b v 24)) (k + 1) (cm_b v 16)) (k + 2) (cm_b v 8)))) m (.inr (11, [.int th, rt_r s0 tp, .int (nI (k + 3)), .int pl, rt_r s0 lf, rt_r s0 rt, rt_r s0 kp, rt_r s0 sz, rt_r s0 dk, .int ow, .int rw, .int rb, rt_r s0 ou, .int os, rt_r s0 md, .int ms, .int at_, .int fa, .int wh, .int it, .int da, rt_r s0 ak, rt_r s0 pr, .int mn, .int fr, .int sp])))) (rt_u2_u2 hne) ?_
  have hM3 : (rt_u2 w tp (.inl (ca 1, 4096, .inl (upd (upd (upd f k (cm_b v 24)) (k + 1) (cm_b v 16)) (k + 2) (cm_b v 8)))) m (.inr (11, [.int th, rt_r s0 tp, .int (nI (k + 3)), .int pl, rt_r s0 lf, rt_r s0 rt, rt_r s0 kp, rt_r s0 sz, rt_r s0 dk, .int ow, .int rw, .int rb, rt_r s0 ou, .int os, rt_r s0 md, .int ms, .int at_, .int fa, .int wh, .int it, .int da, rt_r s0 ak, rt_r s0 pr, .int mn, .int fr, .int sp]))).2.2 m = _ := rt_u2_j
  have hT3 : (rt_u2 w tp (.inl (ca 1, 4096, .inl (upd (upd (upd f k (cm_b v 24)) (k + 1) (cm_b v 16)) (k + 2) (cm_b v 8)))) m (.inr (11, [.int th, rt_r s0 tp, .int (nI (k + 3)), .int pl, rt_r s0 lf, rt_r s0 rt, rt_r s0 kp, rt_r s0 sz, rt_r s0 dk, .int ow, .int rw, .int rb, rt_r s0 ou, .int os, rt_r s0 md, .int ms, .int at_, .int fa, .int wh, .int it, .int da, rt_r s0 ak, rt_r s0 pr, .int mn, .int fr, .int sp]))).2.2 tp = _ := rt_u2_i hne
  refine rt_iinc (v := 0) (lv' := [(2, .int 0), (0, rt_r s0 m), (1, .int v)]) dX11_addInt_30 (j := 0) rfl (by decide) (by decide) rfl ?_
  refine rt_goto (tgt := 3) dX11_addInt_33 (by decide) ?_
  refine rt_iload_n dX11_addInt_3 rfl (j := 0) rfl ?_
  refine rt_if_lt (tgt := 36) dX11_addInt_4 (by decide) (fun c4 => absurd c4 (by decide)) (fun _ => ?_)
  refine rt_aload_n dX11_addInt_7 rfl (j := 1) rfl ?_
  refine rt_get Γ kf_RX11_7 dX11_addInt_8 hM3 rfl ?_
  refine rt_aload_n dX11_addInt_11 rfl (j := 1) rfl ?_
  refine rt_get Γ kf_RX11_57 dX11_addInt_12 hM3 rfl ?_
  refine rt_iload_n dX11_addInt_15 rfl (j := 2) rfl ?_
  refine rt_iload_n dX11_addInt_16 rfl (j := 0) rfl ?_
  refine rt_ishr dX11_addInt_17 ?_
  refine rt_i2b dX11_addInt_18 rfl ?_
  show rt_Go l s0 G _ _ _ _ _ _ _ _ _ _ _ (.int (cm_b v 0) :: _) _
  refine rt_bast Γ dX11_addInt_19 hT3 (vp_in_nI (by omega) (by decide)) ?_
  rw [nI_clamp (by omega), show vp_nar .byte (cm_b v 0) = cm_b v 0 from pk_vb _]
  have hMa3 : (rt_up (rt_u2 w tp (.inl (ca 1, 4096, .inl (upd (upd (upd f k (cm_b v 24)) (k + 1) (cm_b v 16)) (k + 2) (cm_b v 8)))) m (.inr (11, [.int th, rt_r s0 tp, .int (nI (k + 3)), .int pl, rt_r s0 lf, rt_r s0 rt, rt_r s0 kp, rt_r s0 sz, rt_r s0 dk, .int ow, .int rw, .int rb, rt_r s0 ou, .int os, rt_r s0 md, .int ms, .int at_, .int fa, .int wh, .int it, .int da, rt_r s0 ak, rt_r s0 pr, .int mn, .int fr, .int sp]))) tp (.inl (ca 1, 4096, .inl (upd (upd (upd (upd f k (cm_b v 24)) (k + 1) (cm_b v 16)) (k + 2) (cm_b v 8)) (k + 3) (cm_b v 0))))).2.2 m = some (.inr (11, [.int th, rt_r s0 tp, .int (nI (k + 3)), .int pl, rt_r s0 lf, rt_r s0 rt, rt_r s0 kp, rt_r s0 sz, rt_r s0 dk, .int ow, .int rw, .int rb, rt_r s0 ou, .int os, rt_r s0 md, .int ms, .int at_, .int fa, .int wh, .int it, .int da, rt_r s0 ak, rt_r s0 pr, .int mn, .int fr, .int sp])) := (rt_up_n (Ne.symm hne)).trans hM3
  refine rt_aload_n dX11_addInt_20 rfl (j := 1) rfl ?_
  refine rt_dup dX11_addInt_21 rfl ?_
  refine rt_get Γ kf_RX11_57 dX11_addInt_22 hMa3 rfl ?_
  refine rt_iconst (v := 1) dX11_addInt_25 (by decide) ?_
  refine rt_iadd dX11_addInt_26 ?_
  rw [nI_1]
  refine rt_put Γ kp_RX11_57 dX11_addInt_27 hMa3 (Nat.le_of_ble_eq_true rfl) rfl rfl (fs' := [.int th, rt_r s0 tp, .int (nI (k + 4)), .int pl, rt_r s0 lf, rt_r s0 rt, rt_r s0 kp, rt_r s0 sz, rt_r s0 dk, .int ow, .int rw, .int rb, rt_r s0 ou, .int os, rt_r s0 md, .int ms, .int at_, .int fa, .int wh, .int it, .int da, rt_r s0 ak, rt_r s0 pr, .int mn, .int fr, .int sp]) rfl ?_
  refine rt_weq (w' := (rt_u2 w tp (.inl (ca 1, 4096, .inl (upd (upd (upd (upd f k (cm_b v 24)) (k + 1) (cm_b v 16)) (k + 2) (cm_b v 8)) (k + 3) (cm_b v 0)))) m (.inr (11, [.int th, rt_r s0 tp, .int (nI (k + 4)), .int pl, rt_r s0 lf, rt_r s0 rt, rt_r s0 kp, rt_r s0 sz, rt_r s0 dk, .int ow, .int rw, .int rb, rt_r s0 ou, .int os, rt_r s0 md, .int ms, .int at_, .int fa, .int wh, .int it, .int da, rt_r s0 ak, rt_r s0 pr, .int mn, .int fr, .int sp])))) (rt_u2_u2 hne) ?_
  have hM4 : (rt_u2 w tp (.inl (ca 1, 4096, .inl (upd (upd (upd (upd f k (cm_b v 24)) (k + 1) (cm_b v 16)) (k + 2) (cm_b v 8)) (k + 3) (cm_b v 0)))) m (.inr (11, [.int th, rt_r s0 tp, .int (nI (k + 4)), .int pl, rt_r s0 lf, rt_r s0 rt, rt_r s0 kp, rt_r s0 sz, rt_r s0 dk, .int ow, .int rw, .int rb, rt_r s0 ou, .int os, rt_r s0 md, .int ms, .int at_, .int fa, .int wh, .int it, .int da, rt_r s0 ak, rt_r s0 pr, .int mn, .int fr, .int sp]))).2.2 m = _ := rt_u2_j
  have hT4 : (rt_u2 w tp (.inl (ca 1, 4096, .inl (upd (upd (upd (upd f k (cm_b v 24)) (k + 1) (cm_b v 16)) (k + 2) (cm_b v 8)) (k + 3) (cm_b v 0)))) m (.inr (11, [.int th, rt_r s0 tp, .int (nI (k + 4)), .int pl, rt_r s0 lf, rt_r s0 rt, rt_r s0 kp, rt_r s0 sz, rt_r s0 dk, .int ow, .int rw, .int rb, rt_r s0 ou, .int os, rt_r s0 md, .int ms, .int at_, .int fa, .int wh, .int it, .int da, rt_r s0 ak, rt_r s0 pr, .int mn, .int fr, .int sp]))).2.2 tp = _ := rt_u2_i hne
  refine rt_iinc (v := (-8)) (lv' := [(2, .int (-8)), (0, rt_r s0 m), (1, .int v)]) dX11_addInt_30 (j := 0) rfl (by decide) (by decide) rfl ?_
  refine rt_goto (tgt := 3) dX11_addInt_33 (by decide) ?_
  refine rt_iload_n dX11_addInt_3 rfl (j := 0) rfl ?_
  refine rt_if_lt (tgt := 36) dX11_addInt_4 (by decide) (fun _ => ?_) (fun c4 => absurd (by decide) c4)
  exact rt_vret dX11_addInt_36 rfl (⟨rfl, rfl⟩)
set_option maxRecDepth 100000 in
theorem c_X11_feed {l : Launch} {s0 : State} {a0 : Array Value} {G : va_G} {ca : Nat → ClassId} (Γ : rt_Γ l s0 a0 G ca) {d : Nat} {w : rt_Wd} (hd : 1 ≤ d) (hok : rt_ok w) {m tp lf rt kp sz dk ou md ak pr : Nat} {th pl ow rw rb os ms at_ fa wh it da mn fr sp : Int32} {f : Nat → Int32} {k : Nat} (hT : w.2.2 tp = some (.inl (ca 1, 4096, .inl f))) (hne : tp ≠ m) (hM : w.2.2 m = some (.inr (11, [.int th, rt_r s0 tp, .int (nI k), .int pl, rt_r s0 lf, rt_r s0 rt, rt_r s0 kp, rt_r s0 sz, rt_r s0 dk, .int ow, .int rw, .int rb, rt_r s0 ou, .int os, rt_r s0 md, .int ms, .int at_, .int fa, .int wh, .int it, .int da, rt_r s0 ak, rt_r s0 pr, .int mn, .int fr, .int sp]))) {a b c d5 e : Int32} (hk2 : k + 20 ≤ 4096) : rt_Met l s0 G (.code yX11_feed cX11_feed 6 (Option.some FieldType.int)) yX11_feed d [rt_r s0 m, .int a, .int b, .int c, .int d5, .int e] w (rt_is (.inl (some (.int (nI (k + 20))))) (rt_u2 w tp (.inl (ca 1, 4096, .inl (cm_f20 f k a b c d5 e))) m (.inr (11, [.int 0, rt_r s0 tp, .int (nI (k + 20)), .int pl, rt_r s0 lf, rt_r s0 rt, rt_r s0 kp, rt_r s0 sz, rt_r s0 dk, .int ow, .int rw, .int rb, rt_r s0 ou, .int os, rt_r s0 md, .int ms, .int at_, .int fa, .int wh, .int it, .int da, rt_r s0 ak, rt_r s0 pr, .int mn, .int fr, .int sp])))) := by
  refine rt_met Γ kk_X11_feed rfl (Nat.le_of_ble_eq_true rfl) rfl ?_
  refine rt_aload_n dX11_feed_0 rfl (j := 0) rfl ?_
  refine rt_aload_n dX11_feed_1 rfl (j := 0) rfl ?_
  refine rt_get Γ kf_RX11_57 dX11_feed_2 hM rfl ?_
  refine rt_bipush (v := 20) dX11_feed_5 (by decide) ?_
  refine rt_iadd dX11_feed_7 ?_
  refine rt_sipush (v := 4096) dX11_feed_8 (by decide) ?_
  rw [show nI k + 20 = nI (k + 20) from nI_add k 20]
  refine rt_icmp_le (tgt := 18) dX11_feed_11 (by decide) (fun _ => ?_) (fun c11 => absurd (nI_le hk2 (by decide)) c11)
  refine rt_iconst (v := 0) dX11_feed_18 (by decide) ?_
  refine rt_iconst (v := 0) dX11_feed_19 (by decide) ?_
  refine rt_callV Γ kk_X11_refused kc_RX11_60 (c_X11_refused0 Γ (d := d - 1) hM) (by omega) (by decide) (As := [.int 0, .int 0]) (show (parseMethodDescriptor yX11_refused.desc).map (fun q => q.parameters.length) = some 2 by decide +kernel) hok (Nat.le_of_ble_eq_true rfl) dX11_feed_20 hM rfl rfl rfl (rt_kr (st2 := [.int 0]) rfl ?_) rt_kx
  refine rt_if_eq (tgt := 28) dX11_feed_23 (by decide) (fun _ => ?_) (fun c23 => absurd rfl c23)
  have hMz : (rt_up w m (.inr (11, [.int 0, rt_r s0 tp, .int (nI k), .int pl, rt_r s0 lf, rt_r s0 rt, rt_r s0 kp, rt_r s0 sz, rt_r s0 dk, .int ow, .int rw, .int rb, rt_r s0 ou, .int os, rt_r s0 md, .int ms, .int at_, .int fa, .int wh, .int it, .int da, rt_r s0 ak, rt_r s0 pr, .int mn, .int fr, .int sp]))).2.2 m = _ := rt_up_s _ _ _
  have hTz : (rt_up w m (.inr (11, [.int 0, rt_r s0 tp, .int (nI k), .int pl, rt_r s0 lf, rt_r s0 rt, rt_r s0 kp, rt_r s0 sz, rt_r s0 dk, .int ow, .int rw, .int rb, rt_r s0 ou, .int os, rt_r s0 md, .int ms, .int at_, .int fa, .int wh, .int it, .int da, rt_r s0 ak, rt_r s0 pr, .int mn, .int fr, .int sp]))).2.2 tp = _ := (rt_up_n hne).trans hT
  have eZ : (rt_up w m (.inr (11, [.int 0, rt_r s0 tp, .int (nI k), .int pl, rt_r s0 lf, rt_r s0 rt, rt_r s0 kp, rt_r s0 sz, rt_r s0 dk, .int ow, .int rw, .int rb, rt_r s0 ou, .int os, rt_r s0 md, .int ms, .int at_, .int fa, .int wh, .int it, .int da, rt_r s0 ak, rt_r s0 pr, .int mn, .int fr, .int sp]))) = (rt_u2 w tp (.inl (ca 1, 4096, .inl f)) m (.inr (11, [.int 0, rt_r s0 tp, .int (nI k), .int pl, rt_r s0 lf, rt_r s0 rt, rt_r s0 kp, rt_r s0 sz, rt_r s0 dk, .int ow, .int rw, .int rb, rt_r s0 ou, .int os, rt_r s0 md, .int ms, .int at_, .int fa, .int wh, .int it, .int da, rt_r s0 ak, rt_r s0 pr, .int mn, .int fr, .int sp]))) := by unfold rt_u2; rw [rt_up_id hT]
  rw [eZ]
  rw [eZ] at hMz hTz
  have hM0 := hMz
  have hT0 := hTz
  refine rt_aload_n dX11_feed_28 rfl (j := 0) rfl ?_
  refine rt_iload_n dX11_feed_29 rfl (j := 1) rfl ?_
  refine rt_callV Γ kk_X11_addInt kc_RX11_64 (c_X11_addInt Γ (d := d - 1) hT0 hne hM0 (by omega)) (by omega) (by decide) (As := [.int a]) (show (parseMethodDescriptor yX11_addInt.desc).map (fun q => q.parameters.length) = some 1 by decide +kernel) hok (Nat.le_of_ble_eq_true rfl) dX11_feed_30 hM0 rfl rfl rfl (rt_kr (st2 := []) rfl ?_) rt_kx
  refine rt_weq (w' := (rt_u2 w tp (.inl (ca 1, 4096, .inl (cm_f4 f k a))) m (.inr (11, [.int 0, rt_r s0 tp, .int (nI (k + 4)), .int pl, rt_r s0 lf, rt_r s0 rt, rt_r s0 kp, rt_r s0 sz, rt_r s0 dk, .int ow, .int rw, .int rb, rt_r s0 ou, .int os, rt_r s0 md, .int ms, .int at_, .int fa, .int wh, .int it, .int da, rt_r s0 ak, rt_r s0 pr, .int mn, .int fr, .int sp])))) (rt_u2_u2 hne) ?_
  have hM1 : (rt_u2 w tp (.inl (ca 1, 4096, .inl (cm_f4 f k a))) m (.inr (11, [.int 0, rt_r s0 tp, .int (nI (k + 4)), .int pl, rt_r s0 lf, rt_r s0 rt, rt_r s0 kp, rt_r s0 sz, rt_r s0 dk, .int ow, .int rw, .int rb, rt_r s0 ou, .int os, rt_r s0 md, .int ms, .int at_, .int fa, .int wh, .int it, .int da, rt_r s0 ak, rt_r s0 pr, .int mn, .int fr, .int sp]))).2.2 m = _ := rt_u2_j
  have hT1 : (rt_u2 w tp (.inl (ca 1, 4096, .inl (cm_f4 f k a))) m (.inr (11, [.int 0, rt_r s0 tp, .int (nI (k + 4)), .int pl, rt_r s0 lf, rt_r s0 rt, rt_r s0 kp, rt_r s0 sz, rt_r s0 dk, .int ow, .int rw, .int rb, rt_r s0 ou, .int os, rt_r s0 md, .int ms, .int at_, .int fa, .int wh, .int it, .int da, rt_r s0 ak, rt_r s0 pr, .int mn, .int fr, .int sp]))).2.2 tp = _ := rt_u2_i hne
  refine rt_aload_n dX11_feed_33 rfl (j := 0) rfl ?_
  refine rt_iload_n dX11_feed_34 rfl (j := 2) rfl ?_
  refine rt_callV Γ kk_X11_addInt kc_RX11_64 (c_X11_addInt Γ (d := d - 1) hT1 hne hM1 (by omega)) (by omega) (by decide) (As := [.int b]) (show (parseMethodDescriptor yX11_addInt.desc).map (fun q => q.parameters.length) = some 1 by decide +kernel) hok (Nat.le_of_ble_eq_true rfl) dX11_feed_35 hM1 rfl rfl rfl (rt_kr (st2 := []) rfl ?_) rt_kx
  refine rt_weq (w' := (rt_u2 w tp (.inl (ca 1, 4096, .inl (cm_f4 (cm_f4 f k a) (k + 4) b))) m (.inr (11, [.int 0, rt_r s0 tp, .int (nI (k + 8)), .int pl, rt_r s0 lf, rt_r s0 rt, rt_r s0 kp, rt_r s0 sz, rt_r s0 dk, .int ow, .int rw, .int rb, rt_r s0 ou, .int os, rt_r s0 md, .int ms, .int at_, .int fa, .int wh, .int it, .int da, rt_r s0 ak, rt_r s0 pr, .int mn, .int fr, .int sp])))) (rt_u2_u2 hne) ?_
  have hM2 : (rt_u2 w tp (.inl (ca 1, 4096, .inl (cm_f4 (cm_f4 f k a) (k + 4) b))) m (.inr (11, [.int 0, rt_r s0 tp, .int (nI (k + 8)), .int pl, rt_r s0 lf, rt_r s0 rt, rt_r s0 kp, rt_r s0 sz, rt_r s0 dk, .int ow, .int rw, .int rb, rt_r s0 ou, .int os, rt_r s0 md, .int ms, .int at_, .int fa, .int wh, .int it, .int da, rt_r s0 ak, rt_r s0 pr, .int mn, .int fr, .int sp]))).2.2 m = _ := rt_u2_j
  have hT2 : (rt_u2 w tp (.inl (ca 1, 4096, .inl (cm_f4 (cm_f4 f k a) (k + 4) b))) m (.inr (11, [.int 0, rt_r s0 tp, .int (nI (k + 8)), .int pl, rt_r s0 lf, rt_r s0 rt, rt_r s0 kp, rt_r s0 sz, rt_r s0 dk, .int ow, .int rw, .int rb, rt_r s0 ou, .int os, rt_r s0 md, .int ms, .int at_, .int fa, .int wh, .int it, .int da, rt_r s0 ak, rt_r s0 pr, .int mn, .int fr, .int sp]))).2.2 tp = _ := rt_u2_i hne
  refine rt_aload_n dX11_feed_38 rfl (j := 0) rfl ?_
  refine rt_iload_n dX11_feed_39 rfl (j := 3) rfl ?_
  refine rt_callV Γ kk_X11_addInt kc_RX11_64 (c_X11_addInt Γ (d := d - 1) hT2 hne hM2 (by omega)) (by omega) (by decide) (As := [.int c]) (show (parseMethodDescriptor yX11_addInt.desc).map (fun q => q.parameters.length) = some 1 by decide +kernel) hok (Nat.le_of_ble_eq_true rfl) dX11_feed_40 hM2 rfl rfl rfl (rt_kr (st2 := []) rfl ?_) rt_kx
  refine rt_weq (w' := (rt_u2 w tp (.inl (ca 1, 4096, .inl (cm_f4 (cm_f4 (cm_f4 f k a) (k + 4) b) (k + 8) c))) m (.inr (11, [.int 0, rt_r s0 tp, .int (nI (k + 12)), .int pl, rt_r s0 lf, rt_r s0 rt, rt_r s0 kp, rt_r s0 sz, rt_r s0 dk, .int ow, .int rw, .int rb, rt_r s0 ou, .int os, rt_r s0 md, .int ms, .int at_, .int fa, .int wh, .int it, .int da, rt_r s0 ak, rt_r s0 pr, .int mn, .int fr, .int sp])))) (rt_u2_u2 hne) ?_
  have hM3 : (rt_u2 w tp (.inl (ca 1, 4096, .inl (cm_f4 (cm_f4 (cm_f4 f k a) (k + 4) b) (k + 8) c))) m (.inr (11, [.int 0, rt_r s0 tp, .int (nI (k + 12)), .int pl, rt_r s0 lf, rt_r s0 rt, rt_r s0 kp, rt_r s0 sz, rt_r s0 dk, .int ow, .int rw, .int rb, rt_r s0 ou, .int os, rt_r s0 md, .int ms, .int at_, .int fa, .int wh, .int it, .int da, rt_r s0 ak, rt_r s0 pr, .int mn, .int fr, .int sp]))).2.2 m = _ := rt_u2_j
  have hT3 : (rt_u2 w tp (.inl (ca 1, 4096, .inl (cm_f4 (cm_f4 (cm_f4 f k a) (k + 4) b) (k + 8) c))) m (.inr (11, [.int 0, rt_r s0 tp, .int (nI (k + 12)), .int pl, rt_r s0 lf, rt_r s0 rt, rt_r s0 kp, rt_r s0 sz, rt_r s0 dk, .int ow, .int rw, .int rb, rt_r s0 ou, .int os, rt_r s0 md, .int ms, .int at_, .int fa, .int wh, .int it, .int da, rt_r s0 ak, rt_r s0 pr, .int mn, .int fr, .int sp]))).2.2 tp = _ := rt_u2_i hne
  refine rt_aload_n dX11_feed_43 rfl (j := 0) rfl ?_
  refine rt_iload dX11_feed_44 (j := 4) rfl ?_
  refine rt_callV Γ kk_X11_addInt kc_RX11_64 (c_X11_addInt Γ (d := d - 1) hT3 hne hM3 (by omega)) (by omega) (by decide) (As := [.int d5]) (show (parseMethodDescriptor yX11_addInt.desc).map (fun q => q.parameters.length) = some 1 by decide +kernel) hok (Nat.le_of_ble_eq_true rfl) dX11_feed_46 hM3 rfl rfl rfl (rt_kr (st2 := []) rfl ?_) rt_kx
  refine rt_weq (w' := (rt_u2 w tp (.inl (ca 1, 4096, .inl (cm_f4 (cm_f4 (cm_f4 (cm_f4 f k a) (k + 4) b) (k + 8) c) (k + 12) d5))) m (.inr (11, [.int 0, rt_r s0 tp, .int (nI (k + 16)), .int pl, rt_r s0 lf, rt_r s0 rt, rt_r s0 kp, rt_r s0 sz, rt_r s0 dk, .int ow, .int rw, .int rb, rt_r s0 ou, .int os, rt_r s0 md, .int ms, .int at_, .int fa, .int wh, .int it, .int da, rt_r s0 ak, rt_r s0 pr, .int mn, .int fr, .int sp])))) (rt_u2_u2 hne) ?_
  have hM4 : (rt_u2 w tp (.inl (ca 1, 4096, .inl (cm_f4 (cm_f4 (cm_f4 (cm_f4 f k a) (k + 4) b) (k + 8) c) (k + 12) d5))) m (.inr (11, [.int 0, rt_r s0 tp, .int (nI (k + 16)), .int pl, rt_r s0 lf, rt_r s0 rt, rt_r s0 kp, rt_r s0 sz, rt_r s0 dk, .int ow, .int rw, .int rb, rt_r s0 ou, .int os, rt_r s0 md, .int ms, .int at_, .int fa, .int wh, .int it, .int da, rt_r s0 ak, rt_r s0 pr, .int mn, .int fr, .int sp]))).2.2 m = _ := rt_u2_j
  have hT4 : (rt_u2 w tp (.inl (ca 1, 4096, .inl (cm_f4 (cm_f4 (cm_f4 (cm_f4 f k a) (k + 4) b) (k + 8) c) (k + 12) d5))) m (.inr (11, [.int 0, rt_r s0 tp, .int (nI (k + 16)), .int pl, rt_r s0 lf, rt_r s0 rt, rt_r s0 kp, rt_r s0 sz, rt_r s0 dk, .int ow, .int rw, .int rb, rt_r s0 ou, .int os, rt_r s0 md, .int ms, .int at_, .int fa, .int wh, .int it, .int da, rt_r s0 ak, rt_r s0 pr, .int mn, .int fr, .int sp]))).2.2 tp = _ := rt_u2_i hne
  refine rt_aload_n dX11_feed_49 rfl (j := 0) rfl ?_
  refine rt_iload dX11_feed_50 (j := 5) rfl ?_
  refine rt_callV Γ kk_X11_addInt kc_RX11_64 (c_X11_addInt Γ (d := d - 1) hT4 hne hM4 (by omega)) (by omega) (by decide) (As := [.int e]) (show (parseMethodDescriptor yX11_addInt.desc).map (fun q => q.parameters.length) = some 1 by decide +kernel) hok (Nat.le_of_ble_eq_true rfl) dX11_feed_52 hM4 rfl rfl rfl (rt_kr (st2 := []) rfl ?_) rt_kx
  refine rt_weq (w' := (rt_u2 w tp (.inl (ca 1, 4096, .inl (cm_f4 (cm_f4 (cm_f4 (cm_f4 (cm_f4 f k a) (k + 4) b) (k + 8) c) (k + 12) d5) (k + 16) e))) m (.inr (11, [.int 0, rt_r s0 tp, .int (nI (k + 20)), .int pl, rt_r s0 lf, rt_r s0 rt, rt_r s0 kp, rt_r s0 sz, rt_r s0 dk, .int ow, .int rw, .int rb, rt_r s0 ou, .int os, rt_r s0 md, .int ms, .int at_, .int fa, .int wh, .int it, .int da, rt_r s0 ak, rt_r s0 pr, .int mn, .int fr, .int sp])))) (rt_u2_u2 hne) ?_
  have hM5 : (rt_u2 w tp (.inl (ca 1, 4096, .inl (cm_f4 (cm_f4 (cm_f4 (cm_f4 (cm_f4 f k a) (k + 4) b) (k + 8) c) (k + 12) d5) (k + 16) e))) m (.inr (11, [.int 0, rt_r s0 tp, .int (nI (k + 20)), .int pl, rt_r s0 lf, rt_r s0 rt, rt_r s0 kp, rt_r s0 sz, rt_r s0 dk, .int ow, .int rw, .int rb, rt_r s0 ou, .int os, rt_r s0 md, .int ms, .int at_, .int fa, .int wh, .int it, .int da, rt_r s0 ak, rt_r s0 pr, .int mn, .int fr, .int sp]))).2.2 m = _ := rt_u2_j
  have hT5 : (rt_u2 w tp (.inl (ca 1, 4096, .inl (cm_f4 (cm_f4 (cm_f4 (cm_f4 (cm_f4 f k a) (k + 4) b) (k + 8) c) (k + 12) d5) (k + 16) e))) m (.inr (11, [.int 0, rt_r s0 tp, .int (nI (k + 20)), .int pl, rt_r s0 lf, rt_r s0 rt, rt_r s0 kp, rt_r s0 sz, rt_r s0 dk, .int ow, .int rw, .int rb, rt_r s0 ou, .int os, rt_r s0 md, .int ms, .int at_, .int fa, .int wh, .int it, .int da, rt_r s0 ak, rt_r s0 pr, .int mn, .int fr, .int sp]))).2.2 tp = _ := rt_u2_i hne
  refine rt_aload_n dX11_feed_55 rfl (j := 0) rfl ?_
  refine rt_get Γ kf_RX11_57 dX11_feed_56 hM5 rfl ?_
  exact rt_iret dX11_feed_59 rfl (⟨rfl, rfl⟩)
set_option maxRecDepth 100000 in
theorem c_X11_feedT {l : Launch} {s0 : State} {a0 : Array Value} {G : va_G} {ca : Nat → ClassId} (Γ : rt_Γ l s0 a0 G ca) {d : Nat} {w : rt_Wd} (hd : 1 ≤ d) (hok : rt_ok w) {m tp lf rt kp sz dk ou md ak pr : Nat} {th pl ow rw rb os ms at_ fa wh it da mn fr sp : Int32} {k : Nat} (hM : w.2.2 m = some (.inr (11, [.int th, rt_r s0 tp, .int (nI k), .int pl, rt_r s0 lf, rt_r s0 rt, rt_r s0 kp, rt_r s0 sz, rt_r s0 dk, .int ow, .int rw, .int rb, rt_r s0 ou, .int os, rt_r s0 md, .int ms, .int at_, .int fa, .int wh, .int it, .int da, rt_r s0 ak, rt_r s0 pr, .int mn, .int fr, .int sp]))) {a b c d5 e : Int32} (hk : k ≤ 4096) (hk2 : 4096 < k + 20) : rt_Met l s0 G (.code yX11_feed cX11_feed 6 (Option.some FieldType.int)) yX11_feed d [rt_r s0 m, .int a, .int b, .int c, .int d5, .int e] w (rt_is (.inl (some (.int 0))) (rt_up w m (.inr (11, [.int 1, rt_r s0 tp, .int (nI k), .int pl, rt_r s0 lf, rt_r s0 rt, rt_r s0 kp, rt_r s0 sz, rt_r s0 dk, .int ow, .int rw, .int rb, rt_r s0 ou, .int os, rt_r s0 md, .int ms, .int at_, .int fa, .int wh, .int it, .int da, rt_r s0 ak, rt_r s0 pr, .int mn, .int fr, .int sp])))) := by
  refine rt_met Γ kk_X11_feed rfl (Nat.le_of_ble_eq_true rfl) rfl ?_
  refine rt_aload_n dX11_feed_0 rfl (j := 0) rfl ?_
  refine rt_aload_n dX11_feed_1 rfl (j := 0) rfl ?_
  refine rt_get Γ kf_RX11_57 dX11_feed_2 hM rfl ?_
  refine rt_bipush (v := 20) dX11_feed_5 (by decide) ?_
  refine rt_iadd dX11_feed_7 ?_
  refine rt_sipush (v := 4096) dX11_feed_8 (by decide) ?_
  rw [show nI k + 20 = nI (k + 20) from nI_add k 20]
  refine rt_icmp_le (tgt := 18) dX11_feed_11 (by decide) (fun c11 => absurd c11 (Int32.not_le.mpr (nI_lt (a := 4096) hk2 (by omega)))) (fun _ => ?_)
  refine rt_iconst (v := 1) dX11_feed_14 (by decide) ?_
  refine rt_goto (tgt := 19) dX11_feed_15 (by decide) ?_
  refine rt_iconst (v := 0) dX11_feed_19 (by decide) ?_
  refine rt_callV Γ kk_X11_refused kc_RX11_60 (c_X11_refused1 Γ (d := d - 1) hM) (by omega) (by decide) (As := [.int 1, .int 0]) (show (parseMethodDescriptor yX11_refused.desc).map (fun q => q.parameters.length) = some 2 by decide +kernel) hok (Nat.le_of_ble_eq_true rfl) dX11_feed_20 hM rfl rfl rfl (rt_kr (st2 := [.int 1]) rfl ?_) rt_kx
  refine rt_if_eq (tgt := 28) dX11_feed_23 (by decide) (fun c23 => absurd c23 (by decide)) (fun _ => ?_)
  refine rt_iconst (v := 0) dX11_feed_26 (by decide) ?_
  exact rt_iret dX11_feed_27 rfl (⟨rfl, rfl⟩)
set_option maxRecDepth 100000 in
theorem c_X11_end {l : Launch} {s0 : State} {a0 : Array Value} {G : va_G} {ca : Nat → ClassId} (Γ : rt_Γ l s0 a0 G ca) {d : Nat} {w : rt_Wd} (hd : 1 ≤ d) (hok : rt_ok w) {m tp lf rt kp sz dk ou md ak pr : Nat} {th td pl ow rw rb os ms at_ fa wh it da mn fr sp : Int32} (hM : w.2.2 m = some (.inr (11, [.int th, rt_r s0 tp, .int td, .int pl, rt_r s0 lf, rt_r s0 rt, rt_r s0 kp, rt_r s0 sz, rt_r s0 dk, .int ow, .int rw, .int rb, rt_r s0 ou, .int os, rt_r s0 md, .int ms, .int at_, .int fa, .int wh, .int it, .int da, rt_r s0 ak, rt_r s0 pr, .int mn, .int fr, .int sp]))) {v : Int32} (h0 : ¬ v < 0) (h1 : ¬ td < v) : rt_Met l s0 G (.code yX11_end cX11_end 2 (Option.none : Option FieldType)) yX11_end d [rt_r s0 m, .int v] w (rt_is (.inl none) (rt_up w m (.inr (11, [.int 0, rt_r s0 tp, .int v, .int pl, rt_r s0 lf, rt_r s0 rt, rt_r s0 kp, rt_r s0 sz, rt_r s0 dk, .int ow, .int rw, .int rb, rt_r s0 ou, .int os, rt_r s0 md, .int ms, .int at_, .int fa, .int wh, .int it, .int da, rt_r s0 ak, rt_r s0 pr, .int mn, .int fr, .int sp])))) := by
  refine rt_met Γ kk_X11_end rfl (Nat.le_of_ble_eq_true rfl) rfl ?_
  refine rt_aload_n dX11_end_0 rfl (j := 0) rfl ?_
  refine rt_iload_n dX11_end_1 rfl (j := 1) rfl ?_
  refine rt_iconst (v := 0) dX11_end_2 (by decide) ?_
  refine rt_aload_n dX11_end_3 rfl (j := 0) rfl ?_
  refine rt_get Γ kf_RX11_57 dX11_end_4 hM rfl ?_
  refine rt_callS Γ kk_X11_within kc_RX11_68 (c_X11_within Γ (d := d - 1) h0 h1) (by omega) (by decide) (As := [.int v, .int 0, .int td]) (show (parseMethodDescriptor yX11_within.desc).map (fun q => q.parameters.length) = some 3 by decide +kernel) hok (Nat.le_of_ble_eq_true rfl) dX11_end_7 rfl rfl (rt_kr (st2 := [.int 1, rt_r s0 m]) rfl ?_) rt_kx
  refine rt_if_ne (tgt := 17) dX11_end_10 (by decide) (fun _ => ?_) (fun c10 => absurd c10 (by decide))
  refine rt_iconst (v := 0) dX11_end_17 (by decide) ?_
  refine rt_iconst (v := 0) dX11_end_18 (by decide) ?_
  refine rt_callV Γ kk_X11_refused kc_RX11_60 (c_X11_refused0 Γ (d := d - 1) hM) (by omega) (by decide) (As := [.int 0, .int 0]) (show (parseMethodDescriptor yX11_refused.desc).map (fun q => q.parameters.length) = some 2 by decide +kernel) hok (Nat.le_of_ble_eq_true rfl) dX11_end_19 hM rfl rfl rfl (rt_kr (st2 := [.int 0]) rfl ?_) rt_kx
  refine rt_if_ne (tgt := 30) dX11_end_22 (by decide) (fun c22 => absurd c22 (fun h => h rfl)) (fun _ => ?_)
  refine rt_aload_n dX11_end_25 rfl (j := 0) rfl ?_
  refine rt_iload_n dX11_end_26 rfl (j := 1) rfl ?_
  have hM1 := rt_up_s w m (.inr (11, [.int 0, rt_r s0 tp, .int td, .int pl, rt_r s0 lf, rt_r s0 rt, rt_r s0 kp, rt_r s0 sz, rt_r s0 dk, .int ow, .int rw, .int rb, rt_r s0 ou, .int os, rt_r s0 md, .int ms, .int at_, .int fa, .int wh, .int it, .int da, rt_r s0 ak, rt_r s0 pr, .int mn, .int fr, .int sp]))
  refine rt_put Γ kp_RX11_57 dX11_end_27 hM1 (Nat.le_of_ble_eq_true rfl) rfl rfl (fs' := [.int 0, rt_r s0 tp, .int v, .int pl, rt_r s0 lf, rt_r s0 rt, rt_r s0 kp, rt_r s0 sz, rt_r s0 dk, .int ow, .int rw, .int rb, rt_r s0 ou, .int os, rt_r s0 md, .int ms, .int at_, .int fa, .int wh, .int it, .int da, rt_r s0 ak, rt_r s0 pr, .int mn, .int fr, .int sp]) rfl ?_
  rw [rt_up_up]
  exact rt_vret dX11_end_30 rfl (⟨rfl, rfl⟩)
set_option maxRecDepth 100000 in
theorem c_X11_endT {l : Launch} {s0 : State} {a0 : Array Value} {G : va_G} {ca : Nat → ClassId} (Γ : rt_Γ l s0 a0 G ca) {d : Nat} {w : rt_Wd} (hd : 1 ≤ d) (hok : rt_ok w) {m tp lf rt kp sz dk ou md ak pr : Nat} {th td pl ow rw rb os ms at_ fa wh it da mn fr sp : Int32} (hM : w.2.2 m = some (.inr (11, [.int th, rt_r s0 tp, .int td, .int pl, rt_r s0 lf, rt_r s0 rt, rt_r s0 kp, rt_r s0 sz, rt_r s0 dk, .int ow, .int rw, .int rb, rt_r s0 ou, .int os, rt_r s0 md, .int ms, .int at_, .int fa, .int wh, .int it, .int da, rt_r s0 ak, rt_r s0 pr, .int mn, .int fr, .int sp]))) {v : Int32} (h0 : v < 0) : rt_Met l s0 G (.code yX11_end cX11_end 2 (Option.none : Option FieldType)) yX11_end d [rt_r s0 m, .int v] w (rt_is (.inl none) (rt_up w m (.inr (11, [.int 1, rt_r s0 tp, .int td, .int pl, rt_r s0 lf, rt_r s0 rt, rt_r s0 kp, rt_r s0 sz, rt_r s0 dk, .int ow, .int rw, .int rb, rt_r s0 ou, .int os, rt_r s0 md, .int ms, .int at_, .int fa, .int wh, .int it, .int da, rt_r s0 ak, rt_r s0 pr, .int mn, .int fr, .int sp])))) := by
  refine rt_met Γ kk_X11_end rfl (Nat.le_of_ble_eq_true rfl) rfl ?_
  refine rt_aload_n dX11_end_0 rfl (j := 0) rfl ?_
  refine rt_iload_n dX11_end_1 rfl (j := 1) rfl ?_
  refine rt_iconst (v := 0) dX11_end_2 (by decide) ?_
  refine rt_aload_n dX11_end_3 rfl (j := 0) rfl ?_
  refine rt_get Γ kf_RX11_57 dX11_end_4 hM rfl ?_
  refine rt_callS Γ kk_X11_within kc_RX11_68 (c_X11_withinT Γ (d := d - 1) h0) (by omega) (by decide) (As := [.int v, .int 0, .int td]) (show (parseMethodDescriptor yX11_within.desc).map (fun q => q.parameters.length) = some 3 by decide +kernel) hok (Nat.le_of_ble_eq_true rfl) dX11_end_7 rfl rfl (rt_kr (st2 := [.int 0, rt_r s0 m]) rfl ?_) rt_kx
  refine rt_if_ne (tgt := 17) dX11_end_10 (by decide) (fun c10 => absurd c10 (fun h => h rfl)) (fun _ => ?_)
  refine rt_iconst (v := 1) dX11_end_13 (by decide) ?_
  refine rt_goto (tgt := 18) dX11_end_14 (by decide) ?_
  refine rt_iconst (v := 0) dX11_end_18 (by decide) ?_
  refine rt_callV Γ kk_X11_refused kc_RX11_60 (c_X11_refused1 Γ (d := d - 1) hM) (by omega) (by decide) (As := [.int 1, .int 0]) (show (parseMethodDescriptor yX11_refused.desc).map (fun q => q.parameters.length) = some 2 by decide +kernel) hok (Nat.le_of_ble_eq_true rfl) dX11_end_19 hM rfl rfl rfl (rt_kr (st2 := [.int 1]) rfl ?_) rt_kx
  refine rt_if_ne (tgt := 30) dX11_end_22 (by decide) (fun _ => ?_) (fun c22 => absurd c22 (by decide))
  exact rt_vret dX11_end_30 rfl (⟨rfl, rfl⟩)
set_option maxRecDepth 100000 in
theorem c_X11_endU {l : Launch} {s0 : State} {a0 : Array Value} {G : va_G} {ca : Nat → ClassId} (Γ : rt_Γ l s0 a0 G ca) {d : Nat} {w : rt_Wd} (hd : 1 ≤ d) (hok : rt_ok w) {m tp lf rt kp sz dk ou md ak pr : Nat} {th td pl ow rw rb os ms at_ fa wh it da mn fr sp : Int32} (hM : w.2.2 m = some (.inr (11, [.int th, rt_r s0 tp, .int td, .int pl, rt_r s0 lf, rt_r s0 rt, rt_r s0 kp, rt_r s0 sz, rt_r s0 dk, .int ow, .int rw, .int rb, rt_r s0 ou, .int os, rt_r s0 md, .int ms, .int at_, .int fa, .int wh, .int it, .int da, rt_r s0 ak, rt_r s0 pr, .int mn, .int fr, .int sp]))) {v : Int32} (h0 : ¬ v < 0) (h1 : td < v) : rt_Met l s0 G (.code yX11_end cX11_end 2 (Option.none : Option FieldType)) yX11_end d [rt_r s0 m, .int v] w (rt_is (.inl none) (rt_up w m (.inr (11, [.int 1, rt_r s0 tp, .int td, .int pl, rt_r s0 lf, rt_r s0 rt, rt_r s0 kp, rt_r s0 sz, rt_r s0 dk, .int ow, .int rw, .int rb, rt_r s0 ou, .int os, rt_r s0 md, .int ms, .int at_, .int fa, .int wh, .int it, .int da, rt_r s0 ak, rt_r s0 pr, .int mn, .int fr, .int sp])))) := by
  refine rt_met Γ kk_X11_end rfl (Nat.le_of_ble_eq_true rfl) rfl ?_
  refine rt_aload_n dX11_end_0 rfl (j := 0) rfl ?_
  refine rt_iload_n dX11_end_1 rfl (j := 1) rfl ?_
  refine rt_iconst (v := 0) dX11_end_2 (by decide) ?_
  refine rt_aload_n dX11_end_3 rfl (j := 0) rfl ?_
  refine rt_get Γ kf_RX11_57 dX11_end_4 hM rfl ?_
  refine rt_callS Γ kk_X11_within kc_RX11_68 (c_X11_withinU Γ (d := d - 1) h0 h1) (by omega) (by decide) (As := [.int v, .int 0, .int td]) (show (parseMethodDescriptor yX11_within.desc).map (fun q => q.parameters.length) = some 3 by decide +kernel) hok (Nat.le_of_ble_eq_true rfl) dX11_end_7 rfl rfl (rt_kr (st2 := [.int 0, rt_r s0 m]) rfl ?_) rt_kx
  refine rt_if_ne (tgt := 17) dX11_end_10 (by decide) (fun c10 => absurd c10 (fun h => h rfl)) (fun _ => ?_)
  refine rt_iconst (v := 1) dX11_end_13 (by decide) ?_
  refine rt_goto (tgt := 18) dX11_end_14 (by decide) ?_
  refine rt_iconst (v := 0) dX11_end_18 (by decide) ?_
  refine rt_callV Γ kk_X11_refused kc_RX11_60 (c_X11_refused1 Γ (d := d - 1) hM) (by omega) (by decide) (As := [.int 1, .int 0]) (show (parseMethodDescriptor yX11_refused.desc).map (fun q => q.parameters.length) = some 2 by decide +kernel) hok (Nat.le_of_ble_eq_true rfl) dX11_end_19 hM rfl rfl rfl (rt_kr (st2 := [.int 1]) rfl ?_) rt_kx
  refine rt_if_ne (tgt := 30) dX11_end_22 (by decide) (fun _ => ?_) (fun c22 => absurd c22 (by decide))
  exact rt_vret dX11_end_30 rfl (⟨rfl, rfl⟩)
set_option maxRecDepth 100000 in
theorem c_X11_place {l : Launch} {s0 : State} {a0 : Array Value} {G : va_G} {ca : Nat → ClassId} (Γ : rt_Γ l s0 a0 G ca) {d : Nat} {w : rt_Wd} {m tp lf rt kp sz dk ou md ak pr : Nat} {th td pl ow rw rb os ms at_ fa wh it da mn fr sp : Int32} (hM : w.2.2 m = some (.inr (11, [.int th, rt_r s0 tp, .int td, .int pl, rt_r s0 lf, rt_r s0 rt, rt_r s0 kp, rt_r s0 sz, rt_r s0 dk, .int ow, .int rw, .int rb, rt_r s0 ou, .int os, rt_r s0 md, .int ms, .int at_, .int fa, .int wh, .int it, .int da, rt_r s0 ak, rt_r s0 pr, .int mn, .int fr, .int sp]))) : rt_Met l s0 G (.code yX11_place cX11_place 1 (Option.some FieldType.int)) yX11_place d [rt_r s0 m] w (rt_is (.inl (some (.int pl))) (rt_up w m (.inr (11, [.int 0, rt_r s0 tp, .int td, .int pl, rt_r s0 lf, rt_r s0 rt, rt_r s0 kp, rt_r s0 sz, rt_r s0 dk, .int ow, .int rw, .int rb, rt_r s0 ou, .int os, rt_r s0 md, .int ms, .int at_, .int fa, .int wh, .int it, .int da, rt_r s0 ak, rt_r s0 pr, .int mn, .int fr, .int sp])))) := by
  refine rt_met Γ kk_X11_place rfl (Nat.le_of_ble_eq_true rfl) rfl ?_
  refine rt_aload_n dX11_place_0 rfl (j := 0) rfl ?_
  refine rt_iconst (v := 0) dX11_place_1 (by decide) ?_
  refine rt_put Γ kp_RX11_54 dX11_place_2 hM (Nat.le_of_ble_eq_true rfl) rfl rfl (fs' := [.int 0, rt_r s0 tp, .int td, .int pl, rt_r s0 lf, rt_r s0 rt, rt_r s0 kp, rt_r s0 sz, rt_r s0 dk, .int ow, .int rw, .int rb, rt_r s0 ou, .int os, rt_r s0 md, .int ms, .int at_, .int fa, .int wh, .int it, .int da, rt_r s0 ak, rt_r s0 pr, .int mn, .int fr, .int sp]) rfl ?_
  have hM1 := rt_up_s w m (.inr (11, [.int 0, rt_r s0 tp, .int td, .int pl, rt_r s0 lf, rt_r s0 rt, rt_r s0 kp, rt_r s0 sz, rt_r s0 dk, .int ow, .int rw, .int rb, rt_r s0 ou, .int os, rt_r s0 md, .int ms, .int at_, .int fa, .int wh, .int it, .int da, rt_r s0 ak, rt_r s0 pr, .int mn, .int fr, .int sp]))
  refine rt_aload_n dX11_place_5 rfl (j := 0) rfl ?_
  refine rt_get Γ kf_RX11_13 dX11_place_6 hM1 rfl ?_
  exact rt_iret dX11_place_9 rfl (⟨rfl, rfl⟩)
set_option maxRecDepth 100000 in
theorem c_X11_rows {l : Launch} {s0 : State} {a0 : Array Value} {G : va_G} {ca : Nat → ClassId} (Γ : rt_Γ l s0 a0 G ca) {d : Nat} {w : rt_Wd} {m tp lf rt kp sz dk ou md ak pr : Nat} {th td pl ow rw rb os ms at_ fa wh it da mn fr sp : Int32} (hM : w.2.2 m = some (.inr (11, [.int th, rt_r s0 tp, .int td, .int pl, rt_r s0 lf, rt_r s0 rt, rt_r s0 kp, rt_r s0 sz, rt_r s0 dk, .int ow, .int rw, .int rb, rt_r s0 ou, .int os, rt_r s0 md, .int ms, .int at_, .int fa, .int wh, .int it, .int da, rt_r s0 ak, rt_r s0 pr, .int mn, .int fr, .int sp]))) : rt_Met l s0 G (.code yX11_rows cX11_rows 1 (Option.some FieldType.int)) yX11_rows d [rt_r s0 m] w (rt_is (.inl (some (.int rw))) (rt_up w m (.inr (11, [.int 0, rt_r s0 tp, .int td, .int pl, rt_r s0 lf, rt_r s0 rt, rt_r s0 kp, rt_r s0 sz, rt_r s0 dk, .int ow, .int rw, .int rb, rt_r s0 ou, .int os, rt_r s0 md, .int ms, .int at_, .int fa, .int wh, .int it, .int da, rt_r s0 ak, rt_r s0 pr, .int mn, .int fr, .int sp])))) := by
  refine rt_met Γ kk_X11_rows rfl (Nat.le_of_ble_eq_true rfl) rfl ?_
  refine rt_aload_n dX11_rows_0 rfl (j := 0) rfl ?_
  refine rt_iconst (v := 0) dX11_rows_1 (by decide) ?_
  refine rt_put Γ kp_RX11_54 dX11_rows_2 hM (Nat.le_of_ble_eq_true rfl) rfl rfl (fs' := [.int 0, rt_r s0 tp, .int td, .int pl, rt_r s0 lf, rt_r s0 rt, rt_r s0 kp, rt_r s0 sz, rt_r s0 dk, .int ow, .int rw, .int rb, rt_r s0 ou, .int os, rt_r s0 md, .int ms, .int at_, .int fa, .int wh, .int it, .int da, rt_r s0 ak, rt_r s0 pr, .int mn, .int fr, .int sp]) rfl ?_
  have hM1 := rt_up_s w m (.inr (11, [.int 0, rt_r s0 tp, .int td, .int pl, rt_r s0 lf, rt_r s0 rt, rt_r s0 kp, rt_r s0 sz, rt_r s0 dk, .int ow, .int rw, .int rb, rt_r s0 ou, .int os, rt_r s0 md, .int ms, .int at_, .int fa, .int wh, .int it, .int da, rt_r s0 ak, rt_r s0 pr, .int mn, .int fr, .int sp]))
  refine rt_aload_n dX11_rows_5 rfl (j := 0) rfl ?_
  refine rt_get Γ kf_RX11_81 dX11_rows_6 hM1 rfl ?_
  exact rt_iret dX11_rows_9 rfl (⟨rfl, rfl⟩)
set_option maxRecDepth 100000 in
theorem c_X11_size0 {l : Launch} {s0 : State} {a0 : Array Value} {G : va_G} {ca : Nat → ClassId} (Γ : rt_Γ l s0 a0 G ca) {d : Nat} {w : rt_Wd} (hd : 1 ≤ d) (hok : rt_ok w) {m tp lf rt kp sz dk ou md ak pr : Nat} {th td pl ow rw rb os ms at_ fa wh it da mn fr sp : Int32} (hM : w.2.2 m = some (.inr (11, [.int th, rt_r s0 tp, .int td, .int pl, rt_r s0 lf, rt_r s0 rt, rt_r s0 kp, rt_r s0 sz, rt_r s0 dk, .int ow, .int rw, .int rb, rt_r s0 ou, .int os, rt_r s0 md, .int ms, .int at_, .int fa, .int wh, .int it, .int da, rt_r s0 ak, rt_r s0 pr, .int mn, .int fr, .int sp]))) : rt_Met l s0 G (.code yX11_size cX11_size 2 (Option.some FieldType.int)) yX11_size d [rt_r s0 m, .int 0] w (rt_is (.inl (some (.int rb))) (rt_up w m (.inr (11, [.int 0, rt_r s0 tp, .int td, .int pl, rt_r s0 lf, rt_r s0 rt, rt_r s0 kp, rt_r s0 sz, rt_r s0 dk, .int ow, .int rw, .int rb, rt_r s0 ou, .int os, rt_r s0 md, .int ms, .int at_, .int fa, .int wh, .int it, .int da, rt_r s0 ak, rt_r s0 pr, .int mn, .int fr, .int sp])))) := by
  refine rt_met Γ kk_X11_size rfl (Nat.le_of_ble_eq_true rfl) rfl ?_
  refine rt_aload_n dX11_size_0 rfl (j := 0) rfl ?_
  refine rt_iload_n dX11_size_1 rfl (j := 1) rfl ?_
  refine rt_iconst (v := 0) dX11_size_2 (by decide) ?_
  refine rt_iconst (v := 1) dX11_size_3 (by decide) ?_
  refine rt_callS Γ kk_X11_within kc_RX11_68 (c_X11_within Γ (d := d - 1) (by decide) (by decide)) (by omega) (by decide) (As := [.int 0, .int 0, .int 1]) (show (parseMethodDescriptor yX11_within.desc).map (fun q => q.parameters.length) = some 3 by decide +kernel) hok (Nat.le_of_ble_eq_true rfl) dX11_size_4 rfl rfl (rt_kr (st2 := [.int 1, rt_r s0 m]) rfl ?_) rt_kx
  refine rt_if_ne (tgt := 14) dX11_size_7 (by decide) (fun _ => ?_) (fun c7 => absurd c7 (by decide))
  refine rt_iconst (v := 0) dX11_size_14 (by decide) ?_
  refine rt_iconst (v := 0) dX11_size_15 (by decide) ?_
  refine rt_callV Γ kk_X11_refused kc_RX11_60 (c_X11_refused0 Γ (d := d - 1) hM) (by omega) (by decide) (As := [.int 0, .int 0]) (show (parseMethodDescriptor yX11_refused.desc).map (fun q => q.parameters.length) = some 2 by decide +kernel) hok (Nat.le_of_ble_eq_true rfl) dX11_size_16 hM rfl rfl rfl (rt_kr (st2 := [.int 0]) rfl ?_) rt_kx
  refine rt_if_eq (tgt := 26) dX11_size_19 (by decide) (fun _ => ?_) (fun c19 => absurd rfl c19)
  refine rt_iload_n dX11_size_26 rfl (j := 1) rfl ?_
  have hM1 := rt_up_s w m (.inr (11, [.int 0, rt_r s0 tp, .int td, .int pl, rt_r s0 lf, rt_r s0 rt, rt_r s0 kp, rt_r s0 sz, rt_r s0 dk, .int ow, .int rw, .int rb, rt_r s0 ou, .int os, rt_r s0 md, .int ms, .int at_, .int fa, .int wh, .int it, .int da, rt_r s0 ak, rt_r s0 pr, .int mn, .int fr, .int sp]))
  refine rt_if_ne (tgt := 37) dX11_size_27 (by decide) (fun c27 => absurd c27 (fun h => h rfl)) (fun _ => ?_)
  refine rt_aload_n dX11_size_30 rfl (j := 0) rfl ?_
  refine rt_get Γ kf_RX11_84 dX11_size_31 hM1 rfl ?_
  refine rt_goto (tgt := 41) dX11_size_34 (by decide) ?_
  exact rt_iret dX11_size_41 rfl (⟨rfl, rfl⟩)
set_option maxRecDepth 100000 in
theorem c_X11_size1 {l : Launch} {s0 : State} {a0 : Array Value} {G : va_G} {ca : Nat → ClassId} (Γ : rt_Γ l s0 a0 G ca) {d : Nat} {w : rt_Wd} (hd : 1 ≤ d) (hok : rt_ok w) {m tp lf rt kp sz dk ou md ak pr : Nat} {th td pl ow rw rb os ms at_ fa wh it da mn fr sp : Int32} (hM : w.2.2 m = some (.inr (11, [.int th, rt_r s0 tp, .int td, .int pl, rt_r s0 lf, rt_r s0 rt, rt_r s0 kp, rt_r s0 sz, rt_r s0 dk, .int ow, .int rw, .int rb, rt_r s0 ou, .int os, rt_r s0 md, .int ms, .int at_, .int fa, .int wh, .int it, .int da, rt_r s0 ak, rt_r s0 pr, .int mn, .int fr, .int sp]))) : rt_Met l s0 G (.code yX11_size cX11_size 2 (Option.some FieldType.int)) yX11_size d [rt_r s0 m, .int 1] w (rt_is (.inl (some (.int os))) (rt_up w m (.inr (11, [.int 0, rt_r s0 tp, .int td, .int pl, rt_r s0 lf, rt_r s0 rt, rt_r s0 kp, rt_r s0 sz, rt_r s0 dk, .int ow, .int rw, .int rb, rt_r s0 ou, .int os, rt_r s0 md, .int ms, .int at_, .int fa, .int wh, .int it, .int da, rt_r s0 ak, rt_r s0 pr, .int mn, .int fr, .int sp])))) := by
  refine rt_met Γ kk_X11_size rfl (Nat.le_of_ble_eq_true rfl) rfl ?_
  refine rt_aload_n dX11_size_0 rfl (j := 0) rfl ?_
  refine rt_iload_n dX11_size_1 rfl (j := 1) rfl ?_
  refine rt_iconst (v := 0) dX11_size_2 (by decide) ?_
  refine rt_iconst (v := 1) dX11_size_3 (by decide) ?_
  refine rt_callS Γ kk_X11_within kc_RX11_68 (c_X11_within Γ (d := d - 1) (by decide) (by decide)) (by omega) (by decide) (As := [.int 1, .int 0, .int 1]) (show (parseMethodDescriptor yX11_within.desc).map (fun q => q.parameters.length) = some 3 by decide +kernel) hok (Nat.le_of_ble_eq_true rfl) dX11_size_4 rfl rfl (rt_kr (st2 := [.int 1, rt_r s0 m]) rfl ?_) rt_kx
  refine rt_if_ne (tgt := 14) dX11_size_7 (by decide) (fun _ => ?_) (fun c7 => absurd c7 (by decide))
  refine rt_iconst (v := 0) dX11_size_14 (by decide) ?_
  refine rt_iconst (v := 0) dX11_size_15 (by decide) ?_
  refine rt_callV Γ kk_X11_refused kc_RX11_60 (c_X11_refused0 Γ (d := d - 1) hM) (by omega) (by decide) (As := [.int 0, .int 0]) (show (parseMethodDescriptor yX11_refused.desc).map (fun q => q.parameters.length) = some 2 by decide +kernel) hok (Nat.le_of_ble_eq_true rfl) dX11_size_16 hM rfl rfl rfl (rt_kr (st2 := [.int 0]) rfl ?_) rt_kx
  refine rt_if_eq (tgt := 26) dX11_size_19 (by decide) (fun _ => ?_) (fun c19 => absurd rfl c19)
  refine rt_iload_n dX11_size_26 rfl (j := 1) rfl ?_
  have hM1 := rt_up_s w m (.inr (11, [.int 0, rt_r s0 tp, .int td, .int pl, rt_r s0 lf, rt_r s0 rt, rt_r s0 kp, rt_r s0 sz, rt_r s0 dk, .int ow, .int rw, .int rb, rt_r s0 ou, .int os, rt_r s0 md, .int ms, .int at_, .int fa, .int wh, .int it, .int da, rt_r s0 ak, rt_r s0 pr, .int mn, .int fr, .int sp]))
  refine rt_if_ne (tgt := 37) dX11_size_27 (by decide) (fun _ => ?_) (fun c27 => absurd c27 (by decide))
  refine rt_aload_n dX11_size_37 rfl (j := 0) rfl ?_
  refine rt_get Γ kf_RX11_198 dX11_size_38 hM1 rfl ?_
  exact rt_iret dX11_size_41 rfl (⟨rfl, rfl⟩)
set_option maxRecDepth 100000 in
theorem c_X11_sizeT {l : Launch} {s0 : State} {a0 : Array Value} {G : va_G} {ca : Nat → ClassId} (Γ : rt_Γ l s0 a0 G ca) {d : Nat} {w : rt_Wd} (hd : 1 ≤ d) (hok : rt_ok w) {m tp lf rt kp sz dk ou md ak pr : Nat} {th td pl ow rw rb os ms at_ fa wh it da mn fr sp : Int32} (hM : w.2.2 m = some (.inr (11, [.int th, rt_r s0 tp, .int td, .int pl, rt_r s0 lf, rt_r s0 rt, rt_r s0 kp, rt_r s0 sz, rt_r s0 dk, .int ow, .int rw, .int rb, rt_r s0 ou, .int os, rt_r s0 md, .int ms, .int at_, .int fa, .int wh, .int it, .int da, rt_r s0 ak, rt_r s0 pr, .int mn, .int fr, .int sp]))) {v : Int32} (h0 : v < 0) : rt_Met l s0 G (.code yX11_size cX11_size 2 (Option.some FieldType.int)) yX11_size d [rt_r s0 m, .int v] w (rt_is (.inl (some (.int 0))) (rt_up w m (.inr (11, [.int 1, rt_r s0 tp, .int td, .int pl, rt_r s0 lf, rt_r s0 rt, rt_r s0 kp, rt_r s0 sz, rt_r s0 dk, .int ow, .int rw, .int rb, rt_r s0 ou, .int os, rt_r s0 md, .int ms, .int at_, .int fa, .int wh, .int it, .int da, rt_r s0 ak, rt_r s0 pr, .int mn, .int fr, .int sp])))) := by
  refine rt_met Γ kk_X11_size rfl (Nat.le_of_ble_eq_true rfl) rfl ?_
  refine rt_aload_n dX11_size_0 rfl (j := 0) rfl ?_
  refine rt_iload_n dX11_size_1 rfl (j := 1) rfl ?_
  refine rt_iconst (v := 0) dX11_size_2 (by decide) ?_
  refine rt_iconst (v := 1) dX11_size_3 (by decide) ?_
  refine rt_callS Γ kk_X11_within kc_RX11_68 (c_X11_withinT Γ (d := d - 1) h0) (by omega) (by decide) (As := [.int v, .int 0, .int 1]) (show (parseMethodDescriptor yX11_within.desc).map (fun q => q.parameters.length) = some 3 by decide +kernel) hok (Nat.le_of_ble_eq_true rfl) dX11_size_4 rfl rfl (rt_kr (st2 := [.int 0, rt_r s0 m]) rfl ?_) rt_kx
  refine rt_if_ne (tgt := 14) dX11_size_7 (by decide) (fun c7 => absurd c7 (fun h => h rfl)) (fun _ => ?_)
  refine rt_iconst (v := 1) dX11_size_10 (by decide) ?_
  refine rt_goto (tgt := 15) dX11_size_11 (by decide) ?_
  refine rt_iconst (v := 0) dX11_size_15 (by decide) ?_
  refine rt_callV Γ kk_X11_refused kc_RX11_60 (c_X11_refused1 Γ (d := d - 1) hM) (by omega) (by decide) (As := [.int 1, .int 0]) (show (parseMethodDescriptor yX11_refused.desc).map (fun q => q.parameters.length) = some 2 by decide +kernel) hok (Nat.le_of_ble_eq_true rfl) dX11_size_16 hM rfl rfl rfl (rt_kr (st2 := [.int 1]) rfl ?_) rt_kx
  refine rt_if_eq (tgt := 26) dX11_size_19 (by decide) (fun c19 => absurd c19 (by decide)) (fun _ => ?_)
  refine rt_iconst (v := 0) dX11_size_22 (by decide) ?_
  refine rt_goto (tgt := 41) dX11_size_23 (by decide) ?_
  exact rt_iret dX11_size_41 rfl (⟨rfl, rfl⟩)
set_option maxRecDepth 100000 in
theorem c_X11_sizeU {l : Launch} {s0 : State} {a0 : Array Value} {G : va_G} {ca : Nat → ClassId} (Γ : rt_Γ l s0 a0 G ca) {d : Nat} {w : rt_Wd} (hd : 1 ≤ d) (hok : rt_ok w) {m tp lf rt kp sz dk ou md ak pr : Nat} {th td pl ow rw rb os ms at_ fa wh it da mn fr sp : Int32} (hM : w.2.2 m = some (.inr (11, [.int th, rt_r s0 tp, .int td, .int pl, rt_r s0 lf, rt_r s0 rt, rt_r s0 kp, rt_r s0 sz, rt_r s0 dk, .int ow, .int rw, .int rb, rt_r s0 ou, .int os, rt_r s0 md, .int ms, .int at_, .int fa, .int wh, .int it, .int da, rt_r s0 ak, rt_r s0 pr, .int mn, .int fr, .int sp]))) {v : Int32} (h0 : ¬ v < 0) (h1 : 1 < v) : rt_Met l s0 G (.code yX11_size cX11_size 2 (Option.some FieldType.int)) yX11_size d [rt_r s0 m, .int v] w (rt_is (.inl (some (.int 0))) (rt_up w m (.inr (11, [.int 1, rt_r s0 tp, .int td, .int pl, rt_r s0 lf, rt_r s0 rt, rt_r s0 kp, rt_r s0 sz, rt_r s0 dk, .int ow, .int rw, .int rb, rt_r s0 ou, .int os, rt_r s0 md, .int ms, .int at_, .int fa, .int wh, .int it, .int da, rt_r s0 ak, rt_r s0 pr, .int mn, .int fr, .int sp])))) := by
  refine rt_met Γ kk_X11_size rfl (Nat.le_of_ble_eq_true rfl) rfl ?_
  refine rt_aload_n dX11_size_0 rfl (j := 0) rfl ?_
  refine rt_iload_n dX11_size_1 rfl (j := 1) rfl ?_
  refine rt_iconst (v := 0) dX11_size_2 (by decide) ?_
  refine rt_iconst (v := 1) dX11_size_3 (by decide) ?_
  refine rt_callS Γ kk_X11_within kc_RX11_68 (c_X11_withinU Γ (d := d - 1) h0 h1) (by omega) (by decide) (As := [.int v, .int 0, .int 1]) (show (parseMethodDescriptor yX11_within.desc).map (fun q => q.parameters.length) = some 3 by decide +kernel) hok (Nat.le_of_ble_eq_true rfl) dX11_size_4 rfl rfl (rt_kr (st2 := [.int 0, rt_r s0 m]) rfl ?_) rt_kx
  refine rt_if_ne (tgt := 14) dX11_size_7 (by decide) (fun c7 => absurd c7 (fun h => h rfl)) (fun _ => ?_)
  refine rt_iconst (v := 1) dX11_size_10 (by decide) ?_
  refine rt_goto (tgt := 15) dX11_size_11 (by decide) ?_
  refine rt_iconst (v := 0) dX11_size_15 (by decide) ?_
  refine rt_callV Γ kk_X11_refused kc_RX11_60 (c_X11_refused1 Γ (d := d - 1) hM) (by omega) (by decide) (As := [.int 1, .int 0]) (show (parseMethodDescriptor yX11_refused.desc).map (fun q => q.parameters.length) = some 2 by decide +kernel) hok (Nat.le_of_ble_eq_true rfl) dX11_size_16 hM rfl rfl rfl (rt_kr (st2 := [.int 1]) rfl ?_) rt_kx
  refine rt_if_eq (tgt := 26) dX11_size_19 (by decide) (fun c19 => absurd c19 (by decide)) (fun _ => ?_)
  refine rt_iconst (v := 0) dX11_size_22 (by decide) ?_
  refine rt_goto (tgt := 41) dX11_size_23 (by decide) ?_
  exact rt_iret dX11_size_41 rfl (⟨rfl, rfl⟩)
set_option maxRecDepth 100000 in
theorem c_X11_letterT {l : Launch} {s0 : State} {a0 : Array Value} {G : va_G} {ca : Nat → ClassId} (Γ : rt_Γ l s0 a0 G ca) {d : Nat} {w : rt_Wd} (hd : 1 ≤ d) (hok : rt_ok w) {m tp lf rt kp sz dk ou md ak pr : Nat} {th td pl ow rw rb os ms at_ fa wh it da mn fr sp : Int32} (hM : w.2.2 m = some (.inr (11, [.int th, rt_r s0 tp, .int td, .int pl, rt_r s0 lf, rt_r s0 rt, rt_r s0 kp, rt_r s0 sz, rt_r s0 dk, .int ow, .int rw, .int rb, rt_r s0 ou, .int os, rt_r s0 md, .int ms, .int at_, .int fa, .int wh, .int it, .int da, rt_r s0 ak, rt_r s0 pr, .int mn, .int fr, .int sp]))) {i v : Int32} (h0 : v < 0) : rt_Met l s0 G (.code yX11_letter cX11_letter 4 (Option.some FieldType.int)) yX11_letter d [rt_r s0 m, .int i, .int v] w (rt_is (.inl (some (.int 0))) (rt_up w m (.inr (11, [.int 2, rt_r s0 tp, .int td, .int pl, rt_r s0 lf, rt_r s0 rt, rt_r s0 kp, rt_r s0 sz, rt_r s0 dk, .int ow, .int rw, .int rb, rt_r s0 ou, .int os, rt_r s0 md, .int ms, .int at_, .int fa, .int wh, .int it, .int da, rt_r s0 ak, rt_r s0 pr, .int mn, .int fr, .int sp])))) := by
  refine rt_met Γ kk_X11_letter rfl (Nat.le_of_ble_eq_true rfl) rfl ?_
  refine rt_iload_n dX11_letter_0 rfl (j := 2) rfl ?_
  refine rt_iconst (v := 0) dX11_letter_1 (by decide) ?_
  refine rt_iconst (v := 1) dX11_letter_2 (by decide) ?_
  refine rt_callS Γ kk_X11_within kc_RX11_68 (c_X11_withinT Γ (d := d - 1) h0) (by omega) (by decide) (As := [.int v, .int 0, .int 1]) (show (parseMethodDescriptor yX11_within.desc).map (fun q => q.parameters.length) = some 3 by decide +kernel) hok (Nat.le_of_ble_eq_true rfl) dX11_letter_3 rfl rfl (rt_kr (st2 := [.int 0]) rfl ?_) rt_kx
  refine rt_if_ne (tgt := 13) dX11_letter_6 (by decide) (fun c6 => absurd c6 (fun h => h rfl)) (fun _ => ?_)
  refine rt_iconst (v := 1) dX11_letter_9 (by decide) ?_
  refine rt_goto (tgt := 14) dX11_letter_10 (by decide) ?_
  refine rt_istore_n (lv' := [(3, .int 1), (0, rt_r s0 m), (1, .int i), (2, .int v)]) dX11_letter_14 rfl (by decide) rfl ?_
  refine rt_aload_n dX11_letter_15 rfl (j := 1) rfl ?_
  refine rt_iload_n dX11_letter_16 rfl (j := 0) rfl ?_
  refine rt_if_ne (tgt := 49) dX11_letter_17 (by decide) (fun _ => ?_) (fun c17 => absurd c17 (by decide))
  refine rt_iconst (v := 0) dX11_letter_49 (by decide) ?_
  refine rt_iload_n dX11_letter_50 rfl (j := 0) rfl ?_
  refine rt_callV Γ kk_X11_refused kc_RX11_60 (c_X11_refused2 Γ (d := d - 1) hM) (by omega) (by decide) (As := [.int 0, .int 1]) (show (parseMethodDescriptor yX11_refused.desc).map (fun q => q.parameters.length) = some 2 by decide +kernel) hok (Nat.le_of_ble_eq_true rfl) dX11_letter_51 hM rfl rfl rfl (rt_kr (st2 := [.int 1]) rfl ?_) rt_kx
  refine rt_if_eq (tgt := 59) dX11_letter_54 (by decide) (fun c54 => absurd c54 (by decide)) (fun _ => ?_)
  refine rt_iconst (v := 0) dX11_letter_57 (by decide) ?_
  exact rt_iret dX11_letter_58 rfl (⟨rfl, rfl⟩)
set_option maxRecDepth 100000 in
theorem c_X11_letterU {l : Launch} {s0 : State} {a0 : Array Value} {G : va_G} {ca : Nat → ClassId} (Γ : rt_Γ l s0 a0 G ca) {d : Nat} {w : rt_Wd} (hd : 1 ≤ d) (hok : rt_ok w) {m tp lf rt kp sz dk ou md ak pr : Nat} {th td pl ow rw rb os ms at_ fa wh it da mn fr sp : Int32} (hM : w.2.2 m = some (.inr (11, [.int th, rt_r s0 tp, .int td, .int pl, rt_r s0 lf, rt_r s0 rt, rt_r s0 kp, rt_r s0 sz, rt_r s0 dk, .int ow, .int rw, .int rb, rt_r s0 ou, .int os, rt_r s0 md, .int ms, .int at_, .int fa, .int wh, .int it, .int da, rt_r s0 ak, rt_r s0 pr, .int mn, .int fr, .int sp]))) {i v : Int32} (h0 : ¬ v < 0) (h1 : 1 < v) : rt_Met l s0 G (.code yX11_letter cX11_letter 4 (Option.some FieldType.int)) yX11_letter d [rt_r s0 m, .int i, .int v] w (rt_is (.inl (some (.int 0))) (rt_up w m (.inr (11, [.int 2, rt_r s0 tp, .int td, .int pl, rt_r s0 lf, rt_r s0 rt, rt_r s0 kp, rt_r s0 sz, rt_r s0 dk, .int ow, .int rw, .int rb, rt_r s0 ou, .int os, rt_r s0 md, .int ms, .int at_, .int fa, .int wh, .int it, .int da, rt_r s0 ak, rt_r s0 pr, .int mn, .int fr, .int sp])))) := by
  refine rt_met Γ kk_X11_letter rfl (Nat.le_of_ble_eq_true rfl) rfl ?_
  refine rt_iload_n dX11_letter_0 rfl (j := 2) rfl ?_
  refine rt_iconst (v := 0) dX11_letter_1 (by decide) ?_
  refine rt_iconst (v := 1) dX11_letter_2 (by decide) ?_
  refine rt_callS Γ kk_X11_within kc_RX11_68 (c_X11_withinU Γ (d := d - 1) h0 h1) (by omega) (by decide) (As := [.int v, .int 0, .int 1]) (show (parseMethodDescriptor yX11_within.desc).map (fun q => q.parameters.length) = some 3 by decide +kernel) hok (Nat.le_of_ble_eq_true rfl) dX11_letter_3 rfl rfl (rt_kr (st2 := [.int 0]) rfl ?_) rt_kx
  refine rt_if_ne (tgt := 13) dX11_letter_6 (by decide) (fun c6 => absurd c6 (fun h => h rfl)) (fun _ => ?_)
  refine rt_iconst (v := 1) dX11_letter_9 (by decide) ?_
  refine rt_goto (tgt := 14) dX11_letter_10 (by decide) ?_
  refine rt_istore_n (lv' := [(3, .int 1), (0, rt_r s0 m), (1, .int i), (2, .int v)]) dX11_letter_14 rfl (by decide) rfl ?_
  refine rt_aload_n dX11_letter_15 rfl (j := 1) rfl ?_
  refine rt_iload_n dX11_letter_16 rfl (j := 0) rfl ?_
  refine rt_if_ne (tgt := 49) dX11_letter_17 (by decide) (fun _ => ?_) (fun c17 => absurd c17 (by decide))
  refine rt_iconst (v := 0) dX11_letter_49 (by decide) ?_
  refine rt_iload_n dX11_letter_50 rfl (j := 0) rfl ?_
  refine rt_callV Γ kk_X11_refused kc_RX11_60 (c_X11_refused2 Γ (d := d - 1) hM) (by omega) (by decide) (As := [.int 0, .int 1]) (show (parseMethodDescriptor yX11_refused.desc).map (fun q => q.parameters.length) = some 2 by decide +kernel) hok (Nat.le_of_ble_eq_true rfl) dX11_letter_51 hM rfl rfl rfl (rt_kr (st2 := [.int 1]) rfl ?_) rt_kx
  refine rt_if_eq (tgt := 59) dX11_letter_54 (by decide) (fun c54 => absurd c54 (by decide)) (fun _ => ?_)
  refine rt_iconst (v := 0) dX11_letter_57 (by decide) ?_
  exact rt_iret dX11_letter_58 rfl (⟨rfl, rfl⟩)
set_option maxRecDepth 100000 in
theorem c_X11_letter0I {l : Launch} {s0 : State} {a0 : Array Value} {G : va_G} {ca : Nat → ClassId} (Γ : rt_Γ l s0 a0 G ca) {d : Nat} {w : rt_Wd} (hd : 1 ≤ d) (hok : rt_ok w) {m tp lf rt kp sz dk ou md ak pr : Nat} {th td pl ow rw rb os ms at_ fa wh it da mn fr sp : Int32} (hM : w.2.2 m = some (.inr (11, [.int th, rt_r s0 tp, .int td, .int pl, rt_r s0 lf, rt_r s0 rt, rt_r s0 kp, rt_r s0 sz, rt_r s0 dk, .int ow, .int rw, .int rb, rt_r s0 ou, .int os, rt_r s0 md, .int ms, .int at_, .int fa, .int wh, .int it, .int da, rt_r s0 ak, rt_r s0 pr, .int mn, .int fr, .int sp]))) {i : Int32} (h0 : i < 0) : rt_Met l s0 G (.code yX11_letter cX11_letter 4 (Option.some FieldType.int)) yX11_letter d [rt_r s0 m, .int i, .int 0] w (rt_is (.inl (some (.int 0))) (rt_up w m (.inr (11, [.int 1, rt_r s0 tp, .int td, .int pl, rt_r s0 lf, rt_r s0 rt, rt_r s0 kp, rt_r s0 sz, rt_r s0 dk, .int ow, .int rw, .int rb, rt_r s0 ou, .int os, rt_r s0 md, .int ms, .int at_, .int fa, .int wh, .int it, .int da, rt_r s0 ak, rt_r s0 pr, .int mn, .int fr, .int sp])))) := by
  refine rt_met Γ kk_X11_letter rfl (Nat.le_of_ble_eq_true rfl) rfl ?_
  refine rt_iload_n dX11_letter_0 rfl (j := 2) rfl ?_
  refine rt_iconst (v := 0) dX11_letter_1 (by decide) ?_
  refine rt_iconst (v := 1) dX11_letter_2 (by decide) ?_
  refine rt_callS Γ kk_X11_within kc_RX11_68 (c_X11_within Γ (d := d - 1) (by decide) (by decide)) (by omega) (by decide) (As := [.int 0, .int 0, .int 1]) (show (parseMethodDescriptor yX11_within.desc).map (fun q => q.parameters.length) = some 3 by decide +kernel) hok (Nat.le_of_ble_eq_true rfl) dX11_letter_3 rfl rfl (rt_kr (st2 := [.int 1]) rfl ?_) rt_kx
  refine rt_if_ne (tgt := 13) dX11_letter_6 (by decide) (fun _ => ?_) (fun c6 => absurd c6 (by decide))
  refine rt_iconst (v := 0) dX11_letter_13 (by decide) ?_
  refine rt_istore_n (lv' := [(3, .int 0), (0, rt_r s0 m), (1, .int i), (2, .int 0)]) dX11_letter_14 rfl (by decide) rfl ?_
  refine rt_aload_n dX11_letter_15 rfl (j := 1) rfl ?_
  refine rt_iload_n dX11_letter_16 rfl (j := 0) rfl ?_
  refine rt_if_ne (tgt := 49) dX11_letter_17 (by decide) (fun c17 => absurd c17 (fun h => h rfl)) (fun _ => ?_)
  refine rt_iload_n dX11_letter_20 rfl (j := 2) rfl ?_
  refine rt_iconst (v := 0) dX11_letter_21 (by decide) ?_
  refine rt_iload_n dX11_letter_22 rfl (j := 3) rfl ?_
  refine rt_if_ne (tgt := 33) dX11_letter_23 (by decide) (fun c23 => absurd c23 (fun h => h rfl)) (fun _ => ?_)
  refine rt_aload_n dX11_letter_26 rfl (j := 1) rfl ?_
  refine rt_get Γ kf_RX11_84 dX11_letter_27 hM rfl ?_
  refine rt_goto (tgt := 37) dX11_letter_30 (by decide) ?_
  refine rt_iconst (v := 1) dX11_letter_37 (by decide) ?_
  refine rt_isub dX11_letter_38 ?_
  refine rt_topi (fun x38 ex38 => ?_)
  refine rt_callS Γ kk_X11_within kc_RX11_68 (c_X11_withinT Γ (d := d - 1) h0) (by omega) (by decide) (As := [.int i, .int 0, .int x38]) (show (parseMethodDescriptor yX11_within.desc).map (fun q => q.parameters.length) = some 3 by decide +kernel) hok (Nat.le_of_ble_eq_true rfl) dX11_letter_39 rfl rfl (rt_kr (st2 := [.int 0, rt_r s0 m]) rfl ?_) rt_kx
  refine rt_if_ne (tgt := 49) dX11_letter_42 (by decide) (fun c42 => absurd c42 (fun h => h rfl)) (fun _ => ?_)
  refine rt_iconst (v := 1) dX11_letter_45 (by decide) ?_
  refine rt_goto (tgt := 50) dX11_letter_46 (by decide) ?_
  refine rt_iload_n dX11_letter_50 rfl (j := 0) rfl ?_
  refine rt_callV Γ kk_X11_refused kc_RX11_60 (c_X11_refused1 Γ (d := d - 1) hM) (by omega) (by decide) (As := [.int 1, .int 0]) (show (parseMethodDescriptor yX11_refused.desc).map (fun q => q.parameters.length) = some 2 by decide +kernel) hok (Nat.le_of_ble_eq_true rfl) dX11_letter_51 hM rfl rfl rfl (rt_kr (st2 := [.int 1]) rfl ?_) rt_kx
  refine rt_if_eq (tgt := 59) dX11_letter_54 (by decide) (fun c54 => absurd c54 (by decide)) (fun _ => ?_)
  refine rt_iconst (v := 0) dX11_letter_57 (by decide) ?_
  exact rt_iret dX11_letter_58 rfl (⟨rfl, rfl⟩)
set_option maxRecDepth 100000 in
theorem c_X11_letter0J {l : Launch} {s0 : State} {a0 : Array Value} {G : va_G} {ca : Nat → ClassId} (Γ : rt_Γ l s0 a0 G ca) {d : Nat} {w : rt_Wd} (hd : 1 ≤ d) (hok : rt_ok w) {m tp lf rt kp sz dk ou md ak pr : Nat} {th td pl ow rw rb os ms at_ fa wh it da mn fr sp : Int32} (hM : w.2.2 m = some (.inr (11, [.int th, rt_r s0 tp, .int td, .int pl, rt_r s0 lf, rt_r s0 rt, rt_r s0 kp, rt_r s0 sz, rt_r s0 dk, .int ow, .int rw, .int rb, rt_r s0 ou, .int os, rt_r s0 md, .int ms, .int at_, .int fa, .int wh, .int it, .int da, rt_r s0 ak, rt_r s0 pr, .int mn, .int fr, .int sp]))) {i : Int32} (h0 : ¬ i < 0) (h1 : rb - 1 < i) : rt_Met l s0 G (.code yX11_letter cX11_letter 4 (Option.some FieldType.int)) yX11_letter d [rt_r s0 m, .int i, .int 0] w (rt_is (.inl (some (.int 0))) (rt_up w m (.inr (11, [.int 1, rt_r s0 tp, .int td, .int pl, rt_r s0 lf, rt_r s0 rt, rt_r s0 kp, rt_r s0 sz, rt_r s0 dk, .int ow, .int rw, .int rb, rt_r s0 ou, .int os, rt_r s0 md, .int ms, .int at_, .int fa, .int wh, .int it, .int da, rt_r s0 ak, rt_r s0 pr, .int mn, .int fr, .int sp])))) := by
  refine rt_met Γ kk_X11_letter rfl (Nat.le_of_ble_eq_true rfl) rfl ?_
  refine rt_iload_n dX11_letter_0 rfl (j := 2) rfl ?_
  refine rt_iconst (v := 0) dX11_letter_1 (by decide) ?_
  refine rt_iconst (v := 1) dX11_letter_2 (by decide) ?_
  refine rt_callS Γ kk_X11_within kc_RX11_68 (c_X11_within Γ (d := d - 1) (by decide) (by decide)) (by omega) (by decide) (As := [.int 0, .int 0, .int 1]) (show (parseMethodDescriptor yX11_within.desc).map (fun q => q.parameters.length) = some 3 by decide +kernel) hok (Nat.le_of_ble_eq_true rfl) dX11_letter_3 rfl rfl (rt_kr (st2 := [.int 1]) rfl ?_) rt_kx
  refine rt_if_ne (tgt := 13) dX11_letter_6 (by decide) (fun _ => ?_) (fun c6 => absurd c6 (by decide))
  refine rt_iconst (v := 0) dX11_letter_13 (by decide) ?_
  refine rt_istore_n (lv' := [(3, .int 0), (0, rt_r s0 m), (1, .int i), (2, .int 0)]) dX11_letter_14 rfl (by decide) rfl ?_
  refine rt_aload_n dX11_letter_15 rfl (j := 1) rfl ?_
  refine rt_iload_n dX11_letter_16 rfl (j := 0) rfl ?_
  refine rt_if_ne (tgt := 49) dX11_letter_17 (by decide) (fun c17 => absurd c17 (fun h => h rfl)) (fun _ => ?_)
  refine rt_iload_n dX11_letter_20 rfl (j := 2) rfl ?_
  refine rt_iconst (v := 0) dX11_letter_21 (by decide) ?_
  refine rt_iload_n dX11_letter_22 rfl (j := 3) rfl ?_
  refine rt_if_ne (tgt := 33) dX11_letter_23 (by decide) (fun c23 => absurd c23 (fun h => h rfl)) (fun _ => ?_)
  refine rt_aload_n dX11_letter_26 rfl (j := 1) rfl ?_
  refine rt_get Γ kf_RX11_84 dX11_letter_27 hM rfl ?_
  refine rt_goto (tgt := 37) dX11_letter_30 (by decide) ?_
  refine rt_iconst (v := 1) dX11_letter_37 (by decide) ?_
  refine rt_isub dX11_letter_38 ?_
  refine rt_topi (fun x38 ex38 => ?_)
  refine rt_callS Γ kk_X11_within kc_RX11_68 (c_X11_withinU Γ (d := d - 1) h0 (by rw [ex38]; exact h1)) (by omega) (by decide) (As := [.int i, .int 0, .int x38]) (show (parseMethodDescriptor yX11_within.desc).map (fun q => q.parameters.length) = some 3 by decide +kernel) hok (Nat.le_of_ble_eq_true rfl) dX11_letter_39 rfl rfl (rt_kr (st2 := [.int 0, rt_r s0 m]) rfl ?_) rt_kx
  refine rt_if_ne (tgt := 49) dX11_letter_42 (by decide) (fun c42 => absurd c42 (fun h => h rfl)) (fun _ => ?_)
  refine rt_iconst (v := 1) dX11_letter_45 (by decide) ?_
  refine rt_goto (tgt := 50) dX11_letter_46 (by decide) ?_
  refine rt_iload_n dX11_letter_50 rfl (j := 0) rfl ?_
  refine rt_callV Γ kk_X11_refused kc_RX11_60 (c_X11_refused1 Γ (d := d - 1) hM) (by omega) (by decide) (As := [.int 1, .int 0]) (show (parseMethodDescriptor yX11_refused.desc).map (fun q => q.parameters.length) = some 2 by decide +kernel) hok (Nat.le_of_ble_eq_true rfl) dX11_letter_51 hM rfl rfl rfl (rt_kr (st2 := [.int 1]) rfl ?_) rt_kx
  refine rt_if_eq (tgt := 59) dX11_letter_54 (by decide) (fun c54 => absurd c54 (by decide)) (fun _ => ?_)
  refine rt_iconst (v := 0) dX11_letter_57 (by decide) ?_
  exact rt_iret dX11_letter_58 rfl (⟨rfl, rfl⟩)
set_option maxRecDepth 100000 in
theorem c_X11_letter1I {l : Launch} {s0 : State} {a0 : Array Value} {G : va_G} {ca : Nat → ClassId} (Γ : rt_Γ l s0 a0 G ca) {d : Nat} {w : rt_Wd} (hd : 1 ≤ d) (hok : rt_ok w) {m tp lf rt kp sz dk ou md ak pr : Nat} {th td pl ow rw rb os ms at_ fa wh it da mn fr sp : Int32} (hM : w.2.2 m = some (.inr (11, [.int th, rt_r s0 tp, .int td, .int pl, rt_r s0 lf, rt_r s0 rt, rt_r s0 kp, rt_r s0 sz, rt_r s0 dk, .int ow, .int rw, .int rb, rt_r s0 ou, .int os, rt_r s0 md, .int ms, .int at_, .int fa, .int wh, .int it, .int da, rt_r s0 ak, rt_r s0 pr, .int mn, .int fr, .int sp]))) {i : Int32} (h0 : i < 0) : rt_Met l s0 G (.code yX11_letter cX11_letter 4 (Option.some FieldType.int)) yX11_letter d [rt_r s0 m, .int i, .int 1] w (rt_is (.inl (some (.int 0))) (rt_up w m (.inr (11, [.int 1, rt_r s0 tp, .int td, .int pl, rt_r s0 lf, rt_r s0 rt, rt_r s0 kp, rt_r s0 sz, rt_r s0 dk, .int ow, .int rw, .int rb, rt_r s0 ou, .int os, rt_r s0 md, .int ms, .int at_, .int fa, .int wh, .int it, .int da, rt_r s0 ak, rt_r s0 pr, .int mn, .int fr, .int sp])))) := by
  refine rt_met Γ kk_X11_letter rfl (Nat.le_of_ble_eq_true rfl) rfl ?_
  refine rt_iload_n dX11_letter_0 rfl (j := 2) rfl ?_
  refine rt_iconst (v := 0) dX11_letter_1 (by decide) ?_
  refine rt_iconst (v := 1) dX11_letter_2 (by decide) ?_
  refine rt_callS Γ kk_X11_within kc_RX11_68 (c_X11_within Γ (d := d - 1) (by decide) (by decide)) (by omega) (by decide) (As := [.int 1, .int 0, .int 1]) (show (parseMethodDescriptor yX11_within.desc).map (fun q => q.parameters.length) = some 3 by decide +kernel) hok (Nat.le_of_ble_eq_true rfl) dX11_letter_3 rfl rfl (rt_kr (st2 := [.int 1]) rfl ?_) rt_kx
  refine rt_if_ne (tgt := 13) dX11_letter_6 (by decide) (fun _ => ?_) (fun c6 => absurd c6 (by decide))
  refine rt_iconst (v := 0) dX11_letter_13 (by decide) ?_
  refine rt_istore_n (lv' := [(3, .int 0), (0, rt_r s0 m), (1, .int i), (2, .int 1)]) dX11_letter_14 rfl (by decide) rfl ?_
  refine rt_aload_n dX11_letter_15 rfl (j := 1) rfl ?_
  refine rt_iload_n dX11_letter_16 rfl (j := 0) rfl ?_
  refine rt_if_ne (tgt := 49) dX11_letter_17 (by decide) (fun c17 => absurd c17 (fun h => h rfl)) (fun _ => ?_)
  refine rt_iload_n dX11_letter_20 rfl (j := 2) rfl ?_
  refine rt_iconst (v := 0) dX11_letter_21 (by decide) ?_
  refine rt_iload_n dX11_letter_22 rfl (j := 3) rfl ?_
  refine rt_if_ne (tgt := 33) dX11_letter_23 (by decide) (fun _ => ?_) (fun c23 => absurd c23 (by decide))
  refine rt_aload_n dX11_letter_33 rfl (j := 1) rfl ?_
  refine rt_get Γ kf_RX11_198 dX11_letter_34 hM rfl ?_
  refine rt_iconst (v := 1) dX11_letter_37 (by decide) ?_
  refine rt_isub dX11_letter_38 ?_
  refine rt_topi (fun x38 ex38 => ?_)
  refine rt_callS Γ kk_X11_within kc_RX11_68 (c_X11_withinT Γ (d := d - 1) h0) (by omega) (by decide) (As := [.int i, .int 0, .int x38]) (show (parseMethodDescriptor yX11_within.desc).map (fun q => q.parameters.length) = some 3 by decide +kernel) hok (Nat.le_of_ble_eq_true rfl) dX11_letter_39 rfl rfl (rt_kr (st2 := [.int 0, rt_r s0 m]) rfl ?_) rt_kx
  refine rt_if_ne (tgt := 49) dX11_letter_42 (by decide) (fun c42 => absurd c42 (fun h => h rfl)) (fun _ => ?_)
  refine rt_iconst (v := 1) dX11_letter_45 (by decide) ?_
  refine rt_goto (tgt := 50) dX11_letter_46 (by decide) ?_
  refine rt_iload_n dX11_letter_50 rfl (j := 0) rfl ?_
  refine rt_callV Γ kk_X11_refused kc_RX11_60 (c_X11_refused1 Γ (d := d - 1) hM) (by omega) (by decide) (As := [.int 1, .int 0]) (show (parseMethodDescriptor yX11_refused.desc).map (fun q => q.parameters.length) = some 2 by decide +kernel) hok (Nat.le_of_ble_eq_true rfl) dX11_letter_51 hM rfl rfl rfl (rt_kr (st2 := [.int 1]) rfl ?_) rt_kx
  refine rt_if_eq (tgt := 59) dX11_letter_54 (by decide) (fun c54 => absurd c54 (by decide)) (fun _ => ?_)
  refine rt_iconst (v := 0) dX11_letter_57 (by decide) ?_
  exact rt_iret dX11_letter_58 rfl (⟨rfl, rfl⟩)
set_option maxRecDepth 100000 in
theorem c_X11_letter1J {l : Launch} {s0 : State} {a0 : Array Value} {G : va_G} {ca : Nat → ClassId} (Γ : rt_Γ l s0 a0 G ca) {d : Nat} {w : rt_Wd} (hd : 1 ≤ d) (hok : rt_ok w) {m tp lf rt kp sz dk ou md ak pr : Nat} {th td pl ow rw rb os ms at_ fa wh it da mn fr sp : Int32} (hM : w.2.2 m = some (.inr (11, [.int th, rt_r s0 tp, .int td, .int pl, rt_r s0 lf, rt_r s0 rt, rt_r s0 kp, rt_r s0 sz, rt_r s0 dk, .int ow, .int rw, .int rb, rt_r s0 ou, .int os, rt_r s0 md, .int ms, .int at_, .int fa, .int wh, .int it, .int da, rt_r s0 ak, rt_r s0 pr, .int mn, .int fr, .int sp]))) {i : Int32} (h0 : ¬ i < 0) (h1 : os - 1 < i) : rt_Met l s0 G (.code yX11_letter cX11_letter 4 (Option.some FieldType.int)) yX11_letter d [rt_r s0 m, .int i, .int 1] w (rt_is (.inl (some (.int 0))) (rt_up w m (.inr (11, [.int 1, rt_r s0 tp, .int td, .int pl, rt_r s0 lf, rt_r s0 rt, rt_r s0 kp, rt_r s0 sz, rt_r s0 dk, .int ow, .int rw, .int rb, rt_r s0 ou, .int os, rt_r s0 md, .int ms, .int at_, .int fa, .int wh, .int it, .int da, rt_r s0 ak, rt_r s0 pr, .int mn, .int fr, .int sp])))) := by
  refine rt_met Γ kk_X11_letter rfl (Nat.le_of_ble_eq_true rfl) rfl ?_
  refine rt_iload_n dX11_letter_0 rfl (j := 2) rfl ?_
  refine rt_iconst (v := 0) dX11_letter_1 (by decide) ?_
  refine rt_iconst (v := 1) dX11_letter_2 (by decide) ?_
  refine rt_callS Γ kk_X11_within kc_RX11_68 (c_X11_within Γ (d := d - 1) (by decide) (by decide)) (by omega) (by decide) (As := [.int 1, .int 0, .int 1]) (show (parseMethodDescriptor yX11_within.desc).map (fun q => q.parameters.length) = some 3 by decide +kernel) hok (Nat.le_of_ble_eq_true rfl) dX11_letter_3 rfl rfl (rt_kr (st2 := [.int 1]) rfl ?_) rt_kx
  refine rt_if_ne (tgt := 13) dX11_letter_6 (by decide) (fun _ => ?_) (fun c6 => absurd c6 (by decide))
  refine rt_iconst (v := 0) dX11_letter_13 (by decide) ?_
  refine rt_istore_n (lv' := [(3, .int 0), (0, rt_r s0 m), (1, .int i), (2, .int 1)]) dX11_letter_14 rfl (by decide) rfl ?_
  refine rt_aload_n dX11_letter_15 rfl (j := 1) rfl ?_
  refine rt_iload_n dX11_letter_16 rfl (j := 0) rfl ?_
  refine rt_if_ne (tgt := 49) dX11_letter_17 (by decide) (fun c17 => absurd c17 (fun h => h rfl)) (fun _ => ?_)
  refine rt_iload_n dX11_letter_20 rfl (j := 2) rfl ?_
  refine rt_iconst (v := 0) dX11_letter_21 (by decide) ?_
  refine rt_iload_n dX11_letter_22 rfl (j := 3) rfl ?_
  refine rt_if_ne (tgt := 33) dX11_letter_23 (by decide) (fun _ => ?_) (fun c23 => absurd c23 (by decide))
  refine rt_aload_n dX11_letter_33 rfl (j := 1) rfl ?_
  refine rt_get Γ kf_RX11_198 dX11_letter_34 hM rfl ?_
  refine rt_iconst (v := 1) dX11_letter_37 (by decide) ?_
  refine rt_isub dX11_letter_38 ?_
  refine rt_topi (fun x38 ex38 => ?_)
  refine rt_callS Γ kk_X11_within kc_RX11_68 (c_X11_withinU Γ (d := d - 1) h0 (by rw [ex38]; exact h1)) (by omega) (by decide) (As := [.int i, .int 0, .int x38]) (show (parseMethodDescriptor yX11_within.desc).map (fun q => q.parameters.length) = some 3 by decide +kernel) hok (Nat.le_of_ble_eq_true rfl) dX11_letter_39 rfl rfl (rt_kr (st2 := [.int 0, rt_r s0 m]) rfl ?_) rt_kx
  refine rt_if_ne (tgt := 49) dX11_letter_42 (by decide) (fun c42 => absurd c42 (fun h => h rfl)) (fun _ => ?_)
  refine rt_iconst (v := 1) dX11_letter_45 (by decide) ?_
  refine rt_goto (tgt := 50) dX11_letter_46 (by decide) ?_
  refine rt_iload_n dX11_letter_50 rfl (j := 0) rfl ?_
  refine rt_callV Γ kk_X11_refused kc_RX11_60 (c_X11_refused1 Γ (d := d - 1) hM) (by omega) (by decide) (As := [.int 1, .int 0]) (show (parseMethodDescriptor yX11_refused.desc).map (fun q => q.parameters.length) = some 2 by decide +kernel) hok (Nat.le_of_ble_eq_true rfl) dX11_letter_51 hM rfl rfl rfl (rt_kr (st2 := [.int 1]) rfl ?_) rt_kx
  refine rt_if_eq (tgt := 59) dX11_letter_54 (by decide) (fun c54 => absurd c54 (by decide)) (fun _ => ?_)
  refine rt_iconst (v := 0) dX11_letter_57 (by decide) ?_
  exact rt_iret dX11_letter_58 rfl (⟨rfl, rfl⟩)
set_option maxRecDepth 100000 in
theorem c_X11_schemaT {l : Launch} {s0 : State} {a0 : Array Value} {G : va_G} {ca : Nat → ClassId} (Γ : rt_Γ l s0 a0 G ca) {d : Nat} {w : rt_Wd} (hd : 2 ≤ d) (hok : rt_ok w) {m tp lf rt kp sz dk ou md ak pr : Nat} {th td pl ow rw rb os ms at_ fa wh it da mn fr sp : Int32} (hM : w.2.2 m = some (.inr (11, [.int th, rt_r s0 tp, .int td, .int pl, rt_r s0 lf, rt_r s0 rt, rt_r s0 kp, rt_r s0 sz, rt_r s0 dk, .int ow, .int rw, .int rb, rt_r s0 ou, .int os, rt_r s0 md, .int ms, .int at_, .int fa, .int wh, .int it, .int da, rt_r s0 ak, rt_r s0 pr, .int mn, .int fr, .int sp]))) {p : Int32} (h0 : p < 0) : rt_Met l s0 G (.code yX11_schema cX11_schema 4 (Option.some FieldType.int)) yX11_schema d [rt_r s0 m, .int p] w (rt_is (.inl (some (.int 0))) (rt_up w m (.inr (11, [.int 1, rt_r s0 tp, .int td, .int pl, rt_r s0 lf, rt_r s0 rt, rt_r s0 kp, rt_r s0 sz, rt_r s0 dk, .int ow, .int rw, .int rb, rt_r s0 ou, .int os, rt_r s0 md, .int ms, .int at_, .int fa, .int wh, .int it, .int da, rt_r s0 ak, rt_r s0 pr, .int mn, .int fr, .int sp])))) := by
  refine rt_met Γ kk_X11_schema rfl (Nat.le_of_ble_eq_true rfl) rfl ?_
  refine rt_aload_n dX11_schema_0 rfl (j := 0) rfl ?_
  refine rt_iload_n dX11_schema_1 rfl (j := 1) rfl ?_
  refine rt_callS Γ kk_X11_isPlace kc_RX11_76 (c_X11_isPlaceT Γ (d := d - 1) (by omega) hok h0) (by omega) (by decide) (As := [.int p]) (show (parseMethodDescriptor yX11_isPlace.desc).map (fun q => q.parameters.length) = some 1 by decide +kernel) hok (Nat.le_of_ble_eq_true rfl) dX11_schema_2 rfl rfl (rt_kr (st2 := [.int 0, rt_r s0 m]) rfl ?_) rt_kx
  refine rt_if_ne (tgt := 12) dX11_schema_5 (by decide) (fun c5 => absurd c5 (fun h => h rfl)) (fun _ => ?_)
  refine rt_iconst (v := 1) dX11_schema_8 (by decide) ?_
  refine rt_goto (tgt := 13) dX11_schema_9 (by decide) ?_
  refine rt_iconst (v := 0) dX11_schema_13 (by decide) ?_
  refine rt_callV Γ kk_X11_refused kc_RX11_60 (c_X11_refused1 Γ (d := d - 1) hM) (by omega) (by decide) (As := [.int 1, .int 0]) (show (parseMethodDescriptor yX11_refused.desc).map (fun q => q.parameters.length) = some 2 by decide +kernel) hok (Nat.le_of_ble_eq_true rfl) dX11_schema_14 hM rfl rfl rfl (rt_kr (st2 := [.int 1]) rfl ?_) rt_kx
  refine rt_if_eq (tgt := 22) dX11_schema_17 (by decide) (fun c17 => absurd c17 (by decide)) (fun _ => ?_)
  refine rt_iconst (v := 0) dX11_schema_20 (by decide) ?_
  exact rt_iret dX11_schema_21 rfl (⟨rfl, rfl⟩)
set_option maxRecDepth 100000 in
theorem c_X11_schemaU {l : Launch} {s0 : State} {a0 : Array Value} {G : va_G} {ca : Nat → ClassId} (Γ : rt_Γ l s0 a0 G ca) {d : Nat} {w : rt_Wd} (hd : 2 ≤ d) (hok : rt_ok w) {m tp lf rt kp sz dk ou md ak pr : Nat} {th td pl ow rw rb os ms at_ fa wh it da mn fr sp : Int32} (hM : w.2.2 m = some (.inr (11, [.int th, rt_r s0 tp, .int td, .int pl, rt_r s0 lf, rt_r s0 rt, rt_r s0 kp, rt_r s0 sz, rt_r s0 dk, .int ow, .int rw, .int rb, rt_r s0 ou, .int os, rt_r s0 md, .int ms, .int at_, .int fa, .int wh, .int it, .int da, rt_r s0 ak, rt_r s0 pr, .int mn, .int fr, .int sp]))) {p : Int32} (h0 : ¬ p < 0) (h1 : 7 < p) : rt_Met l s0 G (.code yX11_schema cX11_schema 4 (Option.some FieldType.int)) yX11_schema d [rt_r s0 m, .int p] w (rt_is (.inl (some (.int 0))) (rt_up w m (.inr (11, [.int 1, rt_r s0 tp, .int td, .int pl, rt_r s0 lf, rt_r s0 rt, rt_r s0 kp, rt_r s0 sz, rt_r s0 dk, .int ow, .int rw, .int rb, rt_r s0 ou, .int os, rt_r s0 md, .int ms, .int at_, .int fa, .int wh, .int it, .int da, rt_r s0 ak, rt_r s0 pr, .int mn, .int fr, .int sp])))) := by
  refine rt_met Γ kk_X11_schema rfl (Nat.le_of_ble_eq_true rfl) rfl ?_
  refine rt_aload_n dX11_schema_0 rfl (j := 0) rfl ?_
  refine rt_iload_n dX11_schema_1 rfl (j := 1) rfl ?_
  refine rt_callS Γ kk_X11_isPlace kc_RX11_76 (c_X11_isPlaceU Γ (d := d - 1) (by omega) hok h0 h1) (by omega) (by decide) (As := [.int p]) (show (parseMethodDescriptor yX11_isPlace.desc).map (fun q => q.parameters.length) = some 1 by decide +kernel) hok (Nat.le_of_ble_eq_true rfl) dX11_schema_2 rfl rfl (rt_kr (st2 := [.int 0, rt_r s0 m]) rfl ?_) rt_kx
  refine rt_if_ne (tgt := 12) dX11_schema_5 (by decide) (fun c5 => absurd c5 (fun h => h rfl)) (fun _ => ?_)
  refine rt_iconst (v := 1) dX11_schema_8 (by decide) ?_
  refine rt_goto (tgt := 13) dX11_schema_9 (by decide) ?_
  refine rt_iconst (v := 0) dX11_schema_13 (by decide) ?_
  refine rt_callV Γ kk_X11_refused kc_RX11_60 (c_X11_refused1 Γ (d := d - 1) hM) (by omega) (by decide) (As := [.int 1, .int 0]) (show (parseMethodDescriptor yX11_refused.desc).map (fun q => q.parameters.length) = some 2 by decide +kernel) hok (Nat.le_of_ble_eq_true rfl) dX11_schema_14 hM rfl rfl rfl (rt_kr (st2 := [.int 1]) rfl ?_) rt_kx
  refine rt_if_eq (tgt := 22) dX11_schema_17 (by decide) (fun c17 => absurd c17 (by decide)) (fun _ => ?_)
  refine rt_iconst (v := 0) dX11_schema_20 (by decide) ?_
  exact rt_iret dX11_schema_21 rfl (⟨rfl, rfl⟩)
set_option maxRecDepth 100000 in
theorem c_X11_loadT {l : Launch} {s0 : State} {a0 : Array Value} {G : va_G} {ca : Nat → ClassId} (Γ : rt_Γ l s0 a0 G ca) {d : Nat} {w : rt_Wd} (hd : 2 ≤ d) (hok : rt_ok w) {m tp lf rt kp sz dk ou md ak pr : Nat} {th td pl ow rw rb os ms at_ fa wh it da mn fr sp : Int32} (hM : w.2.2 m = some (.inr (11, [.int th, rt_r s0 tp, .int td, .int pl, rt_r s0 lf, rt_r s0 rt, rt_r s0 kp, rt_r s0 sz, rt_r s0 dk, .int ow, .int rw, .int rb, rt_r s0 ou, .int os, rt_r s0 md, .int ms, .int at_, .int fa, .int wh, .int it, .int da, rt_r s0 ak, rt_r s0 pr, .int mn, .int fr, .int sp]))) {p : Int32} (h0 : p < 0) : rt_Met l s0 G (.code yX11_load cX11_load 4 (Option.some FieldType.int)) yX11_load d [rt_r s0 m, .int p] w (rt_is (.inl (some (.int 0))) (rt_up w m (.inr (11, [.int 1, rt_r s0 tp, .int td, .int pl, rt_r s0 lf, rt_r s0 rt, rt_r s0 kp, rt_r s0 sz, rt_r s0 dk, .int ow, .int rw, .int rb, rt_r s0 ou, .int os, rt_r s0 md, .int ms, .int at_, .int fa, .int wh, .int it, .int da, rt_r s0 ak, rt_r s0 pr, .int mn, .int fr, .int sp])))) := by
  refine rt_met Γ kk_X11_load rfl (Nat.le_of_ble_eq_true rfl) rfl ?_
  refine rt_aload_n dX11_load_0 rfl (j := 0) rfl ?_
  refine rt_iload_n dX11_load_1 rfl (j := 1) rfl ?_
  refine rt_callS Γ kk_X11_isPlace kc_RX11_76 (c_X11_isPlaceT Γ (d := d - 1) (by omega) hok h0) (by omega) (by decide) (As := [.int p]) (show (parseMethodDescriptor yX11_isPlace.desc).map (fun q => q.parameters.length) = some 1 by decide +kernel) hok (Nat.le_of_ble_eq_true rfl) dX11_load_2 rfl rfl (rt_kr (st2 := [.int 0, rt_r s0 m]) rfl ?_) rt_kx
  refine rt_if_ne (tgt := 12) dX11_load_5 (by decide) (fun c5 => absurd c5 (fun h => h rfl)) (fun _ => ?_)
  refine rt_iconst (v := 1) dX11_load_8 (by decide) ?_
  refine rt_goto (tgt := 13) dX11_load_9 (by decide) ?_
  refine rt_iload_n dX11_load_13 rfl (j := 1) rfl ?_
  refine rt_callS Γ kk_X11_isPlace kc_RX11_76 (c_X11_isPlaceT Γ (d := d - 1) (by omega) hok h0) (by omega) (by decide) (As := [.int p]) (show (parseMethodDescriptor yX11_isPlace.desc).map (fun q => q.parameters.length) = some 1 by decide +kernel) hok (Nat.le_of_ble_eq_true rfl) dX11_load_14 rfl rfl (rt_kr (st2 := [.int 0, .int 1, rt_r s0 m]) rfl ?_) rt_kx
  refine rt_if_eq (tgt := 33) dX11_load_17 (by decide) (fun _ => ?_) (fun c17 => absurd rfl c17)
  refine rt_iconst (v := 0) dX11_load_33 (by decide) ?_
  refine rt_callV Γ kk_X11_refused kc_RX11_60 (c_X11_refused1 Γ (d := d - 1) hM) (by omega) (by decide) (As := [.int 1, .int 0]) (show (parseMethodDescriptor yX11_refused.desc).map (fun q => q.parameters.length) = some 2 by decide +kernel) hok (Nat.le_of_ble_eq_true rfl) dX11_load_34 hM rfl rfl rfl (rt_kr (st2 := [.int 1]) rfl ?_) rt_kx
  refine rt_if_eq (tgt := 42) dX11_load_37 (by decide) (fun c37 => absurd c37 (by decide)) (fun _ => ?_)
  refine rt_iconst (v := 0) dX11_load_40 (by decide) ?_
  exact rt_iret dX11_load_41 rfl (⟨rfl, rfl⟩)
set_option maxRecDepth 100000 in
theorem c_X11_loadU {l : Launch} {s0 : State} {a0 : Array Value} {G : va_G} {ca : Nat → ClassId} (Γ : rt_Γ l s0 a0 G ca) {d : Nat} {w : rt_Wd} (hd : 2 ≤ d) (hok : rt_ok w) {m tp lf rt kp sz dk ou md ak pr : Nat} {th td pl ow rw rb os ms at_ fa wh it da mn fr sp : Int32} (hM : w.2.2 m = some (.inr (11, [.int th, rt_r s0 tp, .int td, .int pl, rt_r s0 lf, rt_r s0 rt, rt_r s0 kp, rt_r s0 sz, rt_r s0 dk, .int ow, .int rw, .int rb, rt_r s0 ou, .int os, rt_r s0 md, .int ms, .int at_, .int fa, .int wh, .int it, .int da, rt_r s0 ak, rt_r s0 pr, .int mn, .int fr, .int sp]))) {p : Int32} (h0 : ¬ p < 0) (h1 : 7 < p) : rt_Met l s0 G (.code yX11_load cX11_load 4 (Option.some FieldType.int)) yX11_load d [rt_r s0 m, .int p] w (rt_is (.inl (some (.int 0))) (rt_up w m (.inr (11, [.int 1, rt_r s0 tp, .int td, .int pl, rt_r s0 lf, rt_r s0 rt, rt_r s0 kp, rt_r s0 sz, rt_r s0 dk, .int ow, .int rw, .int rb, rt_r s0 ou, .int os, rt_r s0 md, .int ms, .int at_, .int fa, .int wh, .int it, .int da, rt_r s0 ak, rt_r s0 pr, .int mn, .int fr, .int sp])))) := by
  refine rt_met Γ kk_X11_load rfl (Nat.le_of_ble_eq_true rfl) rfl ?_
  refine rt_aload_n dX11_load_0 rfl (j := 0) rfl ?_
  refine rt_iload_n dX11_load_1 rfl (j := 1) rfl ?_
  refine rt_callS Γ kk_X11_isPlace kc_RX11_76 (c_X11_isPlaceU Γ (d := d - 1) (by omega) hok h0 h1) (by omega) (by decide) (As := [.int p]) (show (parseMethodDescriptor yX11_isPlace.desc).map (fun q => q.parameters.length) = some 1 by decide +kernel) hok (Nat.le_of_ble_eq_true rfl) dX11_load_2 rfl rfl (rt_kr (st2 := [.int 0, rt_r s0 m]) rfl ?_) rt_kx
  refine rt_if_ne (tgt := 12) dX11_load_5 (by decide) (fun c5 => absurd c5 (fun h => h rfl)) (fun _ => ?_)
  refine rt_iconst (v := 1) dX11_load_8 (by decide) ?_
  refine rt_goto (tgt := 13) dX11_load_9 (by decide) ?_
  refine rt_iload_n dX11_load_13 rfl (j := 1) rfl ?_
  refine rt_callS Γ kk_X11_isPlace kc_RX11_76 (c_X11_isPlaceU Γ (d := d - 1) (by omega) hok h0 h1) (by omega) (by decide) (As := [.int p]) (show (parseMethodDescriptor yX11_isPlace.desc).map (fun q => q.parameters.length) = some 1 by decide +kernel) hok (Nat.le_of_ble_eq_true rfl) dX11_load_14 rfl rfl (rt_kr (st2 := [.int 0, .int 1, rt_r s0 m]) rfl ?_) rt_kx
  refine rt_if_eq (tgt := 33) dX11_load_17 (by decide) (fun _ => ?_) (fun c17 => absurd rfl c17)
  refine rt_iconst (v := 0) dX11_load_33 (by decide) ?_
  refine rt_callV Γ kk_X11_refused kc_RX11_60 (c_X11_refused1 Γ (d := d - 1) hM) (by omega) (by decide) (As := [.int 1, .int 0]) (show (parseMethodDescriptor yX11_refused.desc).map (fun q => q.parameters.length) = some 2 by decide +kernel) hok (Nat.le_of_ble_eq_true rfl) dX11_load_34 hM rfl rfl rfl (rt_kr (st2 := [.int 1]) rfl ?_) rt_kx
  refine rt_if_eq (tgt := 42) dX11_load_37 (by decide) (fun c37 => absurd c37 (by decide)) (fun _ => ?_)
  refine rt_iconst (v := 0) dX11_load_40 (by decide) ?_
  exact rt_iret dX11_load_41 rfl (⟨rfl, rfl⟩)
set_option maxRecDepth 100000 in
theorem c_X11_loadV {l : Launch} {s0 : State} {a0 : Array Value} {G : va_G} {ca : Nat → ClassId} (Γ : rt_Γ l s0 a0 G ca) {d : Nat} {w : rt_Wd} (hd : 2 ≤ d) (hok : rt_ok w) {m tp lf rt kp sz dk ou md ak pr : Nat} {th td pl ow rw rb os ms at_ fa wh it da mn fr sp : Int32} (hM : w.2.2 m = some (.inr (11, [.int th, rt_r s0 tp, .int td, .int pl, rt_r s0 lf, rt_r s0 rt, rt_r s0 kp, rt_r s0 sz, rt_r s0 dk, .int ow, .int rw, .int rb, rt_r s0 ou, .int os, rt_r s0 md, .int ms, .int at_, .int fa, .int wh, .int it, .int da, rt_r s0 ak, rt_r s0 pr, .int mn, .int fr, .int sp]))) {sf : Nat → Int32} (hZ : w.2.2 sz = some (.inl (ca 0, 8, .inl sf))) {p : Int32} (h0 : ¬ p < 0) (h1 : ¬ 7 < p) (h2 : ¬ 0 ≤ sf p.toNatClampNeg) : rt_Met l s0 G (.code yX11_load cX11_load 4 (Option.some FieldType.int)) yX11_load d [rt_r s0 m, .int p] w (rt_is (.inl (some (.int 0))) (rt_up w m (.inr (11, [.int 2, rt_r s0 tp, .int td, .int pl, rt_r s0 lf, rt_r s0 rt, rt_r s0 kp, rt_r s0 sz, rt_r s0 dk, .int ow, .int rw, .int rb, rt_r s0 ou, .int os, rt_r s0 md, .int ms, .int at_, .int fa, .int wh, .int it, .int da, rt_r s0 ak, rt_r s0 pr, .int mn, .int fr, .int sp])))) := by
  refine rt_met Γ kk_X11_load rfl (Nat.le_of_ble_eq_true rfl) rfl ?_
  refine rt_aload_n dX11_load_0 rfl (j := 0) rfl ?_
  refine rt_iload_n dX11_load_1 rfl (j := 1) rfl ?_
  refine rt_callS Γ kk_X11_isPlace kc_RX11_76 (c_X11_isPlace Γ (d := d - 1) (by omega) hok h0 h1) (by omega) (by decide) (As := [.int p]) (show (parseMethodDescriptor yX11_isPlace.desc).map (fun q => q.parameters.length) = some 1 by decide +kernel) hok (Nat.le_of_ble_eq_true rfl) dX11_load_2 rfl rfl (rt_kr (st2 := [.int 1, rt_r s0 m]) rfl ?_) rt_kx
  refine rt_if_ne (tgt := 12) dX11_load_5 (by decide) (fun _ => ?_) (fun c5 => absurd c5 (by decide))
  refine rt_iconst (v := 0) dX11_load_12 (by decide) ?_
  refine rt_iload_n dX11_load_13 rfl (j := 1) rfl ?_
  refine rt_callS Γ kk_X11_isPlace kc_RX11_76 (c_X11_isPlace Γ (d := d - 1) (by omega) hok h0 h1) (by omega) (by decide) (As := [.int p]) (show (parseMethodDescriptor yX11_isPlace.desc).map (fun q => q.parameters.length) = some 1 by decide +kernel) hok (Nat.le_of_ble_eq_true rfl) dX11_load_14 rfl rfl (rt_kr (st2 := [.int 1, .int 0, rt_r s0 m]) rfl ?_) rt_kx
  refine rt_if_eq (tgt := 33) dX11_load_17 (by decide) (fun c17 => absurd c17 (by decide)) (fun _ => ?_)
  refine rt_aload_n dX11_load_20 rfl (j := 0) rfl ?_
  refine rt_get Γ kf_RX11_31 dX11_load_21 hM rfl ?_
  refine rt_iload_n dX11_load_24 rfl (j := 1) rfl ?_
  refine rt_iald Γ dX11_load_25 hZ (vp_in7 h0 h1) ?_
  refine rt_if_ge (tgt := 33) dX11_load_26 (by decide) (fun c26 => absurd c26 h2) (fun _ => ?_)
  refine rt_iconst (v := 1) dX11_load_29 (by decide) ?_
  refine rt_goto (tgt := 34) dX11_load_30 (by decide) ?_
  refine rt_callV Γ kk_X11_refused kc_RX11_60 (c_X11_refused2 Γ (d := d - 1) hM) (by omega) (by decide) (As := [.int 0, .int 1]) (show (parseMethodDescriptor yX11_refused.desc).map (fun q => q.parameters.length) = some 2 by decide +kernel) hok (Nat.le_of_ble_eq_true rfl) dX11_load_34 hM rfl rfl rfl (rt_kr (st2 := [.int 1]) rfl ?_) rt_kx
  refine rt_if_eq (tgt := 42) dX11_load_37 (by decide) (fun c37 => absurd c37 (by decide)) (fun _ => ?_)
  refine rt_iconst (v := 0) dX11_load_40 (by decide) ?_
  exact rt_iret dX11_load_41 rfl (⟨rfl, rfl⟩)
set_option maxRecDepth 100000 in
theorem c_X11_allT {l : Launch} {s0 : State} {a0 : Array Value} {G : va_G} {ca : Nat → ClassId} (Γ : rt_Γ l s0 a0 G ca) {d : Nat} {w : rt_Wd} (hd : 2 ≤ d) (hok : rt_ok w) {m tp lf rt kp sz dk ou md ak pr : Nat} {th td pl ow rw rb os ms at_ fa wh it da mn fr sp : Int32} (hM : w.2.2 m = some (.inr (11, [.int th, rt_r s0 tp, .int td, .int pl, rt_r s0 lf, rt_r s0 rt, rt_r s0 kp, rt_r s0 sz, rt_r s0 dk, .int ow, .int rw, .int rb, rt_r s0 ou, .int os, rt_r s0 md, .int ms, .int at_, .int fa, .int wh, .int it, .int da, rt_r s0 ak, rt_r s0 pr, .int mn, .int fr, .int sp]))) {p : Int32} (h0 : p < 0) : rt_Met l s0 G (.code yX11_all cX11_all 4 (Option.some FieldType.int)) yX11_all d [rt_r s0 m, .int p] w (rt_is (.inl (some (.int 0))) (rt_up w m (.inr (11, [.int 1, rt_r s0 tp, .int td, .int pl, rt_r s0 lf, rt_r s0 rt, rt_r s0 kp, rt_r s0 sz, rt_r s0 dk, .int ow, .int rw, .int rb, rt_r s0 ou, .int os, rt_r s0 md, .int ms, .int at_, .int fa, .int wh, .int it, .int da, rt_r s0 ak, rt_r s0 pr, .int mn, .int fr, .int sp])))) := by
  refine rt_met Γ kk_X11_all rfl (Nat.le_of_ble_eq_true rfl) rfl ?_
  refine rt_aload_n dX11_all_0 rfl (j := 0) rfl ?_
  refine rt_iload_n dX11_all_1 rfl (j := 1) rfl ?_
  refine rt_callS Γ kk_X11_isPlace kc_RX11_76 (c_X11_isPlaceT Γ (d := d - 1) (by omega) hok h0) (by omega) (by decide) (As := [.int p]) (show (parseMethodDescriptor yX11_isPlace.desc).map (fun q => q.parameters.length) = some 1 by decide +kernel) hok (Nat.le_of_ble_eq_true rfl) dX11_all_2 rfl rfl (rt_kr (st2 := [.int 0, rt_r s0 m]) rfl ?_) rt_kx
  refine rt_if_ne (tgt := 12) dX11_all_5 (by decide) (fun c5 => absurd c5 (fun h => h rfl)) (fun _ => ?_)
  refine rt_iconst (v := 1) dX11_all_8 (by decide) ?_
  refine rt_goto (tgt := 13) dX11_all_9 (by decide) ?_
  refine rt_iload_n dX11_all_13 rfl (j := 1) rfl ?_
  refine rt_callS Γ kk_X11_isPlace kc_RX11_76 (c_X11_isPlaceT Γ (d := d - 1) (by omega) hok h0) (by omega) (by decide) (As := [.int p]) (show (parseMethodDescriptor yX11_isPlace.desc).map (fun q => q.parameters.length) = some 1 by decide +kernel) hok (Nat.le_of_ble_eq_true rfl) dX11_all_14 rfl rfl (rt_kr (st2 := [.int 0, .int 1, rt_r s0 m]) rfl ?_) rt_kx
  refine rt_if_eq (tgt := 33) dX11_all_17 (by decide) (fun _ => ?_) (fun c17 => absurd rfl c17)
  refine rt_iconst (v := 0) dX11_all_33 (by decide) ?_
  refine rt_callV Γ kk_X11_refused kc_RX11_60 (c_X11_refused1 Γ (d := d - 1) hM) (by omega) (by decide) (As := [.int 1, .int 0]) (show (parseMethodDescriptor yX11_refused.desc).map (fun q => q.parameters.length) = some 2 by decide +kernel) hok (Nat.le_of_ble_eq_true rfl) dX11_all_34 hM rfl rfl rfl (rt_kr (st2 := [.int 1]) rfl ?_) rt_kx
  refine rt_if_eq (tgt := 42) dX11_all_37 (by decide) (fun c37 => absurd c37 (by decide)) (fun _ => ?_)
  refine rt_iconst (v := 0) dX11_all_40 (by decide) ?_
  exact rt_iret dX11_all_41 rfl (⟨rfl, rfl⟩)
set_option maxRecDepth 100000 in
theorem c_X11_allU {l : Launch} {s0 : State} {a0 : Array Value} {G : va_G} {ca : Nat → ClassId} (Γ : rt_Γ l s0 a0 G ca) {d : Nat} {w : rt_Wd} (hd : 2 ≤ d) (hok : rt_ok w) {m tp lf rt kp sz dk ou md ak pr : Nat} {th td pl ow rw rb os ms at_ fa wh it da mn fr sp : Int32} (hM : w.2.2 m = some (.inr (11, [.int th, rt_r s0 tp, .int td, .int pl, rt_r s0 lf, rt_r s0 rt, rt_r s0 kp, rt_r s0 sz, rt_r s0 dk, .int ow, .int rw, .int rb, rt_r s0 ou, .int os, rt_r s0 md, .int ms, .int at_, .int fa, .int wh, .int it, .int da, rt_r s0 ak, rt_r s0 pr, .int mn, .int fr, .int sp]))) {p : Int32} (h0 : ¬ p < 0) (h1 : 7 < p) : rt_Met l s0 G (.code yX11_all cX11_all 4 (Option.some FieldType.int)) yX11_all d [rt_r s0 m, .int p] w (rt_is (.inl (some (.int 0))) (rt_up w m (.inr (11, [.int 1, rt_r s0 tp, .int td, .int pl, rt_r s0 lf, rt_r s0 rt, rt_r s0 kp, rt_r s0 sz, rt_r s0 dk, .int ow, .int rw, .int rb, rt_r s0 ou, .int os, rt_r s0 md, .int ms, .int at_, .int fa, .int wh, .int it, .int da, rt_r s0 ak, rt_r s0 pr, .int mn, .int fr, .int sp])))) := by
  refine rt_met Γ kk_X11_all rfl (Nat.le_of_ble_eq_true rfl) rfl ?_
  refine rt_aload_n dX11_all_0 rfl (j := 0) rfl ?_
  refine rt_iload_n dX11_all_1 rfl (j := 1) rfl ?_
  refine rt_callS Γ kk_X11_isPlace kc_RX11_76 (c_X11_isPlaceU Γ (d := d - 1) (by omega) hok h0 h1) (by omega) (by decide) (As := [.int p]) (show (parseMethodDescriptor yX11_isPlace.desc).map (fun q => q.parameters.length) = some 1 by decide +kernel) hok (Nat.le_of_ble_eq_true rfl) dX11_all_2 rfl rfl (rt_kr (st2 := [.int 0, rt_r s0 m]) rfl ?_) rt_kx
  refine rt_if_ne (tgt := 12) dX11_all_5 (by decide) (fun c5 => absurd c5 (fun h => h rfl)) (fun _ => ?_)
  refine rt_iconst (v := 1) dX11_all_8 (by decide) ?_
  refine rt_goto (tgt := 13) dX11_all_9 (by decide) ?_
  refine rt_iload_n dX11_all_13 rfl (j := 1) rfl ?_
  refine rt_callS Γ kk_X11_isPlace kc_RX11_76 (c_X11_isPlaceU Γ (d := d - 1) (by omega) hok h0 h1) (by omega) (by decide) (As := [.int p]) (show (parseMethodDescriptor yX11_isPlace.desc).map (fun q => q.parameters.length) = some 1 by decide +kernel) hok (Nat.le_of_ble_eq_true rfl) dX11_all_14 rfl rfl (rt_kr (st2 := [.int 0, .int 1, rt_r s0 m]) rfl ?_) rt_kx
  refine rt_if_eq (tgt := 33) dX11_all_17 (by decide) (fun _ => ?_) (fun c17 => absurd rfl c17)
  refine rt_iconst (v := 0) dX11_all_33 (by decide) ?_
  refine rt_callV Γ kk_X11_refused kc_RX11_60 (c_X11_refused1 Γ (d := d - 1) hM) (by omega) (by decide) (As := [.int 1, .int 0]) (show (parseMethodDescriptor yX11_refused.desc).map (fun q => q.parameters.length) = some 2 by decide +kernel) hok (Nat.le_of_ble_eq_true rfl) dX11_all_34 hM rfl rfl rfl (rt_kr (st2 := [.int 1]) rfl ?_) rt_kx
  refine rt_if_eq (tgt := 42) dX11_all_37 (by decide) (fun c37 => absurd c37 (by decide)) (fun _ => ?_)
  refine rt_iconst (v := 0) dX11_all_40 (by decide) ?_
  exact rt_iret dX11_all_41 rfl (⟨rfl, rfl⟩)
set_option maxRecDepth 100000 in
theorem c_X11_allV {l : Launch} {s0 : State} {a0 : Array Value} {G : va_G} {ca : Nat → ClassId} (Γ : rt_Γ l s0 a0 G ca) {d : Nat} {w : rt_Wd} (hd : 2 ≤ d) (hok : rt_ok w) {m tp lf rt kp sz dk ou md ak pr : Nat} {th td pl ow rw rb os ms at_ fa wh it da mn fr sp : Int32} (hM : w.2.2 m = some (.inr (11, [.int th, rt_r s0 tp, .int td, .int pl, rt_r s0 lf, rt_r s0 rt, rt_r s0 kp, rt_r s0 sz, rt_r s0 dk, .int ow, .int rw, .int rb, rt_r s0 ou, .int os, rt_r s0 md, .int ms, .int at_, .int fa, .int wh, .int it, .int da, rt_r s0 ak, rt_r s0 pr, .int mn, .int fr, .int sp]))) {sf : Nat → Int32} (hZ : w.2.2 sz = some (.inl (ca 0, 8, .inl sf))) {p : Int32} (h0 : ¬ p < 0) (h1 : ¬ 7 < p) (h2 : ¬ 0 ≤ sf p.toNatClampNeg) : rt_Met l s0 G (.code yX11_all cX11_all 4 (Option.some FieldType.int)) yX11_all d [rt_r s0 m, .int p] w (rt_is (.inl (some (.int 0))) (rt_up w m (.inr (11, [.int 2, rt_r s0 tp, .int td, .int pl, rt_r s0 lf, rt_r s0 rt, rt_r s0 kp, rt_r s0 sz, rt_r s0 dk, .int ow, .int rw, .int rb, rt_r s0 ou, .int os, rt_r s0 md, .int ms, .int at_, .int fa, .int wh, .int it, .int da, rt_r s0 ak, rt_r s0 pr, .int mn, .int fr, .int sp])))) := by
  refine rt_met Γ kk_X11_all rfl (Nat.le_of_ble_eq_true rfl) rfl ?_
  refine rt_aload_n dX11_all_0 rfl (j := 0) rfl ?_
  refine rt_iload_n dX11_all_1 rfl (j := 1) rfl ?_
  refine rt_callS Γ kk_X11_isPlace kc_RX11_76 (c_X11_isPlace Γ (d := d - 1) (by omega) hok h0 h1) (by omega) (by decide) (As := [.int p]) (show (parseMethodDescriptor yX11_isPlace.desc).map (fun q => q.parameters.length) = some 1 by decide +kernel) hok (Nat.le_of_ble_eq_true rfl) dX11_all_2 rfl rfl (rt_kr (st2 := [.int 1, rt_r s0 m]) rfl ?_) rt_kx
  refine rt_if_ne (tgt := 12) dX11_all_5 (by decide) (fun _ => ?_) (fun c5 => absurd c5 (by decide))
  refine rt_iconst (v := 0) dX11_all_12 (by decide) ?_
  refine rt_iload_n dX11_all_13 rfl (j := 1) rfl ?_
  refine rt_callS Γ kk_X11_isPlace kc_RX11_76 (c_X11_isPlace Γ (d := d - 1) (by omega) hok h0 h1) (by omega) (by decide) (As := [.int p]) (show (parseMethodDescriptor yX11_isPlace.desc).map (fun q => q.parameters.length) = some 1 by decide +kernel) hok (Nat.le_of_ble_eq_true rfl) dX11_all_14 rfl rfl (rt_kr (st2 := [.int 1, .int 0, rt_r s0 m]) rfl ?_) rt_kx
  refine rt_if_eq (tgt := 33) dX11_all_17 (by decide) (fun c17 => absurd c17 (by decide)) (fun _ => ?_)
  refine rt_aload_n dX11_all_20 rfl (j := 0) rfl ?_
  refine rt_get Γ kf_RX11_31 dX11_all_21 hM rfl ?_
  refine rt_iload_n dX11_all_24 rfl (j := 1) rfl ?_
  refine rt_iald Γ dX11_all_25 hZ (vp_in7 h0 h1) ?_
  refine rt_if_ge (tgt := 33) dX11_all_26 (by decide) (fun c26 => absurd c26 h2) (fun _ => ?_)
  refine rt_iconst (v := 1) dX11_all_29 (by decide) ?_
  refine rt_goto (tgt := 34) dX11_all_30 (by decide) ?_
  refine rt_callV Γ kk_X11_refused kc_RX11_60 (c_X11_refused2 Γ (d := d - 1) hM) (by omega) (by decide) (As := [.int 0, .int 1]) (show (parseMethodDescriptor yX11_refused.desc).map (fun q => q.parameters.length) = some 2 by decide +kernel) hok (Nat.le_of_ble_eq_true rfl) dX11_all_34 hM rfl rfl rfl (rt_kr (st2 := [.int 1]) rfl ?_) rt_kx
  refine rt_if_eq (tgt := 42) dX11_all_37 (by decide) (fun c37 => absurd c37 (by decide)) (fun _ => ?_)
  refine rt_iconst (v := 0) dX11_all_40 (by decide) ?_
  exact rt_iret dX11_all_41 rfl (⟨rfl, rfl⟩)
set_option maxRecDepth 100000 in
theorem c_X11_read_T {l : Launch} {s0 : State} {a0 : Array Value} {G : va_G} {ca : Nat → ClassId} (Γ : rt_Γ l s0 a0 G ca) {d : Nat} {w : rt_Wd} (hd : 2 ≤ d) (hok : rt_ok w) {m tp lf rt kp sz dk ou md ak pr : Nat} {th td pl ow rw rb os ms at_ fa wh it da mn fr sp : Int32} (hM : w.2.2 m = some (.inr (11, [.int th, rt_r s0 tp, .int td, .int pl, rt_r s0 lf, rt_r s0 rt, rt_r s0 kp, rt_r s0 sz, rt_r s0 dk, .int ow, .int rw, .int rb, rt_r s0 ou, .int os, rt_r s0 md, .int ms, .int at_, .int fa, .int wh, .int it, .int da, rt_r s0 ak, rt_r s0 pr, .int mn, .int fr, .int sp]))) {p i : Int32} (h0 : p < 0) : rt_Met l s0 G (.code yX11_read_ cX11_read_ 6 (Option.some FieldType.int)) yX11_read_ d [rt_r s0 m, .int p, .int i] w (rt_is (.inl (some (.int 0))) (rt_up w m (.inr (11, [.int 1, rt_r s0 tp, .int td, .int pl, rt_r s0 lf, rt_r s0 rt, rt_r s0 kp, rt_r s0 sz, rt_r s0 dk, .int ow, .int rw, .int rb, rt_r s0 ou, .int os, rt_r s0 md, .int ms, .int at_, .int fa, .int wh, .int it, .int da, rt_r s0 ak, rt_r s0 pr, .int mn, .int fr, .int sp])))) := by
  refine rt_met Γ kk_X11_read_ rfl (Nat.le_of_ble_eq_true rfl) rfl ?_
  refine rt_iload_n dX11_read__0 rfl (j := 1) rfl ?_
  refine rt_callS Γ kk_X11_isPlace kc_RX11_76 (c_X11_isPlaceT Γ (d := d - 1) (by omega) hok h0) (by omega) (by decide) (As := [.int p]) (show (parseMethodDescriptor yX11_isPlace.desc).map (fun q => q.parameters.length) = some 1 by decide +kernel) hok (Nat.le_of_ble_eq_true rfl) dX11_read__1 rfl rfl (rt_kr (st2 := [.int 0]) rfl ?_) rt_kx
  refine rt_if_eq (tgt := 21) dX11_read__4 (by decide) (fun _ => ?_) (fun c4 => absurd rfl c4)
  refine rt_iconst (v := 1) dX11_read__21 (by decide) ?_
  refine rt_goto (tgt := 26) dX11_read__22 (by decide) ?_
  refine rt_istore_n (lv' := [(3, .int 1), (0, rt_r s0 m), (1, .int p), (2, .int i)]) dX11_read__26 rfl (by decide) rfl ?_
  refine rt_aload_n dX11_read__27 rfl (j := 1) rfl ?_
  refine rt_iload_n dX11_read__28 rfl (j := 0) rfl ?_
  refine rt_iload_n dX11_read__29 rfl (j := 0) rfl ?_
  refine rt_if_ne (tgt := 46) dX11_read__30 (by decide) (fun _ => ?_) (fun c30 => absurd c30 (by decide))
  refine rt_iconst (v := 0) dX11_read__46 (by decide) ?_
  refine rt_callV Γ kk_X11_refused kc_RX11_60 (c_X11_refused1 Γ (d := d - 1) hM) (by omega) (by decide) (As := [.int 1, .int 0]) (show (parseMethodDescriptor yX11_refused.desc).map (fun q => q.parameters.length) = some 2 by decide +kernel) hok (Nat.le_of_ble_eq_true rfl) dX11_read__47 hM rfl rfl rfl (rt_kr (st2 := [.int 1]) rfl ?_) rt_kx
  refine rt_if_eq (tgt := 55) dX11_read__50 (by decide) (fun c50 => absurd c50 (by decide)) (fun _ => ?_)
  refine rt_iconst (v := 0) dX11_read__53 (by decide) ?_
  exact rt_iret dX11_read__54 rfl (⟨rfl, rfl⟩)
set_option maxRecDepth 100000 in
theorem c_X11_read_U {l : Launch} {s0 : State} {a0 : Array Value} {G : va_G} {ca : Nat → ClassId} (Γ : rt_Γ l s0 a0 G ca) {d : Nat} {w : rt_Wd} (hd : 2 ≤ d) (hok : rt_ok w) {m tp lf rt kp sz dk ou md ak pr : Nat} {th td pl ow rw rb os ms at_ fa wh it da mn fr sp : Int32} (hM : w.2.2 m = some (.inr (11, [.int th, rt_r s0 tp, .int td, .int pl, rt_r s0 lf, rt_r s0 rt, rt_r s0 kp, rt_r s0 sz, rt_r s0 dk, .int ow, .int rw, .int rb, rt_r s0 ou, .int os, rt_r s0 md, .int ms, .int at_, .int fa, .int wh, .int it, .int da, rt_r s0 ak, rt_r s0 pr, .int mn, .int fr, .int sp]))) {p i : Int32} (h0 : ¬ p < 0) (h1 : 7 < p) : rt_Met l s0 G (.code yX11_read_ cX11_read_ 6 (Option.some FieldType.int)) yX11_read_ d [rt_r s0 m, .int p, .int i] w (rt_is (.inl (some (.int 0))) (rt_up w m (.inr (11, [.int 1, rt_r s0 tp, .int td, .int pl, rt_r s0 lf, rt_r s0 rt, rt_r s0 kp, rt_r s0 sz, rt_r s0 dk, .int ow, .int rw, .int rb, rt_r s0 ou, .int os, rt_r s0 md, .int ms, .int at_, .int fa, .int wh, .int it, .int da, rt_r s0 ak, rt_r s0 pr, .int mn, .int fr, .int sp])))) := by
  refine rt_met Γ kk_X11_read_ rfl (Nat.le_of_ble_eq_true rfl) rfl ?_
  refine rt_iload_n dX11_read__0 rfl (j := 1) rfl ?_
  refine rt_callS Γ kk_X11_isPlace kc_RX11_76 (c_X11_isPlaceU Γ (d := d - 1) (by omega) hok h0 h1) (by omega) (by decide) (As := [.int p]) (show (parseMethodDescriptor yX11_isPlace.desc).map (fun q => q.parameters.length) = some 1 by decide +kernel) hok (Nat.le_of_ble_eq_true rfl) dX11_read__1 rfl rfl (rt_kr (st2 := [.int 0]) rfl ?_) rt_kx
  refine rt_if_eq (tgt := 21) dX11_read__4 (by decide) (fun _ => ?_) (fun c4 => absurd rfl c4)
  refine rt_iconst (v := 1) dX11_read__21 (by decide) ?_
  refine rt_goto (tgt := 26) dX11_read__22 (by decide) ?_
  refine rt_istore_n (lv' := [(3, .int 1), (0, rt_r s0 m), (1, .int p), (2, .int i)]) dX11_read__26 rfl (by decide) rfl ?_
  refine rt_aload_n dX11_read__27 rfl (j := 1) rfl ?_
  refine rt_iload_n dX11_read__28 rfl (j := 0) rfl ?_
  refine rt_iload_n dX11_read__29 rfl (j := 0) rfl ?_
  refine rt_if_ne (tgt := 46) dX11_read__30 (by decide) (fun _ => ?_) (fun c30 => absurd c30 (by decide))
  refine rt_iconst (v := 0) dX11_read__46 (by decide) ?_
  refine rt_callV Γ kk_X11_refused kc_RX11_60 (c_X11_refused1 Γ (d := d - 1) hM) (by omega) (by decide) (As := [.int 1, .int 0]) (show (parseMethodDescriptor yX11_refused.desc).map (fun q => q.parameters.length) = some 2 by decide +kernel) hok (Nat.le_of_ble_eq_true rfl) dX11_read__47 hM rfl rfl rfl (rt_kr (st2 := [.int 1]) rfl ?_) rt_kx
  refine rt_if_eq (tgt := 55) dX11_read__50 (by decide) (fun c50 => absurd c50 (by decide)) (fun _ => ?_)
  refine rt_iconst (v := 0) dX11_read__53 (by decide) ?_
  exact rt_iret dX11_read__54 rfl (⟨rfl, rfl⟩)
set_option maxRecDepth 100000 in
theorem c_X11_read_V {l : Launch} {s0 : State} {a0 : Array Value} {G : va_G} {ca : Nat → ClassId} (Γ : rt_Γ l s0 a0 G ca) {d : Nat} {w : rt_Wd} (hd : 2 ≤ d) (hok : rt_ok w) {m tp lf rt kp sz dk ou md ak pr : Nat} {th td pl ow rw rb os ms at_ fa wh it da mn fr sp : Int32} (hM : w.2.2 m = some (.inr (11, [.int th, rt_r s0 tp, .int td, .int pl, rt_r s0 lf, rt_r s0 rt, rt_r s0 kp, rt_r s0 sz, rt_r s0 dk, .int ow, .int rw, .int rb, rt_r s0 ou, .int os, rt_r s0 md, .int ms, .int at_, .int fa, .int wh, .int it, .int da, rt_r s0 ak, rt_r s0 pr, .int mn, .int fr, .int sp]))) {p i : Int32} (h0 : ¬ p < 0) (h1 : ¬ 7 < p) (h2 : i < 0) : rt_Met l s0 G (.code yX11_read_ cX11_read_ 6 (Option.some FieldType.int)) yX11_read_ d [rt_r s0 m, .int p, .int i] w (rt_is (.inl (some (.int 0))) (rt_up w m (.inr (11, [.int 1, rt_r s0 tp, .int td, .int pl, rt_r s0 lf, rt_r s0 rt, rt_r s0 kp, rt_r s0 sz, rt_r s0 dk, .int ow, .int rw, .int rb, rt_r s0 ou, .int os, rt_r s0 md, .int ms, .int at_, .int fa, .int wh, .int it, .int da, rt_r s0 ak, rt_r s0 pr, .int mn, .int fr, .int sp])))) := by
  refine rt_met Γ kk_X11_read_ rfl (Nat.le_of_ble_eq_true rfl) rfl ?_
  refine rt_iload_n dX11_read__0 rfl (j := 1) rfl ?_
  refine rt_callS Γ kk_X11_isPlace kc_RX11_76 (c_X11_isPlace Γ (d := d - 1) (by omega) hok h0 h1) (by omega) (by decide) (As := [.int p]) (show (parseMethodDescriptor yX11_isPlace.desc).map (fun q => q.parameters.length) = some 1 by decide +kernel) hok (Nat.le_of_ble_eq_true rfl) dX11_read__1 rfl rfl (rt_kr (st2 := [.int 1]) rfl ?_) rt_kx
  refine rt_if_eq (tgt := 21) dX11_read__4 (by decide) (fun c4 => absurd c4 (by decide)) (fun _ => ?_)
  refine rt_iload_n dX11_read__7 rfl (j := 2) rfl ?_
  refine rt_iconst (v := 0) dX11_read__8 (by decide) ?_
  refine rt_aload_n dX11_read__9 rfl (j := 0) rfl ?_
  refine rt_get Γ kf_RX11_81 dX11_read__10 hM rfl ?_
  refine rt_iconst (v := 1) dX11_read__13 (by decide) ?_
  refine rt_isub dX11_read__14 ?_
  refine rt_topi (fun x14 ex14 => ?_)
  refine rt_callS Γ kk_X11_within kc_RX11_68 (c_X11_withinT Γ (d := d - 1) h2) (by omega) (by decide) (As := [.int i, .int 0, .int x14]) (show (parseMethodDescriptor yX11_within.desc).map (fun q => q.parameters.length) = some 3 by decide +kernel) hok (Nat.le_of_ble_eq_true rfl) dX11_read__15 rfl rfl (rt_kr (st2 := [.int 0]) rfl ?_) rt_kx
  refine rt_if_ne (tgt := 25) dX11_read__18 (by decide) (fun c18 => absurd c18 (fun h => h rfl)) (fun _ => ?_)
  refine rt_iconst (v := 1) dX11_read__21 (by decide) ?_
  refine rt_goto (tgt := 26) dX11_read__22 (by decide) ?_
  refine rt_istore_n (lv' := [(3, .int 1), (0, rt_r s0 m), (1, .int p), (2, .int i)]) dX11_read__26 rfl (by decide) rfl ?_
  refine rt_aload_n dX11_read__27 rfl (j := 1) rfl ?_
  refine rt_iload_n dX11_read__28 rfl (j := 0) rfl ?_
  refine rt_iload_n dX11_read__29 rfl (j := 0) rfl ?_
  refine rt_if_ne (tgt := 46) dX11_read__30 (by decide) (fun _ => ?_) (fun c30 => absurd c30 (by decide))
  refine rt_iconst (v := 0) dX11_read__46 (by decide) ?_
  refine rt_callV Γ kk_X11_refused kc_RX11_60 (c_X11_refused1 Γ (d := d - 1) hM) (by omega) (by decide) (As := [.int 1, .int 0]) (show (parseMethodDescriptor yX11_refused.desc).map (fun q => q.parameters.length) = some 2 by decide +kernel) hok (Nat.le_of_ble_eq_true rfl) dX11_read__47 hM rfl rfl rfl (rt_kr (st2 := [.int 1]) rfl ?_) rt_kx
  refine rt_if_eq (tgt := 55) dX11_read__50 (by decide) (fun c50 => absurd c50 (by decide)) (fun _ => ?_)
  refine rt_iconst (v := 0) dX11_read__53 (by decide) ?_
  exact rt_iret dX11_read__54 rfl (⟨rfl, rfl⟩)
set_option maxRecDepth 100000 in
theorem c_X11_read_W {l : Launch} {s0 : State} {a0 : Array Value} {G : va_G} {ca : Nat → ClassId} (Γ : rt_Γ l s0 a0 G ca) {d : Nat} {w : rt_Wd} (hd : 2 ≤ d) (hok : rt_ok w) {m tp lf rt kp sz dk ou md ak pr : Nat} {th td pl ow rw rb os ms at_ fa wh it da mn fr sp : Int32} (hM : w.2.2 m = some (.inr (11, [.int th, rt_r s0 tp, .int td, .int pl, rt_r s0 lf, rt_r s0 rt, rt_r s0 kp, rt_r s0 sz, rt_r s0 dk, .int ow, .int rw, .int rb, rt_r s0 ou, .int os, rt_r s0 md, .int ms, .int at_, .int fa, .int wh, .int it, .int da, rt_r s0 ak, rt_r s0 pr, .int mn, .int fr, .int sp]))) {p i : Int32} (h0 : ¬ p < 0) (h1 : ¬ 7 < p) (h2 : ¬ i < 0) (h3 : rw - 1 < i) : rt_Met l s0 G (.code yX11_read_ cX11_read_ 6 (Option.some FieldType.int)) yX11_read_ d [rt_r s0 m, .int p, .int i] w (rt_is (.inl (some (.int 0))) (rt_up w m (.inr (11, [.int 1, rt_r s0 tp, .int td, .int pl, rt_r s0 lf, rt_r s0 rt, rt_r s0 kp, rt_r s0 sz, rt_r s0 dk, .int ow, .int rw, .int rb, rt_r s0 ou, .int os, rt_r s0 md, .int ms, .int at_, .int fa, .int wh, .int it, .int da, rt_r s0 ak, rt_r s0 pr, .int mn, .int fr, .int sp])))) := by
  refine rt_met Γ kk_X11_read_ rfl (Nat.le_of_ble_eq_true rfl) rfl ?_
  refine rt_iload_n dX11_read__0 rfl (j := 1) rfl ?_
  refine rt_callS Γ kk_X11_isPlace kc_RX11_76 (c_X11_isPlace Γ (d := d - 1) (by omega) hok h0 h1) (by omega) (by decide) (As := [.int p]) (show (parseMethodDescriptor yX11_isPlace.desc).map (fun q => q.parameters.length) = some 1 by decide +kernel) hok (Nat.le_of_ble_eq_true rfl) dX11_read__1 rfl rfl (rt_kr (st2 := [.int 1]) rfl ?_) rt_kx
  refine rt_if_eq (tgt := 21) dX11_read__4 (by decide) (fun c4 => absurd c4 (by decide)) (fun _ => ?_)
  refine rt_iload_n dX11_read__7 rfl (j := 2) rfl ?_
  refine rt_iconst (v := 0) dX11_read__8 (by decide) ?_
  refine rt_aload_n dX11_read__9 rfl (j := 0) rfl ?_
  refine rt_get Γ kf_RX11_81 dX11_read__10 hM rfl ?_
  refine rt_iconst (v := 1) dX11_read__13 (by decide) ?_
  refine rt_isub dX11_read__14 ?_
  refine rt_topi (fun x14 ex14 => ?_)
  refine rt_callS Γ kk_X11_within kc_RX11_68 (c_X11_withinU Γ (d := d - 1) h2 (by rw [ex14]; exact h3)) (by omega) (by decide) (As := [.int i, .int 0, .int x14]) (show (parseMethodDescriptor yX11_within.desc).map (fun q => q.parameters.length) = some 3 by decide +kernel) hok (Nat.le_of_ble_eq_true rfl) dX11_read__15 rfl rfl (rt_kr (st2 := [.int 0]) rfl ?_) rt_kx
  refine rt_if_ne (tgt := 25) dX11_read__18 (by decide) (fun c18 => absurd c18 (fun h => h rfl)) (fun _ => ?_)
  refine rt_iconst (v := 1) dX11_read__21 (by decide) ?_
  refine rt_goto (tgt := 26) dX11_read__22 (by decide) ?_
  refine rt_istore_n (lv' := [(3, .int 1), (0, rt_r s0 m), (1, .int p), (2, .int i)]) dX11_read__26 rfl (by decide) rfl ?_
  refine rt_aload_n dX11_read__27 rfl (j := 1) rfl ?_
  refine rt_iload_n dX11_read__28 rfl (j := 0) rfl ?_
  refine rt_iload_n dX11_read__29 rfl (j := 0) rfl ?_
  refine rt_if_ne (tgt := 46) dX11_read__30 (by decide) (fun _ => ?_) (fun c30 => absurd c30 (by decide))
  refine rt_iconst (v := 0) dX11_read__46 (by decide) ?_
  refine rt_callV Γ kk_X11_refused kc_RX11_60 (c_X11_refused1 Γ (d := d - 1) hM) (by omega) (by decide) (As := [.int 1, .int 0]) (show (parseMethodDescriptor yX11_refused.desc).map (fun q => q.parameters.length) = some 2 by decide +kernel) hok (Nat.le_of_ble_eq_true rfl) dX11_read__47 hM rfl rfl rfl (rt_kr (st2 := [.int 1]) rfl ?_) rt_kx
  refine rt_if_eq (tgt := 55) dX11_read__50 (by decide) (fun c50 => absurd c50 (by decide)) (fun _ => ?_)
  refine rt_iconst (v := 0) dX11_read__53 (by decide) ?_
  exact rt_iret dX11_read__54 rfl (⟨rfl, rfl⟩)
set_option maxRecDepth 100000 in
theorem c_X11_fitsT {l : Launch} {s0 : State} {a0 : Array Value} {G : va_G} {ca : Nat → ClassId} (Γ : rt_Γ l s0 a0 G ca) {d : Nat} {w : rt_Wd} (hd : 2 ≤ d) (hok : rt_ok w) {m tp lf rt kp sz dk ou md ak pr : Nat} {th td pl ow rw rb os ms at_ fa wh it da mn fr sp : Int32} (hM : w.2.2 m = some (.inr (11, [.int th, rt_r s0 tp, .int td, .int pl, rt_r s0 lf, rt_r s0 rt, rt_r s0 kp, rt_r s0 sz, rt_r s0 dk, .int ow, .int rw, .int rb, rt_r s0 ou, .int os, rt_r s0 md, .int ms, .int at_, .int fa, .int wh, .int it, .int da, rt_r s0 ak, rt_r s0 pr, .int mn, .int fr, .int sp]))) {p i : Int32} (h0 : p < 0) : rt_Met l s0 G (.code yX11_fits cX11_fits 3 (Option.some FieldType.boolean)) yX11_fits d [rt_r s0 m, .int p, .int i] w (rt_is (.inl (some (.int 0))) (rt_up w m (.inr (11, [.int 1, rt_r s0 tp, .int td, .int pl, rt_r s0 lf, rt_r s0 rt, rt_r s0 kp, rt_r s0 sz, rt_r s0 dk, .int ow, .int rw, .int rb, rt_r s0 ou, .int os, rt_r s0 md, .int ms, .int at_, .int fa, .int wh, .int it, .int da, rt_r s0 ak, rt_r s0 pr, .int mn, .int fr, .int sp])))) := by
  refine rt_met Γ kk_X11_fits rfl (Nat.le_of_ble_eq_true rfl) rfl ?_
  refine rt_aload_n dX11_fits_0 rfl (j := 0) rfl ?_
  refine rt_iload_n dX11_fits_1 rfl (j := 1) rfl ?_
  refine rt_callS Γ kk_X11_isPlace kc_RX11_76 (c_X11_isPlaceT Γ (d := d - 1) (by omega) hok h0) (by omega) (by decide) (As := [.int p]) (show (parseMethodDescriptor yX11_isPlace.desc).map (fun q => q.parameters.length) = some 1 by decide +kernel) hok (Nat.le_of_ble_eq_true rfl) dX11_fits_2 rfl rfl (rt_kr (st2 := [.int 0, rt_r s0 m]) rfl ?_) rt_kx
  refine rt_if_eq (tgt := 15) dX11_fits_5 (by decide) (fun _ => ?_) (fun c5 => absurd rfl c5)
  refine rt_iconst (v := 1) dX11_fits_15 (by decide) ?_
  refine rt_goto (tgt := 20) dX11_fits_16 (by decide) ?_
  refine rt_iload_n dX11_fits_20 rfl (j := 1) rfl ?_
  refine rt_callS Γ kk_X11_isPlace kc_RX11_76 (c_X11_isPlaceT Γ (d := d - 1) (by omega) hok h0) (by omega) (by decide) (As := [.int p]) (show (parseMethodDescriptor yX11_isPlace.desc).map (fun q => q.parameters.length) = some 1 by decide +kernel) hok (Nat.le_of_ble_eq_true rfl) dX11_fits_21 rfl rfl (rt_kr (st2 := [.int 0, .int 1, rt_r s0 m]) rfl ?_) rt_kx
  refine rt_if_eq (tgt := 56) dX11_fits_24 (by decide) (fun _ => ?_) (fun c24 => absurd rfl c24)
  refine rt_iconst (v := 0) dX11_fits_56 (by decide) ?_
  refine rt_callV Γ kk_X11_refused kc_RX11_60 (c_X11_refused1 Γ (d := d - 1) hM) (by omega) (by decide) (As := [.int 1, .int 0]) (show (parseMethodDescriptor yX11_refused.desc).map (fun q => q.parameters.length) = some 2 by decide +kernel) hok (Nat.le_of_ble_eq_true rfl) dX11_fits_57 hM rfl rfl rfl (rt_kr (st2 := [.int 1]) rfl ?_) rt_kx
  refine rt_if_eq (tgt := 65) dX11_fits_60 (by decide) (fun c60 => absurd c60 (by decide)) (fun _ => ?_)
  refine rt_iconst (v := 0) dX11_fits_63 (by decide) ?_
  exact rt_zret dX11_fits_64 rfl rfl (⟨rfl, rfl⟩)
set_option maxRecDepth 100000 in
theorem c_X11_fitsU {l : Launch} {s0 : State} {a0 : Array Value} {G : va_G} {ca : Nat → ClassId} (Γ : rt_Γ l s0 a0 G ca) {d : Nat} {w : rt_Wd} (hd : 2 ≤ d) (hok : rt_ok w) {m tp lf rt kp sz dk ou md ak pr : Nat} {th td pl ow rw rb os ms at_ fa wh it da mn fr sp : Int32} (hM : w.2.2 m = some (.inr (11, [.int th, rt_r s0 tp, .int td, .int pl, rt_r s0 lf, rt_r s0 rt, rt_r s0 kp, rt_r s0 sz, rt_r s0 dk, .int ow, .int rw, .int rb, rt_r s0 ou, .int os, rt_r s0 md, .int ms, .int at_, .int fa, .int wh, .int it, .int da, rt_r s0 ak, rt_r s0 pr, .int mn, .int fr, .int sp]))) {p i : Int32} (h0 : ¬ p < 0) (h1 : 7 < p) : rt_Met l s0 G (.code yX11_fits cX11_fits 3 (Option.some FieldType.boolean)) yX11_fits d [rt_r s0 m, .int p, .int i] w (rt_is (.inl (some (.int 0))) (rt_up w m (.inr (11, [.int 1, rt_r s0 tp, .int td, .int pl, rt_r s0 lf, rt_r s0 rt, rt_r s0 kp, rt_r s0 sz, rt_r s0 dk, .int ow, .int rw, .int rb, rt_r s0 ou, .int os, rt_r s0 md, .int ms, .int at_, .int fa, .int wh, .int it, .int da, rt_r s0 ak, rt_r s0 pr, .int mn, .int fr, .int sp])))) := by
  refine rt_met Γ kk_X11_fits rfl (Nat.le_of_ble_eq_true rfl) rfl ?_
  refine rt_aload_n dX11_fits_0 rfl (j := 0) rfl ?_
  refine rt_iload_n dX11_fits_1 rfl (j := 1) rfl ?_
  refine rt_callS Γ kk_X11_isPlace kc_RX11_76 (c_X11_isPlaceU Γ (d := d - 1) (by omega) hok h0 h1) (by omega) (by decide) (As := [.int p]) (show (parseMethodDescriptor yX11_isPlace.desc).map (fun q => q.parameters.length) = some 1 by decide +kernel) hok (Nat.le_of_ble_eq_true rfl) dX11_fits_2 rfl rfl (rt_kr (st2 := [.int 0, rt_r s0 m]) rfl ?_) rt_kx
  refine rt_if_eq (tgt := 15) dX11_fits_5 (by decide) (fun _ => ?_) (fun c5 => absurd rfl c5)
  refine rt_iconst (v := 1) dX11_fits_15 (by decide) ?_
  refine rt_goto (tgt := 20) dX11_fits_16 (by decide) ?_
  refine rt_iload_n dX11_fits_20 rfl (j := 1) rfl ?_
  refine rt_callS Γ kk_X11_isPlace kc_RX11_76 (c_X11_isPlaceU Γ (d := d - 1) (by omega) hok h0 h1) (by omega) (by decide) (As := [.int p]) (show (parseMethodDescriptor yX11_isPlace.desc).map (fun q => q.parameters.length) = some 1 by decide +kernel) hok (Nat.le_of_ble_eq_true rfl) dX11_fits_21 rfl rfl (rt_kr (st2 := [.int 0, .int 1, rt_r s0 m]) rfl ?_) rt_kx
  refine rt_if_eq (tgt := 56) dX11_fits_24 (by decide) (fun _ => ?_) (fun c24 => absurd rfl c24)
  refine rt_iconst (v := 0) dX11_fits_56 (by decide) ?_
  refine rt_callV Γ kk_X11_refused kc_RX11_60 (c_X11_refused1 Γ (d := d - 1) hM) (by omega) (by decide) (As := [.int 1, .int 0]) (show (parseMethodDescriptor yX11_refused.desc).map (fun q => q.parameters.length) = some 2 by decide +kernel) hok (Nat.le_of_ble_eq_true rfl) dX11_fits_57 hM rfl rfl rfl (rt_kr (st2 := [.int 1]) rfl ?_) rt_kx
  refine rt_if_eq (tgt := 65) dX11_fits_60 (by decide) (fun c60 => absurd c60 (by decide)) (fun _ => ?_)
  refine rt_iconst (v := 0) dX11_fits_63 (by decide) ?_
  exact rt_zret dX11_fits_64 rfl rfl (⟨rfl, rfl⟩)
set_option maxRecDepth 100000 in
theorem c_X11_fitsV {l : Launch} {s0 : State} {a0 : Array Value} {G : va_G} {ca : Nat → ClassId} (Γ : rt_Γ l s0 a0 G ca) {d : Nat} {w : rt_Wd} (hd : 2 ≤ d) (hok : rt_ok w) {m tp lf rt kp sz dk ou md ak pr : Nat} {th td pl ow rw rb os ms at_ fa wh it da mn fr sp : Int32} (hM : w.2.2 m = some (.inr (11, [.int th, rt_r s0 tp, .int td, .int pl, rt_r s0 lf, rt_r s0 rt, rt_r s0 kp, rt_r s0 sz, rt_r s0 dk, .int ow, .int rw, .int rb, rt_r s0 ou, .int os, rt_r s0 md, .int ms, .int at_, .int fa, .int wh, .int it, .int da, rt_r s0 ak, rt_r s0 pr, .int mn, .int fr, .int sp]))) {p i : Int32} (h0 : ¬ p < 0) (h1 : ¬ 7 < p) (h2 : i < 0) : rt_Met l s0 G (.code yX11_fits cX11_fits 3 (Option.some FieldType.boolean)) yX11_fits d [rt_r s0 m, .int p, .int i] w (rt_is (.inl (some (.int 0))) (rt_up w m (.inr (11, [.int 1, rt_r s0 tp, .int td, .int pl, rt_r s0 lf, rt_r s0 rt, rt_r s0 kp, rt_r s0 sz, rt_r s0 dk, .int ow, .int rw, .int rb, rt_r s0 ou, .int os, rt_r s0 md, .int ms, .int at_, .int fa, .int wh, .int it, .int da, rt_r s0 ak, rt_r s0 pr, .int mn, .int fr, .int sp])))) := by
  refine rt_met Γ kk_X11_fits rfl (Nat.le_of_ble_eq_true rfl) rfl ?_
  refine rt_aload_n dX11_fits_0 rfl (j := 0) rfl ?_
  refine rt_iload_n dX11_fits_1 rfl (j := 1) rfl ?_
  refine rt_callS Γ kk_X11_isPlace kc_RX11_76 (c_X11_isPlace Γ (d := d - 1) (by omega) hok h0 h1) (by omega) (by decide) (As := [.int p]) (show (parseMethodDescriptor yX11_isPlace.desc).map (fun q => q.parameters.length) = some 1 by decide +kernel) hok (Nat.le_of_ble_eq_true rfl) dX11_fits_2 rfl rfl (rt_kr (st2 := [.int 1, rt_r s0 m]) rfl ?_) rt_kx
  refine rt_if_eq (tgt := 15) dX11_fits_5 (by decide) (fun c5 => absurd c5 (by decide)) (fun _ => ?_)
  refine rt_iload_n dX11_fits_8 rfl (j := 2) rfl ?_
  refine rt_callS Γ kk_X11_isPlace kc_RX11_76 (c_X11_isPlaceT Γ (d := d - 1) (by omega) hok h2) (by omega) (by decide) (As := [.int i]) (show (parseMethodDescriptor yX11_isPlace.desc).map (fun q => q.parameters.length) = some 1 by decide +kernel) hok (Nat.le_of_ble_eq_true rfl) dX11_fits_9 rfl rfl (rt_kr (st2 := [.int 0, rt_r s0 m]) rfl ?_) rt_kx
  refine rt_if_ne (tgt := 19) dX11_fits_12 (by decide) (fun c12 => absurd c12 (fun h => h rfl)) (fun _ => ?_)
  refine rt_iconst (v := 1) dX11_fits_15 (by decide) ?_
  refine rt_goto (tgt := 20) dX11_fits_16 (by decide) ?_
  refine rt_iload_n dX11_fits_20 rfl (j := 1) rfl ?_
  refine rt_callS Γ kk_X11_isPlace kc_RX11_76 (c_X11_isPlace Γ (d := d - 1) (by omega) hok h0 h1) (by omega) (by decide) (As := [.int p]) (show (parseMethodDescriptor yX11_isPlace.desc).map (fun q => q.parameters.length) = some 1 by decide +kernel) hok (Nat.le_of_ble_eq_true rfl) dX11_fits_21 rfl rfl (rt_kr (st2 := [.int 1, .int 1, rt_r s0 m]) rfl ?_) rt_kx
  refine rt_if_eq (tgt := 56) dX11_fits_24 (by decide) (fun c24 => absurd c24 (by decide)) (fun _ => ?_)
  refine rt_iload_n dX11_fits_27 rfl (j := 2) rfl ?_
  refine rt_callS Γ kk_X11_isPlace kc_RX11_76 (c_X11_isPlaceT Γ (d := d - 1) (by omega) hok h2) (by omega) (by decide) (As := [.int i]) (show (parseMethodDescriptor yX11_isPlace.desc).map (fun q => q.parameters.length) = some 1 by decide +kernel) hok (Nat.le_of_ble_eq_true rfl) dX11_fits_28 rfl rfl (rt_kr (st2 := [.int 0, .int 1, rt_r s0 m]) rfl ?_) rt_kx
  refine rt_if_eq (tgt := 56) dX11_fits_31 (by decide) (fun _ => ?_) (fun c31 => absurd rfl c31)
  refine rt_iconst (v := 0) dX11_fits_56 (by decide) ?_
  refine rt_callV Γ kk_X11_refused kc_RX11_60 (c_X11_refused1 Γ (d := d - 1) hM) (by omega) (by decide) (As := [.int 1, .int 0]) (show (parseMethodDescriptor yX11_refused.desc).map (fun q => q.parameters.length) = some 2 by decide +kernel) hok (Nat.le_of_ble_eq_true rfl) dX11_fits_57 hM rfl rfl rfl (rt_kr (st2 := [.int 1]) rfl ?_) rt_kx
  refine rt_if_eq (tgt := 65) dX11_fits_60 (by decide) (fun c60 => absurd c60 (by decide)) (fun _ => ?_)
  refine rt_iconst (v := 0) dX11_fits_63 (by decide) ?_
  exact rt_zret dX11_fits_64 rfl rfl (⟨rfl, rfl⟩)
set_option maxRecDepth 100000 in
theorem c_X11_fitsW {l : Launch} {s0 : State} {a0 : Array Value} {G : va_G} {ca : Nat → ClassId} (Γ : rt_Γ l s0 a0 G ca) {d : Nat} {w : rt_Wd} (hd : 2 ≤ d) (hok : rt_ok w) {m tp lf rt kp sz dk ou md ak pr : Nat} {th td pl ow rw rb os ms at_ fa wh it da mn fr sp : Int32} (hM : w.2.2 m = some (.inr (11, [.int th, rt_r s0 tp, .int td, .int pl, rt_r s0 lf, rt_r s0 rt, rt_r s0 kp, rt_r s0 sz, rt_r s0 dk, .int ow, .int rw, .int rb, rt_r s0 ou, .int os, rt_r s0 md, .int ms, .int at_, .int fa, .int wh, .int it, .int da, rt_r s0 ak, rt_r s0 pr, .int mn, .int fr, .int sp]))) {p i : Int32} (h0 : ¬ p < 0) (h1 : ¬ 7 < p) (h2 : ¬ i < 0) (h3 : 7 < i) : rt_Met l s0 G (.code yX11_fits cX11_fits 3 (Option.some FieldType.boolean)) yX11_fits d [rt_r s0 m, .int p, .int i] w (rt_is (.inl (some (.int 0))) (rt_up w m (.inr (11, [.int 1, rt_r s0 tp, .int td, .int pl, rt_r s0 lf, rt_r s0 rt, rt_r s0 kp, rt_r s0 sz, rt_r s0 dk, .int ow, .int rw, .int rb, rt_r s0 ou, .int os, rt_r s0 md, .int ms, .int at_, .int fa, .int wh, .int it, .int da, rt_r s0 ak, rt_r s0 pr, .int mn, .int fr, .int sp])))) := by
  refine rt_met Γ kk_X11_fits rfl (Nat.le_of_ble_eq_true rfl) rfl ?_
  refine rt_aload_n dX11_fits_0 rfl (j := 0) rfl ?_
  refine rt_iload_n dX11_fits_1 rfl (j := 1) rfl ?_
  refine rt_callS Γ kk_X11_isPlace kc_RX11_76 (c_X11_isPlace Γ (d := d - 1) (by omega) hok h0 h1) (by omega) (by decide) (As := [.int p]) (show (parseMethodDescriptor yX11_isPlace.desc).map (fun q => q.parameters.length) = some 1 by decide +kernel) hok (Nat.le_of_ble_eq_true rfl) dX11_fits_2 rfl rfl (rt_kr (st2 := [.int 1, rt_r s0 m]) rfl ?_) rt_kx
  refine rt_if_eq (tgt := 15) dX11_fits_5 (by decide) (fun c5 => absurd c5 (by decide)) (fun _ => ?_)
  refine rt_iload_n dX11_fits_8 rfl (j := 2) rfl ?_
  refine rt_callS Γ kk_X11_isPlace kc_RX11_76 (c_X11_isPlaceU Γ (d := d - 1) (by omega) hok h2 h3) (by omega) (by decide) (As := [.int i]) (show (parseMethodDescriptor yX11_isPlace.desc).map (fun q => q.parameters.length) = some 1 by decide +kernel) hok (Nat.le_of_ble_eq_true rfl) dX11_fits_9 rfl rfl (rt_kr (st2 := [.int 0, rt_r s0 m]) rfl ?_) rt_kx
  refine rt_if_ne (tgt := 19) dX11_fits_12 (by decide) (fun c12 => absurd c12 (fun h => h rfl)) (fun _ => ?_)
  refine rt_iconst (v := 1) dX11_fits_15 (by decide) ?_
  refine rt_goto (tgt := 20) dX11_fits_16 (by decide) ?_
  refine rt_iload_n dX11_fits_20 rfl (j := 1) rfl ?_
  refine rt_callS Γ kk_X11_isPlace kc_RX11_76 (c_X11_isPlace Γ (d := d - 1) (by omega) hok h0 h1) (by omega) (by decide) (As := [.int p]) (show (parseMethodDescriptor yX11_isPlace.desc).map (fun q => q.parameters.length) = some 1 by decide +kernel) hok (Nat.le_of_ble_eq_true rfl) dX11_fits_21 rfl rfl (rt_kr (st2 := [.int 1, .int 1, rt_r s0 m]) rfl ?_) rt_kx
  refine rt_if_eq (tgt := 56) dX11_fits_24 (by decide) (fun c24 => absurd c24 (by decide)) (fun _ => ?_)
  refine rt_iload_n dX11_fits_27 rfl (j := 2) rfl ?_
  refine rt_callS Γ kk_X11_isPlace kc_RX11_76 (c_X11_isPlaceU Γ (d := d - 1) (by omega) hok h2 h3) (by omega) (by decide) (As := [.int i]) (show (parseMethodDescriptor yX11_isPlace.desc).map (fun q => q.parameters.length) = some 1 by decide +kernel) hok (Nat.le_of_ble_eq_true rfl) dX11_fits_28 rfl rfl (rt_kr (st2 := [.int 0, .int 1, rt_r s0 m]) rfl ?_) rt_kx
  refine rt_if_eq (tgt := 56) dX11_fits_31 (by decide) (fun _ => ?_) (fun c31 => absurd rfl c31)
  refine rt_iconst (v := 0) dX11_fits_56 (by decide) ?_
  refine rt_callV Γ kk_X11_refused kc_RX11_60 (c_X11_refused1 Γ (d := d - 1) hM) (by omega) (by decide) (As := [.int 1, .int 0]) (show (parseMethodDescriptor yX11_refused.desc).map (fun q => q.parameters.length) = some 2 by decide +kernel) hok (Nat.le_of_ble_eq_true rfl) dX11_fits_57 hM rfl rfl rfl (rt_kr (st2 := [.int 1]) rfl ?_) rt_kx
  refine rt_if_eq (tgt := 65) dX11_fits_60 (by decide) (fun c60 => absurd c60 (by decide)) (fun _ => ?_)
  refine rt_iconst (v := 0) dX11_fits_63 (by decide) ?_
  exact rt_zret dX11_fits_64 rfl rfl (⟨rfl, rfl⟩)
set_option maxRecDepth 100000 in
theorem c_X11_fitsX {l : Launch} {s0 : State} {a0 : Array Value} {G : va_G} {ca : Nat → ClassId} (Γ : rt_Γ l s0 a0 G ca) {d : Nat} {w : rt_Wd} (hd : 2 ≤ d) (hok : rt_ok w) {m tp lf rt kp sz dk ou md ak pr : Nat} {th td pl ow rw rb os ms at_ fa wh it da mn fr sp : Int32} (hM : w.2.2 m = some (.inr (11, [.int th, rt_r s0 tp, .int td, .int pl, rt_r s0 lf, rt_r s0 rt, rt_r s0 kp, rt_r s0 sz, rt_r s0 dk, .int ow, .int rw, .int rb, rt_r s0 ou, .int os, rt_r s0 md, .int ms, .int at_, .int fa, .int wh, .int it, .int da, rt_r s0 ak, rt_r s0 pr, .int mn, .int fr, .int sp]))) {sf : Nat → Int32} (hZ : w.2.2 sz = some (.inl (ca 0, 8, .inl sf))) {p i : Int32} (h0 : ¬ p < 0) (h1 : ¬ 7 < p) (h2 : ¬ i < 0) (h3 : ¬ 7 < i) (h4 : sf p.toNatClampNeg < 0) : rt_Met l s0 G (.code yX11_fits cX11_fits 3 (Option.some FieldType.boolean)) yX11_fits d [rt_r s0 m, .int p, .int i] w (rt_is (.inl (some (.int 0))) (rt_up w m (.inr (11, [.int 2, rt_r s0 tp, .int td, .int pl, rt_r s0 lf, rt_r s0 rt, rt_r s0 kp, rt_r s0 sz, rt_r s0 dk, .int ow, .int rw, .int rb, rt_r s0 ou, .int os, rt_r s0 md, .int ms, .int at_, .int fa, .int wh, .int it, .int da, rt_r s0 ak, rt_r s0 pr, .int mn, .int fr, .int sp])))) := by
  refine rt_met Γ kk_X11_fits rfl (Nat.le_of_ble_eq_true rfl) rfl ?_
  refine rt_aload_n dX11_fits_0 rfl (j := 0) rfl ?_
  refine rt_iload_n dX11_fits_1 rfl (j := 1) rfl ?_
  refine rt_callS Γ kk_X11_isPlace kc_RX11_76 (c_X11_isPlace Γ (d := d - 1) (by omega) hok h0 h1) (by omega) (by decide) (As := [.int p]) (show (parseMethodDescriptor yX11_isPlace.desc).map (fun q => q.parameters.length) = some 1 by decide +kernel) hok (Nat.le_of_ble_eq_true rfl) dX11_fits_2 rfl rfl (rt_kr (st2 := [.int 1, rt_r s0 m]) rfl ?_) rt_kx
  refine rt_if_eq (tgt := 15) dX11_fits_5 (by decide) (fun c5 => absurd c5 (by decide)) (fun _ => ?_)
  refine rt_iload_n dX11_fits_8 rfl (j := 2) rfl ?_
  refine rt_callS Γ kk_X11_isPlace kc_RX11_76 (c_X11_isPlace Γ (d := d - 1) (by omega) hok h2 h3) (by omega) (by decide) (As := [.int i]) (show (parseMethodDescriptor yX11_isPlace.desc).map (fun q => q.parameters.length) = some 1 by decide +kernel) hok (Nat.le_of_ble_eq_true rfl) dX11_fits_9 rfl rfl (rt_kr (st2 := [.int 1, rt_r s0 m]) rfl ?_) rt_kx
  refine rt_if_ne (tgt := 19) dX11_fits_12 (by decide) (fun _ => ?_) (fun c12 => absurd c12 (by decide))
  refine rt_iconst (v := 0) dX11_fits_19 (by decide) ?_
  refine rt_iload_n dX11_fits_20 rfl (j := 1) rfl ?_
  refine rt_callS Γ kk_X11_isPlace kc_RX11_76 (c_X11_isPlace Γ (d := d - 1) (by omega) hok h0 h1) (by omega) (by decide) (As := [.int p]) (show (parseMethodDescriptor yX11_isPlace.desc).map (fun q => q.parameters.length) = some 1 by decide +kernel) hok (Nat.le_of_ble_eq_true rfl) dX11_fits_21 rfl rfl (rt_kr (st2 := [.int 1, .int 0, rt_r s0 m]) rfl ?_) rt_kx
  refine rt_if_eq (tgt := 56) dX11_fits_24 (by decide) (fun c24 => absurd c24 (by decide)) (fun _ => ?_)
  refine rt_iload_n dX11_fits_27 rfl (j := 2) rfl ?_
  refine rt_callS Γ kk_X11_isPlace kc_RX11_76 (c_X11_isPlace Γ (d := d - 1) (by omega) hok h2 h3) (by omega) (by decide) (As := [.int i]) (show (parseMethodDescriptor yX11_isPlace.desc).map (fun q => q.parameters.length) = some 1 by decide +kernel) hok (Nat.le_of_ble_eq_true rfl) dX11_fits_28 rfl rfl (rt_kr (st2 := [.int 1, .int 0, rt_r s0 m]) rfl ?_) rt_kx
  refine rt_if_eq (tgt := 56) dX11_fits_31 (by decide) (fun c31 => absurd c31 (by decide)) (fun _ => ?_)
  refine rt_aload_n dX11_fits_34 rfl (j := 0) rfl ?_
  refine rt_get Γ kf_RX11_31 dX11_fits_35 hM rfl ?_
  refine rt_iload_n dX11_fits_38 rfl (j := 1) rfl ?_
  refine rt_iald Γ dX11_fits_39 hZ (vp_in7 h0 h1) ?_
  refine rt_if_lt (tgt := 52) dX11_fits_40 (by decide) (fun _ => ?_) (fun c40 => absurd h4 c40)
  refine rt_iconst (v := 1) dX11_fits_52 (by decide) ?_
  refine rt_goto (tgt := 57) dX11_fits_53 (by decide) ?_
  refine rt_callV Γ kk_X11_refused kc_RX11_60 (c_X11_refused2 Γ (d := d - 1) hM) (by omega) (by decide) (As := [.int 0, .int 1]) (show (parseMethodDescriptor yX11_refused.desc).map (fun q => q.parameters.length) = some 2 by decide +kernel) hok (Nat.le_of_ble_eq_true rfl) dX11_fits_57 hM rfl rfl rfl (rt_kr (st2 := [.int 1]) rfl ?_) rt_kx
  refine rt_if_eq (tgt := 65) dX11_fits_60 (by decide) (fun c60 => absurd c60 (by decide)) (fun _ => ?_)
  refine rt_iconst (v := 0) dX11_fits_63 (by decide) ?_
  exact rt_zret dX11_fits_64 rfl rfl (⟨rfl, rfl⟩)
set_option maxRecDepth 100000 in
theorem c_X11_fitsY {l : Launch} {s0 : State} {a0 : Array Value} {G : va_G} {ca : Nat → ClassId} (Γ : rt_Γ l s0 a0 G ca) {d : Nat} {w : rt_Wd} (hd : 2 ≤ d) (hok : rt_ok w) {m tp lf rt kp sz dk ou md ak pr : Nat} {th td pl ow rw rb os ms at_ fa wh it da mn fr sp : Int32} (hM : w.2.2 m = some (.inr (11, [.int th, rt_r s0 tp, .int td, .int pl, rt_r s0 lf, rt_r s0 rt, rt_r s0 kp, rt_r s0 sz, rt_r s0 dk, .int ow, .int rw, .int rb, rt_r s0 ou, .int os, rt_r s0 md, .int ms, .int at_, .int fa, .int wh, .int it, .int da, rt_r s0 ak, rt_r s0 pr, .int mn, .int fr, .int sp]))) {sf : Nat → Int32} (hZ : w.2.2 sz = some (.inl (ca 0, 8, .inl sf))) {p i : Int32} (h0 : ¬ p < 0) (h1 : ¬ 7 < p) (h2 : ¬ i < 0) (h3 : ¬ 7 < i) (h4 : ¬ sf p.toNatClampNeg < 0) (h5 : ¬ 0 ≤ sf i.toNatClampNeg) : rt_Met l s0 G (.code yX11_fits cX11_fits 3 (Option.some FieldType.boolean)) yX11_fits d [rt_r s0 m, .int p, .int i] w (rt_is (.inl (some (.int 0))) (rt_up w m (.inr (11, [.int 2, rt_r s0 tp, .int td, .int pl, rt_r s0 lf, rt_r s0 rt, rt_r s0 kp, rt_r s0 sz, rt_r s0 dk, .int ow, .int rw, .int rb, rt_r s0 ou, .int os, rt_r s0 md, .int ms, .int at_, .int fa, .int wh, .int it, .int da, rt_r s0 ak, rt_r s0 pr, .int mn, .int fr, .int sp])))) := by
  refine rt_met Γ kk_X11_fits rfl (Nat.le_of_ble_eq_true rfl) rfl ?_
  refine rt_aload_n dX11_fits_0 rfl (j := 0) rfl ?_
  refine rt_iload_n dX11_fits_1 rfl (j := 1) rfl ?_
  refine rt_callS Γ kk_X11_isPlace kc_RX11_76 (c_X11_isPlace Γ (d := d - 1) (by omega) hok h0 h1) (by omega) (by decide) (As := [.int p]) (show (parseMethodDescriptor yX11_isPlace.desc).map (fun q => q.parameters.length) = some 1 by decide +kernel) hok (Nat.le_of_ble_eq_true rfl) dX11_fits_2 rfl rfl (rt_kr (st2 := [.int 1, rt_r s0 m]) rfl ?_) rt_kx
  refine rt_if_eq (tgt := 15) dX11_fits_5 (by decide) (fun c5 => absurd c5 (by decide)) (fun _ => ?_)
  refine rt_iload_n dX11_fits_8 rfl (j := 2) rfl ?_
  refine rt_callS Γ kk_X11_isPlace kc_RX11_76 (c_X11_isPlace Γ (d := d - 1) (by omega) hok h2 h3) (by omega) (by decide) (As := [.int i]) (show (parseMethodDescriptor yX11_isPlace.desc).map (fun q => q.parameters.length) = some 1 by decide +kernel) hok (Nat.le_of_ble_eq_true rfl) dX11_fits_9 rfl rfl (rt_kr (st2 := [.int 1, rt_r s0 m]) rfl ?_) rt_kx
  refine rt_if_ne (tgt := 19) dX11_fits_12 (by decide) (fun _ => ?_) (fun c12 => absurd c12 (by decide))
  refine rt_iconst (v := 0) dX11_fits_19 (by decide) ?_
  refine rt_iload_n dX11_fits_20 rfl (j := 1) rfl ?_
  refine rt_callS Γ kk_X11_isPlace kc_RX11_76 (c_X11_isPlace Γ (d := d - 1) (by omega) hok h0 h1) (by omega) (by decide) (As := [.int p]) (show (parseMethodDescriptor yX11_isPlace.desc).map (fun q => q.parameters.length) = some 1 by decide +kernel) hok (Nat.le_of_ble_eq_true rfl) dX11_fits_21 rfl rfl (rt_kr (st2 := [.int 1, .int 0, rt_r s0 m]) rfl ?_) rt_kx
  refine rt_if_eq (tgt := 56) dX11_fits_24 (by decide) (fun c24 => absurd c24 (by decide)) (fun _ => ?_)
  refine rt_iload_n dX11_fits_27 rfl (j := 2) rfl ?_
  refine rt_callS Γ kk_X11_isPlace kc_RX11_76 (c_X11_isPlace Γ (d := d - 1) (by omega) hok h2 h3) (by omega) (by decide) (As := [.int i]) (show (parseMethodDescriptor yX11_isPlace.desc).map (fun q => q.parameters.length) = some 1 by decide +kernel) hok (Nat.le_of_ble_eq_true rfl) dX11_fits_28 rfl rfl (rt_kr (st2 := [.int 1, .int 0, rt_r s0 m]) rfl ?_) rt_kx
  refine rt_if_eq (tgt := 56) dX11_fits_31 (by decide) (fun c31 => absurd c31 (by decide)) (fun _ => ?_)
  refine rt_aload_n dX11_fits_34 rfl (j := 0) rfl ?_
  refine rt_get Γ kf_RX11_31 dX11_fits_35 hM rfl ?_
  refine rt_iload_n dX11_fits_38 rfl (j := 1) rfl ?_
  refine rt_iald Γ dX11_fits_39 hZ (vp_in7 h0 h1) ?_
  refine rt_if_lt (tgt := 52) dX11_fits_40 (by decide) (fun c40 => absurd c40 h4) (fun _ => ?_)
  refine rt_aload_n dX11_fits_43 rfl (j := 0) rfl ?_
  refine rt_get Γ kf_RX11_31 dX11_fits_44 hM rfl ?_
  refine rt_iload_n dX11_fits_47 rfl (j := 2) rfl ?_
  refine rt_iald Γ dX11_fits_48 hZ (vp_in7 h2 h3) ?_
  refine rt_if_ge (tgt := 56) dX11_fits_49 (by decide) (fun c49 => absurd c49 h5) (fun _ => ?_)
  refine rt_iconst (v := 1) dX11_fits_52 (by decide) ?_
  refine rt_goto (tgt := 57) dX11_fits_53 (by decide) ?_
  refine rt_callV Γ kk_X11_refused kc_RX11_60 (c_X11_refused2 Γ (d := d - 1) hM) (by omega) (by decide) (As := [.int 0, .int 1]) (show (parseMethodDescriptor yX11_refused.desc).map (fun q => q.parameters.length) = some 2 by decide +kernel) hok (Nat.le_of_ble_eq_true rfl) dX11_fits_57 hM rfl rfl rfl (rt_kr (st2 := [.int 1]) rfl ?_) rt_kx
  refine rt_if_eq (tgt := 65) dX11_fits_60 (by decide) (fun c60 => absurd c60 (by decide)) (fun _ => ?_)
  refine rt_iconst (v := 0) dX11_fits_63 (by decide) ?_
  exact rt_zret dX11_fits_64 rfl rfl (⟨rfl, rfl⟩)
