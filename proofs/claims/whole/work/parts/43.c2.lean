/-! ===== small methods ===== -/
def zt_X5_count (l : Launch) (s0 : State) (G : va_G) (ca : Nat → ClassId) (d : Nat) (C : Nat × Nat) (S : zS) (w0 : rt_Wd) (r : Int)  (M : zM) (Q : Int → zM → Prop) (X : zM → Prop) : Prop :=
  Q ((M (r + 3) 1)) M
set_option maxRecDepth 100000 in
theorem z_X5_count {l : Launch} {s0 : State} {a0 : Array Value} {G : va_G} {ca : Nat → ClassId} (Γ : rt_Γ l s0 a0 G ca) {d : Nat} {C : Nat × Nat} {S : zS} (hd : 1 ≤ d) (hok : zok C) {r : Int} (hr : zRw S r)  {M : zM} {Q : Int → zM → Prop} {X : zM → Prop} (h : zt_X5_count l s0 G ca d C S (zw s0 ca C S M) r  M Q X) : zm_X5_count l s0 G ca d C S r  M Q X := by
  refine z_met (lv := [(0, zv s0 2 r)]) Γ kk_X5_count rfl (show (lg_sl [zv s0 2 r]).length ≤ 1 from by simp only [zn_2, show (lg_sl []).length = 0 from rfl]; omega) (show lv_args 0 [zv s0 2 r] = [(0, zv s0 2 r)] from by rw [zl_2]; rfl) ?_
  unfold zt_X5_count at h
  refine z_aload_n dX5_count_0 rfl (j := 0) rfl ?_
  refine z_getc Γ kf_RX5_20 dX5_count_1 hr.1 hr.2.1 rfl ?_
  refine z_callV Γ kk_X0_count kc_RX5_26 (As := []) (k_X0_count (d := d - 1) Γ hok (hr.2.2.2 : zCe S (r + 3) (r + 4) 4096) (M := M) (Q := fun v9 M9 => v9 = (M (r + 3) 1) ∧ M9 = M) (X := X) (show _ ∧ _ from ⟨rfl, rfl⟩)) (by omega) (by decide) (show (parseMethodDescriptor yX0_count.desc).map (fun q => q.parameters.length) = some 0 by decide +kernel) hok (Nat.zero_le _) dX5_count_4 (hr.2.2.2 : zCe S (r + 3) (r + 4) 4096).1 (hr.2.2.2 : zCe S (r + 3) (r + 4) 4096).2.2.2.1 rfl rfl (fun _ h9 => nomatch h9) ?_
  rintro v9 M9 ⟨e9, e8⟩
  rw [e9, e8]
  clear e9 e8 v9 M9
  show rt_Go _ _ _ _ _ _ _ _ _ _ _ _ 7 [(0, zv s0 2 r)] [zv s0 0 ((M (r + 3) 1))] (zw s0 ca C S M)
  exact z_iret dX5_count_7 rfl h

def zt_X5_bytes (l : Launch) (s0 : State) (G : va_G) (ca : Nat → ClassId) (d : Nat) (C : Nat × Nat) (S : zS) (w0 : rt_Wd) (r : Int)  (M : zM) (Q : Int → zM → Prop) (X : zM → Prop) : Prop :=
  Q (r + 1) M
set_option maxRecDepth 100000 in
theorem z_X5_bytes {l : Launch} {s0 : State} {a0 : Array Value} {G : va_G} {ca : Nat → ClassId} (Γ : rt_Γ l s0 a0 G ca) {d : Nat} {C : Nat × Nat} {S : zS} (hok : zok C) {r : Int} (hr : zRw S r)  {M : zM} {Q : Int → zM → Prop} {X : zM → Prop} (h : zt_X5_bytes l s0 G ca d C S (zw s0 ca C S M) r  M Q X) : zm_X5_bytes l s0 G ca d C S r  M Q X := by
  refine z_met (lv := [(0, zv s0 2 r)]) Γ kk_X5_bytes rfl (show (lg_sl [zv s0 2 r]).length ≤ 1 from by simp only [zn_2, show (lg_sl []).length = 0 from rfl]; omega) (show lv_args 0 [zv s0 2 r] = [(0, zv s0 2 r)] from by rw [zl_2]; rfl) ?_
  unfold zt_X5_bytes at h
  refine z_aload_n dX5_bytes_0 rfl (j := 0) rfl ?_
  refine z_getc Γ kf_RX5_14 dX5_bytes_1 hr.1 hr.2.1 rfl ?_
  exact z_aret dX5_bytes_4 rfl h

def zt_X5_start (l : Launch) (s0 : State) (G : va_G) (ca : Nat → ClassId) (d : Nat) (C : Nat × Nat) (S : zS) (w0 : rt_Wd) (r : Int) (i : Int) (M : zM) (Q : Int → zM → Prop) (X : zM → Prop) : Prop :=
  Q ((zat M (r + 4) 4096 i)) M
set_option maxRecDepth 100000 in
theorem z_X5_start {l : Launch} {s0 : State} {a0 : Array Value} {G : va_G} {ca : Nat → ClassId} (Γ : rt_Γ l s0 a0 G ca) {d : Nat} {C : Nat × Nat} {S : zS} (hd : 1 ≤ d) (hok : zok C) {r : Int} (hr : zRw S r) {i : Int} {M : zM} {Q : Int → zM → Prop} {X : zM → Prop} (h : zt_X5_start l s0 G ca d C S (zw s0 ca C S M) r i M Q X) : zm_X5_start l s0 G ca d C S r i M Q X := by
  refine z_met (lv := [(0, zv s0 2 r), (1, zv s0 0 i)]) Γ kk_X5_start rfl (show (lg_sl [zv s0 2 r, zv s0 0 i]).length ≤ 2 from by simp only [zn_0, zn_2, show (lg_sl []).length = 0 from rfl]; omega) (show lv_args 0 [zv s0 2 r, zv s0 0 i] = [(0, zv s0 2 r), (1, zv s0 0 i)] from by rw [zl_2, zl_0]; rfl) ?_
  unfold zt_X5_start at h
  refine z_aload_n dX5_start_0 rfl (j := 0) rfl ?_
  refine z_getc Γ kf_RX5_20 dX5_start_1 hr.1 hr.2.1 rfl ?_
  refine z_iload_n dX5_start_4 rfl (j := 1) rfl ?_
  refine z_callV Γ kk_X0_at kc_RX5_34 (As := [zv s0 0 i]) (k_X0_at (d := d - 1) Γ hok (hr.2.2.2 : zCe S (r + 3) (r + 4) 4096) (M := M) (Q := fun v9 M9 => v9 = (zat M (r + 4) 4096 i) ∧ M9 = M) (X := X) (show _ ∧ _ from ⟨rfl, rfl⟩)) (by omega) (by decide) (show (parseMethodDescriptor yX0_at.desc).map (fun q => q.parameters.length) = some 1 by decide +kernel) hok (Nat.zero_le _) dX5_start_5 (hr.2.2.2 : zCe S (r + 3) (r + 4) 4096).1 (hr.2.2.2 : zCe S (r + 3) (r + 4) 4096).2.2.2.1 rfl rfl (fun _ h9 => nomatch h9) ?_
  rintro v9 M9 ⟨e9, e8⟩
  rw [e9, e8]
  clear e9 e8 v9 M9
  show rt_Go _ _ _ _ _ _ _ _ _ _ _ _ 8 [(0, zv s0 2 r), (1, zv s0 0 i)] [zv s0 0 ((zat M (r + 4) 4096 i))] (zw s0 ca C S M)
  exact z_iret dX5_start_8 rfl h

def zt_X5_clear (l : Launch) (s0 : State) (G : va_G) (ca : Nat → ClassId) (d : Nat) (C : Nat × Nat) (S : zS) (w0 : rt_Wd) (r : Int)  (M : zM) (Q : Int → zM → Prop) (X : zM → Prop) : Prop :=
  Q 0 ((zcut ((zcut M (r + 1) 4096 0)) (r + 3) 4096 0))
set_option maxRecDepth 100000 in
theorem z_X5_clear {l : Launch} {s0 : State} {a0 : Array Value} {G : va_G} {ca : Nat → ClassId} (Γ : rt_Γ l s0 a0 G ca) {d : Nat} {C : Nat × Nat} {S : zS} (hd : 1 ≤ d) (hok : zok C) {r : Int} (hr : zRw S r)  {M : zM} {Q : Int → zM → Prop} {X : zM → Prop} (h : zt_X5_clear l s0 G ca d C S (zw s0 ca C S M) r  M Q X) : zm_X5_clear l s0 G ca d C S r  M Q X := by
  refine z_met (lv := [(0, zv s0 2 r)]) Γ kk_X5_clear rfl (show (lg_sl [zv s0 2 r]).length ≤ 1 from by simp only [zn_2, show (lg_sl []).length = 0 from rfl]; omega) (show lv_args 0 [zv s0 2 r] = [(0, zv s0 2 r)] from by rw [zl_2]; rfl) ?_
  unfold zt_X5_clear at h
  refine z_aload_n dX5_clear_0 rfl (j := 0) rfl ?_
  refine z_getc Γ kf_RX5_14 dX5_clear_1 hr.1 hr.2.1 rfl ?_
  refine z_iconst dX5_clear_4 ?_
  refine z_callV Γ kk_X0_cut kc_RX5_23 (As := [zv s0 0 0]) (k_X0_cut (d := d - 1) Γ hok (hr.2.2.1 : zCe S (r + 1) (r + 2) 4096) (M := M) (Q := fun v9 M9 => v9 = 0 ∧ M9 = (zcut M (r + 1) 4096 0)) (X := X) (show _ ∧ _ from ⟨rfl, rfl⟩)) (by omega) (by decide) (show (parseMethodDescriptor yX0_cut.desc).map (fun q => q.parameters.length) = some 1 by decide +kernel) hok (Nat.zero_le _) dX5_clear_5 (hr.2.2.1 : zCe S (r + 1) (r + 2) 4096).1 (hr.2.2.1 : zCe S (r + 1) (r + 2) 4096).2.2.2.1 rfl rfl (fun _ h9 => nomatch h9) ?_
  rintro v9 M9 ⟨e9, e8⟩
  rw [e9, e8]
  clear e9 e8 v9 M9
  show rt_Go _ _ _ _ _ _ _ _ _ _ _ _ 8 [(0, zv s0 2 r)] [] (zw s0 ca C S ((zcut M (r + 1) 4096 0)))
  refine z_aload_n dX5_clear_8 rfl (j := 0) rfl ?_
  refine z_getc Γ kf_RX5_20 dX5_clear_9 hr.1 hr.2.1 rfl ?_
  refine z_iconst dX5_clear_12 ?_
  refine z_callV Γ kk_X0_cut kc_RX5_23 (As := [zv s0 0 0]) (k_X0_cut (d := d - 1) Γ hok (hr.2.2.2 : zCe S (r + 3) (r + 4) 4096) (M := ((zcut M (r + 1) 4096 0))) (Q := fun v9 M9 => v9 = 0 ∧ M9 = (zcut ((zcut M (r + 1) 4096 0)) (r + 3) 4096 0)) (X := X) (show _ ∧ _ from ⟨rfl, rfl⟩)) (by omega) (by decide) (show (parseMethodDescriptor yX0_cut.desc).map (fun q => q.parameters.length) = some 1 by decide +kernel) hok (Nat.zero_le _) dX5_clear_13 (hr.2.2.2 : zCe S (r + 3) (r + 4) 4096).1 (hr.2.2.2 : zCe S (r + 3) (r + 4) 4096).2.2.2.1 rfl rfl (fun _ h9 => nomatch h9) ?_
  rintro v9 M9 ⟨e9, e8⟩
  rw [e9, e8]
  clear e9 e8 v9 M9
  show rt_Go _ _ _ _ _ _ _ _ _ _ _ _ 16 [(0, zv s0 2 r)] [] (zw s0 ca C S ((zcut ((zcut M (r + 1) 4096 0)) (r + 3) 4096 0)))
  exact z_vret dX5_clear_16 rfl h

def zt_X5_open (l : Launch) (s0 : State) (G : va_G) (ca : Nat → ClassId) (d : Nat) (C : Nat × Nat) (S : zS) (w0 : rt_Wd) (r : Int)  (M : zM) (Q : Int → zM → Prop) (X : zM → Prop) : Prop :=
  Q 0 ((zadd M (r + 3) (r + 4) 4096 ((M (r + 1) 1))))
set_option maxRecDepth 100000 in
theorem z_X5_open {l : Launch} {s0 : State} {a0 : Array Value} {G : va_G} {ca : Nat → ClassId} (Γ : rt_Γ l s0 a0 G ca) {d : Nat} {C : Nat × Nat} {S : zS} (hd : 1 ≤ d) (hok : zok C) {r : Int} (hr : zRw S r)  {M : zM} {Q : Int → zM → Prop} {X : zM → Prop} (h : zt_X5_open l s0 G ca d C S (zw s0 ca C S M) r  M Q X) : zm_X5_open l s0 G ca d C S r  M Q X := by
  refine z_met (lv := [(0, zv s0 2 r)]) Γ kk_X5_open rfl (show (lg_sl [zv s0 2 r]).length ≤ 1 from by simp only [zn_2, show (lg_sl []).length = 0 from rfl]; omega) (show lv_args 0 [zv s0 2 r] = [(0, zv s0 2 r)] from by rw [zl_2]; rfl) ?_
  unfold zt_X5_open at h
  refine z_aload_n dX5_open_0 rfl (j := 0) rfl ?_
  refine z_getc Γ kf_RX5_20 dX5_open_1 hr.1 hr.2.1 rfl ?_
  refine z_aload_n dX5_open_4 rfl (j := 0) rfl ?_
  refine z_getc Γ kf_RX5_14 dX5_open_5 hr.1 hr.2.1 rfl ?_
  refine z_callV Γ kk_X0_count kc_RX5_26 (As := []) (k_X0_count (d := d - 1) Γ hok (hr.2.2.1 : zCe S (r + 1) (r + 2) 4096) (M := M) (Q := fun v9 M9 => v9 = (M (r + 1) 1) ∧ M9 = M) (X := X) (show _ ∧ _ from ⟨rfl, rfl⟩)) (by omega) (by decide) (show (parseMethodDescriptor yX0_count.desc).map (fun q => q.parameters.length) = some 0 by decide +kernel) hok (by simp only [List.map, zv_cat0, zv_cat1, zv_cat2, List.sum_cons, List.sum_nil]; decide) dX5_open_8 (hr.2.2.1 : zCe S (r + 1) (r + 2) 4096).1 (hr.2.2.1 : zCe S (r + 1) (r + 2) 4096).2.2.2.1 rfl rfl (fun _ h9 => nomatch h9) ?_
  rintro v9 M9 ⟨e9, e8⟩
  rw [e9, e8]
  clear e9 e8 v9 M9
  show rt_Go _ _ _ _ _ _ _ _ _ _ _ _ 11 [(0, zv s0 2 r)] [zv s0 0 ((M (r + 1) 1)), zv s0 2 (r + 3)] (zw s0 ca C S M)
  refine z_callV Γ kk_X0_add kc_RX5_30 (As := [zv s0 0 ((M (r + 1) 1))]) (k_X0_add (d := d - 1) Γ hok (hr.2.2.2 : zCe S (r + 3) (r + 4) 4096) (M := M) (Q := fun v9 M9 => v9 = (zaddv M (r + 3) 4096) ∧ M9 = (zadd M (r + 3) (r + 4) 4096 ((M (r + 1) 1)))) (X := X) (show _ ∧ _ from ⟨rfl, rfl⟩)) (by omega) (by decide) (show (parseMethodDescriptor yX0_add.desc).map (fun q => q.parameters.length) = some 1 by decide +kernel) hok (Nat.zero_le _) dX5_open_11 (hr.2.2.2 : zCe S (r + 3) (r + 4) 4096).1 (hr.2.2.2 : zCe S (r + 3) (r + 4) 4096).2.2.2.1 rfl rfl (fun _ h9 => nomatch h9) ?_
  rintro v9 M9 ⟨e9, e8⟩
  rw [e9, e8]
  clear e9 e8 v9 M9
  show rt_Go _ _ _ _ _ _ _ _ _ _ _ _ 14 [(0, zv s0 2 r)] [zv s0 0 ((zaddv M (r + 3) 4096))] (zw s0 ca C S ((zadd M (r + 3) (r + 4) 4096 ((M (r + 1) 1)))))
  refine z_pop0 dX5_open_14 ?_
  exact z_vret dX5_open_15 rfl h

def zt_X6_root (l : Launch) (s0 : State) (G : va_G) (ca : Nat → ClassId) (d : Nat) (C : Nat × Nat) (S : zS) (w0 : rt_Wd) (p : Int)  (M : zM) (Q : Int → zM → Prop) (X : zM → Prop) : Prop :=
  Q (M p 12) M
set_option maxRecDepth 100000 in
theorem z_X6_root {l : Launch} {s0 : State} {a0 : Array Value} {G : va_G} {ca : Nat → ClassId} (Γ : rt_Γ l s0 a0 G ca) {d : Nat} {C : Nat × Nat} {S : zS} (hok : zok C) {p : Int} (hp : zSc S p)  {M : zM} {Q : Int → zM → Prop} {X : zM → Prop} (h : zt_X6_root l s0 G ca d C S (zw s0 ca C S M) p  M Q X) : zm_X6_root l s0 G ca d C S p  M Q X := by
  refine z_met (lv := [(0, zv s0 2 p)]) Γ kk_X6_root rfl (show (lg_sl [zv s0 2 p]).length ≤ 1 from by simp only [zn_2, show (lg_sl []).length = 0 from rfl]; omega) (show lv_args 0 [zv s0 2 p] = [(0, zv s0 2 p)] from by rw [zl_2]; rfl) ?_
  unfold zt_X6_root at h
  refine z_aload_n dX6_root_0 rfl (j := 0) rfl ?_
  refine z_get Γ kf_RX6_64 dX6_root_1 hp.1 hp.2.1 rfl (by decide) (v9 := M p 12) rfl ?_
  exact z_iret dX6_root_4 rfl h

def zt_X6_setRoot (l : Launch) (s0 : State) (G : va_G) (ca : Nat → ClassId) (d : Nat) (C : Nat × Nat) (S : zS) (w0 : rt_Wd) (p : Int) (s : Int) (M : zM) (Q : Int → zM → Prop) (X : zM → Prop) : Prop :=
  Q 0 ((zu M p 12 s))
set_option maxRecDepth 100000 in
theorem z_X6_setRoot {l : Launch} {s0 : State} {a0 : Array Value} {G : va_G} {ca : Nat → ClassId} (Γ : rt_Γ l s0 a0 G ca) {d : Nat} {C : Nat × Nat} {S : zS} (hok : zok C) {p : Int} (hp : zSc S p) {s : Int} {M : zM} {Q : Int → zM → Prop} {X : zM → Prop} (h : zt_X6_setRoot l s0 G ca d C S (zw s0 ca C S M) p s M Q X) : zm_X6_setRoot l s0 G ca d C S p s M Q X := by
  refine z_met (lv := [(0, zv s0 2 p), (1, zv s0 0 s)]) Γ kk_X6_setRoot rfl (show (lg_sl [zv s0 2 p, zv s0 0 s]).length ≤ 2 from by simp only [zn_0, zn_2, show (lg_sl []).length = 0 from rfl]; omega) (show lv_args 0 [zv s0 2 p, zv s0 0 s] = [(0, zv s0 2 p), (1, zv s0 0 s)] from by rw [zl_2, zl_0]; rfl) ?_
  unfold zt_X6_setRoot at h
  refine z_aload_n dX6_setRoot_0 rfl (j := 0) rfl ?_
  refine z_iload_n dX6_setRoot_1 rfl (j := 1) rfl ?_
  refine z_put0 Γ kp_RX6_64 dX6_setRoot_2 hp.1 hp.2.1 rfl (k9 := 12) rfl ?_
  exact z_vret dX6_setRoot_5 rfl h

def zt_X6_addNode (l : Launch) (s0 : State) (G : va_G) (ca : Nat → ClassId) (d : Nat) (C : Nat × Nat) (S : zS) (w0 : rt_Wd) (p : Int) (k : Int) (M : zM) (Q : Int → zM → Prop) (X : zM → Prop) : Prop :=
  Q ((M (p + 1) 1)) ((zput ((zput ((zput ((zput ((zput ((zadd M (p + 1) (p + 2) 134 k)) (p + 4) 134 ((M (p + 1) 1)) ((-1)))) (p + 6) 134 ((M (p + 1) 1)) ((-1)))) (p + 8) 134 ((M (p + 1) 1)) ((-1)))) (p + 10) 134 ((M (p + 1) 1)) 0)) (p + 12) 134 ((M (p + 1) 1)) 0))
set_option maxRecDepth 100000 in
theorem z_X6_addNode {l : Launch} {s0 : State} {a0 : Array Value} {G : va_G} {ca : Nat → ClassId} (Γ : rt_Γ l s0 a0 G ca) {d : Nat} {C : Nat × Nat} {S : zS} (hd : 1 ≤ d) (hok : zok C) {p : Int} (hp : zSc S p) {k : Int} {M : zM} {Q : Int → zM → Prop} {X : zM → Prop} (h : zt_X6_addNode l s0 G ca d C S (zw s0 ca C S M) p k M Q X) : zm_X6_addNode l s0 G ca d C S p k M Q X := by
  refine z_met (lv := [(0, zv s0 2 p), (1, zv s0 0 k)]) Γ kk_X6_addNode rfl (show (lg_sl [zv s0 2 p, zv s0 0 k]).length ≤ 3 from by simp only [zn_0, zn_2, show (lg_sl []).length = 0 from rfl]; omega) (show lv_args 0 [zv s0 2 p, zv s0 0 k] = [(0, zv s0 2 p), (1, zv s0 0 k)] from by rw [zl_2, zl_0]; rfl) ?_
  unfold zt_X6_addNode at h
  refine z_aload_n dX6_addNode_0 rfl (j := 0) rfl ?_
  refine z_getc Γ kf_RX6_16 dX6_addNode_1 hp.1 hp.2.1 rfl ?_
  refine z_callV Γ kk_X0_count kc_RX6_68 (As := []) (k_X0_count (d := d - 1) Γ hok (hp.2.2.1 : zCe S (p + 1) (p + 2) 134) (M := M) (Q := fun v9 M9 => v9 = (M (p + 1) 1) ∧ M9 = M) (X := X) (show _ ∧ _ from ⟨rfl, rfl⟩)) (by omega) (by decide) (show (parseMethodDescriptor yX0_count.desc).map (fun q => q.parameters.length) = some 0 by decide +kernel) hok (Nat.zero_le _) dX6_addNode_4 (hp.2.2.1 : zCe S (p + 1) (p + 2) 134).1 (hp.2.2.1 : zCe S (p + 1) (p + 2) 134).2.2.2.1 rfl rfl (fun _ h9 => nomatch h9) ?_
  rintro v9 M9 ⟨e9, e8⟩
  rw [e9, e8]
  clear e9 e8 v9 M9
  show rt_Go _ _ _ _ _ _ _ _ _ _ _ _ 7 [(0, zv s0 2 p), (1, zv s0 0 k)] [zv s0 0 ((M (p + 1) 1))] (zw s0 ca C S M)
  refine z_istore_n (i := 2) (lv' := [(2, zv s0 0 ((M (p + 1) 1))), (0, zv s0 2 p), (1, zv s0 0 k)]) dX6_addNode_7 rfl (by decide) (by simp [zv_cat0, zv_cat1, zv_cat2, zv_cats]) ?_
  refine z_aload_n dX6_addNode_8 rfl (j := 1) rfl ?_
  refine z_getc Γ kf_RX6_16 dX6_addNode_9 hp.1 hp.2.1 rfl ?_
  refine z_iload_n dX6_addNode_12 rfl (j := 2) rfl ?_
  refine z_callV Γ kk_X0_add kc_RX6_56 (As := [zv s0 0 k]) (k_X0_add (d := d - 1) Γ hok (hp.2.2.1 : zCe S (p + 1) (p + 2) 134) (M := M) (Q := fun v9 M9 => v9 = (zaddv M (p + 1) 134) ∧ M9 = (zadd M (p + 1) (p + 2) 134 k)) (X := X) (show _ ∧ _ from ⟨rfl, rfl⟩)) (by omega) (by decide) (show (parseMethodDescriptor yX0_add.desc).map (fun q => q.parameters.length) = some 1 by decide +kernel) hok (Nat.zero_le _) dX6_addNode_13 (hp.2.2.1 : zCe S (p + 1) (p + 2) 134).1 (hp.2.2.1 : zCe S (p + 1) (p + 2) 134).2.2.2.1 rfl rfl (fun _ h9 => nomatch h9) ?_
  rintro v9 M9 ⟨e9, e8⟩
  rw [e9, e8]
  clear e9 e8 v9 M9
  show rt_Go _ _ _ _ _ _ _ _ _ _ _ _ 16 [(2, zv s0 0 ((M (p + 1) 1))), (0, zv s0 2 p), (1, zv s0 0 k)] [zv s0 0 ((zaddv M (p + 1) 134))] (zw s0 ca C S ((zadd M (p + 1) (p + 2) 134 k)))
  refine z_pop0 dX6_addNode_16 ?_
  refine z_aload_n dX6_addNode_17 rfl (j := 1) rfl ?_
  refine z_getc Γ kf_RX6_20 dX6_addNode_18 hp.1 hp.2.1 rfl ?_
  refine z_iload_n dX6_addNode_21 rfl (j := 0) rfl ?_
  refine z_iconst dX6_addNode_22 ?_
  refine z_callV Γ kk_X0_put kc_RX6_60 (As := [zv s0 0 ((M (p + 1) 1)), zv s0 0 ((-1))]) (k_X0_put (d := d - 1) Γ hok (hp.2.2.2.1 : zCe S (p + 3) (p + 4) 134) (M := ((zadd M (p + 1) (p + 2) 134 k))) (Q := fun v9 M9 => v9 = 0 ∧ M9 = (zput ((zadd M (p + 1) (p + 2) 134 k)) (p + 4) 134 ((M (p + 1) 1)) ((-1)))) (X := X) (show _ ∧ _ from ⟨rfl, rfl⟩)) (by omega) (by decide) (show (parseMethodDescriptor yX0_put.desc).map (fun q => q.parameters.length) = some 2 by decide +kernel) hok (Nat.zero_le _) dX6_addNode_23 (hp.2.2.2.1 : zCe S (p + 3) (p + 4) 134).1 (hp.2.2.2.1 : zCe S (p + 3) (p + 4) 134).2.2.2.1 rfl rfl (fun _ h9 => nomatch h9) ?_
  rintro v9 M9 ⟨e9, e8⟩
  rw [e9, e8]
  clear e9 e8 v9 M9
  show rt_Go _ _ _ _ _ _ _ _ _ _ _ _ 26 [(2, zv s0 0 ((M (p + 1) 1))), (0, zv s0 2 p), (1, zv s0 0 k)] [] (zw s0 ca C S ((zput ((zadd M (p + 1) (p + 2) 134 k)) (p + 4) 134 ((M (p + 1) 1)) ((-1)))))
  refine z_aload_n dX6_addNode_26 rfl (j := 1) rfl ?_
  refine z_getc Γ kf_RX6_23 dX6_addNode_27 hp.1 hp.2.1 rfl ?_
  refine z_iload_n dX6_addNode_30 rfl (j := 0) rfl ?_
  refine z_iconst dX6_addNode_31 ?_
  refine z_callV Γ kk_X0_put kc_RX6_60 (As := [zv s0 0 ((M (p + 1) 1)), zv s0 0 ((-1))]) (k_X0_put (d := d - 1) Γ hok (hp.2.2.2.2.1 : zCe S (p + 5) (p + 6) 134) (M := ((zput ((zadd M (p + 1) (p + 2) 134 k)) (p + 4) 134 ((M (p + 1) 1)) ((-1))))) (Q := fun v9 M9 => v9 = 0 ∧ M9 = (zput ((zput ((zadd M (p + 1) (p + 2) 134 k)) (p + 4) 134 ((M (p + 1) 1)) ((-1)))) (p + 6) 134 ((M (p + 1) 1)) ((-1)))) (X := X) (show _ ∧ _ from ⟨rfl, rfl⟩)) (by omega) (by decide) (show (parseMethodDescriptor yX0_put.desc).map (fun q => q.parameters.length) = some 2 by decide +kernel) hok (Nat.zero_le _) dX6_addNode_32 (hp.2.2.2.2.1 : zCe S (p + 5) (p + 6) 134).1 (hp.2.2.2.2.1 : zCe S (p + 5) (p + 6) 134).2.2.2.1 rfl rfl (fun _ h9 => nomatch h9) ?_
  rintro v9 M9 ⟨e9, e8⟩
  rw [e9, e8]
  clear e9 e8 v9 M9
  show rt_Go _ _ _ _ _ _ _ _ _ _ _ _ 35 [(2, zv s0 0 ((M (p + 1) 1))), (0, zv s0 2 p), (1, zv s0 0 k)] [] (zw s0 ca C S ((zput ((zput ((zadd M (p + 1) (p + 2) 134 k)) (p + 4) 134 ((M (p + 1) 1)) ((-1)))) (p + 6) 134 ((M (p + 1) 1)) ((-1)))))
  refine z_aload_n dX6_addNode_35 rfl (j := 1) rfl ?_
  refine z_getc Γ kf_RX6_26 dX6_addNode_36 hp.1 hp.2.1 rfl ?_
  refine z_iload_n dX6_addNode_39 rfl (j := 0) rfl ?_
  refine z_iconst dX6_addNode_40 ?_
  refine z_callV Γ kk_X0_put kc_RX6_60 (As := [zv s0 0 ((M (p + 1) 1)), zv s0 0 ((-1))]) (k_X0_put (d := d - 1) Γ hok (hp.2.2.2.2.2.1 : zCe S (p + 7) (p + 8) 134) (M := ((zput ((zput ((zadd M (p + 1) (p + 2) 134 k)) (p + 4) 134 ((M (p + 1) 1)) ((-1)))) (p + 6) 134 ((M (p + 1) 1)) ((-1))))) (Q := fun v9 M9 => v9 = 0 ∧ M9 = (zput ((zput ((zput ((zadd M (p + 1) (p + 2) 134 k)) (p + 4) 134 ((M (p + 1) 1)) ((-1)))) (p + 6) 134 ((M (p + 1) 1)) ((-1)))) (p + 8) 134 ((M (p + 1) 1)) ((-1)))) (X := X) (show _ ∧ _ from ⟨rfl, rfl⟩)) (by omega) (by decide) (show (parseMethodDescriptor yX0_put.desc).map (fun q => q.parameters.length) = some 2 by decide +kernel) hok (Nat.zero_le _) dX6_addNode_41 (hp.2.2.2.2.2.1 : zCe S (p + 7) (p + 8) 134).1 (hp.2.2.2.2.2.1 : zCe S (p + 7) (p + 8) 134).2.2.2.1 rfl rfl (fun _ h9 => nomatch h9) ?_
  rintro v9 M9 ⟨e9, e8⟩
  rw [e9, e8]
  clear e9 e8 v9 M9
  show rt_Go _ _ _ _ _ _ _ _ _ _ _ _ 44 [(2, zv s0 0 ((M (p + 1) 1))), (0, zv s0 2 p), (1, zv s0 0 k)] [] (zw s0 ca C S ((zput ((zput ((zput ((zadd M (p + 1) (p + 2) 134 k)) (p + 4) 134 ((M (p + 1) 1)) ((-1)))) (p + 6) 134 ((M (p + 1) 1)) ((-1)))) (p + 8) 134 ((M (p + 1) 1)) ((-1)))))
  refine z_aload_n dX6_addNode_44 rfl (j := 1) rfl ?_
  refine z_getc Γ kf_RX6_29 dX6_addNode_45 hp.1 hp.2.1 rfl ?_
  refine z_iload_n dX6_addNode_48 rfl (j := 0) rfl ?_
  refine z_iconst dX6_addNode_49 ?_
  refine z_callV Γ kk_X0_put kc_RX6_60 (As := [zv s0 0 ((M (p + 1) 1)), zv s0 0 0]) (k_X0_put (d := d - 1) Γ hok (hp.2.2.2.2.2.2.1 : zCe S (p + 9) (p + 10) 134) (M := ((zput ((zput ((zput ((zadd M (p + 1) (p + 2) 134 k)) (p + 4) 134 ((M (p + 1) 1)) ((-1)))) (p + 6) 134 ((M (p + 1) 1)) ((-1)))) (p + 8) 134 ((M (p + 1) 1)) ((-1))))) (Q := fun v9 M9 => v9 = 0 ∧ M9 = (zput ((zput ((zput ((zput ((zadd M (p + 1) (p + 2) 134 k)) (p + 4) 134 ((M (p + 1) 1)) ((-1)))) (p + 6) 134 ((M (p + 1) 1)) ((-1)))) (p + 8) 134 ((M (p + 1) 1)) ((-1)))) (p + 10) 134 ((M (p + 1) 1)) 0)) (X := X) (show _ ∧ _ from ⟨rfl, rfl⟩)) (by omega) (by decide) (show (parseMethodDescriptor yX0_put.desc).map (fun q => q.parameters.length) = some 2 by decide +kernel) hok (Nat.zero_le _) dX6_addNode_50 (hp.2.2.2.2.2.2.1 : zCe S (p + 9) (p + 10) 134).1 (hp.2.2.2.2.2.2.1 : zCe S (p + 9) (p + 10) 134).2.2.2.1 rfl rfl (fun _ h9 => nomatch h9) ?_
  rintro v9 M9 ⟨e9, e8⟩
  rw [e9, e8]
  clear e9 e8 v9 M9
  show rt_Go _ _ _ _ _ _ _ _ _ _ _ _ 53 [(2, zv s0 0 ((M (p + 1) 1))), (0, zv s0 2 p), (1, zv s0 0 k)] [] (zw s0 ca C S ((zput ((zput ((zput ((zput ((zadd M (p + 1) (p + 2) 134 k)) (p + 4) 134 ((M (p + 1) 1)) ((-1)))) (p + 6) 134 ((M (p + 1) 1)) ((-1)))) (p + 8) 134 ((M (p + 1) 1)) ((-1)))) (p + 10) 134 ((M (p + 1) 1)) 0)))
  refine z_aload_n dX6_addNode_53 rfl (j := 1) rfl ?_
  refine z_getc Γ kf_RX6_32 dX6_addNode_54 hp.1 hp.2.1 rfl ?_
  refine z_iload_n dX6_addNode_57 rfl (j := 0) rfl ?_
  refine z_iconst dX6_addNode_58 ?_
  refine z_callV Γ kk_X0_put kc_RX6_60 (As := [zv s0 0 ((M (p + 1) 1)), zv s0 0 0]) (k_X0_put (d := d - 1) Γ hok (hp.2.2.2.2.2.2.2.1 : zCe S (p + 11) (p + 12) 134) (M := ((zput ((zput ((zput ((zput ((zadd M (p + 1) (p + 2) 134 k)) (p + 4) 134 ((M (p + 1) 1)) ((-1)))) (p + 6) 134 ((M (p + 1) 1)) ((-1)))) (p + 8) 134 ((M (p + 1) 1)) ((-1)))) (p + 10) 134 ((M (p + 1) 1)) 0))) (Q := fun v9 M9 => v9 = 0 ∧ M9 = (zput ((zput ((zput ((zput ((zput ((zadd M (p + 1) (p + 2) 134 k)) (p + 4) 134 ((M (p + 1) 1)) ((-1)))) (p + 6) 134 ((M (p + 1) 1)) ((-1)))) (p + 8) 134 ((M (p + 1) 1)) ((-1)))) (p + 10) 134 ((M (p + 1) 1)) 0)) (p + 12) 134 ((M (p + 1) 1)) 0)) (X := X) (show _ ∧ _ from ⟨rfl, rfl⟩)) (by omega) (by decide) (show (parseMethodDescriptor yX0_put.desc).map (fun q => q.parameters.length) = some 2 by decide +kernel) hok (Nat.zero_le _) dX6_addNode_59 (hp.2.2.2.2.2.2.2.1 : zCe S (p + 11) (p + 12) 134).1 (hp.2.2.2.2.2.2.2.1 : zCe S (p + 11) (p + 12) 134).2.2.2.1 rfl rfl (fun _ h9 => nomatch h9) ?_
  rintro v9 M9 ⟨e9, e8⟩
  rw [e9, e8]
  clear e9 e8 v9 M9
  show rt_Go _ _ _ _ _ _ _ _ _ _ _ _ 62 [(2, zv s0 0 ((M (p + 1) 1))), (0, zv s0 2 p), (1, zv s0 0 k)] [] (zw s0 ca C S ((zput ((zput ((zput ((zput ((zput ((zadd M (p + 1) (p + 2) 134 k)) (p + 4) 134 ((M (p + 1) 1)) ((-1)))) (p + 6) 134 ((M (p + 1) 1)) ((-1)))) (p + 8) 134 ((M (p + 1) 1)) ((-1)))) (p + 10) 134 ((M (p + 1) 1)) 0)) (p + 12) 134 ((M (p + 1) 1)) 0)))
  refine z_iload_n dX6_addNode_62 rfl (j := 0) rfl ?_
  exact z_iret dX6_addNode_63 rfl h

def zt_X6_kind (l : Launch) (s0 : State) (G : va_G) (ca : Nat → ClassId) (d : Nat) (C : Nat × Nat) (S : zS) (w0 : rt_Wd) (p : Int) (s : Int) (M : zM) (Q : Int → zM → Prop) (X : zM → Prop) : Prop :=
  Q ((zat M (p + 2) 134 s)) M
set_option maxRecDepth 100000 in
theorem z_X6_kind {l : Launch} {s0 : State} {a0 : Array Value} {G : va_G} {ca : Nat → ClassId} (Γ : rt_Γ l s0 a0 G ca) {d : Nat} {C : Nat × Nat} {S : zS} (hd : 1 ≤ d) (hok : zok C) {p : Int} (hp : zSc S p) {s : Int} {M : zM} {Q : Int → zM → Prop} {X : zM → Prop} (h : zt_X6_kind l s0 G ca d C S (zw s0 ca C S M) p s M Q X) : zm_X6_kind l s0 G ca d C S p s M Q X := by
  refine z_met (lv := [(0, zv s0 2 p), (1, zv s0 0 s)]) Γ kk_X6_kind rfl (show (lg_sl [zv s0 2 p, zv s0 0 s]).length ≤ 2 from by simp only [zn_0, zn_2, show (lg_sl []).length = 0 from rfl]; omega) (show lv_args 0 [zv s0 2 p, zv s0 0 s] = [(0, zv s0 2 p), (1, zv s0 0 s)] from by rw [zl_2, zl_0]; rfl) ?_
  unfold zt_X6_kind at h
  refine z_aload_n dX6_kind_0 rfl (j := 0) rfl ?_
  refine z_getc Γ kf_RX6_16 dX6_kind_1 hp.1 hp.2.1 rfl ?_
  refine z_iload_n dX6_kind_4 rfl (j := 1) rfl ?_
  refine z_callV Γ kk_X0_at kc_RX6_72 (As := [zv s0 0 s]) (k_X0_at (d := d - 1) Γ hok (hp.2.2.1 : zCe S (p + 1) (p + 2) 134) (M := M) (Q := fun v9 M9 => v9 = (zat M (p + 2) 134 s) ∧ M9 = M) (X := X) (show _ ∧ _ from ⟨rfl, rfl⟩)) (by omega) (by decide) (show (parseMethodDescriptor yX0_at.desc).map (fun q => q.parameters.length) = some 1 by decide +kernel) hok (Nat.zero_le _) dX6_kind_5 (hp.2.2.1 : zCe S (p + 1) (p + 2) 134).1 (hp.2.2.1 : zCe S (p + 1) (p + 2) 134).2.2.2.1 rfl rfl (fun _ h9 => nomatch h9) ?_
  rintro v9 M9 ⟨e9, e8⟩
  rw [e9, e8]
  clear e9 e8 v9 M9
  show rt_Go _ _ _ _ _ _ _ _ _ _ _ _ 8 [(0, zv s0 2 p), (1, zv s0 0 s)] [zv s0 0 ((zat M (p + 2) 134 s))] (zw s0 ca C S M)
  exact z_iret dX6_kind_8 rfl h

def zt_X6_setName (l : Launch) (s0 : State) (G : va_G) (ca : Nat → ClassId) (d : Nat) (C : Nat × Nat) (S : zS) (w0 : rt_Wd) (p : Int) (s : Int) (n : Int) (M : zM) (Q : Int → zM → Prop) (X : zM → Prop) : Prop :=
  Q 0 ((zput M (p + 4) 134 s n))
set_option maxRecDepth 100000 in
theorem z_X6_setName {l : Launch} {s0 : State} {a0 : Array Value} {G : va_G} {ca : Nat → ClassId} (Γ : rt_Γ l s0 a0 G ca) {d : Nat} {C : Nat × Nat} {S : zS} (hd : 1 ≤ d) (hok : zok C) {p : Int} (hp : zSc S p) {s : Int} {n : Int} {M : zM} {Q : Int → zM → Prop} {X : zM → Prop} (h : zt_X6_setName l s0 G ca d C S (zw s0 ca C S M) p s n M Q X) : zm_X6_setName l s0 G ca d C S p s n M Q X := by
  refine z_met (lv := [(0, zv s0 2 p), (1, zv s0 0 s), (2, zv s0 0 n)]) Γ kk_X6_setName rfl (show (lg_sl [zv s0 2 p, zv s0 0 s, zv s0 0 n]).length ≤ 3 from by simp only [zn_0, zn_2, show (lg_sl []).length = 0 from rfl]; omega) (show lv_args 0 [zv s0 2 p, zv s0 0 s, zv s0 0 n] = [(0, zv s0 2 p), (1, zv s0 0 s), (2, zv s0 0 n)] from by rw [zl_2, zl_0, zl_0]; rfl) ?_
  unfold zt_X6_setName at h
  refine z_aload_n dX6_setName_0 rfl (j := 0) rfl ?_
  refine z_getc Γ kf_RX6_20 dX6_setName_1 hp.1 hp.2.1 rfl ?_
  refine z_iload_n dX6_setName_4 rfl (j := 1) rfl ?_
  refine z_iload_n dX6_setName_5 rfl (j := 2) rfl ?_
  refine z_callV Γ kk_X0_put kc_RX6_60 (As := [zv s0 0 s, zv s0 0 n]) (k_X0_put (d := d - 1) Γ hok (hp.2.2.2.1 : zCe S (p + 3) (p + 4) 134) (M := M) (Q := fun v9 M9 => v9 = 0 ∧ M9 = (zput M (p + 4) 134 s n)) (X := X) (show _ ∧ _ from ⟨rfl, rfl⟩)) (by omega) (by decide) (show (parseMethodDescriptor yX0_put.desc).map (fun q => q.parameters.length) = some 2 by decide +kernel) hok (Nat.zero_le _) dX6_setName_6 (hp.2.2.2.1 : zCe S (p + 3) (p + 4) 134).1 (hp.2.2.2.1 : zCe S (p + 3) (p + 4) 134).2.2.2.1 rfl rfl (fun _ h9 => nomatch h9) ?_
  rintro v9 M9 ⟨e9, e8⟩
  rw [e9, e8]
  clear e9 e8 v9 M9
  show rt_Go _ _ _ _ _ _ _ _ _ _ _ _ 9 [(0, zv s0 2 p), (1, zv s0 0 s), (2, zv s0 0 n)] [] (zw s0 ca C S ((zput M (p + 4) 134 s n)))
  exact z_vret dX6_setName_9 rfl h

def zt_X6_item (l : Launch) (s0 : State) (G : va_G) (ca : Nat → ClassId) (d : Nat) (C : Nat × Nat) (S : zS) (w0 : rt_Wd) (p : Int) (s : Int) (M : zM) (Q : Int → zM → Prop) (X : zM → Prop) : Prop :=
  Q ((zat M (p + 6) 134 s)) M
set_option maxRecDepth 100000 in
theorem z_X6_item {l : Launch} {s0 : State} {a0 : Array Value} {G : va_G} {ca : Nat → ClassId} (Γ : rt_Γ l s0 a0 G ca) {d : Nat} {C : Nat × Nat} {S : zS} (hd : 1 ≤ d) (hok : zok C) {p : Int} (hp : zSc S p) {s : Int} {M : zM} {Q : Int → zM → Prop} {X : zM → Prop} (h : zt_X6_item l s0 G ca d C S (zw s0 ca C S M) p s M Q X) : zm_X6_item l s0 G ca d C S p s M Q X := by
  refine z_met (lv := [(0, zv s0 2 p), (1, zv s0 0 s)]) Γ kk_X6_item rfl (show (lg_sl [zv s0 2 p, zv s0 0 s]).length ≤ 2 from by simp only [zn_0, zn_2, show (lg_sl []).length = 0 from rfl]; omega) (show lv_args 0 [zv s0 2 p, zv s0 0 s] = [(0, zv s0 2 p), (1, zv s0 0 s)] from by rw [zl_2, zl_0]; rfl) ?_
  unfold zt_X6_item at h
  refine z_aload_n dX6_item_0 rfl (j := 0) rfl ?_
  refine z_getc Γ kf_RX6_23 dX6_item_1 hp.1 hp.2.1 rfl ?_
  refine z_iload_n dX6_item_4 rfl (j := 1) rfl ?_
  refine z_callV Γ kk_X0_at kc_RX6_72 (As := [zv s0 0 s]) (k_X0_at (d := d - 1) Γ hok (hp.2.2.2.2.1 : zCe S (p + 5) (p + 6) 134) (M := M) (Q := fun v9 M9 => v9 = (zat M (p + 6) 134 s) ∧ M9 = M) (X := X) (show _ ∧ _ from ⟨rfl, rfl⟩)) (by omega) (by decide) (show (parseMethodDescriptor yX0_at.desc).map (fun q => q.parameters.length) = some 1 by decide +kernel) hok (Nat.zero_le _) dX6_item_5 (hp.2.2.2.2.1 : zCe S (p + 5) (p + 6) 134).1 (hp.2.2.2.2.1 : zCe S (p + 5) (p + 6) 134).2.2.2.1 rfl rfl (fun _ h9 => nomatch h9) ?_
  rintro v9 M9 ⟨e9, e8⟩
  rw [e9, e8]
  clear e9 e8 v9 M9
  show rt_Go _ _ _ _ _ _ _ _ _ _ _ _ 8 [(0, zv s0 2 p), (1, zv s0 0 s)] [zv s0 0 ((zat M (p + 6) 134 s))] (zw s0 ca C S M)
  exact z_iret dX6_item_8 rfl h

def zt_X6_fixedSize (l : Launch) (s0 : State) (G : va_G) (ca : Nat → ClassId) (d : Nat) (C : Nat × Nat) (S : zS) (w0 : rt_Wd) (p : Int) (s : Int) (M : zM) (Q : Int → zM → Prop) (X : zM → Prop) : Prop :=
  Q ((zat M (p + 6) 134 s)) M
set_option maxRecDepth 100000 in
theorem z_X6_fixedSize {l : Launch} {s0 : State} {a0 : Array Value} {G : va_G} {ca : Nat → ClassId} (Γ : rt_Γ l s0 a0 G ca) {d : Nat} {C : Nat × Nat} {S : zS} (hd : 1 ≤ d) (hok : zok C) {p : Int} (hp : zSc S p) {s : Int} {M : zM} {Q : Int → zM → Prop} {X : zM → Prop} (h : zt_X6_fixedSize l s0 G ca d C S (zw s0 ca C S M) p s M Q X) : zm_X6_fixedSize l s0 G ca d C S p s M Q X := by
  refine z_met (lv := [(0, zv s0 2 p), (1, zv s0 0 s)]) Γ kk_X6_fixedSize rfl (show (lg_sl [zv s0 2 p, zv s0 0 s]).length ≤ 2 from by simp only [zn_0, zn_2, show (lg_sl []).length = 0 from rfl]; omega) (show lv_args 0 [zv s0 2 p, zv s0 0 s] = [(0, zv s0 2 p), (1, zv s0 0 s)] from by rw [zl_2, zl_0]; rfl) ?_
  unfold zt_X6_fixedSize at h
  refine z_aload_n dX6_fixedSize_0 rfl (j := 0) rfl ?_
  refine z_getc Γ kf_RX6_23 dX6_fixedSize_1 hp.1 hp.2.1 rfl ?_
  refine z_iload_n dX6_fixedSize_4 rfl (j := 1) rfl ?_
  refine z_callV Γ kk_X0_at kc_RX6_72 (As := [zv s0 0 s]) (k_X0_at (d := d - 1) Γ hok (hp.2.2.2.2.1 : zCe S (p + 5) (p + 6) 134) (M := M) (Q := fun v9 M9 => v9 = (zat M (p + 6) 134 s) ∧ M9 = M) (X := X) (show _ ∧ _ from ⟨rfl, rfl⟩)) (by omega) (by decide) (show (parseMethodDescriptor yX0_at.desc).map (fun q => q.parameters.length) = some 1 by decide +kernel) hok (Nat.zero_le _) dX6_fixedSize_5 (hp.2.2.2.2.1 : zCe S (p + 5) (p + 6) 134).1 (hp.2.2.2.2.1 : zCe S (p + 5) (p + 6) 134).2.2.2.1 rfl rfl (fun _ h9 => nomatch h9) ?_
  rintro v9 M9 ⟨e9, e8⟩
  rw [e9, e8]
  clear e9 e8 v9 M9
  show rt_Go _ _ _ _ _ _ _ _ _ _ _ _ 8 [(0, zv s0 2 p), (1, zv s0 0 s)] [zv s0 0 ((zat M (p + 6) 134 s))] (zw s0 ca C S M)
  exact z_iret dX6_fixedSize_8 rfl h

def zt_X6_fallback (l : Launch) (s0 : State) (G : va_G) (ca : Nat → ClassId) (d : Nat) (C : Nat × Nat) (S : zS) (w0 : rt_Wd) (p : Int) (s : Int) (M : zM) (Q : Int → zM → Prop) (X : zM → Prop) : Prop :=
  Q ((zat M (p + 6) 134 s)) M
set_option maxRecDepth 100000 in
theorem z_X6_fallback {l : Launch} {s0 : State} {a0 : Array Value} {G : va_G} {ca : Nat → ClassId} (Γ : rt_Γ l s0 a0 G ca) {d : Nat} {C : Nat × Nat} {S : zS} (hd : 1 ≤ d) (hok : zok C) {p : Int} (hp : zSc S p) {s : Int} {M : zM} {Q : Int → zM → Prop} {X : zM → Prop} (h : zt_X6_fallback l s0 G ca d C S (zw s0 ca C S M) p s M Q X) : zm_X6_fallback l s0 G ca d C S p s M Q X := by
  refine z_met (lv := [(0, zv s0 2 p), (1, zv s0 0 s)]) Γ kk_X6_fallback rfl (show (lg_sl [zv s0 2 p, zv s0 0 s]).length ≤ 2 from by simp only [zn_0, zn_2, show (lg_sl []).length = 0 from rfl]; omega) (show lv_args 0 [zv s0 2 p, zv s0 0 s] = [(0, zv s0 2 p), (1, zv s0 0 s)] from by rw [zl_2, zl_0]; rfl) ?_
  unfold zt_X6_fallback at h
  refine z_aload_n dX6_fallback_0 rfl (j := 0) rfl ?_
  refine z_getc Γ kf_RX6_23 dX6_fallback_1 hp.1 hp.2.1 rfl ?_
  refine z_iload_n dX6_fallback_4 rfl (j := 1) rfl ?_
  refine z_callV Γ kk_X0_at kc_RX6_72 (As := [zv s0 0 s]) (k_X0_at (d := d - 1) Γ hok (hp.2.2.2.2.1 : zCe S (p + 5) (p + 6) 134) (M := M) (Q := fun v9 M9 => v9 = (zat M (p + 6) 134 s) ∧ M9 = M) (X := X) (show _ ∧ _ from ⟨rfl, rfl⟩)) (by omega) (by decide) (show (parseMethodDescriptor yX0_at.desc).map (fun q => q.parameters.length) = some 1 by decide +kernel) hok (Nat.zero_le _) dX6_fallback_5 (hp.2.2.2.2.1 : zCe S (p + 5) (p + 6) 134).1 (hp.2.2.2.2.1 : zCe S (p + 5) (p + 6) 134).2.2.2.1 rfl rfl (fun _ h9 => nomatch h9) ?_
  rintro v9 M9 ⟨e9, e8⟩
  rw [e9, e8]
  clear e9 e8 v9 M9
  show rt_Go _ _ _ _ _ _ _ _ _ _ _ _ 8 [(0, zv s0 2 p), (1, zv s0 0 s)] [zv s0 0 ((zat M (p + 6) 134 s))] (zw s0 ca C S M)
  exact z_iret dX6_fallback_8 rfl h

def zt_X6_setDetail (l : Launch) (s0 : State) (G : va_G) (ca : Nat → ClassId) (d : Nat) (C : Nat × Nat) (S : zS) (w0 : rt_Wd) (p : Int) (s : Int) (v : Int) (M : zM) (Q : Int → zM → Prop) (X : zM → Prop) : Prop :=
  Q 0 ((zput M (p + 6) 134 s v))
set_option maxRecDepth 100000 in
theorem z_X6_setDetail {l : Launch} {s0 : State} {a0 : Array Value} {G : va_G} {ca : Nat → ClassId} (Γ : rt_Γ l s0 a0 G ca) {d : Nat} {C : Nat × Nat} {S : zS} (hd : 1 ≤ d) (hok : zok C) {p : Int} (hp : zSc S p) {s : Int} {v : Int} {M : zM} {Q : Int → zM → Prop} {X : zM → Prop} (h : zt_X6_setDetail l s0 G ca d C S (zw s0 ca C S M) p s v M Q X) : zm_X6_setDetail l s0 G ca d C S p s v M Q X := by
  refine z_met (lv := [(0, zv s0 2 p), (1, zv s0 0 s), (2, zv s0 0 v)]) Γ kk_X6_setDetail rfl (show (lg_sl [zv s0 2 p, zv s0 0 s, zv s0 0 v]).length ≤ 3 from by simp only [zn_0, zn_2, show (lg_sl []).length = 0 from rfl]; omega) (show lv_args 0 [zv s0 2 p, zv s0 0 s, zv s0 0 v] = [(0, zv s0 2 p), (1, zv s0 0 s), (2, zv s0 0 v)] from by rw [zl_2, zl_0, zl_0]; rfl) ?_
  unfold zt_X6_setDetail at h
  refine z_aload_n dX6_setDetail_0 rfl (j := 0) rfl ?_
  refine z_getc Γ kf_RX6_23 dX6_setDetail_1 hp.1 hp.2.1 rfl ?_
  refine z_iload_n dX6_setDetail_4 rfl (j := 1) rfl ?_
  refine z_iload_n dX6_setDetail_5 rfl (j := 2) rfl ?_
  refine z_callV Γ kk_X0_put kc_RX6_60 (As := [zv s0 0 s, zv s0 0 v]) (k_X0_put (d := d - 1) Γ hok (hp.2.2.2.2.1 : zCe S (p + 5) (p + 6) 134) (M := M) (Q := fun v9 M9 => v9 = 0 ∧ M9 = (zput M (p + 6) 134 s v)) (X := X) (show _ ∧ _ from ⟨rfl, rfl⟩)) (by omega) (by decide) (show (parseMethodDescriptor yX0_put.desc).map (fun q => q.parameters.length) = some 2 by decide +kernel) hok (Nat.zero_le _) dX6_setDetail_6 (hp.2.2.2.2.1 : zCe S (p + 5) (p + 6) 134).1 (hp.2.2.2.2.1 : zCe S (p + 5) (p + 6) 134).2.2.2.1 rfl rfl (fun _ h9 => nomatch h9) ?_
  rintro v9 M9 ⟨e9, e8⟩
  rw [e9, e8]
  clear e9 e8 v9 M9
  show rt_Go _ _ _ _ _ _ _ _ _ _ _ _ 9 [(0, zv s0 2 p), (1, zv s0 0 s), (2, zv s0 0 v)] [] (zw s0 ca C S ((zput M (p + 6) 134 s v)))
  exact z_vret dX6_setDetail_9 rfl h

def zt_X6_setFixedSize (l : Launch) (s0 : State) (G : va_G) (ca : Nat → ClassId) (d : Nat) (C : Nat × Nat) (S : zS) (w0 : rt_Wd) (p : Int) (s : Int) (v : Int) (M : zM) (Q : Int → zM → Prop) (X : zM → Prop) : Prop :=
  Q 0 ((zput ((zput M (p + 6) 134 s v)) (p + 8) 134 s v))
set_option maxRecDepth 100000 in
theorem z_X6_setFixedSize {l : Launch} {s0 : State} {a0 : Array Value} {G : va_G} {ca : Nat → ClassId} (Γ : rt_Γ l s0 a0 G ca) {d : Nat} {C : Nat × Nat} {S : zS} (hd : 1 ≤ d) (hok : zok C) {p : Int} (hp : zSc S p) {s : Int} {v : Int} {M : zM} {Q : Int → zM → Prop} {X : zM → Prop} (h : zt_X6_setFixedSize l s0 G ca d C S (zw s0 ca C S M) p s v M Q X) : zm_X6_setFixedSize l s0 G ca d C S p s v M Q X := by
  refine z_met (lv := [(0, zv s0 2 p), (1, zv s0 0 s), (2, zv s0 0 v)]) Γ kk_X6_setFixedSize rfl (show (lg_sl [zv s0 2 p, zv s0 0 s, zv s0 0 v]).length ≤ 3 from by simp only [zn_0, zn_2, show (lg_sl []).length = 0 from rfl]; omega) (show lv_args 0 [zv s0 2 p, zv s0 0 s, zv s0 0 v] = [(0, zv s0 2 p), (1, zv s0 0 s), (2, zv s0 0 v)] from by rw [zl_2, zl_0, zl_0]; rfl) ?_
  unfold zt_X6_setFixedSize at h
  refine z_aload_n dX6_setFixedSize_0 rfl (j := 0) rfl ?_
  refine z_getc Γ kf_RX6_23 dX6_setFixedSize_1 hp.1 hp.2.1 rfl ?_
  refine z_iload_n dX6_setFixedSize_4 rfl (j := 1) rfl ?_
  refine z_iload_n dX6_setFixedSize_5 rfl (j := 2) rfl ?_
  refine z_callV Γ kk_X0_put kc_RX6_60 (As := [zv s0 0 s, zv s0 0 v]) (k_X0_put (d := d - 1) Γ hok (hp.2.2.2.2.1 : zCe S (p + 5) (p + 6) 134) (M := M) (Q := fun v9 M9 => v9 = 0 ∧ M9 = (zput M (p + 6) 134 s v)) (X := X) (show _ ∧ _ from ⟨rfl, rfl⟩)) (by omega) (by decide) (show (parseMethodDescriptor yX0_put.desc).map (fun q => q.parameters.length) = some 2 by decide +kernel) hok (Nat.zero_le _) dX6_setFixedSize_6 (hp.2.2.2.2.1 : zCe S (p + 5) (p + 6) 134).1 (hp.2.2.2.2.1 : zCe S (p + 5) (p + 6) 134).2.2.2.1 rfl rfl (fun _ h9 => nomatch h9) ?_
  rintro v9 M9 ⟨e9, e8⟩
  rw [e9, e8]
  clear e9 e8 v9 M9
  show rt_Go _ _ _ _ _ _ _ _ _ _ _ _ 9 [(0, zv s0 2 p), (1, zv s0 0 s), (2, zv s0 0 v)] [] (zw s0 ca C S ((zput M (p + 6) 134 s v)))
  refine z_aload_n dX6_setFixedSize_9 rfl (j := 0) rfl ?_
  refine z_getc Γ kf_RX6_26 dX6_setFixedSize_10 hp.1 hp.2.1 rfl ?_
  refine z_iload_n dX6_setFixedSize_13 rfl (j := 1) rfl ?_
  refine z_iload_n dX6_setFixedSize_14 rfl (j := 2) rfl ?_
  refine z_callV Γ kk_X0_put kc_RX6_60 (As := [zv s0 0 s, zv s0 0 v]) (k_X0_put (d := d - 1) Γ hok (hp.2.2.2.2.2.1 : zCe S (p + 7) (p + 8) 134) (M := ((zput M (p + 6) 134 s v))) (Q := fun v9 M9 => v9 = 0 ∧ M9 = (zput ((zput M (p + 6) 134 s v)) (p + 8) 134 s v)) (X := X) (show _ ∧ _ from ⟨rfl, rfl⟩)) (by omega) (by decide) (show (parseMethodDescriptor yX0_put.desc).map (fun q => q.parameters.length) = some 2 by decide +kernel) hok (Nat.zero_le _) dX6_setFixedSize_15 (hp.2.2.2.2.2.1 : zCe S (p + 7) (p + 8) 134).1 (hp.2.2.2.2.2.1 : zCe S (p + 7) (p + 8) 134).2.2.2.1 rfl rfl (fun _ h9 => nomatch h9) ?_
  rintro v9 M9 ⟨e9, e8⟩
  rw [e9, e8]
  clear e9 e8 v9 M9
  show rt_Go _ _ _ _ _ _ _ _ _ _ _ _ 18 [(0, zv s0 2 p), (1, zv s0 0 s), (2, zv s0 0 v)] [] (zw s0 ca C S ((zput ((zput M (p + 6) 134 s v)) (p + 8) 134 s v)))
  exact z_vret dX6_setFixedSize_18 rfl h

def zt_X6_width (l : Launch) (s0 : State) (G : va_G) (ca : Nat → ClassId) (d : Nat) (C : Nat × Nat) (S : zS) (w0 : rt_Wd) (p : Int) (s : Int) (M : zM) (Q : Int → zM → Prop) (X : zM → Prop) : Prop :=
  Q ((zat M (p + 8) 134 s)) M
set_option maxRecDepth 100000 in
theorem z_X6_width {l : Launch} {s0 : State} {a0 : Array Value} {G : va_G} {ca : Nat → ClassId} (Γ : rt_Γ l s0 a0 G ca) {d : Nat} {C : Nat × Nat} {S : zS} (hd : 1 ≤ d) (hok : zok C) {p : Int} (hp : zSc S p) {s : Int} {M : zM} {Q : Int → zM → Prop} {X : zM → Prop} (h : zt_X6_width l s0 G ca d C S (zw s0 ca C S M) p s M Q X) : zm_X6_width l s0 G ca d C S p s M Q X := by
  refine z_met (lv := [(0, zv s0 2 p), (1, zv s0 0 s)]) Γ kk_X6_width rfl (show (lg_sl [zv s0 2 p, zv s0 0 s]).length ≤ 2 from by simp only [zn_0, zn_2, show (lg_sl []).length = 0 from rfl]; omega) (show lv_args 0 [zv s0 2 p, zv s0 0 s] = [(0, zv s0 2 p), (1, zv s0 0 s)] from by rw [zl_2, zl_0]; rfl) ?_
  unfold zt_X6_width at h
  refine z_aload_n dX6_width_0 rfl (j := 0) rfl ?_
  refine z_getc Γ kf_RX6_26 dX6_width_1 hp.1 hp.2.1 rfl ?_
  refine z_iload_n dX6_width_4 rfl (j := 1) rfl ?_
  refine z_callV Γ kk_X0_at kc_RX6_72 (As := [zv s0 0 s]) (k_X0_at (d := d - 1) Γ hok (hp.2.2.2.2.2.1 : zCe S (p + 7) (p + 8) 134) (M := M) (Q := fun v9 M9 => v9 = (zat M (p + 8) 134 s) ∧ M9 = M) (X := X) (show _ ∧ _ from ⟨rfl, rfl⟩)) (by omega) (by decide) (show (parseMethodDescriptor yX0_at.desc).map (fun q => q.parameters.length) = some 1 by decide +kernel) hok (Nat.zero_le _) dX6_width_5 (hp.2.2.2.2.2.1 : zCe S (p + 7) (p + 8) 134).1 (hp.2.2.2.2.2.1 : zCe S (p + 7) (p + 8) 134).2.2.2.1 rfl rfl (fun _ h9 => nomatch h9) ?_
  rintro v9 M9 ⟨e9, e8⟩
  rw [e9, e8]
  clear e9 e8 v9 M9
  show rt_Go _ _ _ _ _ _ _ _ _ _ _ _ 8 [(0, zv s0 2 p), (1, zv s0 0 s)] [zv s0 0 ((zat M (p + 8) 134 s))] (zw s0 ca C S M)
  exact z_iret dX6_width_8 rfl h

def zt_X6_allParts (l : Launch) (s0 : State) (G : va_G) (ca : Nat → ClassId) (d : Nat) (C : Nat × Nat) (S : zS) (w0 : rt_Wd) (p : Int)  (M : zM) (Q : Int → zM → Prop) (X : zM → Prop) : Prop :=
  Q ((M (p + 13) 1)) M
set_option maxRecDepth 100000 in
theorem z_X6_allParts {l : Launch} {s0 : State} {a0 : Array Value} {G : va_G} {ca : Nat → ClassId} (Γ : rt_Γ l s0 a0 G ca) {d : Nat} {C : Nat × Nat} {S : zS} (hd : 1 ≤ d) (hok : zok C) {p : Int} (hp : zSc S p)  {M : zM} {Q : Int → zM → Prop} {X : zM → Prop} (h : zt_X6_allParts l s0 G ca d C S (zw s0 ca C S M) p  M Q X) : zm_X6_allParts l s0 G ca d C S p  M Q X := by
  refine z_met (lv := [(0, zv s0 2 p)]) Γ kk_X6_allParts rfl (show (lg_sl [zv s0 2 p]).length ≤ 1 from by simp only [zn_2, show (lg_sl []).length = 0 from rfl]; omega) (show lv_args 0 [zv s0 2 p] = [(0, zv s0 2 p)] from by rw [zl_2]; rfl) ?_
  unfold zt_X6_allParts at h
  refine z_aload_n dX6_allParts_0 rfl (j := 0) rfl ?_
  refine z_getc Γ kf_RX6_35 dX6_allParts_1 hp.1 hp.2.1 rfl ?_
  refine z_callV Γ kk_X0_count kc_RX6_68 (As := []) (k_X0_count (d := d - 1) Γ hok (hp.2.2.2.2.2.2.2.2.1 : zCe S (p + 13) (p + 14) 2048) (M := M) (Q := fun v9 M9 => v9 = (M (p + 13) 1) ∧ M9 = M) (X := X) (show _ ∧ _ from ⟨rfl, rfl⟩)) (by omega) (by decide) (show (parseMethodDescriptor yX0_count.desc).map (fun q => q.parameters.length) = some 0 by decide +kernel) hok (Nat.zero_le _) dX6_allParts_4 (hp.2.2.2.2.2.2.2.2.1 : zCe S (p + 13) (p + 14) 2048).1 (hp.2.2.2.2.2.2.2.2.1 : zCe S (p + 13) (p + 14) 2048).2.2.2.1 rfl rfl (fun _ h9 => nomatch h9) ?_
  rintro v9 M9 ⟨e9, e8⟩
  rw [e9, e8]
  clear e9 e8 v9 M9
  show rt_Go _ _ _ _ _ _ _ _ _ _ _ _ 7 [(0, zv s0 2 p)] [zv s0 0 ((M (p + 13) 1))] (zw s0 ca C S M)
  exact z_iret dX6_allParts_7 rfl h

def zt_X6_parts (l : Launch) (s0 : State) (G : va_G) (ca : Nat → ClassId) (d : Nat) (C : Nat × Nat) (S : zS) (w0 : rt_Wd) (p : Int) (s : Int) (M : zM) (Q : Int → zM → Prop) (X : zM → Prop) : Prop :=
  Q ((zat M (p + 12) 134 s)) M
set_option maxRecDepth 100000 in
theorem z_X6_parts {l : Launch} {s0 : State} {a0 : Array Value} {G : va_G} {ca : Nat → ClassId} (Γ : rt_Γ l s0 a0 G ca) {d : Nat} {C : Nat × Nat} {S : zS} (hd : 1 ≤ d) (hok : zok C) {p : Int} (hp : zSc S p) {s : Int} {M : zM} {Q : Int → zM → Prop} {X : zM → Prop} (h : zt_X6_parts l s0 G ca d C S (zw s0 ca C S M) p s M Q X) : zm_X6_parts l s0 G ca d C S p s M Q X := by
  refine z_met (lv := [(0, zv s0 2 p), (1, zv s0 0 s)]) Γ kk_X6_parts rfl (show (lg_sl [zv s0 2 p, zv s0 0 s]).length ≤ 2 from by simp only [zn_0, zn_2, show (lg_sl []).length = 0 from rfl]; omega) (show lv_args 0 [zv s0 2 p, zv s0 0 s] = [(0, zv s0 2 p), (1, zv s0 0 s)] from by rw [zl_2, zl_0]; rfl) ?_
  unfold zt_X6_parts at h
  refine z_aload_n dX6_parts_0 rfl (j := 0) rfl ?_
  refine z_getc Γ kf_RX6_32 dX6_parts_1 hp.1 hp.2.1 rfl ?_
  refine z_iload_n dX6_parts_4 rfl (j := 1) rfl ?_
  refine z_callV Γ kk_X0_at kc_RX6_72 (As := [zv s0 0 s]) (k_X0_at (d := d - 1) Γ hok (hp.2.2.2.2.2.2.2.1 : zCe S (p + 11) (p + 12) 134) (M := M) (Q := fun v9 M9 => v9 = (zat M (p + 12) 134 s) ∧ M9 = M) (X := X) (show _ ∧ _ from ⟨rfl, rfl⟩)) (by omega) (by decide) (show (parseMethodDescriptor yX0_at.desc).map (fun q => q.parameters.length) = some 1 by decide +kernel) hok (Nat.zero_le _) dX6_parts_5 (hp.2.2.2.2.2.2.2.1 : zCe S (p + 11) (p + 12) 134).1 (hp.2.2.2.2.2.2.2.1 : zCe S (p + 11) (p + 12) 134).2.2.2.1 rfl rfl (fun _ h9 => nomatch h9) ?_
  rintro v9 M9 ⟨e9, e8⟩
  rw [e9, e8]
  clear e9 e8 v9 M9
  show rt_Go _ _ _ _ _ _ _ _ _ _ _ _ 8 [(0, zv s0 2 p), (1, zv s0 0 s)] [zv s0 0 ((zat M (p + 12) 134 s))] (zw s0 ca C S M)
  exact z_iret dX6_parts_8 rfl h

def zt_X6_part (l : Launch) (s0 : State) (G : va_G) (ca : Nat → ClassId) (d : Nat) (C : Nat × Nat) (S : zS) (w0 : rt_Wd) (p : Int) (s : Int) (k : Int) (M : zM) (Q : Int → zM → Prop) (X : zM → Prop) : Prop :=
  Q (((zat M (p + 10) 134 s)) + k) M
set_option maxRecDepth 100000 in
theorem z_X6_part {l : Launch} {s0 : State} {a0 : Array Value} {G : va_G} {ca : Nat → ClassId} (Γ : rt_Γ l s0 a0 G ca) {d : Nat} {C : Nat × Nat} {S : zS} (hd : 1 ≤ d) (hok : zok C) {p : Int} (hp : zSc S p) {s : Int} {k : Int} {M : zM} {Q : Int → zM → Prop} {X : zM → Prop} (h : zt_X6_part l s0 G ca d C S (zw s0 ca C S M) p s k M Q X) : zm_X6_part l s0 G ca d C S p s k M Q X := by
  refine z_met (lv := [(0, zv s0 2 p), (1, zv s0 0 s), (2, zv s0 0 k)]) Γ kk_X6_part rfl (show (lg_sl [zv s0 2 p, zv s0 0 s, zv s0 0 k]).length ≤ 3 from by simp only [zn_0, zn_2, show (lg_sl []).length = 0 from rfl]; omega) (show lv_args 0 [zv s0 2 p, zv s0 0 s, zv s0 0 k] = [(0, zv s0 2 p), (1, zv s0 0 s), (2, zv s0 0 k)] from by rw [zl_2, zl_0, zl_0]; rfl) ?_
  unfold zt_X6_part at h
  refine z_aload_n dX6_part_0 rfl (j := 0) rfl ?_
  refine z_getc Γ kf_RX6_29 dX6_part_1 hp.1 hp.2.1 rfl ?_
  refine z_iload_n dX6_part_4 rfl (j := 1) rfl ?_
  refine z_callV Γ kk_X0_at kc_RX6_72 (As := [zv s0 0 s]) (k_X0_at (d := d - 1) Γ hok (hp.2.2.2.2.2.2.1 : zCe S (p + 9) (p + 10) 134) (M := M) (Q := fun v9 M9 => v9 = (zat M (p + 10) 134 s) ∧ M9 = M) (X := X) (show _ ∧ _ from ⟨rfl, rfl⟩)) (by omega) (by decide) (show (parseMethodDescriptor yX0_at.desc).map (fun q => q.parameters.length) = some 1 by decide +kernel) hok (Nat.zero_le _) dX6_part_5 (hp.2.2.2.2.2.2.1 : zCe S (p + 9) (p + 10) 134).1 (hp.2.2.2.2.2.2.1 : zCe S (p + 9) (p + 10) 134).2.2.2.1 rfl rfl (fun _ h9 => nomatch h9) ?_
  rintro v9 M9 ⟨e9, e8⟩
  rw [e9, e8]
  clear e9 e8 v9 M9
  show rt_Go _ _ _ _ _ _ _ _ _ _ _ _ 8 [(0, zv s0 2 p), (1, zv s0 0 s), (2, zv s0 0 k)] [zv s0 0 ((zat M (p + 10) 134 s))] (zw s0 ca C S M)
  refine z_iload_n dX6_part_8 rfl (j := 2) rfl ?_
  refine z_iadd dX6_part_9 ?_
  exact z_iret dX6_part_10 rfl h

def zt_X6_partNode (l : Launch) (s0 : State) (G : va_G) (ca : Nat → ClassId) (d : Nat) (C : Nat × Nat) (S : zS) (w0 : rt_Wd) (p : Int) (i : Int) (M : zM) (Q : Int → zM → Prop) (X : zM → Prop) : Prop :=
  Q ((zat M (p + 14) 2048 i)) M
set_option maxRecDepth 100000 in
theorem z_X6_partNode {l : Launch} {s0 : State} {a0 : Array Value} {G : va_G} {ca : Nat → ClassId} (Γ : rt_Γ l s0 a0 G ca) {d : Nat} {C : Nat × Nat} {S : zS} (hd : 1 ≤ d) (hok : zok C) {p : Int} (hp : zSc S p) {i : Int} {M : zM} {Q : Int → zM → Prop} {X : zM → Prop} (h : zt_X6_partNode l s0 G ca d C S (zw s0 ca C S M) p i M Q X) : zm_X6_partNode l s0 G ca d C S p i M Q X := by
  refine z_met (lv := [(0, zv s0 2 p), (1, zv s0 0 i)]) Γ kk_X6_partNode rfl (show (lg_sl [zv s0 2 p, zv s0 0 i]).length ≤ 2 from by simp only [zn_0, zn_2, show (lg_sl []).length = 0 from rfl]; omega) (show lv_args 0 [zv s0 2 p, zv s0 0 i] = [(0, zv s0 2 p), (1, zv s0 0 i)] from by rw [zl_2, zl_0]; rfl) ?_
  unfold zt_X6_partNode at h
  refine z_aload_n dX6_partNode_0 rfl (j := 0) rfl ?_
  refine z_getc Γ kf_RX6_35 dX6_partNode_1 hp.1 hp.2.1 rfl ?_
  refine z_iload_n dX6_partNode_4 rfl (j := 1) rfl ?_
  refine z_callV Γ kk_X0_at kc_RX6_72 (As := [zv s0 0 i]) (k_X0_at (d := d - 1) Γ hok (hp.2.2.2.2.2.2.2.2.1 : zCe S (p + 13) (p + 14) 2048) (M := M) (Q := fun v9 M9 => v9 = (zat M (p + 14) 2048 i) ∧ M9 = M) (X := X) (show _ ∧ _ from ⟨rfl, rfl⟩)) (by omega) (by decide) (show (parseMethodDescriptor yX0_at.desc).map (fun q => q.parameters.length) = some 1 by decide +kernel) hok (Nat.zero_le _) dX6_partNode_5 (hp.2.2.2.2.2.2.2.2.1 : zCe S (p + 13) (p + 14) 2048).1 (hp.2.2.2.2.2.2.2.2.1 : zCe S (p + 13) (p + 14) 2048).2.2.2.1 rfl rfl (fun _ h9 => nomatch h9) ?_
  rintro v9 M9 ⟨e9, e8⟩
  rw [e9, e8]
  clear e9 e8 v9 M9
  show rt_Go _ _ _ _ _ _ _ _ _ _ _ _ 8 [(0, zv s0 2 p), (1, zv s0 0 i)] [zv s0 0 ((zat M (p + 14) 2048 i))] (zw s0 ca C S M)
  exact z_iret dX6_partNode_8 rfl h

def zt_X6_setPartNode (l : Launch) (s0 : State) (G : va_G) (ca : Nat → ClassId) (d : Nat) (C : Nat × Nat) (S : zS) (w0 : rt_Wd) (p : Int) (i : Int) (v : Int) (M : zM) (Q : Int → zM → Prop) (X : zM → Prop) : Prop :=
  Q 0 ((zput M (p + 14) 2048 i v))
set_option maxRecDepth 100000 in
theorem z_X6_setPartNode {l : Launch} {s0 : State} {a0 : Array Value} {G : va_G} {ca : Nat → ClassId} (Γ : rt_Γ l s0 a0 G ca) {d : Nat} {C : Nat × Nat} {S : zS} (hd : 1 ≤ d) (hok : zok C) {p : Int} (hp : zSc S p) {i : Int} {v : Int} {M : zM} {Q : Int → zM → Prop} {X : zM → Prop} (h : zt_X6_setPartNode l s0 G ca d C S (zw s0 ca C S M) p i v M Q X) : zm_X6_setPartNode l s0 G ca d C S p i v M Q X := by
  refine z_met (lv := [(0, zv s0 2 p), (1, zv s0 0 i), (2, zv s0 0 v)]) Γ kk_X6_setPartNode rfl (show (lg_sl [zv s0 2 p, zv s0 0 i, zv s0 0 v]).length ≤ 3 from by simp only [zn_0, zn_2, show (lg_sl []).length = 0 from rfl]; omega) (show lv_args 0 [zv s0 2 p, zv s0 0 i, zv s0 0 v] = [(0, zv s0 2 p), (1, zv s0 0 i), (2, zv s0 0 v)] from by rw [zl_2, zl_0, zl_0]; rfl) ?_
  unfold zt_X6_setPartNode at h
  refine z_aload_n dX6_setPartNode_0 rfl (j := 0) rfl ?_
  refine z_getc Γ kf_RX6_35 dX6_setPartNode_1 hp.1 hp.2.1 rfl ?_
  refine z_iload_n dX6_setPartNode_4 rfl (j := 1) rfl ?_
  refine z_iload_n dX6_setPartNode_5 rfl (j := 2) rfl ?_
  refine z_callV Γ kk_X0_put kc_RX6_60 (As := [zv s0 0 i, zv s0 0 v]) (k_X0_put (d := d - 1) Γ hok (hp.2.2.2.2.2.2.2.2.1 : zCe S (p + 13) (p + 14) 2048) (M := M) (Q := fun v9 M9 => v9 = 0 ∧ M9 = (zput M (p + 14) 2048 i v)) (X := X) (show _ ∧ _ from ⟨rfl, rfl⟩)) (by omega) (by decide) (show (parseMethodDescriptor yX0_put.desc).map (fun q => q.parameters.length) = some 2 by decide +kernel) hok (Nat.zero_le _) dX6_setPartNode_6 (hp.2.2.2.2.2.2.2.2.1 : zCe S (p + 13) (p + 14) 2048).1 (hp.2.2.2.2.2.2.2.2.1 : zCe S (p + 13) (p + 14) 2048).2.2.2.1 rfl rfl (fun _ h9 => nomatch h9) ?_
  rintro v9 M9 ⟨e9, e8⟩
  rw [e9, e8]
  clear e9 e8 v9 M9
  show rt_Go _ _ _ _ _ _ _ _ _ _ _ _ 9 [(0, zv s0 2 p), (1, zv s0 0 i), (2, zv s0 0 v)] [] (zw s0 ca C S ((zput M (p + 14) 2048 i v)))
  exact z_vret dX6_setPartNode_9 rfl h

def zt_X6_partName (l : Launch) (s0 : State) (G : va_G) (ca : Nat → ClassId) (d : Nat) (C : Nat × Nat) (S : zS) (w0 : rt_Wd) (p : Int) (i : Int) (M : zM) (Q : Int → zM → Prop) (X : zM → Prop) : Prop :=
  Q ((zat M (p + 16) 2048 i)) M
set_option maxRecDepth 100000 in
theorem z_X6_partName {l : Launch} {s0 : State} {a0 : Array Value} {G : va_G} {ca : Nat → ClassId} (Γ : rt_Γ l s0 a0 G ca) {d : Nat} {C : Nat × Nat} {S : zS} (hd : 1 ≤ d) (hok : zok C) {p : Int} (hp : zSc S p) {i : Int} {M : zM} {Q : Int → zM → Prop} {X : zM → Prop} (h : zt_X6_partName l s0 G ca d C S (zw s0 ca C S M) p i M Q X) : zm_X6_partName l s0 G ca d C S p i M Q X := by
  refine z_met (lv := [(0, zv s0 2 p), (1, zv s0 0 i)]) Γ kk_X6_partName rfl (show (lg_sl [zv s0 2 p, zv s0 0 i]).length ≤ 2 from by simp only [zn_0, zn_2, show (lg_sl []).length = 0 from rfl]; omega) (show lv_args 0 [zv s0 2 p, zv s0 0 i] = [(0, zv s0 2 p), (1, zv s0 0 i)] from by rw [zl_2, zl_0]; rfl) ?_
  unfold zt_X6_partName at h
  refine z_aload_n dX6_partName_0 rfl (j := 0) rfl ?_
  refine z_getc Γ kf_RX6_38 dX6_partName_1 hp.1 hp.2.1 rfl ?_
  refine z_iload_n dX6_partName_4 rfl (j := 1) rfl ?_
  refine z_callV Γ kk_X0_at kc_RX6_72 (As := [zv s0 0 i]) (k_X0_at (d := d - 1) Γ hok (hp.2.2.2.2.2.2.2.2.2.1 : zCe S (p + 15) (p + 16) 2048) (M := M) (Q := fun v9 M9 => v9 = (zat M (p + 16) 2048 i) ∧ M9 = M) (X := X) (show _ ∧ _ from ⟨rfl, rfl⟩)) (by omega) (by decide) (show (parseMethodDescriptor yX0_at.desc).map (fun q => q.parameters.length) = some 1 by decide +kernel) hok (Nat.zero_le _) dX6_partName_5 (hp.2.2.2.2.2.2.2.2.2.1 : zCe S (p + 15) (p + 16) 2048).1 (hp.2.2.2.2.2.2.2.2.2.1 : zCe S (p + 15) (p + 16) 2048).2.2.2.1 rfl rfl (fun _ h9 => nomatch h9) ?_
  rintro v9 M9 ⟨e9, e8⟩
  rw [e9, e8]
  clear e9 e8 v9 M9
  show rt_Go _ _ _ _ _ _ _ _ _ _ _ _ 8 [(0, zv s0 2 p), (1, zv s0 0 i)] [zv s0 0 ((zat M (p + 16) 2048 i))] (zw s0 ca C S M)
  exact z_iret dX6_partName_8 rfl h

def zt_X6_setPartName (l : Launch) (s0 : State) (G : va_G) (ca : Nat → ClassId) (d : Nat) (C : Nat × Nat) (S : zS) (w0 : rt_Wd) (p : Int) (i : Int) (v : Int) (M : zM) (Q : Int → zM → Prop) (X : zM → Prop) : Prop :=
  Q 0 ((zput M (p + 16) 2048 i v))
set_option maxRecDepth 100000 in
theorem z_X6_setPartName {l : Launch} {s0 : State} {a0 : Array Value} {G : va_G} {ca : Nat → ClassId} (Γ : rt_Γ l s0 a0 G ca) {d : Nat} {C : Nat × Nat} {S : zS} (hd : 1 ≤ d) (hok : zok C) {p : Int} (hp : zSc S p) {i : Int} {v : Int} {M : zM} {Q : Int → zM → Prop} {X : zM → Prop} (h : zt_X6_setPartName l s0 G ca d C S (zw s0 ca C S M) p i v M Q X) : zm_X6_setPartName l s0 G ca d C S p i v M Q X := by
  refine z_met (lv := [(0, zv s0 2 p), (1, zv s0 0 i), (2, zv s0 0 v)]) Γ kk_X6_setPartName rfl (show (lg_sl [zv s0 2 p, zv s0 0 i, zv s0 0 v]).length ≤ 3 from by simp only [zn_0, zn_2, show (lg_sl []).length = 0 from rfl]; omega) (show lv_args 0 [zv s0 2 p, zv s0 0 i, zv s0 0 v] = [(0, zv s0 2 p), (1, zv s0 0 i), (2, zv s0 0 v)] from by rw [zl_2, zl_0, zl_0]; rfl) ?_
  unfold zt_X6_setPartName at h
  refine z_aload_n dX6_setPartName_0 rfl (j := 0) rfl ?_
  refine z_getc Γ kf_RX6_38 dX6_setPartName_1 hp.1 hp.2.1 rfl ?_
  refine z_iload_n dX6_setPartName_4 rfl (j := 1) rfl ?_
  refine z_iload_n dX6_setPartName_5 rfl (j := 2) rfl ?_
  refine z_callV Γ kk_X0_put kc_RX6_60 (As := [zv s0 0 i, zv s0 0 v]) (k_X0_put (d := d - 1) Γ hok (hp.2.2.2.2.2.2.2.2.2.1 : zCe S (p + 15) (p + 16) 2048) (M := M) (Q := fun v9 M9 => v9 = 0 ∧ M9 = (zput M (p + 16) 2048 i v)) (X := X) (show _ ∧ _ from ⟨rfl, rfl⟩)) (by omega) (by decide) (show (parseMethodDescriptor yX0_put.desc).map (fun q => q.parameters.length) = some 2 by decide +kernel) hok (Nat.zero_le _) dX6_setPartName_6 (hp.2.2.2.2.2.2.2.2.2.1 : zCe S (p + 15) (p + 16) 2048).1 (hp.2.2.2.2.2.2.2.2.2.1 : zCe S (p + 15) (p + 16) 2048).2.2.2.1 rfl rfl (fun _ h9 => nomatch h9) ?_
  rintro v9 M9 ⟨e9, e8⟩
  rw [e9, e8]
  clear e9 e8 v9 M9
  show rt_Go _ _ _ _ _ _ _ _ _ _ _ _ 9 [(0, zv s0 2 p), (1, zv s0 0 i), (2, zv s0 0 v)] [] (zw s0 ca C S ((zput M (p + 16) 2048 i v)))
  exact z_vret dX6_setPartName_9 rfl h

def zt_X6_branch (l : Launch) (s0 : State) (G : va_G) (ca : Nat → ClassId) (d : Nat) (C : Nat × Nat) (S : zS) (w0 : rt_Wd) (p : Int) (s : Int) (k : Int) (M : zM) (Q : Int → zM → Prop) (X : zM → Prop) : Prop :=
  zIf (w32 k < 0) (Q 0 M) (zIf (w32 ((zat M (p + 12) 134 s)) ≤ w32 k) (Q 0 M) (Q ((zat M (p + 14) 2048 (((zat M (p + 10) 134 s)) + k))) M))
set_option maxRecDepth 100000 in
theorem z_X6_branch {l : Launch} {s0 : State} {a0 : Array Value} {G : va_G} {ca : Nat → ClassId} (Γ : rt_Γ l s0 a0 G ca) {d : Nat} {C : Nat × Nat} {S : zS} (hd : 1 ≤ d) (hok : zok C) {p : Int} (hp : zSc S p) {s : Int} {k : Int} {M : zM} {Q : Int → zM → Prop} {X : zM → Prop} (h : zt_X6_branch l s0 G ca d C S (zw s0 ca C S M) p s k M Q X) : zm_X6_branch l s0 G ca d C S p s k M Q X := by
  refine z_met (lv := [(0, zv s0 2 p), (1, zv s0 0 s), (2, zv s0 0 k)]) Γ kk_X6_branch rfl (show (lg_sl [zv s0 2 p, zv s0 0 s, zv s0 0 k]).length ≤ 3 from by simp only [zn_0, zn_2, show (lg_sl []).length = 0 from rfl]; omega) (show lv_args 0 [zv s0 2 p, zv s0 0 s, zv s0 0 k] = [(0, zv s0 2 p), (1, zv s0 0 s), (2, zv s0 0 k)] from by rw [zl_2, zl_0, zl_0]; rfl) ?_
  unfold zt_X6_branch at h
  refine z_iload_n dX6_branch_0 rfl (j := 2) rfl ?_
  refine z_if_lt (tgt := 36) (x' := w32 k) rfl dX6_branch_1 (by decide) (fun c1 => ?_) (fun c1 => ?_)
  · replace h := h.1 c1
    refine z_iconst dX6_branch_36 ?_
    exact z_iret dX6_branch_37 rfl h
  · replace h := h.2 c1
    refine z_iload_n dX6_branch_4 rfl (j := 2) rfl ?_
    refine z_aload_n dX6_branch_5 rfl (j := 0) rfl ?_
    refine z_getc Γ kf_RX6_32 dX6_branch_6 hp.1 hp.2.1 rfl ?_
    refine z_iload_n dX6_branch_9 rfl (j := 1) rfl ?_
    refine z_callV Γ kk_X0_at kc_RX6_72 (As := [zv s0 0 s]) (k_X0_at (d := d - 1) Γ hok (hp.2.2.2.2.2.2.2.1 : zCe S (p + 11) (p + 12) 134) (M := M) (Q := fun v9 M9 => v9 = (zat M (p + 12) 134 s) ∧ M9 = M) (X := X) (show _ ∧ _ from ⟨rfl, rfl⟩)) (by omega) (by decide) (show (parseMethodDescriptor yX0_at.desc).map (fun q => q.parameters.length) = some 1 by decide +kernel) hok (by simp only [List.map, zv_cat0, zv_cat1, zv_cat2, List.sum_cons, List.sum_nil]; decide) dX6_branch_10 (hp.2.2.2.2.2.2.2.1 : zCe S (p + 11) (p + 12) 134).1 (hp.2.2.2.2.2.2.2.1 : zCe S (p + 11) (p + 12) 134).2.2.2.1 rfl rfl (fun _ h9 => nomatch h9) ?_
    rintro v9 M9 ⟨e9, e8⟩
    rw [e9, e8]
    clear e9 e8 v9 M9
    show rt_Go _ _ _ _ _ _ _ _ _ _ _ _ 13 [(0, zv s0 2 p), (1, zv s0 0 s), (2, zv s0 0 k)] [zv s0 0 ((zat M (p + 12) 134 s)), zv s0 0 k] (zw s0 ca C S M)
    refine z_icmp_ge (tgt := 36) (x' := w32 k) (y' := w32 ((zat M (p + 12) 134 s))) rfl rfl dX6_branch_13 (by decide) (fun c13 => ?_) (fun c13 => ?_)
    · replace h := h.1 c13
      refine z_iconst dX6_branch_36 ?_
      exact z_iret dX6_branch_37 rfl h
    · replace h := h.2 c13
      refine z_aload_n dX6_branch_16 rfl (j := 0) rfl ?_
      refine z_getc Γ kf_RX6_35 dX6_branch_17 hp.1 hp.2.1 rfl ?_
      refine z_aload_n dX6_branch_20 rfl (j := 0) rfl ?_
      refine z_getc Γ kf_RX6_29 dX6_branch_21 hp.1 hp.2.1 rfl ?_
      refine z_iload_n dX6_branch_24 rfl (j := 1) rfl ?_
      refine z_callV Γ kk_X0_at kc_RX6_72 (As := [zv s0 0 s]) (k_X0_at (d := d - 1) Γ hok (hp.2.2.2.2.2.2.1 : zCe S (p + 9) (p + 10) 134) (M := M) (Q := fun v9 M9 => v9 = (zat M (p + 10) 134 s) ∧ M9 = M) (X := X) (show _ ∧ _ from ⟨rfl, rfl⟩)) (by omega) (by decide) (show (parseMethodDescriptor yX0_at.desc).map (fun q => q.parameters.length) = some 1 by decide +kernel) hok (by simp only [List.map, zv_cat0, zv_cat1, zv_cat2, List.sum_cons, List.sum_nil]; decide) dX6_branch_25 (hp.2.2.2.2.2.2.1 : zCe S (p + 9) (p + 10) 134).1 (hp.2.2.2.2.2.2.1 : zCe S (p + 9) (p + 10) 134).2.2.2.1 rfl rfl (fun _ h9 => nomatch h9) ?_
      rintro v9 M9 ⟨e9, e8⟩
      rw [e9, e8]
      clear e9 e8 v9 M9
      show rt_Go _ _ _ _ _ _ _ _ _ _ _ _ 28 [(0, zv s0 2 p), (1, zv s0 0 s), (2, zv s0 0 k)] [zv s0 0 ((zat M (p + 10) 134 s)), zv s0 2 (p + 13)] (zw s0 ca C S M)
      refine z_iload_n dX6_branch_28 rfl (j := 2) rfl ?_
      refine z_iadd dX6_branch_29 ?_
      refine z_callV Γ kk_X0_at kc_RX6_72 (As := [zv s0 0 (((zat M (p + 10) 134 s)) + k)]) (k_X0_at (d := d - 1) Γ hok (hp.2.2.2.2.2.2.2.2.1 : zCe S (p + 13) (p + 14) 2048) (M := M) (Q := fun v9 M9 => v9 = (zat M (p + 14) 2048 (((zat M (p + 10) 134 s)) + k)) ∧ M9 = M) (X := X) (show _ ∧ _ from ⟨rfl, rfl⟩)) (by omega) (by decide) (show (parseMethodDescriptor yX0_at.desc).map (fun q => q.parameters.length) = some 1 by decide +kernel) hok (Nat.zero_le _) dX6_branch_30 (hp.2.2.2.2.2.2.2.2.1 : zCe S (p + 13) (p + 14) 2048).1 (hp.2.2.2.2.2.2.2.2.1 : zCe S (p + 13) (p + 14) 2048).2.2.2.1 rfl rfl (fun _ h9 => nomatch h9) ?_
      rintro v9 M9 ⟨e9, e8⟩
      rw [e9, e8]
      clear e9 e8 v9 M9
      show rt_Go _ _ _ _ _ _ _ _ _ _ _ _ 33 [(0, zv s0 2 p), (1, zv s0 0 s), (2, zv s0 0 k)] [zv s0 0 ((zat M (p + 14) 2048 (((zat M (p + 10) 134 s)) + k)))] (zw s0 ca C S M)
      refine rt_goto (tgt := 37) dX6_branch_33 (by decide) ?_
      exact z_iret dX6_branch_37 rfl h

def zf_X6_branch (M : zM) (p : Int) (s : Int) (k : Int) : Int := (if w32 k < 0 then 0 else (if w32 ((zat M (p + 12) 134 s)) ≤ w32 k then 0 else ((zat M (p + 14) 2048 (((zat M (p + 10) 134 s)) + k)))))
theorem k_X6_branch {l : Launch} {s0 : State} {a0 : Array Value} {G : va_G} {ca : Nat → ClassId} (Γ : rt_Γ l s0 a0 G ca) {d : Nat} {C : Nat × Nat} {S : zS} (hd : 1 ≤ d) (hok : zok C) {p : Int} (hp : zSc S p) {s : Int} {k : Int} {M : zM} {Q : Int → zM → Prop} {X : zM → Prop} (h : Q (zf_X6_branch M p s k) M) : zm_X6_branch l s0 G ca d C S p s k M Q X := by
  refine z_X6_branch Γ hd hok hp ?_
  unfold zt_X6_branch
  unfold zf_X6_branch at h
  by_cases c1 : w32 k < 0
  · refine ⟨fun _ => ?_, fun c9 => absurd c1 c9⟩
    simp only [if_pos c1] at h
    exact h
  · refine ⟨fun c9 => absurd c9 c1, fun _ => ?_⟩
    simp only [if_neg c1] at h
    by_cases c2 : w32 ((zat M (p + 12) 134 s)) ≤ w32 k
    · refine ⟨fun _ => ?_, fun c9 => absurd c2 c9⟩
      simp only [if_pos c2] at h
      exact h
    · refine ⟨fun c9 => absurd c9 c2, fun _ => ?_⟩
      simp only [if_neg c2] at h
      exact h
def zt_X6_defaults (l : Launch) (s0 : State) (G : va_G) (ca : Nat → ClassId) (d : Nat) (C : Nat × Nat) (S : zS) (w0 : rt_Wd) (p : Int)  (M : zM) (Q : Int → zM → Prop) (X : zM → Prop) : Prop :=
  Q (p + 23) M
set_option maxRecDepth 100000 in
theorem z_X6_defaults {l : Launch} {s0 : State} {a0 : Array Value} {G : va_G} {ca : Nat → ClassId} (Γ : rt_Γ l s0 a0 G ca) {d : Nat} {C : Nat × Nat} {S : zS} (hok : zok C) {p : Int} (hp : zSc S p)  {M : zM} {Q : Int → zM → Prop} {X : zM → Prop} (h : zt_X6_defaults l s0 G ca d C S (zw s0 ca C S M) p  M Q X) : zm_X6_defaults l s0 G ca d C S p  M Q X := by
  refine z_met (lv := [(0, zv s0 2 p)]) Γ kk_X6_defaults rfl (show (lg_sl [zv s0 2 p]).length ≤ 1 from by simp only [zn_2, show (lg_sl []).length = 0 from rfl]; omega) (show lv_args 0 [zv s0 2 p] = [(0, zv s0 2 p)] from by rw [zl_2]; rfl) ?_
  unfold zt_X6_defaults at h
  refine z_aload_n dX6_defaults_0 rfl (j := 0) rfl ?_
  refine z_getc Γ kf_RX6_50 dX6_defaults_1 hp.1 hp.2.1 rfl ?_
  exact z_aret dX6_defaults_4 rfl h

def zt_X6_hasDefault (l : Launch) (s0 : State) (G : va_G) (ca : Nat → ClassId) (d : Nat) (C : Nat × Nat) (S : zS) (w0 : rt_Wd) (p : Int) (i : Int) (M : zM) (Q : Int → zM → Prop) (X : zM → Prop) : Prop :=
  zIf (w32 ((zat M (p + 18) 2048 i)) = ((-1))) (Q 0 M) (Q 1 M)
set_option maxRecDepth 100000 in
theorem z_X6_hasDefault {l : Launch} {s0 : State} {a0 : Array Value} {G : va_G} {ca : Nat → ClassId} (Γ : rt_Γ l s0 a0 G ca) {d : Nat} {C : Nat × Nat} {S : zS} (hd : 1 ≤ d) (hok : zok C) {p : Int} (hp : zSc S p) {i : Int} {M : zM} {Q : Int → zM → Prop} {X : zM → Prop} (h : zt_X6_hasDefault l s0 G ca d C S (zw s0 ca C S M) p i M Q X) : zm_X6_hasDefault l s0 G ca d C S p i M Q X := by
  refine z_met (lv := [(0, zv s0 2 p), (1, zv s0 0 i)]) Γ kk_X6_hasDefault rfl (show (lg_sl [zv s0 2 p, zv s0 0 i]).length ≤ 2 from by simp only [zn_0, zn_2, show (lg_sl []).length = 0 from rfl]; omega) (show lv_args 0 [zv s0 2 p, zv s0 0 i] = [(0, zv s0 2 p), (1, zv s0 0 i)] from by rw [zl_2, zl_0]; rfl) ?_
  unfold zt_X6_hasDefault at h
  refine z_aload_n dX6_hasDefault_0 rfl (j := 0) rfl ?_
  refine z_getc Γ kf_RX6_41 dX6_hasDefault_1 hp.1 hp.2.1 rfl ?_
  refine z_iload_n dX6_hasDefault_4 rfl (j := 1) rfl ?_
  refine z_callV Γ kk_X0_at kc_RX6_72 (As := [zv s0 0 i]) (k_X0_at (d := d - 1) Γ hok (hp.2.2.2.2.2.2.2.2.2.2.1 : zCe S (p + 17) (p + 18) 2048) (M := M) (Q := fun v9 M9 => v9 = (zat M (p + 18) 2048 i) ∧ M9 = M) (X := X) (show _ ∧ _ from ⟨rfl, rfl⟩)) (by omega) (by decide) (show (parseMethodDescriptor yX0_at.desc).map (fun q => q.parameters.length) = some 1 by decide +kernel) hok (Nat.zero_le _) dX6_hasDefault_5 (hp.2.2.2.2.2.2.2.2.2.2.1 : zCe S (p + 17) (p + 18) 2048).1 (hp.2.2.2.2.2.2.2.2.2.2.1 : zCe S (p + 17) (p + 18) 2048).2.2.2.1 rfl rfl (fun _ h9 => nomatch h9) ?_
  rintro v9 M9 ⟨e9, e8⟩
  rw [e9, e8]
  clear e9 e8 v9 M9
  show rt_Go _ _ _ _ _ _ _ _ _ _ _ _ 8 [(0, zv s0 2 p), (1, zv s0 0 i)] [zv s0 0 ((zat M (p + 18) 2048 i))] (zw s0 ca C S M)
  refine z_iconst dX6_hasDefault_8 ?_
  refine z_icmp_eq (tgt := 16) (x' := w32 ((zat M (p + 18) 2048 i))) (y' := ((-1))) rfl (by decide) dX6_hasDefault_9 (by decide) (fun c9 => ?_) (fun c9 => ?_)
  · replace h := h.1 c9
    refine z_iconst dX6_hasDefault_16 ?_
    exact z_zret dX6_hasDefault_17 rfl (by decide) h
  · replace h := h.2 c9
    refine z_iconst dX6_hasDefault_12 ?_
    refine rt_goto (tgt := 17) dX6_hasDefault_13 (by decide) ?_
    exact z_zret dX6_hasDefault_17 rfl (by decide) h

def zf_X6_hasDefault (M : zM) (p : Int) (i : Int) : Int := (if w32 ((zat M (p + 18) 2048 i)) = ((-1)) then 0 else 1)
theorem k_X6_hasDefault {l : Launch} {s0 : State} {a0 : Array Value} {G : va_G} {ca : Nat → ClassId} (Γ : rt_Γ l s0 a0 G ca) {d : Nat} {C : Nat × Nat} {S : zS} (hd : 1 ≤ d) (hok : zok C) {p : Int} (hp : zSc S p) {i : Int} {M : zM} {Q : Int → zM → Prop} {X : zM → Prop} (h : Q (zf_X6_hasDefault M p i) M) : zm_X6_hasDefault l s0 G ca d C S p i M Q X := by
  refine z_X6_hasDefault Γ hd hok hp ?_
  unfold zt_X6_hasDefault
  unfold zf_X6_hasDefault at h
  by_cases c1 : w32 ((zat M (p + 18) 2048 i)) = ((-1))
  · refine ⟨fun _ => ?_, fun c9 => absurd c1 c9⟩
    simp only [if_pos c1] at h
    exact h
  · refine ⟨fun c9 => absurd c9 c1, fun _ => ?_⟩
    simp only [if_neg c1] at h
    exact h
def zt_X6_defaultStart (l : Launch) (s0 : State) (G : va_G) (ca : Nat → ClassId) (d : Nat) (C : Nat × Nat) (S : zS) (w0 : rt_Wd) (p : Int) (i : Int) (M : zM) (Q : Int → zM → Prop) (X : zM → Prop) : Prop :=
  Q ((zat M (p + 18) 2048 i)) M
set_option maxRecDepth 100000 in
theorem z_X6_defaultStart {l : Launch} {s0 : State} {a0 : Array Value} {G : va_G} {ca : Nat → ClassId} (Γ : rt_Γ l s0 a0 G ca) {d : Nat} {C : Nat × Nat} {S : zS} (hd : 1 ≤ d) (hok : zok C) {p : Int} (hp : zSc S p) {i : Int} {M : zM} {Q : Int → zM → Prop} {X : zM → Prop} (h : zt_X6_defaultStart l s0 G ca d C S (zw s0 ca C S M) p i M Q X) : zm_X6_defaultStart l s0 G ca d C S p i M Q X := by
  refine z_met (lv := [(0, zv s0 2 p), (1, zv s0 0 i)]) Γ kk_X6_defaultStart rfl (show (lg_sl [zv s0 2 p, zv s0 0 i]).length ≤ 2 from by simp only [zn_0, zn_2, show (lg_sl []).length = 0 from rfl]; omega) (show lv_args 0 [zv s0 2 p, zv s0 0 i] = [(0, zv s0 2 p), (1, zv s0 0 i)] from by rw [zl_2, zl_0]; rfl) ?_
  unfold zt_X6_defaultStart at h
  refine z_aload_n dX6_defaultStart_0 rfl (j := 0) rfl ?_
  refine z_getc Γ kf_RX6_41 dX6_defaultStart_1 hp.1 hp.2.1 rfl ?_
  refine z_iload_n dX6_defaultStart_4 rfl (j := 1) rfl ?_
  refine z_callV Γ kk_X0_at kc_RX6_72 (As := [zv s0 0 i]) (k_X0_at (d := d - 1) Γ hok (hp.2.2.2.2.2.2.2.2.2.2.1 : zCe S (p + 17) (p + 18) 2048) (M := M) (Q := fun v9 M9 => v9 = (zat M (p + 18) 2048 i) ∧ M9 = M) (X := X) (show _ ∧ _ from ⟨rfl, rfl⟩)) (by omega) (by decide) (show (parseMethodDescriptor yX0_at.desc).map (fun q => q.parameters.length) = some 1 by decide +kernel) hok (Nat.zero_le _) dX6_defaultStart_5 (hp.2.2.2.2.2.2.2.2.2.2.1 : zCe S (p + 17) (p + 18) 2048).1 (hp.2.2.2.2.2.2.2.2.2.2.1 : zCe S (p + 17) (p + 18) 2048).2.2.2.1 rfl rfl (fun _ h9 => nomatch h9) ?_
  rintro v9 M9 ⟨e9, e8⟩
  rw [e9, e8]
  clear e9 e8 v9 M9
  show rt_Go _ _ _ _ _ _ _ _ _ _ _ _ 8 [(0, zv s0 2 p), (1, zv s0 0 i)] [zv s0 0 ((zat M (p + 18) 2048 i))] (zw s0 ca C S M)
  exact z_iret dX6_defaultStart_8 rfl h

def zt_X6_defaultEnd (l : Launch) (s0 : State) (G : va_G) (ca : Nat → ClassId) (d : Nat) (C : Nat × Nat) (S : zS) (w0 : rt_Wd) (p : Int) (i : Int) (M : zM) (Q : Int → zM → Prop) (X : zM → Prop) : Prop :=
  Q ((zat M (p + 20) 2048 i)) M
set_option maxRecDepth 100000 in
theorem z_X6_defaultEnd {l : Launch} {s0 : State} {a0 : Array Value} {G : va_G} {ca : Nat → ClassId} (Γ : rt_Γ l s0 a0 G ca) {d : Nat} {C : Nat × Nat} {S : zS} (hd : 1 ≤ d) (hok : zok C) {p : Int} (hp : zSc S p) {i : Int} {M : zM} {Q : Int → zM → Prop} {X : zM → Prop} (h : zt_X6_defaultEnd l s0 G ca d C S (zw s0 ca C S M) p i M Q X) : zm_X6_defaultEnd l s0 G ca d C S p i M Q X := by
  refine z_met (lv := [(0, zv s0 2 p), (1, zv s0 0 i)]) Γ kk_X6_defaultEnd rfl (show (lg_sl [zv s0 2 p, zv s0 0 i]).length ≤ 2 from by simp only [zn_0, zn_2, show (lg_sl []).length = 0 from rfl]; omega) (show lv_args 0 [zv s0 2 p, zv s0 0 i] = [(0, zv s0 2 p), (1, zv s0 0 i)] from by rw [zl_2, zl_0]; rfl) ?_
  unfold zt_X6_defaultEnd at h
  refine z_aload_n dX6_defaultEnd_0 rfl (j := 0) rfl ?_
  refine z_getc Γ kf_RX6_44 dX6_defaultEnd_1 hp.1 hp.2.1 rfl ?_
  refine z_iload_n dX6_defaultEnd_4 rfl (j := 1) rfl ?_
  refine z_callV Γ kk_X0_at kc_RX6_72 (As := [zv s0 0 i]) (k_X0_at (d := d - 1) Γ hok (hp.2.2.2.2.2.2.2.2.2.2.2.1 : zCe S (p + 19) (p + 20) 2048) (M := M) (Q := fun v9 M9 => v9 = (zat M (p + 20) 2048 i) ∧ M9 = M) (X := X) (show _ ∧ _ from ⟨rfl, rfl⟩)) (by omega) (by decide) (show (parseMethodDescriptor yX0_at.desc).map (fun q => q.parameters.length) = some 1 by decide +kernel) hok (Nat.zero_le _) dX6_defaultEnd_5 (hp.2.2.2.2.2.2.2.2.2.2.2.1 : zCe S (p + 19) (p + 20) 2048).1 (hp.2.2.2.2.2.2.2.2.2.2.2.1 : zCe S (p + 19) (p + 20) 2048).2.2.2.1 rfl rfl (fun _ h9 => nomatch h9) ?_
  rintro v9 M9 ⟨e9, e8⟩
  rw [e9, e8]
  clear e9 e8 v9 M9
  show rt_Go _ _ _ _ _ _ _ _ _ _ _ _ 8 [(0, zv s0 2 p), (1, zv s0 0 i)] [zv s0 0 ((zat M (p + 20) 2048 i))] (zw s0 ca C S M)
  exact z_iret dX6_defaultEnd_8 rfl h

def zt_X6_setDefault (l : Launch) (s0 : State) (G : va_G) (ca : Nat → ClassId) (d : Nat) (C : Nat × Nat) (S : zS) (w0 : rt_Wd) (p : Int) (i : Int) (f : Int) (e : Int) (M : zM) (Q : Int → zM → Prop) (X : zM → Prop) : Prop :=
  Q 0 ((zput ((zput M (p + 18) 2048 i f)) (p + 20) 2048 i e))
set_option maxRecDepth 100000 in
theorem z_X6_setDefault {l : Launch} {s0 : State} {a0 : Array Value} {G : va_G} {ca : Nat → ClassId} (Γ : rt_Γ l s0 a0 G ca) {d : Nat} {C : Nat × Nat} {S : zS} (hd : 1 ≤ d) (hok : zok C) {p : Int} (hp : zSc S p) {i : Int} {f : Int} {e : Int} {M : zM} {Q : Int → zM → Prop} {X : zM → Prop} (h : zt_X6_setDefault l s0 G ca d C S (zw s0 ca C S M) p i f e M Q X) : zm_X6_setDefault l s0 G ca d C S p i f e M Q X := by
  refine z_met (lv := [(0, zv s0 2 p), (1, zv s0 0 i), (2, zv s0 0 f), (3, zv s0 0 e)]) Γ kk_X6_setDefault rfl (show (lg_sl [zv s0 2 p, zv s0 0 i, zv s0 0 f, zv s0 0 e]).length ≤ 4 from by simp only [zn_0, zn_2, show (lg_sl []).length = 0 from rfl]; omega) (show lv_args 0 [zv s0 2 p, zv s0 0 i, zv s0 0 f, zv s0 0 e] = [(0, zv s0 2 p), (1, zv s0 0 i), (2, zv s0 0 f), (3, zv s0 0 e)] from by rw [zl_2, zl_0, zl_0, zl_0]; rfl) ?_
  unfold zt_X6_setDefault at h
  refine z_aload_n dX6_setDefault_0 rfl (j := 0) rfl ?_
  refine z_getc Γ kf_RX6_41 dX6_setDefault_1 hp.1 hp.2.1 rfl ?_
  refine z_iload_n dX6_setDefault_4 rfl (j := 1) rfl ?_
  refine z_iload_n dX6_setDefault_5 rfl (j := 2) rfl ?_
  refine z_callV Γ kk_X0_put kc_RX6_60 (As := [zv s0 0 i, zv s0 0 f]) (k_X0_put (d := d - 1) Γ hok (hp.2.2.2.2.2.2.2.2.2.2.1 : zCe S (p + 17) (p + 18) 2048) (M := M) (Q := fun v9 M9 => v9 = 0 ∧ M9 = (zput M (p + 18) 2048 i f)) (X := X) (show _ ∧ _ from ⟨rfl, rfl⟩)) (by omega) (by decide) (show (parseMethodDescriptor yX0_put.desc).map (fun q => q.parameters.length) = some 2 by decide +kernel) hok (Nat.zero_le _) dX6_setDefault_6 (hp.2.2.2.2.2.2.2.2.2.2.1 : zCe S (p + 17) (p + 18) 2048).1 (hp.2.2.2.2.2.2.2.2.2.2.1 : zCe S (p + 17) (p + 18) 2048).2.2.2.1 rfl rfl (fun _ h9 => nomatch h9) ?_
  rintro v9 M9 ⟨e9, e8⟩
  rw [e9, e8]
  clear e9 e8 v9 M9
  show rt_Go _ _ _ _ _ _ _ _ _ _ _ _ 9 [(0, zv s0 2 p), (1, zv s0 0 i), (2, zv s0 0 f), (3, zv s0 0 e)] [] (zw s0 ca C S ((zput M (p + 18) 2048 i f)))
  refine z_aload_n dX6_setDefault_9 rfl (j := 0) rfl ?_
  refine z_getc Γ kf_RX6_44 dX6_setDefault_10 hp.1 hp.2.1 rfl ?_
  refine z_iload_n dX6_setDefault_13 rfl (j := 1) rfl ?_
  refine z_iload_n dX6_setDefault_14 rfl (j := 3) rfl ?_
  refine z_callV Γ kk_X0_put kc_RX6_60 (As := [zv s0 0 i, zv s0 0 e]) (k_X0_put (d := d - 1) Γ hok (hp.2.2.2.2.2.2.2.2.2.2.2.1 : zCe S (p + 19) (p + 20) 2048) (M := ((zput M (p + 18) 2048 i f))) (Q := fun v9 M9 => v9 = 0 ∧ M9 = (zput ((zput M (p + 18) 2048 i f)) (p + 20) 2048 i e)) (X := X) (show _ ∧ _ from ⟨rfl, rfl⟩)) (by omega) (by decide) (show (parseMethodDescriptor yX0_put.desc).map (fun q => q.parameters.length) = some 2 by decide +kernel) hok (Nat.zero_le _) dX6_setDefault_15 (hp.2.2.2.2.2.2.2.2.2.2.2.1 : zCe S (p + 19) (p + 20) 2048).1 (hp.2.2.2.2.2.2.2.2.2.2.2.1 : zCe S (p + 19) (p + 20) 2048).2.2.2.1 rfl rfl (fun _ h9 => nomatch h9) ?_
  rintro v9 M9 ⟨e9, e8⟩
  rw [e9, e8]
  clear e9 e8 v9 M9
  show rt_Go _ _ _ _ _ _ _ _ _ _ _ _ 18 [(0, zv s0 2 p), (1, zv s0 0 i), (2, zv s0 0 f), (3, zv s0 0 e)] [] (zw s0 ca C S ((zput ((zput M (p + 18) 2048 i f)) (p + 20) 2048 i e)))
  exact z_vret dX6_setDefault_18 rfl h

def zt_X6_names (l : Launch) (s0 : State) (G : va_G) (ca : Nat → ClassId) (d : Nat) (C : Nat × Nat) (S : zS) (w0 : rt_Wd) (p : Int)  (M : zM) (Q : Int → zM → Prop) (X : zM → Prop) : Prop :=
  Q (p + 21) M
set_option maxRecDepth 100000 in
theorem z_X6_names {l : Launch} {s0 : State} {a0 : Array Value} {G : va_G} {ca : Nat → ClassId} (Γ : rt_Γ l s0 a0 G ca) {d : Nat} {C : Nat × Nat} {S : zS} (hok : zok C) {p : Int} (hp : zSc S p)  {M : zM} {Q : Int → zM → Prop} {X : zM → Prop} (h : zt_X6_names l s0 G ca d C S (zw s0 ca C S M) p  M Q X) : zm_X6_names l s0 G ca d C S p  M Q X := by
  refine z_met (lv := [(0, zv s0 2 p)]) Γ kk_X6_names rfl (show (lg_sl [zv s0 2 p]).length ≤ 1 from by simp only [zn_2, show (lg_sl []).length = 0 from rfl]; omega) (show lv_args 0 [zv s0 2 p] = [(0, zv s0 2 p)] from by rw [zl_2]; rfl) ?_
  unfold zt_X6_names at h
  refine z_aload_n dX6_names_0 rfl (j := 0) rfl ?_
  refine z_getc Γ kf_RX6_47 dX6_names_1 hp.1 hp.2.1 rfl ?_
  exact z_aret dX6_names_4 rfl h

def zt_X8_kind (l : Launch) (s0 : State) (G : va_G) (ca : Nat → ClassId) (d : Nat) (C : Nat × Nat) (S : zS) (w0 : rt_Wd)  (v : Int) (M : zM) (Q : Int → zM → Prop) (X : zM → Prop) : Prop :=
  Q ((zat M 8 2073 v)) M
set_option maxRecDepth 100000 in
theorem z_X8_kind {l : Launch} {s0 : State} {a0 : Array Value} {G : va_G} {ca : Nat → ClassId} (Γ : rt_Γ l s0 a0 G ca) {d : Nat} {C : Nat × Nat} {S : zS} (hd : 1 ≤ d) (hok : zok C)  (hs : zSok S) (hs6 : S 6 = some (0, 8, [(3, 7), (3, 9), (3, 11), (3, 13), (3, 15), (3, 17), (3, 19), (3, 21), (3, 22), (3, 1), (0, 0), (0, 0), (0, 0)])) {v : Int} {M : zM} {Q : Int → zM → Prop} {X : zM → Prop} (h : zt_X8_kind l s0 G ca d C S (zw s0 ca C S M)  v M Q X) : zm_X8_kind l s0 G ca d C S  v M Q X := by
  refine z_met (lv := [(0, zv s0 2 6), (1, zv s0 0 v)]) Γ kk_X8_kind rfl (show (lg_sl [zv s0 2 6, zv s0 0 v]).length ≤ 2 from by simp only [zn_0, zn_2, show (lg_sl []).length = 0 from rfl]; omega) (show lv_args 0 [zv s0 2 6, zv s0 0 v] = [(0, zv s0 2 6), (1, zv s0 0 v)] from by rw [zl_2, zl_0]; rfl) ?_
  unfold zt_X8_kind at h
  refine z_aload_n dX8_kind_0 rfl (j := 0) rfl ?_
  refine z_getc Γ kf_RX8_16 dX8_kind_1 (by decide) hs6 rfl ?_
  refine z_iload_n dX8_kind_4 rfl (j := 1) rfl ?_
  refine z_callV Γ kk_X0_at kc_RX8_45 (As := [zv s0 0 v]) (k_X0_at (d := d - 1) Γ hok (⟨by decide, by decide, by decide, hs 7 _ rfl, hs 8 _ rfl⟩ : zCe S 7 8 2073) (M := M) (Q := fun v9 M9 => v9 = (zat M 8 2073 v) ∧ M9 = M) (X := X) (show _ ∧ _ from ⟨rfl, rfl⟩)) (by omega) (by decide) (show (parseMethodDescriptor yX0_at.desc).map (fun q => q.parameters.length) = some 1 by decide +kernel) hok (Nat.zero_le _) dX8_kind_5 (⟨by decide, by decide, by decide, hs 7 _ rfl, hs 8 _ rfl⟩ : zCe S 7 8 2073).1 (⟨by decide, by decide, by decide, hs 7 _ rfl, hs 8 _ rfl⟩ : zCe S 7 8 2073).2.2.2.1 rfl rfl (fun _ h9 => nomatch h9) ?_
  rintro v9 M9 ⟨e9, e8⟩
  rw [e9, e8]
  clear e9 e8 v9 M9
  show rt_Go _ _ _ _ _ _ _ _ _ _ _ _ 8 [(0, zv s0 2 6), (1, zv s0 0 v)] [zv s0 0 ((zat M 8 2073 v))] (zw s0 ca C S M)
  exact z_iret dX8_kind_8 rfl h

def zt_X8_begin (l : Launch) (s0 : State) (G : va_G) (ca : Nat → ClassId) (d : Nat) (C : Nat × Nat) (S : zS) (w0 : rt_Wd)  (v : Int) (M : zM) (Q : Int → zM → Prop) (X : zM → Prop) : Prop :=
  Q ((zat M 10 2073 v)) M
set_option maxRecDepth 100000 in
theorem z_X8_begin {l : Launch} {s0 : State} {a0 : Array Value} {G : va_G} {ca : Nat → ClassId} (Γ : rt_Γ l s0 a0 G ca) {d : Nat} {C : Nat × Nat} {S : zS} (hd : 1 ≤ d) (hok : zok C)  (hs : zSok S) (hs6 : S 6 = some (0, 8, [(3, 7), (3, 9), (3, 11), (3, 13), (3, 15), (3, 17), (3, 19), (3, 21), (3, 22), (3, 1), (0, 0), (0, 0), (0, 0)])) {v : Int} {M : zM} {Q : Int → zM → Prop} {X : zM → Prop} (h : zt_X8_begin l s0 G ca d C S (zw s0 ca C S M)  v M Q X) : zm_X8_begin l s0 G ca d C S  v M Q X := by
  refine z_met (lv := [(0, zv s0 2 6), (1, zv s0 0 v)]) Γ kk_X8_begin rfl (show (lg_sl [zv s0 2 6, zv s0 0 v]).length ≤ 2 from by simp only [zn_0, zn_2, show (lg_sl []).length = 0 from rfl]; omega) (show lv_args 0 [zv s0 2 6, zv s0 0 v] = [(0, zv s0 2 6), (1, zv s0 0 v)] from by rw [zl_2, zl_0]; rfl) ?_
  unfold zt_X8_begin at h
  refine z_aload_n dX8_begin_0 rfl (j := 0) rfl ?_
  refine z_getc Γ kf_RX8_20 dX8_begin_1 (by decide) hs6 rfl ?_
  refine z_iload_n dX8_begin_4 rfl (j := 1) rfl ?_
  refine z_callV Γ kk_X0_at kc_RX8_45 (As := [zv s0 0 v]) (k_X0_at (d := d - 1) Γ hok (⟨by decide, by decide, by decide, hs 9 _ rfl, hs 10 _ rfl⟩ : zCe S 9 10 2073) (M := M) (Q := fun v9 M9 => v9 = (zat M 10 2073 v) ∧ M9 = M) (X := X) (show _ ∧ _ from ⟨rfl, rfl⟩)) (by omega) (by decide) (show (parseMethodDescriptor yX0_at.desc).map (fun q => q.parameters.length) = some 1 by decide +kernel) hok (Nat.zero_le _) dX8_begin_5 (⟨by decide, by decide, by decide, hs 9 _ rfl, hs 10 _ rfl⟩ : zCe S 9 10 2073).1 (⟨by decide, by decide, by decide, hs 9 _ rfl, hs 10 _ rfl⟩ : zCe S 9 10 2073).2.2.2.1 rfl rfl (fun _ h9 => nomatch h9) ?_
  rintro v9 M9 ⟨e9, e8⟩
  rw [e9, e8]
  clear e9 e8 v9 M9
  show rt_Go _ _ _ _ _ _ _ _ _ _ _ _ 8 [(0, zv s0 2 6), (1, zv s0 0 v)] [zv s0 0 ((zat M 10 2073 v))] (zw s0 ca C S M)
  exact z_iret dX8_begin_8 rfl h

def zt_X8_first (l : Launch) (s0 : State) (G : va_G) (ca : Nat → ClassId) (d : Nat) (C : Nat × Nat) (S : zS) (w0 : rt_Wd)  (v : Int) (M : zM) (Q : Int → zM → Prop) (X : zM → Prop) : Prop :=
  Q ((zat M 14 2073 v)) M
set_option maxRecDepth 100000 in
theorem z_X8_first {l : Launch} {s0 : State} {a0 : Array Value} {G : va_G} {ca : Nat → ClassId} (Γ : rt_Γ l s0 a0 G ca) {d : Nat} {C : Nat × Nat} {S : zS} (hd : 1 ≤ d) (hok : zok C)  (hs : zSok S) (hs6 : S 6 = some (0, 8, [(3, 7), (3, 9), (3, 11), (3, 13), (3, 15), (3, 17), (3, 19), (3, 21), (3, 22), (3, 1), (0, 0), (0, 0), (0, 0)])) {v : Int} {M : zM} {Q : Int → zM → Prop} {X : zM → Prop} (h : zt_X8_first l s0 G ca d C S (zw s0 ca C S M)  v M Q X) : zm_X8_first l s0 G ca d C S  v M Q X := by
  refine z_met (lv := [(0, zv s0 2 6), (1, zv s0 0 v)]) Γ kk_X8_first rfl (show (lg_sl [zv s0 2 6, zv s0 0 v]).length ≤ 2 from by simp only [zn_0, zn_2, show (lg_sl []).length = 0 from rfl]; omega) (show lv_args 0 [zv s0 2 6, zv s0 0 v] = [(0, zv s0 2 6), (1, zv s0 0 v)] from by rw [zl_2, zl_0]; rfl) ?_
  unfold zt_X8_first at h
  refine z_aload_n dX8_first_0 rfl (j := 0) rfl ?_
  refine z_getc Γ kf_RX8_26 dX8_first_1 (by decide) hs6 rfl ?_
  refine z_iload_n dX8_first_4 rfl (j := 1) rfl ?_
  refine z_callV Γ kk_X0_at kc_RX8_45 (As := [zv s0 0 v]) (k_X0_at (d := d - 1) Γ hok (⟨by decide, by decide, by decide, hs 13 _ rfl, hs 14 _ rfl⟩ : zCe S 13 14 2073) (M := M) (Q := fun v9 M9 => v9 = (zat M 14 2073 v) ∧ M9 = M) (X := X) (show _ ∧ _ from ⟨rfl, rfl⟩)) (by omega) (by decide) (show (parseMethodDescriptor yX0_at.desc).map (fun q => q.parameters.length) = some 1 by decide +kernel) hok (Nat.zero_le _) dX8_first_5 (⟨by decide, by decide, by decide, hs 13 _ rfl, hs 14 _ rfl⟩ : zCe S 13 14 2073).1 (⟨by decide, by decide, by decide, hs 13 _ rfl, hs 14 _ rfl⟩ : zCe S 13 14 2073).2.2.2.1 rfl rfl (fun _ h9 => nomatch h9) ?_
  rintro v9 M9 ⟨e9, e8⟩
  rw [e9, e8]
  clear e9 e8 v9 M9
  show rt_Go _ _ _ _ _ _ _ _ _ _ _ _ 8 [(0, zv s0 2 6), (1, zv s0 0 v)] [zv s0 0 ((zat M 14 2073 v))] (zw s0 ca C S M)
  exact z_iret dX8_first_8 rfl h

def zt_X8_next (l : Launch) (s0 : State) (G : va_G) (ca : Nat → ClassId) (d : Nat) (C : Nat × Nat) (S : zS) (w0 : rt_Wd)  (v : Int) (M : zM) (Q : Int → zM → Prop) (X : zM → Prop) : Prop :=
  Q ((zat M 12 2073 v)) M
set_option maxRecDepth 100000 in
theorem z_X8_next {l : Launch} {s0 : State} {a0 : Array Value} {G : va_G} {ca : Nat → ClassId} (Γ : rt_Γ l s0 a0 G ca) {d : Nat} {C : Nat × Nat} {S : zS} (hd : 1 ≤ d) (hok : zok C)  (hs : zSok S) (hs6 : S 6 = some (0, 8, [(3, 7), (3, 9), (3, 11), (3, 13), (3, 15), (3, 17), (3, 19), (3, 21), (3, 22), (3, 1), (0, 0), (0, 0), (0, 0)])) {v : Int} {M : zM} {Q : Int → zM → Prop} {X : zM → Prop} (h : zt_X8_next l s0 G ca d C S (zw s0 ca C S M)  v M Q X) : zm_X8_next l s0 G ca d C S  v M Q X := by
  refine z_met (lv := [(0, zv s0 2 6), (1, zv s0 0 v)]) Γ kk_X8_next rfl (show (lg_sl [zv s0 2 6, zv s0 0 v]).length ≤ 2 from by simp only [zn_0, zn_2, show (lg_sl []).length = 0 from rfl]; omega) (show lv_args 0 [zv s0 2 6, zv s0 0 v] = [(0, zv s0 2 6), (1, zv s0 0 v)] from by rw [zl_2, zl_0]; rfl) ?_
  unfold zt_X8_next at h
  refine z_aload_n dX8_next_0 rfl (j := 0) rfl ?_
  refine z_getc Γ kf_RX8_23 dX8_next_1 (by decide) hs6 rfl ?_
  refine z_iload_n dX8_next_4 rfl (j := 1) rfl ?_
  refine z_callV Γ kk_X0_at kc_RX8_45 (As := [zv s0 0 v]) (k_X0_at (d := d - 1) Γ hok (⟨by decide, by decide, by decide, hs 11 _ rfl, hs 12 _ rfl⟩ : zCe S 11 12 2073) (M := M) (Q := fun v9 M9 => v9 = (zat M 12 2073 v) ∧ M9 = M) (X := X) (show _ ∧ _ from ⟨rfl, rfl⟩)) (by omega) (by decide) (show (parseMethodDescriptor yX0_at.desc).map (fun q => q.parameters.length) = some 1 by decide +kernel) hok (Nat.zero_le _) dX8_next_5 (⟨by decide, by decide, by decide, hs 11 _ rfl, hs 12 _ rfl⟩ : zCe S 11 12 2073).1 (⟨by decide, by decide, by decide, hs 11 _ rfl, hs 12 _ rfl⟩ : zCe S 11 12 2073).2.2.2.1 rfl rfl (fun _ h9 => nomatch h9) ?_
  rintro v9 M9 ⟨e9, e8⟩
  rw [e9, e8]
  clear e9 e8 v9 M9
  show rt_Go _ _ _ _ _ _ _ _ _ _ _ _ 8 [(0, zv s0 2 6), (1, zv s0 0 v)] [zv s0 0 ((zat M 12 2073 v))] (zw s0 ca C S M)
  exact z_iret dX8_next_8 rfl h

def zt_X8_parts (l : Launch) (s0 : State) (G : va_G) (ca : Nat → ClassId) (d : Nat) (C : Nat × Nat) (S : zS) (w0 : rt_Wd)  (v : Int) (M : zM) (Q : Int → zM → Prop) (X : zM → Prop) : Prop :=
  Q ((zat M 16 2073 v)) M
set_option maxRecDepth 100000 in
theorem z_X8_parts {l : Launch} {s0 : State} {a0 : Array Value} {G : va_G} {ca : Nat → ClassId} (Γ : rt_Γ l s0 a0 G ca) {d : Nat} {C : Nat × Nat} {S : zS} (hd : 1 ≤ d) (hok : zok C)  (hs : zSok S) (hs6 : S 6 = some (0, 8, [(3, 7), (3, 9), (3, 11), (3, 13), (3, 15), (3, 17), (3, 19), (3, 21), (3, 22), (3, 1), (0, 0), (0, 0), (0, 0)])) {v : Int} {M : zM} {Q : Int → zM → Prop} {X : zM → Prop} (h : zt_X8_parts l s0 G ca d C S (zw s0 ca C S M)  v M Q X) : zm_X8_parts l s0 G ca d C S  v M Q X := by
  refine z_met (lv := [(0, zv s0 2 6), (1, zv s0 0 v)]) Γ kk_X8_parts rfl (show (lg_sl [zv s0 2 6, zv s0 0 v]).length ≤ 2 from by simp only [zn_0, zn_2, show (lg_sl []).length = 0 from rfl]; omega) (show lv_args 0 [zv s0 2 6, zv s0 0 v] = [(0, zv s0 2 6), (1, zv s0 0 v)] from by rw [zl_2, zl_0]; rfl) ?_
  unfold zt_X8_parts at h
  refine z_aload_n dX8_parts_0 rfl (j := 0) rfl ?_
  refine z_getc Γ kf_RX8_29 dX8_parts_1 (by decide) hs6 rfl ?_
  refine z_iload_n dX8_parts_4 rfl (j := 1) rfl ?_
  refine z_callV Γ kk_X0_at kc_RX8_45 (As := [zv s0 0 v]) (k_X0_at (d := d - 1) Γ hok (⟨by decide, by decide, by decide, hs 15 _ rfl, hs 16 _ rfl⟩ : zCe S 15 16 2073) (M := M) (Q := fun v9 M9 => v9 = (zat M 16 2073 v) ∧ M9 = M) (X := X) (show _ ∧ _ from ⟨rfl, rfl⟩)) (by omega) (by decide) (show (parseMethodDescriptor yX0_at.desc).map (fun q => q.parameters.length) = some 1 by decide +kernel) hok (Nat.zero_le _) dX8_parts_5 (⟨by decide, by decide, by decide, hs 15 _ rfl, hs 16 _ rfl⟩ : zCe S 15 16 2073).1 (⟨by decide, by decide, by decide, hs 15 _ rfl, hs 16 _ rfl⟩ : zCe S 15 16 2073).2.2.2.1 rfl rfl (fun _ h9 => nomatch h9) ?_
  rintro v9 M9 ⟨e9, e8⟩
  rw [e9, e8]
  clear e9 e8 v9 M9
  show rt_Go _ _ _ _ _ _ _ _ _ _ _ _ 8 [(0, zv s0 2 6), (1, zv s0 0 v)] [zv s0 0 ((zat M 16 2073 v))] (zw s0 ca C S M)
  exact z_iret dX8_parts_8 rfl h

def zt_X8_number (l : Launch) (s0 : State) (G : va_G) (ca : Nat → ClassId) (d : Nat) (C : Nat × Nat) (S : zS) (w0 : rt_Wd)  (v : Int) (M : zM) (Q : Int → zM → Prop) (X : zM → Prop) : Prop :=
  zIf (w32 v < 0) (Q 0 M) (zIf (2073 ≤ w32 v) (Q 0 M) ((0 ≤ w32 v ∧ w32 v < 2073) ∧ (Q (M 21 (w32 v)) M)))
set_option maxRecDepth 100000 in
theorem z_X8_number {l : Launch} {s0 : State} {a0 : Array Value} {G : va_G} {ca : Nat → ClassId} (Γ : rt_Γ l s0 a0 G ca) {d : Nat} {C : Nat × Nat} {S : zS} (hok : zok C)  (hs : zSok S) (hs6 : S 6 = some (0, 8, [(3, 7), (3, 9), (3, 11), (3, 13), (3, 15), (3, 17), (3, 19), (3, 21), (3, 22), (3, 1), (0, 0), (0, 0), (0, 0)])) {v : Int} {M : zM} {Q : Int → zM → Prop} {X : zM → Prop} (h : zt_X8_number l s0 G ca d C S (zw s0 ca C S M)  v M Q X) : zm_X8_number l s0 G ca d C S  v M Q X := by
  refine z_met (lv := [(0, zv s0 2 6), (1, zv s0 0 v)]) Γ kk_X8_number rfl (show (lg_sl [zv s0 2 6, zv s0 0 v]).length ≤ 2 from by simp only [zn_0, zn_2, show (lg_sl []).length = 0 from rfl]; omega) (show lv_args 0 [zv s0 2 6, zv s0 0 v] = [(0, zv s0 2 6), (1, zv s0 0 v)] from by rw [zl_2, zl_0]; rfl) ?_
  unfold zt_X8_number at h
  refine z_iload_n dX8_number_0 rfl (j := 1) rfl ?_
  refine z_if_lt (tgt := 22) (x' := w32 v) rfl dX8_number_1 (by decide) (fun c1 => ?_) (fun c1 => ?_)
  · replace h := h.1 c1
    refine z_lconst (v := 0) dX8_number_22 (by decide) ?_
    exact z_lret dX8_number_23 rfl h
  · replace h := h.2 c1
    refine z_iload_n dX8_number_4 rfl (j := 1) rfl ?_
    refine z_aload_n dX8_number_5 rfl (j := 0) rfl ?_
    refine z_getc Γ kf_RX8_38 dX8_number_6 (by decide) hs6 rfl ?_
    refine z_alenL Γ dX8_number_9 (by decide) (hs 21 _ rfl) ?_
    show rt_Go _ _ _ _ _ _ _ _ _ _ _ _ 10 [(0, zv s0 2 6), (1, zv s0 0 v)] [zv s0 0 2073, zv s0 0 v] _
    refine z_icmp_ge (tgt := 22) (x' := w32 v) (y' := 2073) rfl (by decide) dX8_number_10 (by decide) (fun c10 => ?_) (fun c10 => ?_)
    · replace h := h.1 c10
      refine z_lconst (v := 0) dX8_number_22 (by decide) ?_
      exact z_lret dX8_number_23 rfl h
    · replace h := h.2 c10
      refine z_aload_n dX8_number_13 rfl (j := 0) rfl ?_
      refine z_getc Γ kf_RX8_38 dX8_number_14 (by decide) hs6 rfl ?_
      refine z_iload_n dX8_number_17 rfl (j := 1) rfl ?_
      obtain ⟨hi18, h⟩ := h
      refine z_laldw Γ dX8_number_18 (by decide) (hs 21 _ rfl) (by decide) hi18 (v9 := M 21 (w32 v)) rfl ?_
      refine rt_goto (tgt := 23) dX8_number_19 (by decide) ?_
      exact z_lret dX8_number_23 rfl h

def zf_X8_number (M : zM) (v : Int) : Int := (if w32 v < 0 then 0 else (if 2073 ≤ w32 v then 0 else (M 21 (w32 v))))
theorem k_X8_number {l : Launch} {s0 : State} {a0 : Array Value} {G : va_G} {ca : Nat → ClassId} (Γ : rt_Γ l s0 a0 G ca) {d : Nat} {C : Nat × Nat} {S : zS} (hok : zok C)  (hs : zSok S) (hs6 : S 6 = some (0, 8, [(3, 7), (3, 9), (3, 11), (3, 13), (3, 15), (3, 17), (3, 19), (3, 21), (3, 22), (3, 1), (0, 0), (0, 0), (0, 0)])) {v : Int} {M : zM} {Q : Int → zM → Prop} {X : zM → Prop} (h : Q (zf_X8_number M v) M) : zm_X8_number l s0 G ca d C S  v M Q X := by
  refine z_X8_number Γ hok hs hs6 ?_
  unfold zt_X8_number
  unfold zf_X8_number at h
  by_cases c1 : w32 v < 0
  · refine ⟨fun _ => ?_, fun c9 => absurd c1 c9⟩
    simp only [if_pos c1] at h
    exact h
  · refine ⟨fun c9 => absurd c9 c1, fun _ => ?_⟩
    simp only [if_neg c1] at h
    by_cases c2 : 2073 ≤ w32 v
    · refine ⟨fun _ => ?_, fun c9 => absurd c2 c9⟩
      simp only [if_pos c2] at h
      exact h
    · refine ⟨fun c9 => absurd c9 c2, fun _ => ?_⟩
      simp only [if_neg c2] at h
      refine ⟨⟨by omega, by omega⟩, ?_⟩
      exact h
def zt_X8_letters (l : Launch) (s0 : State) (G : va_G) (ca : Nat → ClassId) (d : Nat) (C : Nat × Nat) (S : zS) (w0 : rt_Wd)   (M : zM) (Q : Int → zM → Prop) (X : zM → Prop) : Prop :=
  Q 22 M
set_option maxRecDepth 100000 in
theorem z_X8_letters {l : Launch} {s0 : State} {a0 : Array Value} {G : va_G} {ca : Nat → ClassId} (Γ : rt_Γ l s0 a0 G ca) {d : Nat} {C : Nat × Nat} {S : zS} (hok : zok C)  (hs : zSok S) (hs6 : S 6 = some (0, 8, [(3, 7), (3, 9), (3, 11), (3, 13), (3, 15), (3, 17), (3, 19), (3, 21), (3, 22), (3, 1), (0, 0), (0, 0), (0, 0)]))  {M : zM} {Q : Int → zM → Prop} {X : zM → Prop} (h : zt_X8_letters l s0 G ca d C S (zw s0 ca C S M)   M Q X) : zm_X8_letters l s0 G ca d C S   M Q X := by
  refine z_met (lv := [(0, zv s0 2 6)]) Γ kk_X8_letters rfl (show (lg_sl [zv s0 2 6]).length ≤ 1 from by simp only [zn_2, show (lg_sl []).length = 0 from rfl]; omega) (show lv_args 0 [zv s0 2 6] = [(0, zv s0 2 6)] from by rw [zl_2]; rfl) ?_
  unfold zt_X8_letters at h
  refine z_aload_n dX8_letters_0 rfl (j := 0) rfl ?_
  refine z_getc Γ kf_RX8_42 dX8_letters_1 (by decide) hs6 rfl ?_
  exact z_aret dX8_letters_4 rfl h

def zt_X8_word (l : Launch) (s0 : State) (G : va_G) (ca : Nat → ClassId) (d : Nat) (C : Nat × Nat) (S : zS) (w0 : rt_Wd)  (v : Int) (M : zM) (Q : Int → zM → Prop) (X : zM → Prop) : Prop :=
  Q ((zat M 18 2073 v)) M
set_option maxRecDepth 100000 in
theorem z_X8_word {l : Launch} {s0 : State} {a0 : Array Value} {G : va_G} {ca : Nat → ClassId} (Γ : rt_Γ l s0 a0 G ca) {d : Nat} {C : Nat × Nat} {S : zS} (hd : 1 ≤ d) (hok : zok C)  (hs : zSok S) (hs6 : S 6 = some (0, 8, [(3, 7), (3, 9), (3, 11), (3, 13), (3, 15), (3, 17), (3, 19), (3, 21), (3, 22), (3, 1), (0, 0), (0, 0), (0, 0)])) {v : Int} {M : zM} {Q : Int → zM → Prop} {X : zM → Prop} (h : zt_X8_word l s0 G ca d C S (zw s0 ca C S M)  v M Q X) : zm_X8_word l s0 G ca d C S  v M Q X := by
  refine z_met (lv := [(0, zv s0 2 6), (1, zv s0 0 v)]) Γ kk_X8_word rfl (show (lg_sl [zv s0 2 6, zv s0 0 v]).length ≤ 2 from by simp only [zn_0, zn_2, show (lg_sl []).length = 0 from rfl]; omega) (show lv_args 0 [zv s0 2 6, zv s0 0 v] = [(0, zv s0 2 6), (1, zv s0 0 v)] from by rw [zl_2, zl_0]; rfl) ?_
  unfold zt_X8_word at h
  refine z_aload_n dX8_word_0 rfl (j := 0) rfl ?_
  refine z_getc Γ kf_RX8_32 dX8_word_1 (by decide) hs6 rfl ?_
  refine z_iload_n dX8_word_4 rfl (j := 1) rfl ?_
  refine z_callV Γ kk_X0_at kc_RX8_45 (As := [zv s0 0 v]) (k_X0_at (d := d - 1) Γ hok (⟨by decide, by decide, by decide, hs 17 _ rfl, hs 18 _ rfl⟩ : zCe S 17 18 2073) (M := M) (Q := fun v9 M9 => v9 = (zat M 18 2073 v) ∧ M9 = M) (X := X) (show _ ∧ _ from ⟨rfl, rfl⟩)) (by omega) (by decide) (show (parseMethodDescriptor yX0_at.desc).map (fun q => q.parameters.length) = some 1 by decide +kernel) hok (Nat.zero_le _) dX8_word_5 (⟨by decide, by decide, by decide, hs 17 _ rfl, hs 18 _ rfl⟩ : zCe S 17 18 2073).1 (⟨by decide, by decide, by decide, hs 17 _ rfl, hs 18 _ rfl⟩ : zCe S 17 18 2073).2.2.2.1 rfl rfl (fun _ h9 => nomatch h9) ?_
  rintro v9 M9 ⟨e9, e8⟩
  rw [e9, e8]
  clear e9 e8 v9 M9
  show rt_Go _ _ _ _ _ _ _ _ _ _ _ _ 8 [(0, zv s0 2 6), (1, zv s0 0 v)] [zv s0 0 ((zat M 18 2073 v))] (zw s0 ca C S M)
  exact z_iret dX8_word_8 rfl h

def zt_X8_length (l : Launch) (s0 : State) (G : va_G) (ca : Nat → ClassId) (d : Nat) (C : Nat × Nat) (S : zS) (w0 : rt_Wd)  (v : Int) (M : zM) (Q : Int → zM → Prop) (X : zM → Prop) : Prop :=
  Q ((zat M 23 4096 ((zat M 18 2073 v)))) M
set_option maxRecDepth 100000 in
theorem z_X8_length {l : Launch} {s0 : State} {a0 : Array Value} {G : va_G} {ca : Nat → ClassId} (Γ : rt_Γ l s0 a0 G ca) {d : Nat} {C : Nat × Nat} {S : zS} (hd : 1 ≤ d) (hok : zok C)  (hs : zSok S) (hs6 : S 6 = some (0, 8, [(3, 7), (3, 9), (3, 11), (3, 13), (3, 15), (3, 17), (3, 19), (3, 21), (3, 22), (3, 1), (0, 0), (0, 0), (0, 0)])) {v : Int} {M : zM} {Q : Int → zM → Prop} {X : zM → Prop} (h : zt_X8_length l s0 G ca d C S (zw s0 ca C S M)  v M Q X) : zm_X8_length l s0 G ca d C S  v M Q X := by
  refine z_met (lv := [(0, zv s0 2 6), (1, zv s0 0 v)]) Γ kk_X8_length rfl (show (lg_sl [zv s0 2 6, zv s0 0 v]).length ≤ 2 from by simp only [zn_0, zn_2, show (lg_sl []).length = 0 from rfl]; omega) (show lv_args 0 [zv s0 2 6, zv s0 0 v] = [(0, zv s0 2 6), (1, zv s0 0 v)] from by rw [zl_2, zl_0]; rfl) ?_
  unfold zt_X8_length at h
  refine z_aload_n dX8_length_0 rfl (j := 0) rfl ?_
  refine z_getc Γ kf_RX8_42 dX8_length_1 (by decide) hs6 rfl ?_
  refine z_aload_n dX8_length_4 rfl (j := 0) rfl ?_
  refine z_getc Γ kf_RX8_32 dX8_length_5 (by decide) hs6 rfl ?_
  refine z_iload_n dX8_length_8 rfl (j := 1) rfl ?_
  refine z_callV Γ kk_X0_at kc_RX8_45 (As := [zv s0 0 v]) (k_X0_at (d := d - 1) Γ hok (⟨by decide, by decide, by decide, hs 17 _ rfl, hs 18 _ rfl⟩ : zCe S 17 18 2073) (M := M) (Q := fun v9 M9 => v9 = (zat M 18 2073 v) ∧ M9 = M) (X := X) (show _ ∧ _ from ⟨rfl, rfl⟩)) (by omega) (by decide) (show (parseMethodDescriptor yX0_at.desc).map (fun q => q.parameters.length) = some 1 by decide +kernel) hok (by simp only [List.map, zv_cat0, zv_cat1, zv_cat2, List.sum_cons, List.sum_nil]; decide) dX8_length_9 (⟨by decide, by decide, by decide, hs 17 _ rfl, hs 18 _ rfl⟩ : zCe S 17 18 2073).1 (⟨by decide, by decide, by decide, hs 17 _ rfl, hs 18 _ rfl⟩ : zCe S 17 18 2073).2.2.2.1 rfl rfl (fun _ h9 => nomatch h9) ?_
  rintro v9 M9 ⟨e9, e8⟩
  rw [e9, e8]
  clear e9 e8 v9 M9
  show rt_Go _ _ _ _ _ _ _ _ _ _ _ _ 12 [(0, zv s0 2 6), (1, zv s0 0 v)] [zv s0 0 ((zat M 18 2073 v)), zv s0 2 22] (zw s0 ca C S M)
  refine z_callV Γ kk_X0_at kc_RX8_45 (As := [zv s0 0 ((zat M 18 2073 v))]) (k_X0_at (d := d - 1) Γ hok (⟨by decide, by decide, by decide, hs 22 _ rfl, hs 23 _ rfl⟩ : zCe S 22 23 4096) (M := M) (Q := fun v9 M9 => v9 = (zat M 23 4096 ((zat M 18 2073 v))) ∧ M9 = M) (X := X) (show _ ∧ _ from ⟨rfl, rfl⟩)) (by omega) (by decide) (show (parseMethodDescriptor yX0_at.desc).map (fun q => q.parameters.length) = some 1 by decide +kernel) hok (Nat.zero_le _) dX8_length_12 (⟨by decide, by decide, by decide, hs 22 _ rfl, hs 23 _ rfl⟩ : zCe S 22 23 4096).1 (⟨by decide, by decide, by decide, hs 22 _ rfl, hs 23 _ rfl⟩ : zCe S 22 23 4096).2.2.2.1 rfl rfl (fun _ h9 => nomatch h9) ?_
  rintro v9 M9 ⟨e9, e8⟩
  rw [e9, e8]
  clear e9 e8 v9 M9
  show rt_Go _ _ _ _ _ _ _ _ _ _ _ _ 15 [(0, zv s0 2 6), (1, zv s0 0 v)] [zv s0 0 ((zat M 23 4096 ((zat M 18 2073 v))))] (zw s0 ca C S M)
  exact z_iret dX8_length_15 rfl h

def zt_X8_key (l : Launch) (s0 : State) (G : va_G) (ca : Nat → ClassId) (d : Nat) (C : Nat × Nat) (S : zS) (w0 : rt_Wd)  (v : Int) (M : zM) (Q : Int → zM → Prop) (X : zM → Prop) : Prop :=
  Q ((zat M 20 2073 v)) M
set_option maxRecDepth 100000 in
theorem z_X8_key {l : Launch} {s0 : State} {a0 : Array Value} {G : va_G} {ca : Nat → ClassId} (Γ : rt_Γ l s0 a0 G ca) {d : Nat} {C : Nat × Nat} {S : zS} (hd : 1 ≤ d) (hok : zok C)  (hs : zSok S) (hs6 : S 6 = some (0, 8, [(3, 7), (3, 9), (3, 11), (3, 13), (3, 15), (3, 17), (3, 19), (3, 21), (3, 22), (3, 1), (0, 0), (0, 0), (0, 0)])) {v : Int} {M : zM} {Q : Int → zM → Prop} {X : zM → Prop} (h : zt_X8_key l s0 G ca d C S (zw s0 ca C S M)  v M Q X) : zm_X8_key l s0 G ca d C S  v M Q X := by
  refine z_met (lv := [(0, zv s0 2 6), (1, zv s0 0 v)]) Γ kk_X8_key rfl (show (lg_sl [zv s0 2 6, zv s0 0 v]).length ≤ 2 from by simp only [zn_0, zn_2, show (lg_sl []).length = 0 from rfl]; omega) (show lv_args 0 [zv s0 2 6, zv s0 0 v] = [(0, zv s0 2 6), (1, zv s0 0 v)] from by rw [zl_2, zl_0]; rfl) ?_
  unfold zt_X8_key at h
  refine z_aload_n dX8_key_0 rfl (j := 0) rfl ?_
  refine z_getc Γ kf_RX8_35 dX8_key_1 (by decide) hs6 rfl ?_
  refine z_iload_n dX8_key_4 rfl (j := 1) rfl ?_
  refine z_callV Γ kk_X0_at kc_RX8_45 (As := [zv s0 0 v]) (k_X0_at (d := d - 1) Γ hok (⟨by decide, by decide, by decide, hs 19 _ rfl, hs 20 _ rfl⟩ : zCe S 19 20 2073) (M := M) (Q := fun v9 M9 => v9 = (zat M 20 2073 v) ∧ M9 = M) (X := X) (show _ ∧ _ from ⟨rfl, rfl⟩)) (by omega) (by decide) (show (parseMethodDescriptor yX0_at.desc).map (fun q => q.parameters.length) = some 1 by decide +kernel) hok (Nat.zero_le _) dX8_key_5 (⟨by decide, by decide, by decide, hs 19 _ rfl, hs 20 _ rfl⟩ : zCe S 19 20 2073).1 (⟨by decide, by decide, by decide, hs 19 _ rfl, hs 20 _ rfl⟩ : zCe S 19 20 2073).2.2.2.1 rfl rfl (fun _ h9 => nomatch h9) ?_
  rintro v9 M9 ⟨e9, e8⟩
  rw [e9, e8]
  clear e9 e8 v9 M9
  show rt_Go _ _ _ _ _ _ _ _ _ _ _ _ 8 [(0, zv s0 2 6), (1, zv s0 0 v)] [zv s0 0 ((zat M 20 2073 v))] (zw s0 ca C S M)
  exact z_iret dX8_key_8 rfl h

def zt_X8_isString (l : Launch) (s0 : State) (G : va_G) (ca : Nat → ClassId) (d : Nat) (C : Nat × Nat) (S : zS) (w0 : rt_Wd)  (v : Int) (M : zM) (Q : Int → zM → Prop) (X : zM → Prop) : Prop :=
  zIf (w32 v = ((-1))) (Q 0 M) (zIf (w32 ((zat M 8 2073 v)) = 3) (Q 1 M) (Q 0 M))
set_option maxRecDepth 100000 in
theorem z_X8_isString {l : Launch} {s0 : State} {a0 : Array Value} {G : va_G} {ca : Nat → ClassId} (Γ : rt_Γ l s0 a0 G ca) {d : Nat} {C : Nat × Nat} {S : zS} (hd : 1 ≤ d) (hok : zok C)  (hs : zSok S) (hs6 : S 6 = some (0, 8, [(3, 7), (3, 9), (3, 11), (3, 13), (3, 15), (3, 17), (3, 19), (3, 21), (3, 22), (3, 1), (0, 0), (0, 0), (0, 0)])) {v : Int} {M : zM} {Q : Int → zM → Prop} {X : zM → Prop} (h : zt_X8_isString l s0 G ca d C S (zw s0 ca C S M)  v M Q X) : zm_X8_isString l s0 G ca d C S  v M Q X := by
  refine z_met (lv := [(0, zv s0 2 6), (1, zv s0 0 v)]) Γ kk_X8_isString rfl (show (lg_sl [zv s0 2 6, zv s0 0 v]).length ≤ 2 from by simp only [zn_0, zn_2, show (lg_sl []).length = 0 from rfl]; omega) (show lv_args 0 [zv s0 2 6, zv s0 0 v] = [(0, zv s0 2 6), (1, zv s0 0 v)] from by rw [zl_2, zl_0]; rfl) ?_
  unfold zt_X8_isString at h
  refine z_iload_n dX8_isString_0 rfl (j := 1) rfl ?_
  refine z_iconst dX8_isString_1 ?_
  refine z_icmp_eq (tgt := 21) (x' := w32 v) (y' := ((-1))) rfl (by decide) dX8_isString_2 (by decide) (fun c2 => ?_) (fun c2 => ?_)
  · replace h := h.1 c2
    refine z_iconst dX8_isString_21 ?_
    exact z_zret dX8_isString_22 rfl (by decide) h
  · replace h := h.2 c2
    refine z_aload_n dX8_isString_5 rfl (j := 0) rfl ?_
    refine z_getc Γ kf_RX8_16 dX8_isString_6 (by decide) hs6 rfl ?_
    refine z_iload_n dX8_isString_9 rfl (j := 1) rfl ?_
    refine z_callV Γ kk_X0_at kc_RX8_45 (As := [zv s0 0 v]) (k_X0_at (d := d - 1) Γ hok (⟨by decide, by decide, by decide, hs 7 _ rfl, hs 8 _ rfl⟩ : zCe S 7 8 2073) (M := M) (Q := fun v9 M9 => v9 = (zat M 8 2073 v) ∧ M9 = M) (X := X) (show _ ∧ _ from ⟨rfl, rfl⟩)) (by omega) (by decide) (show (parseMethodDescriptor yX0_at.desc).map (fun q => q.parameters.length) = some 1 by decide +kernel) hok (Nat.zero_le _) dX8_isString_10 (⟨by decide, by decide, by decide, hs 7 _ rfl, hs 8 _ rfl⟩ : zCe S 7 8 2073).1 (⟨by decide, by decide, by decide, hs 7 _ rfl, hs 8 _ rfl⟩ : zCe S 7 8 2073).2.2.2.1 rfl rfl (fun _ h9 => nomatch h9) ?_
    rintro v9 M9 ⟨e9, e8⟩
    rw [e9, e8]
    clear e9 e8 v9 M9
    show rt_Go _ _ _ _ _ _ _ _ _ _ _ _ 13 [(0, zv s0 2 6), (1, zv s0 0 v)] [zv s0 0 ((zat M 8 2073 v))] (zw s0 ca C S M)
    refine z_iconst dX8_isString_13 ?_
    refine z_icmp_ne (tgt := 21) (x' := w32 ((zat M 8 2073 v))) (y' := 3) rfl (by decide) dX8_isString_14 (by decide) (fun c14 => ?_) (fun c14 => ?_)
    · replace h := h.2 c14
      refine z_iconst dX8_isString_21 ?_
      exact z_zret dX8_isString_22 rfl (by decide) h
    · replace h := h.1 c14
      refine z_iconst dX8_isString_17 ?_
      refine rt_goto (tgt := 22) dX8_isString_18 (by decide) ?_
      exact z_zret dX8_isString_22 rfl (by decide) h

def zf_X8_isString (M : zM) (v : Int) : Int := (if w32 v = ((-1)) then 0 else (if w32 ((zat M 8 2073 v)) = 3 then 1 else 0))
theorem k_X8_isString {l : Launch} {s0 : State} {a0 : Array Value} {G : va_G} {ca : Nat → ClassId} (Γ : rt_Γ l s0 a0 G ca) {d : Nat} {C : Nat × Nat} {S : zS} (hd : 1 ≤ d) (hok : zok C)  (hs : zSok S) (hs6 : S 6 = some (0, 8, [(3, 7), (3, 9), (3, 11), (3, 13), (3, 15), (3, 17), (3, 19), (3, 21), (3, 22), (3, 1), (0, 0), (0, 0), (0, 0)])) {v : Int} {M : zM} {Q : Int → zM → Prop} {X : zM → Prop} (h : Q (zf_X8_isString M v) M) : zm_X8_isString l s0 G ca d C S  v M Q X := by
  refine z_X8_isString Γ hd hok hs hs6 ?_
  unfold zt_X8_isString
  unfold zf_X8_isString at h
  by_cases c1 : w32 v = ((-1))
  · refine ⟨fun _ => ?_, fun c9 => absurd c1 c9⟩
    simp only [if_pos c1] at h
    exact h
  · refine ⟨fun c9 => absurd c9 c1, fun _ => ?_⟩
    simp only [if_neg c1] at h
    by_cases c2 : w32 ((zat M 8 2073 v)) = 3
    · refine ⟨fun _ => ?_, fun c9 => absurd c2 c9⟩
      simp only [if_pos c2] at h
      exact h
    · refine ⟨fun c9 => absurd c9 c2, fun _ => ?_⟩
      simp only [if_neg c2] at h
      exact h
