/-! ===== the reference's read of a text, with its handler ===== -/
abbrev zc_X10_read (l : Launch) (s0 : State) (G : va_G) (ca : Nat → ClassId) (d : Nat) (C : Nat × Nat) (S : zS) (t : Int) (o : Int) (f : Int) (n : Int) (M : zM) (Q : Int → zM → Prop) : Prop := zMetC l s0 G ca (.codeWith yX10_read cX10_read 5 (Option.some FieldType.int) [(130, 134, 137, 85)]) yX10_read 0 d 1 [zv s0 2 t, zv s0 2 o, zv s0 0 f, zv s0 0 n] C S M Q
abbrev zg_X10_read_3 (l : Launch) (s0 : State) (G : va_G) (ca : Nat → ClassId) (d : Nat) (C : Nat × Nat) (S : zS) (w0 : rt_Wd) (t : Int) (o : Int) (N : Nat) (v2 : Int) (v3 : Int) (v4 : Int)  (M : zM) (Q : Int → zM → Prop) (X : zM → Prop) : Prop := rt_Go l s0 G RX10 "read" cX10_read 5 (Option.some FieldType.int) (tableOf [(130, 134, 137, 85)]) d w0 (zQc s0 ca 0 1 C S Q) 3 [(0, zv s0 2 t), (1, zv s0 2 o), (2, zv s0 0 v2), (3, zv s0 0 v3), (4, zv s0 0 v4)] [] (zw s0 ca C S M)
abbrev zg_X10_read_62 (l : Launch) (s0 : State) (G : va_G) (ca : Nat → ClassId) (d : Nat) (C : Nat × Nat) (S : zS) (w0 : rt_Wd) (t : Int) (o : Int) (N : Nat) (v4 : Int)  (M : zM) (Q : Int → zM → Prop) (X : zM → Prop) : Prop := rt_Go l s0 G RX10 "read" cX10_read 5 (Option.some FieldType.int) (tableOf [(130, 134, 137, 85)]) d w0 (zQc s0 ca 0 1 C S Q) 62 [(0, zv s0 2 t), (4, zv s0 0 v4)] [] (zw s0 ca C S M)
abbrev zg_X10_read_147 (l : Launch) (s0 : State) (G : va_G) (ca : Nat → ClassId) (d : Nat) (C : Nat × Nat) (S : zS) (w0 : rt_Wd) (t : Int) (o : Int) (N : Nat) (v4 : Int)  (M : zM) (Q : Int → zM → Prop) (X : zM → Prop) : Prop := rt_Go l s0 G RX10 "read" cX10_read 5 (Option.some FieldType.int) (tableOf [(130, 134, 137, 85)]) d w0 (zQc s0 ca 0 1 C S Q) 147 [(0, zv s0 2 t), (4, zv s0 0 v4)] [] (zw s0 ca C S M)
def zt_X10_read_3 (l : Launch) (s0 : State) (G : va_G) (ca : Nat → ClassId) (d : Nat) (C : Nat × Nat) (S : zS) (w0 : rt_Wd) (t : Int) (o : Int) (N : Nat) (v2 : Int) (v3 : Int) (v4 : Int)  (M : zM) (Q : Int → zM → Prop) (X : zM → Prop) : Prop :=
  zIf (w32 v3 ≤ w32 v4) (zg_X10_read_62 l s0 G ca d C S w0 t o N 0 ((zu ((zu ((zu ((zu ((zu ((zu M t 1 v3)) t 2 0)) t 3 0)) t 7 0)) t 15 0)) t 16 6)) Q X) ((0 ≤ v2 + v4 ∧ v2 + v4 < N) ∧ ((0 ≤ v4 ∧ v4 < 4096) ∧ (zg_X10_read_3 l s0 G ca d C S w0 t o N v2 v3 (v4 + 1) ((zu M (t + 1) v4 (w8 (M o (v2 + v4))))) Q X)))
set_option maxRecDepth 100000 in
theorem zs_X10_read_3 {l : Launch} {s0 : State} {a0 : Array Value} {G : va_G} {ca : Nat → ClassId} (Γ : rt_Γ l s0 a0 G ca) {d : Nat} {C : Nat × Nat} {S : zS} (hd : 1 ≤ d) (hok : zok C) {t : Int} {o : Int} {N : Nat} (ht : zTx S t) (ho : 0 ≤ o ∧ S o = some (2, N, []) ∧ N < 2147483648) {w0 : rt_Wd} {v2 : Int} {v3 : Int} {v4 : Int}   {M : zM} {Q : Int → zM → Prop} {X : zM → Prop} (h : zt_X10_read_3 l s0 G ca d C S w0 t o N v2 v3 v4 M Q X) : zg_X10_read_3 l s0 G ca d C S w0 t o N v2 v3 v4 M Q X := by
  unfold zt_X10_read_3 at h
  refine z_iload dX10_read_3 (j := 4) rfl ?_
  refine z_iload_n dX10_read_5 rfl (j := 3) rfl ?_
  refine z_icmp_ge (tgt := 28) (x' := w32 v4) (y' := w32 v3) rfl rfl dX10_read_6 (by decide) (fun c6 => ?_) (fun c6 => ?_)
  · replace h := h.1 c6
    refine z_aload_n dX10_read_28 rfl (j := 0) rfl ?_
    refine z_iload_n dX10_read_29 rfl (j := 3) rfl ?_
    refine z_put0 Γ kp_RX10_98 dX10_read_30 ht.1 ht.2.1 rfl (k9 := 1) rfl ?_
    refine z_aload_n dX10_read_33 rfl (j := 0) rfl ?_
    refine z_iconst dX10_read_34 ?_
    refine z_put0 Γ kp_RX10_95 dX10_read_35 ht.1 ht.2.1 rfl (k9 := 2) rfl ?_
    refine z_aload_n dX10_read_38 rfl (j := 0) rfl ?_
    refine z_iconst dX10_read_39 ?_
    refine z_put0 Γ kp_RX10_112 dX10_read_40 ht.1 ht.2.1 rfl (k9 := 3) rfl ?_
    refine z_aload_n dX10_read_43 rfl (j := 0) rfl ?_
    refine z_iconst dX10_read_44 ?_
    refine z_put0 Γ kp_RX10_109 dX10_read_45 ht.1 ht.2.1 rfl (k9 := 7) rfl ?_
    refine z_aload_n dX10_read_48 rfl (j := 0) rfl ?_
    refine z_iconst dX10_read_49 ?_
    refine z_put0 Γ kp_RX10_167 dX10_read_50 ht.1 ht.2.1 rfl (k9 := 15) rfl ?_
    refine z_aload_n dX10_read_53 rfl (j := 0) rfl ?_
    refine z_bipush dX10_read_54 (by decide) ?_
    refine z_put0 Γ kp_RX10_189 dX10_read_56 ht.1 ht.2.1 rfl (k9 := 16) rfl ?_
    refine z_iconst dX10_read_59 ?_
    refine z_istore (i := 4) (lv' := [(4, zv s0 0 0), (0, zv s0 2 t), (1, zv s0 2 o), (2, zv s0 0 v2), (3, zv s0 0 v3)]) dX10_read_60 (by decide) (by simp [zv_cat0, zv_cat1, zv_cat2, zv_cats]) ?_
    exact rt_lfew [1, 0] rfl h
  · replace h := h.2 c6
    refine z_aload_n dX10_read_9 rfl (j := 0) rfl ?_
    refine z_getc Γ kf_RX10_9 dX10_read_10 ht.1 ht.2.1 rfl ?_
    refine z_iload dX10_read_13 (j := 4) rfl ?_
    refine z_aload_n dX10_read_15 rfl (j := 1) rfl ?_
    refine z_iload_n dX10_read_16 rfl (j := 2) rfl ?_
    refine z_iload dX10_read_17 (j := 4) rfl ?_
    refine z_iadd dX10_read_19 ?_
    obtain ⟨hi20, h⟩ := h
    refine z_bald Γ dX10_read_20 ho.1 ho.2.1 ho.2.2 hi20 (v9 := M o (v2 + v4)) rfl ?_
    obtain ⟨hi21, h⟩ := h
    refine z_bast Γ dX10_read_21 (by have := ht.1; omega) ht.2.2.1 (by decide) hi21 ?_
    refine z_iinc (lv' := [(4, zv s0 0 (v4 + 1)), (0, zv s0 2 t), (1, zv s0 2 o), (2, zv s0 0 v2), (3, zv s0 0 v3)]) dX10_read_22 (j := 4) rfl (by decide) (by simp [zv_cat0, zv_cat1, zv_cat2, zv_cats]) ?_
    refine rt_goto (tgt := 3) dX10_read_25 (by decide) ?_
    exact rt_lfew [1, 2, 3, 4, 0] rfl h

def zt_X10_read_62 (l : Launch) (s0 : State) (G : va_G) (ca : Nat → ClassId) (d : Nat) (C : Nat × Nat) (S : zS) (w0 : rt_Wd) (t : Int) (o : Int) (N : Nat) (v4 : Int)  (M : zM) (Q : Int → zM → Prop) (X : zM → Prop) : Prop :=
  zIf (6 ≤ w32 v4) (zm_X10_readAll l s0 G ca (d - 1) C S t  ((zu ((zu ((zu ((zu ((zu ((zu M t 17 0)) t 24 0)) t 29 0)) t 4 0)) t 5 ((-1)))) t 33 0)) (fun r131 M131 => zg_X10_read_147 l s0 G ca d C S w0 t o N 0 M131 Q X) (fun M9 => Q (M9 t 4) M9)) ((0 ≤ v4 ∧ v4 < 140) ∧ (zg_X10_read_62 l s0 G ca d C S w0 t o N (v4 + 1) ((zu ((zu ((zu M (t + 9) v4 v4)) (t + 10) v4 ((-1)))) (t + 12) v4 ((-1)))) Q X))
set_option maxRecDepth 100000 in
theorem zs_X10_read_62 {l : Launch} {s0 : State} {a0 : Array Value} {G : va_G} {ca : Nat → ClassId} (Γ : rt_Γ l s0 a0 G ca) {d : Nat} {C : Nat × Nat} {S : zS} (hd : 1 ≤ d) (hok : zok C) {t : Int} {o : Int} {N : Nat} (ht : zTx S t) (ho : 0 ≤ o ∧ S o = some (2, N, []) ∧ N < 2147483648) {w0 : rt_Wd} {v4 : Int}   {M : zM} {Q : Int → zM → Prop} {X : zM → Prop} (h : zt_X10_read_62 l s0 G ca d C S w0 t o N v4 M Q X) : zg_X10_read_62 l s0 G ca d C S w0 t o N v4 M Q X := by
  unfold zt_X10_read_62 at h
  refine z_iload dX10_read_62 (j := 1) rfl ?_
  refine z_bipush dX10_read_64 (by decide) ?_
  refine z_icmp_ge (tgt := 100) (x' := w32 v4) (y' := 6) rfl (by decide) dX10_read_66 (by decide) (fun c66 => ?_) (fun c66 => ?_)
  · replace h := h.1 c66
    refine z_aload_n dX10_read_100 rfl (j := 0) rfl ?_
    refine z_iconst dX10_read_101 ?_
    refine z_put0 Γ kp_RX10_195 dX10_read_102 ht.1 ht.2.1 rfl (k9 := 17) rfl ?_
    refine z_aload_n dX10_read_105 rfl (j := 0) rfl ?_
    refine z_iconst dX10_read_106 ?_
    refine z_put0 Γ kp_RX10_192 dX10_read_107 ht.1 ht.2.1 rfl (k9 := 24) rfl ?_
    refine z_aload_n dX10_read_110 rfl (j := 0) rfl ?_
    refine z_iconst dX10_read_111 ?_
    refine z_put0 Γ kp_RX10_271 dX10_read_112 ht.1 ht.2.1 rfl (k9 := 29) rfl ?_
    refine z_aload_n dX10_read_115 rfl (j := 0) rfl ?_
    refine z_iconst dX10_read_116 ?_
    refine z_put0 Γ kp_RX10_78 dX10_read_117 ht.1 ht.2.1 rfl (k9 := 4) rfl ?_
    refine z_aload_n dX10_read_120 rfl (j := 0) rfl ?_
    refine z_iconst dX10_read_121 ?_
    refine z_put0 Γ kp_RX10_82 dX10_read_122 ht.1 ht.2.1 rfl (k9 := 5) rfl ?_
    refine z_aload_n dX10_read_125 rfl (j := 0) rfl ?_
    refine z_iconst dX10_read_126 ?_
    refine z_put0 Γ kp_RX10_280 dX10_read_127 ht.1 ht.2.1 rfl (k9 := 33) rfl ?_
    refine z_aload_n dX10_read_130 rfl (j := 0) rfl ?_
    refine zc_callV Γ kk_X10_readAll kc_RX10_283 (As := []) h (by omega) (by decide) (show (parseMethodDescriptor yX10_readAll.desc).map (fun q => q.parameters.length) = some 0 by decide +kernel) hok (Nat.zero_le _) dX10_read_131 ht.1 ht.2.1 rfl rfl (fun n9 M9 hn1 hn2 h9 => ?_) ?_
    · refine rt_catch (name := "java/lang/IllegalStateException") Γ [] ⟨130, 134, 137, 85⟩ [] rfl (fun _ h => absurd h List.not_mem_nil) (by decide) (by decide) (tc_7 _ (List.mem_of_getElem? (i := 109) (by decide +kernel))) (tc_2 _ (List.mem_of_getElem? (i := 135) (by decide +kernel))) (fun q => ?_)
      refine rt_astoreA (lv' := [(4, .ref q), (0, zv s0 2 t)]) dX10_read_137 (by decide) (by simp [zv_cat0, zv_cat1, zv_cat2, zv_cats]) ?_
      refine z_aload_n dX10_read_139 rfl (j := 1) rfl ?_
      refine z_get Γ kf_RX10_78 dX10_read_140 ht.1 ht.2.1 rfl (by decide) (v9 := M9 t 4) rfl ?_
      exact z_iretC dX10_read_143 rfl hn1 hn2 (Nat.le_add_right _ _) (Nat.le_refl _) h9
    clear h
    intro r131 M131 h
    show rt_Go _ _ _ _ _ _ _ _ _ _ _ _ 134 [(0, zv s0 2 t), (4, zv s0 0 v4)] [] (zw s0 ca C S M131)
    refine rt_goto (tgt := 144) dX10_read_134 (by decide) ?_
    refine z_iconst dX10_read_144 ?_
    refine z_istore (i := 4) (lv' := [(4, zv s0 0 0), (0, zv s0 2 t)]) dX10_read_145 (by decide) (by simp [zv_cat0, zv_cat1, zv_cat2, zv_cats]) ?_
    exact rt_lfew [1, 0] rfl h
  · replace h := h.2 c66
    refine z_aload_n dX10_read_69 rfl (j := 0) rfl ?_
    refine z_getc Γ kf_RX10_38 dX10_read_70 ht.1 ht.2.1 rfl ?_
    refine z_iload dX10_read_73 (j := 1) rfl ?_
    refine z_iload dX10_read_75 (j := 1) rfl ?_
    obtain ⟨hi77, h⟩ := h
    refine z_iast Γ dX10_read_77 (by have := ht.1; omega) ht.2.2.2.2.2.2.2.2.2.2.1 (by decide) hi77 ?_
    refine z_aload_n dX10_read_78 rfl (j := 0) rfl ?_
    refine z_getc Γ kf_RX10_41 dX10_read_79 ht.1 ht.2.1 rfl ?_
    refine z_iload dX10_read_82 (j := 1) rfl ?_
    refine z_iconst dX10_read_84 ?_
    refine z_iast Γ dX10_read_85 (by have := ht.1; omega) ht.2.2.2.2.2.2.2.2.2.2.2.1 (by decide) hi77 ?_
    refine z_aload_n dX10_read_86 rfl (j := 0) rfl ?_
    refine z_getc Γ kf_RX10_47 dX10_read_87 ht.1 ht.2.1 rfl ?_
    refine z_iload dX10_read_90 (j := 1) rfl ?_
    refine z_iconst dX10_read_92 ?_
    refine z_iast Γ dX10_read_93 (by have := ht.1; omega) ht.2.2.2.2.2.2.2.2.2.2.2.2.2.1 (by decide) hi77 ?_
    refine z_iinc (lv' := [(4, zv s0 0 (v4 + 1)), (0, zv s0 2 t)]) dX10_read_94 (j := 1) rfl (by decide) (by simp [zv_cat0, zv_cat1, zv_cat2, zv_cats]) ?_
    refine rt_goto (tgt := 62) dX10_read_97 (by decide) ?_
    exact rt_lfew [1, 0] rfl h

def zt_X10_read_147 (l : Launch) (s0 : State) (G : va_G) (ca : Nat → ClassId) (d : Nat) (C : Nat × Nat) (S : zS) (w0 : rt_Wd) (t : Int) (o : Int) (N : Nat) (v4 : Int)  (M : zM) (Q : Int → zM → Prop) (X : zM → Prop) : Prop :=
  zIf (w32 (M t 16) ≤ w32 v4) (zm_X10_write l s0 G ca (d - 1) C S t (M t 31) M (fun r175 M175 => Q 0 M175) (fun _ => False)) ((0 ≤ v4 ∧ v4 < 140) ∧ (zg_X10_read_147 l s0 G ca d C S w0 t o N (v4 + 1) ((zu M (t + 21) v4 0)) Q X))
set_option maxRecDepth 100000 in
theorem zs_X10_read_147 {l : Launch} {s0 : State} {a0 : Array Value} {G : va_G} {ca : Nat → ClassId} (Γ : rt_Γ l s0 a0 G ca) {d : Nat} {C : Nat × Nat} {S : zS} (hd : 1 ≤ d) (hok : zok C) {t : Int} {o : Int} {N : Nat} (ht : zTx S t) (ho : 0 ≤ o ∧ S o = some (2, N, []) ∧ N < 2147483648) {w0 : rt_Wd} {v4 : Int}   {M : zM} {Q : Int → zM → Prop} {X : zM → Prop} (h : zt_X10_read_147 l s0 G ca d C S w0 t o N v4 M Q X) : zg_X10_read_147 l s0 G ca d C S w0 t o N v4 M Q X := by
  unfold zt_X10_read_147 at h
  refine z_iload dX10_read_147 (j := 1) rfl ?_
  refine z_aload_n dX10_read_149 rfl (j := 0) rfl ?_
  refine z_get Γ kf_RX10_189 dX10_read_150 ht.1 ht.2.1 rfl (by decide) (v9 := M t 16) rfl ?_
  refine z_icmp_ge (tgt := 170) (x' := w32 v4) (y' := w32 (M t 16)) rfl rfl dX10_read_153 (by decide) (fun c153 => ?_) (fun c153 => ?_)
  · replace h := h.1 c153
    refine z_aload_n dX10_read_170 rfl (j := 0) rfl ?_
    refine z_aload_n dX10_read_171 rfl (j := 0) rfl ?_
    refine z_get Γ kf_RX10_286 dX10_read_172 ht.1 ht.2.1 rfl (by decide) (v9 := M t 31) rfl ?_
    refine zc_callV Γ kk_X10_write kc_RX10_289 (As := [zv s0 0 (M t 31)]) h (by omega) (by decide) (show (parseMethodDescriptor yX10_write.desc).map (fun q => q.parameters.length) = some 1 by decide +kernel) hok (Nat.zero_le _) dX10_read_175 ht.1 ht.2.1 rfl rfl (fun _ _ _ _ h9 => h9.elim) ?_
    clear h
    intro r175 M175 h
    show rt_Go _ _ _ _ _ _ _ _ _ _ _ _ 178 [(0, zv s0 2 t), (4, zv s0 0 v4)] [] (zw s0 ca C S M175)
    refine z_iconst dX10_read_178 ?_
    exact z_iretC dX10_read_179 rfl (Nat.le_refl _) (Nat.le_add_right _ _) (Nat.le_refl _) (Nat.le_add_right _ _) h
  · replace h := h.2 c153
    refine z_aload_n dX10_read_156 rfl (j := 0) rfl ?_
    refine z_getc Γ kf_RX10_74 dX10_read_157 ht.1 ht.2.1 rfl ?_
    refine z_iload dX10_read_160 (j := 1) rfl ?_
    refine z_iconst dX10_read_162 ?_
    obtain ⟨hi163, h⟩ := h
    refine z_zast Γ dX10_read_163 (by have := ht.1; omega) ht.2.2.2.2.2.2.2.2.2.2.2.2.2.2.2.2.2.2.2.2.2.2 (by decide) hi163 (by decide) ?_
    refine z_iinc (lv' := [(4, zv s0 0 (v4 + 1)), (0, zv s0 2 t)]) dX10_read_164 (j := 1) rfl (by decide) (by simp [zv_cat0, zv_cat1, zv_cat2, zv_cats]) ?_
    refine rt_goto (tgt := 147) dX10_read_167 (by decide) ?_
    exact rt_lfew [1, 0] rfl h

def zt_X10_read (l : Launch) (s0 : State) (G : va_G) (ca : Nat → ClassId) (d : Nat) (C : Nat × Nat) (S : zS) (w0 : rt_Wd) (t : Int) (o : Int) (N : Nat) (f : Int) (n : Int) (M : zM) (Q : Int → zM → Prop) (X : zM → Prop) : Prop :=
  zg_X10_read_3 l s0 G ca d C S w0 t o N f n 0 M Q X
set_option maxRecDepth 100000 in
theorem z_X10_read {l : Launch} {s0 : State} {a0 : Array Value} {G : va_G} {ca : Nat → ClassId} (Γ : rt_Γ l s0 a0 G ca) {d : Nat} {C : Nat × Nat} {S : zS} (hd : 1 ≤ d) (hok : zok C) {t : Int} {o : Int} {N : Nat} (ht : zTx S t) (ho : 0 ≤ o ∧ S o = some (2, N, []) ∧ N < 2147483648) {f : Int} {n : Int} {M : zM} {Q : Int → zM → Prop} {X : zM → Prop} (h : zt_X10_read l s0 G ca d C S (zw s0 ca C S M) t o N f n M Q X) : zc_X10_read l s0 G ca d C S t o f n M Q := by
  refine z_metC (lv := [(0, zv s0 2 t), (1, zv s0 2 o), (2, zv s0 0 f), (3, zv s0 0 n)]) Γ kk_X10_read rfl (show (lg_sl [zv s0 2 t, zv s0 2 o, zv s0 0 f, zv s0 0 n]).length ≤ 5 from by simp only [zn_0, zn_2, show (lg_sl []).length = 0 from rfl]; omega) (show lv_args 0 [zv s0 2 t, zv s0 2 o, zv s0 0 f, zv s0 0 n] = [(0, zv s0 2 t), (1, zv s0 2 o), (2, zv s0 0 f), (3, zv s0 0 n)] from by rw [zl_2, zl_2, zl_0, zl_0]; rfl) ?_
  unfold zt_X10_read at h
  refine z_iconst dX10_read_0 ?_
  refine z_istore (i := 4) (lv' := [(4, zv s0 0 0), (0, zv s0 2 t), (1, zv s0 2 o), (2, zv s0 0 f), (3, zv s0 0 n)]) dX10_read_1 (by decide) (by simp [zv_cat0, zv_cat1, zv_cat2, zv_cats]) ?_
  exact rt_lfew [1, 2, 3, 4, 0] rfl h

