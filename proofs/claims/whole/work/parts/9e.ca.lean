/-! ===== methods that catch: they come back with more cells; the reference's lookAtRows ===== -/
/-- comes back, with at most B exceptions made -/
def zQc (s0 : State) (ca : Nat → ClassId) (t : Nat) (B : Nat) (C : Nat × Nat) (S : zS) (Q : Int → zM → Prop) : rt_Res → rt_Wd → Prop := fun r w => ∃ (v : Int) (n o : Nat) (M : zM), r = .inl (zret s0 t v) ∧ C.1 ≤ n ∧ n ≤ C.1 + B ∧ C.2 ≤ o ∧ o ≤ C.2 + 6 * B ∧ w = zw s0 ca (n, o) S M ∧ Q v M
def zMetC (l : Launch) (s0 : State) (G : va_G) (ca : Nat → ClassId) (k : Cond) (y : MethodName) (t d B : Nat) (av : List Value) (C : Nat × Nat) (S : zS) (M : zM) (Q : Int → zM → Prop) : Prop :=
  rt_Met l s0 G k y d av (zw s0 ca C S M) (zQc s0 ca t B C S Q)
abbrev zc_X11_lookAtRows (l : Launch) (s0 : State) (G : va_G) (ca : Nat → ClassId) (d : Nat) (C : Nat × Nat) (S : zS) (t : Int) (p : Int) (M : zM) (Q : Int → zM → Prop) : Prop := zMetC l s0 G ca (.codeWith yX11_lookAtRows cX11_lookAtRows 5 (Option.some FieldType.int) [(27, 76, 86, 93), (77, 83, 86, 93)]) yX11_lookAtRows 0 d 1 [zv s0 2 84, zv s0 2 t, zv s0 0 p] C S M Q
section CA
variable {l : Launch} {s0 : State} {a0 : Array Value} {G : va_G} {ca : Nat → ClassId} {own nm : String} {cc : ByteArray} {nL : Nat} {ret : Option FieldType} {tab : List ExceptionTableEntry} {d : Nat} {w0 : rt_Wd} {pc : Nat} {lv lv' : List (Nat × Value)} {st : List Value} {C : Nat × Nat} {S : zS} {M : zM} {Q : Int → zM → Prop} {t B : Nat}
theorem z_metC (Γ : rt_Γ l s0 a0 G ca) {y : MethodName} {kc : Cond} {desc : String} (K : rt_Kc y kc cc nL ret tab) (hy : y = ⟨own, nm, desc⟩) {av : List Value} (hlen : (lg_sl av).length ≤ nL) (hlv : lv_args 0 av = lv) (body : rt_Go l s0 G own nm cc nL ret tab d (zw s0 ca C S M) (zQc s0 ca t B C S Q) 0 lv [] (zw s0 ca C S M)) : zMetC l s0 G ca kc y t d B av C S M Q := rt_met Γ K hy hlen hlv body
theorem z_iretC {v : Int} {n o : Nat} (hd : decode cc pc = .ok (.ireturn, 1)) (hr : ret = some .int) (h1 : C.1 ≤ n) (h2 : n ≤ C.1 + B) (h3 : C.2 ≤ o) (h4 : o ≤ C.2 + 6 * B) (hQ : Q v M) : rt_Go l s0 G own nm cc nL ret tab d w0 (zQc s0 ca 0 B C S Q) pc lv [zv s0 0 v] (zw s0 ca (n, o) S M) := rt_iret hd hr ⟨v, n, o, M, rfl, h1, h2, h3, h4, rfl, hQ⟩
end CA
abbrev zg_X11_lookAtRows_27 (l : Launch) (s0 : State) (G : va_G) (ca : Nat → ClassId) (d : Nat) (C : Nat × Nat) (S : zS) (w0 : rt_Wd)  (v1 : Int) (v2 : Int) (v3 : Int)  (M : zM) (Q : Int → zM → Prop) (X : zM → Prop) : Prop := rt_Go l s0 G RX11 "lookAtRows" cX11_lookAtRows 5 (Option.some FieldType.int) (tableOf [(27, 76, 86, 93), (77, 83, 86, 93)]) d w0 (zQc s0 ca 0 1 C S Q) 27 [(0, zv s0 2 84), (1, zv s0 2 v1), (2, zv s0 0 v2), (3, zv s0 0 v3)] [] (zw s0 ca C S M)
def zt_X11_lookAtRows_27 (l : Launch) (s0 : State) (G : va_G) (ca : Nat → ClassId) (d : Nat) (C : Nat × Nat) (S : zS) (w0 : rt_Wd)  (v1 : Int) (v2 : Int) (v3 : Int)  (M : zM) (Q : Int → zM → Prop) (X : zM → Prop) : Prop :=
  zIf (w32 (M 84 2) ≤ w32 (M 84 16)) (Q v3 M) (zTx S v1 ∧ (zm_X11_datum l s0 G ca (d - 1) C S v1 (M v1 31) 0 v2 ((zu ((zu M 84 19 0)) 84 20 0)) (fun r62 M62 => zIf (w32 (M62 84 16) = w32 (M 84 16)) (Q ((-34)) M62) (zg_X11_lookAtRows_27 l s0 G ca d C S w0  v1 v2 (v3 + 1) M62 Q X)) (fun M9 => Q (-(M9 84 17)) (zu M9 84 3 (M9 84 18)))))
set_option maxRecDepth 100000 in
theorem zs_X11_lookAtRows_27 {l : Launch} {s0 : State} {a0 : Array Value} {G : va_G} {ca : Nat → ClassId} (Γ : rt_Γ l s0 a0 G ca) {d : Nat} {C : Nat × Nat} {S : zS} (hd : 1 ≤ d) (hok : zok C) (hs : zSok S) {w0 : rt_Wd} {v1 : Int} {v2 : Int} {v3 : Int}   {M : zM} {Q : Int → zM → Prop} {X : zM → Prop} (h : zt_X11_lookAtRows_27 l s0 G ca d C S w0  v1 v2 v3 M Q X) : zg_X11_lookAtRows_27 l s0 G ca d C S w0  v1 v2 v3 M Q X := by
  unfold zt_X11_lookAtRows_27 at h
  refine z_aload_n dX11_lookAtRows_27 rfl (j := 0) rfl ?_
  refine z_get Γ kf_RX11_99 dX11_lookAtRows_28 (by decide) (hs 84 _ rfl) rfl (by decide) (v9 := M 84 16) rfl ?_
  refine z_aload_n dX11_lookAtRows_31 rfl (j := 0) rfl ?_
  refine z_get Γ kf_RX11_57 dX11_lookAtRows_32 (by decide) (hs 84 _ rfl) rfl (by decide) (v9 := M 84 2) rfl ?_
  refine z_icmp_ge (tgt := 83) (x' := w32 (M 84 16)) (y' := w32 (M 84 2)) rfl rfl dX11_lookAtRows_35 (by decide) (fun c35 => ?_) (fun c35 => ?_)
  · replace h := h.1 c35
    refine rt_goto (tgt := 102) dX11_lookAtRows_83 (by decide) ?_
    refine z_iload_n dX11_lookAtRows_102 rfl (j := 3) rfl ?_
    exact z_iretC dX11_lookAtRows_103 rfl (Nat.le_refl _) (Nat.le_add_right _ _) (Nat.le_refl _) (Nat.le_add_right _ _) h
  · replace h := h.2 c35
    refine z_aload_n dX11_lookAtRows_38 rfl (j := 0) rfl ?_
    refine z_get Γ kf_RX11_99 dX11_lookAtRows_39 (by decide) (hs 84 _ rfl) rfl (by decide) (v9 := M 84 16) rfl ?_
    refine z_istore (i := 4) (lv' := [(4, zv s0 0 (M 84 16)), (0, zv s0 2 84), (1, zv s0 2 v1), (2, zv s0 0 v2), (3, zv s0 0 v3)]) dX11_lookAtRows_42 (by decide) (by simp [zv_cat0, zv_cat1, zv_cat2, zv_cats]) ?_
    refine z_aload_n dX11_lookAtRows_44 rfl (j := 1) rfl ?_
    refine z_iconst dX11_lookAtRows_45 ?_
    refine z_put0 Γ kp_RX11_175 dX11_lookAtRows_46 (by decide) (hs 84 _ rfl) rfl (k9 := 19) rfl ?_
    refine z_aload_n dX11_lookAtRows_49 rfl (j := 1) rfl ?_
    refine z_iconst dX11_lookAtRows_50 ?_
    refine z_put0 Γ kp_RX11_129 dX11_lookAtRows_51 (by decide) (hs 84 _ rfl) rfl (k9 := 20) rfl ?_
    refine z_aload_n dX11_lookAtRows_54 rfl (j := 1) rfl ?_
    refine z_aload_n dX11_lookAtRows_55 rfl (j := 2) rfl ?_
    refine z_aload_n dX11_lookAtRows_56 rfl (j := 2) rfl ?_
    obtain ⟨hk0, h⟩ := h
    refine z_getN Γ kfN_RX11_188 dX11_lookAtRows_57 hk0.1 hk0.2.1 rfl (by decide) (v9 := M v1 31) ((zu_k (by decide)).trans ((zu_k (by decide)).trans rfl)) ?_
    refine z_iconst dX11_lookAtRows_60 ?_
    refine z_iload_n dX11_lookAtRows_61 rfl (j := 3) rfl ?_
    refine zc_callV Γ kk_X11_datum kc_RX11_156 (As := [zv s0 2 v1, zv s0 0 (M v1 31), zv s0 0 0, zv s0 0 v2]) h (by omega) (by decide) (show (parseMethodDescriptor yX11_datum.desc).map (fun q => q.parameters.length) = some 4 by decide +kernel) hok (Nat.zero_le _) dX11_lookAtRows_62 (by decide) (hs 84 _ rfl) rfl rfl (fun n9 M9 hn1 hn2 h9 => ?_) ?_
    · refine rt_catch (name := "java/lang/IllegalStateException") Γ [] ⟨27, 76, 86, 93⟩ [⟨77, 83, 86, 93⟩] rfl (fun _ h => absurd h List.not_mem_nil) (by decide) (by decide) (tc_8 _ (List.mem_of_getElem? (i := 136) (by decide +kernel))) (tc_2 _ (List.mem_of_getElem? (i := 135) (by decide +kernel))) (fun q => ?_)
      refine rt_astoreA (lv' := [(4, .ref q), (0, zv s0 2 84), (1, zv s0 2 v1), (2, zv s0 0 v2), (3, zv s0 0 v3)]) dX11_lookAtRows_86 (by decide) (by simp [zv_cat0, zv_cat1, zv_cat2, zv_cats]) ?_
      refine z_aload_n dX11_lookAtRows_88 rfl (j := 1) rfl ?_
      refine z_aload_n dX11_lookAtRows_89 rfl (j := 1) rfl ?_
      refine z_get Γ kf_RX11_90 dX11_lookAtRows_90 (by decide) (hs 84 _ rfl) rfl (by decide) (v9 := M9 84 18) rfl ?_
      refine z_put0 Γ kp_RX11_13 dX11_lookAtRows_93 (by decide) (hs 84 _ rfl) rfl (k9 := 3) rfl ?_
      refine z_aload_n dX11_lookAtRows_96 rfl (j := 1) rfl ?_
      refine z_get Γ kf_RX11_87 dX11_lookAtRows_97 (by decide) (hs 84 _ rfl) rfl (by decide) (v9 := M9 84 17) ((zu_k (by decide)).trans rfl) ?_
      refine z_ineg dX11_lookAtRows_100 ?_
      exact z_iretC dX11_lookAtRows_101 rfl hn1 hn2 (Nat.le_add_right _ _) (Nat.le_refl _) h9
    clear h
    intro r62 M62 h
    show rt_Go _ _ _ _ _ _ _ _ _ _ _ _ 65 [(4, zv s0 0 (M 84 16)), (0, zv s0 2 84), (1, zv s0 2 v1), (2, zv s0 0 v2), (3, zv s0 0 v3)] [] (zw s0 ca C S M62)
    refine z_aload_n dX11_lookAtRows_65 rfl (j := 1) rfl ?_
    refine z_get Γ kf_RX11_99 dX11_lookAtRows_66 (by decide) (hs 84 _ rfl) rfl (by decide) (v9 := M62 84 16) rfl ?_
    refine z_iload dX11_lookAtRows_69 (j := 0) rfl ?_
    refine z_icmp_ne (tgt := 77) (x' := w32 (M62 84 16)) (y' := w32 (M 84 16)) rfl rfl dX11_lookAtRows_71 (by decide) (fun c71 => ?_) (fun c71 => ?_)
    · replace h := h.2 c71
      refine z_iinc (lv' := [(3, zv s0 0 (v3 + 1)), (4, zv s0 0 (M 84 16)), (0, zv s0 2 84), (1, zv s0 2 v1), (2, zv s0 0 v2)]) dX11_lookAtRows_77 (j := 4) rfl (by decide) (by simp [zv_cat0, zv_cat1, zv_cat2, zv_cats]) ?_
      refine rt_goto (tgt := 27) dX11_lookAtRows_80 (by decide) ?_
      exact rt_lfew [2, 3, 4, 0] rfl h
    · replace h := h.1 c71
      refine z_bipush dX11_lookAtRows_74 (by decide) ?_
      exact z_iretC dX11_lookAtRows_76 rfl (Nat.le_refl _) (Nat.le_add_right _ _) (Nat.le_refl _) (Nat.le_add_right _ _) h
def zt_X11_lookAtRows (l : Launch) (s0 : State) (G : va_G) (ca : Nat → ClassId) (d : Nat) (C : Nat × Nat) (S : zS) (w0 : rt_Wd)  (t : Int) (p : Int) (M : zM) (Q : Int → zM → Prop) (X : zM → Prop) : Prop :=
  zIf (w32 (M 84 2) = 0) (Q ((-34)) ((zu ((zu ((zu M 84 16 0)) 84 15 0)) 84 3 ((-1))))) (zg_X11_lookAtRows_27 l s0 G ca d C S w0  t p 0 ((zu ((zu ((zu M 84 16 0)) 84 15 0)) 84 3 ((-1)))) Q X)
set_option maxRecDepth 100000 in
theorem z_X11_lookAtRows {l : Launch} {s0 : State} {a0 : Array Value} {G : va_G} {ca : Nat → ClassId} (Γ : rt_Γ l s0 a0 G ca) {d : Nat} {C : Nat × Nat} {S : zS} (hd : 1 ≤ d) (hok : zok C) (hs : zSok S) {t : Int} {p : Int} {M : zM} {Q : Int → zM → Prop} {X : zM → Prop} (h : zt_X11_lookAtRows l s0 G ca d C S (zw s0 ca C S M)  t p M Q X) : zc_X11_lookAtRows l s0 G ca d C S  t p M Q := by
  refine z_metC (lv := [(0, zv s0 2 84), (1, zv s0 2 t), (2, zv s0 0 p)]) Γ kk_X11_lookAtRows rfl (show (lg_sl [zv s0 2 84, zv s0 2 t, zv s0 0 p]).length ≤ 5 from by simp only [zn_0, zn_2, show (lg_sl []).length = 0 from rfl]; omega) (show lv_args 0 [zv s0 2 84, zv s0 2 t, zv s0 0 p] = [(0, zv s0 2 84), (1, zv s0 2 t), (2, zv s0 0 p)] from by rw [zl_2, zl_2, zl_0]; rfl) ?_
  unfold zt_X11_lookAtRows at h
  refine z_aload_n dX11_lookAtRows_0 rfl (j := 0) rfl ?_
  refine z_iconst dX11_lookAtRows_1 ?_
  refine z_put0 Γ kp_RX11_99 dX11_lookAtRows_2 (by decide) (hs 84 _ rfl) rfl (k9 := 16) rfl ?_
  refine z_aload_n dX11_lookAtRows_5 rfl (j := 0) rfl ?_
  refine z_iconst dX11_lookAtRows_6 ?_
  refine z_put0 Γ kp_RX11_115 dX11_lookAtRows_7 (by decide) (hs 84 _ rfl) rfl (k9 := 15) rfl ?_
  refine z_aload_n dX11_lookAtRows_10 rfl (j := 0) rfl ?_
  refine z_iconst dX11_lookAtRows_11 ?_
  refine z_put0 Γ kp_RX11_13 dX11_lookAtRows_12 (by decide) (hs 84 _ rfl) rfl (k9 := 3) rfl ?_
  refine z_aload_n dX11_lookAtRows_15 rfl (j := 0) rfl ?_
  refine z_get Γ kf_RX11_57 dX11_lookAtRows_16 (by decide) (hs 84 _ rfl) rfl (by decide) (v9 := M 84 2) ((zu_k (by decide)).trans ((zu_k (by decide)).trans ((zu_k (by decide)).trans rfl))) ?_
  refine z_if_ne (tgt := 25) (x' := w32 (M 84 2)) rfl dX11_lookAtRows_19 (by decide) (fun c19 => ?_) (fun c19 => ?_)
  · replace h := h.2 c19
    refine z_iconst dX11_lookAtRows_25 ?_
    refine z_istore_n (i := 3) (lv' := [(3, zv s0 0 0), (0, zv s0 2 84), (1, zv s0 2 t), (2, zv s0 0 p)]) dX11_lookAtRows_26 rfl (by decide) (by simp [zv_cat0, zv_cat1, zv_cat2, zv_cats]) ?_
    exact rt_lfew [1, 2, 3, 0] rfl h
  · replace h := h.1 c19
    refine z_bipush dX11_lookAtRows_22 (by decide) ?_
    exact z_iretC dX11_lookAtRows_24 rfl (Nat.le_refl _) (Nat.le_add_right _ _) (Nat.le_refl _) (Nat.le_add_right _ _) h
