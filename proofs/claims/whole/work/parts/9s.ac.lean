/-! ===== the class's schema: its tree, the shapes may grow ===== -/
abbrev zs_X9_schema (l : Launch) (s0 : State) (G : va_G) (ca : Nat → ClassId) (d : Nat) (C : Nat × Nat) (S : zS) (v : Int) (M : zM) (Q : Nat × Nat → zS → Int → zM → Prop) : Prop := zMetS l s0 G ca (.code yX9_schema cX9_schema 3 (Option.some FieldType.int)) yX9_schema 0 d [zv s0 2 0, zv s0 0 v] C S M Q
section SC9
variable {l : Launch} {s0 : State} {a0 : Array Value} {G : va_G} {ca : Nat → ClassId} {own nm : String} {cc : ByteArray} {nL : Nat} {ret : Option FieldType} {tab : List ExceptionTableEntry} {d : Nat} {w0 : rt_Wd} {pc : Nat} {lv lv' : List (Nat × Value)} {st : List Value} {C : Nat × Nat} {S : zS} {M : zM} {Q : Nat × Nat → zS → Int → zM → Prop} {t : Nat} {Qr : rt_Res → rt_Wd → Prop}
theorem z_metS (Γ : rt_Γ l s0 a0 G ca) {y : MethodName} {kc : Cond} {desc : String} (K : rt_Kc y kc cc nL ret tab) (hy : y = ⟨own, nm, desc⟩) {av : List Value} (hlen : (lg_sl av).length ≤ nL) (hlv : lv_args 0 av = lv) (body : rt_Go l s0 G own nm cc nL ret tab d (zw s0 ca C S M) (zQs s0 ca t Q) 0 lv [] (zw s0 ca C S M)) : zMetS l s0 G ca kc y t d av C S M Q := rt_met Γ K hy hlen hlv body
theorem z_iretS {v : Int} (hd : decode cc pc = .ok (.ireturn, 1)) (hr : ret = some .int) (hQ : Q C S v M) : rt_Go l s0 G own nm cc nL ret tab d w0 (zQs s0 ca 0 Q) pc lv [zv s0 0 v] (zw s0 ca C S M) := rt_iret hd hr ⟨v, C, S, M, rfl, rfl, hQ⟩
theorem z_aast (Γ : rt_Γ l s0 a0 G ca) {n : Nat} {a i v : Int} {tys tys9 : List (Nat × Int)} (hd : decode cc pc = .ok (.aastore, 1)) (h0 : 0 ≤ a) (hS : S a = some (5, n, tys)) (hn : n < 2147483648) (hi : 0 ≤ i ∧ i < (n : Int)) (hv : 0 ≤ v) (hSv : S v = some (0, 6, tys9)) (kk : rt_Go l s0 G own nm cc nL ret tab d w0 Qr (pc + 1) lv st (zw s0 ca C S (zu M a i v))) : rt_Go l s0 G own nm cc nL ret tab d w0 Qr pc lv (zv s0 2 v :: zv s0 0 i :: zv s0 2 a :: st) (zw s0 ca C S M) := by
  rw [zv_ref h0, zv_ref hv]
  refine rt_astq Γ hd (zw_at h0 hS) (zw_at hv hSv) (z_in hi hn).1 ?_
  rw [zw_up (M' := zu M a i v) h0 hS ?_ (fun b hb => funext fun j => zu_a hb)]
  · exact kk
  · rw [(z_in hi hn).2]
    refine congrArg (fun f => (Sum.inl (_, _, .inr (.inr (.inr (.inr f)))) : va_E)) (funext fun j => ?_)
    unfold zu va_up
    dsimp only
    by_cases hj : j = i.toNat
    · have e : (if a = a ∧ (j : Int) = i then v else M a j) = v := if_pos ⟨rfl, by omega⟩
      rw [e, if_neg (by omega), if_pos hj]
    · have e : (if a = a ∧ (j : Int) = i then v else M a j) = M a j := if_neg (fun c => hj (by have := c.2; omega))
      rw [e, if_neg hj]
theorem zs_callV (Γ : rt_Γ l s0 a0 G ca) {y : MethodName} {kc : Cond} {ccY : ByteArray} {nLY : Nat} {retY : Option FieldType} {tabY : List ExceptionTableEntry} (K : rt_Kc y kc ccY nLY retY tabY) {index ci tY : Nat} {cls : String} {T : u_T} {N : Nat} {a : Int} {tys : List (Nat × Int)} (C9 : rt_Cv own index cls y) {d1 : Nat} {As : List Value} {Q1 : Nat × Nat → zS → Int → zM → Prop} (hM : zMetS l s0 G ca kc y tY d1 (zv s0 2 a :: As) C S M Q1) (hd1 : d1 + 1 ≤ d) (hnL : nLY ≤ 18) {stk : List Value} (hlen : (parseMethodDescriptor y.desc).map (fun q => q.parameters.length) = some As.length) (hok : zok C) (hW : (st.map fun v => v.category).sum ≤ 12) (hd : decode cc pc = .ok (.invokevirtual index, 3)) (h0 : 0 ≤ a) (hS : S a = some (0, ci, tys)) (hci : vwCl[ci]? = some (cls, T, N)) (hstk : As.reverse ++ zv s0 2 a :: st = stk)
    (kr : ∀ (C1 : Nat × Nat) (S1 : zS) (v : Int) (M1 : zM), Q1 C1 S1 v M1 → rt_Go l s0 G own nm cc nL ret tab d w0 Qr (pc + 3) lv ((zret s0 tY v).toList ++ st) (zw s0 ca C1 S1 M1)) : rt_Go l s0 G own nm cc nL ret tab d w0 Qr pc lv stk (zw s0 ca C S M) := by
  subst hstk
  rw [zv_ref h0]
  refine rt_callV Γ K C9 hM hd1 hnL hlen ⟨by have := hok.1; show C.1 ≤ _; omega, by have := hok.2; show C.2 ≤ _; omega⟩ hW hd (zw_at h0 hS) hci (by rw [zv_ref h0]) rfl ?_ ?_
  · rintro v w1 ⟨v9, C1, S1, M1, h1, rfl, h3⟩
    cases Sum.inl.inj h1
    exact kr C1 S1 v9 M1 h3
  · rintro Xn w1 ⟨v9, C1, S1, M1, h1, -⟩
    cases h1
theorem zs_callVN (Γ : rt_Γ l s0 a0 G ca) {y : MethodName} {kc : Cond} {ccY : ByteArray} {nLY : Nat} {retY : Option FieldType} {tabY : List ExceptionTableEntry} (K : rt_Kc y kc ccY nLY retY tabY) {index ci tY : Nat} {cls : String} {T : u_T} {N : Nat} {a : Int} {tys : List (Nat × Int)} (C9 : rt_CvN own index cls y) {d1 : Nat} {As : List Value} {Q1 : Nat × Nat → zS → Int → zM → Prop} (hM : zMetS l s0 G ca kc y tY d1 (zv s0 2 a :: As) C S M Q1) (hd1 : d1 + 1 ≤ d) (hnL : nLY ≤ 18) {stk : List Value} (hlen : (parseMethodDescriptor y.desc).map (fun q => q.parameters.length) = some As.length) (hok : zok C) (hW : (st.map fun v => v.category).sum ≤ 12) (hd : decode cc pc = .ok (.invokevirtual index, 3)) (h0 : 0 ≤ a) (hS : S a = some (0, ci, tys)) (hci : vwCl[ci]? = some (cls, T, N)) (hstk : As.reverse ++ zv s0 2 a :: st = stk)
    (kr : ∀ (C1 : Nat × Nat) (S1 : zS) (v : Int) (M1 : zM), Q1 C1 S1 v M1 → rt_Go l s0 G own nm cc nL ret tab d w0 Qr (pc + 3) lv ((zret s0 tY v).toList ++ st) (zw s0 ca C1 S1 M1)) : rt_Go l s0 G own nm cc nL ret tab d w0 Qr pc lv stk (zw s0 ca C S M) := by
  subst hstk
  rw [zv_ref h0]
  refine rt_callVN Γ K C9 hM hd1 hnL hlen ⟨by have := hok.1; show C.1 ≤ _; omega, by have := hok.2; show C.2 ≤ _; omega⟩ hW hd (zw_at h0 hS) hci (by rw [zv_ref h0]) rfl ?_ ?_
  · rintro v w1 ⟨v9, C1, S1, M1, h1, rfl, h3⟩
    cases Sum.inl.inj h1
    exact kr C1 S1 v9 M1 h3
  · rintro Xn w1 ⟨v9, C1, S1, M1, h1, -⟩
    cases h1
end SC9
def ztd_X1_wrongPlace (l : Launch) (s0 : State) (G : va_G) (ca : Nat → ClassId) (d : Nat) (C : Nat × Nat) (S : zS) (w0 : rt_Wd)   (M : zM) (Q : Int → zM → Prop) (X : zM → Prop) : Prop :=
  Q (M 24 7) M
set_option maxRecDepth 100000 in
theorem zd_X1_wrongPlace {l : Launch} {s0 : State} {a0 : Array Value} {G : va_G} {ca : Nat → ClassId} (Γ : rt_Γ l s0 a0 G ca) {d : Nat} {C : Nat × Nat} {S : zS} (hok : zok C)  (hs : zSok S) (hs6 : S 6 = some (0, 8, [(3, 7), (3, 9), (3, 11), (3, 13), (3, 15), (3, 17), (3, 19), (3, 21), (3, 22), (2, 0), (0, 0), (0, 0), (0, 0)])) (hs24 : S 24 = some (0, 1, [(3, 25), (3, 26), (3, 28), (2, 0), (2, 0), (0, 0), (0, 0), (0, 0)]))  {M : zM} {Q : Int → zM → Prop} {X : zM → Prop} (h : ztd_X1_wrongPlace l s0 G ca d C S (zw s0 ca C S M)   M Q X) : zm_X1_wrongPlace l s0 G ca d C S   M Q X := by
  refine z_met (lv := [(0, zv s0 2 24)]) Γ kk_X1_wrongPlace rfl (show (lg_sl [zv s0 2 24]).length ≤ 1 from by simp only [zn_2, show (lg_sl []).length = 0 from rfl]; omega) (show lv_args 0 [zv s0 2 24] = [(0, zv s0 2 24)] from by rw [zl_2]; rfl) ?_
  unfold ztd_X1_wrongPlace at h
  refine z_aload_n dX1_wrongPlace_0 rfl (j := 0) rfl ?_
  refine z_get Γ kf_RX1_54 dX1_wrongPlace_1 (by decide) hs24 rfl (by decide) (v9 := M 24 7) rfl ?_
  exact z_iret dX1_wrongPlace_4 rfl h
def zt_X9_schema (l : Launch) (s0 : State) (G : va_G) (ca : Nat → ClassId) (d : Nat) (C : Nat × Nat) (S : zS) (w0 : rt_Wd)  (v : Int) (M : zM) (Q : Nat × Nat → zS → Int → zM → Prop) : Prop :=
  zIf (w32 v < 0) (False) (zIf (w32 v < 8) (zm_X8_parse l s0 G ca (d - 1) C S 1 M (fun r27 M27 => zIf (w32 r27 = ((-1))) (zm_X1_draft l s0 G ca (d - 1) C S 6 ((zu M27 0 11 r27)) (fun r51 M51 => zm_X1_wrongPlace l s0 G ca (d - 1) C S  M51 (fun r60 M60 => zIf (w32 r51 = 0) ((0 ≤ v ∧ v < 8) ∧ (zs_handOver l s0 G ca (d - 1) C S (M60 5 v) ((zu M60 0 11 r60)) (fun C S r87 M87 => zok C ∧ (zSok S ∧ (zSc S r87 ∧ (zIf (w32 (M87 0 10) = w32 v) (zRw S (M87 0 8) ∧ (Q C S 0 ((zcut ((zu (((zcut ((zcut ((zu M87 5 v r87)) ((M87 0 8) + 1) 4096 0)) ((M87 0 8) + 3) 4096 0))) 0 10 ((-1)))) 1 4096 0)))) (Q C S 0 ((zcut ((zu M87 5 v r87)) 1 4096 0))))))))) (Q C S r51 ((zu M60 0 11 r60)))) (fun _ => False)) (fun _ => False)) (Q C S 1 ((zu M27 0 11 r27)))) (fun _ => False)) (False))
set_option maxRecDepth 100000 in
theorem z_X9_schema {l : Launch} {s0 : State} {a0 : Array Value} {G : va_G} {ca : Nat → ClassId} (Γ : rt_Γ l s0 a0 G ca) {d : Nat} {C : Nat × Nat} {S : zS} (hd : 2 ≤ d) (hok : zok C)  (hs : zSok S) (hs6 : S 6 = some (0, 8, [(3, 7), (3, 9), (3, 11), (3, 13), (3, 15), (3, 17), (3, 19), (3, 21), (3, 22), (2, 0), (0, 0), (0, 0), (0, 0)])) (hs24 : S 24 = some (0, 1, [(3, 25), (3, 26), (3, 28), (2, 0), (2, 0), (0, 0), (0, 0), (0, 0)])) (hs25 : S 25 = some (0, 2, [(2, 0), (2, 0), (0, 0)])) {v : Int} {M : zM} {Q : Nat × Nat → zS → Int → zM → Prop} (h : zt_X9_schema l s0 G ca d C S (zw s0 ca C S M)  v M Q) : zs_X9_schema l s0 G ca d C S  v M Q := by
  refine z_metS (lv := [(0, zv s0 2 0), (1, zv s0 0 v)]) Γ kk_X9_schema rfl (show (lg_sl [zv s0 2 0, zv s0 0 v]).length ≤ 3 from by simp only [zn_0, zn_2, show (lg_sl []).length = 0 from rfl]; omega) (show lv_args 0 [zv s0 2 0, zv s0 0 v] = [(0, zv s0 2 0), (1, zv s0 0 v)] from by rw [zl_2, zl_0]; rfl) ?_
  unfold zt_X9_schema at h
  refine z_iload_n dX9_schema_0 rfl (j := 1) rfl ?_
  refine z_if_lt (tgt := 10) (x' := w32 v) rfl dX9_schema_1 (by decide) (fun c1 => ?_) (fun c1 => ?_)
  · replace h := h.1 c1
    exact h.elim
  · replace h := h.2 c1
    refine z_iload_n dX9_schema_4 rfl (j := 1) rfl ?_
    refine z_bipush dX9_schema_5 (by decide) ?_
    refine z_icmp_lt (tgt := 18) (x' := w32 v) (y' := 8) rfl (by decide) dX9_schema_7 (by decide) (fun c7 => ?_) (fun c7 => ?_)
    · replace h := h.1 c7
      refine z_aload_n dX9_schema_18 rfl (j := 0) rfl ?_
      refine z_aload_n dX9_schema_19 rfl (j := 0) rfl ?_
      refine z_getc Γ kf_RX9_30 dX9_schema_20 (by decide) (hs 0 _ rfl) rfl ?_
      refine z_aload_n dX9_schema_23 rfl (j := 0) rfl ?_
      refine z_getc Γ kf_RX9_14 dX9_schema_24 (by decide) (hs 0 _ rfl) rfl ?_
      refine zc_callV Γ kk_X8_parse kc_RX9_98 (As := [zv s0 2 1]) h (by omega) (by decide) (show (parseMethodDescriptor yX8_parse.desc).map (fun q => q.parameters.length) = some 1 by decide +kernel) hok (by simp only [List.map, zv_cat0, zv_cat1, zv_cat2, List.sum_cons, List.sum_nil]; decide) dX9_schema_27 (by decide) hs6 rfl rfl (fun _ _ _ _ h9 => h9.elim) ?_
      clear h
      intro r27 M27 h
      show rt_Go _ _ _ _ _ _ _ _ _ _ _ _ 30 [(0, zv s0 2 0), (1, zv s0 0 v)] [zv s0 0 r27, zv s0 2 0] (zw s0 ca C S M27)
      refine z_put0 Γ kp_RX9_76 dX9_schema_30 (by decide) (hs 0 _ rfl) rfl (k9 := 11) rfl ?_
      refine z_aload_n dX9_schema_33 rfl (j := 0) rfl ?_
      refine z_get Γ kf_RX9_76 dX9_schema_34 (by decide) (hs 0 _ rfl) rfl (by decide) (v9 := r27) (zu_s _ _ _ _) ?_
      refine z_iconst dX9_schema_37 ?_
      refine z_icmp_eq (tgt := 43) (x' := w32 r27) (y' := ((-1))) rfl (by decide) dX9_schema_38 (by decide) (fun c38 => ?_) (fun c38 => ?_)
      · replace h := h.1 c38
        refine z_aload_n dX9_schema_43 rfl (j := 0) rfl ?_
        refine z_getc Γ kf_RX9_37 dX9_schema_44 (by decide) (hs 0 _ rfl) rfl ?_
        refine z_aload_n dX9_schema_47 rfl (j := 0) rfl ?_
        refine z_getc Γ kf_RX9_30 dX9_schema_48 (by decide) (hs 0 _ rfl) rfl ?_
        refine zc_callV Γ kk_X1_draft kc_RX9_102 (As := [zv s0 2 6]) h (by omega) (by decide) (show (parseMethodDescriptor yX1_draft.desc).map (fun q => q.parameters.length) = some 1 by decide +kernel) hok (Nat.zero_le _) dX9_schema_51 (by decide) hs24 rfl rfl (fun _ _ _ _ h9 => h9.elim) ?_
        clear h
        intro r51 M51 h
        show rt_Go _ _ _ _ _ _ _ _ _ _ _ _ 54 [(0, zv s0 2 0), (1, zv s0 0 v)] [zv s0 0 r51] (zw s0 ca C S M51)
        refine z_istore_n (i := 2) (lv' := [(2, zv s0 0 r51), (0, zv s0 2 0), (1, zv s0 0 v)]) dX9_schema_54 rfl (by decide) (by simp [zv_cat0, zv_cat1, zv_cat2, zv_cats]) ?_
        refine z_aload_n dX9_schema_55 rfl (j := 1) rfl ?_
        refine z_aload_n dX9_schema_56 rfl (j := 1) rfl ?_
        refine z_getc Γ kf_RX9_37 dX9_schema_57 (by decide) (hs 0 _ rfl) rfl ?_
        refine zc_callV Γ kk_X1_wrongPlace kc_RX9_106 (As := []) h (by omega) (by decide) (show (parseMethodDescriptor yX1_wrongPlace.desc).map (fun q => q.parameters.length) = some 0 by decide +kernel) hok (by simp only [List.map, zv_cat0, zv_cat1, zv_cat2, List.sum_cons, List.sum_nil]; decide) dX9_schema_60 (by decide) hs24 rfl rfl (fun _ _ _ _ h9 => h9.elim) ?_
        clear h
        intro r60 M60 h
        show rt_Go _ _ _ _ _ _ _ _ _ _ _ _ 63 [(2, zv s0 0 r51), (0, zv s0 2 0), (1, zv s0 0 v)] [zv s0 0 r60, zv s0 2 0] (zw s0 ca C S M60)
        refine z_put0 Γ kp_RX9_76 dX9_schema_63 (by decide) (hs 0 _ rfl) rfl (k9 := 11) rfl ?_
        refine z_iload_n dX9_schema_66 rfl (j := 0) rfl ?_
        refine z_if_eq (tgt := 72) (x' := w32 r51) rfl dX9_schema_67 (by decide) (fun c67 => ?_) (fun c67 => ?_)
        · replace h := h.1 c67
          refine z_aload_n dX9_schema_72 rfl (j := 1) rfl ?_
          refine z_getc Γ kf_RX9_23 dX9_schema_73 (by decide) (hs 0 _ rfl) rfl ?_
          refine z_iload_n dX9_schema_76 rfl (j := 2) rfl ?_
          refine z_aload_n dX9_schema_77 rfl (j := 1) rfl ?_
          refine z_getc Γ kf_RX9_37 dX9_schema_78 (by decide) (hs 0 _ rfl) rfl ?_
          refine z_aload_n dX9_schema_81 rfl (j := 1) rfl ?_
          refine z_getc Γ kf_RX9_23 dX9_schema_82 (by decide) (hs 0 _ rfl) rfl ?_
          refine z_iload_n dX9_schema_85 rfl (j := 2) rfl ?_
          obtain ⟨hi86, h⟩ := h
          refine z_aald Γ dX9_schema_86 (by decide) (hs 5 _ rfl) (by decide) hi86 (v9 := M60 5 v) ((zu_a (by decide)).trans rfl) ?_
          refine zs_callV Γ kk_X1_handOver kc_RX9_109 (As := [zv s0 2 (M60 5 v)]) h (by omega) (by decide) (show (parseMethodDescriptor yX1_handOver.desc).map (fun q => q.parameters.length) = some 1 by decide +kernel) hok (by simp only [List.map, zv_cat0, zv_cat1, zv_cat2, List.sum_cons, List.sum_nil]; decide) dX9_schema_87 (by decide) hs24 rfl rfl ?_
          clear h
          intro C S r87 M87 h
          obtain ⟨hok, hs, h⟩ := h
          show rt_Go _ _ _ _ _ _ _ _ _ _ _ _ 90 [(2, zv s0 0 r51), (0, zv s0 2 0), (1, zv s0 0 v)] [zv s0 2 r87, zv s0 0 v, zv s0 2 5] (zw s0 ca C S M87)
          obtain ⟨hk0, h⟩ := h
          refine z_aast Γ dX9_schema_90 (by decide) (hs 5 _ rfl) (by decide) hi86 hk0.1 hk0.2.1 ?_
          refine z_aload_n dX9_schema_91 rfl (j := 1) rfl ?_
          refine z_get Γ kf_RX9_72 dX9_schema_92 (by decide) (hs 0 _ rfl) rfl (by decide) (v9 := M87 0 10) ((zu_a (by decide)).trans rfl) ?_
          refine z_iload_n dX9_schema_95 rfl (j := 2) rfl ?_
          refine z_icmp_ne (tgt := 111) (x' := w32 (M87 0 10)) (y' := w32 v) rfl rfl dX9_schema_96 (by decide) (fun c96 => ?_) (fun c96 => ?_)
          · replace h := h.2 c96
            refine z_aload_n dX9_schema_111 rfl (j := 1) rfl ?_
            refine z_getc Γ kf_RX9_14 dX9_schema_112 (by decide) (hs 0 _ rfl) rfl ?_
            refine z_iconst dX9_schema_115 ?_
            refine zc_callV Γ kk_X0_cut kc_RX9_92 (As := [zv s0 0 0]) (k_X0_cut (d := d - 1) Γ hok (⟨by decide, by decide, by decide, hs 1 _ rfl, hs 2 _ rfl⟩ : zCe S 1 2 4096) (M := ((zu M87 5 v r87))) (Q := fun v9 M9 => v9 = 0 ∧ M9 = (zcut ((zu M87 5 v r87)) 1 4096 0)) (X := fun _ => False) (show _ ∧ _ from ⟨rfl, rfl⟩)) (by omega) (by decide) (show (parseMethodDescriptor yX0_cut.desc).map (fun q => q.parameters.length) = some 1 by decide +kernel) hok (Nat.zero_le _) dX9_schema_116 (⟨by decide, by decide, by decide, hs 1 _ rfl, hs 2 _ rfl⟩ : zCe S 1 2 4096).1 (⟨by decide, by decide, by decide, hs 1 _ rfl, hs 2 _ rfl⟩ : zCe S 1 2 4096).2.2.2.1 rfl rfl (fun _ _ _ _ h9 => h9.elim) ?_
            rintro v9 M9 ⟨e9, e8⟩
            rw [e9, e8]
            clear e9 e8 v9 M9
            show rt_Go _ _ _ _ _ _ _ _ _ _ _ _ 119 [(2, zv s0 0 r51), (0, zv s0 2 0), (1, zv s0 0 v)] [] (zw s0 ca C S ((zcut ((zu M87 5 v r87)) 1 4096 0)))
            refine z_iconst dX9_schema_119 ?_
            exact z_iretS dX9_schema_120 rfl h
          · replace h := h.1 c96
            refine z_aload_n dX9_schema_99 rfl (j := 1) rfl ?_
            refine z_get Γ kf_RX9_65 dX9_schema_100 (by decide) (hs 0 _ rfl) rfl (by decide) (v9 := M87 0 8) ((zu_a (by decide)).trans rfl) ?_
            obtain ⟨hk1, h⟩ := h
            refine zc_callV Γ kk_X5_clear kc_RX9_113 (As := []) (z_X5_clear (d := d - 1) Γ (by omega) hok hk1 (M := ((zu M87 5 v r87))) (Q := fun v9 M9 => v9 = 0 ∧ M9 = ((zcut ((zcut ((zu M87 5 v r87)) ((M87 0 8) + 1) 4096 0)) ((M87 0 8) + 3) 4096 0))) (X := fun _ => False) (show _ ∧ _ from ⟨rfl, rfl⟩)) (by omega) (by decide) (show (parseMethodDescriptor yX5_clear.desc).map (fun q => q.parameters.length) = some 0 by decide +kernel) hok (Nat.zero_le _) dX9_schema_103 hk1.1 hk1.2.1 rfl rfl (fun _ _ _ _ h9 => h9.elim) ?_
            rintro v9 M9 ⟨e9, e8⟩
            rw [e9, e8]
            clear e9 e8 v9 M9
            show rt_Go _ _ _ _ _ _ _ _ _ _ _ _ 106 [(2, zv s0 0 r51), (0, zv s0 2 0), (1, zv s0 0 v)] [] (zw s0 ca C S (((zcut ((zcut ((zu M87 5 v r87)) ((M87 0 8) + 1) 4096 0)) ((M87 0 8) + 3) 4096 0))))
            refine z_aload_n dX9_schema_106 rfl (j := 1) rfl ?_
            refine z_iconst dX9_schema_107 ?_
            refine z_put0 Γ kp_RX9_72 dX9_schema_108 (by decide) (hs 0 _ rfl) rfl (k9 := 10) rfl ?_
            refine z_aload_n dX9_schema_111 rfl (j := 1) rfl ?_
            refine z_getc Γ kf_RX9_14 dX9_schema_112 (by decide) (hs 0 _ rfl) rfl ?_
            refine z_iconst dX9_schema_115 ?_
            refine zc_callV Γ kk_X0_cut kc_RX9_92 (As := [zv s0 0 0]) (k_X0_cut (d := d - 1) Γ hok (⟨by decide, by decide, by decide, hs 1 _ rfl, hs 2 _ rfl⟩ : zCe S 1 2 4096) (M := ((zu (((zcut ((zcut ((zu M87 5 v r87)) ((M87 0 8) + 1) 4096 0)) ((M87 0 8) + 3) 4096 0))) 0 10 ((-1))))) (Q := fun v9 M9 => v9 = 0 ∧ M9 = (zcut ((zu (((zcut ((zcut ((zu M87 5 v r87)) ((M87 0 8) + 1) 4096 0)) ((M87 0 8) + 3) 4096 0))) 0 10 ((-1)))) 1 4096 0)) (X := fun _ => False) (show _ ∧ _ from ⟨rfl, rfl⟩)) (by omega) (by decide) (show (parseMethodDescriptor yX0_cut.desc).map (fun q => q.parameters.length) = some 1 by decide +kernel) hok (Nat.zero_le _) dX9_schema_116 (⟨by decide, by decide, by decide, hs 1 _ rfl, hs 2 _ rfl⟩ : zCe S 1 2 4096).1 (⟨by decide, by decide, by decide, hs 1 _ rfl, hs 2 _ rfl⟩ : zCe S 1 2 4096).2.2.2.1 rfl rfl (fun _ _ _ _ h9 => h9.elim) ?_
            rintro v9 M9 ⟨e9, e8⟩
            rw [e9, e8]
            clear e9 e8 v9 M9
            show rt_Go _ _ _ _ _ _ _ _ _ _ _ _ 119 [(2, zv s0 0 r51), (0, zv s0 2 0), (1, zv s0 0 v)] [] (zw s0 ca C S ((zcut ((zu (((zcut ((zcut ((zu M87 5 v r87)) ((M87 0 8) + 1) 4096 0)) ((M87 0 8) + 3) 4096 0))) 0 10 ((-1)))) 1 4096 0)))
            refine z_iconst dX9_schema_119 ?_
            exact z_iretS dX9_schema_120 rfl h
        · replace h := h.2 c67
          refine z_iload_n dX9_schema_70 rfl (j := 0) rfl ?_
          exact z_iretS dX9_schema_71 rfl h
      · replace h := h.2 c38
        refine z_iconst dX9_schema_41 ?_
        exact z_iretS dX9_schema_42 rfl h
    · replace h := h.2 c7
      exact h.elim
