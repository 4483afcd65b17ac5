/-! ===== the reference's upper methods: contracts whose counts may grow ===== -/
/-- comes back; what is made meanwhile is Q's to say -/
def zQu (s0 : State) (ca : Nat → ClassId) (t : Nat) (S : zS) (Q : Nat × Nat → Int → zM → Prop) : rt_Res → rt_Wd → Prop := fun r w => ∃ (v : Int) (C1 : Nat × Nat) (M : zM), r = .inl (zret s0 t v) ∧ w = zw s0 ca C1 S M ∧ Q C1 v M
def zMetU (l : Launch) (s0 : State) (G : va_G) (ca : Nat → ClassId) (k : Cond) (y : MethodName) (t d : Nat) (av : List Value) (C : Nat × Nat) (S : zS) (M : zM) (Q : Nat × Nat → Int → zM → Prop) : Prop :=
  rt_Met l s0 G k y d av (zw s0 ca C S M) (zQu s0 ca t S Q)
section KC
variable {l : Launch} {s0 : State} {a0 : Array Value} {G : va_G} {ca : Nat → ClassId} {own nm : String} {cc : ByteArray} {nL : Nat} {ret : Option FieldType} {tab : List ExceptionTableEntry} {d : Nat} {w0 : rt_Wd} {pc : Nat} {lv lv' : List (Nat × Value)} {st : List Value} {C : Nat × Nat} {S : zS} {M : zM} {Q : Nat × Nat → Int → zM → Prop} {t : Nat} {Qr : rt_Res → rt_Wd → Prop}
theorem z_metU (Γ : rt_Γ l s0 a0 G ca) {y : MethodName} {kc : Cond} {desc : String} (K : rt_Kc y kc cc nL ret tab) (hy : y = ⟨own, nm, desc⟩) {av : List Value} (hlen : (lg_sl av).length ≤ nL) (hlv : lv_args 0 av = lv) (body : rt_Go l s0 G own nm cc nL ret tab d (zw s0 ca C S M) (zQu s0 ca t S Q) 0 lv [] (zw s0 ca C S M)) : zMetU l s0 G ca kc y t d av C S M Q := rt_met Γ K hy hlen hlv body
theorem z_iretU {v : Int} (hd : decode cc pc = .ok (.ireturn, 1)) (hr : ret = some .int) (hQ : Q C v M) : rt_Go l s0 G own nm cc nL ret tab d w0 (zQu s0 ca 0 S Q) pc lv [zv s0 0 v] (zw s0 ca C S M) := rt_iret hd hr ⟨v, C, M, rfl, rfl, hQ⟩
theorem z_zretU {v : Int} (hd : decode cc pc = .ok (.ireturn, 1)) (hr : ret = some .boolean) (hv : v = 0 ∨ v = 1) (hQ : Q C v M) : rt_Go l s0 G own nm cc nL ret tab d w0 (zQu s0 ca 0 S Q) pc lv [zv s0 0 v] (zw s0 ca C S M) := rt_zret hd hr (by rcases hv with rfl | rfl <;> rfl) ⟨v, C, M, rfl, rfl, hQ⟩
theorem z_vretU (hd : decode cc pc = .ok (.return_, 1)) (hr : ret = none) (hQ : Q C 0 M) : rt_Go l s0 G own nm cc nL ret tab d w0 (zQu s0 ca 9 S Q) pc lv [] (zw s0 ca C S M) := rt_vret hd hr ⟨0, C, M, rfl, rfl, hQ⟩
theorem zu_callV (Γ : rt_Γ l s0 a0 G ca) {y : MethodName} {kc : Cond} {ccY : ByteArray} {nLY : Nat} {retY : Option FieldType} {tabY : List ExceptionTableEntry} (K : rt_Kc y kc ccY nLY retY tabY) {index ci tY : Nat} {cls : String} {T : u_T} {N : Nat} {a : Int} {tys : List (Nat × Int)} (C9 : rt_Cv own index cls y) {d1 : Nat} {As : List Value} {Q1 : Nat × Nat → Int → zM → Prop} (hM : zMetU l s0 G ca kc y tY d1 (zv s0 2 a :: As) C S M Q1) (hd1 : d1 + 1 ≤ d) (hnL : nLY ≤ 18) {stk : List Value} (hlen : (parseMethodDescriptor y.desc).map (fun q => q.parameters.length) = some As.length) (hok : zok C) (hW : (st.map fun v => v.category).sum ≤ 12) (hd : decode cc pc = .ok (.invokevirtual index, 3)) (h0 : 0 ≤ a) (hS : S a = some (0, ci, tys)) (hci : vwCl[ci]? = some (cls, T, N)) (hstk : As.reverse ++ zv s0 2 a :: st = stk)
    (kr : ∀ (C1 : Nat × Nat) (v : Int) (M1 : zM), Q1 C1 v M1 → rt_Go l s0 G own nm cc nL ret tab d w0 Qr (pc + 3) lv ((zret s0 tY v).toList ++ st) (zw s0 ca C1 S M1)) : rt_Go l s0 G own nm cc nL ret tab d w0 Qr pc lv stk (zw s0 ca C S M) := by
  subst hstk
  rw [zv_ref h0]
  refine rt_callV Γ K C9 hM hd1 hnL hlen ⟨by have := hok.1; show C.1 ≤ _; omega, by have := hok.2; show C.2 ≤ _; omega⟩ hW hd (zw_at h0 hS) hci (by rw [zv_ref h0]) rfl ?_ ?_
  · rintro v w1 ⟨v9, C1, M1, h1, rfl, h3⟩
    cases Sum.inl.inj h1
    exact kr C1 v9 M1 h3
  · rintro Xn w1 ⟨v9, C1, M1, h1, -⟩
    cases h1
theorem zu_callVN (Γ : rt_Γ l s0 a0 G ca) {y : MethodName} {kc : Cond} {ccY : ByteArray} {nLY : Nat} {retY : Option FieldType} {tabY : List ExceptionTableEntry} (K : rt_Kc y kc ccY nLY retY tabY) {index ci tY : Nat} {cls : String} {T : u_T} {N : Nat} {a : Int} {tys : List (Nat × Int)} (C9 : rt_CvN own index cls y) {d1 : Nat} {As : List Value} {Q1 : Nat × Nat → Int → zM → Prop} (hM : zMetU l s0 G ca kc y tY d1 (zv s0 2 a :: As) C S M Q1) (hd1 : d1 + 1 ≤ d) (hnL : nLY ≤ 18) {stk : List Value} (hlen : (parseMethodDescriptor y.desc).map (fun q => q.parameters.length) = some As.length) (hok : zok C) (hW : (st.map fun v => v.category).sum ≤ 12) (hd : decode cc pc = .ok (.invokevirtual index, 3)) (h0 : 0 ≤ a) (hS : S a = some (0, ci, tys)) (hci : vwCl[ci]? = some (cls, T, N)) (hstk : As.reverse ++ zv s0 2 a :: st = stk)
    (kr : ∀ (C1 : Nat × Nat) (v : Int) (M1 : zM), Q1 C1 v M1 → rt_Go l s0 G own nm cc nL ret tab d w0 Qr (pc + 3) lv ((zret s0 tY v).toList ++ st) (zw s0 ca C1 S M1)) : rt_Go l s0 G own nm cc nL ret tab d w0 Qr pc lv stk (zw s0 ca C S M) := by
  subst hstk
  rw [zv_ref h0]
  refine rt_callVN Γ K C9 hM hd1 hnL hlen ⟨by have := hok.1; show C.1 ≤ _; omega, by have := hok.2; show C.2 ≤ _; omega⟩ hW hd (zw_at h0 hS) hci (by rw [zv_ref h0]) rfl ?_ ?_
  · rintro v w1 ⟨v9, C1, M1, h1, rfl, h3⟩
    cases Sum.inl.inj h1
    exact kr C1 v9 M1 h3
  · rintro Xn w1 ⟨v9, C1, M1, h1, -⟩
    cases h1
theorem zMetC.u {kc : Cond} {y : MethodName} {B : Nat} {av : List Value} {Q0 : Int → zM → Prop} (h : zMetC l s0 G ca kc y t d B av C S M Q0) (k : ∀ (C1 : Nat × Nat) (v : Int) (M1 : zM), C.1 ≤ C1.1 → C1.1 ≤ C.1 + B → C.2 ≤ C1.2 → C1.2 ≤ C.2 + 6 * B → Q0 v M1 → Q C1 v M1) : zMetU l s0 G ca kc y t d av C S M Q := h.mono (fun r w1 ⟨v, n, o, M1, h1, h2, h3, h4, h5, h6, h7⟩ => ⟨v, (n, o), M1, h1, h6, k (n, o) v M1 h2 h3 h4 h5 h7⟩)
theorem zMetE.u {kc : Cond} {y : MethodName} {B : Nat} {av : List Value} {Q0 E : Int → zM → Prop} (h : zMetE l s0 G ca kc y t d B av C S M Q0 E) (kQ : ∀ (v : Int) (M1 : zM), Q0 v M1 → Q C v M1) (kE : ∀ (C1 : Nat × Nat) (v : Int) (M1 : zM), C.1 ≤ C1.1 → C1.1 ≤ C.1 + B → C.2 ≤ C1.2 → C1.2 ≤ C.2 + 6 * B → E v M1 → Q C1 v M1) : zMetU l s0 G ca kc y t d av C S M Q := h.mono (fun r w1 ⟨v, n, o, M1, h1, h6, h9⟩ => by
  rcases h9 with ⟨rfl, rfl, h7⟩ | ⟨h2, h3, h4, h5, h7⟩
  · exact ⟨v, C, M1, h1, h6, kQ v M1 h7⟩
  · exact ⟨v, (n, o), M1, h1, h6, kE (n, o) v M1 h2 h3 h4 h5 h7⟩)
end KC
abbrev zu_X10_read (l : Launch) (s0 : State) (G : va_G) (ca : Nat → ClassId) (d : Nat) (C : Nat × Nat) (S : zS) (t : Int) (o : Int) (f : Int) (n : Int) (M : zM) (Q : Nat × Nat → Int → zM → Prop) : Prop := zMetU l s0 G ca (.codeWith yX10_read cX10_read 5 (Option.some FieldType.int) [(130, 134, 137, 85)]) yX10_read 0 d [zv s0 2 t, zv s0 2 o, zv s0 0 f, zv s0 0 n] C S M Q
abbrev zu_X11_lookAtRows (l : Launch) (s0 : State) (G : va_G) (ca : Nat → ClassId) (d : Nat) (C : Nat × Nat) (S : zS) (t : Int) (p : Int) (M : zM) (Q : Nat × Nat → Int → zM → Prop) : Prop := zMetU l s0 G ca (.codeWith yX11_lookAtRows cX11_lookAtRows 5 (Option.some FieldType.int) [(27, 76, 86, 93), (77, 83, 86, 93)]) yX11_lookAtRows 0 d [zv s0 2 84, zv s0 2 t, zv s0 0 p] C S M Q
abbrev zu_X11_tellRow (l : Launch) (s0 : State) (G : va_G) (ca : Nat → ClassId) (d : Nat) (C : Nat × Nat) (S : zS) (p : Int) (M : zM) (Q : Nat × Nat → Int → zM → Prop) : Prop := zMetU l s0 G ca (.codeWith yX11_tellRow cX11_tellRow 3 (Option.some FieldType.int) [(10, 36, 39, 93)]) yX11_tellRow 0 d [zv s0 2 84, zv s0 0 p] C S M Q
abbrev zu_X11_read (l : Launch) (s0 : State) (G : va_G) (ca : Nat → ClassId) (d : Nat) (C : Nat × Nat) (S : zS)  (a1 : Int) (a2 : Int) (M : zM) (Q : Nat × Nat → Int → zM → Prop) : Prop := zMetU l s0 G ca (.code yX11_read cX11_read 3 (Option.none : Option FieldType)) yX11_read 9 d [zv s0 2 84, zv s0 2 a1, zv s0 0 a2] C S M Q
abbrev zu_X11_schema (l : Launch) (s0 : State) (G : va_G) (ca : Nat → ClassId) (d : Nat) (C : Nat × Nat) (S : zS)  (a1 : Int) (M : zM) (Q : Nat × Nat → Int → zM → Prop) : Prop := zMetU l s0 G ca (.code yX11_schema cX11_schema 4 (Option.some FieldType.int)) yX11_schema 0 d [zv s0 2 84, zv s0 0 a1] C S M Q
abbrev zu_X11_load (l : Launch) (s0 : State) (G : va_G) (ca : Nat → ClassId) (d : Nat) (C : Nat × Nat) (S : zS)  (a1 : Int) (M : zM) (Q : Nat × Nat → Int → zM → Prop) : Prop := zMetU l s0 G ca (.code yX11_load cX11_load 4 (Option.some FieldType.int)) yX11_load 0 d [zv s0 2 84, zv s0 0 a1] C S M Q
abbrev zu_X11_read_ (l : Launch) (s0 : State) (G : va_G) (ca : Nat → ClassId) (d : Nat) (C : Nat × Nat) (S : zS)  (a1 : Int) (a2 : Int) (M : zM) (Q : Nat × Nat → Int → zM → Prop) : Prop := zMetU l s0 G ca (.code yX11_read_ cX11_read_ 6 (Option.some FieldType.int)) yX11_read_ 0 d [zv s0 2 84, zv s0 0 a1, zv s0 0 a2] C S M Q
abbrev zu_X11_all (l : Launch) (s0 : State) (G : va_G) (ca : Nat → ClassId) (d : Nat) (C : Nat × Nat) (S : zS)  (a1 : Int) (M : zM) (Q : Nat × Nat → Int → zM → Prop) : Prop := zMetU l s0 G ca (.code yX11_all cX11_all 4 (Option.some FieldType.int)) yX11_all 0 d [zv s0 2 84, zv s0 0 a1] C S M Q
abbrev zu_X11_fits (l : Launch) (s0 : State) (G : va_G) (ca : Nat → ClassId) (d : Nat) (C : Nat × Nat) (S : zS)  (a1 : Int) (a2 : Int) (M : zM) (Q : Nat × Nat → Int → zM → Prop) : Prop := zMetU l s0 G ca (.code yX11_fits cX11_fits 3 (Option.some FieldType.boolean)) yX11_fits 0 d [zv s0 2 84, zv s0 0 a1, zv s0 0 a2] C S M Q
def zt_X11_read (l : Launch) (s0 : State) (G : va_G) (ca : Nat → ClassId) (d : Nat) (C : Nat × Nat) (S : zS) (w0 : rt_Wd)  (p : Int) (i : Int) (M : zM) (Q : Nat × Nat → Int → zM → Prop) : Prop :=
  (0 ≤ i ∧ i < 8) ∧ (zTx S p ∧ (zu_X10_read l s0 G ca (d - 1) C S p 130 (4096 * i) (M 131 i) M (fun C r16 M16 => zok C ∧ (Q C 0 M16))))
set_option maxRecDepth 100000 in
theorem z_X11_read {l : Launch} {s0 : State} {a0 : Array Value} {G : va_G} {ca : Nat → ClassId} (Γ : rt_Γ l s0 a0 G ca) {d : Nat} {C : Nat × Nat} {S : zS} (hd : 1 ≤ d) (hok : zok C)  (hs : zSok S) {p : Int} {i : Int} {M : zM} {Q : Nat × Nat → Int → zM → Prop} (h : zt_X11_read l s0 G ca d C S (zw s0 ca C S M)  p i M Q) : zu_X11_read l s0 G ca d C S  p i M Q := by
  refine z_metU (lv := [(0, zv s0 2 84), (1, zv s0 2 p), (2, zv s0 0 i)]) Γ kk_X11_read rfl (show (lg_sl [zv s0 2 84, zv s0 2 p, zv s0 0 i]).length ≤ 3 from by simp only [zn_0, zn_2, show (lg_sl []).length = 0 from rfl]; omega) (show lv_args 0 [zv s0 2 84, zv s0 2 p, zv s0 0 i] = [(0, zv s0 2 84), (1, zv s0 2 p), (2, zv s0 0 i)] from by rw [zl_2, zl_2, zl_0]; rfl) ?_
  unfold zt_X11_read at h
  refine z_aload_n dX11_read_0 rfl (j := 1) rfl ?_
  refine z_aload_n dX11_read_1 rfl (j := 0) rfl ?_
  refine z_getc Γ kf_RX11_28 dX11_read_2 (by decide) (hs 84 _ rfl) rfl ?_
  refine z_sipush dX11_read_5 (by decide) ?_
  refine z_iload_n dX11_read_8 rfl (j := 2) rfl ?_
  refine z_imul dX11_read_9 ?_
  refine z_aload_n dX11_read_10 rfl (j := 0) rfl ?_
  refine z_getc Γ kf_RX11_31 dX11_read_11 (by decide) (hs 84 _ rfl) rfl ?_
  refine z_iload_n dX11_read_14 rfl (j := 2) rfl ?_
  obtain ⟨hi15, h⟩ := h
  refine z_iald Γ dX11_read_15 (by decide) (hs 131 _ rfl) (by decide) hi15 (v9 := M 131 i) rfl ?_
  obtain ⟨hk0, h⟩ := h
  refine zu_callV Γ kk_X10_read kc_RX11_72 (As := [zv s0 2 130, zv s0 0 (4096 * i), zv s0 0 (M 131 i)]) h (by omega) (by decide) (show (parseMethodDescriptor yX10_read.desc).map (fun q => q.parameters.length) = some 3 by decide +kernel) hok (Nat.zero_le _) dX11_read_16 hk0.1 hk0.2.1 rfl rfl ?_
  clear h
  intro C r16 M16 h
  obtain ⟨hok, h⟩ := h
  show rt_Go _ _ _ _ _ _ _ _ _ _ _ _ 19 [(0, zv s0 2 84), (1, zv s0 2 p), (2, zv s0 0 i)] [zv s0 0 r16] (zw s0 ca C S M16)
  refine z_pop0 dX11_read_19 ?_
  exact z_vretU dX11_read_20 rfl h
abbrev zg_X11_schema_13 (l : Launch) (s0 : State) (G : va_G) (ca : Nat → ClassId) (d : Nat) (C : Nat × Nat) (S : zS) (w0 : rt_Wd)  (v1 : Int) (k0 : Int) (M : zM) (Q : Nat × Nat → Int → zM → Prop) : Prop := rt_Go l s0 G RX11 "schema" cX11_schema 4 (Option.some FieldType.int) [] d w0 (zQu s0 ca 0 S Q) 13 [(0, zv s0 2 84), (1, zv s0 0 v1)] [zv s0 0 k0, zv s0 2 84] (zw s0 ca C S M)
abbrev zg_X11_schema_55 (l : Launch) (s0 : State) (G : va_G) (ca : Nat → ClassId) (d : Nat) (C : Nat × Nat) (S : zS) (w0 : rt_Wd)  (v1 : Int) (v2 : Int) (k0 : Int) (M : zM) (Q : Nat × Nat → Int → zM → Prop) : Prop := rt_Go l s0 G RX11 "schema" cX11_schema 4 (Option.some FieldType.int) [] d w0 (zQu s0 ca 0 S Q) 55 [(0, zv s0 2 84), (1, zv s0 0 v1), (2, zv s0 0 v2)] [zv s0 0 k0, zv s0 2 84] (zw s0 ca C S M)
abbrev zg_X11_schema_66 (l : Launch) (s0 : State) (G : va_G) (ca : Nat → ClassId) (d : Nat) (C : Nat × Nat) (S : zS) (w0 : rt_Wd)  (v1 : Int) (v3 : Int)  (M : zM) (Q : Nat × Nat → Int → zM → Prop) : Prop := rt_Go l s0 G RX11 "schema" cX11_schema 4 (Option.some FieldType.int) [] d w0 (zQu s0 ca 0 S Q) 66 [(0, zv s0 2 84), (1, zv s0 0 v1), (3, zv s0 0 v3)] [] (zw s0 ca C S M)
def zt_X11_schema_55 (l : Launch) (s0 : State) (G : va_G) (ca : Nat → ClassId) (d : Nat) (C : Nat × Nat) (S : zS) (w0 : rt_Wd)  (v1 : Int) (v2 : Int) (k0 : Int) (M : zM) (Q : Nat × Nat → Int → zM → Prop) : Prop :=
  zIf (w32 v2 ≤ 0) (zg_X11_schema_66 l s0 G ca d C S w0  v1 0 ((zu M 84 3 k0)) Q) (Q C v2 ((zu M 84 3 k0)))
set_option maxRecDepth 100000 in
theorem zs_X11_schema_55 {l : Launch} {s0 : State} {a0 : Array Value} {G : va_G} {ca : Nat → ClassId} (Γ : rt_Γ l s0 a0 G ca) {d : Nat} {C : Nat × Nat} {S : zS} (hd : 1 ≤ d) (hok : zok C)  (hs : zSok S) {w0 : rt_Wd} {v1 : Int} {v2 : Int} {k0 : Int}  {M : zM} {Q : Nat × Nat → Int → zM → Prop} (h : zt_X11_schema_55 l s0 G ca d C S w0  v1 v2 k0 M Q) : zg_X11_schema_55 l s0 G ca d C S w0  v1 v2 k0 M Q := by
  unfold zt_X11_schema_55 at h
  refine z_put0 Γ kp_RX11_13 dX11_schema_55 (by decide) (hs 84 _ rfl) rfl (k9 := 3) rfl ?_
  refine z_iload_n dX11_schema_58 rfl (j := 2) rfl ?_
  refine z_if_le (tgt := 64) (x' := w32 v2) rfl dX11_schema_59 (by decide) (fun c59 => ?_) (fun c59 => ?_)
  · replace h := h.1 c59
    refine z_iconst dX11_schema_64 ?_
    refine z_istore_n (i := 3) (lv' := [(3, zv s0 0 0), (0, zv s0 2 84), (1, zv s0 0 v1), (2, zv s0 0 v2)]) dX11_schema_65 rfl (by decide) (by simp [zv_cat0, zv_cat1, zv_cat2, zv_cats]) ?_
    exact rt_lfew [1, 2, 0] rfl h
  · replace h := h.2 c59
    refine z_iload_n dX11_schema_62 rfl (j := 2) rfl ?_
    exact z_iretU dX11_schema_63 rfl h
def zt_X11_schema_13 (l : Launch) (s0 : State) (G : va_G) (ca : Nat → ClassId) (d : Nat) (C : Nat × Nat) (S : zS) (w0 : rt_Wd)  (v1 : Int) (k0 : Int) (M : zM) (Q : Nat × Nat → Int → zM → Prop) : Prop :=
  zm_X11_refused l s0 G ca (d - 1) C S k0 0 M (fun r14 M14 => zIf (w32 r14 = 0) (zu_X10_read l s0 G ca (d - 1) C S 86 85 0 (M14 84 2) M14 (fun C r35 M35 => zok C ∧ (zIf (w32 r35 ≤ 0) (zt_X11_schema_55 l s0 G ca d C S w0  v1 r35 ((-1)) M35 Q) (zt_X11_schema_55 l s0 G ca d C S w0  v1 r35 (M35 86 5) M35 Q)))) (Q C 0 M14)) (fun _ => False)
set_option maxRecDepth 100000 in
theorem zs_X11_schema_13 {l : Launch} {s0 : State} {a0 : Array Value} {G : va_G} {ca : Nat → ClassId} (Γ : rt_Γ l s0 a0 G ca) {d : Nat} {C : Nat × Nat} {S : zS} (hd : 1 ≤ d) (hok : zok C)  (hs : zSok S) {w0 : rt_Wd} {v1 : Int} {k0 : Int}  {M : zM} {Q : Nat × Nat → Int → zM → Prop} (h : zt_X11_schema_13 l s0 G ca d C S w0  v1 k0 M Q) : zg_X11_schema_13 l s0 G ca d C S w0  v1 k0 M Q := by
  unfold zt_X11_schema_13 at h
  refine z_iconst dX11_schema_13 ?_
  refine zc_callV Γ kk_X11_refused kc_RX11_60 (As := [zv s0 0 k0, zv s0 0 0]) h (by omega) (by decide) (show (parseMethodDescriptor yX11_refused.desc).map (fun q => q.parameters.length) = some 2 by decide +kernel) hok (Nat.zero_le _) dX11_schema_14 (by decide) (hs 84 _ rfl) rfl rfl (fun _ _ _ _ h9 => h9.elim) ?_
  clear h
  intro r14 M14 h
  show rt_Go _ _ _ _ _ _ _ _ _ _ _ _ 17 [(0, zv s0 2 84), (1, zv s0 0 v1)] [zv s0 0 r14] (zw s0 ca C S M14)
  refine z_if_eq (tgt := 22) (x' := w32 r14) rfl dX11_schema_17 (by decide) (fun c17 => ?_) (fun c17 => ?_)
  · replace h := h.1 c17
    refine z_aload_n dX11_schema_22 rfl (j := 0) rfl ?_
    refine z_getc Γ kf_RX11_20 dX11_schema_23 (by decide) (hs 84 _ rfl) rfl ?_
    refine z_aload_n dX11_schema_26 rfl (j := 0) rfl ?_
    refine z_getc Γ kf_RX11_7 dX11_schema_27 (by decide) (hs 84 _ rfl) rfl ?_
    refine z_iconst dX11_schema_30 ?_
    refine z_aload_n dX11_schema_31 rfl (j := 0) rfl ?_
    refine z_get Γ kf_RX11_57 dX11_schema_32 (by decide) (hs 84 _ rfl) rfl (by decide) (v9 := M14 84 2) rfl ?_
    refine zu_callV Γ kk_X10_read kc_RX11_72 (As := [zv s0 2 85, zv s0 0 0, zv s0 0 (M14 84 2)]) h (by omega) (by decide) (show (parseMethodDescriptor yX10_read.desc).map (fun q => q.parameters.length) = some 3 by decide +kernel) hok (Nat.zero_le _) dX11_schema_35 (zTx_of hs).1.1 (zTx_of hs).1.2.1 rfl rfl ?_
    clear h
    intro C r35 M35 h
    obtain ⟨hok, h⟩ := h
    show rt_Go _ _ _ _ _ _ _ _ _ _ _ _ 38 [(0, zv s0 2 84), (1, zv s0 0 v1)] [zv s0 0 r35] (zw s0 ca C S M35)
    refine z_istore_n (i := 2) (lv' := [(2, zv s0 0 r35), (0, zv s0 2 84), (1, zv s0 0 v1)]) dX11_schema_38 rfl (by decide) (by simp [zv_cat0, zv_cat1, zv_cat2, zv_cats]) ?_
    refine z_aload_n dX11_schema_39 rfl (j := 1) rfl ?_
    refine z_iload_n dX11_schema_40 rfl (j := 0) rfl ?_
    refine z_if_le (tgt := 54) (x' := w32 r35) rfl dX11_schema_41 (by decide) (fun c41 => ?_) (fun c41 => ?_)
    · replace h := h.1 c41
      refine z_iconst dX11_schema_54 ?_
      exact rt_lfew [1, 2, 0] rfl (zs_X11_schema_55 Γ hd hok hs  h)
    · replace h := h.2 c41
      refine z_aload_n dX11_schema_44 rfl (j := 1) rfl ?_
      refine z_getc Γ kf_RX11_20 dX11_schema_45 (by decide) (hs 84 _ rfl) rfl ?_
      refine z_getN Γ kfN_RX11_80 dX11_schema_48 (zTx_of hs).1.1 (zTx_of hs).1.2.1 rfl (by decide) (v9 := M35 86 5) rfl ?_
      refine rt_goto (tgt := 55) dX11_schema_51 (by decide) ?_
      exact rt_lfew [1, 2, 0] rfl (zs_X11_schema_55 Γ hd hok hs  h)
  · replace h := h.2 c17
    refine z_iconst dX11_schema_20 ?_
    exact z_iretU dX11_schema_21 rfl h
def zt_X11_schema_66 (l : Launch) (s0 : State) (G : va_G) (ca : Nat → ClassId) (d : Nat) (C : Nat × Nat) (S : zS) (w0 : rt_Wd)  (v1 : Int) (v3 : Int)  (M : zM) (Q : Nat × Nat → Int → zM → Prop) : Prop :=
  zIf (w32 (M 84 2) ≤ w32 v3) ((0 ≤ v1 ∧ v1 < 8) ∧ (zIf (w32 (M 84 9) = w32 v1) (Q C 0 ((zu ((zu ((zu ((zu ((zu M 131 v1 (M 84 2))) 84 2 0)) 84 9 ((-1)))) 84 10 0)) 84 11 0))) (Q C 0 ((zu ((zu M 131 v1 (M 84 2))) 84 2 0))))) ((0 ≤ v3 ∧ v3 < 4096) ∧ ((0 ≤ (4096 * v1) + v3 ∧ (4096 * v1) + v3 < 32768) ∧ (zg_X11_schema_66 l s0 G ca d C S w0  v1 (v3 + 1) ((zu M 130 ((4096 * v1) + v3) (w8 (M 85 v3)))) Q)))
set_option maxRecDepth 100000 in
theorem zs_X11_schema_66 {l : Launch} {s0 : State} {a0 : Array Value} {G : va_G} {ca : Nat → ClassId} (Γ : rt_Γ l s0 a0 G ca) {d : Nat} {C : Nat × Nat} {S : zS} (hd : 1 ≤ d) (hok : zok C)  (hs : zSok S) {w0 : rt_Wd} {v1 : Int} {v3 : Int}   {M : zM} {Q : Nat × Nat → Int → zM → Prop} (h : zt_X11_schema_66 l s0 G ca d C S w0  v1 v3 M Q) : zg_X11_schema_66 l s0 G ca d C S w0  v1 v3 M Q := by
  unfold zt_X11_schema_66 at h
  refine z_iload_n dX11_schema_66 rfl (j := 2) rfl ?_
  refine z_aload_n dX11_schema_67 rfl (j := 0) rfl ?_
  refine z_get Γ kf_RX11_57 dX11_schema_68 (by decide) (hs 84 _ rfl) rfl (by decide) (v9 := M 84 2) rfl ?_
  refine z_icmp_ge (tgt := 98) (x' := w32 v3) (y' := w32 (M 84 2)) rfl rfl dX11_schema_71 (by decide) (fun c71 => ?_) (fun c71 => ?_)
  · replace h := h.1 c71
    refine z_aload_n dX11_schema_98 rfl (j := 0) rfl ?_
    refine z_getc Γ kf_RX11_31 dX11_schema_99 (by decide) (hs 84 _ rfl) rfl ?_
    refine z_iload_n dX11_schema_102 rfl (j := 1) rfl ?_
    refine z_aload_n dX11_schema_103 rfl (j := 0) rfl ?_
    refine z_get Γ kf_RX11_57 dX11_schema_104 (by decide) (hs 84 _ rfl) rfl (by decide) (v9 := M 84 2) rfl ?_
    obtain ⟨hi107, h⟩ := h
    refine z_iast Γ dX11_schema_107 (by decide) (hs 131 _ rfl) (by decide) hi107 ?_
    refine z_aload_n dX11_schema_108 rfl (j := 0) rfl ?_
    refine z_iconst dX11_schema_109 ?_
    refine z_put0 Γ kp_RX11_57 dX11_schema_110 (by decide) (hs 84 _ rfl) rfl (k9 := 2) rfl ?_
    refine z_aload_n dX11_schema_113 rfl (j := 0) rfl ?_
    refine z_get Γ kf_RX11_38 dX11_schema_114 (by decide) (hs 84 _ rfl) rfl (by decide) (v9 := M 84 9) ((zu_k (by decide)).trans ((zu_a (by decide)).trans rfl)) ?_
    refine z_iload_n dX11_schema_117 rfl (j := 1) rfl ?_
    refine z_icmp_ne (tgt := 136) (x' := w32 (M 84 9)) (y' := w32 v1) rfl rfl dX11_schema_118 (by decide) (fun c118 => ?_) (fun c118 => ?_)
    · replace h := h.2 c118
      refine z_iconst dX11_schema_136 ?_
      exact z_iretU dX11_schema_137 rfl h
    · replace h := h.1 c118
      refine z_aload_n dX11_schema_121 rfl (j := 0) rfl ?_
      refine z_iconst dX11_schema_122 ?_
      refine z_put0 Γ kp_RX11_38 dX11_schema_123 (by decide) (hs 84 _ rfl) rfl (k9 := 9) rfl ?_
      refine z_aload_n dX11_schema_126 rfl (j := 0) rfl ?_
      refine z_iconst dX11_schema_127 ?_
      refine z_put0 Γ kp_RX11_81 dX11_schema_128 (by decide) (hs 84 _ rfl) rfl (k9 := 10) rfl ?_
      refine z_aload_n dX11_schema_131 rfl (j := 0) rfl ?_
      refine z_iconst dX11_schema_132 ?_
      refine z_put0 Γ kp_RX11_84 dX11_schema_133 (by decide) (hs 84 _ rfl) rfl (k9 := 11) rfl ?_
      refine z_iconst dX11_schema_136 ?_
      exact z_iretU dX11_schema_137 rfl h
  · replace h := h.2 c71
    refine z_aload_n dX11_schema_74 rfl (j := 0) rfl ?_
    refine z_getc Γ kf_RX11_28 dX11_schema_75 (by decide) (hs 84 _ rfl) rfl ?_
    refine z_sipush dX11_schema_78 (by decide) ?_
    refine z_iload_n dX11_schema_81 rfl (j := 1) rfl ?_
    refine z_imul dX11_schema_82 ?_
    refine z_iload_n dX11_schema_83 rfl (j := 2) rfl ?_
    refine z_iadd dX11_schema_84 ?_
    refine z_aload_n dX11_schema_85 rfl (j := 0) rfl ?_
    refine z_getc Γ kf_RX11_7 dX11_schema_86 (by decide) (hs 84 _ rfl) rfl ?_
    refine z_iload_n dX11_schema_89 rfl (j := 2) rfl ?_
    obtain ⟨hi90, h⟩ := h
    refine z_bald Γ dX11_schema_90 (by decide) (hs 85 _ rfl) (by decide) hi90 (v9 := M 85 v3) rfl ?_
    obtain ⟨hi91, h⟩ := h
    refine z_bast Γ dX11_schema_91 (by decide) (hs 130 _ rfl) (by decide) hi91 ?_
    refine z_iinc (lv' := [(3, zv s0 0 (v3 + 1)), (0, zv s0 2 84), (1, zv s0 0 v1)]) dX11_schema_92 (j := 2) rfl (by decide) (by simp [zv_cat0, zv_cat1, zv_cat2, zv_cats]) ?_
    refine rt_goto (tgt := 66) dX11_schema_95 (by decide) ?_
    exact rt_lfew [1, 2, 0] rfl h
def zt_X11_schema (l : Launch) (s0 : State) (G : va_G) (ca : Nat → ClassId) (d : Nat) (C : Nat × Nat) (S : zS) (w0 : rt_Wd)  (p : Int) (M : zM) (Q : Nat × Nat → Int → zM → Prop) : Prop :=
  zm_X11_isPlace l s0 G ca (d - 1) C S p M (fun r2 M2 => zIf (w32 r2 = 0) (zt_X11_schema_13 l s0 G ca d C S w0  p 1 M2 Q) (zt_X11_schema_13 l s0 G ca d C S w0  p 0 M2 Q)) (fun _ => False)
set_option maxRecDepth 100000 in
theorem z_X11_schema {l : Launch} {s0 : State} {a0 : Array Value} {G : va_G} {ca : Nat → ClassId} (Γ : rt_Γ l s0 a0 G ca) {d : Nat} {C : Nat × Nat} {S : zS} (hd : 1 ≤ d) (hok : zok C)  (hs : zSok S) {p : Int} {M : zM} {Q : Nat × Nat → Int → zM → Prop} (h : zt_X11_schema l s0 G ca d C S (zw s0 ca C S M)  p M Q) : zu_X11_schema l s0 G ca d C S  p M Q := by
  refine z_metU (lv := [(0, zv s0 2 84), (1, zv s0 0 p)]) Γ kk_X11_schema rfl (show (lg_sl [zv s0 2 84, zv s0 0 p]).length ≤ 4 from by simp only [zn_0, zn_2, show (lg_sl []).length = 0 from rfl]; omega) (show lv_args 0 [zv s0 2 84, zv s0 0 p] = [(0, zv s0 2 84), (1, zv s0 0 p)] from by rw [zl_2, zl_0]; rfl) ?_
  unfold zt_X11_schema at h
  refine z_aload_n dX11_schema_0 rfl (j := 0) rfl ?_
  refine z_iload_n dX11_schema_1 rfl (j := 1) rfl ?_
  refine zc_callS Γ kk_X11_isPlace kc_RX11_76 (As := [zv s0 0 p]) h (by omega) (by decide) (show (parseMethodDescriptor yX11_isPlace.desc).map (fun q => q.parameters.length) = some 1 by decide +kernel) hok (by simp only [List.map, zv_cat0, zv_cat1, zv_cat2, List.sum_cons, List.sum_nil]; decide) dX11_schema_2 rfl (fun _ _ _ _ h9 => h9.elim) ?_
  clear h
  intro r2 M2 h
  show rt_Go _ _ _ _ _ _ _ _ _ _ _ _ 5 [(0, zv s0 2 84), (1, zv s0 0 p)] [zv s0 0 r2, zv s0 2 84] (zw s0 ca C S M2)
  refine z_if_ne (tgt := 12) (x' := w32 r2) rfl dX11_schema_5 (by decide) (fun c5 => ?_) (fun c5 => ?_)
  · replace h := h.2 c5
    refine z_iconst dX11_schema_12 ?_
    exact rt_lfew [0, 1] rfl (zs_X11_schema_13 Γ hd hok hs  h)
  · replace h := h.1 c5
    refine z_iconst dX11_schema_8 ?_
    refine rt_goto (tgt := 13) dX11_schema_9 (by decide) ?_
    exact rt_lfew [0, 1] rfl (zs_X11_schema_13 Γ hd hok hs  h)
abbrev zg_X11_load_13 (l : Launch) (s0 : State) (G : va_G) (ca : Nat → ClassId) (d : Nat) (C : Nat × Nat) (S : zS) (w0 : rt_Wd)  (v1 : Int) (k0 : Int) (M : zM) (Q : Nat × Nat → Int → zM → Prop) : Prop := rt_Go l s0 G RX11 "load" cX11_load 4 (Option.some FieldType.int) [] d w0 (zQu s0 ca 0 S Q) 13 [(0, zv s0 2 84), (1, zv s0 0 v1)] [zv s0 0 k0, zv s0 2 84] (zw s0 ca C S M)
abbrev zg_X11_load_33 (l : Launch) (s0 : State) (G : va_G) (ca : Nat → ClassId) (d : Nat) (C : Nat × Nat) (S : zS) (w0 : rt_Wd)  (v1 : Int) (k0 : Int) (M : zM) (Q : Nat × Nat → Int → zM → Prop) : Prop := rt_Go l s0 G RX11 "load" cX11_load 4 (Option.some FieldType.int) [] d w0 (zQu s0 ca 0 S Q) 33 [(0, zv s0 2 84), (1, zv s0 0 v1)] [zv s0 0 k0, zv s0 2 84] (zw s0 ca C S M)
abbrev zg_X11_load_34 (l : Launch) (s0 : State) (G : va_G) (ca : Nat → ClassId) (d : Nat) (C : Nat × Nat) (S : zS) (w0 : rt_Wd)  (v1 : Int) (k0 : Int) (k1 : Int) (M : zM) (Q : Nat × Nat → Int → zM → Prop) : Prop := rt_Go l s0 G RX11 "load" cX11_load 4 (Option.some FieldType.int) [] d w0 (zQu s0 ca 0 S Q) 34 [(0, zv s0 2 84), (1, zv s0 0 v1)] [zv s0 0 k0, zv s0 0 k1, zv s0 2 84] (zw s0 ca C S M)
abbrev zg_X11_load_87 (l : Launch) (s0 : State) (G : va_G) (ca : Nat → ClassId) (d : Nat) (C : Nat × Nat) (S : zS) (w0 : rt_Wd)  (v2 : Int) (v3 : Int)  (M : zM) (Q : Nat × Nat → Int → zM → Prop) : Prop := rt_Go l s0 G RX11 "load" cX11_load 4 (Option.some FieldType.int) [] d w0 (zQu s0 ca 0 S Q) 87 [(0, zv s0 2 84), (2, zv s0 0 v2), (3, zv s0 0 v3)] [] (zw s0 ca C S M)
def zt_X11_load_34 (l : Launch) (s0 : State) (G : va_G) (ca : Nat → ClassId) (d : Nat) (C : Nat × Nat) (S : zS) (w0 : rt_Wd)  (v1 : Int) (k0 : Int) (k1 : Int) (M : zM) (Q : Nat × Nat → Int → zM → Prop) : Prop :=
  zm_X11_refused l s0 G ca (d - 1) C S k1 k0 M (fun r34 M34 => zIf (w32 r34 = 0) (zu_X11_read l s0 G ca (d - 1) C S 86 v1 M34 (fun C r48 M48 => zok C ∧ (zu_X11_lookAtRows l s0 G ca (d - 1) C S 86 1 M48 (fun C r57 M57 => zok C ∧ (zIf (0 ≤ w32 r57) (zg_X11_load_87 l s0 G ca d C S w0  r57 0 ((zu ((zu ((zu M57 84 9 v1)) 84 10 r57)) 84 11 (M57 84 15))) Q) (Q C r57 M57)))))) (Q C 0 M34)) (fun _ => False)
set_option maxRecDepth 100000 in
theorem zs_X11_load_34 {l : Launch} {s0 : State} {a0 : Array Value} {G : va_G} {ca : Nat → ClassId} (Γ : rt_Γ l s0 a0 G ca) {d : Nat} {C : Nat × Nat} {S : zS} (hd : 1 ≤ d) (hok : zok C)  (hs : zSok S) {w0 : rt_Wd} {v1 : Int} {k0 : Int} {k1 : Int}  {M : zM} {Q : Nat × Nat → Int → zM → Prop} (h : zt_X11_load_34 l s0 G ca d C S w0  v1 k0 k1 M Q) : zg_X11_load_34 l s0 G ca d C S w0  v1 k0 k1 M Q := by
  unfold zt_X11_load_34 at h
  refine zc_callV Γ kk_X11_refused kc_RX11_60 (As := [zv s0 0 k1, zv s0 0 k0]) h (by omega) (by decide) (show (parseMethodDescriptor yX11_refused.desc).map (fun q => q.parameters.length) = some 2 by decide +kernel) hok (Nat.zero_le _) dX11_load_34 (by decide) (hs 84 _ rfl) rfl rfl (fun _ _ _ _ h9 => h9.elim) ?_
  clear h
  intro r34 M34 h
  show rt_Go _ _ _ _ _ _ _ _ _ _ _ _ 37 [(0, zv s0 2 84), (1, zv s0 0 v1)] [zv s0 0 r34] (zw s0 ca C S M34)
  refine z_if_eq (tgt := 42) (x' := w32 r34) rfl dX11_load_37 (by decide) (fun c37 => ?_) (fun c37 => ?_)
  · replace h := h.1 c37
    refine z_aload_n dX11_load_42 rfl (j := 0) rfl ?_
    refine z_aload_n dX11_load_43 rfl (j := 0) rfl ?_
    refine z_getc Γ kf_RX11_20 dX11_load_44 (by decide) (hs 84 _ rfl) rfl ?_
    refine z_iload_n dX11_load_47 rfl (j := 1) rfl ?_
    refine zu_callV Γ kk_X11_read kc_RX11_191 (As := [zv s0 2 86, zv s0 0 v1]) h (by omega) (by decide) (show (parseMethodDescriptor yX11_read.desc).map (fun q => q.parameters.length) = some 2 by decide +kernel) hok (Nat.zero_le _) dX11_load_48 (by decide) (hs 84 _ rfl) rfl rfl ?_
    clear h
    intro C r48 M48 h
    obtain ⟨hok, h⟩ := h
    show rt_Go _ _ _ _ _ _ _ _ _ _ _ _ 51 [(0, zv s0 2 84), (1, zv s0 0 v1)] [] (zw s0 ca C S M48)
    refine z_aload_n dX11_load_51 rfl (j := 0) rfl ?_
    refine z_aload_n dX11_load_52 rfl (j := 0) rfl ?_
    refine z_getc Γ kf_RX11_20 dX11_load_53 (by decide) (hs 84 _ rfl) rfl ?_
    refine z_iconst dX11_load_56 ?_
    refine zu_callV Γ kk_X11_lookAtRows kc_RX11_194 (As := [zv s0 2 86, zv s0 0 1]) h (by omega) (by decide) (show (parseMethodDescriptor yX11_lookAtRows.desc).map (fun q => q.parameters.length) = some 2 by decide +kernel) hok (Nat.zero_le _) dX11_load_57 (by decide) (hs 84 _ rfl) rfl rfl ?_
    clear h
    intro C r57 M57 h
    obtain ⟨hok, h⟩ := h
    show rt_Go _ _ _ _ _ _ _ _ _ _ _ _ 60 [(0, zv s0 2 84), (1, zv s0 0 v1)] [zv s0 0 r57] (zw s0 ca C S M57)
    refine z_istore_n (i := 2) (lv' := [(2, zv s0 0 r57), (0, zv s0 2 84), (1, zv s0 0 v1)]) dX11_load_60 rfl (by decide) (by simp [zv_cat0, zv_cat1, zv_cat2, zv_cats]) ?_
    refine z_iload_n dX11_load_61 rfl (j := 0) rfl ?_
    refine z_if_ge (tgt := 67) (x' := w32 r57) rfl dX11_load_62 (by decide) (fun c62 => ?_) (fun c62 => ?_)
    · replace h := h.1 c62
      refine z_aload_n dX11_load_67 rfl (j := 1) rfl ?_
      refine z_iload_n dX11_load_68 rfl (j := 2) rfl ?_
      refine z_put0 Γ kp_RX11_38 dX11_load_69 (by decide) (hs 84 _ rfl) rfl (k9 := 9) rfl ?_
      refine z_aload_n dX11_load_72 rfl (j := 1) rfl ?_
      refine z_iload_n dX11_load_73 rfl (j := 0) rfl ?_
      refine z_put0 Γ kp_RX11_81 dX11_load_74 (by decide) (hs 84 _ rfl) rfl (k9 := 10) rfl ?_
      refine z_aload_n dX11_load_77 rfl (j := 1) rfl ?_
      refine z_aload_n dX11_load_78 rfl (j := 1) rfl ?_
      refine z_get Γ kf_RX11_115 dX11_load_79 (by decide) (hs 84 _ rfl) rfl (by decide) (v9 := M57 84 15) ((zu_k (by decide)).trans ((zu_k (by decide)).trans rfl)) ?_
      refine z_put0 Γ kp_RX11_84 dX11_load_82 (by decide) (hs 84 _ rfl) rfl (k9 := 11) rfl ?_
      refine z_iconst dX11_load_85 ?_
      refine z_istore_n (i := 3) (lv' := [(3, zv s0 0 0), (2, zv s0 0 r57), (0, zv s0 2 84), (1, zv s0 0 v1)]) dX11_load_86 rfl (by decide) (by simp [zv_cat0, zv_cat1, zv_cat2, zv_cats]) ?_
      exact rt_lfew [2, 1, 0] rfl h
    · replace h := h.2 c62
      refine z_iload_n dX11_load_65 rfl (j := 0) rfl ?_
      exact z_iretU dX11_load_66 rfl h
  · replace h := h.2 c37
    refine z_iconst dX11_load_40 ?_
    exact z_iretU dX11_load_41 rfl h
def zt_X11_load_33 (l : Launch) (s0 : State) (G : va_G) (ca : Nat → ClassId) (d : Nat) (C : Nat × Nat) (S : zS) (w0 : rt_Wd)  (v1 : Int) (k0 : Int) (M : zM) (Q : Nat × Nat → Int → zM → Prop) : Prop :=
  zt_X11_load_34 l s0 G ca d C S w0  v1 0 k0 M Q
set_option maxRecDepth 100000 in
theorem zs_X11_load_33 {l : Launch} {s0 : State} {a0 : Array Value} {G : va_G} {ca : Nat → ClassId} (Γ : rt_Γ l s0 a0 G ca) {d : Nat} {C : Nat × Nat} {S : zS} (hd : 1 ≤ d) (hok : zok C)  (hs : zSok S) {w0 : rt_Wd} {v1 : Int} {k0 : Int}  {M : zM} {Q : Nat × Nat → Int → zM → Prop} (h : zt_X11_load_33 l s0 G ca d C S w0  v1 k0 M Q) : zg_X11_load_33 l s0 G ca d C S w0  v1 k0 M Q := by
  unfold zt_X11_load_33 at h
  refine z_iconst dX11_load_33 ?_
  exact rt_lfew [0, 1] rfl (zs_X11_load_34 Γ hd hok hs  h)
def zt_X11_load_13 (l : Launch) (s0 : State) (G : va_G) (ca : Nat → ClassId) (d : Nat) (C : Nat × Nat) (S : zS) (w0 : rt_Wd)  (v1 : Int) (k0 : Int) (M : zM) (Q : Nat × Nat → Int → zM → Prop) : Prop :=
  zm_X11_isPlace l s0 G ca (d - 1) C S v1 M (fun r14 M14 => zIf (w32 r14 = 0) (zt_X11_load_33 l s0 G ca d C S w0  v1 k0 M14 Q) ((0 ≤ v1 ∧ v1 < 8) ∧ (zIf (0 ≤ w32 (M14 131 v1)) (zt_X11_load_33 l s0 G ca d C S w0  v1 k0 M14 Q) (zt_X11_load_34 l s0 G ca d C S w0  v1 1 k0 M14 Q)))) (fun _ => False)
set_option maxRecDepth 100000 in
theorem zs_X11_load_13 {l : Launch} {s0 : State} {a0 : Array Value} {G : va_G} {ca : Nat → ClassId} (Γ : rt_Γ l s0 a0 G ca) {d : Nat} {C : Nat × Nat} {S : zS} (hd : 1 ≤ d) (hok : zok C)  (hs : zSok S) {w0 : rt_Wd} {v1 : Int} {k0 : Int}  {M : zM} {Q : Nat × Nat → Int → zM → Prop} (h : zt_X11_load_13 l s0 G ca d C S w0  v1 k0 M Q) : zg_X11_load_13 l s0 G ca d C S w0  v1 k0 M Q := by
  unfold zt_X11_load_13 at h
  refine z_iload_n dX11_load_13 rfl (j := 1) rfl ?_
  refine zc_callS Γ kk_X11_isPlace kc_RX11_76 (As := [zv s0 0 v1]) h (by omega) (by decide) (show (parseMethodDescriptor yX11_isPlace.desc).map (fun q => q.parameters.length) = some 1 by decide +kernel) hok (by simp only [List.map, zv_cat0, zv_cat1, zv_cat2, List.sum_cons, List.sum_nil]; decide) dX11_load_14 rfl (fun _ _ _ _ h9 => h9.elim) ?_
  clear h
  intro r14 M14 h
  show rt_Go _ _ _ _ _ _ _ _ _ _ _ _ 17 [(0, zv s0 2 84), (1, zv s0 0 v1)] [zv s0 0 r14, zv s0 0 k0, zv s0 2 84] (zw s0 ca C S M14)
  refine z_if_eq (tgt := 33) (x' := w32 r14) rfl dX11_load_17 (by decide) (fun c17 => ?_) (fun c17 => ?_)
  · replace h := h.1 c17
    exact rt_lfew [0, 1] rfl (zs_X11_load_33 Γ hd hok hs  h)
  · replace h := h.2 c17
    refine z_aload_n dX11_load_20 rfl (j := 0) rfl ?_
    refine z_getc Γ kf_RX11_31 dX11_load_21 (by decide) (hs 84 _ rfl) rfl ?_
    refine z_iload_n dX11_load_24 rfl (j := 1) rfl ?_
    obtain ⟨hi25, h⟩ := h
    refine z_iald Γ dX11_load_25 (by decide) (hs 131 _ rfl) (by decide) hi25 (v9 := M14 131 v1) rfl ?_
    refine z_if_ge (tgt := 33) (x' := w32 (M14 131 v1)) rfl dX11_load_26 (by decide) (fun c26 => ?_) (fun c26 => ?_)
    · replace h := h.1 c26
      exact rt_lfew [0, 1] rfl (zs_X11_load_33 Γ hd hok hs  h)
    · replace h := h.2 c26
      refine z_iconst dX11_load_29 ?_
      refine rt_goto (tgt := 34) dX11_load_30 (by decide) ?_
      exact rt_lfew [0, 1] rfl (zs_X11_load_34 Γ hd hok hs  h)
def zt_X11_load_87 (l : Launch) (s0 : State) (G : va_G) (ca : Nat → ClassId) (d : Nat) (C : Nat × Nat) (S : zS) (w0 : rt_Wd)  (v2 : Int) (v3 : Int)  (M : zM) (Q : Nat × Nat → Int → zM → Prop) : Prop :=
  zIf (w32 (M 84 15) ≤ w32 v3) (Q C v2 ((zu M 84 2 0))) ((0 ≤ v3 ∧ v3 < 4200) ∧ (zg_X11_load_87 l s0 G ca d C S w0  v2 (v3 + 1) ((zu M 132 v3 (w8 (M 134 v3)))) Q))
set_option maxRecDepth 100000 in
theorem zs_X11_load_87 {l : Launch} {s0 : State} {a0 : Array Value} {G : va_G} {ca : Nat → ClassId} (Γ : rt_Γ l s0 a0 G ca) {d : Nat} {C : Nat × Nat} {S : zS} (hd : 1 ≤ d) (hok : zok C)  (hs : zSok S) {w0 : rt_Wd} {v2 : Int} {v3 : Int}   {M : zM} {Q : Nat × Nat → Int → zM → Prop} (h : zt_X11_load_87 l s0 G ca d C S w0  v2 v3 M Q) : zg_X11_load_87 l s0 G ca d C S w0  v2 v3 M Q := by
  unfold zt_X11_load_87 at h
  refine z_iload_n dX11_load_87 rfl (j := 2) rfl ?_
  refine z_aload_n dX11_load_88 rfl (j := 0) rfl ?_
  refine z_get Γ kf_RX11_115 dX11_load_89 (by decide) (hs 84 _ rfl) rfl (by decide) (v9 := M 84 15) rfl ?_
  refine z_icmp_ge (tgt := 113) (x' := w32 v3) (y' := w32 (M 84 15)) rfl rfl dX11_load_92 (by decide) (fun c92 => ?_) (fun c92 => ?_)
  · replace h := h.1 c92
    refine z_aload_n dX11_load_113 rfl (j := 0) rfl ?_
    refine z_iconst dX11_load_114 ?_
    refine z_put0 Γ kp_RX11_57 dX11_load_115 (by decide) (hs 84 _ rfl) rfl (k9 := 2) rfl ?_
    refine z_iload_n dX11_load_118 rfl (j := 1) rfl ?_
    exact z_iretU dX11_load_119 rfl h
  · replace h := h.2 c92
    refine z_aload_n dX11_load_95 rfl (j := 0) rfl ?_
    refine z_getc Γ kf_RX11_35 dX11_load_96 (by decide) (hs 84 _ rfl) rfl ?_
    refine z_iload_n dX11_load_99 rfl (j := 2) rfl ?_
    refine z_aload_n dX11_load_100 rfl (j := 0) rfl ?_
    refine z_getc Γ kf_RX11_44 dX11_load_101 (by decide) (hs 84 _ rfl) rfl ?_
    refine z_iload_n dX11_load_104 rfl (j := 2) rfl ?_
    obtain ⟨hi105, h⟩ := h
    refine z_bald Γ dX11_load_105 (by decide) (hs 134 _ rfl) (by decide) hi105 (v9 := M 134 v3) rfl ?_
    refine z_bast Γ dX11_load_106 (by decide) (hs 132 _ rfl) (by decide) hi105 ?_
    refine z_iinc (lv' := [(3, zv s0 0 (v3 + 1)), (0, zv s0 2 84), (2, zv s0 0 v2)]) dX11_load_107 (j := 2) rfl (by decide) (by simp [zv_cat0, zv_cat1, zv_cat2, zv_cats]) ?_
    refine rt_goto (tgt := 87) dX11_load_110 (by decide) ?_
    exact rt_lfew [1, 2, 0] rfl h
def zt_X11_load (l : Launch) (s0 : State) (G : va_G) (ca : Nat → ClassId) (d : Nat) (C : Nat × Nat) (S : zS) (w0 : rt_Wd)  (p : Int) (M : zM) (Q : Nat × Nat → Int → zM → Prop) : Prop :=
  zm_X11_isPlace l s0 G ca (d - 1) C S p M (fun r2 M2 => zIf (w32 r2 = 0) (zt_X11_load_13 l s0 G ca d C S w0  p 1 M2 Q) (zt_X11_load_13 l s0 G ca d C S w0  p 0 M2 Q)) (fun _ => False)
set_option maxRecDepth 100000 in
theorem z_X11_load {l : Launch} {s0 : State} {a0 : Array Value} {G : va_G} {ca : Nat → ClassId} (Γ : rt_Γ l s0 a0 G ca) {d : Nat} {C : Nat × Nat} {S : zS} (hd : 1 ≤ d) (hok : zok C)  (hs : zSok S) {p : Int} {M : zM} {Q : Nat × Nat → Int → zM → Prop} (h : zt_X11_load l s0 G ca d C S (zw s0 ca C S M)  p M Q) : zu_X11_load l s0 G ca d C S  p M Q := by
  refine z_metU (lv := [(0, zv s0 2 84), (1, zv s0 0 p)]) Γ kk_X11_load rfl (show (lg_sl [zv s0 2 84, zv s0 0 p]).length ≤ 4 from by simp only [zn_0, zn_2, show (lg_sl []).length = 0 from rfl]; omega) (show lv_args 0 [zv s0 2 84, zv s0 0 p] = [(0, zv s0 2 84), (1, zv s0 0 p)] from by rw [zl_2, zl_0]; rfl) ?_
  unfold zt_X11_load at h
  refine z_aload_n dX11_load_0 rfl (j := 0) rfl ?_
  refine z_iload_n dX11_load_1 rfl (j := 1) rfl ?_
  refine zc_callS Γ kk_X11_isPlace kc_RX11_76 (As := [zv s0 0 p]) h (by omega) (by decide) (show (parseMethodDescriptor yX11_isPlace.desc).map (fun q => q.parameters.length) = some 1 by decide +kernel) hok (by simp only [List.map, zv_cat0, zv_cat1, zv_cat2, List.sum_cons, List.sum_nil]; decide) dX11_load_2 rfl (fun _ _ _ _ h9 => h9.elim) ?_
  clear h
  intro r2 M2 h
  show rt_Go _ _ _ _ _ _ _ _ _ _ _ _ 5 [(0, zv s0 2 84), (1, zv s0 0 p)] [zv s0 0 r2, zv s0 2 84] (zw s0 ca C S M2)
  refine z_if_ne (tgt := 12) (x' := w32 r2) rfl dX11_load_5 (by decide) (fun c5 => ?_) (fun c5 => ?_)
  · replace h := h.2 c5
    refine z_iconst dX11_load_12 ?_
    exact rt_lfew [0, 1] rfl (zs_X11_load_13 Γ hd hok hs  h)
  · replace h := h.1 c5
    refine z_iconst dX11_load_8 ?_
    refine rt_goto (tgt := 13) dX11_load_9 (by decide) ?_
    exact rt_lfew [0, 1] rfl (zs_X11_load_13 Γ hd hok hs  h)
abbrev zg_X11_read__21 (l : Launch) (s0 : State) (G : va_G) (ca : Nat → ClassId) (d : Nat) (C : Nat × Nat) (S : zS) (w0 : rt_Wd)  (v1 : Int) (v2 : Int)  (M : zM) (Q : Nat × Nat → Int → zM → Prop) : Prop := rt_Go l s0 G RX11 "read" cX11_read_ 6 (Option.some FieldType.int) [] d w0 (zQu s0 ca 0 S Q) 21 [(0, zv s0 2 84), (1, zv s0 0 v1), (2, zv s0 0 v2)] [] (zw s0 ca C S M)
abbrev zg_X11_read__26 (l : Launch) (s0 : State) (G : va_G) (ca : Nat → ClassId) (d : Nat) (C : Nat × Nat) (S : zS) (w0 : rt_Wd)  (v1 : Int) (v2 : Int) (k0 : Int) (M : zM) (Q : Nat × Nat → Int → zM → Prop) : Prop := rt_Go l s0 G RX11 "read" cX11_read_ 6 (Option.some FieldType.int) [] d w0 (zQu s0 ca 0 S Q) 26 [(0, zv s0 2 84), (1, zv s0 0 v1), (2, zv s0 0 v2)] [zv s0 0 k0] (zw s0 ca C S M)
abbrev zg_X11_read__46 (l : Launch) (s0 : State) (G : va_G) (ca : Nat → ClassId) (d : Nat) (C : Nat × Nat) (S : zS) (w0 : rt_Wd)  (v1 : Int) (v2 : Int) (k0 : Int) (M : zM) (Q : Nat × Nat → Int → zM → Prop) : Prop := rt_Go l s0 G RX11 "read" cX11_read_ 6 (Option.some FieldType.int) [] d w0 (zQu s0 ca 0 S Q) 46 [(0, zv s0 2 84), (1, zv s0 0 v1), (2, zv s0 0 v2)] [zv s0 0 k0, zv s0 2 84] (zw s0 ca C S M)
abbrev zg_X11_read__47 (l : Launch) (s0 : State) (G : va_G) (ca : Nat → ClassId) (d : Nat) (C : Nat × Nat) (S : zS) (w0 : rt_Wd)  (v1 : Int) (v2 : Int) (k0 : Int) (k1 : Int) (M : zM) (Q : Nat × Nat → Int → zM → Prop) : Prop := rt_Go l s0 G RX11 "read" cX11_read_ 6 (Option.some FieldType.int) [] d w0 (zQu s0 ca 0 S Q) 47 [(0, zv s0 2 84), (1, zv s0 0 v1), (2, zv s0 0 v2)] [zv s0 0 k0, zv s0 0 k1, zv s0 2 84] (zw s0 ca C S M)
abbrev zg_X11_read__124 (l : Launch) (s0 : State) (G : va_G) (ca : Nat → ClassId) (d : Nat) (C : Nat × Nat) (S : zS) (w0 : rt_Wd)  (v5 : Int)  (M : zM) (Q : Nat × Nat → Int → zM → Prop) : Prop := rt_Go l s0 G RX11 "read" cX11_read_ 6 (Option.some FieldType.int) [] d w0 (zQu s0 ca 0 S Q) 124 [(0, zv s0 2 84), (5, zv s0 0 v5)] [] (zw s0 ca C S M)
def zt_X11_read__47 (l : Launch) (s0 : State) (G : va_G) (ca : Nat → ClassId) (d : Nat) (C : Nat × Nat) (S : zS) (w0 : rt_Wd)  (v1 : Int) (v2 : Int) (k0 : Int) (k1 : Int) (M : zM) (Q : Nat × Nat → Int → zM → Prop) : Prop :=
  zm_X11_refused l s0 G ca (d - 1) C S k1 k0 M (fun r47 M47 => zIf (w32 r47 = 0) (zu_X11_read l s0 G ca (d - 1) C S 86 (M47 84 9) M47 (fun C r64 M64 => zok C ∧ (zu_X11_read l s0 G ca (d - 1) C S 108 v1 M64 (fun C r73 M73 => zok C ∧ (zm_X11_pass l s0 G ca (d - 1) C S v2 ((zu ((zu ((zu M73 84 24 0)) 84 13 0)) 84 15 0)) (fun r93 M93 => zu_X11_tellRow l s0 G ca (d - 1) C S 4096 M93 (fun C r100 M100 => zok C ∧ (zIf (0 ≤ w32 r100) (zg_X11_read__124 l s0 G ca d C S w0  0 ((zu M100 84 13 (M100 84 15))) Q) (Q C r100 M100)))) (fun _ => False)))))) (Q C 0 M47)) (fun _ => False)
set_option maxRecDepth 100000 in
theorem zs_X11_read__47 {l : Launch} {s0 : State} {a0 : Array Value} {G : va_G} {ca : Nat → ClassId} (Γ : rt_Γ l s0 a0 G ca) {d : Nat} {C : Nat × Nat} {S : zS} (hd : 1 ≤ d) (hok : zok C)  (hs : zSok S) {w0 : rt_Wd} {v1 : Int} {v2 : Int} {k0 : Int} {k1 : Int}  {M : zM} {Q : Nat × Nat → Int → zM → Prop} (h : zt_X11_read__47 l s0 G ca d C S w0  v1 v2 k0 k1 M Q) : zg_X11_read__47 l s0 G ca d C S w0  v1 v2 k0 k1 M Q := by
  unfold zt_X11_read__47 at h
  refine zc_callV Γ kk_X11_refused kc_RX11_60 (As := [zv s0 0 k1, zv s0 0 k0]) h (by omega) (by decide) (show (parseMethodDescriptor yX11_refused.desc).map (fun q => q.parameters.length) = some 2 by decide +kernel) hok (Nat.zero_le _) dX11_read__47 (by decide) (hs 84 _ rfl) rfl rfl (fun _ _ _ _ h9 => h9.elim) ?_
  clear h
  intro r47 M47 h
  show rt_Go _ _ _ _ _ _ _ _ _ _ _ _ 50 [(0, zv s0 2 84), (1, zv s0 0 v1), (2, zv s0 0 v2)] [zv s0 0 r47] (zw s0 ca C S M47)
  refine z_if_eq (tgt := 55) (x' := w32 r47) rfl dX11_read__50 (by decide) (fun c50 => ?_) (fun c50 => ?_)
  · replace h := h.1 c50
    refine z_aload_n dX11_read__55 rfl (j := 0) rfl ?_
    refine z_aload_n dX11_read__56 rfl (j := 0) rfl ?_
    refine z_getc Γ kf_RX11_20 dX11_read__57 (by decide) (hs 84 _ rfl) rfl ?_
    refine z_aload_n dX11_read__60 rfl (j := 0) rfl ?_
    refine z_get Γ kf_RX11_38 dX11_read__61 (by decide) (hs 84 _ rfl) rfl (by decide) (v9 := M47 84 9) rfl ?_
    refine zu_callV Γ kk_X11_read kc_RX11_191 (As := [zv s0 2 86, zv s0 0 (M47 84 9)]) h (by omega) (by decide) (show (parseMethodDescriptor yX11_read.desc).map (fun q => q.parameters.length) = some 2 by decide +kernel) hok (Nat.zero_le _) dX11_read__64 (by decide) (hs 84 _ rfl) rfl rfl ?_
    clear h
    intro C r64 M64 h
    obtain ⟨hok, h⟩ := h
    show rt_Go _ _ _ _ _ _ _ _ _ _ _ _ 67 [(0, zv s0 2 84), (1, zv s0 0 v1), (2, zv s0 0 v2)] [] (zw s0 ca C S M64)
    refine z_aload_n dX11_read__67 rfl (j := 0) rfl ?_
    refine z_aload_n dX11_read__68 rfl (j := 0) rfl ?_
    refine z_getc Γ kf_RX11_24 dX11_read__69 (by decide) (hs 84 _ rfl) rfl ?_
    refine z_iload_n dX11_read__72 rfl (j := 1) rfl ?_
    refine zu_callV Γ kk_X11_read kc_RX11_191 (As := [zv s0 2 108, zv s0 0 v1]) h (by omega) (by decide) (show (parseMethodDescriptor yX11_read.desc).map (fun q => q.parameters.length) = some 2 by decide +kernel) hok (Nat.zero_le _) dX11_read__73 (by decide) (hs 84 _ rfl) rfl rfl ?_
    clear h
    intro C r73 M73 h
    obtain ⟨hok, h⟩ := h
    show rt_Go _ _ _ _ _ _ _ _ _ _ _ _ 76 [(0, zv s0 2 84), (1, zv s0 0 v1), (2, zv s0 0 v2)] [] (zw s0 ca C S M73)
    refine z_aload_n dX11_read__76 rfl (j := 0) rfl ?_
    refine z_iconst dX11_read__77 ?_
    refine z_put0 Γ kp_RX11_253 dX11_read__78 (by decide) (hs 84 _ rfl) rfl (k9 := 24) rfl ?_
    refine z_aload_n dX11_read__81 rfl (j := 0) rfl ?_
    refine z_iconst dX11_read__82 ?_
    refine z_put0 Γ kp_RX11_198 dX11_read__83 (by decide) (hs 84 _ rfl) rfl (k9 := 13) rfl ?_
    refine z_aload_n dX11_read__86 rfl (j := 0) rfl ?_
    refine z_iconst dX11_read__87 ?_
    refine z_put0 Γ kp_RX11_115 dX11_read__88 (by decide) (hs 84 _ rfl) rfl (k9 := 15) rfl ?_
    refine z_aload_n dX11_read__91 rfl (j := 0) rfl ?_
    refine z_iload_n dX11_read__92 rfl (j := 2) rfl ?_
    refine zc_callV Γ kk_X11_pass kc_RX11_309 (As := [zv s0 0 v2]) h (by omega) (by decide) (show (parseMethodDescriptor yX11_pass.desc).map (fun q => q.parameters.length) = some 1 by decide +kernel) hok (Nat.zero_le _) dX11_read__93 (by decide) (hs 84 _ rfl) rfl rfl (fun _ _ _ _ h9 => h9.elim) ?_
    clear h
    intro r93 M93 h
    show rt_Go _ _ _ _ _ _ _ _ _ _ _ _ 96 [(0, zv s0 2 84), (1, zv s0 0 v1), (2, zv s0 0 v2)] [] (zw s0 ca C S M93)
    refine z_aload_n dX11_read__96 rfl (j := 0) rfl ?_
    refine z_sipush dX11_read__97 (by decide) ?_
    refine zu_callV Γ kk_X11_tellRow kc_RX11_312 (As := [zv s0 0 4096]) h (by omega) (by decide) (show (parseMethodDescriptor yX11_tellRow.desc).map (fun q => q.parameters.length) = some 1 by decide +kernel) hok (Nat.zero_le _) dX11_read__100 (by decide) (hs 84 _ rfl) rfl rfl ?_
    clear h
    intro C r100 M100 h
    obtain ⟨hok, h⟩ := h
    show rt_Go _ _ _ _ _ _ _ _ _ _ _ _ 103 [(0, zv s0 2 84), (1, zv s0 0 v1), (2, zv s0 0 v2)] [zv s0 0 r100] (zw s0 ca C S M100)
    refine z_istore (i := 4) (lv' := [(4, zv s0 0 r100), (0, zv s0 2 84), (1, zv s0 0 v1), (2, zv s0 0 v2)]) dX11_read__103 (by decide) (by simp [zv_cat0, zv_cat1, zv_cat2, zv_cats]) ?_
    refine z_iload dX11_read__105 (j := 0) rfl ?_
    refine z_if_ge (tgt := 113) (x' := w32 r100) rfl dX11_read__107 (by decide) (fun c107 => ?_) (fun c107 => ?_)
    · replace h := h.1 c107
      refine z_aload_n dX11_read__113 rfl (j := 1) rfl ?_
      refine z_aload_n dX11_read__114 rfl (j := 1) rfl ?_
      refine z_get Γ kf_RX11_115 dX11_read__115 (by decide) (hs 84 _ rfl) rfl (by decide) (v9 := M100 84 15) rfl ?_
      refine z_put0 Γ kp_RX11_198 dX11_read__118 (by decide) (hs 84 _ rfl) rfl (k9 := 13) rfl ?_
      refine z_iconst dX11_read__121 ?_
      refine z_istore (i := 5) (lv' := [(5, zv s0 0 0), (4, zv s0 0 r100), (0, zv s0 2 84), (1, zv s0 0 v1), (2, zv s0 0 v2)]) dX11_read__122 (by decide) (by simp [zv_cat0, zv_cat1, zv_cat2, zv_cats]) ?_
      exact rt_lfew [2, 0] rfl h
    · replace h := h.2 c107
      refine z_iload dX11_read__110 (j := 0) rfl ?_
      exact z_iretU dX11_read__112 rfl h
  · replace h := h.2 c50
    refine z_iconst dX11_read__53 ?_
    exact z_iretU dX11_read__54 rfl h
def zt_X11_read__46 (l : Launch) (s0 : State) (G : va_G) (ca : Nat → ClassId) (d : Nat) (C : Nat × Nat) (S : zS) (w0 : rt_Wd)  (v1 : Int) (v2 : Int) (k0 : Int) (M : zM) (Q : Nat × Nat → Int → zM → Prop) : Prop :=
  zt_X11_read__47 l s0 G ca d C S w0  v1 v2 0 k0 M Q
set_option maxRecDepth 100000 in
theorem zs_X11_read__46 {l : Launch} {s0 : State} {a0 : Array Value} {G : va_G} {ca : Nat → ClassId} (Γ : rt_Γ l s0 a0 G ca) {d : Nat} {C : Nat × Nat} {S : zS} (hd : 1 ≤ d) (hok : zok C)  (hs : zSok S) {w0 : rt_Wd} {v1 : Int} {v2 : Int} {k0 : Int}  {M : zM} {Q : Nat × Nat → Int → zM → Prop} (h : zt_X11_read__46 l s0 G ca d C S w0  v1 v2 k0 M Q) : zg_X11_read__46 l s0 G ca d C S w0  v1 v2 k0 M Q := by
  unfold zt_X11_read__46 at h
  refine z_iconst dX11_read__46 ?_
  exact rt_lfew [0, 1, 2] rfl (zs_X11_read__47 Γ hd hok hs  h)
def zt_X11_read__26 (l : Launch) (s0 : State) (G : va_G) (ca : Nat → ClassId) (d : Nat) (C : Nat × Nat) (S : zS) (w0 : rt_Wd)  (v1 : Int) (v2 : Int) (k0 : Int) (M : zM) (Q : Nat × Nat → Int → zM → Prop) : Prop :=
  zIf (w32 k0 = 0) ((0 ≤ v1 ∧ v1 < 8) ∧ (zIf (0 ≤ w32 (M 131 v1)) (zt_X11_read__46 l s0 G ca d C S w0  v1 v2 k0 M Q) (zt_X11_read__47 l s0 G ca d C S w0  v1 v2 1 k0 M Q))) (zt_X11_read__46 l s0 G ca d C S w0  v1 v2 k0 M Q)
set_option maxRecDepth 100000 in
theorem zs_X11_read__26 {l : Launch} {s0 : State} {a0 : Array Value} {G : va_G} {ca : Nat → ClassId} (Γ : rt_Γ l s0 a0 G ca) {d : Nat} {C : Nat × Nat} {S : zS} (hd : 1 ≤ d) (hok : zok C)  (hs : zSok S) {w0 : rt_Wd} {v1 : Int} {v2 : Int} {k0 : Int}  {M : zM} {Q : Nat × Nat → Int → zM → Prop} (h : zt_X11_read__26 l s0 G ca d C S w0  v1 v2 k0 M Q) : zg_X11_read__26 l s0 G ca d C S w0  v1 v2 k0 M Q := by
  unfold zt_X11_read__26 at h
  refine z_istore_n (i := 3) (lv' := [(3, zv s0 0 k0), (0, zv s0 2 84), (1, zv s0 0 v1), (2, zv s0 0 v2)]) dX11_read__26 rfl (by decide) (by simp [zv_cat0, zv_cat1, zv_cat2, zv_cats]) ?_
  refine z_aload_n dX11_read__27 rfl (j := 1) rfl ?_
  refine z_iload_n dX11_read__28 rfl (j := 0) rfl ?_
  refine z_iload_n dX11_read__29 rfl (j := 0) rfl ?_
  refine z_if_ne (tgt := 46) (x' := w32 k0) rfl dX11_read__30 (by decide) (fun c30 => ?_) (fun c30 => ?_)
  · replace h := h.2 c30
    exact rt_lfew [1, 2, 3] rfl (zs_X11_read__46 Γ hd hok hs  h)
  · replace h := h.1 c30
    refine z_aload_n dX11_read__33 rfl (j := 1) rfl ?_
    refine z_getc Γ kf_RX11_31 dX11_read__34 (by decide) (hs 84 _ rfl) rfl ?_
    refine z_iload_n dX11_read__37 rfl (j := 2) rfl ?_
    obtain ⟨hi38, h⟩ := h
    refine z_iald Γ dX11_read__38 (by decide) (hs 131 _ rfl) (by decide) hi38 (v9 := M 131 v1) rfl ?_
    refine z_if_ge (tgt := 46) (x' := w32 (M 131 v1)) rfl dX11_read__39 (by decide) (fun c39 => ?_) (fun c39 => ?_)
    · replace h := h.1 c39
      exact rt_lfew [1, 2, 3] rfl (zs_X11_read__46 Γ hd hok hs  h)
    · replace h := h.2 c39
      refine z_iconst dX11_read__42 ?_
      refine rt_goto (tgt := 47) dX11_read__43 (by decide) ?_
      exact rt_lfew [1, 2, 3] rfl (zs_X11_read__47 Γ hd hok hs  h)
def zt_X11_read__21 (l : Launch) (s0 : State) (G : va_G) (ca : Nat → ClassId) (d : Nat) (C : Nat × Nat) (S : zS) (w0 : rt_Wd)  (v1 : Int) (v2 : Int)  (M : zM) (Q : Nat × Nat → Int → zM → Prop) : Prop :=
  zt_X11_read__26 l s0 G ca d C S w0  v1 v2 1 M Q
set_option maxRecDepth 100000 in
theorem zs_X11_read__21 {l : Launch} {s0 : State} {a0 : Array Value} {G : va_G} {ca : Nat → ClassId} (Γ : rt_Γ l s0 a0 G ca) {d : Nat} {C : Nat × Nat} {S : zS} (hd : 1 ≤ d) (hok : zok C)  (hs : zSok S) {w0 : rt_Wd} {v1 : Int} {v2 : Int}   {M : zM} {Q : Nat × Nat → Int → zM → Prop} (h : zt_X11_read__21 l s0 G ca d C S w0  v1 v2 M Q) : zg_X11_read__21 l s0 G ca d C S w0  v1 v2 M Q := by
  unfold zt_X11_read__21 at h
  refine z_iconst dX11_read__21 ?_
  refine rt_goto (tgt := 26) dX11_read__22 (by decide) ?_
  exact rt_lfew [0, 1, 2] rfl (zs_X11_read__26 Γ hd hok hs  h)
def zt_X11_read__124 (l : Launch) (s0 : State) (G : va_G) (ca : Nat → ClassId) (d : Nat) (C : Nat × Nat) (S : zS) (w0 : rt_Wd)  (v5 : Int)  (M : zM) (Q : Nat × Nat → Int → zM → Prop) : Prop :=
  zIf (w32 (M 84 13) ≤ w32 v5) (Q C (M 84 13) M) ((0 ≤ v5 ∧ v5 < 4200) ∧ (zg_X11_read__124 l s0 G ca d C S w0  (v5 + 1) ((zu M 133 v5 (w8 (M 134 v5)))) Q))
set_option maxRecDepth 100000 in
theorem zs_X11_read__124 {l : Launch} {s0 : State} {a0 : Array Value} {G : va_G} {ca : Nat → ClassId} (Γ : rt_Γ l s0 a0 G ca) {d : Nat} {C : Nat × Nat} {S : zS} (hd : 1 ≤ d) (hok : zok C)  (hs : zSok S) {w0 : rt_Wd} {v5 : Int}   {M : zM} {Q : Nat × Nat → Int → zM → Prop} (h : zt_X11_read__124 l s0 G ca d C S w0  v5 M Q) : zg_X11_read__124 l s0 G ca d C S w0  v5 M Q := by
  unfold zt_X11_read__124 at h
  refine z_iload dX11_read__124 (j := 1) rfl ?_
  refine z_aload_n dX11_read__126 rfl (j := 0) rfl ?_
  refine z_get Γ kf_RX11_198 dX11_read__127 (by decide) (hs 84 _ rfl) rfl (by decide) (v9 := M 84 13) rfl ?_
  refine z_icmp_ge (tgt := 153) (x' := w32 v5) (y' := w32 (M 84 13)) rfl rfl dX11_read__130 (by decide) (fun c130 => ?_) (fun c130 => ?_)
  · replace h := h.1 c130
    refine z_aload_n dX11_read__153 rfl (j := 0) rfl ?_
    refine z_get Γ kf_RX11_198 dX11_read__154 (by decide) (hs 84 _ rfl) rfl (by decide) (v9 := M 84 13) rfl ?_
    exact z_iretU dX11_read__157 rfl h
  · replace h := h.2 c130
    refine z_aload_n dX11_read__133 rfl (j := 0) rfl ?_
    refine z_getc Γ kf_RX11_41 dX11_read__134 (by decide) (hs 84 _ rfl) rfl ?_
    refine z_iload dX11_read__137 (j := 1) rfl ?_
    refine z_aload_n dX11_read__139 rfl (j := 0) rfl ?_
    refine z_getc Γ kf_RX11_44 dX11_read__140 (by decide) (hs 84 _ rfl) rfl ?_
    refine z_iload dX11_read__143 (j := 1) rfl ?_
    obtain ⟨hi145, h⟩ := h
    refine z_bald Γ dX11_read__145 (by decide) (hs 134 _ rfl) (by decide) hi145 (v9 := M 134 v5) rfl ?_
    refine z_bast Γ dX11_read__146 (by decide) (hs 133 _ rfl) (by decide) hi145 ?_
    refine z_iinc (lv' := [(5, zv s0 0 (v5 + 1)), (0, zv s0 2 84)]) dX11_read__147 (j := 1) rfl (by decide) (by simp [zv_cat0, zv_cat1, zv_cat2, zv_cats]) ?_
    refine rt_goto (tgt := 124) dX11_read__150 (by decide) ?_
    exact rt_lfew [1, 0] rfl h
def zt_X11_read_ (l : Launch) (s0 : State) (G : va_G) (ca : Nat → ClassId) (d : Nat) (C : Nat × Nat) (S : zS) (w0 : rt_Wd)  (p : Int) (i : Int) (M : zM) (Q : Nat × Nat → Int → zM → Prop) : Prop :=
  zm_X11_isPlace l s0 G ca (d - 1) C S p M (fun r1 M1 => zIf (w32 r1 = 0) (zt_X11_read__21 l s0 G ca d C S w0  p i M1 Q) (zm_X11_within l s0 G ca (d - 1) C S i 0 ((M1 84 10) - 1) M1 (fun r15 M15 => zIf (w32 r15 = 0) (zt_X11_read__21 l s0 G ca d C S w0  p i M15 Q) (zt_X11_read__26 l s0 G ca d C S w0  p i 0 M15 Q)) (fun _ => False))) (fun _ => False)
set_option maxRecDepth 100000 in
theorem z_X11_read_ {l : Launch} {s0 : State} {a0 : Array Value} {G : va_G} {ca : Nat → ClassId} (Γ : rt_Γ l s0 a0 G ca) {d : Nat} {C : Nat × Nat} {S : zS} (hd : 1 ≤ d) (hok : zok C)  (hs : zSok S) {p : Int} {i : Int} {M : zM} {Q : Nat × Nat → Int → zM → Prop} (h : zt_X11_read_ l s0 G ca d C S (zw s0 ca C S M)  p i M Q) : zu_X11_read_ l s0 G ca d C S  p i M Q := by
  refine z_metU (lv := [(0, zv s0 2 84), (1, zv s0 0 p), (2, zv s0 0 i)]) Γ kk_X11_read_ rfl (show (lg_sl [zv s0 2 84, zv s0 0 p, zv s0 0 i]).length ≤ 6 from by simp only [zn_0, zn_2, show (lg_sl []).length = 0 from rfl]; omega) (show lv_args 0 [zv s0 2 84, zv s0 0 p, zv s0 0 i] = [(0, zv s0 2 84), (1, zv s0 0 p), (2, zv s0 0 i)] from by rw [zl_2, zl_0, zl_0]; rfl) ?_
  unfold zt_X11_read_ at h
  refine z_iload_n dX11_read__0 rfl (j := 1) rfl ?_
  refine zc_callS Γ kk_X11_isPlace kc_RX11_76 (As := [zv s0 0 p]) h (by omega) (by decide) (show (parseMethodDescriptor yX11_isPlace.desc).map (fun q => q.parameters.length) = some 1 by decide +kernel) hok (Nat.zero_le _) dX11_read__1 rfl (fun _ _ _ _ h9 => h9.elim) ?_
  clear h
  intro r1 M1 h
  show rt_Go _ _ _ _ _ _ _ _ _ _ _ _ 4 [(0, zv s0 2 84), (1, zv s0 0 p), (2, zv s0 0 i)] [zv s0 0 r1] (zw s0 ca C S M1)
  refine z_if_eq (tgt := 21) (x' := w32 r1) rfl dX11_read__4 (by decide) (fun c4 => ?_) (fun c4 => ?_)
  · replace h := h.1 c4
    exact rt_lfew [0, 1, 2] rfl (zs_X11_read__21 Γ hd hok hs  h)
  · replace h := h.2 c4
    refine z_iload_n dX11_read__7 rfl (j := 2) rfl ?_
    refine z_iconst dX11_read__8 ?_
    refine z_aload_n dX11_read__9 rfl (j := 0) rfl ?_
    refine z_get Γ kf_RX11_81 dX11_read__10 (by decide) (hs 84 _ rfl) rfl (by decide) (v9 := M1 84 10) rfl ?_
    refine z_iconst dX11_read__13 ?_
    refine z_isub dX11_read__14 ?_
    refine zc_callS Γ kk_X11_within kc_RX11_68 (As := [zv s0 0 i, zv s0 0 0, zv s0 0 ((M1 84 10) - 1)]) h (by omega) (by decide) (show (parseMethodDescriptor yX11_within.desc).map (fun q => q.parameters.length) = some 3 by decide +kernel) hok (Nat.zero_le _) dX11_read__15 rfl (fun _ _ _ _ h9 => h9.elim) ?_
    clear h
    intro r15 M15 h
    show rt_Go _ _ _ _ _ _ _ _ _ _ _ _ 18 [(0, zv s0 2 84), (1, zv s0 0 p), (2, zv s0 0 i)] [zv s0 0 r15] (zw s0 ca C S M15)
    refine z_if_ne (tgt := 25) (x' := w32 r15) rfl dX11_read__18 (by decide) (fun c18 => ?_) (fun c18 => ?_)
    · replace h := h.2 c18
      refine z_iconst dX11_read__25 ?_
      exact rt_lfew [0, 1, 2] rfl (zs_X11_read__26 Γ hd hok hs  h)
    · replace h := h.1 c18
      exact rt_lfew [0, 1, 2] rfl (zs_X11_read__21 Γ hd hok hs  h)
abbrev zg_X11_all_13 (l : Launch) (s0 : State) (G : va_G) (ca : Nat → ClassId) (d : Nat) (C : Nat × Nat) (S : zS) (w0 : rt_Wd)  (v1 : Int) (k0 : Int) (M : zM) (Q : Nat × Nat → Int → zM → Prop) : Prop := rt_Go l s0 G RX11 "all" cX11_all 4 (Option.some FieldType.int) [] d w0 (zQu s0 ca 0 S Q) 13 [(0, zv s0 2 84), (1, zv s0 0 v1)] [zv s0 0 k0, zv s0 2 84] (zw s0 ca C S M)
abbrev zg_X11_all_33 (l : Launch) (s0 : State) (G : va_G) (ca : Nat → ClassId) (d : Nat) (C : Nat × Nat) (S : zS) (w0 : rt_Wd)  (v1 : Int) (k0 : Int) (M : zM) (Q : Nat × Nat → Int → zM → Prop) : Prop := rt_Go l s0 G RX11 "all" cX11_all 4 (Option.some FieldType.int) [] d w0 (zQu s0 ca 0 S Q) 33 [(0, zv s0 2 84), (1, zv s0 0 v1)] [zv s0 0 k0, zv s0 2 84] (zw s0 ca C S M)
abbrev zg_X11_all_34 (l : Launch) (s0 : State) (G : va_G) (ca : Nat → ClassId) (d : Nat) (C : Nat × Nat) (S : zS) (w0 : rt_Wd)  (v1 : Int) (k0 : Int) (k1 : Int) (M : zM) (Q : Nat × Nat → Int → zM → Prop) : Prop := rt_Go l s0 G RX11 "all" cX11_all 4 (Option.some FieldType.int) [] d w0 (zQu s0 ca 0 S Q) 34 [(0, zv s0 2 84), (1, zv s0 0 v1)] [zv s0 0 k0, zv s0 0 k1, zv s0 2 84] (zw s0 ca C S M)
abbrev zg_X11_all_81 (l : Launch) (s0 : State) (G : va_G) (ca : Nat → ClassId) (d : Nat) (C : Nat × Nat) (S : zS) (w0 : rt_Wd)  (v2 : Int) (v3 : Int)  (M : zM) (Q : Nat × Nat → Int → zM → Prop) : Prop := rt_Go l s0 G RX11 "all" cX11_all 4 (Option.some FieldType.int) [] d w0 (zQu s0 ca 0 S Q) 81 [(0, zv s0 2 84), (2, zv s0 0 v2), (3, zv s0 0 v3)] [] (zw s0 ca C S M)
abbrev zg_X11_all_113 (l : Launch) (s0 : State) (G : va_G) (ca : Nat → ClassId) (d : Nat) (C : Nat × Nat) (S : zS) (w0 : rt_Wd)  (v2 : Int) (k0 : Int) (M : zM) (Q : Nat × Nat → Int → zM → Prop) : Prop := rt_Go l s0 G RX11 "all" cX11_all 4 (Option.some FieldType.int) [] d w0 (zQu s0 ca 0 S Q) 113 [(0, zv s0 2 84), (2, zv s0 0 v2)] [zv s0 0 k0] (zw s0 ca C S M)
def zt_X11_all_34 (l : Launch) (s0 : State) (G : va_G) (ca : Nat → ClassId) (d : Nat) (C : Nat × Nat) (S : zS) (w0 : rt_Wd)  (v1 : Int) (k0 : Int) (k1 : Int) (M : zM) (Q : Nat × Nat → Int → zM → Prop) : Prop :=
  zm_X11_refused l s0 G ca (d - 1) C S k1 k0 M (fun r34 M34 => zIf (w32 r34 = 0) (zIf (w32 (M34 84 10) = 0) (Q C 0 M34) (zu_X11_read l s0 G ca (d - 1) C S 86 (M34 84 9) M34 (fun C r60 M60 => zok C ∧ (zu_X11_read l s0 G ca (d - 1) C S 108 v1 M60 (fun C r69 M69 => zok C ∧ (zg_X11_all_81 l s0 G ca d C S w0  0 1 ((zu M69 84 24 0)) Q)))))) (Q C 0 M34)) (fun _ => False)
set_option maxRecDepth 100000 in
theorem zs_X11_all_34 {l : Launch} {s0 : State} {a0 : Array Value} {G : va_G} {ca : Nat → ClassId} (Γ : rt_Γ l s0 a0 G ca) {d : Nat} {C : Nat × Nat} {S : zS} (hd : 1 ≤ d) (hok : zok C)  (hs : zSok S) {w0 : rt_Wd} {v1 : Int} {k0 : Int} {k1 : Int}  {M : zM} {Q : Nat × Nat → Int → zM → Prop} (h : zt_X11_all_34 l s0 G ca d C S w0  v1 k0 k1 M Q) : zg_X11_all_34 l s0 G ca d C S w0  v1 k0 k1 M Q := by
  unfold zt_X11_all_34 at h
  refine zc_callV Γ kk_X11_refused kc_RX11_60 (As := [zv s0 0 k1, zv s0 0 k0]) h (by omega) (by decide) (show (parseMethodDescriptor yX11_refused.desc).map (fun q => q.parameters.length) = some 2 by decide +kernel) hok (Nat.zero_le _) dX11_all_34 (by decide) (hs 84 _ rfl) rfl rfl (fun _ _ _ _ h9 => h9.elim) ?_
  clear h
  intro r34 M34 h
  show rt_Go _ _ _ _ _ _ _ _ _ _ _ _ 37 [(0, zv s0 2 84), (1, zv s0 0 v1)] [zv s0 0 r34] (zw s0 ca C S M34)
  refine z_if_eq (tgt := 42) (x' := w32 r34) rfl dX11_all_37 (by decide) (fun c37 => ?_) (fun c37 => ?_)
  · replace h := h.1 c37
    refine z_aload_n dX11_all_42 rfl (j := 0) rfl ?_
    refine z_get Γ kf_RX11_81 dX11_all_43 (by decide) (hs 84 _ rfl) rfl (by decide) (v9 := M34 84 10) rfl ?_
    refine z_if_ne (tgt := 51) (x' := w32 (M34 84 10)) rfl dX11_all_46 (by decide) (fun c46 => ?_) (fun c46 => ?_)
    · replace h := h.2 c46
      refine z_aload_n dX11_all_51 rfl (j := 0) rfl ?_
      refine z_aload_n dX11_all_52 rfl (j := 0) rfl ?_
      refine z_getc Γ kf_RX11_20 dX11_all_53 (by decide) (hs 84 _ rfl) rfl ?_
      refine z_aload_n dX11_all_56 rfl (j := 0) rfl ?_
      refine z_get Γ kf_RX11_38 dX11_all_57 (by decide) (hs 84 _ rfl) rfl (by decide) (v9 := M34 84 9) rfl ?_
      refine zu_callV Γ kk_X11_read kc_RX11_191 (As := [zv s0 2 86, zv s0 0 (M34 84 9)]) h (by omega) (by decide) (show (parseMethodDescriptor yX11_read.desc).map (fun q => q.parameters.length) = some 2 by decide +kernel) hok (Nat.zero_le _) dX11_all_60 (by decide) (hs 84 _ rfl) rfl rfl ?_
      clear h
      intro C r60 M60 h
      obtain ⟨hok, h⟩ := h
      show rt_Go _ _ _ _ _ _ _ _ _ _ _ _ 63 [(0, zv s0 2 84), (1, zv s0 0 v1)] [] (zw s0 ca C S M60)
      refine z_aload_n dX11_all_63 rfl (j := 0) rfl ?_
      refine z_aload_n dX11_all_64 rfl (j := 0) rfl ?_
      refine z_getc Γ kf_RX11_24 dX11_all_65 (by decide) (hs 84 _ rfl) rfl ?_
      refine z_iload_n dX11_all_68 rfl (j := 1) rfl ?_
      refine zu_callV Γ kk_X11_read kc_RX11_191 (As := [zv s0 2 108, zv s0 0 v1]) h (by omega) (by decide) (show (parseMethodDescriptor yX11_read.desc).map (fun q => q.parameters.length) = some 2 by decide +kernel) hok (Nat.zero_le _) dX11_all_69 (by decide) (hs 84 _ rfl) rfl rfl ?_
      clear h
      intro C r69 M69 h
      obtain ⟨hok, h⟩ := h
      show rt_Go _ _ _ _ _ _ _ _ _ _ _ _ 72 [(0, zv s0 2 84), (1, zv s0 0 v1)] [] (zw s0 ca C S M69)
      refine z_iconst dX11_all_72 ?_
      refine z_istore_n (i := 2) (lv' := [(2, zv s0 0 0), (0, zv s0 2 84), (1, zv s0 0 v1)]) dX11_all_73 rfl (by decide) (by simp [zv_cat0, zv_cat1, zv_cat2, zv_cats]) ?_
      refine z_aload_n dX11_all_74 rfl (j := 1) rfl ?_
      refine z_iconst dX11_all_75 ?_
      refine z_put0 Γ kp_RX11_253 dX11_all_76 (by decide) (hs 84 _ rfl) rfl (k9 := 24) rfl ?_
      refine z_iconst dX11_all_79 ?_
      refine z_istore_n (i := 3) (lv' := [(3, zv s0 0 1), (2, zv s0 0 0), (0, zv s0 2 84), (1, zv s0 0 v1)]) dX11_all_80 rfl (by decide) (by simp [zv_cat0, zv_cat1, zv_cat2, zv_cats]) ?_
      exact rt_lfew [2, 1, 0] rfl h
    · replace h := h.1 c46
      refine z_iconst dX11_all_49 ?_
      exact z_iretU dX11_all_50 rfl h
  · replace h := h.2 c37
    refine z_iconst dX11_all_40 ?_
    exact z_iretU dX11_all_41 rfl h
def zt_X11_all_33 (l : Launch) (s0 : State) (G : va_G) (ca : Nat → ClassId) (d : Nat) (C : Nat × Nat) (S : zS) (w0 : rt_Wd)  (v1 : Int) (k0 : Int) (M : zM) (Q : Nat × Nat → Int → zM → Prop) : Prop :=
  zt_X11_all_34 l s0 G ca d C S w0  v1 0 k0 M Q
set_option maxRecDepth 100000 in
theorem zs_X11_all_33 {l : Launch} {s0 : State} {a0 : Array Value} {G : va_G} {ca : Nat → ClassId} (Γ : rt_Γ l s0 a0 G ca) {d : Nat} {C : Nat × Nat} {S : zS} (hd : 1 ≤ d) (hok : zok C)  (hs : zSok S) {w0 : rt_Wd} {v1 : Int} {k0 : Int}  {M : zM} {Q : Nat × Nat → Int → zM → Prop} (h : zt_X11_all_33 l s0 G ca d C S w0  v1 k0 M Q) : zg_X11_all_33 l s0 G ca d C S w0  v1 k0 M Q := by
  unfold zt_X11_all_33 at h
  refine z_iconst dX11_all_33 ?_
  exact rt_lfew [0, 1] rfl (zs_X11_all_34 Γ hd hok hs  h)
def zt_X11_all_13 (l : Launch) (s0 : State) (G : va_G) (ca : Nat → ClassId) (d : Nat) (C : Nat × Nat) (S : zS) (w0 : rt_Wd)  (v1 : Int) (k0 : Int) (M : zM) (Q : Nat × Nat → Int → zM → Prop) : Prop :=
  zm_X11_isPlace l s0 G ca (d - 1) C S v1 M (fun r14 M14 => zIf (w32 r14 = 0) (zt_X11_all_33 l s0 G ca d C S w0  v1 k0 M14 Q) ((0 ≤ v1 ∧ v1 < 8) ∧ (zIf (0 ≤ w32 (M14 131 v1)) (zt_X11_all_33 l s0 G ca d C S w0  v1 k0 M14 Q) (zt_X11_all_34 l s0 G ca d C S w0  v1 1 k0 M14 Q)))) (fun _ => False)
set_option maxRecDepth 100000 in
theorem zs_X11_all_13 {l : Launch} {s0 : State} {a0 : Array Value} {G : va_G} {ca : Nat → ClassId} (Γ : rt_Γ l s0 a0 G ca) {d : Nat} {C : Nat × Nat} {S : zS} (hd : 1 ≤ d) (hok : zok C)  (hs : zSok S) {w0 : rt_Wd} {v1 : Int} {k0 : Int}  {M : zM} {Q : Nat × Nat → Int → zM → Prop} (h : zt_X11_all_13 l s0 G ca d C S w0  v1 k0 M Q) : zg_X11_all_13 l s0 G ca d C S w0  v1 k0 M Q := by
  unfold zt_X11_all_13 at h
  refine z_iload_n dX11_all_13 rfl (j := 1) rfl ?_
  refine zc_callS Γ kk_X11_isPlace kc_RX11_76 (As := [zv s0 0 v1]) h (by omega) (by decide) (show (parseMethodDescriptor yX11_isPlace.desc).map (fun q => q.parameters.length) = some 1 by decide +kernel) hok (by simp only [List.map, zv_cat0, zv_cat1, zv_cat2, List.sum_cons, List.sum_nil]; decide) dX11_all_14 rfl (fun _ _ _ _ h9 => h9.elim) ?_
  clear h
  intro r14 M14 h
  show rt_Go _ _ _ _ _ _ _ _ _ _ _ _ 17 [(0, zv s0 2 84), (1, zv s0 0 v1)] [zv s0 0 r14, zv s0 0 k0, zv s0 2 84] (zw s0 ca C S M14)
  refine z_if_eq (tgt := 33) (x' := w32 r14) rfl dX11_all_17 (by decide) (fun c17 => ?_) (fun c17 => ?_)
  · replace h := h.1 c17
    exact rt_lfew [0, 1] rfl (zs_X11_all_33 Γ hd hok hs  h)
  · replace h := h.2 c17
    refine z_aload_n dX11_all_20 rfl (j := 0) rfl ?_
    refine z_getc Γ kf_RX11_31 dX11_all_21 (by decide) (hs 84 _ rfl) rfl ?_
    refine z_iload_n dX11_all_24 rfl (j := 1) rfl ?_
    obtain ⟨hi25, h⟩ := h
    refine z_iald Γ dX11_all_25 (by decide) (hs 131 _ rfl) (by decide) hi25 (v9 := M14 131 v1) rfl ?_
    refine z_if_ge (tgt := 33) (x' := w32 (M14 131 v1)) rfl dX11_all_26 (by decide) (fun c26 => ?_) (fun c26 => ?_)
    · replace h := h.1 c26
      exact rt_lfew [0, 1] rfl (zs_X11_all_33 Γ hd hok hs  h)
    · replace h := h.2 c26
      refine z_iconst dX11_all_29 ?_
      refine rt_goto (tgt := 34) dX11_all_30 (by decide) ?_
      exact rt_lfew [0, 1] rfl (zs_X11_all_34 Γ hd hok hs  h)
def zt_X11_all_113 (l : Launch) (s0 : State) (G : va_G) (ca : Nat → ClassId) (d : Nat) (C : Nat × Nat) (S : zS) (w0 : rt_Wd)  (v2 : Int) (k0 : Int) (M : zM) (Q : Nat × Nat → Int → zM → Prop) : Prop :=
  zIf (w32 k0 = 0) (zg_X11_all_81 l s0 G ca d C S w0  v2 k0 M Q) (zg_X11_all_81 l s0 G ca d C S w0  (v2 + 1) k0 M Q)
set_option maxRecDepth 100000 in
theorem zs_X11_all_113 {l : Launch} {s0 : State} {a0 : Array Value} {G : va_G} {ca : Nat → ClassId} (Γ : rt_Γ l s0 a0 G ca) {d : Nat} {C : Nat × Nat} {S : zS} (hd : 1 ≤ d) (hok : zok C)  (hs : zSok S) {w0 : rt_Wd} {v2 : Int} {k0 : Int}  {M : zM} {Q : Nat × Nat → Int → zM → Prop} (h : zt_X11_all_113 l s0 G ca d C S w0  v2 k0 M Q) : zg_X11_all_113 l s0 G ca d C S w0  v2 k0 M Q := by
  unfold zt_X11_all_113 at h
  refine z_istore_n (i := 3) (lv' := [(3, zv s0 0 k0), (0, zv s0 2 84), (2, zv s0 0 v2)]) dX11_all_113 rfl (by decide) (by simp [zv_cat0, zv_cat1, zv_cat2, zv_cats]) ?_
  refine z_iload_n dX11_all_114 rfl (j := 0) rfl ?_
  refine z_if_eq (tgt := 124) (x' := w32 k0) rfl dX11_all_115 (by decide) (fun c115 => ?_) (fun c115 => ?_)
  · replace h := h.1 c115
    refine z_iload_n dX11_all_124 rfl (j := 2) rfl ?_
    refine z_istore_n (i := 2) (lv' := [(2, zv s0 0 v2), (3, zv s0 0 k0), (0, zv s0 2 84)]) dX11_all_125 rfl (by decide) (by simp [zv_cat0, zv_cat1, zv_cat2, zv_cats]) ?_
    refine rt_goto (tgt := 81) dX11_all_126 (by decide) ?_
    exact rt_lfew [2, 0, 1] rfl h
  · replace h := h.2 c115
    refine z_iload_n dX11_all_118 rfl (j := 2) rfl ?_
    refine z_iconst dX11_all_119 ?_
    refine z_iadd dX11_all_120 ?_
    refine rt_goto (tgt := 125) dX11_all_121 (by decide) ?_
    refine z_istore_n (i := 2) (lv' := [(2, zv s0 0 (v2 + 1)), (3, zv s0 0 k0), (0, zv s0 2 84)]) dX11_all_125 rfl (by decide) (by simp [zv_cat0, zv_cat1, zv_cat2, zv_cats]) ?_
    refine rt_goto (tgt := 81) dX11_all_126 (by decide) ?_
    exact rt_lfew [2, 0, 1] rfl h
def zt_X11_all_81 (l : Launch) (s0 : State) (G : va_G) (ca : Nat → ClassId) (d : Nat) (C : Nat × Nat) (S : zS) (w0 : rt_Wd)  (v2 : Int) (v3 : Int)  (M : zM) (Q : Nat × Nat → Int → zM → Prop) : Prop :=
  zIf (w32 v3 = 0) (Q C v2 M) (zIf (w32 (M 84 10) ≤ w32 v2) (Q C v2 M) (zu_X11_tellRow l s0 G ca (d - 1) C S 4096 ((zu M 84 15 0)) (fun C r102 M102 => zok C ∧ (zIf (w32 r102 = 0) (zt_X11_all_113 l s0 G ca d C S w0  v2 1 M102 Q) (zt_X11_all_113 l s0 G ca d C S w0  v2 0 M102 Q)))))
set_option maxRecDepth 100000 in
theorem zs_X11_all_81 {l : Launch} {s0 : State} {a0 : Array Value} {G : va_G} {ca : Nat → ClassId} (Γ : rt_Γ l s0 a0 G ca) {d : Nat} {C : Nat × Nat} {S : zS} (hd : 1 ≤ d) (hok : zok C)  (hs : zSok S) {w0 : rt_Wd} {v2 : Int} {v3 : Int}   {M : zM} {Q : Nat × Nat → Int → zM → Prop} (h : zt_X11_all_81 l s0 G ca d C S w0  v2 v3 M Q) : zg_X11_all_81 l s0 G ca d C S w0  v2 v3 M Q := by
  unfold zt_X11_all_81 at h
  refine z_iload_n dX11_all_81 rfl (j := 2) rfl ?_
  refine z_if_eq (tgt := 129) (x' := w32 v3) rfl dX11_all_82 (by decide) (fun c82 => ?_) (fun c82 => ?_)
  · replace h := h.1 c82
    refine z_iload_n dX11_all_129 rfl (j := 1) rfl ?_
    exact z_iretU dX11_all_130 rfl h
  · replace h := h.2 c82
    refine z_iload_n dX11_all_85 rfl (j := 1) rfl ?_
    refine z_aload_n dX11_all_86 rfl (j := 0) rfl ?_
    refine z_get Γ kf_RX11_81 dX11_all_87 (by decide) (hs 84 _ rfl) rfl (by decide) (v9 := M 84 10) rfl ?_
    refine z_icmp_ge (tgt := 129) (x' := w32 v2) (y' := w32 (M 84 10)) rfl rfl dX11_all_90 (by decide) (fun c90 => ?_) (fun c90 => ?_)
    · replace h := h.1 c90
      refine z_iload_n dX11_all_129 rfl (j := 1) rfl ?_
      exact z_iretU dX11_all_130 rfl h
    · replace h := h.2 c90
      refine z_aload_n dX11_all_93 rfl (j := 0) rfl ?_
      refine z_iconst dX11_all_94 ?_
      refine z_put0 Γ kp_RX11_115 dX11_all_95 (by decide) (hs 84 _ rfl) rfl (k9 := 15) rfl ?_
      refine z_aload_n dX11_all_98 rfl (j := 0) rfl ?_
      refine z_sipush dX11_all_99 (by decide) ?_
      refine zu_callV Γ kk_X11_tellRow kc_RX11_312 (As := [zv s0 0 4096]) h (by omega) (by decide) (show (parseMethodDescriptor yX11_tellRow.desc).map (fun q => q.parameters.length) = some 1 by decide +kernel) hok (Nat.zero_le _) dX11_all_102 (by decide) (hs 84 _ rfl) rfl rfl ?_
      clear h
      intro C r102 M102 h
      obtain ⟨hok, h⟩ := h
      show rt_Go _ _ _ _ _ _ _ _ _ _ _ _ 105 [(0, zv s0 2 84), (2, zv s0 0 v2), (3, zv s0 0 v3)] [zv s0 0 r102] (zw s0 ca C S M102)
      refine z_if_ne (tgt := 112) (x' := w32 r102) rfl dX11_all_105 (by decide) (fun c105 => ?_) (fun c105 => ?_)
      · replace h := h.2 c105
        refine z_iconst dX11_all_112 ?_
        exact rt_lfew [0, 1] rfl (zs_X11_all_113 Γ hd hok hs  h)
      · replace h := h.1 c105
        refine z_iconst dX11_all_108 ?_
        refine rt_goto (tgt := 113) dX11_all_109 (by decide) ?_
        exact rt_lfew [0, 1] rfl (zs_X11_all_113 Γ hd hok hs  h)
def zt_X11_all (l : Launch) (s0 : State) (G : va_G) (ca : Nat → ClassId) (d : Nat) (C : Nat × Nat) (S : zS) (w0 : rt_Wd)  (p : Int) (M : zM) (Q : Nat × Nat → Int → zM → Prop) : Prop :=
  zm_X11_isPlace l s0 G ca (d - 1) C S p M (fun r2 M2 => zIf (w32 r2 = 0) (zt_X11_all_13 l s0 G ca d C S w0  p 1 M2 Q) (zt_X11_all_13 l s0 G ca d C S w0  p 0 M2 Q)) (fun _ => False)
set_option maxRecDepth 100000 in
theorem z_X11_all {l : Launch} {s0 : State} {a0 : Array Value} {G : va_G} {ca : Nat → ClassId} (Γ : rt_Γ l s0 a0 G ca) {d : Nat} {C : Nat × Nat} {S : zS} (hd : 1 ≤ d) (hok : zok C)  (hs : zSok S) {p : Int} {M : zM} {Q : Nat × Nat → Int → zM → Prop} (h : zt_X11_all l s0 G ca d C S (zw s0 ca C S M)  p M Q) : zu_X11_all l s0 G ca d C S  p M Q := by
  refine z_metU (lv := [(0, zv s0 2 84), (1, zv s0 0 p)]) Γ kk_X11_all rfl (show (lg_sl [zv s0 2 84, zv s0 0 p]).length ≤ 4 from by simp only [zn_0, zn_2, show (lg_sl []).length = 0 from rfl]; omega) (show lv_args 0 [zv s0 2 84, zv s0 0 p] = [(0, zv s0 2 84), (1, zv s0 0 p)] from by rw [zl_2, zl_0]; rfl) ?_
  unfold zt_X11_all at h
  refine z_aload_n dX11_all_0 rfl (j := 0) rfl ?_
  refine z_iload_n dX11_all_1 rfl (j := 1) rfl ?_
  refine zc_callS Γ kk_X11_isPlace kc_RX11_76 (As := [zv s0 0 p]) h (by omega) (by decide) (show (parseMethodDescriptor yX11_isPlace.desc).map (fun q => q.parameters.length) = some 1 by decide +kernel) hok (by simp only [List.map, zv_cat0, zv_cat1, zv_cat2, List.sum_cons, List.sum_nil]; decide) dX11_all_2 rfl (fun _ _ _ _ h9 => h9.elim) ?_
  clear h
  intro r2 M2 h
  show rt_Go _ _ _ _ _ _ _ _ _ _ _ _ 5 [(0, zv s0 2 84), (1, zv s0 0 p)] [zv s0 0 r2, zv s0 2 84] (zw s0 ca C S M2)
  refine z_if_ne (tgt := 12) (x' := w32 r2) rfl dX11_all_5 (by decide) (fun c5 => ?_) (fun c5 => ?_)
  · replace h := h.2 c5
    refine z_iconst dX11_all_12 ?_
    exact rt_lfew [0, 1] rfl (zs_X11_all_13 Γ hd hok hs  h)
  · replace h := h.1 c5
    refine z_iconst dX11_all_8 ?_
    refine rt_goto (tgt := 13) dX11_all_9 (by decide) ?_
    exact rt_lfew [0, 1] rfl (zs_X11_all_13 Γ hd hok hs  h)
abbrev zg_X11_fits_15 (l : Launch) (s0 : State) (G : va_G) (ca : Nat → ClassId) (d : Nat) (C : Nat × Nat) (S : zS) (w0 : rt_Wd)  (v1 : Int) (v2 : Int)  (M : zM) (Q : Nat × Nat → Int → zM → Prop) : Prop := rt_Go l s0 G RX11 "fits" cX11_fits 3 (Option.some FieldType.boolean) [] d w0 (zQu s0 ca 0 S Q) 15 [(0, zv s0 2 84), (1, zv s0 0 v1), (2, zv s0 0 v2)] [zv s0 2 84] (zw s0 ca C S M)
abbrev zg_X11_fits_20 (l : Launch) (s0 : State) (G : va_G) (ca : Nat → ClassId) (d : Nat) (C : Nat × Nat) (S : zS) (w0 : rt_Wd)  (v1 : Int) (v2 : Int) (k0 : Int) (M : zM) (Q : Nat × Nat → Int → zM → Prop) : Prop := rt_Go l s0 G RX11 "fits" cX11_fits 3 (Option.some FieldType.boolean) [] d w0 (zQu s0 ca 0 S Q) 20 [(0, zv s0 2 84), (1, zv s0 0 v1), (2, zv s0 0 v2)] [zv s0 0 k0, zv s0 2 84] (zw s0 ca C S M)
abbrev zg_X11_fits_52 (l : Launch) (s0 : State) (G : va_G) (ca : Nat → ClassId) (d : Nat) (C : Nat × Nat) (S : zS) (w0 : rt_Wd)  (v1 : Int) (v2 : Int) (k0 : Int) (M : zM) (Q : Nat × Nat → Int → zM → Prop) : Prop := rt_Go l s0 G RX11 "fits" cX11_fits 3 (Option.some FieldType.boolean) [] d w0 (zQu s0 ca 0 S Q) 52 [(0, zv s0 2 84), (1, zv s0 0 v1), (2, zv s0 0 v2)] [zv s0 0 k0, zv s0 2 84] (zw s0 ca C S M)
abbrev zg_X11_fits_56 (l : Launch) (s0 : State) (G : va_G) (ca : Nat → ClassId) (d : Nat) (C : Nat × Nat) (S : zS) (w0 : rt_Wd)  (v1 : Int) (v2 : Int) (k0 : Int) (M : zM) (Q : Nat × Nat → Int → zM → Prop) : Prop := rt_Go l s0 G RX11 "fits" cX11_fits 3 (Option.some FieldType.boolean) [] d w0 (zQu s0 ca 0 S Q) 56 [(0, zv s0 2 84), (1, zv s0 0 v1), (2, zv s0 0 v2)] [zv s0 0 k0, zv s0 2 84] (zw s0 ca C S M)
abbrev zg_X11_fits_57 (l : Launch) (s0 : State) (G : va_G) (ca : Nat → ClassId) (d : Nat) (C : Nat × Nat) (S : zS) (w0 : rt_Wd)  (v1 : Int) (v2 : Int) (k0 : Int) (k1 : Int) (M : zM) (Q : Nat × Nat → Int → zM → Prop) : Prop := rt_Go l s0 G RX11 "fits" cX11_fits 3 (Option.some FieldType.boolean) [] d w0 (zQu s0 ca 0 S Q) 57 [(0, zv s0 2 84), (1, zv s0 0 v1), (2, zv s0 0 v2)] [zv s0 0 k0, zv s0 0 k1, zv s0 2 84] (zw s0 ca C S M)
def zt_X11_fits_57 (l : Launch) (s0 : State) (G : va_G) (ca : Nat → ClassId) (d : Nat) (C : Nat × Nat) (S : zS) (w0 : rt_Wd)  (v1 : Int) (v2 : Int) (k0 : Int) (k1 : Int) (M : zM) (Q : Nat × Nat → Int → zM → Prop) : Prop :=
  zm_X11_refused l s0 G ca (d - 1) C S k1 k0 M (fun r57 M57 => zIf (w32 r57 = 0) (zu_X11_read l s0 G ca (d - 1) C S 86 v1 M57 (fun C r71 M71 => zok C ∧ (zu_X11_read l s0 G ca (d - 1) C S 108 v2 M71 (fun C r80 M80 => zok C ∧ (zm_X11_fitsAll l s0 G ca (d - 1) C S 86 108 M80 (fun r92 M92 => (r92 = 0 ∨ r92 = 1) ∧ Q C r92 M92) (fun _ => False)))))) (Q C 0 M57)) (fun _ => False)
set_option maxRecDepth 100000 in
theorem zs_X11_fits_57 {l : Launch} {s0 : State} {a0 : Array Value} {G : va_G} {ca : Nat → ClassId} (Γ : rt_Γ l s0 a0 G ca) {d : Nat} {C : Nat × Nat} {S : zS} (hd : 1 ≤ d) (hok : zok C)  (hs : zSok S) {w0 : rt_Wd} {v1 : Int} {v2 : Int} {k0 : Int} {k1 : Int}  {M : zM} {Q : Nat × Nat → Int → zM → Prop} (h : zt_X11_fits_57 l s0 G ca d C S w0  v1 v2 k0 k1 M Q) : zg_X11_fits_57 l s0 G ca d C S w0  v1 v2 k0 k1 M Q := by
  unfold zt_X11_fits_57 at h
  refine zc_callV Γ kk_X11_refused kc_RX11_60 (As := [zv s0 0 k1, zv s0 0 k0]) h (by omega) (by decide) (show (parseMethodDescriptor yX11_refused.desc).map (fun q => q.parameters.length) = some 2 by decide +kernel) hok (Nat.zero_le _) dX11_fits_57 (by decide) (hs 84 _ rfl) rfl rfl (fun _ _ _ _ h9 => h9.elim) ?_
  clear h
  intro r57 M57 h
  show rt_Go _ _ _ _ _ _ _ _ _ _ _ _ 60 [(0, zv s0 2 84), (1, zv s0 0 v1), (2, zv s0 0 v2)] [zv s0 0 r57] (zw s0 ca C S M57)
  refine z_if_eq (tgt := 65) (x' := w32 r57) rfl dX11_fits_60 (by decide) (fun c60 => ?_) (fun c60 => ?_)
  · replace h := h.1 c60
    refine z_aload_n dX11_fits_65 rfl (j := 0) rfl ?_
    refine z_aload_n dX11_fits_66 rfl (j := 0) rfl ?_
    refine z_getc Γ kf_RX11_20 dX11_fits_67 (by decide) (hs 84 _ rfl) rfl ?_
    refine z_iload_n dX11_fits_70 rfl (j := 1) rfl ?_
    refine zu_callV Γ kk_X11_read kc_RX11_191 (As := [zv s0 2 86, zv s0 0 v1]) h (by omega) (by decide) (show (parseMethodDescriptor yX11_read.desc).map (fun q => q.parameters.length) = some 2 by decide +kernel) hok (Nat.zero_le _) dX11_fits_71 (by decide) (hs 84 _ rfl) rfl rfl ?_
    clear h
    intro C r71 M71 h
    obtain ⟨hok, h⟩ := h
    show rt_Go _ _ _ _ _ _ _ _ _ _ _ _ 74 [(0, zv s0 2 84), (1, zv s0 0 v1), (2, zv s0 0 v2)] [] (zw s0 ca C S M71)
    refine z_aload_n dX11_fits_74 rfl (j := 0) rfl ?_
    refine z_aload_n dX11_fits_75 rfl (j := 0) rfl ?_
    refine z_getc Γ kf_RX11_24 dX11_fits_76 (by decide) (hs 84 _ rfl) rfl ?_
    refine z_iload_n dX11_fits_79 rfl (j := 2) rfl ?_
    refine zu_callV Γ kk_X11_read kc_RX11_191 (As := [zv s0 2 108, zv s0 0 v2]) h (by omega) (by decide) (show (parseMethodDescriptor yX11_read.desc).map (fun q => q.parameters.length) = some 2 by decide +kernel) hok (Nat.zero_le _) dX11_fits_80 (by decide) (hs 84 _ rfl) rfl rfl ?_
    clear h
    intro C r80 M80 h
    obtain ⟨hok, h⟩ := h
    show rt_Go _ _ _ _ _ _ _ _ _ _ _ _ 83 [(0, zv s0 2 84), (1, zv s0 0 v1), (2, zv s0 0 v2)] [] (zw s0 ca C S M80)
    refine z_aload_n dX11_fits_83 rfl (j := 0) rfl ?_
    refine z_aload_n dX11_fits_84 rfl (j := 0) rfl ?_
    refine z_getc Γ kf_RX11_20 dX11_fits_85 (by decide) (hs 84 _ rfl) rfl ?_
    refine z_aload_n dX11_fits_88 rfl (j := 0) rfl ?_
    refine z_getc Γ kf_RX11_24 dX11_fits_89 (by decide) (hs 84 _ rfl) rfl ?_
    refine zc_callV Γ kk_X11_fitsAll kc_RX11_316 (As := [zv s0 2 86, zv s0 2 108]) h (by omega) (by decide) (show (parseMethodDescriptor yX11_fitsAll.desc).map (fun q => q.parameters.length) = some 2 by decide +kernel) hok (Nat.zero_le _) dX11_fits_92 (by decide) (hs 84 _ rfl) rfl rfl (fun _ _ _ _ h9 => h9.elim) ?_
    clear h
    intro r92 M92 h
    show rt_Go _ _ _ _ _ _ _ _ _ _ _ _ 95 [(0, zv s0 2 84), (1, zv s0 0 v1), (2, zv s0 0 v2)] [zv s0 0 r92] (zw s0 ca C S M92)
    obtain ⟨hi9, h⟩ := h
    exact z_zretU dX11_fits_95 rfl hi9 h
  · replace h := h.2 c60
    refine z_iconst dX11_fits_63 ?_
    exact z_zretU dX11_fits_64 rfl (by decide) h
def zt_X11_fits_56 (l : Launch) (s0 : State) (G : va_G) (ca : Nat → ClassId) (d : Nat) (C : Nat × Nat) (S : zS) (w0 : rt_Wd)  (v1 : Int) (v2 : Int) (k0 : Int) (M : zM) (Q : Nat × Nat → Int → zM → Prop) : Prop :=
  zt_X11_fits_57 l s0 G ca d C S w0  v1 v2 0 k0 M Q
set_option maxRecDepth 100000 in
theorem zs_X11_fits_56 {l : Launch} {s0 : State} {a0 : Array Value} {G : va_G} {ca : Nat → ClassId} (Γ : rt_Γ l s0 a0 G ca) {d : Nat} {C : Nat × Nat} {S : zS} (hd : 1 ≤ d) (hok : zok C)  (hs : zSok S) {w0 : rt_Wd} {v1 : Int} {v2 : Int} {k0 : Int}  {M : zM} {Q : Nat × Nat → Int → zM → Prop} (h : zt_X11_fits_56 l s0 G ca d C S w0  v1 v2 k0 M Q) : zg_X11_fits_56 l s0 G ca d C S w0  v1 v2 k0 M Q := by
  unfold zt_X11_fits_56 at h
  refine z_iconst dX11_fits_56 ?_
  exact rt_lfew [0, 1, 2] rfl (zs_X11_fits_57 Γ hd hok hs  h)
def zt_X11_fits_52 (l : Launch) (s0 : State) (G : va_G) (ca : Nat → ClassId) (d : Nat) (C : Nat × Nat) (S : zS) (w0 : rt_Wd)  (v1 : Int) (v2 : Int) (k0 : Int) (M : zM) (Q : Nat × Nat → Int → zM → Prop) : Prop :=
  zt_X11_fits_57 l s0 G ca d C S w0  v1 v2 1 k0 M Q
set_option maxRecDepth 100000 in
theorem zs_X11_fits_52 {l : Launch} {s0 : State} {a0 : Array Value} {G : va_G} {ca : Nat → ClassId} (Γ : rt_Γ l s0 a0 G ca) {d : Nat} {C : Nat × Nat} {S : zS} (hd : 1 ≤ d) (hok : zok C)  (hs : zSok S) {w0 : rt_Wd} {v1 : Int} {v2 : Int} {k0 : Int}  {M : zM} {Q : Nat × Nat → Int → zM → Prop} (h : zt_X11_fits_52 l s0 G ca d C S w0  v1 v2 k0 M Q) : zg_X11_fits_52 l s0 G ca d C S w0  v1 v2 k0 M Q := by
  unfold zt_X11_fits_52 at h
  refine z_iconst dX11_fits_52 ?_
  refine rt_goto (tgt := 57) dX11_fits_53 (by decide) ?_
  exact rt_lfew [0, 1, 2] rfl (zs_X11_fits_57 Γ hd hok hs  h)
def zt_X11_fits_20 (l : Launch) (s0 : State) (G : va_G) (ca : Nat → ClassId) (d : Nat) (C : Nat × Nat) (S : zS) (w0 : rt_Wd)  (v1 : Int) (v2 : Int) (k0 : Int) (M : zM) (Q : Nat × Nat → Int → zM → Prop) : Prop :=
  zm_X11_isPlace l s0 G ca (d - 1) C S v1 M (fun r21 M21 => zIf (w32 r21 = 0) (zt_X11_fits_56 l s0 G ca d C S w0  v1 v2 k0 M21 Q) (zm_X11_isPlace l s0 G ca (d - 1) C S v2 M21 (fun r28 M28 => zIf (w32 r28 = 0) (zt_X11_fits_56 l s0 G ca d C S w0  v1 v2 k0 M28 Q) ((0 ≤ v1 ∧ v1 < 8) ∧ (zIf (w32 (M28 131 v1) < 0) (zt_X11_fits_52 l s0 G ca d C S w0  v1 v2 k0 M28 Q) ((0 ≤ v2 ∧ v2 < 8) ∧ (zIf (0 ≤ w32 (M28 131 v2)) (zt_X11_fits_56 l s0 G ca d C S w0  v1 v2 k0 M28 Q) (zt_X11_fits_52 l s0 G ca d C S w0  v1 v2 k0 M28 Q)))))) (fun _ => False))) (fun _ => False)
set_option maxRecDepth 100000 in
theorem zs_X11_fits_20 {l : Launch} {s0 : State} {a0 : Array Value} {G : va_G} {ca : Nat → ClassId} (Γ : rt_Γ l s0 a0 G ca) {d : Nat} {C : Nat × Nat} {S : zS} (hd : 1 ≤ d) (hok : zok C)  (hs : zSok S) {w0 : rt_Wd} {v1 : Int} {v2 : Int} {k0 : Int}  {M : zM} {Q : Nat × Nat → Int → zM → Prop} (h : zt_X11_fits_20 l s0 G ca d C S w0  v1 v2 k0 M Q) : zg_X11_fits_20 l s0 G ca d C S w0  v1 v2 k0 M Q := by
  unfold zt_X11_fits_20 at h
  refine z_iload_n dX11_fits_20 rfl (j := 1) rfl ?_
  refine zc_callS Γ kk_X11_isPlace kc_RX11_76 (As := [zv s0 0 v1]) h (by omega) (by decide) (show (parseMethodDescriptor yX11_isPlace.desc).map (fun q => q.parameters.length) = some 1 by decide +kernel) hok (by simp only [List.map, zv_cat0, zv_cat1, zv_cat2, List.sum_cons, List.sum_nil]; decide) dX11_fits_21 rfl (fun _ _ _ _ h9 => h9.elim) ?_
  clear h
  intro r21 M21 h
  show rt_Go _ _ _ _ _ _ _ _ _ _ _ _ 24 [(0, zv s0 2 84), (1, zv s0 0 v1), (2, zv s0 0 v2)] [zv s0 0 r21, zv s0 0 k0, zv s0 2 84] (zw s0 ca C S M21)
  refine z_if_eq (tgt := 56) (x' := w32 r21) rfl dX11_fits_24 (by decide) (fun c24 => ?_) (fun c24 => ?_)
  · replace h := h.1 c24
    exact rt_lfew [0, 1, 2] rfl (zs_X11_fits_56 Γ hd hok hs  h)
  · replace h := h.2 c24
    refine z_iload_n dX11_fits_27 rfl (j := 2) rfl ?_
    refine zc_callS Γ kk_X11_isPlace kc_RX11_76 (As := [zv s0 0 v2]) h (by omega) (by decide) (show (parseMethodDescriptor yX11_isPlace.desc).map (fun q => q.parameters.length) = some 1 by decide +kernel) hok (by simp only [List.map, zv_cat0, zv_cat1, zv_cat2, List.sum_cons, List.sum_nil]; decide) dX11_fits_28 rfl (fun _ _ _ _ h9 => h9.elim) ?_
    clear h
    intro r28 M28 h
    show rt_Go _ _ _ _ _ _ _ _ _ _ _ _ 31 [(0, zv s0 2 84), (1, zv s0 0 v1), (2, zv s0 0 v2)] [zv s0 0 r28, zv s0 0 k0, zv s0 2 84] (zw s0 ca C S M28)
    refine z_if_eq (tgt := 56) (x' := w32 r28) rfl dX11_fits_31 (by decide) (fun c31 => ?_) (fun c31 => ?_)
    · replace h := h.1 c31
      exact rt_lfew [0, 1, 2] rfl (zs_X11_fits_56 Γ hd hok hs  h)
    · replace h := h.2 c31
      refine z_aload_n dX11_fits_34 rfl (j := 0) rfl ?_
      refine z_getc Γ kf_RX11_31 dX11_fits_35 (by decide) (hs 84 _ rfl) rfl ?_
      refine z_iload_n dX11_fits_38 rfl (j := 1) rfl ?_
      obtain ⟨hi39, h⟩ := h
      refine z_iald Γ dX11_fits_39 (by decide) (hs 131 _ rfl) (by decide) hi39 (v9 := M28 131 v1) rfl ?_
      refine z_if_lt (tgt := 52) (x' := w32 (M28 131 v1)) rfl dX11_fits_40 (by decide) (fun c40 => ?_) (fun c40 => ?_)
      · replace h := h.1 c40
        exact rt_lfew [0, 1, 2] rfl (zs_X11_fits_52 Γ hd hok hs  h)
      · replace h := h.2 c40
        refine z_aload_n dX11_fits_43 rfl (j := 0) rfl ?_
        refine z_getc Γ kf_RX11_31 dX11_fits_44 (by decide) (hs 84 _ rfl) rfl ?_
        refine z_iload_n dX11_fits_47 rfl (j := 2) rfl ?_
        obtain ⟨hi48, h⟩ := h
        refine z_iald Γ dX11_fits_48 (by decide) (hs 131 _ rfl) (by decide) hi48 (v9 := M28 131 v2) rfl ?_
        refine z_if_ge (tgt := 56) (x' := w32 (M28 131 v2)) rfl dX11_fits_49 (by decide) (fun c49 => ?_) (fun c49 => ?_)
        · replace h := h.1 c49
          exact rt_lfew [0, 1, 2] rfl (zs_X11_fits_56 Γ hd hok hs  h)
        · replace h := h.2 c49
          exact rt_lfew [0, 1, 2] rfl (zs_X11_fits_52 Γ hd hok hs  h)
def zt_X11_fits_15 (l : Launch) (s0 : State) (G : va_G) (ca : Nat → ClassId) (d : Nat) (C : Nat × Nat) (S : zS) (w0 : rt_Wd)  (v1 : Int) (v2 : Int)  (M : zM) (Q : Nat × Nat → Int → zM → Prop) : Prop :=
  zt_X11_fits_20 l s0 G ca d C S w0  v1 v2 1 M Q
set_option maxRecDepth 100000 in
theorem zs_X11_fits_15 {l : Launch} {s0 : State} {a0 : Array Value} {G : va_G} {ca : Nat → ClassId} (Γ : rt_Γ l s0 a0 G ca) {d : Nat} {C : Nat × Nat} {S : zS} (hd : 1 ≤ d) (hok : zok C)  (hs : zSok S) {w0 : rt_Wd} {v1 : Int} {v2 : Int}   {M : zM} {Q : Nat × Nat → Int → zM → Prop} (h : zt_X11_fits_15 l s0 G ca d C S w0  v1 v2 M Q) : zg_X11_fits_15 l s0 G ca d C S w0  v1 v2 M Q := by
  unfold zt_X11_fits_15 at h
  refine z_iconst dX11_fits_15 ?_
  refine rt_goto (tgt := 20) dX11_fits_16 (by decide) ?_
  exact rt_lfew [0, 1, 2] rfl (zs_X11_fits_20 Γ hd hok hs  h)
def zt_X11_fits (l : Launch) (s0 : State) (G : va_G) (ca : Nat → ClassId) (d : Nat) (C : Nat × Nat) (S : zS) (w0 : rt_Wd)  (w : Int) (r : Int) (M : zM) (Q : Nat × Nat → Int → zM → Prop) : Prop :=
  zm_X11_isPlace l s0 G ca (d - 1) C S w M (fun r2 M2 => zIf (w32 r2 = 0) (zt_X11_fits_15 l s0 G ca d C S w0  w r M2 Q) (zm_X11_isPlace l s0 G ca (d - 1) C S r M2 (fun r9 M9 => zIf (w32 r9 = 0) (zt_X11_fits_15 l s0 G ca d C S w0  w r M9 Q) (zt_X11_fits_20 l s0 G ca d C S w0  w r 0 M9 Q)) (fun _ => False))) (fun _ => False)
set_option maxRecDepth 100000 in
theorem z_X11_fits {l : Launch} {s0 : State} {a0 : Array Value} {G : va_G} {ca : Nat → ClassId} (Γ : rt_Γ l s0 a0 G ca) {d : Nat} {C : Nat × Nat} {S : zS} (hd : 1 ≤ d) (hok : zok C)  (hs : zSok S) {w : Int} {r : Int} {M : zM} {Q : Nat × Nat → Int → zM → Prop} (h : zt_X11_fits l s0 G ca d C S (zw s0 ca C S M)  w r M Q) : zu_X11_fits l s0 G ca d C S  w r M Q := by
  refine z_metU (lv := [(0, zv s0 2 84), (1, zv s0 0 w), (2, zv s0 0 r)]) Γ kk_X11_fits rfl (show (lg_sl [zv s0 2 84, zv s0 0 w, zv s0 0 r]).length ≤ 3 from by simp only [zn_0, zn_2, show (lg_sl []).length = 0 from rfl]; omega) (show lv_args 0 [zv s0 2 84, zv s0 0 w, zv s0 0 r] = [(0, zv s0 2 84), (1, zv s0 0 w), (2, zv s0 0 r)] from by rw [zl_2, zl_0, zl_0]; rfl) ?_
  unfold zt_X11_fits at h
  refine z_aload_n dX11_fits_0 rfl (j := 0) rfl ?_
  refine z_iload_n dX11_fits_1 rfl (j := 1) rfl ?_
  refine zc_callS Γ kk_X11_isPlace kc_RX11_76 (As := [zv s0 0 w]) h (by omega) (by decide) (show (parseMethodDescriptor yX11_isPlace.desc).map (fun q => q.parameters.length) = some 1 by decide +kernel) hok (by simp only [List.map, zv_cat0, zv_cat1, zv_cat2, List.sum_cons, List.sum_nil]; decide) dX11_fits_2 rfl (fun _ _ _ _ h9 => h9.elim) ?_
  clear h
  intro r2 M2 h
  show rt_Go _ _ _ _ _ _ _ _ _ _ _ _ 5 [(0, zv s0 2 84), (1, zv s0 0 w), (2, zv s0 0 r)] [zv s0 0 r2, zv s0 2 84] (zw s0 ca C S M2)
  refine z_if_eq (tgt := 15) (x' := w32 r2) rfl dX11_fits_5 (by decide) (fun c5 => ?_) (fun c5 => ?_)
  · replace h := h.1 c5
    exact rt_lfew [0, 1, 2] rfl (zs_X11_fits_15 Γ hd hok hs  h)
  · replace h := h.2 c5
    refine z_iload_n dX11_fits_8 rfl (j := 2) rfl ?_
    refine zc_callS Γ kk_X11_isPlace kc_RX11_76 (As := [zv s0 0 r]) h (by omega) (by decide) (show (parseMethodDescriptor yX11_isPlace.desc).map (fun q => q.parameters.length) = some 1 by decide +kernel) hok (by simp only [List.map, zv_cat0, zv_cat1, zv_cat2, List.sum_cons, List.sum_nil]; decide) dX11_fits_9 rfl (fun _ _ _ _ h9 => h9.elim) ?_
    clear h
    intro r9 M9 h
    show rt_Go _ _ _ _ _ _ _ _ _ _ _ _ 12 [(0, zv s0 2 84), (1, zv s0 0 w), (2, zv s0 0 r)] [zv s0 0 r9, zv s0 2 84] (zw s0 ca C S M9)
    refine z_if_ne (tgt := 19) (x' := w32 r9) rfl dX11_fits_12 (by decide) (fun c12 => ?_) (fun c12 => ?_)
    · replace h := h.2 c12
      refine z_iconst dX11_fits_19 ?_
      exact rt_lfew [0, 1, 2] rfl (zs_X11_fits_20 Γ hd hok hs  h)
    · replace h := h.1 c12
      exact rt_lfew [0, 1, 2] rfl (zs_X11_fits_15 Γ hd hok hs  h)
