/-! ===== a row is told: the reference's tellRow, with its handler ===== -/
/-- comes back as it should, or having caught -/
def zQe (s0 : State) (ca : Nat → ClassId) (t : Nat) (B : Nat) (C : Nat × Nat) (S : zS) (Q E : Int → zM → Prop) : rt_Res → rt_Wd → Prop := fun r w => ∃ (v : Int) (n o : Nat) (M : zM), r = .inl (zret s0 t v) ∧ w = zw s0 ca (n, o) S M ∧ ((n = C.1 ∧ o = C.2 ∧ Q v M) ∨ (C.1 ≤ n ∧ n ≤ C.1 + B ∧ C.2 ≤ o ∧ o ≤ C.2 + 6 * B ∧ E v M))
def zMetE (l : Launch) (s0 : State) (G : va_G) (ca : Nat → ClassId) (k : Cond) (y : MethodName) (t d B : Nat) (av : List Value) (C : Nat × Nat) (S : zS) (M : zM) (Q E : Int → zM → Prop) : Prop :=
  rt_Met l s0 G k y d av (zw s0 ca C S M) (zQe s0 ca t B C S Q E)
abbrev zc_X11_tellRow (l : Launch) (s0 : State) (G : va_G) (ca : Nat → ClassId) (d : Nat) (C : Nat × Nat) (S : zS) (p : Int) (M : zM) (Q E : Int → zM → Prop) : Prop := zMetE l s0 G ca (.codeWith yX11_tellRow cX11_tellRow 3 (Option.some FieldType.int) [(10, 36, 39, 93)]) yX11_tellRow 0 d 1 [zv s0 2 84, zv s0 0 p] C S M Q E
section IA
variable {l : Launch} {s0 : State} {a0 : Array Value} {G : va_G} {ca : Nat → ClassId} {own nm : String} {cc : ByteArray} {nL : Nat} {ret : Option FieldType} {tab : List ExceptionTableEntry} {d : Nat} {w0 : rt_Wd} {pc : Nat} {lv lv' : List (Nat × Value)} {st : List Value} {C : Nat × Nat} {S : zS} {M : zM} {Q E : Int → zM → Prop} {t B : Nat}
theorem z_metE (Γ : rt_Γ l s0 a0 G ca) {y : MethodName} {kc : Cond} {desc : String} (K : rt_Kc y kc cc nL ret tab) (hy : y = ⟨own, nm, desc⟩) {av : List Value} (hlen : (lg_sl av).length ≤ nL) (hlv : lv_args 0 av = lv) (body : rt_Go l s0 G own nm cc nL ret tab d (zw s0 ca C S M) (zQe s0 ca t B C S Q E) 0 lv [] (zw s0 ca C S M)) : zMetE l s0 G ca kc y t d B av C S M Q E := rt_met Γ K hy hlen hlv body
theorem z_iretE {v : Int} (hd : decode cc pc = .ok (.ireturn, 1)) (hr : ret = some .int) (hQ : Q v M) : rt_Go l s0 G own nm cc nL ret tab d w0 (zQe s0 ca 0 B C S Q E) pc lv [zv s0 0 v] (zw s0 ca C S M) := rt_iret hd hr ⟨v, C.1, C.2, M, rfl, rfl, Or.inl ⟨rfl, rfl, hQ⟩⟩
theorem z_iretE' {v : Int} {n o : Nat} (hd : decode cc pc = .ok (.ireturn, 1)) (hr : ret = some .int) (h1 : C.1 ≤ n) (h2 : n ≤ C.1 + B) (h3 : C.2 ≤ o) (h4 : o ≤ C.2 + 6 * B) (hE : E v M) : rt_Go l s0 G own nm cc nL ret tab d w0 (zQe s0 ca 0 B C S Q E) pc lv [zv s0 0 v] (zw s0 ca (n, o) S M) := rt_iret hd hr ⟨v, n, o, M, rfl, rfl, Or.inr ⟨h1, h2, h3, h4, hE⟩⟩
end IA
def zt_X11_tellRow (l : Launch) (s0 : State) (G : va_G) (ca : Nat → ClassId) (d : Nat) (C : Nat × Nat) (S : zS) (w0 : rt_Wd)  (p : Int) (M : zM) (Q : Int → zM → Prop) (E : Int → zM → Prop) : Prop :=
  zm_X11_tell l s0 G ca (d - 1) C S 86 (M 86 31) 108 (M 108 31) ((zu M 84 25 ((M 84 15) + p))) (fun r33 M33 => Q 0 M33) (fun M9 => E (-(M9 84 17)) M9)
set_option maxRecDepth 100000 in
theorem z_X11_tellRow {l : Launch} {s0 : State} {a0 : Array Value} {G : va_G} {ca : Nat → ClassId} (Γ : rt_Γ l s0 a0 G ca) {d : Nat} {C : Nat × Nat} {S : zS} (hd : 1 ≤ d) (hok : zok C)  (hs : zSok S) {p : Int} {M : zM} {Q : Int → zM → Prop} {E : Int → zM → Prop} (h : zt_X11_tellRow l s0 G ca d C S (zw s0 ca C S M)  p M Q E) : zc_X11_tellRow l s0 G ca d C S p M Q E := by
  refine z_metE (lv := [(0, zv s0 2 84), (1, zv s0 0 p)]) Γ kk_X11_tellRow rfl (show (lg_sl [zv s0 2 84, zv s0 0 p]).length ≤ 3 from by simp only [zn_0, zn_2, show (lg_sl []).length = 0 from rfl]; omega) (show lv_args 0 [zv s0 2 84, zv s0 0 p] = [(0, zv s0 2 84), (1, zv s0 0 p)] from by rw [zl_2, zl_0]; rfl) ?_
  unfold zt_X11_tellRow at h
  refine z_aload_n dX11_tellRow_0 rfl (j := 0) rfl ?_
  refine z_aload_n dX11_tellRow_1 rfl (j := 0) rfl ?_
  refine z_get Γ kf_RX11_115 dX11_tellRow_2 (by decide) (hs 84 _ rfl) rfl (by decide) (v9 := M 84 15) rfl ?_
  refine z_iload_n dX11_tellRow_5 rfl (j := 1) rfl ?_
  refine z_iadd dX11_tellRow_6 ?_
  refine z_put0 Γ kp_RX11_247 dX11_tellRow_7 (by decide) (hs 84 _ rfl) rfl (k9 := 25) rfl ?_
  refine z_aload_n dX11_tellRow_10 rfl (j := 0) rfl ?_
  refine z_aload_n dX11_tellRow_11 rfl (j := 0) rfl ?_
  refine z_getc Γ kf_RX11_20 dX11_tellRow_12 (by decide) (hs 84 _ rfl) rfl ?_
  refine z_aload_n dX11_tellRow_15 rfl (j := 0) rfl ?_
  refine z_getc Γ kf_RX11_20 dX11_tellRow_16 (by decide) (hs 84 _ rfl) rfl ?_
  refine z_getN Γ kfN_RX11_188 dX11_tellRow_19 (zTx_of hs).1.1 (zTx_of hs).1.2.1 rfl (by decide) (v9 := M 86 31) ((zu_k (by decide)).trans rfl) ?_
  refine z_aload_n dX11_tellRow_22 rfl (j := 0) rfl ?_
  refine z_getc Γ kf_RX11_24 dX11_tellRow_23 (by decide) (hs 84 _ rfl) rfl ?_
  refine z_aload_n dX11_tellRow_26 rfl (j := 0) rfl ?_
  refine z_getc Γ kf_RX11_24 dX11_tellRow_27 (by decide) (hs 84 _ rfl) rfl ?_
  refine z_getN Γ kfN_RX11_188 dX11_tellRow_30 (zTx_of hs).2.1 (zTx_of hs).2.2.1 rfl (by decide) (v9 := M 108 31) ((zu_k (by decide)).trans rfl) ?_
  refine zc_callV Γ kk_X11_tell kc_RX11_266 (As := [zv s0 2 86, zv s0 0 (M 86 31), zv s0 2 108, zv s0 0 (M 108 31)]) h (by omega) (by decide) (show (parseMethodDescriptor yX11_tell.desc).map (fun q => q.parameters.length) = some 4 by decide +kernel) hok (Nat.zero_le _) dX11_tellRow_33 (by decide) (hs 84 _ rfl) rfl rfl (fun n9 M9 hn1 hn2 h9 => ?_) ?_
  · refine rt_catch (name := "java/lang/IllegalStateException") Γ [] ⟨10, 36, 39, 93⟩ [] rfl (fun _ h => absurd h List.not_mem_nil) (by decide) (by decide) (tc_8 _ (List.mem_of_getElem? (i := 136) (by decide +kernel))) (tc_2 _ (List.mem_of_getElem? (i := 135) (by decide +kernel))) (fun q => ?_)
    refine rt_astoreA_n (lv' := [(2, .ref q), (0, zv s0 2 84), (1, zv s0 0 p)]) dX11_tellRow_39 rfl (by decide) (by simp [zv_cat0, zv_cat1, zv_cat2, zv_cats]) ?_
    refine z_aload_n dX11_tellRow_40 rfl (j := 1) rfl ?_
    refine z_get Γ kf_RX11_87 dX11_tellRow_41 (by decide) (hs 84 _ rfl) rfl (by decide) (v9 := M9 84 17) rfl ?_
    refine z_ineg dX11_tellRow_44 ?_
    exact z_iretE' dX11_tellRow_45 rfl hn1 hn2 (Nat.le_add_right _ _) (Nat.le_refl _) h9
  clear h
  intro r33 M33 h
  show rt_Go _ _ _ _ _ _ _ _ _ _ _ _ 36 [(0, zv s0 2 84), (1, zv s0 0 p)] [] (zw s0 ca C S M33)
  refine rt_goto (tgt := 46) dX11_tellRow_36 (by decide) ?_
  refine z_iconst dX11_tellRow_46 ?_
  exact z_iretE dX11_tellRow_47 rfl h
