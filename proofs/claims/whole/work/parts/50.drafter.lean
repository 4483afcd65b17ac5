/-! ===== trees: DRAFTER ===== -/
def zt_X1_wrongPlace (l : Launch) (s0 : State) (G : va_G) (ca : Nat → ClassId) (d : Nat) (C : Nat × Nat) (S : zS) (w0 : rt_Wd) (p : Int)  (M : zM) (Q : Int → zM → Prop) (X : zM → Prop) : Prop :=
  Q (M 24 7) M
set_option maxRecDepth 100000 in
theorem z_X1_wrongPlace {l : Launch} {s0 : State} {a0 : Array Value} {G : va_G} {ca : Nat → ClassId} (Γ : rt_Γ l s0 a0 G ca) {d : Nat} {C : Nat × Nat} {S : zS} (hok : zok C) {p : Int} (hs : zSok S) (hp : zSc S p) (hs24 : S 24 = some (0, 1, [(3, 25), (3, 26), (3, 28), (3, p), (3, 6), (0, 0), (0, 0), (0, 0)])) (hs6 : S 6 = some (0, 8, [(3, 7), (3, 9), (3, 11), (3, 13), (3, 15), (3, 17), (3, 19), (3, 21), (3, 22), (3, 1), (0, 0), (0, 0), (0, 0)]))  {M : zM} {Q : Int → zM → Prop} {X : zM → Prop} (h : zt_X1_wrongPlace l s0 G ca d C S (zw s0 ca C S M) p  M Q X) : zm_X1_wrongPlace l s0 G ca d C S   M Q X := by
  refine z_met (lv := [(0, zv s0 2 24)]) Γ kk_X1_wrongPlace rfl (show (lg_sl [zv s0 2 24]).length ≤ 1 from by simp only [zn_2, show (lg_sl []).length = 0 from rfl]; omega) (show lv_args 0 [zv s0 2 24] = [(0, zv s0 2 24)] from by rw [zl_2]; rfl) ?_
  unfold zt_X1_wrongPlace at h
  refine z_aload_n dX1_wrongPlace_0 rfl (j := 0) rfl ?_
  refine z_get Γ kf_RX1_54 dX1_wrongPlace_1 (by decide) hs24 rfl (by decide) (v9 := M 24 7) rfl ?_
  exact z_iret dX1_wrongPlace_4 rfl h

def zt_X1_fail (l : Launch) (s0 : State) (G : va_G) (ca : Nat → ClassId) (d : Nat) (C : Nat × Nat) (S : zS) (w0 : rt_Wd) (p : Int) (k : Int) (v : Int) (M : zM) (Q : Int → zM → Prop) (X : zM → Prop) : Prop :=
  zIf (w32 (M 24 6) = 0) (Q 0 ((zu ((zu M 24 6 k)) 24 7 (((zat ((zu M 24 6 k)) 10 2073 v)))))) (Q 0 M)
set_option maxRecDepth 100000 in
theorem z_X1_fail {l : Launch} {s0 : State} {a0 : Array Value} {G : va_G} {ca : Nat → ClassId} (Γ : rt_Γ l s0 a0 G ca) {d : Nat} {C : Nat × Nat} {S : zS} (hd : 2 ≤ d) (hok : zok C) {p : Int} (hs : zSok S) (hp : zSc S p) (hs24 : S 24 = some (0, 1, [(3, 25), (3, 26), (3, 28), (3, p), (3, 6), (0, 0), (0, 0), (0, 0)])) (hs6 : S 6 = some (0, 8, [(3, 7), (3, 9), (3, 11), (3, 13), (3, 15), (3, 17), (3, 19), (3, 21), (3, 22), (3, 1), (0, 0), (0, 0), (0, 0)])) {k : Int} {v : Int} {M : zM} {Q : Int → zM → Prop} {X : zM → Prop} (h : zt_X1_fail l s0 G ca d C S (zw s0 ca C S M) p k v M Q X) : zm_X1_fail l s0 G ca d C S  k v M Q X := by
  refine z_met (lv := [(0, zv s0 2 24), (1, zv s0 0 k), (2, zv s0 0 v)]) Γ kk_X1_fail rfl (show (lg_sl [zv s0 2 24, zv s0 0 k, zv s0 0 v]).length ≤ 3 from by simp only [zn_0, zn_2, show (lg_sl []).length = 0 from rfl]; omega) (show lv_args 0 [zv s0 2 24, zv s0 0 k, zv s0 0 v] = [(0, zv s0 2 24), (1, zv s0 0 k), (2, zv s0 0 v)] from by rw [zl_2, zl_0, zl_0]; rfl) ?_
  unfold zt_X1_fail at h
  refine z_aload_n dX1_fail_0 rfl (j := 0) rfl ?_
  refine z_get Γ kf_RX1_51 dX1_fail_1 (by decide) hs24 rfl (by decide) (v9 := M 24 6) rfl ?_
  refine z_if_ne (tgt := 24) (x' := w32 (M 24 6)) rfl dX1_fail_4 (by decide) (fun c4 => ?_) (fun c4 => ?_)
  · replace h := h.2 c4
    refine z_iconst dX1_fail_24 ?_
    exact z_iret dX1_fail_25 rfl h
  · replace h := h.1 c4
    refine z_aload_n dX1_fail_7 rfl (j := 0) rfl ?_
    refine z_iload_n dX1_fail_8 rfl (j := 1) rfl ?_
    refine z_put0 Γ kp_RX1_51 dX1_fail_9 (by decide) hs24 rfl (k9 := 6) rfl ?_
    refine z_aload_n dX1_fail_12 rfl (j := 0) rfl ?_
    refine z_aload_n dX1_fail_13 rfl (j := 0) rfl ?_
    refine z_getc Γ kf_RX1_37 dX1_fail_14 (by decide) hs24 rfl ?_
    refine z_iload_n dX1_fail_17 rfl (j := 2) rfl ?_
    refine z_callV Γ kk_X8_begin kc_RX1_76 (As := [zv s0 0 v]) (z_X8_begin (d := d - 1) Γ (by omega) hok hs hs6 (M := ((zu M 24 6 k))) (Q := fun v9 M9 => v9 = ((zat ((zu M 24 6 k)) 10 2073 v)) ∧ M9 = ((zu M 24 6 k))) (X := X) (show _ ∧ _ from ⟨rfl, rfl⟩)) (by omega) (by decide) (show (parseMethodDescriptor yX8_begin.desc).map (fun q => q.parameters.length) = some 1 by decide +kernel) hok (by simp only [List.map, zv_cat0, zv_cat1, zv_cat2, List.sum_cons, List.sum_nil]; decide) dX1_fail_18 (by decide) hs6 rfl rfl (fun _ h9 => nomatch h9) ?_
    rintro v9 M9 ⟨e9, e8⟩
    rw [e9, e8]
    clear e9 e8 v9 M9
    show rt_Go _ _ _ _ _ _ _ _ _ _ _ _ 21 [(0, zv s0 2 24), (1, zv s0 0 k), (2, zv s0 0 v)] [zv s0 0 (((zat ((zu M 24 6 k)) 10 2073 v))), zv s0 2 24] (zw s0 ca C S ((zu M 24 6 k)))
    refine z_put0 Γ kp_RX1_54 dX1_fail_21 (by decide) hs24 rfl (k9 := 7) rfl ?_
    refine z_iconst dX1_fail_24 ?_
    exact z_iret dX1_fail_25 rfl h

def zt_X1_oneOfSix (l : Launch) (s0 : State) (G : va_G) (ca : Nat → ClassId) (d : Nat) (C : Nat × Nat) (S : zS) (w0 : rt_Wd) (p : Int) (v : Int) (M : zM) (Q : Int → zM → Prop) (X : zM → Prop) : Prop :=
  ∀ q5 : Nat, zstr s0 q5 [110, 117, 108, 108] → (zm_X8_says l s0 G ca (d - 1) C S v q5 M (fun r7 M7 => zIf (w32 r7 = 0) (∀ q20 : Nat, zstr s0 q20 [98, 111, 111, 108, 101, 97, 110] → (zm_X8_says l s0 G ca (d - 1) C S v q20 M7 (fun r22 M22 => zIf (w32 r22 = 0) (∀ q35 : Nat, zstr s0 q35 [105, 110, 116] → (zm_X8_says l s0 G ca (d - 1) C S v q35 M22 (fun r37 M37 => zIf (w32 r37 = 0) (∀ q50 : Nat, zstr s0 q50 [108, 111, 110, 103] → (zm_X8_says l s0 G ca (d - 1) C S v q50 M37 (fun r52 M52 => zIf (w32 r52 = 0) (∀ q65 : Nat, zstr s0 q65 [98, 121, 116, 101, 115] → (zm_X8_says l s0 G ca (d - 1) C S v q65 M52 (fun r67 M67 => zIf (w32 r67 = 0) (∀ q80 : Nat, zstr s0 q80 [115, 116, 114, 105, 110, 103] → (zm_X8_says l s0 G ca (d - 1) C S v q80 M67 (fun r82 M82 => zIf (w32 r82 = 0) (Q ((-1)) M82) (Q 5 M82)) X)) (Q 4 M67)) X)) (Q 3 M52)) X)) (Q 2 M37)) X)) (Q 1 M22)) X)) (Q 0 M7)) X)
set_option maxRecDepth 100000 in
theorem z_X1_oneOfSix {l : Launch} {s0 : State} {a0 : Array Value} {G : va_G} {ca : Nat → ClassId} (Γ : rt_Γ l s0 a0 G ca) {d : Nat} {C : Nat × Nat} {S : zS} (hd : 1 ≤ d) (hok : zok C) {p : Int} (hs : zSok S) (hp : zSc S p) (hs24 : S 24 = some (0, 1, [(3, 25), (3, 26), (3, 28), (3, p), (3, 6), (0, 0), (0, 0), (0, 0)])) (hs6 : S 6 = some (0, 8, [(3, 7), (3, 9), (3, 11), (3, 13), (3, 15), (3, 17), (3, 19), (3, 21), (3, 22), (3, 1), (0, 0), (0, 0), (0, 0)])) {v : Int} {M : zM} {Q : Int → zM → Prop} {X : zM → Prop} (h : zt_X1_oneOfSix l s0 G ca d C S (zw s0 ca C S M) p v M Q X) : zm_X1_oneOfSix l s0 G ca d C S  v M Q X := by
  refine z_met (lv := [(0, zv s0 2 24), (1, zv s0 0 v)]) Γ kk_X1_oneOfSix rfl (show (lg_sl [zv s0 2 24, zv s0 0 v]).length ≤ 2 from by simp only [zn_0, zn_2, show (lg_sl []).length = 0 from rfl]; omega) (show lv_args 0 [zv s0 2 24, zv s0 0 v] = [(0, zv s0 2 24), (1, zv s0 0 v)] from by rw [zl_2, zl_0]; rfl) ?_
  unfold zt_X1_oneOfSix at h
  refine z_aload_n dX1_oneOfSix_0 rfl (j := 0) rfl ?_
  refine z_getc Γ kf_RX1_37 dX1_oneOfSix_1 (by decide) hs24 rfl ?_
  refine z_iload_n dX1_oneOfSix_4 rfl (j := 1) rfl ?_
  obtain ⟨q5, hq5a, hq5b⟩ := ks_RX1_103 Γ
  have hq5 : zstr s0 q5 [110, 117, 108, 108] := ⟨hq5b, by decide, by decide⟩
  replace h := h q5 hq5
  refine rt_ldcS Γ hq5a dX1_oneOfSix_5 ?_
  refine z_callV Γ kk_X8_says kc_RX1_105 (As := [zv s0 0 v, .ref q5]) h (by omega) (by decide) (show (parseMethodDescriptor yX8_says.desc).map (fun q => q.parameters.length) = some 2 by decide +kernel) hok (Nat.zero_le _) dX1_oneOfSix_7 (by decide) hs6 rfl rfl (fun _ h9 => nomatch h9) ?_
  clear h
  intro r7 M7 h
  show rt_Go _ _ _ _ _ _ _ _ _ _ _ _ 10 [(0, zv s0 2 24), (1, zv s0 0 v)] [zv s0 0 r7] (zw s0 ca C S M7)
  refine z_if_eq (tgt := 15) (x' := w32 r7) rfl dX1_oneOfSix_10 (by decide) (fun c10 => ?_) (fun c10 => ?_)
  · replace h := h.1 c10
    refine z_aload_n dX1_oneOfSix_15 rfl (j := 0) rfl ?_
    refine z_getc Γ kf_RX1_37 dX1_oneOfSix_16 (by decide) hs24 rfl ?_
    refine z_iload_n dX1_oneOfSix_19 rfl (j := 1) rfl ?_
    obtain ⟨q20, hq20a, hq20b⟩ := ks_RX1_109 Γ
    have hq20 : zstr s0 q20 [98, 111, 111, 108, 101, 97, 110] := ⟨hq20b, by decide, by decide⟩
    replace h := h q20 hq20
    refine rt_ldcS Γ hq20a dX1_oneOfSix_20 ?_
    refine z_callV Γ kk_X8_says kc_RX1_105 (As := [zv s0 0 v, .ref q20]) h (by omega) (by decide) (show (parseMethodDescriptor yX8_says.desc).map (fun q => q.parameters.length) = some 2 by decide +kernel) hok (Nat.zero_le _) dX1_oneOfSix_22 (by decide) hs6 rfl rfl (fun _ h9 => nomatch h9) ?_
    clear h
    intro r22 M22 h
    show rt_Go _ _ _ _ _ _ _ _ _ _ _ _ 25 [(0, zv s0 2 24), (1, zv s0 0 v)] [zv s0 0 r22] (zw s0 ca C S M22)
    refine z_if_eq (tgt := 30) (x' := w32 r22) rfl dX1_oneOfSix_25 (by decide) (fun c25 => ?_) (fun c25 => ?_)
    · replace h := h.1 c25
      refine z_aload_n dX1_oneOfSix_30 rfl (j := 0) rfl ?_
      refine z_getc Γ kf_RX1_37 dX1_oneOfSix_31 (by decide) hs24 rfl ?_
      refine z_iload_n dX1_oneOfSix_34 rfl (j := 1) rfl ?_
      obtain ⟨q35, hq35a, hq35b⟩ := ks_RX1_111 Γ
      have hq35 : zstr s0 q35 [105, 110, 116] := ⟨hq35b, by decide, by decide⟩
      replace h := h q35 hq35
      refine rt_ldcS Γ hq35a dX1_oneOfSix_35 ?_
      refine z_callV Γ kk_X8_says kc_RX1_105 (As := [zv s0 0 v, .ref q35]) h (by omega) (by decide) (show (parseMethodDescriptor yX8_says.desc).map (fun q => q.parameters.length) = some 2 by decide +kernel) hok (Nat.zero_le _) dX1_oneOfSix_37 (by decide) hs6 rfl rfl (fun _ h9 => nomatch h9) ?_
      clear h
      intro r37 M37 h
      show rt_Go _ _ _ _ _ _ _ _ _ _ _ _ 40 [(0, zv s0 2 24), (1, zv s0 0 v)] [zv s0 0 r37] (zw s0 ca C S M37)
      refine z_if_eq (tgt := 45) (x' := w32 r37) rfl dX1_oneOfSix_40 (by decide) (fun c40 => ?_) (fun c40 => ?_)
      · replace h := h.1 c40
        refine z_aload_n dX1_oneOfSix_45 rfl (j := 0) rfl ?_
        refine z_getc Γ kf_RX1_37 dX1_oneOfSix_46 (by decide) hs24 rfl ?_
        refine z_iload_n dX1_oneOfSix_49 rfl (j := 1) rfl ?_
        obtain ⟨q50, hq50a, hq50b⟩ := ks_RX1_113 Γ
        have hq50 : zstr s0 q50 [108, 111, 110, 103] := ⟨hq50b, by decide, by decide⟩
        replace h := h q50 hq50
        refine rt_ldcS Γ hq50a dX1_oneOfSix_50 ?_
        refine z_callV Γ kk_X8_says kc_RX1_105 (As := [zv s0 0 v, .ref q50]) h (by omega) (by decide) (show (parseMethodDescriptor yX8_says.desc).map (fun q => q.parameters.length) = some 2 by decide +kernel) hok (Nat.zero_le _) dX1_oneOfSix_52 (by decide) hs6 rfl rfl (fun _ h9 => nomatch h9) ?_
        clear h
        intro r52 M52 h
        show rt_Go _ _ _ _ _ _ _ _ _ _ _ _ 55 [(0, zv s0 2 24), (1, zv s0 0 v)] [zv s0 0 r52] (zw s0 ca C S M52)
        refine z_if_eq (tgt := 60) (x' := w32 r52) rfl dX1_oneOfSix_55 (by decide) (fun c55 => ?_) (fun c55 => ?_)
        · replace h := h.1 c55
          refine z_aload_n dX1_oneOfSix_60 rfl (j := 0) rfl ?_
          refine z_getc Γ kf_RX1_37 dX1_oneOfSix_61 (by decide) hs24 rfl ?_
          refine z_iload_n dX1_oneOfSix_64 rfl (j := 1) rfl ?_
          obtain ⟨q65, hq65a, hq65b⟩ := ks_RX1_115 Γ
          have hq65 : zstr s0 q65 [98, 121, 116, 101, 115] := ⟨hq65b, by decide, by decide⟩
          replace h := h q65 hq65
          refine rt_ldcS Γ hq65a dX1_oneOfSix_65 ?_
          refine z_callV Γ kk_X8_says kc_RX1_105 (As := [zv s0 0 v, .ref q65]) h (by omega) (by decide) (show (parseMethodDescriptor yX8_says.desc).map (fun q => q.parameters.length) = some 2 by decide +kernel) hok (Nat.zero_le _) dX1_oneOfSix_67 (by decide) hs6 rfl rfl (fun _ h9 => nomatch h9) ?_
          clear h
          intro r67 M67 h
          show rt_Go _ _ _ _ _ _ _ _ _ _ _ _ 70 [(0, zv s0 2 24), (1, zv s0 0 v)] [zv s0 0 r67] (zw s0 ca C S M67)
          refine z_if_eq (tgt := 75) (x' := w32 r67) rfl dX1_oneOfSix_70 (by decide) (fun c70 => ?_) (fun c70 => ?_)
          · replace h := h.1 c70
            refine z_aload_n dX1_oneOfSix_75 rfl (j := 0) rfl ?_
            refine z_getc Γ kf_RX1_37 dX1_oneOfSix_76 (by decide) hs24 rfl ?_
            refine z_iload_n dX1_oneOfSix_79 rfl (j := 1) rfl ?_
            obtain ⟨q80, hq80a, hq80b⟩ := ks_RX1_117 Γ
            have hq80 : zstr s0 q80 [115, 116, 114, 105, 110, 103] := ⟨hq80b, by decide, by decide⟩
            replace h := h q80 hq80
            refine rt_ldcS Γ hq80a dX1_oneOfSix_80 ?_
            refine z_callV Γ kk_X8_says kc_RX1_105 (As := [zv s0 0 v, .ref q80]) h (by omega) (by decide) (show (parseMethodDescriptor yX8_says.desc).map (fun q => q.parameters.length) = some 2 by decide +kernel) hok (Nat.zero_le _) dX1_oneOfSix_82 (by decide) hs6 rfl rfl (fun _ h9 => nomatch h9) ?_
            clear h
            intro r82 M82 h
            show rt_Go _ _ _ _ _ _ _ _ _ _ _ _ 85 [(0, zv s0 2 24), (1, zv s0 0 v)] [zv s0 0 r82] (zw s0 ca C S M82)
            refine z_if_eq (tgt := 92) (x' := w32 r82) rfl dX1_oneOfSix_85 (by decide) (fun c85 => ?_) (fun c85 => ?_)
            · replace h := h.1 c85
              refine z_iconst dX1_oneOfSix_92 ?_
              exact z_iret dX1_oneOfSix_93 rfl h
            · replace h := h.2 c85
              refine z_iconst dX1_oneOfSix_88 ?_
              refine rt_goto (tgt := 93) dX1_oneOfSix_89 (by decide) ?_
              exact z_iret dX1_oneOfSix_93 rfl h
          · replace h := h.2 c70
            refine z_iconst dX1_oneOfSix_73 ?_
            exact z_iret dX1_oneOfSix_74 rfl h
        · replace h := h.2 c55
          refine z_iconst dX1_oneOfSix_58 ?_
          exact z_iret dX1_oneOfSix_59 rfl h
      · replace h := h.2 c40
        refine z_iconst dX1_oneOfSix_43 ?_
        exact z_iret dX1_oneOfSix_44 rfl h
    · replace h := h.2 c25
      refine z_iconst dX1_oneOfSix_28 ?_
      exact z_iret dX1_oneOfSix_29 rfl h
  · replace h := h.2 c10
    refine z_iconst dX1_oneOfSix_13 ?_
    exact z_iret dX1_oneOfSix_14 rfl h

def zt_X1_compound (l : Launch) (s0 : State) (G : va_G) (ca : Nat → ClassId) (d : Nat) (C : Nat × Nat) (S : zS) (w0 : rt_Wd) (p : Int) (v : Int) (M : zM) (Q : Int → zM → Prop) (X : zM → Prop) : Prop :=
  ∀ q5 : Nat, zstr s0 q5 [97, 114, 114, 97, 121] → (zm_X8_says l s0 G ca (d - 1) C S v q5 M (fun r7 M7 => zIf (w32 r7 = 0) (∀ q21 : Nat, zstr s0 q21 [109, 97, 112] → (zm_X8_says l s0 G ca (d - 1) C S v q21 M7 (fun r23 M23 => zIf (w32 r23 = 0) (∀ q37 : Nat, zstr s0 q37 [102, 105, 120, 101, 100] → (zm_X8_says l s0 G ca (d - 1) C S v q37 M23 (fun r39 M39 => zIf (w32 r39 = 0) (∀ q53 : Nat, zstr s0 q53 [101, 110, 117, 109] → (zm_X8_says l s0 G ca (d - 1) C S v q53 M39 (fun r55 M55 => zIf (w32 r55 = 0) (∀ q69 : Nat, zstr s0 q69 [114, 101, 99, 111, 114, 100] → (zm_X8_says l s0 G ca (d - 1) C S v q69 M55 (fun r71 M71 => zIf (w32 r71 = 0) (Q ((-1)) M71) (Q 11 M71)) X)) (Q 10 M55)) X)) (Q 9 M39)) X)) (Q 7 M23)) X)) (Q 6 M7)) X)
set_option maxRecDepth 100000 in
theorem z_X1_compound {l : Launch} {s0 : State} {a0 : Array Value} {G : va_G} {ca : Nat → ClassId} (Γ : rt_Γ l s0 a0 G ca) {d : Nat} {C : Nat × Nat} {S : zS} (hd : 1 ≤ d) (hok : zok C) {p : Int} (hs : zSok S) (hp : zSc S p) (hs24 : S 24 = some (0, 1, [(3, 25), (3, 26), (3, 28), (3, p), (3, 6), (0, 0), (0, 0), (0, 0)])) (hs6 : S 6 = some (0, 8, [(3, 7), (3, 9), (3, 11), (3, 13), (3, 15), (3, 17), (3, 19), (3, 21), (3, 22), (3, 1), (0, 0), (0, 0), (0, 0)])) {v : Int} {M : zM} {Q : Int → zM → Prop} {X : zM → Prop} (h : zt_X1_compound l s0 G ca d C S (zw s0 ca C S M) p v M Q X) : zm_X1_compound l s0 G ca d C S  v M Q X := by
  refine z_met (lv := [(0, zv s0 2 24), (1, zv s0 0 v)]) Γ kk_X1_compound rfl (show (lg_sl [zv s0 2 24, zv s0 0 v]).length ≤ 2 from by simp only [zn_0, zn_2, show (lg_sl []).length = 0 from rfl]; omega) (show lv_args 0 [zv s0 2 24, zv s0 0 v] = [(0, zv s0 2 24), (1, zv s0 0 v)] from by rw [zl_2, zl_0]; rfl) ?_
  unfold zt_X1_compound at h
  refine z_aload_n dX1_compound_0 rfl (j := 0) rfl ?_
  refine z_getc Γ kf_RX1_37 dX1_compound_1 (by decide) hs24 rfl ?_
  refine z_iload_n dX1_compound_4 rfl (j := 1) rfl ?_
  obtain ⟨q5, hq5a, hq5b⟩ := ks_RX1_119 Γ
  have hq5 : zstr s0 q5 [97, 114, 114, 97, 121] := ⟨hq5b, by decide, by decide⟩
  replace h := h q5 hq5
  refine rt_ldcS Γ hq5a dX1_compound_5 ?_
  refine z_callV Γ kk_X8_says kc_RX1_105 (As := [zv s0 0 v, .ref q5]) h (by omega) (by decide) (show (parseMethodDescriptor yX8_says.desc).map (fun q => q.parameters.length) = some 2 by decide +kernel) hok (Nat.zero_le _) dX1_compound_7 (by decide) hs6 rfl rfl (fun _ h9 => nomatch h9) ?_
  clear h
  intro r7 M7 h
  show rt_Go _ _ _ _ _ _ _ _ _ _ _ _ 10 [(0, zv s0 2 24), (1, zv s0 0 v)] [zv s0 0 r7] (zw s0 ca C S M7)
  refine z_if_eq (tgt := 16) (x' := w32 r7) rfl dX1_compound_10 (by decide) (fun c10 => ?_) (fun c10 => ?_)
  · replace h := h.1 c10
    refine z_aload_n dX1_compound_16 rfl (j := 0) rfl ?_
    refine z_getc Γ kf_RX1_37 dX1_compound_17 (by decide) hs24 rfl ?_
    refine z_iload_n dX1_compound_20 rfl (j := 1) rfl ?_
    obtain ⟨q21, hq21a, hq21b⟩ := ks_RX1_121 Γ
    have hq21 : zstr s0 q21 [109, 97, 112] := ⟨hq21b, by decide, by decide⟩
    replace h := h q21 hq21
    refine rt_ldcS Γ hq21a dX1_compound_21 ?_
    refine z_callV Γ kk_X8_says kc_RX1_105 (As := [zv s0 0 v, .ref q21]) h (by omega) (by decide) (show (parseMethodDescriptor yX8_says.desc).map (fun q => q.parameters.length) = some 2 by decide +kernel) hok (Nat.zero_le _) dX1_compound_23 (by decide) hs6 rfl rfl (fun _ h9 => nomatch h9) ?_
    clear h
    intro r23 M23 h
    show rt_Go _ _ _ _ _ _ _ _ _ _ _ _ 26 [(0, zv s0 2 24), (1, zv s0 0 v)] [zv s0 0 r23] (zw s0 ca C S M23)
    refine z_if_eq (tgt := 32) (x' := w32 r23) rfl dX1_compound_26 (by decide) (fun c26 => ?_) (fun c26 => ?_)
    · replace h := h.1 c26
      refine z_aload_n dX1_compound_32 rfl (j := 0) rfl ?_
      refine z_getc Γ kf_RX1_37 dX1_compound_33 (by decide) hs24 rfl ?_
      refine z_iload_n dX1_compound_36 rfl (j := 1) rfl ?_
      obtain ⟨q37, hq37a, hq37b⟩ := ks_RX1_123 Γ
      have hq37 : zstr s0 q37 [102, 105, 120, 101, 100] := ⟨hq37b, by decide, by decide⟩
      replace h := h q37 hq37
      refine rt_ldcS Γ hq37a dX1_compound_37 ?_
      refine z_callV Γ kk_X8_says kc_RX1_105 (As := [zv s0 0 v, .ref q37]) h (by omega) (by decide) (show (parseMethodDescriptor yX8_says.desc).map (fun q => q.parameters.length) = some 2 by decide +kernel) hok (Nat.zero_le _) dX1_compound_39 (by decide) hs6 rfl rfl (fun _ h9 => nomatch h9) ?_
      clear h
      intro r39 M39 h
      show rt_Go _ _ _ _ _ _ _ _ _ _ _ _ 42 [(0, zv s0 2 24), (1, zv s0 0 v)] [zv s0 0 r39] (zw s0 ca C S M39)
      refine z_if_eq (tgt := 48) (x' := w32 r39) rfl dX1_compound_42 (by decide) (fun c42 => ?_) (fun c42 => ?_)
      · replace h := h.1 c42
        refine z_aload_n dX1_compound_48 rfl (j := 0) rfl ?_
        refine z_getc Γ kf_RX1_37 dX1_compound_49 (by decide) hs24 rfl ?_
        refine z_iload_n dX1_compound_52 rfl (j := 1) rfl ?_
        obtain ⟨q53, hq53a, hq53b⟩ := ks_RX1_125 Γ
        have hq53 : zstr s0 q53 [101, 110, 117, 109] := ⟨hq53b, by decide, by decide⟩
        replace h := h q53 hq53
        refine rt_ldcS Γ hq53a dX1_compound_53 ?_
        refine z_callV Γ kk_X8_says kc_RX1_105 (As := [zv s0 0 v, .ref q53]) h (by omega) (by decide) (show (parseMethodDescriptor yX8_says.desc).map (fun q => q.parameters.length) = some 2 by decide +kernel) hok (Nat.zero_le _) dX1_compound_55 (by decide) hs6 rfl rfl (fun _ h9 => nomatch h9) ?_
        clear h
        intro r55 M55 h
        show rt_Go _ _ _ _ _ _ _ _ _ _ _ _ 58 [(0, zv s0 2 24), (1, zv s0 0 v)] [zv s0 0 r55] (zw s0 ca C S M55)
        refine z_if_eq (tgt := 64) (x' := w32 r55) rfl dX1_compound_58 (by decide) (fun c58 => ?_) (fun c58 => ?_)
        · replace h := h.1 c58
          refine z_aload_n dX1_compound_64 rfl (j := 0) rfl ?_
          refine z_getc Γ kf_RX1_37 dX1_compound_65 (by decide) hs24 rfl ?_
          refine z_iload_n dX1_compound_68 rfl (j := 1) rfl ?_
          obtain ⟨q69, hq69a, hq69b⟩ := ks_RX1_127 Γ
          have hq69 : zstr s0 q69 [114, 101, 99, 111, 114, 100] := ⟨hq69b, by decide, by decide⟩
          replace h := h q69 hq69
          refine rt_ldcS Γ hq69a dX1_compound_69 ?_
          refine z_callV Γ kk_X8_says kc_RX1_105 (As := [zv s0 0 v, .ref q69]) h (by omega) (by decide) (show (parseMethodDescriptor yX8_says.desc).map (fun q => q.parameters.length) = some 2 by decide +kernel) hok (Nat.zero_le _) dX1_compound_71 (by decide) hs6 rfl rfl (fun _ h9 => nomatch h9) ?_
          clear h
          intro r71 M71 h
          show rt_Go _ _ _ _ _ _ _ _ _ _ _ _ 74 [(0, zv s0 2 24), (1, zv s0 0 v)] [zv s0 0 r71] (zw s0 ca C S M71)
          refine z_if_eq (tgt := 82) (x' := w32 r71) rfl dX1_compound_74 (by decide) (fun c74 => ?_) (fun c74 => ?_)
          · replace h := h.1 c74
            refine z_iconst dX1_compound_82 ?_
            exact z_iret dX1_compound_83 rfl h
          · replace h := h.2 c74
            refine z_bipush dX1_compound_77 (by decide) ?_
            refine rt_goto (tgt := 83) dX1_compound_79 (by decide) ?_
            exact z_iret dX1_compound_83 rfl h
        · replace h := h.2 c58
          refine z_bipush dX1_compound_61 (by decide) ?_
          exact z_iret dX1_compound_63 rfl h
      · replace h := h.2 c42
        refine z_bipush dX1_compound_45 (by decide) ?_
        exact z_iret dX1_compound_47 rfl h
    · replace h := h.2 c26
      refine z_bipush dX1_compound_29 (by decide) ?_
      exact z_iret dX1_compound_31 rfl h
  · replace h := h.2 c10
    refine z_bipush dX1_compound_13 (by decide) ?_
    exact z_iret dX1_compound_15 rfl h

def zt_X1_defined (l : Launch) (s0 : State) (G : va_G) (ca : Nat → ClassId) (d : Nat) (C : Nat × Nat) (S : zS) (w0 : rt_Wd) (p : Int) (v : Int) (M : zM) (Q : Int → zM → Prop) (X : zM → Prop) : Prop :=
  zm_X6_nodeNamed l s0 G ca (d - 1) C S p 22 (((zat M 18 2073 v))) M (fun r19 M19 => Q r19 M19) X
set_option maxRecDepth 100000 in
theorem z_X1_defined {l : Launch} {s0 : State} {a0 : Array Value} {G : va_G} {ca : Nat → ClassId} (Γ : rt_Γ l s0 a0 G ca) {d : Nat} {C : Nat × Nat} {S : zS} (hd : 2 ≤ d) (hok : zok C) {p : Int} (hs : zSok S) (hp : zSc S p) (hs24 : S 24 = some (0, 1, [(3, 25), (3, 26), (3, 28), (3, p), (3, 6), (0, 0), (0, 0), (0, 0)])) (hs6 : S 6 = some (0, 8, [(3, 7), (3, 9), (3, 11), (3, 13), (3, 15), (3, 17), (3, 19), (3, 21), (3, 22), (3, 1), (0, 0), (0, 0), (0, 0)])) {v : Int} {M : zM} {Q : Int → zM → Prop} {X : zM → Prop} (h : zt_X1_defined l s0 G ca d C S (zw s0 ca C S M) p v M Q X) : zm_X1_defined l s0 G ca d C S  v M Q X := by
  refine z_met (lv := [(0, zv s0 2 24), (1, zv s0 0 v)]) Γ kk_X1_defined rfl (show (lg_sl [zv s0 2 24, zv s0 0 v]).length ≤ 2 from by simp only [zn_0, zn_2, show (lg_sl []).length = 0 from rfl]; omega) (show lv_args 0 [zv s0 2 24, zv s0 0 v] = [(0, zv s0 2 24), (1, zv s0 0 v)] from by rw [zl_2, zl_0]; rfl) ?_
  unfold zt_X1_defined at h
  refine z_aload_n dX1_defined_0 rfl (j := 0) rfl ?_
  refine z_getc Γ kf_RX1_33 dX1_defined_1 (by decide) hs24 rfl ?_
  refine z_aload_n dX1_defined_4 rfl (j := 0) rfl ?_
  refine z_getc Γ kf_RX1_37 dX1_defined_5 (by decide) hs24 rfl ?_
  refine z_callV Γ kk_X8_letters kc_RX1_129 (As := []) (z_X8_letters (d := d - 1) Γ hok hs hs6 (M := M) (Q := fun v9 M9 => v9 = 22 ∧ M9 = M) (X := X) (show _ ∧ _ from ⟨rfl, rfl⟩)) (by omega) (by decide) (show (parseMethodDescriptor yX8_letters.desc).map (fun q => q.parameters.length) = some 0 by decide +kernel) hok (by simp only [List.map, zv_cat0, zv_cat1, zv_cat2, List.sum_cons, List.sum_nil]; decide) dX1_defined_8 (by decide) hs6 rfl rfl (fun _ h9 => nomatch h9) ?_
  rintro v9 M9 ⟨e9, e8⟩
  rw [e9, e8]
  clear e9 e8 v9 M9
  show rt_Go _ _ _ _ _ _ _ _ _ _ _ _ 11 [(0, zv s0 2 24), (1, zv s0 0 v)] [zv s0 2 22, zv s0 2 p] (zw s0 ca C S M)
  refine z_aload_n dX1_defined_11 rfl (j := 0) rfl ?_
  refine z_getc Γ kf_RX1_37 dX1_defined_12 (by decide) hs24 rfl ?_
  refine z_iload_n dX1_defined_15 rfl (j := 1) rfl ?_
  refine z_callV Γ kk_X8_word kc_RX1_133 (As := [zv s0 0 v]) (z_X8_word (d := d - 1) Γ (by omega) hok hs hs6 (M := M) (Q := fun v9 M9 => v9 = ((zat M 18 2073 v)) ∧ M9 = M) (X := X) (show _ ∧ _ from ⟨rfl, rfl⟩)) (by omega) (by decide) (show (parseMethodDescriptor yX8_word.desc).map (fun q => q.parameters.length) = some 1 by decide +kernel) hok (by simp only [List.map, zv_cat0, zv_cat1, zv_cat2, List.sum_cons, List.sum_nil]; decide) dX1_defined_16 (by decide) hs6 rfl rfl (fun _ h9 => nomatch h9) ?_
  rintro v9 M9 ⟨e9, e8⟩
  rw [e9, e8]
  clear e9 e8 v9 M9
  show rt_Go _ _ _ _ _ _ _ _ _ _ _ _ 19 [(0, zv s0 2 24), (1, zv s0 0 v)] [zv s0 0 (((zat M 18 2073 v))), zv s0 2 22, zv s0 2 p] (zw s0 ca C S M)
  refine z_callV Γ kk_X6_nodeNamed kc_RX1_136 (As := [zv s0 2 22, zv s0 0 (((zat M 18 2073 v)))]) h (by omega) (by decide) (show (parseMethodDescriptor yX6_nodeNamed.desc).map (fun q => q.parameters.length) = some 2 by decide +kernel) hok (Nat.zero_le _) dX1_defined_19 hp.1 hp.2.1 rfl rfl (fun _ h9 => nomatch h9) ?_
  clear h
  intro r19 M19 h
  show rt_Go _ _ _ _ _ _ _ _ _ _ _ _ 22 [(0, zv s0 2 24), (1, zv s0 0 v)] [zv s0 0 r19] (zw s0 ca C S M19)
  exact z_iret dX1_defined_22 rfl h

def zt_X1_known (l : Launch) (s0 : State) (G : va_G) (ca : Nat → ClassId) (d : Nat) (C : Nat × Nat) (S : zS) (w0 : rt_Wd) (p : Int) (v : Int) (M : zM) (Q : Int → zM → Prop) (X : zM → Prop) : Prop :=
  zm_X1_oneOfSix l s0 G ca (d - 1) C S v M (fun r2 M2 => zIf (w32 r2 = ((-1))) (zm_X1_defined l s0 G ca (d - 1) C S v M2 (fun r15 M15 => zIf (w32 r15 = ((-1))) (zm_X1_fail l s0 G ca (d - 1) C S 3 v M15 (fun r27 M27 => Q r27 M27) X) (Q r15 M15)) X) (Q r2 M2)) X
set_option maxRecDepth 100000 in
theorem z_X1_known {l : Launch} {s0 : State} {a0 : Array Value} {G : va_G} {ca : Nat → ClassId} (Γ : rt_Γ l s0 a0 G ca) {d : Nat} {C : Nat × Nat} {S : zS} (hd : 1 ≤ d) (hok : zok C) {p : Int} (hs : zSok S) (hp : zSc S p) (hs24 : S 24 = some (0, 1, [(3, 25), (3, 26), (3, 28), (3, p), (3, 6), (0, 0), (0, 0), (0, 0)])) (hs6 : S 6 = some (0, 8, [(3, 7), (3, 9), (3, 11), (3, 13), (3, 15), (3, 17), (3, 19), (3, 21), (3, 22), (3, 1), (0, 0), (0, 0), (0, 0)])) {v : Int} {M : zM} {Q : Int → zM → Prop} {X : zM → Prop} (h : zt_X1_known l s0 G ca d C S (zw s0 ca C S M) p v M Q X) : zm_X1_known l s0 G ca d C S  v M Q X := by
  refine z_met (lv := [(0, zv s0 2 24), (1, zv s0 0 v)]) Γ kk_X1_known rfl (show (lg_sl [zv s0 2 24, zv s0 0 v]).length ≤ 4 from by simp only [zn_0, zn_2, show (lg_sl []).length = 0 from rfl]; omega) (show lv_args 0 [zv s0 2 24, zv s0 0 v] = [(0, zv s0 2 24), (1, zv s0 0 v)] from by rw [zl_2, zl_0]; rfl) ?_
  unfold zt_X1_known at h
  refine z_aload_n dX1_known_0 rfl (j := 0) rfl ?_
  refine z_iload_n dX1_known_1 rfl (j := 1) rfl ?_
  refine z_callV Γ kk_X1_oneOfSix kc_RX1_97 (As := [zv s0 0 v]) h (by omega) (by decide) (show (parseMethodDescriptor yX1_oneOfSix.desc).map (fun q => q.parameters.length) = some 1 by decide +kernel) hok (Nat.zero_le _) dX1_known_2 (by decide) hs24 rfl rfl (fun _ h9 => nomatch h9) ?_
  clear h
  intro r2 M2 h
  show rt_Go _ _ _ _ _ _ _ _ _ _ _ _ 5 [(0, zv s0 2 24), (1, zv s0 0 v)] [zv s0 0 r2] (zw s0 ca C S M2)
  refine z_istore_n (i := 2) (lv' := [(2, zv s0 0 r2), (0, zv s0 2 24), (1, zv s0 0 v)]) dX1_known_5 rfl (by decide) (by simp [zv_cat0, zv_cat1, zv_cat2, zv_cats]) ?_
  refine z_iload_n dX1_known_6 rfl (j := 0) rfl ?_
  refine z_iconst dX1_known_7 ?_
  refine z_icmp_eq (tgt := 13) (x' := w32 r2) (y' := ((-1))) rfl (by decide) dX1_known_8 (by decide) (fun c8 => ?_) (fun c8 => ?_)
  · replace h := h.1 c8
    refine z_aload_n dX1_known_13 rfl (j := 1) rfl ?_
    refine z_iload_n dX1_known_14 rfl (j := 2) rfl ?_
    refine z_callV Γ kk_X1_defined kc_RX1_100 (As := [zv s0 0 v]) h (by omega) (by decide) (show (parseMethodDescriptor yX1_defined.desc).map (fun q => q.parameters.length) = some 1 by decide +kernel) hok (Nat.zero_le _) dX1_known_15 (by decide) hs24 rfl rfl (fun _ h9 => nomatch h9) ?_
    clear h
    intro r15 M15 h
    show rt_Go _ _ _ _ _ _ _ _ _ _ _ _ 18 [(2, zv s0 0 r2), (0, zv s0 2 24), (1, zv s0 0 v)] [zv s0 0 r15] (zw s0 ca C S M15)
    refine z_istore_n (i := 3) (lv' := [(3, zv s0 0 r15), (2, zv s0 0 r2), (0, zv s0 2 24), (1, zv s0 0 v)]) dX1_known_18 rfl (by decide) (by simp [zv_cat0, zv_cat1, zv_cat2, zv_cats]) ?_
    refine z_iload_n dX1_known_19 rfl (j := 0) rfl ?_
    refine z_iconst dX1_known_20 ?_
    refine z_icmp_ne (tgt := 33) (x' := w32 r15) (y' := ((-1))) rfl (by decide) dX1_known_21 (by decide) (fun c21 => ?_) (fun c21 => ?_)
    · replace h := h.2 c21
      refine z_iload_n dX1_known_33 rfl (j := 0) rfl ?_
      exact z_iret dX1_known_34 rfl h
    · replace h := h.1 c21
      refine z_aload_n dX1_known_24 rfl (j := 2) rfl ?_
      refine z_iconst dX1_known_25 ?_
      refine z_iload_n dX1_known_26 rfl (j := 3) rfl ?_
      refine z_callV Γ kk_X1_fail kc_RX1_81 (As := [zv s0 0 3, zv s0 0 v]) h (by omega) (by decide) (show (parseMethodDescriptor yX1_fail.desc).map (fun q => q.parameters.length) = some 2 by decide +kernel) hok (Nat.zero_le _) dX1_known_27 (by decide) hs24 rfl rfl (fun _ h9 => nomatch h9) ?_
      clear h
      intro r27 M27 h
      show rt_Go _ _ _ _ _ _ _ _ _ _ _ _ 30 [(3, zv s0 0 r15), (2, zv s0 0 r2), (0, zv s0 2 24), (1, zv s0 0 v)] [zv s0 0 r27] (zw s0 ca C S M27)
      refine rt_goto (tgt := 34) dX1_known_30 (by decide) ?_
      exact z_iret dX1_known_34 rfl h
  · replace h := h.2 c8
    refine z_iload_n dX1_known_11 rfl (j := 0) rfl ?_
    exact z_iret dX1_known_12 rfl h

abbrev zg_X1_isName_24 (l : Launch) (s0 : State) (G : va_G) (ca : Nat → ClassId) (d : Nat) (C : Nat × Nat) (S : zS) (w0 : rt_Wd) (p : Int) (v1 : Int) (v2 : Int) (v3 : Int)  (M : zM) (Q : Int → zM → Prop) (X : zM → Prop) : Prop := rt_Go l s0 G RX1 "isName" cX1_isName 7 (Option.some FieldType.boolean) [] d w0 (zQ s0 ca 0 C S Q X) 24 [(0, zv s0 2 24), (1, zv s0 0 v1), (2, zv s0 0 v2), (3, zv s0 0 v3)] [] (zw s0 ca C S M)
abbrev zg_X1_isName_71 (l : Launch) (s0 : State) (G : va_G) (ca : Nat → ClassId) (d : Nat) (C : Nat × Nat) (S : zS) (w0 : rt_Wd) (p : Int) (v1 : Int) (v2 : Int) (v3 : Int) (v4 : Int)  (M : zM) (Q : Int → zM → Prop) (X : zM → Prop) : Prop := rt_Go l s0 G RX1 "isName" cX1_isName 7 (Option.some FieldType.boolean) [] d w0 (zQ s0 ca 0 C S Q X) 71 [(0, zv s0 2 24), (1, zv s0 0 v1), (2, zv s0 0 v2), (3, zv s0 0 v3), (4, zv s0 0 v4)] [] (zw s0 ca C S M)
abbrev zg_X1_isName_72 (l : Launch) (s0 : State) (G : va_G) (ca : Nat → ClassId) (d : Nat) (C : Nat × Nat) (S : zS) (w0 : rt_Wd) (p : Int) (v1 : Int) (v2 : Int) (v3 : Int) (v4 : Int) (k0 : Int) (M : zM) (Q : Int → zM → Prop) (X : zM → Prop) : Prop := rt_Go l s0 G RX1 "isName" cX1_isName 7 (Option.some FieldType.boolean) [] d w0 (zQ s0 ca 0 C S Q X) 72 [(0, zv s0 2 24), (1, zv s0 0 v1), (2, zv s0 0 v2), (3, zv s0 0 v3), (4, zv s0 0 v4)] [zv s0 0 k0] (zw s0 ca C S M)
abbrev zg_X1_isName_88 (l : Launch) (s0 : State) (G : va_G) (ca : Nat → ClassId) (d : Nat) (C : Nat × Nat) (S : zS) (w0 : rt_Wd) (p : Int) (v1 : Int) (v2 : Int) (v3 : Int) (v4 : Int) (v5 : Int)  (M : zM) (Q : Int → zM → Prop) (X : zM → Prop) : Prop := rt_Go l s0 G RX1 "isName" cX1_isName 7 (Option.some FieldType.boolean) [] d w0 (zQ s0 ca 0 C S Q X) 88 [(0, zv s0 2 24), (1, zv s0 0 v1), (2, zv s0 0 v2), (3, zv s0 0 v3), (4, zv s0 0 v4), (5, zv s0 0 v5)] [] (zw s0 ca C S M)
abbrev zg_X1_isName_102 (l : Launch) (s0 : State) (G : va_G) (ca : Nat → ClassId) (d : Nat) (C : Nat × Nat) (S : zS) (w0 : rt_Wd) (p : Int) (v1 : Int) (v2 : Int) (v3 : Int) (v4 : Int) (v5 : Int)  (M : zM) (Q : Int → zM → Prop) (X : zM → Prop) : Prop := rt_Go l s0 G RX1 "isName" cX1_isName 7 (Option.some FieldType.boolean) [] d w0 (zQ s0 ca 0 C S Q X) 102 [(0, zv s0 2 24), (1, zv s0 0 v1), (2, zv s0 0 v2), (3, zv s0 0 v3), (4, zv s0 0 v4), (5, zv s0 0 v5)] [] (zw s0 ca C S M)
abbrev zg_X1_isName_109 (l : Launch) (s0 : State) (G : va_G) (ca : Nat → ClassId) (d : Nat) (C : Nat × Nat) (S : zS) (w0 : rt_Wd) (p : Int) (v1 : Int) (v2 : Int) (v3 : Int) (v5 : Int)  (M : zM) (Q : Int → zM → Prop) (X : zM → Prop) : Prop := rt_Go l s0 G RX1 "isName" cX1_isName 7 (Option.some FieldType.boolean) [] d w0 (zQ s0 ca 0 C S Q X) 109 [(0, zv s0 2 24), (1, zv s0 0 v1), (2, zv s0 0 v2), (3, zv s0 0 v3), (5, zv s0 0 v5)] [] (zw s0 ca C S M)
abbrev zg_X1_isName_114 (l : Launch) (s0 : State) (G : va_G) (ca : Nat → ClassId) (d : Nat) (C : Nat × Nat) (S : zS) (w0 : rt_Wd) (p : Int) (v1 : Int) (v2 : Int) (v3 : Int) (v5 : Int) (k0 : Int) (M : zM) (Q : Int → zM → Prop) (X : zM → Prop) : Prop := rt_Go l s0 G RX1 "isName" cX1_isName 7 (Option.some FieldType.boolean) [] d w0 (zQ s0 ca 0 C S Q X) 114 [(0, zv s0 2 24), (1, zv s0 0 v1), (2, zv s0 0 v2), (3, zv s0 0 v3), (5, zv s0 0 v5)] [zv s0 0 k0] (zw s0 ca C S M)
def zt_X1_isName_114 (l : Launch) (s0 : State) (G : va_G) (ca : Nat → ClassId) (d : Nat) (C : Nat × Nat) (S : zS) (w0 : rt_Wd) (p : Int) (v1 : Int) (v2 : Int) (v3 : Int) (v5 : Int) (k0 : Int) (M : zM) (Q : Int → zM → Prop) (X : zM → Prop) : Prop :=
  zIf (w32 k0 = 0) (zIf (w32 v5 = 0) (Q 0 M) (zIf (0 < w32 v3) (zg_X1_isName_24 l s0 G ca d C S w0 p v1 v2 (v3 + 1) M Q X) (Q 0 M))) (zg_X1_isName_24 l s0 G ca d C S w0 p v1 v2 (v3 + 1) M Q X)
set_option maxRecDepth 100000 in
theorem zs_X1_isName_114 {l : Launch} {s0 : State} {a0 : Array Value} {G : va_G} {ca : Nat → ClassId} (Γ : rt_Γ l s0 a0 G ca) {d : Nat} {C : Nat × Nat} {S : zS} (hd : 2 ≤ d) (hok : zok C) {p : Int} (hs : zSok S) (hp : zSc S p) (hs24 : S 24 = some (0, 1, [(3, 25), (3, 26), (3, 28), (3, p), (3, 6), (0, 0), (0, 0), (0, 0)])) (hs6 : S 6 = some (0, 8, [(3, 7), (3, 9), (3, 11), (3, 13), (3, 15), (3, 17), (3, 19), (3, 21), (3, 22), (3, 1), (0, 0), (0, 0), (0, 0)])) {w0 : rt_Wd} {v1 : Int} {v2 : Int} {v3 : Int} {v5 : Int} {k0 : Int}  {M : zM} {Q : Int → zM → Prop} {X : zM → Prop} (h : zt_X1_isName_114 l s0 G ca d C S w0 p v1 v2 v3 v5 k0 M Q X) : zg_X1_isName_114 l s0 G ca d C S w0 p v1 v2 v3 v5 k0 M Q X := by
  unfold zt_X1_isName_114 at h
  refine z_istore (i := 6) (lv' := [(6, zv s0 0 k0), (0, zv s0 2 24), (1, zv s0 0 v1), (2, zv s0 0 v2), (3, zv s0 0 v3), (5, zv s0 0 v5)]) dX1_isName_114 (by decide) (by simp [zv_cat0, zv_cat1, zv_cat2, zv_cats]) ?_
  refine z_iload dX1_isName_116 (j := 0) rfl ?_
  refine z_if_ne (tgt := 132) (x' := w32 k0) rfl dX1_isName_118 (by decide) (fun c118 => ?_) (fun c118 => ?_)
  · replace h := h.2 c118
    refine z_iinc (lv' := [(3, zv s0 0 (v3 + 1)), (6, zv s0 0 k0), (0, zv s0 2 24), (1, zv s0 0 v1), (2, zv s0 0 v2), (5, zv s0 0 v5)]) dX1_isName_132 (j := 4) rfl (by decide) (by simp [zv_cat0, zv_cat1, zv_cat2, zv_cats]) ?_
    refine rt_goto (tgt := 24) dX1_isName_135 (by decide) ?_
    exact rt_lfew [2, 3, 4, 0] rfl h
  · replace h := h.1 c118
    refine z_iload dX1_isName_121 (j := 5) rfl ?_
    refine z_if_eq (tgt := 130) (x' := w32 v5) rfl dX1_isName_123 (by decide) (fun c123 => ?_) (fun c123 => ?_)
    · replace h := h.1 c123
      refine z_iconst dX1_isName_130 ?_
      exact z_zret dX1_isName_131 rfl (by decide) h
    · replace h := h.2 c123
      refine z_iload_n dX1_isName_126 rfl (j := 4) rfl ?_
      refine z_if_gt (tgt := 132) (x' := w32 v3) rfl dX1_isName_127 (by decide) (fun c127 => ?_) (fun c127 => ?_)
      · replace h := h.1 c127
        refine z_iinc (lv' := [(3, zv s0 0 (v3 + 1)), (6, zv s0 0 k0), (0, zv s0 2 24), (1, zv s0 0 v1), (2, zv s0 0 v2), (5, zv s0 0 v5)]) dX1_isName_132 (j := 4) rfl (by decide) (by simp [zv_cat0, zv_cat1, zv_cat2, zv_cats]) ?_
        refine rt_goto (tgt := 24) dX1_isName_135 (by decide) ?_
        exact rt_lfew [2, 3, 4, 0] rfl h
      · replace h := h.2 c127
        refine z_iconst dX1_isName_130 ?_
        exact z_zret dX1_isName_131 rfl (by decide) h

def zt_X1_isName_109 (l : Launch) (s0 : State) (G : va_G) (ca : Nat → ClassId) (d : Nat) (C : Nat × Nat) (S : zS) (w0 : rt_Wd) (p : Int) (v1 : Int) (v2 : Int) (v3 : Int) (v5 : Int)  (M : zM) (Q : Int → zM → Prop) (X : zM → Prop) : Prop :=
  zt_X1_isName_114 l s0 G ca d C S w0 p v1 v2 v3 v5 1 M Q X
set_option maxRecDepth 100000 in
theorem zs_X1_isName_109 {l : Launch} {s0 : State} {a0 : Array Value} {G : va_G} {ca : Nat → ClassId} (Γ : rt_Γ l s0 a0 G ca) {d : Nat} {C : Nat × Nat} {S : zS} (hd : 2 ≤ d) (hok : zok C) {p : Int} (hs : zSok S) (hp : zSc S p) (hs24 : S 24 = some (0, 1, [(3, 25), (3, 26), (3, 28), (3, p), (3, 6), (0, 0), (0, 0), (0, 0)])) (hs6 : S 6 = some (0, 8, [(3, 7), (3, 9), (3, 11), (3, 13), (3, 15), (3, 17), (3, 19), (3, 21), (3, 22), (3, 1), (0, 0), (0, 0), (0, 0)])) {w0 : rt_Wd} {v1 : Int} {v2 : Int} {v3 : Int} {v5 : Int}   {M : zM} {Q : Int → zM → Prop} {X : zM → Prop} (h : zt_X1_isName_109 l s0 G ca d C S w0 p v1 v2 v3 v5 M Q X) : zg_X1_isName_109 l s0 G ca d C S w0 p v1 v2 v3 v5 M Q X := by
  unfold zt_X1_isName_109 at h
  refine z_iconst dX1_isName_109 ?_
  refine rt_goto (tgt := 114) dX1_isName_110 (by decide) ?_
  exact rt_lfew [0, 1, 2, 3, 4] rfl (zs_X1_isName_114 Γ hd hok hs hp hs24 hs6  h)

def zt_X1_isName_102 (l : Launch) (s0 : State) (G : va_G) (ca : Nat → ClassId) (d : Nat) (C : Nat × Nat) (S : zS) (w0 : rt_Wd) (p : Int) (v1 : Int) (v2 : Int) (v3 : Int) (v4 : Int) (v5 : Int)  (M : zM) (Q : Int → zM → Prop) (X : zM → Prop) : Prop :=
  zIf (w32 v4 = 95) (zt_X1_isName_109 l s0 G ca d C S w0 p v1 v2 v3 v5 M Q X) (zt_X1_isName_114 l s0 G ca d C S w0 p v1 v2 v3 v5 0 M Q X)
set_option maxRecDepth 100000 in
theorem zs_X1_isName_102 {l : Launch} {s0 : State} {a0 : Array Value} {G : va_G} {ca : Nat → ClassId} (Γ : rt_Γ l s0 a0 G ca) {d : Nat} {C : Nat × Nat} {S : zS} (hd : 2 ≤ d) (hok : zok C) {p : Int} (hs : zSok S) (hp : zSc S p) (hs24 : S 24 = some (0, 1, [(3, 25), (3, 26), (3, 28), (3, p), (3, 6), (0, 0), (0, 0), (0, 0)])) (hs6 : S 6 = some (0, 8, [(3, 7), (3, 9), (3, 11), (3, 13), (3, 15), (3, 17), (3, 19), (3, 21), (3, 22), (3, 1), (0, 0), (0, 0), (0, 0)])) {w0 : rt_Wd} {v1 : Int} {v2 : Int} {v3 : Int} {v4 : Int} {v5 : Int}   {M : zM} {Q : Int → zM → Prop} {X : zM → Prop} (h : zt_X1_isName_102 l s0 G ca d C S w0 p v1 v2 v3 v4 v5 M Q X) : zg_X1_isName_102 l s0 G ca d C S w0 p v1 v2 v3 v4 v5 M Q X := by
  unfold zt_X1_isName_102 at h
  refine z_iload dX1_isName_102 (j := 4) rfl ?_
  refine z_bipush dX1_isName_104 (by decide) ?_
  refine z_icmp_ne (tgt := 113) (x' := w32 v4) (y' := 95) rfl (by decide) dX1_isName_106 (by decide) (fun c106 => ?_) (fun c106 => ?_)
  · replace h := h.2 c106
    refine z_iconst dX1_isName_113 ?_
    exact rt_lfew [0, 1, 2, 3, 5] rfl (zs_X1_isName_114 Γ hd hok hs hp hs24 hs6  h)
  · replace h := h.1 c106
    exact rt_lfew [0, 1, 2, 3, 5] rfl (zs_X1_isName_109 Γ hd hok hs hp hs24 hs6  h)

def zt_X1_isName_88 (l : Launch) (s0 : State) (G : va_G) (ca : Nat → ClassId) (d : Nat) (C : Nat × Nat) (S : zS) (w0 : rt_Wd) (p : Int) (v1 : Int) (v2 : Int) (v3 : Int) (v4 : Int) (v5 : Int)  (M : zM) (Q : Int → zM → Prop) (X : zM → Prop) : Prop :=
  zIf (w32 v4 < 65) (zt_X1_isName_102 l s0 G ca d C S w0 p v1 v2 v3 v4 v5 M Q X) (zIf (w32 v4 ≤ 90) (zt_X1_isName_109 l s0 G ca d C S w0 p v1 v2 v3 v5 M Q X) (zt_X1_isName_102 l s0 G ca d C S w0 p v1 v2 v3 v4 v5 M Q X))
set_option maxRecDepth 100000 in
theorem zs_X1_isName_88 {l : Launch} {s0 : State} {a0 : Array Value} {G : va_G} {ca : Nat → ClassId} (Γ : rt_Γ l s0 a0 G ca) {d : Nat} {C : Nat × Nat} {S : zS} (hd : 2 ≤ d) (hok : zok C) {p : Int} (hs : zSok S) (hp : zSc S p) (hs24 : S 24 = some (0, 1, [(3, 25), (3, 26), (3, 28), (3, p), (3, 6), (0, 0), (0, 0), (0, 0)])) (hs6 : S 6 = some (0, 8, [(3, 7), (3, 9), (3, 11), (3, 13), (3, 15), (3, 17), (3, 19), (3, 21), (3, 22), (3, 1), (0, 0), (0, 0), (0, 0)])) {w0 : rt_Wd} {v1 : Int} {v2 : Int} {v3 : Int} {v4 : Int} {v5 : Int}   {M : zM} {Q : Int → zM → Prop} {X : zM → Prop} (h : zt_X1_isName_88 l s0 G ca d C S w0 p v1 v2 v3 v4 v5 M Q X) : zg_X1_isName_88 l s0 G ca d C S w0 p v1 v2 v3 v4 v5 M Q X := by
  unfold zt_X1_isName_88 at h
  refine z_iload dX1_isName_88 (j := 4) rfl ?_
  refine z_bipush dX1_isName_90 (by decide) ?_
  refine z_icmp_lt (tgt := 102) (x' := w32 v4) (y' := 65) rfl (by decide) dX1_isName_92 (by decide) (fun c92 => ?_) (fun c92 => ?_)
  · replace h := h.1 c92
    exact rt_lfew [0, 1, 2, 3, 4, 5] rfl (zs_X1_isName_102 Γ hd hok hs hp hs24 hs6  h)
  · replace h := h.2 c92
    refine z_iload dX1_isName_95 (j := 4) rfl ?_
    refine z_bipush dX1_isName_97 (by decide) ?_
    refine z_icmp_le (tgt := 109) (x' := w32 v4) (y' := 90) rfl (by decide) dX1_isName_99 (by decide) (fun c99 => ?_) (fun c99 => ?_)
    · replace h := h.1 c99
      exact rt_lfew [0, 1, 2, 3, 5] rfl (zs_X1_isName_109 Γ hd hok hs hp hs24 hs6  h)
    · replace h := h.2 c99
      exact rt_lfew [0, 1, 2, 3, 4, 5] rfl (zs_X1_isName_102 Γ hd hok hs hp hs24 hs6  h)

def zt_X1_isName_72 (l : Launch) (s0 : State) (G : va_G) (ca : Nat → ClassId) (d : Nat) (C : Nat × Nat) (S : zS) (w0 : rt_Wd) (p : Int) (v1 : Int) (v2 : Int) (v3 : Int) (v4 : Int) (k0 : Int) (M : zM) (Q : Int → zM → Prop) (X : zM → Prop) : Prop :=
  zIf (w32 v4 < 97) (zt_X1_isName_88 l s0 G ca d C S w0 p v1 v2 v3 v4 k0 M Q X) (zIf (w32 v4 ≤ 122) (zt_X1_isName_109 l s0 G ca d C S w0 p v1 v2 v3 k0 M Q X) (zt_X1_isName_88 l s0 G ca d C S w0 p v1 v2 v3 v4 k0 M Q X))
set_option maxRecDepth 100000 in
theorem zs_X1_isName_72 {l : Launch} {s0 : State} {a0 : Array Value} {G : va_G} {ca : Nat → ClassId} (Γ : rt_Γ l s0 a0 G ca) {d : Nat} {C : Nat × Nat} {S : zS} (hd : 2 ≤ d) (hok : zok C) {p : Int} (hs : zSok S) (hp : zSc S p) (hs24 : S 24 = some (0, 1, [(3, 25), (3, 26), (3, 28), (3, p), (3, 6), (0, 0), (0, 0), (0, 0)])) (hs6 : S 6 = some (0, 8, [(3, 7), (3, 9), (3, 11), (3, 13), (3, 15), (3, 17), (3, 19), (3, 21), (3, 22), (3, 1), (0, 0), (0, 0), (0, 0)])) {w0 : rt_Wd} {v1 : Int} {v2 : Int} {v3 : Int} {v4 : Int} {k0 : Int}  {M : zM} {Q : Int → zM → Prop} {X : zM → Prop} (h : zt_X1_isName_72 l s0 G ca d C S w0 p v1 v2 v3 v4 k0 M Q X) : zg_X1_isName_72 l s0 G ca d C S w0 p v1 v2 v3 v4 k0 M Q X := by
  unfold zt_X1_isName_72 at h
  refine z_istore (i := 5) (lv' := [(5, zv s0 0 k0), (0, zv s0 2 24), (1, zv s0 0 v1), (2, zv s0 0 v2), (3, zv s0 0 v3), (4, zv s0 0 v4)]) dX1_isName_72 (by decide) (by simp [zv_cat0, zv_cat1, zv_cat2, zv_cats]) ?_
  refine z_iload dX1_isName_74 (j := 5) rfl ?_
  refine z_bipush dX1_isName_76 (by decide) ?_
  refine z_icmp_lt (tgt := 88) (x' := w32 v4) (y' := 97) rfl (by decide) dX1_isName_78 (by decide) (fun c78 => ?_) (fun c78 => ?_)
  · replace h := h.1 c78
    exact rt_lfew [1, 2, 3, 4, 5, 0] rfl (zs_X1_isName_88 Γ hd hok hs hp hs24 hs6  h)
  · replace h := h.2 c78
    refine z_iload dX1_isName_81 (j := 5) rfl ?_
    refine z_bipush dX1_isName_83 (by decide) ?_
    refine z_icmp_le (tgt := 109) (x' := w32 v4) (y' := 122) rfl (by decide) dX1_isName_85 (by decide) (fun c85 => ?_) (fun c85 => ?_)
    · replace h := h.1 c85
      exact rt_lfew [1, 2, 3, 4, 0] rfl (zs_X1_isName_109 Γ hd hok hs hp hs24 hs6  h)
    · replace h := h.2 c85
      exact rt_lfew [1, 2, 3, 4, 5, 0] rfl (zs_X1_isName_88 Γ hd hok hs hp hs24 hs6  h)

def zt_X1_isName_71 (l : Launch) (s0 : State) (G : va_G) (ca : Nat → ClassId) (d : Nat) (C : Nat × Nat) (S : zS) (w0 : rt_Wd) (p : Int) (v1 : Int) (v2 : Int) (v3 : Int) (v4 : Int)  (M : zM) (Q : Int → zM → Prop) (X : zM → Prop) : Prop :=
  zt_X1_isName_72 l s0 G ca d C S w0 p v1 v2 v3 v4 0 M Q X
set_option maxRecDepth 100000 in
theorem zs_X1_isName_71 {l : Launch} {s0 : State} {a0 : Array Value} {G : va_G} {ca : Nat → ClassId} (Γ : rt_Γ l s0 a0 G ca) {d : Nat} {C : Nat × Nat} {S : zS} (hd : 2 ≤ d) (hok : zok C) {p : Int} (hs : zSok S) (hp : zSc S p) (hs24 : S 24 = some (0, 1, [(3, 25), (3, 26), (3, 28), (3, p), (3, 6), (0, 0), (0, 0), (0, 0)])) (hs6 : S 6 = some (0, 8, [(3, 7), (3, 9), (3, 11), (3, 13), (3, 15), (3, 17), (3, 19), (3, 21), (3, 22), (3, 1), (0, 0), (0, 0), (0, 0)])) {w0 : rt_Wd} {v1 : Int} {v2 : Int} {v3 : Int} {v4 : Int}   {M : zM} {Q : Int → zM → Prop} {X : zM → Prop} (h : zt_X1_isName_71 l s0 G ca d C S w0 p v1 v2 v3 v4 M Q X) : zg_X1_isName_71 l s0 G ca d C S w0 p v1 v2 v3 v4 M Q X := by
  unfold zt_X1_isName_71 at h
  refine z_iconst dX1_isName_71 ?_
  exact rt_lfew [0, 1, 2, 3, 4] rfl (zs_X1_isName_72 Γ hd hok hs hp hs24 hs6  h)

def zt_X1_isName_24 (l : Launch) (s0 : State) (G : va_G) (ca : Nat → ClassId) (d : Nat) (C : Nat × Nat) (S : zS) (w0 : rt_Wd) (p : Int) (v1 : Int) (v2 : Int) (v3 : Int)  (M : zM) (Q : Int → zM → Prop) (X : zM → Prop) : Prop :=
  zIf (w32 v2 ≤ w32 v3) (Q 1 M) (zIf (w32 ((zat M 23 4096 (((((zat M 18 2073 v1))) + 1) + v3))) < 48) (zt_X1_isName_71 l s0 G ca d C S w0 p v1 v2 v3 ((zat M 23 4096 (((((zat M 18 2073 v1))) + 1) + v3))) M Q X) (zIf (57 < w32 ((zat M 23 4096 (((((zat M 18 2073 v1))) + 1) + v3)))) (zt_X1_isName_71 l s0 G ca d C S w0 p v1 v2 v3 ((zat M 23 4096 (((((zat M 18 2073 v1))) + 1) + v3))) M Q X) (zt_X1_isName_72 l s0 G ca d C S w0 p v1 v2 v3 ((zat M 23 4096 (((((zat M 18 2073 v1))) + 1) + v3))) 1 M Q X)))
set_option maxRecDepth 100000 in
theorem zs_X1_isName_24 {l : Launch} {s0 : State} {a0 : Array Value} {G : va_G} {ca : Nat → ClassId} (Γ : rt_Γ l s0 a0 G ca) {d : Nat} {C : Nat × Nat} {S : zS} (hd : 2 ≤ d) (hok : zok C) {p : Int} (hs : zSok S) (hp : zSc S p) (hs24 : S 24 = some (0, 1, [(3, 25), (3, 26), (3, 28), (3, p), (3, 6), (0, 0), (0, 0), (0, 0)])) (hs6 : S 6 = some (0, 8, [(3, 7), (3, 9), (3, 11), (3, 13), (3, 15), (3, 17), (3, 19), (3, 21), (3, 22), (3, 1), (0, 0), (0, 0), (0, 0)])) {w0 : rt_Wd} {v1 : Int} {v2 : Int} {v3 : Int}   {M : zM} {Q : Int → zM → Prop} {X : zM → Prop} (h : zt_X1_isName_24 l s0 G ca d C S w0 p v1 v2 v3 M Q X) : zg_X1_isName_24 l s0 G ca d C S w0 p v1 v2 v3 M Q X := by
  unfold zt_X1_isName_24 at h
  refine z_iload_n dX1_isName_24 rfl (j := 3) rfl ?_
  refine z_iload_n dX1_isName_25 rfl (j := 2) rfl ?_
  refine z_icmp_ge (tgt := 138) (x' := w32 v3) (y' := w32 v2) rfl rfl dX1_isName_26 (by decide) (fun c26 => ?_) (fun c26 => ?_)
  · replace h := h.1 c26
    refine z_iconst dX1_isName_138 ?_
    exact z_zret dX1_isName_139 rfl (by decide) h
  · replace h := h.2 c26
    refine z_aload_n dX1_isName_29 rfl (j := 0) rfl ?_
    refine z_getc Γ kf_RX1_37 dX1_isName_30 (by decide) hs24 rfl ?_
    refine z_callV Γ kk_X8_letters kc_RX1_129 (As := []) (z_X8_letters (d := d - 1) Γ hok hs hs6 (M := M) (Q := fun v9 M9 => v9 = 22 ∧ M9 = M) (X := X) (show _ ∧ _ from ⟨rfl, rfl⟩)) (by omega) (by decide) (show (parseMethodDescriptor yX8_letters.desc).map (fun q => q.parameters.length) = some 0 by decide +kernel) hok (Nat.zero_le _) dX1_isName_33 (by decide) hs6 rfl rfl (fun _ h9 => nomatch h9) ?_
    rintro v9 M9 ⟨e9, e8⟩
    rw [e9, e8]
    clear e9 e8 v9 M9
    show rt_Go _ _ _ _ _ _ _ _ _ _ _ _ 36 [(0, zv s0 2 24), (1, zv s0 0 v1), (2, zv s0 0 v2), (3, zv s0 0 v3)] [zv s0 2 22] (zw s0 ca C S M)
    refine z_aload_n dX1_isName_36 rfl (j := 0) rfl ?_
    refine z_getc Γ kf_RX1_37 dX1_isName_37 (by decide) hs24 rfl ?_
    refine z_iload_n dX1_isName_40 rfl (j := 1) rfl ?_
    refine z_callV Γ kk_X8_word kc_RX1_133 (As := [zv s0 0 v1]) (z_X8_word (d := d - 1) Γ (by omega) hok hs hs6 (M := M) (Q := fun v9 M9 => v9 = ((zat M 18 2073 v1)) ∧ M9 = M) (X := X) (show _ ∧ _ from ⟨rfl, rfl⟩)) (by omega) (by decide) (show (parseMethodDescriptor yX8_word.desc).map (fun q => q.parameters.length) = some 1 by decide +kernel) hok (by simp only [List.map, zv_cat0, zv_cat1, zv_cat2, List.sum_cons, List.sum_nil]; decide) dX1_isName_41 (by decide) hs6 rfl rfl (fun _ h9 => nomatch h9) ?_
    rintro v9 M9 ⟨e9, e8⟩
    rw [e9, e8]
    clear e9 e8 v9 M9
    show rt_Go _ _ _ _ _ _ _ _ _ _ _ _ 44 [(0, zv s0 2 24), (1, zv s0 0 v1), (2, zv s0 0 v2), (3, zv s0 0 v3)] [zv s0 0 (((zat M 18 2073 v1))), zv s0 2 22] (zw s0 ca C S M)
    refine z_iconst dX1_isName_44 ?_
    refine z_iadd dX1_isName_45 ?_
    refine z_iload_n dX1_isName_46 rfl (j := 3) rfl ?_
    refine z_iadd dX1_isName_47 ?_
    refine z_callV Γ kk_X0_at kc_RX1_68 (As := [zv s0 0 (((((zat M 18 2073 v1))) + 1) + v3)]) (k_X0_at (d := d - 1) Γ hok (⟨by decide, by decide, by decide, hs 22 _ rfl, hs 23 _ rfl⟩ : zCe S 22 23 4096) (M := M) (Q := fun v9 M9 => v9 = (zat M 23 4096 (((((zat M 18 2073 v1))) + 1) + v3)) ∧ M9 = M) (X := X) (show _ ∧ _ from ⟨rfl, rfl⟩)) (by omega) (by decide) (show (parseMethodDescriptor yX0_at.desc).map (fun q => q.parameters.length) = some 1 by decide +kernel) hok (Nat.zero_le _) dX1_isName_48 (⟨by decide, by decide, by decide, hs 22 _ rfl, hs 23 _ rfl⟩ : zCe S 22 23 4096).1 (⟨by decide, by decide, by decide, hs 22 _ rfl, hs 23 _ rfl⟩ : zCe S 22 23 4096).2.2.2.1 rfl rfl (fun _ h9 => nomatch h9) ?_
    rintro v9 M9 ⟨e9, e8⟩
    rw [e9, e8]
    clear e9 e8 v9 M9
    show rt_Go _ _ _ _ _ _ _ _ _ _ _ _ 51 [(0, zv s0 2 24), (1, zv s0 0 v1), (2, zv s0 0 v2), (3, zv s0 0 v3)] [zv s0 0 ((zat M 23 4096 (((((zat M 18 2073 v1))) + 1) + v3)))] (zw s0 ca C S M)
    refine z_istore (i := 4) (lv' := [(4, zv s0 0 ((zat M 23 4096 (((((zat M 18 2073 v1))) + 1) + v3)))), (0, zv s0 2 24), (1, zv s0 0 v1), (2, zv s0 0 v2), (3, zv s0 0 v3)]) dX1_isName_51 (by decide) (by simp [zv_cat0, zv_cat1, zv_cat2, zv_cats]) ?_
    refine z_iload dX1_isName_53 (j := 0) rfl ?_
    refine z_bipush dX1_isName_55 (by decide) ?_
    refine z_icmp_lt (tgt := 71) (x' := w32 ((zat M 23 4096 (((((zat M 18 2073 v1))) + 1) + v3)))) (y' := 48) rfl (by decide) dX1_isName_57 (by decide) (fun c57 => ?_) (fun c57 => ?_)
    · replace h := h.1 c57
      exact rt_lfew [1, 2, 3, 4, 0] rfl (zs_X1_isName_71 Γ hd hok hs hp hs24 hs6  h)
    · replace h := h.2 c57
      refine z_iload dX1_isName_60 (j := 0) rfl ?_
      refine z_bipush dX1_isName_62 (by decide) ?_
      refine z_icmp_gt (tgt := 71) (x' := w32 ((zat M 23 4096 (((((zat M 18 2073 v1))) + 1) + v3)))) (y' := 57) rfl (by decide) dX1_isName_64 (by decide) (fun c64 => ?_) (fun c64 => ?_)
      · replace h := h.1 c64
        exact rt_lfew [1, 2, 3, 4, 0] rfl (zs_X1_isName_71 Γ hd hok hs hp hs24 hs6  h)
      · replace h := h.2 c64
        refine z_iconst dX1_isName_67 ?_
        refine rt_goto (tgt := 72) dX1_isName_68 (by decide) ?_
        exact rt_lfew [1, 2, 3, 4, 0] rfl (zs_X1_isName_72 Γ hd hok hs hp hs24 hs6  h)

def zt_X1_isName (l : Launch) (s0 : State) (G : va_G) (ca : Nat → ClassId) (d : Nat) (C : Nat × Nat) (S : zS) (w0 : rt_Wd) (p : Int) (v : Int) (M : zM) (Q : Int → zM → Prop) (X : zM → Prop) : Prop :=
  zIf (w32 (((zat M 23 4096 ((zat M 18 2073 v))))) < 1) (Q 0 M) (zIf (w32 (((zat M 23 4096 ((zat M 18 2073 v))))) ≤ 32) (zg_X1_isName_24 l s0 G ca d C S w0 p v (((zat M 23 4096 ((zat M 18 2073 v))))) 0 M Q X) (Q 0 M))
set_option maxRecDepth 100000 in
theorem z_X1_isName {l : Launch} {s0 : State} {a0 : Array Value} {G : va_G} {ca : Nat → ClassId} (Γ : rt_Γ l s0 a0 G ca) {d : Nat} {C : Nat × Nat} {S : zS} (hd : 2 ≤ d) (hok : zok C) {p : Int} (hs : zSok S) (hp : zSc S p) (hs24 : S 24 = some (0, 1, [(3, 25), (3, 26), (3, 28), (3, p), (3, 6), (0, 0), (0, 0), (0, 0)])) (hs6 : S 6 = some (0, 8, [(3, 7), (3, 9), (3, 11), (3, 13), (3, 15), (3, 17), (3, 19), (3, 21), (3, 22), (3, 1), (0, 0), (0, 0), (0, 0)])) {v : Int} {M : zM} {Q : Int → zM → Prop} {X : zM → Prop} (h : zt_X1_isName l s0 G ca d C S (zw s0 ca C S M) p v M Q X) : zm_X1_isName l s0 G ca d C S  v M Q X := by
  refine z_met (lv := [(0, zv s0 2 24), (1, zv s0 0 v)]) Γ kk_X1_isName rfl (show (lg_sl [zv s0 2 24, zv s0 0 v]).length ≤ 7 from by simp only [zn_0, zn_2, show (lg_sl []).length = 0 from rfl]; omega) (show lv_args 0 [zv s0 2 24, zv s0 0 v] = [(0, zv s0 2 24), (1, zv s0 0 v)] from by rw [zl_2, zl_0]; rfl) ?_
  unfold zt_X1_isName at h
  refine z_aload_n dX1_isName_0 rfl (j := 0) rfl ?_
  refine z_getc Γ kf_RX1_37 dX1_isName_1 (by decide) hs24 rfl ?_
  refine z_iload_n dX1_isName_4 rfl (j := 1) rfl ?_
  refine z_callV Γ kk_X8_length kc_RX1_214 (As := [zv s0 0 v]) (z_X8_length (d := d - 1) Γ (by omega) hok hs hs6 (M := M) (Q := fun v9 M9 => v9 = ((zat M 23 4096 ((zat M 18 2073 v)))) ∧ M9 = M) (X := X) (show _ ∧ _ from ⟨rfl, rfl⟩)) (by omega) (by decide) (show (parseMethodDescriptor yX8_length.desc).map (fun q => q.parameters.length) = some 1 by decide +kernel) hok (Nat.zero_le _) dX1_isName_5 (by decide) hs6 rfl rfl (fun _ h9 => nomatch h9) ?_
  rintro v9 M9 ⟨e9, e8⟩
  rw [e9, e8]
  clear e9 e8 v9 M9
  show rt_Go _ _ _ _ _ _ _ _ _ _ _ _ 8 [(0, zv s0 2 24), (1, zv s0 0 v)] [zv s0 0 (((zat M 23 4096 ((zat M 18 2073 v)))))] (zw s0 ca C S M)
  refine z_istore_n (i := 2) (lv' := [(2, zv s0 0 (((zat M 23 4096 ((zat M 18 2073 v)))))), (0, zv s0 2 24), (1, zv s0 0 v)]) dX1_isName_8 rfl (by decide) (by simp [zv_cat0, zv_cat1, zv_cat2, zv_cats]) ?_
  refine z_iload_n dX1_isName_9 rfl (j := 0) rfl ?_
  refine z_iconst dX1_isName_10 ?_
  refine z_icmp_lt (tgt := 20) (x' := w32 (((zat M 23 4096 ((zat M 18 2073 v)))))) (y' := 1) rfl (by decide) dX1_isName_11 (by decide) (fun c11 => ?_) (fun c11 => ?_)
  · replace h := h.1 c11
    refine z_iconst dX1_isName_20 ?_
    exact z_zret dX1_isName_21 rfl (by decide) h
  · replace h := h.2 c11
    refine z_iload_n dX1_isName_14 rfl (j := 0) rfl ?_
    refine z_bipush dX1_isName_15 (by decide) ?_
    refine z_icmp_le (tgt := 22) (x' := w32 (((zat M 23 4096 ((zat M 18 2073 v)))))) (y' := 32) rfl (by decide) dX1_isName_17 (by decide) (fun c17 => ?_) (fun c17 => ?_)
    · replace h := h.1 c17
      refine z_iconst dX1_isName_22 ?_
      refine z_istore_n (i := 3) (lv' := [(3, zv s0 0 0), (2, zv s0 0 (((zat M 23 4096 ((zat M 18 2073 v)))))), (0, zv s0 2 24), (1, zv s0 0 v)]) dX1_isName_23 rfl (by decide) (by simp [zv_cat0, zv_cat1, zv_cat2, zv_cats]) ?_
      exact rt_lfew [2, 3, 1, 0] rfl h
    · replace h := h.2 c17
      refine z_iconst dX1_isName_20 ?_
      exact z_zret dX1_isName_21 rfl (by decide) h

def zt_X1_partSaid (l : Launch) (s0 : State) (G : va_G) (ca : Nat → ClassId) (d : Nat) (C : Nat × Nat) (S : zS) (w0 : rt_Wd) (p : Int) (s : Int) (v : Int) (M : zM) (Q : Int → zM → Prop) (X : zM → Prop) : Prop :=
  zm_X6_partNamed l s0 G ca (d - 1) C S p s 22 (((zat M 18 2073 v))) M (fun r20 M20 => Q r20 M20) X
set_option maxRecDepth 100000 in
theorem z_X1_partSaid {l : Launch} {s0 : State} {a0 : Array Value} {G : va_G} {ca : Nat → ClassId} (Γ : rt_Γ l s0 a0 G ca) {d : Nat} {C : Nat × Nat} {S : zS} (hd : 2 ≤ d) (hok : zok C) {p : Int} (hs : zSok S) (hp : zSc S p) (hs24 : S 24 = some (0, 1, [(3, 25), (3, 26), (3, 28), (3, p), (3, 6), (0, 0), (0, 0), (0, 0)])) (hs6 : S 6 = some (0, 8, [(3, 7), (3, 9), (3, 11), (3, 13), (3, 15), (3, 17), (3, 19), (3, 21), (3, 22), (3, 1), (0, 0), (0, 0), (0, 0)])) {s : Int} {v : Int} {M : zM} {Q : Int → zM → Prop} {X : zM → Prop} (h : zt_X1_partSaid l s0 G ca d C S (zw s0 ca C S M) p s v M Q X) : zm_X1_partSaid l s0 G ca d C S  s v M Q X := by
  refine z_met (lv := [(0, zv s0 2 24), (1, zv s0 0 s), (2, zv s0 0 v)]) Γ kk_X1_partSaid rfl (show (lg_sl [zv s0 2 24, zv s0 0 s, zv s0 0 v]).length ≤ 3 from by simp only [zn_0, zn_2, show (lg_sl []).length = 0 from rfl]; omega) (show lv_args 0 [zv s0 2 24, zv s0 0 s, zv s0 0 v] = [(0, zv s0 2 24), (1, zv s0 0 s), (2, zv s0 0 v)] from by rw [zl_2, zl_0, zl_0]; rfl) ?_
  unfold zt_X1_partSaid at h
  refine z_aload_n dX1_partSaid_0 rfl (j := 0) rfl ?_
  refine z_getc Γ kf_RX1_33 dX1_partSaid_1 (by decide) hs24 rfl ?_
  refine z_iload_n dX1_partSaid_4 rfl (j := 1) rfl ?_
  refine z_aload_n dX1_partSaid_5 rfl (j := 0) rfl ?_
  refine z_getc Γ kf_RX1_37 dX1_partSaid_6 (by decide) hs24 rfl ?_
  refine z_callV Γ kk_X8_letters kc_RX1_129 (As := []) (z_X8_letters (d := d - 1) Γ hok hs hs6 (M := M) (Q := fun v9 M9 => v9 = 22 ∧ M9 = M) (X := X) (show _ ∧ _ from ⟨rfl, rfl⟩)) (by omega) (by decide) (show (parseMethodDescriptor yX8_letters.desc).map (fun q => q.parameters.length) = some 0 by decide +kernel) hok (by simp only [List.map, zv_cat0, zv_cat1, zv_cat2, List.sum_cons, List.sum_nil]; decide) dX1_partSaid_9 (by decide) hs6 rfl rfl (fun _ h9 => nomatch h9) ?_
  rintro v9 M9 ⟨e9, e8⟩
  rw [e9, e8]
  clear e9 e8 v9 M9
  show rt_Go _ _ _ _ _ _ _ _ _ _ _ _ 12 [(0, zv s0 2 24), (1, zv s0 0 s), (2, zv s0 0 v)] [zv s0 2 22, zv s0 0 s, zv s0 2 p] (zw s0 ca C S M)
  refine z_aload_n dX1_partSaid_12 rfl (j := 0) rfl ?_
  refine z_getc Γ kf_RX1_37 dX1_partSaid_13 (by decide) hs24 rfl ?_
  refine z_iload_n dX1_partSaid_16 rfl (j := 2) rfl ?_
  refine z_callV Γ kk_X8_word kc_RX1_133 (As := [zv s0 0 v]) (z_X8_word (d := d - 1) Γ (by omega) hok hs hs6 (M := M) (Q := fun v9 M9 => v9 = ((zat M 18 2073 v)) ∧ M9 = M) (X := X) (show _ ∧ _ from ⟨rfl, rfl⟩)) (by omega) (by decide) (show (parseMethodDescriptor yX8_word.desc).map (fun q => q.parameters.length) = some 1 by decide +kernel) hok (by simp only [List.map, zv_cat0, zv_cat1, zv_cat2, List.sum_cons, List.sum_nil]; decide) dX1_partSaid_17 (by decide) hs6 rfl rfl (fun _ h9 => nomatch h9) ?_
  rintro v9 M9 ⟨e9, e8⟩
  rw [e9, e8]
  clear e9 e8 v9 M9
  show rt_Go _ _ _ _ _ _ _ _ _ _ _ _ 20 [(0, zv s0 2 24), (1, zv s0 0 s), (2, zv s0 0 v)] [zv s0 0 (((zat M 18 2073 v))), zv s0 2 22, zv s0 0 s, zv s0 2 p] (zw s0 ca C S M)
  refine z_callV Γ kk_X6_partNamed kc_RX1_244 (As := [zv s0 0 s, zv s0 2 22, zv s0 0 (((zat M 18 2073 v)))]) h (by omega) (by decide) (show (parseMethodDescriptor yX6_partNamed.desc).map (fun q => q.parameters.length) = some 3 by decide +kernel) hok (Nat.zero_le _) dX1_partSaid_20 hp.1 hp.2.1 rfl rfl (fun _ h9 => nomatch h9) ?_
  clear h
  intro r20 M20 h
  show rt_Go _ _ _ _ _ _ _ _ _ _ _ _ 23 [(0, zv s0 2 24), (1, zv s0 0 s), (2, zv s0 0 v)] [zv s0 0 r20] (zw s0 ca C S M20)
  exact z_iret dX1_partSaid_23 rfl h

def zt_X1_define (l : Launch) (s0 : State) (G : va_G) (ca : Nat → ClassId) (d : Nat) (C : Nat × Nat) (S : zS) (w0 : rt_Wd) (p : Int) (v : Int) (k : Int) (M : zM) (Q : Int → zM → Prop) (X : zM → Prop) : Prop :=
  ∀ q5 : Nat, zstr s0 q5 [110, 97, 109, 101] → (zm_X8_member l s0 G ca (d - 1) C S v q5 M (fun r7 M7 => zIf (w32 ((zf_X8_isString M7 r7)) = 0) (zm_X1_fail l s0 G ca (d - 1) C S 8 v M7 (fun r26 M26 => Q r26 M26) X) (zm_X1_isName l s0 G ca (d - 1) C S r7 M7 (fun r32 M32 => zIf (w32 r32 = 0) (zm_X1_fail l s0 G ca (d - 1) C S 9 r7 M32 (fun r69 M69 => Q r69 M69) X) (zm_X1_oneOfSix l s0 G ca (d - 1) C S r7 M32 (fun r40 M40 => zIf (w32 r40 = ((-1))) (zm_X1_compound l s0 G ca (d - 1) C S r7 M40 (fun r49 M49 => zIf (w32 r49 = ((-1))) (zm_X1_defined l s0 G ca (d - 1) C S r7 M49 (fun r58 M58 => zIf (w32 r58 = ((-1))) (zm_X6_addName l s0 G ca (d - 1) C S p 22 (((zat (((zput ((zput ((zput ((zput ((zput ((zadd M58 (p + 1) (p + 2) 134 k)) (p + 4) 134 ((M58 (p + 1) 1)) ((-1)))) (p + 6) 134 ((M58 (p + 1) 1)) ((-1)))) (p + 8) 134 ((M58 (p + 1) 1)) ((-1)))) (p + 10) 134 ((M58 (p + 1) 1)) 0)) (p + 12) 134 ((M58 (p + 1) 1)) 0))) 18 2073 r7))) (((zput ((zput ((zput ((zput ((zput ((zadd M58 (p + 1) (p + 2) 134 k)) (p + 4) 134 ((M58 (p + 1) 1)) ((-1)))) (p + 6) 134 ((M58 (p + 1) 1)) ((-1)))) (p + 8) 134 ((M58 (p + 1) 1)) ((-1)))) (p + 10) 134 ((M58 (p + 1) 1)) 0)) (p + 12) 134 ((M58 (p + 1) 1)) 0))) (fun r108 M108 => Q (((M58 (p + 1) 1))) (((zput M108 (p + 4) 134 (((M58 (p + 1) 1))) r108)))) X) (zm_X1_fail l s0 G ca (d - 1) C S 9 r7 M58 (fun r69 M69 => Q r69 M69) X)) X) (zm_X1_fail l s0 G ca (d - 1) C S 9 r7 M49 (fun r69 M69 => Q r69 M69) X)) X) (zm_X1_fail l s0 G ca (d - 1) C S 9 r7 M40 (fun r69 M69 => Q r69 M69) X)) X)) X)) X)
set_option maxRecDepth 100000 in
theorem z_X1_define {l : Launch} {s0 : State} {a0 : Array Value} {G : va_G} {ca : Nat → ClassId} (Γ : rt_Γ l s0 a0 G ca) {d : Nat} {C : Nat × Nat} {S : zS} (hd : 2 ≤ d) (hok : zok C) {p : Int} (hs : zSok S) (hp : zSc S p) (hs24 : S 24 = some (0, 1, [(3, 25), (3, 26), (3, 28), (3, p), (3, 6), (0, 0), (0, 0), (0, 0)])) (hs6 : S 6 = some (0, 8, [(3, 7), (3, 9), (3, 11), (3, 13), (3, 15), (3, 17), (3, 19), (3, 21), (3, 22), (3, 1), (0, 0), (0, 0), (0, 0)])) {v : Int} {k : Int} {M : zM} {Q : Int → zM → Prop} {X : zM → Prop} (h : zt_X1_define l s0 G ca d C S (zw s0 ca C S M) p v k M Q X) : zm_X1_define l s0 G ca d C S  v k M Q X := by
  refine z_met (lv := [(0, zv s0 2 24), (1, zv s0 0 v), (2, zv s0 0 k)]) Γ kk_X1_define rfl (show (lg_sl [zv s0 2 24, zv s0 0 v, zv s0 0 k]).length ≤ 5 from by simp only [zn_0, zn_2, show (lg_sl []).length = 0 from rfl]; omega) (show lv_args 0 [zv s0 2 24, zv s0 0 v, zv s0 0 k] = [(0, zv s0 2 24), (1, zv s0 0 v), (2, zv s0 0 k)] from by rw [zl_2, zl_0, zl_0]; rfl) ?_
  unfold zt_X1_define at h
  refine z_aload_n dX1_define_0 rfl (j := 0) rfl ?_
  refine z_getc Γ kf_RX1_37 dX1_define_1 (by decide) hs24 rfl ?_
  refine z_iload_n dX1_define_4 rfl (j := 1) rfl ?_
  obtain ⟨q5, hq5a, hq5b⟩ := ks_RX1_203 Γ
  have hq5 : zstr s0 q5 [110, 97, 109, 101] := ⟨hq5b, by decide, by decide⟩
  replace h := h q5 hq5
  refine rt_ldcS Γ hq5a dX1_define_5 ?_
  refine z_callV Γ kk_X8_member kc_RX1_172 (As := [zv s0 0 v, .ref q5]) h (by omega) (by decide) (show (parseMethodDescriptor yX8_member.desc).map (fun q => q.parameters.length) = some 2 by decide +kernel) hok (Nat.zero_le _) dX1_define_7 (by decide) hs6 rfl rfl (fun _ h9 => nomatch h9) ?_
  clear h
  intro r7 M7 h
  show rt_Go _ _ _ _ _ _ _ _ _ _ _ _ 10 [(0, zv s0 2 24), (1, zv s0 0 v), (2, zv s0 0 k)] [zv s0 0 r7] (zw s0 ca C S M7)
  refine z_istore_n (i := 3) (lv' := [(3, zv s0 0 r7), (0, zv s0 2 24), (1, zv s0 0 v), (2, zv s0 0 k)]) dX1_define_10 rfl (by decide) (by simp [zv_cat0, zv_cat1, zv_cat2, zv_cats]) ?_
  refine z_aload_n dX1_define_11 rfl (j := 1) rfl ?_
  refine z_getc Γ kf_RX1_37 dX1_define_12 (by decide) hs24 rfl ?_
  refine z_iload_n dX1_define_15 rfl (j := 0) rfl ?_
  refine z_callV Γ kk_X8_isString kc_RX1_176 (As := [zv s0 0 r7]) (k_X8_isString (d := d - 1) Γ (by omega) hok hs hs6 (M := M7) (Q := fun v9 M9 => v9 = (zf_X8_isString M7 r7) ∧ M9 = M7) (X := X) (show _ ∧ _ from ⟨rfl, rfl⟩)) (by omega) (by decide) (show (parseMethodDescriptor yX8_isString.desc).map (fun q => q.parameters.length) = some 1 by decide +kernel) hok (Nat.zero_le _) dX1_define_16 (by decide) hs6 rfl rfl (fun _ h9 => nomatch h9) ?_
  rintro v9 M9 ⟨e9, e8⟩
  rw [e9, e8]
  clear e9 e8 v9 M9
  show rt_Go _ _ _ _ _ _ _ _ _ _ _ _ 19 [(3, zv s0 0 r7), (0, zv s0 2 24), (1, zv s0 0 v), (2, zv s0 0 k)] [zv s0 0 ((zf_X8_isString M7 r7))] (zw s0 ca C S M7)
  refine z_if_ne (tgt := 30) (x' := w32 ((zf_X8_isString M7 r7))) rfl dX1_define_19 (by decide) (fun c19 => ?_) (fun c19 => ?_)
  · replace h := h.2 c19
    refine z_aload_n dX1_define_30 rfl (j := 1) rfl ?_
    refine z_iload_n dX1_define_31 rfl (j := 0) rfl ?_
    refine z_callV Γ kk_X1_isName kc_RX1_205 (As := [zv s0 0 r7]) h (by omega) (by decide) (show (parseMethodDescriptor yX1_isName.desc).map (fun q => q.parameters.length) = some 1 by decide +kernel) hok (Nat.zero_le _) dX1_define_32 (by decide) hs24 rfl rfl (fun _ h9 => nomatch h9) ?_
    clear h
    intro r32 M32 h
    show rt_Go _ _ _ _ _ _ _ _ _ _ _ _ 35 [(3, zv s0 0 r7), (0, zv s0 2 24), (1, zv s0 0 v), (2, zv s0 0 k)] [zv s0 0 r32] (zw s0 ca C S M32)
    refine z_if_eq (tgt := 65) (x' := w32 r32) rfl dX1_define_35 (by decide) (fun c35 => ?_) (fun c35 => ?_)
    · replace h := h.1 c35
      refine z_aload_n dX1_define_65 rfl (j := 1) rfl ?_
      refine z_bipush dX1_define_66 (by decide) ?_
      refine z_iload_n dX1_define_68 rfl (j := 0) rfl ?_
      refine z_callV Γ kk_X1_fail kc_RX1_81 (As := [zv s0 0 9, zv s0 0 r7]) h (by omega) (by decide) (show (parseMethodDescriptor yX1_fail.desc).map (fun q => q.parameters.length) = some 2 by decide +kernel) hok (Nat.zero_le _) dX1_define_69 (by decide) hs24 rfl rfl (fun _ h9 => nomatch h9) ?_
      clear h
      intro r69 M69 h
      show rt_Go _ _ _ _ _ _ _ _ _ _ _ _ 72 [(3, zv s0 0 r7), (0, zv s0 2 24), (1, zv s0 0 v), (2, zv s0 0 k)] [zv s0 0 r69] (zw s0 ca C S M69)
      exact z_iret dX1_define_72 rfl h
    · replace h := h.2 c35
      refine z_aload_n dX1_define_38 rfl (j := 1) rfl ?_
      refine z_iload_n dX1_define_39 rfl (j := 0) rfl ?_
      refine z_callV Γ kk_X1_oneOfSix kc_RX1_97 (As := [zv s0 0 r7]) h (by omega) (by decide) (show (parseMethodDescriptor yX1_oneOfSix.desc).map (fun q => q.parameters.length) = some 1 by decide +kernel) hok (Nat.zero_le _) dX1_define_40 (by decide) hs24 rfl rfl (fun _ h9 => nomatch h9) ?_
      clear h
      intro r40 M40 h
      show rt_Go _ _ _ _ _ _ _ _ _ _ _ _ 43 [(3, zv s0 0 r7), (0, zv s0 2 24), (1, zv s0 0 v), (2, zv s0 0 k)] [zv s0 0 r40] (zw s0 ca C S M40)
      refine z_iconst dX1_define_43 ?_
      refine z_icmp_ne (tgt := 65) (x' := w32 r40) (y' := ((-1))) rfl (by decide) dX1_define_44 (by decide) (fun c44 => ?_) (fun c44 => ?_)
      · replace h := h.2 c44
        refine z_aload_n dX1_define_65 rfl (j := 1) rfl ?_
        refine z_bipush dX1_define_66 (by decide) ?_
        refine z_iload_n dX1_define_68 rfl (j := 0) rfl ?_
        refine z_callV Γ kk_X1_fail kc_RX1_81 (As := [zv s0 0 9, zv s0 0 r7]) h (by omega) (by decide) (show (parseMethodDescriptor yX1_fail.desc).map (fun q => q.parameters.length) = some 2 by decide +kernel) hok (Nat.zero_le _) dX1_define_69 (by decide) hs24 rfl rfl (fun _ h9 => nomatch h9) ?_
        clear h
        intro r69 M69 h
        show rt_Go _ _ _ _ _ _ _ _ _ _ _ _ 72 [(3, zv s0 0 r7), (0, zv s0 2 24), (1, zv s0 0 v), (2, zv s0 0 k)] [zv s0 0 r69] (zw s0 ca C S M69)
        exact z_iret dX1_define_72 rfl h
      · replace h := h.1 c44
        refine z_aload_n dX1_define_47 rfl (j := 1) rfl ?_
        refine z_iload_n dX1_define_48 rfl (j := 0) rfl ?_
        refine z_callV Γ kk_X1_compound kc_RX1_180 (As := [zv s0 0 r7]) h (by omega) (by decide) (show (parseMethodDescriptor yX1_compound.desc).map (fun q => q.parameters.length) = some 1 by decide +kernel) hok (Nat.zero_le _) dX1_define_49 (by decide) hs24 rfl rfl (fun _ h9 => nomatch h9) ?_
        clear h
        intro r49 M49 h
        show rt_Go _ _ _ _ _ _ _ _ _ _ _ _ 52 [(3, zv s0 0 r7), (0, zv s0 2 24), (1, zv s0 0 v), (2, zv s0 0 k)] [zv s0 0 r49] (zw s0 ca C S M49)
        refine z_iconst dX1_define_52 ?_
        refine z_icmp_ne (tgt := 65) (x' := w32 r49) (y' := ((-1))) rfl (by decide) dX1_define_53 (by decide) (fun c53 => ?_) (fun c53 => ?_)
        · replace h := h.2 c53
          refine z_aload_n dX1_define_65 rfl (j := 1) rfl ?_
          refine z_bipush dX1_define_66 (by decide) ?_
          refine z_iload_n dX1_define_68 rfl (j := 0) rfl ?_
          refine z_callV Γ kk_X1_fail kc_RX1_81 (As := [zv s0 0 9, zv s0 0 r7]) h (by omega) (by decide) (show (parseMethodDescriptor yX1_fail.desc).map (fun q => q.parameters.length) = some 2 by decide +kernel) hok (Nat.zero_le _) dX1_define_69 (by decide) hs24 rfl rfl (fun _ h9 => nomatch h9) ?_
          clear h
          intro r69 M69 h
          show rt_Go _ _ _ _ _ _ _ _ _ _ _ _ 72 [(3, zv s0 0 r7), (0, zv s0 2 24), (1, zv s0 0 v), (2, zv s0 0 k)] [zv s0 0 r69] (zw s0 ca C S M69)
          exact z_iret dX1_define_72 rfl h
        · replace h := h.1 c53
          refine z_aload_n dX1_define_56 rfl (j := 1) rfl ?_
          refine z_iload_n dX1_define_57 rfl (j := 0) rfl ?_
          refine z_callV Γ kk_X1_defined kc_RX1_100 (As := [zv s0 0 r7]) h (by omega) (by decide) (show (parseMethodDescriptor yX1_defined.desc).map (fun q => q.parameters.length) = some 1 by decide +kernel) hok (Nat.zero_le _) dX1_define_58 (by decide) hs24 rfl rfl (fun _ h9 => nomatch h9) ?_
          clear h
          intro r58 M58 h
          show rt_Go _ _ _ _ _ _ _ _ _ _ _ _ 61 [(3, zv s0 0 r7), (0, zv s0 2 24), (1, zv s0 0 v), (2, zv s0 0 k)] [zv s0 0 r58] (zw s0 ca C S M58)
          refine z_iconst dX1_define_61 ?_
          refine z_icmp_eq (tgt := 73) (x' := w32 r58) (y' := ((-1))) rfl (by decide) dX1_define_62 (by decide) (fun c62 => ?_) (fun c62 => ?_)
          · replace h := h.1 c62
            refine z_aload_n dX1_define_73 rfl (j := 1) rfl ?_
            refine z_getc Γ kf_RX1_33 dX1_define_74 (by decide) hs24 rfl ?_
            refine z_iload_n dX1_define_77 rfl (j := 3) rfl ?_
            refine z_callV Γ kk_X6_addNode kc_RX1_143 (As := [zv s0 0 k]) (z_X6_addNode (d := d - 1) Γ (by omega) hok hp (M := M58) (Q := fun v9 M9 => v9 = ((M58 (p + 1) 1)) ∧ M9 = ((zput ((zput ((zput ((zput ((zput ((zadd M58 (p + 1) (p + 2) 134 k)) (p + 4) 134 ((M58 (p + 1) 1)) ((-1)))) (p + 6) 134 ((M58 (p + 1) 1)) ((-1)))) (p + 8) 134 ((M58 (p + 1) 1)) ((-1)))) (p + 10) 134 ((M58 (p + 1) 1)) 0)) (p + 12) 134 ((M58 (p + 1) 1)) 0))) (X := X) (show _ ∧ _ from ⟨rfl, rfl⟩)) (by omega) (by decide) (show (parseMethodDescriptor yX6_addNode.desc).map (fun q => q.parameters.length) = some 1 by decide +kernel) hok (Nat.zero_le _) dX1_define_78 hp.1 hp.2.1 rfl rfl (fun _ h9 => nomatch h9) ?_
            rintro v9 M9 ⟨e9, e8⟩
            rw [e9, e8]
            clear e9 e8 v9 M9
            show rt_Go _ _ _ _ _ _ _ _ _ _ _ _ 81 [(3, zv s0 0 r7), (0, zv s0 2 24), (1, zv s0 0 v), (2, zv s0 0 k)] [zv s0 0 (((M58 (p + 1) 1)))] (zw s0 ca C S (((zput ((zput ((zput ((zput ((zput ((zadd M58 (p + 1) (p + 2) 134 k)) (p + 4) 134 ((M58 (p + 1) 1)) ((-1)))) (p + 6) 134 ((M58 (p + 1) 1)) ((-1)))) (p + 8) 134 ((M58 (p + 1) 1)) ((-1)))) (p + 10) 134 ((M58 (p + 1) 1)) 0)) (p + 12) 134 ((M58 (p + 1) 1)) 0))))
            refine z_istore (i := 4) (lv' := [(4, zv s0 0 (((M58 (p + 1) 1)))), (3, zv s0 0 r7), (0, zv s0 2 24), (1, zv s0 0 v), (2, zv s0 0 k)]) dX1_define_81 (by decide) (by simp [zv_cat0, zv_cat1, zv_cat2, zv_cats]) ?_
            refine z_aload_n dX1_define_83 rfl (j := 2) rfl ?_
            refine z_getc Γ kf_RX1_33 dX1_define_84 (by decide) hs24 rfl ?_
            refine z_iload dX1_define_87 (j := 0) rfl ?_
            refine z_aload_n dX1_define_89 rfl (j := 2) rfl ?_
            refine z_getc Γ kf_RX1_33 dX1_define_90 (by decide) hs24 rfl ?_
            refine z_aload_n dX1_define_93 rfl (j := 2) rfl ?_
            refine z_getc Γ kf_RX1_37 dX1_define_94 (by decide) hs24 rfl ?_
            refine z_callV Γ kk_X8_letters kc_RX1_129 (As := []) (z_X8_letters (d := d - 1) Γ hok hs hs6 (M := (((zput ((zput ((zput ((zput ((zput ((zadd M58 (p + 1) (p + 2) 134 k)) (p + 4) 134 ((M58 (p + 1) 1)) ((-1)))) (p + 6) 134 ((M58 (p + 1) 1)) ((-1)))) (p + 8) 134 ((M58 (p + 1) 1)) ((-1)))) (p + 10) 134 ((M58 (p + 1) 1)) 0)) (p + 12) 134 ((M58 (p + 1) 1)) 0)))) (Q := fun v9 M9 => v9 = 22 ∧ M9 = (((zput ((zput ((zput ((zput ((zput ((zadd M58 (p + 1) (p + 2) 134 k)) (p + 4) 134 ((M58 (p + 1) 1)) ((-1)))) (p + 6) 134 ((M58 (p + 1) 1)) ((-1)))) (p + 8) 134 ((M58 (p + 1) 1)) ((-1)))) (p + 10) 134 ((M58 (p + 1) 1)) 0)) (p + 12) 134 ((M58 (p + 1) 1)) 0)))) (X := X) (show _ ∧ _ from ⟨rfl, rfl⟩)) (by omega) (by decide) (show (parseMethodDescriptor yX8_letters.desc).map (fun q => q.parameters.length) = some 0 by decide +kernel) hok (by simp only [List.map, zv_cat0, zv_cat1, zv_cat2, List.sum_cons, List.sum_nil]; decide) dX1_define_97 (by decide) hs6 rfl rfl (fun _ h9 => nomatch h9) ?_
            rintro v9 M9 ⟨e9, e8⟩
            rw [e9, e8]
            clear e9 e8 v9 M9
            show rt_Go _ _ _ _ _ _ _ _ _ _ _ _ 100 [(4, zv s0 0 (((M58 (p + 1) 1)))), (3, zv s0 0 r7), (0, zv s0 2 24), (1, zv s0 0 v), (2, zv s0 0 k)] [zv s0 2 22, zv s0 2 p, zv s0 0 (((M58 (p + 1) 1))), zv s0 2 p] (zw s0 ca C S (((zput ((zput ((zput ((zput ((zput ((zadd M58 (p + 1) (p + 2) 134 k)) (p + 4) 134 ((M58 (p + 1) 1)) ((-1)))) (p + 6) 134 ((M58 (p + 1) 1)) ((-1)))) (p + 8) 134 ((M58 (p + 1) 1)) ((-1)))) (p + 10) 134 ((M58 (p + 1) 1)) 0)) (p + 12) 134 ((M58 (p + 1) 1)) 0))))
            refine z_aload_n dX1_define_100 rfl (j := 2) rfl ?_
            refine z_getc Γ kf_RX1_37 dX1_define_101 (by decide) hs24 rfl ?_
            refine z_iload_n dX1_define_104 rfl (j := 1) rfl ?_
            refine z_callV Γ kk_X8_word kc_RX1_133 (As := [zv s0 0 r7]) (z_X8_word (d := d - 1) Γ (by omega) hok hs hs6 (M := (((zput ((zput ((zput ((zput ((zput ((zadd M58 (p + 1) (p + 2) 134 k)) (p + 4) 134 ((M58 (p + 1) 1)) ((-1)))) (p + 6) 134 ((M58 (p + 1) 1)) ((-1)))) (p + 8) 134 ((M58 (p + 1) 1)) ((-1)))) (p + 10) 134 ((M58 (p + 1) 1)) 0)) (p + 12) 134 ((M58 (p + 1) 1)) 0)))) (Q := fun v9 M9 => v9 = ((zat (((zput ((zput ((zput ((zput ((zput ((zadd M58 (p + 1) (p + 2) 134 k)) (p + 4) 134 ((M58 (p + 1) 1)) ((-1)))) (p + 6) 134 ((M58 (p + 1) 1)) ((-1)))) (p + 8) 134 ((M58 (p + 1) 1)) ((-1)))) (p + 10) 134 ((M58 (p + 1) 1)) 0)) (p + 12) 134 ((M58 (p + 1) 1)) 0))) 18 2073 r7)) ∧ M9 = (((zput ((zput ((zput ((zput ((zput ((zadd M58 (p + 1) (p + 2) 134 k)) (p + 4) 134 ((M58 (p + 1) 1)) ((-1)))) (p + 6) 134 ((M58 (p + 1) 1)) ((-1)))) (p + 8) 134 ((M58 (p + 1) 1)) ((-1)))) (p + 10) 134 ((M58 (p + 1) 1)) 0)) (p + 12) 134 ((M58 (p + 1) 1)) 0)))) (X := X) (show _ ∧ _ from ⟨rfl, rfl⟩)) (by omega) (by decide) (show (parseMethodDescriptor yX8_word.desc).map (fun q => q.parameters.length) = some 1 by decide +kernel) hok (by simp only [List.map, zv_cat0, zv_cat1, zv_cat2, List.sum_cons, List.sum_nil]; decide) dX1_define_105 (by decide) hs6 rfl rfl (fun _ h9 => nomatch h9) ?_
            rintro v9 M9 ⟨e9, e8⟩
            rw [e9, e8]
            clear e9 e8 v9 M9
            show rt_Go _ _ _ _ _ _ _ _ _ _ _ _ 108 [(4, zv s0 0 (((M58 (p + 1) 1)))), (3, zv s0 0 r7), (0, zv s0 2 24), (1, zv s0 0 v), (2, zv s0 0 k)] [zv s0 0 (((zat (((zput ((zput ((zput ((zput ((zput ((zadd M58 (p + 1) (p + 2) 134 k)) (p + 4) 134 ((M58 (p + 1) 1)) ((-1)))) (p + 6) 134 ((M58 (p + 1) 1)) ((-1)))) (p + 8) 134 ((M58 (p + 1) 1)) ((-1)))) (p + 10) 134 ((M58 (p + 1) 1)) 0)) (p + 12) 134 ((M58 (p + 1) 1)) 0))) 18 2073 r7))), zv s0 2 22, zv s0 2 p, zv s0 0 (((M58 (p + 1) 1))), zv s0 2 p] (zw s0 ca C S (((zput ((zput ((zput ((zput ((zput ((zadd M58 (p + 1) (p + 2) 134 k)) (p + 4) 134 ((M58 (p + 1) 1)) ((-1)))) (p + 6) 134 ((M58 (p + 1) 1)) ((-1)))) (p + 8) 134 ((M58 (p + 1) 1)) ((-1)))) (p + 10) 134 ((M58 (p + 1) 1)) 0)) (p + 12) 134 ((M58 (p + 1) 1)) 0))))
            refine z_callV Γ kk_X6_addName kc_RX1_208 (As := [zv s0 2 22, zv s0 0 (((zat (((zput ((zput ((zput ((zput ((zput ((zadd M58 (p + 1) (p + 2) 134 k)) (p + 4) 134 ((M58 (p + 1) 1)) ((-1)))) (p + 6) 134 ((M58 (p + 1) 1)) ((-1)))) (p + 8) 134 ((M58 (p + 1) 1)) ((-1)))) (p + 10) 134 ((M58 (p + 1) 1)) 0)) (p + 12) 134 ((M58 (p + 1) 1)) 0))) 18 2073 r7)))]) h (by omega) (by decide) (show (parseMethodDescriptor yX6_addName.desc).map (fun q => q.parameters.length) = some 2 by decide +kernel) hok (by simp only [List.map, zv_cat0, zv_cat1, zv_cat2, List.sum_cons, List.sum_nil]; decide) dX1_define_108 hp.1 hp.2.1 rfl rfl (fun _ h9 => nomatch h9) ?_
            clear h
            intro r108 M108 h
            show rt_Go _ _ _ _ _ _ _ _ _ _ _ _ 111 [(4, zv s0 0 (((M58 (p + 1) 1)))), (3, zv s0 0 r7), (0, zv s0 2 24), (1, zv s0 0 v), (2, zv s0 0 k)] [zv s0 0 r108, zv s0 0 (((M58 (p + 1) 1))), zv s0 2 p] (zw s0 ca C S M108)
            refine z_callV Γ kk_X6_setName kc_RX1_211 (As := [zv s0 0 (((M58 (p + 1) 1))), zv s0 0 r108]) (z_X6_setName (d := d - 1) Γ (by omega) hok hp (M := M108) (Q := fun v9 M9 => v9 = 0 ∧ M9 = ((zput M108 (p + 4) 134 (((M58 (p + 1) 1))) r108))) (X := X) (show _ ∧ _ from ⟨rfl, rfl⟩)) (by omega) (by decide) (show (parseMethodDescriptor yX6_setName.desc).map (fun q => q.parameters.length) = some 2 by decide +kernel) hok (Nat.zero_le _) dX1_define_111 hp.1 hp.2.1 rfl rfl (fun _ h9 => nomatch h9) ?_
            rintro v9 M9 ⟨e9, e8⟩
            rw [e9, e8]
            clear e9 e8 v9 M9
            show rt_Go _ _ _ _ _ _ _ _ _ _ _ _ 114 [(4, zv s0 0 (((M58 (p + 1) 1)))), (3, zv s0 0 r7), (0, zv s0 2 24), (1, zv s0 0 v), (2, zv s0 0 k)] [] (zw s0 ca C S (((zput M108 (p + 4) 134 (((M58 (p + 1) 1))) r108))))
            refine z_iload dX1_define_114 (j := 0) rfl ?_
            exact z_iret dX1_define_116 rfl h
          · replace h := h.2 c62
            refine z_aload_n dX1_define_65 rfl (j := 1) rfl ?_
            refine z_bipush dX1_define_66 (by decide) ?_
            refine z_iload_n dX1_define_68 rfl (j := 0) rfl ?_
            refine z_callV Γ kk_X1_fail kc_RX1_81 (As := [zv s0 0 9, zv s0 0 r7]) h (by omega) (by decide) (show (parseMethodDescriptor yX1_fail.desc).map (fun q => q.parameters.length) = some 2 by decide +kernel) hok (Nat.zero_le _) dX1_define_69 (by decide) hs24 rfl rfl (fun _ h9 => nomatch h9) ?_
            clear h
            intro r69 M69 h
            show rt_Go _ _ _ _ _ _ _ _ _ _ _ _ 72 [(3, zv s0 0 r7), (0, zv s0 2 24), (1, zv s0 0 v), (2, zv s0 0 k)] [zv s0 0 r69] (zw s0 ca C S M69)
            exact z_iret dX1_define_72 rfl h
  · replace h := h.1 c19
    refine z_aload_n dX1_define_22 rfl (j := 1) rfl ?_
    refine z_bipush dX1_define_23 (by decide) ?_
    refine z_iload_n dX1_define_25 rfl (j := 2) rfl ?_
    refine z_callV Γ kk_X1_fail kc_RX1_81 (As := [zv s0 0 8, zv s0 0 v]) h (by omega) (by decide) (show (parseMethodDescriptor yX1_fail.desc).map (fun q => q.parameters.length) = some 2 by decide +kernel) hok (Nat.zero_le _) dX1_define_26 (by decide) hs24 rfl rfl (fun _ h9 => nomatch h9) ?_
    clear h
    intro r26 M26 h
    show rt_Go _ _ _ _ _ _ _ _ _ _ _ _ 29 [(3, zv s0 0 r7), (0, zv s0 2 24), (1, zv s0 0 v), (2, zv s0 0 k)] [zv s0 0 r26] (zw s0 ca C S M26)
    exact z_iret dX1_define_29 rfl h

def zt_X1_lookAtFixed (l : Launch) (s0 : State) (G : va_G) (ca : Nat → ClassId) (d : Nat) (C : Nat × Nat) (S : zS) (w0 : rt_Wd) (p : Int) (v : Int) (M : zM) (Q : Int → zM → Prop) (X : zM → Prop) : Prop :=
  zm_X1_define l s0 G ca (d - 1) C S v 9 M (fun r4 M4 => zIf (w32 (M4 24 6) = 0) (∀ q22 : Nat, zstr s0 q22 [115, 105, 122, 101] → (zm_X8_member l s0 G ca (d - 1) C S v q22 M4 (fun r24 M24 => zIf (w32 r24 = ((-1))) (zm_X1_fail l s0 G ca (d - 1) C S 8 v M24 (fun r37 M37 => Q r37 M37) X) (zIf (w32 (((zat M24 8 2073 r24))) = 4) (zIf (w64 ((zf_X8_number M24 r24)) < 0) (zm_X1_fail l s0 G ca (d - 1) C S 10 r24 M24 (fun r85 M85 => Q r85 M85) X) (zIf (w64 ((zf_X8_number M24 r24)) ≤ 64) (Q r4 (((zput ((zput M24 (p + 6) 134 r4 ((zf_X8_number M24 r24)))) (p + 8) 134 r4 ((zf_X8_number M24 r24)))))) (zm_X1_fail l s0 G ca (d - 1) C S 10 r24 M24 (fun r85 M85 => Q r85 M85) X))) (zm_X1_fail l s0 G ca (d - 1) C S 10 r24 M24 (fun r85 M85 => Q r85 M85) X))) X)) (Q r4 M4)) X
set_option maxRecDepth 100000 in
theorem z_X1_lookAtFixed {l : Launch} {s0 : State} {a0 : Array Value} {G : va_G} {ca : Nat → ClassId} (Γ : rt_Γ l s0 a0 G ca) {d : Nat} {C : Nat × Nat} {S : zS} (hd : 2 ≤ d) (hok : zok C) {p : Int} (hs : zSok S) (hp : zSc S p) (hs24 : S 24 = some (0, 1, [(3, 25), (3, 26), (3, 28), (3, p), (3, 6), (0, 0), (0, 0), (0, 0)])) (hs6 : S 6 = some (0, 8, [(3, 7), (3, 9), (3, 11), (3, 13), (3, 15), (3, 17), (3, 19), (3, 21), (3, 22), (3, 1), (0, 0), (0, 0), (0, 0)])) {v : Int} {M : zM} {Q : Int → zM → Prop} {X : zM → Prop} (h : zt_X1_lookAtFixed l s0 G ca d C S (zw s0 ca C S M) p v M Q X) : zm_X1_lookAtFixed l s0 G ca d C S  v M Q X := by
  refine z_met (lv := [(0, zv s0 2 24), (1, zv s0 0 v)]) Γ kk_X1_lookAtFixed rfl (show (lg_sl [zv s0 2 24, zv s0 0 v]).length ≤ 4 from by simp only [zn_0, zn_2, show (lg_sl []).length = 0 from rfl]; omega) (show lv_args 0 [zv s0 2 24, zv s0 0 v] = [(0, zv s0 2 24), (1, zv s0 0 v)] from by rw [zl_2, zl_0]; rfl) ?_
  unfold zt_X1_lookAtFixed at h
  refine z_aload_n dX1_lookAtFixed_0 rfl (j := 0) rfl ?_
  refine z_iload_n dX1_lookAtFixed_1 rfl (j := 1) rfl ?_
  refine z_bipush dX1_lookAtFixed_2 (by decide) ?_
  refine z_callV Γ kk_X1_define kc_RX1_217 (As := [zv s0 0 v, zv s0 0 9]) h (by omega) (by decide) (show (parseMethodDescriptor yX1_define.desc).map (fun q => q.parameters.length) = some 2 by decide +kernel) hok (Nat.zero_le _) dX1_lookAtFixed_4 (by decide) hs24 rfl rfl (fun _ h9 => nomatch h9) ?_
  clear h
  intro r4 M4 h
  show rt_Go _ _ _ _ _ _ _ _ _ _ _ _ 7 [(0, zv s0 2 24), (1, zv s0 0 v)] [zv s0 0 r4] (zw s0 ca C S M4)
  refine z_istore_n (i := 2) (lv' := [(2, zv s0 0 r4), (0, zv s0 2 24), (1, zv s0 0 v)]) dX1_lookAtFixed_7 rfl (by decide) (by simp [zv_cat0, zv_cat1, zv_cat2, zv_cats]) ?_
  refine z_aload_n dX1_lookAtFixed_8 rfl (j := 1) rfl ?_
  refine z_get Γ kf_RX1_51 dX1_lookAtFixed_9 (by decide) hs24 rfl (by decide) (v9 := M4 24 6) rfl ?_
  refine z_if_eq (tgt := 17) (x' := w32 (M4 24 6)) rfl dX1_lookAtFixed_12 (by decide) (fun c12 => ?_) (fun c12 => ?_)
  · replace h := h.1 c12
    refine z_aload_n dX1_lookAtFixed_17 rfl (j := 1) rfl ?_
    refine z_getc Γ kf_RX1_37 dX1_lookAtFixed_18 (by decide) hs24 rfl ?_
    refine z_iload_n dX1_lookAtFixed_21 rfl (j := 2) rfl ?_
    obtain ⟨q22, hq22a, hq22b⟩ := ks_RX1_220 Γ
    have hq22 : zstr s0 q22 [115, 105, 122, 101] := ⟨hq22b, by decide, by decide⟩
    replace h := h q22 hq22
    refine rt_ldcS Γ hq22a dX1_lookAtFixed_22 ?_
    refine z_callV Γ kk_X8_member kc_RX1_172 (As := [zv s0 0 v, .ref q22]) h (by omega) (by decide) (show (parseMethodDescriptor yX8_member.desc).map (fun q => q.parameters.length) = some 2 by decide +kernel) hok (Nat.zero_le _) dX1_lookAtFixed_24 (by decide) hs6 rfl rfl (fun _ h9 => nomatch h9) ?_
    clear h
    intro r24 M24 h
    show rt_Go _ _ _ _ _ _ _ _ _ _ _ _ 27 [(2, zv s0 0 r4), (0, zv s0 2 24), (1, zv s0 0 v)] [zv s0 0 r24] (zw s0 ca C S M24)
    refine z_istore_n (i := 3) (lv' := [(3, zv s0 0 r24), (2, zv s0 0 r4), (0, zv s0 2 24), (1, zv s0 0 v)]) dX1_lookAtFixed_27 rfl (by decide) (by simp [zv_cat0, zv_cat1, zv_cat2, zv_cats]) ?_
    refine z_iload_n dX1_lookAtFixed_28 rfl (j := 0) rfl ?_
    refine z_iconst dX1_lookAtFixed_29 ?_
    refine z_icmp_ne (tgt := 41) (x' := w32 r24) (y' := ((-1))) rfl (by decide) dX1_lookAtFixed_30 (by decide) (fun c30 => ?_) (fun c30 => ?_)
    · replace h := h.2 c30
      refine z_aload_n dX1_lookAtFixed_41 rfl (j := 2) rfl ?_
      refine z_getc Γ kf_RX1_37 dX1_lookAtFixed_42 (by decide) hs24 rfl ?_
      refine z_iload_n dX1_lookAtFixed_45 rfl (j := 0) rfl ?_
      refine z_callV Γ kk_X8_kind kc_RX1_85 (As := [zv s0 0 r24]) (z_X8_kind (d := d - 1) Γ (by omega) hok hs hs6 (M := M24) (Q := fun v9 M9 => v9 = ((zat M24 8 2073 r24)) ∧ M9 = M24) (X := X) (show _ ∧ _ from ⟨rfl, rfl⟩)) (by omega) (by decide) (show (parseMethodDescriptor yX8_kind.desc).map (fun q => q.parameters.length) = some 1 by decide +kernel) hok (Nat.zero_le _) dX1_lookAtFixed_46 (by decide) hs6 rfl rfl (fun _ h9 => nomatch h9) ?_
      rintro v9 M9 ⟨e9, e8⟩
      rw [e9, e8]
      clear e9 e8 v9 M9
      show rt_Go _ _ _ _ _ _ _ _ _ _ _ _ 49 [(3, zv s0 0 r24), (2, zv s0 0 r4), (0, zv s0 2 24), (1, zv s0 0 v)] [zv s0 0 (((zat M24 8 2073 r24)))] (zw s0 ca C S M24)
      refine z_iconst dX1_lookAtFixed_49 ?_
      refine z_icmp_ne (tgt := 81) (x' := w32 (((zat M24 8 2073 r24)))) (y' := 4) rfl (by decide) dX1_lookAtFixed_50 (by decide) (fun c50 => ?_) (fun c50 => ?_)
      · replace h := h.2 c50
        refine z_aload_n dX1_lookAtFixed_81 rfl (j := 2) rfl ?_
        refine z_bipush dX1_lookAtFixed_82 (by decide) ?_
        refine z_iload_n dX1_lookAtFixed_84 rfl (j := 0) rfl ?_
        refine z_callV Γ kk_X1_fail kc_RX1_81 (As := [zv s0 0 10, zv s0 0 r24]) h (by omega) (by decide) (show (parseMethodDescriptor yX1_fail.desc).map (fun q => q.parameters.length) = some 2 by decide +kernel) hok (Nat.zero_le _) dX1_lookAtFixed_85 (by decide) hs24 rfl rfl (fun _ h9 => nomatch h9) ?_
        clear h
        intro r85 M85 h
        show rt_Go _ _ _ _ _ _ _ _ _ _ _ _ 88 [(3, zv s0 0 r24), (2, zv s0 0 r4), (0, zv s0 2 24), (1, zv s0 0 v)] [zv s0 0 r85] (zw s0 ca C S M85)
        exact z_iret dX1_lookAtFixed_88 rfl h
      · replace h := h.1 c50
        refine z_aload_n dX1_lookAtFixed_53 rfl (j := 2) rfl ?_
        refine z_getc Γ kf_RX1_37 dX1_lookAtFixed_54 (by decide) hs24 rfl ?_
        refine z_iload_n dX1_lookAtFixed_57 rfl (j := 0) rfl ?_
        refine z_callV Γ kk_X8_number kc_RX1_222 (As := [zv s0 0 r24]) (k_X8_number (d := d - 1) Γ hok hs hs6 (M := M24) (Q := fun v9 M9 => v9 = (zf_X8_number M24 r24) ∧ M9 = M24) (X := X) (show _ ∧ _ from ⟨rfl, rfl⟩)) (by omega) (by decide) (show (parseMethodDescriptor yX8_number.desc).map (fun q => q.parameters.length) = some 1 by decide +kernel) hok (Nat.zero_le _) dX1_lookAtFixed_58 (by decide) hs6 rfl rfl (fun _ h9 => nomatch h9) ?_
        rintro v9 M9 ⟨e9, e8⟩
        rw [e9, e8]
        clear e9 e8 v9 M9
        show rt_Go _ _ _ _ _ _ _ _ _ _ _ _ 61 [(3, zv s0 0 r24), (2, zv s0 0 r4), (0, zv s0 2 24), (1, zv s0 0 v)] [zv s0 1 ((zf_X8_number M24 r24))] (zw s0 ca C S M24)
        refine z_lconst (v := 0) dX1_lookAtFixed_61 (by decide) ?_
        refine z_lif_lt (tgt := 81) (x' := w64 ((zf_X8_number M24 r24))) (y' := 0) rfl (by decide) dX1_lookAtFixed_62 dX1_lookAtFixed_63 (by decide) (fun c62 => ?_) (fun c62 => ?_)
        · replace h := h.1 c62
          refine z_aload_n dX1_lookAtFixed_81 rfl (j := 2) rfl ?_
          refine z_bipush dX1_lookAtFixed_82 (by decide) ?_
          refine z_iload_n dX1_lookAtFixed_84 rfl (j := 0) rfl ?_
          refine z_callV Γ kk_X1_fail kc_RX1_81 (As := [zv s0 0 10, zv s0 0 r24]) h (by omega) (by decide) (show (parseMethodDescriptor yX1_fail.desc).map (fun q => q.parameters.length) = some 2 by decide +kernel) hok (Nat.zero_le _) dX1_lookAtFixed_85 (by decide) hs24 rfl rfl (fun _ h9 => nomatch h9) ?_
          clear h
          intro r85 M85 h
          show rt_Go _ _ _ _ _ _ _ _ _ _ _ _ 88 [(3, zv s0 0 r24), (2, zv s0 0 r4), (0, zv s0 2 24), (1, zv s0 0 v)] [zv s0 0 r85] (zw s0 ca C S M85)
          exact z_iret dX1_lookAtFixed_88 rfl h
        · replace h := h.2 c62
          refine z_aload_n dX1_lookAtFixed_66 rfl (j := 2) rfl ?_
          refine z_getc Γ kf_RX1_37 dX1_lookAtFixed_67 (by decide) hs24 rfl ?_
          refine z_iload_n dX1_lookAtFixed_70 rfl (j := 0) rfl ?_
          refine z_callV Γ kk_X8_number kc_RX1_222 (As := [zv s0 0 r24]) (k_X8_number (d := d - 1) Γ hok hs hs6 (M := M24) (Q := fun v9 M9 => v9 = (zf_X8_number M24 r24) ∧ M9 = M24) (X := X) (show _ ∧ _ from ⟨rfl, rfl⟩)) (by omega) (by decide) (show (parseMethodDescriptor yX8_number.desc).map (fun q => q.parameters.length) = some 1 by decide +kernel) hok (Nat.zero_le _) dX1_lookAtFixed_71 (by decide) hs6 rfl rfl (fun _ h9 => nomatch h9) ?_
          rintro v9 M9 ⟨e9, e8⟩
          rw [e9, e8]
          clear e9 e8 v9 M9
          show rt_Go _ _ _ _ _ _ _ _ _ _ _ _ 74 [(3, zv s0 0 r24), (2, zv s0 0 r4), (0, zv s0 2 24), (1, zv s0 0 v)] [zv s0 1 ((zf_X8_number M24 r24))] (zw s0 ca C S M24)
          refine rt_ldc2 Γ dX1_lookAtFixed_74 kv_RX1_226 ?_
          show rt_Go _ _ _ _ _ _ _ _ _ _ _ _ 77 [(3, zv s0 0 r24), (2, zv s0 0 r4), (0, zv s0 2 24), (1, zv s0 0 v)] [zv s0 1 64, zv s0 1 ((zf_X8_number M24 r24))] _
          refine z_lif_le (tgt := 89) (x' := w64 ((zf_X8_number M24 r24))) (y' := 64) rfl (by decide) dX1_lookAtFixed_77 dX1_lookAtFixed_78 (by decide) (fun c77 => ?_) (fun c77 => ?_)
          · replace h := h.1 c77
            refine z_aload_n dX1_lookAtFixed_89 rfl (j := 2) rfl ?_
            refine z_getc Γ kf_RX1_33 dX1_lookAtFixed_90 (by decide) hs24 rfl ?_
            refine z_iload_n dX1_lookAtFixed_93 rfl (j := 1) rfl ?_
            refine z_aload_n dX1_lookAtFixed_94 rfl (j := 2) rfl ?_
            refine z_getc Γ kf_RX1_37 dX1_lookAtFixed_95 (by decide) hs24 rfl ?_
            refine z_iload_n dX1_lookAtFixed_98 rfl (j := 0) rfl ?_
            refine z_callV Γ kk_X8_number kc_RX1_222 (As := [zv s0 0 r24]) (k_X8_number (d := d - 1) Γ hok hs hs6 (M := M24) (Q := fun v9 M9 => v9 = (zf_X8_number M24 r24) ∧ M9 = M24) (X := X) (show _ ∧ _ from ⟨rfl, rfl⟩)) (by omega) (by decide) (show (parseMethodDescriptor yX8_number.desc).map (fun q => q.parameters.length) = some 1 by decide +kernel) hok (by simp only [List.map, zv_cat0, zv_cat1, zv_cat2, List.sum_cons, List.sum_nil]; decide) dX1_lookAtFixed_99 (by decide) hs6 rfl rfl (fun _ h9 => nomatch h9) ?_
            rintro v9 M9 ⟨e9, e8⟩
            rw [e9, e8]
            clear e9 e8 v9 M9
            show rt_Go _ _ _ _ _ _ _ _ _ _ _ _ 102 [(3, zv s0 0 r24), (2, zv s0 0 r4), (0, zv s0 2 24), (1, zv s0 0 v)] [zv s0 1 ((zf_X8_number M24 r24)), zv s0 0 r4, zv s0 2 p] (zw s0 ca C S M24)
            refine z_l2i dX1_lookAtFixed_102 ?_
            refine z_callV Γ kk_X6_setFixedSize kc_RX1_228 (As := [zv s0 0 r4, zv s0 0 ((zf_X8_number M24 r24))]) (z_X6_setFixedSize (d := d - 1) Γ (by omega) hok hp (M := M24) (Q := fun v9 M9 => v9 = 0 ∧ M9 = ((zput ((zput M24 (p + 6) 134 r4 ((zf_X8_number M24 r24)))) (p + 8) 134 r4 ((zf_X8_number M24 r24))))) (X := X) (show _ ∧ _ from ⟨rfl, rfl⟩)) (by omega) (by decide) (show (parseMethodDescriptor yX6_setFixedSize.desc).map (fun q => q.parameters.length) = some 2 by decide +kernel) hok (Nat.zero_le _) dX1_lookAtFixed_103 hp.1 hp.2.1 rfl rfl (fun _ h9 => nomatch h9) ?_
            rintro v9 M9 ⟨e9, e8⟩
            rw [e9, e8]
            clear e9 e8 v9 M9
            show rt_Go _ _ _ _ _ _ _ _ _ _ _ _ 106 [(3, zv s0 0 r24), (2, zv s0 0 r4), (0, zv s0 2 24), (1, zv s0 0 v)] [] (zw s0 ca C S (((zput ((zput M24 (p + 6) 134 r4 ((zf_X8_number M24 r24)))) (p + 8) 134 r4 ((zf_X8_number M24 r24))))))
            refine z_iload_n dX1_lookAtFixed_106 rfl (j := 1) rfl ?_
            exact z_iret dX1_lookAtFixed_107 rfl h
          · replace h := h.2 c77
            refine z_aload_n dX1_lookAtFixed_81 rfl (j := 2) rfl ?_
            refine z_bipush dX1_lookAtFixed_82 (by decide) ?_
            refine z_iload_n dX1_lookAtFixed_84 rfl (j := 0) rfl ?_
            refine z_callV Γ kk_X1_fail kc_RX1_81 (As := [zv s0 0 10, zv s0 0 r24]) h (by omega) (by decide) (show (parseMethodDescriptor yX1_fail.desc).map (fun q => q.parameters.length) = some 2 by decide +kernel) hok (Nat.zero_le _) dX1_lookAtFixed_85 (by decide) hs24 rfl rfl (fun _ h9 => nomatch h9) ?_
            clear h
            intro r85 M85 h
            show rt_Go _ _ _ _ _ _ _ _ _ _ _ _ 88 [(3, zv s0 0 r24), (2, zv s0 0 r4), (0, zv s0 2 24), (1, zv s0 0 v)] [zv s0 0 r85] (zw s0 ca C S M85)
            exact z_iret dX1_lookAtFixed_88 rfl h
    · replace h := h.1 c30
      refine z_aload_n dX1_lookAtFixed_33 rfl (j := 2) rfl ?_
      refine z_bipush dX1_lookAtFixed_34 (by decide) ?_
      refine z_iload_n dX1_lookAtFixed_36 rfl (j := 3) rfl ?_
      refine z_callV Γ kk_X1_fail kc_RX1_81 (As := [zv s0 0 8, zv s0 0 v]) h (by omega) (by decide) (show (parseMethodDescriptor yX1_fail.desc).map (fun q => q.parameters.length) = some 2 by decide +kernel) hok (Nat.zero_le _) dX1_lookAtFixed_37 (by decide) hs24 rfl rfl (fun _ h9 => nomatch h9) ?_
      clear h
      intro r37 M37 h
      show rt_Go _ _ _ _ _ _ _ _ _ _ _ _ 40 [(3, zv s0 0 r24), (2, zv s0 0 r4), (0, zv s0 2 24), (1, zv s0 0 v)] [zv s0 0 r37] (zw s0 ca C S M37)
      exact z_iret dX1_lookAtFixed_40 rfl h
  · replace h := h.2 c12
    refine z_iload_n dX1_lookAtFixed_15 rfl (j := 0) rfl ?_
    exact z_iret dX1_lookAtFixed_16 rfl h

abbrev zg_X1_lookAtFallback_39 (l : Launch) (s0 : State) (G : va_G) (ca : Nat → ClassId) (d : Nat) (C : Nat × Nat) (S : zS) (w0 : rt_Wd) (p : Int) (v2 : Int) (v3 : Int) (k0 : Int) (M : zM) (Q : Int → zM → Prop) (X : zM → Prop) : Prop := rt_Go l s0 G RX1 "lookAtFallback" cX1_lookAtFallback 5 (Option.some FieldType.int) [] d w0 (zQ s0 ca 0 C S Q X) 39 [(0, zv s0 2 24), (2, zv s0 0 v2), (3, zv s0 0 v3)] [zv s0 0 k0] (zw s0 ca C S M)
def zt_X1_lookAtFallback_39 (l : Launch) (s0 : State) (G : va_G) (ca : Nat → ClassId) (d : Nat) (C : Nat × Nat) (S : zS) (w0 : rt_Wd) (p : Int) (v2 : Int) (v3 : Int) (k0 : Int) (M : zM) (Q : Int → zM → Prop) (X : zM → Prop) : Prop :=
  zIf (w32 k0 = ((-1))) (zm_X1_fail l s0 G ca (d - 1) C S 12 v3 M (fun r51 M51 => Q r51 M51) X) (Q v2 (((zput M (p + 6) 134 v2 k0))))
set_option maxRecDepth 100000 in
theorem zs_X1_lookAtFallback_39 {l : Launch} {s0 : State} {a0 : Array Value} {G : va_G} {ca : Nat → ClassId} (Γ : rt_Γ l s0 a0 G ca) {d : Nat} {C : Nat × Nat} {S : zS} (hd : 2 ≤ d) (hok : zok C) {p : Int} (hs : zSok S) (hp : zSc S p) (hs24 : S 24 = some (0, 1, [(3, 25), (3, 26), (3, 28), (3, p), (3, 6), (0, 0), (0, 0), (0, 0)])) (hs6 : S 6 = some (0, 8, [(3, 7), (3, 9), (3, 11), (3, 13), (3, 15), (3, 17), (3, 19), (3, 21), (3, 22), (3, 1), (0, 0), (0, 0), (0, 0)])) {w0 : rt_Wd} {v2 : Int} {v3 : Int} {k0 : Int}  {M : zM} {Q : Int → zM → Prop} {X : zM → Prop} (h : zt_X1_lookAtFallback_39 l s0 G ca d C S w0 p v2 v3 k0 M Q X) : zg_X1_lookAtFallback_39 l s0 G ca d C S w0 p v2 v3 k0 M Q X := by
  unfold zt_X1_lookAtFallback_39 at h
  refine z_istore (i := 4) (lv' := [(4, zv s0 0 k0), (0, zv s0 2 24), (2, zv s0 0 v2), (3, zv s0 0 v3)]) dX1_lookAtFallback_39 (by decide) (by simp [zv_cat0, zv_cat1, zv_cat2, zv_cats]) ?_
  refine z_iload dX1_lookAtFallback_41 (j := 0) rfl ?_
  refine z_iconst dX1_lookAtFallback_43 ?_
  refine z_icmp_ne (tgt := 55) (x' := w32 k0) (y' := ((-1))) rfl (by decide) dX1_lookAtFallback_44 (by decide) (fun c44 => ?_) (fun c44 => ?_)
  · replace h := h.2 c44
    refine z_aload_n dX1_lookAtFallback_55 rfl (j := 1) rfl ?_
    refine z_getc Γ kf_RX1_33 dX1_lookAtFallback_56 (by decide) hs24 rfl ?_
    refine z_iload_n dX1_lookAtFallback_59 rfl (j := 2) rfl ?_
    refine z_iload dX1_lookAtFallback_60 (j := 0) rfl ?_
    refine z_callV Γ kk_X6_setDetail kc_RX1_200 (As := [zv s0 0 v2, zv s0 0 k0]) (z_X6_setDetail (d := d - 1) Γ (by omega) hok hp (M := M) (Q := fun v9 M9 => v9 = 0 ∧ M9 = ((zput M (p + 6) 134 v2 k0))) (X := X) (show _ ∧ _ from ⟨rfl, rfl⟩)) (by omega) (by decide) (show (parseMethodDescriptor yX6_setDetail.desc).map (fun q => q.parameters.length) = some 2 by decide +kernel) hok (Nat.zero_le _) dX1_lookAtFallback_62 hp.1 hp.2.1 rfl rfl (fun _ h9 => nomatch h9) ?_
    rintro v9 M9 ⟨e9, e8⟩
    rw [e9, e8]
    clear e9 e8 v9 M9
    show rt_Go _ _ _ _ _ _ _ _ _ _ _ _ 65 [(4, zv s0 0 k0), (0, zv s0 2 24), (2, zv s0 0 v2), (3, zv s0 0 v3)] [] (zw s0 ca C S (((zput M (p + 6) 134 v2 k0))))
    refine z_iload_n dX1_lookAtFallback_65 rfl (j := 2) rfl ?_
    exact z_iret dX1_lookAtFallback_66 rfl h
  · replace h := h.1 c44
    refine z_aload_n dX1_lookAtFallback_47 rfl (j := 1) rfl ?_
    refine z_bipush dX1_lookAtFallback_48 (by decide) ?_
    refine z_iload_n dX1_lookAtFallback_50 rfl (j := 3) rfl ?_
    refine z_callV Γ kk_X1_fail kc_RX1_81 (As := [zv s0 0 12, zv s0 0 v3]) h (by omega) (by decide) (show (parseMethodDescriptor yX1_fail.desc).map (fun q => q.parameters.length) = some 2 by decide +kernel) hok (Nat.zero_le _) dX1_lookAtFallback_51 (by decide) hs24 rfl rfl (fun _ h9 => nomatch h9) ?_
    clear h
    intro r51 M51 h
    show rt_Go _ _ _ _ _ _ _ _ _ _ _ _ 54 [(4, zv s0 0 k0), (0, zv s0 2 24), (2, zv s0 0 v2), (3, zv s0 0 v3)] [zv s0 0 r51] (zw s0 ca C S M51)
    exact z_iret dX1_lookAtFallback_54 rfl h

def zt_X1_lookAtFallback (l : Launch) (s0 : State) (G : va_G) (ca : Nat → ClassId) (d : Nat) (C : Nat × Nat) (S : zS) (w0 : rt_Wd) (p : Int) (v : Int) (s : Int) (M : zM) (Q : Int → zM → Prop) (X : zM → Prop) : Prop :=
  ∀ q5 : Nat, zstr s0 q5 [100, 101, 102, 97, 117, 108, 116] → (zm_X8_member l s0 G ca (d - 1) C S v q5 M (fun r7 M7 => zIf (w32 r7 = ((-1))) (Q s M7) (zIf (w32 ((zf_X8_isString M7 r7)) = 0) (zt_X1_lookAtFallback_39 l s0 G ca d C S w0 p s r7 ((-1)) M7 Q X) (zm_X1_partSaid l s0 G ca (d - 1) C S s r7 M7 (fun r32 M32 => zt_X1_lookAtFallback_39 l s0 G ca d C S w0 p s r7 r32 M32 Q X) X))) X)
set_option maxRecDepth 100000 in
theorem z_X1_lookAtFallback {l : Launch} {s0 : State} {a0 : Array Value} {G : va_G} {ca : Nat → ClassId} (Γ : rt_Γ l s0 a0 G ca) {d : Nat} {C : Nat × Nat} {S : zS} (hd : 2 ≤ d) (hok : zok C) {p : Int} (hs : zSok S) (hp : zSc S p) (hs24 : S 24 = some (0, 1, [(3, 25), (3, 26), (3, 28), (3, p), (3, 6), (0, 0), (0, 0), (0, 0)])) (hs6 : S 6 = some (0, 8, [(3, 7), (3, 9), (3, 11), (3, 13), (3, 15), (3, 17), (3, 19), (3, 21), (3, 22), (3, 1), (0, 0), (0, 0), (0, 0)])) {v : Int} {s : Int} {M : zM} {Q : Int → zM → Prop} {X : zM → Prop} (h : zt_X1_lookAtFallback l s0 G ca d C S (zw s0 ca C S M) p v s M Q X) : zm_X1_lookAtFallback l s0 G ca d C S  v s M Q X := by
  refine z_met (lv := [(0, zv s0 2 24), (1, zv s0 0 v), (2, zv s0 0 s)]) Γ kk_X1_lookAtFallback rfl (show (lg_sl [zv s0 2 24, zv s0 0 v, zv s0 0 s]).length ≤ 5 from by simp only [zn_0, zn_2, show (lg_sl []).length = 0 from rfl]; omega) (show lv_args 0 [zv s0 2 24, zv s0 0 v, zv s0 0 s] = [(0, zv s0 2 24), (1, zv s0 0 v), (2, zv s0 0 s)] from by rw [zl_2, zl_0, zl_0]; rfl) ?_
  unfold zt_X1_lookAtFallback at h
  refine z_aload_n dX1_lookAtFallback_0 rfl (j := 0) rfl ?_
  refine z_getc Γ kf_RX1_37 dX1_lookAtFallback_1 (by decide) hs24 rfl ?_
  refine z_iload_n dX1_lookAtFallback_4 rfl (j := 1) rfl ?_
  obtain ⟨q5, hq5a, hq5b⟩ := ks_RX1_242 Γ
  have hq5 : zstr s0 q5 [100, 101, 102, 97, 117, 108, 116] := ⟨hq5b, by decide, by decide⟩
  replace h := h q5 hq5
  refine rt_ldcS Γ hq5a dX1_lookAtFallback_5 ?_
  refine z_callV Γ kk_X8_member kc_RX1_172 (As := [zv s0 0 v, .ref q5]) h (by omega) (by decide) (show (parseMethodDescriptor yX8_member.desc).map (fun q => q.parameters.length) = some 2 by decide +kernel) hok (Nat.zero_le _) dX1_lookAtFallback_7 (by decide) hs6 rfl rfl (fun _ h9 => nomatch h9) ?_
  clear h
  intro r7 M7 h
  show rt_Go _ _ _ _ _ _ _ _ _ _ _ _ 10 [(0, zv s0 2 24), (1, zv s0 0 v), (2, zv s0 0 s)] [zv s0 0 r7] (zw s0 ca C S M7)
  refine z_istore_n (i := 3) (lv' := [(3, zv s0 0 r7), (0, zv s0 2 24), (1, zv s0 0 v), (2, zv s0 0 s)]) dX1_lookAtFallback_10 rfl (by decide) (by simp [zv_cat0, zv_cat1, zv_cat2, zv_cats]) ?_
  refine z_iload_n dX1_lookAtFallback_11 rfl (j := 0) rfl ?_
  refine z_iconst dX1_lookAtFallback_12 ?_
  refine z_icmp_ne (tgt := 18) (x' := w32 r7) (y' := ((-1))) rfl (by decide) dX1_lookAtFallback_13 (by decide) (fun c13 => ?_) (fun c13 => ?_)
  · replace h := h.2 c13
    refine z_aload_n dX1_lookAtFallback_18 rfl (j := 1) rfl ?_
    refine z_getc Γ kf_RX1_37 dX1_lookAtFallback_19 (by decide) hs24 rfl ?_
    refine z_iload_n dX1_lookAtFallback_22 rfl (j := 0) rfl ?_
    refine z_callV Γ kk_X8_isString kc_RX1_176 (As := [zv s0 0 r7]) (k_X8_isString (d := d - 1) Γ (by omega) hok hs hs6 (M := M7) (Q := fun v9 M9 => v9 = (zf_X8_isString M7 r7) ∧ M9 = M7) (X := X) (show _ ∧ _ from ⟨rfl, rfl⟩)) (by omega) (by decide) (show (parseMethodDescriptor yX8_isString.desc).map (fun q => q.parameters.length) = some 1 by decide +kernel) hok (Nat.zero_le _) dX1_lookAtFallback_23 (by decide) hs6 rfl rfl (fun _ h9 => nomatch h9) ?_
    rintro v9 M9 ⟨e9, e8⟩
    rw [e9, e8]
    clear e9 e8 v9 M9
    show rt_Go _ _ _ _ _ _ _ _ _ _ _ _ 26 [(3, zv s0 0 r7), (0, zv s0 2 24), (1, zv s0 0 v), (2, zv s0 0 s)] [zv s0 0 ((zf_X8_isString M7 r7))] (zw s0 ca C S M7)
    refine z_if_eq (tgt := 38) (x' := w32 ((zf_X8_isString M7 r7))) rfl dX1_lookAtFallback_26 (by decide) (fun c26 => ?_) (fun c26 => ?_)
    · replace h := h.1 c26
      refine z_iconst dX1_lookAtFallback_38 ?_
      exact rt_lfew [1, 3, 0] rfl (zs_X1_lookAtFallback_39 Γ hd hok hs hp hs24 hs6  h)
    · replace h := h.2 c26
      refine z_aload_n dX1_lookAtFallback_29 rfl (j := 1) rfl ?_
      refine z_iload_n dX1_lookAtFallback_30 rfl (j := 3) rfl ?_
      refine z_iload_n dX1_lookAtFallback_31 rfl (j := 0) rfl ?_
      refine z_callV Γ kk_X1_partSaid kc_RX1_233 (As := [zv s0 0 s, zv s0 0 r7]) h (by omega) (by decide) (show (parseMethodDescriptor yX1_partSaid.desc).map (fun q => q.parameters.length) = some 2 by decide +kernel) hok (Nat.zero_le _) dX1_lookAtFallback_32 (by decide) hs24 rfl rfl (fun _ h9 => nomatch h9) ?_
      clear h
      intro r32 M32 h
      show rt_Go _ _ _ _ _ _ _ _ _ _ _ _ 35 [(3, zv s0 0 r7), (0, zv s0 2 24), (1, zv s0 0 v), (2, zv s0 0 s)] [zv s0 0 r32] (zw s0 ca C S M32)
      refine rt_goto (tgt := 39) dX1_lookAtFallback_35 (by decide) ?_
      exact rt_lfew [1, 3, 0] rfl (zs_X1_lookAtFallback_39 Γ hd hok hs hp hs24 hs6  h)
  · replace h := h.1 c13
    refine z_iload_n dX1_lookAtFallback_16 rfl (j := 3) rfl ?_
    exact z_iret dX1_lookAtFallback_17 rfl h

abbrev zg_X1_lookAtEnum_107 (l : Launch) (s0 : State) (G : va_G) (ca : Nat → ClassId) (d : Nat) (C : Nat × Nat) (S : zS) (w0 : rt_Wd) (p : Int) (v1 : Int) (v2 : Int) (v4 : Int) (v5 : Int) (v6 : Int)  (M : zM) (Q : Int → zM → Prop) (X : zM → Prop) : Prop := rt_Go l s0 G RX1 "lookAtEnum" cX1_lookAtEnum 7 (Option.some FieldType.int) [] d w0 (zQ s0 ca 0 C S Q X) 107 [(0, zv s0 2 24), (1, zv s0 0 v1), (2, zv s0 0 v2), (4, zv s0 0 v4), (5, zv s0 0 v5), (6, zv s0 0 v6)] [] (zw s0 ca C S M)
def zt_X1_lookAtEnum_107 (l : Launch) (s0 : State) (G : va_G) (ca : Nat → ClassId) (d : Nat) (C : Nat × Nat) (S : zS) (w0 : rt_Wd) (p : Int) (v1 : Int) (v2 : Int) (v4 : Int) (v5 : Int) (v6 : Int)  (M : zM) (Q : Int → zM → Prop) (X : zM → Prop) : Prop :=
  zIf (w32 v4 ≤ w32 v6) (zm_X1_lookAtFallback l s0 G ca (d - 1) C S v1 v2 M (fun r215 M215 => Q r215 M215) X) (zIf (w32 ((zf_X8_isString M v5)) = 0) (zm_X1_fail l s0 G ca (d - 1) C S 11 v5 M (fun r151 M151 => Q r151 M151) X) (zm_X1_isName l s0 G ca (d - 1) C S v5 M (fun r129 M129 => zIf (w32 r129 = 0) (zm_X1_fail l s0 G ca (d - 1) C S 11 v5 M129 (fun r151 M151 => Q r151 M151) X) (zm_X1_partSaid l s0 G ca (d - 1) C S v2 v5 M129 (fun r139 M139 => zIf (w32 r139 = ((-1))) (zm_X6_addName l s0 G ca (d - 1) C S p 22 (((zat M139 18 2073 v5))) M139 (fun r189 M189 => zg_X1_lookAtEnum_107 l s0 G ca d C S w0 p v1 v2 v4 (((zat (((zput M189 (p + 16) 2048 ((((zat M139 (p + 10) 134 v2)) + v6)) r189))) 12 2073 v5))) (v6 + 1) (((zput M189 (p + 16) 2048 ((((zat M139 (p + 10) 134 v2)) + v6)) r189))) Q X) X) (zm_X1_fail l s0 G ca (d - 1) C S 11 v5 M139 (fun r151 M151 => Q r151 M151) X)) X)) X))
set_option maxRecDepth 100000 in
theorem zs_X1_lookAtEnum_107 {l : Launch} {s0 : State} {a0 : Array Value} {G : va_G} {ca : Nat → ClassId} (Γ : rt_Γ l s0 a0 G ca) {d : Nat} {C : Nat × Nat} {S : zS} (hd : 2 ≤ d) (hok : zok C) {p : Int} (hs : zSok S) (hp : zSc S p) (hs24 : S 24 = some (0, 1, [(3, 25), (3, 26), (3, 28), (3, p), (3, 6), (0, 0), (0, 0), (0, 0)])) (hs6 : S 6 = some (0, 8, [(3, 7), (3, 9), (3, 11), (3, 13), (3, 15), (3, 17), (3, 19), (3, 21), (3, 22), (3, 1), (0, 0), (0, 0), (0, 0)])) {w0 : rt_Wd} {v1 : Int} {v2 : Int} {v4 : Int} {v5 : Int} {v6 : Int}   {M : zM} {Q : Int → zM → Prop} {X : zM → Prop} (h : zt_X1_lookAtEnum_107 l s0 G ca d C S w0 p v1 v2 v4 v5 v6 M Q X) : zg_X1_lookAtEnum_107 l s0 G ca d C S w0 p v1 v2 v4 v5 v6 M Q X := by
  unfold zt_X1_lookAtEnum_107 at h
  refine z_iload dX1_lookAtEnum_107 (j := 5) rfl ?_
  refine z_iload dX1_lookAtEnum_109 (j := 3) rfl ?_
  refine z_icmp_ge (tgt := 212) (x' := w32 v6) (y' := w32 v4) rfl rfl dX1_lookAtEnum_111 (by decide) (fun c111 => ?_) (fun c111 => ?_)
  · replace h := h.1 c111
    refine z_aload_n dX1_lookAtEnum_212 rfl (j := 0) rfl ?_
    refine z_iload_n dX1_lookAtEnum_213 rfl (j := 1) rfl ?_
    refine z_iload_n dX1_lookAtEnum_214 rfl (j := 2) rfl ?_
    refine z_callV Γ kk_X1_lookAtFallback kc_RX1_239 (As := [zv s0 0 v1, zv s0 0 v2]) h (by omega) (by decide) (show (parseMethodDescriptor yX1_lookAtFallback.desc).map (fun q => q.parameters.length) = some 2 by decide +kernel) hok (Nat.zero_le _) dX1_lookAtEnum_215 (by decide) hs24 rfl rfl (fun _ h9 => nomatch h9) ?_
    clear h
    intro r215 M215 h
    show rt_Go _ _ _ _ _ _ _ _ _ _ _ _ 218 [(0, zv s0 2 24), (1, zv s0 0 v1), (2, zv s0 0 v2), (4, zv s0 0 v4), (5, zv s0 0 v5), (6, zv s0 0 v6)] [zv s0 0 r215] (zw s0 ca C S M215)
    exact z_iret dX1_lookAtEnum_218 rfl h
  · replace h := h.2 c111
    refine z_aload_n dX1_lookAtEnum_114 rfl (j := 0) rfl ?_
    refine z_getc Γ kf_RX1_37 dX1_lookAtEnum_115 (by decide) hs24 rfl ?_
    refine z_iload dX1_lookAtEnum_118 (j := 4) rfl ?_
    refine z_callV Γ kk_X8_isString kc_RX1_176 (As := [zv s0 0 v5]) (k_X8_isString (d := d - 1) Γ (by omega) hok hs hs6 (M := M) (Q := fun v9 M9 => v9 = (zf_X8_isString M v5) ∧ M9 = M) (X := X) (show _ ∧ _ from ⟨rfl, rfl⟩)) (by omega) (by decide) (show (parseMethodDescriptor yX8_isString.desc).map (fun q => q.parameters.length) = some 1 by decide +kernel) hok (Nat.zero_le _) dX1_lookAtEnum_120 (by decide) hs6 rfl rfl (fun _ h9 => nomatch h9) ?_
    rintro v9 M9 ⟨e9, e8⟩
    rw [e9, e8]
    clear e9 e8 v9 M9
    show rt_Go _ _ _ _ _ _ _ _ _ _ _ _ 123 [(0, zv s0 2 24), (1, zv s0 0 v1), (2, zv s0 0 v2), (4, zv s0 0 v4), (5, zv s0 0 v5), (6, zv s0 0 v6)] [zv s0 0 ((zf_X8_isString M v5))] (zw s0 ca C S M)
    refine z_if_eq (tgt := 146) (x' := w32 ((zf_X8_isString M v5))) rfl dX1_lookAtEnum_123 (by decide) (fun c123 => ?_) (fun c123 => ?_)
    · replace h := h.1 c123
      refine z_aload_n dX1_lookAtEnum_146 rfl (j := 0) rfl ?_
      refine z_bipush dX1_lookAtEnum_147 (by decide) ?_
      refine z_iload dX1_lookAtEnum_149 (j := 4) rfl ?_
      refine z_callV Γ kk_X1_fail kc_RX1_81 (As := [zv s0 0 11, zv s0 0 v5]) h (by omega) (by decide) (show (parseMethodDescriptor yX1_fail.desc).map (fun q => q.parameters.length) = some 2 by decide +kernel) hok (Nat.zero_le _) dX1_lookAtEnum_151 (by decide) hs24 rfl rfl (fun _ h9 => nomatch h9) ?_
      clear h
      intro r151 M151 h
      show rt_Go _ _ _ _ _ _ _ _ _ _ _ _ 154 [(0, zv s0 2 24), (1, zv s0 0 v1), (2, zv s0 0 v2), (4, zv s0 0 v4), (5, zv s0 0 v5), (6, zv s0 0 v6)] [zv s0 0 r151] (zw s0 ca C S M151)
      exact z_iret dX1_lookAtEnum_154 rfl h
    · replace h := h.2 c123
      refine z_aload_n dX1_lookAtEnum_126 rfl (j := 0) rfl ?_
      refine z_iload dX1_lookAtEnum_127 (j := 4) rfl ?_
      refine z_callV Γ kk_X1_isName kc_RX1_205 (As := [zv s0 0 v5]) h (by omega) (by decide) (show (parseMethodDescriptor yX1_isName.desc).map (fun q => q.parameters.length) = some 1 by decide +kernel) hok (Nat.zero_le _) dX1_lookAtEnum_129 (by decide) hs24 rfl rfl (fun _ h9 => nomatch h9) ?_
      clear h
      intro r129 M129 h
      show rt_Go _ _ _ _ _ _ _ _ _ _ _ _ 132 [(0, zv s0 2 24), (1, zv s0 0 v1), (2, zv s0 0 v2), (4, zv s0 0 v4), (5, zv s0 0 v5), (6, zv s0 0 v6)] [zv s0 0 r129] (zw s0 ca C S M129)
      refine z_if_eq (tgt := 146) (x' := w32 r129) rfl dX1_lookAtEnum_132 (by decide) (fun c132 => ?_) (fun c132 => ?_)
      · replace h := h.1 c132
        refine z_aload_n dX1_lookAtEnum_146 rfl (j := 0) rfl ?_
        refine z_bipush dX1_lookAtEnum_147 (by decide) ?_
        refine z_iload dX1_lookAtEnum_149 (j := 4) rfl ?_
        refine z_callV Γ kk_X1_fail kc_RX1_81 (As := [zv s0 0 11, zv s0 0 v5]) h (by omega) (by decide) (show (parseMethodDescriptor yX1_fail.desc).map (fun q => q.parameters.length) = some 2 by decide +kernel) hok (Nat.zero_le _) dX1_lookAtEnum_151 (by decide) hs24 rfl rfl (fun _ h9 => nomatch h9) ?_
        clear h
        intro r151 M151 h
        show rt_Go _ _ _ _ _ _ _ _ _ _ _ _ 154 [(0, zv s0 2 24), (1, zv s0 0 v1), (2, zv s0 0 v2), (4, zv s0 0 v4), (5, zv s0 0 v5), (6, zv s0 0 v6)] [zv s0 0 r151] (zw s0 ca C S M151)
        exact z_iret dX1_lookAtEnum_154 rfl h
      · replace h := h.2 c132
        refine z_aload_n dX1_lookAtEnum_135 rfl (j := 0) rfl ?_
        refine z_iload_n dX1_lookAtEnum_136 rfl (j := 2) rfl ?_
        refine z_iload dX1_lookAtEnum_137 (j := 4) rfl ?_
        refine z_callV Γ kk_X1_partSaid kc_RX1_233 (As := [zv s0 0 v2, zv s0 0 v5]) h (by omega) (by decide) (show (parseMethodDescriptor yX1_partSaid.desc).map (fun q => q.parameters.length) = some 2 by decide +kernel) hok (Nat.zero_le _) dX1_lookAtEnum_139 (by decide) hs24 rfl rfl (fun _ h9 => nomatch h9) ?_
        clear h
        intro r139 M139 h
        show rt_Go _ _ _ _ _ _ _ _ _ _ _ _ 142 [(0, zv s0 2 24), (1, zv s0 0 v1), (2, zv s0 0 v2), (4, zv s0 0 v4), (5, zv s0 0 v5), (6, zv s0 0 v6)] [zv s0 0 r139] (zw s0 ca C S M139)
        refine z_iconst dX1_lookAtEnum_142 ?_
        refine z_icmp_eq (tgt := 155) (x' := w32 r139) (y' := ((-1))) rfl (by decide) dX1_lookAtEnum_143 (by decide) (fun c143 => ?_) (fun c143 => ?_)
        · replace h := h.1 c143
          refine z_aload_n dX1_lookAtEnum_155 rfl (j := 0) rfl ?_
          refine z_getc Γ kf_RX1_33 dX1_lookAtEnum_156 (by decide) hs24 rfl ?_
          refine z_aload_n dX1_lookAtEnum_159 rfl (j := 0) rfl ?_
          refine z_getc Γ kf_RX1_33 dX1_lookAtEnum_160 (by decide) hs24 rfl ?_
          refine z_iload_n dX1_lookAtEnum_163 rfl (j := 2) rfl ?_
          refine z_iload dX1_lookAtEnum_164 (j := 5) rfl ?_
          refine z_callV Γ kk_X6_part kc_RX1_157 (As := [zv s0 0 v2, zv s0 0 v6]) (z_X6_part (d := d - 1) Γ (by omega) hok hp (M := M139) (Q := fun v9 M9 => v9 = (((zat M139 (p + 10) 134 v2)) + v6) ∧ M9 = M139) (X := X) (show _ ∧ _ from ⟨rfl, rfl⟩)) (by omega) (by decide) (show (parseMethodDescriptor yX6_part.desc).map (fun q => q.parameters.length) = some 2 by decide +kernel) hok (by simp only [List.map, zv_cat0, zv_cat1, zv_cat2, List.sum_cons, List.sum_nil]; decide) dX1_lookAtEnum_166 hp.1 hp.2.1 rfl rfl (fun _ h9 => nomatch h9) ?_
          rintro v9 M9 ⟨e9, e8⟩
          rw [e9, e8]
          clear e9 e8 v9 M9
          show rt_Go _ _ _ _ _ _ _ _ _ _ _ _ 169 [(0, zv s0 2 24), (1, zv s0 0 v1), (2, zv s0 0 v2), (4, zv s0 0 v4), (5, zv s0 0 v5), (6, zv s0 0 v6)] [zv s0 0 ((((zat M139 (p + 10) 134 v2)) + v6)), zv s0 2 p] (zw s0 ca C S M139)
          refine z_aload_n dX1_lookAtEnum_169 rfl (j := 0) rfl ?_
          refine z_getc Γ kf_RX1_33 dX1_lookAtEnum_170 (by decide) hs24 rfl ?_
          refine z_aload_n dX1_lookAtEnum_173 rfl (j := 0) rfl ?_
          refine z_getc Γ kf_RX1_37 dX1_lookAtEnum_174 (by decide) hs24 rfl ?_
          refine z_callV Γ kk_X8_letters kc_RX1_129 (As := []) (z_X8_letters (d := d - 1) Γ hok hs hs6 (M := M139) (Q := fun v9 M9 => v9 = 22 ∧ M9 = M139) (X := X) (show _ ∧ _ from ⟨rfl, rfl⟩)) (by omega) (by decide) (show (parseMethodDescriptor yX8_letters.desc).map (fun q => q.parameters.length) = some 0 by decide +kernel) hok (by simp only [List.map, zv_cat0, zv_cat1, zv_cat2, List.sum_cons, List.sum_nil]; decide) dX1_lookAtEnum_177 (by decide) hs6 rfl rfl (fun _ h9 => nomatch h9) ?_
          rintro v9 M9 ⟨e9, e8⟩
          rw [e9, e8]
          clear e9 e8 v9 M9
          show rt_Go _ _ _ _ _ _ _ _ _ _ _ _ 180 [(0, zv s0 2 24), (1, zv s0 0 v1), (2, zv s0 0 v2), (4, zv s0 0 v4), (5, zv s0 0 v5), (6, zv s0 0 v6)] [zv s0 2 22, zv s0 2 p, zv s0 0 ((((zat M139 (p + 10) 134 v2)) + v6)), zv s0 2 p] (zw s0 ca C S M139)
          refine z_aload_n dX1_lookAtEnum_180 rfl (j := 0) rfl ?_
          refine z_getc Γ kf_RX1_37 dX1_lookAtEnum_181 (by decide) hs24 rfl ?_
          refine z_iload dX1_lookAtEnum_184 (j := 4) rfl ?_
          refine z_callV Γ kk_X8_word kc_RX1_133 (As := [zv s0 0 v5]) (z_X8_word (d := d - 1) Γ (by omega) hok hs hs6 (M := M139) (Q := fun v9 M9 => v9 = ((zat M139 18 2073 v5)) ∧ M9 = M139) (X := X) (show _ ∧ _ from ⟨rfl, rfl⟩)) (by omega) (by decide) (show (parseMethodDescriptor yX8_word.desc).map (fun q => q.parameters.length) = some 1 by decide +kernel) hok (by simp only [List.map, zv_cat0, zv_cat1, zv_cat2, List.sum_cons, List.sum_nil]; decide) dX1_lookAtEnum_186 (by decide) hs6 rfl rfl (fun _ h9 => nomatch h9) ?_
          rintro v9 M9 ⟨e9, e8⟩
          rw [e9, e8]
          clear e9 e8 v9 M9
          show rt_Go _ _ _ _ _ _ _ _ _ _ _ _ 189 [(0, zv s0 2 24), (1, zv s0 0 v1), (2, zv s0 0 v2), (4, zv s0 0 v4), (5, zv s0 0 v5), (6, zv s0 0 v6)] [zv s0 0 (((zat M139 18 2073 v5))), zv s0 2 22, zv s0 2 p, zv s0 0 ((((zat M139 (p + 10) 134 v2)) + v6)), zv s0 2 p] (zw s0 ca C S M139)
          refine z_callV Γ kk_X6_addName kc_RX1_208 (As := [zv s0 2 22, zv s0 0 (((zat M139 18 2073 v5)))]) h (by omega) (by decide) (show (parseMethodDescriptor yX6_addName.desc).map (fun q => q.parameters.length) = some 2 by decide +kernel) hok (by simp only [List.map, zv_cat0, zv_cat1, zv_cat2, List.sum_cons, List.sum_nil]; decide) dX1_lookAtEnum_189 hp.1 hp.2.1 rfl rfl (fun _ h9 => nomatch h9) ?_
          clear h
          intro r189 M189 h
          show rt_Go _ _ _ _ _ _ _ _ _ _ _ _ 192 [(0, zv s0 2 24), (1, zv s0 0 v1), (2, zv s0 0 v2), (4, zv s0 0 v4), (5, zv s0 0 v5), (6, zv s0 0 v6)] [zv s0 0 r189, zv s0 0 ((((zat M139 (p + 10) 134 v2)) + v6)), zv s0 2 p] (zw s0 ca C S M189)
          refine z_callV Γ kk_X6_setPartName kc_RX1_236 (As := [zv s0 0 ((((zat M139 (p + 10) 134 v2)) + v6)), zv s0 0 r189]) (z_X6_setPartName (d := d - 1) Γ (by omega) hok hp (M := M189) (Q := fun v9 M9 => v9 = 0 ∧ M9 = ((zput M189 (p + 16) 2048 ((((zat M139 (p + 10) 134 v2)) + v6)) r189))) (X := X) (show _ ∧ _ from ⟨rfl, rfl⟩)) (by omega) (by decide) (show (parseMethodDescriptor yX6_setPartName.desc).map (fun q => q.parameters.length) = some 2 by decide +kernel) hok (Nat.zero_le _) dX1_lookAtEnum_192 hp.1 hp.2.1 rfl rfl (fun _ h9 => nomatch h9) ?_
          rintro v9 M9 ⟨e9, e8⟩
          rw [e9, e8]
          clear e9 e8 v9 M9
          show rt_Go _ _ _ _ _ _ _ _ _ _ _ _ 195 [(0, zv s0 2 24), (1, zv s0 0 v1), (2, zv s0 0 v2), (4, zv s0 0 v4), (5, zv s0 0 v5), (6, zv s0 0 v6)] [] (zw s0 ca C S (((zput M189 (p + 16) 2048 ((((zat M139 (p + 10) 134 v2)) + v6)) r189))))
          refine z_aload_n dX1_lookAtEnum_195 rfl (j := 0) rfl ?_
          refine z_getc Γ kf_RX1_37 dX1_lookAtEnum_196 (by decide) hs24 rfl ?_
          refine z_iload dX1_lookAtEnum_199 (j := 4) rfl ?_
          refine z_callV Γ kk_X8_next kc_RX1_163 (As := [zv s0 0 v5]) (z_X8_next (d := d - 1) Γ (by omega) hok hs hs6 (M := (((zput M189 (p + 16) 2048 ((((zat M139 (p + 10) 134 v2)) + v6)) r189)))) (Q := fun v9 M9 => v9 = ((zat (((zput M189 (p + 16) 2048 ((((zat M139 (p + 10) 134 v2)) + v6)) r189))) 12 2073 v5)) ∧ M9 = (((zput M189 (p + 16) 2048 ((((zat M139 (p + 10) 134 v2)) + v6)) r189)))) (X := X) (show _ ∧ _ from ⟨rfl, rfl⟩)) (by omega) (by decide) (show (parseMethodDescriptor yX8_next.desc).map (fun q => q.parameters.length) = some 1 by decide +kernel) hok (Nat.zero_le _) dX1_lookAtEnum_201 (by decide) hs6 rfl rfl (fun _ h9 => nomatch h9) ?_
          rintro v9 M9 ⟨e9, e8⟩
          rw [e9, e8]
          clear e9 e8 v9 M9
          show rt_Go _ _ _ _ _ _ _ _ _ _ _ _ 204 [(0, zv s0 2 24), (1, zv s0 0 v1), (2, zv s0 0 v2), (4, zv s0 0 v4), (5, zv s0 0 v5), (6, zv s0 0 v6)] [zv s0 0 (((zat (((zput M189 (p + 16) 2048 ((((zat M139 (p + 10) 134 v2)) + v6)) r189))) 12 2073 v5)))] (zw s0 ca C S (((zput M189 (p + 16) 2048 ((((zat M139 (p + 10) 134 v2)) + v6)) r189))))
          refine z_istore (i := 5) (lv' := [(5, zv s0 0 (((zat (((zput M189 (p + 16) 2048 ((((zat M139 (p + 10) 134 v2)) + v6)) r189))) 12 2073 v5)))), (0, zv s0 2 24), (1, zv s0 0 v1), (2, zv s0 0 v2), (4, zv s0 0 v4), (6, zv s0 0 v6)]) dX1_lookAtEnum_204 (by decide) (by simp [zv_cat0, zv_cat1, zv_cat2, zv_cats]) ?_
          refine z_iinc (lv' := [(6, zv s0 0 (v6 + 1)), (5, zv s0 0 (((zat (((zput M189 (p + 16) 2048 ((((zat M139 (p + 10) 134 v2)) + v6)) r189))) 12 2073 v5)))), (0, zv s0 2 24), (1, zv s0 0 v1), (2, zv s0 0 v2), (4, zv s0 0 v4)]) dX1_lookAtEnum_206 (j := 5) rfl (by decide) (by simp [zv_cat0, zv_cat1, zv_cat2, zv_cats]) ?_
          refine rt_goto (tgt := 107) dX1_lookAtEnum_209 (by decide) ?_
          exact rt_lfew [2, 3, 4, 5, 1, 0] rfl h
        · replace h := h.2 c143
          refine z_aload_n dX1_lookAtEnum_146 rfl (j := 0) rfl ?_
          refine z_bipush dX1_lookAtEnum_147 (by decide) ?_
          refine z_iload dX1_lookAtEnum_149 (j := 4) rfl ?_
          refine z_callV Γ kk_X1_fail kc_RX1_81 (As := [zv s0 0 11, zv s0 0 v5]) h (by omega) (by decide) (show (parseMethodDescriptor yX1_fail.desc).map (fun q => q.parameters.length) = some 2 by decide +kernel) hok (Nat.zero_le _) dX1_lookAtEnum_151 (by decide) hs24 rfl rfl (fun _ h9 => nomatch h9) ?_
          clear h
          intro r151 M151 h
          show rt_Go _ _ _ _ _ _ _ _ _ _ _ _ 154 [(0, zv s0 2 24), (1, zv s0 0 v1), (2, zv s0 0 v2), (4, zv s0 0 v4), (5, zv s0 0 v5), (6, zv s0 0 v6)] [zv s0 0 r151] (zw s0 ca C S M151)
          exact z_iret dX1_lookAtEnum_154 rfl h

def zt_X1_lookAtEnum (l : Launch) (s0 : State) (G : va_G) (ca : Nat → ClassId) (d : Nat) (C : Nat × Nat) (S : zS) (w0 : rt_Wd) (p : Int) (v : Int) (M : zM) (Q : Int → zM → Prop) (X : zM → Prop) : Prop :=
  zm_X1_define l s0 G ca (d - 1) C S v 10 M (fun r4 M4 => zIf (w32 (M4 24 6) = 0) (∀ q22 : Nat, zstr s0 q22 [115, 121, 109, 98, 111, 108, 115] → (zm_X8_member l s0 G ca (d - 1) C S v q22 M4 (fun r24 M24 => zIf (w32 r24 = ((-1))) (zm_X1_fail l s0 G ca (d - 1) C S 8 v M24 (fun r37 M37 => Q r37 M37) X) (zIf (w32 (((zat M24 8 2073 r24))) = 2) (zIf (w32 (((zat M24 16 2073 r24))) < 1) (zm_X1_fail l s0 G ca (d - 1) C S 11 r24 M24 (fun r80 M80 => Q r80 M80) X) (zIf (w32 (((zat M24 16 2073 r24))) ≤ 32) (zm_X6_addParts l s0 G ca (d - 1) C S p r4 (((zat M24 16 2073 r24))) M24 (fun r91 M91 => zg_X1_lookAtEnum_107 l s0 G ca d C S w0 p v r4 (((zat M24 16 2073 r24))) (((zat M91 14 2073 r24))) 0 M91 Q X) X) (zm_X1_fail l s0 G ca (d - 1) C S 11 r24 M24 (fun r80 M80 => Q r80 M80) X))) (zm_X1_fail l s0 G ca (d - 1) C S 11 r24 M24 (fun r80 M80 => Q r80 M80) X))) X)) (Q r4 M4)) X
set_option maxRecDepth 100000 in
theorem z_X1_lookAtEnum {l : Launch} {s0 : State} {a0 : Array Value} {G : va_G} {ca : Nat → ClassId} (Γ : rt_Γ l s0 a0 G ca) {d : Nat} {C : Nat × Nat} {S : zS} (hd : 2 ≤ d) (hok : zok C) {p : Int} (hs : zSok S) (hp : zSc S p) (hs24 : S 24 = some (0, 1, [(3, 25), (3, 26), (3, 28), (3, p), (3, 6), (0, 0), (0, 0), (0, 0)])) (hs6 : S 6 = some (0, 8, [(3, 7), (3, 9), (3, 11), (3, 13), (3, 15), (3, 17), (3, 19), (3, 21), (3, 22), (3, 1), (0, 0), (0, 0), (0, 0)])) {v : Int} {M : zM} {Q : Int → zM → Prop} {X : zM → Prop} (h : zt_X1_lookAtEnum l s0 G ca d C S (zw s0 ca C S M) p v M Q X) : zm_X1_lookAtEnum l s0 G ca d C S  v M Q X := by
  refine z_met (lv := [(0, zv s0 2 24), (1, zv s0 0 v)]) Γ kk_X1_lookAtEnum rfl (show (lg_sl [zv s0 2 24, zv s0 0 v]).length ≤ 7 from by simp only [zn_0, zn_2, show (lg_sl []).length = 0 from rfl]; omega) (show lv_args 0 [zv s0 2 24, zv s0 0 v] = [(0, zv s0 2 24), (1, zv s0 0 v)] from by rw [zl_2, zl_0]; rfl) ?_
  unfold zt_X1_lookAtEnum at h
  refine z_aload_n dX1_lookAtEnum_0 rfl (j := 0) rfl ?_
  refine z_iload_n dX1_lookAtEnum_1 rfl (j := 1) rfl ?_
  refine z_bipush dX1_lookAtEnum_2 (by decide) ?_
  refine z_callV Γ kk_X1_define kc_RX1_217 (As := [zv s0 0 v, zv s0 0 10]) h (by omega) (by decide) (show (parseMethodDescriptor yX1_define.desc).map (fun q => q.parameters.length) = some 2 by decide +kernel) hok (Nat.zero_le _) dX1_lookAtEnum_4 (by decide) hs24 rfl rfl (fun _ h9 => nomatch h9) ?_
  clear h
  intro r4 M4 h
  show rt_Go _ _ _ _ _ _ _ _ _ _ _ _ 7 [(0, zv s0 2 24), (1, zv s0 0 v)] [zv s0 0 r4] (zw s0 ca C S M4)
  refine z_istore_n (i := 2) (lv' := [(2, zv s0 0 r4), (0, zv s0 2 24), (1, zv s0 0 v)]) dX1_lookAtEnum_7 rfl (by decide) (by simp [zv_cat0, zv_cat1, zv_cat2, zv_cats]) ?_
  refine z_aload_n dX1_lookAtEnum_8 rfl (j := 1) rfl ?_
  refine z_get Γ kf_RX1_51 dX1_lookAtEnum_9 (by decide) hs24 rfl (by decide) (v9 := M4 24 6) rfl ?_
  refine z_if_eq (tgt := 17) (x' := w32 (M4 24 6)) rfl dX1_lookAtEnum_12 (by decide) (fun c12 => ?_) (fun c12 => ?_)
  · replace h := h.1 c12
    refine z_aload_n dX1_lookAtEnum_17 rfl (j := 1) rfl ?_
    refine z_getc Γ kf_RX1_37 dX1_lookAtEnum_18 (by decide) hs24 rfl ?_
    refine z_iload_n dX1_lookAtEnum_21 rfl (j := 2) rfl ?_
    obtain ⟨q22, hq22a, hq22b⟩ := ks_RX1_231 Γ
    have hq22 : zstr s0 q22 [115, 121, 109, 98, 111, 108, 115] := ⟨hq22b, by decide, by decide⟩
    replace h := h q22 hq22
    refine rt_ldcS Γ hq22a dX1_lookAtEnum_22 ?_
    refine z_callV Γ kk_X8_member kc_RX1_172 (As := [zv s0 0 v, .ref q22]) h (by omega) (by decide) (show (parseMethodDescriptor yX8_member.desc).map (fun q => q.parameters.length) = some 2 by decide +kernel) hok (Nat.zero_le _) dX1_lookAtEnum_24 (by decide) hs6 rfl rfl (fun _ h9 => nomatch h9) ?_
    clear h
    intro r24 M24 h
    show rt_Go _ _ _ _ _ _ _ _ _ _ _ _ 27 [(2, zv s0 0 r4), (0, zv s0 2 24), (1, zv s0 0 v)] [zv s0 0 r24] (zw s0 ca C S M24)
    refine z_istore_n (i := 3) (lv' := [(3, zv s0 0 r24), (2, zv s0 0 r4), (0, zv s0 2 24), (1, zv s0 0 v)]) dX1_lookAtEnum_27 rfl (by decide) (by simp [zv_cat0, zv_cat1, zv_cat2, zv_cats]) ?_
    refine z_iload_n dX1_lookAtEnum_28 rfl (j := 0) rfl ?_
    refine z_iconst dX1_lookAtEnum_29 ?_
    refine z_icmp_ne (tgt := 41) (x' := w32 r24) (y' := ((-1))) rfl (by decide) dX1_lookAtEnum_30 (by decide) (fun c30 => ?_) (fun c30 => ?_)
    · replace h := h.2 c30
      refine z_aload_n dX1_lookAtEnum_41 rfl (j := 2) rfl ?_
      refine z_getc Γ kf_RX1_37 dX1_lookAtEnum_42 (by decide) hs24 rfl ?_
      refine z_iload_n dX1_lookAtEnum_45 rfl (j := 0) rfl ?_
      refine z_callV Γ kk_X8_parts kc_RX1_140 (As := [zv s0 0 r24]) (z_X8_parts (d := d - 1) Γ (by omega) hok hs hs6 (M := M24) (Q := fun v9 M9 => v9 = ((zat M24 16 2073 r24)) ∧ M9 = M24) (X := X) (show _ ∧ _ from ⟨rfl, rfl⟩)) (by omega) (by decide) (show (parseMethodDescriptor yX8_parts.desc).map (fun q => q.parameters.length) = some 1 by decide +kernel) hok (Nat.zero_le _) dX1_lookAtEnum_46 (by decide) hs6 rfl rfl (fun _ h9 => nomatch h9) ?_
      rintro v9 M9 ⟨e9, e8⟩
      rw [e9, e8]
      clear e9 e8 v9 M9
      show rt_Go _ _ _ _ _ _ _ _ _ _ _ _ 49 [(3, zv s0 0 r24), (2, zv s0 0 r4), (0, zv s0 2 24), (1, zv s0 0 v)] [zv s0 0 (((zat M24 16 2073 r24)))] (zw s0 ca C S M24)
      refine z_istore (i := 4) (lv' := [(4, zv s0 0 (((zat M24 16 2073 r24)))), (3, zv s0 0 r24), (2, zv s0 0 r4), (0, zv s0 2 24), (1, zv s0 0 v)]) dX1_lookAtEnum_49 (by decide) (by simp [zv_cat0, zv_cat1, zv_cat2, zv_cats]) ?_
      refine z_aload_n dX1_lookAtEnum_51 rfl (j := 3) rfl ?_
      refine z_getc Γ kf_RX1_37 dX1_lookAtEnum_52 (by decide) hs24 rfl ?_
      refine z_iload_n dX1_lookAtEnum_55 rfl (j := 1) rfl ?_
      refine z_callV Γ kk_X8_kind kc_RX1_85 (As := [zv s0 0 r24]) (z_X8_kind (d := d - 1) Γ (by omega) hok hs hs6 (M := M24) (Q := fun v9 M9 => v9 = ((zat M24 8 2073 r24)) ∧ M9 = M24) (X := X) (show _ ∧ _ from ⟨rfl, rfl⟩)) (by omega) (by decide) (show (parseMethodDescriptor yX8_kind.desc).map (fun q => q.parameters.length) = some 1 by decide +kernel) hok (Nat.zero_le _) dX1_lookAtEnum_56 (by decide) hs6 rfl rfl (fun _ h9 => nomatch h9) ?_
      rintro v9 M9 ⟨e9, e8⟩
      rw [e9, e8]
      clear e9 e8 v9 M9
      show rt_Go _ _ _ _ _ _ _ _ _ _ _ _ 59 [(4, zv s0 0 (((zat M24 16 2073 r24)))), (3, zv s0 0 r24), (2, zv s0 0 r4), (0, zv s0 2 24), (1, zv s0 0 v)] [zv s0 0 (((zat M24 8 2073 r24)))] (zw s0 ca C S M24)
      refine z_iconst dX1_lookAtEnum_59 ?_
      refine z_icmp_ne (tgt := 76) (x' := w32 (((zat M24 8 2073 r24)))) (y' := 2) rfl (by decide) dX1_lookAtEnum_60 (by decide) (fun c60 => ?_) (fun c60 => ?_)
      · replace h := h.2 c60
        refine z_aload_n dX1_lookAtEnum_76 rfl (j := 3) rfl ?_
        refine z_bipush dX1_lookAtEnum_77 (by decide) ?_
        refine z_iload_n dX1_lookAtEnum_79 rfl (j := 1) rfl ?_
        refine z_callV Γ kk_X1_fail kc_RX1_81 (As := [zv s0 0 11, zv s0 0 r24]) h (by omega) (by decide) (show (parseMethodDescriptor yX1_fail.desc).map (fun q => q.parameters.length) = some 2 by decide +kernel) hok (Nat.zero_le _) dX1_lookAtEnum_80 (by decide) hs24 rfl rfl (fun _ h9 => nomatch h9) ?_
        clear h
        intro r80 M80 h
        show rt_Go _ _ _ _ _ _ _ _ _ _ _ _ 83 [(4, zv s0 0 (((zat M24 16 2073 r24)))), (3, zv s0 0 r24), (2, zv s0 0 r4), (0, zv s0 2 24), (1, zv s0 0 v)] [zv s0 0 r80] (zw s0 ca C S M80)
        exact z_iret dX1_lookAtEnum_83 rfl h
      · replace h := h.1 c60
        refine z_iload dX1_lookAtEnum_63 (j := 0) rfl ?_
        refine z_iconst dX1_lookAtEnum_65 ?_
        refine z_icmp_lt (tgt := 76) (x' := w32 (((zat M24 16 2073 r24)))) (y' := 1) rfl (by decide) dX1_lookAtEnum_66 (by decide) (fun c66 => ?_) (fun c66 => ?_)
        · replace h := h.1 c66
          refine z_aload_n dX1_lookAtEnum_76 rfl (j := 3) rfl ?_
          refine z_bipush dX1_lookAtEnum_77 (by decide) ?_
          refine z_iload_n dX1_lookAtEnum_79 rfl (j := 1) rfl ?_
          refine z_callV Γ kk_X1_fail kc_RX1_81 (As := [zv s0 0 11, zv s0 0 r24]) h (by omega) (by decide) (show (parseMethodDescriptor yX1_fail.desc).map (fun q => q.parameters.length) = some 2 by decide +kernel) hok (Nat.zero_le _) dX1_lookAtEnum_80 (by decide) hs24 rfl rfl (fun _ h9 => nomatch h9) ?_
          clear h
          intro r80 M80 h
          show rt_Go _ _ _ _ _ _ _ _ _ _ _ _ 83 [(4, zv s0 0 (((zat M24 16 2073 r24)))), (3, zv s0 0 r24), (2, zv s0 0 r4), (0, zv s0 2 24), (1, zv s0 0 v)] [zv s0 0 r80] (zw s0 ca C S M80)
          exact z_iret dX1_lookAtEnum_83 rfl h
        · replace h := h.2 c66
          refine z_iload dX1_lookAtEnum_69 (j := 0) rfl ?_
          refine z_bipush dX1_lookAtEnum_71 (by decide) ?_
          refine z_icmp_le (tgt := 84) (x' := w32 (((zat M24 16 2073 r24)))) (y' := 32) rfl (by decide) dX1_lookAtEnum_73 (by decide) (fun c73 => ?_) (fun c73 => ?_)
          · replace h := h.1 c73
            refine z_aload_n dX1_lookAtEnum_84 rfl (j := 3) rfl ?_
            refine z_getc Γ kf_RX1_33 dX1_lookAtEnum_85 (by decide) hs24 rfl ?_
            refine z_iload_n dX1_lookAtEnum_88 rfl (j := 2) rfl ?_
            refine z_iload dX1_lookAtEnum_89 (j := 0) rfl ?_
            refine z_callV Γ kk_X6_addParts kc_RX1_146 (As := [zv s0 0 r4, zv s0 0 (((zat M24 16 2073 r24)))]) h (by omega) (by decide) (show (parseMethodDescriptor yX6_addParts.desc).map (fun q => q.parameters.length) = some 2 by decide +kernel) hok (Nat.zero_le _) dX1_lookAtEnum_91 hp.1 hp.2.1 rfl rfl (fun _ h9 => nomatch h9) ?_
            clear h
            intro r91 M91 h
            show rt_Go _ _ _ _ _ _ _ _ _ _ _ _ 94 [(4, zv s0 0 (((zat M24 16 2073 r24)))), (3, zv s0 0 r24), (2, zv s0 0 r4), (0, zv s0 2 24), (1, zv s0 0 v)] [] (zw s0 ca C S M91)
            refine z_aload_n dX1_lookAtEnum_94 rfl (j := 3) rfl ?_
            refine z_getc Γ kf_RX1_37 dX1_lookAtEnum_95 (by decide) hs24 rfl ?_
            refine z_iload_n dX1_lookAtEnum_98 rfl (j := 1) rfl ?_
            refine z_callV Γ kk_X8_first kc_RX1_150 (As := [zv s0 0 r24]) (z_X8_first (d := d - 1) Γ (by omega) hok hs hs6 (M := M91) (Q := fun v9 M9 => v9 = ((zat M91 14 2073 r24)) ∧ M9 = M91) (X := X) (show _ ∧ _ from ⟨rfl, rfl⟩)) (by omega) (by decide) (show (parseMethodDescriptor yX8_first.desc).map (fun q => q.parameters.length) = some 1 by decide +kernel) hok (Nat.zero_le _) dX1_lookAtEnum_99 (by decide) hs6 rfl rfl (fun _ h9 => nomatch h9) ?_
            rintro v9 M9 ⟨e9, e8⟩
            rw [e9, e8]
            clear e9 e8 v9 M9
            show rt_Go _ _ _ _ _ _ _ _ _ _ _ _ 102 [(4, zv s0 0 (((zat M24 16 2073 r24)))), (3, zv s0 0 r24), (2, zv s0 0 r4), (0, zv s0 2 24), (1, zv s0 0 v)] [zv s0 0 (((zat M91 14 2073 r24)))] (zw s0 ca C S M91)
            refine z_istore (i := 5) (lv' := [(5, zv s0 0 (((zat M91 14 2073 r24)))), (4, zv s0 0 (((zat M24 16 2073 r24)))), (3, zv s0 0 r24), (2, zv s0 0 r4), (0, zv s0 2 24), (1, zv s0 0 v)]) dX1_lookAtEnum_102 (by decide) (by simp [zv_cat0, zv_cat1, zv_cat2, zv_cats]) ?_
            refine z_iconst dX1_lookAtEnum_104 ?_
            refine z_istore (i := 6) (lv' := [(6, zv s0 0 0), (5, zv s0 0 (((zat M91 14 2073 r24)))), (4, zv s0 0 (((zat M24 16 2073 r24)))), (3, zv s0 0 r24), (2, zv s0 0 r4), (0, zv s0 2 24), (1, zv s0 0 v)]) dX1_lookAtEnum_105 (by decide) (by simp [zv_cat0, zv_cat1, zv_cat2, zv_cats]) ?_
            exact rt_lfew [5, 6, 4, 2, 1, 0] rfl h
          · replace h := h.2 c73
            refine z_aload_n dX1_lookAtEnum_76 rfl (j := 3) rfl ?_
            refine z_bipush dX1_lookAtEnum_77 (by decide) ?_
            refine z_iload_n dX1_lookAtEnum_79 rfl (j := 1) rfl ?_
            refine z_callV Γ kk_X1_fail kc_RX1_81 (As := [zv s0 0 11, zv s0 0 r24]) h (by omega) (by decide) (show (parseMethodDescriptor yX1_fail.desc).map (fun q => q.parameters.length) = some 2 by decide +kernel) hok (Nat.zero_le _) dX1_lookAtEnum_80 (by decide) hs24 rfl rfl (fun _ h9 => nomatch h9) ?_
            clear h
            intro r80 M80 h
            show rt_Go _ _ _ _ _ _ _ _ _ _ _ _ 83 [(4, zv s0 0 (((zat M24 16 2073 r24)))), (3, zv s0 0 r24), (2, zv s0 0 r4), (0, zv s0 2 24), (1, zv s0 0 v)] [zv s0 0 r80] (zw s0 ca C S M80)
            exact z_iret dX1_lookAtEnum_83 rfl h
    · replace h := h.1 c30
      refine z_aload_n dX1_lookAtEnum_33 rfl (j := 2) rfl ?_
      refine z_bipush dX1_lookAtEnum_34 (by decide) ?_
      refine z_iload_n dX1_lookAtEnum_36 rfl (j := 3) rfl ?_
      refine z_callV Γ kk_X1_fail kc_RX1_81 (As := [zv s0 0 8, zv s0 0 v]) h (by omega) (by decide) (show (parseMethodDescriptor yX1_fail.desc).map (fun q => q.parameters.length) = some 2 by decide +kernel) hok (Nat.zero_le _) dX1_lookAtEnum_37 (by decide) hs24 rfl rfl (fun _ h9 => nomatch h9) ?_
      clear h
      intro r37 M37 h
      show rt_Go _ _ _ _ _ _ _ _ _ _ _ _ 40 [(3, zv s0 0 r24), (2, zv s0 0 r4), (0, zv s0 2 24), (1, zv s0 0 v)] [zv s0 0 r37] (zw s0 ca C S M37)
      exact z_iret dX1_lookAtEnum_40 rfl h
  · replace h := h.2 c12
    refine z_iload_n dX1_lookAtEnum_15 rfl (j := 0) rfl ?_
    exact z_iret dX1_lookAtEnum_16 rfl h

abbrev zg_X1_hasBranchLike_34 (l : Launch) (s0 : State) (G : va_G) (ca : Nat → ClassId) (d : Nat) (C : Nat × Nat) (S : zS) (w0 : rt_Wd) (p : Int) (v1 : Int) (v2 : Int) (v3 : Int) (v4 : Int) (v5 : Int) (v6 : Int)  (M : zM) (Q : Int → zM → Prop) (X : zM → Prop) : Prop := rt_Go l s0 G RX1 "hasBranchLike" cX1_hasBranchLike 8 (Option.some FieldType.boolean) [] d w0 (zQ s0 ca 0 C S Q X) 34 [(0, zv s0 2 24), (1, zv s0 0 v1), (2, zv s0 0 v2), (3, zv s0 0 v3), (4, zv s0 0 v4), (5, zv s0 0 v5), (6, zv s0 0 v6)] [] (zw s0 ca C S M)
def zt_X1_hasBranchLike_34 (l : Launch) (s0 : State) (G : va_G) (ca : Nat → ClassId) (d : Nat) (C : Nat × Nat) (S : zS) (w0 : rt_Wd) (p : Int) (v1 : Int) (v2 : Int) (v3 : Int) (v4 : Int) (v5 : Int) (v6 : Int)  (M : zM) (Q : Int → zM → Prop) (X : zM → Prop) : Prop :=
  zIf (w32 v2 ≤ w32 v6) (Q 0 M) (zIf (w32 ((zf_X6_branch M p v1 v6)) = w32 v3) (Q 1 M) (zIf (w32 v5 = 0) (zg_X1_hasBranchLike_34 l s0 G ca d C S w0 p v1 v2 v3 v4 v5 (v6 + 1) M Q X) (zIf (w32 (((zat M (p + 2) 134 ((zf_X6_branch M p v1 v6))))) = w32 v4) (Q 1 M) (zg_X1_hasBranchLike_34 l s0 G ca d C S w0 p v1 v2 v3 v4 v5 (v6 + 1) M Q X))))
set_option maxRecDepth 100000 in
theorem zs_X1_hasBranchLike_34 {l : Launch} {s0 : State} {a0 : Array Value} {G : va_G} {ca : Nat → ClassId} (Γ : rt_Γ l s0 a0 G ca) {d : Nat} {C : Nat × Nat} {S : zS} (hd : 2 ≤ d) (hok : zok C) {p : Int} (hs : zSok S) (hp : zSc S p) (hs24 : S 24 = some (0, 1, [(3, 25), (3, 26), (3, 28), (3, p), (3, 6), (0, 0), (0, 0), (0, 0)])) (hs6 : S 6 = some (0, 8, [(3, 7), (3, 9), (3, 11), (3, 13), (3, 15), (3, 17), (3, 19), (3, 21), (3, 22), (3, 1), (0, 0), (0, 0), (0, 0)])) {w0 : rt_Wd} {v1 : Int} {v2 : Int} {v3 : Int} {v4 : Int} {v5 : Int} {v6 : Int}   {M : zM} {Q : Int → zM → Prop} {X : zM → Prop} (h : zt_X1_hasBranchLike_34 l s0 G ca d C S w0 p v1 v2 v3 v4 v5 v6 M Q X) : zg_X1_hasBranchLike_34 l s0 G ca d C S w0 p v1 v2 v3 v4 v5 v6 M Q X := by
  unfold zt_X1_hasBranchLike_34 at h
  refine z_iload dX1_hasBranchLike_34 (j := 6) rfl ?_
  refine z_iload_n dX1_hasBranchLike_36 rfl (j := 2) rfl ?_
  refine z_icmp_ge (tgt := 85) (x' := w32 v6) (y' := w32 v2) rfl rfl dX1_hasBranchLike_37 (by decide) (fun c37 => ?_) (fun c37 => ?_)
  · replace h := h.1 c37
    refine z_iconst dX1_hasBranchLike_85 ?_
    exact z_zret dX1_hasBranchLike_86 rfl (by decide) h
  · replace h := h.2 c37
    refine z_aload_n dX1_hasBranchLike_40 rfl (j := 0) rfl ?_
    refine z_getc Γ kf_RX1_33 dX1_hasBranchLike_41 (by decide) hs24 rfl ?_
    refine z_iload_n dX1_hasBranchLike_44 rfl (j := 1) rfl ?_
    refine z_iload dX1_hasBranchLike_45 (j := 6) rfl ?_
    refine z_callV Γ kk_X6_branch kc_RX1_167 (As := [zv s0 0 v1, zv s0 0 v6]) (k_X6_branch (d := d - 1) Γ (by omega) hok hp (M := M) (Q := fun v9 M9 => v9 = (zf_X6_branch M p v1 v6) ∧ M9 = M) (X := X) (show _ ∧ _ from ⟨rfl, rfl⟩)) (by omega) (by decide) (show (parseMethodDescriptor yX6_branch.desc).map (fun q => q.parameters.length) = some 2 by decide +kernel) hok (Nat.zero_le _) dX1_hasBranchLike_47 hp.1 hp.2.1 rfl rfl (fun _ h9 => nomatch h9) ?_
    rintro v9 M9 ⟨e9, e8⟩
    rw [e9, e8]
    clear e9 e8 v9 M9
    show rt_Go _ _ _ _ _ _ _ _ _ _ _ _ 50 [(0, zv s0 2 24), (1, zv s0 0 v1), (2, zv s0 0 v2), (3, zv s0 0 v3), (4, zv s0 0 v4), (5, zv s0 0 v5), (6, zv s0 0 v6)] [zv s0 0 ((zf_X6_branch M p v1 v6))] (zw s0 ca C S M)
    refine z_istore (i := 7) (lv' := [(7, zv s0 0 ((zf_X6_branch M p v1 v6))), (0, zv s0 2 24), (1, zv s0 0 v1), (2, zv s0 0 v2), (3, zv s0 0 v3), (4, zv s0 0 v4), (5, zv s0 0 v5), (6, zv s0 0 v6)]) dX1_hasBranchLike_50 (by decide) (by simp [zv_cat0, zv_cat1, zv_cat2, zv_cats]) ?_
    refine z_iload dX1_hasBranchLike_52 (j := 0) rfl ?_
    refine z_iload_n dX1_hasBranchLike_54 rfl (j := 4) rfl ?_
    refine z_icmp_eq (tgt := 77) (x' := w32 ((zf_X6_branch M p v1 v6))) (y' := w32 v3) rfl rfl dX1_hasBranchLike_55 (by decide) (fun c55 => ?_) (fun c55 => ?_)
    · replace h := h.1 c55
      refine z_iconst dX1_hasBranchLike_77 ?_
      exact z_zret dX1_hasBranchLike_78 rfl (by decide) h
    · replace h := h.2 c55
      refine z_iload dX1_hasBranchLike_58 (j := 6) rfl ?_
      refine z_if_eq (tgt := 79) (x' := w32 v5) rfl dX1_hasBranchLike_60 (by decide) (fun c60 => ?_) (fun c60 => ?_)
      · replace h := h.1 c60
        refine z_iinc (lv' := [(6, zv s0 0 (v6 + 1)), (7, zv s0 0 ((zf_X6_branch M p v1 v6))), (0, zv s0 2 24), (1, zv s0 0 v1), (2, zv s0 0 v2), (3, zv s0 0 v3), (4, zv s0 0 v4), (5, zv s0 0 v5)]) dX1_hasBranchLike_79 (j := 7) rfl (by decide) (by simp [zv_cat0, zv_cat1, zv_cat2, zv_cats]) ?_
        refine rt_goto (tgt := 34) dX1_hasBranchLike_82 (by decide) ?_
        exact rt_lfew [2, 3, 4, 5, 6, 7, 0] rfl h
      · replace h := h.2 c60
        refine z_aload_n dX1_hasBranchLike_63 rfl (j := 1) rfl ?_
        refine z_getc Γ kf_RX1_33 dX1_hasBranchLike_64 (by decide) hs24 rfl ?_
        refine z_iload dX1_hasBranchLike_67 (j := 0) rfl ?_
        refine z_callV Γ kk_X6_kind kc_RX1_166 (As := [zv s0 0 ((zf_X6_branch M p v1 v6))]) (z_X6_kind (d := d - 1) Γ (by omega) hok hp (M := M) (Q := fun v9 M9 => v9 = ((zat M (p + 2) 134 ((zf_X6_branch M p v1 v6)))) ∧ M9 = M) (X := X) (show _ ∧ _ from ⟨rfl, rfl⟩)) (by omega) (by decide) (show (parseMethodDescriptor yX6_kind.desc).map (fun q => q.parameters.length) = some 1 by decide +kernel) hok (Nat.zero_le _) dX1_hasBranchLike_69 hp.1 hp.2.1 rfl rfl (fun _ h9 => nomatch h9) ?_
        rintro v9 M9 ⟨e9, e8⟩
        rw [e9, e8]
        clear e9 e8 v9 M9
        show rt_Go _ _ _ _ _ _ _ _ _ _ _ _ 72 [(7, zv s0 0 ((zf_X6_branch M p v1 v6))), (0, zv s0 2 24), (1, zv s0 0 v1), (2, zv s0 0 v2), (3, zv s0 0 v3), (4, zv s0 0 v4), (5, zv s0 0 v5), (6, zv s0 0 v6)] [zv s0 0 (((zat M (p + 2) 134 ((zf_X6_branch M p v1 v6)))))] (zw s0 ca C S M)
        refine z_iload dX1_hasBranchLike_72 (j := 5) rfl ?_
        refine z_icmp_ne (tgt := 79) (x' := w32 (((zat M (p + 2) 134 ((zf_X6_branch M p v1 v6)))))) (y' := w32 v4) rfl rfl dX1_hasBranchLike_74 (by decide) (fun c74 => ?_) (fun c74 => ?_)
        · replace h := h.2 c74
          refine z_iinc (lv' := [(6, zv s0 0 (v6 + 1)), (7, zv s0 0 ((zf_X6_branch M p v1 v6))), (0, zv s0 2 24), (1, zv s0 0 v1), (2, zv s0 0 v2), (3, zv s0 0 v3), (4, zv s0 0 v4), (5, zv s0 0 v5)]) dX1_hasBranchLike_79 (j := 7) rfl (by decide) (by simp [zv_cat0, zv_cat1, zv_cat2, zv_cats]) ?_
          refine rt_goto (tgt := 34) dX1_hasBranchLike_82 (by decide) ?_
          exact rt_lfew [2, 3, 4, 5, 6, 7, 0] rfl h
        · replace h := h.1 c74
          refine z_iconst dX1_hasBranchLike_77 ?_
          exact z_zret dX1_hasBranchLike_78 rfl (by decide) h

def zt_X1_hasBranchLike (l : Launch) (s0 : State) (G : va_G) (ca : Nat → ClassId) (d : Nat) (C : Nat × Nat) (S : zS) (w0 : rt_Wd) (p : Int) (s : Int) (k : Int) (i : Int) (M : zM) (Q : Int → zM → Prop) (X : zM → Prop) : Prop :=
  zIf (w32 (((zat M (p + 2) 134 i))) = 6) (zg_X1_hasBranchLike_34 l s0 G ca d C S w0 p s k i (((zat M (p + 2) 134 i))) 1 0 M Q X) (zIf (w32 (((zat M (p + 2) 134 i))) = 7) (zg_X1_hasBranchLike_34 l s0 G ca d C S w0 p s k i (((zat M (p + 2) 134 i))) 1 0 M Q X) (zg_X1_hasBranchLike_34 l s0 G ca d C S w0 p s k i (((zat M (p + 2) 134 i))) 0 0 M Q X))
set_option maxRecDepth 100000 in
theorem z_X1_hasBranchLike {l : Launch} {s0 : State} {a0 : Array Value} {G : va_G} {ca : Nat → ClassId} (Γ : rt_Γ l s0 a0 G ca) {d : Nat} {C : Nat × Nat} {S : zS} (hd : 2 ≤ d) (hok : zok C) {p : Int} (hs : zSok S) (hp : zSc S p) (hs24 : S 24 = some (0, 1, [(3, 25), (3, 26), (3, 28), (3, p), (3, 6), (0, 0), (0, 0), (0, 0)])) (hs6 : S 6 = some (0, 8, [(3, 7), (3, 9), (3, 11), (3, 13), (3, 15), (3, 17), (3, 19), (3, 21), (3, 22), (3, 1), (0, 0), (0, 0), (0, 0)])) {s : Int} {k : Int} {i : Int} {M : zM} {Q : Int → zM → Prop} {X : zM → Prop} (h : zt_X1_hasBranchLike l s0 G ca d C S (zw s0 ca C S M) p s k i M Q X) : zm_X1_hasBranchLike l s0 G ca d C S  s k i M Q X := by
  refine z_met (lv := [(0, zv s0 2 24), (1, zv s0 0 s), (2, zv s0 0 k), (3, zv s0 0 i)]) Γ kk_X1_hasBranchLike rfl (show (lg_sl [zv s0 2 24, zv s0 0 s, zv s0 0 k, zv s0 0 i]).length ≤ 8 from by simp only [zn_0, zn_2, show (lg_sl []).length = 0 from rfl]; omega) (show lv_args 0 [zv s0 2 24, zv s0 0 s, zv s0 0 k, zv s0 0 i] = [(0, zv s0 2 24), (1, zv s0 0 s), (2, zv s0 0 k), (3, zv s0 0 i)] from by rw [zl_2, zl_0, zl_0, zl_0]; rfl) ?_
  unfold zt_X1_hasBranchLike at h
  refine z_aload_n dX1_hasBranchLike_0 rfl (j := 0) rfl ?_
  refine z_getc Γ kf_RX1_33 dX1_hasBranchLike_1 (by decide) hs24 rfl ?_
  refine z_iload_n dX1_hasBranchLike_4 rfl (j := 3) rfl ?_
  refine z_callV Γ kk_X6_kind kc_RX1_166 (As := [zv s0 0 i]) (z_X6_kind (d := d - 1) Γ (by omega) hok hp (M := M) (Q := fun v9 M9 => v9 = ((zat M (p + 2) 134 i)) ∧ M9 = M) (X := X) (show _ ∧ _ from ⟨rfl, rfl⟩)) (by omega) (by decide) (show (parseMethodDescriptor yX6_kind.desc).map (fun q => q.parameters.length) = some 1 by decide +kernel) hok (Nat.zero_le _) dX1_hasBranchLike_5 hp.1 hp.2.1 rfl rfl (fun _ h9 => nomatch h9) ?_
  rintro v9 M9 ⟨e9, e8⟩
  rw [e9, e8]
  clear e9 e8 v9 M9
  show rt_Go _ _ _ _ _ _ _ _ _ _ _ _ 8 [(0, zv s0 2 24), (1, zv s0 0 s), (2, zv s0 0 k), (3, zv s0 0 i)] [zv s0 0 (((zat M (p + 2) 134 i)))] (zw s0 ca C S M)
  refine z_istore (i := 4) (lv' := [(4, zv s0 0 (((zat M (p + 2) 134 i)))), (0, zv s0 2 24), (1, zv s0 0 s), (2, zv s0 0 k), (3, zv s0 0 i)]) dX1_hasBranchLike_8 (by decide) (by simp [zv_cat0, zv_cat1, zv_cat2, zv_cats]) ?_
  refine z_iload dX1_hasBranchLike_10 (j := 0) rfl ?_
  refine z_bipush dX1_hasBranchLike_12 (by decide) ?_
  refine z_icmp_eq (tgt := 24) (x' := w32 (((zat M (p + 2) 134 i)))) (y' := 6) rfl (by decide) dX1_hasBranchLike_14 (by decide) (fun c14 => ?_) (fun c14 => ?_)
  · replace h := h.1 c14
    refine z_iconst dX1_hasBranchLike_24 ?_
    refine rt_goto (tgt := 29) dX1_hasBranchLike_25 (by decide) ?_
    refine z_istore (i := 5) (lv' := [(5, zv s0 0 1), (4, zv s0 0 (((zat M (p + 2) 134 i)))), (0, zv s0 2 24), (1, zv s0 0 s), (2, zv s0 0 k), (3, zv s0 0 i)]) dX1_hasBranchLike_29 (by decide) (by simp [zv_cat0, zv_cat1, zv_cat2, zv_cats]) ?_
    refine z_iconst dX1_hasBranchLike_31 ?_
    refine z_istore (i := 6) (lv' := [(6, zv s0 0 0), (5, zv s0 0 1), (4, zv s0 0 (((zat M (p + 2) 134 i)))), (0, zv s0 2 24), (1, zv s0 0 s), (2, zv s0 0 k), (3, zv s0 0 i)]) dX1_hasBranchLike_32 (by decide) (by simp [zv_cat0, zv_cat1, zv_cat2, zv_cats]) ?_
    exact rt_lfew [3, 4, 5, 6, 2, 1, 0] rfl h
  · replace h := h.2 c14
    refine z_iload dX1_hasBranchLike_17 (j := 0) rfl ?_
    refine z_bipush dX1_hasBranchLike_19 (by decide) ?_
    refine z_icmp_ne (tgt := 28) (x' := w32 (((zat M (p + 2) 134 i)))) (y' := 7) rfl (by decide) dX1_hasBranchLike_21 (by decide) (fun c21 => ?_) (fun c21 => ?_)
    · replace h := h.2 c21
      refine z_iconst dX1_hasBranchLike_28 ?_
      refine z_istore (i := 5) (lv' := [(5, zv s0 0 0), (4, zv s0 0 (((zat M (p + 2) 134 i)))), (0, zv s0 2 24), (1, zv s0 0 s), (2, zv s0 0 k), (3, zv s0 0 i)]) dX1_hasBranchLike_29 (by decide) (by simp [zv_cat0, zv_cat1, zv_cat2, zv_cats]) ?_
      refine z_iconst dX1_hasBranchLike_31 ?_
      refine z_istore (i := 6) (lv' := [(6, zv s0 0 0), (5, zv s0 0 0), (4, zv s0 0 (((zat M (p + 2) 134 i)))), (0, zv s0 2 24), (1, zv s0 0 s), (2, zv s0 0 k), (3, zv s0 0 i)]) dX1_hasBranchLike_32 (by decide) (by simp [zv_cat0, zv_cat1, zv_cat2, zv_cats]) ?_
      exact rt_lfew [3, 4, 5, 6, 2, 1, 0] rfl h
    · replace h := h.1 c21
      refine z_iconst dX1_hasBranchLike_24 ?_
      refine rt_goto (tgt := 29) dX1_hasBranchLike_25 (by decide) ?_
      refine z_istore (i := 5) (lv' := [(5, zv s0 0 1), (4, zv s0 0 (((zat M (p + 2) 134 i)))), (0, zv s0 2 24), (1, zv s0 0 s), (2, zv s0 0 k), (3, zv s0 0 i)]) dX1_hasBranchLike_29 (by decide) (by simp [zv_cat0, zv_cat1, zv_cat2, zv_cats]) ?_
      refine z_iconst dX1_hasBranchLike_31 ?_
      refine z_istore (i := 6) (lv' := [(6, zv s0 0 0), (5, zv s0 0 1), (4, zv s0 0 (((zat M (p + 2) 134 i)))), (0, zv s0 2 24), (1, zv s0 0 s), (2, zv s0 0 k), (3, zv s0 0 i)]) dX1_hasBranchLike_32 (by decide) (by simp [zv_cat0, zv_cat1, zv_cat2, zv_cats]) ?_
      exact rt_lfew [3, 4, 5, 6, 2, 1, 0] rfl h

def zt_X1_lookAtItems (l : Launch) (s0 : State) (G : va_G) (ca : Nat → ClassId) (d : Nat) (C : Nat × Nat) (S : zS) (w0 : rt_Wd) (p : Int) (v : Int) (k : Int) (i : Int) (e : Int) (M : zM) (Q : Int → zM → Prop) (X : zM → Prop) : Prop :=
  zIf (w32 i = ((-1))) (zm_X1_fail l s0 G ca (d - 1) C S 8 v M (fun r9 M9 => Q r9 M9) X) (zm_X1_look l s0 G ca (d - 1) C S i (e + 1) 0 (((zput ((zput ((zput ((zput ((zput ((zadd M (p + 1) (p + 2) 134 k)) (p + 4) 134 ((M (p + 1) 1)) ((-1)))) (p + 6) 134 ((M (p + 1) 1)) ((-1)))) (p + 8) 134 ((M (p + 1) 1)) ((-1)))) (p + 10) 134 ((M (p + 1) 1)) 0)) (p + 12) 134 ((M (p + 1) 1)) 0))) (fun r36 M36 => Q (((M (p + 1) 1))) (((zput M36 (p + 6) 134 (((M (p + 1) 1))) r36)))) X)
set_option maxRecDepth 100000 in
theorem z_X1_lookAtItems {l : Launch} {s0 : State} {a0 : Array Value} {G : va_G} {ca : Nat → ClassId} (Γ : rt_Γ l s0 a0 G ca) {d : Nat} {C : Nat × Nat} {S : zS} (hd : 2 ≤ d) (hok : zok C) {p : Int} (hs : zSok S) (hp : zSc S p) (hs24 : S 24 = some (0, 1, [(3, 25), (3, 26), (3, 28), (3, p), (3, 6), (0, 0), (0, 0), (0, 0)])) (hs6 : S 6 = some (0, 8, [(3, 7), (3, 9), (3, 11), (3, 13), (3, 15), (3, 17), (3, 19), (3, 21), (3, 22), (3, 1), (0, 0), (0, 0), (0, 0)])) {v : Int} {k : Int} {i : Int} {e : Int} {M : zM} {Q : Int → zM → Prop} {X : zM → Prop} (h : zt_X1_lookAtItems l s0 G ca d C S (zw s0 ca C S M) p v k i e M Q X) : zm_X1_lookAtItems l s0 G ca d C S  v k i e M Q X := by
  refine z_met (lv := [(0, zv s0 2 24), (1, zv s0 0 v), (2, zv s0 0 k), (3, zv s0 0 i), (4, zv s0 0 e)]) Γ kk_X1_lookAtItems rfl (show (lg_sl [zv s0 2 24, zv s0 0 v, zv s0 0 k, zv s0 0 i, zv s0 0 e]).length ≤ 6 from by simp only [zn_0, zn_2, show (lg_sl []).length = 0 from rfl]; omega) (show lv_args 0 [zv s0 2 24, zv s0 0 v, zv s0 0 k, zv s0 0 i, zv s0 0 e] = [(0, zv s0 2 24), (1, zv s0 0 v), (2, zv s0 0 k), (3, zv s0 0 i), (4, zv s0 0 e)] from by rw [zl_2, zl_0, zl_0, zl_0, zl_0]; rfl) ?_
  unfold zt_X1_lookAtItems at h
  refine z_iload_n dX1_lookAtItems_0 rfl (j := 3) rfl ?_
  refine z_iconst dX1_lookAtItems_1 ?_
  refine z_icmp_ne (tgt := 13) (x' := w32 i) (y' := ((-1))) rfl (by decide) dX1_lookAtItems_2 (by decide) (fun c2 => ?_) (fun c2 => ?_)
  · replace h := h.2 c2
    refine z_aload_n dX1_lookAtItems_13 rfl (j := 0) rfl ?_
    refine z_getc Γ kf_RX1_33 dX1_lookAtItems_14 (by decide) hs24 rfl ?_
    refine z_iload_n dX1_lookAtItems_17 rfl (j := 2) rfl ?_
    refine z_callV Γ kk_X6_addNode kc_RX1_143 (As := [zv s0 0 k]) (z_X6_addNode (d := d - 1) Γ (by omega) hok hp (M := M) (Q := fun v9 M9 => v9 = ((M (p + 1) 1)) ∧ M9 = ((zput ((zput ((zput ((zput ((zput ((zadd M (p + 1) (p + 2) 134 k)) (p + 4) 134 ((M (p + 1) 1)) ((-1)))) (p + 6) 134 ((M (p + 1) 1)) ((-1)))) (p + 8) 134 ((M (p + 1) 1)) ((-1)))) (p + 10) 134 ((M (p + 1) 1)) 0)) (p + 12) 134 ((M (p + 1) 1)) 0))) (X := X) (show _ ∧ _ from ⟨rfl, rfl⟩)) (by omega) (by decide) (show (parseMethodDescriptor yX6_addNode.desc).map (fun q => q.parameters.length) = some 1 by decide +kernel) hok (Nat.zero_le _) dX1_lookAtItems_18 hp.1 hp.2.1 rfl rfl (fun _ h9 => nomatch h9) ?_
    rintro v9 M9 ⟨e9, e8⟩
    rw [e9, e8]
    clear e9 e8 v9 M9
    show rt_Go _ _ _ _ _ _ _ _ _ _ _ _ 21 [(0, zv s0 2 24), (1, zv s0 0 v), (2, zv s0 0 k), (3, zv s0 0 i), (4, zv s0 0 e)] [zv s0 0 (((M (p + 1) 1)))] (zw s0 ca C S (((zput ((zput ((zput ((zput ((zput ((zadd M (p + 1) (p + 2) 134 k)) (p + 4) 134 ((M (p + 1) 1)) ((-1)))) (p + 6) 134 ((M (p + 1) 1)) ((-1)))) (p + 8) 134 ((M (p + 1) 1)) ((-1)))) (p + 10) 134 ((M (p + 1) 1)) 0)) (p + 12) 134 ((M (p + 1) 1)) 0))))
    refine z_istore (i := 5) (lv' := [(5, zv s0 0 (((M (p + 1) 1)))), (0, zv s0 2 24), (1, zv s0 0 v), (2, zv s0 0 k), (3, zv s0 0 i), (4, zv s0 0 e)]) dX1_lookAtItems_21 (by decide) (by simp [zv_cat0, zv_cat1, zv_cat2, zv_cats]) ?_
    refine z_aload_n dX1_lookAtItems_23 rfl (j := 1) rfl ?_
    refine z_getc Γ kf_RX1_33 dX1_lookAtItems_24 (by decide) hs24 rfl ?_
    refine z_iload dX1_lookAtItems_27 (j := 0) rfl ?_
    refine z_aload_n dX1_lookAtItems_29 rfl (j := 1) rfl ?_
    refine z_iload_n dX1_lookAtItems_30 rfl (j := 4) rfl ?_
    refine z_iload dX1_lookAtItems_31 (j := 5) rfl ?_
    refine z_iconst dX1_lookAtItems_33 ?_
    refine z_iadd dX1_lookAtItems_34 ?_
    refine z_iconst dX1_lookAtItems_35 ?_
    refine z_callV Γ kk_X1_look kc_RX1_57 (As := [zv s0 0 i, zv s0 0 (e + 1), zv s0 0 0]) h (by omega) (by decide) (show (parseMethodDescriptor yX1_look.desc).map (fun q => q.parameters.length) = some 3 by decide +kernel) hok (by simp only [List.map, zv_cat0, zv_cat1, zv_cat2, List.sum_cons, List.sum_nil]; decide) dX1_lookAtItems_36 (by decide) hs24 rfl rfl (fun _ h9 => nomatch h9) ?_
    clear h
    intro r36 M36 h
    show rt_Go _ _ _ _ _ _ _ _ _ _ _ _ 39 [(5, zv s0 0 (((M (p + 1) 1)))), (0, zv s0 2 24), (1, zv s0 0 v), (2, zv s0 0 k), (3, zv s0 0 i), (4, zv s0 0 e)] [zv s0 0 r36, zv s0 0 (((M (p + 1) 1))), zv s0 2 p] (zw s0 ca C S M36)
    refine z_callV Γ kk_X6_setDetail kc_RX1_200 (As := [zv s0 0 (((M (p + 1) 1))), zv s0 0 r36]) (z_X6_setDetail (d := d - 1) Γ (by omega) hok hp (M := M36) (Q := fun v9 M9 => v9 = 0 ∧ M9 = ((zput M36 (p + 6) 134 (((M (p + 1) 1))) r36))) (X := X) (show _ ∧ _ from ⟨rfl, rfl⟩)) (by omega) (by decide) (show (parseMethodDescriptor yX6_setDetail.desc).map (fun q => q.parameters.length) = some 2 by decide +kernel) hok (Nat.zero_le _) dX1_lookAtItems_39 hp.1 hp.2.1 rfl rfl (fun _ h9 => nomatch h9) ?_
    rintro v9 M9 ⟨e9, e8⟩
    rw [e9, e8]
    clear e9 e8 v9 M9
    show rt_Go _ _ _ _ _ _ _ _ _ _ _ _ 42 [(5, zv s0 0 (((M (p + 1) 1)))), (0, zv s0 2 24), (1, zv s0 0 v), (2, zv s0 0 k), (3, zv s0 0 i), (4, zv s0 0 e)] [] (zw s0 ca C S (((zput M36 (p + 6) 134 (((M (p + 1) 1))) r36))))
    refine z_iload dX1_lookAtItems_42 (j := 0) rfl ?_
    exact z_iret dX1_lookAtItems_44 rfl h
  · replace h := h.1 c2
    refine z_aload_n dX1_lookAtItems_5 rfl (j := 0) rfl ?_
    refine z_bipush dX1_lookAtItems_6 (by decide) ?_
    refine z_iload_n dX1_lookAtItems_8 rfl (j := 1) rfl ?_
    refine z_callV Γ kk_X1_fail kc_RX1_81 (As := [zv s0 0 8, zv s0 0 v]) h (by omega) (by decide) (show (parseMethodDescriptor yX1_fail.desc).map (fun q => q.parameters.length) = some 2 by decide +kernel) hok (Nat.zero_le _) dX1_lookAtItems_9 (by decide) hs24 rfl rfl (fun _ h9 => nomatch h9) ?_
    clear h
    intro r9 M9 h
    show rt_Go _ _ _ _ _ _ _ _ _ _ _ _ 12 [(0, zv s0 2 24), (1, zv s0 0 v), (2, zv s0 0 k), (3, zv s0 0 i), (4, zv s0 0 e)] [zv s0 0 r9] (zw s0 ca C S M9)
    exact z_iret dX1_lookAtItems_12 rfl h

abbrev zg_X1_lookAtUnion_61 (l : Launch) (s0 : State) (G : va_G) (ca : Nat → ClassId) (d : Nat) (C : Nat × Nat) (S : zS) (w0 : rt_Wd) (p : Int) (v2 : Int) (v3 : Int) (v4 : Int) (v5 : Int) (v6 : Int)  (M : zM) (Q : Int → zM → Prop) (X : zM → Prop) : Prop := rt_Go l s0 G RX1 "lookAtUnion" cX1_lookAtUnion 8 (Option.some FieldType.int) [] d w0 (zQ s0 ca 0 C S Q X) 61 [(0, zv s0 2 24), (2, zv s0 0 v2), (3, zv s0 0 v3), (4, zv s0 0 v4), (5, zv s0 0 v5), (6, zv s0 0 v6)] [] (zw s0 ca C S M)
abbrev zg_X1_lookAtUnion_108 (l : Launch) (s0 : State) (G : va_G) (ca : Nat → ClassId) (d : Nat) (C : Nat × Nat) (S : zS) (w0 : rt_Wd) (p : Int) (v2 : Int) (v3 : Int) (v4 : Int) (v5 : Int) (v6 : Int) (v7 : Int)  (M : zM) (Q : Int → zM → Prop) (X : zM → Prop) : Prop := rt_Go l s0 G RX1 "lookAtUnion" cX1_lookAtUnion 8 (Option.some FieldType.int) [] d w0 (zQ s0 ca 0 C S Q X) 108 [(0, zv s0 2 24), (2, zv s0 0 v2), (3, zv s0 0 v3), (4, zv s0 0 v4), (5, zv s0 0 v5), (6, zv s0 0 v6), (7, zv s0 0 v7)] [] (zw s0 ca C S M)
def zt_X1_lookAtUnion_108 (l : Launch) (s0 : State) (G : va_G) (ca : Nat → ClassId) (d : Nat) (C : Nat × Nat) (S : zS) (w0 : rt_Wd) (p : Int) (v2 : Int) (v3 : Int) (v4 : Int) (v5 : Int) (v6 : Int) (v7 : Int)  (M : zM) (Q : Int → zM → Prop) (X : zM → Prop) : Prop :=
  zIf (w32 (M 24 6) = 0) (zg_X1_lookAtUnion_61 l s0 G ca d C S w0 p v2 v3 v4 (((zat (((zput M (p + 14) 2048 ((((zat M (p + 10) 134 v4)) + v6)) v7))) 12 2073 v5))) (v6 + 1) (((zput M (p + 14) 2048 ((((zat M (p + 10) 134 v4)) + v6)) v7))) Q X) (Q v4 M)
set_option maxRecDepth 100000 in
theorem zs_X1_lookAtUnion_108 {l : Launch} {s0 : State} {a0 : Array Value} {G : va_G} {ca : Nat → ClassId} (Γ : rt_Γ l s0 a0 G ca) {d : Nat} {C : Nat × Nat} {S : zS} (hd : 2 ≤ d) (hok : zok C) {p : Int} (hs : zSok S) (hp : zSc S p) (hs24 : S 24 = some (0, 1, [(3, 25), (3, 26), (3, 28), (3, p), (3, 6), (0, 0), (0, 0), (0, 0)])) (hs6 : S 6 = some (0, 8, [(3, 7), (3, 9), (3, 11), (3, 13), (3, 15), (3, 17), (3, 19), (3, 21), (3, 22), (3, 1), (0, 0), (0, 0), (0, 0)])) {w0 : rt_Wd} {v2 : Int} {v3 : Int} {v4 : Int} {v5 : Int} {v6 : Int} {v7 : Int}   {M : zM} {Q : Int → zM → Prop} {X : zM → Prop} (h : zt_X1_lookAtUnion_108 l s0 G ca d C S w0 p v2 v3 v4 v5 v6 v7 M Q X) : zg_X1_lookAtUnion_108 l s0 G ca d C S w0 p v2 v3 v4 v5 v6 v7 M Q X := by
  unfold zt_X1_lookAtUnion_108 at h
  refine z_aload_n dX1_lookAtUnion_108 rfl (j := 0) rfl ?_
  refine z_get Γ kf_RX1_51 dX1_lookAtUnion_109 (by decide) hs24 rfl (by decide) (v9 := M 24 6) rfl ?_
  refine z_if_eq (tgt := 118) (x' := w32 (M 24 6)) rfl dX1_lookAtUnion_112 (by decide) (fun c112 => ?_) (fun c112 => ?_)
  · replace h := h.1 c112
    refine z_aload_n dX1_lookAtUnion_118 rfl (j := 0) rfl ?_
    refine z_getc Γ kf_RX1_33 dX1_lookAtUnion_119 (by decide) hs24 rfl ?_
    refine z_aload_n dX1_lookAtUnion_122 rfl (j := 0) rfl ?_
    refine z_getc Γ kf_RX1_33 dX1_lookAtUnion_123 (by decide) hs24 rfl ?_
    refine z_iload dX1_lookAtUnion_126 (j := 3) rfl ?_
    refine z_iload dX1_lookAtUnion_128 (j := 5) rfl ?_
    refine z_callV Γ kk_X6_part kc_RX1_157 (As := [zv s0 0 v4, zv s0 0 v6]) (z_X6_part (d := d - 1) Γ (by omega) hok hp (M := M) (Q := fun v9 M9 => v9 = (((zat M (p + 10) 134 v4)) + v6) ∧ M9 = M) (X := X) (show _ ∧ _ from ⟨rfl, rfl⟩)) (by omega) (by decide) (show (parseMethodDescriptor yX6_part.desc).map (fun q => q.parameters.length) = some 2 by decide +kernel) hok (by simp only [List.map, zv_cat0, zv_cat1, zv_cat2, List.sum_cons, List.sum_nil]; decide) dX1_lookAtUnion_130 hp.1 hp.2.1 rfl rfl (fun _ h9 => nomatch h9) ?_
    rintro v9 M9 ⟨e9, e8⟩
    rw [e9, e8]
    clear e9 e8 v9 M9
    show rt_Go _ _ _ _ _ _ _ _ _ _ _ _ 133 [(0, zv s0 2 24), (2, zv s0 0 v2), (3, zv s0 0 v3), (4, zv s0 0 v4), (5, zv s0 0 v5), (6, zv s0 0 v6), (7, zv s0 0 v7)] [zv s0 0 ((((zat M (p + 10) 134 v4)) + v6)), zv s0 2 p] (zw s0 ca C S M)
    refine z_iload dX1_lookAtUnion_133 (j := 6) rfl ?_
    refine z_callV Γ kk_X6_setPartNode kc_RX1_160 (As := [zv s0 0 ((((zat M (p + 10) 134 v4)) + v6)), zv s0 0 v7]) (z_X6_setPartNode (d := d - 1) Γ (by omega) hok hp (M := M) (Q := fun v9 M9 => v9 = 0 ∧ M9 = ((zput M (p + 14) 2048 ((((zat M (p + 10) 134 v4)) + v6)) v7))) (X := X) (show _ ∧ _ from ⟨rfl, rfl⟩)) (by omega) (by decide) (show (parseMethodDescriptor yX6_setPartNode.desc).map (fun q => q.parameters.length) = some 2 by decide +kernel) hok (Nat.zero_le _) dX1_lookAtUnion_135 hp.1 hp.2.1 rfl rfl (fun _ h9 => nomatch h9) ?_
    rintro v9 M9 ⟨e9, e8⟩
    rw [e9, e8]
    clear e9 e8 v9 M9
    show rt_Go _ _ _ _ _ _ _ _ _ _ _ _ 138 [(0, zv s0 2 24), (2, zv s0 0 v2), (3, zv s0 0 v3), (4, zv s0 0 v4), (5, zv s0 0 v5), (6, zv s0 0 v6), (7, zv s0 0 v7)] [] (zw s0 ca C S (((zput M (p + 14) 2048 ((((zat M (p + 10) 134 v4)) + v6)) v7))))
    refine z_aload_n dX1_lookAtUnion_138 rfl (j := 0) rfl ?_
    refine z_getc Γ kf_RX1_37 dX1_lookAtUnion_139 (by decide) hs24 rfl ?_
    refine z_iload dX1_lookAtUnion_142 (j := 4) rfl ?_
    refine z_callV Γ kk_X8_next kc_RX1_163 (As := [zv s0 0 v5]) (z_X8_next (d := d - 1) Γ (by omega) hok hs hs6 (M := (((zput M (p + 14) 2048 ((((zat M (p + 10) 134 v4)) + v6)) v7)))) (Q := fun v9 M9 => v9 = ((zat (((zput M (p + 14) 2048 ((((zat M (p + 10) 134 v4)) + v6)) v7))) 12 2073 v5)) ∧ M9 = (((zput M (p + 14) 2048 ((((zat M (p + 10) 134 v4)) + v6)) v7)))) (X := X) (show _ ∧ _ from ⟨rfl, rfl⟩)) (by omega) (by decide) (show (parseMethodDescriptor yX8_next.desc).map (fun q => q.parameters.length) = some 1 by decide +kernel) hok (Nat.zero_le _) dX1_lookAtUnion_144 (by decide) hs6 rfl rfl (fun _ h9 => nomatch h9) ?_
    rintro v9 M9 ⟨e9, e8⟩
    rw [e9, e8]
    clear e9 e8 v9 M9
    show rt_Go _ _ _ _ _ _ _ _ _ _ _ _ 147 [(0, zv s0 2 24), (2, zv s0 0 v2), (3, zv s0 0 v3), (4, zv s0 0 v4), (5, zv s0 0 v5), (6, zv s0 0 v6), (7, zv s0 0 v7)] [zv s0 0 (((zat (((zput M (p + 14) 2048 ((((zat M (p + 10) 134 v4)) + v6)) v7))) 12 2073 v5)))] (zw s0 ca C S (((zput M (p + 14) 2048 ((((zat M (p + 10) 134 v4)) + v6)) v7))))
    refine z_istore (i := 5) (lv' := [(5, zv s0 0 (((zat (((zput M (p + 14) 2048 ((((zat M (p + 10) 134 v4)) + v6)) v7))) 12 2073 v5)))), (0, zv s0 2 24), (2, zv s0 0 v2), (3, zv s0 0 v3), (4, zv s0 0 v4), (6, zv s0 0 v6), (7, zv s0 0 v7)]) dX1_lookAtUnion_147 (by decide) (by simp [zv_cat0, zv_cat1, zv_cat2, zv_cats]) ?_
    refine z_iinc (lv' := [(6, zv s0 0 (v6 + 1)), (5, zv s0 0 (((zat (((zput M (p + 14) 2048 ((((zat M (p + 10) 134 v4)) + v6)) v7))) 12 2073 v5)))), (0, zv s0 2 24), (2, zv s0 0 v2), (3, zv s0 0 v3), (4, zv s0 0 v4), (7, zv s0 0 v7)]) dX1_lookAtUnion_149 (j := 5) rfl (by decide) (by simp [zv_cat0, zv_cat1, zv_cat2, zv_cats]) ?_
    refine rt_goto (tgt := 61) dX1_lookAtUnion_152 (by decide) ?_
    exact rt_lfew [2, 3, 4, 5, 1, 0] rfl h
  · replace h := h.2 c112
    refine z_iload dX1_lookAtUnion_115 (j := 3) rfl ?_
    exact z_iret dX1_lookAtUnion_117 rfl h

def zt_X1_lookAtUnion_61 (l : Launch) (s0 : State) (G : va_G) (ca : Nat → ClassId) (d : Nat) (C : Nat × Nat) (S : zS) (w0 : rt_Wd) (p : Int) (v2 : Int) (v3 : Int) (v4 : Int) (v5 : Int) (v6 : Int)  (M : zM) (Q : Int → zM → Prop) (X : zM → Prop) : Prop :=
  zIf (w32 v3 ≤ w32 v6) (Q v4 M) (zm_X1_look l s0 G ca (d - 1) C S v5 (v2 + 1) 1 M (fun r74 M74 => zIf (w32 (M74 24 6) = 0) (zm_X1_hasBranchLike l s0 G ca (d - 1) C S v4 v6 r74 M74 (fun r93 M93 => zIf (w32 r93 = 0) (zt_X1_lookAtUnion_108 l s0 G ca d C S w0 p v2 v3 v4 v5 v6 r74 M93 Q X) (zm_X1_fail l s0 G ca (d - 1) C S 6 v5 M93 (fun r104 M104 => zt_X1_lookAtUnion_108 l s0 G ca d C S w0 p v2 v3 v4 v5 v6 r74 M104 Q X) X)) X) (zt_X1_lookAtUnion_108 l s0 G ca d C S w0 p v2 v3 v4 v5 v6 r74 M74 Q X)) X)
set_option maxRecDepth 100000 in
theorem zs_X1_lookAtUnion_61 {l : Launch} {s0 : State} {a0 : Array Value} {G : va_G} {ca : Nat → ClassId} (Γ : rt_Γ l s0 a0 G ca) {d : Nat} {C : Nat × Nat} {S : zS} (hd : 2 ≤ d) (hok : zok C) {p : Int} (hs : zSok S) (hp : zSc S p) (hs24 : S 24 = some (0, 1, [(3, 25), (3, 26), (3, 28), (3, p), (3, 6), (0, 0), (0, 0), (0, 0)])) (hs6 : S 6 = some (0, 8, [(3, 7), (3, 9), (3, 11), (3, 13), (3, 15), (3, 17), (3, 19), (3, 21), (3, 22), (3, 1), (0, 0), (0, 0), (0, 0)])) {w0 : rt_Wd} {v2 : Int} {v3 : Int} {v4 : Int} {v5 : Int} {v6 : Int}   {M : zM} {Q : Int → zM → Prop} {X : zM → Prop} (h : zt_X1_lookAtUnion_61 l s0 G ca d C S w0 p v2 v3 v4 v5 v6 M Q X) : zg_X1_lookAtUnion_61 l s0 G ca d C S w0 p v2 v3 v4 v5 v6 M Q X := by
  unfold zt_X1_lookAtUnion_61 at h
  refine z_iload dX1_lookAtUnion_61 (j := 5) rfl ?_
  refine z_iload_n dX1_lookAtUnion_63 rfl (j := 2) rfl ?_
  refine z_icmp_ge (tgt := 155) (x' := w32 v6) (y' := w32 v3) rfl rfl dX1_lookAtUnion_64 (by decide) (fun c64 => ?_) (fun c64 => ?_)
  · replace h := h.1 c64
    refine z_iload dX1_lookAtUnion_155 (j := 3) rfl ?_
    exact z_iret dX1_lookAtUnion_157 rfl h
  · replace h := h.2 c64
    refine z_aload_n dX1_lookAtUnion_67 rfl (j := 0) rfl ?_
    refine z_iload dX1_lookAtUnion_68 (j := 4) rfl ?_
    refine z_iload_n dX1_lookAtUnion_70 rfl (j := 1) rfl ?_
    refine z_iconst dX1_lookAtUnion_71 ?_
    refine z_iadd dX1_lookAtUnion_72 ?_
    refine z_iconst dX1_lookAtUnion_73 ?_
    refine z_callV Γ kk_X1_look kc_RX1_57 (As := [zv s0 0 v5, zv s0 0 (v2 + 1), zv s0 0 1]) h (by omega) (by decide) (show (parseMethodDescriptor yX1_look.desc).map (fun q => q.parameters.length) = some 3 by decide +kernel) hok (Nat.zero_le _) dX1_lookAtUnion_74 (by decide) hs24 rfl rfl (fun _ h9 => nomatch h9) ?_
    clear h
    intro r74 M74 h
    show rt_Go _ _ _ _ _ _ _ _ _ _ _ _ 77 [(0, zv s0 2 24), (2, zv s0 0 v2), (3, zv s0 0 v3), (4, zv s0 0 v4), (5, zv s0 0 v5), (6, zv s0 0 v6)] [zv s0 0 r74] (zw s0 ca C S M74)
    refine z_istore (i := 7) (lv' := [(7, zv s0 0 r74), (0, zv s0 2 24), (2, zv s0 0 v2), (3, zv s0 0 v3), (4, zv s0 0 v4), (5, zv s0 0 v5), (6, zv s0 0 v6)]) dX1_lookAtUnion_77 (by decide) (by simp [zv_cat0, zv_cat1, zv_cat2, zv_cats]) ?_
    refine z_aload_n dX1_lookAtUnion_79 rfl (j := 1) rfl ?_
    refine z_get Γ kf_RX1_51 dX1_lookAtUnion_80 (by decide) hs24 rfl (by decide) (v9 := M74 24 6) rfl ?_
    refine z_if_ne (tgt := 108) (x' := w32 (M74 24 6)) rfl dX1_lookAtUnion_83 (by decide) (fun c83 => ?_) (fun c83 => ?_)
    · replace h := h.2 c83
      exact rt_lfew [1, 2, 3, 4, 5, 6, 0] rfl (zs_X1_lookAtUnion_108 Γ hd hok hs hp hs24 hs6  h)
    · replace h := h.1 c83
      refine z_aload_n dX1_lookAtUnion_86 rfl (j := 1) rfl ?_
      refine z_iload dX1_lookAtUnion_87 (j := 4) rfl ?_
      refine z_iload dX1_lookAtUnion_89 (j := 6) rfl ?_
      refine z_iload dX1_lookAtUnion_91 (j := 0) rfl ?_
      refine z_callV Γ kk_X1_hasBranchLike kc_RX1_153 (As := [zv s0 0 v4, zv s0 0 v6, zv s0 0 r74]) h (by omega) (by decide) (show (parseMethodDescriptor yX1_hasBranchLike.desc).map (fun q => q.parameters.length) = some 3 by decide +kernel) hok (Nat.zero_le _) dX1_lookAtUnion_93 (by decide) hs24 rfl rfl (fun _ h9 => nomatch h9) ?_
      clear h
      intro r93 M93 h
      show rt_Go _ _ _ _ _ _ _ _ _ _ _ _ 96 [(7, zv s0 0 r74), (0, zv s0 2 24), (2, zv s0 0 v2), (3, zv s0 0 v3), (4, zv s0 0 v4), (5, zv s0 0 v5), (6, zv s0 0 v6)] [zv s0 0 r93] (zw s0 ca C S M93)
      refine z_if_eq (tgt := 108) (x' := w32 r93) rfl dX1_lookAtUnion_96 (by decide) (fun c96 => ?_) (fun c96 => ?_)
      · replace h := h.1 c96
        exact rt_lfew [1, 2, 3, 4, 5, 6, 0] rfl (zs_X1_lookAtUnion_108 Γ hd hok hs hp hs24 hs6  h)
      · replace h := h.2 c96
        refine z_aload_n dX1_lookAtUnion_99 rfl (j := 1) rfl ?_
        refine z_bipush dX1_lookAtUnion_100 (by decide) ?_
        refine z_iload dX1_lookAtUnion_102 (j := 5) rfl ?_
        refine z_callV Γ kk_X1_fail kc_RX1_81 (As := [zv s0 0 6, zv s0 0 v5]) h (by omega) (by decide) (show (parseMethodDescriptor yX1_fail.desc).map (fun q => q.parameters.length) = some 2 by decide +kernel) hok (Nat.zero_le _) dX1_lookAtUnion_104 (by decide) hs24 rfl rfl (fun _ h9 => nomatch h9) ?_
        clear h
        intro r104 M104 h
        show rt_Go _ _ _ _ _ _ _ _ _ _ _ _ 107 [(7, zv s0 0 r74), (0, zv s0 2 24), (2, zv s0 0 v2), (3, zv s0 0 v3), (4, zv s0 0 v4), (5, zv s0 0 v5), (6, zv s0 0 v6)] [zv s0 0 r104] (zw s0 ca C S M104)
        refine z_pop0 dX1_lookAtUnion_107 ?_
        exact rt_lfew [1, 2, 3, 4, 5, 6, 0] rfl (zs_X1_lookAtUnion_108 Γ hd hok hs hp hs24 hs6  h)

def zt_X1_lookAtUnion (l : Launch) (s0 : State) (G : va_G) (ca : Nat → ClassId) (d : Nat) (C : Nat × Nat) (S : zS) (w0 : rt_Wd) (p : Int) (v : Int) (e : Int) (M : zM) (Q : Int → zM → Prop) (X : zM → Prop) : Prop :=
  zIf (w32 (((zat M 16 2073 v))) < 1) (zm_X1_fail l s0 G ca (d - 1) C S 5 v M (fun r23 M23 => Q r23 M23) X) (zIf (w32 (((zat M 16 2073 v))) ≤ 16) (zm_X6_addParts l s0 G ca (d - 1) C S p (((M (p + 1) 1))) (((zat M 16 2073 v))) (((zput ((zput ((zput ((zput ((zput ((zadd M (p + 1) (p + 2) 134 8)) (p + 4) 134 ((M (p + 1) 1)) ((-1)))) (p + 6) 134 ((M (p + 1) 1)) ((-1)))) (p + 8) 134 ((M (p + 1) 1)) ((-1)))) (p + 10) 134 ((M (p + 1) 1)) 0)) (p + 12) 134 ((M (p + 1) 1)) 0))) (fun r45 M45 => zg_X1_lookAtUnion_61 l s0 G ca d C S w0 p e (((zat M 16 2073 v))) (((M (p + 1) 1))) (((zat M45 14 2073 v))) 0 M45 Q X) X) (zm_X1_fail l s0 G ca (d - 1) C S 5 v M (fun r23 M23 => Q r23 M23) X))
set_option maxRecDepth 100000 in
theorem z_X1_lookAtUnion {l : Launch} {s0 : State} {a0 : Array Value} {G : va_G} {ca : Nat → ClassId} (Γ : rt_Γ l s0 a0 G ca) {d : Nat} {C : Nat × Nat} {S : zS} (hd : 2 ≤ d) (hok : zok C) {p : Int} (hs : zSok S) (hp : zSc S p) (hs24 : S 24 = some (0, 1, [(3, 25), (3, 26), (3, 28), (3, p), (3, 6), (0, 0), (0, 0), (0, 0)])) (hs6 : S 6 = some (0, 8, [(3, 7), (3, 9), (3, 11), (3, 13), (3, 15), (3, 17), (3, 19), (3, 21), (3, 22), (3, 1), (0, 0), (0, 0), (0, 0)])) {v : Int} {e : Int} {M : zM} {Q : Int → zM → Prop} {X : zM → Prop} (h : zt_X1_lookAtUnion l s0 G ca d C S (zw s0 ca C S M) p v e M Q X) : zm_X1_lookAtUnion l s0 G ca d C S  v e M Q X := by
  refine z_met (lv := [(0, zv s0 2 24), (1, zv s0 0 v), (2, zv s0 0 e)]) Γ kk_X1_lookAtUnion rfl (show (lg_sl [zv s0 2 24, zv s0 0 v, zv s0 0 e]).length ≤ 8 from by simp only [zn_0, zn_2, show (lg_sl []).length = 0 from rfl]; omega) (show lv_args 0 [zv s0 2 24, zv s0 0 v, zv s0 0 e] = [(0, zv s0 2 24), (1, zv s0 0 v), (2, zv s0 0 e)] from by rw [zl_2, zl_0, zl_0]; rfl) ?_
  unfold zt_X1_lookAtUnion at h
  refine z_aload_n dX1_lookAtUnion_0 rfl (j := 0) rfl ?_
  refine z_getc Γ kf_RX1_37 dX1_lookAtUnion_1 (by decide) hs24 rfl ?_
  refine z_iload_n dX1_lookAtUnion_4 rfl (j := 1) rfl ?_
  refine z_callV Γ kk_X8_parts kc_RX1_140 (As := [zv s0 0 v]) (z_X8_parts (d := d - 1) Γ (by omega) hok hs hs6 (M := M) (Q := fun v9 M9 => v9 = ((zat M 16 2073 v)) ∧ M9 = M) (X := X) (show _ ∧ _ from ⟨rfl, rfl⟩)) (by omega) (by decide) (show (parseMethodDescriptor yX8_parts.desc).map (fun q => q.parameters.length) = some 1 by decide +kernel) hok (Nat.zero_le _) dX1_lookAtUnion_5 (by decide) hs6 rfl rfl (fun _ h9 => nomatch h9) ?_
  rintro v9 M9 ⟨e9, e8⟩
  rw [e9, e8]
  clear e9 e8 v9 M9
  show rt_Go _ _ _ _ _ _ _ _ _ _ _ _ 8 [(0, zv s0 2 24), (1, zv s0 0 v), (2, zv s0 0 e)] [zv s0 0 (((zat M 16 2073 v)))] (zw s0 ca C S M)
  refine z_istore_n (i := 3) (lv' := [(3, zv s0 0 (((zat M 16 2073 v)))), (0, zv s0 2 24), (1, zv s0 0 v), (2, zv s0 0 e)]) dX1_lookAtUnion_8 rfl (by decide) (by simp [zv_cat0, zv_cat1, zv_cat2, zv_cats]) ?_
  refine z_iload_n dX1_lookAtUnion_9 rfl (j := 0) rfl ?_
  refine z_iconst dX1_lookAtUnion_10 ?_
  refine z_icmp_lt (tgt := 20) (x' := w32 (((zat M 16 2073 v)))) (y' := 1) rfl (by decide) dX1_lookAtUnion_11 (by decide) (fun c11 => ?_) (fun c11 => ?_)
  · replace h := h.1 c11
    refine z_aload_n dX1_lookAtUnion_20 rfl (j := 1) rfl ?_
    refine z_iconst dX1_lookAtUnion_21 ?_
    refine z_iload_n dX1_lookAtUnion_22 rfl (j := 2) rfl ?_
    refine z_callV Γ kk_X1_fail kc_RX1_81 (As := [zv s0 0 5, zv s0 0 v]) h (by omega) (by decide) (show (parseMethodDescriptor yX1_fail.desc).map (fun q => q.parameters.length) = some 2 by decide +kernel) hok (Nat.zero_le _) dX1_lookAtUnion_23 (by decide) hs24 rfl rfl (fun _ h9 => nomatch h9) ?_
    clear h
    intro r23 M23 h
    show rt_Go _ _ _ _ _ _ _ _ _ _ _ _ 26 [(3, zv s0 0 (((zat M 16 2073 v)))), (0, zv s0 2 24), (1, zv s0 0 v), (2, zv s0 0 e)] [zv s0 0 r23] (zw s0 ca C S M23)
    exact z_iret dX1_lookAtUnion_26 rfl h
  · replace h := h.2 c11
    refine z_iload_n dX1_lookAtUnion_14 rfl (j := 0) rfl ?_
    refine z_bipush dX1_lookAtUnion_15 (by decide) ?_
    refine z_icmp_le (tgt := 27) (x' := w32 (((zat M 16 2073 v)))) (y' := 16) rfl (by decide) dX1_lookAtUnion_17 (by decide) (fun c17 => ?_) (fun c17 => ?_)
    · replace h := h.1 c17
      refine z_aload_n dX1_lookAtUnion_27 rfl (j := 1) rfl ?_
      refine z_getc Γ kf_RX1_33 dX1_lookAtUnion_28 (by decide) hs24 rfl ?_
      refine z_bipush dX1_lookAtUnion_31 (by decide) ?_
      refine z_callV Γ kk_X6_addNode kc_RX1_143 (As := [zv s0 0 8]) (z_X6_addNode (d := d - 1) Γ (by omega) hok hp (M := M) (Q := fun v9 M9 => v9 = ((M (p + 1) 1)) ∧ M9 = ((zput ((zput ((zput ((zput ((zput ((zadd M (p + 1) (p + 2) 134 8)) (p + 4) 134 ((M (p + 1) 1)) ((-1)))) (p + 6) 134 ((M (p + 1) 1)) ((-1)))) (p + 8) 134 ((M (p + 1) 1)) ((-1)))) (p + 10) 134 ((M (p + 1) 1)) 0)) (p + 12) 134 ((M (p + 1) 1)) 0))) (X := X) (show _ ∧ _ from ⟨rfl, rfl⟩)) (by omega) (by decide) (show (parseMethodDescriptor yX6_addNode.desc).map (fun q => q.parameters.length) = some 1 by decide +kernel) hok (Nat.zero_le _) dX1_lookAtUnion_33 hp.1 hp.2.1 rfl rfl (fun _ h9 => nomatch h9) ?_
      rintro v9 M9 ⟨e9, e8⟩
      rw [e9, e8]
      clear e9 e8 v9 M9
      show rt_Go _ _ _ _ _ _ _ _ _ _ _ _ 36 [(3, zv s0 0 (((zat M 16 2073 v)))), (0, zv s0 2 24), (1, zv s0 0 v), (2, zv s0 0 e)] [zv s0 0 (((M (p + 1) 1)))] (zw s0 ca C S (((zput ((zput ((zput ((zput ((zput ((zadd M (p + 1) (p + 2) 134 8)) (p + 4) 134 ((M (p + 1) 1)) ((-1)))) (p + 6) 134 ((M (p + 1) 1)) ((-1)))) (p + 8) 134 ((M (p + 1) 1)) ((-1)))) (p + 10) 134 ((M (p + 1) 1)) 0)) (p + 12) 134 ((M (p + 1) 1)) 0))))
      refine z_istore (i := 4) (lv' := [(4, zv s0 0 (((M (p + 1) 1)))), (3, zv s0 0 (((zat M 16 2073 v)))), (0, zv s0 2 24), (1, zv s0 0 v), (2, zv s0 0 e)]) dX1_lookAtUnion_36 (by decide) (by simp [zv_cat0, zv_cat1, zv_cat2, zv_cats]) ?_
      refine z_aload_n dX1_lookAtUnion_38 rfl (j := 2) rfl ?_
      refine z_getc Γ kf_RX1_33 dX1_lookAtUnion_39 (by decide) hs24 rfl ?_
      refine z_iload dX1_lookAtUnion_42 (j := 0) rfl ?_
      refine z_iload_n dX1_lookAtUnion_44 rfl (j := 1) rfl ?_
      refine z_callV Γ kk_X6_addParts kc_RX1_146 (As := [zv s0 0 (((M (p + 1) 1))), zv s0 0 (((zat M 16 2073 v)))]) h (by omega) (by decide) (show (parseMethodDescriptor yX6_addParts.desc).map (fun q => q.parameters.length) = some 2 by decide +kernel) hok (Nat.zero_le _) dX1_lookAtUnion_45 hp.1 hp.2.1 rfl rfl (fun _ h9 => nomatch h9) ?_
      clear h
      intro r45 M45 h
      show rt_Go _ _ _ _ _ _ _ _ _ _ _ _ 48 [(4, zv s0 0 (((M (p + 1) 1)))), (3, zv s0 0 (((zat M 16 2073 v)))), (0, zv s0 2 24), (1, zv s0 0 v), (2, zv s0 0 e)] [] (zw s0 ca C S M45)
      refine z_aload_n dX1_lookAtUnion_48 rfl (j := 2) rfl ?_
      refine z_getc Γ kf_RX1_37 dX1_lookAtUnion_49 (by decide) hs24 rfl ?_
      refine z_iload_n dX1_lookAtUnion_52 rfl (j := 3) rfl ?_
      refine z_callV Γ kk_X8_first kc_RX1_150 (As := [zv s0 0 v]) (z_X8_first (d := d - 1) Γ (by omega) hok hs hs6 (M := M45) (Q := fun v9 M9 => v9 = ((zat M45 14 2073 v)) ∧ M9 = M45) (X := X) (show _ ∧ _ from ⟨rfl, rfl⟩)) (by omega) (by decide) (show (parseMethodDescriptor yX8_first.desc).map (fun q => q.parameters.length) = some 1 by decide +kernel) hok (Nat.zero_le _) dX1_lookAtUnion_53 (by decide) hs6 rfl rfl (fun _ h9 => nomatch h9) ?_
      rintro v9 M9 ⟨e9, e8⟩
      rw [e9, e8]
      clear e9 e8 v9 M9
      show rt_Go _ _ _ _ _ _ _ _ _ _ _ _ 56 [(4, zv s0 0 (((M (p + 1) 1)))), (3, zv s0 0 (((zat M 16 2073 v)))), (0, zv s0 2 24), (1, zv s0 0 v), (2, zv s0 0 e)] [zv s0 0 (((zat M45 14 2073 v)))] (zw s0 ca C S M45)
      refine z_istore (i := 5) (lv' := [(5, zv s0 0 (((zat M45 14 2073 v)))), (4, zv s0 0 (((M (p + 1) 1)))), (3, zv s0 0 (((zat M 16 2073 v)))), (0, zv s0 2 24), (1, zv s0 0 v), (2, zv s0 0 e)]) dX1_lookAtUnion_56 (by decide) (by simp [zv_cat0, zv_cat1, zv_cat2, zv_cats]) ?_
      refine z_iconst dX1_lookAtUnion_58 ?_
      refine z_istore (i := 6) (lv' := [(6, zv s0 0 0), (5, zv s0 0 (((zat M45 14 2073 v)))), (4, zv s0 0 (((M (p + 1) 1)))), (3, zv s0 0 (((zat M 16 2073 v)))), (0, zv s0 2 24), (1, zv s0 0 v), (2, zv s0 0 e)]) dX1_lookAtUnion_59 (by decide) (by simp [zv_cat0, zv_cat1, zv_cat2, zv_cats]) ?_
      exact rt_lfew [4, 6, 3, 2, 1, 0] rfl h
    · replace h := h.2 c17
      refine z_aload_n dX1_lookAtUnion_20 rfl (j := 1) rfl ?_
      refine z_iconst dX1_lookAtUnion_21 ?_
      refine z_iload_n dX1_lookAtUnion_22 rfl (j := 2) rfl ?_
      refine z_callV Γ kk_X1_fail kc_RX1_81 (As := [zv s0 0 5, zv s0 0 v]) h (by omega) (by decide) (show (parseMethodDescriptor yX1_fail.desc).map (fun q => q.parameters.length) = some 2 by decide +kernel) hok (Nat.zero_le _) dX1_lookAtUnion_23 (by decide) hs24 rfl rfl (fun _ h9 => nomatch h9) ?_
      clear h
      intro r23 M23 h
      show rt_Go _ _ _ _ _ _ _ _ _ _ _ _ 26 [(3, zv s0 0 (((zat M 16 2073 v)))), (0, zv s0 2 24), (1, zv s0 0 v), (2, zv s0 0 e)] [zv s0 0 r23] (zw s0 ca C S M23)
      exact z_iret dX1_lookAtUnion_26 rfl h

def zt_X1_lookAtField (l : Launch) (s0 : State) (G : va_G) (ca : Nat → ClassId) (d : Nat) (C : Nat × Nat) (S : zS) (w0 : rt_Wd) (p : Int) (s : Int) (i : Int) (v : Int) (e : Int) (M : zM) (Q : Int → zM → Prop) (X : zM → Prop) : Prop :=
  zIf (w32 (((zat M 8 2073 v))) = 1) (∀ q26 : Nat, zstr s0 q26 [110, 97, 109, 101] → (zm_X8_member l s0 G ca (d - 1) C S v q26 M (fun r28 M28 => zIf (w32 ((zf_X8_isString M28 r28)) = 0) (zm_X1_fail l s0 G ca (d - 1) C S 8 v M28 (fun r49 M49 => Q 0 M49) X) (zm_X1_isName l s0 G ca (d - 1) C S r28 M28 (fun r57 M57 => zIf (w32 r57 = 0) (zm_X1_fail l s0 G ca (d - 1) C S 9 r28 M57 (fun r79 M79 => Q 0 M79) X) (zm_X1_partSaid l s0 G ca (d - 1) C S s r28 M57 (fun r67 M67 => zIf (w32 r67 = ((-1))) (zm_X6_addName l s0 G ca (d - 1) C S p 22 (((zat M67 18 2073 r28))) M67 (fun r109 M109 => ∀ q120 : Nat, zstr s0 q120 [116, 121, 112, 101] → (zm_X8_member l s0 G ca (d - 1) C S v q120 (((zput M109 (p + 16) 2048 i r109))) (fun r122 M122 => zIf (w32 r122 = ((-1))) (zm_X1_fail l s0 G ca (d - 1) C S 8 v M122 (fun r137 M137 => Q 0 M137) X) (zm_X1_look l s0 G ca (d - 1) C S r122 (e + 1) 0 M122 (fun r155 M155 => ∀ q166 : Nat, zstr s0 q166 [100, 101, 102, 97, 117, 108, 116] → (zm_X8_member l s0 G ca (d - 1) C S v q166 (((zput M155 (p + 14) 2048 i r155))) (fun r168 M168 => zIf (w32 r168 = ((-1))) (Q 0 M168) (Q 0 ((zadd ((zadd M168 26 27 128 i)) 28 29 128 r168)))) X)) X)) X)) X) (zm_X1_fail l s0 G ca (d - 1) C S 9 r28 M67 (fun r79 M79 => Q 0 M79) X)) X)) X)) X)) (zm_X1_fail l s0 G ca (d - 1) C S 11 v M (fun r16 M16 => Q 0 M16) X)
set_option maxRecDepth 100000 in
theorem z_X1_lookAtField {l : Launch} {s0 : State} {a0 : Array Value} {G : va_G} {ca : Nat → ClassId} (Γ : rt_Γ l s0 a0 G ca) {d : Nat} {C : Nat × Nat} {S : zS} (hd : 2 ≤ d) (hok : zok C) {p : Int} (hs : zSok S) (hp : zSc S p) (hs24 : S 24 = some (0, 1, [(3, 25), (3, 26), (3, 28), (3, p), (3, 6), (0, 0), (0, 0), (0, 0)])) (hs6 : S 6 = some (0, 8, [(3, 7), (3, 9), (3, 11), (3, 13), (3, 15), (3, 17), (3, 19), (3, 21), (3, 22), (3, 1), (0, 0), (0, 0), (0, 0)])) {s : Int} {i : Int} {v : Int} {e : Int} {M : zM} {Q : Int → zM → Prop} {X : zM → Prop} (h : zt_X1_lookAtField l s0 G ca d C S (zw s0 ca C S M) p s i v e M Q X) : zm_X1_lookAtField l s0 G ca d C S  s i v e M Q X := by
  refine z_met (lv := [(0, zv s0 2 24), (1, zv s0 0 s), (2, zv s0 0 i), (3, zv s0 0 v), (4, zv s0 0 e)]) Γ kk_X1_lookAtField rfl (show (lg_sl [zv s0 2 24, zv s0 0 s, zv s0 0 i, zv s0 0 v, zv s0 0 e]).length ≤ 8 from by simp only [zn_0, zn_2, show (lg_sl []).length = 0 from rfl]; omega) (show lv_args 0 [zv s0 2 24, zv s0 0 s, zv s0 0 i, zv s0 0 v, zv s0 0 e] = [(0, zv s0 2 24), (1, zv s0 0 s), (2, zv s0 0 i), (3, zv s0 0 v), (4, zv s0 0 e)] from by rw [zl_2, zl_0, zl_0, zl_0, zl_0]; rfl) ?_
  unfold zt_X1_lookAtField at h
  refine z_aload_n dX1_lookAtField_0 rfl (j := 0) rfl ?_
  refine z_getc Γ kf_RX1_37 dX1_lookAtField_1 (by decide) hs24 rfl ?_
  refine z_iload_n dX1_lookAtField_4 rfl (j := 3) rfl ?_
  refine z_callV Γ kk_X8_kind kc_RX1_85 (As := [zv s0 0 v]) (z_X8_kind (d := d - 1) Γ (by omega) hok hs hs6 (M := M) (Q := fun v9 M9 => v9 = ((zat M 8 2073 v)) ∧ M9 = M) (X := X) (show _ ∧ _ from ⟨rfl, rfl⟩)) (by omega) (by decide) (show (parseMethodDescriptor yX8_kind.desc).map (fun q => q.parameters.length) = some 1 by decide +kernel) hok (Nat.zero_le _) dX1_lookAtField_5 (by decide) hs6 rfl rfl (fun _ h9 => nomatch h9) ?_
  rintro v9 M9 ⟨e9, e8⟩
  rw [e9, e8]
  clear e9 e8 v9 M9
  show rt_Go _ _ _ _ _ _ _ _ _ _ _ _ 8 [(0, zv s0 2 24), (1, zv s0 0 s), (2, zv s0 0 i), (3, zv s0 0 v), (4, zv s0 0 e)] [zv s0 0 (((zat M 8 2073 v)))] (zw s0 ca C S M)
  refine z_iconst dX1_lookAtField_8 ?_
  refine z_icmp_eq (tgt := 21) (x' := w32 (((zat M 8 2073 v)))) (y' := 1) rfl (by decide) dX1_lookAtField_9 (by decide) (fun c9 => ?_) (fun c9 => ?_)
  · replace h := h.1 c9
    refine z_aload_n dX1_lookAtField_21 rfl (j := 0) rfl ?_
    refine z_getc Γ kf_RX1_37 dX1_lookAtField_22 (by decide) hs24 rfl ?_
    refine z_iload_n dX1_lookAtField_25 rfl (j := 3) rfl ?_
    obtain ⟨q26, hq26a, hq26b⟩ := ks_RX1_203 Γ
    have hq26 : zstr s0 q26 [110, 97, 109, 101] := ⟨hq26b, by decide, by decide⟩
    replace h := h q26 hq26
    refine rt_ldcS Γ hq26a dX1_lookAtField_26 ?_
    refine z_callV Γ kk_X8_member kc_RX1_172 (As := [zv s0 0 v, .ref q26]) h (by omega) (by decide) (show (parseMethodDescriptor yX8_member.desc).map (fun q => q.parameters.length) = some 2 by decide +kernel) hok (Nat.zero_le _) dX1_lookAtField_28 (by decide) hs6 rfl rfl (fun _ h9 => nomatch h9) ?_
    clear h
    intro r28 M28 h
    show rt_Go _ _ _ _ _ _ _ _ _ _ _ _ 31 [(0, zv s0 2 24), (1, zv s0 0 s), (2, zv s0 0 i), (3, zv s0 0 v), (4, zv s0 0 e)] [zv s0 0 r28] (zw s0 ca C S M28)
    refine z_istore (i := 5) (lv' := [(5, zv s0 0 r28), (0, zv s0 2 24), (1, zv s0 0 s), (2, zv s0 0 i), (3, zv s0 0 v), (4, zv s0 0 e)]) dX1_lookAtField_31 (by decide) (by simp [zv_cat0, zv_cat1, zv_cat2, zv_cats]) ?_
    refine z_aload_n dX1_lookAtField_33 rfl (j := 1) rfl ?_
    refine z_getc Γ kf_RX1_37 dX1_lookAtField_34 (by decide) hs24 rfl ?_
    refine z_iload dX1_lookAtField_37 (j := 0) rfl ?_
    refine z_callV Γ kk_X8_isString kc_RX1_176 (As := [zv s0 0 r28]) (k_X8_isString (d := d - 1) Γ (by omega) hok hs hs6 (M := M28) (Q := fun v9 M9 => v9 = (zf_X8_isString M28 r28) ∧ M9 = M28) (X := X) (show _ ∧ _ from ⟨rfl, rfl⟩)) (by omega) (by decide) (show (parseMethodDescriptor yX8_isString.desc).map (fun q => q.parameters.length) = some 1 by decide +kernel) hok (Nat.zero_le _) dX1_lookAtField_39 (by decide) hs6 rfl rfl (fun _ h9 => nomatch h9) ?_
    rintro v9 M9 ⟨e9, e8⟩
    rw [e9, e8]
    clear e9 e8 v9 M9
    show rt_Go _ _ _ _ _ _ _ _ _ _ _ _ 42 [(5, zv s0 0 r28), (0, zv s0 2 24), (1, zv s0 0 s), (2, zv s0 0 i), (3, zv s0 0 v), (4, zv s0 0 e)] [zv s0 0 ((zf_X8_isString M28 r28))] (zw s0 ca C S M28)
    refine z_if_ne (tgt := 54) (x' := w32 ((zf_X8_isString M28 r28))) rfl dX1_lookAtField_42 (by decide) (fun c42 => ?_) (fun c42 => ?_)
    · replace h := h.2 c42
      refine z_aload_n dX1_lookAtField_54 rfl (j := 1) rfl ?_
      refine z_iload dX1_lookAtField_55 (j := 0) rfl ?_
      refine z_callV Γ kk_X1_isName kc_RX1_205 (As := [zv s0 0 r28]) h (by omega) (by decide) (show (parseMethodDescriptor yX1_isName.desc).map (fun q => q.parameters.length) = some 1 by decide +kernel) hok (Nat.zero_le _) dX1_lookAtField_57 (by decide) hs24 rfl rfl (fun _ h9 => nomatch h9) ?_
      clear h
      intro r57 M57 h
      show rt_Go _ _ _ _ _ _ _ _ _ _ _ _ 60 [(5, zv s0 0 r28), (0, zv s0 2 24), (1, zv s0 0 s), (2, zv s0 0 i), (3, zv s0 0 v), (4, zv s0 0 e)] [zv s0 0 r57] (zw s0 ca C S M57)
      refine z_if_eq (tgt := 74) (x' := w32 r57) rfl dX1_lookAtField_60 (by decide) (fun c60 => ?_) (fun c60 => ?_)
      · replace h := h.1 c60
        refine z_aload_n dX1_lookAtField_74 rfl (j := 1) rfl ?_
        refine z_bipush dX1_lookAtField_75 (by decide) ?_
        refine z_iload dX1_lookAtField_77 (j := 0) rfl ?_
        refine z_callV Γ kk_X1_fail kc_RX1_81 (As := [zv s0 0 9, zv s0 0 r28]) h (by omega) (by decide) (show (parseMethodDescriptor yX1_fail.desc).map (fun q => q.parameters.length) = some 2 by decide +kernel) hok (Nat.zero_le _) dX1_lookAtField_79 (by decide) hs24 rfl rfl (fun _ h9 => nomatch h9) ?_
        clear h
        intro r79 M79 h
        show rt_Go _ _ _ _ _ _ _ _ _ _ _ _ 82 [(5, zv s0 0 r28), (0, zv s0 2 24), (1, zv s0 0 s), (2, zv s0 0 i), (3, zv s0 0 v), (4, zv s0 0 e)] [zv s0 0 r79] (zw s0 ca C S M79)
        refine z_pop0 dX1_lookAtField_82 ?_
        exact z_vret dX1_lookAtField_83 rfl h
      · replace h := h.2 c60
        refine z_aload_n dX1_lookAtField_63 rfl (j := 1) rfl ?_
        refine z_iload_n dX1_lookAtField_64 rfl (j := 2) rfl ?_
        refine z_iload dX1_lookAtField_65 (j := 0) rfl ?_
        refine z_callV Γ kk_X1_partSaid kc_RX1_233 (As := [zv s0 0 s, zv s0 0 r28]) h (by omega) (by decide) (show (parseMethodDescriptor yX1_partSaid.desc).map (fun q => q.parameters.length) = some 2 by decide +kernel) hok (Nat.zero_le _) dX1_lookAtField_67 (by decide) hs24 rfl rfl (fun _ h9 => nomatch h9) ?_
        clear h
        intro r67 M67 h
        show rt_Go _ _ _ _ _ _ _ _ _ _ _ _ 70 [(5, zv s0 0 r28), (0, zv s0 2 24), (1, zv s0 0 s), (2, zv s0 0 i), (3, zv s0 0 v), (4, zv s0 0 e)] [zv s0 0 r67] (zw s0 ca C S M67)
        refine z_iconst dX1_lookAtField_70 ?_
        refine z_icmp_eq (tgt := 84) (x' := w32 r67) (y' := ((-1))) rfl (by decide) dX1_lookAtField_71 (by decide) (fun c71 => ?_) (fun c71 => ?_)
        · replace h := h.1 c71
          refine z_aload_n dX1_lookAtField_84 rfl (j := 1) rfl ?_
          refine z_getc Γ kf_RX1_33 dX1_lookAtField_85 (by decide) hs24 rfl ?_
          refine z_iload_n dX1_lookAtField_88 rfl (j := 3) rfl ?_
          refine z_aload_n dX1_lookAtField_89 rfl (j := 1) rfl ?_
          refine z_getc Γ kf_RX1_33 dX1_lookAtField_90 (by decide) hs24 rfl ?_
          refine z_aload_n dX1_lookAtField_93 rfl (j := 1) rfl ?_
          refine z_getc Γ kf_RX1_37 dX1_lookAtField_94 (by decide) hs24 rfl ?_
          refine z_callV Γ kk_X8_letters kc_RX1_129 (As := []) (z_X8_letters (d := d - 1) Γ hok hs hs6 (M := M67) (Q := fun v9 M9 => v9 = 22 ∧ M9 = M67) (X := X) (show _ ∧ _ from ⟨rfl, rfl⟩)) (by omega) (by decide) (show (parseMethodDescriptor yX8_letters.desc).map (fun q => q.parameters.length) = some 0 by decide +kernel) hok (by simp only [List.map, zv_cat0, zv_cat1, zv_cat2, List.sum_cons, List.sum_nil]; decide) dX1_lookAtField_97 (by decide) hs6 rfl rfl (fun _ h9 => nomatch h9) ?_
          rintro v9 M9 ⟨e9, e8⟩
          rw [e9, e8]
          clear e9 e8 v9 M9
          show rt_Go _ _ _ _ _ _ _ _ _ _ _ _ 100 [(5, zv s0 0 r28), (0, zv s0 2 24), (1, zv s0 0 s), (2, zv s0 0 i), (3, zv s0 0 v), (4, zv s0 0 e)] [zv s0 2 22, zv s0 2 p, zv s0 0 i, zv s0 2 p] (zw s0 ca C S M67)
          refine z_aload_n dX1_lookAtField_100 rfl (j := 1) rfl ?_
          refine z_getc Γ kf_RX1_37 dX1_lookAtField_101 (by decide) hs24 rfl ?_
          refine z_iload dX1_lookAtField_104 (j := 0) rfl ?_
          refine z_callV Γ kk_X8_word kc_RX1_133 (As := [zv s0 0 r28]) (z_X8_word (d := d - 1) Γ (by omega) hok hs hs6 (M := M67) (Q := fun v9 M9 => v9 = ((zat M67 18 2073 r28)) ∧ M9 = M67) (X := X) (show _ ∧ _ from ⟨rfl, rfl⟩)) (by omega) (by decide) (show (parseMethodDescriptor yX8_word.desc).map (fun q => q.parameters.length) = some 1 by decide +kernel) hok (by simp only [List.map, zv_cat0, zv_cat1, zv_cat2, List.sum_cons, List.sum_nil]; decide) dX1_lookAtField_106 (by decide) hs6 rfl rfl (fun _ h9 => nomatch h9) ?_
          rintro v9 M9 ⟨e9, e8⟩
          rw [e9, e8]
          clear e9 e8 v9 M9
          show rt_Go _ _ _ _ _ _ _ _ _ _ _ _ 109 [(5, zv s0 0 r28), (0, zv s0 2 24), (1, zv s0 0 s), (2, zv s0 0 i), (3, zv s0 0 v), (4, zv s0 0 e)] [zv s0 0 (((zat M67 18 2073 r28))), zv s0 2 22, zv s0 2 p, zv s0 0 i, zv s0 2 p] (zw s0 ca C S M67)
          refine z_callV Γ kk_X6_addName kc_RX1_208 (As := [zv s0 2 22, zv s0 0 (((zat M67 18 2073 r28)))]) h (by omega) (by decide) (show (parseMethodDescriptor yX6_addName.desc).map (fun q => q.parameters.length) = some 2 by decide +kernel) hok (by simp only [List.map, zv_cat0, zv_cat1, zv_cat2, List.sum_cons, List.sum_nil]; decide) dX1_lookAtField_109 hp.1 hp.2.1 rfl rfl (fun _ h9 => nomatch h9) ?_
          clear h
          intro r109 M109 h
          show rt_Go _ _ _ _ _ _ _ _ _ _ _ _ 112 [(5, zv s0 0 r28), (0, zv s0 2 24), (1, zv s0 0 s), (2, zv s0 0 i), (3, zv s0 0 v), (4, zv s0 0 e)] [zv s0 0 r109, zv s0 0 i, zv s0 2 p] (zw s0 ca C S M109)
          refine z_callV Γ kk_X6_setPartName kc_RX1_236 (As := [zv s0 0 i, zv s0 0 r109]) (z_X6_setPartName (d := d - 1) Γ (by omega) hok hp (M := M109) (Q := fun v9 M9 => v9 = 0 ∧ M9 = ((zput M109 (p + 16) 2048 i r109))) (X := X) (show _ ∧ _ from ⟨rfl, rfl⟩)) (by omega) (by decide) (show (parseMethodDescriptor yX6_setPartName.desc).map (fun q => q.parameters.length) = some 2 by decide +kernel) hok (Nat.zero_le _) dX1_lookAtField_112 hp.1 hp.2.1 rfl rfl (fun _ h9 => nomatch h9) ?_
          rintro v9 M9 ⟨e9, e8⟩
          rw [e9, e8]
          clear e9 e8 v9 M9
          show rt_Go _ _ _ _ _ _ _ _ _ _ _ _ 115 [(5, zv s0 0 r28), (0, zv s0 2 24), (1, zv s0 0 s), (2, zv s0 0 i), (3, zv s0 0 v), (4, zv s0 0 e)] [] (zw s0 ca C S (((zput M109 (p + 16) 2048 i r109))))
          refine z_aload_n dX1_lookAtField_115 rfl (j := 1) rfl ?_
          refine z_getc Γ kf_RX1_37 dX1_lookAtField_116 (by decide) hs24 rfl ?_
          refine z_iload_n dX1_lookAtField_119 rfl (j := 4) rfl ?_
          obtain ⟨q120, hq120a, hq120b⟩ := ks_RX1_170 Γ
          have hq120 : zstr s0 q120 [116, 121, 112, 101] := ⟨hq120b, by decide, by decide⟩
          replace h := h q120 hq120
          refine rt_ldcS Γ hq120a dX1_lookAtField_120 ?_
          refine z_callV Γ kk_X8_member kc_RX1_172 (As := [zv s0 0 v, .ref q120]) h (by omega) (by decide) (show (parseMethodDescriptor yX8_member.desc).map (fun q => q.parameters.length) = some 2 by decide +kernel) hok (Nat.zero_le _) dX1_lookAtField_122 (by decide) hs6 rfl rfl (fun _ h9 => nomatch h9) ?_
          clear h
          intro r122 M122 h
          show rt_Go _ _ _ _ _ _ _ _ _ _ _ _ 125 [(5, zv s0 0 r28), (0, zv s0 2 24), (1, zv s0 0 s), (2, zv s0 0 i), (3, zv s0 0 v), (4, zv s0 0 e)] [zv s0 0 r122] (zw s0 ca C S M122)
          refine z_istore (i := 6) (lv' := [(6, zv s0 0 r122), (5, zv s0 0 r28), (0, zv s0 2 24), (1, zv s0 0 s), (2, zv s0 0 i), (3, zv s0 0 v), (4, zv s0 0 e)]) dX1_lookAtField_125 (by decide) (by simp [zv_cat0, zv_cat1, zv_cat2, zv_cats]) ?_
          refine z_iload dX1_lookAtField_127 (j := 0) rfl ?_
          refine z_iconst dX1_lookAtField_129 ?_
          refine z_icmp_ne (tgt := 142) (x' := w32 r122) (y' := ((-1))) rfl (by decide) dX1_lookAtField_130 (by decide) (fun c130 => ?_) (fun c130 => ?_)
          · replace h := h.2 c130
            refine z_aload_n dX1_lookAtField_142 rfl (j := 2) rfl ?_
            refine z_getc Γ kf_RX1_33 dX1_lookAtField_143 (by decide) hs24 rfl ?_
            refine z_iload_n dX1_lookAtField_146 rfl (j := 4) rfl ?_
            refine z_aload_n dX1_lookAtField_147 rfl (j := 2) rfl ?_
            refine z_iload dX1_lookAtField_148 (j := 0) rfl ?_
            refine z_iload dX1_lookAtField_150 (j := 6) rfl ?_
            refine z_iconst dX1_lookAtField_152 ?_
            refine z_iadd dX1_lookAtField_153 ?_
            refine z_iconst dX1_lookAtField_154 ?_
            refine z_callV Γ kk_X1_look kc_RX1_57 (As := [zv s0 0 r122, zv s0 0 (e + 1), zv s0 0 0]) h (by omega) (by decide) (show (parseMethodDescriptor yX1_look.desc).map (fun q => q.parameters.length) = some 3 by decide +kernel) hok (by simp only [List.map, zv_cat0, zv_cat1, zv_cat2, List.sum_cons, List.sum_nil]; decide) dX1_lookAtField_155 (by decide) hs24 rfl rfl (fun _ h9 => nomatch h9) ?_
            clear h
            intro r155 M155 h
            show rt_Go _ _ _ _ _ _ _ _ _ _ _ _ 158 [(6, zv s0 0 r122), (5, zv s0 0 r28), (0, zv s0 2 24), (1, zv s0 0 s), (2, zv s0 0 i), (3, zv s0 0 v), (4, zv s0 0 e)] [zv s0 0 r155, zv s0 0 i, zv s0 2 p] (zw s0 ca C S M155)
            refine z_callV Γ kk_X6_setPartNode kc_RX1_160 (As := [zv s0 0 i, zv s0 0 r155]) (z_X6_setPartNode (d := d - 1) Γ (by omega) hok hp (M := M155) (Q := fun v9 M9 => v9 = 0 ∧ M9 = ((zput M155 (p + 14) 2048 i r155))) (X := X) (show _ ∧ _ from ⟨rfl, rfl⟩)) (by omega) (by decide) (show (parseMethodDescriptor yX6_setPartNode.desc).map (fun q => q.parameters.length) = some 2 by decide +kernel) hok (Nat.zero_le _) dX1_lookAtField_158 hp.1 hp.2.1 rfl rfl (fun _ h9 => nomatch h9) ?_
            rintro v9 M9 ⟨e9, e8⟩
            rw [e9, e8]
            clear e9 e8 v9 M9
            show rt_Go _ _ _ _ _ _ _ _ _ _ _ _ 161 [(6, zv s0 0 r122), (5, zv s0 0 r28), (0, zv s0 2 24), (1, zv s0 0 s), (2, zv s0 0 i), (3, zv s0 0 v), (4, zv s0 0 e)] [] (zw s0 ca C S (((zput M155 (p + 14) 2048 i r155))))
            refine z_aload_n dX1_lookAtField_161 rfl (j := 2) rfl ?_
            refine z_getc Γ kf_RX1_37 dX1_lookAtField_162 (by decide) hs24 rfl ?_
            refine z_iload_n dX1_lookAtField_165 rfl (j := 5) rfl ?_
            obtain ⟨q166, hq166a, hq166b⟩ := ks_RX1_242 Γ
            have hq166 : zstr s0 q166 [100, 101, 102, 97, 117, 108, 116] := ⟨hq166b, by decide, by decide⟩
            replace h := h q166 hq166
            refine rt_ldcS Γ hq166a dX1_lookAtField_166 ?_
            refine z_callV Γ kk_X8_member kc_RX1_172 (As := [zv s0 0 v, .ref q166]) h (by omega) (by decide) (show (parseMethodDescriptor yX8_member.desc).map (fun q => q.parameters.length) = some 2 by decide +kernel) hok (Nat.zero_le _) dX1_lookAtField_168 (by decide) hs6 rfl rfl (fun _ h9 => nomatch h9) ?_
            clear h
            intro r168 M168 h
            show rt_Go _ _ _ _ _ _ _ _ _ _ _ _ 171 [(6, zv s0 0 r122), (5, zv s0 0 r28), (0, zv s0 2 24), (1, zv s0 0 s), (2, zv s0 0 i), (3, zv s0 0 v), (4, zv s0 0 e)] [zv s0 0 r168] (zw s0 ca C S M168)
            refine z_istore (i := 7) (lv' := [(7, zv s0 0 r168), (6, zv s0 0 r122), (5, zv s0 0 r28), (0, zv s0 2 24), (1, zv s0 0 s), (2, zv s0 0 i), (3, zv s0 0 v), (4, zv s0 0 e)]) dX1_lookAtField_171 (by decide) (by simp [zv_cat0, zv_cat1, zv_cat2, zv_cats]) ?_
            refine z_iload dX1_lookAtField_173 (j := 0) rfl ?_
            refine z_iconst dX1_lookAtField_175 ?_
            refine z_icmp_eq (tgt := 198) (x' := w32 r168) (y' := ((-1))) rfl (by decide) dX1_lookAtField_176 (by decide) (fun c176 => ?_) (fun c176 => ?_)
            · replace h := h.1 c176
              exact z_vret dX1_lookAtField_198 rfl h
            · replace h := h.2 c176
              refine z_aload_n dX1_lookAtField_179 rfl (j := 3) rfl ?_
              refine z_getc Γ kf_RX1_23 dX1_lookAtField_180 (by decide) hs24 rfl ?_
              refine z_iload_n dX1_lookAtField_183 rfl (j := 5) rfl ?_
              refine z_callV Γ kk_X0_add kc_RX1_257 (As := [zv s0 0 i]) (k_X0_add (d := d - 1) Γ hok (⟨by decide, by decide, by decide, hs 26 _ rfl, hs 27 _ rfl⟩ : zCe S 26 27 128) (M := M168) (Q := fun v9 M9 => v9 = (zaddv M168 26 128) ∧ M9 = (zadd M168 26 27 128 i)) (X := X) (show _ ∧ _ from ⟨rfl, rfl⟩)) (by omega) (by decide) (show (parseMethodDescriptor yX0_add.desc).map (fun q => q.parameters.length) = some 1 by decide +kernel) hok (Nat.zero_le _) dX1_lookAtField_184 (⟨by decide, by decide, by decide, hs 26 _ rfl, hs 27 _ rfl⟩ : zCe S 26 27 128).1 (⟨by decide, by decide, by decide, hs 26 _ rfl, hs 27 _ rfl⟩ : zCe S 26 27 128).2.2.2.1 rfl rfl (fun _ h9 => nomatch h9) ?_
              rintro v9 M9 ⟨e9, e8⟩
              rw [e9, e8]
              clear e9 e8 v9 M9
              show rt_Go _ _ _ _ _ _ _ _ _ _ _ _ 187 [(7, zv s0 0 r168), (6, zv s0 0 r122), (5, zv s0 0 r28), (0, zv s0 2 24), (1, zv s0 0 s), (2, zv s0 0 i), (3, zv s0 0 v), (4, zv s0 0 e)] [zv s0 0 ((zaddv M168 26 128))] (zw s0 ca C S ((zadd M168 26 27 128 i)))
              refine z_pop0 dX1_lookAtField_187 ?_
              refine z_aload_n dX1_lookAtField_188 rfl (j := 3) rfl ?_
              refine z_getc Γ kf_RX1_27 dX1_lookAtField_189 (by decide) hs24 rfl ?_
              refine z_iload dX1_lookAtField_192 (j := 0) rfl ?_
              refine z_callV Γ kk_X0_add kc_RX1_257 (As := [zv s0 0 r168]) (k_X0_add (d := d - 1) Γ hok (⟨by decide, by decide, by decide, hs 28 _ rfl, hs 29 _ rfl⟩ : zCe S 28 29 128) (M := ((zadd M168 26 27 128 i))) (Q := fun v9 M9 => v9 = (zaddv ((zadd M168 26 27 128 i)) 28 128) ∧ M9 = (zadd ((zadd M168 26 27 128 i)) 28 29 128 r168)) (X := X) (show _ ∧ _ from ⟨rfl, rfl⟩)) (by omega) (by decide) (show (parseMethodDescriptor yX0_add.desc).map (fun q => q.parameters.length) = some 1 by decide +kernel) hok (Nat.zero_le _) dX1_lookAtField_194 (⟨by decide, by decide, by decide, hs 28 _ rfl, hs 29 _ rfl⟩ : zCe S 28 29 128).1 (⟨by decide, by decide, by decide, hs 28 _ rfl, hs 29 _ rfl⟩ : zCe S 28 29 128).2.2.2.1 rfl rfl (fun _ h9 => nomatch h9) ?_
              rintro v9 M9 ⟨e9, e8⟩
              rw [e9, e8]
              clear e9 e8 v9 M9
              show rt_Go _ _ _ _ _ _ _ _ _ _ _ _ 197 [(7, zv s0 0 r168), (6, zv s0 0 r122), (5, zv s0 0 r28), (0, zv s0 2 24), (1, zv s0 0 s), (2, zv s0 0 i), (3, zv s0 0 v), (4, zv s0 0 e)] [zv s0 0 ((zaddv ((zadd M168 26 27 128 i)) 28 128))] (zw s0 ca C S ((zadd ((zadd M168 26 27 128 i)) 28 29 128 r168)))
              refine z_pop0 dX1_lookAtField_197 ?_
              exact z_vret dX1_lookAtField_198 rfl h
          · replace h := h.1 c130
            refine z_aload_n dX1_lookAtField_133 rfl (j := 2) rfl ?_
            refine z_bipush dX1_lookAtField_134 (by decide) ?_
            refine z_iload_n dX1_lookAtField_136 rfl (j := 5) rfl ?_
            refine z_callV Γ kk_X1_fail kc_RX1_81 (As := [zv s0 0 8, zv s0 0 v]) h (by omega) (by decide) (show (parseMethodDescriptor yX1_fail.desc).map (fun q => q.parameters.length) = some 2 by decide +kernel) hok (Nat.zero_le _) dX1_lookAtField_137 (by decide) hs24 rfl rfl (fun _ h9 => nomatch h9) ?_
            clear h
            intro r137 M137 h
            show rt_Go _ _ _ _ _ _ _ _ _ _ _ _ 140 [(6, zv s0 0 r122), (5, zv s0 0 r28), (0, zv s0 2 24), (1, zv s0 0 s), (2, zv s0 0 i), (3, zv s0 0 v), (4, zv s0 0 e)] [zv s0 0 r137] (zw s0 ca C S M137)
            refine z_pop0 dX1_lookAtField_140 ?_
            exact z_vret dX1_lookAtField_141 rfl h
        · replace h := h.2 c71
          refine z_aload_n dX1_lookAtField_74 rfl (j := 1) rfl ?_
          refine z_bipush dX1_lookAtField_75 (by decide) ?_
          refine z_iload dX1_lookAtField_77 (j := 0) rfl ?_
          refine z_callV Γ kk_X1_fail kc_RX1_81 (As := [zv s0 0 9, zv s0 0 r28]) h (by omega) (by decide) (show (parseMethodDescriptor yX1_fail.desc).map (fun q => q.parameters.length) = some 2 by decide +kernel) hok (Nat.zero_le _) dX1_lookAtField_79 (by decide) hs24 rfl rfl (fun _ h9 => nomatch h9) ?_
          clear h
          intro r79 M79 h
          show rt_Go _ _ _ _ _ _ _ _ _ _ _ _ 82 [(5, zv s0 0 r28), (0, zv s0 2 24), (1, zv s0 0 s), (2, zv s0 0 i), (3, zv s0 0 v), (4, zv s0 0 e)] [zv s0 0 r79] (zw s0 ca C S M79)
          refine z_pop0 dX1_lookAtField_82 ?_
          exact z_vret dX1_lookAtField_83 rfl h
    · replace h := h.1 c42
      refine z_aload_n dX1_lookAtField_45 rfl (j := 1) rfl ?_
      refine z_bipush dX1_lookAtField_46 (by decide) ?_
      refine z_iload_n dX1_lookAtField_48 rfl (j := 4) rfl ?_
      refine z_callV Γ kk_X1_fail kc_RX1_81 (As := [zv s0 0 8, zv s0 0 v]) h (by omega) (by decide) (show (parseMethodDescriptor yX1_fail.desc).map (fun q => q.parameters.length) = some 2 by decide +kernel) hok (Nat.zero_le _) dX1_lookAtField_49 (by decide) hs24 rfl rfl (fun _ h9 => nomatch h9) ?_
      clear h
      intro r49 M49 h
      show rt_Go _ _ _ _ _ _ _ _ _ _ _ _ 52 [(5, zv s0 0 r28), (0, zv s0 2 24), (1, zv s0 0 s), (2, zv s0 0 i), (3, zv s0 0 v), (4, zv s0 0 e)] [zv s0 0 r49] (zw s0 ca C S M49)
      refine z_pop0 dX1_lookAtField_52 ?_
      exact z_vret dX1_lookAtField_53 rfl h
  · replace h := h.2 c9
    refine z_aload_n dX1_lookAtField_12 rfl (j := 0) rfl ?_
    refine z_bipush dX1_lookAtField_13 (by decide) ?_
    refine z_iload_n dX1_lookAtField_15 rfl (j := 3) rfl ?_
    refine z_callV Γ kk_X1_fail kc_RX1_81 (As := [zv s0 0 11, zv s0 0 v]) h (by omega) (by decide) (show (parseMethodDescriptor yX1_fail.desc).map (fun q => q.parameters.length) = some 2 by decide +kernel) hok (Nat.zero_le _) dX1_lookAtField_16 (by decide) hs24 rfl rfl (fun _ h9 => nomatch h9) ?_
    clear h
    intro r16 M16 h
    show rt_Go _ _ _ _ _ _ _ _ _ _ _ _ 19 [(0, zv s0 2 24), (1, zv s0 0 s), (2, zv s0 0 i), (3, zv s0 0 v), (4, zv s0 0 e)] [zv s0 0 r16] (zw s0 ca C S M16)
    refine z_pop0 dX1_lookAtField_19 ?_
    exact z_vret dX1_lookAtField_20 rfl h

abbrev zg_X1_lookAtRecord_107 (l : Launch) (s0 : State) (G : va_G) (ca : Nat → ClassId) (d : Nat) (C : Nat × Nat) (S : zS) (w0 : rt_Wd) (p : Int) (v2 : Int) (v3 : Int) (v5 : Int) (v6 : Int) (v7 : Int)  (M : zM) (Q : Int → zM → Prop) (X : zM → Prop) : Prop := rt_Go l s0 G RX1 "lookAtRecord" cX1_lookAtRecord 8 (Option.some FieldType.int) [] d w0 (zQ s0 ca 0 C S Q X) 107 [(0, zv s0 2 24), (2, zv s0 0 v2), (3, zv s0 0 v3), (5, zv s0 0 v5), (6, zv s0 0 v6), (7, zv s0 0 v7)] [] (zw s0 ca C S M)
def zt_X1_lookAtRecord_107 (l : Launch) (s0 : State) (G : va_G) (ca : Nat → ClassId) (d : Nat) (C : Nat × Nat) (S : zS) (w0 : rt_Wd) (p : Int) (v2 : Int) (v3 : Int) (v5 : Int) (v6 : Int) (v7 : Int)  (M : zM) (Q : Int → zM → Prop) (X : zM → Prop) : Prop :=
  zIf (w32 v5 ≤ w32 v7) (zm_X6_measureRecord l s0 G ca (d - 1) C S p v3 M (fun r161 M161 => Q v3 M161) X) (zIf (w32 (M 24 6) = 0) (zm_X1_lookAtField l s0 G ca (d - 1) C S v3 ((((zat M (p + 10) 134 v3)) + v7)) v6 v2 M (fun r136 M136 => zg_X1_lookAtRecord_107 l s0 G ca d C S w0 p v2 v3 v5 (((zat M136 12 2073 v6))) (v7 + 1) M136 Q X) X) (zm_X6_measureRecord l s0 G ca (d - 1) C S p v3 M (fun r161 M161 => Q v3 M161) X))
set_option maxRecDepth 100000 in
theorem zs_X1_lookAtRecord_107 {l : Launch} {s0 : State} {a0 : Array Value} {G : va_G} {ca : Nat → ClassId} (Γ : rt_Γ l s0 a0 G ca) {d : Nat} {C : Nat × Nat} {S : zS} (hd : 2 ≤ d) (hok : zok C) {p : Int} (hs : zSok S) (hp : zSc S p) (hs24 : S 24 = some (0, 1, [(3, 25), (3, 26), (3, 28), (3, p), (3, 6), (0, 0), (0, 0), (0, 0)])) (hs6 : S 6 = some (0, 8, [(3, 7), (3, 9), (3, 11), (3, 13), (3, 15), (3, 17), (3, 19), (3, 21), (3, 22), (3, 1), (0, 0), (0, 0), (0, 0)])) {w0 : rt_Wd} {v2 : Int} {v3 : Int} {v5 : Int} {v6 : Int} {v7 : Int}   {M : zM} {Q : Int → zM → Prop} {X : zM → Prop} (h : zt_X1_lookAtRecord_107 l s0 G ca d C S w0 p v2 v3 v5 v6 v7 M Q X) : zg_X1_lookAtRecord_107 l s0 G ca d C S w0 p v2 v3 v5 v6 v7 M Q X := by
  unfold zt_X1_lookAtRecord_107 at h
  refine z_iload dX1_lookAtRecord_107 (j := 5) rfl ?_
  refine z_iload dX1_lookAtRecord_109 (j := 3) rfl ?_
  refine z_icmp_ge (tgt := 156) (x' := w32 v7) (y' := w32 v5) rfl rfl dX1_lookAtRecord_111 (by decide) (fun c111 => ?_) (fun c111 => ?_)
  · replace h := h.1 c111
    refine z_aload_n dX1_lookAtRecord_156 rfl (j := 0) rfl ?_
    refine z_getc Γ kf_RX1_33 dX1_lookAtRecord_157 (by decide) hs24 rfl ?_
    refine z_iload_n dX1_lookAtRecord_160 rfl (j := 2) rfl ?_
    refine z_callV Γ kk_X6_measureRecord kc_RX1_254 (As := [zv s0 0 v3]) h (by omega) (by decide) (show (parseMethodDescriptor yX6_measureRecord.desc).map (fun q => q.parameters.length) = some 1 by decide +kernel) hok (Nat.zero_le _) dX1_lookAtRecord_161 hp.1 hp.2.1 rfl rfl (fun _ h9 => nomatch h9) ?_
    clear h
    intro r161 M161 h
    show rt_Go _ _ _ _ _ _ _ _ _ _ _ _ 164 [(0, zv s0 2 24), (2, zv s0 0 v2), (3, zv s0 0 v3), (5, zv s0 0 v5), (6, zv s0 0 v6), (7, zv s0 0 v7)] [] (zw s0 ca C S M161)
    refine z_iload_n dX1_lookAtRecord_164 rfl (j := 2) rfl ?_
    exact z_iret dX1_lookAtRecord_165 rfl h
  · replace h := h.2 c111
    refine z_aload_n dX1_lookAtRecord_114 rfl (j := 0) rfl ?_
    refine z_get Γ kf_RX1_51 dX1_lookAtRecord_115 (by decide) hs24 rfl (by decide) (v9 := M 24 6) rfl ?_
    refine z_if_ne (tgt := 156) (x' := w32 (M 24 6)) rfl dX1_lookAtRecord_118 (by decide) (fun c118 => ?_) (fun c118 => ?_)
    · replace h := h.2 c118
      refine z_aload_n dX1_lookAtRecord_156 rfl (j := 0) rfl ?_
      refine z_getc Γ kf_RX1_33 dX1_lookAtRecord_157 (by decide) hs24 rfl ?_
      refine z_iload_n dX1_lookAtRecord_160 rfl (j := 2) rfl ?_
      refine z_callV Γ kk_X6_measureRecord kc_RX1_254 (As := [zv s0 0 v3]) h (by omega) (by decide) (show (parseMethodDescriptor yX6_measureRecord.desc).map (fun q => q.parameters.length) = some 1 by decide +kernel) hok (Nat.zero_le _) dX1_lookAtRecord_161 hp.1 hp.2.1 rfl rfl (fun _ h9 => nomatch h9) ?_
      clear h
      intro r161 M161 h
      show rt_Go _ _ _ _ _ _ _ _ _ _ _ _ 164 [(0, zv s0 2 24), (2, zv s0 0 v2), (3, zv s0 0 v3), (5, zv s0 0 v5), (6, zv s0 0 v6), (7, zv s0 0 v7)] [] (zw s0 ca C S M161)
      refine z_iload_n dX1_lookAtRecord_164 rfl (j := 2) rfl ?_
      exact z_iret dX1_lookAtRecord_165 rfl h
    · replace h := h.1 c118
      refine z_aload_n dX1_lookAtRecord_121 rfl (j := 0) rfl ?_
      refine z_iload_n dX1_lookAtRecord_122 rfl (j := 2) rfl ?_
      refine z_aload_n dX1_lookAtRecord_123 rfl (j := 0) rfl ?_
      refine z_getc Γ kf_RX1_33 dX1_lookAtRecord_124 (by decide) hs24 rfl ?_
      refine z_iload_n dX1_lookAtRecord_127 rfl (j := 2) rfl ?_
      refine z_iload dX1_lookAtRecord_128 (j := 5) rfl ?_
      refine z_callV Γ kk_X6_part kc_RX1_157 (As := [zv s0 0 v3, zv s0 0 v7]) (z_X6_part (d := d - 1) Γ (by omega) hok hp (M := M) (Q := fun v9 M9 => v9 = (((zat M (p + 10) 134 v3)) + v7) ∧ M9 = M) (X := X) (show _ ∧ _ from ⟨rfl, rfl⟩)) (by omega) (by decide) (show (parseMethodDescriptor yX6_part.desc).map (fun q => q.parameters.length) = some 2 by decide +kernel) hok (by simp only [List.map, zv_cat0, zv_cat1, zv_cat2, List.sum_cons, List.sum_nil]; decide) dX1_lookAtRecord_130 hp.1 hp.2.1 rfl rfl (fun _ h9 => nomatch h9) ?_
      rintro v9 M9 ⟨e9, e8⟩
      rw [e9, e8]
      clear e9 e8 v9 M9
      show rt_Go _ _ _ _ _ _ _ _ _ _ _ _ 133 [(0, zv s0 2 24), (2, zv s0 0 v2), (3, zv s0 0 v3), (5, zv s0 0 v5), (6, zv s0 0 v6), (7, zv s0 0 v7)] [zv s0 0 ((((zat M (p + 10) 134 v3)) + v7)), zv s0 0 v3, zv s0 2 24] (zw s0 ca C S M)
      refine z_iload dX1_lookAtRecord_133 (j := 4) rfl ?_
      refine z_iload_n dX1_lookAtRecord_135 rfl (j := 1) rfl ?_
      refine z_callV Γ kk_X1_lookAtField kc_RX1_250 (As := [zv s0 0 v3, zv s0 0 ((((zat M (p + 10) 134 v3)) + v7)), zv s0 0 v6, zv s0 0 v2]) h (by omega) (by decide) (show (parseMethodDescriptor yX1_lookAtField.desc).map (fun q => q.parameters.length) = some 4 by decide +kernel) hok (Nat.zero_le _) dX1_lookAtRecord_136 (by decide) hs24 rfl rfl (fun _ h9 => nomatch h9) ?_
      clear h
      intro r136 M136 h
      show rt_Go _ _ _ _ _ _ _ _ _ _ _ _ 139 [(0, zv s0 2 24), (2, zv s0 0 v2), (3, zv s0 0 v3), (5, zv s0 0 v5), (6, zv s0 0 v6), (7, zv s0 0 v7)] [] (zw s0 ca C S M136)
      refine z_aload_n dX1_lookAtRecord_139 rfl (j := 0) rfl ?_
      refine z_getc Γ kf_RX1_37 dX1_lookAtRecord_140 (by decide) hs24 rfl ?_
      refine z_iload dX1_lookAtRecord_143 (j := 4) rfl ?_
      refine z_callV Γ kk_X8_next kc_RX1_163 (As := [zv s0 0 v6]) (z_X8_next (d := d - 1) Γ (by omega) hok hs hs6 (M := M136) (Q := fun v9 M9 => v9 = ((zat M136 12 2073 v6)) ∧ M9 = M136) (X := X) (show _ ∧ _ from ⟨rfl, rfl⟩)) (by omega) (by decide) (show (parseMethodDescriptor yX8_next.desc).map (fun q => q.parameters.length) = some 1 by decide +kernel) hok (Nat.zero_le _) dX1_lookAtRecord_145 (by decide) hs6 rfl rfl (fun _ h9 => nomatch h9) ?_
      rintro v9 M9 ⟨e9, e8⟩
      rw [e9, e8]
      clear e9 e8 v9 M9
      show rt_Go _ _ _ _ _ _ _ _ _ _ _ _ 148 [(0, zv s0 2 24), (2, zv s0 0 v2), (3, zv s0 0 v3), (5, zv s0 0 v5), (6, zv s0 0 v6), (7, zv s0 0 v7)] [zv s0 0 (((zat M136 12 2073 v6)))] (zw s0 ca C S M136)
      refine z_istore (i := 6) (lv' := [(6, zv s0 0 (((zat M136 12 2073 v6)))), (0, zv s0 2 24), (2, zv s0 0 v2), (3, zv s0 0 v3), (5, zv s0 0 v5), (7, zv s0 0 v7)]) dX1_lookAtRecord_148 (by decide) (by simp [zv_cat0, zv_cat1, zv_cat2, zv_cats]) ?_
      refine z_iinc (lv' := [(7, zv s0 0 (v7 + 1)), (6, zv s0 0 (((zat M136 12 2073 v6)))), (0, zv s0 2 24), (2, zv s0 0 v2), (3, zv s0 0 v3), (5, zv s0 0 v5)]) dX1_lookAtRecord_150 (j := 5) rfl (by decide) (by simp [zv_cat0, zv_cat1, zv_cat2, zv_cats]) ?_
      refine rt_goto (tgt := 107) dX1_lookAtRecord_153 (by decide) ?_
      exact rt_lfew [2, 3, 4, 5, 1, 0] rfl h

def zt_X1_lookAtRecord (l : Launch) (s0 : State) (G : va_G) (ca : Nat → ClassId) (d : Nat) (C : Nat × Nat) (S : zS) (w0 : rt_Wd) (p : Int) (v : Int) (e : Int) (M : zM) (Q : Int → zM → Prop) (X : zM → Prop) : Prop :=
  zm_X1_define l s0 G ca (d - 1) C S v 11 M (fun r4 M4 => zIf (w32 (M4 24 6) = 0) (∀ q22 : Nat, zstr s0 q22 [102, 105, 101, 108, 100, 115] → (zm_X8_member l s0 G ca (d - 1) C S v q22 M4 (fun r24 M24 => zIf (w32 r24 = ((-1))) (zm_X1_fail l s0 G ca (d - 1) C S 8 v M24 (fun r39 M39 => Q r39 M39) X) (zIf (w32 (((zat M24 8 2073 r24))) = 2) (zIf (w32 (((zat M24 16 2073 r24))) ≤ 32) (zm_X6_addParts l s0 G ca (d - 1) C S p r4 (((zat M24 16 2073 r24))) M24 (fun r90 M90 => zg_X1_lookAtRecord_107 l s0 G ca d C S w0 p e r4 (((zat M24 16 2073 r24))) (((zat M90 14 2073 r24))) 0 M90 Q X) X) (zm_X1_fail l s0 G ca (d - 1) C S 11 r24 M24 (fun r79 M79 => Q r79 M79) X)) (zm_X1_fail l s0 G ca (d - 1) C S 11 r24 M24 (fun r79 M79 => Q r79 M79) X))) X)) (Q r4 M4)) X
set_option maxRecDepth 100000 in
theorem z_X1_lookAtRecord {l : Launch} {s0 : State} {a0 : Array Value} {G : va_G} {ca : Nat → ClassId} (Γ : rt_Γ l s0 a0 G ca) {d : Nat} {C : Nat × Nat} {S : zS} (hd : 2 ≤ d) (hok : zok C) {p : Int} (hs : zSok S) (hp : zSc S p) (hs24 : S 24 = some (0, 1, [(3, 25), (3, 26), (3, 28), (3, p), (3, 6), (0, 0), (0, 0), (0, 0)])) (hs6 : S 6 = some (0, 8, [(3, 7), (3, 9), (3, 11), (3, 13), (3, 15), (3, 17), (3, 19), (3, 21), (3, 22), (3, 1), (0, 0), (0, 0), (0, 0)])) {v : Int} {e : Int} {M : zM} {Q : Int → zM → Prop} {X : zM → Prop} (h : zt_X1_lookAtRecord l s0 G ca d C S (zw s0 ca C S M) p v e M Q X) : zm_X1_lookAtRecord l s0 G ca d C S  v e M Q X := by
  refine z_met (lv := [(0, zv s0 2 24), (1, zv s0 0 v), (2, zv s0 0 e)]) Γ kk_X1_lookAtRecord rfl (show (lg_sl [zv s0 2 24, zv s0 0 v, zv s0 0 e]).length ≤ 8 from by simp only [zn_0, zn_2, show (lg_sl []).length = 0 from rfl]; omega) (show lv_args 0 [zv s0 2 24, zv s0 0 v, zv s0 0 e] = [(0, zv s0 2 24), (1, zv s0 0 v), (2, zv s0 0 e)] from by rw [zl_2, zl_0, zl_0]; rfl) ?_
  unfold zt_X1_lookAtRecord at h
  refine z_aload_n dX1_lookAtRecord_0 rfl (j := 0) rfl ?_
  refine z_iload_n dX1_lookAtRecord_1 rfl (j := 1) rfl ?_
  refine z_bipush dX1_lookAtRecord_2 (by decide) ?_
  refine z_callV Γ kk_X1_define kc_RX1_217 (As := [zv s0 0 v, zv s0 0 11]) h (by omega) (by decide) (show (parseMethodDescriptor yX1_define.desc).map (fun q => q.parameters.length) = some 2 by decide +kernel) hok (Nat.zero_le _) dX1_lookAtRecord_4 (by decide) hs24 rfl rfl (fun _ h9 => nomatch h9) ?_
  clear h
  intro r4 M4 h
  show rt_Go _ _ _ _ _ _ _ _ _ _ _ _ 7 [(0, zv s0 2 24), (1, zv s0 0 v), (2, zv s0 0 e)] [zv s0 0 r4] (zw s0 ca C S M4)
  refine z_istore_n (i := 3) (lv' := [(3, zv s0 0 r4), (0, zv s0 2 24), (1, zv s0 0 v), (2, zv s0 0 e)]) dX1_lookAtRecord_7 rfl (by decide) (by simp [zv_cat0, zv_cat1, zv_cat2, zv_cats]) ?_
  refine z_aload_n dX1_lookAtRecord_8 rfl (j := 1) rfl ?_
  refine z_get Γ kf_RX1_51 dX1_lookAtRecord_9 (by decide) hs24 rfl (by decide) (v9 := M4 24 6) rfl ?_
  refine z_if_eq (tgt := 17) (x' := w32 (M4 24 6)) rfl dX1_lookAtRecord_12 (by decide) (fun c12 => ?_) (fun c12 => ?_)
  · replace h := h.1 c12
    refine z_aload_n dX1_lookAtRecord_17 rfl (j := 1) rfl ?_
    refine z_getc Γ kf_RX1_37 dX1_lookAtRecord_18 (by decide) hs24 rfl ?_
    refine z_iload_n dX1_lookAtRecord_21 rfl (j := 2) rfl ?_
    obtain ⟨q22, hq22a, hq22b⟩ := ks_RX1_248 Γ
    have hq22 : zstr s0 q22 [102, 105, 101, 108, 100, 115] := ⟨hq22b, by decide, by decide⟩
    replace h := h q22 hq22
    refine rt_ldcS Γ hq22a dX1_lookAtRecord_22 ?_
    refine z_callV Γ kk_X8_member kc_RX1_172 (As := [zv s0 0 v, .ref q22]) h (by omega) (by decide) (show (parseMethodDescriptor yX8_member.desc).map (fun q => q.parameters.length) = some 2 by decide +kernel) hok (Nat.zero_le _) dX1_lookAtRecord_24 (by decide) hs6 rfl rfl (fun _ h9 => nomatch h9) ?_
    clear h
    intro r24 M24 h
    show rt_Go _ _ _ _ _ _ _ _ _ _ _ _ 27 [(3, zv s0 0 r4), (0, zv s0 2 24), (1, zv s0 0 v), (2, zv s0 0 e)] [zv s0 0 r24] (zw s0 ca C S M24)
    refine z_istore (i := 4) (lv' := [(4, zv s0 0 r24), (3, zv s0 0 r4), (0, zv s0 2 24), (1, zv s0 0 v), (2, zv s0 0 e)]) dX1_lookAtRecord_27 (by decide) (by simp [zv_cat0, zv_cat1, zv_cat2, zv_cats]) ?_
    refine z_iload dX1_lookAtRecord_29 (j := 0) rfl ?_
    refine z_iconst dX1_lookAtRecord_31 ?_
    refine z_icmp_ne (tgt := 43) (x' := w32 r24) (y' := ((-1))) rfl (by decide) dX1_lookAtRecord_32 (by decide) (fun c32 => ?_) (fun c32 => ?_)
    · replace h := h.2 c32
      refine z_aload_n dX1_lookAtRecord_43 rfl (j := 2) rfl ?_
      refine z_getc Γ kf_RX1_37 dX1_lookAtRecord_44 (by decide) hs24 rfl ?_
      refine z_iload dX1_lookAtRecord_47 (j := 0) rfl ?_
      refine z_callV Γ kk_X8_parts kc_RX1_140 (As := [zv s0 0 r24]) (z_X8_parts (d := d - 1) Γ (by omega) hok hs hs6 (M := M24) (Q := fun v9 M9 => v9 = ((zat M24 16 2073 r24)) ∧ M9 = M24) (X := X) (show _ ∧ _ from ⟨rfl, rfl⟩)) (by omega) (by decide) (show (parseMethodDescriptor yX8_parts.desc).map (fun q => q.parameters.length) = some 1 by decide +kernel) hok (Nat.zero_le _) dX1_lookAtRecord_49 (by decide) hs6 rfl rfl (fun _ h9 => nomatch h9) ?_
      rintro v9 M9 ⟨e9, e8⟩
      rw [e9, e8]
      clear e9 e8 v9 M9
      show rt_Go _ _ _ _ _ _ _ _ _ _ _ _ 52 [(4, zv s0 0 r24), (3, zv s0 0 r4), (0, zv s0 2 24), (1, zv s0 0 v), (2, zv s0 0 e)] [zv s0 0 (((zat M24 16 2073 r24)))] (zw s0 ca C S M24)
      refine z_istore (i := 5) (lv' := [(5, zv s0 0 (((zat M24 16 2073 r24)))), (4, zv s0 0 r24), (3, zv s0 0 r4), (0, zv s0 2 24), (1, zv s0 0 v), (2, zv s0 0 e)]) dX1_lookAtRecord_52 (by decide) (by simp [zv_cat0, zv_cat1, zv_cat2, zv_cats]) ?_
      refine z_aload_n dX1_lookAtRecord_54 rfl (j := 3) rfl ?_
      refine z_getc Γ kf_RX1_37 dX1_lookAtRecord_55 (by decide) hs24 rfl ?_
      refine z_iload dX1_lookAtRecord_58 (j := 1) rfl ?_
      refine z_callV Γ kk_X8_kind kc_RX1_85 (As := [zv s0 0 r24]) (z_X8_kind (d := d - 1) Γ (by omega) hok hs hs6 (M := M24) (Q := fun v9 M9 => v9 = ((zat M24 8 2073 r24)) ∧ M9 = M24) (X := X) (show _ ∧ _ from ⟨rfl, rfl⟩)) (by omega) (by decide) (show (parseMethodDescriptor yX8_kind.desc).map (fun q => q.parameters.length) = some 1 by decide +kernel) hok (Nat.zero_le _) dX1_lookAtRecord_60 (by decide) hs6 rfl rfl (fun _ h9 => nomatch h9) ?_
      rintro v9 M9 ⟨e9, e8⟩
      rw [e9, e8]
      clear e9 e8 v9 M9
      show rt_Go _ _ _ _ _ _ _ _ _ _ _ _ 63 [(5, zv s0 0 (((zat M24 16 2073 r24)))), (4, zv s0 0 r24), (3, zv s0 0 r4), (0, zv s0 2 24), (1, zv s0 0 v), (2, zv s0 0 e)] [zv s0 0 (((zat M24 8 2073 r24)))] (zw s0 ca C S M24)
      refine z_iconst dX1_lookAtRecord_63 ?_
      refine z_icmp_ne (tgt := 74) (x' := w32 (((zat M24 8 2073 r24)))) (y' := 2) rfl (by decide) dX1_lookAtRecord_64 (by decide) (fun c64 => ?_) (fun c64 => ?_)
      · replace h := h.2 c64
        refine z_aload_n dX1_lookAtRecord_74 rfl (j := 3) rfl ?_
        refine z_bipush dX1_lookAtRecord_75 (by decide) ?_
        refine z_iload dX1_lookAtRecord_77 (j := 1) rfl ?_
        refine z_callV Γ kk_X1_fail kc_RX1_81 (As := [zv s0 0 11, zv s0 0 r24]) h (by omega) (by decide) (show (parseMethodDescriptor yX1_fail.desc).map (fun q => q.parameters.length) = some 2 by decide +kernel) hok (Nat.zero_le _) dX1_lookAtRecord_79 (by decide) hs24 rfl rfl (fun _ h9 => nomatch h9) ?_
        clear h
        intro r79 M79 h
        show rt_Go _ _ _ _ _ _ _ _ _ _ _ _ 82 [(5, zv s0 0 (((zat M24 16 2073 r24)))), (4, zv s0 0 r24), (3, zv s0 0 r4), (0, zv s0 2 24), (1, zv s0 0 v), (2, zv s0 0 e)] [zv s0 0 r79] (zw s0 ca C S M79)
        exact z_iret dX1_lookAtRecord_82 rfl h
      · replace h := h.1 c64
        refine z_iload dX1_lookAtRecord_67 (j := 0) rfl ?_
        refine z_bipush dX1_lookAtRecord_69 (by decide) ?_
        refine z_icmp_le (tgt := 83) (x' := w32 (((zat M24 16 2073 r24)))) (y' := 32) rfl (by decide) dX1_lookAtRecord_71 (by decide) (fun c71 => ?_) (fun c71 => ?_)
        · replace h := h.1 c71
          refine z_aload_n dX1_lookAtRecord_83 rfl (j := 3) rfl ?_
          refine z_getc Γ kf_RX1_33 dX1_lookAtRecord_84 (by decide) hs24 rfl ?_
          refine z_iload_n dX1_lookAtRecord_87 rfl (j := 2) rfl ?_
          refine z_iload dX1_lookAtRecord_88 (j := 0) rfl ?_
          refine z_callV Γ kk_X6_addParts kc_RX1_146 (As := [zv s0 0 r4, zv s0 0 (((zat M24 16 2073 r24)))]) h (by omega) (by decide) (show (parseMethodDescriptor yX6_addParts.desc).map (fun q => q.parameters.length) = some 2 by decide +kernel) hok (Nat.zero_le _) dX1_lookAtRecord_90 hp.1 hp.2.1 rfl rfl (fun _ h9 => nomatch h9) ?_
          clear h
          intro r90 M90 h
          show rt_Go _ _ _ _ _ _ _ _ _ _ _ _ 93 [(5, zv s0 0 (((zat M24 16 2073 r24)))), (4, zv s0 0 r24), (3, zv s0 0 r4), (0, zv s0 2 24), (1, zv s0 0 v), (2, zv s0 0 e)] [] (zw s0 ca C S M90)
          refine z_aload_n dX1_lookAtRecord_93 rfl (j := 3) rfl ?_
          refine z_getc Γ kf_RX1_37 dX1_lookAtRecord_94 (by decide) hs24 rfl ?_
          refine z_iload dX1_lookAtRecord_97 (j := 1) rfl ?_
          refine z_callV Γ kk_X8_first kc_RX1_150 (As := [zv s0 0 r24]) (z_X8_first (d := d - 1) Γ (by omega) hok hs hs6 (M := M90) (Q := fun v9 M9 => v9 = ((zat M90 14 2073 r24)) ∧ M9 = M90) (X := X) (show _ ∧ _ from ⟨rfl, rfl⟩)) (by omega) (by decide) (show (parseMethodDescriptor yX8_first.desc).map (fun q => q.parameters.length) = some 1 by decide +kernel) hok (Nat.zero_le _) dX1_lookAtRecord_99 (by decide) hs6 rfl rfl (fun _ h9 => nomatch h9) ?_
          rintro v9 M9 ⟨e9, e8⟩
          rw [e9, e8]
          clear e9 e8 v9 M9
          show rt_Go _ _ _ _ _ _ _ _ _ _ _ _ 102 [(5, zv s0 0 (((zat M24 16 2073 r24)))), (4, zv s0 0 r24), (3, zv s0 0 r4), (0, zv s0 2 24), (1, zv s0 0 v), (2, zv s0 0 e)] [zv s0 0 (((zat M90 14 2073 r24)))] (zw s0 ca C S M90)
          refine z_istore (i := 6) (lv' := [(6, zv s0 0 (((zat M90 14 2073 r24)))), (5, zv s0 0 (((zat M24 16 2073 r24)))), (4, zv s0 0 r24), (3, zv s0 0 r4), (0, zv s0 2 24), (1, zv s0 0 v), (2, zv s0 0 e)]) dX1_lookAtRecord_102 (by decide) (by simp [zv_cat0, zv_cat1, zv_cat2, zv_cats]) ?_
          refine z_iconst dX1_lookAtRecord_104 ?_
          refine z_istore (i := 7) (lv' := [(7, zv s0 0 0), (6, zv s0 0 (((zat M90 14 2073 r24)))), (5, zv s0 0 (((zat M24 16 2073 r24)))), (4, zv s0 0 r24), (3, zv s0 0 r4), (0, zv s0 2 24), (1, zv s0 0 v), (2, zv s0 0 e)]) dX1_lookAtRecord_105 (by decide) (by simp [zv_cat0, zv_cat1, zv_cat2, zv_cats]) ?_
          exact rt_lfew [5, 7, 4, 2, 1, 0] rfl h
        · replace h := h.2 c71
          refine z_aload_n dX1_lookAtRecord_74 rfl (j := 3) rfl ?_
          refine z_bipush dX1_lookAtRecord_75 (by decide) ?_
          refine z_iload dX1_lookAtRecord_77 (j := 1) rfl ?_
          refine z_callV Γ kk_X1_fail kc_RX1_81 (As := [zv s0 0 11, zv s0 0 r24]) h (by omega) (by decide) (show (parseMethodDescriptor yX1_fail.desc).map (fun q => q.parameters.length) = some 2 by decide +kernel) hok (Nat.zero_le _) dX1_lookAtRecord_79 (by decide) hs24 rfl rfl (fun _ h9 => nomatch h9) ?_
          clear h
          intro r79 M79 h
          show rt_Go _ _ _ _ _ _ _ _ _ _ _ _ 82 [(5, zv s0 0 (((zat M24 16 2073 r24)))), (4, zv s0 0 r24), (3, zv s0 0 r4), (0, zv s0 2 24), (1, zv s0 0 v), (2, zv s0 0 e)] [zv s0 0 r79] (zw s0 ca C S M79)
          exact z_iret dX1_lookAtRecord_82 rfl h
    · replace h := h.1 c32
      refine z_aload_n dX1_lookAtRecord_35 rfl (j := 2) rfl ?_
      refine z_bipush dX1_lookAtRecord_36 (by decide) ?_
      refine z_iload_n dX1_lookAtRecord_38 rfl (j := 3) rfl ?_
      refine z_callV Γ kk_X1_fail kc_RX1_81 (As := [zv s0 0 8, zv s0 0 v]) h (by omega) (by decide) (show (parseMethodDescriptor yX1_fail.desc).map (fun q => q.parameters.length) = some 2 by decide +kernel) hok (Nat.zero_le _) dX1_lookAtRecord_39 (by decide) hs24 rfl rfl (fun _ h9 => nomatch h9) ?_
      clear h
      intro r39 M39 h
      show rt_Go _ _ _ _ _ _ _ _ _ _ _ _ 42 [(4, zv s0 0 r24), (3, zv s0 0 r4), (0, zv s0 2 24), (1, zv s0 0 v), (2, zv s0 0 e)] [zv s0 0 r39] (zw s0 ca C S M39)
      exact z_iret dX1_lookAtRecord_42 rfl h
  · replace h := h.2 c12
    refine z_iload_n dX1_lookAtRecord_15 rfl (j := 0) rfl ?_
    exact z_iret dX1_lookAtRecord_16 rfl h

def zt_X1_lookAtObject (l : Launch) (s0 : State) (G : va_G) (ca : Nat → ClassId) (d : Nat) (C : Nat × Nat) (S : zS) (w0 : rt_Wd) (p : Int) (v : Int) (e : Int) (M : zM) (Q : Int → zM → Prop) (X : zM → Prop) : Prop :=
  ∀ q5 : Nat, zstr s0 q5 [116, 121, 112, 101] → (zm_X8_member l s0 G ca (d - 1) C S v q5 M (fun r7 M7 => zIf (w32 ((zf_X8_isString M7 r7)) = 0) (zm_X1_fail l s0 G ca (d - 1) C S 7 v M7 (fun r26 M26 => Q r26 M26) X) (zm_X1_compound l s0 G ca (d - 1) C S r7 M7 (fun r32 M32 => zIf (w32 r32 = 6) (∀ q81 : Nat, zstr s0 q81 [105, 116, 101, 109, 115] → (zm_X8_member l s0 G ca (d - 1) C S v q81 M32 (fun r83 M83 => zm_X1_lookAtItems l s0 G ca (d - 1) C S v 6 r83 e M83 (fun r87 M87 => Q r87 M87) X) X)) (zIf (w32 r32 = 7) (∀ q100 : Nat, zstr s0 q100 [118, 97, 108, 117, 101, 115] → (zm_X8_member l s0 G ca (d - 1) C S v q100 M32 (fun r102 M102 => zm_X1_lookAtItems l s0 G ca (d - 1) C S v 7 r102 e M102 (fun r106 M106 => Q r106 M106) X) X)) (zIf (w32 r32 = 9) (zm_X1_lookAtFixed l s0 G ca (d - 1) C S v M32 (fun r112 M112 => Q r112 M112) X) (zIf (w32 r32 = 10) (zm_X1_lookAtEnum l s0 G ca (d - 1) C S v M32 (fun r118 M118 => Q r118 M118) X) (zIf (w32 r32 = 11) (zm_X1_lookAtRecord l s0 G ca (d - 1) C S v e M32 (fun r125 M125 => Q r125 M125) X) (zm_X1_known l s0 G ca (d - 1) C S r7 M32 (fun r131 M131 => Q r131 M131) X)))))) X)) X)
set_option maxRecDepth 100000 in
theorem z_X1_lookAtObject {l : Launch} {s0 : State} {a0 : Array Value} {G : va_G} {ca : Nat → ClassId} (Γ : rt_Γ l s0 a0 G ca) {d : Nat} {C : Nat × Nat} {S : zS} (hd : 2 ≤ d) (hok : zok C) {p : Int} (hs : zSok S) (hp : zSc S p) (hs24 : S 24 = some (0, 1, [(3, 25), (3, 26), (3, 28), (3, p), (3, 6), (0, 0), (0, 0), (0, 0)])) (hs6 : S 6 = some (0, 8, [(3, 7), (3, 9), (3, 11), (3, 13), (3, 15), (3, 17), (3, 19), (3, 21), (3, 22), (3, 1), (0, 0), (0, 0), (0, 0)])) {v : Int} {e : Int} {M : zM} {Q : Int → zM → Prop} {X : zM → Prop} (h : zt_X1_lookAtObject l s0 G ca d C S (zw s0 ca C S M) p v e M Q X) : zm_X1_lookAtObject l s0 G ca d C S  v e M Q X := by
  refine z_met (lv := [(0, zv s0 2 24), (1, zv s0 0 v), (2, zv s0 0 e)]) Γ kk_X1_lookAtObject rfl (show (lg_sl [zv s0 2 24, zv s0 0 v, zv s0 0 e]).length ≤ 4 from by simp only [zn_0, zn_2, show (lg_sl []).length = 0 from rfl]; omega) (show lv_args 0 [zv s0 2 24, zv s0 0 v, zv s0 0 e] = [(0, zv s0 2 24), (1, zv s0 0 v), (2, zv s0 0 e)] from by rw [zl_2, zl_0, zl_0]; rfl) ?_
  unfold zt_X1_lookAtObject at h
  refine z_aload_n dX1_lookAtObject_0 rfl (j := 0) rfl ?_
  refine z_getc Γ kf_RX1_37 dX1_lookAtObject_1 (by decide) hs24 rfl ?_
  refine z_iload_n dX1_lookAtObject_4 rfl (j := 1) rfl ?_
  obtain ⟨q5, hq5a, hq5b⟩ := ks_RX1_170 Γ
  have hq5 : zstr s0 q5 [116, 121, 112, 101] := ⟨hq5b, by decide, by decide⟩
  replace h := h q5 hq5
  refine rt_ldcS Γ hq5a dX1_lookAtObject_5 ?_
  refine z_callV Γ kk_X8_member kc_RX1_172 (As := [zv s0 0 v, .ref q5]) h (by omega) (by decide) (show (parseMethodDescriptor yX8_member.desc).map (fun q => q.parameters.length) = some 2 by decide +kernel) hok (Nat.zero_le _) dX1_lookAtObject_7 (by decide) hs6 rfl rfl (fun _ h9 => nomatch h9) ?_
  clear h
  intro r7 M7 h
  show rt_Go _ _ _ _ _ _ _ _ _ _ _ _ 10 [(0, zv s0 2 24), (1, zv s0 0 v), (2, zv s0 0 e)] [zv s0 0 r7] (zw s0 ca C S M7)
  refine z_istore_n (i := 3) (lv' := [(3, zv s0 0 r7), (0, zv s0 2 24), (1, zv s0 0 v), (2, zv s0 0 e)]) dX1_lookAtObject_10 rfl (by decide) (by simp [zv_cat0, zv_cat1, zv_cat2, zv_cats]) ?_
  refine z_aload_n dX1_lookAtObject_11 rfl (j := 1) rfl ?_
  refine z_getc Γ kf_RX1_37 dX1_lookAtObject_12 (by decide) hs24 rfl ?_
  refine z_iload_n dX1_lookAtObject_15 rfl (j := 0) rfl ?_
  refine z_callV Γ kk_X8_isString kc_RX1_176 (As := [zv s0 0 r7]) (k_X8_isString (d := d - 1) Γ (by omega) hok hs hs6 (M := M7) (Q := fun v9 M9 => v9 = (zf_X8_isString M7 r7) ∧ M9 = M7) (X := X) (show _ ∧ _ from ⟨rfl, rfl⟩)) (by omega) (by decide) (show (parseMethodDescriptor yX8_isString.desc).map (fun q => q.parameters.length) = some 1 by decide +kernel) hok (Nat.zero_le _) dX1_lookAtObject_16 (by decide) hs6 rfl rfl (fun _ h9 => nomatch h9) ?_
  rintro v9 M9 ⟨e9, e8⟩
  rw [e9, e8]
  clear e9 e8 v9 M9
  show rt_Go _ _ _ _ _ _ _ _ _ _ _ _ 19 [(3, zv s0 0 r7), (0, zv s0 2 24), (1, zv s0 0 v), (2, zv s0 0 e)] [zv s0 0 ((zf_X8_isString M7 r7))] (zw s0 ca C S M7)
  refine z_if_ne (tgt := 30) (x' := w32 ((zf_X8_isString M7 r7))) rfl dX1_lookAtObject_19 (by decide) (fun c19 => ?_) (fun c19 => ?_)
  · replace h := h.2 c19
    refine z_aload_n dX1_lookAtObject_30 rfl (j := 1) rfl ?_
    refine z_iload_n dX1_lookAtObject_31 rfl (j := 0) rfl ?_
    refine z_callV Γ kk_X1_compound kc_RX1_180 (As := [zv s0 0 r7]) h (by omega) (by decide) (show (parseMethodDescriptor yX1_compound.desc).map (fun q => q.parameters.length) = some 1 by decide +kernel) hok (Nat.zero_le _) dX1_lookAtObject_32 (by decide) hs24 rfl rfl (fun _ h9 => nomatch h9) ?_
    clear h
    intro r32 M32 h
    show rt_Go _ _ _ _ _ _ _ _ _ _ _ _ 35 [(3, zv s0 0 r7), (0, zv s0 2 24), (1, zv s0 0 v), (2, zv s0 0 e)] [zv s0 0 r32] (zw s0 ca C S M32)
    by_cases c35_6 : w32 r32 = 6
    · replace h := h.1 c35_6
      refine z_tin c35_6 dX1_lookAtObject_35 (by decide) (off := 37) (tgt := 72) (by decide) (by decide) ?_
      refine z_aload_n dX1_lookAtObject_72 rfl (j := 1) rfl ?_
      refine z_iload_n dX1_lookAtObject_73 rfl (j := 2) rfl ?_
      refine z_bipush dX1_lookAtObject_74 (by decide) ?_
      refine z_aload_n dX1_lookAtObject_76 rfl (j := 1) rfl ?_
      refine z_getc Γ kf_RX1_37 dX1_lookAtObject_77 (by decide) hs24 rfl ?_
      refine z_iload_n dX1_lookAtObject_80 rfl (j := 2) rfl ?_
      obtain ⟨q81, hq81a, hq81b⟩ := ks_RX1_183 Γ
      have hq81 : zstr s0 q81 [105, 116, 101, 109, 115] := ⟨hq81b, by decide, by decide⟩
      replace h := h q81 hq81
      refine rt_ldcS Γ hq81a dX1_lookAtObject_81 ?_
      refine z_callV Γ kk_X8_member kc_RX1_172 (As := [zv s0 0 v, .ref q81]) h (by omega) (by decide) (show (parseMethodDescriptor yX8_member.desc).map (fun q => q.parameters.length) = some 2 by decide +kernel) hok (by simp only [List.map, zv_cat0, zv_cat1, zv_cat2, List.sum_cons, List.sum_nil]; decide) dX1_lookAtObject_83 (by decide) hs6 rfl rfl (fun _ h9 => nomatch h9) ?_
      clear h
      intro r83 M83 h
      show rt_Go _ _ _ _ _ _ _ _ _ _ _ _ 86 [(3, zv s0 0 r7), (0, zv s0 2 24), (1, zv s0 0 v), (2, zv s0 0 e)] [zv s0 0 r83, zv s0 0 6, zv s0 0 v, zv s0 2 24] (zw s0 ca C S M83)
      refine z_iload_n dX1_lookAtObject_86 rfl (j := 3) rfl ?_
      refine z_callV Γ kk_X1_lookAtItems kc_RX1_185 (As := [zv s0 0 v, zv s0 0 6, zv s0 0 r83, zv s0 0 e]) h (by omega) (by decide) (show (parseMethodDescriptor yX1_lookAtItems.desc).map (fun q => q.parameters.length) = some 4 by decide +kernel) hok (Nat.zero_le _) dX1_lookAtObject_87 (by decide) hs24 rfl rfl (fun _ h9 => nomatch h9) ?_
      clear h
      intro r87 M87 h
      show rt_Go _ _ _ _ _ _ _ _ _ _ _ _ 90 [(3, zv s0 0 r7), (0, zv s0 2 24), (1, zv s0 0 v), (2, zv s0 0 e)] [zv s0 0 r87] (zw s0 ca C S M87)
      exact z_iret dX1_lookAtObject_90 rfl h
    replace h := h.2 c35_6
    by_cases c35_7 : w32 r32 = 7
    · replace h := h.1 c35_7
      refine z_tin c35_7 dX1_lookAtObject_35 (by decide) (off := 56) (tgt := 91) (by decide) (by decide) ?_
      refine z_aload_n dX1_lookAtObject_91 rfl (j := 1) rfl ?_
      refine z_iload_n dX1_lookAtObject_92 rfl (j := 2) rfl ?_
      refine z_bipush dX1_lookAtObject_93 (by decide) ?_
      refine z_aload_n dX1_lookAtObject_95 rfl (j := 1) rfl ?_
      refine z_getc Γ kf_RX1_37 dX1_lookAtObject_96 (by decide) hs24 rfl ?_
      refine z_iload_n dX1_lookAtObject_99 rfl (j := 2) rfl ?_
      obtain ⟨q100, hq100a, hq100b⟩ := ks_RX1_189 Γ
      have hq100 : zstr s0 q100 [118, 97, 108, 117, 101, 115] := ⟨hq100b, by decide, by decide⟩
      replace h := h q100 hq100
      refine rt_ldcS Γ hq100a dX1_lookAtObject_100 ?_
      refine z_callV Γ kk_X8_member kc_RX1_172 (As := [zv s0 0 v, .ref q100]) h (by omega) (by decide) (show (parseMethodDescriptor yX8_member.desc).map (fun q => q.parameters.length) = some 2 by decide +kernel) hok (by simp only [List.map, zv_cat0, zv_cat1, zv_cat2, List.sum_cons, List.sum_nil]; decide) dX1_lookAtObject_102 (by decide) hs6 rfl rfl (fun _ h9 => nomatch h9) ?_
      clear h
      intro r102 M102 h
      show rt_Go _ _ _ _ _ _ _ _ _ _ _ _ 105 [(3, zv s0 0 r7), (0, zv s0 2 24), (1, zv s0 0 v), (2, zv s0 0 e)] [zv s0 0 r102, zv s0 0 7, zv s0 0 v, zv s0 2 24] (zw s0 ca C S M102)
      refine z_iload_n dX1_lookAtObject_105 rfl (j := 3) rfl ?_
      refine z_callV Γ kk_X1_lookAtItems kc_RX1_185 (As := [zv s0 0 v, zv s0 0 7, zv s0 0 r102, zv s0 0 e]) h (by omega) (by decide) (show (parseMethodDescriptor yX1_lookAtItems.desc).map (fun q => q.parameters.length) = some 4 by decide +kernel) hok (Nat.zero_le _) dX1_lookAtObject_106 (by decide) hs24 rfl rfl (fun _ h9 => nomatch h9) ?_
      clear h
      intro r106 M106 h
      show rt_Go _ _ _ _ _ _ _ _ _ _ _ _ 109 [(3, zv s0 0 r7), (0, zv s0 2 24), (1, zv s0 0 v), (2, zv s0 0 e)] [zv s0 0 r106] (zw s0 ca C S M106)
      exact z_iret dX1_lookAtObject_109 rfl h
    replace h := h.2 c35_7
    by_cases c35_9 : w32 r32 = 9
    · replace h := h.1 c35_9
      refine z_tin c35_9 dX1_lookAtObject_35 (by decide) (off := 75) (tgt := 110) (by decide) (by decide) ?_
      refine z_aload_n dX1_lookAtObject_110 rfl (j := 1) rfl ?_
      refine z_iload_n dX1_lookAtObject_111 rfl (j := 2) rfl ?_
      refine z_callV Γ kk_X1_lookAtFixed kc_RX1_191 (As := [zv s0 0 v]) h (by omega) (by decide) (show (parseMethodDescriptor yX1_lookAtFixed.desc).map (fun q => q.parameters.length) = some 1 by decide +kernel) hok (Nat.zero_le _) dX1_lookAtObject_112 (by decide) hs24 rfl rfl (fun _ h9 => nomatch h9) ?_
      clear h
      intro r112 M112 h
      show rt_Go _ _ _ _ _ _ _ _ _ _ _ _ 115 [(3, zv s0 0 r7), (0, zv s0 2 24), (1, zv s0 0 v), (2, zv s0 0 e)] [zv s0 0 r112] (zw s0 ca C S M112)
      exact z_iret dX1_lookAtObject_115 rfl h
    replace h := h.2 c35_9
    by_cases c35_10 : w32 r32 = 10
    · replace h := h.1 c35_10
      refine z_tin c35_10 dX1_lookAtObject_35 (by decide) (off := 81) (tgt := 116) (by decide) (by decide) ?_
      refine z_aload_n dX1_lookAtObject_116 rfl (j := 1) rfl ?_
      refine z_iload_n dX1_lookAtObject_117 rfl (j := 2) rfl ?_
      refine z_callV Γ kk_X1_lookAtEnum kc_RX1_194 (As := [zv s0 0 v]) h (by omega) (by decide) (show (parseMethodDescriptor yX1_lookAtEnum.desc).map (fun q => q.parameters.length) = some 1 by decide +kernel) hok (Nat.zero_le _) dX1_lookAtObject_118 (by decide) hs24 rfl rfl (fun _ h9 => nomatch h9) ?_
      clear h
      intro r118 M118 h
      show rt_Go _ _ _ _ _ _ _ _ _ _ _ _ 121 [(3, zv s0 0 r7), (0, zv s0 2 24), (1, zv s0 0 v), (2, zv s0 0 e)] [zv s0 0 r118] (zw s0 ca C S M118)
      exact z_iret dX1_lookAtObject_121 rfl h
    replace h := h.2 c35_10
    by_cases c35_11 : w32 r32 = 11
    · replace h := h.1 c35_11
      refine z_tin c35_11 dX1_lookAtObject_35 (by decide) (off := 87) (tgt := 122) (by decide) (by decide) ?_
      refine z_aload_n dX1_lookAtObject_122 rfl (j := 1) rfl ?_
      refine z_iload_n dX1_lookAtObject_123 rfl (j := 2) rfl ?_
      refine z_iload_n dX1_lookAtObject_124 rfl (j := 3) rfl ?_
      refine z_callV Γ kk_X1_lookAtRecord kc_RX1_197 (As := [zv s0 0 v, zv s0 0 e]) h (by omega) (by decide) (show (parseMethodDescriptor yX1_lookAtRecord.desc).map (fun q => q.parameters.length) = some 2 by decide +kernel) hok (Nat.zero_le _) dX1_lookAtObject_125 (by decide) hs24 rfl rfl (fun _ h9 => nomatch h9) ?_
      clear h
      intro r125 M125 h
      show rt_Go _ _ _ _ _ _ _ _ _ _ _ _ 128 [(3, zv s0 0 r7), (0, zv s0 2 24), (1, zv s0 0 v), (2, zv s0 0 e)] [zv s0 0 r125] (zw s0 ca C S M125)
      exact z_iret dX1_lookAtObject_128 rfl h
    replace h := h.2 c35_11
    by_cases c35_8 : w32 r32 = 8
    · refine z_tin c35_8 dX1_lookAtObject_35 (by decide) (off := 94) (tgt := 129) (by decide) (by decide) ?_
      refine z_aload_n dX1_lookAtObject_129 rfl (j := 1) rfl ?_
      refine z_iload_n dX1_lookAtObject_130 rfl (j := 0) rfl ?_
      refine z_callV Γ kk_X1_known kc_RX1_88 (As := [zv s0 0 r7]) h (by omega) (by decide) (show (parseMethodDescriptor yX1_known.desc).map (fun q => q.parameters.length) = some 1 by decide +kernel) hok (Nat.zero_le _) dX1_lookAtObject_131 (by decide) hs24 rfl rfl (fun _ h9 => nomatch h9) ?_
      clear h
      intro r131 M131 h
      show rt_Go _ _ _ _ _ _ _ _ _ _ _ _ 134 [(3, zv s0 0 r7), (0, zv s0 2 24), (1, zv s0 0 v), (2, zv s0 0 e)] [zv s0 0 r131] (zw s0 ca C S M131)
      exact z_iret dX1_lookAtObject_134 rfl h
    refine z_tout dX1_lookAtObject_35 (show w32 r32 < 6 ∨ 11 < w32 r32 from by omega) (tgt := 129) (by decide) ?_
    refine z_aload_n dX1_lookAtObject_129 rfl (j := 1) rfl ?_
    refine z_iload_n dX1_lookAtObject_130 rfl (j := 0) rfl ?_
    refine z_callV Γ kk_X1_known kc_RX1_88 (As := [zv s0 0 r7]) h (by omega) (by decide) (show (parseMethodDescriptor yX1_known.desc).map (fun q => q.parameters.length) = some 1 by decide +kernel) hok (Nat.zero_le _) dX1_lookAtObject_131 (by decide) hs24 rfl rfl (fun _ h9 => nomatch h9) ?_
    clear h
    intro r131 M131 h
    show rt_Go _ _ _ _ _ _ _ _ _ _ _ _ 134 [(3, zv s0 0 r7), (0, zv s0 2 24), (1, zv s0 0 v), (2, zv s0 0 e)] [zv s0 0 r131] (zw s0 ca C S M131)
    exact z_iret dX1_lookAtObject_134 rfl h
  · replace h := h.1 c19
    refine z_aload_n dX1_lookAtObject_22 rfl (j := 1) rfl ?_
    refine z_bipush dX1_lookAtObject_23 (by decide) ?_
    refine z_iload_n dX1_lookAtObject_25 rfl (j := 2) rfl ?_
    refine z_callV Γ kk_X1_fail kc_RX1_81 (As := [zv s0 0 7, zv s0 0 v]) h (by omega) (by decide) (show (parseMethodDescriptor yX1_fail.desc).map (fun q => q.parameters.length) = some 2 by decide +kernel) hok (Nat.zero_le _) dX1_lookAtObject_26 (by decide) hs24 rfl rfl (fun _ h9 => nomatch h9) ?_
    clear h
    intro r26 M26 h
    show rt_Go _ _ _ _ _ _ _ _ _ _ _ _ 29 [(3, zv s0 0 r7), (0, zv s0 2 24), (1, zv s0 0 v), (2, zv s0 0 e)] [zv s0 0 r26] (zw s0 ca C S M26)
    exact z_iret dX1_lookAtObject_29 rfl h

def zt_X1_look (l : Launch) (s0 : State) (G : va_G) (ca : Nat → ClassId) (d : Nat) (C : Nat × Nat) (S : zS) (w0 : rt_Wd) (p : Int) (v : Int) (e : Int) (b : Int) (M : zM) (Q : Int → zM → Prop) (X : zM → Prop) : Prop :=
  zIf (w32 (M 24 5) < 128) (zIf (w32 e < 16) (zIf (w32 (((zat ((zu M 24 5 ((M 24 5) + 1))) 8 2073 v))) = 3) (zm_X1_known l s0 G ca (d - 1) C S v ((zu M 24 5 ((M 24 5) + 1))) (fun r60 M60 => Q r60 M60) X) (zIf (w32 (((zat ((zu M 24 5 ((M 24 5) + 1))) 8 2073 v))) = 2) (zIf (w32 b = 0) (zm_X1_lookAtUnion l s0 G ca (d - 1) C S v e ((zu M 24 5 ((M 24 5) + 1))) (fun r86 M86 => Q r86 M86) X) (zm_X1_fail l s0 G ca (d - 1) C S 4 v ((zu M 24 5 ((M 24 5) + 1))) (fun r77 M77 => Q r77 M77) X)) (zIf (w32 (((zat ((zu M 24 5 ((M 24 5) + 1))) 8 2073 v))) = 1) (zm_X1_lookAtObject l s0 G ca (d - 1) C S v e ((zu M 24 5 ((M 24 5) + 1))) (fun r99 M99 => Q r99 M99) X) (zm_X1_fail l s0 G ca (d - 1) C S 2 v ((zu M 24 5 ((M 24 5) + 1))) (fun r108 M108 => Q r108 M108) X)))) (zm_X1_fail l s0 G ca (d - 1) C S 14 v M (fun r28 M28 => Q r28 M28) X)) (zm_X1_fail l s0 G ca (d - 1) C S 13 v M (fun r14 M14 => Q r14 M14) X)
set_option maxRecDepth 100000 in
theorem z_X1_look {l : Launch} {s0 : State} {a0 : Array Value} {G : va_G} {ca : Nat → ClassId} (Γ : rt_Γ l s0 a0 G ca) {d : Nat} {C : Nat × Nat} {S : zS} (hd : 2 ≤ d) (hok : zok C) {p : Int} (hs : zSok S) (hp : zSc S p) (hs24 : S 24 = some (0, 1, [(3, 25), (3, 26), (3, 28), (3, p), (3, 6), (0, 0), (0, 0), (0, 0)])) (hs6 : S 6 = some (0, 8, [(3, 7), (3, 9), (3, 11), (3, 13), (3, 15), (3, 17), (3, 19), (3, 21), (3, 22), (3, 1), (0, 0), (0, 0), (0, 0)])) {v : Int} {e : Int} {b : Int} {M : zM} {Q : Int → zM → Prop} {X : zM → Prop} (h : zt_X1_look l s0 G ca d C S (zw s0 ca C S M) p v e b M Q X) : zm_X1_look l s0 G ca d C S  v e b M Q X := by
  refine z_met (lv := [(0, zv s0 2 24), (1, zv s0 0 v), (2, zv s0 0 e), (3, zv s0 0 b)]) Γ kk_X1_look rfl (show (lg_sl [zv s0 2 24, zv s0 0 v, zv s0 0 e, zv s0 0 b]).length ≤ 5 from by simp only [zn_0, zn_2, show (lg_sl []).length = 0 from rfl]; omega) (show lv_args 0 [zv s0 2 24, zv s0 0 v, zv s0 0 e, zv s0 0 b] = [(0, zv s0 2 24), (1, zv s0 0 v), (2, zv s0 0 e), (3, zv s0 0 b)] from by rw [zl_2, zl_0, zl_0, zl_0]; rfl) ?_
  unfold zt_X1_look at h
  refine z_aload_n dX1_look_0 rfl (j := 0) rfl ?_
  refine z_get Γ kf_RX1_47 dX1_look_1 (by decide) hs24 rfl (by decide) (v9 := M 24 5) rfl ?_
  refine z_sipush dX1_look_4 (by decide) ?_
  refine z_icmp_lt (tgt := 18) (x' := w32 (M 24 5)) (y' := 128) rfl (by decide) dX1_look_7 (by decide) (fun c7 => ?_) (fun c7 => ?_)
  · replace h := h.1 c7
    refine z_iload_n dX1_look_18 rfl (j := 2) rfl ?_
    refine z_bipush dX1_look_19 (by decide) ?_
    refine z_icmp_lt (tgt := 32) (x' := w32 e) (y' := 16) rfl (by decide) dX1_look_21 (by decide) (fun c21 => ?_) (fun c21 => ?_)
    · replace h := h.1 c21
      refine z_aload_n dX1_look_32 rfl (j := 0) rfl ?_
      refine z_dup2 dX1_look_33 ?_
      refine z_get Γ kf_RX1_47 dX1_look_34 (by decide) hs24 rfl (by decide) (v9 := M 24 5) rfl ?_
      refine z_iconst dX1_look_37 ?_
      refine z_iadd dX1_look_38 ?_
      refine z_put0 Γ kp_RX1_47 dX1_look_39 (by decide) hs24 rfl (k9 := 5) rfl ?_
      refine z_aload_n dX1_look_42 rfl (j := 0) rfl ?_
      refine z_getc Γ kf_RX1_37 dX1_look_43 (by decide) hs24 rfl ?_
      refine z_iload_n dX1_look_46 rfl (j := 1) rfl ?_
      refine z_callV Γ kk_X8_kind kc_RX1_85 (As := [zv s0 0 v]) (z_X8_kind (d := d - 1) Γ (by omega) hok hs hs6 (M := ((zu M 24 5 ((M 24 5) + 1)))) (Q := fun v9 M9 => v9 = ((zat ((zu M 24 5 ((M 24 5) + 1))) 8 2073 v)) ∧ M9 = ((zu M 24 5 ((M 24 5) + 1)))) (X := X) (show _ ∧ _ from ⟨rfl, rfl⟩)) (by omega) (by decide) (show (parseMethodDescriptor yX8_kind.desc).map (fun q => q.parameters.length) = some 1 by decide +kernel) hok (Nat.zero_le _) dX1_look_47 (by decide) hs6 rfl rfl (fun _ h9 => nomatch h9) ?_
      rintro v9 M9 ⟨e9, e8⟩
      rw [e9, e8]
      clear e9 e8 v9 M9
      show rt_Go _ _ _ _ _ _ _ _ _ _ _ _ 50 [(0, zv s0 2 24), (1, zv s0 0 v), (2, zv s0 0 e), (3, zv s0 0 b)] [zv s0 0 (((zat ((zu M 24 5 ((M 24 5) + 1))) 8 2073 v)))] (zw s0 ca C S ((zu M 24 5 ((M 24 5) + 1))))
      refine z_istore (i := 4) (lv' := [(4, zv s0 0 (((zat ((zu M 24 5 ((M 24 5) + 1))) 8 2073 v)))), (0, zv s0 2 24), (1, zv s0 0 v), (2, zv s0 0 e), (3, zv s0 0 b)]) dX1_look_50 (by decide) (by simp [zv_cat0, zv_cat1, zv_cat2, zv_cats]) ?_
      refine z_iload dX1_look_52 (j := 0) rfl ?_
      refine z_iconst dX1_look_54 ?_
      refine z_icmp_ne (tgt := 64) (x' := w32 (((zat ((zu M 24 5 ((M 24 5) + 1))) 8 2073 v)))) (y' := 3) rfl (by decide) dX1_look_55 (by decide) (fun c55 => ?_) (fun c55 => ?_)
      · replace h := h.2 c55
        refine z_iload dX1_look_64 (j := 0) rfl ?_
        refine z_iconst dX1_look_66 ?_
        refine z_icmp_ne (tgt := 90) (x' := w32 (((zat ((zu M 24 5 ((M 24 5) + 1))) 8 2073 v)))) (y' := 2) rfl (by decide) dX1_look_67 (by decide) (fun c67 => ?_) (fun c67 => ?_)
        · replace h := h.2 c67
          refine z_iload dX1_look_90 (j := 0) rfl ?_
          refine z_iconst dX1_look_92 ?_
          refine z_icmp_ne (tgt := 105) (x' := w32 (((zat ((zu M 24 5 ((M 24 5) + 1))) 8 2073 v)))) (y' := 1) rfl (by decide) dX1_look_93 (by decide) (fun c93 => ?_) (fun c93 => ?_)
          · replace h := h.2 c93
            refine z_aload_n dX1_look_105 rfl (j := 1) rfl ?_
            refine z_iconst dX1_look_106 ?_
            refine z_iload_n dX1_look_107 rfl (j := 2) rfl ?_
            refine z_callV Γ kk_X1_fail kc_RX1_81 (As := [zv s0 0 2, zv s0 0 v]) h (by omega) (by decide) (show (parseMethodDescriptor yX1_fail.desc).map (fun q => q.parameters.length) = some 2 by decide +kernel) hok (Nat.zero_le _) dX1_look_108 (by decide) hs24 rfl rfl (fun _ h9 => nomatch h9) ?_
            clear h
            intro r108 M108 h
            show rt_Go _ _ _ _ _ _ _ _ _ _ _ _ 111 [(4, zv s0 0 (((zat ((zu M 24 5 ((M 24 5) + 1))) 8 2073 v)))), (0, zv s0 2 24), (1, zv s0 0 v), (2, zv s0 0 e), (3, zv s0 0 b)] [zv s0 0 r108] (zw s0 ca C S M108)
            exact z_iret dX1_look_111 rfl h
          · replace h := h.1 c93
            refine z_aload_n dX1_look_96 rfl (j := 1) rfl ?_
            refine z_iload_n dX1_look_97 rfl (j := 2) rfl ?_
            refine z_iload_n dX1_look_98 rfl (j := 3) rfl ?_
            refine z_callV Γ kk_X1_lookAtObject kc_RX1_94 (As := [zv s0 0 v, zv s0 0 e]) h (by omega) (by decide) (show (parseMethodDescriptor yX1_lookAtObject.desc).map (fun q => q.parameters.length) = some 2 by decide +kernel) hok (Nat.zero_le _) dX1_look_99 (by decide) hs24 rfl rfl (fun _ h9 => nomatch h9) ?_
            clear h
            intro r99 M99 h
            show rt_Go _ _ _ _ _ _ _ _ _ _ _ _ 102 [(4, zv s0 0 (((zat ((zu M 24 5 ((M 24 5) + 1))) 8 2073 v)))), (0, zv s0 2 24), (1, zv s0 0 v), (2, zv s0 0 e), (3, zv s0 0 b)] [zv s0 0 r99] (zw s0 ca C S M99)
            refine rt_goto (tgt := 111) dX1_look_102 (by decide) ?_
            exact z_iret dX1_look_111 rfl h
        · replace h := h.1 c67
          refine z_iload_n dX1_look_70 rfl (j := 4) rfl ?_
          refine z_if_eq (tgt := 83) (x' := w32 b) rfl dX1_look_71 (by decide) (fun c71 => ?_) (fun c71 => ?_)
          · replace h := h.1 c71
            refine z_aload_n dX1_look_83 rfl (j := 1) rfl ?_
            refine z_iload_n dX1_look_84 rfl (j := 2) rfl ?_
            refine z_iload_n dX1_look_85 rfl (j := 3) rfl ?_
            refine z_callV Γ kk_X1_lookAtUnion kc_RX1_91 (As := [zv s0 0 v, zv s0 0 e]) h (by omega) (by decide) (show (parseMethodDescriptor yX1_lookAtUnion.desc).map (fun q => q.parameters.length) = some 2 by decide +kernel) hok (Nat.zero_le _) dX1_look_86 (by decide) hs24 rfl rfl (fun _ h9 => nomatch h9) ?_
            clear h
            intro r86 M86 h
            show rt_Go _ _ _ _ _ _ _ _ _ _ _ _ 89 [(4, zv s0 0 (((zat ((zu M 24 5 ((M 24 5) + 1))) 8 2073 v)))), (0, zv s0 2 24), (1, zv s0 0 v), (2, zv s0 0 e), (3, zv s0 0 b)] [zv s0 0 r86] (zw s0 ca C S M86)
            exact z_iret dX1_look_89 rfl h
          · replace h := h.2 c71
            refine z_aload_n dX1_look_74 rfl (j := 1) rfl ?_
            refine z_iconst dX1_look_75 ?_
            refine z_iload_n dX1_look_76 rfl (j := 2) rfl ?_
            refine z_callV Γ kk_X1_fail kc_RX1_81 (As := [zv s0 0 4, zv s0 0 v]) h (by omega) (by decide) (show (parseMethodDescriptor yX1_fail.desc).map (fun q => q.parameters.length) = some 2 by decide +kernel) hok (Nat.zero_le _) dX1_look_77 (by decide) hs24 rfl rfl (fun _ h9 => nomatch h9) ?_
            clear h
            intro r77 M77 h
            show rt_Go _ _ _ _ _ _ _ _ _ _ _ _ 80 [(4, zv s0 0 (((zat ((zu M 24 5 ((M 24 5) + 1))) 8 2073 v)))), (0, zv s0 2 24), (1, zv s0 0 v), (2, zv s0 0 e), (3, zv s0 0 b)] [zv s0 0 r77] (zw s0 ca C S M77)
            refine rt_goto (tgt := 89) dX1_look_80 (by decide) ?_
            exact z_iret dX1_look_89 rfl h
      · replace h := h.1 c55
        refine z_aload_n dX1_look_58 rfl (j := 1) rfl ?_
        refine z_iload_n dX1_look_59 rfl (j := 2) rfl ?_
        refine z_callV Γ kk_X1_known kc_RX1_88 (As := [zv s0 0 v]) h (by omega) (by decide) (show (parseMethodDescriptor yX1_known.desc).map (fun q => q.parameters.length) = some 1 by decide +kernel) hok (Nat.zero_le _) dX1_look_60 (by decide) hs24 rfl rfl (fun _ h9 => nomatch h9) ?_
        clear h
        intro r60 M60 h
        show rt_Go _ _ _ _ _ _ _ _ _ _ _ _ 63 [(4, zv s0 0 (((zat ((zu M 24 5 ((M 24 5) + 1))) 8 2073 v)))), (0, zv s0 2 24), (1, zv s0 0 v), (2, zv s0 0 e), (3, zv s0 0 b)] [zv s0 0 r60] (zw s0 ca C S M60)
        exact z_iret dX1_look_63 rfl h
    · replace h := h.2 c21
      refine z_aload_n dX1_look_24 rfl (j := 0) rfl ?_
      refine z_bipush dX1_look_25 (by decide) ?_
      refine z_iload_n dX1_look_27 rfl (j := 1) rfl ?_
      refine z_callV Γ kk_X1_fail kc_RX1_81 (As := [zv s0 0 14, zv s0 0 v]) h (by omega) (by decide) (show (parseMethodDescriptor yX1_fail.desc).map (fun q => q.parameters.length) = some 2 by decide +kernel) hok (Nat.zero_le _) dX1_look_28 (by decide) hs24 rfl rfl (fun _ h9 => nomatch h9) ?_
      clear h
      intro r28 M28 h
      show rt_Go _ _ _ _ _ _ _ _ _ _ _ _ 31 [(0, zv s0 2 24), (1, zv s0 0 v), (2, zv s0 0 e), (3, zv s0 0 b)] [zv s0 0 r28] (zw s0 ca C S M28)
      exact z_iret dX1_look_31 rfl h
  · replace h := h.2 c7
    refine z_aload_n dX1_look_10 rfl (j := 0) rfl ?_
    refine z_bipush dX1_look_11 (by decide) ?_
    refine z_iload_n dX1_look_13 rfl (j := 1) rfl ?_
    refine z_callV Γ kk_X1_fail kc_RX1_81 (As := [zv s0 0 13, zv s0 0 v]) h (by omega) (by decide) (show (parseMethodDescriptor yX1_fail.desc).map (fun q => q.parameters.length) = some 2 by decide +kernel) hok (Nat.zero_le _) dX1_look_14 (by decide) hs24 rfl rfl (fun _ h9 => nomatch h9) ?_
    clear h
    intro r14 M14 h
    show rt_Go _ _ _ _ _ _ _ _ _ _ _ _ 17 [(0, zv s0 2 24), (1, zv s0 0 v), (2, zv s0 0 e), (3, zv s0 0 b)] [zv s0 0 r14] (zw s0 ca C S M14)
    exact z_iret dX1_look_17 rfl h

