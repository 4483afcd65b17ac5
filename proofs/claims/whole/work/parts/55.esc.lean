/-! ===== trees: escaped ===== -/
abbrev zg_X10_escaped_35 (l : Launch) (s0 : State) (G : va_G) (ca : Nat → ClassId) (d : Nat) (C : Nat × Nat) (S : zS) (w0 : rt_Wd) (t : Int) (v1 : Int) (k0 : Int) (M : zM) (Q : Int → zM → Prop) (X : zM → Prop) : Prop := rt_Go l s0 G RX10 "escaped" cX10_escaped 6 (Option.some FieldType.int) [] d w0 (zQ s0 ca 0 C S Q X) 35 [(0, zv s0 2 t), (1, zv s0 0 v1)] [zv s0 0 k0] (zw s0 ca C S M)
abbrev zg_X10_escaped_135 (l : Launch) (s0 : State) (G : va_G) (ca : Nat → ClassId) (d : Nat) (C : Nat × Nat) (S : zS) (w0 : rt_Wd) (t : Int) (v1 : Int) (v4 : Int) (v5 : Int)  (M : zM) (Q : Int → zM → Prop) (X : zM → Prop) : Prop := rt_Go l s0 G RX10 "escaped" cX10_escaped 6 (Option.some FieldType.int) [] d w0 (zQ s0 ca 0 C S Q X) 135 [(0, zv s0 2 t), (1, zv s0 0 v1), (4, zv s0 0 v4), (5, zv s0 0 v5)] [] (zw s0 ca C S M)
abbrev zg_X10_escaped_157 (l : Launch) (s0 : State) (G : va_G) (ca : Nat → ClassId) (d : Nat) (C : Nat × Nat) (S : zS) (w0 : rt_Wd) (t : Int) (v1 : Int) (v4 : Int) (v5 : Int) (k0 : Int) (M : zM) (Q : Int → zM → Prop) (X : zM → Prop) : Prop := rt_Go l s0 G RX10 "escaped" cX10_escaped 6 (Option.some FieldType.int) [] d w0 (zQ s0 ca 0 C S Q X) 157 [(0, zv s0 2 t), (1, zv s0 0 v1), (4, zv s0 0 v4), (5, zv s0 0 v5)] [zv s0 0 k0, zv s0 2 t] (zw s0 ca C S M)
def zt_X10_escaped_35 (l : Launch) (s0 : State) (G : va_G) (ca : Nat → ClassId) (d : Nat) (C : Nat × Nat) (S : zS) (w0 : rt_Wd) (t : Int) (v1 : Int) (k0 : Int) (M : zM) (Q : Int → zM → Prop) (X : zM → Prop) : Prop :=
  zIf (w32 k0 < 0) (zm_X10_take l s0 G ca (d - 1) C S t 117 M (fun r126 M126 => zg_X10_escaped_135 l s0 G ca d C S w0 t v1 0 0 M126 Q X) X) (zIf (w32 k0 = 0) (Q 34 ((zu M t 2 ((M t 2) + 1)))) (zIf (w32 k0 = 1) (Q 92 ((zu M t 2 ((M t 2) + 1)))) (zIf (w32 k0 = 2) (Q 47 ((zu M t 2 ((M t 2) + 1)))) (zIf (w32 k0 = 3) (Q 8 ((zu M t 2 ((M t 2) + 1)))) (zIf (w32 k0 = 4) (Q 12 ((zu M t 2 ((M t 2) + 1)))) (zIf (w32 k0 = 5) (Q 10 ((zu M t 2 ((M t 2) + 1)))) (zIf (w32 k0 = 6) (Q 13 ((zu M t 2 ((M t 2) + 1)))) (Q 9 ((zu M t 2 ((M t 2) + 1)))))))))))
set_option maxRecDepth 100000 in
theorem zs_X10_escaped_35 {l : Launch} {s0 : State} {a0 : Array Value} {G : va_G} {ca : Nat → ClassId} (Γ : rt_Γ l s0 a0 G ca) {d : Nat} {C : Nat × Nat} {S : zS} (hd : 4 ≤ d) (hok : zok C) {t : Int} (ht : zTx S t) {w0 : rt_Wd} {v1 : Int} {k0 : Int}  {M : zM} {Q : Int → zM → Prop} {X : zM → Prop} (h : zt_X10_escaped_35 l s0 G ca d C S w0 t v1 k0 M Q X) : zg_X10_escaped_35 l s0 G ca d C S w0 t v1 k0 M Q X := by
  unfold zt_X10_escaped_35 at h
  refine z_istore_n (i := 3) (lv' := [(3, zv s0 0 k0), (0, zv s0 2 t), (1, zv s0 0 v1)]) dX10_escaped_35 rfl (by decide) (by simp [zv_cat0, zv_cat1, zv_cat2, zv_cats]) ?_
  refine z_iload_n dX10_escaped_36 rfl (j := 0) rfl ?_
  refine z_if_lt (tgt := 123) (x' := w32 k0) rfl dX10_escaped_37 (by decide) (fun c37 => ?_) (fun c37 => ?_)
  · replace h := h.1 c37
    refine z_aload_n dX10_escaped_123 rfl (j := 1) rfl ?_
    refine z_bipush dX10_escaped_124 (by decide) ?_
    refine z_callV Γ kk_X10_take kc_RX10_145 (As := [zv s0 0 117]) h (by omega) (by decide) (show (parseMethodDescriptor yX10_take.desc).map (fun q => q.parameters.length) = some 1 by decide +kernel) hok (Nat.zero_le _) dX10_escaped_126 ht.1 ht.2.1 rfl rfl (fun _ h9 => nomatch h9) ?_
    clear h
    intro r126 M126 h
    show rt_Go _ _ _ _ _ _ _ _ _ _ _ _ 129 [(3, zv s0 0 k0), (0, zv s0 2 t), (1, zv s0 0 v1)] [] (zw s0 ca C S M126)
    refine z_iconst dX10_escaped_129 ?_
    refine z_istore (i := 4) (lv' := [(4, zv s0 0 0), (3, zv s0 0 k0), (0, zv s0 2 t), (1, zv s0 0 v1)]) dX10_escaped_130 (by decide) (by simp [zv_cat0, zv_cat1, zv_cat2, zv_cats]) ?_
    refine z_iconst dX10_escaped_132 ?_
    refine z_istore (i := 5) (lv' := [(5, zv s0 0 0), (4, zv s0 0 0), (3, zv s0 0 k0), (0, zv s0 2 t), (1, zv s0 0 v1)]) dX10_escaped_133 (by decide) (by simp [zv_cat0, zv_cat1, zv_cat2, zv_cats]) ?_
    exact rt_lfew [3, 4, 1, 0] rfl h
  · replace h := h.2 c37
    refine z_aload_n dX10_escaped_40 rfl (j := 1) rfl ?_
    refine z_dup2 dX10_escaped_41 ?_
    refine z_get Γ kf_RX10_95 dX10_escaped_42 ht.1 ht.2.1 rfl (by decide) (v9 := M t 2) rfl ?_
    refine z_iconst dX10_escaped_45 ?_
    refine z_iadd dX10_escaped_46 ?_
    refine z_put0 Γ kp_RX10_95 dX10_escaped_47 ht.1 ht.2.1 rfl (k9 := 2) rfl ?_
    refine z_iload_n dX10_escaped_50 rfl (j := 0) rfl ?_
    refine z_if_ne (tgt := 59) (x' := w32 k0) rfl dX10_escaped_51 (by decide) (fun c51 => ?_) (fun c51 => ?_)
    · replace h := h.2 c51
      refine z_iload_n dX10_escaped_59 rfl (j := 0) rfl ?_
      refine z_iconst dX10_escaped_60 ?_
      refine z_icmp_ne (tgt := 69) (x' := w32 k0) (y' := 1) rfl (by decide) dX10_escaped_61 (by decide) (fun c61 => ?_) (fun c61 => ?_)
      · replace h := h.2 c61
        refine z_iload_n dX10_escaped_69 rfl (j := 0) rfl ?_
        refine z_iconst dX10_escaped_70 ?_
        refine z_icmp_ne (tgt := 79) (x' := w32 k0) (y' := 2) rfl (by decide) dX10_escaped_71 (by decide) (fun c71 => ?_) (fun c71 => ?_)
        · replace h := h.2 c71
          refine z_iload_n dX10_escaped_79 rfl (j := 0) rfl ?_
          refine z_iconst dX10_escaped_80 ?_
          refine z_icmp_ne (tgt := 89) (x' := w32 k0) (y' := 3) rfl (by decide) dX10_escaped_81 (by decide) (fun c81 => ?_) (fun c81 => ?_)
          · replace h := h.2 c81
            refine z_iload_n dX10_escaped_89 rfl (j := 0) rfl ?_
            refine z_iconst dX10_escaped_90 ?_
            refine z_icmp_ne (tgt := 99) (x' := w32 k0) (y' := 4) rfl (by decide) dX10_escaped_91 (by decide) (fun c91 => ?_) (fun c91 => ?_)
            · replace h := h.2 c91
              refine z_iload_n dX10_escaped_99 rfl (j := 0) rfl ?_
              refine z_iconst dX10_escaped_100 ?_
              refine z_icmp_ne (tgt := 109) (x' := w32 k0) (y' := 5) rfl (by decide) dX10_escaped_101 (by decide) (fun c101 => ?_) (fun c101 => ?_)
              · replace h := h.2 c101
                refine z_iload_n dX10_escaped_109 rfl (j := 0) rfl ?_
                refine z_bipush dX10_escaped_110 (by decide) ?_
                refine z_icmp_ne (tgt := 120) (x' := w32 k0) (y' := 6) rfl (by decide) dX10_escaped_112 (by decide) (fun c112 => ?_) (fun c112 => ?_)
                · replace h := h.2 c112
                  refine z_bipush dX10_escaped_120 (by decide) ?_
                  exact z_iret dX10_escaped_122 rfl h
                · replace h := h.1 c112
                  refine z_bipush dX10_escaped_115 (by decide) ?_
                  refine rt_goto (tgt := 122) dX10_escaped_117 (by decide) ?_
                  exact z_iret dX10_escaped_122 rfl h
              · replace h := h.1 c101
                refine z_bipush dX10_escaped_104 (by decide) ?_
                refine rt_goto (tgt := 122) dX10_escaped_106 (by decide) ?_
                exact z_iret dX10_escaped_122 rfl h
            · replace h := h.1 c91
              refine z_bipush dX10_escaped_94 (by decide) ?_
              refine rt_goto (tgt := 122) dX10_escaped_96 (by decide) ?_
              exact z_iret dX10_escaped_122 rfl h
          · replace h := h.1 c81
            refine z_bipush dX10_escaped_84 (by decide) ?_
            refine rt_goto (tgt := 122) dX10_escaped_86 (by decide) ?_
            exact z_iret dX10_escaped_122 rfl h
        · replace h := h.1 c71
          refine z_bipush dX10_escaped_74 (by decide) ?_
          refine rt_goto (tgt := 122) dX10_escaped_76 (by decide) ?_
          exact z_iret dX10_escaped_122 rfl h
      · replace h := h.1 c61
        refine z_bipush dX10_escaped_64 (by decide) ?_
        refine rt_goto (tgt := 122) dX10_escaped_66 (by decide) ?_
        exact z_iret dX10_escaped_122 rfl h
    · replace h := h.1 c51
      refine z_bipush dX10_escaped_54 (by decide) ?_
      refine rt_goto (tgt := 122) dX10_escaped_56 (by decide) ?_
      exact z_iret dX10_escaped_122 rfl h

def zt_X10_escaped_157 (l : Launch) (s0 : State) (G : va_G) (ca : Nat → ClassId) (d : Nat) (C : Nat × Nat) (S : zS) (w0 : rt_Wd) (t : Int) (v1 : Int) (v4 : Int) (v5 : Int) (k0 : Int) (M : zM) (Q : Int → zM → Prop) (X : zM → Prop) : Prop :=
  zm_X10_need l s0 G ca (d - 1) C S t k0 1 (M t 2) M (fun r162 M162 => zm_X10_look l s0 G ca (d - 1) C S t  M162 (fun r171 M171 => zm_X10_hex l s0 G ca (d - 1) C S r171 M171 (fun r174 M174 => zg_X10_escaped_135 l s0 G ca d C S w0 t v1 ((16 * v4) + r174) (v5 + 1) ((zu M174 t 2 ((M174 t 2) + 1))) Q X) X) X) X
set_option maxRecDepth 100000 in
theorem zs_X10_escaped_157 {l : Launch} {s0 : State} {a0 : Array Value} {G : va_G} {ca : Nat → ClassId} (Γ : rt_Γ l s0 a0 G ca) {d : Nat} {C : Nat × Nat} {S : zS} (hd : 4 ≤ d) (hok : zok C) {t : Int} (ht : zTx S t) {w0 : rt_Wd} {v1 : Int} {v4 : Int} {v5 : Int} {k0 : Int}  {M : zM} {Q : Int → zM → Prop} {X : zM → Prop} (h : zt_X10_escaped_157 l s0 G ca d C S w0 t v1 v4 v5 k0 M Q X) : zg_X10_escaped_157 l s0 G ca d C S w0 t v1 v4 v5 k0 M Q X := by
  unfold zt_X10_escaped_157 at h
  refine z_iconst dX10_escaped_157 ?_
  refine z_aload_n dX10_escaped_158 rfl (j := 0) rfl ?_
  refine z_get Γ kf_RX10_95 dX10_escaped_159 ht.1 ht.2.1 rfl (by decide) (v9 := M t 2) rfl ?_
  refine z_callV Γ kk_X10_need kc_RX10_105 (As := [zv s0 0 k0, zv s0 0 1, zv s0 0 (M t 2)]) h (by omega) (by decide) (show (parseMethodDescriptor yX10_need.desc).map (fun q => q.parameters.length) = some 3 by decide +kernel) hok (Nat.zero_le _) dX10_escaped_162 ht.1 ht.2.1 rfl rfl (fun _ h9 => nomatch h9) ?_
  clear h
  intro r162 M162 h
  show rt_Go _ _ _ _ _ _ _ _ _ _ _ _ 165 [(0, zv s0 2 t), (1, zv s0 0 v1), (4, zv s0 0 v4), (5, zv s0 0 v5)] [] (zw s0 ca C S M162)
  refine z_bipush dX10_escaped_165 (by decide) ?_
  refine z_iload dX10_escaped_167 (j := 2) rfl ?_
  refine z_imul dX10_escaped_169 ?_
  refine z_aload_n dX10_escaped_170 rfl (j := 0) rfl ?_
  refine z_callV Γ kk_X10_look kc_RX10_101 (As := []) h (by omega) (by decide) (show (parseMethodDescriptor yX10_look.desc).map (fun q => q.parameters.length) = some 0 by decide +kernel) hok (by simp only [List.map, zv_cat0, zv_cat1, zv_cat2, List.sum_cons, List.sum_nil]; decide) dX10_escaped_171 ht.1 ht.2.1 rfl rfl (fun _ h9 => nomatch h9) ?_
  clear h
  intro r171 M171 h
  show rt_Go _ _ _ _ _ _ _ _ _ _ _ _ 174 [(0, zv s0 2 t), (1, zv s0 0 v1), (4, zv s0 0 v4), (5, zv s0 0 v5)] [zv s0 0 r171, zv s0 0 (16 * v4)] (zw s0 ca C S M171)
  refine z_callS Γ kk_X10_hex kc_RX10_164 (As := [zv s0 0 r171]) h (by omega) (by decide) (show (parseMethodDescriptor yX10_hex.desc).map (fun q => q.parameters.length) = some 1 by decide +kernel) hok (by simp only [List.map, zv_cat0, zv_cat1, zv_cat2, List.sum_cons, List.sum_nil]; decide) dX10_escaped_174 rfl (fun _ h9 => nomatch h9) ?_
  clear h
  intro r174 M174 h
  show rt_Go _ _ _ _ _ _ _ _ _ _ _ _ 177 [(0, zv s0 2 t), (1, zv s0 0 v1), (4, zv s0 0 v4), (5, zv s0 0 v5)] [zv s0 0 r174, zv s0 0 (16 * v4)] (zw s0 ca C S M174)
  refine z_iadd dX10_escaped_177 ?_
  refine z_istore (i := 4) (lv' := [(4, zv s0 0 ((16 * v4) + r174)), (0, zv s0 2 t), (1, zv s0 0 v1), (5, zv s0 0 v5)]) dX10_escaped_178 (by decide) (by simp [zv_cat0, zv_cat1, zv_cat2, zv_cats]) ?_
  refine z_aload_n dX10_escaped_180 rfl (j := 1) rfl ?_
  refine z_dup2 dX10_escaped_181 ?_
  refine z_get Γ kf_RX10_95 dX10_escaped_182 ht.1 ht.2.1 rfl (by decide) (v9 := M174 t 2) rfl ?_
  refine z_iconst dX10_escaped_185 ?_
  refine z_iadd dX10_escaped_186 ?_
  refine z_put0 Γ kp_RX10_95 dX10_escaped_187 ht.1 ht.2.1 rfl (k9 := 2) rfl ?_
  refine z_iinc (lv' := [(5, zv s0 0 (v5 + 1)), (4, zv s0 0 ((16 * v4) + r174)), (0, zv s0 2 t), (1, zv s0 0 v1)]) dX10_escaped_190 (j := 3) rfl (by decide) (by simp [zv_cat0, zv_cat1, zv_cat2, zv_cats]) ?_
  refine rt_goto (tgt := 135) dX10_escaped_193 (by decide) ?_
  exact rt_lfew [2, 3, 1, 0] rfl h

def zt_X10_escaped_135 (l : Launch) (s0 : State) (G : va_G) (ca : Nat → ClassId) (d : Nat) (C : Nat × Nat) (S : zS) (w0 : rt_Wd) (t : Int) (v1 : Int) (v4 : Int) (v5 : Int)  (M : zM) (Q : Int → zM → Prop) (X : zM → Prop) : Prop :=
  zIf (4 ≤ w32 v5) (zIf (256 ≤ w32 v4) (zm_X10_need l s0 G ca (d - 1) C S t 0 1 v1 M (fun r212 M212 => Q v4 M212) X) (zm_X10_need l s0 G ca (d - 1) C S t 1 1 v1 M (fun r212 M212 => Q v4 M212) X)) (zm_X10_look l s0 G ca (d - 1) C S t  M (fun r143 M143 => zm_X10_hex l s0 G ca (d - 1) C S r143 M143 (fun r146 M146 => zIf (w32 r146 < 0) (zt_X10_escaped_157 l s0 G ca d C S w0 t v1 v4 v5 0 M146 Q X) (zt_X10_escaped_157 l s0 G ca d C S w0 t v1 v4 v5 1 M146 Q X)) X) X)
set_option maxRecDepth 100000 in
theorem zs_X10_escaped_135 {l : Launch} {s0 : State} {a0 : Array Value} {G : va_G} {ca : Nat → ClassId} (Γ : rt_Γ l s0 a0 G ca) {d : Nat} {C : Nat × Nat} {S : zS} (hd : 4 ≤ d) (hok : zok C) {t : Int} (ht : zTx S t) {w0 : rt_Wd} {v1 : Int} {v4 : Int} {v5 : Int}   {M : zM} {Q : Int → zM → Prop} {X : zM → Prop} (h : zt_X10_escaped_135 l s0 G ca d C S w0 t v1 v4 v5 M Q X) : zg_X10_escaped_135 l s0 G ca d C S w0 t v1 v4 v5 M Q X := by
  unfold zt_X10_escaped_135 at h
  refine z_iload dX10_escaped_135 (j := 3) rfl ?_
  refine z_iconst dX10_escaped_137 ?_
  refine z_icmp_ge (tgt := 196) (x' := w32 v5) (y' := 4) rfl (by decide) dX10_escaped_138 (by decide) (fun c138 => ?_) (fun c138 => ?_)
  · replace h := h.1 c138
    refine z_aload_n dX10_escaped_196 rfl (j := 0) rfl ?_
    refine z_iload dX10_escaped_197 (j := 2) rfl ?_
    refine z_sipush dX10_escaped_199 (by decide) ?_
    refine z_icmp_ge (tgt := 209) (x' := w32 v4) (y' := 256) rfl (by decide) dX10_escaped_202 (by decide) (fun c202 => ?_) (fun c202 => ?_)
    · replace h := h.1 c202
      refine z_iconst dX10_escaped_209 ?_
      refine z_iconst dX10_escaped_210 ?_
      refine z_iload_n dX10_escaped_211 rfl (j := 1) rfl ?_
      refine z_callV Γ kk_X10_need kc_RX10_105 (As := [zv s0 0 0, zv s0 0 1, zv s0 0 v1]) h (by omega) (by decide) (show (parseMethodDescriptor yX10_need.desc).map (fun q => q.parameters.length) = some 3 by decide +kernel) hok (Nat.zero_le _) dX10_escaped_212 ht.1 ht.2.1 rfl rfl (fun _ h9 => nomatch h9) ?_
      clear h
      intro r212 M212 h
      show rt_Go _ _ _ _ _ _ _ _ _ _ _ _ 215 [(0, zv s0 2 t), (1, zv s0 0 v1), (4, zv s0 0 v4), (5, zv s0 0 v5)] [] (zw s0 ca C S M212)
      refine z_iload dX10_escaped_215 (j := 2) rfl ?_
      exact z_iret dX10_escaped_217 rfl h
    · replace h := h.2 c202
      refine z_iconst dX10_escaped_205 ?_
      refine rt_goto (tgt := 210) dX10_escaped_206 (by decide) ?_
      refine z_iconst dX10_escaped_210 ?_
      refine z_iload_n dX10_escaped_211 rfl (j := 1) rfl ?_
      refine z_callV Γ kk_X10_need kc_RX10_105 (As := [zv s0 0 1, zv s0 0 1, zv s0 0 v1]) h (by omega) (by decide) (show (parseMethodDescriptor yX10_need.desc).map (fun q => q.parameters.length) = some 3 by decide +kernel) hok (Nat.zero_le _) dX10_escaped_212 ht.1 ht.2.1 rfl rfl (fun _ h9 => nomatch h9) ?_
      clear h
      intro r212 M212 h
      show rt_Go _ _ _ _ _ _ _ _ _ _ _ _ 215 [(0, zv s0 2 t), (1, zv s0 0 v1), (4, zv s0 0 v4), (5, zv s0 0 v5)] [] (zw s0 ca C S M212)
      refine z_iload dX10_escaped_215 (j := 2) rfl ?_
      exact z_iret dX10_escaped_217 rfl h
  · replace h := h.2 c138
    refine z_aload_n dX10_escaped_141 rfl (j := 0) rfl ?_
    refine z_aload_n dX10_escaped_142 rfl (j := 0) rfl ?_
    refine z_callV Γ kk_X10_look kc_RX10_101 (As := []) h (by omega) (by decide) (show (parseMethodDescriptor yX10_look.desc).map (fun q => q.parameters.length) = some 0 by decide +kernel) hok (by simp only [List.map, zv_cat0, zv_cat1, zv_cat2, List.sum_cons, List.sum_nil]; decide) dX10_escaped_143 ht.1 ht.2.1 rfl rfl (fun _ h9 => nomatch h9) ?_
    clear h
    intro r143 M143 h
    show rt_Go _ _ _ _ _ _ _ _ _ _ _ _ 146 [(0, zv s0 2 t), (1, zv s0 0 v1), (4, zv s0 0 v4), (5, zv s0 0 v5)] [zv s0 0 r143, zv s0 2 t] (zw s0 ca C S M143)
    refine z_callS Γ kk_X10_hex kc_RX10_164 (As := [zv s0 0 r143]) h (by omega) (by decide) (show (parseMethodDescriptor yX10_hex.desc).map (fun q => q.parameters.length) = some 1 by decide +kernel) hok (by simp only [List.map, zv_cat0, zv_cat1, zv_cat2, List.sum_cons, List.sum_nil]; decide) dX10_escaped_146 rfl (fun _ h9 => nomatch h9) ?_
    clear h
    intro r146 M146 h
    show rt_Go _ _ _ _ _ _ _ _ _ _ _ _ 149 [(0, zv s0 2 t), (1, zv s0 0 v1), (4, zv s0 0 v4), (5, zv s0 0 v5)] [zv s0 0 r146, zv s0 2 t] (zw s0 ca C S M146)
    refine z_if_lt (tgt := 156) (x' := w32 r146) rfl dX10_escaped_149 (by decide) (fun c149 => ?_) (fun c149 => ?_)
    · replace h := h.1 c149
      refine z_iconst dX10_escaped_156 ?_
      exact rt_lfew [0, 1, 2, 3] rfl (zs_X10_escaped_157 Γ hd hok ht  h)
    · replace h := h.2 c149
      refine z_iconst dX10_escaped_152 ?_
      refine rt_goto (tgt := 157) dX10_escaped_153 (by decide) ?_
      exact rt_lfew [0, 1, 2, 3] rfl (zs_X10_escaped_157 Γ hd hok ht  h)

def zt_X10_escaped (l : Launch) (s0 : State) (G : va_G) (ca : Nat → ClassId) (d : Nat) (C : Nat × Nat) (S : zS) (w0 : rt_Wd) (t : Int)  (M : zM) (Q : Int → zM → Prop) (X : zM → Prop) : Prop :=
  zm_X10_look l s0 G ca (d - 1) C S t  ((zu M t 2 ((M t 2) + 1))) (fun r16 M16 => zIf (0 ≤ w32 r16) (∀ q28 : Nat, zstr s0 q28 [34, 92, 47, 98, 102, 110, 114, 116] → ((0 ≤ r16 ∧ r16 < 65536 ∧ ((Int32.ofInt r16).toUInt32 % 65536).toInt32 = Int32.ofInt r16) ∧ ((0 ≤ r16 ∧ r16 < 128) ∧ (zt_X10_escaped_35 l s0 G ca d C S w0 t (M t 2) (zix ([34, 92, 47, 98, 102, 110, 114, 116]) r16 0) M16 Q X)))) (zt_X10_escaped_35 l s0 G ca d C S w0 t (M t 2) ((-1)) M16 Q X)) X
set_option maxRecDepth 100000 in
theorem z_X10_escaped {l : Launch} {s0 : State} {a0 : Array Value} {G : va_G} {ca : Nat → ClassId} (Γ : rt_Γ l s0 a0 G ca) {d : Nat} {C : Nat × Nat} {S : zS} (hd : 4 ≤ d) (hok : zok C) {t : Int} (ht : zTx S t)  {M : zM} {Q : Int → zM → Prop} {X : zM → Prop} (h : zt_X10_escaped l s0 G ca d C S (zw s0 ca C S M) t  M Q X) : zm_X10_escaped l s0 G ca d C S t  M Q X := by
  refine z_met (lv := [(0, zv s0 2 t)]) Γ kk_X10_escaped rfl (show (lg_sl [zv s0 2 t]).length ≤ 6 from by simp only [zn_2, show (lg_sl []).length = 0 from rfl]; omega) (show lv_args 0 [zv s0 2 t] = [(0, zv s0 2 t)] from by rw [zl_2]; rfl) ?_
  unfold zt_X10_escaped at h
  refine z_aload_n dX10_escaped_0 rfl (j := 0) rfl ?_
  refine z_get Γ kf_RX10_95 dX10_escaped_1 ht.1 ht.2.1 rfl (by decide) (v9 := M t 2) rfl ?_
  refine z_istore_n (i := 1) (lv' := [(1, zv s0 0 (M t 2)), (0, zv s0 2 t)]) dX10_escaped_4 rfl (by decide) (by simp [zv_cat0, zv_cat1, zv_cat2, zv_cats]) ?_
  refine z_aload_n dX10_escaped_5 rfl (j := 1) rfl ?_
  refine z_dup2 dX10_escaped_6 ?_
  refine z_get Γ kf_RX10_95 dX10_escaped_7 ht.1 ht.2.1 rfl (by decide) (v9 := M t 2) rfl ?_
  refine z_iconst dX10_escaped_10 ?_
  refine z_iadd dX10_escaped_11 ?_
  refine z_put0 Γ kp_RX10_95 dX10_escaped_12 ht.1 ht.2.1 rfl (k9 := 2) rfl ?_
  refine z_aload_n dX10_escaped_15 rfl (j := 1) rfl ?_
  refine z_callV Γ kk_X10_look kc_RX10_101 (As := []) h (by omega) (by decide) (show (parseMethodDescriptor yX10_look.desc).map (fun q => q.parameters.length) = some 0 by decide +kernel) hok (Nat.zero_le _) dX10_escaped_16 ht.1 ht.2.1 rfl rfl (fun _ h9 => nomatch h9) ?_
  clear h
  intro r16 M16 h
  show rt_Go _ _ _ _ _ _ _ _ _ _ _ _ 19 [(1, zv s0 0 (M t 2)), (0, zv s0 2 t)] [zv s0 0 r16] (zw s0 ca C S M16)
  refine z_istore_n (i := 2) (lv' := [(2, zv s0 0 r16), (1, zv s0 0 (M t 2)), (0, zv s0 2 t)]) dX10_escaped_19 rfl (by decide) (by simp [zv_cat0, zv_cat1, zv_cat2, zv_cats]) ?_
  refine z_iload_n dX10_escaped_20 rfl (j := 0) rfl ?_
  refine z_if_ge (tgt := 28) (x' := w32 r16) rfl dX10_escaped_21 (by decide) (fun c21 => ?_) (fun c21 => ?_)
  · replace h := h.1 c21
    obtain ⟨q28, hq28a, hq28b⟩ := ks_RX10_159 Γ
    have hq28 : zstr s0 q28 [34, 92, 47, 98, 102, 110, 114, 116] := ⟨hq28b, by decide, by decide⟩
    replace h := h q28 hq28
    refine rt_ldcS Γ hq28a dX10_escaped_28 ?_
    refine z_iload_n dX10_escaped_30 rfl (j := 0) rfl ?_
    obtain ⟨hi9, h⟩ := h
    refine z_i2c (v := 0) dX10_escaped_31 hi9.1 hi9.2.1 hi9.2.2 ?_
    obtain ⟨hi9, h⟩ := h
    refine z_sidx Γ hq28 kc_RX10_161 (by omega) hok (Nat.zero_le _) (by decide) hi9 dX10_escaped_32 ?_
    exact rt_lfew [2, 1] rfl (zs_X10_escaped_35 Γ hd hok ht  h)
  · replace h := h.2 c21
    refine z_iconst dX10_escaped_24 ?_
    refine rt_goto (tgt := 35) dX10_escaped_25 (by decide) ?_
    exact rt_lfew [2, 1] rfl (zs_X10_escaped_35 Γ hd hok ht  h)

