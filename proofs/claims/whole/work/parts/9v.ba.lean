/-! ===== the law's roads, whatever the methods leave ===== -/
/-- the reference stands there, and says what it refused -/
abbrev rt_mk (l : Launch) (s0 : State) (G : va_G) (k : Int32) (w : rt_Wd) : Prop := rt_ok w ∧ (∃ fs : List Value, w.2.2 84 = some (.inr (11, fs))) ∧ rt_Met l s0 G (.code yX11_thrown cX11_thrown 1 (Option.some FieldType.int)) yX11_thrown 2035 [rt_r s0 84] w (rt_is (.inl (some (.int k))) w)
/-- the law's row has the answer -/
abbrev rt_o9 (ca : Nat → ClassId) (w : rt_Wd) (v : Int64) : Prop := ∃ g : Nat → Int64, w.2.2 137 = some (.inl (ca 2, 1, .inr (.inl g))) ∧ g 0 = v
set_option maxRecDepth 100000 in
theorem lw_g_feed {l : Launch} {s0 : State} {a0 : Array Value} {G : va_G} {ca : Nat → ClassId} (Γ : rt_Γ l s0 a0 G ca) {nm : String} {tab : List ExceptionTableEntry} {b N : Nat} {xs : Nat → Int32} (hX : va_X b N xs s0 s0.heap) (hbl : b < s0.heap.size) {i : Int32} (h1 : vp_in (i + 1) N) (h2 : vp_in (i + 2) N) (h3 : vp_in (i + 3) N) (h4 : vp_in (i + 4) N) (h5 : vp_in (i + 5) N) {w : rt_Wd} {Q : rt_Res → rt_Wd → Prop} {k : Int32} {PA PC : rt_Wd → Prop} (hok : rt_ok w)
    (hA : rt_Met l s0 G (.codeWith yL_feed cL_feed 8 (Option.some FieldType.int) [(0, 16, 19, 13)]) yL_feed 2035 [rt_r s0 0, .int (xs (i + 1).toNatClampNeg), .int (xs (i + 2).toNatClampNeg), .int (xs (i + 3).toNatClampNeg), .int (xs (i + 4).toNatClampNeg), .int (xs (i + 5).toNatClampNeg), rt_r s0 137] w (fun r w1 => r = .inl (some (.int k)) ∧ PA w1))
    (hB : ∀ w1 : rt_Wd, PA w1 → rt_ok w1 ∧ (∃ fs : List Value, w1.2.2 84 = some (.inr (11, fs))) ∧ rt_Met l s0 G (.code yX11_feed cX11_feed 6 (Option.some FieldType.int)) yX11_feed 2035 [rt_r s0 84, .int (xs (i + 1).toNatClampNeg), .int (xs (i + 2).toNatClampNeg), .int (xs (i + 3).toNatClampNeg), .int (xs (i + 4).toNatClampNeg), .int (xs (i + 5).toNatClampNeg)] w1 (rt_an (fun v w2 => rt_mk l s0 G k w2 ∧ (k = 0 → rt_o9 ca w2 v.toInt64) ∧ PC w2)))
    (kk : ∀ w2 : rt_Wd, PC w2 → rt_Go l s0 G RL nm cL_law 7 (some .boolean) tab 2036 rt_w0 Q 701 [(4, .int i), (3, rt_r s0 137), (2, rt_r s0 84), (1, rt_r s0 0), (0, .ref b)] [] w2) : rt_Go l s0 G RL nm cL_law 7 (some .boolean) tab 2036 rt_w0 Q 100 [(4, .int i), (3, rt_r s0 137), (2, rt_r s0 84), (1, rt_r s0 0), (0, .ref b)] [] w := by
  refine rt_aload_n dL_law_100 rfl (j := 3) rfl ?_
  refine rt_aloadA_n dL_law_101 rfl (j := 4) rfl ?_
  refine rt_iload dL_law_102 (j := 0) rfl ?_
  refine rt_iconst (v := 1) dL_law_104 (by decide) ?_
  refine rt_iadd dL_law_105 ?_
  refine rt_sld hX hbl dL_law_106 h1 ?_
  refine rt_aloadA_n dL_law_107 rfl (j := 4) rfl ?_
  refine rt_iload dL_law_108 (j := 0) rfl ?_
  refine rt_iconst (v := 2) dL_law_110 (by decide) ?_
  refine rt_iadd dL_law_111 ?_
  refine rt_sld hX hbl dL_law_112 h2 ?_
  refine rt_aloadA_n dL_law_113 rfl (j := 4) rfl ?_
  refine rt_iload dL_law_114 (j := 0) rfl ?_
  refine rt_iconst (v := 3) dL_law_116 (by decide) ?_
  refine rt_iadd dL_law_117 ?_
  refine rt_sld hX hbl dL_law_118 h3 ?_
  refine rt_aloadA_n dL_law_119 rfl (j := 4) rfl ?_
  refine rt_iload dL_law_120 (j := 0) rfl ?_
  refine rt_iconst (v := 4) dL_law_122 (by decide) ?_
  refine rt_iadd dL_law_123 ?_
  refine rt_sld hX hbl dL_law_124 h4 ?_
  refine rt_aloadA_n dL_law_125 rfl (j := 4) rfl ?_
  refine rt_iload dL_law_126 (j := 0) rfl ?_
  refine rt_iconst (v := 5) dL_law_128 (by decide) ?_
  refine rt_iadd dL_law_129 ?_
  refine rt_sld hX hbl dL_law_130 h5 ?_
  refine rt_aload_n dL_law_131 rfl (j := 1) rfl ?_
  refine rt_callS Γ kk_L_feed kc_RL_51 hA (by omega) (by decide) (As := [rt_r s0 0, .int (xs (i + 1).toNatClampNeg), .int (xs (i + 2).toNatClampNeg), .int (xs (i + 3).toNatClampNeg), .int (xs (i + 4).toNatClampNeg), .int (xs (i + 5).toNatClampNeg), rt_r s0 137]) (show (parseMethodDescriptor yL_feed.desc).map (fun q => q.parameters.length) = some 7 by decide +kernel) hok (Nat.le_of_ble_eq_true rfl) dL_law_132 rfl rfl (fun v9 w1 hq => ?_) (fun X w1 hq => nomatch hq.1)
  obtain ⟨e1, hp⟩ := hq
  cases Sum.inl.inj e1
  obtain ⟨hk1, ⟨f1, hf1⟩, hM⟩ := hB w1 hp
  show rt_Go l s0 G RL nm cL_law 7 (some .boolean) tab 2036 rt_w0 Q (132 + 3) [(4, .int i), (3, rt_r s0 137), (2, rt_r s0 84), (1, rt_r s0 0), (0, .ref b)] [.int k] w1
  refine rt_istore (lv' := [(5, .int k), (4, .int i), (3, rt_r s0 137), (2, rt_r s0 84), (1, rt_r s0 0), (0, .ref b)]) dL_law_135 (by decide) rfl ?_
  refine rt_aload_n dL_law_137 rfl (j := 3) rfl ?_
  refine rt_aloadA_n dL_law_138 rfl (j := 5) rfl ?_
  refine rt_iload dL_law_139 (j := 1) rfl ?_
  refine rt_iconst (v := 1) dL_law_141 (by decide) ?_
  refine rt_iadd dL_law_142 ?_
  refine rt_sld hX hbl dL_law_143 h1 ?_
  refine rt_aloadA_n dL_law_144 rfl (j := 5) rfl ?_
  refine rt_iload dL_law_145 (j := 1) rfl ?_
  refine rt_iconst (v := 2) dL_law_147 (by decide) ?_
  refine rt_iadd dL_law_148 ?_
  refine rt_sld hX hbl dL_law_149 h2 ?_
  refine rt_aloadA_n dL_law_150 rfl (j := 5) rfl ?_
  refine rt_iload dL_law_151 (j := 1) rfl ?_
  refine rt_iconst (v := 3) dL_law_153 (by decide) ?_
  refine rt_iadd dL_law_154 ?_
  refine rt_sld hX hbl dL_law_155 h3 ?_
  refine rt_aloadA_n dL_law_156 rfl (j := 5) rfl ?_
  refine rt_iload dL_law_157 (j := 1) rfl ?_
  refine rt_iconst (v := 4) dL_law_159 (by decide) ?_
  refine rt_iadd dL_law_160 ?_
  refine rt_sld hX hbl dL_law_161 h4 ?_
  refine rt_aloadA_n dL_law_162 rfl (j := 5) rfl ?_
  refine rt_iload dL_law_163 (j := 1) rfl ?_
  refine rt_iconst (v := 5) dL_law_165 (by decide) ?_
  refine rt_iadd dL_law_166 ?_
  refine rt_sld hX hbl dL_law_167 h5 ?_
  refine rt_callV Γ kk_X11_feed kc_RL_56 hM (by omega) (by decide) (As := [.int (xs (i + 1).toNatClampNeg), .int (xs (i + 2).toNatClampNeg), .int (xs (i + 3).toNatClampNeg), .int (xs (i + 4).toNatClampNeg), .int (xs (i + 5).toNatClampNeg)]) (show (parseMethodDescriptor yX11_feed.desc).map (fun q => q.parameters.length) = some 5 by decide +kernel) hk1 (Nat.le_of_ble_eq_true rfl) dL_law_168 hf1 rfl rfl rfl (fun v8 w2 hq => ?_) (fun X w2 hq => by obtain ⟨_, e, -⟩ := hq; cases e)
  obtain ⟨v, e2, ⟨hk2, ⟨f2, hf2⟩, hT⟩, hO, hC⟩ := hq
  cases Sum.inl.inj e2
  show rt_Go l s0 G RL nm cL_law 7 (some .boolean) tab 2036 rt_w0 Q (168 + 3) [(5, .int k), (4, .int i), (3, rt_r s0 137), (2, rt_r s0 84), (1, rt_r s0 0), (0, .ref b)] [.int v] w2
  refine rt_istore (lv' := [(6, .int v), (5, .int k), (4, .int i), (3, rt_r s0 137), (2, rt_r s0 84), (1, rt_r s0 0), (0, .ref b)]) dL_law_171 (by decide) rfl ?_
  refine rt_aload_n dL_law_173 rfl (j := 4) rfl ?_
  refine rt_callV Γ kk_X11_thrown kc_RL_57 hT (by omega) (by decide) (As := []) (show (parseMethodDescriptor yX11_thrown.desc).map (fun q => q.parameters.length) = some 0 by decide +kernel) hk2 (Nat.le_of_ble_eq_true rfl) dL_law_174 hf2 rfl rfl rfl (rt_kr (st2 := [.int k]) rfl ?_) rt_kx
  refine rt_iload dL_law_177 (j := 1) rfl ?_
  refine rt_icmp_eq (tgt := 184) dL_law_179 (by decide) (fun _ => ?_) (fun c179 => absurd rfl c179)
  refine rt_iload dL_law_184 (j := 1) rfl ?_
  by_cases hk : k = 0
  · subst hk
    obtain ⟨g, hg, eg⟩ := hO rfl
    refine rt_if_ne (tgt := 201) dL_law_186 (by decide) (fun c186 => absurd c186 (fun h => h rfl)) (fun _ => ?_)
    refine rt_aload_n dL_law_189 rfl (j := 3) rfl ?_
    refine rt_iconst (v := 0) dL_law_190 (by decide) ?_
    refine rt_lald Γ dL_law_191 hg (vp_in_iff.mpr ⟨by decide, by decide⟩) ?_
    rw [show g (0 : Int32).toNatClampNeg = _ from eg]
    refine rt_iload dL_law_192 (j := 0) rfl ?_
    refine rt_i2l dL_law_194 rfl ?_
    refine rt_lcmp dL_law_195 ?_
    refine rt_if_eq (tgt := 201) dL_law_196 (by decide) (fun _ => ?_) (fun c196 => absurd ((lg_cmp_eq _ _).mpr rfl) c196)
    refine rt_goto (tgt := 701) dL_law_201 (by decide) ?_
    exact rt_lfew [2, 3, 4, 5, 6] rfl (kk _ hC)
  · refine rt_if_ne (tgt := 201) dL_law_186 (by decide) (fun _ => ?_) (fun c186 => absurd c186 hk)
    refine rt_goto (tgt := 701) dL_law_201 (by decide) ?_
    exact rt_lfew [2, 3, 4, 5, 6] rfl (kk _ hC)
set_option maxRecDepth 100000 in
theorem lw_g_end {l : Launch} {s0 : State} {a0 : Array Value} {G : va_G} {ca : Nat → ClassId} (Γ : rt_Γ l s0 a0 G ca) {nm : String} {tab : List ExceptionTableEntry} {b N : Nat} {xs : Nat → Int32} (hX : va_X b N xs s0 s0.heap) (hbl : b < s0.heap.size) {i : Int32} (h1 : vp_in (i + 1) N) {w : rt_Wd} {Q : rt_Res → rt_Wd → Prop} {k : Int32} {PA PC : rt_Wd → Prop} (hok : rt_ok w)
    (hA : rt_Met l s0 G (.codeWith yL_end cL_end 3 (Option.some FieldType.int) [(0, 5, 8, 19)]) yL_end 2035 [rt_r s0 0, .int (xs (i + 1).toNatClampNeg)] w (fun r w1 => r = .inl (some (.int k)) ∧ PA w1))
    (hB : ∀ w1 : rt_Wd, PA w1 → rt_ok w1 ∧ (∃ fs : List Value, w1.2.2 84 = some (.inr (11, fs))) ∧ rt_Met l s0 G (.code yX11_end cX11_end 2 (Option.none : Option FieldType)) yX11_end 2035 [rt_r s0 84, .int (xs (i + 1).toNatClampNeg)] w1 (rt_vd (fun w2 => rt_mk l s0 G k w2 ∧ PC w2)))
    (kk : ∀ w2 : rt_Wd, PC w2 → rt_Go l s0 G RL nm cL_law 7 (some .boolean) tab 2036 rt_w0 Q 701 [(4, .int i), (3, rt_r s0 137), (2, rt_r s0 84), (1, rt_r s0 0), (0, .ref b)] [] w2) : rt_Go l s0 G RL nm cL_law 7 (some .boolean) tab 2036 rt_w0 Q 204 [(4, .int i), (3, rt_r s0 137), (2, rt_r s0 84), (1, rt_r s0 0), (0, .ref b)] [] w := by
  refine rt_aload_n dL_law_204 rfl (j := 3) rfl ?_
  refine rt_aloadA_n dL_law_205 rfl (j := 4) rfl ?_
  refine rt_iload dL_law_206 (j := 0) rfl ?_
  refine rt_iconst (v := 1) dL_law_208 (by decide) ?_
  refine rt_iadd dL_law_209 ?_
  refine rt_sld hX hbl dL_law_210 h1 ?_
  refine rt_callS Γ kk_L_end kc_RL_61 hA (by omega) (by decide) (As := [rt_r s0 0, .int (xs (i + 1).toNatClampNeg)]) (show (parseMethodDescriptor yL_end.desc).map (fun q => q.parameters.length) = some 2 by decide +kernel) hok (Nat.le_of_ble_eq_true rfl) dL_law_211 rfl rfl (fun v9 w1 hq => ?_) (fun X w1 hq => nomatch hq.1)
  obtain ⟨e1, hp⟩ := hq
  cases Sum.inl.inj e1
  obtain ⟨hk1, ⟨f1, hf1⟩, hM⟩ := hB w1 hp
  show rt_Go l s0 G RL nm cL_law 7 (some .boolean) tab 2036 rt_w0 Q (211 + 3) [(4, .int i), (3, rt_r s0 137), (2, rt_r s0 84), (1, rt_r s0 0), (0, .ref b)] [.int k] w1
  refine rt_istore (lv' := [(5, .int k), (4, .int i), (3, rt_r s0 137), (2, rt_r s0 84), (1, rt_r s0 0), (0, .ref b)]) dL_law_214 (by decide) rfl ?_
  refine rt_aload_n dL_law_216 rfl (j := 3) rfl ?_
  refine rt_aloadA_n dL_law_217 rfl (j := 5) rfl ?_
  refine rt_iload dL_law_218 (j := 1) rfl ?_
  refine rt_iconst (v := 1) dL_law_220 (by decide) ?_
  refine rt_iadd dL_law_221 ?_
  refine rt_sld hX hbl dL_law_222 h1 ?_
  refine rt_callV Γ kk_X11_end kc_RL_64 hM (by omega) (by decide) (As := [.int (xs (i + 1).toNatClampNeg)]) (show (parseMethodDescriptor yX11_end.desc).map (fun q => q.parameters.length) = some 1 by decide +kernel) hk1 (Nat.le_of_ble_eq_true rfl) dL_law_223 hf1 rfl rfl rfl (fun v8 w2 hq => ?_) (fun X w2 hq => nomatch hq.1)
  obtain ⟨e2, ⟨hk2, ⟨f2, hf2⟩, hT⟩, hC⟩ := hq
  cases Sum.inl.inj e2
  show rt_Go l s0 G RL nm cL_law 7 (some .boolean) tab 2036 rt_w0 Q (223 + 3) [(5, .int k), (4, .int i), (3, rt_r s0 137), (2, rt_r s0 84), (1, rt_r s0 0), (0, .ref b)] [] w2
  refine rt_aload_n dL_law_226 rfl (j := 3) rfl ?_
  refine rt_callV Γ kk_X11_thrown kc_RL_57 hT (by omega) (by decide) (As := []) (show (parseMethodDescriptor yX11_thrown.desc).map (fun q => q.parameters.length) = some 0 by decide +kernel) hk2 (Nat.le_of_ble_eq_true rfl) dL_law_227 hf2 rfl rfl rfl (rt_kr (st2 := [.int k]) rfl ?_) rt_kx
  refine rt_iload dL_law_230 (j := 0) rfl ?_
  refine rt_icmp_eq (tgt := 237) dL_law_232 (by decide) (fun _ => ?_) (fun c232 => absurd rfl c232)
  refine rt_goto (tgt := 701) dL_law_237 (by decide) ?_
  exact rt_lfew [1, 2, 3, 4, 5] rfl (kk _ hC)
set_option maxRecDepth 100000 in
theorem lw_g_schema {l : Launch} {s0 : State} {a0 : Array Value} {G : va_G} {ca : Nat → ClassId} (Γ : rt_Γ l s0 a0 G ca) {nm : String} {tab : List ExceptionTableEntry} {b N : Nat} {xs : Nat → Int32} (hX : va_X b N xs s0 s0.heap) (hbl : b < s0.heap.size) {i : Int32} (h1 : vp_in (i + 1) N) {w : rt_Wd} {Q : rt_Res → rt_Wd → Prop} {k : Int32} {PA PC : rt_Wd → Prop} (hok : rt_ok w)
    (hA : rt_Met l s0 G (.codeWith yL_schema cL_schema 4 (Option.some FieldType.int) [(0, 9, 12, 25)]) yL_schema 2035 [rt_r s0 0, .int (xs (i + 1).toNatClampNeg), rt_r s0 137] w (fun r w1 => r = .inl (some (.int k)) ∧ PA w1))
    (hB : ∀ w1 : rt_Wd, PA w1 → rt_ok w1 ∧ (∃ fs : List Value, w1.2.2 84 = some (.inr (11, fs))) ∧ rt_Met l s0 G (.code yX11_schema cX11_schema 4 (Option.some FieldType.int)) yX11_schema 2035 [rt_r s0 84, .int (xs (i + 1).toNatClampNeg)] w1 (rt_an (fun v w2 => rt_mk l s0 G k w2 ∧ (k = 0 → rt_o9 ca w2 v.toInt64) ∧ PC w2)))
    (kk : ∀ w2 : rt_Wd, PC w2 → rt_Go l s0 G RL nm cL_law 7 (some .boolean) tab 2036 rt_w0 Q 701 [(4, .int i), (3, rt_r s0 137), (2, rt_r s0 84), (1, rt_r s0 0), (0, .ref b)] [] w2) : rt_Go l s0 G RL nm cL_law 7 (some .boolean) tab 2036 rt_w0 Q 240 [(4, .int i), (3, rt_r s0 137), (2, rt_r s0 84), (1, rt_r s0 0), (0, .ref b)] [] w := by
  refine rt_aload_n dL_law_240 rfl (j := 3) rfl ?_
  refine rt_aloadA_n dL_law_241 rfl (j := 4) rfl ?_
  refine rt_iload dL_law_242 (j := 0) rfl ?_
  refine rt_iconst (v := 1) dL_law_244 (by decide) ?_
  refine rt_iadd dL_law_245 ?_
  refine rt_sld hX hbl dL_law_246 h1 ?_
  refine rt_aload_n dL_law_247 rfl (j := 1) rfl ?_
  refine rt_callS Γ kk_L_schema kc_RL_65 hA (by omega) (by decide) (As := [rt_r s0 0, .int (xs (i + 1).toNatClampNeg), rt_r s0 137]) (show (parseMethodDescriptor yL_schema.desc).map (fun q => q.parameters.length) = some 3 by decide +kernel) hok (Nat.le_of_ble_eq_true rfl) dL_law_248 rfl rfl (fun v9 w1 hq => ?_) (fun X w1 hq => nomatch hq.1)
  obtain ⟨e1, hp⟩ := hq
  cases Sum.inl.inj e1
  obtain ⟨hk1, ⟨f1, hf1⟩, hM⟩ := hB w1 hp
  show rt_Go l s0 G RL nm cL_law 7 (some .boolean) tab 2036 rt_w0 Q (248 + 3) [(4, .int i), (3, rt_r s0 137), (2, rt_r s0 84), (1, rt_r s0 0), (0, .ref b)] [.int k] w1
  refine rt_istore (lv' := [(5, .int k), (4, .int i), (3, rt_r s0 137), (2, rt_r s0 84), (1, rt_r s0 0), (0, .ref b)]) dL_law_251 (by decide) rfl ?_
  refine rt_aload_n dL_law_253 rfl (j := 3) rfl ?_
  refine rt_aloadA_n dL_law_254 rfl (j := 5) rfl ?_
  refine rt_iload dL_law_255 (j := 1) rfl ?_
  refine rt_iconst (v := 1) dL_law_257 (by decide) ?_
  refine rt_iadd dL_law_258 ?_
  refine rt_sld hX hbl dL_law_259 h1 ?_
  refine rt_callV Γ kk_X11_schema kc_RL_68 hM (by omega) (by decide) (As := [.int (xs (i + 1).toNatClampNeg)]) (show (parseMethodDescriptor yX11_schema.desc).map (fun q => q.parameters.length) = some 1 by decide +kernel) hk1 (Nat.le_of_ble_eq_true rfl) dL_law_260 hf1 rfl rfl rfl (fun v8 w2 hq => ?_) (fun X w2 hq => by obtain ⟨_, e, -⟩ := hq; cases e)
  obtain ⟨v, e2, ⟨hk2, ⟨f2, hf2⟩, hT⟩, hO, hC⟩ := hq
  cases Sum.inl.inj e2
  show rt_Go l s0 G RL nm cL_law 7 (some .boolean) tab 2036 rt_w0 Q (260 + 3) [(5, .int k), (4, .int i), (3, rt_r s0 137), (2, rt_r s0 84), (1, rt_r s0 0), (0, .ref b)] [.int v] w2
  refine rt_istore (lv' := [(6, .int v), (5, .int k), (4, .int i), (3, rt_r s0 137), (2, rt_r s0 84), (1, rt_r s0 0), (0, .ref b)]) dL_law_263 (by decide) rfl ?_
  refine rt_aload_n dL_law_265 rfl (j := 4) rfl ?_
  refine rt_callV Γ kk_X11_thrown kc_RL_57 hT (by omega) (by decide) (As := []) (show (parseMethodDescriptor yX11_thrown.desc).map (fun q => q.parameters.length) = some 0 by decide +kernel) hk2 (Nat.le_of_ble_eq_true rfl) dL_law_266 hf2 rfl rfl rfl (rt_kr (st2 := [.int k]) rfl ?_) rt_kx
  refine rt_iload dL_law_269 (j := 1) rfl ?_
  refine rt_icmp_eq (tgt := 276) dL_law_271 (by decide) (fun _ => ?_) (fun c271 => absurd rfl c271)
  refine rt_iload dL_law_276 (j := 1) rfl ?_
  by_cases hk : k = 0
  · subst hk
    obtain ⟨g, hg, eg⟩ := hO rfl
    refine rt_if_ne (tgt := 293) dL_law_278 (by decide) (fun c278 => absurd c278 (fun h => h rfl)) (fun _ => ?_)
    refine rt_aload_n dL_law_281 rfl (j := 3) rfl ?_
    refine rt_iconst (v := 0) dL_law_282 (by decide) ?_
    refine rt_lald Γ dL_law_283 hg (vp_in_iff.mpr ⟨by decide, by decide⟩) ?_
    rw [show g (0 : Int32).toNatClampNeg = _ from eg]
    refine rt_iload dL_law_284 (j := 0) rfl ?_
    refine rt_i2l dL_law_286 rfl ?_
    refine rt_lcmp dL_law_287 ?_
    refine rt_if_eq (tgt := 293) dL_law_288 (by decide) (fun _ => ?_) (fun c288 => absurd ((lg_cmp_eq _ _).mpr rfl) c288)
    refine rt_goto (tgt := 701) dL_law_293 (by decide) ?_
    exact rt_lfew [2, 3, 4, 5, 6] rfl (kk _ hC)
  · refine rt_if_ne (tgt := 293) dL_law_278 (by decide) (fun _ => ?_) (fun c278 => absurd c278 hk)
    refine rt_goto (tgt := 701) dL_law_293 (by decide) ?_
    exact rt_lfew [2, 3, 4, 5, 6] rfl (kk _ hC)
set_option maxRecDepth 100000 in
theorem lw_g_load {l : Launch} {s0 : State} {a0 : Array Value} {G : va_G} {ca : Nat → ClassId} (Γ : rt_Γ l s0 a0 G ca) {nm : String} {tab : List ExceptionTableEntry} {b N : Nat} {xs : Nat → Int32} (hX : va_X b N xs s0 s0.heap) (hbl : b < s0.heap.size) {i : Int32} (h1 : vp_in (i + 1) N) {w : rt_Wd} {Q : rt_Res → rt_Wd → Prop} {k : Int32} {PA PC : rt_Wd → Prop} (hok : rt_ok w)
    (hA : rt_Met l s0 G (.codeWith yL_load cL_load 4 (Option.some FieldType.int) [(0, 9, 12, 25), (0, 9, 15, 13)]) yL_load 2035 [rt_r s0 0, .int (xs (i + 1).toNatClampNeg), rt_r s0 137] w (fun r w1 => r = .inl (some (.int k)) ∧ PA w1))
    (hB : ∀ w1 : rt_Wd, PA w1 → rt_ok w1 ∧ (∃ fs : List Value, w1.2.2 84 = some (.inr (11, fs))) ∧ rt_Met l s0 G (.code yX11_load cX11_load 4 (Option.some FieldType.int)) yX11_load 2035 [rt_r s0 84, .int (xs (i + 1).toNatClampNeg)] w1 (rt_an (fun v w2 => rt_mk l s0 G k w2 ∧ (k = 0 → rt_o9 ca w2 v.toInt64) ∧ PC w2)))
    (kk : ∀ w2 : rt_Wd, PC w2 → rt_Go l s0 G RL nm cL_law 7 (some .boolean) tab 2036 rt_w0 Q 701 [(4, .int i), (3, rt_r s0 137), (2, rt_r s0 84), (1, rt_r s0 0), (0, .ref b)] [] w2) : rt_Go l s0 G RL nm cL_law 7 (some .boolean) tab 2036 rt_w0 Q 296 [(4, .int i), (3, rt_r s0 137), (2, rt_r s0 84), (1, rt_r s0 0), (0, .ref b)] [] w := by
  refine rt_aload_n dL_law_296 rfl (j := 3) rfl ?_
  refine rt_aloadA_n dL_law_297 rfl (j := 4) rfl ?_
  refine rt_iload dL_law_298 (j := 0) rfl ?_
  refine rt_iconst (v := 1) dL_law_300 (by decide) ?_
  refine rt_iadd dL_law_301 ?_
  refine rt_sld hX hbl dL_law_302 h1 ?_
  refine rt_aload_n dL_law_303 rfl (j := 1) rfl ?_
  refine rt_callS Γ kk_L_load kc_RL_69 hA (by omega) (by decide) (As := [rt_r s0 0, .int (xs (i + 1).toNatClampNeg), rt_r s0 137]) (show (parseMethodDescriptor yL_load.desc).map (fun q => q.parameters.length) = some 3 by decide +kernel) hok (Nat.le_of_ble_eq_true rfl) dL_law_304 rfl rfl (fun v9 w1 hq => ?_) (fun X w1 hq => nomatch hq.1)
  obtain ⟨e1, hp⟩ := hq
  cases Sum.inl.inj e1
  obtain ⟨hk1, ⟨f1, hf1⟩, hM⟩ := hB w1 hp
  show rt_Go l s0 G RL nm cL_law 7 (some .boolean) tab 2036 rt_w0 Q (304 + 3) [(4, .int i), (3, rt_r s0 137), (2, rt_r s0 84), (1, rt_r s0 0), (0, .ref b)] [.int k] w1
  refine rt_istore (lv' := [(5, .int k), (4, .int i), (3, rt_r s0 137), (2, rt_r s0 84), (1, rt_r s0 0), (0, .ref b)]) dL_law_307 (by decide) rfl ?_
  refine rt_aload_n dL_law_309 rfl (j := 3) rfl ?_
  refine rt_aloadA_n dL_law_310 rfl (j := 5) rfl ?_
  refine rt_iload dL_law_311 (j := 1) rfl ?_
  refine rt_iconst (v := 1) dL_law_313 (by decide) ?_
  refine rt_iadd dL_law_314 ?_
  refine rt_sld hX hbl dL_law_315 h1 ?_
  refine rt_callV Γ kk_X11_load kc_RL_71 hM (by omega) (by decide) (As := [.int (xs (i + 1).toNatClampNeg)]) (show (parseMethodDescriptor yX11_load.desc).map (fun q => q.parameters.length) = some 1 by decide +kernel) hk1 (Nat.le_of_ble_eq_true rfl) dL_law_316 hf1 rfl rfl rfl (fun v8 w2 hq => ?_) (fun X w2 hq => by obtain ⟨_, e, -⟩ := hq; cases e)
  obtain ⟨v, e2, ⟨hk2, ⟨f2, hf2⟩, hT⟩, hO, hC⟩ := hq
  cases Sum.inl.inj e2
  show rt_Go l s0 G RL nm cL_law 7 (some .boolean) tab 2036 rt_w0 Q (316 + 3) [(5, .int k), (4, .int i), (3, rt_r s0 137), (2, rt_r s0 84), (1, rt_r s0 0), (0, .ref b)] [.int v] w2
  refine rt_istore (lv' := [(6, .int v), (5, .int k), (4, .int i), (3, rt_r s0 137), (2, rt_r s0 84), (1, rt_r s0 0), (0, .ref b)]) dL_law_319 (by decide) rfl ?_
  refine rt_aload_n dL_law_321 rfl (j := 4) rfl ?_
  refine rt_callV Γ kk_X11_thrown kc_RL_57 hT (by omega) (by decide) (As := []) (show (parseMethodDescriptor yX11_thrown.desc).map (fun q => q.parameters.length) = some 0 by decide +kernel) hk2 (Nat.le_of_ble_eq_true rfl) dL_law_322 hf2 rfl rfl rfl (rt_kr (st2 := [.int k]) rfl ?_) rt_kx
  refine rt_iload dL_law_325 (j := 1) rfl ?_
  refine rt_icmp_eq (tgt := 332) dL_law_327 (by decide) (fun _ => ?_) (fun c327 => absurd rfl c327)
  refine rt_iload dL_law_332 (j := 1) rfl ?_
  by_cases hk : k = 0
  · subst hk
    obtain ⟨g, hg, eg⟩ := hO rfl
    refine rt_if_ne (tgt := 349) dL_law_334 (by decide) (fun c334 => absurd c334 (fun h => h rfl)) (fun _ => ?_)
    refine rt_aload_n dL_law_337 rfl (j := 3) rfl ?_
    refine rt_iconst (v := 0) dL_law_338 (by decide) ?_
    refine rt_lald Γ dL_law_339 hg (vp_in_iff.mpr ⟨by decide, by decide⟩) ?_
    rw [show g (0 : Int32).toNatClampNeg = _ from eg]
    refine rt_iload dL_law_340 (j := 0) rfl ?_
    refine rt_i2l dL_law_342 rfl ?_
    refine rt_lcmp dL_law_343 ?_
    refine rt_if_eq (tgt := 349) dL_law_344 (by decide) (fun _ => ?_) (fun c344 => absurd ((lg_cmp_eq _ _).mpr rfl) c344)
    refine rt_goto (tgt := 701) dL_law_349 (by decide) ?_
    exact rt_lfew [2, 3, 4, 5, 6] rfl (kk _ hC)
  · refine rt_if_ne (tgt := 349) dL_law_334 (by decide) (fun _ => ?_) (fun c334 => absurd c334 hk)
    refine rt_goto (tgt := 701) dL_law_349 (by decide) ?_
    exact rt_lfew [2, 3, 4, 5, 6] rfl (kk _ hC)
set_option maxRecDepth 100000 in
theorem lw_g_size {l : Launch} {s0 : State} {a0 : Array Value} {G : va_G} {ca : Nat → ClassId} (Γ : rt_Γ l s0 a0 G ca) {nm : String} {tab : List ExceptionTableEntry} {b N : Nat} {xs : Nat → Int32} (hX : va_X b N xs s0 s0.heap) (hbl : b < s0.heap.size) {i : Int32} (h1 : vp_in (i + 1) N) {w : rt_Wd} {Q : rt_Res → rt_Wd → Prop} {k : Int32} {PA PC : rt_Wd → Prop} (hok : rt_ok w)
    (hA : rt_Met l s0 G (.codeWith yL_size cL_size 4 (Option.some FieldType.int) [(0, 9, 12, 19)]) yL_size 2035 [rt_r s0 0, .int (xs (i + 1).toNatClampNeg), rt_r s0 137] w (fun r w1 => r = .inl (some (.int k)) ∧ PA w1))
    (hB : ∀ w1 : rt_Wd, PA w1 → rt_ok w1 ∧ (∃ fs : List Value, w1.2.2 84 = some (.inr (11, fs))) ∧ rt_Met l s0 G (.code yX11_size cX11_size 2 (Option.some FieldType.int)) yX11_size 2035 [rt_r s0 84, .int (xs (i + 1).toNatClampNeg)] w1 (rt_an (fun v w2 => rt_mk l s0 G k w2 ∧ (k = 0 → rt_o9 ca w2 v.toInt64) ∧ PC w2)))
    (kk : ∀ w2 : rt_Wd, PC w2 → rt_Go l s0 G RL nm cL_law 7 (some .boolean) tab 2036 rt_w0 Q 701 [(4, .int i), (3, rt_r s0 137), (2, rt_r s0 84), (1, rt_r s0 0), (0, .ref b)] [] w2) : rt_Go l s0 G RL nm cL_law 7 (some .boolean) tab 2036 rt_w0 Q 378 [(4, .int i), (3, rt_r s0 137), (2, rt_r s0 84), (1, rt_r s0 0), (0, .ref b)] [] w := by
  refine rt_aload_n dL_law_378 rfl (j := 3) rfl ?_
  refine rt_aloadA_n dL_law_379 rfl (j := 4) rfl ?_
  refine rt_iload dL_law_380 (j := 0) rfl ?_
  refine rt_iconst (v := 1) dL_law_382 (by decide) ?_
  refine rt_iadd dL_law_383 ?_
  refine rt_sld hX hbl dL_law_384 h1 ?_
  refine rt_aload_n dL_law_385 rfl (j := 1) rfl ?_
  refine rt_callS Γ kk_L_size kc_RL_80 hA (by omega) (by decide) (As := [rt_r s0 0, .int (xs (i + 1).toNatClampNeg), rt_r s0 137]) (show (parseMethodDescriptor yL_size.desc).map (fun q => q.parameters.length) = some 3 by decide +kernel) hok (Nat.le_of_ble_eq_true rfl) dL_law_386 rfl rfl (fun v9 w1 hq => ?_) (fun X w1 hq => nomatch hq.1)
  obtain ⟨e1, hp⟩ := hq
  cases Sum.inl.inj e1
  obtain ⟨hk1, ⟨f1, hf1⟩, hM⟩ := hB w1 hp
  show rt_Go l s0 G RL nm cL_law 7 (some .boolean) tab 2036 rt_w0 Q (386 + 3) [(4, .int i), (3, rt_r s0 137), (2, rt_r s0 84), (1, rt_r s0 0), (0, .ref b)] [.int k] w1
  refine rt_istore (lv' := [(5, .int k), (4, .int i), (3, rt_r s0 137), (2, rt_r s0 84), (1, rt_r s0 0), (0, .ref b)]) dL_law_389 (by decide) rfl ?_
  refine rt_aload_n dL_law_391 rfl (j := 3) rfl ?_
  refine rt_aloadA_n dL_law_392 rfl (j := 5) rfl ?_
  refine rt_iload dL_law_393 (j := 1) rfl ?_
  refine rt_iconst (v := 1) dL_law_395 (by decide) ?_
  refine rt_iadd dL_law_396 ?_
  refine rt_sld hX hbl dL_law_397 h1 ?_
  refine rt_callV Γ kk_X11_size kc_RL_82 hM (by omega) (by decide) (As := [.int (xs (i + 1).toNatClampNeg)]) (show (parseMethodDescriptor yX11_size.desc).map (fun q => q.parameters.length) = some 1 by decide +kernel) hk1 (Nat.le_of_ble_eq_true rfl) dL_law_398 hf1 rfl rfl rfl (fun v8 w2 hq => ?_) (fun X w2 hq => by obtain ⟨_, e, -⟩ := hq; cases e)
  obtain ⟨v, e2, ⟨hk2, ⟨f2, hf2⟩, hT⟩, hO, hC⟩ := hq
  cases Sum.inl.inj e2
  show rt_Go l s0 G RL nm cL_law 7 (some .boolean) tab 2036 rt_w0 Q (398 + 3) [(5, .int k), (4, .int i), (3, rt_r s0 137), (2, rt_r s0 84), (1, rt_r s0 0), (0, .ref b)] [.int v] w2
  refine rt_istore (lv' := [(6, .int v), (5, .int k), (4, .int i), (3, rt_r s0 137), (2, rt_r s0 84), (1, rt_r s0 0), (0, .ref b)]) dL_law_401 (by decide) rfl ?_
  refine rt_aload_n dL_law_403 rfl (j := 4) rfl ?_
  refine rt_callV Γ kk_X11_thrown kc_RL_57 hT (by omega) (by decide) (As := []) (show (parseMethodDescriptor yX11_thrown.desc).map (fun q => q.parameters.length) = some 0 by decide +kernel) hk2 (Nat.le_of_ble_eq_true rfl) dL_law_404 hf2 rfl rfl rfl (rt_kr (st2 := [.int k]) rfl ?_) rt_kx
  refine rt_iload dL_law_407 (j := 1) rfl ?_
  refine rt_icmp_eq (tgt := 414) dL_law_409 (by decide) (fun _ => ?_) (fun c409 => absurd rfl c409)
  refine rt_iload dL_law_414 (j := 1) rfl ?_
  by_cases hk : k = 0
  · subst hk
    obtain ⟨g, hg, eg⟩ := hO rfl
    refine rt_if_ne (tgt := 431) dL_law_416 (by decide) (fun c416 => absurd c416 (fun h => h rfl)) (fun _ => ?_)
    refine rt_aload_n dL_law_419 rfl (j := 3) rfl ?_
    refine rt_iconst (v := 0) dL_law_420 (by decide) ?_
    refine rt_lald Γ dL_law_421 hg (vp_in_iff.mpr ⟨by decide, by decide⟩) ?_
    rw [show g (0 : Int32).toNatClampNeg = _ from eg]
    refine rt_iload dL_law_422 (j := 0) rfl ?_
    refine rt_i2l dL_law_424 rfl ?_
    refine rt_lcmp dL_law_425 ?_
    refine rt_if_eq (tgt := 431) dL_law_426 (by decide) (fun _ => ?_) (fun c426 => absurd ((lg_cmp_eq _ _).mpr rfl) c426)
    refine rt_goto (tgt := 701) dL_law_431 (by decide) ?_
    exact rt_lfew [2, 3, 4, 5, 6] rfl (kk _ hC)
  · refine rt_if_ne (tgt := 431) dL_law_416 (by decide) (fun _ => ?_) (fun c416 => absurd c416 hk)
    refine rt_goto (tgt := 701) dL_law_431 (by decide) ?_
    exact rt_lfew [2, 3, 4, 5, 6] rfl (kk _ hC)
set_option maxRecDepth 100000 in
theorem lw_g_letter {l : Launch} {s0 : State} {a0 : Array Value} {G : va_G} {ca : Nat → ClassId} (Γ : rt_Γ l s0 a0 G ca) {nm : String} {tab : List ExceptionTableEntry} {b N : Nat} {xs : Nat → Int32} (hX : va_X b N xs s0 s0.heap) (hbl : b < s0.heap.size) {i : Int32} (h1 : vp_in (i + 1) N) (h2 : vp_in (i + 2) N) {w : rt_Wd} {Q : rt_Res → rt_Wd → Prop} {k : Int32} {PA PC : rt_Wd → Prop} (hok : rt_ok w)
    (hA : rt_Met l s0 G (.codeWith yL_letter cL_letter 5 (Option.some FieldType.int) [(0, 10, 13, 25), (0, 10, 17, 19)]) yL_letter 2035 [rt_r s0 0, .int (xs (i + 1).toNatClampNeg), .int (xs (i + 2).toNatClampNeg), rt_r s0 137] w (fun r w1 => r = .inl (some (.int k)) ∧ PA w1))
    (hB : ∀ w1 : rt_Wd, PA w1 → rt_ok w1 ∧ (∃ fs : List Value, w1.2.2 84 = some (.inr (11, fs))) ∧ rt_Met l s0 G (.code yX11_letter cX11_letter 4 (Option.some FieldType.int)) yX11_letter 2035 [rt_r s0 84, .int (xs (i + 1).toNatClampNeg), .int (xs (i + 2).toNatClampNeg)] w1 (rt_an (fun v w2 => rt_mk l s0 G k w2 ∧ (k = 0 → rt_o9 ca w2 v.toInt64) ∧ PC w2)))
    (kk : ∀ w2 : rt_Wd, PC w2 → rt_Go l s0 G RL nm cL_law 7 (some .boolean) tab 2036 rt_w0 Q 701 [(4, .int i), (3, rt_r s0 137), (2, rt_r s0 84), (1, rt_r s0 0), (0, .ref b)] [] w2) : rt_Go l s0 G RL nm cL_law 7 (some .boolean) tab 2036 rt_w0 Q 434 [(4, .int i), (3, rt_r s0 137), (2, rt_r s0 84), (1, rt_r s0 0), (0, .ref b)] [] w := by
  refine rt_aload_n dL_law_434 rfl (j := 3) rfl ?_
  refine rt_aloadA_n dL_law_435 rfl (j := 4) rfl ?_
  refine rt_iload dL_law_436 (j := 0) rfl ?_
  refine rt_iconst (v := 1) dL_law_438 (by decide) ?_
  refine rt_iadd dL_law_439 ?_
  refine rt_sld hX hbl dL_law_440 h1 ?_
  refine rt_aloadA_n dL_law_441 rfl (j := 4) rfl ?_
  refine rt_iload dL_law_442 (j := 0) rfl ?_
  refine rt_iconst (v := 2) dL_law_444 (by decide) ?_
  refine rt_iadd dL_law_445 ?_
  refine rt_sld hX hbl dL_law_446 h2 ?_
  refine rt_aload_n dL_law_447 rfl (j := 1) rfl ?_
  refine rt_callS Γ kk_L_letter kc_RL_83 hA (by omega) (by decide) (As := [rt_r s0 0, .int (xs (i + 1).toNatClampNeg), .int (xs (i + 2).toNatClampNeg), rt_r s0 137]) (show (parseMethodDescriptor yL_letter.desc).map (fun q => q.parameters.length) = some 4 by decide +kernel) hok (Nat.le_of_ble_eq_true rfl) dL_law_448 rfl rfl (fun v9 w1 hq => ?_) (fun X w1 hq => nomatch hq.1)
  obtain ⟨e1, hp⟩ := hq
  cases Sum.inl.inj e1
  obtain ⟨hk1, ⟨f1, hf1⟩, hM⟩ := hB w1 hp
  show rt_Go l s0 G RL nm cL_law 7 (some .boolean) tab 2036 rt_w0 Q (448 + 3) [(4, .int i), (3, rt_r s0 137), (2, rt_r s0 84), (1, rt_r s0 0), (0, .ref b)] [.int k] w1
  refine rt_istore (lv' := [(5, .int k), (4, .int i), (3, rt_r s0 137), (2, rt_r s0 84), (1, rt_r s0 0), (0, .ref b)]) dL_law_451 (by decide) rfl ?_
  refine rt_aload_n dL_law_453 rfl (j := 3) rfl ?_
  refine rt_aloadA_n dL_law_454 rfl (j := 5) rfl ?_
  refine rt_iload dL_law_455 (j := 1) rfl ?_
  refine rt_iconst (v := 1) dL_law_457 (by decide) ?_
  refine rt_iadd dL_law_458 ?_
  refine rt_sld hX hbl dL_law_459 h1 ?_
  refine rt_aloadA_n dL_law_460 rfl (j := 5) rfl ?_
  refine rt_iload dL_law_461 (j := 1) rfl ?_
  refine rt_iconst (v := 2) dL_law_463 (by decide) ?_
  refine rt_iadd dL_law_464 ?_
  refine rt_sld hX hbl dL_law_465 h2 ?_
  refine rt_callV Γ kk_X11_letter kc_RL_86 hM (by omega) (by decide) (As := [.int (xs (i + 1).toNatClampNeg), .int (xs (i + 2).toNatClampNeg)]) (show (parseMethodDescriptor yX11_letter.desc).map (fun q => q.parameters.length) = some 2 by decide +kernel) hk1 (Nat.le_of_ble_eq_true rfl) dL_law_466 hf1 rfl rfl rfl (fun v8 w2 hq => ?_) (fun X w2 hq => by obtain ⟨_, e, -⟩ := hq; cases e)
  obtain ⟨v, e2, ⟨hk2, ⟨f2, hf2⟩, hT⟩, hO, hC⟩ := hq
  cases Sum.inl.inj e2
  show rt_Go l s0 G RL nm cL_law 7 (some .boolean) tab 2036 rt_w0 Q (466 + 3) [(5, .int k), (4, .int i), (3, rt_r s0 137), (2, rt_r s0 84), (1, rt_r s0 0), (0, .ref b)] [.int v] w2
  refine rt_istore (lv' := [(6, .int v), (5, .int k), (4, .int i), (3, rt_r s0 137), (2, rt_r s0 84), (1, rt_r s0 0), (0, .ref b)]) dL_law_469 (by decide) rfl ?_
  refine rt_aload_n dL_law_471 rfl (j := 4) rfl ?_
  refine rt_callV Γ kk_X11_thrown kc_RL_57 hT (by omega) (by decide) (As := []) (show (parseMethodDescriptor yX11_thrown.desc).map (fun q => q.parameters.length) = some 0 by decide +kernel) hk2 (Nat.le_of_ble_eq_true rfl) dL_law_472 hf2 rfl rfl rfl (rt_kr (st2 := [.int k]) rfl ?_) rt_kx
  refine rt_iload dL_law_475 (j := 1) rfl ?_
  refine rt_icmp_eq (tgt := 482) dL_law_477 (by decide) (fun _ => ?_) (fun c477 => absurd rfl c477)
  refine rt_iload dL_law_482 (j := 1) rfl ?_
  by_cases hk : k = 0
  · subst hk
    obtain ⟨g, hg, eg⟩ := hO rfl
    refine rt_if_ne (tgt := 499) dL_law_484 (by decide) (fun c484 => absurd c484 (fun h => h rfl)) (fun _ => ?_)
    refine rt_aload_n dL_law_487 rfl (j := 3) rfl ?_
    refine rt_iconst (v := 0) dL_law_488 (by decide) ?_
    refine rt_lald Γ dL_law_489 hg (vp_in_iff.mpr ⟨by decide, by decide⟩) ?_
    rw [show g (0 : Int32).toNatClampNeg = _ from eg]
    refine rt_iload dL_law_490 (j := 0) rfl ?_
    refine rt_i2l dL_law_492 rfl ?_
    refine rt_lcmp dL_law_493 ?_
    refine rt_if_eq (tgt := 499) dL_law_494 (by decide) (fun _ => ?_) (fun c494 => absurd ((lg_cmp_eq _ _).mpr rfl) c494)
    refine rt_goto (tgt := 701) dL_law_499 (by decide) ?_
    exact rt_lfew [2, 3, 4, 5, 6] rfl (kk _ hC)
  · refine rt_if_ne (tgt := 499) dL_law_484 (by decide) (fun _ => ?_) (fun c484 => absurd c484 hk)
    refine rt_goto (tgt := 701) dL_law_499 (by decide) ?_
    exact rt_lfew [2, 3, 4, 5, 6] rfl (kk _ hC)
set_option maxRecDepth 100000 in
theorem lw_g_read {l : Launch} {s0 : State} {a0 : Array Value} {G : va_G} {ca : Nat → ClassId} (Γ : rt_Γ l s0 a0 G ca) {nm : String} {tab : List ExceptionTableEntry} {b N : Nat} {xs : Nat → Int32} (hX : va_X b N xs s0 s0.heap) (hbl : b < s0.heap.size) {i : Int32} (h1 : vp_in (i + 1) N) (h2 : vp_in (i + 2) N) {w : rt_Wd} {Q : rt_Res → rt_Wd → Prop} {k : Int32} {PA PC : rt_Wd → Prop} (hok : rt_ok w)
    (hA : rt_Met l s0 G (.codeWith yL_read cL_read 5 (Option.some FieldType.int) [(0, 10, 13, 25), (0, 10, 17, 13)]) yL_read 2035 [rt_r s0 0, .int (xs (i + 1).toNatClampNeg), .int (xs (i + 2).toNatClampNeg), rt_r s0 137] w (fun r w1 => r = .inl (some (.int k)) ∧ PA w1))
    (hB : ∀ w1 : rt_Wd, PA w1 → rt_ok w1 ∧ (∃ fs : List Value, w1.2.2 84 = some (.inr (11, fs))) ∧ rt_Met l s0 G (.code yX11_read_ cX11_read_ 6 (Option.some FieldType.int)) yX11_read_ 2035 [rt_r s0 84, .int (xs (i + 1).toNatClampNeg), .int (xs (i + 2).toNatClampNeg)] w1 (rt_an (fun v w2 => rt_mk l s0 G k w2 ∧ (k = 0 → rt_o9 ca w2 v.toInt64) ∧ PC w2)))
    (kk : ∀ w2 : rt_Wd, PC w2 → rt_Go l s0 G RL nm cL_law 7 (some .boolean) tab 2036 rt_w0 Q 701 [(4, .int i), (3, rt_r s0 137), (2, rt_r s0 84), (1, rt_r s0 0), (0, .ref b)] [] w2) : rt_Go l s0 G RL nm cL_law 7 (some .boolean) tab 2036 rt_w0 Q 502 [(4, .int i), (3, rt_r s0 137), (2, rt_r s0 84), (1, rt_r s0 0), (0, .ref b)] [] w := by
  refine rt_aload_n dL_law_502 rfl (j := 3) rfl ?_
  refine rt_aloadA_n dL_law_503 rfl (j := 4) rfl ?_
  refine rt_iload dL_law_504 (j := 0) rfl ?_
  refine rt_iconst (v := 1) dL_law_506 (by decide) ?_
  refine rt_iadd dL_law_507 ?_
  refine rt_sld hX hbl dL_law_508 h1 ?_
  refine rt_aloadA_n dL_law_509 rfl (j := 4) rfl ?_
  refine rt_iload dL_law_510 (j := 0) rfl ?_
  refine rt_iconst (v := 2) dL_law_512 (by decide) ?_
  refine rt_iadd dL_law_513 ?_
  refine rt_sld hX hbl dL_law_514 h2 ?_
  refine rt_aload_n dL_law_515 rfl (j := 1) rfl ?_
  refine rt_callS Γ kk_L_read kc_RL_87 hA (by omega) (by decide) (As := [rt_r s0 0, .int (xs (i + 1).toNatClampNeg), .int (xs (i + 2).toNatClampNeg), rt_r s0 137]) (show (parseMethodDescriptor yL_read.desc).map (fun q => q.parameters.length) = some 4 by decide +kernel) hok (Nat.le_of_ble_eq_true rfl) dL_law_516 rfl rfl (fun v9 w1 hq => ?_) (fun X w1 hq => nomatch hq.1)
  obtain ⟨e1, hp⟩ := hq
  cases Sum.inl.inj e1
  obtain ⟨hk1, ⟨f1, hf1⟩, hM⟩ := hB w1 hp
  show rt_Go l s0 G RL nm cL_law 7 (some .boolean) tab 2036 rt_w0 Q (516 + 3) [(4, .int i), (3, rt_r s0 137), (2, rt_r s0 84), (1, rt_r s0 0), (0, .ref b)] [.int k] w1
  refine rt_istore (lv' := [(5, .int k), (4, .int i), (3, rt_r s0 137), (2, rt_r s0 84), (1, rt_r s0 0), (0, .ref b)]) dL_law_519 (by decide) rfl ?_
  refine rt_aload_n dL_law_521 rfl (j := 3) rfl ?_
  refine rt_aloadA_n dL_law_522 rfl (j := 5) rfl ?_
  refine rt_iload dL_law_523 (j := 1) rfl ?_
  refine rt_iconst (v := 1) dL_law_525 (by decide) ?_
  refine rt_iadd dL_law_526 ?_
  refine rt_sld hX hbl dL_law_527 h1 ?_
  refine rt_aloadA_n dL_law_528 rfl (j := 5) rfl ?_
  refine rt_iload dL_law_529 (j := 1) rfl ?_
  refine rt_iconst (v := 2) dL_law_531 (by decide) ?_
  refine rt_iadd dL_law_532 ?_
  refine rt_sld hX hbl dL_law_533 h2 ?_
  refine rt_callV Γ kk_X11_read_ kc_RL_89 hM (by omega) (by decide) (As := [.int (xs (i + 1).toNatClampNeg), .int (xs (i + 2).toNatClampNeg)]) (show (parseMethodDescriptor yX11_read_.desc).map (fun q => q.parameters.length) = some 2 by decide +kernel) hk1 (Nat.le_of_ble_eq_true rfl) dL_law_534 hf1 rfl rfl rfl (fun v8 w2 hq => ?_) (fun X w2 hq => by obtain ⟨_, e, -⟩ := hq; cases e)
  obtain ⟨v, e2, ⟨hk2, ⟨f2, hf2⟩, hT⟩, hO, hC⟩ := hq
  cases Sum.inl.inj e2
  show rt_Go l s0 G RL nm cL_law 7 (some .boolean) tab 2036 rt_w0 Q (534 + 3) [(5, .int k), (4, .int i), (3, rt_r s0 137), (2, rt_r s0 84), (1, rt_r s0 0), (0, .ref b)] [.int v] w2
  refine rt_istore (lv' := [(6, .int v), (5, .int k), (4, .int i), (3, rt_r s0 137), (2, rt_r s0 84), (1, rt_r s0 0), (0, .ref b)]) dL_law_537 (by decide) rfl ?_
  refine rt_aload_n dL_law_539 rfl (j := 4) rfl ?_
  refine rt_callV Γ kk_X11_thrown kc_RL_57 hT (by omega) (by decide) (As := []) (show (parseMethodDescriptor yX11_thrown.desc).map (fun q => q.parameters.length) = some 0 by decide +kernel) hk2 (Nat.le_of_ble_eq_true rfl) dL_law_540 hf2 rfl rfl rfl (rt_kr (st2 := [.int k]) rfl ?_) rt_kx
  refine rt_iload dL_law_543 (j := 1) rfl ?_
  refine rt_icmp_eq (tgt := 550) dL_law_545 (by decide) (fun _ => ?_) (fun c545 => absurd rfl c545)
  refine rt_iload dL_law_550 (j := 1) rfl ?_
  by_cases hk : k = 0
  · subst hk
    obtain ⟨g, hg, eg⟩ := hO rfl
    refine rt_if_ne (tgt := 567) dL_law_552 (by decide) (fun c552 => absurd c552 (fun h => h rfl)) (fun _ => ?_)
    refine rt_aload_n dL_law_555 rfl (j := 3) rfl ?_
    refine rt_iconst (v := 0) dL_law_556 (by decide) ?_
    refine rt_lald Γ dL_law_557 hg (vp_in_iff.mpr ⟨by decide, by decide⟩) ?_
    rw [show g (0 : Int32).toNatClampNeg = _ from eg]
    refine rt_iload dL_law_558 (j := 0) rfl ?_
    refine rt_i2l dL_law_560 rfl ?_
    refine rt_lcmp dL_law_561 ?_
    refine rt_if_eq (tgt := 567) dL_law_562 (by decide) (fun _ => ?_) (fun c562 => absurd ((lg_cmp_eq _ _).mpr rfl) c562)
    refine rt_goto (tgt := 701) dL_law_567 (by decide) ?_
    exact rt_lfew [2, 3, 4, 5, 6] rfl (kk _ hC)
  · refine rt_if_ne (tgt := 567) dL_law_552 (by decide) (fun _ => ?_) (fun c552 => absurd c552 hk)
    refine rt_goto (tgt := 701) dL_law_567 (by decide) ?_
    exact rt_lfew [2, 3, 4, 5, 6] rfl (kk _ hC)
set_option maxRecDepth 100000 in
theorem lw_g_all {l : Launch} {s0 : State} {a0 : Array Value} {G : va_G} {ca : Nat → ClassId} (Γ : rt_Γ l s0 a0 G ca) {nm : String} {tab : List ExceptionTableEntry} {b N : Nat} {xs : Nat → Int32} (hX : va_X b N xs s0 s0.heap) (hbl : b < s0.heap.size) {i : Int32} (h1 : vp_in (i + 1) N) {w : rt_Wd} {Q : rt_Res → rt_Wd → Prop} {k : Int32} {PA PC : rt_Wd → Prop} (hok : rt_ok w)
    (hA : rt_Met l s0 G (.codeWith yL_all cL_all 4 (Option.some FieldType.int) [(0, 9, 12, 25), (0, 9, 15, 13)]) yL_all 2035 [rt_r s0 0, .int (xs (i + 1).toNatClampNeg), rt_r s0 137] w (fun r w1 => r = .inl (some (.int k)) ∧ PA w1))
    (hB : ∀ w1 : rt_Wd, PA w1 → rt_ok w1 ∧ (∃ fs : List Value, w1.2.2 84 = some (.inr (11, fs))) ∧ rt_Met l s0 G (.code yX11_all cX11_all 4 (Option.some FieldType.int)) yX11_all 2035 [rt_r s0 84, .int (xs (i + 1).toNatClampNeg)] w1 (rt_an (fun v w2 => rt_mk l s0 G k w2 ∧ (k = 0 → rt_o9 ca w2 v.toInt64) ∧ PC w2)))
    (kk : ∀ w2 : rt_Wd, PC w2 → rt_Go l s0 G RL nm cL_law 7 (some .boolean) tab 2036 rt_w0 Q 701 [(4, .int i), (3, rt_r s0 137), (2, rt_r s0 84), (1, rt_r s0 0), (0, .ref b)] [] w2) : rt_Go l s0 G RL nm cL_law 7 (some .boolean) tab 2036 rt_w0 Q 570 [(4, .int i), (3, rt_r s0 137), (2, rt_r s0 84), (1, rt_r s0 0), (0, .ref b)] [] w := by
  refine rt_aload_n dL_law_570 rfl (j := 3) rfl ?_
  refine rt_aloadA_n dL_law_571 rfl (j := 4) rfl ?_
  refine rt_iload dL_law_572 (j := 0) rfl ?_
  refine rt_iconst (v := 1) dL_law_574 (by decide) ?_
  refine rt_iadd dL_law_575 ?_
  refine rt_sld hX hbl dL_law_576 h1 ?_
  refine rt_aload_n dL_law_577 rfl (j := 1) rfl ?_
  refine rt_callS Γ kk_L_all kc_RL_90 hA (by omega) (by decide) (As := [rt_r s0 0, .int (xs (i + 1).toNatClampNeg), rt_r s0 137]) (show (parseMethodDescriptor yL_all.desc).map (fun q => q.parameters.length) = some 3 by decide +kernel) hok (Nat.le_of_ble_eq_true rfl) dL_law_578 rfl rfl (fun v9 w1 hq => ?_) (fun X w1 hq => nomatch hq.1)
  obtain ⟨e1, hp⟩ := hq
  cases Sum.inl.inj e1
  obtain ⟨hk1, ⟨f1, hf1⟩, hM⟩ := hB w1 hp
  show rt_Go l s0 G RL nm cL_law 7 (some .boolean) tab 2036 rt_w0 Q (578 + 3) [(4, .int i), (3, rt_r s0 137), (2, rt_r s0 84), (1, rt_r s0 0), (0, .ref b)] [.int k] w1
  refine rt_istore (lv' := [(5, .int k), (4, .int i), (3, rt_r s0 137), (2, rt_r s0 84), (1, rt_r s0 0), (0, .ref b)]) dL_law_581 (by decide) rfl ?_
  refine rt_aload_n dL_law_583 rfl (j := 3) rfl ?_
  refine rt_aloadA_n dL_law_584 rfl (j := 5) rfl ?_
  refine rt_iload dL_law_585 (j := 1) rfl ?_
  refine rt_iconst (v := 1) dL_law_587 (by decide) ?_
  refine rt_iadd dL_law_588 ?_
  refine rt_sld hX hbl dL_law_589 h1 ?_
  refine rt_callV Γ kk_X11_all kc_RL_92 hM (by omega) (by decide) (As := [.int (xs (i + 1).toNatClampNeg)]) (show (parseMethodDescriptor yX11_all.desc).map (fun q => q.parameters.length) = some 1 by decide +kernel) hk1 (Nat.le_of_ble_eq_true rfl) dL_law_590 hf1 rfl rfl rfl (fun v8 w2 hq => ?_) (fun X w2 hq => by obtain ⟨_, e, -⟩ := hq; cases e)
  obtain ⟨v, e2, ⟨hk2, ⟨f2, hf2⟩, hT⟩, hO, hC⟩ := hq
  cases Sum.inl.inj e2
  show rt_Go l s0 G RL nm cL_law 7 (some .boolean) tab 2036 rt_w0 Q (590 + 3) [(5, .int k), (4, .int i), (3, rt_r s0 137), (2, rt_r s0 84), (1, rt_r s0 0), (0, .ref b)] [.int v] w2
  refine rt_istore (lv' := [(6, .int v), (5, .int k), (4, .int i), (3, rt_r s0 137), (2, rt_r s0 84), (1, rt_r s0 0), (0, .ref b)]) dL_law_593 (by decide) rfl ?_
  refine rt_aload_n dL_law_595 rfl (j := 4) rfl ?_
  refine rt_callV Γ kk_X11_thrown kc_RL_57 hT (by omega) (by decide) (As := []) (show (parseMethodDescriptor yX11_thrown.desc).map (fun q => q.parameters.length) = some 0 by decide +kernel) hk2 (Nat.le_of_ble_eq_true rfl) dL_law_596 hf2 rfl rfl rfl (rt_kr (st2 := [.int k]) rfl ?_) rt_kx
  refine rt_iload dL_law_599 (j := 1) rfl ?_
  refine rt_icmp_eq (tgt := 606) dL_law_601 (by decide) (fun _ => ?_) (fun c601 => absurd rfl c601)
  refine rt_iload dL_law_606 (j := 1) rfl ?_
  by_cases hk : k = 0
  · subst hk
    obtain ⟨g, hg, eg⟩ := hO rfl
    refine rt_if_ne (tgt := 623) dL_law_608 (by decide) (fun c608 => absurd c608 (fun h => h rfl)) (fun _ => ?_)
    refine rt_aload_n dL_law_611 rfl (j := 3) rfl ?_
    refine rt_iconst (v := 0) dL_law_612 (by decide) ?_
    refine rt_lald Γ dL_law_613 hg (vp_in_iff.mpr ⟨by decide, by decide⟩) ?_
    rw [show g (0 : Int32).toNatClampNeg = _ from eg]
    refine rt_iload dL_law_614 (j := 0) rfl ?_
    refine rt_i2l dL_law_616 rfl ?_
    refine rt_lcmp dL_law_617 ?_
    refine rt_if_eq (tgt := 623) dL_law_618 (by decide) (fun _ => ?_) (fun c618 => absurd ((lg_cmp_eq _ _).mpr rfl) c618)
    refine rt_goto (tgt := 701) dL_law_623 (by decide) ?_
    exact rt_lfew [2, 3, 4, 5, 6] rfl (kk _ hC)
  · refine rt_if_ne (tgt := 623) dL_law_608 (by decide) (fun _ => ?_) (fun c608 => absurd c608 hk)
    refine rt_goto (tgt := 701) dL_law_623 (by decide) ?_
    exact rt_lfew [2, 3, 4, 5, 6] rfl (kk _ hC)
set_option maxRecDepth 100000 in
theorem lw_g_fits {l : Launch} {s0 : State} {a0 : Array Value} {G : va_G} {ca : Nat → ClassId} (Γ : rt_Γ l s0 a0 G ca) {nm : String} {tab : List ExceptionTableEntry} {b N : Nat} {xs : Nat → Int32} (hX : va_X b N xs s0 s0.heap) (hbl : b < s0.heap.size) {i : Int32} (h1 : vp_in (i + 1) N) (h2 : vp_in (i + 2) N) {w : rt_Wd} {Q : rt_Res → rt_Wd → Prop} {k : Int32} {PA PC : rt_Wd → Prop} (hok : rt_ok w)
    (hA : rt_Met l s0 G (.codeWith yL_fits cL_fits 5 (Option.some FieldType.int) [(0, 17, 20, 25), (0, 17, 24, 13)]) yL_fits 2035 [rt_r s0 0, .int (xs (i + 1).toNatClampNeg), .int (xs (i + 2).toNatClampNeg), rt_r s0 137] w (fun r w1 => r = .inl (some (.int k)) ∧ PA w1))
    (hB : ∀ w1 : rt_Wd, PA w1 → rt_ok w1 ∧ (∃ fs : List Value, w1.2.2 84 = some (.inr (11, fs))) ∧ rt_Met l s0 G (.code yX11_fits cX11_fits 3 (Option.some FieldType.boolean)) yX11_fits 2035 [rt_r s0 84, .int (xs (i + 1).toNatClampNeg), .int (xs (i + 2).toNatClampNeg)] w1 (rt_an (fun v w2 => rt_mk l s0 G k w2 ∧ (v = 0 ∨ v = 1) ∧ (k = 0 → rt_o9 ca w2 (if v = 0 then 0 else 1)) ∧ PC w2)))
    (kk : ∀ w2 : rt_Wd, PC w2 → rt_Go l s0 G RL nm cL_law 7 (some .boolean) tab 2036 rt_w0 Q 701 [(4, .int i), (3, rt_r s0 137), (2, rt_r s0 84), (1, rt_r s0 0), (0, .ref b)] [] w2) : rt_Go l s0 G RL nm cL_law 7 (some .boolean) tab 2036 rt_w0 Q 626 [(4, .int i), (3, rt_r s0 137), (2, rt_r s0 84), (1, rt_r s0 0), (0, .ref b)] [] w := by
  refine rt_aload_n dL_law_626 rfl (j := 3) rfl ?_
  refine rt_aloadA_n dL_law_627 rfl (j := 4) rfl ?_
  refine rt_iload dL_law_628 (j := 0) rfl ?_
  refine rt_iconst (v := 1) dL_law_630 (by decide) ?_
  refine rt_iadd dL_law_631 ?_
  refine rt_sld hX hbl dL_law_632 h1 ?_
  refine rt_aloadA_n dL_law_633 rfl (j := 4) rfl ?_
  refine rt_iload dL_law_634 (j := 0) rfl ?_
  refine rt_iconst (v := 2) dL_law_636 (by decide) ?_
  refine rt_iadd dL_law_637 ?_
  refine rt_sld hX hbl dL_law_638 h2 ?_
  refine rt_aload_n dL_law_639 rfl (j := 1) rfl ?_
  refine rt_callS Γ kk_L_fits kc_RL_93 hA (by omega) (by decide) (As := [rt_r s0 0, .int (xs (i + 1).toNatClampNeg), .int (xs (i + 2).toNatClampNeg), rt_r s0 137]) (show (parseMethodDescriptor yL_fits.desc).map (fun q => q.parameters.length) = some 4 by decide +kernel) hok (Nat.le_of_ble_eq_true rfl) dL_law_640 rfl rfl (fun v9 w1 hq => ?_) (fun X w1 hq => nomatch hq.1)
  obtain ⟨e1, hp⟩ := hq
  cases Sum.inl.inj e1
  obtain ⟨hk1, ⟨f1, hf1⟩, hM⟩ := hB w1 hp
  show rt_Go l s0 G RL nm cL_law 7 (some .boolean) tab 2036 rt_w0 Q (640 + 3) [(4, .int i), (3, rt_r s0 137), (2, rt_r s0 84), (1, rt_r s0 0), (0, .ref b)] [.int k] w1
  refine rt_istore (lv' := [(5, .int k), (4, .int i), (3, rt_r s0 137), (2, rt_r s0 84), (1, rt_r s0 0), (0, .ref b)]) dL_law_643 (by decide) rfl ?_
  refine rt_aload_n dL_law_645 rfl (j := 3) rfl ?_
  refine rt_aloadA_n dL_law_646 rfl (j := 5) rfl ?_
  refine rt_iload dL_law_647 (j := 1) rfl ?_
  refine rt_iconst (v := 1) dL_law_649 (by decide) ?_
  refine rt_iadd dL_law_650 ?_
  refine rt_sld hX hbl dL_law_651 h1 ?_
  refine rt_aloadA_n dL_law_652 rfl (j := 5) rfl ?_
  refine rt_iload dL_law_653 (j := 1) rfl ?_
  refine rt_iconst (v := 2) dL_law_655 (by decide) ?_
  refine rt_iadd dL_law_656 ?_
  refine rt_sld hX hbl dL_law_657 h2 ?_
  refine rt_callV Γ kk_X11_fits kc_RL_95 hM (by omega) (by decide) (As := [.int (xs (i + 1).toNatClampNeg), .int (xs (i + 2).toNatClampNeg)]) (show (parseMethodDescriptor yX11_fits.desc).map (fun q => q.parameters.length) = some 2 by decide +kernel) hk1 (Nat.le_of_ble_eq_true rfl) dL_law_658 hf1 rfl rfl rfl (fun v8 w2 hq => ?_) (fun X w2 hq => by obtain ⟨_, e, -⟩ := hq; cases e)
  obtain ⟨v, e2, ⟨hk2, ⟨f2, hf2⟩, hT⟩, hv, hO, hC⟩ := hq
  cases Sum.inl.inj e2
  show rt_Go l s0 G RL nm cL_law 7 (some .boolean) tab 2036 rt_w0 Q (658 + 3) [(5, .int k), (4, .int i), (3, rt_r s0 137), (2, rt_r s0 84), (1, rt_r s0 0), (0, .ref b)] [.int v] w2
  refine rt_istore (lv' := [(6, .int v), (5, .int k), (4, .int i), (3, rt_r s0 137), (2, rt_r s0 84), (1, rt_r s0 0), (0, .ref b)]) dL_law_661 (by decide) rfl ?_
  refine rt_aload_n dL_law_663 rfl (j := 4) rfl ?_
  refine rt_callV Γ kk_X11_thrown kc_RL_57 hT (by omega) (by decide) (As := []) (show (parseMethodDescriptor yX11_thrown.desc).map (fun q => q.parameters.length) = some 0 by decide +kernel) hk2 (Nat.le_of_ble_eq_true rfl) dL_law_664 hf2 rfl rfl rfl (rt_kr (st2 := [.int k]) rfl ?_) rt_kx
  refine rt_iload dL_law_667 (j := 1) rfl ?_
  refine rt_icmp_eq (tgt := 674) dL_law_669 (by decide) (fun _ => ?_) (fun c669 => absurd rfl c669)
  refine rt_iload dL_law_674 (j := 1) rfl ?_
  by_cases hk : k = 0
  · subst hk
    obtain ⟨g, hg, eg⟩ := hO rfl
    refine rt_if_ne (tgt := 698) dL_law_676 (by decide) (fun c676 => absurd c676 (fun h => h rfl)) (fun _ => ?_)
    refine rt_aload_n dL_law_679 rfl (j := 3) rfl ?_
    refine rt_iconst (v := 0) dL_law_680 (by decide) ?_
    refine rt_lald Γ dL_law_681 hg (vp_in_iff.mpr ⟨by decide, by decide⟩) ?_
    rw [show g (0 : Int32).toNatClampNeg = _ from eg]
    rcases hv with rfl | rfl
    · rw [show (if ((0 : Int32)) = 0 then (0 : Int64) else 1) = 0 from by decide]
      refine rt_iload dL_law_682 (j := 0) rfl ?_
      refine rt_if_eq (tgt := 691) dL_law_684 (by decide) (fun _ => ?_) (fun c684 => absurd rfl c684)
      refine rt_lconst (v := 0) dL_law_691 (by decide) ?_
      refine rt_lcmp dL_law_692 ?_
      refine rt_if_eq (tgt := 698) dL_law_693 (by decide) (fun _ => ?_) (fun c693 => absurd ((lg_cmp_eq _ _).mpr rfl) c693)
      refine rt_goto (tgt := 701) dL_law_698 (by decide) ?_
      exact rt_lfew [2, 3, 4, 5, 6] rfl (kk _ hC)
    · rw [show (if ((1 : Int32)) = 0 then (0 : Int64) else 1) = 1 from by decide]
      refine rt_iload dL_law_682 (j := 0) rfl ?_
      refine rt_if_eq (tgt := 691) dL_law_684 (by decide) (fun c684 => absurd c684 (by decide)) (fun _ => ?_)
      refine rt_lconst (v := 1) dL_law_687 (by decide) ?_
      refine rt_goto (tgt := 692) dL_law_688 (by decide) ?_
      refine rt_lcmp dL_law_692 ?_
      refine rt_if_eq (tgt := 698) dL_law_693 (by decide) (fun _ => ?_) (fun c693 => absurd ((lg_cmp_eq _ _).mpr rfl) c693)
      refine rt_goto (tgt := 701) dL_law_698 (by decide) ?_
      exact rt_lfew [2, 3, 4, 5, 6] rfl (kk _ hC)
  · refine rt_if_ne (tgt := 698) dL_law_676 (by decide) (fun _ => ?_) (fun c676 => absurd c676 hk)
    refine rt_goto (tgt := 701) dL_law_698 (by decide) ?_
    exact rt_lfew [2, 3, 4, 5, 6] rfl (kk _ hC)
set_option maxRecDepth 100000 in
theorem lw_g_place {l : Launch} {s0 : State} {a0 : Array Value} {G : va_G} {ca : Nat → ClassId} (Γ : rt_Γ l s0 a0 G ca) {nm : String} {tab : List ExceptionTableEntry} {b N : Nat} {xs : Nat → Int32} (hX : va_X b N xs s0 s0.heap) (hbl : b < s0.heap.size) {i : Int32}  {w : rt_Wd} {Q : rt_Res → rt_Wd → Prop} {PA : Int32 → rt_Wd → Prop} {PC : rt_Wd → Prop} (hok : rt_ok w) {f0 : List Value} (hX0 : w.2.2 0 = some (.inr (9, f0)))
    (hA : rt_Met l s0 G (.code yX9_place cX9_place 1 (Option.some FieldType.int)) yX9_place 2035 [rt_r s0 0] w (rt_an PA))
    (hB : ∀ (v : Int32) (w1 : rt_Wd), PA v w1 → rt_ok w1 ∧ (∃ fs : List Value, w1.2.2 84 = some (.inr (11, fs))) ∧ rt_Met l s0 G (.code yX11_place cX11_place 1 (Option.some FieldType.int)) yX11_place 2035 [rt_r s0 84] w1 (rt_an (fun u w2 => u = v ∧ PC w2)))
    (kk : ∀ w2 : rt_Wd, PC w2 → rt_Go l s0 G RL nm cL_law 7 (some .boolean) tab 2036 rt_w0 Q 701 [(4, .int i), (3, rt_r s0 137), (2, rt_r s0 84), (1, rt_r s0 0), (0, .ref b)] [] w2) : rt_Go l s0 G RL nm cL_law 7 (some .boolean) tab 2036 rt_w0 Q 352 [(4, .int i), (3, rt_r s0 137), (2, rt_r s0 84), (1, rt_r s0 0), (0, .ref b)] [] w := by
  refine rt_aload_n dL_law_352 rfl (j := 3) rfl ?_
  refine rt_callV Γ kk_X9_place kc_RL_72 hA (by omega) (by decide) (As := []) (show (parseMethodDescriptor yX9_place.desc).map (fun q => q.parameters.length) = some 0 by decide +kernel) hok (Nat.le_of_ble_eq_true rfl) dL_law_353 hX0 rfl rfl rfl (fun v9 w1 hq => ?_) (fun X w1 hq => by obtain ⟨_, e, -⟩ := hq; cases e)
  obtain ⟨v, e1, hp⟩ := hq
  cases Sum.inl.inj e1
  obtain ⟨hk1, ⟨f1, hf1⟩, hM⟩ := hB v w1 hp
  show rt_Go l s0 G RL nm cL_law 7 (some .boolean) tab 2036 rt_w0 Q (353 + 3) [(4, .int i), (3, rt_r s0 137), (2, rt_r s0 84), (1, rt_r s0 0), (0, .ref b)] [.int v] w1
  refine rt_aload_n dL_law_356 rfl (j := 2) rfl ?_
  refine rt_callV Γ kk_X11_place kc_RL_75 hM (by omega) (by decide) (As := []) (show (parseMethodDescriptor yX11_place.desc).map (fun q => q.parameters.length) = some 0 by decide +kernel) hk1 (Nat.le_of_ble_eq_true rfl) dL_law_357 hf1 rfl rfl rfl (fun v8 w2 hq => ?_) (fun X w2 hq => by obtain ⟨_, e, -⟩ := hq; cases e)
  obtain ⟨u, e2, rfl, hC⟩ := hq
  cases Sum.inl.inj e2
  show rt_Go l s0 G RL nm cL_law 7 (some .boolean) tab 2036 rt_w0 Q (357 + 3) [(4, .int i), (3, rt_r s0 137), (2, rt_r s0 84), (1, rt_r s0 0), (0, .ref b)] [.int u, .int u] w2
  refine rt_icmp_eq (tgt := 701) dL_law_360 (by decide) (fun _ => ?_) (fun c360 => absurd rfl c360)
  exact rt_lfew [0, 1, 2, 3, 4] rfl (kk _ hC)
set_option maxRecDepth 100000 in
theorem lw_g_rows {l : Launch} {s0 : State} {a0 : Array Value} {G : va_G} {ca : Nat → ClassId} (Γ : rt_Γ l s0 a0 G ca) {nm : String} {tab : List ExceptionTableEntry} {b N : Nat} {xs : Nat → Int32} (hX : va_X b N xs s0 s0.heap) (hbl : b < s0.heap.size) {i : Int32}  {w : rt_Wd} {Q : rt_Res → rt_Wd → Prop} {PA : Int32 → rt_Wd → Prop} {PC : rt_Wd → Prop} (hok : rt_ok w) {f0 : List Value} (hX0 : w.2.2 0 = some (.inr (9, f0)))
    (hA : rt_Met l s0 G (.code yX9_rows cX9_rows 1 (Option.some FieldType.int)) yX9_rows 2035 [rt_r s0 0] w (rt_an PA))
    (hB : ∀ (v : Int32) (w1 : rt_Wd), PA v w1 → rt_ok w1 ∧ (∃ fs : List Value, w1.2.2 84 = some (.inr (11, fs))) ∧ rt_Met l s0 G (.code yX11_rows cX11_rows 1 (Option.some FieldType.int)) yX11_rows 2035 [rt_r s0 84] w1 (rt_an (fun u w2 => u = v ∧ PC w2)))
    (kk : ∀ w2 : rt_Wd, PC w2 → rt_Go l s0 G RL nm cL_law 7 (some .boolean) tab 2036 rt_w0 Q 701 [(4, .int i), (3, rt_r s0 137), (2, rt_r s0 84), (1, rt_r s0 0), (0, .ref b)] [] w2) : rt_Go l s0 G RL nm cL_law 7 (some .boolean) tab 2036 rt_w0 Q 365 [(4, .int i), (3, rt_r s0 137), (2, rt_r s0 84), (1, rt_r s0 0), (0, .ref b)] [] w := by
  refine rt_aload_n dL_law_365 rfl (j := 3) rfl ?_
  refine rt_callV Γ kk_X9_rows kc_RL_76 hA (by omega) (by decide) (As := []) (show (parseMethodDescriptor yX9_rows.desc).map (fun q => q.parameters.length) = some 0 by decide +kernel) hok (Nat.le_of_ble_eq_true rfl) dL_law_366 hX0 rfl rfl rfl (fun v9 w1 hq => ?_) (fun X w1 hq => by obtain ⟨_, e, -⟩ := hq; cases e)
  obtain ⟨v, e1, hp⟩ := hq
  cases Sum.inl.inj e1
  obtain ⟨hk1, ⟨f1, hf1⟩, hM⟩ := hB v w1 hp
  show rt_Go l s0 G RL nm cL_law 7 (some .boolean) tab 2036 rt_w0 Q (366 + 3) [(4, .int i), (3, rt_r s0 137), (2, rt_r s0 84), (1, rt_r s0 0), (0, .ref b)] [.int v] w1
  refine rt_aload_n dL_law_369 rfl (j := 2) rfl ?_
  refine rt_callV Γ kk_X11_rows kc_RL_79 hM (by omega) (by decide) (As := []) (show (parseMethodDescriptor yX11_rows.desc).map (fun q => q.parameters.length) = some 0 by decide +kernel) hk1 (Nat.le_of_ble_eq_true rfl) dL_law_370 hf1 rfl rfl rfl (fun v8 w2 hq => ?_) (fun X w2 hq => by obtain ⟨_, e, -⟩ := hq; cases e)
  obtain ⟨u, e2, rfl, hC⟩ := hq
  cases Sum.inl.inj e2
  show rt_Go l s0 G RL nm cL_law 7 (some .boolean) tab 2036 rt_w0 Q (370 + 3) [(4, .int i), (3, rt_r s0 137), (2, rt_r s0 84), (1, rt_r s0 0), (0, .ref b)] [.int u, .int u] w2
  refine rt_icmp_eq (tgt := 701) dL_law_373 (by decide) (fun _ => ?_) (fun c373 => absurd rfl c373)
  exact rt_lfew [0, 1, 2, 3, 4] rfl (kk _ hC)
