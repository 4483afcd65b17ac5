/-! ===== rows on old cells: texts, statics ===== -/
section RTj
variable {l : Launch} {s0 : State} {a0 : Array Value} {G : va_G} {ca : Nat → ClassId} {own nm : String} {cc : ByteArray} {nL : Nat} {ret : Option FieldType} {tab : List ExceptionTableEntry} {d : Nat} {w0 w : rt_Wd} {Q : rt_Res → rt_Wd → Prop} {pc : Nat} {lv lv' : List (Nat × Value)} {st : List Value}
theorem rt_low (E : rt_P s0 G w0 s0.heap ∨ True) {s : State} (h : rt_P s0 G w0 s.heap) : ∀ a : Nat, a < s0.heap.size → ¬ rt_B s0 a → s.heap[a]? = s0.heap[a]? := fun a ha _ => h.2.1 a ha
theorem rt_ldcS (Γ : rt_Γ l s0 a0 G ca) {tx : String} {index q : Nat} (hZ : vk_R own index tx q s0) (hd : decode cc pc = .ok (.ldc index, 2)) (kk : rt_Go l s0 G own nm cc nL ret tab d w0 Q (pc + 2) lv (.ref q :: st) w) : rt_Go l s0 G own nm cc nL ret tab d w0 Q pc lv st w := by
  intro p e s m args below meth c E H locs ls hP h1 h2 hS hl
  exact va_ldcS E.1 E.2.1 E.2.2.2.2.2.2.2.1 (vk_R.warm E.2.2.2.2.2.2.2.2.1 hZ) hd (kk p e s m args below meth c E H locs ls hP h1 h2 hS hl)
theorem rt_ldcSW (Γ : rt_Γ l s0 a0 G ca) {tx : String} {index q : Nat} (hZ : vk_R own index tx q s0) (hd : decode cc pc = .ok (.ldc_w index, 3)) (kk : rt_Go l s0 G own nm cc nL ret tab d w0 Q (pc + 3) lv (.ref q :: st) w) : rt_Go l s0 G own nm cc nL ret tab d w0 Q pc lv st w := by
  intro p e s m args below meth c E H locs ls hP h1 h2 hS hl T hT X
  have hZ' := vk_R.warm E.2.2.2.2.2.2.2.2.1 hZ
  obtain ⟨t, a1, b1⟩ := kk p e s m args below meth c E H locs ls hP h1 h2 hS hl T hT X
  exact ⟨t, X.ldcStringW E.1 E.2.2.2.2.2.2.2.1 (text := tx) (a := q) hZ'.1 hZ'.2 (g := F0 m pc ls st) rfl (by rw [E.2.1]; exact hd) t a1, b1⟩
theorem rt_getO (Γ : rt_Γ l s0 a0 G ca) {q index : Nat} {o n dd : String} {v : Value} (hE : va_OF o n dd v q (rt_B s0) s0 s0.heap) (hw : Cond.fieldLink own index o n dd ∈ lw_tbl) (hd : decode cc pc = .ok (.getfield index, 3)) (kk : rt_Go l s0 G own nm cc nL ret tab d w0 Q (pc + 3) lv (v :: st) w) : rt_Go l s0 G own nm cc nL ret tab d w0 Q pc lv (.ref q :: st) w := by
  intro p e s m args below meth c E H locs ls hP h1 h2 hS hl
  have hs := E.2.2.2.2.2.2.2.2.1
  exact vk_getf E.1 E.2.1 (va_OF.moved hs.alike (hE.kept (rt_low (Or.inr trivial) E.2.2.2.2.2.2.2.2.2))) hS E.2.2.2.2.2.2.2.1 (rt_word Γ hw rfl hs args) (fun x h => h) hd (kk p e s m args below meth c E H locs ls hP h1 h2 hS hl)
theorem rt_getsO (Γ : rt_Γ l s0 a0 G ca) {index : Nat} {C n dd : String} {v : Value} (hZ : va_Z C n dd v (rt_B s0) s0 s0.heap) (hw : Cond.fieldLink own index C n dd ∈ lw_tbl) (hd : decode cc pc = .ok (.getstatic index, 3)) (kk : rt_Go l s0 G own nm cc nL ret tab d w0 Q (pc + 3) lv (v :: st) w) : rt_Go l s0 G own nm cc nL ret tab d w0 Q pc lv st w := by
  intro p e s m args below meth c E H locs ls hP h1 h2 hS hl
  have hs := E.2.2.2.2.2.2.2.2.1
  exact va_gets E.1 E.2.1 (va_Z.moved hs.alike (hZ.kept (rt_low (Or.inr trivial) E.2.2.2.2.2.2.2.2.2))) hS E.2.2.2.2.2.2.2.1 (rt_word Γ hw rfl hs args) (fun x h => h) hd (kk p e s m args below meth c E H locs ls hP h1 h2 hS hl)
theorem rt_tlen (Γ : rt_Γ l s0 a0 G ca) {ty : FieldType} {t N : Nat} {f : Nat → Value} (hT : va_T ty t N f (rt_B s0) s0 s0.heap) {v : Int32} (hv : Int32.ofNat N = v) (hd : decode cc pc = .ok (.arraylength, 1)) (kk : rt_Go l s0 G own nm cc nL ret tab d w0 Q (pc + 1) lv (.int v :: st) w) : rt_Go l s0 G own nm cc nL ret tab d w0 Q pc lv (.ref t :: st) w := by
  intro p e s m args below meth c E H locs ls hP h1 h2 hS hl
  have hs := E.2.2.2.2.2.2.2.2.1
  exact va_tlen E.1 E.2.1 (va_T.moved hs.alike (hT.kept (rt_low (Or.inr trivial) E.2.2.2.2.2.2.2.2.2))) hS hv hd (kk p e s m args below meth c E H locs ls hP h1 h2 hS hl)
theorem rt_tb (Γ : rt_Γ l s0 a0 G ca) {t N : Nat} {f : Nat → Value} (hT : va_T .byte t N f (rt_B s0) s0 s0.heap) {i : Int32} (hin : vp_in i N) {v : Value} (hv : f i.toNatClampNeg = v) (hd : decode cc pc = .ok (.baload, 1)) (kk : rt_Go l s0 G own nm cc nL ret tab d w0 Q (pc + 1) lv (v :: st) w) : rt_Go l s0 G own nm cc nL ret tab d w0 Q pc lv (.int i :: .ref t :: st) w := by
  intro p e s m args below meth c E H locs ls hP h1 h2 hS hl
  have hs := E.2.2.2.2.2.2.2.2.1
  exact va_tb E.1 E.2.1 (va_T.moved hs.alike (hT.kept (rt_low (Or.inr trivial) E.2.2.2.2.2.2.2.2.2))) hS hin hv hd (kk p e s m args below meth c E H locs ls hP h1 h2 hS hl)
/-- a call on a text -/
theorem rt_callO (Γ : rt_Γ l s0 a0 G ca) {y : MethodName} {kc : Cond} {ccY : ByteArray} {nLY : Nat} {retY : Option FieldType} {tabY : List ExceptionTableEntry} (K : rt_Kc y kc ccY nLY retY tabY) {index : Nat} {C : String} {q : Nat} (C9 : rt_Cv own index C y) (hO : va_O C q (rt_B s0) s0 s0.heap) {d1 : Nat} {av : List Value} {Q1 : rt_Res → rt_Wd → Prop} (hM : rt_Met l s0 G kc y d1 av w Q1) (hd1 : d1 + 1 ≤ d) (hnL : nLY ≤ 18) {As : List Value} {stk : List Value} (hlen : (parseMethodDescriptor y.desc).map (fun q => q.parameters.length) = some As.length) (hr : w.1 ≤ 600000 ∧ w.2.1 ≤ 7300000) (hW : (st.map fun v => v.category).sum ≤ 12) (hd : decode cc pc = .ok (.invokevirtual index, 3)) (hav : av = .ref q :: As) (hstk : stk = As.reverse ++ .ref q :: st)
    (kr : ∀ (v : Option Value) (w1 : rt_Wd), Q1 (.inl v) w1 → rt_Go l s0 G own nm cc nL ret tab d w0 Q (pc + 3) lv (v.toList ++ st) w1) (kx : ∀ (X : String) (w1 : rt_Wd), Q1 (.inr X) w1 → rt_Tx l s0 G own nm cc nL ret tab d w0 Q pc lv X w1) : rt_Go l s0 G own nm cc nL ret tab d w0 Q pc lv stk w := by
  intro p e s m args below meth c E H locs ls hP h1 h2 hS hl T0 hT X
  subst hav
  subst hstk
  have hs := E.2.2.2.2.2.2.2.2.1
  have hx := E.1
  have hb := E.2.1
  have hown := E.2.2.2.2.2.2.2.1
  have hkc : kc.before args s = true := rt_word Γ K.1 K.2.1 hs args
  obtain ⟨mk, methM, hnamed, hmethM, hstM, habM⟩ := Cond.instanceMethod_spec (rt_word Γ C9.2.1 rfl hs args)
  obtain ⟨methM', cM, hmethM', -, -, -, -, -, -, hsigM⟩ := rt_kc_spec K hnamed hkc
  cases hmethM.symm.trans hmethM'
  obtain ⟨c2, r2, m2, q1, q2, q3, q4, kP, hkP, hkPi⟩ := Cond.selects_spec (rt_word Γ C9.2.2.1 C9.2.2.2 hs args)
  obtain ⟨cellB, y1, y2, y3, -⟩ := ((va_O.moved hs.alike (hO.kept (rt_low (Or.inr trivial) E.2.2.2.2.2.2.2.2.2))).kept hS.2.1 : va_O C q (rt_B s0) s H)
  have hcls : s.vm.findClass C = some cellB.cls := y3
  cases hcls.symm.trans q1
  cases (State.methodFound?_of_named hnamed K.2.2.2.2.2).symm.trans q2
  cases hnamed.symm.trans q3
  have hselP : selectMethod e.platform s.vm cellB.cls mk = .method mk := by rw [Launch.admits_selectMethod X.admits]; exact q4
  have hlen9 : As.length = methM.sig.parameters.length := by
    rw [hsigM] at hlen
    exact (Option.some.inj hlen).symm
  obtain ⟨vm₁, X₁, hstep₁⟩ := X.invokevirtual hx hown (rt_word Γ C9.1 rfl hs args) hnamed hmethM hstM hkP hkPi K.2.2.2.2.2 (a := q) (cell := cellB) (by rw [hT]; exact y1)
    (fun z h => by rw [h] at y2; cases y2) hselP hmethM habM hkP hkPi (g := F0 m pc ls (As.reverse ++ .ref q :: st)) rfl (argsL := As) (rest := st) hlen9 rfl (by rw [hb]; exact hd)
  have B := rt_back Γ K hM hd1 hnL E hP h1 h2 (U := T0.setVm vm₁) hT X₁ (g := F0 m pc ls st) (ig := .invokevirtual index) rfl (hl.1.trans E.2.2.1.symm) (by rw [hb]; exact hd) (by show 2 * 0 + (st.map fun v => v.category).sum ≤ 12; omega) (X₁.named hnamed) hr
  obtain ⟨t, a, b⟩ := rt_bk_go E h1 h2 hS hP.1 hl B kr kx
  exact ⟨t, hstep₁ _ fun acts => by rw [doInvoke_state]; exact a, b⟩
end RTj

theorem c_J0_coder_7d493 {l : Launch} {s0 : State} {a0 : Array Value} {G : va_G} {ca : Nat → ClassId} (Γ : rt_Γ l s0 a0 G ca) {d : Nat} {w : rt_Wd} {a : Nat} {bs : List Int32} (hs : rt_str s0 a bs) : rt_Met l s0 G (.code yJ0_coder_7d493 cJ0_coder_7d493 1 (Option.some FieldType.byte)) yJ0_coder_7d493 d [.ref a] w (rt_is (.inl (some (.int 0))) w) := by
  refine rt_met Γ kk_J0_coder_7d493 rfl (Nat.le_of_ble_eq_true rfl) rfl ?_
  obtain ⟨v, h0, h1, h2, h3⟩ := hs
  refine rt_getsO Γ (kz_CS Γ) (tc_3 _ (List.mem_of_getElem? (i := 97) (by decide +kernel))) dJ0_coder_7d493_0 ?_
  refine rt_if_eq (tgt := 13) dJ0_coder_7d493_3 (by decide) (fun c3 => absurd c3 (by decide)) (fun _ => ?_)
  refine rt_aloadA_n dJ0_coder_7d493_6 rfl (j := 0) rfl ?_
  refine rt_getO Γ h1 (tc_9 _ (List.mem_of_getElem? (i := 69) (by decide +kernel))) dJ0_coder_7d493_7 ?_
  refine rt_goto (tgt := 14) dJ0_coder_7d493_10 (by decide) ?_
  exact rt_zret dJ0_coder_7d493_14 rfl rfl (⟨rfl, rfl⟩)
theorem c_J0_isLatin1_aae02 {l : Launch} {s0 : State} {a0 : Array Value} {G : va_G} {ca : Nat → ClassId} (Γ : rt_Γ l s0 a0 G ca) {d : Nat} {w : rt_Wd} {a : Nat} {bs : List Int32} (hs : rt_str s0 a bs) : rt_Met l s0 G (.code yJ0_isLatin1_aae02 cJ0_isLatin1_aae02 1 (Option.some FieldType.boolean)) yJ0_isLatin1_aae02 d [.ref a] w (rt_is (.inl (some (.int 1))) w) := by
  refine rt_met Γ kk_J0_isLatin1_aae02 rfl (Nat.le_of_ble_eq_true rfl) rfl ?_
  obtain ⟨v, h0, h1, h2, h3⟩ := hs
  refine rt_getsO Γ (kz_CS Γ) (tc_3 _ (List.mem_of_getElem? (i := 97) (by decide +kernel))) dJ0_isLatin1_aae02_0 ?_
  refine rt_if_eq (tgt := 17) dJ0_isLatin1_aae02_3 (by decide) (fun c3 => absurd c3 (by decide)) (fun _ => ?_)
  refine rt_aloadA_n dJ0_isLatin1_aae02_6 rfl (j := 0) rfl ?_
  refine rt_getO Γ h1 (tc_9 _ (List.mem_of_getElem? (i := 69) (by decide +kernel))) dJ0_isLatin1_aae02_7 ?_
  refine rt_if_ne (tgt := 17) dJ0_isLatin1_aae02_10 (by decide) (fun c10 => absurd c10 (fun h => h rfl)) (fun _ => ?_)
  refine rt_iconst (v := 1) dJ0_isLatin1_aae02_13 (by decide) ?_
  refine rt_goto (tgt := 18) dJ0_isLatin1_aae02_14 (by decide) ?_
  exact rt_zret dJ0_isLatin1_aae02_18 rfl rfl (⟨rfl, rfl⟩)
theorem c_J3_checkIndex_8e157 {l : Launch} {s0 : State} {a0 : Array Value} {G : va_G} {ca : Nat → ClassId} (Γ : rt_Γ l s0 a0 G ca) {d : Nat} {w : rt_Wd} {i n : Int32} {v : Value} (hv : v = .null ∨ ∃ t, v = .ref t) (h0 : ¬ i < 0) (h1 : i < n) : rt_Met l s0 G (.code yJ3_checkIndex_8e157 cJ3_checkIndex_8e157 3 (Option.some FieldType.int)) yJ3_checkIndex_8e157 d [.int i, .int n, v] w (rt_is (.inl (some (.int i))) w) := by
  refine rt_met (lv := [(0, .int i), (1, .int n), (2, v)]) Γ kk_J3_checkIndex_8e157 rfl (by rcases hv with rfl | ⟨t, rfl⟩ <;> exact Nat.le_of_ble_eq_true rfl) (by rcases hv with rfl | ⟨t, rfl⟩ <;> rfl) ?_
  refine rt_iload_n dJ3_checkIndex_8e157_0 rfl (j := 0) rfl ?_
  refine rt_if_lt (tgt := 9) dJ3_checkIndex_8e157_1 (by decide) (fun c1 => absurd c1 h0) (fun _ => ?_)
  refine rt_iload_n dJ3_checkIndex_8e157_4 rfl (j := 0) rfl ?_
  refine rt_iload_n dJ3_checkIndex_8e157_5 rfl (j := 1) rfl ?_
  refine rt_icmp_lt (tgt := 16) dJ3_checkIndex_8e157_6 (by decide) (fun _ => ?_) (fun c6 => absurd h1 c6)
  refine rt_iload_n dJ3_checkIndex_8e157_16 rfl (j := 0) rfl ?_
  exact rt_iret dJ3_checkIndex_8e157_17 rfl (⟨rfl, rfl⟩)
theorem c_J0_checkIndex_df160 {l : Launch} {s0 : State} {a0 : Array Value} {G : va_G} {ca : Nat → ClassId} (Γ : rt_Γ l s0 a0 G ca) {d : Nat} {w : rt_Wd} {i n : Int32} (hd : 1 ≤ d) (hok : rt_ok w) (h0 : ¬ i < 0) (h1 : i < n) : rt_Met l s0 G (.code yJ0_checkIndex_df160 cJ0_checkIndex_df160 2 (Option.none : Option FieldType)) yJ0_checkIndex_df160 d [.int i, .int n] w (rt_is (.inl none) w) := by
  refine rt_met Γ kk_J0_checkIndex_df160 rfl (Nat.le_of_ble_eq_true rfl) rfl ?_
  refine rt_iload_n dJ0_checkIndex_df160_0 rfl (j := 0) rfl ?_
  refine rt_iload_n dJ0_checkIndex_df160_1 rfl (j := 1) rfl ?_
  rcases kz_SF Γ with hz | ⟨t, hz⟩
  · refine rt_getsO Γ hz (tc_3 _ (List.mem_of_getElem? (i := 113) (by decide +kernel))) dJ0_checkIndex_df160_2 ?_
    refine rt_callS Γ kk_J3_checkIndex_8e157 kc_RJ0_1059 (c_J3_checkIndex_8e157 Γ (d := d - 1) (Or.inl rfl) h0 h1) (by omega) (by decide) (As := [.int i, .int n, .null]) (show (parseMethodDescriptor yJ3_checkIndex_8e157.desc).map (fun q => q.parameters.length) = some 3 by decide +kernel) hok (Nat.le_of_ble_eq_true rfl) dJ0_checkIndex_df160_5 rfl rfl (rt_kr (st2 := [.int i]) rfl ?_) rt_kx
    refine rt_pop dJ0_checkIndex_df160_8 rfl ?_
    exact rt_vret dJ0_checkIndex_df160_9 rfl (⟨rfl, rfl⟩)
  · refine rt_getsO Γ hz (tc_3 _ (List.mem_of_getElem? (i := 113) (by decide +kernel))) dJ0_checkIndex_df160_2 ?_
    refine rt_callS Γ kk_J3_checkIndex_8e157 kc_RJ0_1059 (c_J3_checkIndex_8e157 Γ (d := d - 1) (Or.inr ⟨_, rfl⟩) h0 h1) (by omega) (by decide) (As := [.int i, .int n, .ref t]) (show (parseMethodDescriptor yJ3_checkIndex_8e157.desc).map (fun q => q.parameters.length) = some 3 by decide +kernel) hok (Nat.le_of_ble_eq_true rfl) dJ0_checkIndex_df160_5 rfl rfl (rt_kr (st2 := [.int i]) rfl ?_) rt_kx
    refine rt_pop dJ0_checkIndex_df160_8 rfl ?_
    exact rt_vret dJ0_checkIndex_df160_9 rfl (⟨rfl, rfl⟩)
theorem c_J1_charAt_3b067 {l : Launch} {s0 : State} {a0 : Array Value} {G : va_G} {ca : Nat → ClassId} (Γ : rt_Γ l s0 a0 G ca) {d : Nat} {w : rt_Wd} {t N : Nat} {f : Nat → Int32} {i : Int32} (hd : 2 ≤ d) (hok : rt_ok w) (hT : va_T .byte t N (fun j => .int (f j)) (rt_B s0) s0 s0.heap) (h0 : ¬ i < 0) (h1 : i < Int32.ofNat N) (hin : vp_in i N) : rt_Met l s0 G (.code yJ1_charAt_3b067 cJ1_charAt_3b067 2 (Option.some FieldType.char)) yJ1_charAt_3b067 d [.ref t, .int i] w (rt_is (.inl (some (.int (f i.toNatClampNeg &&& 255)))) w) := by
  refine rt_met Γ kk_J1_charAt_3b067 rfl (Nat.le_of_ble_eq_true rfl) rfl ?_
  refine rt_iload_n dJ1_charAt_3b067_0 rfl (j := 1) rfl ?_
  refine rt_aloadA_n dJ1_charAt_3b067_1 rfl (j := 0) rfl ?_
  refine rt_tlen Γ hT rfl dJ1_charAt_3b067_2 ?_
  refine rt_callS Γ kk_J0_checkIndex_df160 kc_RJ1_9 (c_J0_checkIndex_df160 Γ (d := d - 1) (by omega) hok h0 h1) (by omega) (by decide) (As := [.int i, .int (Int32.ofNat N)]) (show (parseMethodDescriptor yJ0_checkIndex_df160.desc).map (fun q => q.parameters.length) = some 2 by decide +kernel) hok (Nat.le_of_ble_eq_true rfl) dJ1_charAt_3b067_3 rfl rfl (rt_kr (st2 := []) rfl ?_) rt_kx
  refine rt_aloadA_n dJ1_charAt_3b067_6 rfl (j := 0) rfl ?_
  refine rt_iload_n dJ1_charAt_3b067_7 rfl (j := 1) rfl ?_
  refine rt_tb Γ hT hin rfl dJ1_charAt_3b067_8 ?_
  refine rt_sipush (v := 255) dJ1_charAt_3b067_9 (by decide) ?_
  refine rt_iand dJ1_charAt_3b067_12 ?_
  refine rt_i2c dJ1_charAt_3b067_13 rfl ?_
  rw [sc_c2]
  exact rt_zret dJ1_charAt_3b067_14 rfl (sc_nar _) (⟨rfl, rfl⟩)
theorem c_J0_charAt_5068e {l : Launch} {s0 : State} {a0 : Array Value} {G : va_G} {ca : Nat → ClassId} (Γ : rt_Γ l s0 a0 G ca) {d : Nat} {w : rt_Wd} {a : Nat} {bs : List Int32} {i : Int32} (hd : 3 ≤ d) (hok : rt_ok w) (hs : rt_str s0 a bs) (h0 : ¬ i < 0) (h1 : i < Int32.ofNat bs.length) (hin : vp_in i bs.length) : rt_Met l s0 G (.code yJ0_charAt_5068e cJ0_charAt_5068e 2 (Option.some FieldType.char)) yJ0_charAt_5068e d [.ref a, .int i] w (rt_is (.inl (some (.int (bs.getD i.toNatClampNeg 0 &&& 255)))) w) := by
  refine rt_met Γ kk_J0_charAt_5068e rfl (Nat.le_of_ble_eq_true rfl) rfl ?_
  obtain ⟨v, h2, h3, h4, h5⟩ := id hs
  refine rt_aloadA_n dJ0_charAt_5068e_0 rfl (j := 0) rfl ?_
  refine rt_callO Γ kk_J0_isLatin1_aae02 kc_RJ0_492 h2 (c_J0_isLatin1_aae02 Γ (d := d - 1) hs) (by omega) (by decide) (As := []) (show (parseMethodDescriptor yJ0_isLatin1_aae02.desc).map (fun q => q.parameters.length) = some 0 by decide +kernel) hok (Nat.le_of_ble_eq_true rfl) dJ0_charAt_5068e_1 rfl rfl (rt_kr (st2 := [.int 1]) rfl ?_) rt_kx
  refine rt_if_eq (tgt := 16) dJ0_charAt_5068e_4 (by decide) (fun c4 => absurd c4 (by decide)) (fun _ => ?_)
  refine rt_aloadA_n dJ0_charAt_5068e_7 rfl (j := 0) rfl ?_
  refine rt_getO Γ h4 (tc_9 _ (List.mem_of_getElem? (i := 68) (by decide +kernel))) dJ0_charAt_5068e_8 ?_
  refine rt_iload_n dJ0_charAt_5068e_11 rfl (j := 1) rfl ?_
  refine rt_callS Γ kk_J1_charAt_3b067 kc_RJ0_495 (c_J1_charAt_3b067 Γ (d := d - 1) (by omega) hok h5 h0 h1 hin) (by omega) (by decide) (As := [.ref v, .int i]) (show (parseMethodDescriptor yJ1_charAt_3b067.desc).map (fun q => q.parameters.length) = some 2 by decide +kernel) hok (Nat.le_of_ble_eq_true rfl) dJ0_charAt_5068e_12 rfl rfl (rt_kr (st2 := [.int (bs.getD i.toNatClampNeg 0 &&& 255)]) rfl ?_) rt_kx
  exact rt_zret dJ0_charAt_5068e_15 rfl (sc_nar _) (⟨rfl, rfl⟩)
theorem c_J0_length_8abf5 {l : Launch} {s0 : State} {a0 : Array Value} {G : va_G} {ca : Nat → ClassId} (Γ : rt_Γ l s0 a0 G ca) {d : Nat} {w : rt_Wd} {a : Nat} {bs : List Int32} (hd : 1 ≤ d) (hok : rt_ok w) (hs : rt_str s0 a bs) (hb : bs.length < 2 ^ 31) : rt_Met l s0 G (.code yJ0_length_8abf5 cJ0_length_8abf5 1 (Option.some FieldType.int)) yJ0_length_8abf5 d [.ref a] w (rt_is (.inl (some (.int (nI bs.length)))) w) := by
  refine rt_met Γ kk_J0_length_8abf5 rfl (Nat.le_of_ble_eq_true rfl) rfl ?_
  obtain ⟨v, h2, h3, h4, h5⟩ := id hs
  refine rt_aloadA_n dJ0_length_8abf5_0 rfl (j := 0) rfl ?_
  refine rt_getO Γ h4 (tc_9 _ (List.mem_of_getElem? (i := 68) (by decide +kernel))) dJ0_length_8abf5_1 ?_
  refine rt_tlen Γ h5 (v := nI bs.length) rfl dJ0_length_8abf5_4 ?_
  refine rt_aloadA_n dJ0_length_8abf5_5 rfl (j := 0) rfl ?_
  refine rt_callO Γ kk_J0_coder_7d493 kc_RJ0_335 h2 (c_J0_coder_7d493 Γ (d := d - 1) hs) (by omega) (by decide) (As := []) (show (parseMethodDescriptor yJ0_coder_7d493.desc).map (fun q => q.parameters.length) = some 0 by decide +kernel) hok (Nat.le_of_ble_eq_true rfl) dJ0_length_8abf5_6 rfl rfl (rt_kr (st2 := [.int 0, .int (nI bs.length)]) rfl ?_) rt_kx
  refine rt_ishr dJ0_length_8abf5_9 ?_
  rw [sc_shr0 hb]
  exact rt_iret dJ0_length_8abf5_10 rfl (⟨rfl, rfl⟩)
