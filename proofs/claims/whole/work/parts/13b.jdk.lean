/-! ===== the JDK methods on texts ===== -/
theorem c_J0_coder_7d493 {l : Launch} {s0 : State} {a0 : Array Value} {G : va_G} {ca : Nat → ClassId} (Γ : rt_Γ l s0 a0 G ca) {d : Nat} {w : rt_Wd} {a : Nat} {bs : List Int32} (hs : rt_str s0 a bs) : rt_Met l s0 G (.code yJ0_coder_7d493 cJ0_coder_7d493 1 (Option.some FieldType.byte)) yJ0_coder_7d493 d [.ref a] w (rt_is (.inl (some (.int 0))) w) := by
  refine rt_met Γ kk_J0_coder_7d493 rfl (Nat.le_of_ble_eq_true rfl) rfl ?_
  obtain ⟨v, h0, h1, h2, h3⟩ := hs
  refine rt_getsO Γ (kz_CS Γ) (tc_3 _ (List.mem_of_getElem? (i := 79) (by decide +kernel))) dJ0_coder_7d493_0 ?_
  refine rt_if_eq (tgt := 13) dJ0_coder_7d493_3 (by decide) (fun c3 => absurd c3 (by decide)) (fun _ => ?_)
  refine rt_aloadA_n dJ0_coder_7d493_6 rfl (j := 0) rfl ?_
  refine rt_getO Γ h1 (tc_9 _ (List.mem_of_getElem? (i := 23) (by decide +kernel))) dJ0_coder_7d493_7 ?_
  refine rt_goto (tgt := 14) dJ0_coder_7d493_10 (by decide) ?_
  exact rt_zret dJ0_coder_7d493_14 rfl rfl (⟨rfl, rfl⟩)
theorem c_J0_isLatin1_aae02 {l : Launch} {s0 : State} {a0 : Array Value} {G : va_G} {ca : Nat → ClassId} (Γ : rt_Γ l s0 a0 G ca) {d : Nat} {w : rt_Wd} {a : Nat} {bs : List Int32} (hs : rt_str s0 a bs) : rt_Met l s0 G (.code yJ0_isLatin1_aae02 cJ0_isLatin1_aae02 1 (Option.some FieldType.boolean)) yJ0_isLatin1_aae02 d [.ref a] w (rt_is (.inl (some (.int 1))) w) := by
  refine rt_met Γ kk_J0_isLatin1_aae02 rfl (Nat.le_of_ble_eq_true rfl) rfl ?_
  obtain ⟨v, h0, h1, h2, h3⟩ := hs
  refine rt_getsO Γ (kz_CS Γ) (tc_3 _ (List.mem_of_getElem? (i := 79) (by decide +kernel))) dJ0_isLatin1_aae02_0 ?_
  refine rt_if_eq (tgt := 17) dJ0_isLatin1_aae02_3 (by decide) (fun c3 => absurd c3 (by decide)) (fun _ => ?_)
  refine rt_aloadA_n dJ0_isLatin1_aae02_6 rfl (j := 0) rfl ?_
  refine rt_getO Γ h1 (tc_9 _ (List.mem_of_getElem? (i := 23) (by decide +kernel))) dJ0_isLatin1_aae02_7 ?_
  refine rt_if_ne (tgt := 17) dJ0_isLatin1_aae02_10 (by decide) (fun c10 => absurd c10 (fun h => h rfl)) (fun _ => ?_)
  refine rt_iconst (v := 1) dJ0_isLatin1_aae02_13 (by decide) ?_
  refine rt_goto (tgt := 18) dJ0_isLatin1_aae02_14 (by decide) ?_
  exact rt_zret dJ0_isLatin1_aae02_18 rfl rfl (⟨rfl, rfl⟩)
theorem c_J3_checkIndex_8e157 {l : Launch} {s0 : State} {a0 : Array Value} {G : va_G} {ca : Nat → ClassId} (Γ : rt_Γ l s0 a0 G ca) {d : Nat} {w : rt_Wd} {i n : Int32} {v : Value} (hv : v = .null ∨ ∃ t, v = .ref t) (h0 : ¬ i < 0) (h1 : i < n) : rt_Met l s0 G (.code yJ3_checkIndex_8e157 cJ3_checkIndex_8e157 3 (Option.some FieldType.int)) yJ3_checkIndex_8e157 d [.int i, .int n, v] w (rt_is (.inl (some (.int i))) w) := by
  refine rt_met (lv := [(0, .int i), (1, .int n), (2, v)]) Γ kk_J3_checkIndex_8e157 rfl (by rcases hv with rfl | ⟨t, rfl⟩ <;> exact Nat.le_of_ble_eq_true rfl) (by rcases hv with rfl | ⟨t, rfl⟩ <;> rfl) ?_
  refine rt_iload_n dJ3_checkIndex_8e157_0 rfl (j := 0) rfl ?_
  refine rt_if_lt (tgt := 9) dJ3_checkIndex_8e157_1 (by decide) (fun c1 => absurd c1 h0) (fun _ => ?_)
  refine rt_iload_n dJ3_checkIndex_8e157_4 rfl (j := 0) rfl ?_
  refine rt_iload_n dJ3_checkIndex_8e157_5 rfl (j := 1) rfl ?_
  refine rt_icmp_lt (tgt := 16) dJ3_checkIndex_8e157_6 (by decide) (fun _ => ?_) (fun c6 => absurd h1 c6)
  refine rt_iload_n dJ3_checkIndex_8e157_16 rfl (j := 0) rfl ?_
  exact rt_iret dJ3_checkIndex_8e157_17 rfl (⟨rfl, rfl⟩)
theorem c_J0_checkIndex_df160 {l : Launch} {s0 : State} {a0 : Array Value} {G : va_G} {ca : Nat → ClassId} (Γ : rt_Γ l s0 a0 G ca) {d : Nat} {w : rt_Wd} {i n : Int32} (hd : 1 ≤ d) (hok : rt_ok w) (h0 : ¬ i < 0) (h1 : i < n) : rt_Met l s0 G (.code yJ0_checkIndex_df160 cJ0_checkIndex_df160 2 (Option.none : Option FieldType)) yJ0_checkIndex_df160 d [.int i, .int n] w (rt_is (.inl none) w) := by
  refine rt_met Γ kk_J0_checkIndex_df160 rfl (Nat.le_of_ble_eq_true rfl) rfl ?_
  refine rt_iload_n dJ0_checkIndex_df160_0 rfl (j := 0) rfl ?_
  refine rt_iload_n dJ0_checkIndex_df160_1 rfl (j := 1) rfl ?_
  rcases kz_SF Γ with hz | ⟨t, hz⟩
  · refine rt_getsO Γ hz (tc_3 _ (List.mem_of_getElem? (i := 95) (by decide +kernel))) dJ0_checkIndex_df160_2 ?_
    refine rt_callS Γ kk_J3_checkIndex_8e157 kc_RJ0_1059 (c_J3_checkIndex_8e157 Γ (d := d - 1) (Or.inl rfl) h0 h1) (by omega) (by decide) (As := [.int i, .int n, .null]) (show (parseMethodDescriptor yJ3_checkIndex_8e157.desc).map (fun q => q.parameters.length) = some 3 by decide +kernel) hok (Nat.le_of_ble_eq_true rfl) dJ0_checkIndex_df160_5 rfl rfl (rt_kr (st2 := [.int i]) rfl ?_) rt_kx
    refine rt_pop dJ0_checkIndex_df160_8 rfl ?_
    exact rt_vret dJ0_checkIndex_df160_9 rfl (⟨rfl, rfl⟩)
  · refine rt_getsO Γ hz (tc_3 _ (List.mem_of_getElem? (i := 95) (by decide +kernel))) dJ0_checkIndex_df160_2 ?_
    refine rt_callS Γ kk_J3_checkIndex_8e157 kc_RJ0_1059 (c_J3_checkIndex_8e157 Γ (d := d - 1) (Or.inr ⟨_, rfl⟩) h0 h1) (by omega) (by decide) (As := [.int i, .int n, .ref t]) (show (parseMethodDescriptor yJ3_checkIndex_8e157.desc).map (fun q => q.parameters.length) = some 3 by decide +kernel) hok (Nat.le_of_ble_eq_true rfl) dJ0_checkIndex_df160_5 rfl rfl (rt_kr (st2 := [.int i]) rfl ?_) rt_kx
    refine rt_pop dJ0_checkIndex_df160_8 rfl ?_
    exact rt_vret dJ0_checkIndex_df160_9 rfl (⟨rfl, rfl⟩)
theorem c_J1_charAt_3b067 {l : Launch} {s0 : State} {a0 : Array Value} {G : va_G} {ca : Nat → ClassId} (Γ : rt_Γ l s0 a0 G ca) {d : Nat} {w : rt_Wd} {t N : Nat} {f : Nat → Int32} {i : Int32} (hd : 2 ≤ d) (hok : rt_ok w) (hT : va_T .byte t N (fun j => .int (f j)) (rt_B s0) s0 s0.heap) (h0 : ¬ i < 0) (h1 : i < Int32.ofNat N) (hin : vp_in i N) : rt_Met l s0 G (.code yJ1_charAt_3b067 cJ1_charAt_3b067 2 (Option.some FieldType.char)) yJ1_charAt_3b067 d [.ref t, .int i] w (rt_is (.inl (some (.int (f i.toNatClampNeg &&& 255)))) w) := by
  refine rt_met Γ kk_J1_charAt_3b067 rfl (Nat.le_of_ble_eq_true rfl) rfl ?_
  refine rt_iload_n dJ1_charAt_3b067_0 rfl (j := 1) rfl ?_
  refine rt_aloadA_n dJ1_charAt_3b067_1 rfl (j := 0) rfl ?_
  refine rt_tlen Γ hT rfl dJ1_charAt_3b067_2 ?_
  refine rt_callS Γ kk_J0_checkIndex_df160 kc_RJ1_9 (c_J0_checkIndex_df160 Γ (d := d - 1) (by omega) hok h0 h1) (by omega) (by decide) (As := [.int i, .int (Int32.ofNat N)]) (show (parseMethodDescriptor yJ0_checkIndex_df160.desc).map (fun q => q.parameters.length) = some 2 by decide +kernel) hok (Nat.le_of_ble_eq_true rfl) dJ1_charAt_3b067_3 rfl rfl (rt_kr (st2 := []) rfl ?_) rt_kx
  refine rt_aloadA_n dJ1_charAt_3b067_6 rfl (j := 0) rfl ?_
  refine rt_iload_n dJ1_charAt_3b067_7 rfl (j := 1) rfl ?_
  refine rt_tb Γ hT hin rfl dJ1_charAt_3b067_8 ?_
  refine rt_sipush (v := 255) dJ1_charAt_3b067_9 (by decide) ?_
  refine rt_iand dJ1_charAt_3b067_12 ?_
  refine rt_i2c dJ1_charAt_3b067_13 rfl ?_
  rw [sc_c2]
  exact rt_zret dJ1_charAt_3b067_14 rfl (sc_nar _) (⟨rfl, rfl⟩)
theorem c_J0_charAt_5068e {l : Launch} {s0 : State} {a0 : Array Value} {G : va_G} {ca : Nat → ClassId} (Γ : rt_Γ l s0 a0 G ca) {d : Nat} {w : rt_Wd} {a : Nat} {bs : List Int32} {i : Int32} (hd : 3 ≤ d) (hok : rt_ok w) (hs : rt_str s0 a bs) (h0 : ¬ i < 0) (h1 : i < Int32.ofNat bs.length) (hin : vp_in i bs.length) : rt_Met l s0 G (.code yJ0_charAt_5068e cJ0_charAt_5068e 2 (Option.some FieldType.char)) yJ0_charAt_5068e d [.ref a, .int i] w (rt_is (.inl (some (.int (bs.getD i.toNatClampNeg 0 &&& 255)))) w) := by
  refine rt_met Γ kk_J0_charAt_5068e rfl (Nat.le_of_ble_eq_true rfl) rfl ?_
  obtain ⟨v, h2, h3, h4, h5⟩ := id hs
  refine rt_aloadA_n dJ0_charAt_5068e_0 rfl (j := 0) rfl ?_
  refine rt_callO Γ kk_J0_isLatin1_aae02 kc_RJ0_492 h2 (c_J0_isLatin1_aae02 Γ (d := d - 1) hs) (by omega) (by decide) (As := []) (show (parseMethodDescriptor yJ0_isLatin1_aae02.desc).map (fun q => q.parameters.length) = some 0 by decide +kernel) hok (Nat.le_of_ble_eq_true rfl) dJ0_charAt_5068e_1 rfl rfl (rt_kr (st2 := [.int 1]) rfl ?_) rt_kx
  refine rt_if_eq (tgt := 16) dJ0_charAt_5068e_4 (by decide) (fun c4 => absurd c4 (by decide)) (fun _ => ?_)
  refine rt_aloadA_n dJ0_charAt_5068e_7 rfl (j := 0) rfl ?_
  refine rt_getO Γ h4 (tc_9 _ (List.mem_of_getElem? (i := 22) (by decide +kernel))) dJ0_charAt_5068e_8 ?_
  refine rt_iload_n dJ0_charAt_5068e_11 rfl (j := 1) rfl ?_
  refine rt_callS Γ kk_J1_charAt_3b067 kc_RJ0_495 (c_J1_charAt_3b067 Γ (d := d - 1) (by omega) hok h5 h0 h1 hin) (by omega) (by decide) (As := [.ref v, .int i]) (show (parseMethodDescriptor yJ1_charAt_3b067.desc).map (fun q => q.parameters.length) = some 2 by decide +kernel) hok (Nat.le_of_ble_eq_true rfl) dJ0_charAt_5068e_12 rfl rfl (rt_kr (st2 := [.int (bs.getD i.toNatClampNeg 0 &&& 255)]) rfl ?_) rt_kx
  exact rt_zret dJ0_charAt_5068e_15 rfl (sc_nar _) (⟨rfl, rfl⟩)
theorem c_J0_length_8abf5 {l : Launch} {s0 : State} {a0 : Array Value} {G : va_G} {ca : Nat → ClassId} (Γ : rt_Γ l s0 a0 G ca) {d : Nat} {w : rt_Wd} {a : Nat} {bs : List Int32} (hd : 1 ≤ d) (hok : rt_ok w) (hs : rt_str s0 a bs) (hb : bs.length < 2 ^ 31) : rt_Met l s0 G (.code yJ0_length_8abf5 cJ0_length_8abf5 1 (Option.some FieldType.int)) yJ0_length_8abf5 d [.ref a] w (rt_is (.inl (some (.int (nI bs.length)))) w) := by
  refine rt_met Γ kk_J0_length_8abf5 rfl (Nat.le_of_ble_eq_true rfl) rfl ?_
  obtain ⟨v, h2, h3, h4, h5⟩ := id hs
  refine rt_aloadA_n dJ0_length_8abf5_0 rfl (j := 0) rfl ?_
  refine rt_getO Γ h4 (tc_9 _ (List.mem_of_getElem? (i := 22) (by decide +kernel))) dJ0_length_8abf5_1 ?_
  refine rt_tlen Γ h5 (v := nI bs.length) rfl dJ0_length_8abf5_4 ?_
  refine rt_aloadA_n dJ0_length_8abf5_5 rfl (j := 0) rfl ?_
  refine rt_callO Γ kk_J0_coder_7d493 kc_RJ0_335 h2 (c_J0_coder_7d493 Γ (d := d - 1) hs) (by omega) (by decide) (As := []) (show (parseMethodDescriptor yJ0_coder_7d493.desc).map (fun q => q.parameters.length) = some 0 by decide +kernel) hok (Nat.le_of_ble_eq_true rfl) dJ0_length_8abf5_6 rfl rfl (rt_kr (st2 := [.int 0, .int (nI bs.length)]) rfl ?_) rt_kx
  refine rt_ishr dJ0_length_8abf5_9 ?_
  rw [sc_shr0 hb]
  exact rt_iret dJ0_length_8abf5_10 rfl (⟨rfl, rfl⟩)
