/-! ===== String.indexOf of a constant's letter ===== -/
theorem zk_min : Cond.code Lib.Math.min.name Lib.Math.min.code 2 (some .int) ∈ lw_tbl := tc_7 _ (List.mem_of_getElem? (i := 182) rfl)
def jIx (bs : List Int32) (c : Int32) : Nat → Nat → Int32
  | 0, _ => -1
  | m + 1, i => if bs.getD i 0 = c then nI i else jIx bs c m (i + 1)
section IX
variable {l : Launch} {s0 : State} {a0 : Array Value} {G : va_G} {ca : Nat → ClassId} {nm : String} {cc : ByteArray} {nL : Nat} {ret : Option FieldType} {tab : List ExceptionTableEntry} {d : Nat} {w0 w : rt_Wd} {Q : rt_Res → rt_Wd → Prop} {pc : Nat} {lv : List (Nat × Value)} {st : List Value}
theorem rt_max1 (Γ : rt_Γ l s0 a0 G ca) {x y v : Int32} (hv : (if x < y then y else x) = v) (hW : (st.map fun v => v.category).sum ≤ 12) (hok : rt_ok w) (hd : decode cc pc = .ok (.invokestatic 92, 3)) (k : rt_Go l s0 G RJ1 nm cc nL ret tab d w0 Q (pc + 3) lv (.int v :: st) w) : rt_Go l s0 G RJ1 nm cc nL ret tab d w0 Q pc lv (.int y :: .int x :: st) w := by
  intro p e s m args below meth c E H locs ls hP h1 h2 hS hl
  have hs := E.2.2.2.2.2.2.2.2.1
  have := hok.1
  have := hok.2
  have K := k p e s m args below meth c E H locs ls hP h1 h2 hS hl
  refine va_mmax E.1 E.2.1 (hl.1.trans E.2.2.1.symm).symm E.2.2.2.2.2.2.2.1 (rt_word Γ (kc_RJ1_92.1 : Cond.methodLink RJ1 92 Lib.Math.max.name ∈ lw_tbl) rfl hs args) (rt_word Γ (kc_RJ1_92.2 : Cond.static Lib.Math.max.name ∈ lw_tbl) rfl hs args) (rt_word Γ zk_ini rfl hs args) (rt_word Γ zk_max rfl hs args) (by show 1 ≤ d + 12; omega) (by show _ + 13 ≤ 41 * d + 524; omega) (by show w.1 - w0.1 ≤ 600000 - w0.1; omega) (by show w.2.1 - w0.2.1 ≤ 7300000 - w0.2.1; omega) hd ?_
  rw [hv]
  exact K
theorem rt_min1 (Γ : rt_Γ l s0 a0 G ca) {x y v : Int32} (hv : (if y < x then y else x) = v) (hW : (st.map fun v => v.category).sum ≤ 12) (hok : rt_ok w) (hd : decode cc pc = .ok (.invokestatic 38, 3)) (k : rt_Go l s0 G RJ1 nm cc nL ret tab d w0 Q (pc + 3) lv (.int v :: st) w) : rt_Go l s0 G RJ1 nm cc nL ret tab d w0 Q pc lv (.int y :: .int x :: st) w := by
  intro p e s m args below meth c E H locs ls hP h1 h2 hS hl
  have hs := E.2.2.2.2.2.2.2.2.1
  have := hok.1
  have := hok.2
  have K := k p e s m args below meth c E H locs ls hP h1 h2 hS hl
  refine va_mmin E.1 E.2.1 (hl.1.trans E.2.2.1.symm).symm E.2.2.2.2.2.2.2.1 (rt_word Γ (kc_RJ1_38.1 : Cond.methodLink RJ1 38 Lib.Math.min.name ∈ lw_tbl) rfl hs args) (rt_word Γ (kc_RJ1_38.2 : Cond.static Lib.Math.min.name ∈ lw_tbl) rfl hs args) (rt_word Γ zk_ini rfl hs args) (rt_word Γ zk_min rfl hs args) (by show 1 ≤ d + 12; omega) (by show _ + 13 ≤ 41 * d + 524; omega) (by show w.1 - w0.1 ≤ 600000 - w0.1; omega) (by show w.2.1 - w0.2.1 ≤ 7300000 - w0.2.1; omega) hd ?_
  rw [hv]
  exact K
theorem i_canE (Γ : rt_Γ l s0 a0 G ca) {c : Int32} (h0 : ¬ c < 0) (h1 : ¬ 255 < c) : rt_Met l s0 G (.code yJ1_canEncode_9a6ad cJ1_canEncode_9a6ad 1 (Option.some FieldType.boolean)) yJ1_canEncode_9a6ad d [.int c] w (rt_is (.inl (some (.int 1))) w) := by
  refine rt_met Γ kk_J1_canEncode_9a6ad rfl (Nat.le_of_ble_eq_true rfl) rfl ?_
  refine rt_iload_n dJ1_canEncode_9a6ad_0 rfl (j := 0) rfl ?_
  refine rt_if_lt (tgt := 15) dJ1_canEncode_9a6ad_1 (by decide) (fun c1 => absurd c1 h0) (fun _ => ?_)
  refine rt_iload_n dJ1_canEncode_9a6ad_4 rfl (j := 0) rfl ?_
  refine rt_sipush (v := 255) dJ1_canEncode_9a6ad_5 (by decide) ?_
  refine rt_icmp_gt (tgt := 15) dJ1_canEncode_9a6ad_8 (by decide) (fun c1 => absurd c1 h1) (fun _ => ?_)
  refine rt_iconst (v := 1) dJ1_canEncode_9a6ad_11 (by decide) ?_
  refine rt_goto (tgt := 16) dJ1_canEncode_9a6ad_12 (by decide) ?_
  exact rt_zret dJ1_canEncode_9a6ad_16 rfl rfl ⟨rfl, rfl⟩
theorem i_charL (Γ : rt_Γ l s0 a0 G ca) {v n : Nat} {bs : List Int32} {c : Int32} (hn : n < 2 ^ 31) (hT : va_T .byte v n (fun j => .int (bs.getD j 0)) (rt_B s0) s0 s0.heap) : ∀ (m i : Nat), i + m = n → (Q (.inl (some (.int (jIx bs c m i)))) w) → rt_Go l s0 G RJ1 "indexOfChar" cJ1_indexOfChar_4cfef 6 (Option.some FieldType.int) [] d w0 Q 7 [(5, .int (nI i)), (4, .int c), (0, .ref v), (1, .int c), (2, .int 0), (3, .int (nI n))] [] w := by
  intro m
  induction m with
  | zero =>
    intro i hi hQ
    refine rt_iload dJ1_indexOfChar_4cfef_7 (j := 0) rfl ?_
    refine rt_iload_n dJ1_indexOfChar_4cfef_9 rfl (j := 5) rfl ?_
    refine rt_icmp_ge (tgt := 31) dJ1_indexOfChar_4cfef_10 (by decide) (fun _ => ?_) (fun c1 => absurd (nI_le (by omega) (by omega)) c1)
    refine rt_iconst (v := (-1)) dJ1_indexOfChar_4cfef_31 (by decide) ?_
    exact rt_iret dJ1_indexOfChar_4cfef_32 rfl hQ
  | succ m ih =>
    intro i hi hQ
    refine rt_iload dJ1_indexOfChar_4cfef_7 (j := 0) rfl ?_
    refine rt_iload_n dJ1_indexOfChar_4cfef_9 rfl (j := 5) rfl ?_
    refine rt_icmp_ge (tgt := 31) dJ1_indexOfChar_4cfef_10 (by decide) (fun c1 => absurd c1 (nI_ge (by omega) (by omega))) (fun _ => ?_)
    refine rt_aloadA_n dJ1_indexOfChar_4cfef_13 rfl (j := 2) rfl ?_
    refine rt_iload dJ1_indexOfChar_4cfef_14 (j := 0) rfl ?_
    refine rt_tb Γ hT (vp_in_nI (by omega) (by omega)) (v := .int (bs.getD i 0)) (by rw [nI_clamp (by omega)]) dJ1_indexOfChar_4cfef_16 ?_
    refine rt_iload dJ1_indexOfChar_4cfef_17 (j := 1) rfl ?_
    refine rt_icmp_ne (tgt := 25) dJ1_indexOfChar_4cfef_19 (by decide) (fun c1 => ?_) (fun c1 => ?_)
    · refine rt_iinc (v := nI (i + 1)) (lv' := [(5, .int (nI (i + 1))), (4, .int c), (0, .ref v), (1, .int c), (2, .int 0), (3, .int (nI n))]) dJ1_indexOfChar_4cfef_25 (j := 0) rfl (by rw [nI_succ]; rfl) (by decide) rfl ?_
      refine rt_goto (tgt := 7) dJ1_indexOfChar_4cfef_28 (by decide) ?_
      refine ih (i + 1) (by omega) ?_
      rw [show jIx bs c (m + 1) i = _ from if_neg c1] at hQ
      exact hQ
    · rw [show jIx bs c (m + 1) i = _ from if_pos c1] at hQ
      refine rt_iload dJ1_indexOfChar_4cfef_22 (j := 0) rfl ?_
      exact rt_iret dJ1_indexOfChar_4cfef_24 rfl hQ
theorem i_char (Γ : rt_Γ l s0 a0 G ca) {v n : Nat} {bs : List Int32} {c : Int32} (hn : n < 2 ^ 31) (hT : va_T .byte v n (fun j => .int (bs.getD j 0)) (rt_B s0) s0 s0.heap) (hc : c.toInt8.toInt32 = c) : rt_Met l s0 G (.code yJ1_indexOfChar_4cfef cJ1_indexOfChar_4cfef 6 (Option.some FieldType.int)) yJ1_indexOfChar_4cfef d [.ref v, .int c, .int 0, .int (nI n)] w (rt_is (.inl (some (.int (jIx bs c n 0)))) w) := by
  refine rt_met Γ kk_J1_indexOfChar_4cfef rfl (Nat.le_of_ble_eq_true rfl) rfl ?_
  refine rt_iload_n dJ1_indexOfChar_4cfef_0 rfl (j := 1) rfl ?_
  refine rt_i2b dJ1_indexOfChar_4cfef_1 hc ?_
  refine rt_istore (lv' := [(4, .int c), (0, .ref v), (1, .int c), (2, .int 0), (3, .int (nI n))]) dJ1_indexOfChar_4cfef_2 (by decide) rfl ?_
  refine rt_iload_n dJ1_indexOfChar_4cfef_4 rfl (j := 3) rfl ?_
  refine rt_istore (lv' := [(5, .int (nI 0)), (4, .int c), (0, .ref v), (1, .int c), (2, .int 0), (3, .int (nI n))]) dJ1_indexOfChar_4cfef_5 (by decide) rfl ?_
  exact i_charL Γ hn hT n 0 (by omega) ⟨rfl, rfl⟩
theorem i_ix1 (Γ : rt_Γ l s0 a0 G ca) {v n : Nat} {bs : List Int32} {c : Int32} (hd : 1 ≤ d) (hok : rt_ok w) (hn0 : 0 < n) (hn : n < 2 ^ 31) (hT : va_T .byte v n (fun j => .int (bs.getD j 0)) (rt_B s0) s0 s0.heap) (hc : c.toInt8.toInt32 = c) (h0 : ¬ c < 0) (h1 : ¬ 255 < c) : rt_Met l s0 G (.code yJ1_indexOf_4cfef cJ1_indexOf_4cfef 4 (Option.some FieldType.int)) yJ1_indexOf_4cfef d [.ref v, .int c, .int 0, .int (nI n)] w (rt_is (.inl (some (.int (jIx bs c n 0)))) w) := by
  refine rt_met Γ kk_J1_indexOf_4cfef rfl (Nat.le_of_ble_eq_true rfl) rfl ?_
  refine rt_iload_n dJ1_indexOf_4cfef_0 rfl (j := 1) rfl ?_
  refine rt_callS Γ kk_J1_canEncode_9a6ad kc_RJ1_88 (i_canE Γ (d := d - 1) h0 h1) (by omega) (by decide) (As := [.int c]) (show (parseMethodDescriptor yJ1_canEncode_9a6ad.desc).map (fun q => q.parameters.length) = some 1 by decide +kernel) hok (Nat.le_of_ble_eq_true rfl) dJ1_indexOf_4cfef_1 rfl rfl (rt_kr (st2 := [.int 1]) rfl ?_) rt_kx
  refine rt_if_ne (tgt := 9) dJ1_indexOf_4cfef_4 (by decide) (fun _ => ?_) (fun c1 => absurd c1 (by decide))
  refine rt_iload_n dJ1_indexOf_4cfef_9 rfl (j := 2) rfl ?_
  refine rt_iconst (v := 0) dJ1_indexOf_4cfef_10 (by decide) ?_
  refine rt_max1 Γ (v := 0) rfl (Nat.le_of_ble_eq_true rfl) hok dJ1_indexOf_4cfef_11 ?_
  refine rt_istore_n (lv' := [(2, .int 0), (0, .ref v), (1, .int c), (3, .int (nI n))]) dJ1_indexOf_4cfef_14 rfl (by decide) rfl ?_
  refine rt_iload_n dJ1_indexOf_4cfef_15 rfl (j := 3) rfl ?_
  refine rt_aloadA_n dJ1_indexOf_4cfef_16 rfl (j := 1) rfl ?_
  refine rt_tlen Γ hT (v := nI n) rfl dJ1_indexOf_4cfef_17 ?_
  refine rt_min1 Γ (v := nI n) (by split <;> rfl) (Nat.le_of_ble_eq_true rfl) hok dJ1_indexOf_4cfef_18 ?_
  refine rt_istore_n (i := 3) (lv' := [(3, .int (nI n)), (2, .int 0), (0, .ref v), (1, .int c)]) dJ1_indexOf_4cfef_21 rfl (by decide) rfl ?_
  refine rt_iload_n dJ1_indexOf_4cfef_22 rfl (j := 1) rfl ?_
  refine rt_iload_n dJ1_indexOf_4cfef_23 rfl (j := 0) rfl ?_
  refine rt_icmp_lt (tgt := 29) dJ1_indexOf_4cfef_24 (by decide) (fun _ => ?_) (fun c1 => absurd (show (0 : Int32) < nI n from nI_lt (a := 0) hn0 hn) c1)
  refine rt_aloadA_n dJ1_indexOf_4cfef_29 rfl (j := 2) rfl ?_
  refine rt_iload_n dJ1_indexOf_4cfef_30 rfl (j := 3) rfl ?_
  refine rt_iload_n dJ1_indexOf_4cfef_31 rfl (j := 1) rfl ?_
  refine rt_iload_n dJ1_indexOf_4cfef_32 rfl (j := 0) rfl ?_
  refine rt_callS Γ kk_J1_indexOfChar_4cfef kc_RJ1_95 (i_char Γ (d := d - 1) hn hT hc) (by omega) (by decide) (As := [.ref v, .int c, .int 0, .int (nI n)]) (show (parseMethodDescriptor yJ1_indexOfChar_4cfef.desc).map (fun q => q.parameters.length) = some 4 by decide +kernel) hok (Nat.le_of_ble_eq_true rfl) dJ1_indexOf_4cfef_33 rfl rfl (rt_kr (st2 := [.int (jIx bs c n 0)]) rfl ?_) rt_kx
  exact rt_iret dJ1_indexOf_4cfef_36 rfl ⟨rfl, rfl⟩
theorem i_ix2 (Γ : rt_Γ l s0 a0 G ca) {a : Nat} {bs : List Int32} {c : Int32} (hd : 2 ≤ d) (hok : rt_ok w) (hn0 : 0 < bs.length) (hn : bs.length < 2 ^ 31) (hs : rt_str s0 a bs) (hc : c.toInt8.toInt32 = c) (h0 : ¬ c < 0) (h1 : ¬ 255 < c) : rt_Met l s0 G (.code yJ0_indexOf_7cf53 cJ0_indexOf_7cf53 3 (Option.some FieldType.int)) yJ0_indexOf_7cf53 d [.ref a, .int c, .int 0] w (rt_is (.inl (some (.int (jIx bs c bs.length 0)))) w) := by
  refine rt_met Γ kk_J0_indexOf_7cf53 rfl (Nat.le_of_ble_eq_true rfl) rfl ?_
  obtain ⟨v, h2, h3, h4, h5⟩ := id hs
  refine rt_aloadA_n dJ0_indexOf_7cf53_0 rfl (j := 0) rfl ?_
  refine rt_callO Γ kk_J0_isLatin1_aae02 kc_RJ0_492 h2 (c_J0_isLatin1_aae02 Γ (d := d - 1) hs) (by omega) (by decide) (As := []) (show (parseMethodDescriptor yJ0_isLatin1_aae02.desc).map (fun q => q.parameters.length) = some 0 by decide +kernel) hok (Nat.le_of_ble_eq_true rfl) dJ0_indexOf_7cf53_1 rfl rfl (rt_kr (st2 := [.int 1]) rfl ?_) rt_kx
  refine rt_if_eq (tgt := 23) dJ0_indexOf_7cf53_4 (by decide) (fun c4 => absurd c4 (by decide)) (fun _ => ?_)
  refine rt_aloadA_n dJ0_indexOf_7cf53_7 rfl (j := 0) rfl ?_
  refine rt_getO Γ h4 (tc_9 _ (List.mem_of_getElem? (i := 68) (by decide +kernel))) dJ0_indexOf_7cf53_8 ?_
  refine rt_iload_n dJ0_indexOf_7cf53_11 rfl (j := 1) rfl ?_
  refine rt_iload_n dJ0_indexOf_7cf53_12 rfl (j := 2) rfl ?_
  refine rt_aloadA_n dJ0_indexOf_7cf53_13 rfl (j := 0) rfl ?_
  refine rt_callO Γ kk_J0_length_8abf5 kc_RJ0_505 h2 (c_J0_length_8abf5 Γ (d := d - 1) (by omega) hok hs hn) (by omega) (by decide) (As := []) (show (parseMethodDescriptor yJ0_length_8abf5.desc).map (fun q => q.parameters.length) = some 0 by decide +kernel) hok (Nat.le_of_ble_eq_true rfl) dJ0_indexOf_7cf53_14 rfl rfl (rt_kr (st2 := [.int (nI bs.length), .int 0, .int c, .ref v]) rfl ?_) rt_kx
  refine rt_callS Γ kk_J1_indexOf_4cfef kc_RJ0_637 (i_ix1 Γ (d := d - 1) (by omega) hok hn0 hn h5 hc h0 h1) (by omega) (by decide) (As := [.ref v, .int c, .int 0, .int (nI bs.length)]) (show (parseMethodDescriptor yJ1_indexOf_4cfef.desc).map (fun q => q.parameters.length) = some 4 by decide +kernel) hok (Nat.le_of_ble_eq_true rfl) dJ0_indexOf_7cf53_17 rfl rfl (rt_kr (st2 := [.int (jIx bs c bs.length 0)]) rfl ?_) rt_kx
  refine rt_goto (tgt := 36) dJ0_indexOf_7cf53_20 (by decide) ?_
  exact rt_iret dJ0_indexOf_7cf53_36 rfl ⟨rfl, rfl⟩
theorem i_ix3 (Γ : rt_Γ l s0 a0 G ca) {a : Nat} {bs : List Int32} {c : Int32} (hd : 3 ≤ d) (hok : rt_ok w) (hn0 : 0 < bs.length) (hn : bs.length < 2 ^ 31) (hs : rt_str s0 a bs) (hc : c.toInt8.toInt32 = c) (h0 : ¬ c < 0) (h1 : ¬ 255 < c) : rt_Met l s0 G (.code yJ0_indexOf_0f7a4 cJ0_indexOf_0f7a4 2 (Option.some FieldType.int)) yJ0_indexOf_0f7a4 d [.ref a, .int c] w (rt_is (.inl (some (.int (jIx bs c bs.length 0)))) w) := by
  refine rt_met Γ kk_J0_indexOf_0f7a4 rfl (Nat.le_of_ble_eq_true rfl) rfl ?_
  obtain ⟨v, h2, -⟩ := id hs
  refine rt_aloadA_n dJ0_indexOf_0f7a4_0 rfl (j := 0) rfl ?_
  refine rt_iload_n dJ0_indexOf_0f7a4_1 rfl (j := 1) rfl ?_
  refine rt_iconst (v := 0) dJ0_indexOf_0f7a4_2 (by decide) ?_
  refine rt_callO Γ kk_J0_indexOf_7cf53 kc_RJ0_633 h2 (i_ix2 Γ (d := d - 1) (by omega) hok hn0 hn hs hc h0 h1) (by omega) (by decide) (As := [.int c, .int 0]) (show (parseMethodDescriptor yJ0_indexOf_7cf53.desc).map (fun q => q.parameters.length) = some 2 by decide +kernel) hok (Nat.le_of_ble_eq_true rfl) dJ0_indexOf_0f7a4_3 rfl rfl (rt_kr (st2 := [.int (jIx bs c bs.length 0)]) rfl ?_) rt_kx
  exact rt_iret dJ0_indexOf_0f7a4_6 rfl ⟨rfl, rfl⟩
end IX
def zix : List Int → Int → Nat → Int
  | [], _, _ => -1
  | b :: r, c, i => if b = c then (i : Int) else zix r c (i + 1)
theorem jIx_zix {c : Int} (h0 : 0 ≤ c) (h1 : c < 128) : ∀ (r pre : List Int), (∀ b ∈ r, 0 ≤ b ∧ b < 128) → jIx ((pre ++ r).map Int32.ofInt) (Int32.ofInt c) r.length pre.length = Int32.ofInt (zix r c pre.length) := by
  intro r
  induction r with
  | nil => intro pre _; rfl
  | cons b r ih =>
    intro pre hb
    have hb0 := hb b List.mem_cons_self
    have e1 : ((pre ++ b :: r).map Int32.ofInt).getD pre.length 0 = Int32.ofInt b := by simp
    have e2 : (Int32.ofInt b = Int32.ofInt c) ↔ b = c := by rw [z_eq, w32_id (by omega) (by omega), w32_id (by omega) (by omega)]
    show (if ((pre ++ b :: r).map Int32.ofInt).getD pre.length 0 = Int32.ofInt c then nI pre.length else jIx ((pre ++ b :: r).map Int32.ofInt) (Int32.ofInt c) r.length (pre.length + 1)) = Int32.ofInt (if b = c then (pre.length : Int) else zix r c (pre.length + 1))
    rw [e1]
    by_cases e : b = c
    · rw [if_pos (e2.mpr e), if_pos e]
      exact Int32.ofInt_eq_ofNat.symm
    · rw [if_neg (fun x => e (e2.mp x)), if_neg e]
      have := ih (pre ++ [b]) (fun x hx => hb x (List.mem_cons_of_mem _ hx))
      simpa using this
theorem z_sidx {l : Launch} {s0 : State} {a0 : Array Value} {G : va_G} {ca : Nat → ClassId} {own nm : String} {cc : ByteArray} {nL : Nat} {ret : Option FieldType} {tab : List ExceptionTableEntry} {d : Nat} {w0 : rt_Wd} {Qr : rt_Res → rt_Wd → Prop} {pc : Nat} {lv : List (Nat × Value)} {st : List Value} {C : Nat × Nat} {S : zS} {M : zM} (Γ : rt_Γ l s0 a0 G ca) {q : Nat} {bs : List Int} {i : Int} (hq : zstr s0 q bs) {index : Nat} (C9 : rt_Cv own index RJ0 yJ0_indexOf_0f7a4) (hd3 : 3 ≤ d - 1) (hok : zok C) (hW : (st.map fun v => v.category).sum ≤ 12) (hbs : 0 < bs.length) (hi : 0 ≤ i ∧ i < 128) (hd : decode cc pc = .ok (.invokevirtual index, 3)) (k : rt_Go l s0 G own nm cc nL ret tab d w0 Qr (pc + 3) lv (zv s0 0 (zix bs i 0) :: st) (zw s0 ca C S M)) : rt_Go l s0 G own nm cc nL ret tab d w0 Qr pc lv (zv s0 0 i :: .ref q :: st) (zw s0 ca C S M) := by
  obtain ⟨v, h2, -⟩ := id hq.1
  have hll := hq.2.2
  have hok2 : rt_ok (zw s0 ca C S M) := ⟨by have := hok.1; show C.1 ≤ _; omega, by have := hok.2; show C.2 ≤ _; omega⟩
  have g0 : ¬ Int32.ofInt i < 0 := fun c => by
    have c9 := (z_lt i 0).mp c
    rw [w32_id (by omega) (by omega)] at c9
    have : w32 0 = 0 := by decide
    omega
  have g1 : ¬ 255 < Int32.ofInt i := fun c => by
    have c9 := (z_lt 255 i).mp c
    rw [w32_id (x := i) (by omega) (by omega)] at c9
    have : w32 255 = 255 := by decide
    omega
  have g2 : (Int32.ofInt i).toInt8.toInt32 = Int32.ofInt i := by
    rw [← Int32.toInt_inj, Int8.toInt_toInt32, Int32.toInt8_ofInt, z_toI, w32_id (by omega) (by omega)]
    exact Int8.toInt_ofInt_of_le (by omega) (by omega)
  refine rt_callO Γ kk_J0_indexOf_0f7a4 C9 h2 (i_ix3 Γ (d := d - 1) hd3 hok2 (by rw [List.length_map]; exact hbs) (by rw [List.length_map]; omega) hq.1 g2 g0 g1) (by omega) (by decide) (As := [zv s0 0 i]) (show (parseMethodDescriptor yJ0_indexOf_0f7a4.desc).map (fun q => q.parameters.length) = some 1 by decide +kernel) hok2 hW hd rfl rfl (rt_kr (st2 := .int (jIx (bs.map Int32.ofInt) (Int32.ofInt i) (bs.map Int32.ofInt).length 0) :: st) rfl ?_) rt_kx
  have e := jIx_zix (c := i) hi.1 hi.2 bs [] hq.2.1
  rw [List.nil_append] at e
  rw [List.length_map]
  have e9 : Value.int (jIx (bs.map Int32.ofInt) (Int32.ofInt i) bs.length 0) = zv s0 0 (zix bs i 0) := congrArg Value.int e
  rw [e9]
  exact k
