/-! ===== the class's values ===== -/
/-- a value stands at V: behind parseValue -/
def jVO (s0 : State) (ca : Nat → ClassId) (w : rt_Wd) (t tp V L q : Nat) (k b nx fi pa wo ke : Nat → Int32) (nu : Nat → Int64) (le : Nat → Int32) (xs : List JR) (r : rt_Res) (w1 : rt_Wd) : Prop :=
  r = .inl (some (.int (nI V))) ∧ ∃ (k1 b1 nx1 fi1 pa1 wo1 ke1 : Nat → Int32) (nu1 : Nat → Int64) (le1 : Nat → Int32), w1 = rt_bk w t (tx_L s0 ca t (rt_r s0 tp) (nI (V + xs.length)) (nI q) (-1) k1 b1 nx1 fi1 pa1 wo1 ke1 nu1 le1 (nI (L + jLw xs))) ∧
    (∀ i : Nat, i < V → jSame k b nx fi pa wo ke nu k1 b1 nx1 fi1 pa1 wo1 ke1 nu1 i) ∧ ke1 V = ke V ∧ (∀ i : Nat, i < L → le1 i = le i) ∧ jRep k1 b1 nx1 fi1 pa1 wo1 ke1 nu1 le1 (L + jLw xs) xs V
theorem jLw_s (p : Nat) (ws : List Int32) : jLw [(3, p, 0, ws, none, 0, 1, false)] = 1 + ws.length := by simp [jLw, jlw, jwl, JR.kd, JR.ws, JR.kw]
theorem jLw_l (kd p : Nat) (x : Int64) (h : ¬ kd = 3) : jLw [(kd, p, x, [], none, 0, 1, false)] = 0 := by simp [jLw, jlw, jwl, JR.kd, JR.ws, JR.kw, h]
theorem jNum_okc {g : Nat → Int32} {p q : Nat} {x : Int64} (h : jNum g p = .ok (q, x)) :
    (g p = 45 ∧ jDgt (g (p + 1)) ∧ ∃ (i1 : Int32) (s1 : Int64), jDig g (-9223372036854775808) (if g (p + 1) = 48 then 1 else 4096) (p + 1) 1 0 = (q, i1, s1) ∧ ¬ i1 = 0 ∧ x = s1) ∨
    (¬ g p = 45 ∧ jDgt (g p) ∧ ∃ (i1 : Int32) (s1 : Int64), jDig g (-9223372036854775807) (if g p = 48 then 1 else 4096) p 1 0 = (q, i1, s1) ∧ ¬ i1 = 0 ∧ x = -s1) := by
  unfold jNum at h
  by_cases c : g p = 45
  · rw [if_pos c] at h
    by_cases c1 : jDgt (g (p + 1))
    · rw [if_pos c1] at h
      by_cases z : (jDig g (-9223372036854775808) (if g (p + 1) = 48 then 1 else 4096) (p + 1) 1 0).2.1 = 0
      · rw [if_pos z] at h
        exact nomatch h
      · rw [if_neg z] at h
        obtain ⟨e1, e2⟩ := Prod.mk.inj (Except.ok.inj h)
        exact Or.inl ⟨c, c1, _, _, Prod.ext e1 rfl, z, e2.symm⟩
    · rw [if_neg c1] at h
      exact nomatch h
  · rw [if_neg c] at h
    by_cases c1 : jDgt (g p)
    · rw [if_pos c1] at h
      by_cases z : (jDig g (-9223372036854775807) (if g p = 48 then 1 else 4096) p 1 0).2.1 = 0
      · rw [if_pos z] at h
        exact nomatch h
      · rw [if_neg z] at h
        obtain ⟨e1, e2⟩ := Prod.mk.inj (Except.ok.inj h)
        exact Or.inr ⟨c, c1, _, _, Prod.ext e1 rfl, z, e2.symm⟩
    · rw [if_neg c1] at h
      exact nomatch h
set_option maxRecDepth 100000 in
theorem jv_str {l : Launch} {s0 : State} {a0 : Array Value} {G : va_G} {ca : Nat → ClassId} (Γ : rt_Γ l s0 a0 G ca) {d : Nat} {w : rt_Wd} {t : Nat} {k : Nat → Int32} {b : Nat → Int32} {nx : Nat → Int32} {fi : Nat → Int32} {pa : Nat → Int32} {wo : Nat → Int32} {ke : Nat → Int32} {nu : Nat → Int64} {le : Nat → Int32} (hd : 3 ≤ d) {tp n : Nat} {f : Nat → Int32} {u : Int32} {g : Nat → Int32} (hT : rt_C s0 ca w tp n f u) (hn : n < 2 ^ 31) (htp : tp + 1 < t ∨ t + 18 ≤ tp) (hg : ∀ p : Nat, p < 65536 → cl_peek n f u (nI p) = g p) (hok : rt_ok w) {p V L N dp : Nat} (hN : jT g N) (hp : p ≤ N) (hVp : V ≤ p) (hLp : L ≤ p) (n1 : ¬ g p = 123) (n2 : ¬ g p = 91) (h : g p = 34) {ws : List Int32} {q : Nat} (hs : jStr g 4097 (p + 1) = .ok (ws, q)) : rt_Met l s0 G (.code yX8_parseValue cX8_parseValue 4 (Option.some FieldType.int)) yX8_parseValue d [rt_r s0 t, .int (nI dp)] (rt_bk w t (tx_L s0 ca t (rt_r s0 tp) (nI V) (nI p) (-1) k b nx fi pa wo ke nu le (nI L))) (jVO s0 ca w t tp V L q k b nx fi pa wo ke nu le [(3, p, 0, ws, none, 0, 1, false)]) := by
  refine rt_met Γ kk_X8_parseValue rfl (Nat.le_of_ble_eq_true rfl) rfl ?_
  have hN0 := hN.1
  have hV : V < 2073 := by omega
  have hpN : p < N := hN.lt (by rw [h]; decide)
  refine rt_aload_n dX8_parseValue_0 rfl (j := 0) rfl ?_
  refine rt_bGet Γ kf_RX8_63 dX8_parseValue_1 (L := (tx_L s0 ca t (rt_r s0 tp) (nI V) (nI p) (-1) k b nx fi pa wo ke nu le (nI L))) rfl rfl ?_
  refine rt_istore_n (lv' := [(2, .int (nI V)), (0, rt_r s0 t), (1, .int (nI dp))]) dX8_parseValue_4 rfl (by decide) rfl ?_
  refine rt_aload_n dX8_parseValue_5 rfl (j := 1) rfl ?_
  refine rt_dup dX8_parseValue_6 rfl ?_
  refine rt_bGet Γ kf_RX8_63 dX8_parseValue_7 (L := (tx_L s0 ca t (rt_r s0 tp) (nI V) (nI p) (-1) k b nx fi pa wo ke nu le (nI L))) rfl rfl ?_
  refine rt_iconst (v := 1) dX8_parseValue_10 (by decide) ?_
  refine rt_iadd dX8_parseValue_11 ?_
  refine rt_te (y := nI (V + 1)) (nI_1 V) ?_
  refine rt_bPut Γ kp_RX8_63 dX8_parseValue_12 (L := (tx_L s0 ca t (rt_r s0 tp) (nI V) (nI p) (-1) k b nx fi pa wo ke nu le (nI L))) rfl (Nat.le_of_ble_eq_true rfl) rfl rfl (L' := (tx_L s0 ca t (rt_r s0 tp) (nI (V + 1)) (nI p) (-1) k b nx fi pa wo ke nu le (nI L))) rfl ?_
  refine rt_aload_n dX8_parseValue_15 rfl (j := 1) rfl ?_
  refine rt_bGet Γ kf_RX8_20 dX8_parseValue_16 (L := (tx_L s0 ca t (rt_r s0 tp) (nI (V + 1)) (nI p) (-1) k b nx fi pa wo ke nu le (nI L))) rfl rfl ?_
  refine rt_iload_n dX8_parseValue_19 rfl (j := 0) rfl ?_
  refine rt_aload_n dX8_parseValue_20 rfl (j := 1) rfl ?_
  refine rt_bGet Γ kf_RX8_67 dX8_parseValue_21 (L := (tx_L s0 ca t (rt_r s0 tp) (nI (V + 1)) (nI p) (-1) k b nx fi pa wo ke nu le (nI L))) rfl rfl ?_
  refine rt_callV Γ kk_X0_put kc_RX8_89 (c_X0_put Γ (d := d - 1) (rt_bk_C (t := t) (L := (tx_L s0 ca t (rt_r s0 tp) (nI (V + 1)) (nI p) (-1) k b nx fi pa wo ke nu le (nI L))) 3 (Nat.le_of_ble_eq_true rfl) rfl rfl) (by decide)) (by omega) (by decide) (As := [.int (nI V), .int (nI p)]) (show (parseMethodDescriptor yX0_put.desc).map (fun q => q.parameters.length) = some 2 by decide +kernel) hok (Nat.le_of_ble_eq_true rfl) dX8_parseValue_24 (rt_bk_C (t := t) (L := (tx_L s0 ca t (rt_r s0 tp) (nI (V + 1)) (nI p) (-1) k b nx fi pa wo ke nu le (nI L))) 3 (Nat.le_of_ble_eq_true rfl) rfl rfl).1 rfl rfl rfl (rt_kr (st2 := []) rfl ?_) rt_kx
  refine rt_weq (w' := (rt_bk w t (tx_L s0 ca t (rt_r s0 tp) (nI (V + 1)) (nI p) (-1) k (cl_put 2073 b (nI V) (nI p)) nx fi pa wo ke nu le (nI L)))) (rt_bk_cs 3 (Nat.le_of_ble_eq_true rfl)) ?_
  refine rt_weq (w' := (rt_bk w t (tx_L s0 ca t (rt_r s0 tp) (nI (V + 1)) (nI p) (-1) k (upd b V (nI p)) nx fi pa wo ke nu le (nI L)))) (by rw [cl_putN hV (by decide)]) ?_
  refine rt_aload_n dX8_parseValue_27 rfl (j := 1) rfl ?_
  refine rt_bGet Γ kf_RX8_23 dX8_parseValue_28 (L := (tx_L s0 ca t (rt_r s0 tp) (nI (V + 1)) (nI p) (-1) k (upd b V (nI p)) nx fi pa wo ke nu le (nI L))) rfl rfl ?_
  refine rt_iload_n dX8_parseValue_31 rfl (j := 0) rfl ?_
  refine rt_iconst (v := (-1)) dX8_parseValue_32 (by decide) ?_
  refine rt_callV Γ kk_X0_put kc_RX8_89 (c_X0_put Γ (d := d - 1) (rt_bk_C (t := t) (L := (tx_L s0 ca t (rt_r s0 tp) (nI (V + 1)) (nI p) (-1) k (upd b V (nI p)) nx fi pa wo ke nu le (nI L))) 5 (Nat.le_of_ble_eq_true rfl) rfl rfl) (by decide)) (by omega) (by decide) (As := [.int (nI V), .int (-1)]) (show (parseMethodDescriptor yX0_put.desc).map (fun q => q.parameters.length) = some 2 by decide +kernel) hok (Nat.le_of_ble_eq_true rfl) dX8_parseValue_33 (rt_bk_C (t := t) (L := (tx_L s0 ca t (rt_r s0 tp) (nI (V + 1)) (nI p) (-1) k (upd b V (nI p)) nx fi pa wo ke nu le (nI L))) 5 (Nat.le_of_ble_eq_true rfl) rfl rfl).1 rfl rfl rfl (rt_kr (st2 := []) rfl ?_) rt_kx
  refine rt_weq (w' := (rt_bk w t (tx_L s0 ca t (rt_r s0 tp) (nI (V + 1)) (nI p) (-1) k (upd b V (nI p)) (cl_put 2073 nx (nI V) (-1)) fi pa wo ke nu le (nI L)))) (rt_bk_cs 5 (Nat.le_of_ble_eq_true rfl)) ?_
  refine rt_weq (w' := (rt_bk w t (tx_L s0 ca t (rt_r s0 tp) (nI (V + 1)) (nI p) (-1) k (upd b V (nI p)) (upd nx V (-1)) fi pa wo ke nu le (nI L)))) (by rw [cl_putN hV (by decide)]) ?_
  refine rt_aload_n dX8_parseValue_36 rfl (j := 1) rfl ?_
  refine rt_bGet Γ kf_RX8_26 dX8_parseValue_37 (L := (tx_L s0 ca t (rt_r s0 tp) (nI (V + 1)) (nI p) (-1) k (upd b V (nI p)) (upd nx V (-1)) fi pa wo ke nu le (nI L))) rfl rfl ?_
  refine rt_iload_n dX8_parseValue_40 rfl (j := 0) rfl ?_
  refine rt_iconst (v := (-1)) dX8_parseValue_41 (by decide) ?_
  refine rt_callV Γ kk_X0_put kc_RX8_89 (c_X0_put Γ (d := d - 1) (rt_bk_C (t := t) (L := (tx_L s0 ca t (rt_r s0 tp) (nI (V + 1)) (nI p) (-1) k (upd b V (nI p)) (upd nx V (-1)) fi pa wo ke nu le (nI L))) 7 (Nat.le_of_ble_eq_true rfl) rfl rfl) (by decide)) (by omega) (by decide) (As := [.int (nI V), .int (-1)]) (show (parseMethodDescriptor yX0_put.desc).map (fun q => q.parameters.length) = some 2 by decide +kernel) hok (Nat.le_of_ble_eq_true rfl) dX8_parseValue_42 (rt_bk_C (t := t) (L := (tx_L s0 ca t (rt_r s0 tp) (nI (V + 1)) (nI p) (-1) k (upd b V (nI p)) (upd nx V (-1)) fi pa wo ke nu le (nI L))) 7 (Nat.le_of_ble_eq_true rfl) rfl rfl).1 rfl rfl rfl (rt_kr (st2 := []) rfl ?_) rt_kx
  refine rt_weq (w' := (rt_bk w t (tx_L s0 ca t (rt_r s0 tp) (nI (V + 1)) (nI p) (-1) k (upd b V (nI p)) (upd nx V (-1)) (cl_put 2073 fi (nI V) (-1)) pa wo ke nu le (nI L)))) (rt_bk_cs 7 (Nat.le_of_ble_eq_true rfl)) ?_
  refine rt_weq (w' := (rt_bk w t (tx_L s0 ca t (rt_r s0 tp) (nI (V + 1)) (nI p) (-1) k (upd b V (nI p)) (upd nx V (-1)) (upd fi V (-1)) pa wo ke nu le (nI L)))) (by rw [cl_putN hV (by decide)]) ?_
  refine rt_aload_n dX8_parseValue_45 rfl (j := 1) rfl ?_
  refine rt_bGet Γ kf_RX8_29 dX8_parseValue_46 (L := (tx_L s0 ca t (rt_r s0 tp) (nI (V + 1)) (nI p) (-1) k (upd b V (nI p)) (upd nx V (-1)) (upd fi V (-1)) pa wo ke nu le (nI L))) rfl rfl ?_
  refine rt_iload_n dX8_parseValue_49 rfl (j := 0) rfl ?_
  refine rt_iconst (v := 0) dX8_parseValue_50 (by decide) ?_
  refine rt_callV Γ kk_X0_put kc_RX8_89 (c_X0_put Γ (d := d - 1) (rt_bk_C (t := t) (L := (tx_L s0 ca t (rt_r s0 tp) (nI (V + 1)) (nI p) (-1) k (upd b V (nI p)) (upd nx V (-1)) (upd fi V (-1)) pa wo ke nu le (nI L))) 9 (Nat.le_of_ble_eq_true rfl) rfl rfl) (by decide)) (by omega) (by decide) (As := [.int (nI V), .int 0]) (show (parseMethodDescriptor yX0_put.desc).map (fun q => q.parameters.length) = some 2 by decide +kernel) hok (Nat.le_of_ble_eq_true rfl) dX8_parseValue_51 (rt_bk_C (t := t) (L := (tx_L s0 ca t (rt_r s0 tp) (nI (V + 1)) (nI p) (-1) k (upd b V (nI p)) (upd nx V (-1)) (upd fi V (-1)) pa wo ke nu le (nI L))) 9 (Nat.le_of_ble_eq_true rfl) rfl rfl).1 rfl rfl rfl (rt_kr (st2 := []) rfl ?_) rt_kx
  refine rt_weq (w' := (rt_bk w t (tx_L s0 ca t (rt_r s0 tp) (nI (V + 1)) (nI p) (-1) k (upd b V (nI p)) (upd nx V (-1)) (upd fi V (-1)) (cl_put 2073 pa (nI V) 0) wo ke nu le (nI L)))) (rt_bk_cs 9 (Nat.le_of_ble_eq_true rfl)) ?_
  refine rt_weq (w' := (rt_bk w t (tx_L s0 ca t (rt_r s0 tp) (nI (V + 1)) (nI p) (-1) k (upd b V (nI p)) (upd nx V (-1)) (upd fi V (-1)) (upd pa V 0) wo ke nu le (nI L)))) (by rw [cl_putN hV (by decide)]) ?_
  refine rt_aload_n dX8_parseValue_54 rfl (j := 1) rfl ?_
  refine rt_bGet Γ kf_RX8_57 dX8_parseValue_55 (L := (tx_L s0 ca t (rt_r s0 tp) (nI (V + 1)) (nI p) (-1) k (upd b V (nI p)) (upd nx V (-1)) (upd fi V (-1)) (upd pa V 0) wo ke nu le (nI L))) rfl rfl ?_
  refine rt_aload_n dX8_parseValue_58 rfl (j := 1) rfl ?_
  refine rt_bGet Γ kf_RX8_67 dX8_parseValue_59 (L := (tx_L s0 ca t (rt_r s0 tp) (nI (V + 1)) (nI p) (-1) k (upd b V (nI p)) (upd nx V (-1)) (upd fi V (-1)) (upd pa V 0) wo ke nu le (nI L))) rfl rfl ?_
  refine rt_callV Γ kk_X0_peek kc_RX8_86 (c_X0_peek Γ (d := d - 1) (x := (nI p)) (hT.bk htp) hn) (by omega) (by decide) (As := [.int (nI p)]) (show (parseMethodDescriptor yX0_peek.desc).map (fun q => q.parameters.length) = some 1 by decide +kernel) hok (Nat.le_of_ble_eq_true rfl) dX8_parseValue_62 (hT.bk htp).1 rfl rfl rfl (rt_kr (st2 := [.int (cl_peek n f u (nI p))]) rfl ?_) rt_kx
  refine rt_te (y := g p) (hg p (by omega)) ?_
  refine rt_istore_n (lv' := [(3, .int (g p)), (2, .int (nI V)), (0, rt_r s0 t), (1, .int (nI dp))]) dX8_parseValue_65 rfl (by decide) rfl ?_
  refine rt_iload_n dX8_parseValue_66 rfl (j := 0) rfl ?_
  refine rt_bipush (v := 123) dX8_parseValue_67 (by decide) ?_
  refine rt_icmp_ne (tgt := 92) dX8_parseValue_69 (by decide) (fun _ => ?_) (fun c69 => absurd c69 n1)
  refine rt_iload_n dX8_parseValue_92 rfl (j := 0) rfl ?_
  refine rt_bipush (v := 91) dX8_parseValue_93 (by decide) ?_
  refine rt_icmp_ne (tgt := 118) dX8_parseValue_95 (by decide) (fun _ => ?_) (fun c95 => absurd c95 n2)
  refine rt_iload_n dX8_parseValue_118 rfl (j := 0) rfl ?_
  refine rt_bipush (v := 34) dX8_parseValue_119 (by decide) ?_
  refine rt_icmp_ne (tgt := 148) dX8_parseValue_121 (by decide) (fun c121 => absurd c121 (fun c => c h)) (fun _ => ?_)
  refine rt_aload_n dX8_parseValue_124 rfl (j := 2) rfl ?_
  refine rt_bGet Γ kf_RX8_16 dX8_parseValue_125 (L := (tx_L s0 ca t (rt_r s0 tp) (nI (V + 1)) (nI p) (-1) k (upd b V (nI p)) (upd nx V (-1)) (upd fi V (-1)) (upd pa V 0) wo ke nu le (nI L))) rfl rfl ?_
  refine rt_iload_n dX8_parseValue_128 rfl (j := 1) rfl ?_
  refine rt_iconst (v := 3) dX8_parseValue_129 (by decide) ?_
  refine rt_callV Γ kk_X0_put kc_RX8_89 (c_X0_put Γ (d := d - 1) (rt_bk_C (t := t) (L := (tx_L s0 ca t (rt_r s0 tp) (nI (V + 1)) (nI p) (-1) k (upd b V (nI p)) (upd nx V (-1)) (upd fi V (-1)) (upd pa V 0) wo ke nu le (nI L))) 1 (Nat.le_of_ble_eq_true rfl) rfl rfl) (by decide)) (by omega) (by decide) (As := [.int (nI V), .int 3]) (show (parseMethodDescriptor yX0_put.desc).map (fun q => q.parameters.length) = some 2 by decide +kernel) hok (Nat.le_of_ble_eq_true rfl) dX8_parseValue_130 (rt_bk_C (t := t) (L := (tx_L s0 ca t (rt_r s0 tp) (nI (V + 1)) (nI p) (-1) k (upd b V (nI p)) (upd nx V (-1)) (upd fi V (-1)) (upd pa V 0) wo ke nu le (nI L))) 1 (Nat.le_of_ble_eq_true rfl) rfl rfl).1 rfl rfl rfl (rt_kr (st2 := []) rfl ?_) rt_kx
  refine rt_weq (w' := (rt_bk w t (tx_L s0 ca t (rt_r s0 tp) (nI (V + 1)) (nI p) (-1) (cl_put 2073 k (nI V) 3) (upd b V (nI p)) (upd nx V (-1)) (upd fi V (-1)) (upd pa V 0) wo ke nu le (nI L)))) (rt_bk_cs 1 (Nat.le_of_ble_eq_true rfl)) ?_
  refine rt_weq (w' := (rt_bk w t (tx_L s0 ca t (rt_r s0 tp) (nI (V + 1)) (nI p) (-1) (upd k V 3) (upd b V (nI p)) (upd nx V (-1)) (upd fi V (-1)) (upd pa V 0) wo ke nu le (nI L)))) (by rw [cl_putN hV (by decide)]) ?_
  refine rt_aload_n dX8_parseValue_133 rfl (j := 2) rfl ?_
  refine rt_bGet Γ kf_RX8_32 dX8_parseValue_134 (L := (tx_L s0 ca t (rt_r s0 tp) (nI (V + 1)) (nI p) (-1) (upd k V 3) (upd b V (nI p)) (upd nx V (-1)) (upd fi V (-1)) (upd pa V 0) wo ke nu le (nI L))) rfl rfl ?_
  refine rt_iload_n dX8_parseValue_137 rfl (j := 1) rfl ?_
  refine rt_aload_n dX8_parseValue_138 rfl (j := 2) rfl ?_
  refine rt_callV Γ kk_X8_parseString kc_RX8_97 (j_strT Γ (d := d - 1) (by omega) hT hn htp hg hok hN hpN (by omega) hs) (by omega) (by decide) (As := []) (show (parseMethodDescriptor yX8_parseString.desc).map (fun q => q.parameters.length) = some 0 by decide +kernel) hok (Nat.le_of_ble_eq_true rfl) dX8_parseValue_139 ((rt_bk_0 w t (tx_L s0 ca t (rt_r s0 tp) (nI (V + 1)) (nI p) (-1) (upd k V 3) (upd b V (nI p)) (upd nx V (-1)) (upd fi V (-1)) (upd pa V 0) wo ke nu le (nI L)) (Nat.le_of_ble_eq_true rfl)).trans rfl) rfl rfl rfl (rt_kr (st2 := [.int (nI L), .int (nI V), rt_r s0 (t + 11)]) rfl ?_) rt_kx
  refine rt_callV Γ kk_X0_put kc_RX8_89 (c_X0_put Γ (d := d - 1) (rt_bk_C (t := t) (L := (tx_L s0 ca t (rt_r s0 tp) (nI (V + 1)) (nI q) (-1) (upd k V 3) (upd b V (nI p)) (upd nx V (-1)) (upd fi V (-1)) (upd pa V 0) wo ke nu (jWord le L ws) (nI (L + 1 + ws.length)))) 11 (Nat.le_of_ble_eq_true rfl) rfl rfl) (by decide)) (by omega) (by decide) (As := [.int (nI V), .int (nI L)]) (show (parseMethodDescriptor yX0_put.desc).map (fun q => q.parameters.length) = some 2 by decide +kernel) hok (Nat.le_of_ble_eq_true rfl) dX8_parseValue_142 (rt_bk_C (t := t) (L := (tx_L s0 ca t (rt_r s0 tp) (nI (V + 1)) (nI q) (-1) (upd k V 3) (upd b V (nI p)) (upd nx V (-1)) (upd fi V (-1)) (upd pa V 0) wo ke nu (jWord le L ws) (nI (L + 1 + ws.length)))) 11 (Nat.le_of_ble_eq_true rfl) rfl rfl).1 rfl rfl rfl (rt_kr (st2 := []) rfl ?_) rt_kx
  refine rt_weq (w' := (rt_bk w t (tx_L s0 ca t (rt_r s0 tp) (nI (V + 1)) (nI q) (-1) (upd k V 3) (upd b V (nI p)) (upd nx V (-1)) (upd fi V (-1)) (upd pa V 0) (cl_put 2073 wo (nI V) (nI L)) ke nu (jWord le L ws) (nI (L + 1 + ws.length))))) (rt_bk_cs 11 (Nat.le_of_ble_eq_true rfl)) ?_
  refine rt_weq (w' := (rt_bk w t (tx_L s0 ca t (rt_r s0 tp) (nI (V + 1)) (nI q) (-1) (upd k V 3) (upd b V (nI p)) (upd nx V (-1)) (upd fi V (-1)) (upd pa V 0) (upd wo V (nI L)) ke nu (jWord le L ws) (nI (L + 1 + ws.length))))) (by rw [cl_putN hV (by decide)]) ?_
  refine rt_goto (tgt := 215) dX8_parseValue_145 (by decide) ?_
  refine rt_iload_n dX8_parseValue_215 rfl (j := 1) rfl ?_
  refine rt_iret dX8_parseValue_216 rfl ⟨rfl, (upd k V 3), (upd b V (nI p)), (upd nx V (-1)), (upd fi V (-1)), (upd pa V 0), (upd wo V (nI L)), ke, nu, (jWord le L ws), ?_, (fun i hi => ⟨pk_un (by omega), pk_un (by omega), pk_un (by omega), pk_un (by omega), pk_un (by omega), pk_un (by omega), rfl, rfl⟩), rfl, fun i hi => jWord_lo hi, jRep.one ⟨pk_us, pk_us, pk_us, pk_us, pk_us, (fun c => nomatch c), (fun _ => by show jIsW (jWord le L ws) (L + jLw [(3, p, 0, ws, none, 0, 1, false)]) (upd wo V (nI L) V) ws; rw [pk_us, jLw_s, ← Nat.add_assoc]; exact jWord_is (Nat.le_refl _)), (fun _ c => nomatch c)⟩⟩
  rw [jLw_s, ← Nat.add_assoc]
  rfl
set_option maxRecDepth 100000 in
theorem jv_strE {l : Launch} {s0 : State} {a0 : Array Value} {G : va_G} {ca : Nat → ClassId} (Γ : rt_Γ l s0 a0 G ca) {d : Nat} {w : rt_Wd} {t : Nat} {k : Nat → Int32} {b : Nat → Int32} {nx : Nat → Int32} {fi : Nat → Int32} {pa : Nat → Int32} {wo : Nat → Int32} {ke : Nat → Int32} {nu : Nat → Int64} {le : Nat → Int32} (hd : 3 ≤ d) {tp n : Nat} {f : Nat → Int32} {u : Int32} {g : Nat → Int32} (hT : rt_C s0 ca w tp n f u) (hn : n < 2 ^ 31) (htp : tp + 1 < t ∨ t + 18 ≤ tp) (hg : ∀ p : Nat, p < 65536 → cl_peek n f u (nI p) = g p) (hok : rt_ok w) {p V L N dp : Nat} (hN : jT g N) (hp : p ≤ N) (hVp : V ≤ p) (hLp : L ≤ p) (n1 : ¬ g p = 123) (n2 : ¬ g p = 91) (h : g p = 34) {e : Nat} (hs : jStr g 4097 (p + 1) = .error e) : rt_Met l s0 G (.code yX8_parseValue cX8_parseValue 4 (Option.some FieldType.int)) yX8_parseValue d [rt_r s0 t, .int (nI dp)] (rt_bk w t (tx_L s0 ca t (rt_r s0 tp) (nI V) (nI p) (-1) k b nx fi pa wo ke nu le (nI L))) (fun r w1 => r = .inl (some (.int (nI V))) ∧ tx_B s0 ca w t tp e w1) := by
  refine rt_met Γ kk_X8_parseValue rfl (Nat.le_of_ble_eq_true rfl) rfl ?_
  have hN0 := hN.1
  have hV : V < 2073 := by omega
  have hpN : p < N := hN.lt (by rw [h]; decide)
  refine rt_aload_n dX8_parseValue_0 rfl (j := 0) rfl ?_
  refine rt_bGet Γ kf_RX8_63 dX8_parseValue_1 (L := (tx_L s0 ca t (rt_r s0 tp) (nI V) (nI p) (-1) k b nx fi pa wo ke nu le (nI L))) rfl rfl ?_
  refine rt_istore_n (lv' := [(2, .int (nI V)), (0, rt_r s0 t), (1, .int (nI dp))]) dX8_parseValue_4 rfl (by decide) rfl ?_
  refine rt_aload_n dX8_parseValue_5 rfl (j := 1) rfl ?_
  refine rt_dup dX8_parseValue_6 rfl ?_
  refine rt_bGet Γ kf_RX8_63 dX8_parseValue_7 (L := (tx_L s0 ca t (rt_r s0 tp) (nI V) (nI p) (-1) k b nx fi pa wo ke nu le (nI L))) rfl rfl ?_
  refine rt_iconst (v := 1) dX8_parseValue_10 (by decide) ?_
  refine rt_iadd dX8_parseValue_11 ?_
  refine rt_te (y := nI (V + 1)) (nI_1 V) ?_
  refine rt_bPut Γ kp_RX8_63 dX8_parseValue_12 (L := (tx_L s0 ca t (rt_r s0 tp) (nI V) (nI p) (-1) k b nx fi pa wo ke nu le (nI L))) rfl (Nat.le_of_ble_eq_true rfl) rfl rfl (L' := (tx_L s0 ca t (rt_r s0 tp) (nI (V + 1)) (nI p) (-1) k b nx fi pa wo ke nu le (nI L))) rfl ?_
  refine rt_aload_n dX8_parseValue_15 rfl (j := 1) rfl ?_
  refine rt_bGet Γ kf_RX8_20 dX8_parseValue_16 (L := (tx_L s0 ca t (rt_r s0 tp) (nI (V + 1)) (nI p) (-1) k b nx fi pa wo ke nu le (nI L))) rfl rfl ?_
  refine rt_iload_n dX8_parseValue_19 rfl (j := 0) rfl ?_
  refine rt_aload_n dX8_parseValue_20 rfl (j := 1) rfl ?_
  refine rt_bGet Γ kf_RX8_67 dX8_parseValue_21 (L := (tx_L s0 ca t (rt_r s0 tp) (nI (V + 1)) (nI p) (-1) k b nx fi pa wo ke nu le (nI L))) rfl rfl ?_
  refine rt_callV Γ kk_X0_put kc_RX8_89 (c_X0_put Γ (d := d - 1) (rt_bk_C (t := t) (L := (tx_L s0 ca t (rt_r s0 tp) (nI (V + 1)) (nI p) (-1) k b nx fi pa wo ke nu le (nI L))) 3 (Nat.le_of_ble_eq_true rfl) rfl rfl) (by decide)) (by omega) (by decide) (As := [.int (nI V), .int (nI p)]) (show (parseMethodDescriptor yX0_put.desc).map (fun q => q.parameters.length) = some 2 by decide +kernel) hok (Nat.le_of_ble_eq_true rfl) dX8_parseValue_24 (rt_bk_C (t := t) (L := (tx_L s0 ca t (rt_r s0 tp) (nI (V + 1)) (nI p) (-1) k b nx fi pa wo ke nu le (nI L))) 3 (Nat.le_of_ble_eq_true rfl) rfl rfl).1 rfl rfl rfl (rt_kr (st2 := []) rfl ?_) rt_kx
  refine rt_weq (w' := (rt_bk w t (tx_L s0 ca t (rt_r s0 tp) (nI (V + 1)) (nI p) (-1) k (cl_put 2073 b (nI V) (nI p)) nx fi pa wo ke nu le (nI L)))) (rt_bk_cs 3 (Nat.le_of_ble_eq_true rfl)) ?_
  refine rt_weq (w' := (rt_bk w t (tx_L s0 ca t (rt_r s0 tp) (nI (V + 1)) (nI p) (-1) k (upd b V (nI p)) nx fi pa wo ke nu le (nI L)))) (by rw [cl_putN hV (by decide)]) ?_
  refine rt_aload_n dX8_parseValue_27 rfl (j := 1) rfl ?_
  refine rt_bGet Γ kf_RX8_23 dX8_parseValue_28 (L := (tx_L s0 ca t (rt_r s0 tp) (nI (V + 1)) (nI p) (-1) k (upd b V (nI p)) nx fi pa wo ke nu le (nI L))) rfl rfl ?_
  refine rt_iload_n dX8_parseValue_31 rfl (j := 0) rfl ?_
  refine rt_iconst (v := (-1)) dX8_parseValue_32 (by decide) ?_
  refine rt_callV Γ kk_X0_put kc_RX8_89 (c_X0_put Γ (d := d - 1) (rt_bk_C (t := t) (L := (tx_L s0 ca t (rt_r s0 tp) (nI (V + 1)) (nI p) (-1) k (upd b V (nI p)) nx fi pa wo ke nu le (nI L))) 5 (Nat.le_of_ble_eq_true rfl) rfl rfl) (by decide)) (by omega) (by decide) (As := [.int (nI V), .int (-1)]) (show (parseMethodDescriptor yX0_put.desc).map (fun q => q.parameters.length) = some 2 by decide +kernel) hok (Nat.le_of_ble_eq_true rfl) dX8_parseValue_33 (rt_bk_C (t := t) (L := (tx_L s0 ca t (rt_r s0 tp) (nI (V + 1)) (nI p) (-1) k (upd b V (nI p)) nx fi pa wo ke nu le (nI L))) 5 (Nat.le_of_ble_eq_true rfl) rfl rfl).1 rfl rfl rfl (rt_kr (st2 := []) rfl ?_) rt_kx
  refine rt_weq (w' := (rt_bk w t (tx_L s0 ca t (rt_r s0 tp) (nI (V + 1)) (nI p) (-1) k (upd b V (nI p)) (cl_put 2073 nx (nI V) (-1)) fi pa wo ke nu le (nI L)))) (rt_bk_cs 5 (Nat.le_of_ble_eq_true rfl)) ?_
  refine rt_weq (w' := (rt_bk w t (tx_L s0 ca t (rt_r s0 tp) (nI (V + 1)) (nI p) (-1) k (upd b V (nI p)) (upd nx V (-1)) fi pa wo ke nu le (nI L)))) (by rw [cl_putN hV (by decide)]) ?_
  refine rt_aload_n dX8_parseValue_36 rfl (j := 1) rfl ?_
  refine rt_bGet Γ kf_RX8_26 dX8_parseValue_37 (L := (tx_L s0 ca t (rt_r s0 tp) (nI (V + 1)) (nI p) (-1) k (upd b V (nI p)) (upd nx V (-1)) fi pa wo ke nu le (nI L))) rfl rfl ?_
  refine rt_iload_n dX8_parseValue_40 rfl (j := 0) rfl ?_
  refine rt_iconst (v := (-1)) dX8_parseValue_41 (by decide) ?_
  refine rt_callV Γ kk_X0_put kc_RX8_89 (c_X0_put Γ (d := d - 1) (rt_bk_C (t := t) (L := (tx_L s0 ca t (rt_r s0 tp) (nI (V + 1)) (nI p) (-1) k (upd b V (nI p)) (upd nx V (-1)) fi pa wo ke nu le (nI L))) 7 (Nat.le_of_ble_eq_true rfl) rfl rfl) (by decide)) (by omega) (by decide) (As := [.int (nI V), .int (-1)]) (show (parseMethodDescriptor yX0_put.desc).map (fun q => q.parameters.length) = some 2 by decide +kernel) hok (Nat.le_of_ble_eq_true rfl) dX8_parseValue_42 (rt_bk_C (t := t) (L := (tx_L s0 ca t (rt_r s0 tp) (nI (V + 1)) (nI p) (-1) k (upd b V (nI p)) (upd nx V (-1)) fi pa wo ke nu le (nI L))) 7 (Nat.le_of_ble_eq_true rfl) rfl rfl).1 rfl rfl rfl (rt_kr (st2 := []) rfl ?_) rt_kx
  refine rt_weq (w' := (rt_bk w t (tx_L s0 ca t (rt_r s0 tp) (nI (V + 1)) (nI p) (-1) k (upd b V (nI p)) (upd nx V (-1)) (cl_put 2073 fi (nI V) (-1)) pa wo ke nu le (nI L)))) (rt_bk_cs 7 (Nat.le_of_ble_eq_true rfl)) ?_
  refine rt_weq (w' := (rt_bk w t (tx_L s0 ca t (rt_r s0 tp) (nI (V + 1)) (nI p) (-1) k (upd b V (nI p)) (upd nx V (-1)) (upd fi V (-1)) pa wo ke nu le (nI L)))) (by rw [cl_putN hV (by decide)]) ?_
  refine rt_aload_n dX8_parseValue_45 rfl (j := 1) rfl ?_
  refine rt_bGet Γ kf_RX8_29 dX8_parseValue_46 (L := (tx_L s0 ca t (rt_r s0 tp) (nI (V + 1)) (nI p) (-1) k (upd b V (nI p)) (upd nx V (-1)) (upd fi V (-1)) pa wo ke nu le (nI L))) rfl rfl ?_
  refine rt_iload_n dX8_parseValue_49 rfl (j := 0) rfl ?_
  refine rt_iconst (v := 0) dX8_parseValue_50 (by decide) ?_
  refine rt_callV Γ kk_X0_put kc_RX8_89 (c_X0_put Γ (d := d - 1) (rt_bk_C (t := t) (L := (tx_L s0 ca t (rt_r s0 tp) (nI (V + 1)) (nI p) (-1) k (upd b V (nI p)) (upd nx V (-1)) (upd fi V (-1)) pa wo ke nu le (nI L))) 9 (Nat.le_of_ble_eq_true rfl) rfl rfl) (by decide)) (by omega) (by decide) (As := [.int (nI V), .int 0]) (show (parseMethodDescriptor yX0_put.desc).map (fun q => q.parameters.length) = some 2 by decide +kernel) hok (Nat.le_of_ble_eq_true rfl) dX8_parseValue_51 (rt_bk_C (t := t) (L := (tx_L s0 ca t (rt_r s0 tp) (nI (V + 1)) (nI p) (-1) k (upd b V (nI p)) (upd nx V (-1)) (upd fi V (-1)) pa wo ke nu le (nI L))) 9 (Nat.le_of_ble_eq_true rfl) rfl rfl).1 rfl rfl rfl (rt_kr (st2 := []) rfl ?_) rt_kx
  refine rt_weq (w' := (rt_bk w t (tx_L s0 ca t (rt_r s0 tp) (nI (V + 1)) (nI p) (-1) k (upd b V (nI p)) (upd nx V (-1)) (upd fi V (-1)) (cl_put 2073 pa (nI V) 0) wo ke nu le (nI L)))) (rt_bk_cs 9 (Nat.le_of_ble_eq_true rfl)) ?_
  refine rt_weq (w' := (rt_bk w t (tx_L s0 ca t (rt_r s0 tp) (nI (V + 1)) (nI p) (-1) k (upd b V (nI p)) (upd nx V (-1)) (upd fi V (-1)) (upd pa V 0) wo ke nu le (nI L)))) (by rw [cl_putN hV (by decide)]) ?_
  refine rt_aload_n dX8_parseValue_54 rfl (j := 1) rfl ?_
  refine rt_bGet Γ kf_RX8_57 dX8_parseValue_55 (L := (tx_L s0 ca t (rt_r s0 tp) (nI (V + 1)) (nI p) (-1) k (upd b V (nI p)) (upd nx V (-1)) (upd fi V (-1)) (upd pa V 0) wo ke nu le (nI L))) rfl rfl ?_
  refine rt_aload_n dX8_parseValue_58 rfl (j := 1) rfl ?_
  refine rt_bGet Γ kf_RX8_67 dX8_parseValue_59 (L := (tx_L s0 ca t (rt_r s0 tp) (nI (V + 1)) (nI p) (-1) k (upd b V (nI p)) (upd nx V (-1)) (upd fi V (-1)) (upd pa V 0) wo ke nu le (nI L))) rfl rfl ?_
  refine rt_callV Γ kk_X0_peek kc_RX8_86 (c_X0_peek Γ (d := d - 1) (x := (nI p)) (hT.bk htp) hn) (by omega) (by decide) (As := [.int (nI p)]) (show (parseMethodDescriptor yX0_peek.desc).map (fun q => q.parameters.length) = some 1 by decide +kernel) hok (Nat.le_of_ble_eq_true rfl) dX8_parseValue_62 (hT.bk htp).1 rfl rfl rfl (rt_kr (st2 := [.int (cl_peek n f u (nI p))]) rfl ?_) rt_kx
  refine rt_te (y := g p) (hg p (by omega)) ?_
  refine rt_istore_n (lv' := [(3, .int (g p)), (2, .int (nI V)), (0, rt_r s0 t), (1, .int (nI dp))]) dX8_parseValue_65 rfl (by decide) rfl ?_
  refine rt_iload_n dX8_parseValue_66 rfl (j := 0) rfl ?_
  refine rt_bipush (v := 123) dX8_parseValue_67 (by decide) ?_
  refine rt_icmp_ne (tgt := 92) dX8_parseValue_69 (by decide) (fun _ => ?_) (fun c69 => absurd c69 n1)
  refine rt_iload_n dX8_parseValue_92 rfl (j := 0) rfl ?_
  refine rt_bipush (v := 91) dX8_parseValue_93 (by decide) ?_
  refine rt_icmp_ne (tgt := 118) dX8_parseValue_95 (by decide) (fun _ => ?_) (fun c95 => absurd c95 n2)
  refine rt_iload_n dX8_parseValue_118 rfl (j := 0) rfl ?_
  refine rt_bipush (v := 34) dX8_parseValue_119 (by decide) ?_
  refine rt_icmp_ne (tgt := 148) dX8_parseValue_121 (by decide) (fun c121 => absurd c121 (fun c => c h)) (fun _ => ?_)
  refine rt_aload_n dX8_parseValue_124 rfl (j := 2) rfl ?_
  refine rt_bGet Γ kf_RX8_16 dX8_parseValue_125 (L := (tx_L s0 ca t (rt_r s0 tp) (nI (V + 1)) (nI p) (-1) k (upd b V (nI p)) (upd nx V (-1)) (upd fi V (-1)) (upd pa V 0) wo ke nu le (nI L))) rfl rfl ?_
  refine rt_iload_n dX8_parseValue_128 rfl (j := 1) rfl ?_
  refine rt_iconst (v := 3) dX8_parseValue_129 (by decide) ?_
  refine rt_callV Γ kk_X0_put kc_RX8_89 (c_X0_put Γ (d := d - 1) (rt_bk_C (t := t) (L := (tx_L s0 ca t (rt_r s0 tp) (nI (V + 1)) (nI p) (-1) k (upd b V (nI p)) (upd nx V (-1)) (upd fi V (-1)) (upd pa V 0) wo ke nu le (nI L))) 1 (Nat.le_of_ble_eq_true rfl) rfl rfl) (by decide)) (by omega) (by decide) (As := [.int (nI V), .int 3]) (show (parseMethodDescriptor yX0_put.desc).map (fun q => q.parameters.length) = some 2 by decide +kernel) hok (Nat.le_of_ble_eq_true rfl) dX8_parseValue_130 (rt_bk_C (t := t) (L := (tx_L s0 ca t (rt_r s0 tp) (nI (V + 1)) (nI p) (-1) k (upd b V (nI p)) (upd nx V (-1)) (upd fi V (-1)) (upd pa V 0) wo ke nu le (nI L))) 1 (Nat.le_of_ble_eq_true rfl) rfl rfl).1 rfl rfl rfl (rt_kr (st2 := []) rfl ?_) rt_kx
  refine rt_weq (w' := (rt_bk w t (tx_L s0 ca t (rt_r s0 tp) (nI (V + 1)) (nI p) (-1) (cl_put 2073 k (nI V) 3) (upd b V (nI p)) (upd nx V (-1)) (upd fi V (-1)) (upd pa V 0) wo ke nu le (nI L)))) (rt_bk_cs 1 (Nat.le_of_ble_eq_true rfl)) ?_
  refine rt_weq (w' := (rt_bk w t (tx_L s0 ca t (rt_r s0 tp) (nI (V + 1)) (nI p) (-1) (upd k V 3) (upd b V (nI p)) (upd nx V (-1)) (upd fi V (-1)) (upd pa V 0) wo ke nu le (nI L)))) (by rw [cl_putN hV (by decide)]) ?_
  refine rt_aload_n dX8_parseValue_133 rfl (j := 2) rfl ?_
  refine rt_bGet Γ kf_RX8_32 dX8_parseValue_134 (L := (tx_L s0 ca t (rt_r s0 tp) (nI (V + 1)) (nI p) (-1) (upd k V 3) (upd b V (nI p)) (upd nx V (-1)) (upd fi V (-1)) (upd pa V 0) wo ke nu le (nI L))) rfl rfl ?_
  refine rt_iload_n dX8_parseValue_137 rfl (j := 1) rfl ?_
  refine rt_aload_n dX8_parseValue_138 rfl (j := 2) rfl ?_
  refine rt_callV Γ kk_X8_parseString kc_RX8_97 (j_strE Γ (d := d - 1) (by omega) hT hn htp hg hok hN hpN (by omega) hs) (by omega) (by decide) (As := []) (show (parseMethodDescriptor yX8_parseString.desc).map (fun q => q.parameters.length) = some 0 by decide +kernel) hok (Nat.le_of_ble_eq_true rfl) dX8_parseValue_139 ((rt_bk_0 w t (tx_L s0 ca t (rt_r s0 tp) (nI (V + 1)) (nI p) (-1) (upd k V 3) (upd b V (nI p)) (upd nx V (-1)) (upd fi V (-1)) (upd pa V 0) wo ke nu le (nI L)) (Nat.le_of_ble_eq_true rfl)).trans rfl) rfl rfl rfl (fun v9 w9 hq => ?_) (fun X w9 hq => nomatch hq.1)
  obtain ⟨e9, vals8, pos8, k8, b8, nx8, fi8, pa8, wo8, ke8, nu8, le8, lu8, rfl⟩ := hq
  cases e9
  show rt_Go l s0 G RX8 "parseValue" cX8_parseValue 4 (Option.some FieldType.int) [] d _ _ (139 + 3) [(3, .int (g p)), (2, .int (nI V)), (0, rt_r s0 t), (1, .int (nI dp))] [.int (nI L), .int (nI V), rt_r s0 (t + 11)] (rt_bk w t (tx_L s0 ca t (rt_r s0 tp) vals8 pos8 (nI e) k8 b8 nx8 fi8 pa8 wo8 ke8 nu8 le8 lu8))
  refine rt_callV Γ kk_X0_put kc_RX8_89 (c_X0_put Γ (d := d - 1) (rt_bk_C (t := t) (L := (tx_L s0 ca t (rt_r s0 tp) vals8 pos8 (nI e) k8 b8 nx8 fi8 pa8 wo8 ke8 nu8 le8 lu8)) 11 (Nat.le_of_ble_eq_true rfl) rfl rfl) (by decide)) (by omega) (by decide) (As := [.int (nI V), .int (nI L)]) (show (parseMethodDescriptor yX0_put.desc).map (fun q => q.parameters.length) = some 2 by decide +kernel) hok (Nat.le_of_ble_eq_true rfl) dX8_parseValue_142 (rt_bk_C (t := t) (L := (tx_L s0 ca t (rt_r s0 tp) vals8 pos8 (nI e) k8 b8 nx8 fi8 pa8 wo8 ke8 nu8 le8 lu8)) 11 (Nat.le_of_ble_eq_true rfl) rfl rfl).1 rfl rfl rfl (rt_kr (st2 := []) rfl ?_) rt_kx
  refine rt_weq (w' := (rt_bk w t (tx_L s0 ca t (rt_r s0 tp) vals8 pos8 (nI e) k8 b8 nx8 fi8 pa8 (cl_put 2073 wo8 (nI V) (nI L)) ke8 nu8 le8 lu8))) (rt_bk_cs 11 (Nat.le_of_ble_eq_true rfl)) ?_
  refine rt_goto (tgt := 215) dX8_parseValue_145 (by decide) ?_
  refine rt_iload_n dX8_parseValue_215 rfl (j := 1) rfl ?_
  exact rt_iret dX8_parseValue_216 rfl (⟨rfl, _, _, _, _, _, _, _, _, _, _, _, _, rfl⟩)
set_option maxRecDepth 100000 in
theorem jv_w5 {l : Launch} {s0 : State} {a0 : Array Value} {G : va_G} {ca : Nat → ClassId} (Γ : rt_Γ l s0 a0 G ca) {d : Nat} {w : rt_Wd} {t : Nat} {k : Nat → Int32} {b : Nat → Int32} {nx : Nat → Int32} {fi : Nat → Int32} {pa : Nat → Int32} {wo : Nat → Int32} {ke : Nat → Int32} {nu : Nat → Int64} {le : Nat → Int32} (hd : 6 ≤ d) {tp n : Nat} {f : Nat → Int32} {u : Int32} {g : Nat → Int32} (hT : rt_C s0 ca w tp n f u) (hn : n < 2 ^ 31) (htp : tp + 1 < t ∨ t + 18 ≤ tp) (hg : ∀ p : Nat, p < 65536 → cl_peek n f u (nI p) = g p) (hok : rt_ok w) {p V L N dp : Nat} (hN : jT g N) (hp : p ≤ N) (hVp : V ≤ p) (hLp : L ≤ p) (n1 : ¬ g p = 123) (n2 : ¬ g p = 91) (n3 : ¬ g p = 34) (h : g p = 116) {q : Nat} (hs1 : jLit g [116, 114, 117, 101] 4 0 p = .ok q) : rt_Met l s0 G (.code yX8_parseValue cX8_parseValue 4 (Option.some FieldType.int)) yX8_parseValue d [rt_r s0 t, .int (nI dp)] (rt_bk w t (tx_L s0 ca t (rt_r s0 tp) (nI V) (nI p) (-1) k b nx fi pa wo ke nu le (nI L))) (jVO s0 ca w t tp V L q k b nx fi pa wo ke nu le [(5, p, 0, [], none, 0, 1, false)]) := by
  refine rt_met Γ kk_X8_parseValue rfl (Nat.le_of_ble_eq_true rfl) rfl ?_
  have hN0 := hN.1
  have hV : V < 2073 := by omega
  obtain ⟨a, hk, hs⟩ := ks_RX8_100 Γ
  refine rt_aload_n dX8_parseValue_0 rfl (j := 0) rfl ?_
  refine rt_bGet Γ kf_RX8_63 dX8_parseValue_1 (L := (tx_L s0 ca t (rt_r s0 tp) (nI V) (nI p) (-1) k b nx fi pa wo ke nu le (nI L))) rfl rfl ?_
  refine rt_istore_n (lv' := [(2, .int (nI V)), (0, rt_r s0 t), (1, .int (nI dp))]) dX8_parseValue_4 rfl (by decide) rfl ?_
  refine rt_aload_n dX8_parseValue_5 rfl (j := 1) rfl ?_
  refine rt_dup dX8_parseValue_6 rfl ?_
  refine rt_bGet Γ kf_RX8_63 dX8_parseValue_7 (L := (tx_L s0 ca t (rt_r s0 tp) (nI V) (nI p) (-1) k b nx fi pa wo ke nu le (nI L))) rfl rfl ?_
  refine rt_iconst (v := 1) dX8_parseValue_10 (by decide) ?_
  refine rt_iadd dX8_parseValue_11 ?_
  refine rt_te (y := nI (V + 1)) (nI_1 V) ?_
  refine rt_bPut Γ kp_RX8_63 dX8_parseValue_12 (L := (tx_L s0 ca t (rt_r s0 tp) (nI V) (nI p) (-1) k b nx fi pa wo ke nu le (nI L))) rfl (Nat.le_of_ble_eq_true rfl) rfl rfl (L' := (tx_L s0 ca t (rt_r s0 tp) (nI (V + 1)) (nI p) (-1) k b nx fi pa wo ke nu le (nI L))) rfl ?_
  refine rt_aload_n dX8_parseValue_15 rfl (j := 1) rfl ?_
  refine rt_bGet Γ kf_RX8_20 dX8_parseValue_16 (L := (tx_L s0 ca t (rt_r s0 tp) (nI (V + 1)) (nI p) (-1) k b nx fi pa wo ke nu le (nI L))) rfl rfl ?_
  refine rt_iload_n dX8_parseValue_19 rfl (j := 0) rfl ?_
  refine rt_aload_n dX8_parseValue_20 rfl (j := 1) rfl ?_
  refine rt_bGet Γ kf_RX8_67 dX8_parseValue_21 (L := (tx_L s0 ca t (rt_r s0 tp) (nI (V + 1)) (nI p) (-1) k b nx fi pa wo ke nu le (nI L))) rfl rfl ?_
  refine rt_callV Γ kk_X0_put kc_RX8_89 (c_X0_put Γ (d := d - 1) (rt_bk_C (t := t) (L := (tx_L s0 ca t (rt_r s0 tp) (nI (V + 1)) (nI p) (-1) k b nx fi pa wo ke nu le (nI L))) 3 (Nat.le_of_ble_eq_true rfl) rfl rfl) (by decide)) (by omega) (by decide) (As := [.int (nI V), .int (nI p)]) (show (parseMethodDescriptor yX0_put.desc).map (fun q => q.parameters.length) = some 2 by decide +kernel) hok (Nat.le_of_ble_eq_true rfl) dX8_parseValue_24 (rt_bk_C (t := t) (L := (tx_L s0 ca t (rt_r s0 tp) (nI (V + 1)) (nI p) (-1) k b nx fi pa wo ke nu le (nI L))) 3 (Nat.le_of_ble_eq_true rfl) rfl rfl).1 rfl rfl rfl (rt_kr (st2 := []) rfl ?_) rt_kx
  refine rt_weq (w' := (rt_bk w t (tx_L s0 ca t (rt_r s0 tp) (nI (V + 1)) (nI p) (-1) k (cl_put 2073 b (nI V) (nI p)) nx fi pa wo ke nu le (nI L)))) (rt_bk_cs 3 (Nat.le_of_ble_eq_true rfl)) ?_
  refine rt_weq (w' := (rt_bk w t (tx_L s0 ca t (rt_r s0 tp) (nI (V + 1)) (nI p) (-1) k (upd b V (nI p)) nx fi pa wo ke nu le (nI L)))) (by rw [cl_putN hV (by decide)]) ?_
  refine rt_aload_n dX8_parseValue_27 rfl (j := 1) rfl ?_
  refine rt_bGet Γ kf_RX8_23 dX8_parseValue_28 (L := (tx_L s0 ca t (rt_r s0 tp) (nI (V + 1)) (nI p) (-1) k (upd b V (nI p)) nx fi pa wo ke nu le (nI L))) rfl rfl ?_
  refine rt_iload_n dX8_parseValue_31 rfl (j := 0) rfl ?_
  refine rt_iconst (v := (-1)) dX8_parseValue_32 (by decide) ?_
  refine rt_callV Γ kk_X0_put kc_RX8_89 (c_X0_put Γ (d := d - 1) (rt_bk_C (t := t) (L := (tx_L s0 ca t (rt_r s0 tp) (nI (V + 1)) (nI p) (-1) k (upd b V (nI p)) nx fi pa wo ke nu le (nI L))) 5 (Nat.le_of_ble_eq_true rfl) rfl rfl) (by decide)) (by omega) (by decide) (As := [.int (nI V), .int (-1)]) (show (parseMethodDescriptor yX0_put.desc).map (fun q => q.parameters.length) = some 2 by decide +kernel) hok (Nat.le_of_ble_eq_true rfl) dX8_parseValue_33 (rt_bk_C (t := t) (L := (tx_L s0 ca t (rt_r s0 tp) (nI (V + 1)) (nI p) (-1) k (upd b V (nI p)) nx fi pa wo ke nu le (nI L))) 5 (Nat.le_of_ble_eq_true rfl) rfl rfl).1 rfl rfl rfl (rt_kr (st2 := []) rfl ?_) rt_kx
  refine rt_weq (w' := (rt_bk w t (tx_L s0 ca t (rt_r s0 tp) (nI (V + 1)) (nI p) (-1) k (upd b V (nI p)) (cl_put 2073 nx (nI V) (-1)) fi pa wo ke nu le (nI L)))) (rt_bk_cs 5 (Nat.le_of_ble_eq_true rfl)) ?_
  refine rt_weq (w' := (rt_bk w t (tx_L s0 ca t (rt_r s0 tp) (nI (V + 1)) (nI p) (-1) k (upd b V (nI p)) (upd nx V (-1)) fi pa wo ke nu le (nI L)))) (by rw [cl_putN hV (by decide)]) ?_
  refine rt_aload_n dX8_parseValue_36 rfl (j := 1) rfl ?_
  refine rt_bGet Γ kf_RX8_26 dX8_parseValue_37 (L := (tx_L s0 ca t (rt_r s0 tp) (nI (V + 1)) (nI p) (-1) k (upd b V (nI p)) (upd nx V (-1)) fi pa wo ke nu le (nI L))) rfl rfl ?_
  refine rt_iload_n dX8_parseValue_40 rfl (j := 0) rfl ?_
  refine rt_iconst (v := (-1)) dX8_parseValue_41 (by decide) ?_
  refine rt_callV Γ kk_X0_put kc_RX8_89 (c_X0_put Γ (d := d - 1) (rt_bk_C (t := t) (L := (tx_L s0 ca t (rt_r s0 tp) (nI (V + 1)) (nI p) (-1) k (upd b V (nI p)) (upd nx V (-1)) fi pa wo ke nu le (nI L))) 7 (Nat.le_of_ble_eq_true rfl) rfl rfl) (by decide)) (by omega) (by decide) (As := [.int (nI V), .int (-1)]) (show (parseMethodDescriptor yX0_put.desc).map (fun q => q.parameters.length) = some 2 by decide +kernel) hok (Nat.le_of_ble_eq_true rfl) dX8_parseValue_42 (rt_bk_C (t := t) (L := (tx_L s0 ca t (rt_r s0 tp) (nI (V + 1)) (nI p) (-1) k (upd b V (nI p)) (upd nx V (-1)) fi pa wo ke nu le (nI L))) 7 (Nat.le_of_ble_eq_true rfl) rfl rfl).1 rfl rfl rfl (rt_kr (st2 := []) rfl ?_) rt_kx
  refine rt_weq (w' := (rt_bk w t (tx_L s0 ca t (rt_r s0 tp) (nI (V + 1)) (nI p) (-1) k (upd b V (nI p)) (upd nx V (-1)) (cl_put 2073 fi (nI V) (-1)) pa wo ke nu le (nI L)))) (rt_bk_cs 7 (Nat.le_of_ble_eq_true rfl)) ?_
  refine rt_weq (w' := (rt_bk w t (tx_L s0 ca t (rt_r s0 tp) (nI (V + 1)) (nI p) (-1) k (upd b V (nI p)) (upd nx V (-1)) (upd fi V (-1)) pa wo ke nu le (nI L)))) (by rw [cl_putN hV (by decide)]) ?_
  refine rt_aload_n dX8_parseValue_45 rfl (j := 1) rfl ?_
  refine rt_bGet Γ kf_RX8_29 dX8_parseValue_46 (L := (tx_L s0 ca t (rt_r s0 tp) (nI (V + 1)) (nI p) (-1) k (upd b V (nI p)) (upd nx V (-1)) (upd fi V (-1)) pa wo ke nu le (nI L))) rfl rfl ?_
  refine rt_iload_n dX8_parseValue_49 rfl (j := 0) rfl ?_
  refine rt_iconst (v := 0) dX8_parseValue_50 (by decide) ?_
  refine rt_callV Γ kk_X0_put kc_RX8_89 (c_X0_put Γ (d := d - 1) (rt_bk_C (t := t) (L := (tx_L s0 ca t (rt_r s0 tp) (nI (V + 1)) (nI p) (-1) k (upd b V (nI p)) (upd nx V (-1)) (upd fi V (-1)) pa wo ke nu le (nI L))) 9 (Nat.le_of_ble_eq_true rfl) rfl rfl) (by decide)) (by omega) (by decide) (As := [.int (nI V), .int 0]) (show (parseMethodDescriptor yX0_put.desc).map (fun q => q.parameters.length) = some 2 by decide +kernel) hok (Nat.le_of_ble_eq_true rfl) dX8_parseValue_51 (rt_bk_C (t := t) (L := (tx_L s0 ca t (rt_r s0 tp) (nI (V + 1)) (nI p) (-1) k (upd b V (nI p)) (upd nx V (-1)) (upd fi V (-1)) pa wo ke nu le (nI L))) 9 (Nat.le_of_ble_eq_true rfl) rfl rfl).1 rfl rfl rfl (rt_kr (st2 := []) rfl ?_) rt_kx
  refine rt_weq (w' := (rt_bk w t (tx_L s0 ca t (rt_r s0 tp) (nI (V + 1)) (nI p) (-1) k (upd b V (nI p)) (upd nx V (-1)) (upd fi V (-1)) (cl_put 2073 pa (nI V) 0) wo ke nu le (nI L)))) (rt_bk_cs 9 (Nat.le_of_ble_eq_true rfl)) ?_
  refine rt_weq (w' := (rt_bk w t (tx_L s0 ca t (rt_r s0 tp) (nI (V + 1)) (nI p) (-1) k (upd b V (nI p)) (upd nx V (-1)) (upd fi V (-1)) (upd pa V 0) wo ke nu le (nI L)))) (by rw [cl_putN hV (by decide)]) ?_
  refine rt_aload_n dX8_parseValue_54 rfl (j := 1) rfl ?_
  refine rt_bGet Γ kf_RX8_57 dX8_parseValue_55 (L := (tx_L s0 ca t (rt_r s0 tp) (nI (V + 1)) (nI p) (-1) k (upd b V (nI p)) (upd nx V (-1)) (upd fi V (-1)) (upd pa V 0) wo ke nu le (nI L))) rfl rfl ?_
  refine rt_aload_n dX8_parseValue_58 rfl (j := 1) rfl ?_
  refine rt_bGet Γ kf_RX8_67 dX8_parseValue_59 (L := (tx_L s0 ca t (rt_r s0 tp) (nI (V + 1)) (nI p) (-1) k (upd b V (nI p)) (upd nx V (-1)) (upd fi V (-1)) (upd pa V 0) wo ke nu le (nI L))) rfl rfl ?_
  refine rt_callV Γ kk_X0_peek kc_RX8_86 (c_X0_peek Γ (d := d - 1) (x := (nI p)) (hT.bk htp) hn) (by omega) (by decide) (As := [.int (nI p)]) (show (parseMethodDescriptor yX0_peek.desc).map (fun q => q.parameters.length) = some 1 by decide +kernel) hok (Nat.le_of_ble_eq_true rfl) dX8_parseValue_62 (hT.bk htp).1 rfl rfl rfl (rt_kr (st2 := [.int (cl_peek n f u (nI p))]) rfl ?_) rt_kx
  refine rt_te (y := g p) (hg p (by omega)) ?_
  refine rt_istore_n (lv' := [(3, .int (g p)), (2, .int (nI V)), (0, rt_r s0 t), (1, .int (nI dp))]) dX8_parseValue_65 rfl (by decide) rfl ?_
  refine rt_iload_n dX8_parseValue_66 rfl (j := 0) rfl ?_
  refine rt_bipush (v := 123) dX8_parseValue_67 (by decide) ?_
  refine rt_icmp_ne (tgt := 92) dX8_parseValue_69 (by decide) (fun _ => ?_) (fun c69 => absurd c69 n1)
  refine rt_iload_n dX8_parseValue_92 rfl (j := 0) rfl ?_
  refine rt_bipush (v := 91) dX8_parseValue_93 (by decide) ?_
  refine rt_icmp_ne (tgt := 118) dX8_parseValue_95 (by decide) (fun _ => ?_) (fun c95 => absurd c95 n2)
  refine rt_iload_n dX8_parseValue_118 rfl (j := 0) rfl ?_
  refine rt_bipush (v := 34) dX8_parseValue_119 (by decide) ?_
  refine rt_icmp_ne (tgt := 148) dX8_parseValue_121 (by decide) (fun _ => ?_) (fun c121 => absurd c121 n3)
  refine rt_iload_n dX8_parseValue_148 rfl (j := 0) rfl ?_
  refine rt_bipush (v := 116) dX8_parseValue_149 (by decide) ?_
  refine rt_icmp_ne (tgt := 165) dX8_parseValue_151 (by decide) (fun c151 => absurd c151 (fun c => c h)) (fun _ => ?_)
  refine rt_aload_n dX8_parseValue_154 rfl (j := 2) rfl ?_
  refine rt_iload_n dX8_parseValue_155 rfl (j := 1) rfl ?_
  refine rt_iconst (v := 5) dX8_parseValue_156 (by decide) ?_
  refine rt_ldcS Γ hk dX8_parseValue_157 ?_
  refine rt_callV Γ kk_X8_parseWord kc_RX8_102 (j_wordT Γ (d := d - 1) (bs := [116, 114, 117, 101]) (by omega) hT hn htp hg hok hs (by decide) (by omega) hs1) (by omega) (by decide) (As := [.int (nI V), .int 5, .ref a]) (show (parseMethodDescriptor yX8_parseWord.desc).map (fun q => q.parameters.length) = some 3 by decide +kernel) hok (Nat.le_of_ble_eq_true rfl) dX8_parseValue_159 ((rt_bk_0 w t (tx_L s0 ca t (rt_r s0 tp) (nI (V + 1)) (nI p) (-1) k (upd b V (nI p)) (upd nx V (-1)) (upd fi V (-1)) (upd pa V 0) wo ke nu le (nI L)) (Nat.le_of_ble_eq_true rfl)).trans rfl) rfl rfl rfl (rt_kr (st2 := []) rfl ?_) rt_kx
  refine rt_weq (w' := (rt_bk w t (tx_L s0 ca t (rt_r s0 tp) (nI (V + 1)) (nI q) (-1) (upd k V 5) (upd b V (nI p)) (upd nx V (-1)) (upd fi V (-1)) (upd pa V 0) wo ke nu le (nI L)))) (by rw [cl_putN hV (by decide)]) ?_
  refine rt_goto (tgt := 215) dX8_parseValue_162 (by decide) ?_
  refine rt_iload_n dX8_parseValue_215 rfl (j := 1) rfl ?_
  refine rt_iret dX8_parseValue_216 rfl ⟨rfl, (upd k V 5), (upd b V (nI p)), (upd nx V (-1)), (upd fi V (-1)), (upd pa V 0), wo, ke, nu, le, ?_, (fun i hi => ⟨pk_un (by omega), pk_un (by omega), pk_un (by omega), pk_un (by omega), pk_un (by omega), rfl, rfl, rfl⟩), rfl, fun _ _ => rfl, jRep.one ⟨pk_us, pk_us, pk_us, pk_us, pk_us, (fun c => absurd (show (5 : Nat) = 4 from c) (by decide)), (fun c => absurd (show (5 : Nat) = 3 from c) (by decide)), (fun _ c => nomatch c)⟩⟩
  rw [jLw_l _ _ _ (by decide)]
  rfl
set_option maxRecDepth 100000 in
theorem jv_w5E {l : Launch} {s0 : State} {a0 : Array Value} {G : va_G} {ca : Nat → ClassId} (Γ : rt_Γ l s0 a0 G ca) {d : Nat} {w : rt_Wd} {t : Nat} {k : Nat → Int32} {b : Nat → Int32} {nx : Nat → Int32} {fi : Nat → Int32} {pa : Nat → Int32} {wo : Nat → Int32} {ke : Nat → Int32} {nu : Nat → Int64} {le : Nat → Int32} (hd : 6 ≤ d) {tp n : Nat} {f : Nat → Int32} {u : Int32} {g : Nat → Int32} (hT : rt_C s0 ca w tp n f u) (hn : n < 2 ^ 31) (htp : tp + 1 < t ∨ t + 18 ≤ tp) (hg : ∀ p : Nat, p < 65536 → cl_peek n f u (nI p) = g p) (hok : rt_ok w) {p V L N dp : Nat} (hN : jT g N) (hp : p ≤ N) (hVp : V ≤ p) (hLp : L ≤ p) (n1 : ¬ g p = 123) (n2 : ¬ g p = 91) (n3 : ¬ g p = 34) (h : g p = 116) {e : Nat} (hs1 : jLit g [116, 114, 117, 101] 4 0 p = .error e) : rt_Met l s0 G (.code yX8_parseValue cX8_parseValue 4 (Option.some FieldType.int)) yX8_parseValue d [rt_r s0 t, .int (nI dp)] (rt_bk w t (tx_L s0 ca t (rt_r s0 tp) (nI V) (nI p) (-1) k b nx fi pa wo ke nu le (nI L))) (fun r w1 => r = .inl (some (.int (nI V))) ∧ tx_B s0 ca w t tp e w1) := by
  refine rt_met Γ kk_X8_parseValue rfl (Nat.le_of_ble_eq_true rfl) rfl ?_
  have hN0 := hN.1
  have hV : V < 2073 := by omega
  obtain ⟨a, hk, hs⟩ := ks_RX8_100 Γ
  refine rt_aload_n dX8_parseValue_0 rfl (j := 0) rfl ?_
  refine rt_bGet Γ kf_RX8_63 dX8_parseValue_1 (L := (tx_L s0 ca t (rt_r s0 tp) (nI V) (nI p) (-1) k b nx fi pa wo ke nu le (nI L))) rfl rfl ?_
  refine rt_istore_n (lv' := [(2, .int (nI V)), (0, rt_r s0 t), (1, .int (nI dp))]) dX8_parseValue_4 rfl (by decide) rfl ?_
  refine rt_aload_n dX8_parseValue_5 rfl (j := 1) rfl ?_
  refine rt_dup dX8_parseValue_6 rfl ?_
  refine rt_bGet Γ kf_RX8_63 dX8_parseValue_7 (L := (tx_L s0 ca t (rt_r s0 tp) (nI V) (nI p) (-1) k b nx fi pa wo ke nu le (nI L))) rfl rfl ?_
  refine rt_iconst (v := 1) dX8_parseValue_10 (by decide) ?_
  refine rt_iadd dX8_parseValue_11 ?_
  refine rt_te (y := nI (V + 1)) (nI_1 V) ?_
  refine rt_bPut Γ kp_RX8_63 dX8_parseValue_12 (L := (tx_L s0 ca t (rt_r s0 tp) (nI V) (nI p) (-1) k b nx fi pa wo ke nu le (nI L))) rfl (Nat.le_of_ble_eq_true rfl) rfl rfl (L' := (tx_L s0 ca t (rt_r s0 tp) (nI (V + 1)) (nI p) (-1) k b nx fi pa wo ke nu le (nI L))) rfl ?_
  refine rt_aload_n dX8_parseValue_15 rfl (j := 1) rfl ?_
  refine rt_bGet Γ kf_RX8_20 dX8_parseValue_16 (L := (tx_L s0 ca t (rt_r s0 tp) (nI (V + 1)) (nI p) (-1) k b nx fi pa wo ke nu le (nI L))) rfl rfl ?_
  refine rt_iload_n dX8_parseValue_19 rfl (j := 0) rfl ?_
  refine rt_aload_n dX8_parseValue_20 rfl (j := 1) rfl ?_
  refine rt_bGet Γ kf_RX8_67 dX8_parseValue_21 (L := (tx_L s0 ca t (rt_r s0 tp) (nI (V + 1)) (nI p) (-1) k b nx fi pa wo ke nu le (nI L))) rfl rfl ?_
  refine rt_callV Γ kk_X0_put kc_RX8_89 (c_X0_put Γ (d := d - 1) (rt_bk_C (t := t) (L := (tx_L s0 ca t (rt_r s0 tp) (nI (V + 1)) (nI p) (-1) k b nx fi pa wo ke nu le (nI L))) 3 (Nat.le_of_ble_eq_true rfl) rfl rfl) (by decide)) (by omega) (by decide) (As := [.int (nI V), .int (nI p)]) (show (parseMethodDescriptor yX0_put.desc).map (fun q => q.parameters.length) = some 2 by decide +kernel) hok (Nat.le_of_ble_eq_true rfl) dX8_parseValue_24 (rt_bk_C (t := t) (L := (tx_L s0 ca t (rt_r s0 tp) (nI (V + 1)) (nI p) (-1) k b nx fi pa wo ke nu le (nI L))) 3 (Nat.le_of_ble_eq_true rfl) rfl rfl).1 rfl rfl rfl (rt_kr (st2 := []) rfl ?_) rt_kx
  refine rt_weq (w' := (rt_bk w t (tx_L s0 ca t (rt_r s0 tp) (nI (V + 1)) (nI p) (-1) k (cl_put 2073 b (nI V) (nI p)) nx fi pa wo ke nu le (nI L)))) (rt_bk_cs 3 (Nat.le_of_ble_eq_true rfl)) ?_
  refine rt_weq (w' := (rt_bk w t (tx_L s0 ca t (rt_r s0 tp) (nI (V + 1)) (nI p) (-1) k (upd b V (nI p)) nx fi pa wo ke nu le (nI L)))) (by rw [cl_putN hV (by decide)]) ?_
  refine rt_aload_n dX8_parseValue_27 rfl (j := 1) rfl ?_
  refine rt_bGet Γ kf_RX8_23 dX8_parseValue_28 (L := (tx_L s0 ca t (rt_r s0 tp) (nI (V + 1)) (nI p) (-1) k (upd b V (nI p)) nx fi pa wo ke nu le (nI L))) rfl rfl ?_
  refine rt_iload_n dX8_parseValue_31 rfl (j := 0) rfl ?_
  refine rt_iconst (v := (-1)) dX8_parseValue_32 (by decide) ?_
  refine rt_callV Γ kk_X0_put kc_RX8_89 (c_X0_put Γ (d := d - 1) (rt_bk_C (t := t) (L := (tx_L s0 ca t (rt_r s0 tp) (nI (V + 1)) (nI p) (-1) k (upd b V (nI p)) nx fi pa wo ke nu le (nI L))) 5 (Nat.le_of_ble_eq_true rfl) rfl rfl) (by decide)) (by omega) (by decide) (As := [.int (nI V), .int (-1)]) (show (parseMethodDescriptor yX0_put.desc).map (fun q => q.parameters.length) = some 2 by decide +kernel) hok (Nat.le_of_ble_eq_true rfl) dX8_parseValue_33 (rt_bk_C (t := t) (L := (tx_L s0 ca t (rt_r s0 tp) (nI (V + 1)) (nI p) (-1) k (upd b V (nI p)) nx fi pa wo ke nu le (nI L))) 5 (Nat.le_of_ble_eq_true rfl) rfl rfl).1 rfl rfl rfl (rt_kr (st2 := []) rfl ?_) rt_kx
  refine rt_weq (w' := (rt_bk w t (tx_L s0 ca t (rt_r s0 tp) (nI (V + 1)) (nI p) (-1) k (upd b V (nI p)) (cl_put 2073 nx (nI V) (-1)) fi pa wo ke nu le (nI L)))) (rt_bk_cs 5 (Nat.le_of_ble_eq_true rfl)) ?_
  refine rt_weq (w' := (rt_bk w t (tx_L s0 ca t (rt_r s0 tp) (nI (V + 1)) (nI p) (-1) k (upd b V (nI p)) (upd nx V (-1)) fi pa wo ke nu le (nI L)))) (by rw [cl_putN hV (by decide)]) ?_
  refine rt_aload_n dX8_parseValue_36 rfl (j := 1) rfl ?_
  refine rt_bGet Γ kf_RX8_26 dX8_parseValue_37 (L := (tx_L s0 ca t (rt_r s0 tp) (nI (V + 1)) (nI p) (-1) k (upd b V (nI p)) (upd nx V (-1)) fi pa wo ke nu le (nI L))) rfl rfl ?_
  refine rt_iload_n dX8_parseValue_40 rfl (j := 0) rfl ?_
  refine rt_iconst (v := (-1)) dX8_parseValue_41 (by decide) ?_
  refine rt_callV Γ kk_X0_put kc_RX8_89 (c_X0_put Γ (d := d - 1) (rt_bk_C (t := t) (L := (tx_L s0 ca t (rt_r s0 tp) (nI (V + 1)) (nI p) (-1) k (upd b V (nI p)) (upd nx V (-1)) fi pa wo ke nu le (nI L))) 7 (Nat.le_of_ble_eq_true rfl) rfl rfl) (by decide)) (by omega) (by decide) (As := [.int (nI V), .int (-1)]) (show (parseMethodDescriptor yX0_put.desc).map (fun q => q.parameters.length) = some 2 by decide +kernel) hok (Nat.le_of_ble_eq_true rfl) dX8_parseValue_42 (rt_bk_C (t := t) (L := (tx_L s0 ca t (rt_r s0 tp) (nI (V + 1)) (nI p) (-1) k (upd b V (nI p)) (upd nx V (-1)) fi pa wo ke nu le (nI L))) 7 (Nat.le_of_ble_eq_true rfl) rfl rfl).1 rfl rfl rfl (rt_kr (st2 := []) rfl ?_) rt_kx
  refine rt_weq (w' := (rt_bk w t (tx_L s0 ca t (rt_r s0 tp) (nI (V + 1)) (nI p) (-1) k (upd b V (nI p)) (upd nx V (-1)) (cl_put 2073 fi (nI V) (-1)) pa wo ke nu le (nI L)))) (rt_bk_cs 7 (Nat.le_of_ble_eq_true rfl)) ?_
  refine rt_weq (w' := (rt_bk w t (tx_L s0 ca t (rt_r s0 tp) (nI (V + 1)) (nI p) (-1) k (upd b V (nI p)) (upd nx V (-1)) (upd fi V (-1)) pa wo ke nu le (nI L)))) (by rw [cl_putN hV (by decide)]) ?_
  refine rt_aload_n dX8_parseValue_45 rfl (j := 1) rfl ?_
  refine rt_bGet Γ kf_RX8_29 dX8_parseValue_46 (L := (tx_L s0 ca t (rt_r s0 tp) (nI (V + 1)) (nI p) (-1) k (upd b V (nI p)) (upd nx V (-1)) (upd fi V (-1)) pa wo ke nu le (nI L))) rfl rfl ?_
  refine rt_iload_n dX8_parseValue_49 rfl (j := 0) rfl ?_
  refine rt_iconst (v := 0) dX8_parseValue_50 (by decide) ?_
  refine rt_callV Γ kk_X0_put kc_RX8_89 (c_X0_put Γ (d := d - 1) (rt_bk_C (t := t) (L := (tx_L s0 ca t (rt_r s0 tp) (nI (V + 1)) (nI p) (-1) k (upd b V (nI p)) (upd nx V (-1)) (upd fi V (-1)) pa wo ke nu le (nI L))) 9 (Nat.le_of_ble_eq_true rfl) rfl rfl) (by decide)) (by omega) (by decide) (As := [.int (nI V), .int 0]) (show (parseMethodDescriptor yX0_put.desc).map (fun q => q.parameters.length) = some 2 by decide +kernel) hok (Nat.le_of_ble_eq_true rfl) dX8_parseValue_51 (rt_bk_C (t := t) (L := (tx_L s0 ca t (rt_r s0 tp) (nI (V + 1)) (nI p) (-1) k (upd b V (nI p)) (upd nx V (-1)) (upd fi V (-1)) pa wo ke nu le (nI L))) 9 (Nat.le_of_ble_eq_true rfl) rfl rfl).1 rfl rfl rfl (rt_kr (st2 := []) rfl ?_) rt_kx
  refine rt_weq (w' := (rt_bk w t (tx_L s0 ca t (rt_r s0 tp) (nI (V + 1)) (nI p) (-1) k (upd b V (nI p)) (upd nx V (-1)) (upd fi V (-1)) (cl_put 2073 pa (nI V) 0) wo ke nu le (nI L)))) (rt_bk_cs 9 (Nat.le_of_ble_eq_true rfl)) ?_
  refine rt_weq (w' := (rt_bk w t (tx_L s0 ca t (rt_r s0 tp) (nI (V + 1)) (nI p) (-1) k (upd b V (nI p)) (upd nx V (-1)) (upd fi V (-1)) (upd pa V 0) wo ke nu le (nI L)))) (by rw [cl_putN hV (by decide)]) ?_
  refine rt_aload_n dX8_parseValue_54 rfl (j := 1) rfl ?_
  refine rt_bGet Γ kf_RX8_57 dX8_parseValue_55 (L := (tx_L s0 ca t (rt_r s0 tp) (nI (V + 1)) (nI p) (-1) k (upd b V (nI p)) (upd nx V (-1)) (upd fi V (-1)) (upd pa V 0) wo ke nu le (nI L))) rfl rfl ?_
  refine rt_aload_n dX8_parseValue_58 rfl (j := 1) rfl ?_
  refine rt_bGet Γ kf_RX8_67 dX8_parseValue_59 (L := (tx_L s0 ca t (rt_r s0 tp) (nI (V + 1)) (nI p) (-1) k (upd b V (nI p)) (upd nx V (-1)) (upd fi V (-1)) (upd pa V 0) wo ke nu le (nI L))) rfl rfl ?_
  refine rt_callV Γ kk_X0_peek kc_RX8_86 (c_X0_peek Γ (d := d - 1) (x := (nI p)) (hT.bk htp) hn) (by omega) (by decide) (As := [.int (nI p)]) (show (parseMethodDescriptor yX0_peek.desc).map (fun q => q.parameters.length) = some 1 by decide +kernel) hok (Nat.le_of_ble_eq_true rfl) dX8_parseValue_62 (hT.bk htp).1 rfl rfl rfl (rt_kr (st2 := [.int (cl_peek n f u (nI p))]) rfl ?_) rt_kx
  refine rt_te (y := g p) (hg p (by omega)) ?_
  refine rt_istore_n (lv' := [(3, .int (g p)), (2, .int (nI V)), (0, rt_r s0 t), (1, .int (nI dp))]) dX8_parseValue_65 rfl (by decide) rfl ?_
  refine rt_iload_n dX8_parseValue_66 rfl (j := 0) rfl ?_
  refine rt_bipush (v := 123) dX8_parseValue_67 (by decide) ?_
  refine rt_icmp_ne (tgt := 92) dX8_parseValue_69 (by decide) (fun _ => ?_) (fun c69 => absurd c69 n1)
  refine rt_iload_n dX8_parseValue_92 rfl (j := 0) rfl ?_
  refine rt_bipush (v := 91) dX8_parseValue_93 (by decide) ?_
  refine rt_icmp_ne (tgt := 118) dX8_parseValue_95 (by decide) (fun _ => ?_) (fun c95 => absurd c95 n2)
  refine rt_iload_n dX8_parseValue_118 rfl (j := 0) rfl ?_
  refine rt_bipush (v := 34) dX8_parseValue_119 (by decide) ?_
  refine rt_icmp_ne (tgt := 148) dX8_parseValue_121 (by decide) (fun _ => ?_) (fun c121 => absurd c121 n3)
  refine rt_iload_n dX8_parseValue_148 rfl (j := 0) rfl ?_
  refine rt_bipush (v := 116) dX8_parseValue_149 (by decide) ?_
  refine rt_icmp_ne (tgt := 165) dX8_parseValue_151 (by decide) (fun c151 => absurd c151 (fun c => c h)) (fun _ => ?_)
  refine rt_aload_n dX8_parseValue_154 rfl (j := 2) rfl ?_
  refine rt_iload_n dX8_parseValue_155 rfl (j := 1) rfl ?_
  refine rt_iconst (v := 5) dX8_parseValue_156 (by decide) ?_
  refine rt_ldcS Γ hk dX8_parseValue_157 ?_
  refine rt_callV Γ kk_X8_parseWord kc_RX8_102 (j_wordF Γ (d := d - 1) (bs := [116, 114, 117, 101]) (by omega) hT hn htp hg hok hs (by decide) (by omega) hs1) (by omega) (by decide) (As := [.int (nI V), .int 5, .ref a]) (show (parseMethodDescriptor yX8_parseWord.desc).map (fun q => q.parameters.length) = some 3 by decide +kernel) hok (Nat.le_of_ble_eq_true rfl) dX8_parseValue_159 ((rt_bk_0 w t (tx_L s0 ca t (rt_r s0 tp) (nI (V + 1)) (nI p) (-1) k (upd b V (nI p)) (upd nx V (-1)) (upd fi V (-1)) (upd pa V 0) wo ke nu le (nI L)) (Nat.le_of_ble_eq_true rfl)).trans rfl) rfl rfl rfl (rt_kr (st2 := []) rfl ?_) rt_kx
  refine rt_goto (tgt := 215) dX8_parseValue_162 (by decide) ?_
  refine rt_iload_n dX8_parseValue_215 rfl (j := 1) rfl ?_
  exact rt_iret dX8_parseValue_216 rfl (⟨rfl, _, _, _, _, _, _, _, _, _, _, _, _, rfl⟩)
set_option maxRecDepth 100000 in
theorem jv_w6 {l : Launch} {s0 : State} {a0 : Array Value} {G : va_G} {ca : Nat → ClassId} (Γ : rt_Γ l s0 a0 G ca) {d : Nat} {w : rt_Wd} {t : Nat} {k : Nat → Int32} {b : Nat → Int32} {nx : Nat → Int32} {fi : Nat → Int32} {pa : Nat → Int32} {wo : Nat → Int32} {ke : Nat → Int32} {nu : Nat → Int64} {le : Nat → Int32} (hd : 6 ≤ d) {tp n : Nat} {f : Nat → Int32} {u : Int32} {g : Nat → Int32} (hT : rt_C s0 ca w tp n f u) (hn : n < 2 ^ 31) (htp : tp + 1 < t ∨ t + 18 ≤ tp) (hg : ∀ p : Nat, p < 65536 → cl_peek n f u (nI p) = g p) (hok : rt_ok w) {p V L N dp : Nat} (hN : jT g N) (hp : p ≤ N) (hVp : V ≤ p) (hLp : L ≤ p) (n1 : ¬ g p = 123) (n2 : ¬ g p = 91) (n3 : ¬ g p = 34) (n4 : ¬ g p = 116) (h : g p = 102) {q : Nat} (hs1 : jLit g [102, 97, 108, 115, 101] 5 0 p = .ok q) : rt_Met l s0 G (.code yX8_parseValue cX8_parseValue 4 (Option.some FieldType.int)) yX8_parseValue d [rt_r s0 t, .int (nI dp)] (rt_bk w t (tx_L s0 ca t (rt_r s0 tp) (nI V) (nI p) (-1) k b nx fi pa wo ke nu le (nI L))) (jVO s0 ca w t tp V L q k b nx fi pa wo ke nu le [(6, p, 0, [], none, 0, 1, false)]) := by
  refine rt_met Γ kk_X8_parseValue rfl (Nat.le_of_ble_eq_true rfl) rfl ?_
  have hN0 := hN.1
  have hV : V < 2073 := by omega
  obtain ⟨a, hk, hs⟩ := ks_RX8_106 Γ
  refine rt_aload_n dX8_parseValue_0 rfl (j := 0) rfl ?_
  refine rt_bGet Γ kf_RX8_63 dX8_parseValue_1 (L := (tx_L s0 ca t (rt_r s0 tp) (nI V) (nI p) (-1) k b nx fi pa wo ke nu le (nI L))) rfl rfl ?_
  refine rt_istore_n (lv' := [(2, .int (nI V)), (0, rt_r s0 t), (1, .int (nI dp))]) dX8_parseValue_4 rfl (by decide) rfl ?_
  refine rt_aload_n dX8_parseValue_5 rfl (j := 1) rfl ?_
  refine rt_dup dX8_parseValue_6 rfl ?_
  refine rt_bGet Γ kf_RX8_63 dX8_parseValue_7 (L := (tx_L s0 ca t (rt_r s0 tp) (nI V) (nI p) (-1) k b nx fi pa wo ke nu le (nI L))) rfl rfl ?_
  refine rt_iconst (v := 1) dX8_parseValue_10 (by decide) ?_
  refine rt_iadd dX8_parseValue_11 ?_
  refine rt_te (y := nI (V + 1)) (nI_1 V) ?_
  refine rt_bPut Γ kp_RX8_63 dX8_parseValue_12 (L := (tx_L s0 ca t (rt_r s0 tp) (nI V) (nI p) (-1) k b nx fi pa wo ke nu le (nI L))) rfl (Nat.le_of_ble_eq_true rfl) rfl rfl (L' := (tx_L s0 ca t (rt_r s0 tp) (nI (V + 1)) (nI p) (-1) k b nx fi pa wo ke nu le (nI L))) rfl ?_
  refine rt_aload_n dX8_parseValue_15 rfl (j := 1) rfl ?_
  refine rt_bGet Γ kf_RX8_20 dX8_parseValue_16 (L := (tx_L s0 ca t (rt_r s0 tp) (nI (V + 1)) (nI p) (-1) k b nx fi pa wo ke nu le (nI L))) rfl rfl ?_
  refine rt_iload_n dX8_parseValue_19 rfl (j := 0) rfl ?_
  refine rt_aload_n dX8_parseValue_20 rfl (j := 1) rfl ?_
  refine rt_bGet Γ kf_RX8_67 dX8_parseValue_21 (L := (tx_L s0 ca t (rt_r s0 tp) (nI (V + 1)) (nI p) (-1) k b nx fi pa wo ke nu le (nI L))) rfl rfl ?_
  refine rt_callV Γ kk_X0_put kc_RX8_89 (c_X0_put Γ (d := d - 1) (rt_bk_C (t := t) (L := (tx_L s0 ca t (rt_r s0 tp) (nI (V + 1)) (nI p) (-1) k b nx fi pa wo ke nu le (nI L))) 3 (Nat.le_of_ble_eq_true rfl) rfl rfl) (by decide)) (by omega) (by decide) (As := [.int (nI V), .int (nI p)]) (show (parseMethodDescriptor yX0_put.desc).map (fun q => q.parameters.length) = some 2 by decide +kernel) hok (Nat.le_of_ble_eq_true rfl) dX8_parseValue_24 (rt_bk_C (t := t) (L := (tx_L s0 ca t (rt_r s0 tp) (nI (V + 1)) (nI p) (-1) k b nx fi pa wo ke nu le (nI L))) 3 (Nat.le_of_ble_eq_true rfl) rfl rfl).1 rfl rfl rfl (rt_kr (st2 := []) rfl ?_) rt_kx
  refine rt_weq (w' := (rt_bk w t (tx_L s0 ca t (rt_r s0 tp) (nI (V + 1)) (nI p) (-1) k (cl_put 2073 b (nI V) (nI p)) nx fi pa wo ke nu le (nI L)))) (rt_bk_cs 3 (Nat.le_of_ble_eq_true rfl)) ?_
  refine rt_weq (w' := (rt_bk w t (tx_L s0 ca t (rt_r s0 tp) (nI (V + 1)) (nI p) (-1) k (upd b V (nI p)) nx fi pa wo ke nu le (nI L)))) (by rw [cl_putN hV (by decide)]) ?_
  refine rt_aload_n dX8_parseValue_27 rfl (j := 1) rfl ?_
  refine rt_bGet Γ kf_RX8_23 dX8_parseValue_28 (L := (tx_L s0 ca t (rt_r s0 tp) (nI (V + 1)) (nI p) (-1) k (upd b V (nI p)) nx fi pa wo ke nu le (nI L))) rfl rfl ?_
  refine rt_iload_n dX8_parseValue_31 rfl (j := 0) rfl ?_
  refine rt_iconst (v := (-1)) dX8_parseValue_32 (by decide) ?_
  refine rt_callV Γ kk_X0_put kc_RX8_89 (c_X0_put Γ (d := d - 1) (rt_bk_C (t := t) (L := (tx_L s0 ca t (rt_r s0 tp) (nI (V + 1)) (nI p) (-1) k (upd b V (nI p)) nx fi pa wo ke nu le (nI L))) 5 (Nat.le_of_ble_eq_true rfl) rfl rfl) (by decide)) (by omega) (by decide) (As := [.int (nI V), .int (-1)]) (show (parseMethodDescriptor yX0_put.desc).map (fun q => q.parameters.length) = some 2 by decide +kernel) hok (Nat.le_of_ble_eq_true rfl) dX8_parseValue_33 (rt_bk_C (t := t) (L := (tx_L s0 ca t (rt_r s0 tp) (nI (V + 1)) (nI p) (-1) k (upd b V (nI p)) nx fi pa wo ke nu le (nI L))) 5 (Nat.le_of_ble_eq_true rfl) rfl rfl).1 rfl rfl rfl (rt_kr (st2 := []) rfl ?_) rt_kx
  refine rt_weq (w' := (rt_bk w t (tx_L s0 ca t (rt_r s0 tp) (nI (V + 1)) (nI p) (-1) k (upd b V (nI p)) (cl_put 2073 nx (nI V) (-1)) fi pa wo ke nu le (nI L)))) (rt_bk_cs 5 (Nat.le_of_ble_eq_true rfl)) ?_
  refine rt_weq (w' := (rt_bk w t (tx_L s0 ca t (rt_r s0 tp) (nI (V + 1)) (nI p) (-1) k (upd b V (nI p)) (upd nx V (-1)) fi pa wo ke nu le (nI L)))) (by rw [cl_putN hV (by decide)]) ?_
  refine rt_aload_n dX8_parseValue_36 rfl (j := 1) rfl ?_
  refine rt_bGet Γ kf_RX8_26 dX8_parseValue_37 (L := (tx_L s0 ca t (rt_r s0 tp) (nI (V + 1)) (nI p) (-1) k (upd b V (nI p)) (upd nx V (-1)) fi pa wo ke nu le (nI L))) rfl rfl ?_
  refine rt_iload_n dX8_parseValue_40 rfl (j := 0) rfl ?_
  refine rt_iconst (v := (-1)) dX8_parseValue_41 (by decide) ?_
  refine rt_callV Γ kk_X0_put kc_RX8_89 (c_X0_put Γ (d := d - 1) (rt_bk_C (t := t) (L := (tx_L s0 ca t (rt_r s0 tp) (nI (V + 1)) (nI p) (-1) k (upd b V (nI p)) (upd nx V (-1)) fi pa wo ke nu le (nI L))) 7 (Nat.le_of_ble_eq_true rfl) rfl rfl) (by decide)) (by omega) (by decide) (As := [.int (nI V), .int (-1)]) (show (parseMethodDescriptor yX0_put.desc).map (fun q => q.parameters.length) = some 2 by decide +kernel) hok (Nat.le_of_ble_eq_true rfl) dX8_parseValue_42 (rt_bk_C (t := t) (L := (tx_L s0 ca t (rt_r s0 tp) (nI (V + 1)) (nI p) (-1) k (upd b V (nI p)) (upd nx V (-1)) fi pa wo ke nu le (nI L))) 7 (Nat.le_of_ble_eq_true rfl) rfl rfl).1 rfl rfl rfl (rt_kr (st2 := []) rfl ?_) rt_kx
  refine rt_weq (w' := (rt_bk w t (tx_L s0 ca t (rt_r s0 tp) (nI (V + 1)) (nI p) (-1) k (upd b V (nI p)) (upd nx V (-1)) (cl_put 2073 fi (nI V) (-1)) pa wo ke nu le (nI L)))) (rt_bk_cs 7 (Nat.le_of_ble_eq_true rfl)) ?_
  refine rt_weq (w' := (rt_bk w t (tx_L s0 ca t (rt_r s0 tp) (nI (V + 1)) (nI p) (-1) k (upd b V (nI p)) (upd nx V (-1)) (upd fi V (-1)) pa wo ke nu le (nI L)))) (by rw [cl_putN hV (by decide)]) ?_
  refine rt_aload_n dX8_parseValue_45 rfl (j := 1) rfl ?_
  refine rt_bGet Γ kf_RX8_29 dX8_parseValue_46 (L := (tx_L s0 ca t (rt_r s0 tp) (nI (V + 1)) (nI p) (-1) k (upd b V (nI p)) (upd nx V (-1)) (upd fi V (-1)) pa wo ke nu le (nI L))) rfl rfl ?_
  refine rt_iload_n dX8_parseValue_49 rfl (j := 0) rfl ?_
  refine rt_iconst (v := 0) dX8_parseValue_50 (by decide) ?_
  refine rt_callV Γ kk_X0_put kc_RX8_89 (c_X0_put Γ (d := d - 1) (rt_bk_C (t := t) (L := (tx_L s0 ca t (rt_r s0 tp) (nI (V + 1)) (nI p) (-1) k (upd b V (nI p)) (upd nx V (-1)) (upd fi V (-1)) pa wo ke nu le (nI L))) 9 (Nat.le_of_ble_eq_true rfl) rfl rfl) (by decide)) (by omega) (by decide) (As := [.int (nI V), .int 0]) (show (parseMethodDescriptor yX0_put.desc).map (fun q => q.parameters.length) = some 2 by decide +kernel) hok (Nat.le_of_ble_eq_true rfl) dX8_parseValue_51 (rt_bk_C (t := t) (L := (tx_L s0 ca t (rt_r s0 tp) (nI (V + 1)) (nI p) (-1) k (upd b V (nI p)) (upd nx V (-1)) (upd fi V (-1)) pa wo ke nu le (nI L))) 9 (Nat.le_of_ble_eq_true rfl) rfl rfl).1 rfl rfl rfl (rt_kr (st2 := []) rfl ?_) rt_kx
  refine rt_weq (w' := (rt_bk w t (tx_L s0 ca t (rt_r s0 tp) (nI (V + 1)) (nI p) (-1) k (upd b V (nI p)) (upd nx V (-1)) (upd fi V (-1)) (cl_put 2073 pa (nI V) 0) wo ke nu le (nI L)))) (rt_bk_cs 9 (Nat.le_of_ble_eq_true rfl)) ?_
  refine rt_weq (w' := (rt_bk w t (tx_L s0 ca t (rt_r s0 tp) (nI (V + 1)) (nI p) (-1) k (upd b V (nI p)) (upd nx V (-1)) (upd fi V (-1)) (upd pa V 0) wo ke nu le (nI L)))) (by rw [cl_putN hV (by decide)]) ?_
  refine rt_aload_n dX8_parseValue_54 rfl (j := 1) rfl ?_
  refine rt_bGet Γ kf_RX8_57 dX8_parseValue_55 (L := (tx_L s0 ca t (rt_r s0 tp) (nI (V + 1)) (nI p) (-1) k (upd b V (nI p)) (upd nx V (-1)) (upd fi V (-1)) (upd pa V 0) wo ke nu le (nI L))) rfl rfl ?_
  refine rt_aload_n dX8_parseValue_58 rfl (j := 1) rfl ?_
  refine rt_bGet Γ kf_RX8_67 dX8_parseValue_59 (L := (tx_L s0 ca t (rt_r s0 tp) (nI (V + 1)) (nI p) (-1) k (upd b V (nI p)) (upd nx V (-1)) (upd fi V (-1)) (upd pa V 0) wo ke nu le (nI L))) rfl rfl ?_
  refine rt_callV Γ kk_X0_peek kc_RX8_86 (c_X0_peek Γ (d := d - 1) (x := (nI p)) (hT.bk htp) hn) (by omega) (by decide) (As := [.int (nI p)]) (show (parseMethodDescriptor yX0_peek.desc).map (fun q => q.parameters.length) = some 1 by decide +kernel) hok (Nat.le_of_ble_eq_true rfl) dX8_parseValue_62 (hT.bk htp).1 rfl rfl rfl (rt_kr (st2 := [.int (cl_peek n f u (nI p))]) rfl ?_) rt_kx
  refine rt_te (y := g p) (hg p (by omega)) ?_
  refine rt_istore_n (lv' := [(3, .int (g p)), (2, .int (nI V)), (0, rt_r s0 t), (1, .int (nI dp))]) dX8_parseValue_65 rfl (by decide) rfl ?_
  refine rt_iload_n dX8_parseValue_66 rfl (j := 0) rfl ?_
  refine rt_bipush (v := 123) dX8_parseValue_67 (by decide) ?_
  refine rt_icmp_ne (tgt := 92) dX8_parseValue_69 (by decide) (fun _ => ?_) (fun c69 => absurd c69 n1)
  refine rt_iload_n dX8_parseValue_92 rfl (j := 0) rfl ?_
  refine rt_bipush (v := 91) dX8_parseValue_93 (by decide) ?_
  refine rt_icmp_ne (tgt := 118) dX8_parseValue_95 (by decide) (fun _ => ?_) (fun c95 => absurd c95 n2)
  refine rt_iload_n dX8_parseValue_118 rfl (j := 0) rfl ?_
  refine rt_bipush (v := 34) dX8_parseValue_119 (by decide) ?_
  refine rt_icmp_ne (tgt := 148) dX8_parseValue_121 (by decide) (fun _ => ?_) (fun c121 => absurd c121 n3)
  refine rt_iload_n dX8_parseValue_148 rfl (j := 0) rfl ?_
  refine rt_bipush (v := 116) dX8_parseValue_149 (by decide) ?_
  refine rt_icmp_ne (tgt := 165) dX8_parseValue_151 (by decide) (fun _ => ?_) (fun c151 => absurd c151 n4)
  refine rt_iload_n dX8_parseValue_165 rfl (j := 0) rfl ?_
  refine rt_bipush (v := 102) dX8_parseValue_166 (by decide) ?_
  refine rt_icmp_ne (tgt := 183) dX8_parseValue_168 (by decide) (fun c168 => absurd c168 (fun c => c h)) (fun _ => ?_)
  refine rt_aload_n dX8_parseValue_171 rfl (j := 2) rfl ?_
  refine rt_iload_n dX8_parseValue_172 rfl (j := 1) rfl ?_
  refine rt_bipush (v := 6) dX8_parseValue_173 (by decide) ?_
  refine rt_ldcS Γ hk dX8_parseValue_175 ?_
  refine rt_callV Γ kk_X8_parseWord kc_RX8_102 (j_wordT Γ (d := d - 1) (bs := [102, 97, 108, 115, 101]) (by omega) hT hn htp hg hok hs (by decide) (by omega) hs1) (by omega) (by decide) (As := [.int (nI V), .int 6, .ref a]) (show (parseMethodDescriptor yX8_parseWord.desc).map (fun q => q.parameters.length) = some 3 by decide +kernel) hok (Nat.le_of_ble_eq_true rfl) dX8_parseValue_177 ((rt_bk_0 w t (tx_L s0 ca t (rt_r s0 tp) (nI (V + 1)) (nI p) (-1) k (upd b V (nI p)) (upd nx V (-1)) (upd fi V (-1)) (upd pa V 0) wo ke nu le (nI L)) (Nat.le_of_ble_eq_true rfl)).trans rfl) rfl rfl rfl (rt_kr (st2 := []) rfl ?_) rt_kx
  refine rt_weq (w' := (rt_bk w t (tx_L s0 ca t (rt_r s0 tp) (nI (V + 1)) (nI q) (-1) (upd k V 6) (upd b V (nI p)) (upd nx V (-1)) (upd fi V (-1)) (upd pa V 0) wo ke nu le (nI L)))) (by rw [cl_putN hV (by decide)]) ?_
  refine rt_goto (tgt := 215) dX8_parseValue_180 (by decide) ?_
  refine rt_iload_n dX8_parseValue_215 rfl (j := 1) rfl ?_
  refine rt_iret dX8_parseValue_216 rfl ⟨rfl, (upd k V 6), (upd b V (nI p)), (upd nx V (-1)), (upd fi V (-1)), (upd pa V 0), wo, ke, nu, le, ?_, (fun i hi => ⟨pk_un (by omega), pk_un (by omega), pk_un (by omega), pk_un (by omega), pk_un (by omega), rfl, rfl, rfl⟩), rfl, fun _ _ => rfl, jRep.one ⟨pk_us, pk_us, pk_us, pk_us, pk_us, (fun c => absurd (show (6 : Nat) = 4 from c) (by decide)), (fun c => absurd (show (6 : Nat) = 3 from c) (by decide)), (fun _ c => nomatch c)⟩⟩
  rw [jLw_l _ _ _ (by decide)]
  rfl
set_option maxRecDepth 100000 in
theorem jv_w6E {l : Launch} {s0 : State} {a0 : Array Value} {G : va_G} {ca : Nat → ClassId} (Γ : rt_Γ l s0 a0 G ca) {d : Nat} {w : rt_Wd} {t : Nat} {k : Nat → Int32} {b : Nat → Int32} {nx : Nat → Int32} {fi : Nat → Int32} {pa : Nat → Int32} {wo : Nat → Int32} {ke : Nat → Int32} {nu : Nat → Int64} {le : Nat → Int32} (hd : 6 ≤ d) {tp n : Nat} {f : Nat → Int32} {u : Int32} {g : Nat → Int32} (hT : rt_C s0 ca w tp n f u) (hn : n < 2 ^ 31) (htp : tp + 1 < t ∨ t + 18 ≤ tp) (hg : ∀ p : Nat, p < 65536 → cl_peek n f u (nI p) = g p) (hok : rt_ok w) {p V L N dp : Nat} (hN : jT g N) (hp : p ≤ N) (hVp : V ≤ p) (hLp : L ≤ p) (n1 : ¬ g p = 123) (n2 : ¬ g p = 91) (n3 : ¬ g p = 34) (n4 : ¬ g p = 116) (h : g p = 102) {e : Nat} (hs1 : jLit g [102, 97, 108, 115, 101] 5 0 p = .error e) : rt_Met l s0 G (.code yX8_parseValue cX8_parseValue 4 (Option.some FieldType.int)) yX8_parseValue d [rt_r s0 t, .int (nI dp)] (rt_bk w t (tx_L s0 ca t (rt_r s0 tp) (nI V) (nI p) (-1) k b nx fi pa wo ke nu le (nI L))) (fun r w1 => r = .inl (some (.int (nI V))) ∧ tx_B s0 ca w t tp e w1) := by
  refine rt_met Γ kk_X8_parseValue rfl (Nat.le_of_ble_eq_true rfl) rfl ?_
  have hN0 := hN.1
  have hV : V < 2073 := by omega
  obtain ⟨a, hk, hs⟩ := ks_RX8_106 Γ
  refine rt_aload_n dX8_parseValue_0 rfl (j := 0) rfl ?_
  refine rt_bGet Γ kf_RX8_63 dX8_parseValue_1 (L := (tx_L s0 ca t (rt_r s0 tp) (nI V) (nI p) (-1) k b nx fi pa wo ke nu le (nI L))) rfl rfl ?_
  refine rt_istore_n (lv' := [(2, .int (nI V)), (0, rt_r s0 t), (1, .int (nI dp))]) dX8_parseValue_4 rfl (by decide) rfl ?_
  refine rt_aload_n dX8_parseValue_5 rfl (j := 1) rfl ?_
  refine rt_dup dX8_parseValue_6 rfl ?_
  refine rt_bGet Γ kf_RX8_63 dX8_parseValue_7 (L := (tx_L s0 ca t (rt_r s0 tp) (nI V) (nI p) (-1) k b nx fi pa wo ke nu le (nI L))) rfl rfl ?_
  refine rt_iconst (v := 1) dX8_parseValue_10 (by decide) ?_
  refine rt_iadd dX8_parseValue_11 ?_
  refine rt_te (y := nI (V + 1)) (nI_1 V) ?_
  refine rt_bPut Γ kp_RX8_63 dX8_parseValue_12 (L := (tx_L s0 ca t (rt_r s0 tp) (nI V) (nI p) (-1) k b nx fi pa wo ke nu le (nI L))) rfl (Nat.le_of_ble_eq_true rfl) rfl rfl (L' := (tx_L s0 ca t (rt_r s0 tp) (nI (V + 1)) (nI p) (-1) k b nx fi pa wo ke nu le (nI L))) rfl ?_
  refine rt_aload_n dX8_parseValue_15 rfl (j := 1) rfl ?_
  refine rt_bGet Γ kf_RX8_20 dX8_parseValue_16 (L := (tx_L s0 ca t (rt_r s0 tp) (nI (V + 1)) (nI p) (-1) k b nx fi pa wo ke nu le (nI L))) rfl rfl ?_
  refine rt_iload_n dX8_parseValue_19 rfl (j := 0) rfl ?_
  refine rt_aload_n dX8_parseValue_20 rfl (j := 1) rfl ?_
  refine rt_bGet Γ kf_RX8_67 dX8_parseValue_21 (L := (tx_L s0 ca t (rt_r s0 tp) (nI (V + 1)) (nI p) (-1) k b nx fi pa wo ke nu le (nI L))) rfl rfl ?_
  refine rt_callV Γ kk_X0_put kc_RX8_89 (c_X0_put Γ (d := d - 1) (rt_bk_C (t := t) (L := (tx_L s0 ca t (rt_r s0 tp) (nI (V + 1)) (nI p) (-1) k b nx fi pa wo ke nu le (nI L))) 3 (Nat.le_of_ble_eq_true rfl) rfl rfl) (by decide)) (by omega) (by decide) (As := [.int (nI V), .int (nI p)]) (show (parseMethodDescriptor yX0_put.desc).map (fun q => q.parameters.length) = some 2 by decide +kernel) hok (Nat.le_of_ble_eq_true rfl) dX8_parseValue_24 (rt_bk_C (t := t) (L := (tx_L s0 ca t (rt_r s0 tp) (nI (V + 1)) (nI p) (-1) k b nx fi pa wo ke nu le (nI L))) 3 (Nat.le_of_ble_eq_true rfl) rfl rfl).1 rfl rfl rfl (rt_kr (st2 := []) rfl ?_) rt_kx
  refine rt_weq (w' := (rt_bk w t (tx_L s0 ca t (rt_r s0 tp) (nI (V + 1)) (nI p) (-1) k (cl_put 2073 b (nI V) (nI p)) nx fi pa wo ke nu le (nI L)))) (rt_bk_cs 3 (Nat.le_of_ble_eq_true rfl)) ?_
  refine rt_weq (w' := (rt_bk w t (tx_L s0 ca t (rt_r s0 tp) (nI (V + 1)) (nI p) (-1) k (upd b V (nI p)) nx fi pa wo ke nu le (nI L)))) (by rw [cl_putN hV (by decide)]) ?_
  refine rt_aload_n dX8_parseValue_27 rfl (j := 1) rfl ?_
  refine rt_bGet Γ kf_RX8_23 dX8_parseValue_28 (L := (tx_L s0 ca t (rt_r s0 tp) (nI (V + 1)) (nI p) (-1) k (upd b V (nI p)) nx fi pa wo ke nu le (nI L))) rfl rfl ?_
  refine rt_iload_n dX8_parseValue_31 rfl (j := 0) rfl ?_
  refine rt_iconst (v := (-1)) dX8_parseValue_32 (by decide) ?_
  refine rt_callV Γ kk_X0_put kc_RX8_89 (c_X0_put Γ (d := d - 1) (rt_bk_C (t := t) (L := (tx_L s0 ca t (rt_r s0 tp) (nI (V + 1)) (nI p) (-1) k (upd b V (nI p)) nx fi pa wo ke nu le (nI L))) 5 (Nat.le_of_ble_eq_true rfl) rfl rfl) (by decide)) (by omega) (by decide) (As := [.int (nI V), .int (-1)]) (show (parseMethodDescriptor yX0_put.desc).map (fun q => q.parameters.length) = some 2 by decide +kernel) hok (Nat.le_of_ble_eq_true rfl) dX8_parseValue_33 (rt_bk_C (t := t) (L := (tx_L s0 ca t (rt_r s0 tp) (nI (V + 1)) (nI p) (-1) k (upd b V (nI p)) nx fi pa wo ke nu le (nI L))) 5 (Nat.le_of_ble_eq_true rfl) rfl rfl).1 rfl rfl rfl (rt_kr (st2 := []) rfl ?_) rt_kx
  refine rt_weq (w' := (rt_bk w t (tx_L s0 ca t (rt_r s0 tp) (nI (V + 1)) (nI p) (-1) k (upd b V (nI p)) (cl_put 2073 nx (nI V) (-1)) fi pa wo ke nu le (nI L)))) (rt_bk_cs 5 (Nat.le_of_ble_eq_true rfl)) ?_
  refine rt_weq (w' := (rt_bk w t (tx_L s0 ca t (rt_r s0 tp) (nI (V + 1)) (nI p) (-1) k (upd b V (nI p)) (upd nx V (-1)) fi pa wo ke nu le (nI L)))) (by rw [cl_putN hV (by decide)]) ?_
  refine rt_aload_n dX8_parseValue_36 rfl (j := 1) rfl ?_
  refine rt_bGet Γ kf_RX8_26 dX8_parseValue_37 (L := (tx_L s0 ca t (rt_r s0 tp) (nI (V + 1)) (nI p) (-1) k (upd b V (nI p)) (upd nx V (-1)) fi pa wo ke nu le (nI L))) rfl rfl ?_
  refine rt_iload_n dX8_parseValue_40 rfl (j := 0) rfl ?_
  refine rt_iconst (v := (-1)) dX8_parseValue_41 (by decide) ?_
  refine rt_callV Γ kk_X0_put kc_RX8_89 (c_X0_put Γ (d := d - 1) (rt_bk_C (t := t) (L := (tx_L s0 ca t (rt_r s0 tp) (nI (V + 1)) (nI p) (-1) k (upd b V (nI p)) (upd nx V (-1)) fi pa wo ke nu le (nI L))) 7 (Nat.le_of_ble_eq_true rfl) rfl rfl) (by decide)) (by omega) (by decide) (As := [.int (nI V), .int (-1)]) (show (parseMethodDescriptor yX0_put.desc).map (fun q => q.parameters.length) = some 2 by decide +kernel) hok (Nat.le_of_ble_eq_true rfl) dX8_parseValue_42 (rt_bk_C (t := t) (L := (tx_L s0 ca t (rt_r s0 tp) (nI (V + 1)) (nI p) (-1) k (upd b V (nI p)) (upd nx V (-1)) fi pa wo ke nu le (nI L))) 7 (Nat.le_of_ble_eq_true rfl) rfl rfl).1 rfl rfl rfl (rt_kr (st2 := []) rfl ?_) rt_kx
  refine rt_weq (w' := (rt_bk w t (tx_L s0 ca t (rt_r s0 tp) (nI (V + 1)) (nI p) (-1) k (upd b V (nI p)) (upd nx V (-1)) (cl_put 2073 fi (nI V) (-1)) pa wo ke nu le (nI L)))) (rt_bk_cs 7 (Nat.le_of_ble_eq_true rfl)) ?_
  refine rt_weq (w' := (rt_bk w t (tx_L s0 ca t (rt_r s0 tp) (nI (V + 1)) (nI p) (-1) k (upd b V (nI p)) (upd nx V (-1)) (upd fi V (-1)) pa wo ke nu le (nI L)))) (by rw [cl_putN hV (by decide)]) ?_
  refine rt_aload_n dX8_parseValue_45 rfl (j := 1) rfl ?_
  refine rt_bGet Γ kf_RX8_29 dX8_parseValue_46 (L := (tx_L s0 ca t (rt_r s0 tp) (nI (V + 1)) (nI p) (-1) k (upd b V (nI p)) (upd nx V (-1)) (upd fi V (-1)) pa wo ke nu le (nI L))) rfl rfl ?_
  refine rt_iload_n dX8_parseValue_49 rfl (j := 0) rfl ?_
  refine rt_iconst (v := 0) dX8_parseValue_50 (by decide) ?_
  refine rt_callV Γ kk_X0_put kc_RX8_89 (c_X0_put Γ (d := d - 1) (rt_bk_C (t := t) (L := (tx_L s0 ca t (rt_r s0 tp) (nI (V + 1)) (nI p) (-1) k (upd b V (nI p)) (upd nx V (-1)) (upd fi V (-1)) pa wo ke nu le (nI L))) 9 (Nat.le_of_ble_eq_true rfl) rfl rfl) (by decide)) (by omega) (by decide) (As := [.int (nI V), .int 0]) (show (parseMethodDescriptor yX0_put.desc).map (fun q => q.parameters.length) = some 2 by decide +kernel) hok (Nat.le_of_ble_eq_true rfl) dX8_parseValue_51 (rt_bk_C (t := t) (L := (tx_L s0 ca t (rt_r s0 tp) (nI (V + 1)) (nI p) (-1) k (upd b V (nI p)) (upd nx V (-1)) (upd fi V (-1)) pa wo ke nu le (nI L))) 9 (Nat.le_of_ble_eq_true rfl) rfl rfl).1 rfl rfl rfl (rt_kr (st2 := []) rfl ?_) rt_kx
  refine rt_weq (w' := (rt_bk w t (tx_L s0 ca t (rt_r s0 tp) (nI (V + 1)) (nI p) (-1) k (upd b V (nI p)) (upd nx V (-1)) (upd fi V (-1)) (cl_put 2073 pa (nI V) 0) wo ke nu le (nI L)))) (rt_bk_cs 9 (Nat.le_of_ble_eq_true rfl)) ?_
  refine rt_weq (w' := (rt_bk w t (tx_L s0 ca t (rt_r s0 tp) (nI (V + 1)) (nI p) (-1) k (upd b V (nI p)) (upd nx V (-1)) (upd fi V (-1)) (upd pa V 0) wo ke nu le (nI L)))) (by rw [cl_putN hV (by decide)]) ?_
  refine rt_aload_n dX8_parseValue_54 rfl (j := 1) rfl ?_
  refine rt_bGet Γ kf_RX8_57 dX8_parseValue_55 (L := (tx_L s0 ca t (rt_r s0 tp) (nI (V + 1)) (nI p) (-1) k (upd b V (nI p)) (upd nx V (-1)) (upd fi V (-1)) (upd pa V 0) wo ke nu le (nI L))) rfl rfl ?_
  refine rt_aload_n dX8_parseValue_58 rfl (j := 1) rfl ?_
  refine rt_bGet Γ kf_RX8_67 dX8_parseValue_59 (L := (tx_L s0 ca t (rt_r s0 tp) (nI (V + 1)) (nI p) (-1) k (upd b V (nI p)) (upd nx V (-1)) (upd fi V (-1)) (upd pa V 0) wo ke nu le (nI L))) rfl rfl ?_
  refine rt_callV Γ kk_X0_peek kc_RX8_86 (c_X0_peek Γ (d := d - 1) (x := (nI p)) (hT.bk htp) hn) (by omega) (by decide) (As := [.int (nI p)]) (show (parseMethodDescriptor yX0_peek.desc).map (fun q => q.parameters.length) = some 1 by decide +kernel) hok (Nat.le_of_ble_eq_true rfl) dX8_parseValue_62 (hT.bk htp).1 rfl rfl rfl (rt_kr (st2 := [.int (cl_peek n f u (nI p))]) rfl ?_) rt_kx
  refine rt_te (y := g p) (hg p (by omega)) ?_
  refine rt_istore_n (lv' := [(3, .int (g p)), (2, .int (nI V)), (0, rt_r s0 t), (1, .int (nI dp))]) dX8_parseValue_65 rfl (by decide) rfl ?_
  refine rt_iload_n dX8_parseValue_66 rfl (j := 0) rfl ?_
  refine rt_bipush (v := 123) dX8_parseValue_67 (by decide) ?_
  refine rt_icmp_ne (tgt := 92) dX8_parseValue_69 (by decide) (fun _ => ?_) (fun c69 => absurd c69 n1)
  refine rt_iload_n dX8_parseValue_92 rfl (j := 0) rfl ?_
  refine rt_bipush (v := 91) dX8_parseValue_93 (by decide) ?_
  refine rt_icmp_ne (tgt := 118) dX8_parseValue_95 (by decide) (fun _ => ?_) (fun c95 => absurd c95 n2)
  refine rt_iload_n dX8_parseValue_118 rfl (j := 0) rfl ?_
  refine rt_bipush (v := 34) dX8_parseValue_119 (by decide) ?_
  refine rt_icmp_ne (tgt := 148) dX8_parseValue_121 (by decide) (fun _ => ?_) (fun c121 => absurd c121 n3)
  refine rt_iload_n dX8_parseValue_148 rfl (j := 0) rfl ?_
  refine rt_bipush (v := 116) dX8_parseValue_149 (by decide) ?_
  refine rt_icmp_ne (tgt := 165) dX8_parseValue_151 (by decide) (fun _ => ?_) (fun c151 => absurd c151 n4)
  refine rt_iload_n dX8_parseValue_165 rfl (j := 0) rfl ?_
  refine rt_bipush (v := 102) dX8_parseValue_166 (by decide) ?_
  refine rt_icmp_ne (tgt := 183) dX8_parseValue_168 (by decide) (fun c168 => absurd c168 (fun c => c h)) (fun _ => ?_)
  refine rt_aload_n dX8_parseValue_171 rfl (j := 2) rfl ?_
  refine rt_iload_n dX8_parseValue_172 rfl (j := 1) rfl ?_
  refine rt_bipush (v := 6) dX8_parseValue_173 (by decide) ?_
  refine rt_ldcS Γ hk dX8_parseValue_175 ?_
  refine rt_callV Γ kk_X8_parseWord kc_RX8_102 (j_wordF Γ (d := d - 1) (bs := [102, 97, 108, 115, 101]) (by omega) hT hn htp hg hok hs (by decide) (by omega) hs1) (by omega) (by decide) (As := [.int (nI V), .int 6, .ref a]) (show (parseMethodDescriptor yX8_parseWord.desc).map (fun q => q.parameters.length) = some 3 by decide +kernel) hok (Nat.le_of_ble_eq_true rfl) dX8_parseValue_177 ((rt_bk_0 w t (tx_L s0 ca t (rt_r s0 tp) (nI (V + 1)) (nI p) (-1) k (upd b V (nI p)) (upd nx V (-1)) (upd fi V (-1)) (upd pa V 0) wo ke nu le (nI L)) (Nat.le_of_ble_eq_true rfl)).trans rfl) rfl rfl rfl (rt_kr (st2 := []) rfl ?_) rt_kx
  refine rt_goto (tgt := 215) dX8_parseValue_180 (by decide) ?_
  refine rt_iload_n dX8_parseValue_215 rfl (j := 1) rfl ?_
  exact rt_iret dX8_parseValue_216 rfl (⟨rfl, _, _, _, _, _, _, _, _, _, _, _, _, rfl⟩)
set_option maxRecDepth 100000 in
theorem jv_w7 {l : Launch} {s0 : State} {a0 : Array Value} {G : va_G} {ca : Nat → ClassId} (Γ : rt_Γ l s0 a0 G ca) {d : Nat} {w : rt_Wd} {t : Nat} {k : Nat → Int32} {b : Nat → Int32} {nx : Nat → Int32} {fi : Nat → Int32} {pa : Nat → Int32} {wo : Nat → Int32} {ke : Nat → Int32} {nu : Nat → Int64} {le : Nat → Int32} (hd : 6 ≤ d) {tp n : Nat} {f : Nat → Int32} {u : Int32} {g : Nat → Int32} (hT : rt_C s0 ca w tp n f u) (hn : n < 2 ^ 31) (htp : tp + 1 < t ∨ t + 18 ≤ tp) (hg : ∀ p : Nat, p < 65536 → cl_peek n f u (nI p) = g p) (hok : rt_ok w) {p V L N dp : Nat} (hN : jT g N) (hp : p ≤ N) (hVp : V ≤ p) (hLp : L ≤ p) (n1 : ¬ g p = 123) (n2 : ¬ g p = 91) (n3 : ¬ g p = 34) (n4 : ¬ g p = 116) (n5 : ¬ g p = 102) (h : g p = 110) {q : Nat} (hs1 : jLit g [110, 117, 108, 108] 4 0 p = .ok q) : rt_Met l s0 G (.code yX8_parseValue cX8_parseValue 4 (Option.some FieldType.int)) yX8_parseValue d [rt_r s0 t, .int (nI dp)] (rt_bk w t (tx_L s0 ca t (rt_r s0 tp) (nI V) (nI p) (-1) k b nx fi pa wo ke nu le (nI L))) (jVO s0 ca w t tp V L q k b nx fi pa wo ke nu le [(7, p, 0, [], none, 0, 1, false)]) := by
  refine rt_met Γ kk_X8_parseValue rfl (Nat.le_of_ble_eq_true rfl) rfl ?_
  have hN0 := hN.1
  have hV : V < 2073 := by omega
  obtain ⟨a, hk, hs⟩ := ks_RX8_108 Γ
  refine rt_aload_n dX8_parseValue_0 rfl (j := 0) rfl ?_
  refine rt_bGet Γ kf_RX8_63 dX8_parseValue_1 (L := (tx_L s0 ca t (rt_r s0 tp) (nI V) (nI p) (-1) k b nx fi pa wo ke nu le (nI L))) rfl rfl ?_
  refine rt_istore_n (lv' := [(2, .int (nI V)), (0, rt_r s0 t), (1, .int (nI dp))]) dX8_parseValue_4 rfl (by decide) rfl ?_
  refine rt_aload_n dX8_parseValue_5 rfl (j := 1) rfl ?_
  refine rt_dup dX8_parseValue_6 rfl ?_
  refine rt_bGet Γ kf_RX8_63 dX8_parseValue_7 (L := (tx_L s0 ca t (rt_r s0 tp) (nI V) (nI p) (-1) k b nx fi pa wo ke nu le (nI L))) rfl rfl ?_
  refine rt_iconst (v := 1) dX8_parseValue_10 (by decide) ?_
  refine rt_iadd dX8_parseValue_11 ?_
  refine rt_te (y := nI (V + 1)) (nI_1 V) ?_
  refine rt_bPut Γ kp_RX8_63 dX8_parseValue_12 (L := (tx_L s0 ca t (rt_r s0 tp) (nI V) (nI p) (-1) k b nx fi pa wo ke nu le (nI L))) rfl (Nat.le_of_ble_eq_true rfl) rfl rfl (L' := (tx_L s0 ca t (rt_r s0 tp) (nI (V + 1)) (nI p) (-1) k b nx fi pa wo ke nu le (nI L))) rfl ?_
  refine rt_aload_n dX8_parseValue_15 rfl (j := 1) rfl ?_
  refine rt_bGet Γ kf_RX8_20 dX8_parseValue_16 (L := (tx_L s0 ca t (rt_r s0 tp) (nI (V + 1)) (nI p) (-1) k b nx fi pa wo ke nu le (nI L))) rfl rfl ?_
  refine rt_iload_n dX8_parseValue_19 rfl (j := 0) rfl ?_
  refine rt_aload_n dX8_parseValue_20 rfl (j := 1) rfl ?_
  refine rt_bGet Γ kf_RX8_67 dX8_parseValue_21 (L := (tx_L s0 ca t (rt_r s0 tp) (nI (V + 1)) (nI p) (-1) k b nx fi pa wo ke nu le (nI L))) rfl rfl ?_
  refine rt_callV Γ kk_X0_put kc_RX8_89 (c_X0_put Γ (d := d - 1) (rt_bk_C (t := t) (L := (tx_L s0 ca t (rt_r s0 tp) (nI (V + 1)) (nI p) (-1) k b nx fi pa wo ke nu le (nI L))) 3 (Nat.le_of_ble_eq_true rfl) rfl rfl) (by decide)) (by omega) (by decide) (As := [.int (nI V), .int (nI p)]) (show (parseMethodDescriptor yX0_put.desc).map (fun q => q.parameters.length) = some 2 by decide +kernel) hok (Nat.le_of_ble_eq_true rfl) dX8_parseValue_24 (rt_bk_C (t := t) (L := (tx_L s0 ca t (rt_r s0 tp) (nI (V + 1)) (nI p) (-1) k b nx fi pa wo ke nu le (nI L))) 3 (Nat.le_of_ble_eq_true rfl) rfl rfl).1 rfl rfl rfl (rt_kr (st2 := []) rfl ?_) rt_kx
  refine rt_weq (w' := (rt_bk w t (tx_L s0 ca t (rt_r s0 tp) (nI (V + 1)) (nI p) (-1) k (cl_put 2073 b (nI V) (nI p)) nx fi pa wo ke nu le (nI L)))) (rt_bk_cs 3 (Nat.le_of_ble_eq_true rfl)) ?_
  refine rt_weq (w' := (rt_bk w t (tx_L s0 ca t (rt_r s0 tp) (nI (V + 1)) (nI p) (-1) k (upd b V (nI p)) nx fi pa wo ke nu le (nI L)))) (by rw [cl_putN hV (by decide)]) ?_
  refine rt_aload_n dX8_parseValue_27 rfl (j := 1) rfl ?_
  refine rt_bGet Γ kf_RX8_23 dX8_parseValue_28 (L := (tx_L s0 ca t (rt_r s0 tp) (nI (V + 1)) (nI p) (-1) k (upd b V (nI p)) nx fi pa wo ke nu le (nI L))) rfl rfl ?_
  refine rt_iload_n dX8_parseValue_31 rfl (j := 0) rfl ?_
  refine rt_iconst (v := (-1)) dX8_parseValue_32 (by decide) ?_
  refine rt_callV Γ kk_X0_put kc_RX8_89 (c_X0_put Γ (d := d - 1) (rt_bk_C (t := t) (L := (tx_L s0 ca t (rt_r s0 tp) (nI (V + 1)) (nI p) (-1) k (upd b V (nI p)) nx fi pa wo ke nu le (nI L))) 5 (Nat.le_of_ble_eq_true rfl) rfl rfl) (by decide)) (by omega) (by decide) (As := [.int (nI V), .int (-1)]) (show (parseMethodDescriptor yX0_put.desc).map (fun q => q.parameters.length) = some 2 by decide +kernel) hok (Nat.le_of_ble_eq_true rfl) dX8_parseValue_33 (rt_bk_C (t := t) (L := (tx_L s0 ca t (rt_r s0 tp) (nI (V + 1)) (nI p) (-1) k (upd b V (nI p)) nx fi pa wo ke nu le (nI L))) 5 (Nat.le_of_ble_eq_true rfl) rfl rfl).1 rfl rfl rfl (rt_kr (st2 := []) rfl ?_) rt_kx
  refine rt_weq (w' := (rt_bk w t (tx_L s0 ca t (rt_r s0 tp) (nI (V + 1)) (nI p) (-1) k (upd b V (nI p)) (cl_put 2073 nx (nI V) (-1)) fi pa wo ke nu le (nI L)))) (rt_bk_cs 5 (Nat.le_of_ble_eq_true rfl)) ?_
  refine rt_weq (w' := (rt_bk w t (tx_L s0 ca t (rt_r s0 tp) (nI (V + 1)) (nI p) (-1) k (upd b V (nI p)) (upd nx V (-1)) fi pa wo ke nu le (nI L)))) (by rw [cl_putN hV (by decide)]) ?_
  refine rt_aload_n dX8_parseValue_36 rfl (j := 1) rfl ?_
  refine rt_bGet Γ kf_RX8_26 dX8_parseValue_37 (L := (tx_L s0 ca t (rt_r s0 tp) (nI (V + 1)) (nI p) (-1) k (upd b V (nI p)) (upd nx V (-1)) fi pa wo ke nu le (nI L))) rfl rfl ?_
  refine rt_iload_n dX8_parseValue_40 rfl (j := 0) rfl ?_
  refine rt_iconst (v := (-1)) dX8_parseValue_41 (by decide) ?_
  refine rt_callV Γ kk_X0_put kc_RX8_89 (c_X0_put Γ (d := d - 1) (rt_bk_C (t := t) (L := (tx_L s0 ca t (rt_r s0 tp) (nI (V + 1)) (nI p) (-1) k (upd b V (nI p)) (upd nx V (-1)) fi pa wo ke nu le (nI L))) 7 (Nat.le_of_ble_eq_true rfl) rfl rfl) (by decide)) (by omega) (by decide) (As := [.int (nI V), .int (-1)]) (show (parseMethodDescriptor yX0_put.desc).map (fun q => q.parameters.length) = some 2 by decide +kernel) hok (Nat.le_of_ble_eq_true rfl) dX8_parseValue_42 (rt_bk_C (t := t) (L := (tx_L s0 ca t (rt_r s0 tp) (nI (V + 1)) (nI p) (-1) k (upd b V (nI p)) (upd nx V (-1)) fi pa wo ke nu le (nI L))) 7 (Nat.le_of_ble_eq_true rfl) rfl rfl).1 rfl rfl rfl (rt_kr (st2 := []) rfl ?_) rt_kx
  refine rt_weq (w' := (rt_bk w t (tx_L s0 ca t (rt_r s0 tp) (nI (V + 1)) (nI p) (-1) k (upd b V (nI p)) (upd nx V (-1)) (cl_put 2073 fi (nI V) (-1)) pa wo ke nu le (nI L)))) (rt_bk_cs 7 (Nat.le_of_ble_eq_true rfl)) ?_
  refine rt_weq (w' := (rt_bk w t (tx_L s0 ca t (rt_r s0 tp) (nI (V + 1)) (nI p) (-1) k (upd b V (nI p)) (upd nx V (-1)) (upd fi V (-1)) pa wo ke nu le (nI L)))) (by rw [cl_putN hV (by decide)]) ?_
  refine rt_aload_n dX8_parseValue_45 rfl (j := 1) rfl ?_
  refine rt_bGet Γ kf_RX8_29 dX8_parseValue_46 (L := (tx_L s0 ca t (rt_r s0 tp) (nI (V + 1)) (nI p) (-1) k (upd b V (nI p)) (upd nx V (-1)) (upd fi V (-1)) pa wo ke nu le (nI L))) rfl rfl ?_
  refine rt_iload_n dX8_parseValue_49 rfl (j := 0) rfl ?_
  refine rt_iconst (v := 0) dX8_parseValue_50 (by decide) ?_
  refine rt_callV Γ kk_X0_put kc_RX8_89 (c_X0_put Γ (d := d - 1) (rt_bk_C (t := t) (L := (tx_L s0 ca t (rt_r s0 tp) (nI (V + 1)) (nI p) (-1) k (upd b V (nI p)) (upd nx V (-1)) (upd fi V (-1)) pa wo ke nu le (nI L))) 9 (Nat.le_of_ble_eq_true rfl) rfl rfl) (by decide)) (by omega) (by decide) (As := [.int (nI V), .int 0]) (show (parseMethodDescriptor yX0_put.desc).map (fun q => q.parameters.length) = some 2 by decide +kernel) hok (Nat.le_of_ble_eq_true rfl) dX8_parseValue_51 (rt_bk_C (t := t) (L := (tx_L s0 ca t (rt_r s0 tp) (nI (V + 1)) (nI p) (-1) k (upd b V (nI p)) (upd nx V (-1)) (upd fi V (-1)) pa wo ke nu le (nI L))) 9 (Nat.le_of_ble_eq_true rfl) rfl rfl).1 rfl rfl rfl (rt_kr (st2 := []) rfl ?_) rt_kx
  refine rt_weq (w' := (rt_bk w t (tx_L s0 ca t (rt_r s0 tp) (nI (V + 1)) (nI p) (-1) k (upd b V (nI p)) (upd nx V (-1)) (upd fi V (-1)) (cl_put 2073 pa (nI V) 0) wo ke nu le (nI L)))) (rt_bk_cs 9 (Nat.le_of_ble_eq_true rfl)) ?_
  refine rt_weq (w' := (rt_bk w t (tx_L s0 ca t (rt_r s0 tp) (nI (V + 1)) (nI p) (-1) k (upd b V (nI p)) (upd nx V (-1)) (upd fi V (-1)) (upd pa V 0) wo ke nu le (nI L)))) (by rw [cl_putN hV (by decide)]) ?_
  refine rt_aload_n dX8_parseValue_54 rfl (j := 1) rfl ?_
  refine rt_bGet Γ kf_RX8_57 dX8_parseValue_55 (L := (tx_L s0 ca t (rt_r s0 tp) (nI (V + 1)) (nI p) (-1) k (upd b V (nI p)) (upd nx V (-1)) (upd fi V (-1)) (upd pa V 0) wo ke nu le (nI L))) rfl rfl ?_
  refine rt_aload_n dX8_parseValue_58 rfl (j := 1) rfl ?_
  refine rt_bGet Γ kf_RX8_67 dX8_parseValue_59 (L := (tx_L s0 ca t (rt_r s0 tp) (nI (V + 1)) (nI p) (-1) k (upd b V (nI p)) (upd nx V (-1)) (upd fi V (-1)) (upd pa V 0) wo ke nu le (nI L))) rfl rfl ?_
  refine rt_callV Γ kk_X0_peek kc_RX8_86 (c_X0_peek Γ (d := d - 1) (x := (nI p)) (hT.bk htp) hn) (by omega) (by decide) (As := [.int (nI p)]) (show (parseMethodDescriptor yX0_peek.desc).map (fun q => q.parameters.length) = some 1 by decide +kernel) hok (Nat.le_of_ble_eq_true rfl) dX8_parseValue_62 (hT.bk htp).1 rfl rfl rfl (rt_kr (st2 := [.int (cl_peek n f u (nI p))]) rfl ?_) rt_kx
  refine rt_te (y := g p) (hg p (by omega)) ?_
  refine rt_istore_n (lv' := [(3, .int (g p)), (2, .int (nI V)), (0, rt_r s0 t), (1, .int (nI dp))]) dX8_parseValue_65 rfl (by decide) rfl ?_
  refine rt_iload_n dX8_parseValue_66 rfl (j := 0) rfl ?_
  refine rt_bipush (v := 123) dX8_parseValue_67 (by decide) ?_
  refine rt_icmp_ne (tgt := 92) dX8_parseValue_69 (by decide) (fun _ => ?_) (fun c69 => absurd c69 n1)
  refine rt_iload_n dX8_parseValue_92 rfl (j := 0) rfl ?_
  refine rt_bipush (v := 91) dX8_parseValue_93 (by decide) ?_
  refine rt_icmp_ne (tgt := 118) dX8_parseValue_95 (by decide) (fun _ => ?_) (fun c95 => absurd c95 n2)
  refine rt_iload_n dX8_parseValue_118 rfl (j := 0) rfl ?_
  refine rt_bipush (v := 34) dX8_parseValue_119 (by decide) ?_
  refine rt_icmp_ne (tgt := 148) dX8_parseValue_121 (by decide) (fun _ => ?_) (fun c121 => absurd c121 n3)
  refine rt_iload_n dX8_parseValue_148 rfl (j := 0) rfl ?_
  refine rt_bipush (v := 116) dX8_parseValue_149 (by decide) ?_
  refine rt_icmp_ne (tgt := 165) dX8_parseValue_151 (by decide) (fun _ => ?_) (fun c151 => absurd c151 n4)
  refine rt_iload_n dX8_parseValue_165 rfl (j := 0) rfl ?_
  refine rt_bipush (v := 102) dX8_parseValue_166 (by decide) ?_
  refine rt_icmp_ne (tgt := 183) dX8_parseValue_168 (by decide) (fun _ => ?_) (fun c168 => absurd c168 n5)
  refine rt_iload_n dX8_parseValue_183 rfl (j := 0) rfl ?_
  refine rt_bipush (v := 110) dX8_parseValue_184 (by decide) ?_
  refine rt_icmp_ne (tgt := 201) dX8_parseValue_186 (by decide) (fun c186 => absurd c186 (fun c => c h)) (fun _ => ?_)
  refine rt_aload_n dX8_parseValue_189 rfl (j := 2) rfl ?_
  refine rt_iload_n dX8_parseValue_190 rfl (j := 1) rfl ?_
  refine rt_bipush (v := 7) dX8_parseValue_191 (by decide) ?_
  refine rt_ldcS Γ hk dX8_parseValue_193 ?_
  refine rt_callV Γ kk_X8_parseWord kc_RX8_102 (j_wordT Γ (d := d - 1) (bs := [110, 117, 108, 108]) (by omega) hT hn htp hg hok hs (by decide) (by omega) hs1) (by omega) (by decide) (As := [.int (nI V), .int 7, .ref a]) (show (parseMethodDescriptor yX8_parseWord.desc).map (fun q => q.parameters.length) = some 3 by decide +kernel) hok (Nat.le_of_ble_eq_true rfl) dX8_parseValue_195 ((rt_bk_0 w t (tx_L s0 ca t (rt_r s0 tp) (nI (V + 1)) (nI p) (-1) k (upd b V (nI p)) (upd nx V (-1)) (upd fi V (-1)) (upd pa V 0) wo ke nu le (nI L)) (Nat.le_of_ble_eq_true rfl)).trans rfl) rfl rfl rfl (rt_kr (st2 := []) rfl ?_) rt_kx
  refine rt_weq (w' := (rt_bk w t (tx_L s0 ca t (rt_r s0 tp) (nI (V + 1)) (nI q) (-1) (upd k V 7) (upd b V (nI p)) (upd nx V (-1)) (upd fi V (-1)) (upd pa V 0) wo ke nu le (nI L)))) (by rw [cl_putN hV (by decide)]) ?_
  refine rt_goto (tgt := 215) dX8_parseValue_198 (by decide) ?_
  refine rt_iload_n dX8_parseValue_215 rfl (j := 1) rfl ?_
  refine rt_iret dX8_parseValue_216 rfl ⟨rfl, (upd k V 7), (upd b V (nI p)), (upd nx V (-1)), (upd fi V (-1)), (upd pa V 0), wo, ke, nu, le, ?_, (fun i hi => ⟨pk_un (by omega), pk_un (by omega), pk_un (by omega), pk_un (by omega), pk_un (by omega), rfl, rfl, rfl⟩), rfl, fun _ _ => rfl, jRep.one ⟨pk_us, pk_us, pk_us, pk_us, pk_us, (fun c => absurd (show (7 : Nat) = 4 from c) (by decide)), (fun c => absurd (show (7 : Nat) = 3 from c) (by decide)), (fun _ c => nomatch c)⟩⟩
  rw [jLw_l _ _ _ (by decide)]
  rfl
set_option maxRecDepth 100000 in
theorem jv_w7E {l : Launch} {s0 : State} {a0 : Array Value} {G : va_G} {ca : Nat → ClassId} (Γ : rt_Γ l s0 a0 G ca) {d : Nat} {w : rt_Wd} {t : Nat} {k : Nat → Int32} {b : Nat → Int32} {nx : Nat → Int32} {fi : Nat → Int32} {pa : Nat → Int32} {wo : Nat → Int32} {ke : Nat → Int32} {nu : Nat → Int64} {le : Nat → Int32} (hd : 6 ≤ d) {tp n : Nat} {f : Nat → Int32} {u : Int32} {g : Nat → Int32} (hT : rt_C s0 ca w tp n f u) (hn : n < 2 ^ 31) (htp : tp + 1 < t ∨ t + 18 ≤ tp) (hg : ∀ p : Nat, p < 65536 → cl_peek n f u (nI p) = g p) (hok : rt_ok w) {p V L N dp : Nat} (hN : jT g N) (hp : p ≤ N) (hVp : V ≤ p) (hLp : L ≤ p) (n1 : ¬ g p = 123) (n2 : ¬ g p = 91) (n3 : ¬ g p = 34) (n4 : ¬ g p = 116) (n5 : ¬ g p = 102) (h : g p = 110) {e : Nat} (hs1 : jLit g [110, 117, 108, 108] 4 0 p = .error e) : rt_Met l s0 G (.code yX8_parseValue cX8_parseValue 4 (Option.some FieldType.int)) yX8_parseValue d [rt_r s0 t, .int (nI dp)] (rt_bk w t (tx_L s0 ca t (rt_r s0 tp) (nI V) (nI p) (-1) k b nx fi pa wo ke nu le (nI L))) (fun r w1 => r = .inl (some (.int (nI V))) ∧ tx_B s0 ca w t tp e w1) := by
  refine rt_met Γ kk_X8_parseValue rfl (Nat.le_of_ble_eq_true rfl) rfl ?_
  have hN0 := hN.1
  have hV : V < 2073 := by omega
  obtain ⟨a, hk, hs⟩ := ks_RX8_108 Γ
  refine rt_aload_n dX8_parseValue_0 rfl (j := 0) rfl ?_
  refine rt_bGet Γ kf_RX8_63 dX8_parseValue_1 (L := (tx_L s0 ca t (rt_r s0 tp) (nI V) (nI p) (-1) k b nx fi pa wo ke nu le (nI L))) rfl rfl ?_
  refine rt_istore_n (lv' := [(2, .int (nI V)), (0, rt_r s0 t), (1, .int (nI dp))]) dX8_parseValue_4 rfl (by decide) rfl ?_
  refine rt_aload_n dX8_parseValue_5 rfl (j := 1) rfl ?_
  refine rt_dup dX8_parseValue_6 rfl ?_
  refine rt_bGet Γ kf_RX8_63 dX8_parseValue_7 (L := (tx_L s0 ca t (rt_r s0 tp) (nI V) (nI p) (-1) k b nx fi pa wo ke nu le (nI L))) rfl rfl ?_
  refine rt_iconst (v := 1) dX8_parseValue_10 (by decide) ?_
  refine rt_iadd dX8_parseValue_11 ?_
  refine rt_te (y := nI (V + 1)) (nI_1 V) ?_
  refine rt_bPut Γ kp_RX8_63 dX8_parseValue_12 (L := (tx_L s0 ca t (rt_r s0 tp) (nI V) (nI p) (-1) k b nx fi pa wo ke nu le (nI L))) rfl (Nat.le_of_ble_eq_true rfl) rfl rfl (L' := (tx_L s0 ca t (rt_r s0 tp) (nI (V + 1)) (nI p) (-1) k b nx fi pa wo ke nu le (nI L))) rfl ?_
  refine rt_aload_n dX8_parseValue_15 rfl (j := 1) rfl ?_
  refine rt_bGet Γ kf_RX8_20 dX8_parseValue_16 (L := (tx_L s0 ca t (rt_r s0 tp) (nI (V + 1)) (nI p) (-1) k b nx fi pa wo ke nu le (nI L))) rfl rfl ?_
  refine rt_iload_n dX8_parseValue_19 rfl (j := 0) rfl ?_
  refine rt_aload_n dX8_parseValue_20 rfl (j := 1) rfl ?_
  refine rt_bGet Γ kf_RX8_67 dX8_parseValue_21 (L := (tx_L s0 ca t (rt_r s0 tp) (nI (V + 1)) (nI p) (-1) k b nx fi pa wo ke nu le (nI L))) rfl rfl ?_
  refine rt_callV Γ kk_X0_put kc_RX8_89 (c_X0_put Γ (d := d - 1) (rt_bk_C (t := t) (L := (tx_L s0 ca t (rt_r s0 tp) (nI (V + 1)) (nI p) (-1) k b nx fi pa wo ke nu le (nI L))) 3 (Nat.le_of_ble_eq_true rfl) rfl rfl) (by decide)) (by omega) (by decide) (As := [.int (nI V), .int (nI p)]) (show (parseMethodDescriptor yX0_put.desc).map (fun q => q.parameters.length) = some 2 by decide +kernel) hok (Nat.le_of_ble_eq_true rfl) dX8_parseValue_24 (rt_bk_C (t := t) (L := (tx_L s0 ca t (rt_r s0 tp) (nI (V + 1)) (nI p) (-1) k b nx fi pa wo ke nu le (nI L))) 3 (Nat.le_of_ble_eq_true rfl) rfl rfl).1 rfl rfl rfl (rt_kr (st2 := []) rfl ?_) rt_kx
  refine rt_weq (w' := (rt_bk w t (tx_L s0 ca t (rt_r s0 tp) (nI (V + 1)) (nI p) (-1) k (cl_put 2073 b (nI V) (nI p)) nx fi pa wo ke nu le (nI L)))) (rt_bk_cs 3 (Nat.le_of_ble_eq_true rfl)) ?_
  refine rt_weq (w' := (rt_bk w t (tx_L s0 ca t (rt_r s0 tp) (nI (V + 1)) (nI p) (-1) k (upd b V (nI p)) nx fi pa wo ke nu le (nI L)))) (by rw [cl_putN hV (by decide)]) ?_
  refine rt_aload_n dX8_parseValue_27 rfl (j := 1) rfl ?_
  refine rt_bGet Γ kf_RX8_23 dX8_parseValue_28 (L := (tx_L s0 ca t (rt_r s0 tp) (nI (V + 1)) (nI p) (-1) k (upd b V (nI p)) nx fi pa wo ke nu le (nI L))) rfl rfl ?_
  refine rt_iload_n dX8_parseValue_31 rfl (j := 0) rfl ?_
  refine rt_iconst (v := (-1)) dX8_parseValue_32 (by decide) ?_
  refine rt_callV Γ kk_X0_put kc_RX8_89 (c_X0_put Γ (d := d - 1) (rt_bk_C (t := t) (L := (tx_L s0 ca t (rt_r s0 tp) (nI (V + 1)) (nI p) (-1) k (upd b V (nI p)) nx fi pa wo ke nu le (nI L))) 5 (Nat.le_of_ble_eq_true rfl) rfl rfl) (by decide)) (by omega) (by decide) (As := [.int (nI V), .int (-1)]) (show (parseMethodDescriptor yX0_put.desc).map (fun q => q.parameters.length) = some 2 by decide +kernel) hok (Nat.le_of_ble_eq_true rfl) dX8_parseValue_33 (rt_bk_C (t := t) (L := (tx_L s0 ca t (rt_r s0 tp) (nI (V + 1)) (nI p) (-1) k (upd b V (nI p)) nx fi pa wo ke nu le (nI L))) 5 (Nat.le_of_ble_eq_true rfl) rfl rfl).1 rfl rfl rfl (rt_kr (st2 := []) rfl ?_) rt_kx
  refine rt_weq (w' := (rt_bk w t (tx_L s0 ca t (rt_r s0 tp) (nI (V + 1)) (nI p) (-1) k (upd b V (nI p)) (cl_put 2073 nx (nI V) (-1)) fi pa wo ke nu le (nI L)))) (rt_bk_cs 5 (Nat.le_of_ble_eq_true rfl)) ?_
  refine rt_weq (w' := (rt_bk w t (tx_L s0 ca t (rt_r s0 tp) (nI (V + 1)) (nI p) (-1) k (upd b V (nI p)) (upd nx V (-1)) fi pa wo ke nu le (nI L)))) (by rw [cl_putN hV (by decide)]) ?_
  refine rt_aload_n dX8_parseValue_36 rfl (j := 1) rfl ?_
  refine rt_bGet Γ kf_RX8_26 dX8_parseValue_37 (L := (tx_L s0 ca t (rt_r s0 tp) (nI (V + 1)) (nI p) (-1) k (upd b V (nI p)) (upd nx V (-1)) fi pa wo ke nu le (nI L))) rfl rfl ?_
  refine rt_iload_n dX8_parseValue_40 rfl (j := 0) rfl ?_
  refine rt_iconst (v := (-1)) dX8_parseValue_41 (by decide) ?_
  refine rt_callV Γ kk_X0_put kc_RX8_89 (c_X0_put Γ (d := d - 1) (rt_bk_C (t := t) (L := (tx_L s0 ca t (rt_r s0 tp) (nI (V + 1)) (nI p) (-1) k (upd b V (nI p)) (upd nx V (-1)) fi pa wo ke nu le (nI L))) 7 (Nat.le_of_ble_eq_true rfl) rfl rfl) (by decide)) (by omega) (by decide) (As := [.int (nI V), .int (-1)]) (show (parseMethodDescriptor yX0_put.desc).map (fun q => q.parameters.length) = some 2 by decide +kernel) hok (Nat.le_of_ble_eq_true rfl) dX8_parseValue_42 (rt_bk_C (t := t) (L := (tx_L s0 ca t (rt_r s0 tp) (nI (V + 1)) (nI p) (-1) k (upd b V (nI p)) (upd nx V (-1)) fi pa wo ke nu le (nI L))) 7 (Nat.le_of_ble_eq_true rfl) rfl rfl).1 rfl rfl rfl (rt_kr (st2 := []) rfl ?_) rt_kx
  refine rt_weq (w' := (rt_bk w t (tx_L s0 ca t (rt_r s0 tp) (nI (V + 1)) (nI p) (-1) k (upd b V (nI p)) (upd nx V (-1)) (cl_put 2073 fi (nI V) (-1)) pa wo ke nu le (nI L)))) (rt_bk_cs 7 (Nat.le_of_ble_eq_true rfl)) ?_
  refine rt_weq (w' := (rt_bk w t (tx_L s0 ca t (rt_r s0 tp) (nI (V + 1)) (nI p) (-1) k (upd b V (nI p)) (upd nx V (-1)) (upd fi V (-1)) pa wo ke nu le (nI L)))) (by rw [cl_putN hV (by decide)]) ?_
  refine rt_aload_n dX8_parseValue_45 rfl (j := 1) rfl ?_
  refine rt_bGet Γ kf_RX8_29 dX8_parseValue_46 (L := (tx_L s0 ca t (rt_r s0 tp) (nI (V + 1)) (nI p) (-1) k (upd b V (nI p)) (upd nx V (-1)) (upd fi V (-1)) pa wo ke nu le (nI L))) rfl rfl ?_
  refine rt_iload_n dX8_parseValue_49 rfl (j := 0) rfl ?_
  refine rt_iconst (v := 0) dX8_parseValue_50 (by decide) ?_
  refine rt_callV Γ kk_X0_put kc_RX8_89 (c_X0_put Γ (d := d - 1) (rt_bk_C (t := t) (L := (tx_L s0 ca t (rt_r s0 tp) (nI (V + 1)) (nI p) (-1) k (upd b V (nI p)) (upd nx V (-1)) (upd fi V (-1)) pa wo ke nu le (nI L))) 9 (Nat.le_of_ble_eq_true rfl) rfl rfl) (by decide)) (by omega) (by decide) (As := [.int (nI V), .int 0]) (show (parseMethodDescriptor yX0_put.desc).map (fun q => q.parameters.length) = some 2 by decide +kernel) hok (Nat.le_of_ble_eq_true rfl) dX8_parseValue_51 (rt_bk_C (t := t) (L := (tx_L s0 ca t (rt_r s0 tp) (nI (V + 1)) (nI p) (-1) k (upd b V (nI p)) (upd nx V (-1)) (upd fi V (-1)) pa wo ke nu le (nI L))) 9 (Nat.le_of_ble_eq_true rfl) rfl rfl).1 rfl rfl rfl (rt_kr (st2 := []) rfl ?_) rt_kx
  refine rt_weq (w' := (rt_bk w t (tx_L s0 ca t (rt_r s0 tp) (nI (V + 1)) (nI p) (-1) k (upd b V (nI p)) (upd nx V (-1)) (upd fi V (-1)) (cl_put 2073 pa (nI V) 0) wo ke nu le (nI L)))) (rt_bk_cs 9 (Nat.le_of_ble_eq_true rfl)) ?_
  refine rt_weq (w' := (rt_bk w t (tx_L s0 ca t (rt_r s0 tp) (nI (V + 1)) (nI p) (-1) k (upd b V (nI p)) (upd nx V (-1)) (upd fi V (-1)) (upd pa V 0) wo ke nu le (nI L)))) (by rw [cl_putN hV (by decide)]) ?_
  refine rt_aload_n dX8_parseValue_54 rfl (j := 1) rfl ?_
  refine rt_bGet Γ kf_RX8_57 dX8_parseValue_55 (L := (tx_L s0 ca t (rt_r s0 tp) (nI (V + 1)) (nI p) (-1) k (upd b V (nI p)) (upd nx V (-1)) (upd fi V (-1)) (upd pa V 0) wo ke nu le (nI L))) rfl rfl ?_
  refine rt_aload_n dX8_parseValue_58 rfl (j := 1) rfl ?_
  refine rt_bGet Γ kf_RX8_67 dX8_parseValue_59 (L := (tx_L s0 ca t (rt_r s0 tp) (nI (V + 1)) (nI p) (-1) k (upd b V (nI p)) (upd nx V (-1)) (upd fi V (-1)) (upd pa V 0) wo ke nu le (nI L))) rfl rfl ?_
  refine rt_callV Γ kk_X0_peek kc_RX8_86 (c_X0_peek Γ (d := d - 1) (x := (nI p)) (hT.bk htp) hn) (by omega) (by decide) (As := [.int (nI p)]) (show (parseMethodDescriptor yX0_peek.desc).map (fun q => q.parameters.length) = some 1 by decide +kernel) hok (Nat.le_of_ble_eq_true rfl) dX8_parseValue_62 (hT.bk htp).1 rfl rfl rfl (rt_kr (st2 := [.int (cl_peek n f u (nI p))]) rfl ?_) rt_kx
  refine rt_te (y := g p) (hg p (by omega)) ?_
  refine rt_istore_n (lv' := [(3, .int (g p)), (2, .int (nI V)), (0, rt_r s0 t), (1, .int (nI dp))]) dX8_parseValue_65 rfl (by decide) rfl ?_
  refine rt_iload_n dX8_parseValue_66 rfl (j := 0) rfl ?_
  refine rt_bipush (v := 123) dX8_parseValue_67 (by decide) ?_
  refine rt_icmp_ne (tgt := 92) dX8_parseValue_69 (by decide) (fun _ => ?_) (fun c69 => absurd c69 n1)
  refine rt_iload_n dX8_parseValue_92 rfl (j := 0) rfl ?_
  refine rt_bipush (v := 91) dX8_parseValue_93 (by decide) ?_
  refine rt_icmp_ne (tgt := 118) dX8_parseValue_95 (by decide) (fun _ => ?_) (fun c95 => absurd c95 n2)
  refine rt_iload_n dX8_parseValue_118 rfl (j := 0) rfl ?_
  refine rt_bipush (v := 34) dX8_parseValue_119 (by decide) ?_
  refine rt_icmp_ne (tgt := 148) dX8_parseValue_121 (by decide) (fun _ => ?_) (fun c121 => absurd c121 n3)
  refine rt_iload_n dX8_parseValue_148 rfl (j := 0) rfl ?_
  refine rt_bipush (v := 116) dX8_parseValue_149 (by decide) ?_
  refine rt_icmp_ne (tgt := 165) dX8_parseValue_151 (by decide) (fun _ => ?_) (fun c151 => absurd c151 n4)
  refine rt_iload_n dX8_parseValue_165 rfl (j := 0) rfl ?_
  refine rt_bipush (v := 102) dX8_parseValue_166 (by decide) ?_
  refine rt_icmp_ne (tgt := 183) dX8_parseValue_168 (by decide) (fun _ => ?_) (fun c168 => absurd c168 n5)
  refine rt_iload_n dX8_parseValue_183 rfl (j := 0) rfl ?_
  refine rt_bipush (v := 110) dX8_parseValue_184 (by decide) ?_
  refine rt_icmp_ne (tgt := 201) dX8_parseValue_186 (by decide) (fun c186 => absurd c186 (fun c => c h)) (fun _ => ?_)
  refine rt_aload_n dX8_parseValue_189 rfl (j := 2) rfl ?_
  refine rt_iload_n dX8_parseValue_190 rfl (j := 1) rfl ?_
  refine rt_bipush (v := 7) dX8_parseValue_191 (by decide) ?_
  refine rt_ldcS Γ hk dX8_parseValue_193 ?_
  refine rt_callV Γ kk_X8_parseWord kc_RX8_102 (j_wordF Γ (d := d - 1) (bs := [110, 117, 108, 108]) (by omega) hT hn htp hg hok hs (by decide) (by omega) hs1) (by omega) (by decide) (As := [.int (nI V), .int 7, .ref a]) (show (parseMethodDescriptor yX8_parseWord.desc).map (fun q => q.parameters.length) = some 3 by decide +kernel) hok (Nat.le_of_ble_eq_true rfl) dX8_parseValue_195 ((rt_bk_0 w t (tx_L s0 ca t (rt_r s0 tp) (nI (V + 1)) (nI p) (-1) k (upd b V (nI p)) (upd nx V (-1)) (upd fi V (-1)) (upd pa V 0) wo ke nu le (nI L)) (Nat.le_of_ble_eq_true rfl)).trans rfl) rfl rfl rfl (rt_kr (st2 := []) rfl ?_) rt_kx
  refine rt_goto (tgt := 215) dX8_parseValue_198 (by decide) ?_
  refine rt_iload_n dX8_parseValue_215 rfl (j := 1) rfl ?_
  exact rt_iret dX8_parseValue_216 rfl (⟨rfl, _, _, _, _, _, _, _, _, _, _, _, _, rfl⟩)
set_option maxRecDepth 100000 in
theorem jv_n1 {l : Launch} {s0 : State} {a0 : Array Value} {G : va_G} {ca : Nat → ClassId} (Γ : rt_Γ l s0 a0 G ca) {d : Nat} {w : rt_Wd} {t : Nat} {k : Nat → Int32} {b : Nat → Int32} {nx : Nat → Int32} {fi : Nat → Int32} {pa : Nat → Int32} {wo : Nat → Int32} {ke : Nat → Int32} {nu : Nat → Int64} {le : Nat → Int32} (hd : 3 ≤ d) {tp n : Nat} {f : Nat → Int32} {u : Int32} {g : Nat → Int32} (hT : rt_C s0 ca w tp n f u) (hn : n < 2 ^ 31) (htp : tp + 1 < t ∨ t + 18 ≤ tp) (hg : ∀ p : Nat, p < 65536 → cl_peek n f u (nI p) = g p) (hok : rt_ok w) {p V L N dp : Nat} (hN : jT g N) (hp : p ≤ N) (hVp : V ≤ p) (hLp : L ≤ p) (n1 : ¬ g p = 123) (n2 : ¬ g p = 91) (n3 : ¬ g p = 34) (n4 : ¬ g p = 116) (n5 : ¬ g p = 102) (n6 : ¬ g p = 110) (hm : g p = 45) (hz : jDgt (g (p + 1))) {q : Nat} {i1 : Int32} {s1 : Int64} (hr : jDig g (-9223372036854775808) (if g (p + 1) = 48 then 1 else 4096) (p + 1) 1 0 = (q, i1, s1)) (hi : ¬ i1 = 0) : rt_Met l s0 G (.code yX8_parseValue cX8_parseValue 4 (Option.some FieldType.int)) yX8_parseValue d [rt_r s0 t, .int (nI dp)] (rt_bk w t (tx_L s0 ca t (rt_r s0 tp) (nI V) (nI p) (-1) k b nx fi pa wo ke nu le (nI L))) (jVO s0 ca w t tp V L q k b nx fi pa wo ke nu le [(4, p, s1, [], none, 0, 1, false)]) := by
  refine rt_met Γ kk_X8_parseValue rfl (Nat.le_of_ble_eq_true rfl) rfl ?_
  have hN0 := hN.1
  have hV : V < 2073 := by omega
  refine rt_aload_n dX8_parseValue_0 rfl (j := 0) rfl ?_
  refine rt_bGet Γ kf_RX8_63 dX8_parseValue_1 (L := (tx_L s0 ca t (rt_r s0 tp) (nI V) (nI p) (-1) k b nx fi pa wo ke nu le (nI L))) rfl rfl ?_
  refine rt_istore_n (lv' := [(2, .int (nI V)), (0, rt_r s0 t), (1, .int (nI dp))]) dX8_parseValue_4 rfl (by decide) rfl ?_
  refine rt_aload_n dX8_parseValue_5 rfl (j := 1) rfl ?_
  refine rt_dup dX8_parseValue_6 rfl ?_
  refine rt_bGet Γ kf_RX8_63 dX8_parseValue_7 (L := (tx_L s0 ca t (rt_r s0 tp) (nI V) (nI p) (-1) k b nx fi pa wo ke nu le (nI L))) rfl rfl ?_
  refine rt_iconst (v := 1) dX8_parseValue_10 (by decide) ?_
  refine rt_iadd dX8_parseValue_11 ?_
  refine rt_te (y := nI (V + 1)) (nI_1 V) ?_
  refine rt_bPut Γ kp_RX8_63 dX8_parseValue_12 (L := (tx_L s0 ca t (rt_r s0 tp) (nI V) (nI p) (-1) k b nx fi pa wo ke nu le (nI L))) rfl (Nat.le_of_ble_eq_true rfl) rfl rfl (L' := (tx_L s0 ca t (rt_r s0 tp) (nI (V + 1)) (nI p) (-1) k b nx fi pa wo ke nu le (nI L))) rfl ?_
  refine rt_aload_n dX8_parseValue_15 rfl (j := 1) rfl ?_
  refine rt_bGet Γ kf_RX8_20 dX8_parseValue_16 (L := (tx_L s0 ca t (rt_r s0 tp) (nI (V + 1)) (nI p) (-1) k b nx fi pa wo ke nu le (nI L))) rfl rfl ?_
  refine rt_iload_n dX8_parseValue_19 rfl (j := 0) rfl ?_
  refine rt_aload_n dX8_parseValue_20 rfl (j := 1) rfl ?_
  refine rt_bGet Γ kf_RX8_67 dX8_parseValue_21 (L := (tx_L s0 ca t (rt_r s0 tp) (nI (V + 1)) (nI p) (-1) k b nx fi pa wo ke nu le (nI L))) rfl rfl ?_
  refine rt_callV Γ kk_X0_put kc_RX8_89 (c_X0_put Γ (d := d - 1) (rt_bk_C (t := t) (L := (tx_L s0 ca t (rt_r s0 tp) (nI (V + 1)) (nI p) (-1) k b nx fi pa wo ke nu le (nI L))) 3 (Nat.le_of_ble_eq_true rfl) rfl rfl) (by decide)) (by omega) (by decide) (As := [.int (nI V), .int (nI p)]) (show (parseMethodDescriptor yX0_put.desc).map (fun q => q.parameters.length) = some 2 by decide +kernel) hok (Nat.le_of_ble_eq_true rfl) dX8_parseValue_24 (rt_bk_C (t := t) (L := (tx_L s0 ca t (rt_r s0 tp) (nI (V + 1)) (nI p) (-1) k b nx fi pa wo ke nu le (nI L))) 3 (Nat.le_of_ble_eq_true rfl) rfl rfl).1 rfl rfl rfl (rt_kr (st2 := []) rfl ?_) rt_kx
  refine rt_weq (w' := (rt_bk w t (tx_L s0 ca t (rt_r s0 tp) (nI (V + 1)) (nI p) (-1) k (cl_put 2073 b (nI V) (nI p)) nx fi pa wo ke nu le (nI L)))) (rt_bk_cs 3 (Nat.le_of_ble_eq_true rfl)) ?_
  refine rt_weq (w' := (rt_bk w t (tx_L s0 ca t (rt_r s0 tp) (nI (V + 1)) (nI p) (-1) k (upd b V (nI p)) nx fi pa wo ke nu le (nI L)))) (by rw [cl_putN hV (by decide)]) ?_
  refine rt_aload_n dX8_parseValue_27 rfl (j := 1) rfl ?_
  refine rt_bGet Γ kf_RX8_23 dX8_parseValue_28 (L := (tx_L s0 ca t (rt_r s0 tp) (nI (V + 1)) (nI p) (-1) k (upd b V (nI p)) nx fi pa wo ke nu le (nI L))) rfl rfl ?_
  refine rt_iload_n dX8_parseValue_31 rfl (j := 0) rfl ?_
  refine rt_iconst (v := (-1)) dX8_parseValue_32 (by decide) ?_
  refine rt_callV Γ kk_X0_put kc_RX8_89 (c_X0_put Γ (d := d - 1) (rt_bk_C (t := t) (L := (tx_L s0 ca t (rt_r s0 tp) (nI (V + 1)) (nI p) (-1) k (upd b V (nI p)) nx fi pa wo ke nu le (nI L))) 5 (Nat.le_of_ble_eq_true rfl) rfl rfl) (by decide)) (by omega) (by decide) (As := [.int (nI V), .int (-1)]) (show (parseMethodDescriptor yX0_put.desc).map (fun q => q.parameters.length) = some 2 by decide +kernel) hok (Nat.le_of_ble_eq_true rfl) dX8_parseValue_33 (rt_bk_C (t := t) (L := (tx_L s0 ca t (rt_r s0 tp) (nI (V + 1)) (nI p) (-1) k (upd b V (nI p)) nx fi pa wo ke nu le (nI L))) 5 (Nat.le_of_ble_eq_true rfl) rfl rfl).1 rfl rfl rfl (rt_kr (st2 := []) rfl ?_) rt_kx
  refine rt_weq (w' := (rt_bk w t (tx_L s0 ca t (rt_r s0 tp) (nI (V + 1)) (nI p) (-1) k (upd b V (nI p)) (cl_put 2073 nx (nI V) (-1)) fi pa wo ke nu le (nI L)))) (rt_bk_cs 5 (Nat.le_of_ble_eq_true rfl)) ?_
  refine rt_weq (w' := (rt_bk w t (tx_L s0 ca t (rt_r s0 tp) (nI (V + 1)) (nI p) (-1) k (upd b V (nI p)) (upd nx V (-1)) fi pa wo ke nu le (nI L)))) (by rw [cl_putN hV (by decide)]) ?_
  refine rt_aload_n dX8_parseValue_36 rfl (j := 1) rfl ?_
  refine rt_bGet Γ kf_RX8_26 dX8_parseValue_37 (L := (tx_L s0 ca t (rt_r s0 tp) (nI (V + 1)) (nI p) (-1) k (upd b V (nI p)) (upd nx V (-1)) fi pa wo ke nu le (nI L))) rfl rfl ?_
  refine rt_iload_n dX8_parseValue_40 rfl (j := 0) rfl ?_
  refine rt_iconst (v := (-1)) dX8_parseValue_41 (by decide) ?_
  refine rt_callV Γ kk_X0_put kc_RX8_89 (c_X0_put Γ (d := d - 1) (rt_bk_C (t := t) (L := (tx_L s0 ca t (rt_r s0 tp) (nI (V + 1)) (nI p) (-1) k (upd b V (nI p)) (upd nx V (-1)) fi pa wo ke nu le (nI L))) 7 (Nat.le_of_ble_eq_true rfl) rfl rfl) (by decide)) (by omega) (by decide) (As := [.int (nI V), .int (-1)]) (show (parseMethodDescriptor yX0_put.desc).map (fun q => q.parameters.length) = some 2 by decide +kernel) hok (Nat.le_of_ble_eq_true rfl) dX8_parseValue_42 (rt_bk_C (t := t) (L := (tx_L s0 ca t (rt_r s0 tp) (nI (V + 1)) (nI p) (-1) k (upd b V (nI p)) (upd nx V (-1)) fi pa wo ke nu le (nI L))) 7 (Nat.le_of_ble_eq_true rfl) rfl rfl).1 rfl rfl rfl (rt_kr (st2 := []) rfl ?_) rt_kx
  refine rt_weq (w' := (rt_bk w t (tx_L s0 ca t (rt_r s0 tp) (nI (V + 1)) (nI p) (-1) k (upd b V (nI p)) (upd nx V (-1)) (cl_put 2073 fi (nI V) (-1)) pa wo ke nu le (nI L)))) (rt_bk_cs 7 (Nat.le_of_ble_eq_true rfl)) ?_
  refine rt_weq (w' := (rt_bk w t (tx_L s0 ca t (rt_r s0 tp) (nI (V + 1)) (nI p) (-1) k (upd b V (nI p)) (upd nx V (-1)) (upd fi V (-1)) pa wo ke nu le (nI L)))) (by rw [cl_putN hV (by decide)]) ?_
  refine rt_aload_n dX8_parseValue_45 rfl (j := 1) rfl ?_
  refine rt_bGet Γ kf_RX8_29 dX8_parseValue_46 (L := (tx_L s0 ca t (rt_r s0 tp) (nI (V + 1)) (nI p) (-1) k (upd b V (nI p)) (upd nx V (-1)) (upd fi V (-1)) pa wo ke nu le (nI L))) rfl rfl ?_
  refine rt_iload_n dX8_parseValue_49 rfl (j := 0) rfl ?_
  refine rt_iconst (v := 0) dX8_parseValue_50 (by decide) ?_
  refine rt_callV Γ kk_X0_put kc_RX8_89 (c_X0_put Γ (d := d - 1) (rt_bk_C (t := t) (L := (tx_L s0 ca t (rt_r s0 tp) (nI (V + 1)) (nI p) (-1) k (upd b V (nI p)) (upd nx V (-1)) (upd fi V (-1)) pa wo ke nu le (nI L))) 9 (Nat.le_of_ble_eq_true rfl) rfl rfl) (by decide)) (by omega) (by decide) (As := [.int (nI V), .int 0]) (show (parseMethodDescriptor yX0_put.desc).map (fun q => q.parameters.length) = some 2 by decide +kernel) hok (Nat.le_of_ble_eq_true rfl) dX8_parseValue_51 (rt_bk_C (t := t) (L := (tx_L s0 ca t (rt_r s0 tp) (nI (V + 1)) (nI p) (-1) k (upd b V (nI p)) (upd nx V (-1)) (upd fi V (-1)) pa wo ke nu le (nI L))) 9 (Nat.le_of_ble_eq_true rfl) rfl rfl).1 rfl rfl rfl (rt_kr (st2 := []) rfl ?_) rt_kx
  refine rt_weq (w' := (rt_bk w t (tx_L s0 ca t (rt_r s0 tp) (nI (V + 1)) (nI p) (-1) k (upd b V (nI p)) (upd nx V (-1)) (upd fi V (-1)) (cl_put 2073 pa (nI V) 0) wo ke nu le (nI L)))) (rt_bk_cs 9 (Nat.le_of_ble_eq_true rfl)) ?_
  refine rt_weq (w' := (rt_bk w t (tx_L s0 ca t (rt_r s0 tp) (nI (V + 1)) (nI p) (-1) k (upd b V (nI p)) (upd nx V (-1)) (upd fi V (-1)) (upd pa V 0) wo ke nu le (nI L)))) (by rw [cl_putN hV (by decide)]) ?_
  refine rt_aload_n dX8_parseValue_54 rfl (j := 1) rfl ?_
  refine rt_bGet Γ kf_RX8_57 dX8_parseValue_55 (L := (tx_L s0 ca t (rt_r s0 tp) (nI (V + 1)) (nI p) (-1) k (upd b V (nI p)) (upd nx V (-1)) (upd fi V (-1)) (upd pa V 0) wo ke nu le (nI L))) rfl rfl ?_
  refine rt_aload_n dX8_parseValue_58 rfl (j := 1) rfl ?_
  refine rt_bGet Γ kf_RX8_67 dX8_parseValue_59 (L := (tx_L s0 ca t (rt_r s0 tp) (nI (V + 1)) (nI p) (-1) k (upd b V (nI p)) (upd nx V (-1)) (upd fi V (-1)) (upd pa V 0) wo ke nu le (nI L))) rfl rfl ?_
  refine rt_callV Γ kk_X0_peek kc_RX8_86 (c_X0_peek Γ (d := d - 1) (x := (nI p)) (hT.bk htp) hn) (by omega) (by decide) (As := [.int (nI p)]) (show (parseMethodDescriptor yX0_peek.desc).map (fun q => q.parameters.length) = some 1 by decide +kernel) hok (Nat.le_of_ble_eq_true rfl) dX8_parseValue_62 (hT.bk htp).1 rfl rfl rfl (rt_kr (st2 := [.int (cl_peek n f u (nI p))]) rfl ?_) rt_kx
  refine rt_te (y := g p) (hg p (by omega)) ?_
  refine rt_istore_n (lv' := [(3, .int (g p)), (2, .int (nI V)), (0, rt_r s0 t), (1, .int (nI dp))]) dX8_parseValue_65 rfl (by decide) rfl ?_
  refine rt_iload_n dX8_parseValue_66 rfl (j := 0) rfl ?_
  refine rt_bipush (v := 123) dX8_parseValue_67 (by decide) ?_
  refine rt_icmp_ne (tgt := 92) dX8_parseValue_69 (by decide) (fun _ => ?_) (fun c69 => absurd c69 n1)
  refine rt_iload_n dX8_parseValue_92 rfl (j := 0) rfl ?_
  refine rt_bipush (v := 91) dX8_parseValue_93 (by decide) ?_
  refine rt_icmp_ne (tgt := 118) dX8_parseValue_95 (by decide) (fun _ => ?_) (fun c95 => absurd c95 n2)
  refine rt_iload_n dX8_parseValue_118 rfl (j := 0) rfl ?_
  refine rt_bipush (v := 34) dX8_parseValue_119 (by decide) ?_
  refine rt_icmp_ne (tgt := 148) dX8_parseValue_121 (by decide) (fun _ => ?_) (fun c121 => absurd c121 n3)
  refine rt_iload_n dX8_parseValue_148 rfl (j := 0) rfl ?_
  refine rt_bipush (v := 116) dX8_parseValue_149 (by decide) ?_
  refine rt_icmp_ne (tgt := 165) dX8_parseValue_151 (by decide) (fun _ => ?_) (fun c151 => absurd c151 n4)
  refine rt_iload_n dX8_parseValue_165 rfl (j := 0) rfl ?_
  refine rt_bipush (v := 102) dX8_parseValue_166 (by decide) ?_
  refine rt_icmp_ne (tgt := 183) dX8_parseValue_168 (by decide) (fun _ => ?_) (fun c168 => absurd c168 n5)
  refine rt_iload_n dX8_parseValue_183 rfl (j := 0) rfl ?_
  refine rt_bipush (v := 110) dX8_parseValue_184 (by decide) ?_
  refine rt_icmp_ne (tgt := 201) dX8_parseValue_186 (by decide) (fun _ => ?_) (fun c186 => absurd c186 n6)
  refine rt_aload_n dX8_parseValue_201 rfl (j := 2) rfl ?_
  refine rt_bGet Γ kf_RX8_16 dX8_parseValue_202 (L := (tx_L s0 ca t (rt_r s0 tp) (nI (V + 1)) (nI p) (-1) k (upd b V (nI p)) (upd nx V (-1)) (upd fi V (-1)) (upd pa V 0) wo ke nu le (nI L))) rfl rfl ?_
  refine rt_iload_n dX8_parseValue_205 rfl (j := 1) rfl ?_
  refine rt_iconst (v := 4) dX8_parseValue_206 (by decide) ?_
  refine rt_callV Γ kk_X0_put kc_RX8_89 (c_X0_put Γ (d := d - 1) (rt_bk_C (t := t) (L := (tx_L s0 ca t (rt_r s0 tp) (nI (V + 1)) (nI p) (-1) k (upd b V (nI p)) (upd nx V (-1)) (upd fi V (-1)) (upd pa V 0) wo ke nu le (nI L))) 1 (Nat.le_of_ble_eq_true rfl) rfl rfl) (by decide)) (by omega) (by decide) (As := [.int (nI V), .int 4]) (show (parseMethodDescriptor yX0_put.desc).map (fun q => q.parameters.length) = some 2 by decide +kernel) hok (Nat.le_of_ble_eq_true rfl) dX8_parseValue_207 (rt_bk_C (t := t) (L := (tx_L s0 ca t (rt_r s0 tp) (nI (V + 1)) (nI p) (-1) k (upd b V (nI p)) (upd nx V (-1)) (upd fi V (-1)) (upd pa V 0) wo ke nu le (nI L))) 1 (Nat.le_of_ble_eq_true rfl) rfl rfl).1 rfl rfl rfl (rt_kr (st2 := []) rfl ?_) rt_kx
  refine rt_weq (w' := (rt_bk w t (tx_L s0 ca t (rt_r s0 tp) (nI (V + 1)) (nI p) (-1) (cl_put 2073 k (nI V) 4) (upd b V (nI p)) (upd nx V (-1)) (upd fi V (-1)) (upd pa V 0) wo ke nu le (nI L)))) (rt_bk_cs 1 (Nat.le_of_ble_eq_true rfl)) ?_
  refine rt_weq (w' := (rt_bk w t (tx_L s0 ca t (rt_r s0 tp) (nI (V + 1)) (nI p) (-1) (upd k V 4) (upd b V (nI p)) (upd nx V (-1)) (upd fi V (-1)) (upd pa V 0) wo ke nu le (nI L)))) (by rw [cl_putN hV (by decide)]) ?_
  refine rt_aload_n dX8_parseValue_210 rfl (j := 2) rfl ?_
  refine rt_iload_n dX8_parseValue_211 rfl (j := 1) rfl ?_
  refine rt_callV Γ kk_X8_parseNumber kc_RX8_110 (j_num31 Γ (d := d - 1) (by omega) hT hn htp hg hok (by omega) hV hm hz hr hi) (by omega) (by decide) (As := [.int (nI V)]) (show (parseMethodDescriptor yX8_parseNumber.desc).map (fun q => q.parameters.length) = some 1 by decide +kernel) hok (Nat.le_of_ble_eq_true rfl) dX8_parseValue_212 ((rt_bk_0 w t (tx_L s0 ca t (rt_r s0 tp) (nI (V + 1)) (nI p) (-1) (upd k V 4) (upd b V (nI p)) (upd nx V (-1)) (upd fi V (-1)) (upd pa V 0) wo ke nu le (nI L)) (Nat.le_of_ble_eq_true rfl)).trans rfl) rfl rfl rfl (rt_kr (st2 := []) rfl ?_) rt_kx
  refine rt_iload_n dX8_parseValue_215 rfl (j := 1) rfl ?_
  refine rt_iret dX8_parseValue_216 rfl ⟨rfl, (upd k V 4), (upd b V (nI p)), (upd nx V (-1)), (upd fi V (-1)), (upd pa V 0), wo, ke, (vp_updL nu V s1), le, ?_, (fun i hi => ⟨pk_un (by omega), pk_un (by omega), pk_un (by omega), pk_un (by omega), pk_un (by omega), rfl, rfl, pk_uLn (by omega)⟩), rfl, fun _ _ => rfl, jRep.one ⟨pk_us, pk_us, pk_us, pk_us, pk_us, (fun _ => pk_uLs), (fun c => absurd (show (4 : Nat) = 3 from c) (by decide)), (fun _ c => nomatch c)⟩⟩
  rw [jLw_l _ _ _ (by decide)]
  rfl
set_option maxRecDepth 100000 in
theorem jv_n1E {l : Launch} {s0 : State} {a0 : Array Value} {G : va_G} {ca : Nat → ClassId} (Γ : rt_Γ l s0 a0 G ca) {d : Nat} {w : rt_Wd} {t : Nat} {k : Nat → Int32} {b : Nat → Int32} {nx : Nat → Int32} {fi : Nat → Int32} {pa : Nat → Int32} {wo : Nat → Int32} {ke : Nat → Int32} {nu : Nat → Int64} {le : Nat → Int32} (hd : 3 ≤ d) {tp n : Nat} {f : Nat → Int32} {u : Int32} {g : Nat → Int32} (hT : rt_C s0 ca w tp n f u) (hn : n < 2 ^ 31) (htp : tp + 1 < t ∨ t + 18 ≤ tp) (hg : ∀ p : Nat, p < 65536 → cl_peek n f u (nI p) = g p) (hok : rt_ok w) {p V L N dp : Nat} (hN : jT g N) (hp : p ≤ N) (hVp : V ≤ p) (hLp : L ≤ p) (n1 : ¬ g p = 123) (n2 : ¬ g p = 91) (n3 : ¬ g p = 34) (n4 : ¬ g p = 116) (n5 : ¬ g p = 102) (n6 : ¬ g p = 110) (hm : g p = 45) (hz : ¬ jDgt (g (p + 1))) : rt_Met l s0 G (.code yX8_parseValue cX8_parseValue 4 (Option.some FieldType.int)) yX8_parseValue d [rt_r s0 t, .int (nI dp)] (rt_bk w t (tx_L s0 ca t (rt_r s0 tp) (nI V) (nI p) (-1) k b nx fi pa wo ke nu le (nI L))) (fun r w1 => r = .inl (some (.int (nI V))) ∧ tx_B s0 ca w t tp (p + 1) w1) := by
  refine rt_met Γ kk_X8_parseValue rfl (Nat.le_of_ble_eq_true rfl) rfl ?_
  have hN0 := hN.1
  have hV : V < 2073 := by omega
  refine rt_aload_n dX8_parseValue_0 rfl (j := 0) rfl ?_
  refine rt_bGet Γ kf_RX8_63 dX8_parseValue_1 (L := (tx_L s0 ca t (rt_r s0 tp) (nI V) (nI p) (-1) k b nx fi pa wo ke nu le (nI L))) rfl rfl ?_
  refine rt_istore_n (lv' := [(2, .int (nI V)), (0, rt_r s0 t), (1, .int (nI dp))]) dX8_parseValue_4 rfl (by decide) rfl ?_
  refine rt_aload_n dX8_parseValue_5 rfl (j := 1) rfl ?_
  refine rt_dup dX8_parseValue_6 rfl ?_
  refine rt_bGet Γ kf_RX8_63 dX8_parseValue_7 (L := (tx_L s0 ca t (rt_r s0 tp) (nI V) (nI p) (-1) k b nx fi pa wo ke nu le (nI L))) rfl rfl ?_
  refine rt_iconst (v := 1) dX8_parseValue_10 (by decide) ?_
  refine rt_iadd dX8_parseValue_11 ?_
  refine rt_te (y := nI (V + 1)) (nI_1 V) ?_
  refine rt_bPut Γ kp_RX8_63 dX8_parseValue_12 (L := (tx_L s0 ca t (rt_r s0 tp) (nI V) (nI p) (-1) k b nx fi pa wo ke nu le (nI L))) rfl (Nat.le_of_ble_eq_true rfl) rfl rfl (L' := (tx_L s0 ca t (rt_r s0 tp) (nI (V + 1)) (nI p) (-1) k b nx fi pa wo ke nu le (nI L))) rfl ?_
  refine rt_aload_n dX8_parseValue_15 rfl (j := 1) rfl ?_
  refine rt_bGet Γ kf_RX8_20 dX8_parseValue_16 (L := (tx_L s0 ca t (rt_r s0 tp) (nI (V + 1)) (nI p) (-1) k b nx fi pa wo ke nu le (nI L))) rfl rfl ?_
  refine rt_iload_n dX8_parseValue_19 rfl (j := 0) rfl ?_
  refine rt_aload_n dX8_parseValue_20 rfl (j := 1) rfl ?_
  refine rt_bGet Γ kf_RX8_67 dX8_parseValue_21 (L := (tx_L s0 ca t (rt_r s0 tp) (nI (V + 1)) (nI p) (-1) k b nx fi pa wo ke nu le (nI L))) rfl rfl ?_
  refine rt_callV Γ kk_X0_put kc_RX8_89 (c_X0_put Γ (d := d - 1) (rt_bk_C (t := t) (L := (tx_L s0 ca t (rt_r s0 tp) (nI (V + 1)) (nI p) (-1) k b nx fi pa wo ke nu le (nI L))) 3 (Nat.le_of_ble_eq_true rfl) rfl rfl) (by decide)) (by omega) (by decide) (As := [.int (nI V), .int (nI p)]) (show (parseMethodDescriptor yX0_put.desc).map (fun q => q.parameters.length) = some 2 by decide +kernel) hok (Nat.le_of_ble_eq_true rfl) dX8_parseValue_24 (rt_bk_C (t := t) (L := (tx_L s0 ca t (rt_r s0 tp) (nI (V + 1)) (nI p) (-1) k b nx fi pa wo ke nu le (nI L))) 3 (Nat.le_of_ble_eq_true rfl) rfl rfl).1 rfl rfl rfl (rt_kr (st2 := []) rfl ?_) rt_kx
  refine rt_weq (w' := (rt_bk w t (tx_L s0 ca t (rt_r s0 tp) (nI (V + 1)) (nI p) (-1) k (cl_put 2073 b (nI V) (nI p)) nx fi pa wo ke nu le (nI L)))) (rt_bk_cs 3 (Nat.le_of_ble_eq_true rfl)) ?_
  refine rt_weq (w' := (rt_bk w t (tx_L s0 ca t (rt_r s0 tp) (nI (V + 1)) (nI p) (-1) k (upd b V (nI p)) nx fi pa wo ke nu le (nI L)))) (by rw [cl_putN hV (by decide)]) ?_
  refine rt_aload_n dX8_parseValue_27 rfl (j := 1) rfl ?_
  refine rt_bGet Γ kf_RX8_23 dX8_parseValue_28 (L := (tx_L s0 ca t (rt_r s0 tp) (nI (V + 1)) (nI p) (-1) k (upd b V (nI p)) nx fi pa wo ke nu le (nI L))) rfl rfl ?_
  refine rt_iload_n dX8_parseValue_31 rfl (j := 0) rfl ?_
  refine rt_iconst (v := (-1)) dX8_parseValue_32 (by decide) ?_
  refine rt_callV Γ kk_X0_put kc_RX8_89 (c_X0_put Γ (d := d - 1) (rt_bk_C (t := t) (L := (tx_L s0 ca t (rt_r s0 tp) (nI (V + 1)) (nI p) (-1) k (upd b V (nI p)) nx fi pa wo ke nu le (nI L))) 5 (Nat.le_of_ble_eq_true rfl) rfl rfl) (by decide)) (by omega) (by decide) (As := [.int (nI V), .int (-1)]) (show (parseMethodDescriptor yX0_put.desc).map (fun q => q.parameters.length) = some 2 by decide +kernel) hok (Nat.le_of_ble_eq_true rfl) dX8_parseValue_33 (rt_bk_C (t := t) (L := (tx_L s0 ca t (rt_r s0 tp) (nI (V + 1)) (nI p) (-1) k (upd b V (nI p)) nx fi pa wo ke nu le (nI L))) 5 (Nat.le_of_ble_eq_true rfl) rfl rfl).1 rfl rfl rfl (rt_kr (st2 := []) rfl ?_) rt_kx
  refine rt_weq (w' := (rt_bk w t (tx_L s0 ca t (rt_r s0 tp) (nI (V + 1)) (nI p) (-1) k (upd b V (nI p)) (cl_put 2073 nx (nI V) (-1)) fi pa wo ke nu le (nI L)))) (rt_bk_cs 5 (Nat.le_of_ble_eq_true rfl)) ?_
  refine rt_weq (w' := (rt_bk w t (tx_L s0 ca t (rt_r s0 tp) (nI (V + 1)) (nI p) (-1) k (upd b V (nI p)) (upd nx V (-1)) fi pa wo ke nu le (nI L)))) (by rw [cl_putN hV (by decide)]) ?_
  refine rt_aload_n dX8_parseValue_36 rfl (j := 1) rfl ?_
  refine rt_bGet Γ kf_RX8_26 dX8_parseValue_37 (L := (tx_L s0 ca t (rt_r s0 tp) (nI (V + 1)) (nI p) (-1) k (upd b V (nI p)) (upd nx V (-1)) fi pa wo ke nu le (nI L))) rfl rfl ?_
  refine rt_iload_n dX8_parseValue_40 rfl (j := 0) rfl ?_
  refine rt_iconst (v := (-1)) dX8_parseValue_41 (by decide) ?_
  refine rt_callV Γ kk_X0_put kc_RX8_89 (c_X0_put Γ (d := d - 1) (rt_bk_C (t := t) (L := (tx_L s0 ca t (rt_r s0 tp) (nI (V + 1)) (nI p) (-1) k (upd b V (nI p)) (upd nx V (-1)) fi pa wo ke nu le (nI L))) 7 (Nat.le_of_ble_eq_true rfl) rfl rfl) (by decide)) (by omega) (by decide) (As := [.int (nI V), .int (-1)]) (show (parseMethodDescriptor yX0_put.desc).map (fun q => q.parameters.length) = some 2 by decide +kernel) hok (Nat.le_of_ble_eq_true rfl) dX8_parseValue_42 (rt_bk_C (t := t) (L := (tx_L s0 ca t (rt_r s0 tp) (nI (V + 1)) (nI p) (-1) k (upd b V (nI p)) (upd nx V (-1)) fi pa wo ke nu le (nI L))) 7 (Nat.le_of_ble_eq_true rfl) rfl rfl).1 rfl rfl rfl (rt_kr (st2 := []) rfl ?_) rt_kx
  refine rt_weq (w' := (rt_bk w t (tx_L s0 ca t (rt_r s0 tp) (nI (V + 1)) (nI p) (-1) k (upd b V (nI p)) (upd nx V (-1)) (cl_put 2073 fi (nI V) (-1)) pa wo ke nu le (nI L)))) (rt_bk_cs 7 (Nat.le_of_ble_eq_true rfl)) ?_
  refine rt_weq (w' := (rt_bk w t (tx_L s0 ca t (rt_r s0 tp) (nI (V + 1)) (nI p) (-1) k (upd b V (nI p)) (upd nx V (-1)) (upd fi V (-1)) pa wo ke nu le (nI L)))) (by rw [cl_putN hV (by decide)]) ?_
  refine rt_aload_n dX8_parseValue_45 rfl (j := 1) rfl ?_
  refine rt_bGet Γ kf_RX8_29 dX8_parseValue_46 (L := (tx_L s0 ca t (rt_r s0 tp) (nI (V + 1)) (nI p) (-1) k (upd b V (nI p)) (upd nx V (-1)) (upd fi V (-1)) pa wo ke nu le (nI L))) rfl rfl ?_
  refine rt_iload_n dX8_parseValue_49 rfl (j := 0) rfl ?_
  refine rt_iconst (v := 0) dX8_parseValue_50 (by decide) ?_
  refine rt_callV Γ kk_X0_put kc_RX8_89 (c_X0_put Γ (d := d - 1) (rt_bk_C (t := t) (L := (tx_L s0 ca t (rt_r s0 tp) (nI (V + 1)) (nI p) (-1) k (upd b V (nI p)) (upd nx V (-1)) (upd fi V (-1)) pa wo ke nu le (nI L))) 9 (Nat.le_of_ble_eq_true rfl) rfl rfl) (by decide)) (by omega) (by decide) (As := [.int (nI V), .int 0]) (show (parseMethodDescriptor yX0_put.desc).map (fun q => q.parameters.length) = some 2 by decide +kernel) hok (Nat.le_of_ble_eq_true rfl) dX8_parseValue_51 (rt_bk_C (t := t) (L := (tx_L s0 ca t (rt_r s0 tp) (nI (V + 1)) (nI p) (-1) k (upd b V (nI p)) (upd nx V (-1)) (upd fi V (-1)) pa wo ke nu le (nI L))) 9 (Nat.le_of_ble_eq_true rfl) rfl rfl).1 rfl rfl rfl (rt_kr (st2 := []) rfl ?_) rt_kx
  refine rt_weq (w' := (rt_bk w t (tx_L s0 ca t (rt_r s0 tp) (nI (V + 1)) (nI p) (-1) k (upd b V (nI p)) (upd nx V (-1)) (upd fi V (-1)) (cl_put 2073 pa (nI V) 0) wo ke nu le (nI L)))) (rt_bk_cs 9 (Nat.le_of_ble_eq_true rfl)) ?_
  refine rt_weq (w' := (rt_bk w t (tx_L s0 ca t (rt_r s0 tp) (nI (V + 1)) (nI p) (-1) k (upd b V (nI p)) (upd nx V (-1)) (upd fi V (-1)) (upd pa V 0) wo ke nu le (nI L)))) (by rw [cl_putN hV (by decide)]) ?_
  refine rt_aload_n dX8_parseValue_54 rfl (j := 1) rfl ?_
  refine rt_bGet Γ kf_RX8_57 dX8_parseValue_55 (L := (tx_L s0 ca t (rt_r s0 tp) (nI (V + 1)) (nI p) (-1) k (upd b V (nI p)) (upd nx V (-1)) (upd fi V (-1)) (upd pa V 0) wo ke nu le (nI L))) rfl rfl ?_
  refine rt_aload_n dX8_parseValue_58 rfl (j := 1) rfl ?_
  refine rt_bGet Γ kf_RX8_67 dX8_parseValue_59 (L := (tx_L s0 ca t (rt_r s0 tp) (nI (V + 1)) (nI p) (-1) k (upd b V (nI p)) (upd nx V (-1)) (upd fi V (-1)) (upd pa V 0) wo ke nu le (nI L))) rfl rfl ?_
  refine rt_callV Γ kk_X0_peek kc_RX8_86 (c_X0_peek Γ (d := d - 1) (x := (nI p)) (hT.bk htp) hn) (by omega) (by decide) (As := [.int (nI p)]) (show (parseMethodDescriptor yX0_peek.desc).map (fun q => q.parameters.length) = some 1 by decide +kernel) hok (Nat.le_of_ble_eq_true rfl) dX8_parseValue_62 (hT.bk htp).1 rfl rfl rfl (rt_kr (st2 := [.int (cl_peek n f u (nI p))]) rfl ?_) rt_kx
  refine rt_te (y := g p) (hg p (by omega)) ?_
  refine rt_istore_n (lv' := [(3, .int (g p)), (2, .int (nI V)), (0, rt_r s0 t), (1, .int (nI dp))]) dX8_parseValue_65 rfl (by decide) rfl ?_
  refine rt_iload_n dX8_parseValue_66 rfl (j := 0) rfl ?_
  refine rt_bipush (v := 123) dX8_parseValue_67 (by decide) ?_
  refine rt_icmp_ne (tgt := 92) dX8_parseValue_69 (by decide) (fun _ => ?_) (fun c69 => absurd c69 n1)
  refine rt_iload_n dX8_parseValue_92 rfl (j := 0) rfl ?_
  refine rt_bipush (v := 91) dX8_parseValue_93 (by decide) ?_
  refine rt_icmp_ne (tgt := 118) dX8_parseValue_95 (by decide) (fun _ => ?_) (fun c95 => absurd c95 n2)
  refine rt_iload_n dX8_parseValue_118 rfl (j := 0) rfl ?_
  refine rt_bipush (v := 34) dX8_parseValue_119 (by decide) ?_
  refine rt_icmp_ne (tgt := 148) dX8_parseValue_121 (by decide) (fun _ => ?_) (fun c121 => absurd c121 n3)
  refine rt_iload_n dX8_parseValue_148 rfl (j := 0) rfl ?_
  refine rt_bipush (v := 116) dX8_parseValue_149 (by decide) ?_
  refine rt_icmp_ne (tgt := 165) dX8_parseValue_151 (by decide) (fun _ => ?_) (fun c151 => absurd c151 n4)
  refine rt_iload_n dX8_parseValue_165 rfl (j := 0) rfl ?_
  refine rt_bipush (v := 102) dX8_parseValue_166 (by decide) ?_
  refine rt_icmp_ne (tgt := 183) dX8_parseValue_168 (by decide) (fun _ => ?_) (fun c168 => absurd c168 n5)
  refine rt_iload_n dX8_parseValue_183 rfl (j := 0) rfl ?_
  refine rt_bipush (v := 110) dX8_parseValue_184 (by decide) ?_
  refine rt_icmp_ne (tgt := 201) dX8_parseValue_186 (by decide) (fun _ => ?_) (fun c186 => absurd c186 n6)
  refine rt_aload_n dX8_parseValue_201 rfl (j := 2) rfl ?_
  refine rt_bGet Γ kf_RX8_16 dX8_parseValue_202 (L := (tx_L s0 ca t (rt_r s0 tp) (nI (V + 1)) (nI p) (-1) k (upd b V (nI p)) (upd nx V (-1)) (upd fi V (-1)) (upd pa V 0) wo ke nu le (nI L))) rfl rfl ?_
  refine rt_iload_n dX8_parseValue_205 rfl (j := 1) rfl ?_
  refine rt_iconst (v := 4) dX8_parseValue_206 (by decide) ?_
  refine rt_callV Γ kk_X0_put kc_RX8_89 (c_X0_put Γ (d := d - 1) (rt_bk_C (t := t) (L := (tx_L s0 ca t (rt_r s0 tp) (nI (V + 1)) (nI p) (-1) k (upd b V (nI p)) (upd nx V (-1)) (upd fi V (-1)) (upd pa V 0) wo ke nu le (nI L))) 1 (Nat.le_of_ble_eq_true rfl) rfl rfl) (by decide)) (by omega) (by decide) (As := [.int (nI V), .int 4]) (show (parseMethodDescriptor yX0_put.desc).map (fun q => q.parameters.length) = some 2 by decide +kernel) hok (Nat.le_of_ble_eq_true rfl) dX8_parseValue_207 (rt_bk_C (t := t) (L := (tx_L s0 ca t (rt_r s0 tp) (nI (V + 1)) (nI p) (-1) k (upd b V (nI p)) (upd nx V (-1)) (upd fi V (-1)) (upd pa V 0) wo ke nu le (nI L))) 1 (Nat.le_of_ble_eq_true rfl) rfl rfl).1 rfl rfl rfl (rt_kr (st2 := []) rfl ?_) rt_kx
  refine rt_weq (w' := (rt_bk w t (tx_L s0 ca t (rt_r s0 tp) (nI (V + 1)) (nI p) (-1) (cl_put 2073 k (nI V) 4) (upd b V (nI p)) (upd nx V (-1)) (upd fi V (-1)) (upd pa V 0) wo ke nu le (nI L)))) (rt_bk_cs 1 (Nat.le_of_ble_eq_true rfl)) ?_
  refine rt_weq (w' := (rt_bk w t (tx_L s0 ca t (rt_r s0 tp) (nI (V + 1)) (nI p) (-1) (upd k V 4) (upd b V (nI p)) (upd nx V (-1)) (upd fi V (-1)) (upd pa V 0) wo ke nu le (nI L)))) (by rw [cl_putN hV (by decide)]) ?_
  refine rt_aload_n dX8_parseValue_210 rfl (j := 2) rfl ?_
  refine rt_iload_n dX8_parseValue_211 rfl (j := 1) rfl ?_
  refine rt_callV Γ kk_X8_parseNumber kc_RX8_110 (j_num11 Γ (d := d - 1) (by omega) hT hn htp hg hok (by omega) hV hm hz) (by omega) (by decide) (As := [.int (nI V)]) (show (parseMethodDescriptor yX8_parseNumber.desc).map (fun q => q.parameters.length) = some 1 by decide +kernel) hok (Nat.le_of_ble_eq_true rfl) dX8_parseValue_212 ((rt_bk_0 w t (tx_L s0 ca t (rt_r s0 tp) (nI (V + 1)) (nI p) (-1) (upd k V 4) (upd b V (nI p)) (upd nx V (-1)) (upd fi V (-1)) (upd pa V 0) wo ke nu le (nI L)) (Nat.le_of_ble_eq_true rfl)).trans rfl) rfl rfl rfl (rt_kr (st2 := []) rfl ?_) rt_kx
  refine rt_iload_n dX8_parseValue_215 rfl (j := 1) rfl ?_
  exact rt_iret dX8_parseValue_216 rfl (⟨rfl, _, _, _, _, _, _, _, _, _, _, _, _, rfl⟩)
set_option maxRecDepth 100000 in
theorem jv_n1F {l : Launch} {s0 : State} {a0 : Array Value} {G : va_G} {ca : Nat → ClassId} (Γ : rt_Γ l s0 a0 G ca) {d : Nat} {w : rt_Wd} {t : Nat} {k : Nat → Int32} {b : Nat → Int32} {nx : Nat → Int32} {fi : Nat → Int32} {pa : Nat → Int32} {wo : Nat → Int32} {ke : Nat → Int32} {nu : Nat → Int64} {le : Nat → Int32} (hd : 3 ≤ d) {tp n : Nat} {f : Nat → Int32} {u : Int32} {g : Nat → Int32} (hT : rt_C s0 ca w tp n f u) (hn : n < 2 ^ 31) (htp : tp + 1 < t ∨ t + 18 ≤ tp) (hg : ∀ p : Nat, p < 65536 → cl_peek n f u (nI p) = g p) (hok : rt_ok w) {p V L N dp : Nat} (hN : jT g N) (hp : p ≤ N) (hVp : V ≤ p) (hLp : L ≤ p) (n1 : ¬ g p = 123) (n2 : ¬ g p = 91) (n3 : ¬ g p = 34) (n4 : ¬ g p = 116) (n5 : ¬ g p = 102) (n6 : ¬ g p = 110) (hm : g p = 45) (hz : jDgt (g (p + 1))) {q : Nat} {i1 : Int32} {s1 : Int64} (hr : jDig g (-9223372036854775808) (if g (p + 1) = 48 then 1 else 4096) (p + 1) 1 0 = (q, i1, s1)) (hi : i1 = 0) : rt_Met l s0 G (.code yX8_parseValue cX8_parseValue 4 (Option.some FieldType.int)) yX8_parseValue d [rt_r s0 t, .int (nI dp)] (rt_bk w t (tx_L s0 ca t (rt_r s0 tp) (nI V) (nI p) (-1) k b nx fi pa wo ke nu le (nI L))) (fun r w1 => r = .inl (some (.int (nI V))) ∧ tx_B s0 ca w t tp p w1) := by
  refine rt_met Γ kk_X8_parseValue rfl (Nat.le_of_ble_eq_true rfl) rfl ?_
  have hN0 := hN.1
  have hV : V < 2073 := by omega
  refine rt_aload_n dX8_parseValue_0 rfl (j := 0) rfl ?_
  refine rt_bGet Γ kf_RX8_63 dX8_parseValue_1 (L := (tx_L s0 ca t (rt_r s0 tp) (nI V) (nI p) (-1) k b nx fi pa wo ke nu le (nI L))) rfl rfl ?_
  refine rt_istore_n (lv' := [(2, .int (nI V)), (0, rt_r s0 t), (1, .int (nI dp))]) dX8_parseValue_4 rfl (by decide) rfl ?_
  refine rt_aload_n dX8_parseValue_5 rfl (j := 1) rfl ?_
  refine rt_dup dX8_parseValue_6 rfl ?_
  refine rt_bGet Γ kf_RX8_63 dX8_parseValue_7 (L := (tx_L s0 ca t (rt_r s0 tp) (nI V) (nI p) (-1) k b nx fi pa wo ke nu le (nI L))) rfl rfl ?_
  refine rt_iconst (v := 1) dX8_parseValue_10 (by decide) ?_
  refine rt_iadd dX8_parseValue_11 ?_
  refine rt_te (y := nI (V + 1)) (nI_1 V) ?_
  refine rt_bPut Γ kp_RX8_63 dX8_parseValue_12 (L := (tx_L s0 ca t (rt_r s0 tp) (nI V) (nI p) (-1) k b nx fi pa wo ke nu le (nI L))) rfl (Nat.le_of_ble_eq_true rfl) rfl rfl (L' := (tx_L s0 ca t (rt_r s0 tp) (nI (V + 1)) (nI p) (-1) k b nx fi pa wo ke nu le (nI L))) rfl ?_
  refine rt_aload_n dX8_parseValue_15 rfl (j := 1) rfl ?_
  refine rt_bGet Γ kf_RX8_20 dX8_parseValue_16 (L := (tx_L s0 ca t (rt_r s0 tp) (nI (V + 1)) (nI p) (-1) k b nx fi pa wo ke nu le (nI L))) rfl rfl ?_
  refine rt_iload_n dX8_parseValue_19 rfl (j := 0) rfl ?_
  refine rt_aload_n dX8_parseValue_20 rfl (j := 1) rfl ?_
  refine rt_bGet Γ kf_RX8_67 dX8_parseValue_21 (L := (tx_L s0 ca t (rt_r s0 tp) (nI (V + 1)) (nI p) (-1) k b nx fi pa wo ke nu le (nI L))) rfl rfl ?_
  refine rt_callV Γ kk_X0_put kc_RX8_89 (c_X0_put Γ (d := d - 1) (rt_bk_C (t := t) (L := (tx_L s0 ca t (rt_r s0 tp) (nI (V + 1)) (nI p) (-1) k b nx fi pa wo ke nu le (nI L))) 3 (Nat.le_of_ble_eq_true rfl) rfl rfl) (by decide)) (by omega) (by decide) (As := [.int (nI V), .int (nI p)]) (show (parseMethodDescriptor yX0_put.desc).map (fun q => q.parameters.length) = some 2 by decide +kernel) hok (Nat.le_of_ble_eq_true rfl) dX8_parseValue_24 (rt_bk_C (t := t) (L := (tx_L s0 ca t (rt_r s0 tp) (nI (V + 1)) (nI p) (-1) k b nx fi pa wo ke nu le (nI L))) 3 (Nat.le_of_ble_eq_true rfl) rfl rfl).1 rfl rfl rfl (rt_kr (st2 := []) rfl ?_) rt_kx
  refine rt_weq (w' := (rt_bk w t (tx_L s0 ca t (rt_r s0 tp) (nI (V + 1)) (nI p) (-1) k (cl_put 2073 b (nI V) (nI p)) nx fi pa wo ke nu le (nI L)))) (rt_bk_cs 3 (Nat.le_of_ble_eq_true rfl)) ?_
  refine rt_weq (w' := (rt_bk w t (tx_L s0 ca t (rt_r s0 tp) (nI (V + 1)) (nI p) (-1) k (upd b V (nI p)) nx fi pa wo ke nu le (nI L)))) (by rw [cl_putN hV (by decide)]) ?_
  refine rt_aload_n dX8_parseValue_27 rfl (j := 1) rfl ?_
  refine rt_bGet Γ kf_RX8_23 dX8_parseValue_28 (L := (tx_L s0 ca t (rt_r s0 tp) (nI (V + 1)) (nI p) (-1) k (upd b V (nI p)) nx fi pa wo ke nu le (nI L))) rfl rfl ?_
  refine rt_iload_n dX8_parseValue_31 rfl (j := 0) rfl ?_
  refine rt_iconst (v := (-1)) dX8_parseValue_32 (by decide) ?_
  refine rt_callV Γ kk_X0_put kc_RX8_89 (c_X0_put Γ (d := d - 1) (rt_bk_C (t := t) (L := (tx_L s0 ca t (rt_r s0 tp) (nI (V + 1)) (nI p) (-1) k (upd b V (nI p)) nx fi pa wo ke nu le (nI L))) 5 (Nat.le_of_ble_eq_true rfl) rfl rfl) (by decide)) (by omega) (by decide) (As := [.int (nI V), .int (-1)]) (show (parseMethodDescriptor yX0_put.desc).map (fun q => q.parameters.length) = some 2 by decide +kernel) hok (Nat.le_of_ble_eq_true rfl) dX8_parseValue_33 (rt_bk_C (t := t) (L := (tx_L s0 ca t (rt_r s0 tp) (nI (V + 1)) (nI p) (-1) k (upd b V (nI p)) nx fi pa wo ke nu le (nI L))) 5 (Nat.le_of_ble_eq_true rfl) rfl rfl).1 rfl rfl rfl (rt_kr (st2 := []) rfl ?_) rt_kx
  refine rt_weq (w' := (rt_bk w t (tx_L s0 ca t (rt_r s0 tp) (nI (V + 1)) (nI p) (-1) k (upd b V (nI p)) (cl_put 2073 nx (nI V) (-1)) fi pa wo ke nu le (nI L)))) (rt_bk_cs 5 (Nat.le_of_ble_eq_true rfl)) ?_
  refine rt_weq (w' := (rt_bk w t (tx_L s0 ca t (rt_r s0 tp) (nI (V + 1)) (nI p) (-1) k (upd b V (nI p)) (upd nx V (-1)) fi pa wo ke nu le (nI L)))) (by rw [cl_putN hV (by decide)]) ?_
  refine rt_aload_n dX8_parseValue_36 rfl (j := 1) rfl ?_
  refine rt_bGet Γ kf_RX8_26 dX8_parseValue_37 (L := (tx_L s0 ca t (rt_r s0 tp) (nI (V + 1)) (nI p) (-1) k (upd b V (nI p)) (upd nx V (-1)) fi pa wo ke nu le (nI L))) rfl rfl ?_
  refine rt_iload_n dX8_parseValue_40 rfl (j := 0) rfl ?_
  refine rt_iconst (v := (-1)) dX8_parseValue_41 (by decide) ?_
  refine rt_callV Γ kk_X0_put kc_RX8_89 (c_X0_put Γ (d := d - 1) (rt_bk_C (t := t) (L := (tx_L s0 ca t (rt_r s0 tp) (nI (V + 1)) (nI p) (-1) k (upd b V (nI p)) (upd nx V (-1)) fi pa wo ke nu le (nI L))) 7 (Nat.le_of_ble_eq_true rfl) rfl rfl) (by decide)) (by omega) (by decide) (As := [.int (nI V), .int (-1)]) (show (parseMethodDescriptor yX0_put.desc).map (fun q => q.parameters.length) = some 2 by decide +kernel) hok (Nat.le_of_ble_eq_true rfl) dX8_parseValue_42 (rt_bk_C (t := t) (L := (tx_L s0 ca t (rt_r s0 tp) (nI (V + 1)) (nI p) (-1) k (upd b V (nI p)) (upd nx V (-1)) fi pa wo ke nu le (nI L))) 7 (Nat.le_of_ble_eq_true rfl) rfl rfl).1 rfl rfl rfl (rt_kr (st2 := []) rfl ?_) rt_kx
  refine rt_weq (w' := (rt_bk w t (tx_L s0 ca t (rt_r s0 tp) (nI (V + 1)) (nI p) (-1) k (upd b V (nI p)) (upd nx V (-1)) (cl_put 2073 fi (nI V) (-1)) pa wo ke nu le (nI L)))) (rt_bk_cs 7 (Nat.le_of_ble_eq_true rfl)) ?_
  refine rt_weq (w' := (rt_bk w t (tx_L s0 ca t (rt_r s0 tp) (nI (V + 1)) (nI p) (-1) k (upd b V (nI p)) (upd nx V (-1)) (upd fi V (-1)) pa wo ke nu le (nI L)))) (by rw [cl_putN hV (by decide)]) ?_
  refine rt_aload_n dX8_parseValue_45 rfl (j := 1) rfl ?_
  refine rt_bGet Γ kf_RX8_29 dX8_parseValue_46 (L := (tx_L s0 ca t (rt_r s0 tp) (nI (V + 1)) (nI p) (-1) k (upd b V (nI p)) (upd nx V (-1)) (upd fi V (-1)) pa wo ke nu le (nI L))) rfl rfl ?_
  refine rt_iload_n dX8_parseValue_49 rfl (j := 0) rfl ?_
  refine rt_iconst (v := 0) dX8_parseValue_50 (by decide) ?_
  refine rt_callV Γ kk_X0_put kc_RX8_89 (c_X0_put Γ (d := d - 1) (rt_bk_C (t := t) (L := (tx_L s0 ca t (rt_r s0 tp) (nI (V + 1)) (nI p) (-1) k (upd b V (nI p)) (upd nx V (-1)) (upd fi V (-1)) pa wo ke nu le (nI L))) 9 (Nat.le_of_ble_eq_true rfl) rfl rfl) (by decide)) (by omega) (by decide) (As := [.int (nI V), .int 0]) (show (parseMethodDescriptor yX0_put.desc).map (fun q => q.parameters.length) = some 2 by decide +kernel) hok (Nat.le_of_ble_eq_true rfl) dX8_parseValue_51 (rt_bk_C (t := t) (L := (tx_L s0 ca t (rt_r s0 tp) (nI (V + 1)) (nI p) (-1) k (upd b V (nI p)) (upd nx V (-1)) (upd fi V (-1)) pa wo ke nu le (nI L))) 9 (Nat.le_of_ble_eq_true rfl) rfl rfl).1 rfl rfl rfl (rt_kr (st2 := []) rfl ?_) rt_kx
  refine rt_weq (w' := (rt_bk w t (tx_L s0 ca t (rt_r s0 tp) (nI (V + 1)) (nI p) (-1) k (upd b V (nI p)) (upd nx V (-1)) (upd fi V (-1)) (cl_put 2073 pa (nI V) 0) wo ke nu le (nI L)))) (rt_bk_cs 9 (Nat.le_of_ble_eq_true rfl)) ?_
  refine rt_weq (w' := (rt_bk w t (tx_L s0 ca t (rt_r s0 tp) (nI (V + 1)) (nI p) (-1) k (upd b V (nI p)) (upd nx V (-1)) (upd fi V (-1)) (upd pa V 0) wo ke nu le (nI L)))) (by rw [cl_putN hV (by decide)]) ?_
  refine rt_aload_n dX8_parseValue_54 rfl (j := 1) rfl ?_
  refine rt_bGet Γ kf_RX8_57 dX8_parseValue_55 (L := (tx_L s0 ca t (rt_r s0 tp) (nI (V + 1)) (nI p) (-1) k (upd b V (nI p)) (upd nx V (-1)) (upd fi V (-1)) (upd pa V 0) wo ke nu le (nI L))) rfl rfl ?_
  refine rt_aload_n dX8_parseValue_58 rfl (j := 1) rfl ?_
  refine rt_bGet Γ kf_RX8_67 dX8_parseValue_59 (L := (tx_L s0 ca t (rt_r s0 tp) (nI (V + 1)) (nI p) (-1) k (upd b V (nI p)) (upd nx V (-1)) (upd fi V (-1)) (upd pa V 0) wo ke nu le (nI L))) rfl rfl ?_
  refine rt_callV Γ kk_X0_peek kc_RX8_86 (c_X0_peek Γ (d := d - 1) (x := (nI p)) (hT.bk htp) hn) (by omega) (by decide) (As := [.int (nI p)]) (show (parseMethodDescriptor yX0_peek.desc).map (fun q => q.parameters.length) = some 1 by decide +kernel) hok (Nat.le_of_ble_eq_true rfl) dX8_parseValue_62 (hT.bk htp).1 rfl rfl rfl (rt_kr (st2 := [.int (cl_peek n f u (nI p))]) rfl ?_) rt_kx
  refine rt_te (y := g p) (hg p (by omega)) ?_
  refine rt_istore_n (lv' := [(3, .int (g p)), (2, .int (nI V)), (0, rt_r s0 t), (1, .int (nI dp))]) dX8_parseValue_65 rfl (by decide) rfl ?_
  refine rt_iload_n dX8_parseValue_66 rfl (j := 0) rfl ?_
  refine rt_bipush (v := 123) dX8_parseValue_67 (by decide) ?_
  refine rt_icmp_ne (tgt := 92) dX8_parseValue_69 (by decide) (fun _ => ?_) (fun c69 => absurd c69 n1)
  refine rt_iload_n dX8_parseValue_92 rfl (j := 0) rfl ?_
  refine rt_bipush (v := 91) dX8_parseValue_93 (by decide) ?_
  refine rt_icmp_ne (tgt := 118) dX8_parseValue_95 (by decide) (fun _ => ?_) (fun c95 => absurd c95 n2)
  refine rt_iload_n dX8_parseValue_118 rfl (j := 0) rfl ?_
  refine rt_bipush (v := 34) dX8_parseValue_119 (by decide) ?_
  refine rt_icmp_ne (tgt := 148) dX8_parseValue_121 (by decide) (fun _ => ?_) (fun c121 => absurd c121 n3)
  refine rt_iload_n dX8_parseValue_148 rfl (j := 0) rfl ?_
  refine rt_bipush (v := 116) dX8_parseValue_149 (by decide) ?_
  refine rt_icmp_ne (tgt := 165) dX8_parseValue_151 (by decide) (fun _ => ?_) (fun c151 => absurd c151 n4)
  refine rt_iload_n dX8_parseValue_165 rfl (j := 0) rfl ?_
  refine rt_bipush (v := 102) dX8_parseValue_166 (by decide) ?_
  refine rt_icmp_ne (tgt := 183) dX8_parseValue_168 (by decide) (fun _ => ?_) (fun c168 => absurd c168 n5)
  refine rt_iload_n dX8_parseValue_183 rfl (j := 0) rfl ?_
  refine rt_bipush (v := 110) dX8_parseValue_184 (by decide) ?_
  refine rt_icmp_ne (tgt := 201) dX8_parseValue_186 (by decide) (fun _ => ?_) (fun c186 => absurd c186 n6)
  refine rt_aload_n dX8_parseValue_201 rfl (j := 2) rfl ?_
  refine rt_bGet Γ kf_RX8_16 dX8_parseValue_202 (L := (tx_L s0 ca t (rt_r s0 tp) (nI (V + 1)) (nI p) (-1) k (upd b V (nI p)) (upd nx V (-1)) (upd fi V (-1)) (upd pa V 0) wo ke nu le (nI L))) rfl rfl ?_
  refine rt_iload_n dX8_parseValue_205 rfl (j := 1) rfl ?_
  refine rt_iconst (v := 4) dX8_parseValue_206 (by decide) ?_
  refine rt_callV Γ kk_X0_put kc_RX8_89 (c_X0_put Γ (d := d - 1) (rt_bk_C (t := t) (L := (tx_L s0 ca t (rt_r s0 tp) (nI (V + 1)) (nI p) (-1) k (upd b V (nI p)) (upd nx V (-1)) (upd fi V (-1)) (upd pa V 0) wo ke nu le (nI L))) 1 (Nat.le_of_ble_eq_true rfl) rfl rfl) (by decide)) (by omega) (by decide) (As := [.int (nI V), .int 4]) (show (parseMethodDescriptor yX0_put.desc).map (fun q => q.parameters.length) = some 2 by decide +kernel) hok (Nat.le_of_ble_eq_true rfl) dX8_parseValue_207 (rt_bk_C (t := t) (L := (tx_L s0 ca t (rt_r s0 tp) (nI (V + 1)) (nI p) (-1) k (upd b V (nI p)) (upd nx V (-1)) (upd fi V (-1)) (upd pa V 0) wo ke nu le (nI L))) 1 (Nat.le_of_ble_eq_true rfl) rfl rfl).1 rfl rfl rfl (rt_kr (st2 := []) rfl ?_) rt_kx
  refine rt_weq (w' := (rt_bk w t (tx_L s0 ca t (rt_r s0 tp) (nI (V + 1)) (nI p) (-1) (cl_put 2073 k (nI V) 4) (upd b V (nI p)) (upd nx V (-1)) (upd fi V (-1)) (upd pa V 0) wo ke nu le (nI L)))) (rt_bk_cs 1 (Nat.le_of_ble_eq_true rfl)) ?_
  refine rt_weq (w' := (rt_bk w t (tx_L s0 ca t (rt_r s0 tp) (nI (V + 1)) (nI p) (-1) (upd k V 4) (upd b V (nI p)) (upd nx V (-1)) (upd fi V (-1)) (upd pa V 0) wo ke nu le (nI L)))) (by rw [cl_putN hV (by decide)]) ?_
  refine rt_aload_n dX8_parseValue_210 rfl (j := 2) rfl ?_
  refine rt_iload_n dX8_parseValue_211 rfl (j := 1) rfl ?_
  refine rt_callV Γ kk_X8_parseNumber kc_RX8_110 (j_num21 Γ (d := d - 1) (by omega) hT hn htp hg hok (by omega) hV hm hz hr hi) (by omega) (by decide) (As := [.int (nI V)]) (show (parseMethodDescriptor yX8_parseNumber.desc).map (fun q => q.parameters.length) = some 1 by decide +kernel) hok (Nat.le_of_ble_eq_true rfl) dX8_parseValue_212 ((rt_bk_0 w t (tx_L s0 ca t (rt_r s0 tp) (nI (V + 1)) (nI p) (-1) (upd k V 4) (upd b V (nI p)) (upd nx V (-1)) (upd fi V (-1)) (upd pa V 0) wo ke nu le (nI L)) (Nat.le_of_ble_eq_true rfl)).trans rfl) rfl rfl rfl (fun v9 w9 hq => ?_) (fun X w9 hq => nomatch hq.1)
  obtain ⟨e9, vals9, pos9, k9, b9, nx9, fi9, pa9, wo9, ke9, nu9, le9, lu9, rfl⟩ := hq
  cases e9
  show rt_Go l s0 G RX8 "parseValue" cX8_parseValue 4 (Option.some FieldType.int) [] d _ _ (212 + 3) [(3, .int (g p)), (2, .int (nI V)), (0, rt_r s0 t), (1, .int (nI dp))] [] (rt_bk w t (tx_L s0 ca t (rt_r s0 tp) vals9 pos9 (nI p) k9 b9 nx9 fi9 pa9 wo9 ke9 nu9 le9 lu9))
  refine rt_iload_n dX8_parseValue_215 rfl (j := 1) rfl ?_
  exact rt_iret dX8_parseValue_216 rfl (⟨rfl, _, _, _, _, _, _, _, _, _, _, _, _, rfl⟩)
set_option maxRecDepth 100000 in
theorem jv_n0 {l : Launch} {s0 : State} {a0 : Array Value} {G : va_G} {ca : Nat → ClassId} (Γ : rt_Γ l s0 a0 G ca) {d : Nat} {w : rt_Wd} {t : Nat} {k : Nat → Int32} {b : Nat → Int32} {nx : Nat → Int32} {fi : Nat → Int32} {pa : Nat → Int32} {wo : Nat → Int32} {ke : Nat → Int32} {nu : Nat → Int64} {le : Nat → Int32} (hd : 3 ≤ d) {tp n : Nat} {f : Nat → Int32} {u : Int32} {g : Nat → Int32} (hT : rt_C s0 ca w tp n f u) (hn : n < 2 ^ 31) (htp : tp + 1 < t ∨ t + 18 ≤ tp) (hg : ∀ p : Nat, p < 65536 → cl_peek n f u (nI p) = g p) (hok : rt_ok w) {p V L N dp : Nat} (hN : jT g N) (hp : p ≤ N) (hVp : V ≤ p) (hLp : L ≤ p) (n1 : ¬ g p = 123) (n2 : ¬ g p = 91) (n3 : ¬ g p = 34) (n4 : ¬ g p = 116) (n5 : ¬ g p = 102) (n6 : ¬ g p = 110) (hm : ¬ g p = 45) (hz : jDgt (g (p))) {q : Nat} {i1 : Int32} {s1 : Int64} (hr : jDig g (-9223372036854775807) (if g (p) = 48 then 1 else 4096) (p) 1 0 = (q, i1, s1)) (hi : ¬ i1 = 0) : rt_Met l s0 G (.code yX8_parseValue cX8_parseValue 4 (Option.some FieldType.int)) yX8_parseValue d [rt_r s0 t, .int (nI dp)] (rt_bk w t (tx_L s0 ca t (rt_r s0 tp) (nI V) (nI p) (-1) k b nx fi pa wo ke nu le (nI L))) (jVO s0 ca w t tp V L q k b nx fi pa wo ke nu le [(4, p, (-s1), [], none, 0, 1, false)]) := by
  refine rt_met Γ kk_X8_parseValue rfl (Nat.le_of_ble_eq_true rfl) rfl ?_
  have hN0 := hN.1
  have hV : V < 2073 := by omega
  refine rt_aload_n dX8_parseValue_0 rfl (j := 0) rfl ?_
  refine rt_bGet Γ kf_RX8_63 dX8_parseValue_1 (L := (tx_L s0 ca t (rt_r s0 tp) (nI V) (nI p) (-1) k b nx fi pa wo ke nu le (nI L))) rfl rfl ?_
  refine rt_istore_n (lv' := [(2, .int (nI V)), (0, rt_r s0 t), (1, .int (nI dp))]) dX8_parseValue_4 rfl (by decide) rfl ?_
  refine rt_aload_n dX8_parseValue_5 rfl (j := 1) rfl ?_
  refine rt_dup dX8_parseValue_6 rfl ?_
  refine rt_bGet Γ kf_RX8_63 dX8_parseValue_7 (L := (tx_L s0 ca t (rt_r s0 tp) (nI V) (nI p) (-1) k b nx fi pa wo ke nu le (nI L))) rfl rfl ?_
  refine rt_iconst (v := 1) dX8_parseValue_10 (by decide) ?_
  refine rt_iadd dX8_parseValue_11 ?_
  refine rt_te (y := nI (V + 1)) (nI_1 V) ?_
  refine rt_bPut Γ kp_RX8_63 dX8_parseValue_12 (L := (tx_L s0 ca t (rt_r s0 tp) (nI V) (nI p) (-1) k b nx fi pa wo ke nu le (nI L))) rfl (Nat.le_of_ble_eq_true rfl) rfl rfl (L' := (tx_L s0 ca t (rt_r s0 tp) (nI (V + 1)) (nI p) (-1) k b nx fi pa wo ke nu le (nI L))) rfl ?_
  refine rt_aload_n dX8_parseValue_15 rfl (j := 1) rfl ?_
  refine rt_bGet Γ kf_RX8_20 dX8_parseValue_16 (L := (tx_L s0 ca t (rt_r s0 tp) (nI (V + 1)) (nI p) (-1) k b nx fi pa wo ke nu le (nI L))) rfl rfl ?_
  refine rt_iload_n dX8_parseValue_19 rfl (j := 0) rfl ?_
  refine rt_aload_n dX8_parseValue_20 rfl (j := 1) rfl ?_
  refine rt_bGet Γ kf_RX8_67 dX8_parseValue_21 (L := (tx_L s0 ca t (rt_r s0 tp) (nI (V + 1)) (nI p) (-1) k b nx fi pa wo ke nu le (nI L))) rfl rfl ?_
  refine rt_callV Γ kk_X0_put kc_RX8_89 (c_X0_put Γ (d := d - 1) (rt_bk_C (t := t) (L := (tx_L s0 ca t (rt_r s0 tp) (nI (V + 1)) (nI p) (-1) k b nx fi pa wo ke nu le (nI L))) 3 (Nat.le_of_ble_eq_true rfl) rfl rfl) (by decide)) (by omega) (by decide) (As := [.int (nI V), .int (nI p)]) (show (parseMethodDescriptor yX0_put.desc).map (fun q => q.parameters.length) = some 2 by decide +kernel) hok (Nat.le_of_ble_eq_true rfl) dX8_parseValue_24 (rt_bk_C (t := t) (L := (tx_L s0 ca t (rt_r s0 tp) (nI (V + 1)) (nI p) (-1) k b nx fi pa wo ke nu le (nI L))) 3 (Nat.le_of_ble_eq_true rfl) rfl rfl).1 rfl rfl rfl (rt_kr (st2 := []) rfl ?_) rt_kx
  refine rt_weq (w' := (rt_bk w t (tx_L s0 ca t (rt_r s0 tp) (nI (V + 1)) (nI p) (-1) k (cl_put 2073 b (nI V) (nI p)) nx fi pa wo ke nu le (nI L)))) (rt_bk_cs 3 (Nat.le_of_ble_eq_true rfl)) ?_
  refine rt_weq (w' := (rt_bk w t (tx_L s0 ca t (rt_r s0 tp) (nI (V + 1)) (nI p) (-1) k (upd b V (nI p)) nx fi pa wo ke nu le (nI L)))) (by rw [cl_putN hV (by decide)]) ?_
  refine rt_aload_n dX8_parseValue_27 rfl (j := 1) rfl ?_
  refine rt_bGet Γ kf_RX8_23 dX8_parseValue_28 (L := (tx_L s0 ca t (rt_r s0 tp) (nI (V + 1)) (nI p) (-1) k (upd b V (nI p)) nx fi pa wo ke nu le (nI L))) rfl rfl ?_
  refine rt_iload_n dX8_parseValue_31 rfl (j := 0) rfl ?_
  refine rt_iconst (v := (-1)) dX8_parseValue_32 (by decide) ?_
  refine rt_callV Γ kk_X0_put kc_RX8_89 (c_X0_put Γ (d := d - 1) (rt_bk_C (t := t) (L := (tx_L s0 ca t (rt_r s0 tp) (nI (V + 1)) (nI p) (-1) k (upd b V (nI p)) nx fi pa wo ke nu le (nI L))) 5 (Nat.le_of_ble_eq_true rfl) rfl rfl) (by decide)) (by omega) (by decide) (As := [.int (nI V), .int (-1)]) (show (parseMethodDescriptor yX0_put.desc).map (fun q => q.parameters.length) = some 2 by decide +kernel) hok (Nat.le_of_ble_eq_true rfl) dX8_parseValue_33 (rt_bk_C (t := t) (L := (tx_L s0 ca t (rt_r s0 tp) (nI (V + 1)) (nI p) (-1) k (upd b V (nI p)) nx fi pa wo ke nu le (nI L))) 5 (Nat.le_of_ble_eq_true rfl) rfl rfl).1 rfl rfl rfl (rt_kr (st2 := []) rfl ?_) rt_kx
  refine rt_weq (w' := (rt_bk w t (tx_L s0 ca t (rt_r s0 tp) (nI (V + 1)) (nI p) (-1) k (upd b V (nI p)) (cl_put 2073 nx (nI V) (-1)) fi pa wo ke nu le (nI L)))) (rt_bk_cs 5 (Nat.le_of_ble_eq_true rfl)) ?_
  refine rt_weq (w' := (rt_bk w t (tx_L s0 ca t (rt_r s0 tp) (nI (V + 1)) (nI p) (-1) k (upd b V (nI p)) (upd nx V (-1)) fi pa wo ke nu le (nI L)))) (by rw [cl_putN hV (by decide)]) ?_
  refine rt_aload_n dX8_parseValue_36 rfl (j := 1) rfl ?_
  refine rt_bGet Γ kf_RX8_26 dX8_parseValue_37 (L := (tx_L s0 ca t (rt_r s0 tp) (nI (V + 1)) (nI p) (-1) k (upd b V (nI p)) (upd nx V (-1)) fi pa wo ke nu le (nI L))) rfl rfl ?_
  refine rt_iload_n dX8_parseValue_40 rfl (j := 0) rfl ?_
  refine rt_iconst (v := (-1)) dX8_parseValue_41 (by decide) ?_
  refine rt_callV Γ kk_X0_put kc_RX8_89 (c_X0_put Γ (d := d - 1) (rt_bk_C (t := t) (L := (tx_L s0 ca t (rt_r s0 tp) (nI (V + 1)) (nI p) (-1) k (upd b V (nI p)) (upd nx V (-1)) fi pa wo ke nu le (nI L))) 7 (Nat.le_of_ble_eq_true rfl) rfl rfl) (by decide)) (by omega) (by decide) (As := [.int (nI V), .int (-1)]) (show (parseMethodDescriptor yX0_put.desc).map (fun q => q.parameters.length) = some 2 by decide +kernel) hok (Nat.le_of_ble_eq_true rfl) dX8_parseValue_42 (rt_bk_C (t := t) (L := (tx_L s0 ca t (rt_r s0 tp) (nI (V + 1)) (nI p) (-1) k (upd b V (nI p)) (upd nx V (-1)) fi pa wo ke nu le (nI L))) 7 (Nat.le_of_ble_eq_true rfl) rfl rfl).1 rfl rfl rfl (rt_kr (st2 := []) rfl ?_) rt_kx
  refine rt_weq (w' := (rt_bk w t (tx_L s0 ca t (rt_r s0 tp) (nI (V + 1)) (nI p) (-1) k (upd b V (nI p)) (upd nx V (-1)) (cl_put 2073 fi (nI V) (-1)) pa wo ke nu le (nI L)))) (rt_bk_cs 7 (Nat.le_of_ble_eq_true rfl)) ?_
  refine rt_weq (w' := (rt_bk w t (tx_L s0 ca t (rt_r s0 tp) (nI (V + 1)) (nI p) (-1) k (upd b V (nI p)) (upd nx V (-1)) (upd fi V (-1)) pa wo ke nu le (nI L)))) (by rw [cl_putN hV (by decide)]) ?_
  refine rt_aload_n dX8_parseValue_45 rfl (j := 1) rfl ?_
  refine rt_bGet Γ kf_RX8_29 dX8_parseValue_46 (L := (tx_L s0 ca t (rt_r s0 tp) (nI (V + 1)) (nI p) (-1) k (upd b V (nI p)) (upd nx V (-1)) (upd fi V (-1)) pa wo ke nu le (nI L))) rfl rfl ?_
  refine rt_iload_n dX8_parseValue_49 rfl (j := 0) rfl ?_
  refine rt_iconst (v := 0) dX8_parseValue_50 (by decide) ?_
  refine rt_callV Γ kk_X0_put kc_RX8_89 (c_X0_put Γ (d := d - 1) (rt_bk_C (t := t) (L := (tx_L s0 ca t (rt_r s0 tp) (nI (V + 1)) (nI p) (-1) k (upd b V (nI p)) (upd nx V (-1)) (upd fi V (-1)) pa wo ke nu le (nI L))) 9 (Nat.le_of_ble_eq_true rfl) rfl rfl) (by decide)) (by omega) (by decide) (As := [.int (nI V), .int 0]) (show (parseMethodDescriptor yX0_put.desc).map (fun q => q.parameters.length) = some 2 by decide +kernel) hok (Nat.le_of_ble_eq_true rfl) dX8_parseValue_51 (rt_bk_C (t := t) (L := (tx_L s0 ca t (rt_r s0 tp) (nI (V + 1)) (nI p) (-1) k (upd b V (nI p)) (upd nx V (-1)) (upd fi V (-1)) pa wo ke nu le (nI L))) 9 (Nat.le_of_ble_eq_true rfl) rfl rfl).1 rfl rfl rfl (rt_kr (st2 := []) rfl ?_) rt_kx
  refine rt_weq (w' := (rt_bk w t (tx_L s0 ca t (rt_r s0 tp) (nI (V + 1)) (nI p) (-1) k (upd b V (nI p)) (upd nx V (-1)) (upd fi V (-1)) (cl_put 2073 pa (nI V) 0) wo ke nu le (nI L)))) (rt_bk_cs 9 (Nat.le_of_ble_eq_true rfl)) ?_
  refine rt_weq (w' := (rt_bk w t (tx_L s0 ca t (rt_r s0 tp) (nI (V + 1)) (nI p) (-1) k (upd b V (nI p)) (upd nx V (-1)) (upd fi V (-1)) (upd pa V 0) wo ke nu le (nI L)))) (by rw [cl_putN hV (by decide)]) ?_
  refine rt_aload_n dX8_parseValue_54 rfl (j := 1) rfl ?_
  refine rt_bGet Γ kf_RX8_57 dX8_parseValue_55 (L := (tx_L s0 ca t (rt_r s0 tp) (nI (V + 1)) (nI p) (-1) k (upd b V (nI p)) (upd nx V (-1)) (upd fi V (-1)) (upd pa V 0) wo ke nu le (nI L))) rfl rfl ?_
  refine rt_aload_n dX8_parseValue_58 rfl (j := 1) rfl ?_
  refine rt_bGet Γ kf_RX8_67 dX8_parseValue_59 (L := (tx_L s0 ca t (rt_r s0 tp) (nI (V + 1)) (nI p) (-1) k (upd b V (nI p)) (upd nx V (-1)) (upd fi V (-1)) (upd pa V 0) wo ke nu le (nI L))) rfl rfl ?_
  refine rt_callV Γ kk_X0_peek kc_RX8_86 (c_X0_peek Γ (d := d - 1) (x := (nI p)) (hT.bk htp) hn) (by omega) (by decide) (As := [.int (nI p)]) (show (parseMethodDescriptor yX0_peek.desc).map (fun q => q.parameters.length) = some 1 by decide +kernel) hok (Nat.le_of_ble_eq_true rfl) dX8_parseValue_62 (hT.bk htp).1 rfl rfl rfl (rt_kr (st2 := [.int (cl_peek n f u (nI p))]) rfl ?_) rt_kx
  refine rt_te (y := g p) (hg p (by omega)) ?_
  refine rt_istore_n (lv' := [(3, .int (g p)), (2, .int (nI V)), (0, rt_r s0 t), (1, .int (nI dp))]) dX8_parseValue_65 rfl (by decide) rfl ?_
  refine rt_iload_n dX8_parseValue_66 rfl (j := 0) rfl ?_
  refine rt_bipush (v := 123) dX8_parseValue_67 (by decide) ?_
  refine rt_icmp_ne (tgt := 92) dX8_parseValue_69 (by decide) (fun _ => ?_) (fun c69 => absurd c69 n1)
  refine rt_iload_n dX8_parseValue_92 rfl (j := 0) rfl ?_
  refine rt_bipush (v := 91) dX8_parseValue_93 (by decide) ?_
  refine rt_icmp_ne (tgt := 118) dX8_parseValue_95 (by decide) (fun _ => ?_) (fun c95 => absurd c95 n2)
  refine rt_iload_n dX8_parseValue_118 rfl (j := 0) rfl ?_
  refine rt_bipush (v := 34) dX8_parseValue_119 (by decide) ?_
  refine rt_icmp_ne (tgt := 148) dX8_parseValue_121 (by decide) (fun _ => ?_) (fun c121 => absurd c121 n3)
  refine rt_iload_n dX8_parseValue_148 rfl (j := 0) rfl ?_
  refine rt_bipush (v := 116) dX8_parseValue_149 (by decide) ?_
  refine rt_icmp_ne (tgt := 165) dX8_parseValue_151 (by decide) (fun _ => ?_) (fun c151 => absurd c151 n4)
  refine rt_iload_n dX8_parseValue_165 rfl (j := 0) rfl ?_
  refine rt_bipush (v := 102) dX8_parseValue_166 (by decide) ?_
  refine rt_icmp_ne (tgt := 183) dX8_parseValue_168 (by decide) (fun _ => ?_) (fun c168 => absurd c168 n5)
  refine rt_iload_n dX8_parseValue_183 rfl (j := 0) rfl ?_
  refine rt_bipush (v := 110) dX8_parseValue_184 (by decide) ?_
  refine rt_icmp_ne (tgt := 201) dX8_parseValue_186 (by decide) (fun _ => ?_) (fun c186 => absurd c186 n6)
  refine rt_aload_n dX8_parseValue_201 rfl (j := 2) rfl ?_
  refine rt_bGet Γ kf_RX8_16 dX8_parseValue_202 (L := (tx_L s0 ca t (rt_r s0 tp) (nI (V + 1)) (nI p) (-1) k (upd b V (nI p)) (upd nx V (-1)) (upd fi V (-1)) (upd pa V 0) wo ke nu le (nI L))) rfl rfl ?_
  refine rt_iload_n dX8_parseValue_205 rfl (j := 1) rfl ?_
  refine rt_iconst (v := 4) dX8_parseValue_206 (by decide) ?_
  refine rt_callV Γ kk_X0_put kc_RX8_89 (c_X0_put Γ (d := d - 1) (rt_bk_C (t := t) (L := (tx_L s0 ca t (rt_r s0 tp) (nI (V + 1)) (nI p) (-1) k (upd b V (nI p)) (upd nx V (-1)) (upd fi V (-1)) (upd pa V 0) wo ke nu le (nI L))) 1 (Nat.le_of_ble_eq_true rfl) rfl rfl) (by decide)) (by omega) (by decide) (As := [.int (nI V), .int 4]) (show (parseMethodDescriptor yX0_put.desc).map (fun q => q.parameters.length) = some 2 by decide +kernel) hok (Nat.le_of_ble_eq_true rfl) dX8_parseValue_207 (rt_bk_C (t := t) (L := (tx_L s0 ca t (rt_r s0 tp) (nI (V + 1)) (nI p) (-1) k (upd b V (nI p)) (upd nx V (-1)) (upd fi V (-1)) (upd pa V 0) wo ke nu le (nI L))) 1 (Nat.le_of_ble_eq_true rfl) rfl rfl).1 rfl rfl rfl (rt_kr (st2 := []) rfl ?_) rt_kx
  refine rt_weq (w' := (rt_bk w t (tx_L s0 ca t (rt_r s0 tp) (nI (V + 1)) (nI p) (-1) (cl_put 2073 k (nI V) 4) (upd b V (nI p)) (upd nx V (-1)) (upd fi V (-1)) (upd pa V 0) wo ke nu le (nI L)))) (rt_bk_cs 1 (Nat.le_of_ble_eq_true rfl)) ?_
  refine rt_weq (w' := (rt_bk w t (tx_L s0 ca t (rt_r s0 tp) (nI (V + 1)) (nI p) (-1) (upd k V 4) (upd b V (nI p)) (upd nx V (-1)) (upd fi V (-1)) (upd pa V 0) wo ke nu le (nI L)))) (by rw [cl_putN hV (by decide)]) ?_
  refine rt_aload_n dX8_parseValue_210 rfl (j := 2) rfl ?_
  refine rt_iload_n dX8_parseValue_211 rfl (j := 1) rfl ?_
  refine rt_callV Γ kk_X8_parseNumber kc_RX8_110 (j_num30 Γ (d := d - 1) (by omega) hT hn htp hg hok (by omega) hV hm hz hr hi) (by omega) (by decide) (As := [.int (nI V)]) (show (parseMethodDescriptor yX8_parseNumber.desc).map (fun q => q.parameters.length) = some 1 by decide +kernel) hok (Nat.le_of_ble_eq_true rfl) dX8_parseValue_212 ((rt_bk_0 w t (tx_L s0 ca t (rt_r s0 tp) (nI (V + 1)) (nI p) (-1) (upd k V 4) (upd b V (nI p)) (upd nx V (-1)) (upd fi V (-1)) (upd pa V 0) wo ke nu le (nI L)) (Nat.le_of_ble_eq_true rfl)).trans rfl) rfl rfl rfl (rt_kr (st2 := []) rfl ?_) rt_kx
  refine rt_iload_n dX8_parseValue_215 rfl (j := 1) rfl ?_
  refine rt_iret dX8_parseValue_216 rfl ⟨rfl, (upd k V 4), (upd b V (nI p)), (upd nx V (-1)), (upd fi V (-1)), (upd pa V 0), wo, ke, (vp_updL nu V (-s1)), le, ?_, (fun i hi => ⟨pk_un (by omega), pk_un (by omega), pk_un (by omega), pk_un (by omega), pk_un (by omega), rfl, rfl, pk_uLn (by omega)⟩), rfl, fun _ _ => rfl, jRep.one ⟨pk_us, pk_us, pk_us, pk_us, pk_us, (fun _ => pk_uLs), (fun c => absurd (show (4 : Nat) = 3 from c) (by decide)), (fun _ c => nomatch c)⟩⟩
  rw [jLw_l _ _ _ (by decide)]
  rfl
set_option maxRecDepth 100000 in
theorem jv_n0E {l : Launch} {s0 : State} {a0 : Array Value} {G : va_G} {ca : Nat → ClassId} (Γ : rt_Γ l s0 a0 G ca) {d : Nat} {w : rt_Wd} {t : Nat} {k : Nat → Int32} {b : Nat → Int32} {nx : Nat → Int32} {fi : Nat → Int32} {pa : Nat → Int32} {wo : Nat → Int32} {ke : Nat → Int32} {nu : Nat → Int64} {le : Nat → Int32} (hd : 3 ≤ d) {tp n : Nat} {f : Nat → Int32} {u : Int32} {g : Nat → Int32} (hT : rt_C s0 ca w tp n f u) (hn : n < 2 ^ 31) (htp : tp + 1 < t ∨ t + 18 ≤ tp) (hg : ∀ p : Nat, p < 65536 → cl_peek n f u (nI p) = g p) (hok : rt_ok w) {p V L N dp : Nat} (hN : jT g N) (hp : p ≤ N) (hVp : V ≤ p) (hLp : L ≤ p) (n1 : ¬ g p = 123) (n2 : ¬ g p = 91) (n3 : ¬ g p = 34) (n4 : ¬ g p = 116) (n5 : ¬ g p = 102) (n6 : ¬ g p = 110) (hm : ¬ g p = 45) (hz : ¬ jDgt (g (p))) : rt_Met l s0 G (.code yX8_parseValue cX8_parseValue 4 (Option.some FieldType.int)) yX8_parseValue d [rt_r s0 t, .int (nI dp)] (rt_bk w t (tx_L s0 ca t (rt_r s0 tp) (nI V) (nI p) (-1) k b nx fi pa wo ke nu le (nI L))) (fun r w1 => r = .inl (some (.int (nI V))) ∧ tx_B s0 ca w t tp (p) w1) := by
  refine rt_met Γ kk_X8_parseValue rfl (Nat.le_of_ble_eq_true rfl) rfl ?_
  have hN0 := hN.1
  have hV : V < 2073 := by omega
  refine rt_aload_n dX8_parseValue_0 rfl (j := 0) rfl ?_
  refine rt_bGet Γ kf_RX8_63 dX8_parseValue_1 (L := (tx_L s0 ca t (rt_r s0 tp) (nI V) (nI p) (-1) k b nx fi pa wo ke nu le (nI L))) rfl rfl ?_
  refine rt_istore_n (lv' := [(2, .int (nI V)), (0, rt_r s0 t), (1, .int (nI dp))]) dX8_parseValue_4 rfl (by decide) rfl ?_
  refine rt_aload_n dX8_parseValue_5 rfl (j := 1) rfl ?_
  refine rt_dup dX8_parseValue_6 rfl ?_
  refine rt_bGet Γ kf_RX8_63 dX8_parseValue_7 (L := (tx_L s0 ca t (rt_r s0 tp) (nI V) (nI p) (-1) k b nx fi pa wo ke nu le (nI L))) rfl rfl ?_
  refine rt_iconst (v := 1) dX8_parseValue_10 (by decide) ?_
  refine rt_iadd dX8_parseValue_11 ?_
  refine rt_te (y := nI (V + 1)) (nI_1 V) ?_
  refine rt_bPut Γ kp_RX8_63 dX8_parseValue_12 (L := (tx_L s0 ca t (rt_r s0 tp) (nI V) (nI p) (-1) k b nx fi pa wo ke nu le (nI L))) rfl (Nat.le_of_ble_eq_true rfl) rfl rfl (L' := (tx_L s0 ca t (rt_r s0 tp) (nI (V + 1)) (nI p) (-1) k b nx fi pa wo ke nu le (nI L))) rfl ?_
  refine rt_aload_n dX8_parseValue_15 rfl (j := 1) rfl ?_
  refine rt_bGet Γ kf_RX8_20 dX8_parseValue_16 (L := (tx_L s0 ca t (rt_r s0 tp) (nI (V + 1)) (nI p) (-1) k b nx fi pa wo ke nu le (nI L))) rfl rfl ?_
  refine rt_iload_n dX8_parseValue_19 rfl (j := 0) rfl ?_
  refine rt_aload_n dX8_parseValue_20 rfl (j := 1) rfl ?_
  refine rt_bGet Γ kf_RX8_67 dX8_parseValue_21 (L := (tx_L s0 ca t (rt_r s0 tp) (nI (V + 1)) (nI p) (-1) k b nx fi pa wo ke nu le (nI L))) rfl rfl ?_
  refine rt_callV Γ kk_X0_put kc_RX8_89 (c_X0_put Γ (d := d - 1) (rt_bk_C (t := t) (L := (tx_L s0 ca t (rt_r s0 tp) (nI (V + 1)) (nI p) (-1) k b nx fi pa wo ke nu le (nI L))) 3 (Nat.le_of_ble_eq_true rfl) rfl rfl) (by decide)) (by omega) (by decide) (As := [.int (nI V), .int (nI p)]) (show (parseMethodDescriptor yX0_put.desc).map (fun q => q.parameters.length) = some 2 by decide +kernel) hok (Nat.le_of_ble_eq_true rfl) dX8_parseValue_24 (rt_bk_C (t := t) (L := (tx_L s0 ca t (rt_r s0 tp) (nI (V + 1)) (nI p) (-1) k b nx fi pa wo ke nu le (nI L))) 3 (Nat.le_of_ble_eq_true rfl) rfl rfl).1 rfl rfl rfl (rt_kr (st2 := []) rfl ?_) rt_kx
  refine rt_weq (w' := (rt_bk w t (tx_L s0 ca t (rt_r s0 tp) (nI (V + 1)) (nI p) (-1) k (cl_put 2073 b (nI V) (nI p)) nx fi pa wo ke nu le (nI L)))) (rt_bk_cs 3 (Nat.le_of_ble_eq_true rfl)) ?_
  refine rt_weq (w' := (rt_bk w t (tx_L s0 ca t (rt_r s0 tp) (nI (V + 1)) (nI p) (-1) k (upd b V (nI p)) nx fi pa wo ke nu le (nI L)))) (by rw [cl_putN hV (by decide)]) ?_
  refine rt_aload_n dX8_parseValue_27 rfl (j := 1) rfl ?_
  refine rt_bGet Γ kf_RX8_23 dX8_parseValue_28 (L := (tx_L s0 ca t (rt_r s0 tp) (nI (V + 1)) (nI p) (-1) k (upd b V (nI p)) nx fi pa wo ke nu le (nI L))) rfl rfl ?_
  refine rt_iload_n dX8_parseValue_31 rfl (j := 0) rfl ?_
  refine rt_iconst (v := (-1)) dX8_parseValue_32 (by decide) ?_
  refine rt_callV Γ kk_X0_put kc_RX8_89 (c_X0_put Γ (d := d - 1) (rt_bk_C (t := t) (L := (tx_L s0 ca t (rt_r s0 tp) (nI (V + 1)) (nI p) (-1) k (upd b V (nI p)) nx fi pa wo ke nu le (nI L))) 5 (Nat.le_of_ble_eq_true rfl) rfl rfl) (by decide)) (by omega) (by decide) (As := [.int (nI V), .int (-1)]) (show (parseMethodDescriptor yX0_put.desc).map (fun q => q.parameters.length) = some 2 by decide +kernel) hok (Nat.le_of_ble_eq_true rfl) dX8_parseValue_33 (rt_bk_C (t := t) (L := (tx_L s0 ca t (rt_r s0 tp) (nI (V + 1)) (nI p) (-1) k (upd b V (nI p)) nx fi pa wo ke nu le (nI L))) 5 (Nat.le_of_ble_eq_true rfl) rfl rfl).1 rfl rfl rfl (rt_kr (st2 := []) rfl ?_) rt_kx
  refine rt_weq (w' := (rt_bk w t (tx_L s0 ca t (rt_r s0 tp) (nI (V + 1)) (nI p) (-1) k (upd b V (nI p)) (cl_put 2073 nx (nI V) (-1)) fi pa wo ke nu le (nI L)))) (rt_bk_cs 5 (Nat.le_of_ble_eq_true rfl)) ?_
  refine rt_weq (w' := (rt_bk w t (tx_L s0 ca t (rt_r s0 tp) (nI (V + 1)) (nI p) (-1) k (upd b V (nI p)) (upd nx V (-1)) fi pa wo ke nu le (nI L)))) (by rw [cl_putN hV (by decide)]) ?_
  refine rt_aload_n dX8_parseValue_36 rfl (j := 1) rfl ?_
  refine rt_bGet Γ kf_RX8_26 dX8_parseValue_37 (L := (tx_L s0 ca t (rt_r s0 tp) (nI (V + 1)) (nI p) (-1) k (upd b V (nI p)) (upd nx V (-1)) fi pa wo ke nu le (nI L))) rfl rfl ?_
  refine rt_iload_n dX8_parseValue_40 rfl (j := 0) rfl ?_
  refine rt_iconst (v := (-1)) dX8_parseValue_41 (by decide) ?_
  refine rt_callV Γ kk_X0_put kc_RX8_89 (c_X0_put Γ (d := d - 1) (rt_bk_C (t := t) (L := (tx_L s0 ca t (rt_r s0 tp) (nI (V + 1)) (nI p) (-1) k (upd b V (nI p)) (upd nx V (-1)) fi pa wo ke nu le (nI L))) 7 (Nat.le_of_ble_eq_true rfl) rfl rfl) (by decide)) (by omega) (by decide) (As := [.int (nI V), .int (-1)]) (show (parseMethodDescriptor yX0_put.desc).map (fun q => q.parameters.length) = some 2 by decide +kernel) hok (Nat.le_of_ble_eq_true rfl) dX8_parseValue_42 (rt_bk_C (t := t) (L := (tx_L s0 ca t (rt_r s0 tp) (nI (V + 1)) (nI p) (-1) k (upd b V (nI p)) (upd nx V (-1)) fi pa wo ke nu le (nI L))) 7 (Nat.le_of_ble_eq_true rfl) rfl rfl).1 rfl rfl rfl (rt_kr (st2 := []) rfl ?_) rt_kx
  refine rt_weq (w' := (rt_bk w t (tx_L s0 ca t (rt_r s0 tp) (nI (V + 1)) (nI p) (-1) k (upd b V (nI p)) (upd nx V (-1)) (cl_put 2073 fi (nI V) (-1)) pa wo ke nu le (nI L)))) (rt_bk_cs 7 (Nat.le_of_ble_eq_true rfl)) ?_
  refine rt_weq (w' := (rt_bk w t (tx_L s0 ca t (rt_r s0 tp) (nI (V + 1)) (nI p) (-1) k (upd b V (nI p)) (upd nx V (-1)) (upd fi V (-1)) pa wo ke nu le (nI L)))) (by rw [cl_putN hV (by decide)]) ?_
  refine rt_aload_n dX8_parseValue_45 rfl (j := 1) rfl ?_
  refine rt_bGet Γ kf_RX8_29 dX8_parseValue_46 (L := (tx_L s0 ca t (rt_r s0 tp) (nI (V + 1)) (nI p) (-1) k (upd b V (nI p)) (upd nx V (-1)) (upd fi V (-1)) pa wo ke nu le (nI L))) rfl rfl ?_
  refine rt_iload_n dX8_parseValue_49 rfl (j := 0) rfl ?_
  refine rt_iconst (v := 0) dX8_parseValue_50 (by decide) ?_
  refine rt_callV Γ kk_X0_put kc_RX8_89 (c_X0_put Γ (d := d - 1) (rt_bk_C (t := t) (L := (tx_L s0 ca t (rt_r s0 tp) (nI (V + 1)) (nI p) (-1) k (upd b V (nI p)) (upd nx V (-1)) (upd fi V (-1)) pa wo ke nu le (nI L))) 9 (Nat.le_of_ble_eq_true rfl) rfl rfl) (by decide)) (by omega) (by decide) (As := [.int (nI V), .int 0]) (show (parseMethodDescriptor yX0_put.desc).map (fun q => q.parameters.length) = some 2 by decide +kernel) hok (Nat.le_of_ble_eq_true rfl) dX8_parseValue_51 (rt_bk_C (t := t) (L := (tx_L s0 ca t (rt_r s0 tp) (nI (V + 1)) (nI p) (-1) k (upd b V (nI p)) (upd nx V (-1)) (upd fi V (-1)) pa wo ke nu le (nI L))) 9 (Nat.le_of_ble_eq_true rfl) rfl rfl).1 rfl rfl rfl (rt_kr (st2 := []) rfl ?_) rt_kx
  refine rt_weq (w' := (rt_bk w t (tx_L s0 ca t (rt_r s0 tp) (nI (V + 1)) (nI p) (-1) k (upd b V (nI p)) (upd nx V (-1)) (upd fi V (-1)) (cl_put 2073 pa (nI V) 0) wo ke nu le (nI L)))) (rt_bk_cs 9 (Nat.le_of_ble_eq_true rfl)) ?_
  refine rt_weq (w' := (rt_bk w t (tx_L s0 ca t (rt_r s0 tp) (nI (V + 1)) (nI p) (-1) k (upd b V (nI p)) (upd nx V (-1)) (upd fi V (-1)) (upd pa V 0) wo ke nu le (nI L)))) (by rw [cl_putN hV (by decide)]) ?_
  refine rt_aload_n dX8_parseValue_54 rfl (j := 1) rfl ?_
  refine rt_bGet Γ kf_RX8_57 dX8_parseValue_55 (L := (tx_L s0 ca t (rt_r s0 tp) (nI (V + 1)) (nI p) (-1) k (upd b V (nI p)) (upd nx V (-1)) (upd fi V (-1)) (upd pa V 0) wo ke nu le (nI L))) rfl rfl ?_
  refine rt_aload_n dX8_parseValue_58 rfl (j := 1) rfl ?_
  refine rt_bGet Γ kf_RX8_67 dX8_parseValue_59 (L := (tx_L s0 ca t (rt_r s0 tp) (nI (V + 1)) (nI p) (-1) k (upd b V (nI p)) (upd nx V (-1)) (upd fi V (-1)) (upd pa V 0) wo ke nu le (nI L))) rfl rfl ?_
  refine rt_callV Γ kk_X0_peek kc_RX8_86 (c_X0_peek Γ (d := d - 1) (x := (nI p)) (hT.bk htp) hn) (by omega) (by decide) (As := [.int (nI p)]) (show (parseMethodDescriptor yX0_peek.desc).map (fun q => q.parameters.length) = some 1 by decide +kernel) hok (Nat.le_of_ble_eq_true rfl) dX8_parseValue_62 (hT.bk htp).1 rfl rfl rfl (rt_kr (st2 := [.int (cl_peek n f u (nI p))]) rfl ?_) rt_kx
  refine rt_te (y := g p) (hg p (by omega)) ?_
  refine rt_istore_n (lv' := [(3, .int (g p)), (2, .int (nI V)), (0, rt_r s0 t), (1, .int (nI dp))]) dX8_parseValue_65 rfl (by decide) rfl ?_
  refine rt_iload_n dX8_parseValue_66 rfl (j := 0) rfl ?_
  refine rt_bipush (v := 123) dX8_parseValue_67 (by decide) ?_
  refine rt_icmp_ne (tgt := 92) dX8_parseValue_69 (by decide) (fun _ => ?_) (fun c69 => absurd c69 n1)
  refine rt_iload_n dX8_parseValue_92 rfl (j := 0) rfl ?_
  refine rt_bipush (v := 91) dX8_parseValue_93 (by decide) ?_
  refine rt_icmp_ne (tgt := 118) dX8_parseValue_95 (by decide) (fun _ => ?_) (fun c95 => absurd c95 n2)
  refine rt_iload_n dX8_parseValue_118 rfl (j := 0) rfl ?_
  refine rt_bipush (v := 34) dX8_parseValue_119 (by decide) ?_
  refine rt_icmp_ne (tgt := 148) dX8_parseValue_121 (by decide) (fun _ => ?_) (fun c121 => absurd c121 n3)
  refine rt_iload_n dX8_parseValue_148 rfl (j := 0) rfl ?_
  refine rt_bipush (v := 116) dX8_parseValue_149 (by decide) ?_
  refine rt_icmp_ne (tgt := 165) dX8_parseValue_151 (by decide) (fun _ => ?_) (fun c151 => absurd c151 n4)
  refine rt_iload_n dX8_parseValue_165 rfl (j := 0) rfl ?_
  refine rt_bipush (v := 102) dX8_parseValue_166 (by decide) ?_
  refine rt_icmp_ne (tgt := 183) dX8_parseValue_168 (by decide) (fun _ => ?_) (fun c168 => absurd c168 n5)
  refine rt_iload_n dX8_parseValue_183 rfl (j := 0) rfl ?_
  refine rt_bipush (v := 110) dX8_parseValue_184 (by decide) ?_
  refine rt_icmp_ne (tgt := 201) dX8_parseValue_186 (by decide) (fun _ => ?_) (fun c186 => absurd c186 n6)
  refine rt_aload_n dX8_parseValue_201 rfl (j := 2) rfl ?_
  refine rt_bGet Γ kf_RX8_16 dX8_parseValue_202 (L := (tx_L s0 ca t (rt_r s0 tp) (nI (V + 1)) (nI p) (-1) k (upd b V (nI p)) (upd nx V (-1)) (upd fi V (-1)) (upd pa V 0) wo ke nu le (nI L))) rfl rfl ?_
  refine rt_iload_n dX8_parseValue_205 rfl (j := 1) rfl ?_
  refine rt_iconst (v := 4) dX8_parseValue_206 (by decide) ?_
  refine rt_callV Γ kk_X0_put kc_RX8_89 (c_X0_put Γ (d := d - 1) (rt_bk_C (t := t) (L := (tx_L s0 ca t (rt_r s0 tp) (nI (V + 1)) (nI p) (-1) k (upd b V (nI p)) (upd nx V (-1)) (upd fi V (-1)) (upd pa V 0) wo ke nu le (nI L))) 1 (Nat.le_of_ble_eq_true rfl) rfl rfl) (by decide)) (by omega) (by decide) (As := [.int (nI V), .int 4]) (show (parseMethodDescriptor yX0_put.desc).map (fun q => q.parameters.length) = some 2 by decide +kernel) hok (Nat.le_of_ble_eq_true rfl) dX8_parseValue_207 (rt_bk_C (t := t) (L := (tx_L s0 ca t (rt_r s0 tp) (nI (V + 1)) (nI p) (-1) k (upd b V (nI p)) (upd nx V (-1)) (upd fi V (-1)) (upd pa V 0) wo ke nu le (nI L))) 1 (Nat.le_of_ble_eq_true rfl) rfl rfl).1 rfl rfl rfl (rt_kr (st2 := []) rfl ?_) rt_kx
  refine rt_weq (w' := (rt_bk w t (tx_L s0 ca t (rt_r s0 tp) (nI (V + 1)) (nI p) (-1) (cl_put 2073 k (nI V) 4) (upd b V (nI p)) (upd nx V (-1)) (upd fi V (-1)) (upd pa V 0) wo ke nu le (nI L)))) (rt_bk_cs 1 (Nat.le_of_ble_eq_true rfl)) ?_
  refine rt_weq (w' := (rt_bk w t (tx_L s0 ca t (rt_r s0 tp) (nI (V + 1)) (nI p) (-1) (upd k V 4) (upd b V (nI p)) (upd nx V (-1)) (upd fi V (-1)) (upd pa V 0) wo ke nu le (nI L)))) (by rw [cl_putN hV (by decide)]) ?_
  refine rt_aload_n dX8_parseValue_210 rfl (j := 2) rfl ?_
  refine rt_iload_n dX8_parseValue_211 rfl (j := 1) rfl ?_
  refine rt_callV Γ kk_X8_parseNumber kc_RX8_110 (j_num10 Γ (d := d - 1) (by omega) hT hn htp hg hok (by omega) hV hm hz) (by omega) (by decide) (As := [.int (nI V)]) (show (parseMethodDescriptor yX8_parseNumber.desc).map (fun q => q.parameters.length) = some 1 by decide +kernel) hok (Nat.le_of_ble_eq_true rfl) dX8_parseValue_212 ((rt_bk_0 w t (tx_L s0 ca t (rt_r s0 tp) (nI (V + 1)) (nI p) (-1) (upd k V 4) (upd b V (nI p)) (upd nx V (-1)) (upd fi V (-1)) (upd pa V 0) wo ke nu le (nI L)) (Nat.le_of_ble_eq_true rfl)).trans rfl) rfl rfl rfl (rt_kr (st2 := []) rfl ?_) rt_kx
  refine rt_iload_n dX8_parseValue_215 rfl (j := 1) rfl ?_
  exact rt_iret dX8_parseValue_216 rfl (⟨rfl, _, _, _, _, _, _, _, _, _, _, _, _, rfl⟩)
set_option maxRecDepth 100000 in
theorem jv_n0F {l : Launch} {s0 : State} {a0 : Array Value} {G : va_G} {ca : Nat → ClassId} (Γ : rt_Γ l s0 a0 G ca) {d : Nat} {w : rt_Wd} {t : Nat} {k : Nat → Int32} {b : Nat → Int32} {nx : Nat → Int32} {fi : Nat → Int32} {pa : Nat → Int32} {wo : Nat → Int32} {ke : Nat → Int32} {nu : Nat → Int64} {le : Nat → Int32} (hd : 3 ≤ d) {tp n : Nat} {f : Nat → Int32} {u : Int32} {g : Nat → Int32} (hT : rt_C s0 ca w tp n f u) (hn : n < 2 ^ 31) (htp : tp + 1 < t ∨ t + 18 ≤ tp) (hg : ∀ p : Nat, p < 65536 → cl_peek n f u (nI p) = g p) (hok : rt_ok w) {p V L N dp : Nat} (hN : jT g N) (hp : p ≤ N) (hVp : V ≤ p) (hLp : L ≤ p) (n1 : ¬ g p = 123) (n2 : ¬ g p = 91) (n3 : ¬ g p = 34) (n4 : ¬ g p = 116) (n5 : ¬ g p = 102) (n6 : ¬ g p = 110) (hm : ¬ g p = 45) (hz : jDgt (g (p))) {q : Nat} {i1 : Int32} {s1 : Int64} (hr : jDig g (-9223372036854775807) (if g (p) = 48 then 1 else 4096) (p) 1 0 = (q, i1, s1)) (hi : i1 = 0) : rt_Met l s0 G (.code yX8_parseValue cX8_parseValue 4 (Option.some FieldType.int)) yX8_parseValue d [rt_r s0 t, .int (nI dp)] (rt_bk w t (tx_L s0 ca t (rt_r s0 tp) (nI V) (nI p) (-1) k b nx fi pa wo ke nu le (nI L))) (fun r w1 => r = .inl (some (.int (nI V))) ∧ tx_B s0 ca w t tp p w1) := by
  refine rt_met Γ kk_X8_parseValue rfl (Nat.le_of_ble_eq_true rfl) rfl ?_
  have hN0 := hN.1
  have hV : V < 2073 := by omega
  refine rt_aload_n dX8_parseValue_0 rfl (j := 0) rfl ?_
  refine rt_bGet Γ kf_RX8_63 dX8_parseValue_1 (L := (tx_L s0 ca t (rt_r s0 tp) (nI V) (nI p) (-1) k b nx fi pa wo ke nu le (nI L))) rfl rfl ?_
  refine rt_istore_n (lv' := [(2, .int (nI V)), (0, rt_r s0 t), (1, .int (nI dp))]) dX8_parseValue_4 rfl (by decide) rfl ?_
  refine rt_aload_n dX8_parseValue_5 rfl (j := 1) rfl ?_
  refine rt_dup dX8_parseValue_6 rfl ?_
  refine rt_bGet Γ kf_RX8_63 dX8_parseValue_7 (L := (tx_L s0 ca t (rt_r s0 tp) (nI V) (nI p) (-1) k b nx fi pa wo ke nu le (nI L))) rfl rfl ?_
  refine rt_iconst (v := 1) dX8_parseValue_10 (by decide) ?_
  refine rt_iadd dX8_parseValue_11 ?_
  refine rt_te (y := nI (V + 1)) (nI_1 V) ?_
  refine rt_bPut Γ kp_RX8_63 dX8_parseValue_12 (L := (tx_L s0 ca t (rt_r s0 tp) (nI V) (nI p) (-1) k b nx fi pa wo ke nu le (nI L))) rfl (Nat.le_of_ble_eq_true rfl) rfl rfl (L' := (tx_L s0 ca t (rt_r s0 tp) (nI (V + 1)) (nI p) (-1) k b nx fi pa wo ke nu le (nI L))) rfl ?_
  refine rt_aload_n dX8_parseValue_15 rfl (j := 1) rfl ?_
  refine rt_bGet Γ kf_RX8_20 dX8_parseValue_16 (L := (tx_L s0 ca t (rt_r s0 tp) (nI (V + 1)) (nI p) (-1) k b nx fi pa wo ke nu le (nI L))) rfl rfl ?_
  refine rt_iload_n dX8_parseValue_19 rfl (j := 0) rfl ?_
  refine rt_aload_n dX8_parseValue_20 rfl (j := 1) rfl ?_
  refine rt_bGet Γ kf_RX8_67 dX8_parseValue_21 (L := (tx_L s0 ca t (rt_r s0 tp) (nI (V + 1)) (nI p) (-1) k b nx fi pa wo ke nu le (nI L))) rfl rfl ?_
  refine rt_callV Γ kk_X0_put kc_RX8_89 (c_X0_put Γ (d := d - 1) (rt_bk_C (t := t) (L := (tx_L s0 ca t (rt_r s0 tp) (nI (V + 1)) (nI p) (-1) k b nx fi pa wo ke nu le (nI L))) 3 (Nat.le_of_ble_eq_true rfl) rfl rfl) (by decide)) (by omega) (by decide) (As := [.int (nI V), .int (nI p)]) (show (parseMethodDescriptor yX0_put.desc).map (fun q => q.parameters.length) = some 2 by decide +kernel) hok (Nat.le_of_ble_eq_true rfl) dX8_parseValue_24 (rt_bk_C (t := t) (L := (tx_L s0 ca t (rt_r s0 tp) (nI (V + 1)) (nI p) (-1) k b nx fi pa wo ke nu le (nI L))) 3 (Nat.le_of_ble_eq_true rfl) rfl rfl).1 rfl rfl rfl (rt_kr (st2 := []) rfl ?_) rt_kx
  refine rt_weq (w' := (rt_bk w t (tx_L s0 ca t (rt_r s0 tp) (nI (V + 1)) (nI p) (-1) k (cl_put 2073 b (nI V) (nI p)) nx fi pa wo ke nu le (nI L)))) (rt_bk_cs 3 (Nat.le_of_ble_eq_true rfl)) ?_
  refine rt_weq (w' := (rt_bk w t (tx_L s0 ca t (rt_r s0 tp) (nI (V + 1)) (nI p) (-1) k (upd b V (nI p)) nx fi pa wo ke nu le (nI L)))) (by rw [cl_putN hV (by decide)]) ?_
  refine rt_aload_n dX8_parseValue_27 rfl (j := 1) rfl ?_
  refine rt_bGet Γ kf_RX8_23 dX8_parseValue_28 (L := (tx_L s0 ca t (rt_r s0 tp) (nI (V + 1)) (nI p) (-1) k (upd b V (nI p)) nx fi pa wo ke nu le (nI L))) rfl rfl ?_
  refine rt_iload_n dX8_parseValue_31 rfl (j := 0) rfl ?_
  refine rt_iconst (v := (-1)) dX8_parseValue_32 (by decide) ?_
  refine rt_callV Γ kk_X0_put kc_RX8_89 (c_X0_put Γ (d := d - 1) (rt_bk_C (t := t) (L := (tx_L s0 ca t (rt_r s0 tp) (nI (V + 1)) (nI p) (-1) k (upd b V (nI p)) nx fi pa wo ke nu le (nI L))) 5 (Nat.le_of_ble_eq_true rfl) rfl rfl) (by decide)) (by omega) (by decide) (As := [.int (nI V), .int (-1)]) (show (parseMethodDescriptor yX0_put.desc).map (fun q => q.parameters.length) = some 2 by decide +kernel) hok (Nat.le_of_ble_eq_true rfl) dX8_parseValue_33 (rt_bk_C (t := t) (L := (tx_L s0 ca t (rt_r s0 tp) (nI (V + 1)) (nI p) (-1) k (upd b V (nI p)) nx fi pa wo ke nu le (nI L))) 5 (Nat.le_of_ble_eq_true rfl) rfl rfl).1 rfl rfl rfl (rt_kr (st2 := []) rfl ?_) rt_kx
  refine rt_weq (w' := (rt_bk w t (tx_L s0 ca t (rt_r s0 tp) (nI (V + 1)) (nI p) (-1) k (upd b V (nI p)) (cl_put 2073 nx (nI V) (-1)) fi pa wo ke nu le (nI L)))) (rt_bk_cs 5 (Nat.le_of_ble_eq_true rfl)) ?_
  refine rt_weq (w' := (rt_bk w t (tx_L s0 ca t (rt_r s0 tp) (nI (V + 1)) (nI p) (-1) k (upd b V (nI p)) (upd nx V (-1)) fi pa wo ke nu le (nI L)))) (by rw [cl_putN hV (by decide)]) ?_
  refine rt_aload_n dX8_parseValue_36 rfl (j := 1) rfl ?_
  refine rt_bGet Γ kf_RX8_26 dX8_parseValue_37 (L := (tx_L s0 ca t (rt_r s0 tp) (nI (V + 1)) (nI p) (-1) k (upd b V (nI p)) (upd nx V (-1)) fi pa wo ke nu le (nI L))) rfl rfl ?_
  refine rt_iload_n dX8_parseValue_40 rfl (j := 0) rfl ?_
  refine rt_iconst (v := (-1)) dX8_parseValue_41 (by decide) ?_
  refine rt_callV Γ kk_X0_put kc_RX8_89 (c_X0_put Γ (d := d - 1) (rt_bk_C (t := t) (L := (tx_L s0 ca t (rt_r s0 tp) (nI (V + 1)) (nI p) (-1) k (upd b V (nI p)) (upd nx V (-1)) fi pa wo ke nu le (nI L))) 7 (Nat.le_of_ble_eq_true rfl) rfl rfl) (by decide)) (by omega) (by decide) (As := [.int (nI V), .int (-1)]) (show (parseMethodDescriptor yX0_put.desc).map (fun q => q.parameters.length) = some 2 by decide +kernel) hok (Nat.le_of_ble_eq_true rfl) dX8_parseValue_42 (rt_bk_C (t := t) (L := (tx_L s0 ca t (rt_r s0 tp) (nI (V + 1)) (nI p) (-1) k (upd b V (nI p)) (upd nx V (-1)) fi pa wo ke nu le (nI L))) 7 (Nat.le_of_ble_eq_true rfl) rfl rfl).1 rfl rfl rfl (rt_kr (st2 := []) rfl ?_) rt_kx
  refine rt_weq (w' := (rt_bk w t (tx_L s0 ca t (rt_r s0 tp) (nI (V + 1)) (nI p) (-1) k (upd b V (nI p)) (upd nx V (-1)) (cl_put 2073 fi (nI V) (-1)) pa wo ke nu le (nI L)))) (rt_bk_cs 7 (Nat.le_of_ble_eq_true rfl)) ?_
  refine rt_weq (w' := (rt_bk w t (tx_L s0 ca t (rt_r s0 tp) (nI (V + 1)) (nI p) (-1) k (upd b V (nI p)) (upd nx V (-1)) (upd fi V (-1)) pa wo ke nu le (nI L)))) (by rw [cl_putN hV (by decide)]) ?_
  refine rt_aload_n dX8_parseValue_45 rfl (j := 1) rfl ?_
  refine rt_bGet Γ kf_RX8_29 dX8_parseValue_46 (L := (tx_L s0 ca t (rt_r s0 tp) (nI (V + 1)) (nI p) (-1) k (upd b V (nI p)) (upd nx V (-1)) (upd fi V (-1)) pa wo ke nu le (nI L))) rfl rfl ?_
  refine rt_iload_n dX8_parseValue_49 rfl (j := 0) rfl ?_
  refine rt_iconst (v := 0) dX8_parseValue_50 (by decide) ?_
  refine rt_callV Γ kk_X0_put kc_RX8_89 (c_X0_put Γ (d := d - 1) (rt_bk_C (t := t) (L := (tx_L s0 ca t (rt_r s0 tp) (nI (V + 1)) (nI p) (-1) k (upd b V (nI p)) (upd nx V (-1)) (upd fi V (-1)) pa wo ke nu le (nI L))) 9 (Nat.le_of_ble_eq_true rfl) rfl rfl) (by decide)) (by omega) (by decide) (As := [.int (nI V), .int 0]) (show (parseMethodDescriptor yX0_put.desc).map (fun q => q.parameters.length) = some 2 by decide +kernel) hok (Nat.le_of_ble_eq_true rfl) dX8_parseValue_51 (rt_bk_C (t := t) (L := (tx_L s0 ca t (rt_r s0 tp) (nI (V + 1)) (nI p) (-1) k (upd b V (nI p)) (upd nx V (-1)) (upd fi V (-1)) pa wo ke nu le (nI L))) 9 (Nat.le_of_ble_eq_true rfl) rfl rfl).1 rfl rfl rfl (rt_kr (st2 := []) rfl ?_) rt_kx
  refine rt_weq (w' := (rt_bk w t (tx_L s0 ca t (rt_r s0 tp) (nI (V + 1)) (nI p) (-1) k (upd b V (nI p)) (upd nx V (-1)) (upd fi V (-1)) (cl_put 2073 pa (nI V) 0) wo ke nu le (nI L)))) (rt_bk_cs 9 (Nat.le_of_ble_eq_true rfl)) ?_
  refine rt_weq (w' := (rt_bk w t (tx_L s0 ca t (rt_r s0 tp) (nI (V + 1)) (nI p) (-1) k (upd b V (nI p)) (upd nx V (-1)) (upd fi V (-1)) (upd pa V 0) wo ke nu le (nI L)))) (by rw [cl_putN hV (by decide)]) ?_
  refine rt_aload_n dX8_parseValue_54 rfl (j := 1) rfl ?_
  refine rt_bGet Γ kf_RX8_57 dX8_parseValue_55 (L := (tx_L s0 ca t (rt_r s0 tp) (nI (V + 1)) (nI p) (-1) k (upd b V (nI p)) (upd nx V (-1)) (upd fi V (-1)) (upd pa V 0) wo ke nu le (nI L))) rfl rfl ?_
  refine rt_aload_n dX8_parseValue_58 rfl (j := 1) rfl ?_
  refine rt_bGet Γ kf_RX8_67 dX8_parseValue_59 (L := (tx_L s0 ca t (rt_r s0 tp) (nI (V + 1)) (nI p) (-1) k (upd b V (nI p)) (upd nx V (-1)) (upd fi V (-1)) (upd pa V 0) wo ke nu le (nI L))) rfl rfl ?_
  refine rt_callV Γ kk_X0_peek kc_RX8_86 (c_X0_peek Γ (d := d - 1) (x := (nI p)) (hT.bk htp) hn) (by omega) (by decide) (As := [.int (nI p)]) (show (parseMethodDescriptor yX0_peek.desc).map (fun q => q.parameters.length) = some 1 by decide +kernel) hok (Nat.le_of_ble_eq_true rfl) dX8_parseValue_62 (hT.bk htp).1 rfl rfl rfl (rt_kr (st2 := [.int (cl_peek n f u (nI p))]) rfl ?_) rt_kx
  refine rt_te (y := g p) (hg p (by omega)) ?_
  refine rt_istore_n (lv' := [(3, .int (g p)), (2, .int (nI V)), (0, rt_r s0 t), (1, .int (nI dp))]) dX8_parseValue_65 rfl (by decide) rfl ?_
  refine rt_iload_n dX8_parseValue_66 rfl (j := 0) rfl ?_
  refine rt_bipush (v := 123) dX8_parseValue_67 (by decide) ?_
  refine rt_icmp_ne (tgt := 92) dX8_parseValue_69 (by decide) (fun _ => ?_) (fun c69 => absurd c69 n1)
  refine rt_iload_n dX8_parseValue_92 rfl (j := 0) rfl ?_
  refine rt_bipush (v := 91) dX8_parseValue_93 (by decide) ?_
  refine rt_icmp_ne (tgt := 118) dX8_parseValue_95 (by decide) (fun _ => ?_) (fun c95 => absurd c95 n2)
  refine rt_iload_n dX8_parseValue_118 rfl (j := 0) rfl ?_
  refine rt_bipush (v := 34) dX8_parseValue_119 (by decide) ?_
  refine rt_icmp_ne (tgt := 148) dX8_parseValue_121 (by decide) (fun _ => ?_) (fun c121 => absurd c121 n3)
  refine rt_iload_n dX8_parseValue_148 rfl (j := 0) rfl ?_
  refine rt_bipush (v := 116) dX8_parseValue_149 (by decide) ?_
  refine rt_icmp_ne (tgt := 165) dX8_parseValue_151 (by decide) (fun _ => ?_) (fun c151 => absurd c151 n4)
  refine rt_iload_n dX8_parseValue_165 rfl (j := 0) rfl ?_
  refine rt_bipush (v := 102) dX8_parseValue_166 (by decide) ?_
  refine rt_icmp_ne (tgt := 183) dX8_parseValue_168 (by decide) (fun _ => ?_) (fun c168 => absurd c168 n5)
  refine rt_iload_n dX8_parseValue_183 rfl (j := 0) rfl ?_
  refine rt_bipush (v := 110) dX8_parseValue_184 (by decide) ?_
  refine rt_icmp_ne (tgt := 201) dX8_parseValue_186 (by decide) (fun _ => ?_) (fun c186 => absurd c186 n6)
  refine rt_aload_n dX8_parseValue_201 rfl (j := 2) rfl ?_
  refine rt_bGet Γ kf_RX8_16 dX8_parseValue_202 (L := (tx_L s0 ca t (rt_r s0 tp) (nI (V + 1)) (nI p) (-1) k (upd b V (nI p)) (upd nx V (-1)) (upd fi V (-1)) (upd pa V 0) wo ke nu le (nI L))) rfl rfl ?_
  refine rt_iload_n dX8_parseValue_205 rfl (j := 1) rfl ?_
  refine rt_iconst (v := 4) dX8_parseValue_206 (by decide) ?_
  refine rt_callV Γ kk_X0_put kc_RX8_89 (c_X0_put Γ (d := d - 1) (rt_bk_C (t := t) (L := (tx_L s0 ca t (rt_r s0 tp) (nI (V + 1)) (nI p) (-1) k (upd b V (nI p)) (upd nx V (-1)) (upd fi V (-1)) (upd pa V 0) wo ke nu le (nI L))) 1 (Nat.le_of_ble_eq_true rfl) rfl rfl) (by decide)) (by omega) (by decide) (As := [.int (nI V), .int 4]) (show (parseMethodDescriptor yX0_put.desc).map (fun q => q.parameters.length) = some 2 by decide +kernel) hok (Nat.le_of_ble_eq_true rfl) dX8_parseValue_207 (rt_bk_C (t := t) (L := (tx_L s0 ca t (rt_r s0 tp) (nI (V + 1)) (nI p) (-1) k (upd b V (nI p)) (upd nx V (-1)) (upd fi V (-1)) (upd pa V 0) wo ke nu le (nI L))) 1 (Nat.le_of_ble_eq_true rfl) rfl rfl).1 rfl rfl rfl (rt_kr (st2 := []) rfl ?_) rt_kx
  refine rt_weq (w' := (rt_bk w t (tx_L s0 ca t (rt_r s0 tp) (nI (V + 1)) (nI p) (-1) (cl_put 2073 k (nI V) 4) (upd b V (nI p)) (upd nx V (-1)) (upd fi V (-1)) (upd pa V 0) wo ke nu le (nI L)))) (rt_bk_cs 1 (Nat.le_of_ble_eq_true rfl)) ?_
  refine rt_weq (w' := (rt_bk w t (tx_L s0 ca t (rt_r s0 tp) (nI (V + 1)) (nI p) (-1) (upd k V 4) (upd b V (nI p)) (upd nx V (-1)) (upd fi V (-1)) (upd pa V 0) wo ke nu le (nI L)))) (by rw [cl_putN hV (by decide)]) ?_
  refine rt_aload_n dX8_parseValue_210 rfl (j := 2) rfl ?_
  refine rt_iload_n dX8_parseValue_211 rfl (j := 1) rfl ?_
  refine rt_callV Γ kk_X8_parseNumber kc_RX8_110 (j_num20 Γ (d := d - 1) (by omega) hT hn htp hg hok (by omega) hV hm hz hr hi) (by omega) (by decide) (As := [.int (nI V)]) (show (parseMethodDescriptor yX8_parseNumber.desc).map (fun q => q.parameters.length) = some 1 by decide +kernel) hok (Nat.le_of_ble_eq_true rfl) dX8_parseValue_212 ((rt_bk_0 w t (tx_L s0 ca t (rt_r s0 tp) (nI (V + 1)) (nI p) (-1) (upd k V 4) (upd b V (nI p)) (upd nx V (-1)) (upd fi V (-1)) (upd pa V 0) wo ke nu le (nI L)) (Nat.le_of_ble_eq_true rfl)).trans rfl) rfl rfl rfl (fun v9 w9 hq => ?_) (fun X w9 hq => nomatch hq.1)
  obtain ⟨e9, vals10, pos10, k10, b10, nx10, fi10, pa10, wo10, ke10, nu10, le10, lu10, rfl⟩ := hq
  cases e9
  show rt_Go l s0 G RX8 "parseValue" cX8_parseValue 4 (Option.some FieldType.int) [] d _ _ (212 + 3) [(3, .int (g p)), (2, .int (nI V)), (0, rt_r s0 t), (1, .int (nI dp))] [] (rt_bk w t (tx_L s0 ca t (rt_r s0 tp) vals10 pos10 (nI p) k10 b10 nx10 fi10 pa10 wo10 ke10 nu10 le10 lu10))
  refine rt_iload_n dX8_parseValue_215 rfl (j := 1) rfl ?_
  exact rt_iret dX8_parseValue_216 rfl (⟨rfl, _, _, _, _, _, _, _, _, _, _, _, _, rfl⟩)
