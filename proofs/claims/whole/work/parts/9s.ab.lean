/-! ===== the Drafter hands its schema over ===== -/
/-- comes back; the shapes too are Q's to say -/
def zQs (s0 : State) (ca : Nat → ClassId) (t : Nat) (Q : Nat × Nat → zS → Int → zM → Prop) : rt_Res → rt_Wd → Prop := fun r w => ∃ (v : Int) (C1 : Nat × Nat) (S1 : zS) (M1 : zM), r = .inl (zret s0 t v) ∧ w = zw s0 ca C1 S1 M1 ∧ Q C1 S1 v M1
def zMetS (l : Launch) (s0 : State) (G : va_G) (ca : Nat → ClassId) (k : Cond) (y : MethodName) (t d : Nat) (av : List Value) (C : Nat × Nat) (S : zS) (M : zM) (Q : Nat × Nat → zS → Int → zM → Prop) : Prop :=
  rt_Met l s0 G k y d av (zw s0 ca C S M) (zQs s0 ca t Q)
abbrev zs_handOver (l : Launch) (s0 : State) (G : va_G) (ca : Nat → ClassId) (d : Nat) (C : Nat × Nat) (S : zS) (o : Int) (M : zM) (Q : Nat × Nat → zS → Int → zM → Prop) : Prop := zMetS l s0 G ca (.code yX1_handOver cX1_handOver 3 (Option.some (FieldType.object "RecordTeller$Schema"))) yX1_handOver 2 d [zv s0 2 24, zv s0 2 o] C S M Q
theorem zw_ap0 {s0 : State} {ca : Nat → ClassId} {C : Nat × Nat} {S : zS} {M : zM} (hS : ∀ b : Int, (C.1 : Int) ≤ b → S b = none) : zw s0 ca C S M = rt_ap (zw s0 ca C S M) 0 [] := by
  refine Prod.ext rfl (Prod.ext rfl (funext fun i => ?_))
  show (S i).map (zcell s0 ca (M i)) = if i < C.1 then (S i).map (zcell s0 ca (M i)) else ([] : List va_E)[i - C.1]?
  by_cases c : i < C.1
  · rw [if_pos c]
  · rw [if_neg c, hS i (by omega)]
    rfl
set_option maxRecDepth 100000 in
theorem z_handOver {l : Launch} {s0 : State} {a0 : Array Value} {G : va_G} {ca : Nat → ClassId} (Γ : rt_Γ l s0 a0 G ca) {d : Nat} {C : Nat × Nat} {S : zS} {M : zM} {Q : Nat × Nat → zS → Int → zM → Prop} (hd : 3 ≤ d) (hr : C.1 + 30 ≤ 600000 ∧ C.2 + 21400 ≤ 7300000) (h24 : S 24 = some (0, 1, [(3, 25), (3, 26), (3, 28), (2, 0), (2, 0), (0, 0), (0, 0), (0, 0)])) (hS : ∀ b : Int, (C.1 : Int) ≤ b → S b = none) (h132 : 24 < C.1) {o : Int} (hp : 0 ≤ M 24 3) (k0 : o < 0 → Q (C.1 + 25, C.2 + 21321) (Sap S C.1 (nSh C.1)) (M 24 3) (zu (Map M C.1 25) 24 3 (C.1 : Nat))) (k1 : ¬ o < 0 → Q C S (M 24 3) (zu M 24 3 o)) : zs_handOver l s0 G ca d C S o M Q := by
  refine rt_met Γ kk_X1_handOver rfl (show (lg_sl [zv s0 2 24, zv s0 2 o]).length ≤ 3 from by simp only [zn_2, show (lg_sl []).length = 0 from rfl]; omega) (show lv_args 0 [zv s0 2 24, zv s0 2 o] = [(0, zv s0 2 24), (1, zv s0 2 o)] from by rw [zl_2, zl_2]; rfl) ?_
  refine z_aload_n dX1_handOver_0 rfl (j := 0) rfl ?_
  refine z_get Γ kf_RX1_33 dX1_handOver_1 (by decide) h24 rfl (by decide) (v9 := M 24 3) rfl ?_
  refine z_astore_n (lv' := [(2, zv s0 2 (M 24 3)), (0, zv s0 2 24), (1, zv s0 2 o)]) dX1_handOver_4 rfl (by decide) (by simp [zv_cat0, zv_cat1, zv_cat2, zv_cats]) ?_
  refine z_aload_n dX1_handOver_5 rfl (j := 1) rfl ?_
  refine z_aload_n dX1_handOver_6 rfl (j := 2) rfl ?_
  have eret : Sum.inl (some (rt_r s0 (M 24 3).toNat)) = (Sum.inl (zret s0 2 (M 24 3)) : rt_Res) := by
    unfold zret
    rw [if_neg (by decide), zv_ref hp]
  refine z_ifnonnull (tgt := 20) dX1_handOver_7 (by decide) (fun c => ?_) (fun c => ?_)
  · refine z_aload_n dX1_handOver_20 rfl (j := 2) rfl ?_
    refine z_put2 Γ kp_RX1_33 dX1_handOver_21 (by decide) h24 rfl (k9 := 3) rfl ?_
    refine z_aload_n dX1_handOver_24 rfl (j := 0) rfl ?_
    rw [zv_ref hp]
    exact rt_aret dX1_handOver_25 rfl ⟨M 24 3, C, S, zu M 24 3 o, eret, rfl, k1 c⟩
  · refine rt_weq (zw_ap0 hS) ?_
    refine rt_aNew Γ kn_RX1_30 dX1_handOver_10 (b := C.1) (m := 0) (L' := [.inr (6, [.null, .null, .null, .null, .null, .null, .null, .null, .null, .null, .null, .null, .int 0])]) (n' := 13) rfl rfl (by refine ⟨?_, ?_⟩ <;> first | (show C.1 + 0 + 1 ≤ 600000; omega) | (show C.2 + 0 + 13 ≤ 7300000; omega)) rfl rfl ?_
    refine rt_dup dX1_handOver_13 rfl ?_
    refine rt_aCallIN Γ kk_X6_init rfl kc_RX1_32 dX1_handOver_14 (v := zw s0 ca C S M) (n := 13) (L := [.inr (6, [.null, .null, .null, .null, .null, .null, .null, .null, .null, .null, .null, .null, .int 0])]) (d1 := d - 1) (m := 0) (b := C.1) (As := []) (L' := [.inr (6, [rt_r s0 (C.1 + 1), rt_r s0 (C.1 + 3), rt_r s0 (C.1 + 5), rt_r s0 (C.1 + 7), rt_r s0 (C.1 + 9), rt_r s0 (C.1 + 11), rt_r s0 (C.1 + 13), rt_r s0 (C.1 + 15), rt_r s0 (C.1 + 17), rt_r s0 (C.1 + 19), rt_r s0 (C.1 + 21), rt_r s0 (C.1 + 23), .int 0]), .inr (0, [rt_r s0 (C.1 + 2), .int 0]), .inl (ca 0, 134, .inl (fun _ => 0)), .inr (0, [rt_r s0 (C.1 + 4), .int 0]), .inl (ca 0, 134, .inl (fun _ => 0)), .inr (0, [rt_r s0 (C.1 + 6), .int 0]), .inl (ca 0, 134, .inl (fun _ => 0)), .inr (0, [rt_r s0 (C.1 + 8), .int 0]), .inl (ca 0, 134, .inl (fun _ => 0)), .inr (0, [rt_r s0 (C.1 + 10), .int 0]), .inl (ca 0, 134, .inl (fun _ => 0)), .inr (0, [rt_r s0 (C.1 + 12), .int 0]), .inl (ca 0, 134, .inl (fun _ => 0)), .inr (0, [rt_r s0 (C.1 + 14), .int 0]), .inl (ca 0, 2048, .inl (fun _ => 0)), .inr (0, [rt_r s0 (C.1 + 16), .int 0]), .inl (ca 0, 2048, .inl (fun _ => 0)), .inr (0, [rt_r s0 (C.1 + 18), .int 0]), .inl (ca 0, 2048, .inl (fun _ => 0)), .inr (0, [rt_r s0 (C.1 + 20), .int 0]), .inl (ca 0, 2048, .inl (fun _ => 0)), .inr (0, [rt_r s0 (C.1 + 22), .int 0]), .inl (ca 0, 4096, .inl (fun _ => 0)), .inr (0, [rt_r s0 (C.1 + 24), .int 0]), .inl (ca 0, 8192, .inl (fun _ => 0))]) (n' := 21321) rfl (Nat.le_of_ble_eq_true rfl) (c_X6_init Γ (d := d - 1) (by omega) (by show C.1 + 0 < C.1 + 1; omega) ((rt_ap_at _ _ _ 0).trans rfl) (by refine ⟨?_, ?_⟩ <;> first | (show C.1 + 1 + 24 ≤ 600000; omega) | (show C.2 + 13 + 21308 ≤ 7300000; omega))) (by omega) (by decide) (by decide +kernel) (by refine ⟨?_, ?_⟩ <;> first | (show C.1 + 1 ≤ 600000; omega) | (show C.2 + 13 ≤ 7300000; omega)) (by simp [zv_cat2, zv_cats, rt_r]) rfl rfl rfl ?_
    refine rt_goto (tgt := 21) dX1_handOver_17 (by decide) ?_
    refine rt_weq ((congrArg (rt_ap (zw s0 ca C S M) 21321) (nSh_L s0 ca C.1)).trans (zw_ap hS rfl)) ?_
    rw [show rt_r s0 (C.1 + 0) = zv s0 2 ((C.1 : Nat) : Int) from (zv_n s0 C.1).symm]
    have h24' : Sap S C.1 (nSh C.1) 24 = some (0, 1, [(3, 25), (3, 26), (3, 28), (2, 0), (2, 0), (0, 0), (0, 0), (0, 0)]) := (if_neg (by omega)).trans h24
    refine z_put2 Γ kp_RX1_33 dX1_handOver_21 (by decide) h24' rfl (k9 := 3) rfl ?_
    refine z_aload_n dX1_handOver_24 rfl (j := 0) rfl ?_
    rw [zv_ref hp]
    exact rt_aret dX1_handOver_25 rfl ⟨M 24 3, _, _, _, eret, rfl, k0 c⟩
