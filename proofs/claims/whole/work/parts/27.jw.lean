/-! ===== words alike, members, keys ===== -/
/-- the words at i and at k are alike -/
def cl_W (n : Nat) (f : Nat → Int32) (n1 : Nat) (f1 : Nat → Int32) (i k : Int32) : Prop :=
  ∃ a c : Nat, i = nI a ∧ k = nI c ∧ a < n ∧ c < n1 ∧ f a = f1 c ∧ f a < nI n - nI a ∧ f a < nI n1 - nI c ∧ ∀ j : Nat, j ≠ 0 → j < 2 ^ 31 → nI j ≤ f a → f (a + j) = f1 (c + j)
abbrev rt_ww (P : Prop) (w : rt_Wd) : rt_Res → rt_Wd → Prop := fun r w1 => w1 = w ∧ ((r = .inl (some (.int 1)) ∧ P) ∨ (r = .inl (some (.int 0)) ∧ ¬ P))
theorem cl_room {n a j : Nat} {x : Int32} (hn : n < 2 ^ 31) (ha : a < n) (hj : j < 2 ^ 31) (h1 : nI j ≤ x) (h2 : x < nI n - nI a) : a + j < n := by
  rw [pk_sub (by omega), Int32.lt_iff_toInt_lt, nI_toInt (by omega)] at h2
  rw [Int32.le_iff_toInt_le, nI_toInt hj] at h1
  omega
set_option maxRecDepth 100000 in
theorem j_isWordL {l : Launch} {s0 : State} {a0 : Array Value} {G : va_G} {ca : Nat → ClassId} (Γ : rt_Γ l s0 a0 G ca) {d : Nat} {w v0 : rt_Wd} {p n : Nat} {f : Nat → Int32} {u : Int32} {q n1 : Nat} {f1 : Nat → Int32} {u1 : Int32} (hC : rt_C s0 ca w p n f u) (hD : rt_C s0 ca w q n1 f1 u1) (hn : n < 2 ^ 30) (hn1 : n1 < 2 ^ 30) {a c : Nat} (ha : a < n) (hc : c < n1) (he : f a = f1 c) (hl : f a < nI n - nI a) (hl1 : f a < nI n1 - nI c) : ∀ (m j : Nat), a + j + m = n + 1 → j ≠ 0 → (∀ i : Nat, i ≠ 0 → i < j → f (a + i) = f1 (c + i)) → rt_Go l s0 G RX0 "isWord" cX0_isWord 6 (Option.some FieldType.boolean) [] d v0 (rt_ww (cl_W n f n1 f1 (nI a) (nI c)) w) 80 [(5, .int (nI j)), (4, .int (f a)), (3, .int (nI c)), (2, rt_r s0 q), (1, .int (nI a)), (0, rt_r s0 p)] [] w := by
  intro m
  induction m with
  | zero =>
    intro j hj h0 hal
    refine rt_iload dX0_isWord_80 (j := 0) rfl ?_
    refine rt_iload dX0_isWord_82 (j := 1) rfl ?_
    refine rt_icmp_gt (tgt := 116) dX0_isWord_84 (by decide) (fun c84 => ?_) (fun c84 => ?_)
    · refine rt_iconst (v := 1) dX0_isWord_116 (by decide) ?_
      exact rt_zret dX0_isWord_117 rfl rfl (⟨rfl, Or.inl ⟨rfl, ⟨a, c, rfl, rfl, ha, hc, he, hl, hl1, fun i h2 h3 h4 => hal i h2 (Nat.lt_of_not_le (fun h5 => Int32.not_lt.mpr (Int32.le_trans (nI_le h5 h3) h4) c84))⟩⟩⟩)
    · have hj2 : j < 2 ^ 31 := by omega
      have r1 : a + j < n := cl_room (by omega) ha hj2 (Int32.not_lt.mp c84) hl
      exact absurd r1 (by omega)
  | succ m ih =>
    intro j hj h0 hal
    refine rt_iload dX0_isWord_80 (j := 0) rfl ?_
    refine rt_iload dX0_isWord_82 (j := 1) rfl ?_
    refine rt_icmp_gt (tgt := 116) dX0_isWord_84 (by decide) (fun c84 => ?_) (fun c84 => ?_)
    · refine rt_iconst (v := 1) dX0_isWord_116 (by decide) ?_
      exact rt_zret dX0_isWord_117 rfl rfl (⟨rfl, Or.inl ⟨rfl, ⟨a, c, rfl, rfl, ha, hc, he, hl, hl1, fun i h2 h3 h4 => hal i h2 (Nat.lt_of_not_le (fun h5 => Int32.not_lt.mpr (Int32.le_trans (nI_le h5 h3) h4) c84))⟩⟩⟩)
    · have hj2 : j < 2 ^ 31 := by omega
      have r1 : a + j < n := cl_room (by omega) ha hj2 (Int32.not_lt.mp c84) hl
      have r2 : c + j < n1 := cl_room (by omega) hc hj2 (Int32.not_lt.mp c84) hl1
      refine rt_aload_n dX0_isWord_87 rfl (j := 5) rfl ?_
      refine rt_get Γ kf_RX0_9 dX0_isWord_88 hC.1 rfl ?_
      refine rt_iload_n dX0_isWord_91 rfl (j := 4) rfl ?_
      refine rt_iload dX0_isWord_92 (j := 0) rfl ?_
      refine rt_iadd dX0_isWord_94 ?_
      refine rt_te (y := nI (a + j)) (nI_add a j) ?_
      refine rt_iald Γ dX0_isWord_95 hC.2 (pk_in (a + j) n r1 rfl (by omega)) ?_
      rw [nI_clamp (by omega)]
      refine rt_aload_n dX0_isWord_96 rfl (j := 3) rfl ?_
      refine rt_get Γ kf_RX0_9 dX0_isWord_97 hD.1 rfl ?_
      refine rt_iload_n dX0_isWord_100 rfl (j := 2) rfl ?_
      refine rt_iload dX0_isWord_101 (j := 0) rfl ?_
      refine rt_iadd dX0_isWord_103 ?_
      refine rt_te (y := nI (c + j)) (nI_add c j) ?_
      refine rt_iald Γ dX0_isWord_104 hD.2 (pk_in (c + j) n1 r2 rfl (by omega)) ?_
      rw [nI_clamp (by omega)]
      refine rt_icmp_eq (tgt := 110) dX0_isWord_105 (by decide) (fun c105 => ?_) (fun c105 => ?_)
      · refine rt_iinc (v := nI (j + 1)) (lv' := [(5, .int (nI (j + 1))), (4, .int (f a)), (3, .int (nI c)), (2, rt_r s0 q), (1, .int (nI a)), (0, rt_r s0 p)]) dX0_isWord_110 (j := 0) rfl ((nI_1 j).symm ▸ rfl) (by decide) rfl ?_
        refine rt_goto (tgt := 80) dX0_isWord_113 (by decide) ?_
        exact ih (j + 1) (by omega) (by omega) (fun i h2 h3 => (Nat.lt_succ_iff_lt_or_eq.mp h3).elim (hal i h2) (fun h => h ▸ c105))
      · refine rt_iconst (v := 0) dX0_isWord_108 (by decide) ?_
        exact rt_zret dX0_isWord_109 rfl rfl (⟨rfl, Or.inr ⟨rfl, fun ⟨a2, c2, e1, e2, b1, b2, _, _, _, b3⟩ => c105 (by have := b3 j h0 hj2; rw [(nI_eq (by omega) (by omega)).mp e1.symm, (nI_eq (by omega) (by omega)).mp e2.symm] at this; exact this (Int32.not_lt.mp c84))⟩⟩)
set_option maxRecDepth 100000 in
theorem j_isWord {l : Launch} {s0 : State} {a0 : Array Value} {G : va_G} {ca : Nat → ClassId} (Γ : rt_Γ l s0 a0 G ca) {d : Nat} {w : rt_Wd} {p n : Nat} {f : Nat → Int32} {u : Int32} {q n1 : Nat} {f1 : Nat → Int32} {u1 : Int32} (hC : rt_C s0 ca w p n f u) (hD : rt_C s0 ca w q n1 f1 u1) (hn : n < 2 ^ 30) (hn1 : n1 < 2 ^ 30) {i k : Int32} : rt_Met l s0 G (.code yX0_isWord cX0_isWord 6 (Option.some FieldType.boolean)) yX0_isWord d [rt_r s0 p, .int i, rt_r s0 q, .int k] w (rt_ww (cl_W n f n1 f1 i k) w) := by
  refine rt_met Γ kk_X0_isWord rfl (Nat.le_of_ble_eq_true rfl) rfl ?_
  refine rt_aload_n dX0_isWord_0 rfl (j := 2) rfl ?_
  refine rt_ifnull dX0_isWord_1 ?_
  refine rt_iload_n dX0_isWord_4 rfl (j := 1) rfl ?_
  refine rt_if_lt (tgt := 30) dX0_isWord_5 (by decide) (fun c5 => ?_) (fun c5 => ?_)
  · refine rt_iconst (v := 0) dX0_isWord_30 (by decide) ?_
    exact rt_zret dX0_isWord_31 rfl rfl (⟨rfl, Or.inr ⟨rfl, fun ⟨a, c, e1, e2, b1, b2, b3, b4, b5, _⟩ => nI_pos (show a < 2 ^ 31 by omega) (e1 ▸ c5)⟩⟩)
  · refine rt_iload_n dX0_isWord_8 rfl (j := 1) rfl ?_
    refine rt_aload_n dX0_isWord_9 rfl (j := 0) rfl ?_
    refine rt_get Γ kf_RX0_9 dX0_isWord_10 hC.1 rfl ?_
    refine rt_alen Γ dX0_isWord_13 (t := 0) rfl hC.2 (v := nI n) rfl ?_
    refine rt_icmp_ge (tgt := 30) dX0_isWord_14 (by decide) (fun c14 => ?_) (fun c14 => ?_)
    · refine rt_iconst (v := 0) dX0_isWord_30 (by decide) ?_
      exact rt_zret dX0_isWord_31 rfl rfl (⟨rfl, Or.inr ⟨rfl, fun ⟨a, c, e1, e2, b1, b2, b3, b4, b5, _⟩ => nI_ge b1 (by omega) (e1 ▸ c14)⟩⟩)
    · refine rt_iload_n dX0_isWord_17 rfl (j := 3) rfl ?_
      refine rt_if_lt (tgt := 30) dX0_isWord_18 (by decide) (fun c18 => ?_) (fun c18 => ?_)
      · refine rt_iconst (v := 0) dX0_isWord_30 (by decide) ?_
        exact rt_zret dX0_isWord_31 rfl rfl (⟨rfl, Or.inr ⟨rfl, fun ⟨a, c, e1, e2, b1, b2, b3, b4, b5, _⟩ => nI_pos (show c < 2 ^ 31 by omega) (e2 ▸ c18)⟩⟩)
      · refine rt_iload_n dX0_isWord_21 rfl (j := 3) rfl ?_
        refine rt_aload_n dX0_isWord_22 rfl (j := 2) rfl ?_
        refine rt_get Γ kf_RX0_9 dX0_isWord_23 hD.1 rfl ?_
        refine rt_alen Γ dX0_isWord_26 (t := 0) rfl hD.2 (v := nI n1) rfl ?_
        refine rt_icmp_lt (tgt := 32) dX0_isWord_27 (by decide) (fun c27 => ?_) (fun c27 => ?_)
        · obtain ⟨a, ha31, rfl⟩ := nI_of c5
          obtain ⟨c, hc31, rfl⟩ := nI_of c18
          have ha : a < n := (nI_ltI ha31 (by omega)).mp (Int32.not_le.mp c14)
          have hc : c < n1 := (nI_ltI hc31 (by omega)).mp c27
          have aa : ∀ {a2 : Nat}, a2 < n → nI a = nI a2 → a2 = a := fun h e => ((nI_eq ha31 (by omega)).mp e).symm
          have cc : ∀ {a2 : Nat}, a2 < n1 → nI c = nI a2 → a2 = c := fun h e => ((nI_eq hc31 (by omega)).mp e).symm
          refine rt_aload_n dX0_isWord_32 rfl (j := 0) rfl ?_
          refine rt_get Γ kf_RX0_9 dX0_isWord_33 hC.1 rfl ?_
          refine rt_iload_n dX0_isWord_36 rfl (j := 1) rfl ?_
          refine rt_iald Γ dX0_isWord_37 hC.2 (pk_in a n ha rfl (by omega)) ?_
          rw [nI_clamp (by omega)]
          refine rt_istore (lv' := [(4, .int (f a)), (0, rt_r s0 p), (1, .int (nI a)), (2, rt_r s0 q), (3, .int (nI c))]) dX0_isWord_38 (by decide) rfl ?_
          refine rt_iload dX0_isWord_40 (j := 0) rfl ?_
          refine rt_aload_n dX0_isWord_42 rfl (j := 3) rfl ?_
          refine rt_get Γ kf_RX0_9 dX0_isWord_43 hD.1 rfl ?_
          refine rt_iload_n dX0_isWord_46 rfl (j := 4) rfl ?_
          refine rt_iald Γ dX0_isWord_47 hD.2 (pk_in c n1 hc rfl (by omega)) ?_
          rw [nI_clamp (by omega)]
          refine rt_icmp_ne (tgt := 75) dX0_isWord_48 (by decide) (fun c48 => ?_) (fun c48 => ?_)
          · refine rt_iconst (v := 0) dX0_isWord_75 (by decide) ?_
            exact rt_zret dX0_isWord_76 rfl rfl (⟨rfl, Or.inr ⟨rfl, fun ⟨a2, c2, e1, e2, b1, b2, b3, b4, b5, _⟩ => by obtain rfl := aa b1 e1; obtain rfl := cc b2 e2; exact c48 b3⟩⟩)
          · refine rt_iload dX0_isWord_51 (j := 0) rfl ?_
            refine rt_aload_n dX0_isWord_53 rfl (j := 1) rfl ?_
            refine rt_get Γ kf_RX0_9 dX0_isWord_54 hC.1 rfl ?_
            refine rt_alen Γ dX0_isWord_57 (t := 0) rfl hC.2 (v := nI n) rfl ?_
            refine rt_iload_n dX0_isWord_58 rfl (j := 2) rfl ?_
            refine rt_isub dX0_isWord_59 ?_
            refine rt_icmp_ge (tgt := 75) dX0_isWord_60 (by decide) (fun c60 => ?_) (fun c60 => ?_)
            · refine rt_iconst (v := 0) dX0_isWord_75 (by decide) ?_
              exact rt_zret dX0_isWord_76 rfl rfl (⟨rfl, Or.inr ⟨rfl, fun ⟨a2, c2, e1, e2, b1, b2, b3, b4, b5, _⟩ => by obtain rfl := aa b1 e1; obtain rfl := cc b2 e2; exact Int32.not_lt.mpr c60 b4⟩⟩)
            · refine rt_iload dX0_isWord_63 (j := 0) rfl ?_
              refine rt_aload_n dX0_isWord_65 rfl (j := 3) rfl ?_
              refine rt_get Γ kf_RX0_9 dX0_isWord_66 hD.1 rfl ?_
              refine rt_alen Γ dX0_isWord_69 (t := 0) rfl hD.2 (v := nI n1) rfl ?_
              refine rt_iload_n dX0_isWord_70 rfl (j := 4) rfl ?_
              refine rt_isub dX0_isWord_71 ?_
              refine rt_icmp_lt (tgt := 77) dX0_isWord_72 (by decide) (fun c72 => ?_) (fun c72 => ?_)
              · refine rt_iconst (v := 1) dX0_isWord_77 (by decide) ?_
                refine rt_istore (lv' := [(5, .int 1), (4, .int (f a)), (0, rt_r s0 p), (1, .int (nI a)), (2, rt_r s0 q), (3, .int (nI c))]) dX0_isWord_78 (by decide) rfl ?_
                exact rt_lfew [0, 1, 5, 4, 3, 2] rfl (j_isWordL Γ hC hD hn hn1 ha hc c48 (Int32.not_le.mp c60) c72 (n - a) 1 (by omega) (by omega) (fun i h1 h2 => absurd h2 (by omega)))
              · refine rt_iconst (v := 0) dX0_isWord_75 (by decide) ?_
                exact rt_zret dX0_isWord_76 rfl rfl (⟨rfl, Or.inr ⟨rfl, fun ⟨a2, c2, e1, e2, b1, b2, b3, b4, b5, _⟩ => by obtain rfl := aa b1 e1; obtain rfl := cc b2 e2; exact c72 b5⟩⟩)
        · refine rt_iconst (v := 0) dX0_isWord_30 (by decide) ?_
          exact rt_zret dX0_isWord_31 rfl rfl (⟨rfl, Or.inr ⟨rfl, fun ⟨a, c, e1, e2, b1, b2, b3, b4, b5, _⟩ => c27 (e2 ▸ nI_lt b2 (by omega))⟩⟩)
noncomputable def jMem (W : Int32 → Prop) (nx : Nat → Int32) : Nat → Int32 → Int32
  | 0, _ => -1
  | j + 1, m => if m = -1 then -1 else @ite Int32 (W m) (Classical.propDecidable (W m)) m (jMem W nx j (cl_at 2073 nx m))
theorem jMem_e {W : Int32 → Prop} {nx : Nat → Int32} {j : Nat} {m : Int32} (h : m = -1) : jMem W nx (j + 1) m = -1 := if_pos h
theorem jMem_y {W : Int32 → Prop} {nx : Nat → Int32} {j : Nat} {m : Int32} (h : ¬ m = -1) (hW : W m) : jMem W nx (j + 1) m = m := (if_neg h).trans (@if_pos _ (Classical.propDecidable _) hW _ _ _)
theorem jMem_n {W : Int32 → Prop} {nx : Nat → Int32} {j : Nat} {m : Int32} (h : ¬ m = -1) (hW : ¬ W m) : jMem W nx (j + 1) m = jMem W nx j (cl_at 2073 nx m) := (if_neg h).trans (@if_neg _ (Classical.propDecidable _) hW _ _ _)
set_option maxRecDepth 100000 in
theorem j_memL {l : Launch} {s0 : State} {a0 : Array Value} {G : va_G} {ca : Nat → ClassId} (Γ : rt_Γ l s0 a0 G ca) {d : Nat} {w v0 : rt_Wd} {t : Nat} {tape : Value} {vals : Int32} {pos : Int32} {wrong : Int32} {k : Nat → Int32} {b : Nat → Int32} {nx : Nat → Int32} {fi : Nat → Int32} {pa : Nat → Int32} {wo : Nat → Int32} {ke : Nat → Int32} {nu : Nat → Int64} {le : Nat → Int32} {lu : Int32} (hd : 2 ≤ d) {q n1 : Nat} {f1 : Nat → Int32} {u1 : Int32} (hok : rt_ok w) (hD : rt_C s0 ca (rt_bk w t (tx_L s0 ca t tape vals pos wrong k b nx fi pa wo ke nu le lu)) q n1 f1 u1) (hn1 : n1 < 2 ^ 30) {v x : Int32} : ∀ (j i : Nat) (m : Int32), i + j = 2073 → rt_Go l s0 G RX8 "memberNamed" cX8_memberNamed 6 (Option.some FieldType.int) [] d v0 (rt_is (.inl (some (.int (jMem (fun m => cl_W 4096 le n1 f1 (cl_at 2073 ke m) x) nx j m)))) (rt_bk w t (tx_L s0 ca t tape vals pos wrong k b nx fi pa wo ke nu le lu))) 13 [(5, .int (nI i)), (4, .int m), (3, .int x), (2, rt_r s0 q), (1, .int v), (0, rt_r s0 t)] [] (rt_bk w t (tx_L s0 ca t tape vals pos wrong k b nx fi pa wo ke nu le lu)) := by
  intro j
  induction j with
  | zero =>
    intro i m hi
    obtain rfl : i = 2073 := by omega
    refine rt_iload dX8_memberNamed_13 (j := 0) rfl ?_
    refine rt_sipush (v := 2073) dX8_memberNamed_15 (by decide) ?_
    refine rt_icmp_ge (tgt := 68) dX8_memberNamed_18 (by decide) (fun _ => ?_) (fun c18 => absurd (by decide) c18)
    refine rt_iconst (v := (-1)) dX8_memberNamed_68 (by decide) ?_
    exact rt_iret dX8_memberNamed_69 rfl (⟨rfl, rfl⟩)
  | succ j ih =>
    intro i m hi
    refine rt_iload dX8_memberNamed_13 (j := 0) rfl ?_
    refine rt_sipush (v := 2073) dX8_memberNamed_15 (by decide) ?_
    refine rt_icmp_ge (tgt := 68) dX8_memberNamed_18 (by decide) (fun c18 => absurd c18 (show ¬ nI 2073 ≤ nI i from nI_ge (by omega) (by decide))) (fun _ => ?_)
    refine rt_iload dX8_memberNamed_21 (j := 1) rfl ?_
    refine rt_iconst (v := (-1)) dX8_memberNamed_23 (by decide) ?_
    refine rt_icmp_eq (tgt := 68) dX8_memberNamed_24 (by decide) (fun c24 => ?_) (fun c24 => ?_)
    · refine rt_iconst (v := (-1)) dX8_memberNamed_68 (by decide) ?_
      rw [jMem_e c24]
      exact rt_iret dX8_memberNamed_69 rfl (⟨rfl, rfl⟩)
    · refine rt_aload_n dX8_memberNamed_27 rfl (j := 5) rfl ?_
      refine rt_bGet Γ kf_RX8_42 dX8_memberNamed_28 (L := (tx_L s0 ca t tape vals pos wrong k b nx fi pa wo ke nu le lu)) rfl rfl ?_
      refine rt_aload_n dX8_memberNamed_31 rfl (j := 5) rfl ?_
      refine rt_bGet Γ kf_RX8_35 dX8_memberNamed_32 (L := (tx_L s0 ca t tape vals pos wrong k b nx fi pa wo ke nu le lu)) rfl rfl ?_
      refine rt_iload dX8_memberNamed_35 (j := 1) rfl ?_
      refine rt_callV Γ kk_X0_at kc_RX8_45 (c_X0_at Γ (d := d - 1) (x := m) (rt_bk_C (t := t) (L := (tx_L s0 ca t tape vals pos wrong k b nx fi pa wo ke nu le lu)) 13 (Nat.le_of_ble_eq_true rfl) rfl rfl) (by decide)) (by omega) (by decide) (As := [.int m]) (show (parseMethodDescriptor yX0_at.desc).map (fun q => q.parameters.length) = some 1 by decide +kernel) hok (Nat.le_of_ble_eq_true rfl) dX8_memberNamed_37 (rt_bk_C (t := t) (L := (tx_L s0 ca t tape vals pos wrong k b nx fi pa wo ke nu le lu)) 13 (Nat.le_of_ble_eq_true rfl) rfl rfl).1 rfl rfl rfl (rt_kr (st2 := [.int (cl_at 2073 ke m), rt_r s0 (t + 16)]) rfl ?_) rt_kx
      refine rt_aload_n dX8_memberNamed_40 rfl (j := 3) rfl ?_
      refine rt_iload_n dX8_memberNamed_41 rfl (j := 2) rfl ?_
      refine rt_callV Γ kk_X0_isWord kc_RX8_53 (j_isWord Γ (d := d - 1) (rt_bk_C (t := t) (L := (tx_L s0 ca t tape vals pos wrong k b nx fi pa wo ke nu le lu)) 16 (Nat.le_of_ble_eq_true rfl) rfl rfl) hD (by decide) hn1) (by omega) (by decide) (As := [.int (cl_at 2073 ke m), rt_r s0 q, .int x]) (show (parseMethodDescriptor yX0_isWord.desc).map (fun q => q.parameters.length) = some 3 by decide +kernel) hok (Nat.le_of_ble_eq_true rfl) dX8_memberNamed_42 (rt_bk_C (t := t) (L := (tx_L s0 ca t tape vals pos wrong k b nx fi pa wo ke nu le lu)) 16 (Nat.le_of_ble_eq_true rfl) rfl rfl).1 rfl rfl rfl (fun v9 w9 hq => ?_) (fun X w9 hq => hq.2.elim (fun h => nomatch h.1) (fun h => nomatch h.1))
      obtain ⟨rfl, ⟨e9, hW⟩ | ⟨e9, hW⟩⟩ := hq
      · cases e9
        show rt_Go l s0 G RX8 "memberNamed" cX8_memberNamed 6 (Option.some FieldType.int) [] d _ _ (42 + 3) [(5, .int (nI i)), (4, .int m), (3, .int x), (2, rt_r s0 q), (1, .int v), (0, rt_r s0 t)] [.int 1] (rt_bk w t (tx_L s0 ca t tape vals pos wrong k b nx fi pa wo ke nu le lu))
        refine rt_if_eq (tgt := 51) dX8_memberNamed_45 (by decide) (fun c45 => absurd c45 (by decide)) (fun _ => ?_)
        refine rt_iload dX8_memberNamed_48 (j := 1) rfl ?_
        rw [jMem_y c24 hW]
        exact rt_iret dX8_memberNamed_50 rfl (⟨rfl, rfl⟩)
      · cases e9
        show rt_Go l s0 G RX8 "memberNamed" cX8_memberNamed 6 (Option.some FieldType.int) [] d _ _ (42 + 3) [(5, .int (nI i)), (4, .int m), (3, .int x), (2, rt_r s0 q), (1, .int v), (0, rt_r s0 t)] [.int 0] (rt_bk w t (tx_L s0 ca t tape vals pos wrong k b nx fi pa wo ke nu le lu))
        refine rt_if_eq (tgt := 51) dX8_memberNamed_45 (by decide) (fun _ => ?_) (fun c45 => absurd rfl c45)
        refine rt_aload_n dX8_memberNamed_51 rfl (j := 5) rfl ?_
        refine rt_bGet Γ kf_RX8_23 dX8_memberNamed_52 (L := (tx_L s0 ca t tape vals pos wrong k b nx fi pa wo ke nu le lu)) rfl rfl ?_
        refine rt_iload dX8_memberNamed_55 (j := 1) rfl ?_
        refine rt_callV Γ kk_X0_at kc_RX8_45 (c_X0_at Γ (d := d - 1) (x := m) (rt_bk_C (t := t) (L := (tx_L s0 ca t tape vals pos wrong k b nx fi pa wo ke nu le lu)) 5 (Nat.le_of_ble_eq_true rfl) rfl rfl) (by decide)) (by omega) (by decide) (As := [.int m]) (show (parseMethodDescriptor yX0_at.desc).map (fun q => q.parameters.length) = some 1 by decide +kernel) hok (Nat.le_of_ble_eq_true rfl) dX8_memberNamed_57 (rt_bk_C (t := t) (L := (tx_L s0 ca t tape vals pos wrong k b nx fi pa wo ke nu le lu)) 5 (Nat.le_of_ble_eq_true rfl) rfl rfl).1 rfl rfl rfl (rt_kr (st2 := [.int (cl_at 2073 nx m)]) rfl ?_) rt_kx
        refine rt_istore (lv' := [(4, .int (cl_at 2073 nx m)), (5, .int (nI i)), (3, .int x), (2, rt_r s0 q), (1, .int v), (0, rt_r s0 t)]) dX8_memberNamed_60 (by decide) rfl ?_
        refine rt_iinc (v := nI (i + 1)) (lv' := [(5, .int (nI (i + 1))), (4, .int (cl_at 2073 nx m)), (3, .int x), (2, rt_r s0 q), (1, .int v), (0, rt_r s0 t)]) dX8_memberNamed_62 (j := 1) rfl ((nI_1 i).symm ▸ rfl) (by decide) rfl ?_
        refine rt_goto (tgt := 13) dX8_memberNamed_65 (by decide) ?_
        rw [jMem_n c24 hW]
        exact rt_lfew [0, 1, 2, 3, 4, 5] rfl (ih (i + 1) _ (by omega))
set_option maxRecDepth 100000 in
theorem j_mem {l : Launch} {s0 : State} {a0 : Array Value} {G : va_G} {ca : Nat → ClassId} (Γ : rt_Γ l s0 a0 G ca) {d : Nat} {w : rt_Wd} {t : Nat} {tape : Value} {vals : Int32} {pos : Int32} {wrong : Int32} {k : Nat → Int32} {b : Nat → Int32} {nx : Nat → Int32} {fi : Nat → Int32} {pa : Nat → Int32} {wo : Nat → Int32} {ke : Nat → Int32} {nu : Nat → Int64} {le : Nat → Int32} {lu : Int32} (hd : 2 ≤ d) {q n1 : Nat} {f1 : Nat → Int32} {u1 : Int32} (hok : rt_ok w) (hD : rt_C s0 ca (rt_bk w t (tx_L s0 ca t tape vals pos wrong k b nx fi pa wo ke nu le lu)) q n1 f1 u1) (hn1 : n1 < 2 ^ 30) {v x : Int32} : rt_Met l s0 G (.code yX8_memberNamed cX8_memberNamed 6 (Option.some FieldType.int)) yX8_memberNamed d [rt_r s0 t, .int v, rt_r s0 q, .int x] (rt_bk w t (tx_L s0 ca t tape vals pos wrong k b nx fi pa wo ke nu le lu)) (rt_is (.inl (some (.int (jMem (fun m => cl_W 4096 le n1 f1 (cl_at 2073 ke m) x) nx 2073 (cl_at 2073 fi v))))) (rt_bk w t (tx_L s0 ca t tape vals pos wrong k b nx fi pa wo ke nu le lu))) := by
  refine rt_met Γ kk_X8_memberNamed rfl (Nat.le_of_ble_eq_true rfl) rfl ?_
  refine rt_aload_n dX8_memberNamed_0 rfl (j := 0) rfl ?_
  refine rt_bGet Γ kf_RX8_26 dX8_memberNamed_1 (L := (tx_L s0 ca t tape vals pos wrong k b nx fi pa wo ke nu le lu)) rfl rfl ?_
  refine rt_iload_n dX8_memberNamed_4 rfl (j := 1) rfl ?_
  refine rt_callV Γ kk_X0_at kc_RX8_45 (c_X0_at Γ (d := d - 1) (x := v) (rt_bk_C (t := t) (L := (tx_L s0 ca t tape vals pos wrong k b nx fi pa wo ke nu le lu)) 7 (Nat.le_of_ble_eq_true rfl) rfl rfl) (by decide)) (by omega) (by decide) (As := [.int v]) (show (parseMethodDescriptor yX0_at.desc).map (fun q => q.parameters.length) = some 1 by decide +kernel) hok (Nat.le_of_ble_eq_true rfl) dX8_memberNamed_5 (rt_bk_C (t := t) (L := (tx_L s0 ca t tape vals pos wrong k b nx fi pa wo ke nu le lu)) 7 (Nat.le_of_ble_eq_true rfl) rfl rfl).1 rfl rfl rfl (rt_kr (st2 := [.int (cl_at 2073 fi v)]) rfl ?_) rt_kx
  refine rt_istore (lv' := [(4, .int (cl_at 2073 fi v)), (0, rt_r s0 t), (1, .int v), (2, rt_r s0 q), (3, .int x)]) dX8_memberNamed_8 (by decide) rfl ?_
  refine rt_iconst (v := 0) dX8_memberNamed_10 (by decide) ?_
  refine rt_istore (lv' := [(5, .int 0), (4, .int (cl_at 2073 fi v)), (0, rt_r s0 t), (1, .int v), (2, rt_r s0 q), (3, .int x)]) dX8_memberNamed_11 (by decide) rfl ?_
  exact rt_lfew [0, 1, 5, 4, 3, 2] rfl (j_memL Γ hd hok hD hn1 2073 0 _ rfl)
set_option maxRecDepth 100000 in
theorem j_link1 {l : Launch} {s0 : State} {a0 : Array Value} {G : va_G} {ca : Nat → ClassId} (Γ : rt_Γ l s0 a0 G ca) {d : Nat} {w : rt_Wd} {t : Nat} {tape : Value} {vals : Int32} {pos : Int32} {wrong : Int32} {k : Nat → Int32} {b : Nat → Int32} {nx : Nat → Int32} {fi : Nat → Int32} {pa : Nat → Int32} {wo : Nat → Int32} {ke : Nat → Int32} {nu : Nat → Int64} {le : Nat → Int32} {lu : Int32} (hd : 1 ≤ d) (hok : rt_ok w) {v la x : Int32} (h : la = -1) : rt_Met l s0 G (.code yX8_link cX8_link 4 (Option.some FieldType.int)) yX8_link d [rt_r s0 t, .int v, .int la, .int x] (rt_bk w t (tx_L s0 ca t tape vals pos wrong k b nx fi pa wo ke nu le lu)) (rt_is (.inl (some (.int x))) (rt_bk w t (tx_L s0 ca t tape vals pos wrong k b nx (cl_put 2073 fi v x) (cl_put 2073 pa v ((cl_at 2073 pa v) + 1)) wo ke nu le lu))) := by
  refine rt_met Γ kk_X8_link rfl (Nat.le_of_ble_eq_true rfl) rfl ?_
  refine rt_iload_n dX8_link_0 rfl (j := 2) rfl ?_
  refine rt_iconst (v := (-1)) dX8_link_1 (by decide) ?_
  refine rt_icmp_ne (tgt := 17) dX8_link_2 (by decide) (fun c2 => absurd c2 (fun c => c h)) (fun _ => ?_)
  refine rt_aload_n dX8_link_5 rfl (j := 0) rfl ?_
  refine rt_bGet Γ kf_RX8_26 dX8_link_6 (L := (tx_L s0 ca t tape vals pos wrong k b nx fi pa wo ke nu le lu)) rfl rfl ?_
  refine rt_iload_n dX8_link_9 rfl (j := 1) rfl ?_
  refine rt_iload_n dX8_link_10 rfl (j := 3) rfl ?_
  refine rt_callV Γ kk_X0_put kc_RX8_89 (c_X0_put Γ (d := d - 1) (rt_bk_C (t := t) (L := (tx_L s0 ca t tape vals pos wrong k b nx fi pa wo ke nu le lu)) 7 (Nat.le_of_ble_eq_true rfl) rfl rfl) (by decide)) (by omega) (by decide) (As := [.int v, .int x]) (show (parseMethodDescriptor yX0_put.desc).map (fun q => q.parameters.length) = some 2 by decide +kernel) hok (Nat.le_of_ble_eq_true rfl) dX8_link_11 (rt_bk_C (t := t) (L := (tx_L s0 ca t tape vals pos wrong k b nx fi pa wo ke nu le lu)) 7 (Nat.le_of_ble_eq_true rfl) rfl rfl).1 rfl rfl rfl (rt_kr (st2 := []) rfl ?_) rt_kx
  refine rt_weq (w' := (rt_bk w t (tx_L s0 ca t tape vals pos wrong k b nx (cl_put 2073 fi v x) pa wo ke nu le lu))) (rt_bk_cs 7 (Nat.le_of_ble_eq_true rfl)) ?_
  refine rt_goto (tgt := 26) dX8_link_14 (by decide) ?_
  refine rt_aload_n dX8_link_26 rfl (j := 0) rfl ?_
  refine rt_bGet Γ kf_RX8_29 dX8_link_27 (L := (tx_L s0 ca t tape vals pos wrong k b nx (cl_put 2073 fi v x) pa wo ke nu le lu)) rfl rfl ?_
  refine rt_iload_n dX8_link_30 rfl (j := 1) rfl ?_
  refine rt_aload_n dX8_link_31 rfl (j := 0) rfl ?_
  refine rt_bGet Γ kf_RX8_29 dX8_link_32 (L := (tx_L s0 ca t tape vals pos wrong k b nx (cl_put 2073 fi v x) pa wo ke nu le lu)) rfl rfl ?_
  refine rt_iload_n dX8_link_35 rfl (j := 1) rfl ?_
  refine rt_callV Γ kk_X0_at kc_RX8_45 (c_X0_at Γ (d := d - 1) (x := v) (rt_bk_C (t := t) (L := (tx_L s0 ca t tape vals pos wrong k b nx (cl_put 2073 fi v x) pa wo ke nu le lu)) 9 (Nat.le_of_ble_eq_true rfl) rfl rfl) (by decide)) (by omega) (by decide) (As := [.int v]) (show (parseMethodDescriptor yX0_at.desc).map (fun q => q.parameters.length) = some 1 by decide +kernel) hok (Nat.le_of_ble_eq_true rfl) dX8_link_36 (rt_bk_C (t := t) (L := (tx_L s0 ca t tape vals pos wrong k b nx (cl_put 2073 fi v x) pa wo ke nu le lu)) 9 (Nat.le_of_ble_eq_true rfl) rfl rfl).1 rfl rfl rfl (rt_kr (st2 := [.int (cl_at 2073 pa v), .int v, rt_r s0 (t + 9)]) rfl ?_) rt_kx
  refine rt_iconst (v := 1) dX8_link_39 (by decide) ?_
  refine rt_iadd dX8_link_40 ?_
  refine rt_callV Γ kk_X0_put kc_RX8_89 (c_X0_put Γ (d := d - 1) (rt_bk_C (t := t) (L := (tx_L s0 ca t tape vals pos wrong k b nx (cl_put 2073 fi v x) pa wo ke nu le lu)) 9 (Nat.le_of_ble_eq_true rfl) rfl rfl) (by decide)) (by omega) (by decide) (As := [.int v, .int ((cl_at 2073 pa v) + 1)]) (show (parseMethodDescriptor yX0_put.desc).map (fun q => q.parameters.length) = some 2 by decide +kernel) hok (Nat.le_of_ble_eq_true rfl) dX8_link_41 (rt_bk_C (t := t) (L := (tx_L s0 ca t tape vals pos wrong k b nx (cl_put 2073 fi v x) pa wo ke nu le lu)) 9 (Nat.le_of_ble_eq_true rfl) rfl rfl).1 rfl rfl rfl (rt_kr (st2 := []) rfl ?_) rt_kx
  refine rt_weq (w' := (rt_bk w t (tx_L s0 ca t tape vals pos wrong k b nx (cl_put 2073 fi v x) (cl_put 2073 pa v ((cl_at 2073 pa v) + 1)) wo ke nu le lu))) (rt_bk_cs 9 (Nat.le_of_ble_eq_true rfl)) ?_
  refine rt_iload_n dX8_link_44 rfl (j := 3) rfl ?_
  exact rt_iret dX8_link_45 rfl (⟨rfl, rfl⟩)
set_option maxRecDepth 100000 in
theorem j_link2 {l : Launch} {s0 : State} {a0 : Array Value} {G : va_G} {ca : Nat → ClassId} (Γ : rt_Γ l s0 a0 G ca) {d : Nat} {w : rt_Wd} {t : Nat} {tape : Value} {vals : Int32} {pos : Int32} {wrong : Int32} {k : Nat → Int32} {b : Nat → Int32} {nx : Nat → Int32} {fi : Nat → Int32} {pa : Nat → Int32} {wo : Nat → Int32} {ke : Nat → Int32} {nu : Nat → Int64} {le : Nat → Int32} {lu : Int32} (hd : 1 ≤ d) (hok : rt_ok w) {v la x : Int32} (h : ¬ la = -1) : rt_Met l s0 G (.code yX8_link cX8_link 4 (Option.some FieldType.int)) yX8_link d [rt_r s0 t, .int v, .int la, .int x] (rt_bk w t (tx_L s0 ca t tape vals pos wrong k b nx fi pa wo ke nu le lu)) (rt_is (.inl (some (.int x))) (rt_bk w t (tx_L s0 ca t tape vals pos wrong k b (cl_put 2073 nx la x) fi (cl_put 2073 pa v ((cl_at 2073 pa v) + 1)) wo ke nu le lu))) := by
  refine rt_met Γ kk_X8_link rfl (Nat.le_of_ble_eq_true rfl) rfl ?_
  refine rt_iload_n dX8_link_0 rfl (j := 2) rfl ?_
  refine rt_iconst (v := (-1)) dX8_link_1 (by decide) ?_
  refine rt_icmp_ne (tgt := 17) dX8_link_2 (by decide) (fun _ => ?_) (fun c2 => absurd c2 h)
  refine rt_aload_n dX8_link_17 rfl (j := 0) rfl ?_
  refine rt_bGet Γ kf_RX8_23 dX8_link_18 (L := (tx_L s0 ca t tape vals pos wrong k b nx fi pa wo ke nu le lu)) rfl rfl ?_
  refine rt_iload_n dX8_link_21 rfl (j := 2) rfl ?_
  refine rt_iload_n dX8_link_22 rfl (j := 3) rfl ?_
  refine rt_callV Γ kk_X0_put kc_RX8_89 (c_X0_put Γ (d := d - 1) (rt_bk_C (t := t) (L := (tx_L s0 ca t tape vals pos wrong k b nx fi pa wo ke nu le lu)) 5 (Nat.le_of_ble_eq_true rfl) rfl rfl) (by decide)) (by omega) (by decide) (As := [.int la, .int x]) (show (parseMethodDescriptor yX0_put.desc).map (fun q => q.parameters.length) = some 2 by decide +kernel) hok (Nat.le_of_ble_eq_true rfl) dX8_link_23 (rt_bk_C (t := t) (L := (tx_L s0 ca t tape vals pos wrong k b nx fi pa wo ke nu le lu)) 5 (Nat.le_of_ble_eq_true rfl) rfl rfl).1 rfl rfl rfl (rt_kr (st2 := []) rfl ?_) rt_kx
  refine rt_weq (w' := (rt_bk w t (tx_L s0 ca t tape vals pos wrong k b (cl_put 2073 nx la x) fi pa wo ke nu le lu))) (rt_bk_cs 5 (Nat.le_of_ble_eq_true rfl)) ?_
  refine rt_aload_n dX8_link_26 rfl (j := 0) rfl ?_
  refine rt_bGet Γ kf_RX8_29 dX8_link_27 (L := (tx_L s0 ca t tape vals pos wrong k b (cl_put 2073 nx la x) fi pa wo ke nu le lu)) rfl rfl ?_
  refine rt_iload_n dX8_link_30 rfl (j := 1) rfl ?_
  refine rt_aload_n dX8_link_31 rfl (j := 0) rfl ?_
  refine rt_bGet Γ kf_RX8_29 dX8_link_32 (L := (tx_L s0 ca t tape vals pos wrong k b (cl_put 2073 nx la x) fi pa wo ke nu le lu)) rfl rfl ?_
  refine rt_iload_n dX8_link_35 rfl (j := 1) rfl ?_
  refine rt_callV Γ kk_X0_at kc_RX8_45 (c_X0_at Γ (d := d - 1) (x := v) (rt_bk_C (t := t) (L := (tx_L s0 ca t tape vals pos wrong k b (cl_put 2073 nx la x) fi pa wo ke nu le lu)) 9 (Nat.le_of_ble_eq_true rfl) rfl rfl) (by decide)) (by omega) (by decide) (As := [.int v]) (show (parseMethodDescriptor yX0_at.desc).map (fun q => q.parameters.length) = some 1 by decide +kernel) hok (Nat.le_of_ble_eq_true rfl) dX8_link_36 (rt_bk_C (t := t) (L := (tx_L s0 ca t tape vals pos wrong k b (cl_put 2073 nx la x) fi pa wo ke nu le lu)) 9 (Nat.le_of_ble_eq_true rfl) rfl rfl).1 rfl rfl rfl (rt_kr (st2 := [.int (cl_at 2073 pa v), .int v, rt_r s0 (t + 9)]) rfl ?_) rt_kx
  refine rt_iconst (v := 1) dX8_link_39 (by decide) ?_
  refine rt_iadd dX8_link_40 ?_
  refine rt_callV Γ kk_X0_put kc_RX8_89 (c_X0_put Γ (d := d - 1) (rt_bk_C (t := t) (L := (tx_L s0 ca t tape vals pos wrong k b (cl_put 2073 nx la x) fi pa wo ke nu le lu)) 9 (Nat.le_of_ble_eq_true rfl) rfl rfl) (by decide)) (by omega) (by decide) (As := [.int v, .int ((cl_at 2073 pa v) + 1)]) (show (parseMethodDescriptor yX0_put.desc).map (fun q => q.parameters.length) = some 2 by decide +kernel) hok (Nat.le_of_ble_eq_true rfl) dX8_link_41 (rt_bk_C (t := t) (L := (tx_L s0 ca t tape vals pos wrong k b (cl_put 2073 nx la x) fi pa wo ke nu le lu)) 9 (Nat.le_of_ble_eq_true rfl) rfl rfl).1 rfl rfl rfl (rt_kr (st2 := []) rfl ?_) rt_kx
  refine rt_weq (w' := (rt_bk w t (tx_L s0 ca t tape vals pos wrong k b (cl_put 2073 nx la x) fi (cl_put 2073 pa v ((cl_at 2073 pa v) + 1)) wo ke nu le lu))) (rt_bk_cs 9 (Nat.le_of_ble_eq_true rfl)) ?_
  refine rt_iload_n dX8_link_44 rfl (j := 3) rfl ?_
  exact rt_iret dX8_link_45 rfl (⟨rfl, rfl⟩)
set_option maxRecDepth 100000 in
theorem j_skipAL {l : Launch} {s0 : State} {a0 : Array Value} {G : va_G} {ca : Nat → ClassId} (Γ : rt_Γ l s0 a0 G ca) {d : Nat} {w v0 : rt_Wd} {t : Nat} {vals : Int32} {wrong : Int32} {k : Nat → Int32} {b : Nat → Int32} {nx : Nat → Int32} {fi : Nat → Int32} {pa : Nat → Int32} {wo : Nat → Int32} {ke : Nat → Int32} {nu : Nat → Int64} {le : Nat → Int32} {lu : Int32} (hd : 1 ≤ d) {tp n : Nat} {f : Nat → Int32} {u : Int32} (hT : rt_C s0 ca w tp n f u) (hn : n < 2 ^ 31) (htp : tp + 1 < t ∨ t + 18 ≤ tp) (hok : rt_ok w) : ∀ (m i : Nat) (x : Int32), i + m = 4096 → rt_Go l s0 G RX8 "skipBlanks" cX8_skipBlanks 3 (Option.none : Option FieldType) [] d v0 (fun r w1 => r = .inl none ∧ ∃ p1 : Int32, w1 = (rt_bk w t (tx_L s0 ca t (rt_r s0 tp) vals p1 wrong k b nx fi pa wo ke nu le lu))) 2 [(1, .int (nI i)), (0, rt_r s0 t)] [] (rt_bk w t (tx_L s0 ca t (rt_r s0 tp) vals x wrong k b nx fi pa wo ke nu le lu)) := by
  intro m
  induction m with
  | zero =>
    intro i x hi
    obtain rfl : i = 4096 := by omega
    refine rt_iload_n dX8_skipBlanks_2 rfl (j := 0) rfl ?_
    refine rt_sipush (v := 4096) dX8_skipBlanks_3 (by decide) ?_
    refine rt_icmp_ge (tgt := 62) dX8_skipBlanks_6 (by decide) (fun _ => ?_) (fun c6 => absurd (by decide) c6)
    exact rt_vret dX8_skipBlanks_62 rfl (⟨rfl, _, rfl⟩)
  | succ m ih =>
    intro i x hi
    refine rt_iload_n dX8_skipBlanks_2 rfl (j := 0) rfl ?_
    refine rt_sipush (v := 4096) dX8_skipBlanks_3 (by decide) ?_
    refine rt_icmp_ge (tgt := 62) dX8_skipBlanks_6 (by decide) (fun c6 => absurd c6 (show ¬ nI 4096 ≤ nI i from nI_ge (by omega) (by decide))) (fun _ => ?_)
    refine rt_aload_n dX8_skipBlanks_9 rfl (j := 1) rfl ?_
    refine rt_bGet Γ kf_RX8_57 dX8_skipBlanks_10 (L := (tx_L s0 ca t (rt_r s0 tp) vals x wrong k b nx fi pa wo ke nu le lu)) rfl rfl ?_
    refine rt_aload_n dX8_skipBlanks_13 rfl (j := 1) rfl ?_
    refine rt_bGet Γ kf_RX8_67 dX8_skipBlanks_14 (L := (tx_L s0 ca t (rt_r s0 tp) vals x wrong k b nx fi pa wo ke nu le lu)) rfl rfl ?_
    refine rt_callV Γ kk_X0_peek kc_RX8_86 (c_X0_peek Γ (d := d - 1) (x := x) (hT.bk htp) hn) (by omega) (by decide) (As := [.int x]) (show (parseMethodDescriptor yX0_peek.desc).map (fun q => q.parameters.length) = some 1 by decide +kernel) hok (Nat.le_of_ble_eq_true rfl) dX8_skipBlanks_17 (hT.bk htp).1 rfl rfl rfl (rt_kr (st2 := [.int (cl_peek n f u x)]) rfl ?_) rt_kx
    refine rt_topi (fun y _ => ?_)
    refine rt_istore_n (lv' := [(2, .int y), (1, .int (nI i)), (0, rt_r s0 t)]) dX8_skipBlanks_20 rfl (by decide) rfl ?_
    refine rt_iload_n dX8_skipBlanks_21 rfl (j := 0) rfl ?_
    refine rt_bipush (v := 9) dX8_skipBlanks_22 (by decide) ?_
    refine rt_icmp_eq (tgt := 46) dX8_skipBlanks_24 (by decide) (fun c24 => ?_) (fun c24 => ?_)
    · refine rt_aload_n dX8_skipBlanks_46 rfl (j := 2) rfl ?_
      refine rt_dup dX8_skipBlanks_47 rfl ?_
      refine rt_bGet Γ kf_RX8_67 dX8_skipBlanks_48 (L := (tx_L s0 ca t (rt_r s0 tp) vals x wrong k b nx fi pa wo ke nu le lu)) rfl rfl ?_
      refine rt_iconst (v := 1) dX8_skipBlanks_51 (by decide) ?_
      refine rt_iadd dX8_skipBlanks_52 ?_
      refine rt_bPut Γ kp_RX8_67 dX8_skipBlanks_53 (L := (tx_L s0 ca t (rt_r s0 tp) vals x wrong k b nx fi pa wo ke nu le lu)) rfl (Nat.le_of_ble_eq_true rfl) rfl rfl (L' := (tx_L s0 ca t (rt_r s0 tp) vals (x + 1) wrong k b nx fi pa wo ke nu le lu)) rfl ?_
      refine rt_iinc (v := nI (i + 1)) (lv' := [(1, .int (nI (i + 1))), (2, .int y), (0, rt_r s0 t)]) dX8_skipBlanks_56 (j := 1) rfl ((nI_1 i).symm ▸ rfl) (by decide) rfl ?_
      refine rt_goto (tgt := 2) dX8_skipBlanks_59 (by decide) ?_
      exact rt_lfew [0, 2] rfl (ih (i + 1) _ (by omega))
    · refine rt_iload_n dX8_skipBlanks_27 rfl (j := 0) rfl ?_
      refine rt_bipush (v := 10) dX8_skipBlanks_28 (by decide) ?_
      refine rt_icmp_eq (tgt := 46) dX8_skipBlanks_30 (by decide) (fun c30 => ?_) (fun c30 => ?_)
      · refine rt_aload_n dX8_skipBlanks_46 rfl (j := 2) rfl ?_
        refine rt_dup dX8_skipBlanks_47 rfl ?_
        refine rt_bGet Γ kf_RX8_67 dX8_skipBlanks_48 (L := (tx_L s0 ca t (rt_r s0 tp) vals x wrong k b nx fi pa wo ke nu le lu)) rfl rfl ?_
        refine rt_iconst (v := 1) dX8_skipBlanks_51 (by decide) ?_
        refine rt_iadd dX8_skipBlanks_52 ?_
        refine rt_bPut Γ kp_RX8_67 dX8_skipBlanks_53 (L := (tx_L s0 ca t (rt_r s0 tp) vals x wrong k b nx fi pa wo ke nu le lu)) rfl (Nat.le_of_ble_eq_true rfl) rfl rfl (L' := (tx_L s0 ca t (rt_r s0 tp) vals (x + 1) wrong k b nx fi pa wo ke nu le lu)) rfl ?_
        refine rt_iinc (v := nI (i + 1)) (lv' := [(1, .int (nI (i + 1))), (2, .int y), (0, rt_r s0 t)]) dX8_skipBlanks_56 (j := 1) rfl ((nI_1 i).symm ▸ rfl) (by decide) rfl ?_
        refine rt_goto (tgt := 2) dX8_skipBlanks_59 (by decide) ?_
        exact rt_lfew [0, 2] rfl (ih (i + 1) _ (by omega))
      · refine rt_iload_n dX8_skipBlanks_33 rfl (j := 0) rfl ?_
        refine rt_bipush (v := 13) dX8_skipBlanks_34 (by decide) ?_
        refine rt_icmp_eq (tgt := 46) dX8_skipBlanks_36 (by decide) (fun c36 => ?_) (fun c36 => ?_)
        · refine rt_aload_n dX8_skipBlanks_46 rfl (j := 2) rfl ?_
          refine rt_dup dX8_skipBlanks_47 rfl ?_
          refine rt_bGet Γ kf_RX8_67 dX8_skipBlanks_48 (L := (tx_L s0 ca t (rt_r s0 tp) vals x wrong k b nx fi pa wo ke nu le lu)) rfl rfl ?_
          refine rt_iconst (v := 1) dX8_skipBlanks_51 (by decide) ?_
          refine rt_iadd dX8_skipBlanks_52 ?_
          refine rt_bPut Γ kp_RX8_67 dX8_skipBlanks_53 (L := (tx_L s0 ca t (rt_r s0 tp) vals x wrong k b nx fi pa wo ke nu le lu)) rfl (Nat.le_of_ble_eq_true rfl) rfl rfl (L' := (tx_L s0 ca t (rt_r s0 tp) vals (x + 1) wrong k b nx fi pa wo ke nu le lu)) rfl ?_
          refine rt_iinc (v := nI (i + 1)) (lv' := [(1, .int (nI (i + 1))), (2, .int y), (0, rt_r s0 t)]) dX8_skipBlanks_56 (j := 1) rfl ((nI_1 i).symm ▸ rfl) (by decide) rfl ?_
          refine rt_goto (tgt := 2) dX8_skipBlanks_59 (by decide) ?_
          exact rt_lfew [0, 2] rfl (ih (i + 1) _ (by omega))
        · refine rt_iload_n dX8_skipBlanks_39 rfl (j := 0) rfl ?_
          refine rt_bipush (v := 32) dX8_skipBlanks_40 (by decide) ?_
          refine rt_icmp_eq (tgt := 46) dX8_skipBlanks_42 (by decide) (fun c42 => ?_) (fun c42 => ?_)
          · refine rt_aload_n dX8_skipBlanks_46 rfl (j := 2) rfl ?_
            refine rt_dup dX8_skipBlanks_47 rfl ?_
            refine rt_bGet Γ kf_RX8_67 dX8_skipBlanks_48 (L := (tx_L s0 ca t (rt_r s0 tp) vals x wrong k b nx fi pa wo ke nu le lu)) rfl rfl ?_
            refine rt_iconst (v := 1) dX8_skipBlanks_51 (by decide) ?_
            refine rt_iadd dX8_skipBlanks_52 ?_
            refine rt_bPut Γ kp_RX8_67 dX8_skipBlanks_53 (L := (tx_L s0 ca t (rt_r s0 tp) vals x wrong k b nx fi pa wo ke nu le lu)) rfl (Nat.le_of_ble_eq_true rfl) rfl rfl (L' := (tx_L s0 ca t (rt_r s0 tp) vals (x + 1) wrong k b nx fi pa wo ke nu le lu)) rfl ?_
            refine rt_iinc (v := nI (i + 1)) (lv' := [(1, .int (nI (i + 1))), (2, .int y), (0, rt_r s0 t)]) dX8_skipBlanks_56 (j := 1) rfl ((nI_1 i).symm ▸ rfl) (by decide) rfl ?_
            refine rt_goto (tgt := 2) dX8_skipBlanks_59 (by decide) ?_
            exact rt_lfew [0, 2] rfl (ih (i + 1) _ (by omega))
          · exact rt_vret dX8_skipBlanks_45 rfl (⟨rfl, _, rfl⟩)
set_option maxRecDepth 100000 in
theorem j_skipA {l : Launch} {s0 : State} {a0 : Array Value} {G : va_G} {ca : Nat → ClassId} (Γ : rt_Γ l s0 a0 G ca) {d : Nat} {w : rt_Wd} {t : Nat} {vals : Int32} {pos : Int32} {wrong : Int32} {k : Nat → Int32} {b : Nat → Int32} {nx : Nat → Int32} {fi : Nat → Int32} {pa : Nat → Int32} {wo : Nat → Int32} {ke : Nat → Int32} {nu : Nat → Int64} {le : Nat → Int32} {lu : Int32} (hd : 1 ≤ d) {tp n : Nat} {f : Nat → Int32} {u : Int32} (hT : rt_C s0 ca w tp n f u) (hn : n < 2 ^ 31) (htp : tp + 1 < t ∨ t + 18 ≤ tp) (hok : rt_ok w) : rt_Met l s0 G (.code yX8_skipBlanks cX8_skipBlanks 3 (Option.none : Option FieldType)) yX8_skipBlanks d [rt_r s0 t] (rt_bk w t (tx_L s0 ca t (rt_r s0 tp) vals pos wrong k b nx fi pa wo ke nu le lu)) (fun r w1 => r = .inl none ∧ ∃ p1 : Int32, w1 = (rt_bk w t (tx_L s0 ca t (rt_r s0 tp) vals p1 wrong k b nx fi pa wo ke nu le lu))) := by
  refine rt_met Γ kk_X8_skipBlanks rfl (Nat.le_of_ble_eq_true rfl) rfl ?_
  refine rt_iconst (v := 0) dX8_skipBlanks_0 (by decide) ?_
  refine rt_istore_n (lv' := [(1, .int 0), (0, rt_r s0 t)]) dX8_skipBlanks_1 rfl (by decide) rfl ?_
  exact j_skipAL Γ hd hT hn htp hok 4096 0 pos rfl
set_option maxRecDepth 100000 in
theorem j_key1 {l : Launch} {s0 : State} {a0 : Array Value} {G : va_G} {ca : Nat → ClassId} (Γ : rt_Γ l s0 a0 G ca) {d : Nat} {w : rt_Wd} {t : Nat} {vals : Int32} {k : Nat → Int32} {b : Nat → Int32} {nx : Nat → Int32} {fi : Nat → Int32} {pa : Nat → Int32} {wo : Nat → Int32} {ke : Nat → Int32} {nu : Nat → Int64} {le : Nat → Int32} (hd : 1 ≤ d) {tp n : Nat} {f : Nat → Int32} {u : Int32} {g : Nat → Int32} (hT : rt_C s0 ca w tp n f u) (hn : n < 2 ^ 31) (htp : tp + 1 < t ∨ t + 18 ≤ tp) (hg : ∀ p : Nat, p < 65536 → cl_peek n f u (nI p) = g p) (hok : rt_ok w) {p L : Nat} {v : Int32} (hp : p < 50000) (h : ¬ g p = 34) : rt_Met l s0 G (.code yX8_parseKey cX8_parseKey 4 (Option.none : Option FieldType)) yX8_parseKey d [rt_r s0 t, .int v] (rt_bk w t (tx_L s0 ca t (rt_r s0 tp) vals (nI p) (-1) k b nx fi pa wo ke nu le (nI L))) (fun r w1 => r = .inl none ∧ tx_B s0 ca w t tp p w1) := by
  refine rt_met Γ kk_X8_parseKey rfl (Nat.le_of_ble_eq_true rfl) rfl ?_
  refine rt_aload_n dX8_parseKey_0 rfl (j := 0) rfl ?_
  refine rt_bGet Γ kf_RX8_57 dX8_parseKey_1 (L := (tx_L s0 ca t (rt_r s0 tp) vals (nI p) (-1) k b nx fi pa wo ke nu le (nI L))) rfl rfl ?_
  refine rt_aload_n dX8_parseKey_4 rfl (j := 0) rfl ?_
  refine rt_bGet Γ kf_RX8_67 dX8_parseKey_5 (L := (tx_L s0 ca t (rt_r s0 tp) vals (nI p) (-1) k b nx fi pa wo ke nu le (nI L))) rfl rfl ?_
  refine rt_callV Γ kk_X0_peek kc_RX8_86 (c_X0_peek Γ (d := d - 1) (x := (nI p)) (hT.bk htp) hn) (by omega) (by decide) (As := [.int (nI p)]) (show (parseMethodDescriptor yX0_peek.desc).map (fun q => q.parameters.length) = some 1 by decide +kernel) hok (Nat.le_of_ble_eq_true rfl) dX8_parseKey_8 (hT.bk htp).1 rfl rfl rfl (rt_kr (st2 := [.int (cl_peek n f u (nI p))]) rfl ?_) rt_kx
  refine rt_te (y := g p) (hg p (by omega)) ?_
  refine rt_bipush (v := 34) dX8_parseKey_11 (by decide) ?_
  refine rt_icmp_eq (tgt := 25) dX8_parseKey_13 (by decide) (fun c13 => absurd c13 h) (fun _ => ?_)
  refine rt_aload_n dX8_parseKey_16 rfl (j := 0) rfl ?_
  refine rt_aload_n dX8_parseKey_17 rfl (j := 0) rfl ?_
  refine rt_bGet Γ kf_RX8_67 dX8_parseKey_18 (L := (tx_L s0 ca t (rt_r s0 tp) vals (nI p) (-1) k b nx fi pa wo ke nu le (nI L))) rfl rfl ?_
  refine rt_callV Γ kk_X8_fail kc_RX8_83 (c_X8_fail0 Γ (d := d - 1)) (by omega) (by decide) (As := [.int (nI p)]) (show (parseMethodDescriptor yX8_fail.desc).map (fun q => q.parameters.length) = some 1 by decide +kernel) hok (Nat.le_of_ble_eq_true rfl) dX8_parseKey_21 ((rt_bk_0 w t (tx_L s0 ca t (rt_r s0 tp) vals (nI p) (-1) k b nx fi pa wo ke nu le (nI L)) (Nat.le_of_ble_eq_true rfl)).trans rfl) rfl rfl rfl (rt_kr (st2 := []) rfl ?_) rt_kx
  exact rt_vret dX8_parseKey_24 rfl (⟨rfl, _, _, _, _, _, _, _, _, _, _, _, _, rfl⟩)
set_option maxRecDepth 100000 in
theorem j_key2 {l : Launch} {s0 : State} {a0 : Array Value} {G : va_G} {ca : Nat → ClassId} (Γ : rt_Γ l s0 a0 G ca) {d : Nat} {w : rt_Wd} {t : Nat} {vals : Int32} {k : Nat → Int32} {b : Nat → Int32} {nx : Nat → Int32} {fi : Nat → Int32} {pa : Nat → Int32} {wo : Nat → Int32} {ke : Nat → Int32} {nu : Nat → Int64} {le : Nat → Int32} (hd : 4 ≤ d) {tp n : Nat} {f : Nat → Int32} {u : Int32} {g : Nat → Int32} (hT : rt_C s0 ca w tp n f u) (hn : n < 2 ^ 31) (htp : tp + 1 < t ∨ t + 18 ≤ tp) (hg : ∀ p : Nat, p < 65536 → cl_peek n f u (nI p) = g p) (hok : rt_ok w) {p L N : Nat} {v : Int32} (hN : jT g N) (h : g p = 34) (hL : L + (N - p) < 4096) {e : Nat} (hs : jStr g 4097 (p + 1) = .error e) (he : e < 2 ^ 31) : rt_Met l s0 G (.code yX8_parseKey cX8_parseKey 4 (Option.none : Option FieldType)) yX8_parseKey d [rt_r s0 t, .int v] (rt_bk w t (tx_L s0 ca t (rt_r s0 tp) vals (nI p) (-1) k b nx fi pa wo ke nu le (nI L))) (fun r w1 => r = .inl none ∧ tx_B s0 ca w t tp e w1) := by
  refine rt_met Γ kk_X8_parseKey rfl (Nat.le_of_ble_eq_true rfl) rfl ?_
  have hN0 := hN.1
  have hpN : p < N := hN.lt (by rw [h]; decide)
  refine rt_aload_n dX8_parseKey_0 rfl (j := 0) rfl ?_
  refine rt_bGet Γ kf_RX8_57 dX8_parseKey_1 (L := (tx_L s0 ca t (rt_r s0 tp) vals (nI p) (-1) k b nx fi pa wo ke nu le (nI L))) rfl rfl ?_
  refine rt_aload_n dX8_parseKey_4 rfl (j := 0) rfl ?_
  refine rt_bGet Γ kf_RX8_67 dX8_parseKey_5 (L := (tx_L s0 ca t (rt_r s0 tp) vals (nI p) (-1) k b nx fi pa wo ke nu le (nI L))) rfl rfl ?_
  refine rt_callV Γ kk_X0_peek kc_RX8_86 (c_X0_peek Γ (d := d - 1) (x := (nI p)) (hT.bk htp) hn) (by omega) (by decide) (As := [.int (nI p)]) (show (parseMethodDescriptor yX0_peek.desc).map (fun q => q.parameters.length) = some 1 by decide +kernel) hok (Nat.le_of_ble_eq_true rfl) dX8_parseKey_8 (hT.bk htp).1 rfl rfl rfl (rt_kr (st2 := [.int (cl_peek n f u (nI p))]) rfl ?_) rt_kx
  refine rt_te (y := g p) (hg p (by omega)) ?_
  refine rt_bipush (v := 34) dX8_parseKey_11 (by decide) ?_
  refine rt_icmp_eq (tgt := 25) dX8_parseKey_13 (by decide) (fun _ => ?_) (fun c13 => absurd h c13)
  refine rt_aload_n dX8_parseKey_25 rfl (j := 0) rfl ?_
  refine rt_bGet Γ kf_RX8_67 dX8_parseKey_26 (L := (tx_L s0 ca t (rt_r s0 tp) vals (nI p) (-1) k b nx fi pa wo ke nu le (nI L))) rfl rfl ?_
  refine rt_istore_n (lv' := [(2, .int (nI p)), (0, rt_r s0 t), (1, .int v)]) dX8_parseKey_29 rfl (by decide) rfl ?_
  refine rt_aload_n dX8_parseKey_30 rfl (j := 1) rfl ?_
  refine rt_callV Γ kk_X8_parseString kc_RX8_97 (j_strE Γ (d := d - 1) (by omega) hT hn htp hg hok hN (hN.lt (by rw [h]; decide)) hL hs) (by omega) (by decide) (As := []) (show (parseMethodDescriptor yX8_parseString.desc).map (fun q => q.parameters.length) = some 0 by decide +kernel) hok (Nat.le_of_ble_eq_true rfl) dX8_parseKey_31 ((rt_bk_0 w t (tx_L s0 ca t (rt_r s0 tp) vals (nI p) (-1) k b nx fi pa wo ke nu le (nI L)) (Nat.le_of_ble_eq_true rfl)).trans rfl) rfl rfl rfl (fun v9 w9 hq => ?_) (fun X w9 hq => nomatch hq.1)
  obtain ⟨e9, vals1, pos1, k1, b1, nx1, fi1, pa1, wo1, ke1, nu1, le1, lu1, rfl⟩ := hq
  cases e9
  show rt_Go l s0 G RX8 "parseKey" cX8_parseKey 4 (Option.none : Option FieldType) [] d _ _ (31 + 3) [(2, .int (nI p)), (0, rt_r s0 t), (1, .int v)] [.int (nI L)] (rt_bk w t (tx_L s0 ca t (rt_r s0 tp) vals1 pos1 (nI e) k1 b1 nx1 fi1 pa1 wo1 ke1 nu1 le1 lu1))
  refine rt_istore_n (lv' := [(3, .int (nI L)), (2, .int (nI p)), (0, rt_r s0 t), (1, .int v)]) dX8_parseKey_34 rfl (by decide) rfl ?_
  refine rt_aload_n dX8_parseKey_35 rfl (j := 2) rfl ?_
  refine rt_iload_n dX8_parseKey_36 rfl (j := 3) rfl ?_
  refine rt_aload_n dX8_parseKey_37 rfl (j := 2) rfl ?_
  refine rt_bGet Γ kf_RX8_42 dX8_parseKey_38 (L := (tx_L s0 ca t (rt_r s0 tp) vals1 pos1 (nI e) k1 b1 nx1 fi1 pa1 wo1 ke1 nu1 le1 lu1)) rfl rfl ?_
  refine rt_iload_n dX8_parseKey_41 rfl (j := 0) rfl ?_
  refine rt_callV Γ kk_X8_memberNamed kc_RX8_120 (j_mem Γ (d := d - 1) (by omega) hok (n1 := 4096) (rt_bk_C (t := t) (L := (tx_L s0 ca t (rt_r s0 tp) vals1 pos1 (nI e) k1 b1 nx1 fi1 pa1 wo1 ke1 nu1 le1 lu1)) 16 (Nat.le_of_ble_eq_true rfl) rfl rfl) (by decide)) (by omega) (by decide) (As := [.int v, rt_r s0 (t + 16), .int (nI L)]) (show (parseMethodDescriptor yX8_memberNamed.desc).map (fun q => q.parameters.length) = some 3 by decide +kernel) hok (Nat.le_of_ble_eq_true rfl) dX8_parseKey_42 ((rt_bk_0 w t (tx_L s0 ca t (rt_r s0 tp) vals1 pos1 (nI e) k1 b1 nx1 fi1 pa1 wo1 ke1 nu1 le1 lu1) (Nat.le_of_ble_eq_true rfl)).trans rfl) rfl rfl rfl (rt_kr (st2 := [.int (jMem (fun m => cl_W 4096 le1 4096 le1 (cl_at 2073 ke1 m) (nI L)) nx1 2073 (cl_at 2073 fi1 v))]) rfl ?_) rt_kx
  have hw : ¬ nI e = -1 := nI_nm1 he
  refine rt_topi (fun y1 _ => ?_)
  refine rt_iconst (v := (-1)) dX8_parseKey_45 (by decide) ?_
  refine rt_icmp_eq (tgt := 54) dX8_parseKey_46 (by decide) (fun c46 => ?_) (fun c46 => ?_)
  · refine rt_aload_n dX8_parseKey_54 rfl (j := 2) rfl ?_
    refine rt_bGet Γ kf_RX8_35 dX8_parseKey_55 (L := (tx_L s0 ca t (rt_r s0 tp) vals1 pos1 (nI e) k1 b1 nx1 fi1 pa1 wo1 ke1 nu1 le1 lu1)) rfl rfl ?_
    refine rt_aload_n dX8_parseKey_58 rfl (j := 2) rfl ?_
    refine rt_bGet Γ kf_RX8_63 dX8_parseKey_59 (L := (tx_L s0 ca t (rt_r s0 tp) vals1 pos1 (nI e) k1 b1 nx1 fi1 pa1 wo1 ke1 nu1 le1 lu1)) rfl rfl ?_
    refine rt_iload_n dX8_parseKey_62 rfl (j := 0) rfl ?_
    refine rt_callV Γ kk_X0_put kc_RX8_89 (c_X0_put Γ (d := d - 1) (rt_bk_C (t := t) (L := (tx_L s0 ca t (rt_r s0 tp) vals1 pos1 (nI e) k1 b1 nx1 fi1 pa1 wo1 ke1 nu1 le1 lu1)) 13 (Nat.le_of_ble_eq_true rfl) rfl rfl) (by decide)) (by omega) (by decide) (As := [.int vals1, .int (nI L)]) (show (parseMethodDescriptor yX0_put.desc).map (fun q => q.parameters.length) = some 2 by decide +kernel) hok (Nat.le_of_ble_eq_true rfl) dX8_parseKey_63 (rt_bk_C (t := t) (L := (tx_L s0 ca t (rt_r s0 tp) vals1 pos1 (nI e) k1 b1 nx1 fi1 pa1 wo1 ke1 nu1 le1 lu1)) 13 (Nat.le_of_ble_eq_true rfl) rfl rfl).1 rfl rfl rfl (rt_kr (st2 := []) rfl ?_) rt_kx
    refine rt_weq (w' := (rt_bk w t (tx_L s0 ca t (rt_r s0 tp) vals1 pos1 (nI e) k1 b1 nx1 fi1 pa1 wo1 (cl_put 2073 ke1 vals1 (nI L)) nu1 le1 lu1))) (rt_bk_cs 13 (Nat.le_of_ble_eq_true rfl)) ?_
    refine rt_aload_n dX8_parseKey_66 rfl (j := 2) rfl ?_
    refine rt_callV Γ kk_X8_skipBlanks kc_RX8_73 (j_skipA Γ (d := d - 1) (by omega) hT hn htp hok) (by omega) (by decide) (As := []) (show (parseMethodDescriptor yX8_skipBlanks.desc).map (fun q => q.parameters.length) = some 0 by decide +kernel) hok (Nat.le_of_ble_eq_true rfl) dX8_parseKey_67 ((rt_bk_0 w t (tx_L s0 ca t (rt_r s0 tp) vals1 pos1 (nI e) k1 b1 nx1 fi1 pa1 wo1 (cl_put 2073 ke1 vals1 (nI L)) nu1 le1 lu1) (Nat.le_of_ble_eq_true rfl)).trans rfl) rfl rfl rfl (fun v9 w9 hq => ?_) (fun X w9 hq => nomatch hq.1)
    obtain ⟨e9, pos2, rfl⟩ := hq
    cases e9
    show rt_Go l s0 G RX8 "parseKey" cX8_parseKey 4 (Option.none : Option FieldType) [] d _ _ (67 + 3) [(3, .int (nI L)), (2, .int (nI p)), (0, rt_r s0 t), (1, .int v)] [] (rt_bk w t (tx_L s0 ca t (rt_r s0 tp) vals1 pos2 (nI e) k1 b1 nx1 fi1 pa1 wo1 (cl_put 2073 ke1 vals1 (nI L)) nu1 le1 lu1))
    refine rt_aload_n dX8_parseKey_70 rfl (j := 2) rfl ?_
    refine rt_bGet Γ kf_RX8_57 dX8_parseKey_71 (L := (tx_L s0 ca t (rt_r s0 tp) vals1 pos2 (nI e) k1 b1 nx1 fi1 pa1 wo1 (cl_put 2073 ke1 vals1 (nI L)) nu1 le1 lu1)) rfl rfl ?_
    refine rt_aload_n dX8_parseKey_74 rfl (j := 2) rfl ?_
    refine rt_bGet Γ kf_RX8_67 dX8_parseKey_75 (L := (tx_L s0 ca t (rt_r s0 tp) vals1 pos2 (nI e) k1 b1 nx1 fi1 pa1 wo1 (cl_put 2073 ke1 vals1 (nI L)) nu1 le1 lu1)) rfl rfl ?_
    refine rt_callV Γ kk_X0_peek kc_RX8_86 (c_X0_peek Γ (d := d - 1) (x := pos2) (hT.bk htp) hn) (by omega) (by decide) (As := [.int pos2]) (show (parseMethodDescriptor yX0_peek.desc).map (fun q => q.parameters.length) = some 1 by decide +kernel) hok (Nat.le_of_ble_eq_true rfl) dX8_parseKey_78 (hT.bk htp).1 rfl rfl rfl (rt_kr (st2 := [.int (cl_peek n f u pos2)]) rfl ?_) rt_kx
    refine rt_topi (fun y2 _ => ?_)
    refine rt_bipush (v := 58) dX8_parseKey_81 (by decide) ?_
    refine rt_icmp_eq (tgt := 95) dX8_parseKey_83 (by decide) (fun c83 => ?_) (fun c83 => ?_)
    · refine rt_aload_n dX8_parseKey_95 rfl (j := 2) rfl ?_
      refine rt_dup dX8_parseKey_96 rfl ?_
      refine rt_bGet Γ kf_RX8_67 dX8_parseKey_97 (L := (tx_L s0 ca t (rt_r s0 tp) vals1 pos2 (nI e) k1 b1 nx1 fi1 pa1 wo1 (cl_put 2073 ke1 vals1 (nI L)) nu1 le1 lu1)) rfl rfl ?_
      refine rt_iconst (v := 1) dX8_parseKey_100 (by decide) ?_
      refine rt_iadd dX8_parseKey_101 ?_
      refine rt_bPut Γ kp_RX8_67 dX8_parseKey_102 (L := (tx_L s0 ca t (rt_r s0 tp) vals1 pos2 (nI e) k1 b1 nx1 fi1 pa1 wo1 (cl_put 2073 ke1 vals1 (nI L)) nu1 le1 lu1)) rfl (Nat.le_of_ble_eq_true rfl) rfl rfl (L' := (tx_L s0 ca t (rt_r s0 tp) vals1 (pos2 + 1) (nI e) k1 b1 nx1 fi1 pa1 wo1 (cl_put 2073 ke1 vals1 (nI L)) nu1 le1 lu1)) rfl ?_
      refine rt_aload_n dX8_parseKey_105 rfl (j := 2) rfl ?_
      refine rt_callV Γ kk_X8_skipBlanks kc_RX8_73 (j_skipA Γ (d := d - 1) (by omega) hT hn htp hok) (by omega) (by decide) (As := []) (show (parseMethodDescriptor yX8_skipBlanks.desc).map (fun q => q.parameters.length) = some 0 by decide +kernel) hok (Nat.le_of_ble_eq_true rfl) dX8_parseKey_106 ((rt_bk_0 w t (tx_L s0 ca t (rt_r s0 tp) vals1 (pos2 + 1) (nI e) k1 b1 nx1 fi1 pa1 wo1 (cl_put 2073 ke1 vals1 (nI L)) nu1 le1 lu1) (Nat.le_of_ble_eq_true rfl)).trans rfl) rfl rfl rfl (fun v9 w9 hq => ?_) (fun X w9 hq => nomatch hq.1)
      obtain ⟨e9, pos3, rfl⟩ := hq
      cases e9
      show rt_Go l s0 G RX8 "parseKey" cX8_parseKey 4 (Option.none : Option FieldType) [] d _ _ (106 + 3) [(3, .int (nI L)), (2, .int (nI p)), (0, rt_r s0 t), (1, .int v)] [] (rt_bk w t (tx_L s0 ca t (rt_r s0 tp) vals1 pos3 (nI e) k1 b1 nx1 fi1 pa1 wo1 (cl_put 2073 ke1 vals1 (nI L)) nu1 le1 lu1))
      exact rt_vret dX8_parseKey_109 rfl (⟨rfl, _, _, _, _, _, _, _, _, _, _, _, _, rfl⟩)
    · refine rt_aload_n dX8_parseKey_86 rfl (j := 2) rfl ?_
      refine rt_aload_n dX8_parseKey_87 rfl (j := 2) rfl ?_
      refine rt_bGet Γ kf_RX8_67 dX8_parseKey_88 (L := (tx_L s0 ca t (rt_r s0 tp) vals1 pos2 (nI e) k1 b1 nx1 fi1 pa1 wo1 (cl_put 2073 ke1 vals1 (nI L)) nu1 le1 lu1)) rfl rfl ?_
      refine rt_callV Γ kk_X8_fail kc_RX8_83 (c_X8_fail1 Γ (d := d - 1) hw) (by omega) (by decide) (As := [.int pos2]) (show (parseMethodDescriptor yX8_fail.desc).map (fun q => q.parameters.length) = some 1 by decide +kernel) hok (Nat.le_of_ble_eq_true rfl) dX8_parseKey_91 ((rt_bk_0 w t (tx_L s0 ca t (rt_r s0 tp) vals1 pos2 (nI e) k1 b1 nx1 fi1 pa1 wo1 (cl_put 2073 ke1 vals1 (nI L)) nu1 le1 lu1) (Nat.le_of_ble_eq_true rfl)).trans rfl) rfl rfl rfl (rt_kr (st2 := []) rfl ?_) rt_kx
      exact rt_vret dX8_parseKey_94 rfl (⟨rfl, _, _, _, _, _, _, _, _, _, _, _, _, rfl⟩)
  · refine rt_aload_n dX8_parseKey_49 rfl (j := 2) rfl ?_
    refine rt_iload_n dX8_parseKey_50 rfl (j := 1) rfl ?_
    refine rt_callV Γ kk_X8_fail kc_RX8_83 (c_X8_fail1 Γ (d := d - 1) hw) (by omega) (by decide) (As := [.int (nI p)]) (show (parseMethodDescriptor yX8_fail.desc).map (fun q => q.parameters.length) = some 1 by decide +kernel) hok (Nat.le_of_ble_eq_true rfl) dX8_parseKey_51 ((rt_bk_0 w t (tx_L s0 ca t (rt_r s0 tp) vals1 pos1 (nI e) k1 b1 nx1 fi1 pa1 wo1 ke1 nu1 le1 lu1) (Nat.le_of_ble_eq_true rfl)).trans rfl) rfl rfl rfl (rt_kr (st2 := []) rfl ?_) rt_kx
    refine rt_aload_n dX8_parseKey_54 rfl (j := 2) rfl ?_
    refine rt_bGet Γ kf_RX8_35 dX8_parseKey_55 (L := (tx_L s0 ca t (rt_r s0 tp) vals1 pos1 (nI e) k1 b1 nx1 fi1 pa1 wo1 ke1 nu1 le1 lu1)) rfl rfl ?_
    refine rt_aload_n dX8_parseKey_58 rfl (j := 2) rfl ?_
    refine rt_bGet Γ kf_RX8_63 dX8_parseKey_59 (L := (tx_L s0 ca t (rt_r s0 tp) vals1 pos1 (nI e) k1 b1 nx1 fi1 pa1 wo1 ke1 nu1 le1 lu1)) rfl rfl ?_
    refine rt_iload_n dX8_parseKey_62 rfl (j := 0) rfl ?_
    refine rt_callV Γ kk_X0_put kc_RX8_89 (c_X0_put Γ (d := d - 1) (rt_bk_C (t := t) (L := (tx_L s0 ca t (rt_r s0 tp) vals1 pos1 (nI e) k1 b1 nx1 fi1 pa1 wo1 ke1 nu1 le1 lu1)) 13 (Nat.le_of_ble_eq_true rfl) rfl rfl) (by decide)) (by omega) (by decide) (As := [.int vals1, .int (nI L)]) (show (parseMethodDescriptor yX0_put.desc).map (fun q => q.parameters.length) = some 2 by decide +kernel) hok (Nat.le_of_ble_eq_true rfl) dX8_parseKey_63 (rt_bk_C (t := t) (L := (tx_L s0 ca t (rt_r s0 tp) vals1 pos1 (nI e) k1 b1 nx1 fi1 pa1 wo1 ke1 nu1 le1 lu1)) 13 (Nat.le_of_ble_eq_true rfl) rfl rfl).1 rfl rfl rfl (rt_kr (st2 := []) rfl ?_) rt_kx
    refine rt_weq (w' := (rt_bk w t (tx_L s0 ca t (rt_r s0 tp) vals1 pos1 (nI e) k1 b1 nx1 fi1 pa1 wo1 (cl_put 2073 ke1 vals1 (nI L)) nu1 le1 lu1))) (rt_bk_cs 13 (Nat.le_of_ble_eq_true rfl)) ?_
    refine rt_aload_n dX8_parseKey_66 rfl (j := 2) rfl ?_
    refine rt_callV Γ kk_X8_skipBlanks kc_RX8_73 (j_skipA Γ (d := d - 1) (by omega) hT hn htp hok) (by omega) (by decide) (As := []) (show (parseMethodDescriptor yX8_skipBlanks.desc).map (fun q => q.parameters.length) = some 0 by decide +kernel) hok (Nat.le_of_ble_eq_true rfl) dX8_parseKey_67 ((rt_bk_0 w t (tx_L s0 ca t (rt_r s0 tp) vals1 pos1 (nI e) k1 b1 nx1 fi1 pa1 wo1 (cl_put 2073 ke1 vals1 (nI L)) nu1 le1 lu1) (Nat.le_of_ble_eq_true rfl)).trans rfl) rfl rfl rfl (fun v9 w9 hq => ?_) (fun X w9 hq => nomatch hq.1)
    obtain ⟨e9, pos4, rfl⟩ := hq
    cases e9
    show rt_Go l s0 G RX8 "parseKey" cX8_parseKey 4 (Option.none : Option FieldType) [] d _ _ (67 + 3) [(3, .int (nI L)), (2, .int (nI p)), (0, rt_r s0 t), (1, .int v)] [] (rt_bk w t (tx_L s0 ca t (rt_r s0 tp) vals1 pos4 (nI e) k1 b1 nx1 fi1 pa1 wo1 (cl_put 2073 ke1 vals1 (nI L)) nu1 le1 lu1))
    refine rt_aload_n dX8_parseKey_70 rfl (j := 2) rfl ?_
    refine rt_bGet Γ kf_RX8_57 dX8_parseKey_71 (L := (tx_L s0 ca t (rt_r s0 tp) vals1 pos4 (nI e) k1 b1 nx1 fi1 pa1 wo1 (cl_put 2073 ke1 vals1 (nI L)) nu1 le1 lu1)) rfl rfl ?_
    refine rt_aload_n dX8_parseKey_74 rfl (j := 2) rfl ?_
    refine rt_bGet Γ kf_RX8_67 dX8_parseKey_75 (L := (tx_L s0 ca t (rt_r s0 tp) vals1 pos4 (nI e) k1 b1 nx1 fi1 pa1 wo1 (cl_put 2073 ke1 vals1 (nI L)) nu1 le1 lu1)) rfl rfl ?_
    refine rt_callV Γ kk_X0_peek kc_RX8_86 (c_X0_peek Γ (d := d - 1) (x := pos4) (hT.bk htp) hn) (by omega) (by decide) (As := [.int pos4]) (show (parseMethodDescriptor yX0_peek.desc).map (fun q => q.parameters.length) = some 1 by decide +kernel) hok (Nat.le_of_ble_eq_true rfl) dX8_parseKey_78 (hT.bk htp).1 rfl rfl rfl (rt_kr (st2 := [.int (cl_peek n f u pos4)]) rfl ?_) rt_kx
    refine rt_topi (fun y2 _ => ?_)
    refine rt_bipush (v := 58) dX8_parseKey_81 (by decide) ?_
    refine rt_icmp_eq (tgt := 95) dX8_parseKey_83 (by decide) (fun c83 => ?_) (fun c83 => ?_)
    · refine rt_aload_n dX8_parseKey_95 rfl (j := 2) rfl ?_
      refine rt_dup dX8_parseKey_96 rfl ?_
      refine rt_bGet Γ kf_RX8_67 dX8_parseKey_97 (L := (tx_L s0 ca t (rt_r s0 tp) vals1 pos4 (nI e) k1 b1 nx1 fi1 pa1 wo1 (cl_put 2073 ke1 vals1 (nI L)) nu1 le1 lu1)) rfl rfl ?_
      refine rt_iconst (v := 1) dX8_parseKey_100 (by decide) ?_
      refine rt_iadd dX8_parseKey_101 ?_
      refine rt_bPut Γ kp_RX8_67 dX8_parseKey_102 (L := (tx_L s0 ca t (rt_r s0 tp) vals1 pos4 (nI e) k1 b1 nx1 fi1 pa1 wo1 (cl_put 2073 ke1 vals1 (nI L)) nu1 le1 lu1)) rfl (Nat.le_of_ble_eq_true rfl) rfl rfl (L' := (tx_L s0 ca t (rt_r s0 tp) vals1 (pos4 + 1) (nI e) k1 b1 nx1 fi1 pa1 wo1 (cl_put 2073 ke1 vals1 (nI L)) nu1 le1 lu1)) rfl ?_
      refine rt_aload_n dX8_parseKey_105 rfl (j := 2) rfl ?_
      refine rt_callV Γ kk_X8_skipBlanks kc_RX8_73 (j_skipA Γ (d := d - 1) (by omega) hT hn htp hok) (by omega) (by decide) (As := []) (show (parseMethodDescriptor yX8_skipBlanks.desc).map (fun q => q.parameters.length) = some 0 by decide +kernel) hok (Nat.le_of_ble_eq_true rfl) dX8_parseKey_106 ((rt_bk_0 w t (tx_L s0 ca t (rt_r s0 tp) vals1 (pos4 + 1) (nI e) k1 b1 nx1 fi1 pa1 wo1 (cl_put 2073 ke1 vals1 (nI L)) nu1 le1 lu1) (Nat.le_of_ble_eq_true rfl)).trans rfl) rfl rfl rfl (fun v9 w9 hq => ?_) (fun X w9 hq => nomatch hq.1)
      obtain ⟨e9, pos5, rfl⟩ := hq
      cases e9
      show rt_Go l s0 G RX8 "parseKey" cX8_parseKey 4 (Option.none : Option FieldType) [] d _ _ (106 + 3) [(3, .int (nI L)), (2, .int (nI p)), (0, rt_r s0 t), (1, .int v)] [] (rt_bk w t (tx_L s0 ca t (rt_r s0 tp) vals1 pos5 (nI e) k1 b1 nx1 fi1 pa1 wo1 (cl_put 2073 ke1 vals1 (nI L)) nu1 le1 lu1))
      exact rt_vret dX8_parseKey_109 rfl (⟨rfl, _, _, _, _, _, _, _, _, _, _, _, _, rfl⟩)
    · refine rt_aload_n dX8_parseKey_86 rfl (j := 2) rfl ?_
      refine rt_aload_n dX8_parseKey_87 rfl (j := 2) rfl ?_
      refine rt_bGet Γ kf_RX8_67 dX8_parseKey_88 (L := (tx_L s0 ca t (rt_r s0 tp) vals1 pos4 (nI e) k1 b1 nx1 fi1 pa1 wo1 (cl_put 2073 ke1 vals1 (nI L)) nu1 le1 lu1)) rfl rfl ?_
      refine rt_callV Γ kk_X8_fail kc_RX8_83 (c_X8_fail1 Γ (d := d - 1) hw) (by omega) (by decide) (As := [.int pos4]) (show (parseMethodDescriptor yX8_fail.desc).map (fun q => q.parameters.length) = some 1 by decide +kernel) hok (Nat.le_of_ble_eq_true rfl) dX8_parseKey_91 ((rt_bk_0 w t (tx_L s0 ca t (rt_r s0 tp) vals1 pos4 (nI e) k1 b1 nx1 fi1 pa1 wo1 (cl_put 2073 ke1 vals1 (nI L)) nu1 le1 lu1) (Nat.le_of_ble_eq_true rfl)).trans rfl) rfl rfl rfl (rt_kr (st2 := []) rfl ?_) rt_kx
      exact rt_vret dX8_parseKey_94 rfl (⟨rfl, _, _, _, _, _, _, _, _, _, _, _, _, rfl⟩)
set_option maxRecDepth 100000 in
theorem j_key3 {l : Launch} {s0 : State} {a0 : Array Value} {G : va_G} {ca : Nat → ClassId} (Γ : rt_Γ l s0 a0 G ca) {d : Nat} {w : rt_Wd} {t : Nat} {vals : Int32} {k : Nat → Int32} {b : Nat → Int32} {nx : Nat → Int32} {fi : Nat → Int32} {pa : Nat → Int32} {wo : Nat → Int32} {ke : Nat → Int32} {nu : Nat → Int64} {le : Nat → Int32} (hd : 4 ≤ d) {tp n : Nat} {f : Nat → Int32} {u : Int32} {g : Nat → Int32} (hT : rt_C s0 ca w tp n f u) (hn : n < 2 ^ 31) (htp : tp + 1 < t ∨ t + 18 ≤ tp) (hg : ∀ p : Nat, p < 65536 → cl_peek n f u (nI p) = g p) (hok : rt_ok w) {p L N : Nat} {v : Int32} (hN : jT g N) (h : g p = 34) (hL : L + (N - p) < 4096) {ws : List Int32} {p1 : Nat} (hs : jStr g 4097 (p + 1) = .ok (ws, p1)) (hm : ¬ (jMem (fun m => cl_W 4096 (jWord le L ws) 4096 (jWord le L ws) (cl_at 2073 ke m) (nI L)) nx 2073 (cl_at 2073 fi v)) = -1) : rt_Met l s0 G (.code yX8_parseKey cX8_parseKey 4 (Option.none : Option FieldType)) yX8_parseKey d [rt_r s0 t, .int v] (rt_bk w t (tx_L s0 ca t (rt_r s0 tp) vals (nI p) (-1) k b nx fi pa wo ke nu le (nI L))) (fun r w1 => r = .inl none ∧ tx_B s0 ca w t tp p w1) := by
  refine rt_met Γ kk_X8_parseKey rfl (Nat.le_of_ble_eq_true rfl) rfl ?_
  have hN0 := hN.1
  have hpN : p < N := hN.lt (by rw [h]; decide)
  have hq := jStr_ok hN hs
  refine rt_aload_n dX8_parseKey_0 rfl (j := 0) rfl ?_
  refine rt_bGet Γ kf_RX8_57 dX8_parseKey_1 (L := (tx_L s0 ca t (rt_r s0 tp) vals (nI p) (-1) k b nx fi pa wo ke nu le (nI L))) rfl rfl ?_
  refine rt_aload_n dX8_parseKey_4 rfl (j := 0) rfl ?_
  refine rt_bGet Γ kf_RX8_67 dX8_parseKey_5 (L := (tx_L s0 ca t (rt_r s0 tp) vals (nI p) (-1) k b nx fi pa wo ke nu le (nI L))) rfl rfl ?_
  refine rt_callV Γ kk_X0_peek kc_RX8_86 (c_X0_peek Γ (d := d - 1) (x := (nI p)) (hT.bk htp) hn) (by omega) (by decide) (As := [.int (nI p)]) (show (parseMethodDescriptor yX0_peek.desc).map (fun q => q.parameters.length) = some 1 by decide +kernel) hok (Nat.le_of_ble_eq_true rfl) dX8_parseKey_8 (hT.bk htp).1 rfl rfl rfl (rt_kr (st2 := [.int (cl_peek n f u (nI p))]) rfl ?_) rt_kx
  refine rt_te (y := g p) (hg p (by omega)) ?_
  refine rt_bipush (v := 34) dX8_parseKey_11 (by decide) ?_
  refine rt_icmp_eq (tgt := 25) dX8_parseKey_13 (by decide) (fun _ => ?_) (fun c13 => absurd h c13)
  refine rt_aload_n dX8_parseKey_25 rfl (j := 0) rfl ?_
  refine rt_bGet Γ kf_RX8_67 dX8_parseKey_26 (L := (tx_L s0 ca t (rt_r s0 tp) vals (nI p) (-1) k b nx fi pa wo ke nu le (nI L))) rfl rfl ?_
  refine rt_istore_n (lv' := [(2, .int (nI p)), (0, rt_r s0 t), (1, .int v)]) dX8_parseKey_29 rfl (by decide) rfl ?_
  refine rt_aload_n dX8_parseKey_30 rfl (j := 1) rfl ?_
  refine rt_callV Γ kk_X8_parseString kc_RX8_97 (j_strT Γ (d := d - 1) (by omega) hT hn htp hg hok hN hpN hL hs) (by omega) (by decide) (As := []) (show (parseMethodDescriptor yX8_parseString.desc).map (fun q => q.parameters.length) = some 0 by decide +kernel) hok (Nat.le_of_ble_eq_true rfl) dX8_parseKey_31 ((rt_bk_0 w t (tx_L s0 ca t (rt_r s0 tp) vals (nI p) (-1) k b nx fi pa wo ke nu le (nI L)) (Nat.le_of_ble_eq_true rfl)).trans rfl) rfl rfl rfl (rt_kr (st2 := [.int (nI L)]) rfl ?_) rt_kx
  refine rt_istore_n (lv' := [(3, .int (nI L)), (2, .int (nI p)), (0, rt_r s0 t), (1, .int v)]) dX8_parseKey_34 rfl (by decide) rfl ?_
  refine rt_aload_n dX8_parseKey_35 rfl (j := 2) rfl ?_
  refine rt_iload_n dX8_parseKey_36 rfl (j := 3) rfl ?_
  refine rt_aload_n dX8_parseKey_37 rfl (j := 2) rfl ?_
  refine rt_bGet Γ kf_RX8_42 dX8_parseKey_38 (L := (tx_L s0 ca t (rt_r s0 tp) vals (nI p1) (-1) k b nx fi pa wo ke nu (jWord le L ws) (nI (L + 1 + ws.length)))) rfl rfl ?_
  refine rt_iload_n dX8_parseKey_41 rfl (j := 0) rfl ?_
  refine rt_callV Γ kk_X8_memberNamed kc_RX8_120 (j_mem Γ (d := d - 1) (by omega) hok (n1 := 4096) (rt_bk_C (t := t) (L := (tx_L s0 ca t (rt_r s0 tp) vals (nI p1) (-1) k b nx fi pa wo ke nu (jWord le L ws) (nI (L + 1 + ws.length)))) 16 (Nat.le_of_ble_eq_true rfl) rfl rfl) (by decide)) (by omega) (by decide) (As := [.int v, rt_r s0 (t + 16), .int (nI L)]) (show (parseMethodDescriptor yX8_memberNamed.desc).map (fun q => q.parameters.length) = some 3 by decide +kernel) hok (Nat.le_of_ble_eq_true rfl) dX8_parseKey_42 ((rt_bk_0 w t (tx_L s0 ca t (rt_r s0 tp) vals (nI p1) (-1) k b nx fi pa wo ke nu (jWord le L ws) (nI (L + 1 + ws.length))) (Nat.le_of_ble_eq_true rfl)).trans rfl) rfl rfl rfl (rt_kr (st2 := [.int (jMem (fun m => cl_W 4096 (jWord le L ws) 4096 (jWord le L ws) (cl_at 2073 ke m) (nI L)) nx 2073 (cl_at 2073 fi v))]) rfl ?_) rt_kx
  refine rt_iconst (v := (-1)) dX8_parseKey_45 (by decide) ?_
  refine rt_icmp_eq (tgt := 54) dX8_parseKey_46 (by decide) (fun c46 => absurd c46 hm) (fun _ => ?_)
  refine rt_aload_n dX8_parseKey_49 rfl (j := 2) rfl ?_
  refine rt_iload_n dX8_parseKey_50 rfl (j := 1) rfl ?_
  refine rt_callV Γ kk_X8_fail kc_RX8_83 (c_X8_fail0 Γ (d := d - 1)) (by omega) (by decide) (As := [.int (nI p)]) (show (parseMethodDescriptor yX8_fail.desc).map (fun q => q.parameters.length) = some 1 by decide +kernel) hok (Nat.le_of_ble_eq_true rfl) dX8_parseKey_51 ((rt_bk_0 w t (tx_L s0 ca t (rt_r s0 tp) vals (nI p1) (-1) k b nx fi pa wo ke nu (jWord le L ws) (nI (L + 1 + ws.length))) (Nat.le_of_ble_eq_true rfl)).trans rfl) rfl rfl rfl (rt_kr (st2 := []) rfl ?_) rt_kx
  have hw : ¬ nI p = -1 := nI_nm1 (by omega)
  refine rt_aload_n dX8_parseKey_54 rfl (j := 2) rfl ?_
  refine rt_bGet Γ kf_RX8_35 dX8_parseKey_55 (L := (tx_L s0 ca t (rt_r s0 tp) vals (nI p1) (nI p) k b nx fi pa wo ke nu (jWord le L ws) (nI (L + 1 + ws.length)))) rfl rfl ?_
  refine rt_aload_n dX8_parseKey_58 rfl (j := 2) rfl ?_
  refine rt_bGet Γ kf_RX8_63 dX8_parseKey_59 (L := (tx_L s0 ca t (rt_r s0 tp) vals (nI p1) (nI p) k b nx fi pa wo ke nu (jWord le L ws) (nI (L + 1 + ws.length)))) rfl rfl ?_
  refine rt_iload_n dX8_parseKey_62 rfl (j := 0) rfl ?_
  refine rt_callV Γ kk_X0_put kc_RX8_89 (c_X0_put Γ (d := d - 1) (rt_bk_C (t := t) (L := (tx_L s0 ca t (rt_r s0 tp) vals (nI p1) (nI p) k b nx fi pa wo ke nu (jWord le L ws) (nI (L + 1 + ws.length)))) 13 (Nat.le_of_ble_eq_true rfl) rfl rfl) (by decide)) (by omega) (by decide) (As := [.int vals, .int (nI L)]) (show (parseMethodDescriptor yX0_put.desc).map (fun q => q.parameters.length) = some 2 by decide +kernel) hok (Nat.le_of_ble_eq_true rfl) dX8_parseKey_63 (rt_bk_C (t := t) (L := (tx_L s0 ca t (rt_r s0 tp) vals (nI p1) (nI p) k b nx fi pa wo ke nu (jWord le L ws) (nI (L + 1 + ws.length)))) 13 (Nat.le_of_ble_eq_true rfl) rfl rfl).1 rfl rfl rfl (rt_kr (st2 := []) rfl ?_) rt_kx
  refine rt_weq (w' := (rt_bk w t (tx_L s0 ca t (rt_r s0 tp) vals (nI p1) (nI p) k b nx fi pa wo (cl_put 2073 ke vals (nI L)) nu (jWord le L ws) (nI (L + 1 + ws.length))))) (rt_bk_cs 13 (Nat.le_of_ble_eq_true rfl)) ?_
  refine rt_aload_n dX8_parseKey_66 rfl (j := 2) rfl ?_
  refine rt_callV Γ kk_X8_skipBlanks kc_RX8_73 (j_skipA Γ (d := d - 1) (by omega) hT hn htp hok) (by omega) (by decide) (As := []) (show (parseMethodDescriptor yX8_skipBlanks.desc).map (fun q => q.parameters.length) = some 0 by decide +kernel) hok (Nat.le_of_ble_eq_true rfl) dX8_parseKey_67 ((rt_bk_0 w t (tx_L s0 ca t (rt_r s0 tp) vals (nI p1) (nI p) k b nx fi pa wo (cl_put 2073 ke vals (nI L)) nu (jWord le L ws) (nI (L + 1 + ws.length))) (Nat.le_of_ble_eq_true rfl)).trans rfl) rfl rfl rfl (fun v9 w9 hq => ?_) (fun X w9 hq => nomatch hq.1)
  obtain ⟨e9, pos6, rfl⟩ := hq
  cases e9
  show rt_Go l s0 G RX8 "parseKey" cX8_parseKey 4 (Option.none : Option FieldType) [] d _ _ (67 + 3) [(3, .int (nI L)), (2, .int (nI p)), (0, rt_r s0 t), (1, .int v)] [] (rt_bk w t (tx_L s0 ca t (rt_r s0 tp) vals pos6 (nI p) k b nx fi pa wo (cl_put 2073 ke vals (nI L)) nu (jWord le L ws) (nI (L + 1 + ws.length))))
  refine rt_aload_n dX8_parseKey_70 rfl (j := 2) rfl ?_
  refine rt_bGet Γ kf_RX8_57 dX8_parseKey_71 (L := (tx_L s0 ca t (rt_r s0 tp) vals pos6 (nI p) k b nx fi pa wo (cl_put 2073 ke vals (nI L)) nu (jWord le L ws) (nI (L + 1 + ws.length)))) rfl rfl ?_
  refine rt_aload_n dX8_parseKey_74 rfl (j := 2) rfl ?_
  refine rt_bGet Γ kf_RX8_67 dX8_parseKey_75 (L := (tx_L s0 ca t (rt_r s0 tp) vals pos6 (nI p) k b nx fi pa wo (cl_put 2073 ke vals (nI L)) nu (jWord le L ws) (nI (L + 1 + ws.length)))) rfl rfl ?_
  refine rt_callV Γ kk_X0_peek kc_RX8_86 (c_X0_peek Γ (d := d - 1) (x := pos6) (hT.bk htp) hn) (by omega) (by decide) (As := [.int pos6]) (show (parseMethodDescriptor yX0_peek.desc).map (fun q => q.parameters.length) = some 1 by decide +kernel) hok (Nat.le_of_ble_eq_true rfl) dX8_parseKey_78 (hT.bk htp).1 rfl rfl rfl (rt_kr (st2 := [.int (cl_peek n f u pos6)]) rfl ?_) rt_kx
  refine rt_topi (fun y2 _ => ?_)
  refine rt_bipush (v := 58) dX8_parseKey_81 (by decide) ?_
  refine rt_icmp_eq (tgt := 95) dX8_parseKey_83 (by decide) (fun c83 => ?_) (fun c83 => ?_)
  · refine rt_aload_n dX8_parseKey_95 rfl (j := 2) rfl ?_
    refine rt_dup dX8_parseKey_96 rfl ?_
    refine rt_bGet Γ kf_RX8_67 dX8_parseKey_97 (L := (tx_L s0 ca t (rt_r s0 tp) vals pos6 (nI p) k b nx fi pa wo (cl_put 2073 ke vals (nI L)) nu (jWord le L ws) (nI (L + 1 + ws.length)))) rfl rfl ?_
    refine rt_iconst (v := 1) dX8_parseKey_100 (by decide) ?_
    refine rt_iadd dX8_parseKey_101 ?_
    refine rt_bPut Γ kp_RX8_67 dX8_parseKey_102 (L := (tx_L s0 ca t (rt_r s0 tp) vals pos6 (nI p) k b nx fi pa wo (cl_put 2073 ke vals (nI L)) nu (jWord le L ws) (nI (L + 1 + ws.length)))) rfl (Nat.le_of_ble_eq_true rfl) rfl rfl (L' := (tx_L s0 ca t (rt_r s0 tp) vals (pos6 + 1) (nI p) k b nx fi pa wo (cl_put 2073 ke vals (nI L)) nu (jWord le L ws) (nI (L + 1 + ws.length)))) rfl ?_
    refine rt_aload_n dX8_parseKey_105 rfl (j := 2) rfl ?_
    refine rt_callV Γ kk_X8_skipBlanks kc_RX8_73 (j_skipA Γ (d := d - 1) (by omega) hT hn htp hok) (by omega) (by decide) (As := []) (show (parseMethodDescriptor yX8_skipBlanks.desc).map (fun q => q.parameters.length) = some 0 by decide +kernel) hok (Nat.le_of_ble_eq_true rfl) dX8_parseKey_106 ((rt_bk_0 w t (tx_L s0 ca t (rt_r s0 tp) vals (pos6 + 1) (nI p) k b nx fi pa wo (cl_put 2073 ke vals (nI L)) nu (jWord le L ws) (nI (L + 1 + ws.length))) (Nat.le_of_ble_eq_true rfl)).trans rfl) rfl rfl rfl (fun v9 w9 hq => ?_) (fun X w9 hq => nomatch hq.1)
    obtain ⟨e9, pos7, rfl⟩ := hq
    cases e9
    show rt_Go l s0 G RX8 "parseKey" cX8_parseKey 4 (Option.none : Option FieldType) [] d _ _ (106 + 3) [(3, .int (nI L)), (2, .int (nI p)), (0, rt_r s0 t), (1, .int v)] [] (rt_bk w t (tx_L s0 ca t (rt_r s0 tp) vals pos7 (nI p) k b nx fi pa wo (cl_put 2073 ke vals (nI L)) nu (jWord le L ws) (nI (L + 1 + ws.length))))
    exact rt_vret dX8_parseKey_109 rfl (⟨rfl, _, _, _, _, _, _, _, _, _, _, _, _, rfl⟩)
  · refine rt_aload_n dX8_parseKey_86 rfl (j := 2) rfl ?_
    refine rt_aload_n dX8_parseKey_87 rfl (j := 2) rfl ?_
    refine rt_bGet Γ kf_RX8_67 dX8_parseKey_88 (L := (tx_L s0 ca t (rt_r s0 tp) vals pos6 (nI p) k b nx fi pa wo (cl_put 2073 ke vals (nI L)) nu (jWord le L ws) (nI (L + 1 + ws.length)))) rfl rfl ?_
    refine rt_callV Γ kk_X8_fail kc_RX8_83 (c_X8_fail1 Γ (d := d - 1) hw) (by omega) (by decide) (As := [.int pos6]) (show (parseMethodDescriptor yX8_fail.desc).map (fun q => q.parameters.length) = some 1 by decide +kernel) hok (Nat.le_of_ble_eq_true rfl) dX8_parseKey_91 ((rt_bk_0 w t (tx_L s0 ca t (rt_r s0 tp) vals pos6 (nI p) k b nx fi pa wo (cl_put 2073 ke vals (nI L)) nu (jWord le L ws) (nI (L + 1 + ws.length))) (Nat.le_of_ble_eq_true rfl)).trans rfl) rfl rfl rfl (rt_kr (st2 := []) rfl ?_) rt_kx
    exact rt_vret dX8_parseKey_94 rfl (⟨rfl, _, _, _, _, _, _, _, _, _, _, _, _, rfl⟩)
theorem jSk_le {g : Nat → Int32} {N : Nat} (hN : jT g N) : ∀ m p : Nat, p ≤ N → jSk g m p ≤ N := by
  intro m
  induction m with
  | zero => exact fun p h => h
  | succ m ih =>
    intro p hp
    by_cases c : g p = 9 ∨ g p = 10 ∨ g p = 13 ∨ g p = 32
    · rw [show jSk g (m + 1) p = jSk g m (p + 1) from if_pos c]
      exact ih (p + 1) (hN.lt (fun h => by rw [h] at c; exact absurd c (by decide)))
    · rw [show jSk g (m + 1) p = p from if_neg c]
      exact hp
theorem jSk_ge {g : Nat → Int32} : ∀ m p : Nat, p ≤ jSk g m p := by
  intro m
  induction m with
  | zero => exact fun p => Nat.le_refl _
  | succ m ih =>
    intro p
    by_cases c : g p = 9 ∨ g p = 10 ∨ g p = 13 ∨ g p = 32
    · rw [show jSk g (m + 1) p = jSk g m (p + 1) from if_pos c]
      exact Nat.le_trans (Nat.le_succ p) (ih (p + 1))
    · rw [show jSk g (m + 1) p = p from if_neg c]
      exact Nat.le_refl _
set_option maxRecDepth 100000 in
theorem j_key4 {l : Launch} {s0 : State} {a0 : Array Value} {G : va_G} {ca : Nat → ClassId} (Γ : rt_Γ l s0 a0 G ca) {d : Nat} {w : rt_Wd} {t : Nat} {vals : Int32} {k : Nat → Int32} {b : Nat → Int32} {nx : Nat → Int32} {fi : Nat → Int32} {pa : Nat → Int32} {wo : Nat → Int32} {ke : Nat → Int32} {nu : Nat → Int64} {le : Nat → Int32} (hd : 4 ≤ d) {tp n : Nat} {f : Nat → Int32} {u : Int32} {g : Nat → Int32} (hT : rt_C s0 ca w tp n f u) (hn : n < 2 ^ 31) (htp : tp + 1 < t ∨ t + 18 ≤ tp) (hg : ∀ p : Nat, p < 65536 → cl_peek n f u (nI p) = g p) (hok : rt_ok w) {p L N : Nat} {v : Int32} (hN : jT g N) (h : g p = 34) (hL : L + (N - p) < 4096) {ws : List Int32} {p1 : Nat} (hs : jStr g 4097 (p + 1) = .ok (ws, p1)) (hm : (jMem (fun m => cl_W 4096 (jWord le L ws) 4096 (jWord le L ws) (cl_at 2073 ke m) (nI L)) nx 2073 (cl_at 2073 fi v)) = -1) (h4 : ¬ g (jSk g 4096 p1) = 58) : rt_Met l s0 G (.code yX8_parseKey cX8_parseKey 4 (Option.none : Option FieldType)) yX8_parseKey d [rt_r s0 t, .int v] (rt_bk w t (tx_L s0 ca t (rt_r s0 tp) vals (nI p) (-1) k b nx fi pa wo ke nu le (nI L))) (fun r w1 => r = .inl none ∧ tx_B s0 ca w t tp (jSk g 4096 p1) w1) := by
  refine rt_met Γ kk_X8_parseKey rfl (Nat.le_of_ble_eq_true rfl) rfl ?_
  have hN0 := hN.1
  have hpN : p < N := hN.lt (by rw [h]; decide)
  have hq := jStr_ok hN hs
  have hk := jSk_le hN 4096 p1 hq.2
  refine rt_aload_n dX8_parseKey_0 rfl (j := 0) rfl ?_
  refine rt_bGet Γ kf_RX8_57 dX8_parseKey_1 (L := (tx_L s0 ca t (rt_r s0 tp) vals (nI p) (-1) k b nx fi pa wo ke nu le (nI L))) rfl rfl ?_
  refine rt_aload_n dX8_parseKey_4 rfl (j := 0) rfl ?_
  refine rt_bGet Γ kf_RX8_67 dX8_parseKey_5 (L := (tx_L s0 ca t (rt_r s0 tp) vals (nI p) (-1) k b nx fi pa wo ke nu le (nI L))) rfl rfl ?_
  refine rt_callV Γ kk_X0_peek kc_RX8_86 (c_X0_peek Γ (d := d - 1) (x := (nI p)) (hT.bk htp) hn) (by omega) (by decide) (As := [.int (nI p)]) (show (parseMethodDescriptor yX0_peek.desc).map (fun q => q.parameters.length) = some 1 by decide +kernel) hok (Nat.le_of_ble_eq_true rfl) dX8_parseKey_8 (hT.bk htp).1 rfl rfl rfl (rt_kr (st2 := [.int (cl_peek n f u (nI p))]) rfl ?_) rt_kx
  refine rt_te (y := g p) (hg p (by omega)) ?_
  refine rt_bipush (v := 34) dX8_parseKey_11 (by decide) ?_
  refine rt_icmp_eq (tgt := 25) dX8_parseKey_13 (by decide) (fun _ => ?_) (fun c13 => absurd h c13)
  refine rt_aload_n dX8_parseKey_25 rfl (j := 0) rfl ?_
  refine rt_bGet Γ kf_RX8_67 dX8_parseKey_26 (L := (tx_L s0 ca t (rt_r s0 tp) vals (nI p) (-1) k b nx fi pa wo ke nu le (nI L))) rfl rfl ?_
  refine rt_istore_n (lv' := [(2, .int (nI p)), (0, rt_r s0 t), (1, .int v)]) dX8_parseKey_29 rfl (by decide) rfl ?_
  refine rt_aload_n dX8_parseKey_30 rfl (j := 1) rfl ?_
  refine rt_callV Γ kk_X8_parseString kc_RX8_97 (j_strT Γ (d := d - 1) (by omega) hT hn htp hg hok hN hpN hL hs) (by omega) (by decide) (As := []) (show (parseMethodDescriptor yX8_parseString.desc).map (fun q => q.parameters.length) = some 0 by decide +kernel) hok (Nat.le_of_ble_eq_true rfl) dX8_parseKey_31 ((rt_bk_0 w t (tx_L s0 ca t (rt_r s0 tp) vals (nI p) (-1) k b nx fi pa wo ke nu le (nI L)) (Nat.le_of_ble_eq_true rfl)).trans rfl) rfl rfl rfl (rt_kr (st2 := [.int (nI L)]) rfl ?_) rt_kx
  refine rt_istore_n (lv' := [(3, .int (nI L)), (2, .int (nI p)), (0, rt_r s0 t), (1, .int v)]) dX8_parseKey_34 rfl (by decide) rfl ?_
  refine rt_aload_n dX8_parseKey_35 rfl (j := 2) rfl ?_
  refine rt_iload_n dX8_parseKey_36 rfl (j := 3) rfl ?_
  refine rt_aload_n dX8_parseKey_37 rfl (j := 2) rfl ?_
  refine rt_bGet Γ kf_RX8_42 dX8_parseKey_38 (L := (tx_L s0 ca t (rt_r s0 tp) vals (nI p1) (-1) k b nx fi pa wo ke nu (jWord le L ws) (nI (L + 1 + ws.length)))) rfl rfl ?_
  refine rt_iload_n dX8_parseKey_41 rfl (j := 0) rfl ?_
  refine rt_callV Γ kk_X8_memberNamed kc_RX8_120 (j_mem Γ (d := d - 1) (by omega) hok (n1 := 4096) (rt_bk_C (t := t) (L := (tx_L s0 ca t (rt_r s0 tp) vals (nI p1) (-1) k b nx fi pa wo ke nu (jWord le L ws) (nI (L + 1 + ws.length)))) 16 (Nat.le_of_ble_eq_true rfl) rfl rfl) (by decide)) (by omega) (by decide) (As := [.int v, rt_r s0 (t + 16), .int (nI L)]) (show (parseMethodDescriptor yX8_memberNamed.desc).map (fun q => q.parameters.length) = some 3 by decide +kernel) hok (Nat.le_of_ble_eq_true rfl) dX8_parseKey_42 ((rt_bk_0 w t (tx_L s0 ca t (rt_r s0 tp) vals (nI p1) (-1) k b nx fi pa wo ke nu (jWord le L ws) (nI (L + 1 + ws.length))) (Nat.le_of_ble_eq_true rfl)).trans rfl) rfl rfl rfl (rt_kr (st2 := [.int (jMem (fun m => cl_W 4096 (jWord le L ws) 4096 (jWord le L ws) (cl_at 2073 ke m) (nI L)) nx 2073 (cl_at 2073 fi v))]) rfl ?_) rt_kx
  refine rt_iconst (v := (-1)) dX8_parseKey_45 (by decide) ?_
  refine rt_icmp_eq (tgt := 54) dX8_parseKey_46 (by decide) (fun _ => ?_) (fun c46 => absurd hm c46)
  refine rt_aload_n dX8_parseKey_54 rfl (j := 2) rfl ?_
  refine rt_bGet Γ kf_RX8_35 dX8_parseKey_55 (L := (tx_L s0 ca t (rt_r s0 tp) vals (nI p1) (-1) k b nx fi pa wo ke nu (jWord le L ws) (nI (L + 1 + ws.length)))) rfl rfl ?_
  refine rt_aload_n dX8_parseKey_58 rfl (j := 2) rfl ?_
  refine rt_bGet Γ kf_RX8_63 dX8_parseKey_59 (L := (tx_L s0 ca t (rt_r s0 tp) vals (nI p1) (-1) k b nx fi pa wo ke nu (jWord le L ws) (nI (L + 1 + ws.length)))) rfl rfl ?_
  refine rt_iload_n dX8_parseKey_62 rfl (j := 0) rfl ?_
  refine rt_callV Γ kk_X0_put kc_RX8_89 (c_X0_put Γ (d := d - 1) (rt_bk_C (t := t) (L := (tx_L s0 ca t (rt_r s0 tp) vals (nI p1) (-1) k b nx fi pa wo ke nu (jWord le L ws) (nI (L + 1 + ws.length)))) 13 (Nat.le_of_ble_eq_true rfl) rfl rfl) (by decide)) (by omega) (by decide) (As := [.int vals, .int (nI L)]) (show (parseMethodDescriptor yX0_put.desc).map (fun q => q.parameters.length) = some 2 by decide +kernel) hok (Nat.le_of_ble_eq_true rfl) dX8_parseKey_63 (rt_bk_C (t := t) (L := (tx_L s0 ca t (rt_r s0 tp) vals (nI p1) (-1) k b nx fi pa wo ke nu (jWord le L ws) (nI (L + 1 + ws.length)))) 13 (Nat.le_of_ble_eq_true rfl) rfl rfl).1 rfl rfl rfl (rt_kr (st2 := []) rfl ?_) rt_kx
  refine rt_weq (w' := (rt_bk w t (tx_L s0 ca t (rt_r s0 tp) vals (nI p1) (-1) k b nx fi pa wo (cl_put 2073 ke vals (nI L)) nu (jWord le L ws) (nI (L + 1 + ws.length))))) (rt_bk_cs 13 (Nat.le_of_ble_eq_true rfl)) ?_
  refine rt_aload_n dX8_parseKey_66 rfl (j := 2) rfl ?_
  refine rt_callV Γ kk_X8_skipBlanks kc_RX8_73 (j_skip Γ (d := d - 1) (by omega) hT hn htp hg hok (by omega)) (by omega) (by decide) (As := []) (show (parseMethodDescriptor yX8_skipBlanks.desc).map (fun q => q.parameters.length) = some 0 by decide +kernel) hok (Nat.le_of_ble_eq_true rfl) dX8_parseKey_67 ((rt_bk_0 w t (tx_L s0 ca t (rt_r s0 tp) vals (nI p1) (-1) k b nx fi pa wo (cl_put 2073 ke vals (nI L)) nu (jWord le L ws) (nI (L + 1 + ws.length))) (Nat.le_of_ble_eq_true rfl)).trans rfl) rfl rfl rfl (rt_kr (st2 := []) rfl ?_) rt_kx
  refine rt_aload_n dX8_parseKey_70 rfl (j := 2) rfl ?_
  refine rt_bGet Γ kf_RX8_57 dX8_parseKey_71 (L := (tx_L s0 ca t (rt_r s0 tp) vals (nI (jSk g 4096 p1)) (-1) k b nx fi pa wo (cl_put 2073 ke vals (nI L)) nu (jWord le L ws) (nI (L + 1 + ws.length)))) rfl rfl ?_
  refine rt_aload_n dX8_parseKey_74 rfl (j := 2) rfl ?_
  refine rt_bGet Γ kf_RX8_67 dX8_parseKey_75 (L := (tx_L s0 ca t (rt_r s0 tp) vals (nI (jSk g 4096 p1)) (-1) k b nx fi pa wo (cl_put 2073 ke vals (nI L)) nu (jWord le L ws) (nI (L + 1 + ws.length)))) rfl rfl ?_
  refine rt_callV Γ kk_X0_peek kc_RX8_86 (c_X0_peek Γ (d := d - 1) (x := (nI (jSk g 4096 p1))) (hT.bk htp) hn) (by omega) (by decide) (As := [.int (nI (jSk g 4096 p1))]) (show (parseMethodDescriptor yX0_peek.desc).map (fun q => q.parameters.length) = some 1 by decide +kernel) hok (Nat.le_of_ble_eq_true rfl) dX8_parseKey_78 (hT.bk htp).1 rfl rfl rfl (rt_kr (st2 := [.int (cl_peek n f u (nI (jSk g 4096 p1)))]) rfl ?_) rt_kx
  refine rt_te (y := g (jSk g 4096 p1)) (hg (jSk g 4096 p1) (by omega)) ?_
  refine rt_bipush (v := 58) dX8_parseKey_81 (by decide) ?_
  refine rt_icmp_eq (tgt := 95) dX8_parseKey_83 (by decide) (fun c83 => absurd c83 h4) (fun _ => ?_)
  refine rt_aload_n dX8_parseKey_86 rfl (j := 2) rfl ?_
  refine rt_aload_n dX8_parseKey_87 rfl (j := 2) rfl ?_
  refine rt_bGet Γ kf_RX8_67 dX8_parseKey_88 (L := (tx_L s0 ca t (rt_r s0 tp) vals (nI (jSk g 4096 p1)) (-1) k b nx fi pa wo (cl_put 2073 ke vals (nI L)) nu (jWord le L ws) (nI (L + 1 + ws.length)))) rfl rfl ?_
  refine rt_callV Γ kk_X8_fail kc_RX8_83 (c_X8_fail0 Γ (d := d - 1)) (by omega) (by decide) (As := [.int (nI (jSk g 4096 p1))]) (show (parseMethodDescriptor yX8_fail.desc).map (fun q => q.parameters.length) = some 1 by decide +kernel) hok (Nat.le_of_ble_eq_true rfl) dX8_parseKey_91 ((rt_bk_0 w t (tx_L s0 ca t (rt_r s0 tp) vals (nI (jSk g 4096 p1)) (-1) k b nx fi pa wo (cl_put 2073 ke vals (nI L)) nu (jWord le L ws) (nI (L + 1 + ws.length))) (Nat.le_of_ble_eq_true rfl)).trans rfl) rfl rfl rfl (rt_kr (st2 := []) rfl ?_) rt_kx
  exact rt_vret dX8_parseKey_94 rfl (⟨rfl, _, _, _, _, _, _, _, _, _, _, _, _, rfl⟩)
set_option maxRecDepth 100000 in
theorem j_key5 {l : Launch} {s0 : State} {a0 : Array Value} {G : va_G} {ca : Nat → ClassId} (Γ : rt_Γ l s0 a0 G ca) {d : Nat} {w : rt_Wd} {t : Nat} {vals : Int32} {k : Nat → Int32} {b : Nat → Int32} {nx : Nat → Int32} {fi : Nat → Int32} {pa : Nat → Int32} {wo : Nat → Int32} {ke : Nat → Int32} {nu : Nat → Int64} {le : Nat → Int32} (hd : 4 ≤ d) {tp n : Nat} {f : Nat → Int32} {u : Int32} {g : Nat → Int32} (hT : rt_C s0 ca w tp n f u) (hn : n < 2 ^ 31) (htp : tp + 1 < t ∨ t + 18 ≤ tp) (hg : ∀ p : Nat, p < 65536 → cl_peek n f u (nI p) = g p) (hok : rt_ok w) {p L N : Nat} {v : Int32} (hN : jT g N) (h : g p = 34) (hL : L + (N - p) < 4096) {ws : List Int32} {p1 : Nat} (hs : jStr g 4097 (p + 1) = .ok (ws, p1)) (hm : (jMem (fun m => cl_W 4096 (jWord le L ws) 4096 (jWord le L ws) (cl_at 2073 ke m) (nI L)) nx 2073 (cl_at 2073 fi v)) = -1) (h4 : g (jSk g 4096 p1) = 58) : rt_Met l s0 G (.code yX8_parseKey cX8_parseKey 4 (Option.none : Option FieldType)) yX8_parseKey d [rt_r s0 t, .int v] (rt_bk w t (tx_L s0 ca t (rt_r s0 tp) vals (nI p) (-1) k b nx fi pa wo ke nu le (nI L))) (rt_is (.inl none) (rt_bk w t (tx_L s0 ca t (rt_r s0 tp) vals (nI (jSk g 4096 (jSk g 4096 p1 + 1))) (-1) k b nx fi pa wo (cl_put 2073 ke vals (nI L)) nu (jWord le L ws) (nI (L + 1 + ws.length))))) := by
  refine rt_met Γ kk_X8_parseKey rfl (Nat.le_of_ble_eq_true rfl) rfl ?_
  have hN0 := hN.1
  have hpN : p < N := hN.lt (by rw [h]; decide)
  have hq := jStr_ok hN hs
  have hk := jSk_le hN 4096 p1 hq.2
  refine rt_aload_n dX8_parseKey_0 rfl (j := 0) rfl ?_
  refine rt_bGet Γ kf_RX8_57 dX8_parseKey_1 (L := (tx_L s0 ca t (rt_r s0 tp) vals (nI p) (-1) k b nx fi pa wo ke nu le (nI L))) rfl rfl ?_
  refine rt_aload_n dX8_parseKey_4 rfl (j := 0) rfl ?_
  refine rt_bGet Γ kf_RX8_67 dX8_parseKey_5 (L := (tx_L s0 ca t (rt_r s0 tp) vals (nI p) (-1) k b nx fi pa wo ke nu le (nI L))) rfl rfl ?_
  refine rt_callV Γ kk_X0_peek kc_RX8_86 (c_X0_peek Γ (d := d - 1) (x := (nI p)) (hT.bk htp) hn) (by omega) (by decide) (As := [.int (nI p)]) (show (parseMethodDescriptor yX0_peek.desc).map (fun q => q.parameters.length) = some 1 by decide +kernel) hok (Nat.le_of_ble_eq_true rfl) dX8_parseKey_8 (hT.bk htp).1 rfl rfl rfl (rt_kr (st2 := [.int (cl_peek n f u (nI p))]) rfl ?_) rt_kx
  refine rt_te (y := g p) (hg p (by omega)) ?_
  refine rt_bipush (v := 34) dX8_parseKey_11 (by decide) ?_
  refine rt_icmp_eq (tgt := 25) dX8_parseKey_13 (by decide) (fun _ => ?_) (fun c13 => absurd h c13)
  refine rt_aload_n dX8_parseKey_25 rfl (j := 0) rfl ?_
  refine rt_bGet Γ kf_RX8_67 dX8_parseKey_26 (L := (tx_L s0 ca t (rt_r s0 tp) vals (nI p) (-1) k b nx fi pa wo ke nu le (nI L))) rfl rfl ?_
  refine rt_istore_n (lv' := [(2, .int (nI p)), (0, rt_r s0 t), (1, .int v)]) dX8_parseKey_29 rfl (by decide) rfl ?_
  refine rt_aload_n dX8_parseKey_30 rfl (j := 1) rfl ?_
  refine rt_callV Γ kk_X8_parseString kc_RX8_97 (j_strT Γ (d := d - 1) (by omega) hT hn htp hg hok hN hpN hL hs) (by omega) (by decide) (As := []) (show (parseMethodDescriptor yX8_parseString.desc).map (fun q => q.parameters.length) = some 0 by decide +kernel) hok (Nat.le_of_ble_eq_true rfl) dX8_parseKey_31 ((rt_bk_0 w t (tx_L s0 ca t (rt_r s0 tp) vals (nI p) (-1) k b nx fi pa wo ke nu le (nI L)) (Nat.le_of_ble_eq_true rfl)).trans rfl) rfl rfl rfl (rt_kr (st2 := [.int (nI L)]) rfl ?_) rt_kx
  refine rt_istore_n (lv' := [(3, .int (nI L)), (2, .int (nI p)), (0, rt_r s0 t), (1, .int v)]) dX8_parseKey_34 rfl (by decide) rfl ?_
  refine rt_aload_n dX8_parseKey_35 rfl (j := 2) rfl ?_
  refine rt_iload_n dX8_parseKey_36 rfl (j := 3) rfl ?_
  refine rt_aload_n dX8_parseKey_37 rfl (j := 2) rfl ?_
  refine rt_bGet Γ kf_RX8_42 dX8_parseKey_38 (L := (tx_L s0 ca t (rt_r s0 tp) vals (nI p1) (-1) k b nx fi pa wo ke nu (jWord le L ws) (nI (L + 1 + ws.length)))) rfl rfl ?_
  refine rt_iload_n dX8_parseKey_41 rfl (j := 0) rfl ?_
  refine rt_callV Γ kk_X8_memberNamed kc_RX8_120 (j_mem Γ (d := d - 1) (by omega) hok (n1 := 4096) (rt_bk_C (t := t) (L := (tx_L s0 ca t (rt_r s0 tp) vals (nI p1) (-1) k b nx fi pa wo ke nu (jWord le L ws) (nI (L + 1 + ws.length)))) 16 (Nat.le_of_ble_eq_true rfl) rfl rfl) (by decide)) (by omega) (by decide) (As := [.int v, rt_r s0 (t + 16), .int (nI L)]) (show (parseMethodDescriptor yX8_memberNamed.desc).map (fun q => q.parameters.length) = some 3 by decide +kernel) hok (Nat.le_of_ble_eq_true rfl) dX8_parseKey_42 ((rt_bk_0 w t (tx_L s0 ca t (rt_r s0 tp) vals (nI p1) (-1) k b nx fi pa wo ke nu (jWord le L ws) (nI (L + 1 + ws.length))) (Nat.le_of_ble_eq_true rfl)).trans rfl) rfl rfl rfl (rt_kr (st2 := [.int (jMem (fun m => cl_W 4096 (jWord le L ws) 4096 (jWord le L ws) (cl_at 2073 ke m) (nI L)) nx 2073 (cl_at 2073 fi v))]) rfl ?_) rt_kx
  refine rt_iconst (v := (-1)) dX8_parseKey_45 (by decide) ?_
  refine rt_icmp_eq (tgt := 54) dX8_parseKey_46 (by decide) (fun _ => ?_) (fun c46 => absurd hm c46)
  refine rt_aload_n dX8_parseKey_54 rfl (j := 2) rfl ?_
  refine rt_bGet Γ kf_RX8_35 dX8_parseKey_55 (L := (tx_L s0 ca t (rt_r s0 tp) vals (nI p1) (-1) k b nx fi pa wo ke nu (jWord le L ws) (nI (L + 1 + ws.length)))) rfl rfl ?_
  refine rt_aload_n dX8_parseKey_58 rfl (j := 2) rfl ?_
  refine rt_bGet Γ kf_RX8_63 dX8_parseKey_59 (L := (tx_L s0 ca t (rt_r s0 tp) vals (nI p1) (-1) k b nx fi pa wo ke nu (jWord le L ws) (nI (L + 1 + ws.length)))) rfl rfl ?_
  refine rt_iload_n dX8_parseKey_62 rfl (j := 0) rfl ?_
  refine rt_callV Γ kk_X0_put kc_RX8_89 (c_X0_put Γ (d := d - 1) (rt_bk_C (t := t) (L := (tx_L s0 ca t (rt_r s0 tp) vals (nI p1) (-1) k b nx fi pa wo ke nu (jWord le L ws) (nI (L + 1 + ws.length)))) 13 (Nat.le_of_ble_eq_true rfl) rfl rfl) (by decide)) (by omega) (by decide) (As := [.int vals, .int (nI L)]) (show (parseMethodDescriptor yX0_put.desc).map (fun q => q.parameters.length) = some 2 by decide +kernel) hok (Nat.le_of_ble_eq_true rfl) dX8_parseKey_63 (rt_bk_C (t := t) (L := (tx_L s0 ca t (rt_r s0 tp) vals (nI p1) (-1) k b nx fi pa wo ke nu (jWord le L ws) (nI (L + 1 + ws.length)))) 13 (Nat.le_of_ble_eq_true rfl) rfl rfl).1 rfl rfl rfl (rt_kr (st2 := []) rfl ?_) rt_kx
  refine rt_weq (w' := (rt_bk w t (tx_L s0 ca t (rt_r s0 tp) vals (nI p1) (-1) k b nx fi pa wo (cl_put 2073 ke vals (nI L)) nu (jWord le L ws) (nI (L + 1 + ws.length))))) (rt_bk_cs 13 (Nat.le_of_ble_eq_true rfl)) ?_
  refine rt_aload_n dX8_parseKey_66 rfl (j := 2) rfl ?_
  refine rt_callV Γ kk_X8_skipBlanks kc_RX8_73 (j_skip Γ (d := d - 1) (by omega) hT hn htp hg hok (by omega)) (by omega) (by decide) (As := []) (show (parseMethodDescriptor yX8_skipBlanks.desc).map (fun q => q.parameters.length) = some 0 by decide +kernel) hok (Nat.le_of_ble_eq_true rfl) dX8_parseKey_67 ((rt_bk_0 w t (tx_L s0 ca t (rt_r s0 tp) vals (nI p1) (-1) k b nx fi pa wo (cl_put 2073 ke vals (nI L)) nu (jWord le L ws) (nI (L + 1 + ws.length))) (Nat.le_of_ble_eq_true rfl)).trans rfl) rfl rfl rfl (rt_kr (st2 := []) rfl ?_) rt_kx
  refine rt_aload_n dX8_parseKey_70 rfl (j := 2) rfl ?_
  refine rt_bGet Γ kf_RX8_57 dX8_parseKey_71 (L := (tx_L s0 ca t (rt_r s0 tp) vals (nI (jSk g 4096 p1)) (-1) k b nx fi pa wo (cl_put 2073 ke vals (nI L)) nu (jWord le L ws) (nI (L + 1 + ws.length)))) rfl rfl ?_
  refine rt_aload_n dX8_parseKey_74 rfl (j := 2) rfl ?_
  refine rt_bGet Γ kf_RX8_67 dX8_parseKey_75 (L := (tx_L s0 ca t (rt_r s0 tp) vals (nI (jSk g 4096 p1)) (-1) k b nx fi pa wo (cl_put 2073 ke vals (nI L)) nu (jWord le L ws) (nI (L + 1 + ws.length)))) rfl rfl ?_
  refine rt_callV Γ kk_X0_peek kc_RX8_86 (c_X0_peek Γ (d := d - 1) (x := (nI (jSk g 4096 p1))) (hT.bk htp) hn) (by omega) (by decide) (As := [.int (nI (jSk g 4096 p1))]) (show (parseMethodDescriptor yX0_peek.desc).map (fun q => q.parameters.length) = some 1 by decide +kernel) hok (Nat.le_of_ble_eq_true rfl) dX8_parseKey_78 (hT.bk htp).1 rfl rfl rfl (rt_kr (st2 := [.int (cl_peek n f u (nI (jSk g 4096 p1)))]) rfl ?_) rt_kx
  refine rt_te (y := g (jSk g 4096 p1)) (hg (jSk g 4096 p1) (by omega)) ?_
  refine rt_bipush (v := 58) dX8_parseKey_81 (by decide) ?_
  refine rt_icmp_eq (tgt := 95) dX8_parseKey_83 (by decide) (fun _ => ?_) (fun c83 => absurd h4 c83)
  refine rt_aload_n dX8_parseKey_95 rfl (j := 2) rfl ?_
  refine rt_dup dX8_parseKey_96 rfl ?_
  refine rt_bGet Γ kf_RX8_67 dX8_parseKey_97 (L := (tx_L s0 ca t (rt_r s0 tp) vals (nI (jSk g 4096 p1)) (-1) k b nx fi pa wo (cl_put 2073 ke vals (nI L)) nu (jWord le L ws) (nI (L + 1 + ws.length)))) rfl rfl ?_
  refine rt_iconst (v := 1) dX8_parseKey_100 (by decide) ?_
  refine rt_iadd dX8_parseKey_101 ?_
  refine rt_te (y := nI (jSk g 4096 p1 + 1)) (nI_1 _) ?_
  refine rt_bPut Γ kp_RX8_67 dX8_parseKey_102 (L := (tx_L s0 ca t (rt_r s0 tp) vals (nI (jSk g 4096 p1)) (-1) k b nx fi pa wo (cl_put 2073 ke vals (nI L)) nu (jWord le L ws) (nI (L + 1 + ws.length)))) rfl (Nat.le_of_ble_eq_true rfl) rfl rfl (L' := (tx_L s0 ca t (rt_r s0 tp) vals (nI (jSk g 4096 p1 + 1)) (-1) k b nx fi pa wo (cl_put 2073 ke vals (nI L)) nu (jWord le L ws) (nI (L + 1 + ws.length)))) rfl ?_
  refine rt_aload_n dX8_parseKey_105 rfl (j := 2) rfl ?_
  refine rt_callV Γ kk_X8_skipBlanks kc_RX8_73 (j_skip Γ (d := d - 1) (by omega) hT hn htp hg hok (by omega)) (by omega) (by decide) (As := []) (show (parseMethodDescriptor yX8_skipBlanks.desc).map (fun q => q.parameters.length) = some 0 by decide +kernel) hok (Nat.le_of_ble_eq_true rfl) dX8_parseKey_106 ((rt_bk_0 w t (tx_L s0 ca t (rt_r s0 tp) vals (nI (jSk g 4096 p1 + 1)) (-1) k b nx fi pa wo (cl_put 2073 ke vals (nI L)) nu (jWord le L ws) (nI (L + 1 + ws.length))) (Nat.le_of_ble_eq_true rfl)).trans rfl) rfl rfl rfl (rt_kr (st2 := []) rfl ?_) rt_kx
  exact rt_vret dX8_parseKey_109 rfl (⟨rfl, rfl⟩)
