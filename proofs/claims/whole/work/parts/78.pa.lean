/-! ===== System.arraycopy between rows of ints; Cells.addPart ===== -/
/-- all the cells of a world, as a list -/
def zAll (s0 : State) (w : rt_Wd) : va_W := (List.range w.1).filterMap (fun i => (w.2.2 i).map (fun e => (s0.heap.size + i, e)))
theorem zAll_in {s0 : State} {w : rt_Wd} {i : Nat} {e : va_E} (hi : i < w.1) (h : w.2.2 i = some e) : ∃ k : Nat, (zAll s0 w)[k]? = some (s0.heap.size + i, e) := by
  have : (s0.heap.size + i, e) ∈ zAll s0 w := List.mem_filterMap.mpr ⟨i, List.mem_range.mpr hi, by rw [h]; rfl⟩
  exact List.getElem?_of_mem this
theorem zAll_of {s0 : State} {w : rt_Wd} {k : Nat} {q : Nat × va_E} (h : (zAll s0 w)[k]? = some q) : ∃ i, i < w.1 ∧ w.2.2 i = some q.2 ∧ q.1 = s0.heap.size + i := by
  obtain ⟨i, h1, h2⟩ := List.mem_filterMap.mp (List.mem_of_getElem? h)
  cases he : w.2.2 i with
  | none => rw [he] at h2; exact nomatch h2
  | some e =>
    rw [he] at h2
    cases h2
    exact ⟨i, List.mem_range.mp h1, he, rfl⟩
theorem zAll_pw {s0 : State} {w : rt_Wd} : (zAll s0 w).Pairwise (fun p q => p.1 ≠ q.1) := by
  unfold zAll
  rw [List.pairwise_filterMap]
  refine List.Pairwise.imp ?_ List.pairwise_lt_range
  intro i j hij p hp q hq
  cases hi : w.2.2 i with
  | none => rw [hi] at hp; exact nomatch hp
  | some e =>
    cases hj : w.2.2 j with
    | none => rw [hj] at hq; exact nomatch hq
    | some e2 =>
      rw [hi] at hp
      rw [hj] at hq
      cases hp
      cases hq
      show s0.heap.size + i ≠ s0.heap.size + j
      omega
theorem zAll_D {s0 : State} {w : rt_Wd} : va_D (fun q => s0.heap.size ≤ q) (zAll s0 w) := by
  refine ⟨fun i j p q hi hj hpq => ?_, fun k q hk => ?_⟩
  · obtain ⟨i1, i2⟩ := List.getElem?_eq_some_iff.mp hi
    obtain ⟨j1, j2⟩ := List.getElem?_eq_some_iff.mp hj
    have pw := List.pairwise_iff_getElem.mp (zAll_pw (s0 := s0) (w := w))
    rcases Nat.lt_trichotomy i j with h | h | h
    · exact absurd (by rw [i2, j2]; exact hpq) (pw i j i1 j1 h)
    · exact h
    · exact absurd (by rw [i2, j2]; exact hpq.symm) (pw j i j1 i1 h)
  · obtain ⟨i, -, -, h⟩ := zAll_of hk
    show s0.heap.size ≤ q.1
    omega
/-- n ints of a0 from sp on, laid into a from dp on -/
def zcp (M : zM) (a0 sp a dp n : Int) : zM := fun b j => if b = a ∧ dp ≤ j ∧ j < dp + n then M a0 (sp + (j - dp)) else M b j
theorem zk_acl : Cond.methodLink RX0 19 arraycopyName ∈ lw_tbl := tc_4 _ (List.mem_of_getElem? (i := 82) (by decide +kernel))
theorem zk_acs : Cond.static arraycopyName ∈ lw_tbl := tc_4 _ (List.mem_of_getElem? (i := 83) (by decide +kernel))
theorem zk_acn : Cond.native arraycopyName ∈ lw_tbl := tc_4 _ (List.mem_of_getElem? (i := 84) (by decide +kernel))
theorem zk_aci : Cond.initialized "java/lang/System" ∈ lw_tbl := tc_1 _ (List.mem_of_getElem? (i := 23) (by decide +kernel))
theorem z_tcn {x : Nat} (h : x < 2147483648) : (Int32.ofInt (x : Int)).toNatClampNeg = x := by
  show (Int32.ofInt (x : Int)).toInt.toNat = x
  rw [z_toI, w32_id (by omega) (by omega), Int.toNat_natCast]
theorem z_nlt0 {x : Nat} (h : x < 2147483648) : ¬ Int32.ofInt (x : Int) < 0 := by
  have e := z_lt (x : Int) 0
  rw [w32_id (by omega) (by omega), show w32 0 = 0 from by decide] at e
  intro c
  have := e.mp c
  omega
section ZPA
variable {l : Launch} {s0 : State} {a0 : Array Value} {G : va_G} {ca : Nat → ClassId} {nm : String} {cc : ByteArray} {nL : Nat} {ret : Option FieldType} {tab : List ExceptionTableEntry} {d : Nat} {Qr : rt_Res → rt_Wd → Prop} {pc : Nat} {lv : List (Nat × Value)} {st : List Value} {C : Nat × Nat} {S : zS} {M M0 : zM}
theorem z_copy (Γ : rt_Γ l s0 a0 G ca) {src dst : Int} {n0 n1 : Nat} {sp dp n : Nat} (hW : (st.map fun v => v.category).sum ≤ 12) (h0 : 0 ≤ src) (hs : S src = some (1, n0, [])) (h1 : 0 ≤ dst) (hd1 : S dst = some (1, n1, [])) (g0 : n0 < 2147483648) (g1 : n1 < 2147483648) (hsp : sp + n ≤ n0) (hdp : dp + n ≤ n1) (hd : decode cc pc = .ok (.invokestatic 19, 3))
    (k : rt_Go l s0 G RX0 nm cc nL ret tab d (zw s0 ca C S M0) Qr (pc + 3) lv st (zw s0 ca C S (zcp M src sp dst dp n))) : rt_Go l s0 G RX0 nm cc nL ret tab d (zw s0 ca C S M0) Qr pc lv (zv s0 0 (n : Int) :: zv s0 0 (dp : Int) :: zv s0 2 dst :: zv s0 0 (sp : Int) :: zv s0 2 src :: st) (zw s0 ca C S M) := by
  intro p e s m args below meth c E H locs ls hP r1 r2 hS hl
  have hsw := E.2.2.2.2.2.2.2.2.1
  have hw0 := E.2.2.2.2.2.2.2.2.2
  have cs := zw_at (s0 := s0) (ca := ca) (C := C) (M := M) h0 hs
  have cd := zw_at (s0 := s0) (ca := ca) (C := C) (M := M) h1 hd1
  obtain ⟨q0, e0⟩ := zAll_in (s0 := s0) (hP.in_ cs) cs
  obtain ⟨q1, e1⟩ := zAll_in (s0 := s0) (hP.in_ cd) cd
  have hall : va_P G vwCl (zAll s0 (zw s0 ca C S M)) H := fun k q hk => by
    obtain ⟨i, -, i2, i3⟩ := zAll_of hk
    have := hP.2.2 i q.2 i2
    rw [← i3] at this
    exact this
  rw [zv_ref h0, zv_ref h1]
  refine va_copyi (own := RX0) (index := 19) E.1 E.2.1 (hl.1.trans E.2.2.1.symm).symm E.2.2.2.2.2.2.2.1 (rt_word Γ zk_acl rfl hsw args) (rt_word Γ zk_acn rfl hsw args) (rt_word Γ zk_acs rfl hsw args) (rt_word Γ zk_aci rfl hsw args) (rt_K Γ hsw) hall zAll_D hS q0 q1 0 0 e0 e1 rfl rfl rfl (z_nlt0 (by omega)) (z_nlt0 (by omega)) (z_nlt0 (by omega)) (by rw [z_tcn (by omega), z_tcn (by omega)]; exact hsp) (by rw [z_tcn (by omega), z_tcn (by omega)]; exact hdp) (fun i _ => rfl) (by show 1 ≤ d + 12; omega) ?_ hd ?_
  · have : nativeFrameWords "java/lang/System" "arraycopy" 5 ≤ 200 := by decide +kernel
    show _ ≤ 41 * d + 524
    omega
  · intro H1 locs1 hP1 hD1 hS1 T hT X
    have hsz : T.heap.size ≤ s.heap.size + (C.1 - C.1) := X.same.2.2.1
    have hH1 : H1.size = s.heap.size := by
      have h9 := hS1.1
      rw [← hT] at h9 ⊢
      omega
    have hs0 : s.heap.size = s0.heap.size + C.1 := hw0.1
    refine k p e s m args below meth c E H1 locs1 ls ⟨by rw [hH1]; exact hs0, fun q hq => ?_, fun i x hi => ?_⟩ r1 r2 hS1 hl T hT X
    · rw [hS1.2.1 q (by omega) (by show ¬ s0.heap.size ≤ q; omega)]
      exact hw0.2.1 q hq
    · rw [z_tcn (by omega), z_tcn (by omega), z_tcn (by omega)] at hP1
      by_cases c9 : i = dst.toNat
      · subst c9
        rw [zw_at h1 hd1] at hi
        cases hi
        have := hP1 q1 _ (List.getElem?_set_self (List.getElem?_eq_some_iff.mp e1).1)
        refine Eq.mp ?_ this
        congr 2
        refine congrArg (fun f => (Sum.inl (ca 0, n1, .inl f) : va_E)) (funext fun j => ?_)
        unfold va_cpy zcp
        by_cases cj : dp ≤ j ∧ j < dp + n
        · rw [if_pos cj, if_pos ⟨rfl, by omega, by omega⟩, show (sp : Int) + ((j : Int) - dp) = ((sp + (j - dp) : Nat) : Int) by omega]
        · rw [if_neg cj, if_neg (fun c => cj ⟨by omega, by omega⟩)]
      · have hii : (zw s0 ca C S M).2.2 i = some x := by
          rw [← hi]
          show (S (i : Int)).map (zcell s0 ca (M (i : Int))) = (S (i : Int)).map (zcell s0 ca (zcp M src sp dst dp n (i : Int)))
          have : zcp M src sp dst dp n (i : Int) = M (i : Int) := funext fun j => if_neg (fun c => c9 (by omega))
          rw [this]
        obtain ⟨k9, hk9⟩ := zAll_in (s0 := s0) (hP.in_ hii) hii
        have hne : q1 ≠ k9 := fun h => by
          subst h
          rw [e1] at hk9
          have := congrArg (fun q => q.map Prod.fst) hk9
          simp at this
          omega
        have := hP1 k9 _ ((List.getElem?_set_ne hne).trans hk9)
        exact this
end ZPA
theorem z_addPart {l : Launch} {s0 : State} {a0 : Array Value} {G : va_G} {ca : Nat → ClassId} (Γ : rt_Γ l s0 a0 G ca) {d : Nat} {C : Nat × Nat} {S : zS} (hok : zok C) {c ca9 : Int} {n : Nat} (hc : zCe S c ca9 n) {o ad : Int} {nd : Nat} (ho : zCe S o ad nd) {f t u : Nat} {M : zM} {Q : Int → zM → Prop} {X : zM → Prop} (hu : M c 1 = u) (hun : u ≤ n) (hft : f ≤ t) (htn : t ≤ nd)
    (k0 : n < u + (t - f) → Q 0 M) (k1 : u + (t - f) ≤ n → Q 1 (zu (zcp M ad f ca9 u ((t - f : Nat) : Int)) c 1 ((u + (t - f) : Nat) : Int))) (hco : ¬ c = ca9) : zm_X0_addPart l s0 G ca d C S c o f t M Q X := by
  refine z_met (lv := [(0, zv s0 2 c), (1, zv s0 2 o), (2, zv s0 0 (f : Int)), (3, zv s0 0 (t : Int))]) Γ kk_X0_addPart rfl (show (lg_sl [zv s0 2 c, zv s0 2 o, zv s0 0 (f : Int), zv s0 0 (t : Int)]).length ≤ 4 from by simp only [zn_0, zn_2, show (lg_sl []).length = 0 from rfl]; omega) (show lv_args 0 [zv s0 2 c, zv s0 2 o, zv s0 0 (f : Int), zv s0 0 (t : Int)] = [(0, zv s0 2 c), (1, zv s0 2 o), (2, zv s0 0 (f : Int)), (3, zv s0 0 (t : Int))] from by rw [zl_2, zl_2, zl_0, zl_0]; rfl) ?_
  have hn := hc.2.2.1
  have hnd := ho.2.2.1
  have eft : (t : Int) - (f : Int) = ((t - f : Nat) : Int) := by omega
  refine z_aload_n dX0_addPart_0 rfl (j := 1) rfl ?_
  refine z_ifnull (tgt := 38) dX0_addPart_1 (by decide) (fun c1 => absurd ho.1 (by omega)) (fun _ => ?_)
  refine z_iload_n dX0_addPart_4 rfl (j := 2) rfl ?_
  refine z_if_lt (tgt := 38) (x' := (f : Int)) (w32_id (by omega) (by omega)) dX0_addPart_5 (by decide) (fun c1 => by omega) (fun _ => ?_)
  refine z_iload_n dX0_addPart_8 rfl (j := 3) rfl ?_
  refine z_iload_n dX0_addPart_9 rfl (j := 2) rfl ?_
  refine z_icmp_lt (tgt := 38) (x' := (t : Int)) (y' := (f : Int)) (w32_id (by omega) (by omega)) (w32_id (by omega) (by omega)) dX0_addPart_10 (by decide) (fun c1 => by omega) (fun _ => ?_)
  refine z_iload_n dX0_addPart_13 rfl (j := 3) rfl ?_
  refine z_aload_n dX0_addPart_14 rfl (j := 1) rfl ?_
  refine z_getc Γ kf_RX0_9 dX0_addPart_15 ho.1 ho.2.2.2.1 rfl ?_
  refine z_alen Γ dX0_addPart_18 ho.2.1 ho.2.2.2.2 ?_
  refine z_icmp_gt (tgt := 38) (x' := (t : Int)) (y' := (nd : Int)) (w32_id (by omega) (by omega)) (w32_id (by omega) (by omega)) dX0_addPart_19 (by decide) (fun c1 => by omega) (fun _ => ?_)
  refine z_iload_n dX0_addPart_22 rfl (j := 3) rfl ?_
  refine z_iload_n dX0_addPart_23 rfl (j := 2) rfl ?_
  refine z_isub dX0_addPart_24 ?_
  refine z_aload_n dX0_addPart_25 rfl (j := 0) rfl ?_
  refine z_getc Γ kf_RX0_9 dX0_addPart_26 hc.1 hc.2.2.2.1 rfl ?_
  refine z_alen Γ dX0_addPart_29 hc.2.1 hc.2.2.2.2 ?_
  refine z_aload_n dX0_addPart_30 rfl (j := 0) rfl ?_
  refine z_get Γ kf_RX0_15 dX0_addPart_31 hc.1 hc.2.2.2.1 rfl (by decide) (v9 := (u : Int)) hu ?_
  refine z_isub dX0_addPart_34 ?_
  refine z_icmp_le (tgt := 40) (x' := (t : Int) - f) (y' := (n : Int) - u) (w32_id (by omega) (by omega)) (w32_id (by omega) (by omega)) dX0_addPart_35 (by decide) (fun c1 => ?_) (fun c1 => ?_)
  · refine z_aload_n dX0_addPart_40 rfl (j := 1) rfl ?_
    refine z_getc Γ kf_RX0_9 dX0_addPart_41 ho.1 ho.2.2.2.1 rfl ?_
    refine z_iload_n dX0_addPart_44 rfl (j := 2) rfl ?_
    refine z_aload_n dX0_addPart_45 rfl (j := 0) rfl ?_
    refine z_getc Γ kf_RX0_9 dX0_addPart_46 hc.1 hc.2.2.2.1 rfl ?_
    refine z_aload_n dX0_addPart_49 rfl (j := 0) rfl ?_
    refine z_get Γ kf_RX0_15 dX0_addPart_50 hc.1 hc.2.2.2.1 rfl (by decide) (v9 := (u : Int)) hu ?_
    refine z_iload_n dX0_addPart_53 rfl (j := 3) rfl ?_
    refine z_iload_n dX0_addPart_54 rfl (j := 2) rfl ?_
    refine z_isub dX0_addPart_55 ?_
    rw [eft]
    refine z_copy Γ (by decide) ho.2.1 ho.2.2.2.2 hc.2.1 hc.2.2.2.2 hnd hn (by omega) (by omega) dX0_addPart_56 ?_
    refine z_aload_n dX0_addPart_59 rfl (j := 0) rfl ?_
    refine z_dup2 dX0_addPart_60 ?_
    refine z_get Γ kf_RX0_15 dX0_addPart_61 hc.1 hc.2.2.2.1 rfl (by decide) (v9 := (u : Int)) (by unfold zcp; rw [if_neg (fun h => hco h.1)]; exact hu) ?_
    refine z_iload_n dX0_addPart_64 rfl (j := 3) rfl ?_
    refine z_iload_n dX0_addPart_65 rfl (j := 2) rfl ?_
    refine z_isub dX0_addPart_66 ?_
    refine z_iadd dX0_addPart_67 ?_
    refine z_put0 Γ kp_RX0_15 dX0_addPart_68 hc.1 hc.2.2.2.1 rfl (k9 := 1) rfl ?_
    refine z_iconst dX0_addPart_71 ?_
    refine z_zret dX0_addPart_72 rfl (by decide) ?_
    have := k1 (by omega)
    rw [show ((u + (t - f) : Nat) : Int) = (u : Int) + ((t : Int) - f) by omega] at this
    exact this
  · refine z_iconst dX0_addPart_38 ?_
    exact z_zret dX0_addPart_39 rfl (by decide) (k0 (by omega))
