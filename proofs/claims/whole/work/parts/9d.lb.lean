/-! ===== the reference's look: numbers, strings, the number before items ===== -/
section LB
variable {l : Launch} {s0 : State} {a0 : Array Value} {G : va_G} {ca : Nat → ClassId} {d : Nat} {C : Nat × Nat} {S : zS} {M M0 : zM} {Q : Int → zM → Prop} {X : zM → Prop} {b : List Nat} {st : ySt} {u : Nat}
theorem m_bh (Γ : rt_Γ l s0 a0 G ca) (hd : 2 ≤ d) (hok : zok C) (hs : zSok S) {q : Nat} (hT : mTp M b) (hq : M 84 16 = (q : Int)) (hqN : q ≤ b.length) (kE : b.length ≤ q → X (zu (zu M 84 17 1) 84 18 (b.length : Nat))) (kO : q < b.length → Q (b.getD q 0 : Nat) (zu M 84 16 ((q + 1 : Nat) : Int))) : zm_X11_byteHere l s0 G ca d C S M Q X := by
  have hN := hT.2.1
  refine z_X11_byteHere Γ (by omega) hok hs ?_
  unfold zt_X11_byteHere
  rw [hq, hT.1, w32_id (by omega) (by omega), w32_id (by omega) (by omega)]
  refine ⟨fun c => ?_, fun c => m_fail Γ (by omega) hok hs (kE (by omega))⟩
  have hlt : q < b.length := by omega
  unfold zt_X11_byteHere_20
  rw [hq, show (q : Int) + 1 - 1 = (q : Int) by omega, (hT.2.2 q hlt).1, zand255 (hT.2.2 q hlt).2]
  exact ⟨⟨by omega, by omega⟩, kO hlt⟩
theorem mTp.v (hT : mTp M b) {k v : Int} (hk : ¬ k = 2) : mTp (zu M 84 k v) b := by
  obtain ⟨h1, h2, h3⟩ := hT
  exact ⟨by rw [zu_k (by omega)]; exact h1, h2, fun j hj => ⟨by rw [zu_a (by decide)]; exact (h3 j hj).1, (h3 j hj).2⟩⟩
theorem m_varL (Γ : rt_Γ l s0 a0 G ca) (hd : 3 ≤ d) (hok : zok C) (hs : zSok S) {f : Nat} (hf : f ≤ b.length) (hT : mTp M b) {w0 : rt_Wd}
    (kE : ∀ (e : Nat × Nat), yVar b f = .error e → ∀ M1 : zM, mX b 5000 e M M1 → X M1) (kO : ∀ (n : Int) (q : Nat), yVar b f = .ok (n, q) → Q n (zu M 84 16 q)) : ∀ (m k : Nat) (v2 : Int) (q : Nat), k + m = 10 → vN v2 < 128 ^ k → yV b f m (vN v2) q = yVar b f → 1 ≤ m → q ≤ b.length →
    zg_X11_varint_10 l s0 G ca d C S w0 f v2 k (zu M 84 16 q) Q X := by
  have hN := hT.2.1
  intro m
  induction m with
  | zero => intro k v2 q _ _ _ h _; omega
  | succ m ih =>
    intro k v2 q hk hv he _ hq
    refine zs_X11_varint_10 Γ (by omega) hok hs ?_
    unfold zt_X11_varint_10
    have hT1 : mTp (zu M 84 16 q) b := hT.v (by decide)
    rw [w32_id (x := (k : Int)) (by omega) (by omega)]
    refine zIf_f (by omega) ?_
    unfold yV at he
    refine m_bh Γ (by omega) hok hs hT1 (zu_s _ _ _ _) hq (fun c => ?_) (fun c => ?_)
    · rw [if_pos c] at he
      exact kE _ he.symm _ (mX.of (mfr.rf.zu (by decide) (by decide)) rfl rfl (yE.k (by decide) (by decide) (Nat.le_refl _)))
    · rw [if_neg (by omega)] at he
      have hy := (hT1.2.2 q c).2
      generalize b.getD q 0 = y at he hy
      rw [zu_zu]
      have tail : ¬ (m = 0 ∧ 1 < y) → zt_X11_varint_42 l s0 G ca d C S w0 f v2 k (y : Int) (zu M 84 16 ((q + 1 : Nat) : Int)) Q X := fun hn => by
        rw [if_neg hn, show 9 - m = k by omega] at he
        have hp1 := uPut (u := v2) (y := y) (k := k) (by omega) hv hy (fun h => by
          rcases Nat.lt_or_ge 1 y with h2 | h2
          · exact absurd ⟨by omega, h2⟩ hn
          · exact h2)
        have hp2 := uPut_lt (y := y) hv
        unfold zt_X11_varint_42
        rw [w32_id (x := (y : Int)) (by omega) (by omega)]
        generalize zorL v2 (zshlL (w32 (zand (y : Int) 127)) (7 * (k : Int))) = v3 at hp1
        rw [← hp1] at he hp2
        refine ⟨fun c1 => ?_, fun c1 => ?_⟩
        · rw [if_neg (by omega)] at he
          rw [show (k : Int) + 1 = ((k + 1 : Nat) : Int) by omega]
          refine ih (k + 1) v3 (q + 1) (by omega) hp2 he ?_ (by omega)
          rcases Nat.eq_zero_or_pos m with h2 | h2
          · exact absurd ⟨h2, by omega⟩ hn
          · exact h2
        · rw [if_pos (by omega)] at he
          rw [unz_uz]
          exact kO _ _ he.symm
      refine ⟨fun c9 => ?_, fun c9 => tail (by omega)⟩
      rw [w32_id (x := (y : Int)) (by omega) (by omega)]
      refine ⟨fun c1 => tail (by omega), fun c1 => ?_⟩
      rw [if_pos (by omega)] at he
      exact m_fail Γ (by omega) hok hs (kE _ he.symm _ (mX.of (mfr.rf.zu (by decide) (by decide)) rfl rfl (yE.k (by decide) (by decide) hf)))
/-- a number is read -/
theorem m_var (Γ : rt_Γ l s0 a0 G ca) (hd : 3 ≤ d) (hok : zok C) (hs : zSok S) {f : Nat} (hf : f ≤ b.length) (hT : mTp M b) (h3 : M 84 16 = (f : Int))
    (kE : ∀ (e : Nat × Nat), yVar b f = .error e → ∀ M1 : zM, mX b 5000 e M M1 → X M1) (kO : ∀ (n : Int) (q : Nat), yVar b f = .ok (n, q) → Q n (zu M 84 16 q)) : zm_X11_varint l s0 G ca d C S M Q X := by
  refine z_X11_varint Γ (by omega) hok hs ?_
  unfold zt_X11_varint
  have := m_varL (w0 := zw s0 ca C S M) (X := X) Γ hd hok hs hf hT kE kO 10 0 0 f rfl (by decide) rfl (by decide) hf
  rw [zu_id h3] at this
  rw [h3]
  exact this
theorem mX.up {u v : Nat} {e : Nat × Nat} {M1 : zM} (h : mX b v e M M1) (huv : u ≤ v) : mX b u e M M1 := ⟨h.1, mfr.rf.tr h.2 huv⟩
theorem m_pass (Γ : rt_Γ l s0 a0 G ca) (hd : 3 ≤ d) (hok : zok C) (hs : zSok S) {q n : Nat} (hT : mTp M b) (hq : M 84 16 = (q : Int)) (hqN : q ≤ b.length) {k : Int} (hk : k = (n : Int)) (hn : k < 9223372036854775808) (kE : (b.length : Int) - q < n → X (zu (zu M 84 17 1) 84 18 (b.length : Nat))) (kO : q + n ≤ b.length → Q 0 (zu M 84 16 ((q + n : Nat) : Int))) : zm_X11_passBytes l s0 G ca d C S k M Q X := by
  have hN := hT.2.1
  refine z_X11_passBytes Γ (by omega) hok hs ?_
  unfold zt_X11_passBytes
  rw [hT.1, hq, w32_id (by omega) (by omega), w64_id (by omega) (by omega), w64_id (by omega) (by omega), hk]
  refine ⟨fun c => ?_, fun c => m_fail Γ (by omega) hok hs (kE (by omega))⟩
  unfold zt_X11_passBytes_24
  rw [hq, show (q : Int) + (n : Int) = ((q + n : Nat) : Int) by omega]
  exact kO (by omega)
theorem m_strL (Γ : rt_Γ l s0 a0 G ca) (hd : 4 ≤ d) (hok : zok C) (hs : zSok S) (hT0 : mTp M0 b) {w0 : rt_Wd} : ∀ (n f : Nat) (wa : List Nat) (M : zM), mO u wa (f + n, st.2) M0 M → f + n ≤ b.length → u + wa.length + n ≤ 4200 → (∀ M1 : zM, mO u (wa ++ (b.drop f).take n) (f + n, st.2) M0 M1 → Q 0 M1) → zg_X11_string_47 l s0 G ca d C S w0 f M Q X := by
  have hN := hT0.2.1
  intro n
  induction n with
  | zero =>
    intro f wa M ho hfn hr kO
    refine zs_X11_string_47 Γ (by omega) hok hs ?_
    unfold zt_X11_string_47
    rw [ho.1.1]
    refine zIf_t (Int.le_refl _) (kO M ?_)
    rw [List.take_zero, List.append_nil]
    exact ho
  | succ n ih =>
    intro f wa M ho hfn hr kO
    refine zs_X11_string_47 Γ (by omega) hok hs ?_
    unfold zt_X11_string_47
    have e16 : M 84 16 = ((f + (n + 1) : Nat) : Int) := ho.1.1
    have hT : mTp M b := hT0.m ho.2.2.2
    rw [e16, w32_id (by omega) (by omega), w32_id (by omega) (by omega)]
    refine zIf_f (by omega) ⟨⟨by omega, by omega⟩, ?_⟩
    rw [(hT.2.2 f (by omega)).1]
    refine m_byte Γ (by omega) hok hs (w8_w8 _) ho.1 ho.2.1 (by omega) (fun M1 o _ => ?_)
    have o2 := mO.app ho o
    have e : (b.drop f).take (n + 1) = b.getD f 0 :: (b.drop (f + 1)).take n := by
      rw [List.getD_eq_getElem?_getD, List.getElem?_eq_getElem (show f < b.length by omega), List.drop_eq_getElem_cons (show f < b.length by omega), List.take_succ_cons]
      rfl
    rw [show (f : Int) + 1 = ((f + 1 : Nat) : Int) by omega]
    rw [show f + (n + 1) = f + 1 + n by omega] at o2 kO
    refine ih (f + 1) _ M1 o2 (by omega) (by rw [List.length_append, List.length_singleton]; omega) (fun M2 o3 => kO M2 ?_)
    rw [e]
    rw [List.append_assoc] at o3
    exact o3
theorem m_str (Γ : rt_Γ l s0 a0 G ca) (hd : 6 ≤ d) (hok : zok C) (hs : zSok S) (hA : yA b st) (hT : mTp M b) (hP : mP M st) (hu : M 84 15 = (u : Int)) (hus : u ≤ st.1)
    (kE : ∀ e : Nat × Nat, yStr b st.1 = .error e → ∀ M1 : zM, mX b u e M M1 → X M1) (kO : ∀ (w : List Nat) (q : Nat), yStr b st.1 = .ok (w, q) → ∀ M1 : zM, mO u w (q, st.2) M M1 → Q 0 M1) : zm_X11_string l s0 G ca d C S 1 M Q X := by
  have hN := hT.2.1
  have hA1 := hA.1
  refine z_X11_string Γ (by omega) hok hs ?_
  unfold zt_X11_string
  refine m_var Γ (by omega) hok hs hA1 hT hP.1 (fun e hv M1 x => kE e (by unfold yStr; rw [hv]) _ (x.up (by omega))) (fun n q hv => ?_)
  obtain ⟨v1, v2, v3, v4, v5⟩ := yVar_ok hv
  have hT1 : mTp (zu M 84 16 q) b := hT.v (by decide)
  rw [w64_id v4 v5]
  refine ⟨fun c1 => ?_, fun c1 => ?_⟩
  · unfold zt_X11_string_23
    have hn : n = (n.toNat : Int) := by omega
    refine m_pass Γ (by omega) hok hs (n := n.toNat) hT1 (zu_s _ _ _ _) v2 hn v5 (fun h => ?_) (fun h => ?_)
    · refine kE _ ?_ _ (mX.of (mfr.rf.zu (by decide) (by decide)) rfl rfl (yE.k (by decide) (by decide) (Nat.le_refl _)))
      unfold yStr
      rw [hv]
      dsimp only
      rw [if_neg (by omega), if_pos (by omega)]
    · refine zIf_f (by decide) ?_
      rw [zu_zu, zu_s]
      have o1 := mO.mv (u := u) hP hu (q := q + n.toNat)
      refine m_putV Γ (by omega) hok hs ⟨v4, v5⟩ o1.1 (u := u) o1.2.1 (by omega) (fun M1 o2 _ => ?_)
      have o3 := mO.app o1 o2
      refine m_strL Γ (by omega) hok hs hT n.toNat q (vB n) M1 o3 h (by omega) (fun M2 o4 => kO _ _ ?_ _ o4)
      unfold yStr
      rw [hv]
      dsimp only
      rw [if_neg (by omega), if_neg (by omega)]
  · refine m_fail Γ (by omega) hok hs (kE _ ?_ _ (mX.of (mfr.rf.zu (by decide) (by decide)) rfl hP.1 (yE.k (by decide) (by decide) hA1)))
    unfold yStr
    rw [hv]
    dsimp only
    rw [if_pos (by omega)]
/-- how many bytes a number has -/
theorem m_vsL (Γ : rt_Γ l s0 a0 G ca) (hok : zok C) (hs : zSok S) {w0 : rt_Wd} : ∀ (m : Nat) (v2 : Int) (k : Nat), vN v2 < 128 ^ (m + 1) → Q ((k + (uB (m + 1) (vN v2)).length : Nat) : Int) M → zg_X11_varintSize_12 l s0 G ca d C S w0 v2 ((k + 1 : Nat) : Int) M Q X := by
  intro m
  induction m with
  | zero =>
    intro v2 k hv hQ
    refine zs_X11_varintSize_12 Γ hok hs ?_
    unfold zt_X11_varintSize_12
    have hv1 : vN v2 < 128 := hv
    refine zIf_t ((zushr_w0 v2).mpr hv1) ?_
    have e : uB (0 + 1) (vN v2) = [vN v2] := by unfold uB; rw [if_pos hv1]
    rw [e] at hQ
    exact hQ
  | succ m ih =>
    intro v2 k hv hQ
    refine zs_X11_varintSize_12 Γ hok hs ?_
    unfold zt_X11_varintSize_12
    by_cases hv1 : vN v2 < 128
    · refine zIf_t ((zushr_w0 v2).mpr hv1) ?_
      have e : uB (m + 1 + 1) (vN v2) = [vN v2] := by unfold uB; rw [if_pos hv1]
      rw [e] at hQ
      exact hQ
    · refine zIf_f (fun h => hv1 ((zushr_w0 v2).mp h)) ?_
      have e : uB (m + 1 + 1) (vN v2) = (vN v2 % 128 + 128) :: uB (m + 1) (vN v2 / 128) := by
        show (if vN v2 < 128 then _ else _) = _
        rw [if_neg hv1]
      have hsh := vN_shr7 v2
      rw [show ((k + 1 : Nat) : Int) + 1 = ((k + 1 + 1 : Nat) : Int) by omega]
      refine ih (zushrL v2 7) (k + 1) (by rw [hsh]; exact Nat.div_lt_of_lt_mul (by rw [Nat.mul_comm, ← Nat.pow_succ]; exact hv)) ?_
      rw [e, List.length_cons] at hQ
      rw [hsh, show k + 1 + (uB (m + 1) (vN v2 / 128)).length = k + ((uB (m + 1) (vN v2 / 128)).length + 1) by omega]
      exact hQ
theorem m_vs (Γ : rt_Γ l s0 a0 G ca) (hok : zok C) (hs : zSok S) {n : Int} (hn : -9223372036854775808 ≤ n ∧ n < 9223372036854775808) (hQ : Q ((vB n).length : Nat) M) : zm_X11_varintSize l s0 G ca d C S n M Q X := by
  refine z_X11_varintSize Γ hok hs ?_
  unfold zt_X11_varintSize
  have e := vN_zz n
  have hlt := vN_lt (zxorL (zshlL n 1) (zshrL n 63))
  rw [w64_id hn.1 hn.2] at e
  unfold vB at hQ
  rw [← e] at hQ
  exact m_vsL Γ hok hs 9 _ 0 (Nat.lt_of_lt_of_le hlt (by decide)) (by rw [Nat.zero_add]; exact hQ)
/-- what was made from u on is moved up -/
theorem m_insL (Γ : rt_Γ l s0 a0 G ca) (hd : 4 ≤ d) (hok : zok C) (hs : zSok S) {c n : Nat} {w : List Nat} (hn : 1 ≤ n) (hr : u + w.length + n ≤ 4200) (h15 : M0 84 15 = ((u + w.length : Nat) : Int)) (hw : ∀ j : Nat, j < w.length → M0 134 ((u + j : Nat) : Int) = w8 (w.getD j 0 : Nat)) {w0 : rt_Wd}
    (kO : ∀ M1 : zM, (∀ j : Nat, j < w.length → M1 134 ((u + n + j : Nat) : Int) = w8 (w.getD j 0 : Nat)) → (∀ a j : Int, ¬ (a = 134 ∧ (u : Int) ≤ j) → M1 a j = M0 a j) → zt_X11_insert_59 l s0 G ca d C S w0 u c n M1 Q X) : ∀ (i : Nat) (M : zM), i ≤ w.length → (∀ j : Nat, i ≤ j → j < w.length → M 134 ((u + n + j : Nat) : Int) = w8 (w.getD j 0 : Nat)) → (∀ j : Nat, j < i → M 134 ((u + j : Nat) : Int) = w8 (w.getD j 0 : Nat)) → (∀ a j : Int, ¬ (a = 134 ∧ (u : Int) ≤ j) → M a j = M0 a j) → zg_X11_insert_19 l s0 G ca d C S w0 u c n (((u + i : Nat) : Int) - 1) M Q X := by
  intro i
  induction i with
  | zero =>
    intro M hi h1 h2 h3
    refine zs_X11_insert_19 Γ (by omega) hok hs ?_
    unfold zt_X11_insert_19
    rw [w32_id (by omega) (by omega), w32_id (by omega) (by omega)]
    exact zIf_t (by omega) (kO M (fun j hj => h1 j (Nat.zero_le _) hj) h3)
  | succ i ih =>
    intro M hi h1 h2 h3
    refine zs_X11_insert_19 Γ (by omega) hok hs ?_
    unfold zt_X11_insert_19
    rw [w32_id (x := ((u + (i + 1) : Nat) : Int) - 1) (by omega) (by omega), w32_id (x := (u : Int)) (by omega) (by omega), h3 84 15 (by omega), h15, w32_id (by omega) (by omega)]
    refine zIf_f (by omega) (zIf_f (by omega) ⟨⟨by omega, by omega⟩, ⟨by omega, by omega⟩, ?_⟩)
    rw [show ((u + (i + 1) : Nat) : Int) - 1 = ((u + i : Nat) : Int) by omega, h2 i (by omega), w8_w8, show ((u + i : Nat) : Int) + -1 = ((u + i : Nat) : Int) - 1 by omega, show ((u + i : Nat) : Int) + (n : Int) = ((u + n + i : Nat) : Int) by omega]
    refine ih _ (by omega) (fun j hj hl => ?_) (fun j hj => ?_) (fun a j hh => ?_)
    · by_cases e : j = i
      · subst e
        exact zu_s _ _ _ _
      · rw [zu_k (by omega)]
        exact h1 j (by omega) hl
    · rw [zu_k (by omega)]
      exact h2 j (by omega)
    · rw [zu_ne (fun e => hh ⟨e.1, by omega⟩)]
      exact h3 a j hh
theorem m_ins (Γ : rt_Γ l s0 a0 G ca) (hd : 6 ≤ d) (hok : zok C) (hs : zSok S) {c : Nat} {w : List Nat} (hc : c ≤ 2000) (ho : mO u w st M0 M) (hr : u + w.length + 12 ≤ 4200) (kO : ∀ M1 : zM, mO u (if c = 0 then w else vB c ++ w) st M0 M1 → Q 0 M1) : zm_X11_insert l s0 G ca d C S u c M Q X := by
  refine z_X11_insert Γ (by omega) hok hs ?_
  unfold zt_X11_insert
  rw [w32_id (x := (c : Int)) (by omega) (by omega)]
  refine ⟨fun c1 => kO M (by rw [if_pos (by omega)]; exact ho), fun c1 => ?_⟩
  have h2 := vB_small (c := c) (by omega)
  have h1 : 1 ≤ (vB (c : Int)).length := uB_pos
  refine m_vs Γ hok hs ⟨by omega, by omega⟩ ?_
  rw [ho.2.1]
  refine m_insL (M0 := M) Γ (by omega) hok hs h1 (by omega) ho.2.1 ho.2.2.1 (fun M1 k1 k2 => ?_) w.length M (Nat.le_refl _) (fun j hj hl => absurd hl (by omega)) ho.2.2.1 (fun _ _ _ => rfl)
  unfold zt_X11_insert_59
  have e15 : M1 84 15 = ((u + w.length : Nat) : Int) := by rw [k2 84 15 (by omega)]; exact ho.2.1
  obtain ⟨⟨p1, p2, p3⟩, o2, o3, o4⟩ := ho
  have hP : mP (zu M1 84 15 u) st := ⟨by rw [zu_k (by decide), k2 84 16 (by omega)]; exact p1, by rw [zu_k (by decide), k2 84 20 (by omega)]; exact p2, by rw [zu_k (by decide), k2 84 19 (by omega)]; exact p3⟩
  rw [w32_id (x := (c : Int)) (by omega) (by omega)]
  refine m_putV Γ (by omega) hok hs ⟨by omega, by omega⟩ hP (zu_s _ _ _ _) (by omega) (fun M2 o5 ot => ?_)
  rw [e15]
  refine kO _ ?_
  rw [if_neg (by omega)]
  obtain ⟨⟨q1, q2, q3⟩, r2, r3, r4⟩ := o5
  refine ⟨⟨by rw [zu_k (by decide)]; exact q1, by rw [zu_k (by decide)]; exact q2, by rw [zu_k (by decide)]; exact q3⟩, by rw [zu_s, List.length_append]; omega, fun j hj => ?_, fun a j n1 n2 => ?_⟩
  · rw [List.length_append] at hj
    rw [zu_a (by decide), List.getD_eq_getElem?_getD]
    by_cases cj : j < (vB (c : Int)).length
    · rw [List.getElem?_append_left cj, ← List.getD_eq_getElem?_getD]
      exact r3 j cj
    · rw [List.getElem?_append_right (by omega), ← List.getD_eq_getElem?_getD, ← k1 (j - (vB (c : Int)).length) (by omega), ot _ (by omega), zu_a (by decide)]
      congr 1
      omega
  · rw [zu_ne (fun e => n1 ⟨e.1, by omega⟩), r4 a j n1 n2, zu_ne (fun e => n1 ⟨e.1, by omega⟩), k2 a j n2, o4 a j n1 n2]
end LB
