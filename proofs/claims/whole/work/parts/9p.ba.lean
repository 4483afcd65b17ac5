/-! ===== the reference's small methods ===== -/
def tpM (M : zM) (tb : List Nat) : Prop := M 84 2 = (tb.length : Int) ∧ ∀ j : Nat, j < tb.length → M 85 (j : Int) = w8 (tb.getD j 0 : Nat)
def tfm (M M1 : zM) : Prop := ∀ c j : Int, ¬ (c = 84 ∧ j = 2) → ¬ c = 85 → M1 c j = M c j
theorem tpM.add {M : zM} {tb : List Nat} {b : Nat} (h : tpM M tb) : tpM (zu (zu M 85 (tb.length : Int) (w8 (b : Nat))) 84 2 ((tb.length : Int) + 1)) (tb ++ [b]) ∧ tfm M (zu (zu M 85 (tb.length : Int) (w8 (b : Nat))) 84 2 ((tb.length : Int) + 1)) := by
  refine ⟨⟨by rw [zu_s, List.length_append, List.length_singleton]; rfl, fun j hj => ?_⟩, fun c j n1 n2 => by rw [zu_ne n1, zu_a n2]⟩
  rw [List.length_append, List.length_singleton] at hj
  rw [zu_a (by decide), getD_snoc hj]
  split
  · rename_i h; rw [h]; exact zu_s _ _ _ _
  · rename_i h9
    rw [zu_k (by omega)]
    exact h.2 j (by omega)
theorem mI.tp {M M1 : zM} {tb tb1 : List Nat} {ks : kST} {L : List (List Nat)} {ow : Int} {out : List Nat} {pl : Int} (h : mI M tb ks L ow out pl) (f : ∀ c j : Int, ¬ (c = 84 ∧ (j = 0 ∨ j = 2)) → ¬ c = 85 → M1 c j = M c j) (ht : tpM M1 tb1) : mI M1 tb1 ks L ow out pl := by
  obtain ⟨h1, h2, h3, h4, h5⟩ := h
  exact ⟨ht, fun k hk => ⟨fun c => (f _ _ (by omega) (by omega)).trans ((h2 k hk).1 c), fun z hz => ((h2 k hk).2 z hz).fr (fun a j ha => f _ _ (by omega) (by omega))⟩, ⟨(f _ _ (by decide) (by decide)).trans h3.1, (f _ _ (by decide) (by decide)).trans h3.2.1, (f _ _ (by decide) (by decide)).trans h3.2.2.1, fun j hj => (f _ _ (by omega) (by omega)).trans (h3.2.2.2 j hj)⟩, ⟨(f _ _ (by decide) (by decide)).trans h4.1, fun j hj => (f _ _ (by omega) (by omega)).trans (h4.2 j hj)⟩, (f _ _ (by decide) (by decide)).trans h5⟩
section PBA
variable {l : Launch} {s0 : State} {a0 : Array Value} {G : va_G} {ca : Nat → ClassId} {d : Nat} {C : Nat × Nat} {S : zS} {M : zM} {Q : Int → zM → Prop} {X : zM → Prop} {tb : List Nat} {ks : kST} {L : List (List Nat)} {ow : Int} {out : List Nat} {pl : Int}
theorem m_addI (Γ : rt_Γ l s0 a0 G ca) (hd : 1 ≤ d) (hok : zok C) (hs : zSok S) {v : Int} (ht : tpM M tb) (hl : tb.length + 4 ≤ 4096) (hQ : ∀ M1 : zM, tfm M M1 → tpM M1 (tb ++ bt4 v) → Q 0 M1) : zm_X11_addInt l s0 G ca d C S v M Q X := by
  refine z_X11_addInt Γ hok hs ?_
  unfold zt_X11_addInt
  refine zs_X11_addInt_3 Γ hok hs ?_
  unfold zt_X11_addInt_3
  rw [(bt_c v 24 24 (by decide)).2, ht.1]
  refine zIf_f (by decide) ⟨⟨by omega, by omega⟩, ?_⟩
  obtain ⟨t1, g1⟩ := ht.add (b := btV v 24)
  generalize zu (zu M 85 (tb.length : Int) (w8 (btV v 24 : Nat))) 84 2 ((tb.length : Int) + 1) = M1 at t1 g1 ⊢
  refine zs_X11_addInt_3 Γ hok hs ?_
  unfold zt_X11_addInt_3
  rw [show ((24 : Int) + -8) = 16 by decide, (bt_c v 16 16 (by decide)).2, t1.1]
  have l1 : (tb ++ [btV v 24]).length = tb.length + 1 := by rw [List.length_append, List.length_singleton]
  refine zIf_f (by decide) ⟨⟨by omega, by omega⟩, ?_⟩
  obtain ⟨t2, g2⟩ := t1.add (b := btV v 16)
  generalize zu (zu M1 85 ((tb ++ [btV v 24]).length : Int) (w8 (btV v 16 : Nat))) 84 2 (((tb ++ [btV v 24]).length : Int) + 1) = M2 at t2 g2 ⊢
  refine zs_X11_addInt_3 Γ hok hs ?_
  unfold zt_X11_addInt_3
  rw [show ((16 : Int) + -8) = 8 by decide, (bt_c v 8 8 (by decide)).2, t2.1]
  have l2 : ((tb ++ [btV v 24]) ++ [btV v 16]).length = tb.length + 2 := by rw [List.length_append, l1, List.length_singleton]
  refine zIf_f (by decide) ⟨⟨by omega, by omega⟩, ?_⟩
  obtain ⟨t3, g3⟩ := t2.add (b := btV v 8)
  generalize zu (zu M2 85 (((tb ++ [btV v 24]) ++ [btV v 16]).length : Int) (w8 (btV v 8 : Nat))) 84 2 ((((tb ++ [btV v 24]) ++ [btV v 16]).length : Int) + 1) = M3 at t3 g3 ⊢
  refine zs_X11_addInt_3 Γ hok hs ?_
  unfold zt_X11_addInt_3
  rw [show ((8 : Int) + -8) = 0 by decide, (bt_c v 0 0 (by decide)).2, t3.1]
  have l3 : (((tb ++ [btV v 24]) ++ [btV v 16]) ++ [btV v 8]).length = tb.length + 3 := by rw [List.length_append, l2, List.length_singleton]
  refine zIf_f (by decide) ⟨⟨by omega, by omega⟩, ?_⟩
  obtain ⟨t4, g4⟩ := t3.add (b := btV v 0)
  generalize zu (zu M3 85 ((((tb ++ [btV v 24]) ++ [btV v 16]) ++ [btV v 8]).length : Int) (w8 (btV v 0 : Nat))) 84 2 (((((tb ++ [btV v 24]) ++ [btV v 16]) ++ [btV v 8]).length : Int) + 1) = M4 at t4 g4 ⊢
  refine zs_X11_addInt_3 Γ hok hs ?_
  unfold zt_X11_addInt_3
  refine zIf_t (by decide) (hQ M4 (fun c j n1 n2 => ((g4 c j n1 n2).trans (g3 c j n1 n2)).trans ((g2 c j n1 n2).trans (g1 c j n1 n2))) ?_)
  have e : tb ++ bt4 v = (((tb ++ [btV v 24]) ++ [btV v 16]) ++ [btV v 8]) ++ [btV v 0] := by
    unfold bt4
    rw [List.append_assoc, List.append_assoc, List.append_assoc]
    rfl
  rw [e]
  exact t4
theorem m_feedU (Γ : rt_Γ l s0 a0 G ca) (hd : 4 ≤ d) (hok : zok C) (hs : zSok S) (hI : mI M tb ks L ow out pl) (hl : tb.length + 20 ≤ 4096) {v1 v2 v3 v4 v5 : Int} (hQ : ∀ M1 : zM, mI M1 (tb ++ bt20 v1 v2 v3 v4 v5) ks L ow out pl → mfm M M1 → M1 84 0 = 0 → Q ((tb.length + 20 : Nat) : Int) M1) : zm_X11_feed l s0 G ca d C S v1 v2 v3 v4 v5 M Q X := by
  refine z_X11_feed Γ (by omega) hok hs ?_
  unfold zt_X11_feed zt_X11_feed_19
  rw [hI.1.1, show ((tb.length : Int) + 20) = ((tb.length + 20 : Nat) : Int) by omega, w32_id (by omega) (by omega)]
  refine zIf_t (by omega) ?_
  refine m_refd Γ (by omega) hok hs (Or.inl rfl) (Or.inl rfl) (fun _ _ => ?_) (fun h => absurd h (by decide)) (fun _ h => absurd h (by decide))
  refine zIf_t (by decide) ?_
  have t0 : tpM (zu M 84 0 0) tb := ⟨(zu_k (by decide)).trans hI.1.1, fun j hj => (zu_a (by decide)).trans (hI.1.2 j hj)⟩
  refine m_addI Γ (by omega) hok hs t0 (by omega) (fun M1 g1 t1 => ?_)
  refine m_addI Γ (by omega) hok hs t1 (by rw [List.length_append, bt4_len]; omega) (fun M2 g2 t2 => ?_)
  refine m_addI Γ (by omega) hok hs t2 (by rw [List.length_append, List.length_append, bt4_len, bt4_len]; omega) (fun M3 g3 t3 => ?_)
  refine m_addI Γ (by omega) hok hs t3 (by rw [List.length_append, List.length_append, List.length_append, bt4_len, bt4_len, bt4_len]; omega) (fun M4 g4 t4 => ?_)
  refine m_addI Γ (by omega) hok hs t4 (by rw [List.length_append, List.length_append, List.length_append, List.length_append, bt4_len, bt4_len, bt4_len, bt4_len]; omega) (fun M5 g5 t5 => ?_)
  have e : tb ++ bt20 v1 v2 v3 v4 v5 = ((((tb ++ bt4 v1) ++ bt4 v2) ++ bt4 v3) ++ bt4 v4) ++ bt4 v5 := by
    unfold bt20
    rw [List.append_assoc, List.append_assoc, List.append_assoc, List.append_assoc]
  rw [← e] at t5
  have fr : ∀ c j : Int, ¬ (c = 84 ∧ j = 2) → ¬ c = 85 → M5 c j = zu M 84 0 0 c j := fun c j n1 n2 => ((g5 c j n1 n2).trans (g4 c j n1 n2)).trans ((g3 c j n1 n2).trans ((g2 c j n1 n2).trans (g1 c j n1 n2)))
  have hlen : (tb ++ bt20 v1 v2 v3 v4 v5).length = tb.length + 20 := by rw [List.length_append]; rfl
  have e1 : M5 84 2 = ((tb.length + 20 : Nat) : Int) := by rw [← hlen]; exact t5.1
  rw [e1]
  refine hQ M5 (hI.tp (fun c j n1 n2 => ?_) t5) (fun c j h => ?_) ((fr _ _ (by decide) (by decide)).trans (zu_s _ _ _ _))
  · rw [fr c j (fun e => n1 ⟨e.1, Or.inr e.2⟩) n2, zu_ne (fun e => n1 ⟨e.1, Or.inl e.2⟩)]
  · rw [fr c j (by omega) (by omega), zu_a (by omega)]
theorem m_endU (Γ : rt_Γ l s0 a0 G ca) (hd : 3 ≤ d) (hok : zok C) (hs : zSok S) (hI : mI M tb ks L ow out pl) (htl : tb.length ≤ 4096) {k : Int} (hk : -2147483648 ≤ k ∧ k < 2147483648) (k1 : ¬ (0 ≤ k ∧ k ≤ (tb.length : Int)) → ∀ M1 : zM, mI M1 tb ks L ow out pl → mfm M M1 → M1 84 0 = 1 → Q 0 M1) (k0 : ∀ u : Nat, k = (u : Int) → u ≤ tb.length → ∀ M1 : zM, mI M1 (tb.take u) ks L ow out pl → mfm M M1 → M1 84 0 = 0 → Q 0 M1) : zm_X11_end l s0 G ca d C S k M Q X := by
  have f1 : ∀ v : Int, mI (zu M 84 0 v) tb ks L ow out pl ∧ mfm M (zu M 84 0 v) ∧ zu M 84 0 v 84 0 = v := fun v => ⟨hI.fr (fun c j h => zu_ne (fun e => by omega)), mfm.rf.zu (by decide), zu_s _ _ _ _⟩
  refine z_X11_end Γ (by omega) hok hs ?_
  unfold zt_X11_end zt_X11_end_18
  rw [hI.1.1]
  refine m_within Γ hok hs hk (by decide) ⟨by omega, by omega⟩ (fun a1 a2 => zIf_f (by decide) ?_) (fun hn => zIf_t (by decide) ?_)
  · refine m_refd Γ (by omega) hok hs (Or.inl rfl) (Or.inl rfl) (fun _ _ => ?_) (fun h => absurd h (by decide)) (fun _ h => absurd h (by decide))
    refine zIf_t (by decide) ?_
    obtain ⟨u, rfl⟩ : ∃ u : Nat, k = (u : Int) := ⟨k.toNat, by omega⟩
    refine k0 u rfl (by omega) _ (hI.tp (fun c j n1 n2 => ?_) ⟨?_, fun j hj => ?_⟩) ((mfm.rf.zu (by decide)).zu (by decide)) ?_
    · rw [zu_ne (fun e => n1 ⟨e.1, Or.inr e.2⟩), zu_ne (fun e => n1 ⟨e.1, Or.inl e.2⟩)]
    · rw [zu_s, List.length_take, Nat.min_eq_left (by omega)]
    · rw [List.length_take] at hj
      rw [zu_a (by decide), zu_a (by decide), hI.1.2 j (by omega), List.getD_eq_getElem?_getD, List.getD_eq_getElem?_getD, List.getElem?_take_of_lt (by omega)]
    · rw [zu_k (by decide), zu_s]
  · exact m_refd Γ (by omega) hok hs (Or.inr rfl) (Or.inl rfl) (fun h => absurd h (by decide)) (fun _ => zIf_f (by decide) (k1 (by omega) _ (f1 1).1 (f1 1).2.1 (f1 1).2.2)) (fun h => absurd h (by decide))
theorem m_placeU (Γ : rt_Γ l s0 a0 G ca) (hok : zok C) (hs : zSok S) (hI : mI M tb ks L ow out pl) (hQ : mI (zu M 84 0 0) tb ks L ow out pl → mfm M (zu M 84 0 0) → Q pl (zu M 84 0 0)) : zm_X11_place l s0 G ca d C S M Q X := by
  refine z_X11_place Γ hok hs ?_
  unfold zt_X11_place
  rw [hI.2.2.2.2]
  exact hQ (hI.fr (fun c j h => zu_ne (fun e => by omega))) (mfm.rf.zu (by decide))
theorem m_rowsU (Γ : rt_Γ l s0 a0 G ca) (hok : zok C) (hs : zSok S) (hI : mI M tb ks L ow out pl) (hQ : mI (zu M 84 0 0) tb ks L ow out pl → mfm M (zu M 84 0 0) → Q (L.length : Nat) (zu M 84 0 0)) : zm_X11_rows l s0 G ca d C S M Q X := by
  refine z_X11_rows Γ hok hs ?_
  unfold zt_X11_rows
  rw [hI.2.2.1.2.1]
  exact hQ (hI.fr (fun c j h => zu_ne (fun e => by omega))) (mfm.rf.zu (by decide))
theorem m_sizeU (Γ : rt_Γ l s0 a0 G ca) (hd : 3 ≤ d) (hok : zok C) (hs : zSok S) (hI : mI M tb ks L ow out pl) {w : Int} (hw : -2147483648 ≤ w ∧ w < 2147483648) (k1 : ¬ (0 ≤ w ∧ w ≤ 1) → ∀ M1 : zM, mI M1 tb ks L ow out pl → mfm M M1 → M1 84 0 = 1 → Q 0 M1) (k0 : ∀ u : Nat, w = (u : Int) → u < 2 → ∀ M1 : zM, mI M1 tb ks L ow out pl → mfm M M1 → M1 84 0 = 0 → Q ((bsW L out u).length : Nat) M1) : zm_X11_size l s0 G ca d C S w M Q X := by
  have f1 : ∀ v : Int, mI (zu M 84 0 v) tb ks L ow out pl ∧ mfm M (zu M 84 0 v) ∧ zu M 84 0 v 84 0 = v := fun v => ⟨hI.fr (fun c j h => zu_ne (fun e => by omega)), mfm.rf.zu (by decide), zu_s _ _ _ _⟩
  refine z_X11_size Γ (by omega) hok hs ?_
  unfold zt_X11_size zt_X11_size_15
  refine m_within Γ hok hs hw (by decide) (by decide) (fun a1 a2 => zIf_f (by decide) ?_) (fun hn => zIf_t (by decide) ?_)
  · refine m_refd Γ (by omega) hok hs (Or.inl rfl) (Or.inl rfl) (fun _ _ => ?_) (fun h => absurd h (by decide)) (fun _ h => absurd h (by decide))
    refine zIf_t (by decide) ?_
    obtain ⟨u, rfl⟩ : ∃ u : Nat, w = (u : Int) := ⟨w.toNat, by omega⟩
    have h9 := k0 u rfl (by omega) _ (f1 0).1 (f1 0).2.1 (f1 0).2.2
    unfold bsW at h9
    rw [w32_id (x := (u : Int)) (by omega) (by omega), zu_k (by decide), zu_k (by decide), hI.2.2.1.2.2.1, hI.2.2.2.1.1]
    by_cases c : u = 0
    · rw [if_pos c] at h9
      exact zIf_t (by omega) h9
    · rw [if_neg c] at h9
      exact zIf_f (by omega) h9
  · exact m_refd Γ (by omega) hok hs (Or.inr rfl) (Or.inl rfl) (fun h => absurd h (by decide)) (fun _ => zIf_f (by decide) (k1 (by omega) _ (f1 1).1 (f1 1).2.1 (f1 1).2.2)) (fun h => absurd h (by decide))
theorem m_letterU (Γ : rt_Γ l s0 a0 G ca) (hd : 3 ≤ d) (hok : zok C) (hs : zSok S) (hI : mI M tb ks L ow out pl) (hbl : ∀ u : Nat, u < 2 → (bsW L out u).length ≤ 4096 ∧ ∀ j : Nat, (bsW L out u).getD j 0 < 256) {i w : Int} (hi : -2147483648 ≤ i ∧ i < 2147483648) (hw : -2147483648 ≤ w ∧ w < 2147483648)
    (k2 : ¬ (0 ≤ w ∧ w ≤ 1) → ∀ M1 : zM, mI M1 tb ks L ow out pl → mfm M M1 → M1 84 0 = 2 → Q 0 M1) (k1 : ∀ u : Nat, w = (u : Int) → u < 2 → ¬ (0 ≤ i ∧ i < ((bsW L out u).length : Int)) → ∀ M1 : zM, mI M1 tb ks L ow out pl → mfm M M1 → M1 84 0 = 1 → Q 0 M1)
    (k0 : ∀ u j : Nat, w = (u : Int) → u < 2 → i = (j : Int) → j < (bsW L out u).length → ∀ M1 : zM, mI M1 tb ks L ow out pl → mfm M M1 → M1 84 0 = 0 → Q ((bsW L out u).getD j 0 : Nat) M1) : zm_X11_letter l s0 G ca d C S i w M Q X := by
  have f1 : ∀ v : Int, mI (zu M 84 0 v) tb ks L ow out pl ∧ mfm M (zu M 84 0 v) ∧ zu M 84 0 v 84 0 = v := fun v => ⟨hI.fr (fun c j h => zu_ne (fun e => by omega)), mfm.rf.zu (by decide), zu_s _ _ _ _⟩
  refine z_X11_letter Γ (by omega) hok hs ?_
  unfold zt_X11_letter
  refine m_within Γ hok hs hw (by decide) (by decide) (fun a1 a2 => zIf_f (by decide) ?_) (fun hn => zIf_t (by decide) ?_)
  · obtain ⟨u, rfl⟩ : ∃ u : Nat, w = (u : Int) := ⟨w.toNat, by omega⟩
    have hu : u < 2 := by omega
    obtain ⟨hl, hb⟩ := hbl u hu
    unfold zt_X11_letter_14
    refine zIf_t (by decide) ?_
    have t50 : (0 ≤ i ∧ i < ((bsW L out u).length : Int)) → zt_X11_letter_50 l s0 G ca d C S (zw s0 ca C S M) i u 0 0 M Q X := fun ⟨b1, b2⟩ => by
      unfold zt_X11_letter_50
      refine m_refd Γ (by omega) hok hs (Or.inl rfl) (Or.inl rfl) (fun _ _ => ?_) (fun h => absurd h (by decide)) (fun _ h => absurd h (by decide))
      refine zIf_t (by decide) ?_
      obtain ⟨j, rfl⟩ : ∃ j : Nat, i = (j : Int) := ⟨i.toNat, by omega⟩
      have h9 := k0 u j rfl hu rfl (by omega) _ (f1 0).1 (f1 0).2.1 (f1 0).2.2
      have hbj := hb j
      rw [w32_id (x := (u : Int)) (by omega) (by omega), zu_a (by decide), zu_a (by decide)]
      unfold bsW at h9 b2 hbj
      by_cases c : u = 0
      · rw [if_pos c] at h9 b2 hbj
        have e : M 132 (j : Int) = w8 (L.flatten.getD j 0 : Nat) := by
          have := hI.2.2.1.2.2.2 j (by omega)
          rw [Nat.zero_add] at this
          exact this
        rw [e, zand255 hbj]
        exact zIf_t (by omega) ⟨⟨by omega, by unfold bsW at hl; rw [if_pos c] at hl; omega⟩, h9⟩
      · rw [if_neg c] at h9 b2 hbj
        rw [hI.2.2.2.1.2 j (by omega), zand255 hbj]
        exact zIf_f (by omega) ⟨⟨by omega, by unfold bsW at hl; rw [if_neg c] at hl; omega⟩, h9⟩
    have t37 : zt_X11_letter_37 l s0 G ca d C S (zw s0 ca C S M) i u 0 ((bsW L out u).length : Nat) 0 i M Q X := by
      unfold zt_X11_letter_37 zt_X11_letter_49
      refine m_within Γ hok hs hi (by decide) ⟨by omega, by omega⟩ (fun b1 b2 => zIf_f (by decide) (t50 ⟨b1, by omega⟩)) (fun hn => zIf_t (by decide) ?_)
      unfold zt_X11_letter_50
      exact m_refd Γ (by omega) hok hs (Or.inr rfl) (Or.inl rfl) (fun h => absurd h (by decide)) (fun _ => zIf_f (by decide) (k1 u rfl hu (by omega) _ (f1 1).1 (f1 1).2.1 (f1 1).2.2)) (fun h => absurd h (by decide))
    rw [w32_id (x := (u : Int)) (by omega) (by omega), hI.2.2.1.2.2.1, hI.2.2.2.1.1]
    unfold bsW at t37
    by_cases c : u = 0
    · rw [if_pos c] at t37
      exact zIf_t (by omega) t37
    · rw [if_neg c] at t37
      exact zIf_f (by omega) t37
  · unfold zt_X11_letter_14 zt_X11_letter_49 zt_X11_letter_50
    refine zIf_f (by decide) ?_
    exact m_refd Γ (by omega) hok hs (Or.inl rfl) (Or.inr rfl) (fun _ h => absurd h (by decide)) (fun h => absurd h (by decide)) (fun _ _ => zIf_f (by decide) (k2 hn _ (f1 2).1 (f1 2).2.1 (f1 2).2.2))
end PBA
