/-! ===== the class's small methods ===== -/
def tpC (M : zM) (tb : List Nat) : Prop := M 1 1 = (tb.length : Int) ∧ ∀ j : Nat, j < tb.length → M 2 (j : Int) = (tb.getD j 0 : Nat)
theorem getD_snoc {tb : List Nat} {b j : Nat} (hj : j < tb.length + 1) : (tb ++ [b]).getD j 0 = if j = tb.length then b else tb.getD j 0 := by
  rw [List.getD_eq_getElem?_getD]
  split
  · rename_i h
    rw [h, List.getElem?_append_right (Nat.le_refl _), Nat.sub_self]
    rfl
  · rename_i h
    rw [List.getElem?_append_left (by omega), ← List.getD_eq_getElem?_getD]
theorem tpC.add {M : zM} {tb : List Nat} {b : Nat} (h : tpC M tb) (hl : tb.length < 4096) : tpC (zadd M 1 2 4096 (b : Int)) (tb ++ [b]) ∧ ∀ c j : Int, ¬ (c = 1 ∧ j = 1) → ¬ c = 2 → zadd M 1 2 4096 (b : Int) c j = M c j := by
  obtain ⟨ea, -⟩ := zadd_in (M := M) (c := 1) (a := 2) (n := 4096) (x := (b : Int)) h.1 (by decide) (by omega) (by omega) (by decide)
  rw [ea]
  refine ⟨⟨by rw [zu_s, List.length_append, List.length_singleton]; rfl, fun j hj => ?_⟩, fun c j n1 n2 => by rw [zu_ne n1, zu_a n2]⟩
  rw [List.length_append, List.length_singleton] at hj
  rw [zu_a (by decide), getD_snoc hj]
  split
  · rename_i h; rw [h]; exact zu_s _ _ _ _
  · rename_i h9
    rw [zu_k (by omega)]
    exact h.2 j (by omega)
theorem cI.tp {S : zS} {n : Nat} {M M1 : zM} {tb tb1 : List Nat} {ks : kST} {L : List (List Nat)} {ow : Int} {out : List Nat} {pl : Int} {a : Nat} (h : cI S n M tb ks L ow out pl a) (f : ∀ c j : Int, ¬ (c = 1 ∧ j = 1) → ¬ c = 2 → M1 c j = M c j) (ht : tpC M1 tb1) : cI S n M1 tb1 ks L ow out pl a := by
  obtain ⟨h1, ⟨pf, h2⟩, h3, ⟨cu, sp, h4, h5, h6, h7⟩, h8, h9, h10, h11, h12⟩ := h
  refine ⟨h1, ⟨pf, h2.fx (fun c j hc => f c j (by omega) (by omega))⟩, ht, ⟨cu, sp, h4, (f _ _ (by decide) (by decide)).trans h5, (f _ _ (by decide) (by decide)).trans h6, h7.fr (fun c j c1 c2 => f c j (by omega) (by omega))⟩, (f _ _ (by decide) (by decide)).trans h8, ⟨(f _ _ (by decide) (by decide)).trans h9.1, fun j hj => (f _ _ (by omega) (by decide)).trans (h9.2 j hj)⟩, (f _ _ (by decide) (by decide)).trans h10, h11.fr (fun c j h => f c j (by omega) (by omega)), ?_⟩
  obtain ⟨z1, z2, z3, z4, z5, z6, z7⟩ := h12
  exact ⟨(f _ _ (by decide) (by decide)).trans z1, (f _ _ (by decide) (by decide)).trans z2, (f _ _ (by decide) (by decide)).trans z3, (f _ _ (by decide) (by decide)).trans z4, (f _ _ (by decide) (by decide)).trans z5, (f _ _ (by decide) (by decide)).trans z6, (f _ _ (by decide) (by decide)).trans z7⟩
def tfc (M M1 : zM) : Prop := ∀ c j : Int, ¬ (c = 1 ∧ j = 1) → ¬ c = 2 → M1 c j = M c j
section PB9
variable {l : Launch} {s0 : State} {a0 : Array Value} {G : va_G} {ca : Nat → ClassId} {d : Nat} {C : Nat × Nat} {S : zS} {M : zM} {Q : Int → zM → Prop} {X : zM → Prop} {tb : List Nat} {ks : kST} {L : List (List Nat)} {ow : Int} {out : List Nat} {pl : Int} {a n : Nat}
theorem c_feed1 (Γ : rt_Γ l s0 a0 G ca) (hd : 2 ≤ d) (hok : zok C) (hs : zSok S) {v : Int} (ht : tpC M tb) (hl : tb.length + 4 ≤ 4096) (hQ : ∀ M1 : zM, tfc M M1 → tpC M1 (tb ++ bt4 v) → Q 0 M1) : zm_X9_feedOne l s0 G ca d C S v M Q X := by
  refine z_X9_feedOne Γ (by omega) hok hs ?_
  unfold zt_X9_feedOne
  refine zs_X9_feedOne_3 Γ (by omega) hok hs ?_
  unfold zt_X9_feedOne_3
  refine zIf_f (by decide) ?_
  rw [(bt_c v 24 24 (by decide)).1]
  obtain ⟨t1, g1⟩ := ht.add (b := btV v 24) (by omega)
  generalize zadd M 1 2 4096 (btV v 24 : Int) = M1 at t1 g1 ⊢
  refine zs_X9_feedOne_3 Γ (by omega) hok hs ?_
  unfold zt_X9_feedOne_3
  refine zIf_f (by decide) ?_
  rw [show ((24 : Int) + -8) = 16 by decide, (bt_c v 16 16 (by decide)).1]
  obtain ⟨t2, g2⟩ := t1.add (b := btV v 16) (by rw [List.length_append, List.length_singleton]; omega)
  generalize zadd M1 1 2 4096 (btV v 16 : Int) = M2 at t2 g2 ⊢
  refine zs_X9_feedOne_3 Γ (by omega) hok hs ?_
  unfold zt_X9_feedOne_3
  refine zIf_f (by decide) ?_
  rw [show ((16 : Int) + -8) = 8 by decide, (bt_c v 8 8 (by decide)).1]
  obtain ⟨t3, g3⟩ := t2.add (b := btV v 8) (by rw [List.length_append, List.length_append, List.length_singleton, List.length_singleton]; omega)
  generalize zadd M2 1 2 4096 (btV v 8 : Int) = M3 at t3 g3 ⊢
  refine zs_X9_feedOne_3 Γ (by omega) hok hs ?_
  unfold zt_X9_feedOne_3
  refine zIf_f (by decide) ?_
  rw [show ((8 : Int) + -8) = 0 by decide, (bt_c v 0 0 (by decide)).1]
  obtain ⟨t4, g4⟩ := t3.add (b := btV v 0) (by rw [List.length_append, List.length_append, List.length_append, List.length_singleton, List.length_singleton, List.length_singleton]; omega)
  generalize zadd M3 1 2 4096 (btV v 0 : Int) = M4 at t4 g4 ⊢
  refine zs_X9_feedOne_3 Γ (by omega) hok hs ?_
  unfold zt_X9_feedOne_3
  refine zIf_t (by decide) (hQ M4 (fun c j n1 n2 => ((g4 c j n1 n2).trans (g3 c j n1 n2)).trans ((g2 c j n1 n2).trans (g1 c j n1 n2))) ?_)
  have e : tb ++ bt4 v = (((tb ++ [btV v 24]) ++ [btV v 16]) ++ [btV v 8]) ++ [btV v 0] := by
    unfold bt4
    rw [List.append_assoc, List.append_assoc, List.append_assoc]
    rfl
  rw [e]
  exact t4
theorem bt4_len (v : Int) : (bt4 v).length = 4 := rfl
/-- what is fed -/
def bt20 (v1 v2 v3 v4 v5 : Int) : List Nat := bt4 v1 ++ (bt4 v2 ++ (bt4 v3 ++ (bt4 v4 ++ bt4 v5)))
theorem c_feedU (Γ : rt_Γ l s0 a0 G ca) (hd : 4 ≤ d) (hok : zok C) (hI : cI S n M tb ks L ow out pl a) (hl : tb.length + 20 ≤ 4096) {v1 v2 v3 v4 v5 : Int} (hQ : ∀ M1 : zM, cI S n M1 (tb ++ bt20 v1 v2 v3 v4 v5) ks L ow out pl a → mfc M M1 → Q ((tb.length + 20 : Nat) : Int) M1) : zm_X9_feed l s0 G ca d C S v1 v2 v3 v4 v5 M Q X := by
  have hs := hI.1.1
  have ht : tpC M tb := hI.2.2.1
  refine z_X9_feed Γ (by omega) hok hs ?_
  unfold zt_X9_feed
  rw [ht.1, show ((tb.length : Int) + 20) = ((tb.length + 20 : Nat) : Int) by omega, w32_id (by omega) (by omega)]
  refine zIf_t (by omega) ?_
  refine c_feed1 Γ (by omega) hok hs ht (by omega) (fun M1 g1 t1 => ?_)
  refine c_feed1 Γ (by omega) hok hs t1 (by rw [List.length_append, bt4_len]; omega) (fun M2 g2 t2 => ?_)
  refine c_feed1 Γ (by omega) hok hs t2 (by rw [List.length_append, List.length_append, bt4_len, bt4_len]; omega) (fun M3 g3 t3 => ?_)
  refine c_feed1 Γ (by omega) hok hs t3 (by rw [List.length_append, List.length_append, List.length_append, bt4_len, bt4_len, bt4_len]; omega) (fun M4 g4 t4 => ?_)
  refine c_feed1 Γ (by omega) hok hs t4 (by rw [List.length_append, List.length_append, List.length_append, List.length_append, bt4_len, bt4_len, bt4_len, bt4_len]; omega) (fun M5 g5 t5 => ?_)
  have e : tb ++ bt20 v1 v2 v3 v4 v5 = ((((tb ++ bt4 v1) ++ bt4 v2) ++ bt4 v3) ++ bt4 v4) ++ bt4 v5 := by
    unfold bt20
    rw [List.append_assoc, List.append_assoc, List.append_assoc, List.append_assoc]
  rw [← e] at t5
  have fr : ∀ c j : Int, ¬ (c = 1 ∧ j = 1) → ¬ c = 2 → M5 c j = M c j := fun c j n1 n2 => ((g5 c j n1 n2).trans (g4 c j n1 n2)).trans ((g3 c j n1 n2).trans ((g2 c j n1 n2).trans (g1 c j n1 n2)))
  have hlen : (tb ++ bt20 v1 v2 v3 v4 v5).length = tb.length + 20 := by rw [List.length_append]; rfl
  have e1 : M5 1 1 = ((tb.length + 20 : Nat) : Int) := by rw [← hlen]; exact t5.1
  rw [e1]
  exact hQ M5 (hI.tp fr t5) (fun c j h1 h2 => fr c j (by omega) (by omega))
theorem c_endU (Γ : rt_Γ l s0 a0 G ca) (hd : 1 ≤ d) (hok : zok C) (hI : cI S n M tb ks L ow out pl a) (htl : tb.length ≤ 4096) {k : Nat} (hk : k ≤ tb.length) (hQ : ∀ M1 : zM, cI S n M1 (tb.take k) ks L ow out pl a → mfc M M1 → Q 0 M1) : zm_X9_end l s0 G ca d C S k M Q X := by
  have hs := hI.1.1
  have ht : tpC M tb := hI.2.2.1
  refine z_X9_end Γ (by omega) hok hs ?_
  unfold zt_X9_end
  rw [ht.1, w32_id (x := (k : Int)) (by omega) (by omega), w32_id (x := ((tb.length : Nat) : Int)) (by omega) (by omega), zcut_in (by omega) (by omega) (by decide)]
  refine zIf_f (by omega) (zIf_t (by omega) ?_)
  have fr : ∀ c j : Int, ¬ (c = 1 ∧ j = 1) → ¬ c = 2 → zu M 1 1 (k : Int) c j = M c j := fun c j n1 _ => zu_ne n1
  refine hQ _ (hI.tp fr ⟨by rw [zu_s, List.length_take, Nat.min_eq_left hk], fun j hj => ?_⟩) (fun c j h1 h2 => fr c j (by omega) (by omega))
  rw [List.length_take] at hj
  rw [zu_a (by decide), ht.2 j (by omega), List.getD_eq_getElem?_getD, List.getD_eq_getElem?_getD, List.getElem?_take_of_lt (by omega)]
theorem c_placeU (Γ : rt_Γ l s0 a0 G ca) (hok : zok C) (hI : cI S n M tb ks L ow out pl a) (hQ : Q pl M) : zm_X9_place l s0 G ca d C S M Q X := by
  refine z_X9_place Γ hok hI.1.1 ?_
  unfold zt_X9_place
  rw [hI.2.2.2.2.2.2.1]
  exact hQ
theorem c_rowsU (Γ : rt_Γ l s0 a0 G ca) (hd : 2 ≤ d) (hok : zok C) (hI : cI S n M tb ks L ow out pl a) (hQ : Q (L.length : Nat) M) : zm_X9_rows l s0 G ca d C S M Q X := by
  obtain ⟨⟨hs, dy⟩, -, -, ⟨cu, sp, hcs, h8, h9, hL⟩, -⟩ := id hI
  have hrw : zRw S cu := by
    rcases hcs with h | h
    · rw [h.1]; exact (zRw_of hs).1
    · rw [h.1]; exact (zRw_of hs).2
  refine z_X9_rows Γ (by omega) hok hs ?_
  unfold zt_X9_rows
  rw [h8, hL.2.2.1]
  exact ⟨hrw, hQ⟩
/-- the bytes of all rows, or those of the last read -/
def bsW (L : List (List Nat)) (out : List Nat) (w : Nat) : List Nat := if w = 0 then L.flatten else out
theorem c_bytes (Γ : rt_Γ l s0 a0 G ca) (hd : 1 ≤ d) (hok : zok C) (hI : cI S n M tb ks L ow out pl a) {w : Nat} (hw : w < 2) (hQ : ∀ c ad : Int, zCe S c ad 4096 → M c 1 = ((bsW L out w).length : Int) → (∀ j : Nat, j < (bsW L out w).length → M ad (j : Int) = ((bsW L out w).getD j 0 : Nat)) → Q c M) : zm_X9_bytesOf l s0 G ca d C S w M Q X := by
  obtain ⟨⟨hs, dy⟩, -, -, ⟨cu, sp, hcs, h8, h9, hL⟩, -, ho, -⟩ := id hI
  have hrw : zRw S cu := by
    rcases hcs with h | h
    · rw [h.1]; exact (zRw_of hs).1
    · rw [h.1]; exact (zRw_of hs).2
  refine z_X9_bytesOf Γ (by omega) hok hs ?_
  unfold zt_X9_bytesOf
  rw [h8, w32_id (x := (w : Int)) (by omega) (by omega)]
  unfold bsW at hQ
  by_cases c : w = 0
  · rw [if_pos c] at hQ
    exact zIf_t (by omega) ⟨hrw, hQ (cu + 1) (cu + 2) hrw.2.2.1 hL.1 hL.2.1⟩
  · rw [if_neg c] at hQ
    exact zIf_f (by omega) (hQ 3 4 ⟨by decide, by decide, by decide, hs 3 _ rfl, hs 4 _ rfl⟩ ho.1 ho.2)
theorem c_sizeU (Γ : rt_Γ l s0 a0 G ca) (hd : 3 ≤ d) (hok : zok C) (hI : cI S n M tb ks L ow out pl a) {w : Nat} (hw : w < 2) (hQ : Q ((bsW L out w).length : Nat) M) : zm_X9_size l s0 G ca d C S w M Q X := by
  refine z_X9_size Γ (by omega) hok hI.1.1 ?_
  unfold zt_X9_size
  rw [w32_id (x := (w : Int)) (by omega) (by omega)]
  have body : zm_X9_bytesOf l s0 G ca (d - 1) C S w M (fun r19 M19 => ∃ (ad1 : Int) (nd1 : Nat), zCe S r19 ad1 nd1 ∧ Q (M19 r19 1) M19) X := c_bytes Γ (by omega) hok hI hw (fun c ad h1 h2 h3 => ⟨ad, 4096, h1, by rw [h2]; exact hQ⟩)
  by_cases c : w = 0
  · exact zIf_t (by omega) body
  · exact zIf_f (by omega) (zIf_t (by omega) body)
theorem c_letterU (Γ : rt_Γ l s0 a0 G ca) (hd : 3 ≤ d) (hok : zok C) (hI : cI S n M tb ks L ow out pl a) {w i : Nat} (hw : w < 2) (hi : i < (bsW L out w).length) (hl : (bsW L out w).length ≤ 4096) (hQ : Q ((bsW L out w).getD i 0 : Nat) M) : zm_X9_letter l s0 G ca d C S i w M Q X := by
  refine z_X9_letter Γ (by omega) hok hI.1.1 ?_
  unfold zt_X9_letter
  rw [w32_id (x := (w : Int)) (by omega) (by omega)]
  have body : zt_X9_letter_17 l s0 G ca d C S (zw s0 ca C S M) i w M Q X := by
    unfold zt_X9_letter_17
    refine c_bytes Γ (by omega) hok hI hw (fun c ad h1 h2 h3 => ?_)
    rw [h2, w32_id (x := (i : Int)) (by omega) (by omega), w32_id (by omega) (by omega)]
    refine zIf_f (by omega) ⟨ad, 4096, h1, zIf_t (by omega) ?_⟩
    rw [zat_in (by omega) (by omega) (by decide), h3 i hi]
    exact hQ
  by_cases c : w = 0
  · exact zIf_t (by omega) body
  · exact zIf_f (by omega) (zIf_t (by omega) body)
end PB9
