/-! ===== the class measures a record ===== -/
theorem wOk.val {M : zM} {p : Int} {ns : List SN} (h : wOk M p ns) {c : Nat} (hc : c < 6 + ns.length) : M (p + 8) c = -1 ∨ ∃ W : Nat, M (p + 8) c = (W : Int) ∧ W ≤ 4096 := by
  obtain ⟨⟨h0, h1, h2⟩, h3, -⟩ := h
  by_cases c0 : c = 0
  · subst c0
    exact Or.inr ⟨0, h0, by omega⟩
  by_cases c1 : c = 1
  · subst c1
    exact Or.inr ⟨1, h1, by omega⟩
  by_cases c6 : c < 6
  · exact Or.inl (h2 c (by omega) c6)
  obtain ⟨i, rfl⟩ : ∃ i : Nat, c = 6 + i := ⟨c - 6, by omega⟩
  rcases h3 i _ (List.getElem?_eq_getElem (show i < ns.length by omega)) with g | ⟨W, g1, g2, -⟩
  · exact Or.inl g
  · exact Or.inr ⟨W, g1, g2⟩
section MWs
variable {l : Launch} {s0 : State} {a0 : Array Value} {G : va_G} {ca : Nat → ClassId} {d : Nat} {C : Nat × Nat} {S : zS} {M : zM} {Q : Int → zM → Prop} {X : zM → Prop} {p : Int} {NU : Nat} {st : SS}
/-- in any memory: it comes back, and nothing but the width is changed -/
theorem c_meaX (Γ : rt_Γ l s0 a0 G ca) (hd : 2 ≤ d) (hok : zok C) (hp : zSc S p) {s : Nat} (hs : s < 134) (hQ : Q 0 M) (hQ2 : ∀ x : Int, Q 0 (zu M (p + 8) s x)) : zm_X6_measureRecord l s0 G ca d C S p s M Q X := by
  have key : ∀ (r : Nat) (k v2 : Int) (w0 : rt_Wd), 0 ≤ k → k ≤ 2147483647 → w32 (zat M (p + 12) 134 (s : Int)) - k ≤ r → zg_X6_measureRecord_4 l s0 G ca d C S w0 p s v2 k M Q X := by
    intro r
    induction r with
    | zero =>
      intro k v2 w0 h0 h1 h2
      refine zs_X6_measureRecord_4 Γ (by omega) hok hp ?_
      unfold zt_X6_measureRecord_4
      rw [w32_id (x := k) (by omega) (by omega), zput_in (by omega) (by omega) (by decide)]
      exact zIf_t (by omega) (hQ2 v2)
    | succ r ih =>
      intro k v2 w0 h0 h1 h2
      have hb := w32_b (zat M (p + 12) 134 (s : Int))
      refine zs_X6_measureRecord_4 Γ (by omega) hok hp ?_
      unfold zt_X6_measureRecord_4
      rw [w32_id (x := k) (by omega) (by omega), zput_in (by omega) (by omega) (by decide)]
      exact ⟨fun _ => hQ2 v2, fun c => ⟨fun _ => hQ, fun _ => ⟨fun _ => ih _ _ _ (by omega) (by omega) (by omega), fun _ => hQ⟩⟩⟩
  refine z_X6_measureRecord Γ (by omega) hok hp ?_
  unfold zt_X6_measureRecord
  have hb := w32_b (zat M (p + 12) 134 (s : Int))
  exact key 2147483648 0 0 _ (by omega) (by omega) (by omega)
/-- behind its fields -/
theorem c_mea (Γ : rt_Γ l s0 a0 G ca) (hd : 2 ≤ d) (hok : zok C) (hp : zSc S p) (hp0 : 30 ≤ p) (hC : sC M p NU st) {i : Nat} {n : SN} (hi : st.ns[i]? = some n) (hk : n.kd = 11) (hct : n.ps.length = n.ct) (hps : ∀ q ∈ n.ps, ∃ c : Nat, q.nd = some c ∧ c < 6 + st.ns.length) (hQ : ∀ M1 : zM, sC M1 p NU st → dfr p M M1 → Q 0 M1) : zm_X6_measureRecord l s0 G ca d C S p ((6 + i : Nat) : Int) M Q X := by
  have hil := (List.getElem?_eq_some_iff.mp hi).1
  have hlk : st.ns.length ≤ 128 := Nat.le_trans hC.2.2.2.2.2.2.1 hC.2.2.2.2.2.2.2.1
  have htn := nTot_in hi
  have h2048 := hC.2.2.2.2.2.2.2.2.1
  have hw := hC.2.2.2.2.2.2.2.2.2.2.2.2
  obtain ⟨h1, h2, h3, h4, h5, h6, h7⟩ := hC.2.2.2.1 i n hi
  obtain ⟨h8, h9, h10⟩ := h7 (by omega)
  have key : ∀ (r : List SP) (k sum : Nat) (w0 : rt_Wd), n.ps.drop k = r → k ≤ n.ps.length → sum ≤ 4096 → (∀ W : Nat, wSm M p (6 + st.ns.length) r W → wSm M p (6 + st.ns.length) n.ps (sum + W)) → zg_X6_measureRecord_4 l s0 G ca d C S w0 p ((6 + i : Nat) : Int) (sum : Int) (k : Int) M Q X := by
    intro r
    induction r with
    | nil =>
      intro k sum w0 hdr hkl hsum acc
      have hlen : n.ps.length ≤ k := by
        have := congrArg List.length hdr
        rw [List.length_drop, List.length_nil] at this
        omega
      refine zs_X6_measureRecord_4 Γ (by omega) hok hp ?_
      unfold zt_X6_measureRecord_4
      rw [zat_in (a := p + 12) (by omega) (by omega) (by decide), h4, w32_id (x := (n.ct : Int)) (by omega) (by omega), w32_id (x := (k : Int)) (by omega) (by omega), zput_in (by omega) (by omega) (by decide)]
      have hs := acc 0 rfl
      rw [Nat.add_zero] at hs
      refine zIf_t (by omega) (hQ _ (sC_wid hC hp0 hi (Or.inr ⟨hk, hct, hs⟩) hsum ?_) (dfr.rf.zu (by omega)))
      rcases hw.2.1 i n hi with g | ⟨W, g1, g2, g3⟩
      · exact Or.inl g
      · rcases g3 with ⟨k1, -⟩ | ⟨-, -, k3⟩
        · omega
        · rw [k3.fn hs] at g1
          exact Or.inr g1
    | cons q r ih =>
      intro k sum w0 hdr hkl hsum acc
      have hz : n.ps[k]? = some q := by
        have := congrArg (fun l => l[0]?) hdr
        simpa using this
      have hdr2 : n.ps.drop (k + 1) = r := by
        have := congrArg (List.drop 1) hdr
        rw [List.drop_drop] at this
        exact this
      have hkl2 := (List.getElem?_eq_some_iff.mp hz).1
      obtain ⟨c, c1, c2⟩ := hps q (List.mem_of_getElem? hz)
      have hpc := h10 k (by omega)
      rw [hz] at hpc
      have e14 := hpc.2.2 c c1
      refine zs_X6_measureRecord_4 Γ (by omega) hok hp ?_
      unfold zt_X6_measureRecord_4
      rw [zat_in (a := p + 12) (by omega) (by omega) (by decide), h4, w32_id (x := (n.ct : Int)) (by omega) (by omega), w32_id (x := (k : Int)) (by omega) (by omega), zat_in (a := p + 10) (by omega) (by omega) (by decide), h5 (by omega), show ((nTot (st.ns.take i) : Nat) : Int) + (k : Int) = ((nTot (st.ns.take i) + k : Nat) : Int) by omega, zat_in (a := p + 14) (by omega) (by omega) (by decide), e14, zat_in (a := p + 8) (by omega) (by omega) (by decide)]
      refine zIf_f (by omega) ?_
      rcases hw.val c2 with g | ⟨W, g1, g2⟩
      · rw [g]
        exact zIf_t (by decide) (hQ M hC dfr.rf)
      · rw [g1, w32_id (x := (W : Int)) (by omega) (by omega), w32_id (x := (sum : Int) + (W : Int)) (by omega) (by omega)]
        refine zIf_f (by omega) ⟨fun hle => ?_, fun _ => hQ M hC dfr.rf⟩
        rw [show (sum : Int) + (W : Int) = ((sum + W : Nat) : Int) by omega, show (k : Int) + 1 = ((k + 1 : Nat) : Int) by omega]
        refine ih (k + 1) (sum + W) _ hdr2 (by omega) (by omega) (fun V hV => ?_)
        rw [Nat.add_assoc]
        exact acc (W + V) ⟨c, W, V, c1, c2, g1, hV, rfl⟩
  refine z_X6_measureRecord Γ (by omega) hok hp ?_
  unfold zt_X6_measureRecord
  exact key n.ps 0 0 _ rfl (Nat.zero_le _) (by omega) (fun W h => by rw [Nat.zero_add]; exact h)
end MWs
