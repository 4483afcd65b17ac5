/-! ===== the Drafter's unions ===== -/
def bB (b : Bool) : Int := cond b 1 0
theorem w32_bB {b : Bool} : w32 (bB b) = 0 ↔ b = false := by
  cases b
  · exact ⟨fun _ => rfl, fun _ => by decide⟩
  · exact ⟨fun h => absurd h (by decide), fun h => nomatch h⟩
theorem w32_n {m : Nat} (h : m < 100000) : w32 (m : Int) = m := w32_id (by omega) (by omega)
section SJs
variable {l : Launch} {s0 : State} {a0 : Array Value} {G : va_G} {ca : Nat → ClassId} {d : Nat} {C : Nat × Nat} {S : zS} {M : zM} {Q : Int → zM → Prop} {X : zM → Prop} {xs : List JR} {v : Nat} {p : Int} {NU : Nat} {st : SS}
theorem c_kd (hC : sC M p NU st) {s : Nat} (hs : s < 6 + st.ns.length) : M (p + 2) s = (nN st.ns s).kd := by
  by_cases h : s < 6
  · rw [hC.2.2.1 s h]
    unfold nN
    rw [if_pos h]
  · obtain ⟨i, rfl⟩ : ∃ i, s = 6 + i := ⟨s - 6, by omega⟩
    have hi : i < st.ns.length := by omega
    have hg : st.ns[i]? = some st.ns[i] := List.getElem?_eq_getElem hi
    rw [nN_at hg]
    exact (hC.2.2.2.1 i _ hg).1
/-- the kinds of nodes are below 12 -/
def kOk (st : SS) : Prop := ∀ (i : Nat) (n : SN), st.ns[i]? = some n → n.kd < 12
theorem kOk.kd {st : SS} (h : kOk st) {s : Nat} (hs : s < 6 + st.ns.length) : (nN st.ns s).kd < 12 := by
  by_cases h6 : s < 6
  · unfold nN
    rw [if_pos h6]
    show s < 12
    omega
  · obtain ⟨i, rfl⟩ : ∃ i, s = 6 + i := ⟨s - 6, by omega⟩
    have hg : st.ns[i]? = some st.ns[i] := List.getElem?_eq_getElem (by omega)
    rw [nN_at hg]
    exact h i _ hg
theorem c_likL (Γ : rt_Γ l s0 a0 G ca) (hd : 2 ≤ d) (hok : zok C) (hS : sSh S p) (hC : sC M p NU st) (hK : kOk st) {i : Nat} {n : SN} (hi : st.ns[i]? = some n) (hkd : n.kd = 8) (hall : ∀ q ∈ n.ps, ∃ m : Nat, q.nd = some m ∧ m < 6 + st.ns.length) {nd : Nat} (hnd : nd < 6 + st.ns.length) {bk : Int} (hbk : bk = bI ((nN st.ns nd).kd = 6 ∨ (nN st.ns nd).kd = 7)) {w0 : rt_Wd} : ∀ r j : Nat, j + r = n.ps.length → Q (bB ((n.ps.drop j).any (fun q => match q.nd with | none => false | some o => sAlk st.ns o nd))) M → zg_X1_hasBranchLike_34 l s0 G ca d C S w0 p ((6 + i : Nat) : Int) (n.ps.length : Int) nd ((nN st.ns nd).kd : Int) bk j M Q X := by
  obtain ⟨hs, hp, hs24, hs6, hp0⟩ := hS
  have hg := hC.2.2.2.2.2.2.1
  have hlk := hC.2.2.2.2.2.2.2.1
  have h2048 := hC.2.2.2.2.2.2.2.2.1
  have htn := nTot_in hi
  have hil := (List.getElem?_eq_some_iff.mp hi).1
  have hnC := hC.2.2.2.1 i n hi
  obtain ⟨k1, k2, k3, k4, k5, k6, k7⟩ := hnC
  obtain ⟨k8, k9, k10⟩ := k7 (by omega)
  have hkn := hK.kd hnd
  have hbb : bk = 0 ∨ bk = 1 := by rw [hbk]; unfold bI; split <;> omega
  intro r
  induction r with
  | zero =>
    intro j hj hQ
    refine zs_X1_hasBranchLike_34 Γ (by omega) hok hs hp hs24 hs6 ?_
    unfold zt_X1_hasBranchLike_34
    rw [w32_id (by omega) (by omega), w32_id (by omega) (by omega)]
    refine ⟨fun _ => ?_, fun c => by omega⟩
    rw [List.drop_of_length_le (by omega)] at hQ
    exact hQ
  | succ r ih =>
    intro j hj hQ
    have hjl : j < n.ps.length := by omega
    have hq : n.ps[j]? = some n.ps[j] := List.getElem?_eq_getElem hjl
    obtain ⟨m, hm, hml⟩ := hall n.ps[j] (List.getElem_mem hjl)
    have hpc := k10 j (by omega)
    rw [hq] at hpc
    have hpn := hpc.2.2 m hm
    refine zs_X1_hasBranchLike_34 Γ (by omega) hok hs hp hs24 hs6 ?_
    unfold zt_X1_hasBranchLike_34
    have hbr : zf_X6_branch M p ((6 + i : Nat) : Int) (j : Int) = m := by
      clear hbb hbk
      unfold zf_X6_branch
      rw [w32_id (x := (j : Int)) (by omega) (by omega), if_neg (by omega), zat_in (a := p + 12) (by omega) (by omega) (by decide), k4, w32_id (by omega) (by omega), if_neg (by omega), zat_in (a := p + 10) (by omega) (by omega) (by decide), k5 (by omega), show (nTot (st.ns.take i) : Int) + (j : Int) = ((nTot (st.ns.take i) + j : Nat) : Int) by omega, zat_in (by omega) (by omega) (by decide)]
      exact hpn
    have x1 : n.ps.length < 100000 := by clear hbb hbk; omega
    have x2 : j < 100000 := by clear hbb hbk; omega
    have x3 : m < 134 := Nat.lt_of_lt_of_le hml (Nat.le_trans (Nat.add_le_add_left (Nat.le_trans hg hlk) 6) (by decide))
    have x4 : nd < 100000 := by clear hbb hbk; omega
    have x5 : (nN st.ns m).kd < 100000 := Nat.lt_of_lt_of_le (hK.kd hml) (by decide)
    have x6 : (nN st.ns nd).kd < 100000 := Nat.lt_of_lt_of_le hkn (by decide)
    have x7 : w32 bk = bk := by rcases hbb with h | h <;> rw [h] <;> decide
    have x8 : zat M (p + 2) 134 (m : Int) = M (p + 2) m := zat_in (Int.natCast_nonneg _) (Int.ofNat_lt.mpr x3) (by decide)
    rw [hbr, w32_n x1, w32_n x2, w32_n (Nat.lt_trans x3 (by decide)), w32_n x4, x7, x8, c_kd hC hml, w32_n x5, w32_n x6]
    have hdr : n.ps.drop j = n.ps[j] :: n.ps.drop (j + 1) := List.drop_eq_getElem_cons hjl
    rw [hdr, List.any_cons, hm] at hQ
    dsimp only at hQ
    have nxt : sAlk st.ns m nd = false → zg_X1_hasBranchLike_34 l s0 G ca d C S w0 p ((6 + i : Nat) : Int) (n.ps.length : Int) nd ((nN st.ns nd).kd : Int) bk ((j : Int) + 1) M Q X := fun h => by
      rw [h, Bool.false_or] at hQ
      rw [show (j : Int) + 1 = ((j + 1 : Nat) : Int) by omega]
      exact ih (j + 1) (by omega) hQ
    have one : sAlk st.ns m nd = true → Q 1 M := fun h => by
      rw [h, Bool.true_or] at hQ
      exact hQ
    unfold sAlk at nxt one
    refine ⟨fun c => by omega, fun _ => ⟨fun c1 => one (by rw [decide_eq_true (show m = nd from Int.ofNat.inj c1), Bool.true_or]), fun c1 => ⟨fun c2 => nxt ?_, fun c2 => ⟨fun c3 => one ?_, fun c3 => nxt ?_⟩⟩⟩⟩
    · rw [decide_eq_false (fun e => c1 (by rw [e])), Bool.false_or, decide_eq_false (p := (nN st.ns nd).kd = 6 ∨ (nN st.ns nd).kd = 7), Bool.false_and]
      intro h
      rw [hbk] at c2
      unfold bI at c2
      rw [if_pos h] at c2
      exact absurd c2 (by decide)
    · have h67 : (nN st.ns nd).kd = 6 ∨ (nN st.ns nd).kd = 7 := Decidable.not_not.mp (fun h => c2 (by rw [hbk]; exact if_neg h))
      rw [decide_eq_true h67, Bool.true_and, decide_eq_true (Int.ofNat.inj c3), Bool.or_true]
    · rw [decide_eq_false (fun e => c1 (by rw [e])), Bool.false_or, decide_eq_false (p := (nN st.ns m).kd = (nN st.ns nd).kd) (fun e => c3 (by rw [e])), Bool.and_false]
theorem c_lik (Γ : rt_Γ l s0 a0 G ca) (hd : 2 ≤ d) (hok : zok C) (hS : sSh S p) (hC : sC M p NU st) (hK : kOk st) {i : Nat} {n : SN} (hi : st.ns[i]? = some n) (hkd : n.kd = 8) (hall : ∀ q ∈ n.ps, ∃ m : Nat, q.nd = some m ∧ m < 6 + st.ns.length) {nd k : Nat} (hk : k = n.ps.length) (hnd : nd < 6 + st.ns.length) (hQ : Q (bB (sLik st.ns (6 + i) nd)) M) : zm_X1_hasBranchLike l s0 G ca d C S ((6 + i : Nat) : Int) k nd M Q X := by
  have hS0 := hS
  obtain ⟨hs, hp, hs24, hs6, hp0⟩ := hS
  have hg := hC.2.2.2.2.2.2.1
  have hlk := hC.2.2.2.2.2.2.2.1
  subst hk
  unfold sLik at hQ
  rw [nN_at hi] at hQ
  have hkn := hK.kd hnd
  have x4 : nd < 134 := by omega
  have x8 : zat M (p + 2) 134 (nd : Int) = M (p + 2) nd := zat_in (Int.natCast_nonneg _) (Int.ofNat_lt.mpr x4) (by decide)
  refine z_X1_hasBranchLike Γ (by omega) hok hs hp hs24 hs6 ?_
  unfold zt_X1_hasBranchLike
  rw [x8, c_kd hC hnd, w32_n (Nat.lt_of_lt_of_le hkn (by decide))]
  have go : ∀ bk : Int, bk = bI ((nN st.ns nd).kd = 6 ∨ (nN st.ns nd).kd = 7) → zg_X1_hasBranchLike_34 l s0 G ca d C S (zw s0 ca C S M) p ((6 + i : Nat) : Int) (n.ps.length : Int) nd ((nN st.ns nd).kd : Int) bk 0 M Q X := fun bk hb =>
    c_likL Γ (by omega) hok hS0 hC hK hi hkd hall hnd hb n.ps.length 0 (Nat.zero_add _) hQ
  refine ⟨fun c => go 1 ?_, fun c => ⟨fun c2 => go 1 ?_, fun c2 => go 0 ?_⟩⟩
  · exact (if_pos (Or.inl (Int.ofNat.inj c))).symm
  · exact (if_pos (Or.inr (Int.ofNat.inj c2))).symm
  · refine (if_neg (fun h => ?_)).symm
    rcases h with h | h
    · exact c (by rw [h]; rfl)
    · exact c2 (by rw [h]; rfl)
end SJs
