/-! ===== the class tells: names of another schema, where fields come from ===== -/
theorem nTot_inj {ns : List SN} {i i1 k k1 : Nat} {n n1 : SN} (hi : ns[i]? = some n) (h1 : ns[i1]? = some n1) (hk : k < n.ct) (hk1 : k1 < n1.ct) (h : nTot (ns.take i) + k = nTot (ns.take i1) + k1) : i = i1 ∧ k = k1 := by
  have e := nTot_take hi
  have e1 := nTot_take h1
  rcases Nat.lt_trichotomy i i1 with c | c | c
  · have := nTot_mono (ns := ns) (show i + 1 ≤ i1 by omega)
    omega
  · subst c
    exact ⟨rfl, by omega⟩
  · have := nTot_mono (ns := ns) (show i1 + 1 ≤ i by omega)
    omega
theorem tPln_of {A B : List SN} {w r : Nat} (h : tPln A B w r = true) (hk : 6 ≤ (nN A w).kd) : (nN A w).kd = (nN B r).kd ∧ ((nN A w).kd = 9 ∨ (nN A w).kd = 10 ∨ (nN A w).kd = 11) ∧ tNm (nN A w) = tNm (nN B r) ∧ ((nN A w).kd = 9 → (nN A w).dt = (nN B r).dt) := by
  unfold tPln at h
  rw [if_neg (by omega)] at h
  simp only [Bool.and_eq_true, decide_eq_true_eq] at h
  exact h
/-- but one node of the writer has the name -/
theorem tPln_one {A : SS} {B : List SN} {w v r : Nat} (hH : kHn A) (hN : kGn A) (hw : w < 6 + A.ns.length) (hv : v < 6 + A.ns.length) (hkw : (nN A.ns w).kd = 11) (hkv : (nN A.ns v).kd = 11) (h1 : tPln A.ns B w r = true) (h2 : tPln A.ns B v r = true) : v = w := by
  obtain ⟨i, rfl, hi⟩ := nN_some (ns := A.ns) (s := w) (nN_ge (ns := A.ns) (by omega)) hw
  obtain ⟨j, rfl, hj⟩ := nN_some (ns := A.ns) (s := v) (nN_ge (ns := A.ns) (by omega)) hv
  have e := (tPln_of h1 (by omega)).2.2.1.trans (tPln_of h2 (by omega)).2.2.1.symm
  have a1 := hH i _ hi (Or.inr (Or.inr hkw))
  have a2 := hH j _ hj (Or.inr (Or.inr hkv))
  unfold tNm at e
  cases ha : (nN A.ns (6 + i)).nm with
  | none => exact absurd ha a1
  | some x =>
    cases hb : (nN A.ns (6 + j)).nm with
    | none => exact absurd hb a2
    | some y =>
      rw [ha, hb] at e
      obtain ⟨x1, x2⟩ := x
      obtain ⟨y1, y2⟩ := y
      have e' : x1 = y1 := e
      subst e'
      rw [hN.2 i j _ _ x1 x2 y2 hi hj ha hb]
theorem oI_b {o : Option Nat} {N : Nat} (h : ∀ n : Nat, o = some n → n < N) : -1 ≤ oI o ∧ oI o < (N : Int) := by
  cases o with
  | none => exact ⟨by decide, by show (-1 : Int) < _; omega⟩
  | some n =>
    have := h n rfl
    exact ⟨by show (-1 : Int) ≤ (n : Int); omega, by show (n : Int) < _; omega⟩
section TE9
variable {l : Launch} {s0 : State} {a0 : Array Value} {G : va_G} {ca : Nat → ClassId} {d : Nat} {C : Nat × Nat} {S : zS} {p q mk mka : Int} {M : zM} {Q : Int → zM → Prop} {X : zM → Prop} {u e P NU NV : Nat} {A B st : SS} {dB : SP → Option (List Nat)}
theorem t_prtL (Γ : rt_Γ l s0 a0 G ca) (hd : 1 ≤ d) (hok : zok C) (hp : zSc S p) (hq : zSc S q) {k : Int} {ws : List Int32} (hW : wd (M (q + 22)) NV k ws) (hNV : NV ≤ 4096) (hNU : NU ≤ 4096) {n : SN} {s b : Nat} (hn : nC M p NU n s b) (hkd : n.kd = 10 ∨ n.kd = 11) (hs9 : s < 134) (hb : b + n.ct ≤ 2048) {v4 : Int} (hv4 : 0 < n.ct → v4 = b) {w0 : rt_Wd} : ∀ r j : Nat, j + r = n.ct → Q (oI (sPrtL ws (n.ps.drop j) j)) M → zg_X6_partNamed_13 l s0 G ca d C S w0 p s (q + 21) k v4 j M Q X := by
  obtain ⟨k1, k2, k3, k4, k5, k6, k7⟩ := hn
  obtain ⟨k8, k9, k10⟩ := k7 (by omega)
  have c19 := hp.2.2.2.2.2.2.2.2.2.2.2.2.1
  have cs22 := hq.2.2.2.2.2.2.2.2.2.2.2.2.1
  intro r
  induction r with
  | zero =>
    intro j hj hQ
    refine zs_X6_partNamed_13 Γ hd hok hp ?_
    unfold zt_X6_partNamed_13
    rw [zat_in (by omega) (by omega) (by decide), k4, w32_id (by omega) (by omega), w32_id (by omega) (by omega)]
    refine ⟨fun _ => ?_, fun c => by omega⟩
    rw [List.drop_of_length_le (by omega)] at hQ
    exact hQ
  | succ r ih =>
    intro j hj hQ
    refine zs_X6_partNamed_13 Γ hd hok hp ?_
    unfold zt_X6_partNamed_13
    rw [zat_in (a := p + 12) (by omega) (by omega) (by decide), k4, w32_id (by omega) (by omega), w32_id (by omega) (by omega), hv4 (by omega), show (b : Int) + (j : Int) = ((b + j : Nat) : Int) by omega, zat_in (by omega) (by omega) (by decide)]
    refine ⟨fun c => by omega, fun _ => ?_⟩
    have hpc := k10 j (by omega)
    have nxt : Q (oI (sPrtL ws (n.ps.drop (j + 1)) (j + 1))) M → zg_X6_partNamed_13 l s0 G ca d C S w0 p s (q + 21) k b ((j : Int) + 1) M Q X := fun h => by
      have := ih (j + 1) (by omega) h
      rw [hv4 (by omega)] at this
      rw [show (j : Int) + 1 = ((j + 1 : Nat) : Int) by omega]
      exact this
    cases hqq : n.ps[j]? with
    | none =>
      rw [hqq] at hpc
      have hle := List.getElem?_eq_none_iff.mp hqq
      rw [show M (p + 16) ((b + j : Nat) : Int) = -1 from hpc]
      refine c_isw0 Γ hok c19 (by have := hq.1; omega) ⟨fun _ => nxt ?_, fun c => absurd (by decide) c⟩
      rw [List.drop_of_length_le (by omega)] at hQ ⊢
      exact hQ
    | some z =>
      rw [hqq] at hpc
      have hjl := (List.getElem?_eq_some_iff.mp hqq).1
      have hdr : n.ps.drop j = z :: n.ps.drop (j + 1) := by
        rw [List.drop_eq_getElem_cons hjl, (List.getElem?_eq_some_iff.mp hqq).2]
      rw [hdr] at hQ
      unfold sPrtL at hQ
      refine c_isw Γ hok c19 (by decide) cs22 (by decide) (hpc.2.1 (by omega)) hNU hW hNV ?_
      by_cases ce : z.nm = ws
      · rw [if_pos ce]
        rw [if_pos ce] at hQ
        exact ⟨fun c => absurd c (by decide), fun _ => hQ⟩
      · rw [if_neg ce]
        rw [if_neg ce] at hQ
        exact ⟨fun _ => nxt hQ, fun c => absurd (by decide) c⟩
/-- which part of a node of the one has the name that the other says -/
theorem t_prt (Γ : rt_Γ l s0 a0 G ca) (hd : 2 ≤ d) (hok : zok C) (hp : zSc S p) (hq : zSc S q) (hG : gC M p NU st) {k : Int} {ws : List Int32} (hW : wd (M (q + 22)) NV k ws) (hNV : NV ≤ 4096) {s : Nat} (hs : s < 6 + st.ns.length) (hkd : (nN st.ns s).kd = 10 ∨ (nN st.ns s).kd = 11) (hQ : Q (oI (sPrt (nN st.ns s).ps ws)) M) : zm_X6_partNamed l s0 G ca d C S p s (q + 21) k M Q X := by
  obtain ⟨g1, g2, g3, g4, g5, -⟩ := hG
  obtain ⟨i, rfl, hi⟩ := nN_some (ns := st.ns) (s := s) (nN_ge (ns := st.ns) (by omega)) hs
  have hil := (List.getElem?_eq_some_iff.mp hi).1
  have hti := nTot_in hi
  have hni := g2 i _ hi
  refine z_X6_partNamed Γ (by omega) hok hp ?_
  unfold zt_X6_partNamed
  refine t_prtL Γ (by omega) hok hp hq hW hNV g5 hni hkd (by omega) (by omega) (fun c => ?_) _ 0 (Nat.zero_add _) hQ
  rw [zat_in (by omega) (by omega) (by decide)]
  exact hni.2.2.2.2.1 c
/-- where a field comes from -/
theorem t_org (Γ : rt_Γ l s0 a0 G ca) (hd : 4 ≤ d) (hok : zok C) (hS : tSh S p q mk mka) (hG : tG M p q NU NV A B dB) (hFA : kF A) (hFB : kF B) (hHA : kHn A) (hNA : kGn A) (hO : tOr M A B dB) {i k : Nat} {n : SN} {z : SP} (hi : B.ns[i]? = some n) (hk11 : n.kd = 11) (hz : n.ps[k]? = some z) {w : Nat} (hw : w < 6 + A.ns.length) (hkw : (nN A.ns w).kd = 11) (hpl : tPln A.ns B.ns w (6 + i) = true)
    (hQ : ∀ M1 : zM, (∀ c j : Int, ¬ c = 60 → M1 c j = M c j) → tOr M1 A B dB → Q (oI (sPrt (nN A.ns w).ps z.nm)) M1) : zm_X7_origin l s0 G ca d C S w ((nTot (B.ns.take i) + k : Nat) : Int) M Q X := by
  obtain ⟨hs, hp, hq, hmk, hs56, g1, g2, g3, g4, g5⟩ := id hS
  obtain ⟨hGA, hGB, -⟩ := hG
  obtain ⟨b1, b2, b3, b4, b5⟩ := g_prt hGB hFB hi (by omega) hz
  have hbd := oI_b (o := sPrt (nN A.ns w).ps z.nm) (N := 2048) (fun m hm => by have := sPrtL_lt _ _ _ _ hm; have := (g_len hGA hFA hw (by omega)).2; omega)
  refine z_X7_origin Γ (by omega) hok hs hp hq hmk hs56 ?_
  unfold zt_X7_origin
  rw [zat_in (a := 60) (by omega) (by omega) (by decide)]
  rcases hO.1 i k n z hi hk11 hz with g | g
  · rw [g, zat_in (a := q + 16) (by omega) (by omega) (by decide)]
    refine zIf_t (by decide) ?_
    refine t_prt Γ (by omega) hok hp hq hGA (b4.2.1 (by omega)) hGB.2.2.2.2.1 hw (Or.inr hkw) ?_
    rw [zput_in (by omega) (by omega) (by decide)]
    refine hQ _ (fun c j hc => zu_a hc) ⟨fun i1 k1 n1 z1 h1 h2 h3 => ?_, hO.2.fr (fun c j h => zu_ne (by omega))⟩
    by_cases cF : nTot (B.ns.take i1) + k1 = nTot (B.ns.take i) + k
    · have c1 := (List.getElem?_eq_some_iff.mp h3).1
      have c2 := (hFB i1 n1 h1).2.2.2.1 (by omega)
      have c3 := (hFB i n hi).2.2.2.1 (by omega)
      obtain ⟨rfl, rfl⟩ := nTot_inj h1 hi (by omega) (by omega) cF
      rw [hi] at h1
      cases h1
      rw [hz] at h3
      cases h3
      refine Or.inr (fun v hv hkv hpv => ?_)
      rw [zu_s, tPln_one hHA hNA hw hv hkw hkv hpl hpv]
    · rw [zu_k (by omega)]
      exact hO.1 i1 k1 n1 z1 h1 h2 h3
  · rw [g w hw hkw hpl]
    refine zIf_f (by rw [w32_id (by omega) (by omega)]; omega) ?_
    exact hQ M (fun _ _ _ => rfl) hO
end TE9
